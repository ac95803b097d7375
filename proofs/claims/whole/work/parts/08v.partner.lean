/-! ===== with whom one is ===== -/
theorem partners {a b a1 b1 : St} {H Dn F S n : Nat} (hn : 3000 ≤ n) (hR : RT a b H Dn F) (ha : ∀ i, i ≠ 37 → a1 i = a i) (hb : ∀ i, i ≠ 12 → b1 i = b i) (hT : ∀ R, R < 2 ^ H → a1 37 R = b1 12 R) (hTB : TB (a1 37) (2 ^ H)) (hS : S < 2 ^ H) (h0 : 0 < S) : ∃ p, (p = 8 ∨ (lo S < p ∧ p < H)) ∧ f_X5_leastPartner n (nI (lo S)) (nI S) a1 = some (enH p) ∧ f_X6_partnerOf n (nI S) b1 = some (if p = 8 then nI (lo S) else nI p) := by
  have hW := WT_of hR
  have hH := hW.1.2.1
  have h256 := p2_256 hH
  have hS256 : S < 256 := by omega
  obtain ⟨l1, l2, l3⟩ := lo_ok S hS256 h0
  have hr := rm_lt l2 h0
  have hl : lo S < H := by
    rcases Nat.lt_or_ge (lo S) H with q | q
    · exact q
    · rw [fb_hi hS q] at l2
      exact absurd l2 (by decide)
  have e5 : a1 5 0 = nI H := by rw [ha 5 (by omega)]; exact hW.2.1.1
  have e6 : b1 0 6 = nI H := by rw [hb 0 (by omega)]; exact hR.2.1.2.1
  have hRb : RT a b1 H Dn F := RT_fr hR (fun _ _ => rfl) (fun i hi => hb i (by omega)) (by rw [hb 0 (by omega)]) (by rw [hb 0 (by omega)])
  obtain ⟨v, v1, v2⟩ := hTB S hS
  have hx := loop_stop (fun j c => L_X5_leastPartner_13 n (nI (lo S)) (nI S) (nI (rm S (lo S))) a1 j c) H (lo S + 1) (fun k => some (nI k)) (fun k => fbN S k = true ∧ li a (a1 37) S k = a1 37 S) (some (-1)) (by omega) (fun k hk1 hk2 => by
    have e : ∀ j, L_X5_leastPartner_13 n (nI (lo S)) (nI S) (nI (rm S (lo S))) a1 (j + 1) (nI k) = if fbN S k = true ∧ li a (a1 37) S k = a1 37 S then some (nI k) else L_X5_leastPartner_13 n (nI (lo S)) (nI S) (nI (rm S (lo S))) a1 j (nI (k + 1)) := fun j => by
      rw [L_X5_leastPartner_13, if_neg (by rw [e5, leI (by omega) (by omega)]; omega), p_hasX, bit256 _ (by omega) k (by omega), rm_bit S hS256 (lo S) l1 k (by omega), decide_eq_false (show ¬ k = lo S by omega)]
      cases c : fbN S k
      · rw [nI_1]
        simp
      · rw [x_liking hW (ha 8 (by omega)) (fun _ _ => rfl) hS256 h0 (by omega) (by omega), nI_1]
        simp only [Bool.not_false, Bool.and_true, if_true, Option.bind_some, i10, if_false, cl (show S < 100000 by omega), gj hS256 (show 256 ≤ 100000 by omega), true_and]
    by_cases c : fbN S k = true ∧ li a (a1 37) S k = a1 37 S
    · exact Or.inl ⟨c, fun j => by show L_X5_leastPartner_13 n (nI (lo S)) (nI S) (nI (rm S (lo S))) a1 (j + 1) (nI k) = _; rw [e, if_pos c]⟩
    · exact Or.inr ⟨c, fun j => by show L_X5_leastPartner_13 n (nI (lo S)) (nI S) (nI (rm S (lo S))) a1 (j + 1) (nI k) = _; rw [e, if_neg c]⟩) (fun j => by
    show L_X5_leastPartner_13 n (nI (lo S)) (nI S) (nI (rm S (lo S))) a1 (j + 1) (nI H) = _
    rw [L_X5_leastPartner_13, if_pos (by rw [e5, leI (by omega) (by omega)]; omega)])
  have hm := loop_stop (fun j c => L_X6_partnerOf_9 n (nI S) (nI (lo S)) b1 j c) H (lo S + 1) (fun k => some (nI k)) (fun k => fbN S k = true ∧ li a (a1 37) S k = a1 37 S) (some (nI (lo S))) (by omega) (fun k hk1 hk2 => by
    have hw := m_with (n := n) (k := k) (T := a1 37) hn hRb (fun R hR2 => (hT R (by omega)).symm) hS256 h0 (by omega) (by omega)
    rw [if_neg (show ¬ k = lo S by omega)] at hw
    have e : ∀ j, L_X6_partnerOf_9 n (nI S) (nI (lo S)) b1 (j + 1) (nI k) = if fbN S k = true ∧ li a (a1 37) S k = a1 37 S then some (nI k) else L_X6_partnerOf_9 n (nI S) (nI (lo S)) b1 j (nI (k + 1)) := fun j => by
      rw [L_X6_partnerOf_9, if_neg (by rw [e6, leI (by omega) (by omega)]; omega), hw]
      simp only [Option.bind_some, cl (show S < 100000 by omega), gj hS256 (show 256 ≤ 100000 by omega), if_false, nI_1, ← hT S hS]
      by_cases c : fbN S k = true
      · simp only [c, if_true, true_and]
      · rw [if_neg c, v2, if_neg (fun q => by
          have h := neM (show v < 100000 by omega)
          rw [← h]
          exact q.symm), if_neg (fun q => c q.1)]
    by_cases c : fbN S k = true ∧ li a (a1 37) S k = a1 37 S
    · exact Or.inl ⟨c, fun j => by show L_X6_partnerOf_9 n (nI S) (nI (lo S)) b1 (j + 1) (nI k) = _; rw [e, if_pos c]⟩
    · exact Or.inr ⟨c, fun j => by show L_X6_partnerOf_9 n (nI S) (nI (lo S)) b1 (j + 1) (nI k) = _; rw [e, if_neg c]⟩) (fun j => by
    show L_X6_partnerOf_9 n (nI S) (nI (lo S)) b1 (j + 1) (nI H) = _
    rw [L_X6_partnerOf_9, if_pos (by rw [e6, leI (by omega) (by omega)]; omega)])
  have gx : f_X5_leastPartner n (nI (lo S)) (nI S) a1 = L_X5_leastPartner_13 n (nI (lo S)) (nI S) (nI (rm S (lo S))) a1 n (nI (lo S + 1)) := by
    unfold f_X5_leastPartner
    rw [xm1, rm_I S hS256 (lo S) l1, nI_1]
  have gm : f_X6_partnerOf n (nI S) b1 = L_X6_partnerOf_9 n (nI S) (nI (lo S)) b1 n (nI (lo S + 1)) := by
    unfold f_X6_partnerOf
    rw [m_leastOf hn hS256 h0, Option.bind_some, nI_1]
  rw [gx, gm]
  rcases hx with ⟨k1, a2, a3, a4, a5, a6⟩ | ⟨a2, a3⟩
  · rcases hm with ⟨k2, b2, b3, b4, b5, b6⟩ | ⟨b2, b3⟩
    · have ek : k1 = k2 := by
        rcases Nat.lt_trichotomy k1 k2 with z | z | z
        · exact absurd a4 (b5 k1 a2 z)
        · exact z
        · exact absurd b4 (a5 k2 b2 z)
      subst ek
      refine ⟨k1, Or.inr ⟨by omega, a3⟩, ?_, ?_⟩
      · rw [enH_lt (by omega)]
        exact a6 n (by omega)
      · rw [if_neg (by omega)]
        exact b6 n (by omega)
    · exact absurd a4 (b2 k1 a2 a3)
  · rcases hm with ⟨k2, b2, b3, b4, b5, b6⟩ | ⟨b2, b3⟩
    · exact absurd b4 (a2 k2 b2 b3)
    · exact ⟨8, Or.inl rfl, a3 n (by omega), by rw [if_pos rfl]; exact b3 n (by omega)⟩
theorem pairsL {a b a1 b1 : St} {H Dn F n h : Nat} (hn : 3000 ≤ n) (hR : RT a b H Dn F) (ha : ∀ i, i ≠ 37 → a1 i = a i) (hb : ∀ i, i ≠ 12 → b1 i = b i) (hT : ∀ R, R < 2 ^ H → a1 37 R = b1 12 R) (hTB : TB (a1 37) (2 ^ H)) (hh : h < H) : ∀ m, m ≤ H → ∀ S, S < 2 ^ H → (∀ i, i < H - m → fbN S i = false) → ∀ j j1, m < j → m < j1 → ∃ r, L_X5_bestPartner_14 n (nI h) a1 j (nI S) (nI (H - m)) = some r ∧ L_X6_pair_41 n (nI h) j1 (nI S) b1 = some (r, b1) := by
  have hW := WT_of hR
  have hH := hW.1.2.1
  have h256 := p2_256 hH
  have e5 : a1 5 0 = nI H := by rw [ha 5 (by omega)]; exact hW.2.1.1
  intro m
  induction m with
  | zero =>
    intro _ S hS hz j j1 hj hj1
    obtain ⟨i, rfl⟩ : ∃ i, j = i + 1 := ⟨j - 1, by omega⟩
    obtain ⟨i1, rfl⟩ : ∃ i, j1 = i + 1 := ⟨j1 - 1, by omega⟩
    have S0 : S = 0 := no_bits S (by omega) (List.all_eq_true.mpr (fun k _ => by
      rcases Nat.lt_or_ge k H with q | q
      · rw [hz k (by omega)]
        rfl
      · rw [fb_hi hS q]
        rfl))
    refine ⟨-1, ?_, ?_⟩
    · rw [L_X5_bestPartner_14, if_pos (by rw [e5, leI (by omega) (by omega)]; omega)]
    · rw [S0, L_X6_pair_41, if_pos (show nI 0 = 0 from rfl)]
  | succ m ih =>
    intro hm S hS hz j j1 hj hj1
    obtain ⟨i, rfl⟩ : ∃ i, j = i + 1 := ⟨j - 1, by omega⟩
    have hS256 : S < 256 := by omega
    have hl8 : H - (m + 1) < 8 := by omega
    rw [L_X5_bestPartner_14, if_neg (by rw [e5, leI (by omega) (by omega)]; omega), p_hasX, bit256 S hS256 _ hl8]
    by_cases c : fbN S (H - (m + 1)) = true
    · obtain ⟨i1, rfl⟩ : ∃ i, j1 = i + 1 := ⟨j1 - 1, by omega⟩
      have S0 : 0 < S := by
        rcases Nat.eq_zero_or_pos S with e | e
        · rw [e, fb0] at c
          exact absurd c (by decide)
        · exact e
      obtain ⟨l1, l2, l3⟩ := lo_ok S hS256 S0
      have el : lo S = H - (m + 1) := by
        rcases Nat.lt_trichotomy (lo S) (H - (m + 1)) with q | q | q
        · rw [hz _ q] at l2
          exact absurd l2 (by decide)
        · exact q
        · rw [l3 _ q] at c
          exact absurd c (by decide)
      obtain ⟨p, p1, p2, p3⟩ := partners hn hR ha hb hT hTB hS S0
      rw [← el, L_X6_pair_41, if_neg (show ¬ nI S = 0 from by rw [nI_z (by omega)]; omega), m_leastOf hn hS256 S0]
      rw [← el] at c
      simp only [c, if_true, Option.bind_some, i10, if_false, p2, p3, xm1, rm_I S hS256 (lo S) l1, eqI (show lo S < 100000 by omega) (show h < 100000 by omega)]
      have hr := rm_le S (lo S)
      have hz1 : ∀ k, k < H - m → fbN (rm S (lo S)) k = false := fun k hk => by
        rw [rm_bit S hS256 (lo S) l1 k (by omega)]
        by_cases e : k = lo S
        · rw [decide_eq_true e]
          simp
        · rw [hz k (by omega)]
          rfl
      have er : rm (rm S (lo S)) (lo S) = rm S (lo S) := by
        show rm S (lo S) - (if fbN (rm S (lo S)) (lo S) = true then 2 ^ lo S else 0) = _
        rw [rm_bit S hS256 (lo S) l1 (lo S) l1]
        simp
      have e1 : lo S + 1 = H - m := by omega
      rcases p1 with rfl | ⟨p4, p5⟩
      · simp only [if_true, enH_8, eqI (show lo S < 100000 by omega) (show h < 100000 by omega), show ((-1 : Int32) = nI h) = False from eq_false (fun q => by
          have z := neM (show h < 100000 by omega)
          rw [← z]
          exact q.symm), if_false]
        by_cases c2 : lo S = h
        · rw [if_pos c2, if_pos c2]
          refine ⟨-1, rfl, ?_⟩
          unfold B_X6_pair_68
          rw [if_pos rfl]
        · rw [if_neg c2, if_neg c2, if_neg c2, nor, ← Int32.and_assoc, rm_I S hS256 (lo S) l1, rm_I _ (by omega) (lo S) l1, er, nI_1, e1]
          exact ih (by omega) _ (by omega) hz1 i i1 (by omega) (by omega)
      · have p8 : p < 8 := by omega
        simp only [show ¬ p = 8 by omega, if_false, enH_neM p8]
        rw [enH_lt p8]
        simp only [eqI (show p < 100000 by omega) (show h < 100000 by omega)]
        by_cases c2 : lo S = h
        · rw [if_pos c2, if_pos c2]
          refine ⟨nI p, rfl, ?_⟩
          unfold B_X6_pair_68
          rw [if_neg (show ¬ nI (lo S) = nI p from by rw [eqI (by omega) (by omega)]; omega), if_pos (show nI (lo S) = nI h from by rw [c2])]
        · rw [if_neg c2, if_neg c2]
          by_cases c3 : p = h
          · rw [if_pos c3, if_pos c3]
            refine ⟨nI (lo S), rfl, ?_⟩
            unfold B_X6_pair_68
            simp only [eqI (show lo S < 100000 by omega) (show p < 100000 by omega), eqI (show lo S < 100000 by omega) (show h < 100000 by omega), show ¬ lo S = p by omega, if_false, c2]
          · have hr2 := rm_le (rm S (lo S)) p
            rw [if_neg c3, if_neg c3, nor, ← Int32.and_assoc, rm_I S hS256 (lo S) l1, rm_I _ (by omega) p p8, nI_1, e1]
            refine ih (by omega) _ (by omega) (fun k hk => ?_) i i1 (by omega) (by omega)
            rw [rm_bit _ (by omega) p p8 k (by omega), hz1 k hk]
            rfl
    · rw [Bool.eq_false_iff.mpr c, nI_1, show H - (m + 1) + 1 = H - m by omega]
      exact ih (by omega) S hS (fun k hk => by
        by_cases e : k = H - (m + 1)
        · rw [e]
          exact Bool.eq_false_iff.mpr c
        · exact hz k (by omega)) i j1 (by omega) (by omega)
theorem shl8 : ∀ d, d ≤ 8 → ((1 : Int32) <<< (nI d &&& 31)) - 1 = nI (2 ^ d - 1) := by decide +kernel
theorem o_pair {a b : St} {H Dn F n : Nat} (hn : 3000 ≤ n) (hR : RR a b H Dn F) (x1 : Int32) : OK2 (f_X5_pair n x1 a) (f_X6_pair n x1 b) := by
  have hT := hR.1
  have hW := WT_of hT
  have hH := hW.1.2.1
  have h256 := p2_256 hH
  have hp := Nat.two_pow_pos H
  obtain ⟨a1, b1, g1, g2, g3, g4, g5, g6⟩ := likings hn hT
  have e5 : a1 5 0 = nI H := by rw [g3 5 (by omega)]; exact hW.2.1.1
  have e6 : b1 0 6 = nI H := by rw [g4 0 (by omega)]; exact hT.2.1.2.1
  have key : ∀ r, OK2 (some (r, a1)) (some (r, b1)) := fun r => ⟨r, a1, b1, H, Dn, F, rfl, rfl, RR_fr hR (fun i _ _ _ _ _ q => g3 i (by omega)) (by rw [g3 1 (by omega)]) (fun i _ _ _ _ q => g4 i q) (fun k _ => by rw [g4 0 (by omega)])⟩
  unfold f_X5_pair f_X6_pair
  by_cases c : x1 = -1
  · rw [if_pos c, if_pos c, g1, g2]
    simp only [Option.bind_some, if_pos c, e5, e6, shl8 H hH, cl (show 2 ^ H - 1 < 100000 by omega), gj (show 2 ^ H - 1 < 256 by omega) (show 256 ≤ 100000 by omega), if_false, g5 (2 ^ H - 1) (by omega)]
    exact key _
  · rw [if_neg c, if_neg c]
    rcases ck_house hT x1 with ⟨h, hh, rfl, f1, f2⟩ | ⟨f1, f2⟩
    · rw [f1, f2]
      obtain ⟨r, r1, r2⟩ := pairsL hn hT g3 g4 g5 g6 hh H (Nat.le_refl _) (2 ^ H - 1) (by omega) (fun i hi => absurd hi (by omega)) n n (by omega) (by omega)
      rw [Nat.sub_self] at r1
      have r3 : f_X5_bestPartner n (nI h) a1 = some r := by
        unfold f_X5_bestPartner
        rw [e5, shl8 H hH]
        exact r1
      simp only [Option.bind_some, i10, if_false, g1, g2, if_neg c, r3, e6, shl8 H hH, r2]
      exact key _
    · rw [f1, f2]
      exact OK2_same hR _
