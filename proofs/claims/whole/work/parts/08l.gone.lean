/-! ===== days go ===== -/
/-- how many days of k a house did something, from v on -/
def cnD (a : St) (F : Nat) (s : Nat → Int32) (v : Int32) (h : Nat) : Nat → Int32
  | 0 => v
  | k + 1 => if itS a F s k h = -1 then cnD a F s v h k else cnD a F s v h k + 1
theorem x_note {a : St} {n : Nat} (hn : 20 ≤ n) : ∃ a1, f_X0_noteDoers n 15 a = some a1 ∧ (∀ i, i ≠ 17 → a1 i = a i) ∧ ∀ h, h < 8 → a1 17 h = if a 16 h = -1 then a 17 h else a 17 h + 1 := by
  obtain ⟨s1, ⟨p1, p2, p3⟩, g2⟩ := loop_inv (fun j i (s : St) => L_X0_noteDoers_2 n 15 j i s) (fun s => some s) 8 0 (fun k s => (∀ i, i ≠ 17 → s i = a i) ∧ (∀ h, h < k → s 17 h = if a 16 h = -1 then a 17 h else a 17 h + 1) ∧ ∀ h, k ≤ h → s 17 h = a 17 h) (s0 := a) (by omega) ⟨fun _ _ => rfl, fun h q => absurd q (by omega), fun _ _ => rfl⟩ (fun k s _ hk hP => by
    obtain ⟨q1, q2, q3⟩ := hP
    have e16 : s 16 k = a 16 k := by rw [q1 16 (by omega)]
    by_cases c : a 16 k = -1
    · refine ⟨s, ⟨q1, fun h hh => ?_, fun h hh => q3 h (by omega)⟩, fun j => ?_⟩
      · rcases Nat.lt_or_ge h k with q | q
        · exact q2 h q
        · rw [show h = k by omega, if_pos c]
          exact q3 k (by omega)
      · show L_X0_noteDoers_2 n 15 (j + 1) (nI k) s = L_X0_noteDoers_2 n 15 j (nI (k + 1)) s
        rw [L_X0_noteDoers_2, if_neg (by rw [show (8 : Int32) = nI 8 from rfl, leI (by omega) (by omega)]; omega)]
        simp only [cl (show k < 100000 by omega), gj hk (show 8 ≤ 100000 by omega), if_false, e16, c, if_true, nI_1]
    · refine ⟨up s 17 k (s 17 k + 1), ⟨fun i hi => by rw [up_n _ _ _ hi]; exact q1 i hi, fun h hh => ?_, fun h hh => ?_⟩, fun j => ?_⟩
      · rw [up_s]
        by_cases e : h = k
        · rw [e, ud_s, if_neg c, q3 k (by omega)]
        · rw [ud_n _ _ e]
          exact q2 h (by omega)
      · rw [up_s, ud_n _ _ (by omega)]
        exact q3 h (by omega)
      · show L_X0_noteDoers_2 n 15 (j + 1) (nI k) s = L_X0_noteDoers_2 n 15 j (nI (k + 1)) _
        rw [L_X0_noteDoers_2, if_neg (by rw [show (8 : Int32) = nI 8 from rfl, leI (by omega) (by omega)]; omega)]
        simp only [cl (show k < 100000 by omega), gj hk (show 8 ≤ 100000 by omega), if_false, e16, c, nI_1]) (fun j s hP => by
    show L_X0_noteDoers_2 n 15 (j + 1) (nI 8) s = some s
    rw [L_X0_noteDoers_2, if_pos (by decide)])
  exact ⟨s1, g2 n (by omega), p1, fun h hh => p2 h hh⟩
theorem stp_frame {a s : St} {F1 : Nat} (h6 : s 6 = a 6) (h7 : s 7 = a 7) (h9 : s 9 = a 9) (h10 : s 10 = a 10) (h11 : s 11 = a 11) (f : Nat → Int32) (h : Nat) : stp s F1 f h = stp a F1 f h := by
  unfold stp canT cnB
  rw [h6, h7, h9, h10, h11]
theorem x_goL {a b : St} {H Dn F n t : Nat} (hn : 3000 ≤ n) (ht : t ≤ 99) (hR : RR a b H Dn F) : ∃ a1, L_X5_go_33 n (nI t) n 0 a = B_X5_go_72 n (nI t) a1 ∧ (∀ i, i ≠ 14 → i ≠ 16 → i ≠ 17 → a1 i = a i) ∧ (∀ h, h < H → a1 16 h = itS a F (a 16) t h) ∧ (∀ h, H ≤ h → h < 8 → a1 16 h = -1) ∧ (∀ h, h < H → a1 17 h = cnD a F (a 16) (a 17 h) h t) ∧ ∀ h, H ≤ h → h < 8 → a1 17 h = a 17 h := by
  have hW := WT_of hR.1
  have hW1 := hW.1
  have hwf := wf_of hR
  obtain ⟨s1, ⟨p1, p2, p3, p4, p5⟩, g2⟩ := loop_inv (fun j i (s : St) => L_X5_go_33 n (nI t) j i s) (fun s => B_X5_go_72 n (nI t) s) t 0 (fun k s => (∀ i, i ≠ 14 → i ≠ 16 → i ≠ 17 → s i = a i) ∧ (∀ h, h < H → s 16 h = itS a F (a 16) k h) ∧ (∀ h, H ≤ h → h < 8 → s 16 h = -1) ∧ (∀ h, h < H → s 17 h = cnD a F (a 16) (a 17 h) h k) ∧ ∀ h, H ≤ h → h < 8 → s 17 h = a 17 h) (s0 := a) (by omega) ⟨fun _ _ _ _ => rfl, fun _ _ => rfl, fun h h1 h2 => (hR.2.1.1 h h2).2.2.2 h1, fun _ _ => rfl, fun _ _ _ => rfl⟩ (fun k s _ hk hP => by
    obtain ⟨q1, q2, q3, q4, q5⟩ := hP
    obtain ⟨s2, n1, n2, n3⟩ := x_note (a := s) (n := n) (by omega)
    have hW2 : WT s2 H Dn F := by
      unfold WT at hW ⊢
      rw [n2 5 (by omega), n2 6 (by omega), q1 5 (by omega) (by omega) (by omega), q1 6 (by omega) (by omega) (by omega)]
      exact hW
    have hs2 : wfS (s2 16) Dn := by
      rw [n2 16 (by omega)]
      intro h hh
      rcases Nat.lt_or_ge h H with q | q
      · rw [q2 h q]
        exact itS_wf hW hwf k h hh
      · exact Or.inl (q3 h q hh)
    obtain ⟨s3, e1, e2, e3, e4⟩ := x_passDay (n := n) (o := 16) (by omega) hW2 hW.2.1.2.2.2 hs2 (by omega) (by omega)
    have es : ∀ h, h < H → stp s2 F (s2 16) h = itS a F (a 16) (k + 1) h := by
      intro h hh
      rw [n2 16 (by omega), stp_frame (by rw [n2 6 (by omega), q1 6 (by omega) (by omega) (by omega)]) (by rw [n2 7 (by omega), q1 7 (by omega) (by omega) (by omega)]) (by rw [n2 9 (by omega), q1 9 (by omega) (by omega) (by omega)]) (by rw [n2 10 (by omega), q1 10 (by omega) (by omega) (by omega)]) (by rw [n2 11 (by omega), q1 11 (by omega) (by omega) (by omega)])]
      exact stp_cong hW (fun j hj => q2 j hj) (by omega)
    refine ⟨s3, ⟨fun i h1 h3 h4 => by rw [e2 i h1 h3, n2 i h4]; exact q1 i h1 h3 h4, fun h hh => by rw [e3 h hh]; exact es h hh, fun h h1 h2 => by rw [e4 h h1, n2 16 (by omega)]; exact q3 h h1 h2, fun h hh => ?_, fun h h1 h2 => ?_⟩, fun j => ?_⟩
    · rw [e2 17 (by omega) (by omega), n3 h (by omega), q2 h hh, q4 h hh]
      rfl
    · rw [e2 17 (by omega) (by omega), n3 h h2, if_pos (q3 h h1 h2)]
      exact q5 h h1 h2
    · show L_X5_go_33 n (nI t) (j + 1) (nI k) s = L_X5_go_33 n (nI t) j (nI (k + 1)) s3
      have e5 : s2 5 2 = nI F := by rw [n2 5 (by omega), q1 5 (by omega) (by omega) (by omega)]; exact hW.2.1.2.2.1
      rw [L_X5_go_33, if_neg (by rw [leI (by omega) (by omega)]; omega), n1]
      simp only [Option.bind_some, e5, e1, nI_1]) (fun j s hP => by
    show L_X5_go_33 n (nI t) (j + 1) (nI t) s = B_X5_go_72 n (nI t) s
    rw [L_X5_go_33, if_pos (by rw [leI (by omega) (by omega)]; omega)])
  exact ⟨s1, g2 n (by omega), p1, p2, p3, p4, p5⟩
theorem m_goL {b b0 : St} {H n t : Nat} {a : St} {F : Nat} {s0 : Nat → Int32} (hn : 3000 ≤ n) (ht : t ≤ 99) (hH : H ≤ 8) (e0 : b0 0 6 = nI H) (hd : ∀ u, u ≤ t → ∀ h, h < H → b0 9 (8 * u + h) = itS a F s0 u h) (h1 : ∀ h, h < H → b0 1 (9 + h) = b 1 (9 + h)) (h8 : b0 1 8 = b 1 8) : ∃ b1, L_X6_go_44 n (nI t) n 0 b0 = B_X6_go_136 n (nI t) b1 ∧ (∀ i, i ≠ 1 → b1 i = b0 i) ∧ (∀ k, H ≤ k → (k < 9 ∨ 9 + H ≤ k) → b1 1 k = b0 1 k) ∧ (∀ h, h < H → b1 1 h = itS a F s0 t h) ∧ ∀ h, h < H → b1 1 (9 + h) = cnD a F s0 (b 1 (9 + h)) h t := by
  obtain ⟨s1, ⟨p1, p2, p3⟩, g2⟩ := loop_inv (fun j i (s : St) => L_X6_go_44 n (nI t) j i s) (fun s => B_X6_go_103 n (nI t) s) t 0 (fun k s => (∀ i, i ≠ 1 → s i = b0 i) ∧ (∀ k, (k < 9 ∨ 9 + H ≤ k) → s 1 k = b0 1 k) ∧ ∀ h, h < H → s 1 (9 + h) = cnD a F s0 (b 1 (9 + h)) h k) (s0 := b0) (by omega) ⟨fun _ _ => rfl, fun _ _ => rfl, fun h hh => h1 h hh⟩ (fun k s _ hk hP => by
    obtain ⟨q1, q2, q3⟩ := hP
    obtain ⟨s2, ⟨r1, r2, r3, r4⟩, g3⟩ := loop_invK (fun (c : Int32 → St → Option (Int32 × St)) j i (s : St) => L_X6_go_51 n c (nI t) (nI k) j i s) (fun c s => B_X6_go_97 n c (nI t) (nI k) s) H 0 (fun m s2 => (∀ i, i ≠ 1 → s2 i = b0 i) ∧ (∀ k, (k < 9 ∨ 9 + H ≤ k) → s2 1 k = b0 1 k) ∧ (∀ h, h < m → s2 1 (9 + h) = cnD a F s0 (b 1 (9 + h)) h (k + 1)) ∧ ∀ h, m ≤ h → h < H → s2 1 (9 + h) = cnD a F s0 (b 1 (9 + h)) h k) (s0 := s) (by omega) ⟨q1, q2, fun h q => absurd q (by omega), fun h _ hh => q3 h hh⟩ (fun m s2 _ hm hQ => by
      obtain ⟨t1, t2, t3, t4⟩ := hQ
      have hm8 : m < 8 := by omega
      have e6 : s2 9 (8 * k + m) = itS a F s0 k m := by rw [t1 9 (by omega)]; exact hd k (by omega) m hm
      refine ⟨up s2 1 (9 + m) (cnD a F s0 (b 1 (9 + m)) m (k + 1)), ⟨fun i hi => by rw [up_n _ _ _ hi]; exact t1 i hi, fun i hi => by rw [up_s, ud_n _ _ (by omega)]; exact t2 i hi, fun h hh => ?_, fun h h2 h3 => by rw [up_s, ud_n _ _ (by omega)]; exact t4 h (by omega) h3⟩, fun c j => ?_⟩
      · rw [up_s]
        by_cases e : h = m
        · rw [e, ud_s]
        · rw [ud_n _ _ (by omega)]
          exact t3 h (by omega)
      · show L_X6_go_51 n c (nI t) (nI k) (j + 1) (nI m) s2 = L_X6_go_51 n c (nI t) (nI k) j (nI (m + 1)) _
        rw [L_X6_go_51, if_neg (by rw [t1 0 (by omega), e0, leI (by omega) (by omega)]; omega)]
        simp only [e9 m hm8, s9 m hm8, n9 hm8, or_self, if_false, e8 k (by omega) m hm8, s8 k (by omega) m hm8, n8 (show k < 200 by omega) hm8, e6, nI_1, t4 m (by omega) hm]
        show _ = L_X6_go_51 n c (nI t) (nI k) j (nI (m + 1)) (up s2 1 (9 + m) (if itS a F s0 k m = -1 then cnD a F s0 (b 1 (9 + m)) m k else cnD a F s0 (b 1 (9 + m)) m k + 1))
        by_cases c1 : itS a F s0 k m = -1
        · rw [if_pos c1, if_pos c1, Int32.add_zero]
        · rw [if_neg c1, if_neg c1]) (fun c j s2 hQ => by
      show L_X6_go_51 n c (nI t) (nI k) (j + 1) (nI H) s2 = B_X6_go_97 n c (nI t) (nI k) s2
      rw [L_X6_go_51, if_pos (by rw [hQ.1 0 (by omega), e0, leI (by omega) (by omega)]; omega)])
    refine ⟨s2, ⟨r1, r2, r3⟩, fun j => ?_⟩
    show L_X6_go_44 n (nI t) (j + 1) (nI k) s = L_X6_go_44 n (nI t) j (nI (k + 1)) s2
    rw [L_X6_go_44, if_neg (by rw [leI (by omega) (by omega)]; omega)]
    have g4 := g3 (L_X6_go_44 n (nI t) j) n (by omega)
    rw [show (0 : Int32) = nI 0 from rfl]
    rw [g4]
    unfold B_X6_go_97
    rw [nI_1]) (fun j s hP => by
    show L_X6_go_44 n (nI t) (j + 1) (nI t) s = B_X6_go_103 n (nI t) s
    rw [L_X6_go_44, if_pos (by rw [leI (by omega) (by omega)]; omega)])
  obtain ⟨s2, ⟨r1, r2, r3, r4⟩, g3⟩ := loop_inv (fun j i (s : St) => L_X6_go_105 n (nI t) j i s) (fun s => B_X6_go_136 n (nI t) s) H 0 (fun k s => (∀ i, i ≠ 1 → s i = b0 i) ∧ (∀ k, H ≤ k → (k < 9 ∨ 9 + H ≤ k) → s 1 k = b0 1 k) ∧ (∀ h, h < k → s 1 h = itS a F s0 t h) ∧ ∀ h, h < H → s 1 (9 + h) = cnD a F s0 (b 1 (9 + h)) h t) (s0 := s1) (by omega) ⟨p1, fun k _ hk => p2 k hk, fun h q => absurd q (by omega), p3⟩ (fun k s _ hk hP => by
    obtain ⟨q1, q2, q3, q4⟩ := hP
    have hk8 : k < 8 := by omega
    refine ⟨up s 1 k (itS a F s0 t k), ⟨fun i hi => by rw [up_n _ _ _ hi]; exact q1 i hi, fun i hi hj => by rw [up_s, ud_n _ _ (by omega)]; exact q2 i hi hj, fun h hh => ?_, fun h hh => by rw [up_s, ud_n _ _ (by omega)]; exact q4 h hh⟩, fun j => ?_⟩
    · rw [up_s]
      by_cases e : h = k
      · rw [e, ud_s]
      · rw [ud_n _ _ e]
        exact q3 h (by omega)
    · show L_X6_go_105 n (nI t) (j + 1) (nI k) s = L_X6_go_105 n (nI t) j (nI (k + 1)) _
      have e6 : s 9 (8 * t + k) = itS a F s0 t k := by rw [q1 9 (by omega)]; exact hd t (by omega) k hk
      rw [L_X6_go_105, if_neg (by rw [q1 0 (by omega), e0, leI (by omega) (by omega)]; omega)]
      simp only [e8 t (by omega) k hk8, s8 t (by omega) k hk8, n8 (show t < 200 by omega) hk8, or_self, if_false, cl (show k < 100000 by omega), gj (show k < 51 by omega) (show 51 ≤ 100000 by omega), e6, nI_1]) (fun j s hP => by
    show L_X6_go_105 n (nI t) (j + 1) (nI H) s = B_X6_go_136 n (nI t) s
    rw [L_X6_go_105, if_pos (by rw [hP.1 0 (by omega), e0, leI (by omega) (by omega)]; omega)])
  refine ⟨s2, ?_, r1, r2, r3, r4⟩
  have g4 := g2 n (by omega)
  have g5 := g3 n (by omega)
  rw [show (0 : Int32) = nI 0 from rfl]
  rw [g4]
  unfold B_X6_go_103
  exact g5
theorem o_go {a b : St} {H Dn F n : Nat} (hn : 3000 ≤ n) (hR : RR a b H Dn F) (x1 : Int32) : OK2 (f_X5_go n x1 a) (f_X6_go n x1 b) := by
  have hT := hR.1
  have hW := WT_of hT
  have hW1 := hW.1
  unfold f_X5_go f_X6_go
  rcases ck_in (lo := 1) (hi := 99) x1 1 99 rfl rfl (by omega) (by omega) with ⟨t, h1, ht, rfl, f3, f4⟩ | ⟨f3, f4⟩
  · rw [show (1 : Int64) = (1 : Int32).toInt64 from rfl, show (99 : Int64) = (99 : Int32).toInt64 from rfl, f3, f4]
    obtain ⟨i1, dd, d1, d2, d3⟩ := id hR.2.1
    have d4 : b 1 8 = nI dd := d3
    simp only [Option.bind_some, i10, if_false, c8, d2, d4, nI_add, show (9999 : Int32) = nI 9999 from rfl, leI (show dd + t < 100000 by omega) (show 9999 < 100000 by omega)]
    by_cases c : dd + t ≤ 9999
    · rw [if_pos c, if_pos c]
      obtain ⟨a1, g1, g2, g3, g4, g5, g6⟩ := x_goL (n := n) hn ht hR
      obtain ⟨b1, k1, k2, k3⟩ := m_layDays (n := n) (t := t) (by omega) (by omega) hT hW.2.1.2.2.2 (today hR) (wf_of hR)
      obtain ⟨b2, m1, m2, m3, m4, m5⟩ := m_goL (n := n) (t := t) (b := b) (b0 := b1) (a := a) (F := F) (s0 := a 16) hn ht hW1.2.1 (by rw [k2 0 (by omega)]; exact hT.2.1.2.1) k3 (fun h _ => by rw [k2 1 (by omega)]) (by rw [k2 1 (by omega)])
      have e1 : a1 15 2 = nI dd := by rw [g2 15 (by omega) (by omega) (by omega)]; exact d2
      have e2 : b2 1 8 = nI dd := by
        rw [m3 8 (by omega) (by omega), k2 1 (by omega)]
        exact d4
      rw [g1, m_forbiddenNow (n := n) (by omega) hT]
      simp only [Option.bind_some, k1, m1]
      unfold B_X5_go_72 B_X6_go_136
      simp only [c8, e1, e2, nI_add]
      obtain ⟨r1, r2, q1, q2, t1, t2, tx⟩ := hR
      have X : ∀ i, i ≠ 14 → i ≠ 15 → i ≠ 16 → i ≠ 17 → (up a1 15 2 (nI (dd + t))) i = a i := fun i p1 p2 p3 p4 => by
        rw [up_n _ _ _ p2]
        exact g2 i p1 p3 p4
      have Y : ∀ i, i ≠ 1 → i ≠ 9 → (up b2 1 8 (nI (dd + t))) i = b i := fun i p1 p2 => by
        rw [up_n _ _ _ p1, m2 i p1]
        exact k2 i p2
      have Y1 : ∀ k, 17 ≤ k → (up b2 1 8 (nI (dd + t))) 1 k = b 1 k := fun k hk => by
        rw [up_s, ud_n _ _ (by omega), m3 k (by omega) (by omega), k2 1 (by omega)]
      refine ⟨_, _, _, H, Dn, F, rfl, by rw [up_s, up_s, ud_s, ud_s], RT_fr r1 (fun i hi => X i (by omega) (by omega) (by omega) (by omega)) (fun i hi => Y i (by omega) (by omega)) (by rw [Y 0 (by omega) (by omega)]) (by rw [Y 0 (by omega) (by omega)]), ⟨fun h hh => ?_, dd + t, c, by rw [up_s, ud_s], by rw [up_s, ud_s]⟩, RK_fr q1 (X _ (by omega) (by omega) (by omega) (by omega)) (X _ (by omega) (by omega) (by omega) (by omega)) (X _ (by omega) (by omega) (by omega) (by omega)) (by rw [Y 2 (by omega) (by omega)]) (fun k _ => Y1 _ (by omega)), RK_fr q2 (X _ (by omega) (by omega) (by omega) (by omega)) (X _ (by omega) (by omega) (by omega) (by omega)) (X _ (by omega) (by omega) (by omega) (by omega)) (by rw [Y 2 (by omega) (by omega)]) (fun k _ => Y1 _ (by omega)), RTold_fr t1 (by rw [X _ (by omega) (by omega) (by omega) (by omega)]) (X _ (by omega) (by omega) (by omega) (by omega)) (X _ (by omega) (by omega) (by omega) (by omega)) (X _ (by omega) (by omega) (by omega) (by omega)) (by rw [Y 0 (by omega) (by omega)]) (Y _ (by omega) (by omega)), RTold_fr t2 (by rw [X _ (by omega) (by omega) (by omega) (by omega)]) (X _ (by omega) (by omega) (by omega) (by omega)) (X _ (by omega) (by omega) (by omega) (by omega)) (X _ (by omega) (by omega) (by omega) (by omega)) (by rw [Y 0 (by omega) (by omega)]) (Y _ (by omega) (by omega)), RX_fr tx (by rw [X 1 (by omega) (by omega) (by omega) (by omega)]) (X _ (by omega) (by omega) (by omega) (by omega)) (by rw [Y 0 (by omega) (by omega)]) (Y _ (by omega) (by omega))⟩
      have h5 := i1 h hh
      rw [up_s, ud_n _ _ (by omega), ud_n _ _ (by omega), up_n _ _ _ (by omega), up_n _ _ _ (by omega), show 0 + h = h by omega, show 0 + 9 + h = 9 + h by omega]
      rw [show 0 + h = h by omega, show 0 + 9 + h = 9 + h by omega] at h5
      rcases Nat.lt_or_ge h H with q | q
      · rw [g3 h q, g5 h q, m4 h q, m5 h q, h5.2.1]
        exact ⟨rfl, rfl, itS_wf hW (fun h hh => (i1 h hh).2.2.1) t h hh, fun z => absurd z (by omega)⟩
      · rw [g4 h q hh, g6 h q hh, m3 h q (by omega), m3 (9 + h) (by omega) (by omega), k2 1 (by omega), h5.2.1, h5.1]
        exact ⟨h5.2.2.2 q, rfl, Or.inl rfl, fun _ => rfl⟩
    · rw [if_neg c, if_neg c]
      exact OK2_same hR _
  · rw [show (1 : Int64) = (1 : Int32).toInt64 from rfl, show (99 : Int64) = (99 : Int32).toInt64 from rfl, f3, f4]
    exact OK2_same hR _
