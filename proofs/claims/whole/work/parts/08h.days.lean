/-! ===== days in a row, on both sides ===== -/
theorem x_foreseeL {a : St} {H Dn F F1 n t : Nat} (hn : 200 ≤ n) (ht : t ≤ 100) (hW : WT a H Dn F) (hF1 : a 5 2 = nI F1 ∧ F1 < 64) (hs : wfS (a 33) Dn) : ∃ a1, L_X5_foresee_20 n (nI t) n 0 a = some a1 ∧ (∀ i, i ≠ 14 → i ≠ 33 → a1 i = a i) ∧ (∀ h, h < H → a1 33 h = itS a F1 (a 33) t h) ∧ wfS (a1 33) Dn := by
  have hW1 := hW.1
  obtain ⟨s1, ⟨p1, p2, p3⟩, h2⟩ := loop_inv (fun j i (s : St) => L_X5_foresee_20 n (nI t) j i s) (fun s => some s) t 0 (fun k s => (∀ i, i ≠ 14 → i ≠ 33 → s i = a i) ∧ (∀ h, h < H → s 33 h = itS a F1 (a 33) k h) ∧ wfS (s 33) Dn) (s0 := a) (by omega) ⟨fun _ _ _ => rfl, fun _ _ => rfl, hs⟩ (fun k s _ hk hP => by
    obtain ⟨q1, q2, q3⟩ := hP
    have hWs : WT s H Dn F := by
      unfold WT at hW ⊢
      rw [q1 5 (by omega) (by omega), q1 6 (by omega) (by omega)]
      exact hW
    obtain ⟨s2, e1, e2, e3, e4⟩ := x_passDay (n := n) (o := 33) (by omega) hWs hF1.2 q3 (by omega) (by omega)
    have es : ∀ h, h < H → stp s F1 (s 33) h = itS a F1 (a 33) (k + 1) h := by
      intro h hh
      have e5 : stp s F1 (s 33) h = stp a F1 (s 33) h := by
        unfold stp canT cnB
        rw [q1 6 (by omega) (by omega), q1 11 (by omega) (by omega), q1 9 (by omega) (by omega), q1 10 (by omega) (by omega), q1 7 (by omega) (by omega)]
      rw [e5]
      exact stp_cong hW (fun j hj => q2 j hj) (by omega)
    refine ⟨s2, ⟨fun i h1 h3 => by rw [e2 i h1 h3]; exact q1 i h1 h3, fun h hh => by rw [e3 h hh]; exact es h hh, fun h hh => ?_⟩, fun j => ?_⟩
    · rcases Nat.lt_or_ge h H with q | q
      · rw [e3 h q]
        exact stp_wf hWs q3 h hh
      · rw [e4 h q]
        exact q3 h hh
    · show L_X5_foresee_20 n (nI t) (j + 1) (nI k) s = L_X5_foresee_20 n (nI t) j (nI (k + 1)) s2
      rw [L_X5_foresee_20, if_neg (by rw [leI (by omega) (by omega)]; omega), q1 5 (by omega) (by omega), hF1.1, e1, nI_1]
      rfl) (fun j s hP => by
    show L_X5_foresee_20 n (nI t) (j + 1) (nI t) s = some s
    rw [L_X5_foresee_20, if_pos (by rw [leI (by omega) (by omega)]; omega)])
  exact ⟨s1, h2 n (by omega), p1, p2, p3⟩
theorem x_foresee {a : St} {H Dn F n t : Nat} (hn : 200 ≤ n) (ht : t ≤ 100) (hW : WT a H Dn F) (hs : wfS (a 16) Dn) : ∃ a1, f_X5_foresee n (nI t) a = some a1 ∧ (∀ i, i ≠ 14 → i ≠ 33 → a1 i = a i) ∧ (∀ h, h < H → a1 33 h = itS a F (a 16) t h) ∧ wfS (a1 33) Dn := by
  have hc : ∀ h, h < 8 → va_cpy (a 16) (a 33) 0 0 8 h = a 16 h := fun h hh => by
    unfold va_cpy
    rw [if_pos ⟨by omega, by omega⟩, show 0 + (h - 0) = h by omega]
  have hW0 : WT (uprow a 33 (va_cpy (a 16) (a 33) 0 0 8)) H Dn F := by
    unfold WT at hW ⊢
    rw [ur_n _ _ (by omega : (5 : Nat) ≠ 33), ur_n _ _ (by omega : (6 : Nat) ≠ 33)]
    exact hW
  obtain ⟨s1, e1, e2, e3, e4⟩ := x_foreseeL (n := n) (t := t) (F1 := F) hn ht hW0 ⟨by rw [ur_n _ _ (by omega : (5 : Nat) ≠ 33)]; exact hW.2.1.2.2.1, hW.2.1.2.2.2⟩ (by rw [ur_s]; exact fun h hh => by rw [hc h hh]; exact hs h hh)
  refine ⟨s1, ?_, fun i h1 h2 => by rw [e2 i h1 h2, ur_n _ _ h2], fun h hh => ?_, e4⟩
  · unfold f_X5_foresee
    rw [if_neg (by decide)]
    exact e1
  · rw [e3 h hh, ur_s]
    have hh8 : h < 8 := by have := hW.1; omega
    have e5 : ∀ (u k : Nat), k < H → itS (uprow a 33 (va_cpy (a 16) (a 33) 0 0 8)) F (va_cpy (a 16) (a 33) 0 0 8) u k = itS a F (a 16) u k := by
      intro u
      induction u with
      | zero => exact fun k hk => hc k (by have := hW.1; omega)
      | succ u ih =>
        intro k hk
        show stp (uprow a 33 (va_cpy (a 16) (a 33) 0 0 8)) F _ k = stp a F _ k
        have e6 : ∀ s : Nat → Int32, stp (uprow a 33 (va_cpy (a 16) (a 33) 0 0 8)) F s k = stp a F s k := fun s => by
          unfold stp canT cnB
          rw [ur_n _ _ (by omega : (6 : Nat) ≠ 33), ur_n _ _ (by omega : (11 : Nat) ≠ 33), ur_n _ _ (by omega : (9 : Nat) ≠ 33), ur_n _ _ (by omega : (10 : Nat) ≠ 33), ur_n _ _ (by omega : (7 : Nat) ≠ 33)]
        rw [e6]
        exact stp_cong hW ih (by have := hW.1; omega)
    exact e5 t h hh
/-! the model's days -/
theorem e8 : ∀ t, t < 200 → ∀ k, k < 8 → ((8 : Int32) * nI t + nI k).toNatClampNeg = 8 * t + k := by decide +kernel
theorem s8 : ∀ t, t < 200 → ∀ k, k < 8 → ((8 : Int32) * nI t + nI k < 0) = False := fun t ht k hk => eq_false (by revert k; revert t; decide +kernel)
theorem e88 : ∀ t, t < 200 → ∀ k, k < 8 → (((8 : Int32) * nI t + 8) + nI k).toNatClampNeg = 8 * t + 8 + k := by decide +kernel
theorem s88 : ∀ t, t < 200 → ∀ k, k < 8 → (((8 : Int32) * nI t + 8) + nI k < 0) = False := fun t ht k hk => eq_false (by revert k; revert t; decide +kernel)
theorem n88 {t k : Nat} (ht : t < 199) (hk : k < 8) : (1600 ≤ 8 * t + 8 + k) = False := eq_false (by omega)
theorem n8 {t k : Nat} (ht : t < 200) (hk : k < 8) : (1600 ≤ 8 * t + k) = False := eq_false (by omega)
theorem m_layNext {a b : St} {H Dn F F1 n t : Nat} (hn : 20 ≤ n) (ht : t < 199) (hT : RT a b H Dn F) (hF1 : F1 < 64) (hs : ∀ h, h < H → b 9 (8 * t + h) = -1 ∨ ∃ d, d < Dn ∧ b 9 (8 * t + h) = nI d) : ∃ b1, f_X6_layNext n (nI t) (nI F1) b = some b1 ∧ (∀ i, i ≠ 9 → b1 i = b i) ∧ (∀ k, (k < 8 * t + 8 ∨ 8 * t + 16 ≤ k) → b1 9 k = b 9 k) ∧ ∀ h, h < H → b1 9 (8 * t + 8 + h) = stp a F1 (fun k => b 9 (8 * t + k)) h := by
  obtain ⟨⟨h1, h2, h3, h4⟩, ⟨e1, e2, e3, e4, e5⟩, h5, h6, h7, h8⟩ := id hT
  obtain ⟨s1, ⟨p1, p2, p3⟩, g2⟩ := loop_inv (fun j i (s : St) => L_X6_layNext_2 n (nI t) (nI F1) j i s) (fun s => some s) H 0 (fun k s => (∀ i, i ≠ 9 → s i = b i) ∧ (∀ k, (k < 8 * t + 8 ∨ 8 * t + 16 ≤ k) → s 9 k = b 9 k) ∧ ∀ h, h < k → s 9 (8 * t + 8 + h) = stp a F1 (fun k => b 9 (8 * t + k)) h) (s0 := b) (by omega) ⟨fun _ _ => rfl, fun _ _ => rfl, fun h q => absurd q (by omega)⟩ (fun k s _ hk hP => by
    obtain ⟨q1, q2, q3⟩ := hP
    have hk8 : k < 8 := by omega
    have hTs : RT a s H Dn F := RT_fr hT (fun _ _ => rfl) (fun i hi => q1 i (by omega)) (by rw [q1 0 (by omega)]) (by rw [q1 0 (by omega)])
    refine ⟨up s 9 (8 * t + 8 + k) (stp a F1 (fun k => b 9 (8 * t + k)) k), ⟨fun i hi => by rw [up_n _ _ _ hi]; exact q1 i hi, fun m hm => ?_, fun h hh => ?_⟩, fun j => ?_⟩
    · rw [up_s, ud_n _ _ (by omega)]
      exact q2 m hm
    · rw [up_s]
      by_cases e : h = k
      · rw [e, ud_s]
      · rw [ud_n _ _ (by omega)]
        exact q3 h (by omega)
    · show L_X6_layNext_2 n (nI t) (nI F1) (j + 1) (nI k) s = L_X6_layNext_2 n (nI t) (nI F1) j (nI (k + 1)) (up s 9 (8 * t + 8 + k) (stp a F1 (fun k => b 9 (8 * t + k)) k))
      rw [L_X6_layNext_2, if_neg (by rw [q1 0 (by omega), e2, leI (by omega) (by omega)]; omega)]
      have ea : s 5 k = a 6 k := by rw [q1 5 (by omega)]; exact (h5 k hk8).1
      simp only [cl (show k < 100000 by omega), gj hk8 (show 8 ≤ 100000 by omega), if_false, e88 t (by omega) k hk8, s88 t (by omega) k hk8, n88 ht hk8, or_self, ea, nI_1]
      unfold stp
      rcases (h5 k hk8).2 with e | ⟨m, hm, e⟩
      · rw [if_pos e, if_pos e]
      · have hm8 : m < 8 := by omega
        have eb : s 9 (8 * t + m) = b 9 (8 * t + m) := q2 _ (Or.inl (by omega))
        simp only [e, neM (show m < 100000 by omega), if_false, cl (show m < 100000 by omega), e8 t (by omega) m hm8, s8 t (by omega) m hm8, n8 (show t < 200 by omega) hm8, or_self, eb]
        rcases hs m hm with e7 | ⟨d, hd, e7⟩
        · rw [if_pos e7, if_pos e7]
        · simp only [e7, neM (show d < 100000 by omega), if_false, cl (show d < 100000 by omega), m_canByF (n := n) (by omega) hTs hF1 hk8 hd, Option.bind_some]
          cases canT a F1 k d <;> simp [b2i]) (fun j s hP => by
    show L_X6_layNext_2 n (nI t) (nI F1) (j + 1) (nI H) s = some s
    rw [L_X6_layNext_2, if_pos (by rw [hP.1 0 (by omega), e2, leI (by omega) (by omega)]; omega)])
  exact ⟨s1, g2 n (by omega), p1, p2, p3⟩
/-- the days laid: day u, house h at 8 u + h -/
theorem m_layDays {a b : St} {H Dn F F1 n t : Nat} {s0 : Nat → Int32} (hn : 300 ≤ n) (ht : t < 199) (hT : RT a b H Dn F) (hF1 : F1 < 64) (hb : ∀ h, h < H → b 1 h = s0 h) (hs : wfS s0 Dn) : ∃ b1, f_X6_layDays n (nI t) (nI F1) b = some b1 ∧ (∀ i, i ≠ 9 → b1 i = b i) ∧ ∀ u, u ≤ t → ∀ h, h < H → b1 9 (8 * u + h) = itS a F1 s0 u h := by
  obtain ⟨⟨h1, h2, h3, h4⟩, ⟨e1, e2, e3, e4, e5⟩, h5, h6, h7, h8⟩ := id hT
  have hW := WT_of hT
  -- today
  obtain ⟨s1, ⟨p1, p2⟩, g2⟩ := loop_inv (fun j i (s : St) => L_X6_layDays_2 n (nI t) (nI F1) j i s) (fun s => B_X6_layDays_28 n (nI t) (nI F1) s) H 0 (fun k s => (∀ i, i ≠ 9 → s i = b i) ∧ ∀ h, h < k → s 9 h = s0 h) (s0 := b) (by omega) ⟨fun _ _ => rfl, fun h q => absurd q (by omega)⟩ (fun k s _ hk hP => by
    refine ⟨up s 9 k (s0 k), ⟨fun i hi => by rw [up_n _ _ _ hi]; exact hP.1 i hi, fun h hh => ?_⟩, fun j => ?_⟩
    · rw [up_s]
      by_cases e : h = k
      · rw [e, ud_s]
      · rw [ud_n _ _ e]
        exact hP.2 h (by omega)
    · show L_X6_layDays_2 n (nI t) (nI F1) (j + 1) (nI k) s = L_X6_layDays_2 n (nI t) (nI F1) j (nI (k + 1)) (up s 9 k (s0 k))
      rw [L_X6_layDays_2, if_neg (by rw [hP.1 0 (by omega), e2, leI (by omega) (by omega)]; omega)]
      simp only [cl (show k < 100000 by omega), gj (show k < 51 by omega) (show 51 ≤ 100000 by omega), gj (show k < 1600 by omega) (show 1600 ≤ 100000 by omega), if_false, nI_1, hP.1 1 (by omega), hb k hk]) (fun j s hP => by
    show L_X6_layDays_2 n (nI t) (nI F1) (j + 1) (nI H) s = B_X6_layDays_28 n (nI t) (nI F1) s
    rw [L_X6_layDays_2, if_pos (by rw [hP.1 0 (by omega), e2, leI (by omega) (by omega)]; omega)])
  obtain ⟨s2, ⟨r1, r2⟩, g3⟩ := loop_inv (fun j i (s : St) => L_X6_layDays_30 n (nI t) (nI F1) j i s) (fun s => some s) t 0 (fun k s => (∀ i, i ≠ 9 → s i = b i) ∧ ∀ u, u ≤ k → ∀ h, h < H → s 9 (8 * u + h) = itS a F1 s0 u h) (s0 := s1) (by omega) ⟨p1, fun u hu h hh => by rw [show u = 0 by omega, show 8 * 0 + h = h by omega]; exact p2 h hh⟩ (fun k s _ hk hP => by
    have hTs : RT a s H Dn F := RT_fr hT (fun _ _ => rfl) (fun i hi => hP.1 i (by omega)) (by rw [hP.1 0 (by omega)]) (by rw [hP.1 0 (by omega)])
    obtain ⟨s3, e6, e7, e8, e9⟩ := m_layNext (n := n) (t := k) (by omega) (by omega) hTs hF1 (fun h hh => by rw [hP.2 k (by omega) h hh]; exact itS_wf hW hs k h (by omega))
    refine ⟨s3, ⟨fun i hi => by rw [e7 i hi]; exact hP.1 i hi, fun u hu h hh => ?_⟩, fun j => ?_⟩
    · rcases Nat.lt_or_ge k u with q | q
      · rw [show u = k + 1 by omega, show 8 * (k + 1) + h = 8 * k + 8 + h by omega, e9 h hh]
        exact stp_cong hW (fun j hj => hP.2 k (by omega) j hj) (by omega)
      · rw [e8 _ (Or.inl (by omega))]
        exact hP.2 u q h hh
    · show L_X6_layDays_30 n (nI t) (nI F1) (j + 1) (nI k) s = L_X6_layDays_30 n (nI t) (nI F1) j (nI (k + 1)) s3
      rw [L_X6_layDays_30, if_neg (by rw [leI (by omega) (by omega)]; omega), e6, nI_1]
      rfl) (fun j s hP => by
    show L_X6_layDays_30 n (nI t) (nI F1) (j + 1) (nI t) s = some s
    rw [L_X6_layDays_30, if_pos (by rw [leI (by omega) (by omega)]; omega)])
  refine ⟨s2, ?_, r1, r2⟩
  unfold f_X6_layDays
  have g4 := g2 n (by omega)
  have g5 := g3 n (by omega)
  rw [show (0 : Int32) = nI 0 from rfl]
  rw [g4]
  unfold B_X6_layDays_28
  exact g5
