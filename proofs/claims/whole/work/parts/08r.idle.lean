/-! ===== one house idle ===== -/
theorem e800 : ∀ k, k < 8 → ((800 : Int32) + nI k).toNatClampNeg = 800 + k ∧ ((808 : Int32) + nI k).toNatClampNeg = 808 + k ∧ ((8 : Int32) + nI k).toNatClampNeg = 8 + k := by decide +kernel
theorem s800 : ∀ k, k < 8 → ¬ ((800 : Int32) + nI k < 0) ∧ ¬ ((808 : Int32) + nI k < 0) ∧ ¬ ((8 : Int32) + nI k < 0) := by decide +kernel
theorem n800 {k : Nat} (hk : k < 8) : (1600 ≤ 800 + k) = False ∧ (1600 ≤ 808 + k) = False ∧ (1600 ≤ 8 + k) = False := ⟨eq_false (by omega), eq_false (by omega), eq_false (by omega)⟩
/-- what is done on the day when one house does nothing -/
def idS (s : Nat → Int32) (h k : Nat) : Int32 := if k = h then -1 else s k
theorem idS_wf {s : Nat → Int32} {Dn h : Nat} (hs : wfS s Dn) : wfS (idS s h) Dn := fun k hk => by
  unfold idS
  split
  · exact Or.inl rfl
  · exact hs k hk
theorem x_idleL {a : St} {H Dn F n h t k : Nat} (hn : 3000 ≤ n) (hW : WT a H Dn F) (hs : wfS (a 16) Dn) (hh : h < H) (ht : t ≤ 99) (hk : k ≤ 99) : ∃ a0 a1, f_X5_foresee n (nI t) a = some a0 ∧ L_X5_idle_67 n (nI k) n 0 (up (uprow a0 34 (va_cpy (a0 33) (a0 34) 0 0 8)) 34 h (-1)) = some (nI (bsN (fun i => !decide (itS a F (a 16) (t + k) i = itS a F (idS (itS a F (a 16) t) h) k i)) H), a1) ∧ ∀ i, i ≠ 14 → i ≠ 33 → i ≠ 34 → a1 i = a i := by
  have hW1 := hW.1
  have hwt := itS_wf (F1 := F) hW hs t
  have hwi : wfS (idS (itS a F (a 16) t) h) Dn := idS_wf hwt
  obtain ⟨a0, g1, g2, g3, g4⟩ := x_foresee (n := n) (t := t) (by omega) (by omega) hW hs
  have hc : ∀ i, i < 8 → va_cpy (a0 33) (a0 34) 0 0 8 i = a0 33 i := fun i hi => by
    unfold va_cpy
    rw [if_pos ⟨by omega, by omega⟩, show 0 + (i - 0) = i by omega]
  obtain ⟨s1, ⟨p1, p2, p3, p4, p5⟩, h2⟩ := loop_inv (fun j i (s : St) => L_X5_idle_67 n (nI k) j i s) (fun s => B_X5_idle_115 n s) k 0 (fun m s => (∀ i, i ≠ 14 → i ≠ 33 → i ≠ 34 → s i = a i) ∧ (∀ i, i < H → s 33 i = itS a F (a 16) (t + m) i) ∧ (∀ i, i < H → s 34 i = itS a F (idS (itS a F (a 16) t) h) m i) ∧ wfS (s 33) Dn ∧ wfS (s 34) Dn) (s0 := up (uprow a0 34 (va_cpy (a0 33) (a0 34) 0 0 8)) 34 h (-1)) (by omega) ⟨fun i q1 q2 q3 => by rw [up_n _ _ _ q3, ur_n _ _ q3, g2 i q1 q2], fun i hi => by rw [up_n _ _ _ (by omega), ur_n _ _ (by omega)]; exact g3 i hi, fun i hi => by
      rw [up_s, ur_s]
      show _ = idS (itS a F (a 16) t) h i
      unfold idS
      by_cases e : i = h
      · rw [e, ud_s, if_pos rfl]
      · rw [ud_n _ _ e, if_neg e, hc i (by omega), g3 i hi], by rw [up_n _ _ _ (by omega), ur_n _ _ (by omega)]; exact g4, fun i hi => by
      rw [up_s, ur_s]
      by_cases e : i = h
      · rw [e, ud_s]
        exact Or.inl rfl
      · rw [ud_n _ _ e, hc i hi]
        exact g4 i hi⟩ (fun m s _ hm hP => by
    obtain ⟨q1, q2, q3, q4, q5⟩ := hP
    have hWs : WT s H Dn F := by
      unfold WT at hW ⊢
      rw [q1 5 (by omega) (by omega) (by omega), q1 6 (by omega) (by omega) (by omega)]
      exact hW
    have fr : ∀ (u : St), (∀ i, i ≠ 14 → i ≠ 33 → i ≠ 34 → u i = a i) → ∀ f i, stp u F f i = stp a F f i := fun u hu f i => stp_frame (hu 6 (by omega) (by omega) (by omega)) (hu 7 (by omega) (by omega) (by omega)) (hu 9 (by omega) (by omega) (by omega)) (hu 10 (by omega) (by omega) (by omega)) (hu 11 (by omega) (by omega) (by omega)) f i
    obtain ⟨s2, e1, e2, e3, e4⟩ := x_passDay (n := n) (o := 33) (F1 := F) (by omega) hWs hW.2.1.2.2.2 q4 (by omega) (by omega)
    have q6 : ∀ i, i ≠ 14 → i ≠ 33 → i ≠ 34 → s2 i = a i := fun i z1 z2 z3 => by rw [e2 i z1 z2, q1 i z1 z2 z3]
    have hW2 : WT s2 H Dn F := by
      unfold WT at hW ⊢
      rw [q6 5 (by omega) (by omega) (by omega), q6 6 (by omega) (by omega) (by omega)]
      exact hW
    have q7 : wfS (s2 34) Dn := by rw [e2 34 (by omega) (by omega)]; exact q5
    obtain ⟨s3, f1, f2, f3, f4⟩ := x_passDay (n := n) (o := 34) (F1 := F) (by omega) hW2 hW.2.1.2.2.2 q7 (by omega) (by omega)
    refine ⟨s3, ⟨fun i z1 z2 z3 => by rw [f2 i z1 z3, q6 i z1 z2 z3], fun i hi => ?_, fun i hi => ?_, fun i hi => ?_, fun i hi => ?_⟩, fun j => ?_⟩
    · rw [f2 33 (by omega) (by omega), e3 i hi, fr s q1]
      exact stp_cong hW (fun j hj => q2 j hj) (by omega)
    · rw [f3 i hi, fr s2 q6, e2 34 (by omega) (by omega)]
      exact stp_cong hW (fun j hj => q3 j hj) (by omega)
    · rw [f2 33 (by omega) (by omega)]
      rcases Nat.lt_or_ge i H with z | z
      · rw [e3 i z]
        exact stp_wf hWs q4 i hi
      · rw [e4 i z]
        exact q4 i hi
    · rcases Nat.lt_or_ge i H with z | z
      · rw [f3 i z]
        exact stp_wf hW2 q7 i hi
      · rw [f4 i z]
        exact q7 i hi
    · show L_X5_idle_67 n (nI k) (j + 1) (nI m) s = L_X5_idle_67 n (nI k) j (nI (m + 1)) s3
      have z1 : s 5 2 = nI F := by rw [q1 5 (by omega) (by omega) (by omega)]; exact hW.2.1.2.2.1
      have z2 : s2 5 2 = nI F := by rw [q6 5 (by omega) (by omega) (by omega)]; exact hW.2.1.2.2.1
      rw [L_X5_idle_67, if_neg (by rw [leI (by omega) (by omega)]; omega), z1, e1]
      simp only [Option.bind_some, z2, f1, nI_1]) (fun j s hP => by
    show L_X5_idle_67 n (nI k) (j + 1) (nI k) s = _
    rw [L_X5_idle_67, if_pos (by rw [leI (by omega) (by omega)]; omega)])
  refine ⟨a0, s1, g1, ?_, p1⟩
  have h3 := h2 n (by omega)
  rw [show (0 : Int32) = nI 0 from rfl]
  rw [h3]
  unfold B_X5_idle_115
  obtain ⟨z, z1, z2⟩ := loop_inv (fun j i (x : Int32) => L_X5_idle_121 n j x i s1) (fun x => some (x, s1)) H 0 (fun m x => x = nI (bsN (fun i => !decide (itS a F (a 16) (t + k) i = itS a F (idS (itS a F (a 16) t) h) k i)) m)) (s0 := 0) (by omega) rfl (fun m x _ hm hx => by
    refine ⟨_, rfl, fun j => ?_⟩
    show L_X5_idle_121 n (j + 1) x (nI m) s1 = L_X5_idle_121 n j _ (nI (m + 1)) s1
    rw [L_X5_idle_121, if_neg (by rw [p1 5 (by omega) (by omega) (by omega), hW.2.1.1, leI (by omega) (by omega)]; omega), hx]
    simp only [cl (show m < 100000 by omega), gj (show m < 8 by omega) (show 8 ≤ 100000 by omega), if_false, nI_1, p2 m hm, p3 m hm]
    by_cases c : itS a F (a 16) (t + k) m = itS a F (idS (itS a F (a 16) t) h) k m
    · rw [if_pos c, ← bsN_not (k := m) (p := fun i => !decide (itS a F (a 16) (t + k) i = itS a F (idS (itS a F (a 16) t) h) k i)) (by simp [c])]
    · rw [if_neg c, bsN_or (k := m) (p := fun i => !decide (itS a F (a 16) (t + k) i = itS a F (idS (itS a F (a 16) t) h) k i)) (by omega) (by simp [c])]) (fun j x hx => by
    show L_X5_idle_121 n (j + 1) x (nI H) s1 = _
    rw [L_X5_idle_121, if_pos (by rw [p1 5 (by omega) (by omega) (by omega), hW.2.1.1, leI (by omega) (by omega)]; omega)])
  have z3 := z2 n (by omega)
  rw [z1] at z3
  exact z3
theorem m_idleL {a b : St} {H Dn F n h t k : Nat} (hn : 3000 ≤ n) (hT : RT a b H Dn F) (hs : wfS (a 16) Dn) (hh : h < H) (ht : t ≤ 99) (hk : k ≤ 99) {b0 : St} (hb0 : ∀ i, i ≠ 9 → b0 i = b i) (hd : ∀ u, u ≤ t → ∀ h, h < H → b0 9 (8 * u + h) = itS a F (a 16) u h) : ∃ b1, L_X6_idle_44 n (nI h) (nI t) (nI k) (nI F) n 0 b0 = some (nI (bsN (fun i => !decide (itS a F (a 16) (t + k) i = itS a F (idS (itS a F (a 16) t) h) k i)) H), b1) ∧ ∀ i, i ≠ 9 → b1 i = b i := by
  have hW := WT_of hT
  have hW1 := hW.1
  have hwt := itS_wf (F1 := F) hW hs t
  have hwi : wfS (idS (itS a F (a 16) t) h) Dn := idS_wf hwt
  have h06 : ∀ s : St, (∀ i, i ≠ 9 → s i = b i) → s 0 6 = nI H := fun s z => by rw [z 0 (by omega)]; exact hT.2.1.2.1
  obtain ⟨s1, ⟨p1, p2, p3, -⟩, g1⟩ := loop_inv (fun j i (s : St) => L_X6_idle_44 n (nI h) (nI t) (nI k) (nI F) j i s) (fun s => B_X6_idle_111 n (nI k) (nI F) s) H 0 (fun m s => (∀ i, i ≠ 9 → s i = b i) ∧ (∀ i, i < m → s 9 i = itS a F (a 16) t i) ∧ (∀ i, i < m → s 9 (800 + i) = idS (itS a F (a 16) t) h i) ∧ ∀ i, m ≤ i → i < H → s 9 (8 * t + i) = itS a F (a 16) t i) (s0 := b0) (by omega) ⟨hb0, fun i q => absurd q (by omega), fun i q => absurd q (by omega), fun i _ hi => hd t (Nat.le_refl _) i hi⟩ (fun m s _ hm hP => by
    obtain ⟨q1, q2, q3, q4⟩ := hP
    have hm8 : m < 8 := by omega
    refine ⟨up (up s 9 (800 + m) (idS (itS a F (a 16) t) h m)) 9 m (itS a F (a 16) t m), ⟨fun i hi => by rw [up_n _ _ _ hi, up_n _ _ _ hi]; exact q1 i hi, fun i hi => ?_, fun i hi => ?_, fun i h1 h2 => ?_⟩, fun j => ?_⟩
    · rw [up_s]
      by_cases e : i = m
      · rw [e, ud_s]
      · rw [ud_n _ _ e, up_s, ud_n _ _ (by omega)]
        exact q2 i (by omega)
    · rw [up_s, ud_n _ _ (by omega), up_s]
      by_cases e : i = m
      · rw [e, ud_s]
      · rw [ud_n _ _ (by omega)]
        exact q3 i (by omega)
    · rw [up_s, ud_n _ _ (by omega), up_s, ud_n _ _ (by omega)]
      exact q4 i (by omega) h2
    · show L_X6_idle_44 n (nI h) (nI t) (nI k) (nI F) (j + 1) (nI m) s = L_X6_idle_44 n (nI h) (nI t) (nI k) (nI F) j (nI (m + 1)) _
      have e1 : ∀ x, (up s 9 (800 + m) x) 9 (8 * t + m) = itS a F (a 16) t m := fun x => by
        rw [up_s, ud_n _ _ (by omega)]
        exact q4 m (Nat.le_refl _) hm
      rw [L_X6_idle_44, if_neg (by rw [h06 s q1, leI (by omega) (by omega)]; omega)]
      simp only [eqI (show m < 100000 by omega) (show h < 100000 by omega), (e800 m hm8).1, eq_false (s800 m hm8).1, (n800 hm8).1, e8 t (by omega) m hm8, s8 t (by omega) m hm8, n8 (show t < 200 by omega) hm8, cl (show m < 100000 by omega), gj (show m < 1600 by omega) (show 1600 ≤ 100000 by omega), or_self, if_false, e1, nI_1, q4 m (Nat.le_refl _) hm]
      unfold idS
      by_cases e : m = h
      · rw [if_pos e, if_pos e]
      · rw [if_neg e, if_neg e]) (fun j s hP => by
    show L_X6_idle_44 n (nI h) (nI t) (nI k) (nI F) (j + 1) (nI H) s = _
    rw [L_X6_idle_44, if_pos (by rw [h06 s hP.1, leI (by omega) (by omega)]; omega)])
  obtain ⟨s2, ⟨r1, r2, r3⟩, g2⟩ := loop_inv (fun j i (s : St) => L_X6_idle_114 n (nI k) (nI F) j i s) (fun s => B_X6_idle_198 n s) k 0 (fun m s => (∀ i, i ≠ 9 → s i = b i) ∧ (∀ i, i < H → s 9 i = itS a F (a 16) (t + m) i) ∧ ∀ i, i < H → s 9 (800 + i) = itS a F (idS (itS a F (a 16) t) h) m i) (s0 := s1) (by omega) ⟨p1, p2, p3⟩ (fun m s _ hm hP => by
    obtain ⟨q1, q2, q3⟩ := hP
    have hTs : ∀ u : St, (∀ i, i ≠ 9 → u i = b i) → RT a u H Dn F := fun u hu => RT_fr hT (fun _ _ => rfl) (fun i hi => hu i (by omega)) (by rw [hu 0 (by omega)]) (by rw [hu 0 (by omega)])
    obtain ⟨u1, f1, f2, f3, f4⟩ := m_layNext (n := n) (t := 0) (b := s) (by omega) (by omega) (hTs s q1) hW.2.1.2.2.2 (fun i hi => by rw [show 8 * 0 + i = i by omega, q2 i hi]; exact itS_wf hW hs _ i (by omega))
    have v1 : ∀ i, i ≠ 9 → u1 i = b i := fun i hi => by rw [f2 i hi, q1 i hi]
    obtain ⟨u2, k1, k2, k3, k4⟩ := m_layNext (n := n) (t := 100) (b := u1) (by omega) (by omega) (hTs u1 v1) hW.2.1.2.2.2 (fun i hi => by rw [f3 _ (by omega), show 8 * 100 + i = 800 + i by omega, q3 i hi]; exact itS_wf hW hwi _ i (by omega))
    have v2 : ∀ i, i ≠ 9 → u2 i = b i := fun i hi => by rw [k2 i hi, v1 i hi]
    have w1 : ∀ i, i < H → u2 9 (8 + i) = itS a F (a 16) (t + (m + 1)) i := fun i hi => by
      rw [k3 _ (by omega)]
      have z := f4 i hi
      rw [show 8 * 0 + 8 + i = 8 + i by omega] at z
      rw [z]
      exact stp_cong hW (fun j hj => by show s 9 (8 * 0 + j) = _; rw [show 8 * 0 + j = j by omega]; exact q2 j hj) (by omega)
    have w2 : ∀ i, i < H → u2 9 (808 + i) = itS a F (idS (itS a F (a 16) t) h) (m + 1) i := fun i hi => by
      have z := k4 i hi
      rw [show 8 * 100 + 8 + i = 808 + i by omega] at z
      rw [z]
      exact stp_cong hW (fun j hj => by
        show u1 9 (8 * 100 + j) = _
        rw [f3 _ (by omega), show 8 * 100 + j = 800 + j by omega]
        exact q3 j hj) (by omega)
    obtain ⟨u3, ⟨y1, y2, y3, y4⟩, g3⟩ := loop_invK (fun (c : Int32 → St → Option (Int32 × St)) j i (s : St) => L_X6_idle_138 n c (nI k) (nI F) (nI m) j i s) (fun c s => B_X6_idle_192 n c (nI k) (nI F) (nI m) s) H 0 (fun q u => (∀ i, i ≠ 9 → u i = b i) ∧ (∀ i, i < q → u 9 i = itS a F (a 16) (t + (m + 1)) i) ∧ (∀ i, i < q → u 9 (800 + i) = itS a F (idS (itS a F (a 16) t) h) (m + 1) i) ∧ ∀ i, i < H → u 9 (8 + i) = itS a F (a 16) (t + (m + 1)) i ∧ u 9 (808 + i) = itS a F (idS (itS a F (a 16) t) h) (m + 1) i) (s0 := u2) (by omega) ⟨v2, fun i q => absurd q (by omega), fun i q => absurd q (by omega), fun i hi => ⟨w1 i hi, w2 i hi⟩⟩ (fun q u _ hq hQ => by
      obtain ⟨t1, t2, t3, t4⟩ := hQ
      have hq8 : q < 8 := by omega
      refine ⟨up (up u 9 q (itS a F (a 16) (t + (m + 1)) q)) 9 (800 + q) (itS a F (idS (itS a F (a 16) t) h) (m + 1) q), ⟨fun i hi => by rw [up_n _ _ _ hi, up_n _ _ _ hi]; exact t1 i hi, fun i hi => ?_, fun i hi => ?_, fun i hi => ?_⟩, fun c j => ?_⟩
      · rw [up_s, ud_n _ _ (by omega), up_s]
        by_cases e : i = q
        · rw [e, ud_s]
        · rw [ud_n _ _ e]
          exact t2 i (by omega)
      · rw [up_s]
        by_cases e : i = q
        · rw [e, ud_s]
        · rw [ud_n _ _ (by omega), up_s, ud_n _ _ (by omega)]
          exact t3 i (by omega)
      · rw [up_s, ud_n _ _ (by omega), ud_n _ _ (by omega), up_s, ud_n _ _ (by omega), ud_n _ _ (by omega)]
        exact t4 i hi
      · show L_X6_idle_138 n c (nI k) (nI F) (nI m) (j + 1) (nI q) u = L_X6_idle_138 n c (nI k) (nI F) (nI m) j (nI (q + 1)) _
        have e1 : ∀ x, (up u 9 q x) 9 (808 + q) = itS a F (idS (itS a F (a 16) t) h) (m + 1) q := fun x => by
          rw [up_s, ud_n _ _ (by omega)]
          exact (t4 q hq).2
        rw [L_X6_idle_138, if_neg (by rw [h06 u t1, leI (by omega) (by omega)]; omega)]
        simp only [(e800 q hq8).1, (e800 q hq8).2.1, (e800 q hq8).2.2, eq_false (s800 q hq8).1, eq_false (s800 q hq8).2.1, eq_false (s800 q hq8).2.2, (n800 hq8).1, (n800 hq8).2.1, (n800 hq8).2.2, cl (show q < 100000 by omega), gj (show q < 1600 by omega) (show 1600 ≤ 100000 by omega), or_self, if_false, e1, nI_1, (t4 q hq).1]) (fun c j u hQ => by
      show L_X6_idle_138 n c (nI k) (nI F) (nI m) (j + 1) (nI H) u = _
      rw [L_X6_idle_138, if_pos (by rw [h06 u hQ.1, leI (by omega) (by omega)]; omega)])
    refine ⟨u3, ⟨y1, y2, y3⟩, fun j => ?_⟩
    show L_X6_idle_114 n (nI k) (nI F) (j + 1) (nI m) s = L_X6_idle_114 n (nI k) (nI F) j (nI (m + 1)) u3
    rw [L_X6_idle_114, if_neg (by rw [leI (by omega) (by omega)]; omega), show (0 : Int32) = nI 0 from rfl, show (100 : Int32) = nI 100 from rfl, f1]
    simp only [Option.bind_some, k1]
    rw [g3 (L_X6_idle_114 n (nI k) (nI F) j) n (by omega)]
    unfold B_X6_idle_192
    rw [nI_1]) (fun j s hP => by
    show L_X6_idle_114 n (nI k) (nI F) (j + 1) (nI k) s = _
    rw [L_X6_idle_114, if_pos (by rw [leI (by omega) (by omega)]; omega)])
  refine ⟨s2, ?_, r1⟩
  have h3 := g1 n (by omega)
  rw [show (0 : Int32) = nI 0 from rfl]
  rw [h3]
  unfold B_X6_idle_111
  have h4 := g2 n (by omega)
  rw [show (0 : Int32) = nI 0 from rfl]
  rw [h4]
  unfold B_X6_idle_198
  obtain ⟨z, z1, z2⟩ := loop_inv (fun j i (x : Int32) => L_X6_idle_204 n j x i s2) (fun x => some (x, s2)) H 0 (fun m x => x = nI (bsN (fun i => !decide (itS a F (a 16) (t + k) i = itS a F (idS (itS a F (a 16) t) h) k i)) m)) (s0 := 0) (by omega) rfl (fun m x _ hm hx => by
    have hm8 : m < 8 := by omega
    refine ⟨_, rfl, fun j => ?_⟩
    show L_X6_idle_204 n (j + 1) x (nI m) s2 = L_X6_idle_204 n j _ (nI (m + 1)) s2
    rw [L_X6_idle_204, if_neg (by rw [h06 s2 r1, leI (by omega) (by omega)]; omega), hx]
    simp only [(e800 m hm8).1, eq_false (s800 m hm8).1, (n800 hm8).1, cl (show m < 100000 by omega), gj (show m < 1600 by omega) (show 1600 ≤ 100000 by omega), or_self, if_false, nI_1, r2 m hm, r3 m hm, orz]
    by_cases c : itS a F (a 16) (t + k) m = itS a F (idS (itS a F (a 16) t) h) k m
    · rw [if_pos c, ← bsN_not (k := m) (p := fun i => !decide (itS a F (a 16) (t + k) i = itS a F (idS (itS a F (a 16) t) h) k i)) (by simp [c])]
    · rw [if_neg c, bsN_or (k := m) (p := fun i => !decide (itS a F (a 16) (t + k) i = itS a F (idS (itS a F (a 16) t) h) k i)) (by omega) (by simp [c])]) (fun j x hx => by
    show L_X6_idle_204 n (j + 1) x (nI H) s2 = _
    rw [L_X6_idle_204, if_pos (by rw [h06 s2 r1, leI (by omega) (by omega)]; omega)])
  have z3 := z2 n (by omega)
  rw [z1] at z3
  exact z3
theorem o_idle {a b : St} {H Dn F n : Nat} (hn : 3000 ≤ n) (hR : RR a b H Dn F) (x1 x2 x3 : Int32) : OK2 (f_X5_idle n x1 x2 x3 a) (f_X6_idle n x1 x2 x3 b) := by
  have hT := hR.1
  have hW := WT_of hT
  unfold f_X5_idle f_X6_idle
  rcases ck_house hT x1 with ⟨h, hh, rfl, f1, f2⟩ | ⟨f1, f2⟩
  · have hh8 : h < 8 := by have := hT.1; omega
    rw [f1, f2]
    simp only [Option.bind_some, i10, if_false]
    rcases ck_time x2 with ⟨t, ht, rfl, f3, f4⟩ | ⟨f3, f4⟩
    · rw [f3, f4]
      simp only [Option.bind_some, i10, if_false]
      rcases ck_time x3 with ⟨k, hk, rfl, f5, f6⟩ | ⟨f5, f6⟩
      · rw [f5, f6]
        obtain ⟨a0, a1, g1, g2, g3⟩ := x_idleL hn hW (wf_of hR) hh ht hk
        obtain ⟨b0, k1, k2, k3⟩ := m_layDays (n := n) (t := t) (by omega) (by omega) hT hW.2.1.2.2.2 (today hR) (wf_of hR)
        obtain ⟨b1, m1, m2⟩ := m_idleL hn hT (wf_of hR) hh ht hk k2 k3
        simp only [Option.bind_some, i10, if_false, g1, m_forbiddenNow (n := n) (by omega) hT, k1, cl (show h < 100000 by omega), gj hh8 (show 8 ≤ 100000 by omega), m1]
        rw [if_neg (by decide)]
        have g4 : L_X5_idle_67 n (nI k) n 0 (up (uprow a0 34 (va_cpy (a0 33) (a0 34) ((0 : Int32).toNatClampNeg) ((0 : Int32).toNatClampNeg) ((8 : Int32).toNatClampNeg))) 34 h (-1)) = _ := g2
        rw [g4]
        exact ⟨_, a1, b1, H, Dn, F, rfl, rfl, RR_fr hR (fun i _ _ _ _ q1 q2 => g3 i q1 (by omega) (by omega)) (by rw [g3 1 (by omega) (by omega) (by omega)]) (fun i _ _ q _ _ => m2 i q) (fun k _ => by rw [m2 0 (by omega)])⟩
      · rw [f5, f6]
        exact OK2_same hR _
    · rw [f3, f4]
      exact OK2_same hR _
  · rw [f1, f2]
    exact OK2_same hR _
