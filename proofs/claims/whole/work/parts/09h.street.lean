/-! ===== street ===== -/
theorem SF_tr {s u s1 u1 s2 u2 : St} (h : SF s u s1 u1) (g : SF s1 u1 s2 u2) : SF s u s2 u2 := ⟨fun i hi => by rw [g.1 i hi, h.1 i hi], fun i hi => by rw [g.2.1 i hi, h.2.1 i hi], fun k k1 k2 => by rw [g.2.2 k k1 k2, h.2.2 k k1 k2]⟩
theorem told_lines {s u : St} {L H0 D0 F n : Nat} {ws : Nat → Nat} {vs : Nat → Nat → Nat} {hs ds : Nat → Nat} (hn : 3000 ≤ n) (hL : L ≤ 10) (hF : LF s u L H0 D0 ws vs hs ds) (hT : RT s u H0 D0 F) (hI : NW s u H0 D0) (h8 : s 1 8 = nI L) (h5 : u 0 5 = nI L) : ∃ s1 u1 H D F1, L_X5_street_30 n n 0 s = B_X5_street_52 n s1 ∧ L_X6_street_13 n n 0 u = B_X6_street_34 n u1 ∧ RT s1 u1 H D F1 ∧ NW s1 u1 H D ∧ SF s u s1 u1 := by
  obtain ⟨b1, b2, b3⟩ := hF
  obtain ⟨s1, u1, ⟨p1, F1, p2, p3⟩, g1, g2⟩ := loop_two (fun j i (t : St) => L_X5_street_30 n j i t) (fun t => B_X5_street_52 n t) (fun j i (t : St) => L_X6_street_13 n j i t) (fun t => B_X6_street_34 n t) L 0 (fun k t z => SF s u t z ∧ ∃ F, RT t z (hs k) (ds k) F ∧ NW t z (hs k) (ds k)) (s0 := s) (t0 := u) (by omega) ⟨⟨fun _ _ => rfl, fun _ _ => rfl, fun _ _ _ => rfl⟩, F, by rw [b1, b2]; exact hT, by rw [b1, b2]; exact hI⟩ (fun k t z _ hk hP => by
    obtain ⟨q1, F2, q2, q3⟩ := hP
    obtain ⟨c1, c2, c3⟩ := b3 k hk
    have t3 : t 3 = s 3 := q1.1 3 (by omega)
    have t4 : t 4 = s 4 := q1.1 4 (by omega)
    have z4 : z 4 = u 4 := q1.2.1 4 (by omega)
    have t18 : t 1 8 = nI L := by rw [q1.1 1 (by omega)]; exact h8
    have z05 : z 0 5 = nI L := by rw [q1.2.2 5 (by omega) (by omega)]; exact h5
    have hN : LN t z k (ws k) (vs k) (hs k) (ds k) := LN_fr c1 hk (fun x _ => by rw [t3]) (fun x _ => by rw [t4]) (fun x _ => by rw [z4])
    obtain ⟨t1, z1, F3, y1, y2, y3, y4, y5⟩ := t_line (n := n) hn (show k < 10 by omega) hN q2 q3
    refine ⟨t1, z1, ⟨SF_tr q1 y5, F3, by rw [c2, c3]; exact y3, by rw [c2, c3]; exact y4⟩, fun j => ?_, fun j => ?_⟩
    · show L_X5_street_30 n (j + 1) (nI k) t = L_X5_street_30 n j (nI (k + 1)) t1
      rw [L_X5_street_30, t18, if_neg (by rw [leI (by omega) (by omega)]; omega), y1, Option.bind_some, nI_1]
    · show L_X6_street_13 n (j + 1) (nI k) z = L_X6_street_13 n j (nI (k + 1)) z1
      rw [L_X6_street_13, z05, if_neg (by rw [leI (by omega) (by omega)]; omega), y2, Option.bind_some, nI_1]) (fun j t z hP => by
    have t18 : t 1 8 = nI L := by rw [hP.1.1 1 (by omega)]; exact h8
    show L_X5_street_30 n (j + 1) (nI L) t = _
    rw [L_X5_street_30, t18, if_pos (by rw [leI (by omega) (by omega)]; omega)]) (fun j t z hP => by
    have z05 : z 0 5 = nI L := by rw [hP.1.2.2 5 (by omega) (by omega)]; exact h5
    show L_X6_street_13 n (j + 1) (nI L) z = _
    rw [L_X6_street_13, z05, if_pos (by rw [leI (by omega) (by omega)]; omega)])
  exact ⟨s1, u1, _, _, F1, g1 n (by omega), g2 n (by omega), p2, p3, p1⟩
theorem x_close {t : St} {n : Nat} (hn : 3000 ≤ n) : ∃ s1, B_X5_street_52 n t = some (t 1 8, s1) ∧ (∀ i, i ≠ 1 → i ≠ 15 → i ≠ 17 → i ≠ 19 → i ≠ 22 → i ≠ 25 → i ≠ 29 → s1 i = t i) ∧ s1 15 2 = 0 ∧ (∀ h, h < 8 → s1 17 h = 0) ∧ (s1 19 3 = 0 ∧ s1 22 3 = 0 ∧ s1 25 3 = 0 ∧ s1 29 3 = 0) ∧ s1 1 1 = 0 := by
  obtain ⟨s2, ⟨r1, r2⟩, g2⟩ := loop_inv (fun j i (t : St) => L_X0_restart_7 n 15 j i t) (fun t => some t) 8 0 (fun k z => (∀ i, i ≠ 17 → z i = (up t 15 2 0) i) ∧ ∀ h, h < k → z 17 h = 0) (s0 := up t 15 2 0) (by omega) ⟨fun _ _ => rfl, fun h hh => absurd hh (by omega)⟩ (fun k z _ hk hP => by
    obtain ⟨q1, q2⟩ := hP
    refine ⟨up z 17 k 0, ⟨fun i i1 => by rw [up_n _ _ _ i1]; exact q1 i i1, fun h hh => ?_⟩, fun j => ?_⟩
    · rw [up_s]
      by_cases c : h = k
      · rw [c, ud_s]
      · rw [ud_n _ _ c]
        exact q2 h (by omega)
    · show L_X0_restart_7 n 15 (j + 1) (nI k) z = L_X0_restart_7 n 15 j (nI (k + 1)) _
      rw [L_X0_restart_7, if_neg (by rw [show (8 : Int32) = nI 8 from rfl, leI (by omega) (by omega)]; omega)]
      simp only [cl (show k < 100000 by omega), gj hk (show 8 ≤ 100000 by omega), if_false, nI_1]) (fun j z _ => by
    show L_X0_restart_7 n 15 (j + 1) (nI 8) z = _
    rw [L_X0_restart_7, if_pos (by decide)])
  have g3 : f_X0_restart n 15 t = some s2 := by
    unfold f_X0_restart
    exact g2 n (by omega)
  obtain ⟨j, rfl⟩ : ∃ j, n = j + 3 := ⟨n - 3, by omega⟩
  unfold B_X5_street_52 f_X3_clear
  rw [g3]
  simp only [Option.bind_some]
  rw [L_X5_street_77, if_neg (by decide), if_neg (by decide), if_pos (by decide), L_X5_street_77, if_neg (by decide), if_neg (by decide), if_neg (by decide), L_X5_street_77, if_pos (by decide)]
  unfold f_X2_empty
  simp only [Option.bind_some]
  refine ⟨up (up (up (up (up s2 25 3 0) 29 3 0) 19 3 0) 22 3 0) 1 1 0, ?_, fun i i1 i2 i3 i4 i5 i6 i7 => ?_, ?_, fun h hh => ?_, ⟨?_, ?_, ?_, ?_⟩, ?_⟩
  · rw [up_s, ud_n _ _ (by omega), up_n _ _ _ (by omega), up_n _ _ _ (by omega), up_n _ _ _ (by omega), up_n _ _ _ (by omega), r1 1 (by omega), up_n _ _ _ (by omega)]
  · rw [up_n _ _ _ i1, up_n _ _ _ i5, up_n _ _ _ i4, up_n _ _ _ i7, up_n _ _ _ i6, r1 i i3, up_n _ _ _ i2]
  · rw [up_n _ _ _ (by omega), up_n _ _ _ (by omega), up_n _ _ _ (by omega), up_n _ _ _ (by omega), up_n _ _ _ (by omega), r1 15 (by omega), up_s, ud_s]
  · rw [up_n _ _ _ (by omega), up_n _ _ _ (by omega), up_n _ _ _ (by omega), up_n _ _ _ (by omega), up_n _ _ _ (by omega)]
    exact r2 h hh
  · rw [up_n _ _ _ (by omega), up_n _ _ _ (by omega), up_s, ud_s]
  · rw [up_n _ _ _ (by omega), up_s, ud_s]
  · rw [up_n _ _ _ (by omega), up_n _ _ _ (by omega), up_n _ _ _ (by omega), up_n _ _ _ (by omega), up_s, ud_s]
  · rw [up_n _ _ _ (by omega), up_n _ _ _ (by omega), up_n _ _ _ (by omega), up_s, ud_s]
  · rw [up_s, ud_s]
theorem m_close {t : St} {n : Nat} (hn : 3000 ≤ n) : ∃ s1, B_X6_street_34 n t = some (t 0 5, s1) ∧ (∀ i, i ≠ 0 → i ≠ 1 → i ≠ 2 → s1 i = t i) ∧ (∀ k, k ≠ 3 → k ≠ 19 → k ≠ 25 → s1 0 k = t 0 k) ∧ (∀ k, k < 8 → s1 1 k = t 1 k) ∧ (∀ k, 8 ≤ k → k < 17 → s1 1 k = 0) ∧ (s1 2 0 = 0 ∧ s1 2 1 = 0) ∧ s1 0 3 = 0 ∧ s1 0 19 = 0 ∧ s1 0 25 = 0 := by
  obtain ⟨s2, ⟨r1, r2, r3⟩, g2⟩ := loop_inv (fun j i (t : St) => L_X6_street_37 n j i t) (fun t => B_X6_street_56 n t) 17 8 (fun k z => (∀ i, i ≠ 1 → z i = t i) ∧ (∀ h, h < 8 → z 1 h = t 1 h) ∧ ∀ h, 8 ≤ h → h < k → z 1 h = 0) (s0 := t) (by omega) ⟨fun _ _ => rfl, fun _ _ => rfl, fun h h1 hh => absurd hh (by omega)⟩ (fun k z k8 hk hP => by
    obtain ⟨q1, q2, q3⟩ := hP
    refine ⟨up z 1 k 0, ⟨fun i i1 => by rw [up_n _ _ _ i1]; exact q1 i i1, fun h hh => by rw [up_s, ud_n _ _ (by omega)]; exact q2 h hh, fun h h8 hh => ?_⟩, fun j => ?_⟩
    · rw [up_s]
      by_cases c : h = k
      · rw [c, ud_s]
      · rw [ud_n _ _ c]
        exact q3 h h8 (by omega)
    · show L_X6_street_37 n (j + 1) (nI k) z = L_X6_street_37 n j (nI (k + 1)) _
      rw [L_X6_street_37, if_neg (by rw [show (17 : Int32) = nI 17 from rfl, leI (by omega) (by omega)]; omega)]
      simp only [cl (show k < 100000 by omega), gj (show k < 51 by omega) (show 51 ≤ 100000 by omega), if_false, nI_1]) (fun j z _ => by
    show L_X6_street_37 n (j + 1) (nI 17) z = _
    rw [L_X6_street_37, if_pos (by decide)])
  have g3 : B_X6_street_34 n t = B_X6_street_56 n s2 := by
    unfold B_X6_street_34
    exact g2 n (by omega)
  rw [g3]
  unfold B_X6_street_56
  rw [show (0 : Int32).toNatClampNeg = 0 by decide, show (1 : Int32).toNatClampNeg = 1 by decide]
  refine ⟨up (up (up (up (up s2 0 19 0) 0 25 0) 2 0 0) 2 1 0) 0 3 0, ?_, fun i i1 i2 i3 => ?_, fun k k1 k2 k3 => ?_, fun k hk => ?_, fun k k1 k2 => ?_, ⟨?_, ?_⟩, ?_, ?_, ?_⟩
  · rw [up_s, ud_n _ _ (by omega), up_n _ _ _ (by omega), up_n _ _ _ (by omega), up_s, ud_n _ _ (by omega), up_s, ud_n _ _ (by omega), r1 0 (by omega)]
  · rw [up_n _ _ _ i1, up_n _ _ _ i3, up_n _ _ _ i3, up_n _ _ _ i1, up_n _ _ _ i1, r1 i i2]
  · rw [up_s, ud_n _ _ k1, up_n _ _ _ (by omega), up_n _ _ _ (by omega), up_s, ud_n _ _ k3, up_s, ud_n _ _ k2, r1 0 (by omega)]
  · rw [up_n _ _ _ (by omega), up_n _ _ _ (by omega), up_n _ _ _ (by omega), up_n _ _ _ (by omega), up_n _ _ _ (by omega)]
    exact r2 k hk
  · rw [up_n _ _ _ (by omega), up_n _ _ _ (by omega), up_n _ _ _ (by omega), up_n _ _ _ (by omega), up_n _ _ _ (by omega)]
    exact r3 k k1 k2
  · rw [up_n _ _ _ (by omega), up_s, ud_n _ _ (by omega), up_s, ud_s]
  · rw [up_n _ _ _ (by omega), up_s, ud_s]
  · rw [up_s, ud_s]
  · rw [up_s, ud_n _ _ (by omega), up_n _ _ _ (by omega), up_n _ _ _ (by omega), up_s, ud_n _ _ (by omega), up_s, ud_s]
  · rw [up_s, ud_n _ _ (by omega), up_n _ _ _ (by omega), up_n _ _ _ (by omega), up_s, ud_s]
theorem o_street {a b : St} {H Dn F n : Nat} (hn : 3000 ≤ n) (hR : RR a b H Dn F) : OK2 (f_X5_street n a) (f_X6_street n b) := by
  obtain ⟨len, cs, hT, res, s1, u1, h1, h2, h3, hc⟩ := fault_of hn hR
  have hR1 := RR_of_FR2 hR hT h3
  unfold f_X5_street f_X6_street
  rw [h1, h2]
  simp only [Option.bind_some]
  rcases hc with ⟨rfl, L, ws, vs, hs, ds, l1, l2, l3, l4⟩ | ⟨p, p1, rfl⟩
  · rw [if_pos rfl, if_pos rfl]
    have hI : NW s1 u1 H Dn := fun h hh => by
      obtain ⟨i1, i2, i3, i4⟩ := hR1.2.1.1 h hh
      rw [Nat.zero_add] at i1
      exact ⟨i1, i3, i4⟩
    obtain ⟨s2, u2, H2, D2, F2, y1, y2, y3, y4, y5⟩ := told_lines hn l1 l4 hR1.1 hI l2 l3
    obtain ⟨s3, x1, x2, x3, x4, ⟨x5, x6, x7, x8⟩, x9⟩ := x_close (t := s2) hn
    obtain ⟨u3, w1, w2, w3, w4, w5, ⟨w6, w7⟩, w8, w9, w10⟩ := m_close (t := u2) hn
    rw [y1, y2, x1, w1]
    refine ⟨nI L, s3, u3, H2, D2, F2, by rw [y5.1 1 (by omega), l2], by rw [y5.2.2 5 (by omega) (by omega), l3], RT_fr y3 (fun i hi => x2 i (by omega) (by omega) (by omega) (by omega) (by omega) (by omega) (by omega)) (fun i hi => w2 i (by omega) (by omega) (by omega)) (w3 6 (by omega) (by omega) (by omega)) (w3 11 (by omega) (by omega) (by omega)), ⟨fun h hh => ?_, 0, by omega, x3, w5 8 (by omega) (by omega)⟩, Or.inl ⟨x5, w6⟩, Or.inl ⟨x6, w7⟩, ⟨0, by omega, x7, w9, fun i hi => absurd hi (by omega)⟩, ⟨0, by omega, x8, w10, fun i hi => absurd hi (by omega)⟩, ⟨0, by omega, x9, w8, fun i hi => absurd hi (by omega)⟩⟩
    obtain ⟨i1, i2, i3⟩ := y4 h hh
    rw [x2 16 (by omega) (by omega) (by omega) (by omega) (by omega) (by omega) (by omega), Nat.zero_add, w4 h hh, w5 (0 + 9 + h) (by omega) (by omega), x4 h hh]
    exact ⟨i1, rfl, i2, i3⟩
  · rw [if_neg (by rw [neM (by have := hT.1; omega)]; exact id), if_neg (by rw [neM (by have := hT.1; omega)]; exact id)]
    exact ⟨-4, s1, u1, H, Dn, F, rfl, rfl, hR1⟩
