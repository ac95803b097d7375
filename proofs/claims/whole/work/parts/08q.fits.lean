/-! ===== ways, fits ===== -/
theorem x_mays {a : St} {H Dn F n o1 : Nat} (hn : 3000 ≤ n) (hW : WT a H Dn F) : ∃ a1, L_X5_rowsThatFit_2 n o1 n 0 a = B_X5_rowsThatFit_36 n o1 a1 ∧ (∀ i, i ≠ 35 → a1 i = a i) ∧ ∀ h, h < H → a1 35 h = nI (64 + bsN (fun d => canT a F h d) Dn) := by
  have hW1 := hW.1
  obtain ⟨s1, ⟨p1, p2⟩, g2⟩ := loop_inv (fun j i (s : St) => L_X5_rowsThatFit_2 n o1 j i s) (fun s => B_X5_rowsThatFit_36 n o1 s) H 0 (fun k s => (∀ i, i ≠ 35 → s i = a i) ∧ ∀ h, h < k → s 35 h = nI (64 + bsN (fun d => canT a F h d) Dn)) (s0 := a) (by omega) ⟨fun _ _ => rfl, fun h q => absurd q (by omega)⟩ (fun k s _ hk hP => by
    have hk8 : k < 8 := by omega
    have hb := bsN_lt (fun d => canT a F k d) Dn
    have h64 := p2_64 hW1.2.2
    have hWs : WT s H Dn F := by
      unfold WT at hW ⊢
      rw [hP.1 5 (by omega), hP.1 6 (by omega)]
      exact hW
    have ec : ∀ d, canT s F k d = canT a F k d := fun d => by
      unfold canT cnB
      rw [hP.1 7 (by omega), hP.1 9 (by omega), hP.1 10 (by omega), hP.1 11 (by omega)]
    refine ⟨up s 35 k (nI (64 + bsN (fun d => canT a F k d) Dn)), ⟨fun i hi => by rw [up_n _ _ _ hi]; exact hP.1 i hi, fun h hh => ?_⟩, fun j => ?_⟩
    · rw [up_s]
      by_cases e : h = k
      · rw [e, ud_s]
      · rw [ud_n _ _ e]
        exact hP.2 h (by omega)
    · show L_X5_rowsThatFit_2 n o1 (j + 1) (nI k) s = L_X5_rowsThatFit_2 n o1 j (nI (k + 1)) _
      rw [L_X5_rowsThatFit_2, if_neg (by rw [hP.1 5 (by omega), hW.2.1.1, leI (by omega) (by omega)]; omega), x_abil (n := n) (by omega) hWs hk8]
      simp only [ec, Option.bind_some, cl (show k < 100000 by omega), gj hk8 (show 8 ≤ 100000 by omega), if_false, nI_1, or64 _ (show bsN (fun d => canT a F k d) Dn < 64 by omega)]) (fun j s hP => by
    show L_X5_rowsThatFit_2 n o1 (j + 1) (nI H) s = B_X5_rowsThatFit_36 n o1 s
    rw [L_X5_rowsThatFit_2, if_pos (by rw [hP.1 5 (by omega), hW.2.1.1, leI (by omega) (by omega)]; omega)])
  exact ⟨s1, g2 n (by omega), p1, p2⟩
theorem m_mays {a b : St} {H Dn F n : Nat} (hn : 3000 ≤ n) (hT : RT a b H Dn F) : ∃ b1, f_X6_layMays n b = some b1 ∧ (∀ i, i ≠ 11 → b1 i = b i) ∧ ∀ h, h < H → b1 11 h = nI (64 + bsN (fun d => canT a F h d) Dn) := by
  have hW := WT_of hT
  have hW1 := hW.1
  have h64 := p2_64 hW1.2.2
  obtain ⟨s1, ⟨p1, p2⟩, g2⟩ := loop_inv (fun j i (s : St) => L_X6_layMays_2 n j i s) (fun s => some s) H 0 (fun k s => (∀ i, i ≠ 11 → s i = b i) ∧ ∀ h, h < k → s 11 h = nI (64 + bsN (fun d => canT a F h d) Dn)) (s0 := b) (by omega) ⟨fun _ _ => rfl, fun h q => absurd q (by omega)⟩ (fun k s _ hk hP => by
    have hk8 : k < 8 := by omega
    obtain ⟨s2, ⟨r1, r2, r3⟩, g3⟩ := loop_invK (fun (c : Int32 → St → Option St) j i (s : St) => L_X6_layMays_20 n c (nI k) j i s) (fun c s => B_X6_layMays_59 n c (nI k) s) Dn 0 (fun m s2 => (∀ i, i ≠ 11 → s2 i = b i) ∧ (∀ h, h ≠ k → s2 11 h = s 11 h) ∧ s2 11 k = nI (64 + bsN (fun d => canT a F k d) m)) (s0 := up s 11 k 64) (by omega) ⟨fun i hi => by rw [up_n _ _ _ hi]; exact hP.1 i hi, fun h hh => by rw [up_s, ud_n _ _ hh], by rw [up_s, ud_s]; rfl⟩ (fun m s2 _ hm hQ => by
      obtain ⟨t1, t2, t3⟩ := hQ
      have hm6 : m < 6 := by omega
      have hb := bsN_lt (fun d => canT a F k d) m
      have h64 := p2_64 (show m ≤ 6 by omega)
      have hTs : RT a s2 H Dn F := RT_m hT t1
      refine ⟨up s2 11 k (nI (64 + bsN (fun d => canT a F k d) (m + 1))), ⟨fun i hi => by rw [up_n _ _ _ hi]; exact t1 i hi, fun h hh => by rw [up_s, ud_n _ _ hh]; exact t2 h hh, by rw [up_s, ud_s]⟩, fun c j => ?_⟩
      show L_X6_layMays_20 n c (nI k) (j + 1) (nI m) s2 = L_X6_layMays_20 n c (nI k) j (nI (m + 1)) (up s2 11 k (nI (64 + (bsN (fun d => canT a F k d) m + if canT a F k m = true then 2 ^ m else 0))))
      rw [L_X6_layMays_20, if_neg (by rw [t1 0 (by omega), hT.2.1.2.2.2.1, leI (by omega) (by omega)]; omega), m_can (n := n) (by omega) hTs hk8 hm]
      simp only [Option.bind_some, cl (show k < 100000 by omega), gj hk8 (show 8 ≤ 100000 by omega), if_false, nI_1, t3, orz, orb64 m hm6 _ (show bsN (fun d => canT a F k d) m < 64 by omega) hb]
      by_cases c1 : canT a F k m = true
      · rw [c1, if_pos rfl]
        rfl
      · rw [Bool.eq_false_iff.mpr c1]
        rfl) (fun c j s2 hQ => by
      show L_X6_layMays_20 n c (nI k) (j + 1) (nI Dn) s2 = B_X6_layMays_59 n c (nI k) s2
      rw [L_X6_layMays_20, if_pos (by rw [hQ.1 0 (by omega), hT.2.1.2.2.2.1, leI (by omega) (by omega)]; omega)])
    refine ⟨s2, ⟨r1, fun h hh => ?_⟩, fun j => ?_⟩
    · by_cases e : h = k
      · rw [e]
        exact r3
      · rw [r2 h e]
        exact hP.2 h (by omega)
    · show L_X6_layMays_2 n (j + 1) (nI k) s = L_X6_layMays_2 n j (nI (k + 1)) s2
      rw [L_X6_layMays_2, if_neg (by rw [hP.1 0 (by omega), hT.2.1.2.1, leI (by omega) (by omega)]; omega)]
      simp only [cl (show k < 100000 by omega), gj hk8 (show 8 ≤ 100000 by omega), if_false]
      have g4 := g3 (L_X6_layMays_2 n j) n (by omega)
      rw [show (0 : Int32) = nI 0 from rfl]
      rw [g4]
      unfold B_X6_layMays_59
      rw [nI_1]) (fun j s hP => by
    show L_X6_layMays_2 n (j + 1) (nI H) s = some s
    rw [L_X6_layMays_2, if_pos (by rw [hP.1 0 (by omega), hT.2.1.2.1, leI (by omega) (by omega)]; omega)])
  exact ⟨s1, g2 n (by omega), p1, p2⟩
/-- how many rows -/
def prI (f : Nat → Int32) : Nat → Int32
  | 0 => 1
  | k + 1 => prI f k * nI (pcn (f k).toNatClampNeg 8)
theorem prI_cong {f g : Nat → Int32} : ∀ k, (∀ h, h < k → f h = g h) → prI f k = prI g k
  | 0, _ => rfl
  | k + 1, h => by
    unfold prI
    rw [prI_cong k (fun i hi => h i (by omega)), h k (by omega)]
theorem prI_0 {f : Nat → Int32} : ∀ k h, h < k → f h = 0 → prI f k = 0
  | 0, h, hh, _ => absurd hh (by omega)
  | k + 1, h, hh, e => by
    unfold prI
    rcases Nat.lt_or_ge h k with q | q
    · rw [prI_0 k h q e, Int32.zero_mul]
    · rw [show k = h by omega, e, show nI (pcn (0 : Int32).toNatClampNeg 8) = 0 from by decide, Int32.mul_zero]
theorem x_rows {s : St} {H n o1 : Nat} (hn : 3000 ≤ n) (hH : H ≤ 8) (e0 : s 5 0 = nI H) (hb : ∀ h, h < H → ∃ v, v < 128 ∧ s 35 h = nI v) : B_X5_rowsThatFit_74 n o1 s = some (prI (s 35) H, s) := by
  obtain ⟨z, p1, g2⟩ := loop_inv (fun j i (x : Int32) => L_X5_rowsThatFit_78 n o1 j x i s) (fun x => some (x, s)) H 0 (fun k x => x = prI (s 35) k) (s0 := 1) (by omega) rfl (fun k x _ hk hx => by
    refine ⟨prI (s 35) (k + 1), rfl, fun j => ?_⟩
    obtain ⟨v, v1, v2⟩ := hb k hk
    show L_X5_rowsThatFit_78 n o1 (j + 1) x (nI k) s = L_X5_rowsThatFit_78 n o1 j (prI (s 35) k * nI (pcn (s 35 k).toNatClampNeg 8)) (nI (k + 1)) s
    rw [L_X5_rowsThatFit_78, if_neg (by rw [e0, leI (by omega) (by omega)]; omega), hx]
    simp only [cl (show k < 100000 by omega), gj (show k < 8 by omega) (show 8 ≤ 100000 by omega), if_false, nI_1, v2, x_bitCount v (by omega), Option.bind_some, cl (show v < 100000 by omega)]) (fun j x hx => by
    show L_X5_rowsThatFit_78 n o1 (j + 1) x (nI H) s = some (x, s)
    rw [L_X5_rowsThatFit_78, if_pos (by rw [e0, leI (by omega) (by omega)]; omega)])
  have g3 := g2 n (by omega)
  rw [p1] at g3
  exact g3
theorem m_rows {s : St} {H n : Nat} (hn : 3000 ≤ n) (hH : H ≤ 8) (e0 : s 0 6 = nI H) (hb : ∀ h, h < H → ∃ v, v < 128 ∧ s 11 h = nI v) : f_X6_rows n s = some (prI (s 11) H) := by
  obtain ⟨z, p1, g2⟩ := loop_inv (fun j i (x : Int32) => L_X6_rows_4 n s j x i) (fun x => some x) H 0 (fun k x => x = prI (s 11) k) (s0 := 1) (by omega) rfl (fun k x _ hk hx => by
    refine ⟨prI (s 11) (k + 1), rfl, fun j => ?_⟩
    obtain ⟨v, v1, v2⟩ := hb k hk
    show L_X6_rows_4 n s (j + 1) x (nI k) = L_X6_rows_4 n s j (prI (s 11) k * nI (pcn (s 11 k).toNatClampNeg 8)) (nI (k + 1))
    rw [L_X6_rows_4, if_neg (by rw [e0, leI (by omega) (by omega)]; omega), hx]
    simp only [cl (show k < 100000 by omega), gj (show k < 8 by omega) (show 8 ≤ 100000 by omega), if_false, nI_1, v2, m_bits (n := n) (by omega) (show v < 256 by omega), Option.bind_some, cl (show v < 100000 by omega)]) (fun j x hx => by
    show L_X6_rows_4 n s (j + 1) x (nI H) = some x
    rw [L_X6_rows_4, if_pos (by rw [e0, leI (by omega) (by omega)]; omega)])
  have g3 := g2 n (by omega)
  rw [p1] at g3
  exact g3
theorem RM_rows {s t : St} {H : Nat} (h : RM s t H) : prI (s 35) H = prI (t 11) H := by
  rcases h.2 with q | ⟨⟨x, x1, x2⟩, m, m1, m2⟩
  · exact prI_cong H q
  · rw [prI_0 H x x1 x2, prI_0 H m m1 m2]
/-- the states behind what is told was taken in: both alive alike or dead -/
theorem told_all {a b : St} {H Dn F n o ms mr : Nat} {lo : Bool} {υ : Type} (hn : 3000 ≤ n) (hT : RT a b H Dn F) (hTo : RTold a b H Dn o (o + 1) (o + 2) (o + 3) ms mr lo) (ho : o ≠ 35 ∧ o + 1 ≠ 35 ∧ o + 2 ≠ 35 ∧ o + 3 ≠ 35) (hm : mr ≠ 11) (G : Nat → Int32 → St → Option υ) (ey : St → Option υ) (hG : ∀ (k w h t : Nat) (x2 : Int32) (s t1 : St), w ≤ 8 → k < w → s 0 ms = nI w → s mr (3 * k) = nI h → s mr (3 * k + 1) = x2 → s mr (3 * k + 2) = nI t → (x2 = -1 → lo = true) → (if x2 = -1 then f_X6_bindNothing n (nI h) (nI t) s else f_X6_bind n (nI h) x2 (nI t) s) = some t1 → ∀ j, G (j + 1) (nI k) s = G j (nI (k + 1)) t1) (hy : ∀ (w : Nat) (s : St), w ≤ 8 → s 0 ms = nI w → ∀ j, G (j + 1) (nI w) s = ey s) : ∃ a1 b0 b1, f_X5_rowsThatFit n o a = some (prI (a1 35) H, a1) ∧ f_X6_layMays n b = some b0 ∧ G n (nI 0) b0 = ey b1 ∧ (∀ i, i ≠ 35 → a1 i = a i) ∧ (∀ i, i ≠ 11 → b1 i = b i) ∧ RM a1 b1 H := by
  have hW := WT_of hT
  have hW1 := hW.1
  have h64 := p2_64 hW1.2.2
  obtain ⟨a0, x1, x2, x3⟩ := x_mays (o1 := o) hn hW
  obtain ⟨b0, y1, y2, y3⟩ := m_mays hn hT
  obtain ⟨w, w1, w2, w3, w4⟩ := hTo
  obtain ⟨s1, t1, ⟨p1, p2, p3⟩, g1, g2⟩ := loop_two (fun j i (s : St) => L_X5_rowsThatFit_38 n o j i s) (fun s => B_X5_rowsThatFit_74 n o s) G ey w 0 (fun k s t => (∀ i, i ≠ 35 → s i = a i) ∧ (∀ i, i ≠ 11 → t i = b i) ∧ RM s t H) (s0 := a0) (t0 := b0) (by omega) ⟨x2, y2, fun h hh => by
      have hb := bsN_lt (fun d => canT a F h d) Dn
      exact ⟨⟨_, by omega, x3 h hh⟩, _, by omega, y3 h hh⟩, Or.inl (fun h hh => by rw [x3 h hh, y3 h hh])⟩ (fun k s t _ hk hP => by
    obtain ⟨q1, q2, q3⟩ := hP
    obtain ⟨⟨h, hh, e1, e2⟩, ⟨e3, e4⟩, tt, ht, e5, e6⟩ := w4 k hk
    have hTs : RT s t H Dn F := RT_fr hT (fun i hi => q1 i (by omega)) (fun i hi => q2 i (by omega)) (by rw [q2 0 (by omega)]) (by rw [q2 0 (by omega)])
    have hx : a (o + 2) k = -1 ∨ ∃ d, d < Dn ∧ a (o + 2) k = nI d := by
      rcases e4 with z | z
      · exact Or.inr z
      · exact Or.inl z.2
    obtain ⟨s2, t2, g1, g2, g3, g4, g5⟩ := narrow_step (n := n) (tt := tt) hn hTs q3 hh ht hx
    refine ⟨s2, t2, ⟨fun i hi => by rw [g3 i hi]; exact q1 i hi, fun i hi => by rw [g4 i hi]; exact q2 i hi, g5⟩, fun j => ?_, hG k w h tt _ t t2 w1 hk (by rw [q2 0 (by omega)]; exact w3) (by rw [q2 mr hm]; exact e2) (by rw [q2 mr hm]; exact e3) (by rw [q2 mr hm]; exact e6) (fun e => by
      rcases e4 with ⟨d, hd, z⟩ | z
      · rw [z] at e
        exact absurd e (by rw [neM (by omega)]; exact id)
      · exact z.1) g2⟩
    show L_X5_rowsThatFit_38 n o (j + 1) (nI k) s = L_X5_rowsThatFit_38 n o j (nI (k + 1)) s2
    rw [L_X5_rowsThatFit_38, if_neg (by rw [q1 o ho.1, w2, leI (by omega) (by omega)]; omega)]
    simp only [cl (show k < 100000 by omega), gj (show k < 8 by omega) (show 8 ≤ 100000 by omega), if_false, nI_1, q1 (o + 1) ho.2.1, q1 (o + 2) ho.2.2.1, q1 (o + 3) ho.2.2.2, e1, e5, g1, Option.bind_some]) (fun j s t hP => by
    show L_X5_rowsThatFit_38 n o (j + 1) (nI w) s = B_X5_rowsThatFit_74 n o s
    rw [L_X5_rowsThatFit_38, if_pos (by rw [hP.1 o ho.1, w2, leI (by omega) (by omega)]; omega)]) (fun j s t hP => hy w t w1 (by rw [hP.2.1 0 (by omega)]; exact w3) j)
  refine ⟨s1, b0, t1, ?_, y1, g2 n (by omega), p1, p2, p3⟩
  unfold f_X5_rowsThatFit
  rw [x1]
  unfold B_X5_rowsThatFit_36
  have g3 := g1 n (by omega)
  rw [show (0 : Int32) = nI 0 from rfl]
  rw [g3]
  exact x_rows hn hW1.2.1 (by rw [p1 5 (by omega)]; exact hW.2.1.1) (fun h hh => (p3.1 h hh).1)
theorem o_ways {a b : St} {H Dn F n : Nat} (hn : 3000 ≤ n) (hR : RR a b H Dn F) : OK2 (f_X5_ways n a) (f_X6_ways n b) := by
  have hT := hR.1
  have hW1 := (WT_of hT).1
  obtain ⟨a1, b0, b1, g1, g2, g3, g4, g5, g6⟩ := told_all (o := 25) hn hT hR.2.2.2.2.1 (by omega) (by omega) (fun j i s => L_X6_ways_6 n j i s) (fun s => (f_X6_rows n s).bind fun q2 => some (q2, s)) (fun k w h t x2 s t1 hw hk e0 e1 e2 e3' hlo hg j => by
    obtain ⟨z1, z2, z3, z4, z5, z6⟩ := e3 k (by omega)
    show L_X6_ways_6 n (j + 1) (nI k) s = L_X6_ways_6 n j (nI (k + 1)) t1
    have hx : ¬ x2 = -1 := fun e => absurd (hlo e) (by decide)
    rw [if_neg hx] at hg
    rw [L_X6_ways_6, if_neg (by rw [e0, leI (by omega) (by omega)]; omega)]
    simp only [z1, z2, z3, eq_false z4, eq_false z5, eq_false z6, eq_false (show ¬ 24 ≤ 3 * k by omega), eq_false (show ¬ 24 ≤ 3 * k + 1 by omega), eq_false (show ¬ 24 ≤ 3 * k + 2 by omega), or_self, if_false, e1, e2, e3', hg, Option.bind_some, nI_1]) (fun w s hw e0 j => by
    show L_X6_ways_6 n (j + 1) (nI w) s = _
    rw [L_X6_ways_6, if_pos (by rw [e0, leI (by omega) (by omega)]; omega)])
  unfold f_X5_ways f_X6_ways
  rw [g1, g2]
  have g7 : L_X6_ways_6 n n 0 b0 = (f_X6_rows n b1).bind fun q2 => some (q2, b1) := g3
  simp only [Option.bind_some, g7, m_rows hn hW1.2.1 (show b1 0 6 = nI H by rw [g5 0 (by omega)]; exact hT.2.1.2.1) (fun h hh => (g6.1 h hh).2), RM_rows g6]
  exact ⟨_, a1, b1, H, Dn, F, rfl, rfl, RR_fr hR (fun i _ _ _ _ _ q => g4 i (by omega)) (by rw [g4 1 (by omega)]) (fun i _ _ _ q _ => g5 i q) (fun k _ => by rw [g5 0 (by omega)])⟩
theorem o_fits {a b : St} {H Dn F n : Nat} (hn : 3000 ≤ n) (hR : RR a b H Dn F) (x1 : Int32) : OK2 (f_X5_fits n x1 a) (f_X6_fits n x1 b) := by
  have hT := hR.1
  have hW1 := (WT_of hT).1
  obtain ⟨a1, b0, b1, g1, g2, g3, g4, g5, g6⟩ := told_all (o := 29) hn hT hR.2.2.2.2.2.1 (by omega) (by omega) (fun j i s => L_X6_fits_22 n x1 j i s) (fun s => B_X6_fits_100 n x1 s) (fun k w h t x2 s t1 hw hk e0 e1 e2 e3' hlo hg j => by
    obtain ⟨z1, z2, z3, z4, z5, z6⟩ := e3 k (by omega)
    show L_X6_fits_22 n x1 (j + 1) (nI k) s = L_X6_fits_22 n x1 j (nI (k + 1)) t1
    rw [L_X6_fits_22, if_neg (by rw [e0, leI (by omega) (by omega)]; omega)]
    simp only [z1, z2, z3, eq_false z4, eq_false z5, eq_false z6, eq_false (show ¬ 24 ≤ 3 * k by omega), eq_false (show ¬ 24 ≤ 3 * k + 1 by omega), eq_false (show ¬ 24 ≤ 3 * k + 2 by omega), or_self, if_false, e1, e2, e3', nI_1]
    by_cases c : x2 = -1
    · rw [if_pos c] at hg ⊢
      rw [hg]
      rfl
    · rw [if_neg c] at hg ⊢
      rw [hg]
      rfl) (fun w s hw e0 j => by
    show L_X6_fits_22 n x1 (j + 1) (nI w) s = _
    rw [L_X6_fits_22, if_pos (by rw [e0, leI (by omega) (by omega)]; omega)])
  have g7 : L_X6_fits_22 n x1 n 0 b0 = B_X6_fits_100 n x1 b1 := g3
  have hr : ∀ r, OK2 (some (r, a1)) (some (r, b1)) := fun r => ⟨r, a1, b1, H, Dn, F, rfl, rfl, RR_fr hR (fun i _ _ _ _ _ q => g4 i (by omega)) (by rw [g4 1 (by omega)]) (fun i _ _ _ q _ => g5 i q) (fun k _ => by rw [g5 0 (by omega)])⟩
  have hm := m_rows hn hW1.2.1 (show b1 0 6 = nI H by rw [g5 0 (by omega)]; exact hT.2.1.2.1) (fun h hh => (g6.1 h hh).2)
  unfold f_X5_fits f_X6_fits
  by_cases c : x1 = -1
  · rw [if_pos c, if_pos c, g1, g2]
    simp only [Option.bind_some, g7]
    unfold B_X6_fits_100
    rw [if_pos c, if_pos c, hm, RM_rows g6]
    exact hr _
  · rw [if_neg c, if_neg c]
    rcases ck_house hT x1 with ⟨h, hh, rfl, f1, f2⟩ | ⟨f1, f2⟩
    · rw [f1, f2]
      simp only [Option.bind_some, i10, if_false, g1, g2, g7]
      unfold B_X6_fits_100
      rw [if_neg c, if_neg c, hm, RM_rows g6]
      simp only [Option.bind_some, cl (show h < 100000 by omega), gj (show h < 8 by omega) (show 8 ≤ 100000 by omega), if_false]
      by_cases c2 : prI (b1 11) H = 0
      · rw [if_pos c2, if_pos c2, c2]
        exact hr _
      · rw [if_neg c2, if_neg c2]
        rcases g6.2 with q | ⟨-, m, m1, m2⟩
        · rw [q h hh]
          exact hr _
        · exact absurd (prI_0 H m m1 m2) c2
    · rw [f1, f2]
      exact OK2_same hR _
