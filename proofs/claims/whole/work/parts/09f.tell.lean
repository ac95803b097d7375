/-! ===== a line is told ===== -/
/-- what houses do now, in both -/
def NW (s u : St) (H D : Nat) : Prop := ∀ h, h < 8 → u 1 h = s 16 h ∧ (s 16 h = -1 ∨ ∃ d, d < D ∧ s 16 h = nI d) ∧ (H ≤ h → s 16 h = -1)
/-- what no line changes -/
def SF (s u s1 u1 : St) : Prop := (∀ i, i < 5 ∨ i = 14 ∨ i = 15 ∨ 16 < i → s1 i = s i) ∧ (∀ i, i = 2 ∨ i = 3 ∨ i = 4 ∨ 8 < i → u1 i = u i) ∧ (∀ k, k ≠ 6 → k ≠ 11 → u1 0 k = u 0 k)
def TS (n r : Nat) (s u : St) (H1 D1 : Nat) : Prop := ∃ s1 u1 F1, f_X5_perform n (nI r) s = some s1 ∧ f_X6_tell n ((5 : Int32) * nI r) u = some u1 ∧ RT s1 u1 H1 D1 F1 ∧ NW s1 u1 H1 D1 ∧ SF s u s1 u1
theorem leP : ∀ N, N < 9 → ∀ x, x < 100 → nI x ≤ nI N - 1 → x < N := by decide +kernel
theorem bA {H D x : Nat} (hH : H < 9) (hx : x ≤ 99) (h : nI x ≤ hiC 65 (nI H) (nI D)) : x < H := by
  unfold hiC at h
  rw [if_pos rfl] at h
  exact leP H hH x (by omega) h
theorem bD {H D x : Nat} (hD : D < 9) (hx : x ≤ 99) (h : nI x ≤ hiC 68 (nI H) (nI D)) : x < D := by
  unfold hiC at h
  rw [if_neg (by decide), if_pos rfl] at h
  exact leP D hD x (by omega) h
theorem bS {H D x : Nat} (hx : x ≤ 99) (h : nI x ≤ hiC 83 (nI H) (nI D)) : x ≤ 15 := by
  unfold hiC at h
  rw [if_neg (by decide), if_neg (by decide), if_neg (by decide), if_pos rfl, show (15 : Int32) = nI 15 from rfl, leI (by omega) (by omega)] at h
  exact h
theorem bV {H D x : Nat} (hx : x ≤ 99) (h : nI x ≤ hiC 86 (nI H) (nI D)) : x ≤ 9 := by
  unfold hiC at h
  rw [if_neg (by decide), if_neg (by decide), if_neg (by decide), if_neg (by decide), show (9 : Int32) = nI 9 from rfl, leI (by omega) (by omega)] at h
  exact h
theorem bN {H D x : Nat} (hx : x ≤ 99) (h1 : loC 78 ≤ nI x) (h : nI x ≤ hiC 78 (nI H) (nI D)) : 2 ≤ x ∧ x ≤ 8 := by
  unfold hiC at h
  unfold loC at h1
  rw [if_pos rfl, show (2 : Int32) = nI 2 from rfl, leI (by omega) (by omega)] at h1
  rw [if_neg (by decide), if_neg (by decide), if_pos rfl, show (8 : Int32) = nI 8 from rfl, leI (by omega) (by omega)] at h
  exact ⟨h1, h⟩
theorem row2 {f g : Nat → Int32} {P : Int32 → Prop} {N k : Nat} {x : Int32} (h : ∀ i, i < N → g i = f i ∧ P (f i)) (hx : P x) : ∀ i, i < N → upd g k x i = upd f k x i ∧ P (upd f k x i) := by
  intro i hi
  by_cases c : i = k
  · rw [c, ud_s, ud_s]
    exact ⟨rfl, hx⟩
  · rw [ud_n _ _ c, ud_n _ _ c]
    exact h i hi
theorem RD_fr {a b a1 b1 : St} {H F d : Nat} (h : RD a b H F d) (h9 : ∀ i, 9 ≤ i → i ≤ 13 → a1 i = a i) (h8 : b1 8 = b 8) : RD a1 b1 H F d := by
  unfold RD at h ⊢
  rw [h9 9 (by omega) (by omega), h9 10 (by omega) (by omega), h9 11 (by omega) (by omega), h9 12 (by omega) (by omega), h9 13 (by omega) (by omega), h8]
  exact h
theorem NW_fr {s u s1 u1 : St} {H D : Nat} (h : NW s u H D) (e : s1 16 = s 16) (e1 : u1 1 = u 1) : NW s1 u1 H D := by
  unfold NW at h ⊢
  rw [e, e1]
  exact h
theorem NW_up {s u : St} {H D k : Nat} {x : Int32} (h : NW s u H D) (hk : k < H) (hx : x = -1 ∨ ∃ d, d < D ∧ x = nI d) : NW (up s 16 k x) (up u 1 k x) H D := by
  intro i hi
  rw [up_s, up_s]
  by_cases c : i = k
  · rw [c, ud_s, ud_s]
    exact ⟨rfl, hx, fun z => absurd z (by omega)⟩
  · rw [ud_n _ _ c, ud_n _ _ c]
    exact h i hi
theorem x_num {s : St} {r k : Nat} (hr : r < 10) (hk : k < 4) : f_X2_number (nI r) (nI k) s = some (s 4 (4 * r + k)) := by
  unfold f_X2_number
  have z := e44 r hr k hk
  rw [z.1, if_neg (by
    rintro (y | y)
    · exact z.2 y
    · omega)]
theorem x_nums {s : St} {r : Nat} (hr : r < 10) : f_X2_number (nI r) 0 s = some (s 4 (4 * r + 0)) ∧ f_X2_number (nI r) 1 s = some (s 4 (4 * r + 1)) ∧ f_X2_number (nI r) 2 s = some (s 4 (4 * r + 2)) ∧ f_X2_number (nI r) 3 s = some (s 4 (4 * r + 3)) := ⟨x_num (k := 0) hr (by omega), x_num (k := 1) hr (by omega), x_num (k := 2) hr (by omega), x_num (k := 3) hr (by omega)⟩
theorem m_base (r : Nat) : (5 : Int32) * nI r = nI (5 * r) ∧ nI (5 * r) + 1 = nI (5 * r + 1) ∧ nI (5 * r) + 2 = nI (5 * r + 2) ∧ nI (5 * r) + 3 = nI (5 * r + 3) := by
  refine ⟨?_, nI_1 _, ?_, ?_⟩
  · rw [show (5 : Int32) = nI 5 from rfl, pk_mul]
  · rw [show (2 : Int32) = nI 2 from rfl, nI_add]
  · rw [show (3 : Int32) = nI 3 from rfl, nI_add]
/-- X, told one line, by its word -/
theorem x_tell {s : St} {n r w : Nat} (hr : r < 10) (h3 : s 3 r = nI w) : f_X5_perform n (nI r) s =
    if nI w = 4 then
      (f_X4_restart n (s 4 (4 * r + 0)) s).bind fun q5 => (f_X0_idleAll n 15 q5).bind fun q6 => some q6
    else if nI w = 5 then
      if s 4 (4 * r + 0) < 0 ∨ 8 ≤ (s 4 (4 * r + 0)).toNatClampNeg then none else some (up s 6 (s 4 (4 * r + 0)).toNatClampNeg (s 4 (4 * r + 1)))
    else if nI w = 6 then
      if s 4 (4 * r + 0) < 0 ∨ 8 ≤ (s 4 (4 * r + 0)).toNatClampNeg then none else some (up s 6 (s 4 (4 * r + 0)).toNatClampNeg (-1))
    else if nI w = 7 then
      if s 4 (4 * r + 0) < 0 ∨ 8 ≤ (s 4 (4 * r + 0)).toNatClampNeg then none else some (up s 7 (s 4 (4 * r + 0)).toNatClampNeg (s 4 (4 * r + 1)))
    else if nI w = 8 then
      (f_X4_can (s 4 (4 * r + 0)) (s 4 (4 * r + 1)) (s 5 2) s).bind fun q7 =>
      if q7 = 0 then
        if s 4 (4 * r + 0) < 0 ∨ 8 ≤ (s 4 (4 * r + 0)).toNatClampNeg then none else some (up s 16 (s 4 (4 * r + 0)).toNatClampNeg (-1))
      else
        if s 4 (4 * r + 0) < 0 ∨ 8 ≤ (s 4 (4 * r + 0)).toNatClampNeg then none else some (up s 16 (s 4 (4 * r + 0)).toNatClampNeg (s 4 (4 * r + 1)))
    else if nI w = 9 then
      if s 4 (4 * r + 0) < 0 ∨ 8 ≤ (s 4 (4 * r + 0)).toNatClampNeg then none else some (up s 16 (s 4 (4 * r + 0)).toNatClampNeg (-1))
    else if nI w = 10 then
      (f_X4_setLiking (s 4 (4 * r + 0)) (s 4 (4 * r + 1)) (s 4 (4 * r + 2)) s).bind fun q8 => some q8
    else if nI w = 11 then
      some (up s 5 2 ((s 5 2) ||| ((1 : Int32) <<< (s 4 (4 * r + 0) &&& 31))))
    else if nI w = 12 then
      some (up s 5 2 ((s 5 2) &&& (((1 : Int32) <<< (s 4 (4 * r + 0) &&& 31)) ^^^ (-1))))
    else
      (f_X4_addDeed (nI w) (s 4 (4 * r + 0)) (s 4 (4 * r + 1)) (s 4 (4 * r + 2)) (s 4 (4 * r + 3)) s).bind fun q9 => some q9 := by
  obtain ⟨n0, n1, n2, n3⟩ := x_nums (s := s) hr
  unfold f_X5_perform
  rw [n0, n1, n2, n3]
  simp only [Option.bind_some, cl (show r < 100000 by omega), gj hr (show 10 ≤ 100000 by omega), if_false, h3]
theorem t_across {s u : St} {n r H D F : Nat} {v : Nat → Nat} (hr : r < 10) (hL : LN s u r 5 v H D) (hT : RT s u H D F) (hI : NW s u H D) : TS n r s u H D := by
  obtain ⟨hw, h3, h4, hv, -, -⟩ := hL
  obtain ⟨⟨g1, g2, g3, g4⟩, ⟨e1, e2, e3, e4, e5⟩, tA, tT, tL, tD⟩ := hT
  obtain ⟨x0, m0, c0, -, b0⟩ := hv 0 (by decide)
  obtain ⟨x1, m1, c1, -, b1⟩ := hv 1 (by decide)
  have v0 : v 0 < H := bA (by omega) c0 b0
  have v1 : v 1 < H := bA (by omega) c1 b1
  have m0 : u 4 (5 * r + 1) = nI (v 0) := m0
  have m1 : u 4 (5 * r + 2) = nI (v 1) := m1
  have h4 : u 4 (5 * r) = nI 1 := h4
  obtain ⟨z0, z1, z2, z3⟩ := m_base r
  refine ⟨up s 6 (v 0) (nI (v 1)), up u 5 (v 0) (nI (v 1)), F, ?_, ?_, ⟨⟨g1, g2, g3, g4⟩, ⟨by rw [up_n _ _ _ (by omega)]; exact e1, by rw [up_n _ _ _ (by omega)]; exact e2, by rw [up_n _ _ _ (by omega)]; exact e3, by rw [up_n _ _ _ (by omega)]; exact e4, by rw [up_n _ _ _ (by omega)]; exact e5⟩, ?_, ?_, ?_, fun d hd => RD_fr (tD d hd) (fun i _ _ => up_n _ _ _ (by omega)) (up_n _ _ _ (by omega))⟩, NW_fr hI (up_n _ _ _ (by omega)) (up_n _ _ _ (by omega)), fun i hi => up_n _ _ _ (by omega), fun i hi => up_n _ _ _ (by omega), fun k _ _ => by rw [up_n _ _ _ (by omega)]⟩
  · rw [x_tell hr h3, if_neg (by decide), if_pos (by decide), x0, x1]
    simp only [cl (show v 0 < 100000 by omega), gj (show v 0 < 8 by omega) (show 8 ≤ 100000 by omega), if_false]
  · rw [z0]
    unfold f_X6_tell
    simp only [z1, z2, cl (show 5 * r < 100000 by omega), cl (show 5 * r + 1 < 100000 by omega), cl (show 5 * r + 2 < 100000 by omega), gj (show 5 * r < 50 by omega) (show 50 ≤ 100000 by omega), gj (show 5 * r + 1 < 50 by omega) (show 50 ≤ 100000 by omega), gj (show 5 * r + 2 < 50 by omega) (show 50 ≤ 100000 by omega), if_false, h4, m0, m1, cl (show v 0 < 100000 by omega), gj (show v 0 < 8 by omega) (show 8 ≤ 100000 by omega)]
    rw [if_neg (by decide), if_pos (by decide)]
  · rw [up_s, up_s]
    exact row2 (P := fun x => x = -1 ∨ ∃ k, k < H ∧ x = nI k) tA (Or.inr ⟨v 1, v1, rfl⟩)
  · rw [up_n _ _ _ (by omega), up_n _ _ _ (by omega)]
    exact tT
  · rw [up_n _ _ _ (by omega), up_n _ _ _ (by omega)]
    exact tL
theorem t_gap {s u : St} {n r H D F : Nat} {v : Nat → Nat} (hr : r < 10) (hL : LN s u r 6 v H D) (hT : RT s u H D F) (hI : NW s u H D) : TS n r s u H D := by
  obtain ⟨hw, h3, h4, hv, -, -⟩ := hL
  obtain ⟨⟨g1, g2, g3, g4⟩, ⟨e1, e2, e3, e4, e5⟩, tA, tT, tL, tD⟩ := hT
  obtain ⟨x0, m0, c0, -, b0⟩ := hv 0 (by decide)
  have v0 : v 0 < H := bA (by omega) c0 b0
  have m0 : u 4 (5 * r + 1) = nI (v 0) := m0
  have h4 : u 4 (5 * r) = nI 2 := h4
  obtain ⟨z0, z1, z2, z3⟩ := m_base r
  refine ⟨up s 6 (v 0) (-1), up u 5 (v 0) (-1), F, ?_, ?_, ⟨⟨g1, g2, g3, g4⟩, ⟨by rw [up_n _ _ _ (by omega)]; exact e1, by rw [up_n _ _ _ (by omega)]; exact e2, by rw [up_n _ _ _ (by omega)]; exact e3, by rw [up_n _ _ _ (by omega)]; exact e4, by rw [up_n _ _ _ (by omega)]; exact e5⟩, ?_, ?_, ?_, fun d hd => RD_fr (tD d hd) (fun i _ _ => up_n _ _ _ (by omega)) (up_n _ _ _ (by omega))⟩, NW_fr hI (up_n _ _ _ (by omega)) (up_n _ _ _ (by omega)), fun i hi => up_n _ _ _ (by omega), fun i hi => up_n _ _ _ (by omega), fun k _ _ => by rw [up_n _ _ _ (by omega)]⟩
  · rw [x_tell hr h3, if_neg (by decide), if_neg (by decide), if_pos (by decide), x0]
    simp only [cl (show v 0 < 100000 by omega), gj (show v 0 < 8 by omega) (show 8 ≤ 100000 by omega), if_false]
  · rw [z0]
    unfold f_X6_tell
    simp only [z1, z2, cl (show 5 * r < 100000 by omega), cl (show 5 * r + 1 < 100000 by omega), cl (show 5 * r + 2 < 100000 by omega), gj (show 5 * r < 50 by omega) (show 50 ≤ 100000 by omega), gj (show 5 * r + 1 < 50 by omega) (show 50 ≤ 100000 by omega), gj (show 5 * r + 2 < 50 by omega) (show 50 ≤ 100000 by omega), if_false, h4, m0, cl (show v 0 < 100000 by omega), gj (show v 0 < 8 by omega) (show 8 ≤ 100000 by omega)]
    rw [if_neg (by decide), if_neg (by decide), if_pos (by decide)]
  · rw [up_s, up_s]
    exact row2 (P := fun x => x = -1 ∨ ∃ k, k < H ∧ x = nI k) tA (Or.inl rfl)
  · rw [up_n _ _ _ (by omega), up_n _ _ _ (by omega)]
    exact tT
  · rw [up_n _ _ _ (by omega), up_n _ _ _ (by omega)]
    exact tL
theorem t_tools {s u : St} {n r H D F : Nat} {v : Nat → Nat} (hr : r < 10) (hL : LN s u r 7 v H D) (hT : RT s u H D F) (hI : NW s u H D) : TS n r s u H D := by
  obtain ⟨hw, h3, h4, hv, -, -⟩ := hL
  obtain ⟨⟨g1, g2, g3, g4⟩, ⟨e1, e2, e3, e4, e5⟩, tA, tT, tL, tD⟩ := hT
  obtain ⟨x0, m0, c0, -, b0⟩ := hv 0 (by decide)
  obtain ⟨x1, m1, c1, -, b1⟩ := hv 1 (by decide)
  have v0 : v 0 < H := bA (by omega) c0 b0
  have v1 : v 1 ≤ 15 := bS c1 b1
  have m0 : u 4 (5 * r + 1) = nI (v 0) := m0
  have m1 : u 4 (5 * r + 2) = nI (v 1) := m1
  have h4 : u 4 (5 * r) = nI 3 := h4
  obtain ⟨z0, z1, z2, z3⟩ := m_base r
  refine ⟨up s 7 (v 0) (nI (v 1)), up u 6 (v 0) (nI (v 1)), F, ?_, ?_, ⟨⟨g1, g2, g3, g4⟩, ⟨by rw [up_n _ _ _ (by omega)]; exact e1, by rw [up_n _ _ _ (by omega)]; exact e2, by rw [up_n _ _ _ (by omega)]; exact e3, by rw [up_n _ _ _ (by omega)]; exact e4, by rw [up_n _ _ _ (by omega)]; exact e5⟩, ?_, ?_, ?_, fun d hd => RD_fr (tD d hd) (fun i _ _ => up_n _ _ _ (by omega)) (up_n _ _ _ (by omega))⟩, NW_fr hI (up_n _ _ _ (by omega)) (up_n _ _ _ (by omega)), fun i hi => up_n _ _ _ (by omega), fun i hi => up_n _ _ _ (by omega), fun k _ _ => by rw [up_n _ _ _ (by omega)]⟩
  · rw [x_tell hr h3, if_neg (by decide), if_neg (by decide), if_neg (by decide), if_pos (by decide), x0, x1]
    simp only [cl (show v 0 < 100000 by omega), gj (show v 0 < 8 by omega) (show 8 ≤ 100000 by omega), if_false]
  · rw [z0]
    unfold f_X6_tell
    simp only [z1, z2, cl (show 5 * r < 100000 by omega), cl (show 5 * r + 1 < 100000 by omega), cl (show 5 * r + 2 < 100000 by omega), gj (show 5 * r < 50 by omega) (show 50 ≤ 100000 by omega), gj (show 5 * r + 1 < 50 by omega) (show 50 ≤ 100000 by omega), gj (show 5 * r + 2 < 50 by omega) (show 50 ≤ 100000 by omega), if_false, h4, m0, m1, cl (show v 0 < 100000 by omega), gj (show v 0 < 8 by omega) (show 8 ≤ 100000 by omega)]
    rw [if_neg (by decide), if_neg (by decide), if_neg (by decide), if_pos (by decide)]
  · rw [up_n _ _ _ (by omega), up_n _ _ _ (by omega)]
    exact tA
  · rw [up_s, up_s]
    exact row2 (P := fun x => ∃ t, t ≤ 15 ∧ x = nI t) tT ⟨v 1, v1, rfl⟩
  · rw [up_n _ _ _ (by omega), up_n _ _ _ (by omega)]
    exact tL
/-- what a house does changes, in both -/
theorem RT_now {s u : St} {H D F k : Nat} {x : Int32} (hT : RT s u H D F) : RT (up s 16 k x) (up u 1 k x) H D F :=
  RT_fr hT (fun i hi => up_n _ _ _ (by omega)) (fun i hi => up_n _ _ _ (by omega)) (by rw [up_n _ _ _ (by omega)]) (by rw [up_n _ _ _ (by omega)])
theorem SF_now {s u : St} {k : Nat} {x : Int32} : SF s u (up s 16 k x) (up u 1 k x) := ⟨fun i hi => up_n _ _ _ (by omega), fun i hi => up_n _ _ _ (by omega), fun k _ _ => by rw [up_n _ _ _ (by omega)]⟩
theorem t_idle {s u : St} {n r H D F : Nat} {v : Nat → Nat} (hr : r < 10) (hL : LN s u r 9 v H D) (hT : RT s u H D F) (hI : NW s u H D) : TS n r s u H D := by
  obtain ⟨hw, h3, h4, hv, -, -⟩ := hL
  have g := hT.1
  obtain ⟨x0, m0, c0, -, b0⟩ := hv 0 (by decide)
  have v0 : v 0 < H := bA (by omega) c0 b0
  have m0 : u 4 (5 * r + 1) = nI (v 0) := m0
  have h4 : u 4 (5 * r) = nI 9 := h4
  obtain ⟨z0, z1, z2, z3⟩ := m_base r
  refine ⟨up s 16 (v 0) (-1), up u 1 (v 0) (-1), F, ?_, ?_, RT_now hT, NW_up hI v0 (Or.inl rfl), SF_now⟩
  · rw [x_tell hr h3, if_neg (by decide), if_neg (by decide), if_neg (by decide), if_neg (by decide), if_neg (by decide), if_pos (by decide), x0]
    simp only [cl (show v 0 < 100000 by omega), gj (show v 0 < 8 by omega) (show 8 ≤ 100000 by omega), if_false]
  · rw [z0]
    unfold f_X6_tell
    simp only [z1, z2, cl (show 5 * r < 100000 by omega), cl (show 5 * r + 1 < 100000 by omega), cl (show 5 * r + 2 < 100000 by omega), gj (show 5 * r < 50 by omega) (show 50 ≤ 100000 by omega), gj (show 5 * r + 1 < 50 by omega) (show 50 ≤ 100000 by omega), gj (show 5 * r + 2 < 50 by omega) (show 50 ≤ 100000 by omega), if_false, h4, m0, cl (show v 0 < 100000 by omega), gj (show v 0 < 51 by omega) (show 51 ≤ 100000 by omega)]
    rw [if_neg (by decide), if_neg (by decide), if_neg (by decide), if_neg (by decide), if_neg (by decide), if_neg (by decide), if_neg (by decide), if_neg (by decide), if_neg (by decide), if_pos (by decide)]
theorem t_does {s u : St} {n r H D F : Nat} {v : Nat → Nat} (hn : 3000 ≤ n) (hr : r < 10) (hL : LN s u r 8 v H D) (hT : RT s u H D F) (hI : NW s u H D) : TS n r s u H D := by
  obtain ⟨hw, h3, h4, hv, -, -⟩ := hL
  have g := hT.1
  obtain ⟨x0, m0, c0, -, b0⟩ := hv 0 (by decide)
  obtain ⟨x1, m1, c1, -, b1⟩ := hv 1 (by decide)
  have v0 : v 0 < H := bA (by omega) c0 b0
  have v1 : v 1 < D := bD (by omega) c1 b1
  have m0 : u 4 (5 * r + 1) = nI (v 0) := m0
  have m1 : u 4 (5 * r + 2) = nI (v 1) := m1
  have h4 : u 4 (5 * r) = nI 8 := h4
  obtain ⟨z0, z1, z2, z3⟩ := m_base r
  have hW := WT_of hT
  have y1 := x_canF (a := s) hW.2.1.2.2.2 (show v 0 < 8 by omega) (show v 1 < 6 by omega)
  have y2 := m_can (n := n) (by omega) hT (show v 0 < 8 by omega) v1
  refine ⟨up s 16 (v 0) (if canT s F (v 0) (v 1) = true then nI (v 1) else -1), up u 1 (v 0) (if canT s F (v 0) (v 1) = true then nI (v 1) else -1), F, ?_, ?_, RT_now hT, NW_up hI v0 ?_, SF_now⟩
  · rw [x_tell hr h3, if_neg (by decide), if_neg (by decide), if_neg (by decide), if_neg (by decide), if_pos (by decide), x0, x1, hW.2.1.2.2.1, y1]
    simp only [Option.bind_some, cl (show v 0 < 100000 by omega), gj (show v 0 < 8 by omega) (show 8 ≤ 100000 by omega), if_false]
    cases canT s F (v 0) (v 1)
    · rfl
    · rfl
  · rw [z0]
    unfold f_X6_tell
    simp only [z1, z2, cl (show 5 * r < 100000 by omega), cl (show 5 * r + 1 < 100000 by omega), cl (show 5 * r + 2 < 100000 by omega), gj (show 5 * r < 50 by omega) (show 50 ≤ 100000 by omega), gj (show 5 * r + 1 < 50 by omega) (show 50 ≤ 100000 by omega), gj (show 5 * r + 2 < 50 by omega) (show 50 ≤ 100000 by omega), if_false, h4, m0, m1, cl (show v 0 < 100000 by omega), gj (show v 0 < 51 by omega) (show 51 ≤ 100000 by omega), y2, Option.bind_some]
    rw [if_neg (by decide), if_neg (by decide), if_neg (by decide), if_neg (by decide), if_neg (by decide), if_neg (by decide), if_neg (by decide), if_neg (by decide), if_pos (by decide)]
    cases canT s F (v 0) (v 1)
    · rfl
    · rfl
  · by_cases c : canT s F (v 0) (v 1) = true
    · rw [if_pos c]
      exact Or.inr ⟨v 1, v1, rfl⟩
    · rw [if_neg c]
      exact Or.inl rfl
theorem f88 : ∀ a, a < 8 → ∀ b, b < 8 → ((nI a * 8 + nI b).toNatClampNeg = 8 * a + b ∧ ¬ (nI a * 8 + nI b < 0)) ∧ ((8 : Int32) * nI a + nI b).toNatClampNeg = 8 * a + b ∧ ¬ ((8 : Int32) * nI a + nI b < 0) := by decide +kernel
theorem t_like {s u : St} {n r H D F : Nat} {v : Nat → Nat} (hr : r < 10) (hL : LN s u r 10 v H D) (hT : RT s u H D F) (hI : NW s u H D) : TS n r s u H D := by
  obtain ⟨hw, h3, h4, hv, -, -⟩ := hL
  obtain ⟨⟨g1, g2, g3, g4⟩, ⟨e1, e2, e3, e4, e5⟩, tA, tT, tL, tD⟩ := hT
  obtain ⟨x0, m0, c0, -, b0⟩ := hv 0 (by decide)
  obtain ⟨x1, m1, c1, -, b1⟩ := hv 1 (by decide)
  obtain ⟨x2, m2, c2, -, b2⟩ := hv 2 (by decide)
  have v0 : v 0 < H := bA (by omega) c0 b0
  have v1 : v 1 < H := bA (by omega) c1 b1
  have v2 : v 2 ≤ 9 := bV c2 b2
  have m0 : u 4 (5 * r + 1) = nI (v 0) := m0
  have m1 : u 4 (5 * r + 2) = nI (v 1) := m1
  have m2 : u 4 (5 * r + 3) = nI (v 2) := m2
  have h4 : u 4 (5 * r) = nI 10 := h4
  obtain ⟨z0, z1, z2, z3⟩ := m_base r
  obtain ⟨⟨p1, p2⟩, p3, p4⟩ := f88 (v 0) (by omega) (v 1) (by omega)
  obtain ⟨⟨q1, q2⟩, q3, q4⟩ := f88 (v 1) (by omega) (v 0) (by omega)
  have w1 : 8 * v 0 + v 1 < 64 := by omega
  have w2 : 8 * v 1 + v 0 < 64 := by omega
  refine ⟨up (up s 8 (8 * v 0 + v 1) (nI (v 2))) 8 (8 * v 1 + v 0) (nI (v 2)), up (up u 7 (8 * v 0 + v 1) (nI (v 2))) 7 (8 * v 1 + v 0) (nI (v 2)), F, ?_, ?_, ⟨⟨g1, g2, g3, g4⟩, ⟨by rw [up_n _ _ _ (by omega), up_n _ _ _ (by omega)]; exact e1, by rw [up_n _ _ _ (by omega), up_n _ _ _ (by omega)]; exact e2, by rw [up_n _ _ _ (by omega), up_n _ _ _ (by omega)]; exact e3, by rw [up_n _ _ _ (by omega), up_n _ _ _ (by omega)]; exact e4, by rw [up_n _ _ _ (by omega), up_n _ _ _ (by omega)]; exact e5⟩, ?_, ?_, ?_, fun d hd => RD_fr (tD d hd) (fun i _ _ => by rw [up_n _ _ _ (by omega), up_n _ _ _ (by omega)]) (by rw [up_n _ _ _ (by omega), up_n _ _ _ (by omega)])⟩, NW_fr hI (by rw [up_n _ _ _ (by omega), up_n _ _ _ (by omega)]) (by rw [up_n _ _ _ (by omega), up_n _ _ _ (by omega)]), fun i hi => by rw [up_n _ _ _ (by omega), up_n _ _ _ (by omega)], fun i hi => by rw [up_n _ _ _ (by omega), up_n _ _ _ (by omega)], fun k _ _ => by rw [up_n _ _ _ (by omega), up_n _ _ _ (by omega)]⟩
  · rw [x_tell hr h3, if_neg (by decide), if_neg (by decide), if_neg (by decide), if_neg (by decide), if_neg (by decide), if_neg (by decide), if_pos (by decide), x0, x1, x2]
    unfold f_X4_setLiking
    simp only [p1, q1, eq_false p2, eq_false q2, eq_false (show ¬ 64 ≤ 8 * v 0 + v 1 by omega), eq_false (show ¬ 64 ≤ 8 * v 1 + v 0 by omega), or_self, if_false, Option.bind_some]
  · rw [z0]
    unfold f_X6_tell
    simp only [z1, z2, z3, cl (show 5 * r < 100000 by omega), cl (show 5 * r + 1 < 100000 by omega), cl (show 5 * r + 2 < 100000 by omega), cl (show 5 * r + 3 < 100000 by omega), gj (show 5 * r < 50 by omega) (show 50 ≤ 100000 by omega), gj (show 5 * r + 1 < 50 by omega) (show 50 ≤ 100000 by omega), gj (show 5 * r + 2 < 50 by omega) (show 50 ≤ 100000 by omega), gj (show 5 * r + 3 < 50 by omega) (show 50 ≤ 100000 by omega), if_false, h4, m0, m1, m2, p3, q3, eq_false p4, eq_false q4, eq_false (show ¬ 64 ≤ 8 * v 0 + v 1 by omega), eq_false (show ¬ 64 ≤ 8 * v 1 + v 0 by omega), or_self, up_n _ _ _ (show (4 : Nat) ≠ 7 by omega)]
    rw [if_neg (by decide), if_neg (by decide), if_neg (by decide), if_neg (by decide), if_neg (by decide), if_neg (by decide), if_neg (by decide), if_neg (by decide), if_neg (by decide), if_neg (by decide), if_pos (by decide)]
  · rw [up_n _ _ _ (by omega), up_n _ _ _ (by omega), up_n _ _ _ (by omega), up_n _ _ _ (by omega)]
    exact tA
  · rw [up_n _ _ _ (by omega), up_n _ _ _ (by omega), up_n _ _ _ (by omega), up_n _ _ _ (by omega)]
    exact tT
  · rw [up_s, up_s, up_s, up_s]
    exact row2 (P := fun x => ∃ t, t ≤ 9 ∧ x = nI t) (row2 (P := fun x => ∃ t, t ≤ 9 ∧ x = nI t) tL ⟨v 2, v2, rfl⟩) ⟨v 2, v2, rfl⟩
/-- what is forbidden, as bits -/
theorem fbOr1 : ∀ F, F < 64 → ∀ d, d < 6 → nI F ||| ((1 : Int32) <<< (nI d &&& 31)) = nI (F ||| 2 ^ d) := by decide +kernel
theorem fbOr2 : ∀ F, F < 64 → ∀ d, d < 6 → ∀ i, i < 6 → (F ||| 2 ^ d) / 2 ^ i % 2 = if i = d then 1 else F / 2 ^ i % 2 := by decide +kernel
theorem fbOr3 : ∀ D, D < 7 → ∀ d, d < D → ∀ F, F < 2 ^ D → (F ||| 2 ^ d) < 2 ^ D := by decide +kernel
theorem fbAnd1 : ∀ F, F < 64 → ∀ d, d < 6 → nI F &&& (((1 : Int32) <<< (nI d &&& 31)) ^^^ (-1)) = nI (F &&& (63 - 2 ^ d)) := by decide +kernel
theorem fbAnd2 : ∀ F, F < 64 → ∀ d, d < 6 → ∀ i, i < 6 → (F &&& (63 - 2 ^ d)) / 2 ^ i % 2 = if i = d then 0 else F / 2 ^ i % 2 := by decide +kernel
theorem fbAnd3 : ∀ D, D < 7 → ∀ d, d < D → ∀ F, F < 2 ^ D → (F &&& (63 - 2 ^ d)) < 2 ^ D := by decide +kernel
theorem fbOr {F d : Nat} (hF : F < 64) (hd : d < 6) : nI F ||| ((1 : Int32) <<< (nI d &&& 31)) = nI (F ||| 2 ^ d) ∧ (∀ i, i < 6 → (F ||| 2 ^ d) / 2 ^ i % 2 = if i = d then 1 else F / 2 ^ i % 2) ∧ ∀ D, D < 7 → d < D → F < 2 ^ D → (F ||| 2 ^ d) < 2 ^ D := ⟨fbOr1 F hF d hd, fbOr2 F hF d hd, fun D h1 h2 h3 => fbOr3 D h1 d h2 F h3⟩
theorem fbAnd {F d : Nat} (hF : F < 64) (hd : d < 6) : nI F &&& (((1 : Int32) <<< (nI d &&& 31)) ^^^ (-1)) = nI (F &&& (63 - 2 ^ d)) ∧ (∀ i, i < 6 → (F &&& (63 - 2 ^ d)) / 2 ^ i % 2 = if i = d then 0 else F / 2 ^ i % 2) ∧ ∀ D, D < 7 → d < D → F < 2 ^ D → (F &&& (63 - 2 ^ d)) < 2 ^ D := ⟨fbAnd1 F hF d hd, fbAnd2 F hF d hd, fun D h1 h2 h3 => fbAnd3 D h1 d h2 F h3⟩
theorem RT_fb {s u : St} {H D F F1 d x : Nat} (hT : RT s u H D F) (hd : d < D) (hF : F1 < 2 ^ D) (hb : ∀ i, i < 6 → F1 / 2 ^ i % 2 = if i = d then x else F / 2 ^ i % 2) : RT (up s 5 2 (nI F1)) (up u 8 (6 * d + 5) (nI x)) H D F1 := by
  obtain ⟨⟨g1, g2, g3, g4⟩, ⟨e1, e2, e3, e4, e5⟩, tA, tT, tL, tD⟩ := hT
  refine ⟨⟨g1, g2, g3, hF⟩, ⟨by rw [up_s, ud_n _ _ (by omega)]; exact e1, by rw [up_n _ _ _ (by omega)]; exact e2, by rw [up_s, ud_n _ _ (by omega)]; exact e3, by rw [up_n _ _ _ (by omega)]; exact e4, by rw [up_s, ud_s]⟩, ?_, ?_, ?_, fun i hi => ?_⟩
  · rw [up_n _ _ _ (by omega), up_n _ _ _ (by omega)]
    exact tA
  · rw [up_n _ _ _ (by omega), up_n _ _ _ (by omega)]
    exact tT
  · rw [up_n _ _ _ (by omega), up_n _ _ _ (by omega)]
    exact tL
  · obtain ⟨⟨r0, r1, r2, r3, r4, r5⟩, q⟩ := tD i hi
    have hi6 : i < 6 := by omega
    refine ⟨⟨?_, ?_, ?_, ?_, ?_, ?_⟩, q⟩
    · rw [up_s, ud_n _ _ (by omega), up_n _ _ _ (by omega)]; exact r0
    · rw [up_s, ud_n _ _ (by omega), up_n _ _ _ (by omega)]; exact r1
    · rw [up_s, ud_n _ _ (by omega), up_n _ _ _ (by omega)]; exact r2
    · rw [up_s, ud_n _ _ (by omega), up_n _ _ _ (by omega)]; exact r3
    · rw [up_s, ud_n _ _ (by omega), up_n _ _ _ (by omega)]; exact r4
    · rw [up_s, hb i hi6]
      by_cases c : i = d
      · rw [c, ud_s, if_pos rfl]
      · rw [ud_n _ _ (by omega), if_neg c]
        exact r5
theorem SF_fb {s u : St} {d : Nat} {x y : Int32} : SF s u (up s 5 2 x) (up u 8 d y) := ⟨fun i hi => up_n _ _ _ (by omega), fun i hi => up_n _ _ _ (by omega), fun k _ _ => by rw [up_n _ _ _ (by omega)]⟩
theorem t_forbid {s u : St} {n r H D F : Nat} {v : Nat → Nat} (hr : r < 10) (hL : LN s u r 11 v H D) (hT : RT s u H D F) (hI : NW s u H D) : TS n r s u H D := by
  obtain ⟨hw, h3, h4, hv, -, -⟩ := hL
  have g := hT.1
  obtain ⟨x0, m0, c0, -, b0⟩ := hv 0 (by decide)
  have v0 : v 0 < D := bD (by omega) c0 b0
  have m0 : u 4 (5 * r + 1) = nI (v 0) := m0
  have h4 : u 4 (5 * r) = nI 11 := h4
  obtain ⟨z0, z1, z2, z3⟩ := m_base r
  have hW := WT_of hT
  have d6 : v 0 < 6 := by omega
  obtain ⟨f1, f2, f3⟩ := fbOr hW.2.1.2.2.2 d6
  refine ⟨up s 5 2 (nI (F ||| 2 ^ v 0)), up u 8 (6 * v 0 + 5) (nI 1), F ||| 2 ^ v 0, ?_, ?_, RT_fb hT v0 (f3 D (by omega) v0 g.2.2.2) f2, NW_fr hI (up_n _ _ _ (by omega)) (up_n _ _ _ (by omega)), SF_fb⟩
  · rw [x_tell hr h3, if_neg (by decide), if_neg (by decide), if_neg (by decide), if_neg (by decide), if_neg (by decide), if_neg (by decide), if_neg (by decide), if_pos (by decide), x0, hW.2.1.2.2.1, f1]
  · rw [z0]
    unfold f_X6_tell
    simp only [z1, z2, cl (show 5 * r < 100000 by omega), cl (show 5 * r + 1 < 100000 by omega), cl (show 5 * r + 2 < 100000 by omega), gj (show 5 * r < 50 by omega) (show 50 ≤ 100000 by omega), gj (show 5 * r + 1 < 50 by omega) (show 50 ≤ 100000 by omega), gj (show 5 * r + 2 < 50 by omega) (show 50 ≤ 100000 by omega), if_false, h4, m0, e65 (v 0) d6, s65 (v 0) d6, n65 d6, or_self]
    rw [if_neg (by decide), if_neg (by decide), if_neg (by decide), if_neg (by decide), if_neg (by decide), if_neg (by decide), if_neg (by decide), if_neg (by decide), if_neg (by decide), if_neg (by decide), if_neg (by decide), if_pos (by decide), if_pos (by decide)]
    rfl
theorem t_allow {s u : St} {n r H D F : Nat} {v : Nat → Nat} (hr : r < 10) (hL : LN s u r 12 v H D) (hT : RT s u H D F) (hI : NW s u H D) : TS n r s u H D := by
  obtain ⟨hw, h3, h4, hv, -, -⟩ := hL
  have g := hT.1
  obtain ⟨x0, m0, c0, -, b0⟩ := hv 0 (by decide)
  have v0 : v 0 < D := bD (by omega) c0 b0
  have m0 : u 4 (5 * r + 1) = nI (v 0) := m0
  have h4 : u 4 (5 * r) = nI 12 := h4
  obtain ⟨z0, z1, z2, z3⟩ := m_base r
  have hW := WT_of hT
  have d6 : v 0 < 6 := by omega
  obtain ⟨f1, f2, f3⟩ := fbAnd hW.2.1.2.2.2 d6
  refine ⟨up s 5 2 (nI (F &&& (63 - 2 ^ v 0))), up u 8 (6 * v 0 + 5) (nI 0), F &&& (63 - 2 ^ v 0), ?_, ?_, RT_fb hT v0 (f3 D (by omega) v0 g.2.2.2) f2, NW_fr hI (up_n _ _ _ (by omega)) (up_n _ _ _ (by omega)), SF_fb⟩
  · rw [x_tell hr h3, if_neg (by decide), if_neg (by decide), if_neg (by decide), if_neg (by decide), if_neg (by decide), if_neg (by decide), if_neg (by decide), if_neg (by decide), if_pos (by decide), x0, hW.2.1.2.2.1, f1]
  · rw [z0]
    unfold f_X6_tell
    simp only [z1, z2, cl (show 5 * r < 100000 by omega), cl (show 5 * r + 1 < 100000 by omega), cl (show 5 * r + 2 < 100000 by omega), gj (show 5 * r < 50 by omega) (show 50 ≤ 100000 by omega), gj (show 5 * r + 1 < 50 by omega) (show 50 ≤ 100000 by omega), gj (show 5 * r + 2 < 50 by omega) (show 50 ≤ 100000 by omega), if_false, h4, m0, e65 (v 0) d6, s65 (v 0) d6, n65 d6, or_self]
    rw [if_neg (by decide), if_neg (by decide), if_neg (by decide), if_neg (by decide), if_neg (by decide), if_neg (by decide), if_neg (by decide), if_neg (by decide), if_neg (by decide), if_neg (by decide), if_neg (by decide), if_neg (by decide), if_pos (by decide), if_neg (by decide)]
    rfl
