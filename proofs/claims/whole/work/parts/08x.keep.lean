/-! ===== images kept ===== -/
theorem e17 : ∀ x, x < 3 → ∀ k, k < 17 → ((17 : Int32) * nI x + nI k).toNatClampNeg = 17 * x + k ∧ ¬ ((17 : Int32) * nI x + nI k < 0) := by decide +kernel
theorem n17 {x k : Nat} (hx : x < 3) (hk : k < 17) : (51 ≤ 17 * x + k) = False := eq_false (by omega)
theorem m_copy {b : St} {n x y : Nat} (hn : 3000 ≤ n) (hx : x < 3) (hy : y < 3) (hxy : x ≠ y) : ∃ b1, f_X6_copy n (nI x) (nI y) b = some b1 ∧ (∀ i, i ≠ 1 → b1 i = b i) ∧ (∀ k, k < 17 → b1 1 (17 * y + k) = b 1 (17 * x + k)) ∧ ∀ k, (k < 17 * y ∨ 17 * y + 17 ≤ k) → b1 1 k = b 1 k := by
  obtain ⟨s1, ⟨p1, p2, p3⟩, g⟩ := loop_inv (fun j i (s : St) => L_X6_copy_2 n (nI x) (nI y) j i s) (fun s => some s) 17 0 (fun k s => (∀ i, i ≠ 1 → s i = b i) ∧ (∀ m, m < k → s 1 (17 * y + m) = b 1 (17 * x + m)) ∧ ∀ m, (m < 17 * y ∨ 17 * y + 17 ≤ m) → s 1 m = b 1 m) (s0 := b) (by omega) ⟨fun _ _ => rfl, fun m q => absurd q (by omega), fun _ _ => rfl⟩ (fun k s _ hk hP => by
    obtain ⟨q1, q2, q3⟩ := hP
    obtain ⟨ex, sx⟩ := e17 x hx k hk
    obtain ⟨ey, sy⟩ := e17 y hy k hk
    refine ⟨up s 1 (17 * y + k) (b 1 (17 * x + k)), ⟨fun i hi => by rw [up_n _ _ _ hi]; exact q1 i hi, fun m hm => ?_, fun m hm => by rw [up_s, ud_n _ _ (by omega)]; exact q3 m hm⟩, fun j => ?_⟩
    · rw [up_s]
      by_cases e : m = k
      · rw [e, ud_s]
      · rw [ud_n _ _ (by omega)]
        exact q2 m (by omega)
    · show L_X6_copy_2 n (nI x) (nI y) (j + 1) (nI k) s = L_X6_copy_2 n (nI x) (nI y) j (nI (k + 1)) _
      rw [L_X6_copy_2, if_neg (by rw [show (17 : Int32) = nI 17 from rfl, leI (by omega) (by omega)]; omega)]
      simp only [ex, ey, eq_false sx, eq_false sy, n17 hx hk, n17 hy hk, or_self, if_false, nI_1, q3 (17 * x + k) (by omega)]) (fun j s hP => by
    show L_X6_copy_2 n (nI x) (nI y) (j + 1) (nI 17) s = some s
    rw [L_X6_copy_2, if_pos (by decide)])
  exact ⟨s1, g n (by omega), p1, p2, p3⟩
theorem x_copy {a : St} {o o1 : Nat} (h1 : o + 1 ≠ o1 + 1) (h2 : o ≠ o1 + 1) (h3 : o ≠ o1 + 2) (h4 : o + 1 ≠ o1 + 2) : ∃ a1, f_X0_copy o o1 a = some a1 ∧ (∀ i, i ≠ o → i ≠ o + 1 → i ≠ o + 2 → a1 i = a i) ∧ a1 o 2 = a o1 2 ∧ (∀ k, k ≠ 2 → a1 o k = a o k) ∧ ∀ h, h < 8 → a1 (o + 1) h = a (o1 + 1) h ∧ a1 (o + 2) h = a (o1 + 2) h := by
  unfold f_X0_copy
  rw [if_neg (by decide), if_neg (by decide)]
  refine ⟨_, rfl, fun i g1 g2 g3 => by rw [ur_n _ _ g3, ur_n _ _ g2, up_n _ _ _ g1], by rw [ur_n _ _ (by omega), ur_n _ _ (by omega), up_s, ud_s], fun k hk => by rw [ur_n _ _ (by omega), ur_n _ _ (by omega), up_s, ud_n _ _ hk], fun h hh => ?_⟩
  have hc : ∀ f g : Nat → Int32, va_cpy f g ((0 : Int32).toNatClampNeg) ((0 : Int32).toNatClampNeg) ((8 : Int32).toNatClampNeg) h = f h := fun f g => by
    show va_cpy f g 0 0 8 h = f h
    unfold va_cpy
    rw [if_pos ⟨by omega, by omega⟩, show 0 + (h - 0) = h by omega]
  refine ⟨?_, ?_⟩
  · rw [ur_n _ _ (by omega), ur_s, hc, up_n _ _ _ (Ne.symm h2)]
  · rw [ur_s, hc, ur_n _ _ (Ne.symm h4), up_n _ _ _ (Ne.symm h3)]
theorem RI_cp {a b a1 b1 : St} {H Dn o o1 o2 w p p1 p2 v : Nat} (h : RI a b H Dn o o1 o2 w) (e : a1 p 2 = a o 2) (e1 : ∀ h, h < 8 → a1 p1 h = a o1 h ∧ a1 p2 h = a o2 h) (e3 : ∀ k, k < 17 → b1 1 (v + k) = b 1 (w + k)) : RI a1 b1 H Dn p p1 p2 v := by
  obtain ⟨h1, dd, h2, h3, h4⟩ := h
  refine ⟨fun k hk => ?_, dd, h2, by rw [e]; exact h3, by rw [e3 8 (by omega)]; exact h4⟩
  have h5 := h1 k hk
  rw [(e1 k hk).1, (e1 k hk).2, e3 k (by omega), show v + 9 + k = v + (9 + k) by omega, e3 (9 + k) (by omega), show w + (9 + k) = w + 9 + k by omega]
  exact h5
theorem o_keep {a b : St} {H Dn F n : Nat} (hn : 3000 ≤ n) (hR : RR a b H Dn F) (x1 : Int32) : OK2 (f_X5_keep x1 a) (f_X6_keep n x1 b) := by
  unfold f_X5_keep f_X6_keep
  rw [show (0 : Int64) = (0 : Int32).toInt64 from rfl, show (1 : Int64) = (1 : Int32).toInt64 from rfl]
  rcases ck_in (lo := 0) (hi := 1) x1 0 1 rfl rfl (by omega) (by omega) with ⟨w, _, hw, rfl, f3, f4⟩ | ⟨f3, f4⟩
  · rw [f3, f4]
    obtain ⟨r1, ri, k1, k2, t1, t2, tx⟩ := hR
    obtain ⟨dd, d1, d2, d3⟩ := ri.2
    have d3 : b 1 8 = nI dd := d3
    obtain ⟨b1, g1, g2, g3, g4⟩ := m_copy (b := b) (x := 0) (y := 1 + w) hn (by omega) (by omega) (by omega)
    have g5 : f_X6_copy n 0 ((1 : Int32) + nI w) b = some b1 := by
      rw [show (1 : Int32) = nI 1 from rfl, nI_add]
      exact g1
    rcases (show w = 0 ∨ w = 1 by omega) with rfl | rfl
    · obtain ⟨a1, y1, y2, y3, y4, y5⟩ := x_copy (a := a) (o := 19) (o1 := 15) (by omega) (by omega) (by omega) (by omega)
      simp only [Option.bind_some, i10, if_false, cl (show 0 < 100000 by omega), gj (show 0 < 2 by omega) (show 2 ≤ 100000 by omega), if_true, y1, g5, c8]
      have X : ∀ i, i ≠ 19 → i ≠ 20 → i ≠ 21 → (up a1 19 3 1) i = a i := fun i q1 q2 q3 => by rw [up_n _ _ _ q1]; exact y2 i q1 q2 q3
      have Y : ∀ i, i ≠ 1 → i ≠ 2 → (up b1 2 0 1) i = b i := fun i q1 q2 => by rw [up_n _ _ _ q2]; exact g2 i q1
      have Y1 : ∀ k, (k < 17 ∨ 34 ≤ k) → (up b1 2 0 1) 1 k = b 1 k := fun k hk => by rw [up_n _ _ _ (by omega)]; exact g4 k (by omega)
      refine ⟨nI dd, _, _, H, Dn, F, by rw [up_n _ _ _ (by omega), y2 15 (by omega) (by omega) (by omega), d2], by rw [up_n _ _ _ (by omega), g4 8 (by omega), d3], RT_fr r1 (fun i hi => X i (by omega) (by omega) (by omega)) (fun i hi => Y i (by omega) (by omega)) (by rw [Y 0 (by omega) (by omega)]) (by rw [Y 0 (by omega) (by omega)]), RI_fr ri (by rw [X 15 (by omega) (by omega) (by omega)]) (X _ (by omega) (by omega) (by omega)) (X _ (by omega) (by omega) (by omega)) (fun k hk => Y1 _ (by omega)), Or.inr ⟨by rw [up_s, ud_s], by rw [up_s, ud_s], RI_cp ri (by rw [up_s, ud_n _ _ (by omega)]; exact y3) (fun h hh => by rw [up_n _ _ _ (by omega), up_n _ _ _ (by omega)]; exact y5 h hh) (fun k hk => by rw [up_n _ _ _ (by omega)]; exact g3 k hk)⟩, RK_fr k2 (X _ (by omega) (by omega) (by omega)) (X _ (by omega) (by omega) (by omega)) (X _ (by omega) (by omega) (by omega)) (by rw [up_s, ud_n _ _ (by omega), g2 2 (by omega)]) (fun k hk => Y1 _ (by omega)), RTold_fr t1 (by rw [X _ (by omega) (by omega) (by omega)]) (X _ (by omega) (by omega) (by omega)) (X _ (by omega) (by omega) (by omega)) (X _ (by omega) (by omega) (by omega)) (by rw [Y 0 (by omega) (by omega)]) (Y _ (by omega) (by omega)), RTold_fr t2 (by rw [X _ (by omega) (by omega) (by omega)]) (X _ (by omega) (by omega) (by omega)) (X _ (by omega) (by omega) (by omega)) (X _ (by omega) (by omega) (by omega)) (by rw [Y 0 (by omega) (by omega)]) (Y _ (by omega) (by omega)), RX_fr tx (by rw [X 1 (by omega) (by omega) (by omega)]) (X _ (by omega) (by omega) (by omega)) (by rw [Y 0 (by omega) (by omega)]) (Y _ (by omega) (by omega))⟩
    · obtain ⟨a1, y1, y2, y3, y4, y5⟩ := x_copy (a := a) (o := 22) (o1 := 15) (by omega) (by omega) (by omega) (by omega)
      simp only [Option.bind_some, i10, if_false, cl (show 1 < 100000 by omega), gj (show 1 < 2 by omega) (show 2 ≤ 100000 by omega), Nat.one_ne_zero, y1, g5, c8]
      have X : ∀ i, i ≠ 22 → i ≠ 23 → i ≠ 24 → (up a1 22 3 1) i = a i := fun i q1 q2 q3 => by rw [up_n _ _ _ q1]; exact y2 i q1 q2 q3
      have Y : ∀ i, i ≠ 1 → i ≠ 2 → (up b1 2 1 1) i = b i := fun i q1 q2 => by rw [up_n _ _ _ q2]; exact g2 i q1
      have Y1 : ∀ k, (k < 34 ∨ 51 ≤ k) → (up b1 2 1 1) 1 k = b 1 k := fun k hk => by rw [up_n _ _ _ (by omega)]; exact g4 k (by omega)
      refine ⟨nI dd, _, _, H, Dn, F, by rw [up_n _ _ _ (by omega), y2 15 (by omega) (by omega) (by omega), d2], by rw [up_n _ _ _ (by omega), g4 8 (by omega), d3], RT_fr r1 (fun i hi => X i (by omega) (by omega) (by omega)) (fun i hi => Y i (by omega) (by omega)) (by rw [Y 0 (by omega) (by omega)]) (by rw [Y 0 (by omega) (by omega)]), RI_fr ri (by rw [X 15 (by omega) (by omega) (by omega)]) (X _ (by omega) (by omega) (by omega)) (X _ (by omega) (by omega) (by omega)) (fun k hk => Y1 _ (by omega)), RK_fr k1 (X _ (by omega) (by omega) (by omega)) (X _ (by omega) (by omega) (by omega)) (X _ (by omega) (by omega) (by omega)) (by rw [up_s, ud_n _ _ (by omega), g2 2 (by omega)]) (fun k hk => Y1 _ (by omega)), Or.inr ⟨by rw [up_s, ud_s], by rw [up_s, ud_s], RI_cp ri (by rw [up_s, ud_n _ _ (by omega)]; exact y3) (fun h hh => by rw [up_n _ _ _ (by omega), up_n _ _ _ (by omega)]; exact y5 h hh) (fun k hk => by rw [up_n _ _ _ (by omega)]; exact g3 k hk)⟩, RTold_fr t1 (by rw [X _ (by omega) (by omega) (by omega)]) (X _ (by omega) (by omega) (by omega)) (X _ (by omega) (by omega) (by omega)) (X _ (by omega) (by omega) (by omega)) (by rw [Y 0 (by omega) (by omega)]) (Y _ (by omega) (by omega)), RTold_fr t2 (by rw [X _ (by omega) (by omega) (by omega)]) (X _ (by omega) (by omega) (by omega)) (X _ (by omega) (by omega) (by omega)) (X _ (by omega) (by omega) (by omega)) (by rw [Y 0 (by omega) (by omega)]) (Y _ (by omega) (by omega)), RX_fr tx (by rw [X 1 (by omega) (by omega) (by omega)]) (X _ (by omega) (by omega) (by omega)) (by rw [Y 0 (by omega) (by omega)]) (Y _ (by omega) (by omega))⟩
  · rw [f3, f4]
    exact OK2_same hR _
theorem o_back {a b : St} {H Dn F n : Nat} (hn : 3000 ≤ n) (hR : RR a b H Dn F) (x1 : Int32) : OK2 (f_X5_back x1 a) (f_X6_back n x1 b) := by
  unfold f_X5_back f_X6_back
  rw [show (0 : Int64) = (0 : Int32).toInt64 from rfl, show (1 : Int64) = (1 : Int32).toInt64 from rfl]
  -- behind the copy: both as they were kept
  have done : ∀ (w p : Nat) (a1 b1 : St), RI a b H Dn p (p + 1) (p + 2) (17 * (1 + w)) → (∀ i, i ≠ 15 → i ≠ 16 → i ≠ 17 → a1 i = a i) → a1 15 2 = a p 2 → (∀ h, h < 8 → a1 16 h = a (p + 1) h ∧ a1 17 h = a (p + 2) h) → (∀ i, i ≠ 1 → b1 i = b i) → (∀ k, k < 17 → b1 1 (0 + k) = b 1 (17 * (1 + w) + k)) → (∀ k, 17 ≤ k → b1 1 k = b 1 k) → OK2 (some (a1 15 2, a1)) (some (b1 1 8, b1)) := fun w p a1 b1 hI X e e1 Y e3 Y1 => by
    have hI1 : RI a1 b1 H Dn 15 16 17 0 := RI_cp hI e e1 e3
    obtain ⟨r1, ri, k1, k2, t1, t2, tx⟩ := hR
    obtain ⟨dd, d1, d2, d3⟩ := hI1.2
    have d3 : b1 1 8 = nI dd := d3
    exact ⟨nI dd, a1, b1, H, Dn, F, by rw [d2], by rw [d3], RT_fr r1 (fun i hi => X i (by omega) (by omega) (by omega)) (fun i hi => Y i (by omega)) (by rw [Y 0 (by omega)]) (by rw [Y 0 (by omega)]), hI1, RK_fr k1 (X _ (by omega) (by omega) (by omega)) (X _ (by omega) (by omega) (by omega)) (X _ (by omega) (by omega) (by omega)) (by rw [Y 2 (by omega)]) (fun k hk => Y1 _ (by omega)), RK_fr k2 (X _ (by omega) (by omega) (by omega)) (X _ (by omega) (by omega) (by omega)) (X _ (by omega) (by omega) (by omega)) (by rw [Y 2 (by omega)]) (fun k hk => Y1 _ (by omega)), RTold_fr t1 (by rw [X _ (by omega) (by omega) (by omega)]) (X _ (by omega) (by omega) (by omega)) (X _ (by omega) (by omega) (by omega)) (X _ (by omega) (by omega) (by omega)) (by rw [Y 0 (by omega)]) (Y _ (by omega)), RTold_fr t2 (by rw [X _ (by omega) (by omega) (by omega)]) (X _ (by omega) (by omega) (by omega)) (X _ (by omega) (by omega) (by omega)) (X _ (by omega) (by omega) (by omega)) (by rw [Y 0 (by omega)]) (Y _ (by omega)), RX_fr tx (by rw [X 1 (by omega) (by omega) (by omega)]) (X _ (by omega) (by omega) (by omega)) (by rw [Y 0 (by omega)]) (Y _ (by omega))⟩
  rcases ck_in (lo := 0) (hi := 1) x1 0 1 rfl rfl (by omega) (by omega) with ⟨w, _, hw, rfl, f3, f4⟩ | ⟨f3, f4⟩
  · rw [f3, f4]
    obtain ⟨b1, g1, g2, g3, g4⟩ := m_copy (b := b) (x := 1 + w) (y := 0) hn (by omega) (by omega) (by omega)
    have g5 : f_X6_copy n ((1 : Int32) + nI w) 0 b = some b1 := by
      rw [show (1 : Int32) = nI 1 from rfl, nI_add]
      exact g1
    rcases (show w = 0 ∨ w = 1 by omega) with rfl | rfl
    · simp only [Option.bind_some, i10, if_false, cl (show 0 < 100000 by omega), gj (show 0 < 2 by omega) (show 2 ≤ 100000 by omega), if_true, c8]
      rcases hR.2.2.1 with ⟨q1, q2⟩ | ⟨q1, q2, q3⟩
      · rw [q1, q2, if_pos rfl, if_pos rfl]
        exact OK2_same hR _
      · obtain ⟨a1, y1, y2, y3, y4, y5⟩ := x_copy (a := a) (o := 15) (o1 := 19) (by omega) (by omega) (by omega) (by omega)
        rw [q1, q2, if_neg (by decide), if_neg (by decide), y1, g5]
        exact done 0 19 a1 b1 q3 (fun i z1 z2 z3 => y2 i z1 z2 z3) y3 y5 g2 (fun k hk => by have := g3 k hk; exact this) (fun k hk => g4 k (by omega))
    · simp only [Option.bind_some, i10, if_false, cl (show 1 < 100000 by omega), gj (show 1 < 2 by omega) (show 2 ≤ 100000 by omega), Nat.one_ne_zero, c8]
      rcases hR.2.2.2.1 with ⟨q1, q2⟩ | ⟨q1, q2, q3⟩
      · rw [q1, q2, if_pos rfl, if_pos rfl]
        exact OK2_same hR _
      · obtain ⟨a1, y1, y2, y3, y4, y5⟩ := x_copy (a := a) (o := 15) (o1 := 22) (by omega) (by omega) (by omega) (by omega)
        rw [q1, q2, if_neg (by decide), if_neg (by decide), y1, g5]
        exact done 1 22 a1 b1 q3 (fun i z1 z2 z3 => y2 i z1 z2 z3) y3 y5 g2 (fun k hk => by have := g3 k hk; exact this) (fun k hk => g4 k (by omega))
  · rw [f3, f4]
    exact OK2_same hR _
