/-! ===== the short calls ===== -/
theorem i10 : ((1 : Int32) = 0) = False := eq_false (by decide)
theorem RI_fr {a b a1 b1 : St} {H Dn o o1 o2 w : Nat} (h : RI a b H Dn o o1 o2 w) (e : a1 o 2 = a o 2) (e1 : a1 o1 = a o1) (e2 : a1 o2 = a o2) (e3 : ∀ k, k < 17 → b1 1 (w + k) = b 1 (w + k)) : RI a1 b1 H Dn o o1 o2 w := by
  obtain ⟨h1, dd, h2, h3, h4⟩ := h
  refine ⟨fun k hk => ?_, dd, h2, by rw [e]; exact h3, by rw [e3 8 (by omega)]; exact h4⟩
  have h5 := h1 k hk
  rw [e1, e2, e3 k (by omega), show w + 9 + k = w + (9 + k) by omega, e3 (9 + k) (by omega), show w + (9 + k) = w + 9 + k by omega]
  exact h5
theorem RK_fr {a b a1 b1 : St} {H Dn o o1 o2 k w : Nat} (h : RK a b H Dn o o1 o2 k w) (e : a1 o = a o) (e1 : a1 o1 = a o1) (e2 : a1 o2 = a o2) (ek : b1 2 k = b 2 k) (e3 : ∀ k, k < 17 → b1 1 (w + k) = b 1 (w + k)) : RK a1 b1 H Dn o o1 o2 k w := by
  unfold RK at h ⊢
  rw [e, ek]
  rcases h with h | ⟨h1, h2, h3⟩
  · exact Or.inl h
  · exact Or.inr ⟨h1, h2, RI_fr h3 (by rw [e]) e1 e2 e3⟩
theorem RTold_fr {a b a1 b1 : St} {H Dn o o1 o2 o3 ms mr : Nat} {lo : Bool} (h : RTold a b H Dn o o1 o2 o3 ms mr lo) (e : a1 o 3 = a o 3) (e1 : a1 o1 = a o1) (e2 : a1 o2 = a o2) (e3 : a1 o3 = a o3) (e4 : b1 0 ms = b 0 ms) (e5 : b1 mr = b mr) : RTold a1 b1 H Dn o o1 o2 o3 ms mr lo := by
  unfold RTold at h ⊢
  rw [e, e1, e2, e3, e4, e5]
  exact h
theorem RX_fr {a b a1 b1 : St} (h : RX a b) (e : a1 1 1 = a 1 1) (e1 : a1 2 = a 2) (e2 : b1 0 3 = b 0 3) (e3 : b1 3 = b 3) : RX a1 b1 := by
  unfold RX at h ⊢
  rw [e, e1, e2, e3]
  exact h
/-- both answer the same, and stay side by side -/
def OK2 (f g : Option (Int32 × St)) : Prop := ∃ r a1 b1 H Dn F, f = some (r, a1) ∧ g = some (r, b1) ∧ RR a1 b1 H Dn F
def OK1 (f g : Option Int32) : Prop := ∃ r, f = some r ∧ g = some r
theorem OK2_same {a b : St} {H Dn F : Nat} (hR : RR a b H Dn F) (r : Int32) : OK2 (some (r, a)) (some (r, b)) := ⟨r, a, b, H, Dn, F, rfl, rfl, hR⟩
/-- what X and M say of a place of a house, a deed, a day -/
theorem ck_house {a b : St} {H Dn F : Nat} (hT : RT a b H Dn F) (x : Int32) : (∃ h, h < H ∧ x = nI h ∧ f_X4_hasHouse x a = some 1 ∧ f_X6_isHouse x b = some 1) ∨ (f_X4_hasHouse x a = some 0 ∧ f_X6_isHouse x b = some 0) := by
  obtain ⟨⟨h1, h2, h3, h4⟩, ⟨e1, e2, e3, e4, e5⟩, -⟩ := hT
  rw [p_hasHouse e1 (by omega) h2, p_isHouse e2 (by omega) h2]
  by_cases c : 0 ≤ x ∧ x < nI H
  · obtain ⟨h, hh, e⟩ := ix_of (by omega) c
    exact Or.inl ⟨h, hh, e, by rw [if_pos c], by rw [if_pos c]⟩
  · exact Or.inr ⟨by rw [if_neg c], by rw [if_neg c]⟩
theorem ck_deed {a b : St} {H Dn F : Nat} (hT : RT a b H Dn F) (x : Int32) : (∃ d, d < Dn ∧ x = nI d ∧ f_X4_hasDeed x a = some 1 ∧ f_X6_isDeed x b = some 1) ∨ (f_X4_hasDeed x a = some 0 ∧ f_X6_isDeed x b = some 0) := by
  obtain ⟨⟨h1, h2, h3, h4⟩, ⟨e1, e2, e3, e4, e5⟩, -⟩ := hT
  rw [p_hasDeed e3 (by omega), p_isDeed e4 (by omega)]
  by_cases c : 0 ≤ x ∧ x < nI Dn
  · obtain ⟨h, hh, e⟩ := ix_of (by omega) c
    exact Or.inl ⟨h, hh, e, by rw [if_pos c], by rw [if_pos c]⟩
  · exact Or.inr ⟨by rw [if_neg c], by rw [if_neg c]⟩
theorem ck_time (x : Int32) : (∃ t, t ≤ 99 ∧ x = nI t ∧ f_X5_within x 0 99 = some 1 ∧ f_X6_isTime x = some 1) ∨ (f_X5_within x 0 99 = some 0 ∧ f_X6_isTime x = some 0) := by
  rw [p_within, p_isTime]
  by_cases c : 0 ≤ x ∧ x ≤ 99
  · obtain ⟨t, ht, e⟩ := ix_le (m := 99) rfl (by omega) c
    exact Or.inl ⟨t, ht, e, by rw [if_pos c], by rw [if_pos c]⟩
  · exact Or.inr ⟨by rw [if_neg c], by rw [if_neg c]⟩
/-- a number within two bounds, told to both -/
theorem ck_in {lo hi : Nat} (x : Int32) (L H : Int32) (hL : L = nI lo) (hH : H = nI hi) (hl : lo ≤ hi) (h9 : hi < 99999) : (∃ t, lo ≤ t ∧ t ≤ hi ∧ x = nI t ∧ f_X5_within x L H = some 1 ∧ f_X6_in x.toInt64 L.toInt64 H.toInt64 = some 1) ∨ (f_X5_within x L H = some 0 ∧ f_X6_in x.toInt64 L.toInt64 H.toInt64 = some 0) := by
  rw [p_within, p_in]
  by_cases c : L ≤ x ∧ x ≤ H
  · have h0 : (0 : Int32) ≤ x := by
      have h1 := c.1
      rw [hL, i_le, nI_toInt (by omega)] at h1
      rw [i_le]
      have : (0 : Int32).toInt = 0 := by decide
      omega
    obtain ⟨t, ht, e⟩ := ix_le (m := hi) hH h9 ⟨h0, c.2⟩
    refine Or.inl ⟨t, ?_, ht, e, by rw [if_pos c], by rw [if_pos c]⟩
    have h1 := c.1
    rw [hL, e, i_le, nI_toInt (by omega), nI_toInt (by omega)] at h1
    omega
  · exact Or.inr ⟨by rw [if_neg c], by rw [if_neg c]⟩
theorem e9 : ∀ h, h < 8 → ((9 : Int32) + nI h).toNatClampNeg = 9 + h := by decide +kernel
theorem s9 : ∀ h, h < 8 → ((9 : Int32) + nI h < 0) = False := fun h hh => eq_false (by revert h; decide +kernel)
theorem n9 {h : Nat} (hh : h < 8) : (51 ≤ 9 + h) = False := eq_false (by omega)
theorem c8 : (8 : Int32).toNatClampNeg = 8 := by decide
theorem o_house {a b : St} {H Dn F : Nat} (hR : RR a b H Dn F) (x1 x2 : Int32) : OK1 (f_X5_house x1 x2 a) (f_X6_house x1 x2 b) := by
  unfold f_X5_house f_X6_house
  have hH := hR.1.1
  rcases ck_house hR.1 x1 with ⟨h, hh, rfl, e1, e2⟩ | ⟨e1, e2⟩
  · have hh8 : h < 8 := by omega
    rw [e1, e2]
    simp only [Option.bind_some, i10, if_false, cl (show h < 100000 by omega), gj hh8 (show 8 ≤ 100000 by omega), gj (show h < 51 by omega) (show 51 ≤ 100000 by omega), e9 h hh8, s9 h hh8, n9 hh8, or_self]
    by_cases k0 : x2 = 0
    · rw [if_pos k0, if_pos k0]
      exact ⟨_, rfl, by rw [(hR.1.2.2.1 h hh8).1]⟩
    rw [if_neg k0, if_neg k0]
    by_cases k1 : x2 = 1
    · rw [if_pos k1, if_pos k1]
      exact ⟨_, rfl, by rw [(hR.1.2.2.2.1 h hh8).1]⟩
    rw [if_neg k1, if_neg k1]
    have h2 := hR.2.1.1 h hh8
    by_cases k2 : x2 = 2
    · rw [if_pos k2, if_pos k2]
      exact ⟨_, rfl, by rw [← h2.1, Nat.zero_add]⟩
    rw [if_neg k2, if_neg k2]
    by_cases k3 : x2 = 3
    · rw [if_pos k3, if_pos k3]
      exact ⟨_, rfl, by rw [← h2.2.1, Nat.zero_add]⟩
    rw [if_neg k3, if_neg k3]
    exact ⟨_, rfl, rfl⟩
  · rw [e1, e2]
    exact ⟨_, rfl, rfl⟩
theorem o_count {a b : St} {H Dn F : Nat} (hR : RR a b H Dn F) (x : Int32) : OK1 (f_X5_count x a) (f_X6_count x b) := by
  unfold f_X5_count f_X6_count
  obtain ⟨⟨-, ⟨e1, e2, e3, e4, e5⟩, -⟩, ⟨-, dd, -, d1, d2⟩, -, -, ⟨w, -, w1, w2, -⟩, ⟨u, -, u1, u2, -⟩, ⟨len, -, l1, l2, -⟩⟩ := hR
  have d3 : b 1 8 = nI dd := d2
  rw [e1, e2, e3, e4, d1, c8, d3, w1, w2, u1, u2, l1, l2]
  by_cases k0 : x = 0
  · rw [if_pos k0]; exact ⟨_, rfl, rfl⟩
  rw [if_neg k0]
  by_cases k0 : x = 1
  · rw [if_pos k0]; exact ⟨_, rfl, rfl⟩
  rw [if_neg k0]
  by_cases k0 : x = 2
  · rw [if_pos k0]; exact ⟨_, rfl, rfl⟩
  rw [if_neg k0]
  by_cases k0 : x = 3
  · rw [if_pos k0]; exact ⟨_, rfl, rfl⟩
  rw [if_neg k0]
  by_cases k0 : x = 4
  · rw [if_pos k0]; exact ⟨_, rfl, rfl⟩
  rw [if_neg k0]
  by_cases k0 : x = 5
  · rw [if_pos k0]; exact ⟨_, rfl, rfl⟩
  rw [if_neg k0]
  exact ⟨_, rfl, rfl⟩
theorem o_set {a b : St} {H Dn F n : Nat} (hn : 3000 ≤ n) (hR : RR a b H Dn F) (x1 x2 : Int32) : OK2 (f_X5_set x1 x2 a) (f_X6_set n x1 x2 b) := by
  have hT := hR.1
  have hH := hT.1
  have hW := WT_of hT
  unfold f_X5_set f_X6_set
  rcases ck_house hT x1 with ⟨h, hh, rfl, e1, e2⟩ | ⟨e1, e2⟩
  · have hh8 : h < 8 := by omega
    rw [e1, e2]
    simp only [Option.bind_some, i10, if_false, cl (show h < 100000 by omega), gj hh8 (show 8 ≤ 100000 by omega), gj (show h < 51 by omega) (show 51 ≤ 100000 by omega)]
    have key : ∀ x, (x = -1 ∨ ∃ d, d < Dn ∧ x = nI d) → OK2 (some (a 16 h, up a 16 h x)) (some (b 1 h, up b 1 h x)) := fun x hx => by
      obtain ⟨r1, ⟨i1, i2⟩, k1, k2, t1, t2, tx⟩ := hR
      refine ⟨a 16 h, up a 16 h x, up b 1 h x, H, Dn, F, rfl, by rw [← (i1 h hh8).1, Nat.zero_add], RT_fr r1 (fun i hi => up_n _ _ _ (by omega)) (fun i hi => up_n _ _ _ (by omega)) (by rw [up_n _ _ _ (by omega)]) (by rw [up_n _ _ _ (by omega)]), ⟨fun k hk => ?_, ?_⟩, RK_fr k1 (up_n _ _ _ (by omega)) (up_n _ _ _ (by omega)) (up_n _ _ _ (by omega)) (by rw [up_n _ _ _ (by omega)]) (fun m hm => by rw [up_s, ud_n _ _ (by omega)]), RK_fr k2 (up_n _ _ _ (by omega)) (up_n _ _ _ (by omega)) (up_n _ _ _ (by omega)) (by rw [up_n _ _ _ (by omega)]) (fun m hm => by rw [up_s, ud_n _ _ (by omega)]), RTold_fr t1 (by rw [up_n _ _ _ (by omega)]) (up_n _ _ _ (by omega)) (up_n _ _ _ (by omega)) (up_n _ _ _ (by omega)) (by rw [up_n _ _ _ (by omega)]) (up_n _ _ _ (by omega)), RTold_fr t2 (by rw [up_n _ _ _ (by omega)]) (up_n _ _ _ (by omega)) (up_n _ _ _ (by omega)) (up_n _ _ _ (by omega)) (by rw [up_n _ _ _ (by omega)]) (up_n _ _ _ (by omega)), RX_fr tx (by rw [up_n _ _ _ (by omega)]) (up_n _ _ _ (by omega)) (by rw [up_n _ _ _ (by omega)]) (up_n _ _ _ (by omega))⟩
      · have h5 := i1 k hk
        rw [up_s, up_s, up_n _ _ _ (by omega : (17 : Nat) ≠ 16), ud_n _ _ (by omega : 0 + 9 + k ≠ h)]
        by_cases e : k = h
        · subst e
          rw [ud_s, show 0 + k = k by omega, ud_s]
          exact ⟨rfl, h5.2.1, hx, fun q => absurd q (by omega)⟩
        · rw [ud_n _ _ e, ud_n _ _ (by omega : 0 + k ≠ h)]
          exact h5
      · obtain ⟨dd, d1, d2, d3⟩ := i2
        exact ⟨dd, d1, by rw [up_n _ _ _ (by omega)]; exact d2, by rw [up_s, ud_n _ _ (by omega)]; exact d3⟩
    unfold f_X5_isDeedOrNone
    by_cases cN : x2 = -1
    · simp only [cN, if_true, Option.bind_some, i10, if_false]
      exact key _ (Or.inl rfl)
    · simp only [cN, if_false]
      rcases ck_deed hT x2 with ⟨d, hd, rfl, e3, e4⟩ | ⟨e3, e4⟩
      · have hd6 : d < 6 := by omega
        rw [e3, e4, hW.2.1.2.2.1]
        simp only [Option.bind_some, i10, if_false, x_canF hW.2.1.2.2.2 hh8 hd6, m_can (n := n) (by omega) hT hh8 hd]
        cases canT a F h d
        · exact OK2_same hR _
        · simp only [b2i, if_true, i10, if_false]
          exact key _ (Or.inr ⟨d, hd, rfl⟩)
      · rw [e3, e4]
        exact OK2_same hR _
  · rw [e1, e2]
    exact OK2_same hR _
