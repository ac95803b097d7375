/-! ===== wishes, what was seen, the images kept, the text emptied ===== -/
theorem e3 : ∀ w, w < 8 → ((3 : Int32) * nI w).toNatClampNeg = 3 * w ∧ ((3 : Int32) * nI w + 1).toNatClampNeg = 3 * w + 1 ∧ ((3 : Int32) * nI w + 2).toNatClampNeg = 3 * w + 2 ∧ ¬ (3 : Int32) * nI w < 0 ∧ ¬ (3 : Int32) * nI w + 1 < 0 ∧ ¬ (3 : Int32) * nI w + 2 < 0 := by decide +kernel
theorem n3 {w k : Nat} (hw : w < 8) (hk : k ≤ 2) : ¬ 24 ≤ 3 * w + k := by omega
/-- one told more, X -/
theorem x_add {a : St} {o w : Nat} {x1 x2 x3 : Int32} (hw : a o 3 = nI w) (h8 : w ≤ 8) : f_X3_add o x1 x2 x3 a = if w < 8 then some (nI (w + 1), up (up (up (up a (o + 1) w x1) (o + 2) w x2) (o + 3) w x3) o 3 (nI (w + 1))) else some (-5, a) := by
  unfold f_X3_add
  simp only [up_n _ _ _ (show o ≠ o + 1 by omega), up_n _ _ _ (show o ≠ o + 2 by omega), up_n _ _ _ (show o ≠ o + 3 by omega), hw, cl (show w < 100000 by omega), up_s, ud_s, nI_1]
  by_cases c : w < 8
  · rw [if_pos c, if_pos (by rw [show (8 : Int32) = nI 8 from rfl, ltI (by omega) (by omega)]; exact c)]
    simp only [gj c (show 8 ≤ 100000 by omega), if_false]
  · rw [if_neg c, if_neg (by rw [show (8 : Int32) = nI 8 from rfl, ltI (by omega) (by omega)]; exact c)]
/-- one told more, in both: o, ms, mr are the rows -/
theorem RTold_add {a b a1 b1 : St} {H Dn o o1 o2 o3 ms mr w : Nat} {lo : Bool} {h t : Nat} {x2 : Int32} (hR : RTold a b H Dn o o1 o2 o3 ms mr lo) (hw : a o 3 = nI w) (h8 : w < 8) (hh : h < H) (hx : (∃ d, d < Dn ∧ x2 = nI d) ∨ (lo = true ∧ x2 = -1)) (ht : t ≤ 99) (e : a1 o 3 = nI (w + 1)) (e1 : a1 o1 = upd (a o1) w (nI h)) (e2 : a1 o2 = upd (a o2) w x2) (e3 : a1 o3 = upd (a o3) w (nI t)) (e4 : b1 0 ms = nI (w + 1)) (e5 : b1 mr = upd (upd (upd (b mr) (3 * w) (nI h)) (3 * w + 1) x2) (3 * w + 2) (nI t)) : RTold a1 b1 H Dn o o1 o2 o3 ms mr lo := by
  obtain ⟨u, h1, h2, h3, h4⟩ := hR
  have hu : u = w := by
    rw [hw] at h2
    have h5 := eqI (a := w) (b := u) (by omega) (by omega)
    rw [h5] at h2
    exact h2.symm
  subst hu
  refine ⟨u + 1, by omega, e, e4, fun i hi => ?_⟩
  rw [e1, e2, e3, e5]
  by_cases c : i = u
  · subst c
    rw [ud_s, ud_s, ud_s, ud_n _ _ (by omega : 3 * i ≠ 3 * i + 2), ud_n _ _ (by omega : 3 * i ≠ 3 * i + 1), ud_s, ud_n _ _ (by omega : 3 * i + 1 ≠ 3 * i + 2), ud_s, ud_s]
    exact ⟨⟨h, hh, rfl, rfl⟩, ⟨rfl, hx⟩, t, ht, rfl, rfl⟩
  · rw [ud_n _ _ c, ud_n _ _ c, ud_n _ _ c, ud_n _ _ (by omega : 3 * i ≠ 3 * u + 2), ud_n _ _ (by omega : 3 * i ≠ 3 * u + 1), ud_n _ _ (by omega : 3 * i ≠ 3 * u), ud_n _ _ (by omega : 3 * i + 1 ≠ 3 * u + 2), ud_n _ _ (by omega : 3 * i + 1 ≠ 3 * u + 1), ud_n _ _ (by omega : 3 * i + 1 ≠ 3 * u), ud_n _ _ (by omega : 3 * i + 2 ≠ 3 * u + 2), ud_n _ _ (by omega : 3 * i + 2 ≠ 3 * u + 1), ud_n _ _ (by omega : 3 * i + 2 ≠ 3 * u)]
    exact h4 i (by omega)
/-- what a call tells more: the states of both behind it -/
theorem tell_wish {a b : St} {H Dn F w h d t : Nat} (hR : RR a b H Dn F) (hw : a 25 3 = nI w) (h8 : w < 8) (hh : h < H) (hd : d < Dn) (ht : t ≤ 99) : RR (up (up (up (up a (25 + 1) w (nI h)) (25 + 2) w (nI d)) (25 + 3) w (nI t)) 25 3 (nI (w + 1))) (up (up (up (up b 10 (3 * w) (nI h)) 10 (3 * w + 1) (nI d)) 10 (3 * w + 2) (nI t)) 0 19 (nI (w + 1))) H Dn F := by
  have X : ∀ i, i ≠ 25 → i ≠ 26 → i ≠ 27 → i ≠ 28 → (up (up (up (up a (25 + 1) w (nI h)) (25 + 2) w (nI d)) (25 + 3) w (nI t)) 25 3 (nI (w + 1))) i = a i := fun i g1 g2 g3 g4 => by
    rw [up_n _ _ _ g1, up_n _ _ _ (show i ≠ 25 + 3 from g4), up_n _ _ _ (show i ≠ 25 + 2 from g3), up_n _ _ _ (show i ≠ 25 + 1 from g2)]
  have Y : ∀ i, i ≠ 0 → i ≠ 10 → (up (up (up (up b 10 (3 * w) (nI h)) 10 (3 * w + 1) (nI d)) 10 (3 * w + 2) (nI t)) 0 19 (nI (w + 1))) i = b i := fun i g1 g2 => by
    rw [up_n _ _ _ g1, up_n _ _ _ g2, up_n _ _ _ g2, up_n _ _ _ g2]
  have Y0 : ∀ k, k ≠ 19 → (up (up (up (up b 10 (3 * w) (nI h)) 10 (3 * w + 1) (nI d)) 10 (3 * w + 2) (nI t)) 0 19 (nI (w + 1))) 0 k = b 0 k := fun k g => by
    rw [up_s, ud_n _ _ g, up_n _ _ _ (by omega), up_n _ _ _ (by omega), up_n _ _ _ (by omega)]
  obtain ⟨r1, r2, k1, k2, t1, t2, tx⟩ := hR
  refine ⟨RT_fr r1 (fun i hi => X i (by omega) (by omega) (by omega) (by omega)) (fun i hi => Y i (by omega) (by omega)) (Y0 _ (by omega)) (Y0 _ (by omega)), RI_fr r2 (by rw [X _ (by omega) (by omega) (by omega) (by omega)]) (X _ (by omega) (by omega) (by omega) (by omega)) (X _ (by omega) (by omega) (by omega) (by omega)) (fun k _ => by rw [Y 1 (by omega) (by omega)]), RK_fr k1 (X _ (by omega) (by omega) (by omega) (by omega)) (X _ (by omega) (by omega) (by omega) (by omega)) (X _ (by omega) (by omega) (by omega) (by omega)) (by rw [Y 2 (by omega) (by omega)]) (fun k _ => by rw [Y 1 (by omega) (by omega)]), RK_fr k2 (X _ (by omega) (by omega) (by omega) (by omega)) (X _ (by omega) (by omega) (by omega) (by omega)) (X _ (by omega) (by omega) (by omega) (by omega)) (by rw [Y 2 (by omega) (by omega)]) (fun k _ => by rw [Y 1 (by omega) (by omega)]), RTold_add t1 hw h8 hh (Or.inl ⟨d, hd, rfl⟩) ht (by rw [up_s, ud_s]) ?_ ?_ ?_ (by rw [up_s, ud_s]) ?_, RTold_fr t2 (by rw [X _ (by omega) (by omega) (by omega) (by omega)]) (X _ (by omega) (by omega) (by omega) (by omega)) (X _ (by omega) (by omega) (by omega) (by omega)) (X _ (by omega) (by omega) (by omega) (by omega)) (Y0 _ (by omega)) (Y _ (by omega) (by omega)), RX_fr tx (by rw [X _ (by omega) (by omega) (by omega) (by omega)]) (X _ (by omega) (by omega) (by omega) (by omega)) (Y0 _ (by omega)) (Y _ (by omega) (by omega))⟩
  · rw [up_n _ _ _ (by omega : (26 : Nat) ≠ 25), up_n _ _ _ (by omega : (26 : Nat) ≠ 25 + 3), up_n _ _ _ (by omega : (26 : Nat) ≠ 25 + 2)]
    exact up_s a 26 w (nI h)
  · rw [up_n _ _ _ (by omega : (27 : Nat) ≠ 25), up_n _ _ _ (by omega : (27 : Nat) ≠ 25 + 3)]
    exact (up_s _ 27 w (nI d)).trans (by rw [up_n _ _ _ (by omega : (27 : Nat) ≠ 25 + 1)])
  · rw [up_n _ _ _ (by omega : (28 : Nat) ≠ 25)]
    exact (up_s _ 28 w (nI t)).trans (by rw [up_n _ _ _ (by omega : (28 : Nat) ≠ 25 + 2), up_n _ _ _ (by omega : (28 : Nat) ≠ 25 + 1)])
  · rw [up_n _ _ _ (by omega : (10 : Nat) ≠ 0), up_s, up_s, up_s]
theorem tell_seen {a b : St} {H Dn F w h t : Nat} {x2 : Int32} (hR : RR a b H Dn F) (hw : a 29 3 = nI w) (h8 : w < 8) (hh : h < H) (hd : (∃ d, d < Dn ∧ x2 = nI d) ∨ x2 = -1) (ht : t ≤ 99) : RR (up (up (up (up a (29 + 1) w (nI h)) (29 + 2) w x2) (29 + 3) w (nI t)) 29 3 (nI (w + 1))) (up (up (up (up b 13 (3 * w) (nI h)) 13 (3 * w + 1) x2) 13 (3 * w + 2) (nI t)) 0 25 (nI (w + 1))) H Dn F := by
  have X : ∀ i, i ≠ 29 → i ≠ 30 → i ≠ 31 → i ≠ 32 → (up (up (up (up a (29 + 1) w (nI h)) (29 + 2) w x2) (29 + 3) w (nI t)) 29 3 (nI (w + 1))) i = a i := fun i g1 g2 g3 g4 => by
    rw [up_n _ _ _ g1, up_n _ _ _ (show i ≠ 29 + 3 from g4), up_n _ _ _ (show i ≠ 29 + 2 from g3), up_n _ _ _ (show i ≠ 29 + 1 from g2)]
  have Y : ∀ i, i ≠ 0 → i ≠ 13 → (up (up (up (up b 13 (3 * w) (nI h)) 13 (3 * w + 1) x2) 13 (3 * w + 2) (nI t)) 0 25 (nI (w + 1))) i = b i := fun i g1 g2 => by
    rw [up_n _ _ _ g1, up_n _ _ _ g2, up_n _ _ _ g2, up_n _ _ _ g2]
  have Y0 : ∀ k, k ≠ 25 → (up (up (up (up b 13 (3 * w) (nI h)) 13 (3 * w + 1) x2) 13 (3 * w + 2) (nI t)) 0 25 (nI (w + 1))) 0 k = b 0 k := fun k g => by
    rw [up_s, ud_n _ _ g, up_n _ _ _ (by omega), up_n _ _ _ (by omega), up_n _ _ _ (by omega)]
  obtain ⟨r1, r2, k1, k2, t1, t2, tx⟩ := hR
  refine ⟨RT_fr r1 (fun i hi => X i (by omega) (by omega) (by omega) (by omega)) (fun i hi => Y i (by omega) (by omega)) (Y0 _ (by omega)) (Y0 _ (by omega)), RI_fr r2 (by rw [X _ (by omega) (by omega) (by omega) (by omega)]) (X _ (by omega) (by omega) (by omega) (by omega)) (X _ (by omega) (by omega) (by omega) (by omega)) (fun k _ => by rw [Y 1 (by omega) (by omega)]), RK_fr k1 (X _ (by omega) (by omega) (by omega) (by omega)) (X _ (by omega) (by omega) (by omega) (by omega)) (X _ (by omega) (by omega) (by omega) (by omega)) (by rw [Y 2 (by omega) (by omega)]) (fun k _ => by rw [Y 1 (by omega) (by omega)]), RK_fr k2 (X _ (by omega) (by omega) (by omega) (by omega)) (X _ (by omega) (by omega) (by omega) (by omega)) (X _ (by omega) (by omega) (by omega) (by omega)) (by rw [Y 2 (by omega) (by omega)]) (fun k _ => by rw [Y 1 (by omega) (by omega)]), RTold_fr t1 (by rw [X _ (by omega) (by omega) (by omega) (by omega)]) (X _ (by omega) (by omega) (by omega) (by omega)) (X _ (by omega) (by omega) (by omega) (by omega)) (X _ (by omega) (by omega) (by omega) (by omega)) (Y0 _ (by omega)) (Y _ (by omega) (by omega)), RTold_add t2 hw h8 hh (hd.elim Or.inl (fun z => Or.inr ⟨rfl, z⟩)) ht (by rw [up_s, ud_s]) ?_ ?_ ?_ (by rw [up_s, ud_s]) ?_, RX_fr tx (by rw [X _ (by omega) (by omega) (by omega) (by omega)]) (X _ (by omega) (by omega) (by omega) (by omega)) (Y0 _ (by omega)) (Y _ (by omega) (by omega))⟩
  · rw [up_n _ _ _ (by omega : (30 : Nat) ≠ 29), up_n _ _ _ (by omega : (30 : Nat) ≠ 29 + 3), up_n _ _ _ (by omega : (30 : Nat) ≠ 29 + 2)]
    exact up_s a 30 w (nI h)
  · rw [up_n _ _ _ (by omega : (31 : Nat) ≠ 29), up_n _ _ _ (by omega : (31 : Nat) ≠ 29 + 3)]
    exact (up_s _ 31 w x2).trans (by rw [up_n _ _ _ (by omega : (31 : Nat) ≠ 29 + 1)])
  · rw [up_n _ _ _ (by omega : (32 : Nat) ≠ 29)]
    exact (up_s _ 32 w (nI t)).trans (by rw [up_n _ _ _ (by omega : (32 : Nat) ≠ 29 + 2), up_n _ _ _ (by omega : (32 : Nat) ≠ 29 + 1)])
  · rw [up_n _ _ _ (by omega : (13 : Nat) ≠ 0), up_s, up_s, up_s]
theorem m_addW {b : St} {w : Nat} {x1 x2 x3 : Int32} (h8 : w ≤ 8) (hw : b 0 19 = nI w) (g : Option (Int32 × St)) (hg : g = (if b 0 19 = 8 then some ((-5), b) else
          if (3 : Int32) * (b 0 19) < 0 ∨ 24 ≤ ((3 : Int32) * (b 0 19)).toNatClampNeg then none else
          if ((3 : Int32) * ((up b 10 (((3 : Int32) * (b 0 19)).toNatClampNeg) x1) 0 19)) + 1 < 0 ∨ 24 ≤ (((3 : Int32) * ((up b 10 (((3 : Int32) * (b 0 19)).toNatClampNeg) x1) 0 19)) + 1).toNatClampNeg then none else
          if ((3 : Int32) * ((up (up b 10 (((3 : Int32) * (b 0 19)).toNatClampNeg) x1) 10 ((((3 : Int32) * ((up b 10 (((3 : Int32) * (b 0 19)).toNatClampNeg) x1) 0 19)) + 1).toNatClampNeg) x2) 0 19)) + 2 < 0 ∨ 24 ≤ (((3 : Int32) * ((up (up b 10 (((3 : Int32) * (b 0 19)).toNatClampNeg) x1) 10 ((((3 : Int32) * ((up b 10 (((3 : Int32) * (b 0 19)).toNatClampNeg) x1) 0 19)) + 1).toNatClampNeg) x2) 0 19)) + 2).toNatClampNeg then none else
          some ((up (up (up (up b 10 (((3 : Int32) * (b 0 19)).toNatClampNeg) x1) 10 ((((3 : Int32) * ((up b 10 (((3 : Int32) * (b 0 19)).toNatClampNeg) x1) 0 19)) + 1).toNatClampNeg) x2) 10 ((((3 : Int32) * ((up (up b 10 (((3 : Int32) * (b 0 19)).toNatClampNeg) x1) 10 ((((3 : Int32) * ((up b 10 (((3 : Int32) * (b 0 19)).toNatClampNeg) x1) 0 19)) + 1).toNatClampNeg) x2) 0 19)) + 2).toNatClampNeg) x3) 0 19 (((up (up (up b 10 (((3 : Int32) * (b 0 19)).toNatClampNeg) x1) 10 ((((3 : Int32) * ((up b 10 (((3 : Int32) * (b 0 19)).toNatClampNeg) x1) 0 19)) + 1).toNatClampNeg) x2) 10 ((((3 : Int32) * ((up (up b 10 (((3 : Int32) * (b 0 19)).toNatClampNeg) x1) 10 ((((3 : Int32) * ((up b 10 (((3 : Int32) * (b 0 19)).toNatClampNeg) x1) 0 19)) + 1).toNatClampNeg) x2) 0 19)) + 2).toNatClampNeg) x3) 0 19) + 1)) 0 19, up (up (up (up b 10 (((3 : Int32) * (b 0 19)).toNatClampNeg) x1) 10 ((((3 : Int32) * ((up b 10 (((3 : Int32) * (b 0 19)).toNatClampNeg) x1) 0 19)) + 1).toNatClampNeg) x2) 10 ((((3 : Int32) * ((up (up b 10 (((3 : Int32) * (b 0 19)).toNatClampNeg) x1) 10 ((((3 : Int32) * ((up b 10 (((3 : Int32) * (b 0 19)).toNatClampNeg) x1) 0 19)) + 1).toNatClampNeg) x2) 0 19)) + 2).toNatClampNeg) x3) 0 19 (((up (up (up b 10 (((3 : Int32) * (b 0 19)).toNatClampNeg) x1) 10 ((((3 : Int32) * ((up b 10 (((3 : Int32) * (b 0 19)).toNatClampNeg) x1) 0 19)) + 1).toNatClampNeg) x2) 10 ((((3 : Int32) * ((up (up b 10 (((3 : Int32) * (b 0 19)).toNatClampNeg) x1) 10 ((((3 : Int32) * ((up b 10 (((3 : Int32) * (b 0 19)).toNatClampNeg) x1) 0 19)) + 1).toNatClampNeg) x2) 0 19)) + 2).toNatClampNeg) x3) 0 19) + 1)))) : g = if w < 8 then some (nI (w + 1), up (up (up (up b 10 (3 * w) x1) 10 (3 * w + 1) x2) 10 (3 * w + 2) x3) 0 19 (nI (w + 1))) else some (-5, b) := by
  rw [hg]
  simp only [up_n _ _ _ (show (0 : Nat) ≠ 10 by omega), hw, show (8 : Int32) = nI 8 from rfl, eqI (show w < 100000 by omega) (show 8 < 100000 by omega)]
  by_cases c : w < 8
  · obtain ⟨g1, g2, g3, g4, g5, g6⟩ := e3 w c
    rw [if_neg (by omega), if_pos c]
    simp only [g1, g2, g3, eq_false g4, eq_false g5, eq_false g6, eq_false (show ¬ 24 ≤ 3 * w by omega), eq_false (show ¬ 24 ≤ 3 * w + 1 by omega), eq_false (show ¬ 24 ≤ 3 * w + 2 by omega), or_self, if_false, up_s, ud_s, nI_1]
  · rw [if_pos (by omega), if_neg c]
theorem o_wish {a b : St} {H Dn F : Nat} (hR : RR a b H Dn F) (x1 x2 x3 : Int32) : OK2 (f_X5_wish x1 x2 x3 a) (f_X6_wish x1 x2 x3 b) := by
  have hT := hR.1
  unfold f_X5_wish f_X5_refusalOf f_X6_wish
  rcases ck_house hT x1 with ⟨h, hh, rfl, f1, f2⟩ | ⟨f1, f2⟩
  · rw [f1, f2]
    simp only [Option.bind_some, i10, if_false]
    rcases ck_deed hT x2 with ⟨d, hd, rfl, f3, f4⟩ | ⟨f3, f4⟩
    · rw [f3, f4]
      simp only [Option.bind_some, i10, if_false]
      rcases ck_time x3 with ⟨t, ht, rfl, f5, f6⟩ | ⟨f5, f6⟩
      · rw [f5, f6]
        simp only [Option.bind_some, i10, if_false, if_true]
        obtain ⟨w, w1, w2, w3, w4⟩ := id hR.2.2.2.2.1
        rw [x_add w2 w1, m_addW w1 w3 _ rfl]
        by_cases c : w < 8
        · rw [if_pos c, if_pos c]
          exact ⟨_, _, _, H, Dn, F, rfl, rfl, tell_wish hR w2 c hh hd ht⟩
        · rw [if_neg c, if_neg c]
          exact OK2_same hR _
      · rw [f5, f6]
        exact OK2_same hR _
    · rw [f3, f4]
      exact OK2_same hR _
  · rw [f1, f2]
    exact OK2_same hR _
theorem m_addS {b : St} {w : Nat} {x1 x2 x3 : Int32} (h8 : w ≤ 8) (hw : b 0 25 = nI w) (g : Option (Int32 × St)) (hg : g = (if b 0 25 = 8 then some ((-5), b) else
          if (3 : Int32) * (b 0 25) < 0 ∨ 24 ≤ ((3 : Int32) * (b 0 25)).toNatClampNeg then none else
          if ((3 : Int32) * ((up b 13 (((3 : Int32) * (b 0 25)).toNatClampNeg) x1) 0 25)) + 1 < 0 ∨ 24 ≤ (((3 : Int32) * ((up b 13 (((3 : Int32) * (b 0 25)).toNatClampNeg) x1) 0 25)) + 1).toNatClampNeg then none else
          if ((3 : Int32) * ((up (up b 13 (((3 : Int32) * (b 0 25)).toNatClampNeg) x1) 13 ((((3 : Int32) * ((up b 13 (((3 : Int32) * (b 0 25)).toNatClampNeg) x1) 0 25)) + 1).toNatClampNeg) x2) 0 25)) + 2 < 0 ∨ 24 ≤ (((3 : Int32) * ((up (up b 13 (((3 : Int32) * (b 0 25)).toNatClampNeg) x1) 13 ((((3 : Int32) * ((up b 13 (((3 : Int32) * (b 0 25)).toNatClampNeg) x1) 0 25)) + 1).toNatClampNeg) x2) 0 25)) + 2).toNatClampNeg then none else
          some ((up (up (up (up b 13 (((3 : Int32) * (b 0 25)).toNatClampNeg) x1) 13 ((((3 : Int32) * ((up b 13 (((3 : Int32) * (b 0 25)).toNatClampNeg) x1) 0 25)) + 1).toNatClampNeg) x2) 13 ((((3 : Int32) * ((up (up b 13 (((3 : Int32) * (b 0 25)).toNatClampNeg) x1) 13 ((((3 : Int32) * ((up b 13 (((3 : Int32) * (b 0 25)).toNatClampNeg) x1) 0 25)) + 1).toNatClampNeg) x2) 0 25)) + 2).toNatClampNeg) x3) 0 25 (((up (up (up b 13 (((3 : Int32) * (b 0 25)).toNatClampNeg) x1) 13 ((((3 : Int32) * ((up b 13 (((3 : Int32) * (b 0 25)).toNatClampNeg) x1) 0 25)) + 1).toNatClampNeg) x2) 13 ((((3 : Int32) * ((up (up b 13 (((3 : Int32) * (b 0 25)).toNatClampNeg) x1) 13 ((((3 : Int32) * ((up b 13 (((3 : Int32) * (b 0 25)).toNatClampNeg) x1) 0 25)) + 1).toNatClampNeg) x2) 0 25)) + 2).toNatClampNeg) x3) 0 25) + 1)) 0 25, up (up (up (up b 13 (((3 : Int32) * (b 0 25)).toNatClampNeg) x1) 13 ((((3 : Int32) * ((up b 13 (((3 : Int32) * (b 0 25)).toNatClampNeg) x1) 0 25)) + 1).toNatClampNeg) x2) 13 ((((3 : Int32) * ((up (up b 13 (((3 : Int32) * (b 0 25)).toNatClampNeg) x1) 13 ((((3 : Int32) * ((up b 13 (((3 : Int32) * (b 0 25)).toNatClampNeg) x1) 0 25)) + 1).toNatClampNeg) x2) 0 25)) + 2).toNatClampNeg) x3) 0 25 (((up (up (up b 13 (((3 : Int32) * (b 0 25)).toNatClampNeg) x1) 13 ((((3 : Int32) * ((up b 13 (((3 : Int32) * (b 0 25)).toNatClampNeg) x1) 0 25)) + 1).toNatClampNeg) x2) 13 ((((3 : Int32) * ((up (up b 13 (((3 : Int32) * (b 0 25)).toNatClampNeg) x1) 13 ((((3 : Int32) * ((up b 13 (((3 : Int32) * (b 0 25)).toNatClampNeg) x1) 0 25)) + 1).toNatClampNeg) x2) 0 25)) + 2).toNatClampNeg) x3) 0 25) + 1)))) : g = if w < 8 then some (nI (w + 1), up (up (up (up b 13 (3 * w) x1) 13 (3 * w + 1) x2) 13 (3 * w + 2) x3) 0 25 (nI (w + 1))) else some (-5, b) := by
  rw [hg]
  simp only [up_n _ _ _ (show (0 : Nat) ≠ 13 by omega), hw, show (8 : Int32) = nI 8 from rfl, eqI (show w < 100000 by omega) (show 8 < 100000 by omega)]
  by_cases c : w < 8
  · obtain ⟨g1, g2, g3, g4, g5, g6⟩ := e3 w c
    rw [if_neg (by omega), if_pos c]
    simp only [g1, g2, g3, eq_false g4, eq_false g5, eq_false g6, eq_false (show ¬ 24 ≤ 3 * w by omega), eq_false (show ¬ 24 ≤ 3 * w + 1 by omega), eq_false (show ¬ 24 ≤ 3 * w + 2 by omega), or_self, if_false, up_s, ud_s, nI_1]
  · rw [if_pos (by omega), if_neg c]
theorem o_seen {a b : St} {H Dn F : Nat} (hR : RR a b H Dn F) (x1 x2 x3 : Int32) : OK2 (f_X5_seen x1 x2 x3 a) (f_X6_seen x1 x2 x3 b) := by
  have hT := hR.1
  unfold f_X5_seen f_X5_isDeedOrNone f_X6_seen
  rcases ck_house hT x1 with ⟨h, hh, rfl, f1, f2⟩ | ⟨f1, f2⟩
  · rw [f1, f2]
    simp only [Option.bind_some, i10, if_false]
    by_cases cN : x2 = -1
    · subst cN
      simp only [if_true, Option.bind_some, i10, if_false]
      rcases ck_time x3 with ⟨t, ht, rfl, f5, f6⟩ | ⟨f5, f6⟩
      · rw [f5, f6]
        simp only [Option.bind_some, i10, if_false, if_true]
        obtain ⟨w, w1, w2, w3, w4⟩ := id hR.2.2.2.2.2.1
        rw [x_add w2 w1, m_addS w1 w3 _ rfl]
        by_cases c : w < 8
        · rw [if_pos c, if_pos c]
          exact ⟨_, _, _, H, Dn, F, rfl, rfl, tell_seen hR w2 c hh (Or.inr rfl) ht⟩
        · rw [if_neg c, if_neg c]
          exact OK2_same hR _
      · rw [f5, f6]
        exact OK2_same hR _
    · simp only [cN, if_false]
      rcases ck_deed hT x2 with ⟨d, hd, rfl, f3, f4⟩ | ⟨f3, f4⟩
      · rw [f3, f4]
        simp only [Option.bind_some, i10, if_false]
        rcases ck_time x3 with ⟨t, ht, rfl, f5, f6⟩ | ⟨f5, f6⟩
        · rw [f5, f6]
          simp only [Option.bind_some, i10, if_false, if_true]
          obtain ⟨w, w1, w2, w3, w4⟩ := id hR.2.2.2.2.2.1
          rw [x_add w2 w1, m_addS w1 w3 _ rfl]
          by_cases c : w < 8
          · rw [if_pos c, if_pos c]
            exact ⟨_, _, _, H, Dn, F, rfl, rfl, tell_seen hR w2 c hh (Or.inl ⟨d, hd, rfl⟩) ht⟩
          · rw [if_neg c, if_neg c]
            exact OK2_same hR _
        · rw [f5, f6]
          exact OK2_same hR _
      · rw [f3, f4]
        exact OK2_same hR _
  · rw [f1, f2]
    exact OK2_same hR _
theorem o_drop {a b : St} {H Dn F : Nat} (hR : RR a b H Dn F) : OK2 (f_X5_drop a) (f_X6_drop b) := by
  unfold f_X5_drop f_X3_clear f_X6_drop
  obtain ⟨r1, r2, k1, k2, ⟨w, w1, w2, w3, w4⟩, t2, tx⟩ := hR
  refine ⟨nI w, up a 25 3 0, up b 0 19 0, H, Dn, F, by rw [← w2]; rfl, by rw [← w3], RT_fr r1 (fun i hi => up_n _ _ _ (by omega)) (fun i hi => up_n _ _ _ (by omega)) (by rw [up_s, ud_n _ _ (by omega)]) (by rw [up_s, ud_n _ _ (by omega)]), RI_fr r2 (by rw [up_n _ _ _ (by omega)]) (up_n _ _ _ (by omega)) (up_n _ _ _ (by omega)) (fun k _ => by rw [up_n _ _ _ (by omega)]), RK_fr k1 (up_n _ _ _ (by omega)) (up_n _ _ _ (by omega)) (up_n _ _ _ (by omega)) (by rw [up_n _ _ _ (by omega)]) (fun k _ => by rw [up_n _ _ _ (by omega)]), RK_fr k2 (up_n _ _ _ (by omega)) (up_n _ _ _ (by omega)) (up_n _ _ _ (by omega)) (by rw [up_n _ _ _ (by omega)]) (fun k _ => by rw [up_n _ _ _ (by omega)]), ⟨0, by omega, by rw [up_s, ud_s]; rfl, by rw [up_s, ud_s]; rfl, fun i hi => absurd hi (by omega)⟩, RTold_fr t2 (by rw [up_n _ _ _ (by omega)]) (up_n _ _ _ (by omega)) (up_n _ _ _ (by omega)) (up_n _ _ _ (by omega)) (by rw [up_s, ud_n _ _ (by omega)]) (up_n _ _ _ (by omega)), RX_fr tx (by rw [up_n _ _ _ (by omega)]) (up_n _ _ _ (by omega)) (by rw [up_s, ud_n _ _ (by omega)]) (up_n _ _ _ (by omega))⟩
theorem o_forget {a b : St} {H Dn F : Nat} (hR : RR a b H Dn F) : OK2 (f_X5_forget a) (f_X6_forget b) := by
  unfold f_X5_forget f_X3_clear f_X6_forget
  obtain ⟨r1, r2, k1, k2, t1, ⟨w, w1, w2, w3, w4⟩, tx⟩ := hR
  refine ⟨nI w, up a 29 3 0, up b 0 25 0, H, Dn, F, by rw [← w2]; rfl, by rw [← w3], RT_fr r1 (fun i hi => up_n _ _ _ (by omega)) (fun i hi => up_n _ _ _ (by omega)) (by rw [up_s, ud_n _ _ (by omega)]) (by rw [up_s, ud_n _ _ (by omega)]), RI_fr r2 (by rw [up_n _ _ _ (by omega)]) (up_n _ _ _ (by omega)) (up_n _ _ _ (by omega)) (fun k _ => by rw [up_n _ _ _ (by omega)]), RK_fr k1 (up_n _ _ _ (by omega)) (up_n _ _ _ (by omega)) (up_n _ _ _ (by omega)) (by rw [up_n _ _ _ (by omega)]) (fun k _ => by rw [up_n _ _ _ (by omega)]), RK_fr k2 (up_n _ _ _ (by omega)) (up_n _ _ _ (by omega)) (up_n _ _ _ (by omega)) (by rw [up_n _ _ _ (by omega)]) (fun k _ => by rw [up_n _ _ _ (by omega)]), RTold_fr t1 (by rw [up_n _ _ _ (by omega)]) (up_n _ _ _ (by omega)) (up_n _ _ _ (by omega)) (up_n _ _ _ (by omega)) (by rw [up_s, ud_n _ _ (by omega)]) (up_n _ _ _ (by omega)), ⟨0, by omega, by rw [up_s, ud_s]; rfl, by rw [up_s, ud_s]; rfl, fun i hi => absurd hi (by omega)⟩, RX_fr tx (by rw [up_n _ _ _ (by omega)]) (up_n _ _ _ (by omega)) (by rw [up_s, ud_n _ _ (by omega)]) (up_n _ _ _ (by omega))⟩
theorem o_erase {a b : St} {H Dn F : Nat} (hR : RR a b H Dn F) : OK2 (f_X5_erase a) (f_X6_erase b) := by
  unfold f_X5_erase f_X2_empty f_X6_erase
  obtain ⟨r1, r2, k1, k2, t1, t2, ⟨len, l1, l2, l3, l4⟩⟩ := hR
  refine ⟨nI len, up a 1 1 0, up b 0 3 0, H, Dn, F, by rw [← l2]; rfl, by rw [← l3], RT_fr r1 (fun i hi => up_n _ _ _ (by omega)) (fun i hi => up_n _ _ _ (by omega)) (by rw [up_s, ud_n _ _ (by omega)]) (by rw [up_s, ud_n _ _ (by omega)]), RI_fr r2 (by rw [up_n _ _ _ (by omega)]) (up_n _ _ _ (by omega)) (up_n _ _ _ (by omega)) (fun k _ => by rw [up_n _ _ _ (by omega)]), RK_fr k1 (up_n _ _ _ (by omega)) (up_n _ _ _ (by omega)) (up_n _ _ _ (by omega)) (by rw [up_n _ _ _ (by omega)]) (fun k _ => by rw [up_n _ _ _ (by omega)]), RK_fr k2 (up_n _ _ _ (by omega)) (up_n _ _ _ (by omega)) (up_n _ _ _ (by omega)) (by rw [up_n _ _ _ (by omega)]) (fun k _ => by rw [up_n _ _ _ (by omega)]), RTold_fr t1 (by rw [up_n _ _ _ (by omega)]) (up_n _ _ _ (by omega)) (up_n _ _ _ (by omega)) (up_n _ _ _ (by omega)) (by rw [up_s, ud_n _ _ (by omega)]) (up_n _ _ _ (by omega)), RTold_fr t2 (by rw [up_n _ _ _ (by omega)]) (up_n _ _ _ (by omega)) (up_n _ _ _ (by omega)) (up_n _ _ _ (by omega)) (by rw [up_s, ud_n _ _ (by omega)]) (up_n _ _ _ (by omega)), ⟨0, by omega, by rw [up_s, ud_s]; rfl, by rw [up_s, ud_s]; rfl, fun i hi => absurd hi (by omega)⟩⟩
