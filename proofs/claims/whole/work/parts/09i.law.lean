/-! ===== both objects as they are made; the law, call by call ===== -/
theorem ri_facts : riI 0 2 = 0 ∧ riI 0 3 = 0 ∧ (∀ h, h < 8 → riI 1 h = -1) ∧ ∀ h, riI 2 h = 0 := by
  obtain ⟨s2, w1, w2, w3⟩ := x_idleAll (s := fun _ _ => 0) (n := 70) (o := 0) (by omega)
  rw [riI_ok] at w1
  rw [Option.some.inj w1]
  refine ⟨by rw [w2 0 (by omega)], by rw [w2 0 (by omega)], fun h hh => ?_, fun h => by rw [w2 2 (by omega)]⟩
  have := w3 h hh
  rw [Nat.zero_add] at this
  exact this
theorem zr_facts : zrT 0 0 = 2 ∧ zrT 0 1 = 0 ∧ zrT 0 2 = 0 ∧ (∀ h, h < 8 → zrT 1 h = -1 ∧ zrT 2 h = 0) ∧ ∀ k, k < 64 → zrT 3 k = 0 := by
  have hz := zrT_ok
  generalize zrT = s2 at hz
  unfold f_X4_restart_Z at hz
  have a0 : (up (up (up (fun _ _ => 0) 0 0 2) 0 1 0) 0 2 0) 0 0 = 2 := by rw [up_s, ud_n _ _ (by omega), up_s, ud_n _ _ (by omega), up_s, ud_s]
  have a1 : (up (up (up (fun _ _ => 0) 0 0 2) 0 1 0) 0 2 0) 0 1 = 0 := by rw [up_s, ud_n _ _ (by omega), up_s, ud_s]
  have a2 : (up (up (up (fun _ _ => 0) 0 0 2) 0 1 0) 0 2 0) 0 2 = 0 := by rw [up_s, ud_s]
  generalize up (up (up (fun _ _ => 0) 0 0 2) 0 1 0) 0 2 0 = t at a0 a1 a2 hz
  obtain ⟨s1, ⟨p1, p2⟩, g⟩ := loop_inv (fun j i (t : St) => L_X4_restart_Z_17 70 j i t) (fun t => B_X4_restart_Z_43 70 t) 8 0 (fun k z => (∀ i, i ≠ 1 → i ≠ 2 → z i = t i) ∧ ∀ h, h < k → z 1 h = -1 ∧ z 2 h = 0) (s0 := t) (by omega) ⟨fun _ _ _ => rfl, fun h hh => absurd hh (by omega)⟩ (fun k z _ hk hP => by
    obtain ⟨q1, q2⟩ := hP
    refine ⟨up (up z 1 k (-1)) 2 k 0, ⟨fun i i1 i2 => by rw [up_n _ _ _ i2, up_n _ _ _ i1]; exact q1 i i1 i2, fun h hh => ?_⟩, fun j => ?_⟩
    · rw [up_n _ _ _ (by omega), up_s, up_s, up_n _ _ _ (by omega)]
      by_cases c : h = k
      · rw [c, ud_s, ud_s]
        exact ⟨rfl, rfl⟩
      · rw [ud_n _ _ c, ud_n _ _ c]
        exact q2 h (by omega)
    · show L_X4_restart_Z_17 70 (j + 1) (nI k) z = L_X4_restart_Z_17 70 j (nI (k + 1)) _
      rw [L_X4_restart_Z_17, if_neg (by rw [show (8 : Int32) = nI 8 from rfl, leI (by omega) (by omega)]; omega)]
      simp only [cl (show k < 100000 by omega), gj hk (show 8 ≤ 100000 by omega), if_false, nI_1]) (fun j z _ => by
    show L_X4_restart_Z_17 70 (j + 1) (nI 8) z = _
    rw [L_X4_restart_Z_17, if_pos (by decide)])
  obtain ⟨s3, ⟨r1, r2⟩, g2⟩ := loop_inv (fun j i (t : St) => L_X4_restart_Z_45 70 j i t) (fun t => some t) 64 0 (fun k z => (∀ i, i ≠ 3 → z i = s1 i) ∧ ∀ h, h < k → z 3 h = 0) (s0 := s1) (by omega) ⟨fun _ _ => rfl, fun h hh => absurd hh (by omega)⟩ (fun k z _ hk hP => by
    obtain ⟨q1, q2⟩ := hP
    refine ⟨up z 3 k 0, ⟨fun i i1 => by rw [up_n _ _ _ i1]; exact q1 i i1, fun h hh => ?_⟩, fun j => ?_⟩
    · rw [up_s]
      by_cases c : h = k
      · rw [c, ud_s]
      · rw [ud_n _ _ c]
        exact q2 h (by omega)
    · show L_X4_restart_Z_45 70 (j + 1) (nI k) z = L_X4_restart_Z_45 70 j (nI (k + 1)) _
      rw [L_X4_restart_Z_45, if_neg (by rw [show (64 : Int32) = nI 64 from rfl, leI (by omega) (by omega)]; omega)]
      simp only [cl (show k < 100000 by omega), gj hk (show 64 ≤ 100000 by omega), if_false, nI_1]) (fun j z _ => by
    show L_X4_restart_Z_45 70 (j + 1) (nI 64) z = _
    rw [L_X4_restart_Z_45, if_pos (by decide)])
  have g3 : L_X4_restart_Z_17 70 70 0 t = B_X4_restart_Z_43 70 s1 := g 70 (by omega)
  have g4 : B_X4_restart_Z_43 70 s1 = some s3 := g2 70 (by omega)
  rw [g3, g4] at hz
  rw [← Option.some.inj hz]
  exact ⟨by rw [r1 0 (by omega), p1 0 (by omega) (by omega)]; exact a0, by rw [r1 0 (by omega), p1 0 (by omega) (by omega)]; exact a1, by rw [r1 0 (by omega), p1 0 (by omega) (by omega)]; exact a2, fun h hh => by rw [r1 1 (by omega), r1 2 (by omega)]; exact p2 h hh, fun k hk => r2 k hk⟩
theorem b0_facts : (∀ h, h < 8 → b0M 5 h = -1 ∧ b0M 1 h = -1) ∧ (∀ h, h < 9 → b0M 1 (8 + h) = 0) := by decide +kernel
theorem RR_start : RR a0X b0M 2 0 0 := by
  obtain ⟨z0, z1, z2, z3, z4⟩ := zr_facts
  obtain ⟨i0, i1, i2, i3⟩ := ri_facts
  obtain ⟨b1, b2⟩ := b0_facts
  refine ⟨⟨⟨by omega, by omega, by omega, by decide⟩, ⟨z0, rfl, z1, rfl, z2⟩, fun h hh => ?_, fun h hh => ?_, fun k hk => ?_, fun d hd => absurd hd (by omega)⟩, ⟨fun h hh => ?_, 0, by omega, i0, b2 0 (by omega)⟩, Or.inl ⟨i1, rfl⟩, Or.inl ⟨i1, rfl⟩, ⟨0, by omega, rfl, rfl, fun i hi => absurd hi (by omega)⟩, ⟨0, by omega, rfl, rfl, fun i hi => absurd hi (by omega)⟩, ⟨0, by omega, rfl, rfl, fun i hi => absurd hi (by omega)⟩⟩
  · have e : a0X 6 h = -1 := (z3 h hh).1
    rw [e]
    exact ⟨(b1 h hh).1, Or.inl rfl⟩
  · have e : a0X 7 h = 0 := (z3 h hh).2
    rw [e]
    exact ⟨rfl, 0, by omega, rfl⟩
  · have e : a0X 8 k = 0 := z4 k hk
    rw [e]
    exact ⟨rfl, 0, by omega, rfl⟩
  · have e : a0X 16 h = -1 := i2 h hh
    have e2 : a0X 17 h = 0 := i3 h
    have e3 := b2 (1 + h) (by omega)
    rw [show 8 + (1 + h) = 0 + 9 + h by omega] at e3
    rw [e, e2, e3, Nat.zero_add]
    exact ⟨(b1 h hh).2, rfl, Or.inl rfl, fun _ => rfl⟩
/-- side by side, somehow -/
def RE (a b : St) : Prop := ∃ H Dn F, RR a b H Dn F
theorem k_ok1 {f g : Option Int32} {r : Option Int32} (h : OK1 f g) (hk : r = some 1) : (f.bind fun q1 => g.bind fun q2 => if q1 = q2 then r else some 0) = some 1 := by
  obtain ⟨x, e1, e2⟩ := h
  rw [e1, e2, Option.bind_some, Option.bind_some, if_pos rfl]
  exact hk
theorem k_ok2 {f g : Option (Int32 × St)} (k : St → St → Option Int32) (h : OK2 f g) (hk : ∀ a b, RE a b → k a b = some 1) : (f.bind fun q1 => g.bind fun q2 => if q1.1 = q2.1 then k q1.2 q2.2 else some 0) = some 1 := by
  obtain ⟨x, a, b, H, D, F, e1, e2, hR⟩ := h
  rw [e1, e2, Option.bind_some, Option.bind_some, if_pos rfl]
  exact hk a b ⟨H, D, F, hR⟩
theorem lgc_self (x : Int64) : lg_cmp x x = 0 := by
  unfold lg_cmp
  rw [if_neg (show ¬ x > x from Int64.lt_irrefl), if_pos rfl]
theorem k_ok3 {f g : Option (Int64 × St)} (k : St → St → Option Int32) (h : OK3 f g) (hk : ∀ a b, RE a b → k a b = some 1) : (f.bind fun q1 => g.bind fun q2 => if lg_cmp q1.1 q2.1 = 0 then k q1.2 q2.2 else some 0) = some 1 := by
  obtain ⟨x, a, b, H, D, F, e1, e2, hR⟩ := h
  rw [e1, e2, Option.bind_some, Option.bind_some, if_pos (lgc_self x)]
  exact hk a b ⟨H, D, F, hR⟩
/-- the four ints behind a place are there -/
def TH (L : Nat) (x : Int32) : Prop := (((x + 1 < 0 ∨ L ≤ (x + 1).toNatClampNeg) = False) ∧ ((x + 2 < 0 ∨ L ≤ (x + 2).toNatClampNeg) = False)) ∧ ((x + 3 < 0 ∨ L ≤ (x + 3).toNatClampNeg) = False) ∧ ((x + 4 < 0 ∨ L ≤ (x + 4).toNatClampNeg) = False)
theorem TH_of {L p : Nat} (hL : L ≤ 2560) (h : p + 5 ≤ L) : TH L (nI p) := by
  unfold TH
  rw [nI_1, show (2 : Int32) = nI 2 from rfl, show (3 : Int32) = nI 3 from rfl, show (4 : Int32) = nI 4 from rfl, nI_add, nI_add, nI_add]
  exact ⟨⟨gi (by omega) (by omega), gi (by omega) (by omega)⟩, gi (by omega) (by omega), gi (by omega) (by omega)⟩

theorem kk_0 {n L : Nat} {xs : Nat → Int32} {k : Int32 → St → St → Option Int32} {x3 : Int32} {a b : St} (hn : 3000 ≤ n) (hx : TH L x3) (hS : RE a b) (hk : ∀ a b, RE a b → k (x3 + 5) a b = some 1) : K_law_0 n L xs k x3 a b = some 1 := by
  obtain ⟨H, D, F, hR⟩ := hS
  obtain ⟨⟨y1, y2⟩, y3, y4⟩ := hx
  unfold K_law_0
  simp only [y1, y2, y3, y4, if_false]
  exact k_ok2 (k (x3 + 5)) (o_write hn hR _ _) hk
theorem kk_1 {n L : Nat} {xs : Nat → Int32} {k : Int32 → St → St → Option Int32} {x3 : Int32} {a b : St} (hn : 3000 ≤ n) (hx : TH L x3) (hS : RE a b) (hk : ∀ a b, RE a b → k (x3 + 5) a b = some 1) : K_law_1 n L xs k x3 a b = some 1 := by
  obtain ⟨H, D, F, hR⟩ := hS
  obtain ⟨⟨y1, y2⟩, y3, y4⟩ := hx
  unfold K_law_1
  exact k_ok2 (k (x3 + 5)) (o_erase hR) hk
theorem kk_2 {n L : Nat} {xs : Nat → Int32} {k : Int32 → St → St → Option Int32} {x3 : Int32} {a b : St} (hn : 3000 ≤ n) (hx : TH L x3) (hS : RE a b) (hk : ∀ a b, RE a b → k (x3 + 5) a b = some 1) : K_law_2 n L xs k x3 a b = some 1 := by
  obtain ⟨H, D, F, hR⟩ := hS
  obtain ⟨⟨y1, y2⟩, y3, y4⟩ := hx
  unfold K_law_2
  exact k_ok2 (k (x3 + 5)) (o_fault hn hR) hk
theorem kk_3 {n L : Nat} {xs : Nat → Int32} {k : Int32 → St → St → Option Int32} {x3 : Int32} {a b : St} (hn : 3000 ≤ n) (hx : TH L x3) (hS : RE a b) (hk : ∀ a b, RE a b → k (x3 + 5) a b = some 1) : K_law_3 n L xs k x3 a b = some 1 := by
  obtain ⟨H, D, F, hR⟩ := hS
  obtain ⟨⟨y1, y2⟩, y3, y4⟩ := hx
  unfold K_law_3
  exact k_ok2 (k (x3 + 5)) (o_street hn hR) hk
theorem kk_4 {n L : Nat} {xs : Nat → Int32} {k : Int32 → St → St → Option Int32} {x3 : Int32} {a b : St} (hn : 3000 ≤ n) (hx : TH L x3) (hS : RE a b) (hk : ∀ a b, RE a b → k (x3 + 5) a b = some 1) : K_law_4 n L xs k x3 a b = some 1 := by
  obtain ⟨H, D, F, hR⟩ := hS
  obtain ⟨⟨y1, y2⟩, y3, y4⟩ := hx
  unfold K_law_4
  simp only [y1, y2, y3, y4, if_false]
  exact k_ok1 (o_house hR _ _) (hk a b ⟨H, D, F, hR⟩)
theorem kk_5 {n L : Nat} {xs : Nat → Int32} {k : Int32 → St → St → Option Int32} {x3 : Int32} {a b : St} (hn : 3000 ≤ n) (hx : TH L x3) (hS : RE a b) (hk : ∀ a b, RE a b → k (x3 + 5) a b = some 1) : K_law_5 n L xs k x3 a b = some 1 := by
  obtain ⟨H, D, F, hR⟩ := hS
  obtain ⟨⟨y1, y2⟩, y3, y4⟩ := hx
  unfold K_law_5
  simp only [y1, y2, y3, y4, if_false]
  exact k_ok1 (o_deed hR _ _) (hk a b ⟨H, D, F, hR⟩)
theorem kk_6 {n L : Nat} {xs : Nat → Int32} {k : Int32 → St → St → Option Int32} {x3 : Int32} {a b : St} (hn : 3000 ≤ n) (hx : TH L x3) (hS : RE a b) (hk : ∀ a b, RE a b → k (x3 + 5) a b = some 1) : K_law_6 n L xs k x3 a b = some 1 := by
  obtain ⟨H, D, F, hR⟩ := hS
  obtain ⟨⟨y1, y2⟩, y3, y4⟩ := hx
  unfold K_law_6
  simp only [y1, y2, y3, y4, if_false]
  exact k_ok1 (o_as hn hR _ _) (hk a b ⟨H, D, F, hR⟩)
theorem kk_7 {n L : Nat} {xs : Nat → Int32} {k : Int32 → St → St → Option Int32} {x3 : Int32} {a b : St} (hn : 3000 ≤ n) (hx : TH L x3) (hS : RE a b) (hk : ∀ a b, RE a b → k (x3 + 5) a b = some 1) : K_law_7 n L xs k x3 a b = some 1 := by
  obtain ⟨H, D, F, hR⟩ := hS
  obtain ⟨⟨y1, y2⟩, y3, y4⟩ := hx
  unfold K_law_7
  simp only [y1, y2, y3, y4, if_false]
  exact k_ok2 (k (x3 + 5)) (o_set hn hR _ _) hk
theorem kk_8 {n L : Nat} {xs : Nat → Int32} {k : Int32 → St → St → Option Int32} {x3 : Int32} {a b : St} (hn : 3000 ≤ n) (hx : TH L x3) (hS : RE a b) (hk : ∀ a b, RE a b → k (x3 + 5) a b = some 1) : K_law_8 n L xs k x3 a b = some 1 := by
  obtain ⟨H, D, F, hR⟩ := hS
  obtain ⟨⟨y1, y2⟩, y3, y4⟩ := hx
  unfold K_law_8
  simp only [y1, y2, y3, y4, if_false]
  exact k_ok2 (k (x3 + 5)) (o_go hn hR _) hk
theorem kk_9 {n L : Nat} {xs : Nat → Int32} {k : Int32 → St → St → Option Int32} {x3 : Int32} {a b : St} (hn : 3000 ≤ n) (hx : TH L x3) (hS : RE a b) (hk : ∀ a b, RE a b → k (x3 + 5) a b = some 1) : K_law_9 n L xs k x3 a b = some 1 := by
  obtain ⟨H, D, F, hR⟩ := hS
  obtain ⟨⟨y1, y2⟩, y3, y4⟩ := hx
  unfold K_law_9
  simp only [y1, y2, y3, y4, if_false]
  exact k_ok2 (k (x3 + 5)) (o_later hn hR _ _) hk
theorem kk_10 {n L : Nat} {xs : Nat → Int32} {k : Int32 → St → St → Option Int32} {x3 : Int32} {a b : St} (hn : 3000 ≤ n) (hx : TH L x3) (hS : RE a b) (hk : ∀ a b, RE a b → k (x3 + 5) a b = some 1) : K_law_10 n L xs k x3 a b = some 1 := by
  obtain ⟨H, D, F, hR⟩ := hS
  obtain ⟨⟨y1, y2⟩, y3, y4⟩ := hx
  unfold K_law_10
  simp only [y1, y2, y3, y4, if_false]
  exact k_ok2 (k (x3 + 5)) (o_again hn hR _) hk
theorem kk_11 {n L : Nat} {xs : Nat → Int32} {k : Int32 → St → St → Option Int32} {x3 : Int32} {a b : St} (hn : 3000 ≤ n) (hx : TH L x3) (hS : RE a b) (hk : ∀ a b, RE a b → k (x3 + 5) a b = some 1) : K_law_11 n L xs k x3 a b = some 1 := by
  obtain ⟨H, D, F, hR⟩ := hS
  obtain ⟨⟨y1, y2⟩, y3, y4⟩ := hx
  unfold K_law_11
  simp only [y1, y2, y3, y4, if_false]
  exact k_ok1 (o_first hn hR _ _ _) (hk a b ⟨H, D, F, hR⟩)
theorem kk_12 {n L : Nat} {xs : Nat → Int32} {k : Int32 → St → St → Option Int32} {x3 : Int32} {a b : St} (hn : 3000 ≤ n) (hx : TH L x3) (hS : RE a b) (hk : ∀ a b, RE a b → k (x3 + 5) a b = some 1) : K_law_12 n L xs k x3 a b = some 1 := by
  obtain ⟨H, D, F, hR⟩ := hS
  obtain ⟨⟨y1, y2⟩, y3, y4⟩ := hx
  unfold K_law_12
  simp only [y1, y2, y3, y4, if_false]
  exact k_ok1 (o_lack hn hR _ _ _) (hk a b ⟨H, D, F, hR⟩)
theorem kk_13 {n L : Nat} {xs : Nat → Int32} {k : Int32 → St → St → Option Int32} {x3 : Int32} {a b : St} (hn : 3000 ≤ n) (hx : TH L x3) (hS : RE a b) (hk : ∀ a b, RE a b → k (x3 + 5) a b = some 1) : K_law_13 n L xs k x3 a b = some 1 := by
  obtain ⟨H, D, F, hR⟩ := hS
  obtain ⟨⟨y1, y2⟩, y3, y4⟩ := hx
  unfold K_law_13
  simp only [y1, y2, y3, y4, if_false]
  exact k_ok2 (k (x3 + 5)) (o_wish hR _ _ _) hk
theorem kk_14 {n L : Nat} {xs : Nat → Int32} {k : Int32 → St → St → Option Int32} {x3 : Int32} {a b : St} (hn : 3000 ≤ n) (hx : TH L x3) (hS : RE a b) (hk : ∀ a b, RE a b → k (x3 + 5) a b = some 1) : K_law_14 n L xs k x3 a b = some 1 := by
  obtain ⟨H, D, F, hR⟩ := hS
  obtain ⟨⟨y1, y2⟩, y3, y4⟩ := hx
  unfold K_law_14
  exact k_ok2 (k (x3 + 5)) (o_drop hR) hk
theorem kk_15 {n L : Nat} {xs : Nat → Int32} {k : Int32 → St → St → Option Int32} {x3 : Int32} {a b : St} (hn : 3000 ≤ n) (hx : TH L x3) (hS : RE a b) (hk : ∀ a b, RE a b → k (x3 + 5) a b = some 1) : K_law_15 n L xs k x3 a b = some 1 := by
  obtain ⟨H, D, F, hR⟩ := hS
  obtain ⟨⟨y1, y2⟩, y3, y4⟩ := hx
  unfold K_law_15
  exact k_ok2 (k (x3 + 5)) (o_ways hn hR) hk
theorem kk_16 {n L : Nat} {xs : Nat → Int32} {k : Int32 → St → St → Option Int32} {x3 : Int32} {a b : St} (hn : 3000 ≤ n) (hx : TH L x3) (hS : RE a b) (hk : ∀ a b, RE a b → k (x3 + 5) a b = some 1) : K_law_16 n L xs k x3 a b = some 1 := by
  obtain ⟨H, D, F, hR⟩ := hS
  obtain ⟨⟨y1, y2⟩, y3, y4⟩ := hx
  unfold K_law_16
  simp only [y1, y2, y3, y4, if_false]
  exact k_ok2 (k (x3 + 5)) (o_sum hn hR _ _) hk
theorem kk_17 {n L : Nat} {xs : Nat → Int32} {k : Int32 → St → St → Option Int32} {x3 : Int32} {a b : St} (hn : 3000 ≤ n) (hx : TH L x3) (hS : RE a b) (hk : ∀ a b, RE a b → k (x3 + 5) a b = some 1) : K_law_17 n L xs k x3 a b = some 1 := by
  obtain ⟨H, D, F, hR⟩ := hS
  obtain ⟨⟨y1, y2⟩, y3, y4⟩ := hx
  unfold K_law_17
  simp only [y1, y2, y3, y4, if_false]
  exact k_ok2 (k (x3 + 5)) (o_council hn hR _ _ _) hk
theorem kk_18 {n L : Nat} {xs : Nat → Int32} {k : Int32 → St → St → Option Int32} {x3 : Int32} {a b : St} (hn : 3000 ≤ n) (hx : TH L x3) (hS : RE a b) (hk : ∀ a b, RE a b → k (x3 + 5) a b = some 1) : K_law_18 n L xs k x3 a b = some 1 := by
  obtain ⟨H, D, F, hR⟩ := hS
  obtain ⟨⟨y1, y2⟩, y3, y4⟩ := hx
  unfold K_law_18
  simp only [y1, y2, y3, y4, if_false]
  exact k_ok2 (k (x3 + 5)) (o_idle hn hR _ _ _) hk
theorem kk_19 {n L : Nat} {xs : Nat → Int32} {k : Int32 → St → St → Option Int32} {x3 : Int32} {a b : St} (hn : 3000 ≤ n) (hx : TH L x3) (hS : RE a b) (hk : ∀ a b, RE a b → k (x3 + 5) a b = some 1) : K_law_19 n L xs k x3 a b = some 1 := by
  obtain ⟨H, D, F, hR⟩ := hS
  obtain ⟨⟨y1, y2⟩, y3, y4⟩ := hx
  unfold K_law_19
  simp only [y1, y2, y3, y4, if_false]
  exact k_ok3 (k (x3 + 5)) (o_odds hn hR _ _ _ _) hk
theorem kk_20 {n L : Nat} {xs : Nat → Int32} {k : Int32 → St → St → Option Int32} {x3 : Int32} {a b : St} (hn : 3000 ≤ n) (hx : TH L x3) (hS : RE a b) (hk : ∀ a b, RE a b → k (x3 + 5) a b = some 1) : K_law_20 n L xs k x3 a b = some 1 := by
  obtain ⟨H, D, F, hR⟩ := hS
  obtain ⟨⟨y1, y2⟩, y3, y4⟩ := hx
  unfold K_law_20
  simp only [y1, y2, y3, y4, if_false]
  exact k_ok2 (k (x3 + 5)) (o_pair hn hR _) hk
theorem kk_21 {n L : Nat} {xs : Nat → Int32} {k : Int32 → St → St → Option Int32} {x3 : Int32} {a b : St} (hn : 3000 ≤ n) (hx : TH L x3) (hS : RE a b) (hk : ∀ a b, RE a b → k (x3 + 5) a b = some 1) : K_law_21 n L xs k x3 a b = some 1 := by
  obtain ⟨H, D, F, hR⟩ := hS
  obtain ⟨⟨y1, y2⟩, y3, y4⟩ := hx
  unfold K_law_21
  simp only [y1, y2, y3, y4, if_false]
  exact k_ok1 (o_town hn hR _) (hk a b ⟨H, D, F, hR⟩)
theorem kk_22 {n L : Nat} {xs : Nat → Int32} {k : Int32 → St → St → Option Int32} {x3 : Int32} {a b : St} (hn : 3000 ≤ n) (hx : TH L x3) (hS : RE a b) (hk : ∀ a b, RE a b → k (x3 + 5) a b = some 1) : K_law_22 n L xs k x3 a b = some 1 := by
  obtain ⟨H, D, F, hR⟩ := hS
  obtain ⟨⟨y1, y2⟩, y3, y4⟩ := hx
  unfold K_law_22
  simp only [y1, y2, y3, y4, if_false]
  exact k_ok2 (k (x3 + 5)) (o_seen hR _ _ _) hk
theorem kk_23 {n L : Nat} {xs : Nat → Int32} {k : Int32 → St → St → Option Int32} {x3 : Int32} {a b : St} (hn : 3000 ≤ n) (hx : TH L x3) (hS : RE a b) (hk : ∀ a b, RE a b → k (x3 + 5) a b = some 1) : K_law_23 n L xs k x3 a b = some 1 := by
  obtain ⟨H, D, F, hR⟩ := hS
  obtain ⟨⟨y1, y2⟩, y3, y4⟩ := hx
  unfold K_law_23
  exact k_ok2 (k (x3 + 5)) (o_forget hR) hk
theorem kk_24 {n L : Nat} {xs : Nat → Int32} {k : Int32 → St → St → Option Int32} {x3 : Int32} {a b : St} (hn : 3000 ≤ n) (hx : TH L x3) (hS : RE a b) (hk : ∀ a b, RE a b → k (x3 + 5) a b = some 1) : K_law_24 n L xs k x3 a b = some 1 := by
  obtain ⟨H, D, F, hR⟩ := hS
  obtain ⟨⟨y1, y2⟩, y3, y4⟩ := hx
  unfold K_law_24
  simp only [y1, y2, y3, y4, if_false]
  exact k_ok2 (k (x3 + 5)) (o_fits hn hR _) hk
theorem kk_25 {n L : Nat} {xs : Nat → Int32} {k : Int32 → St → St → Option Int32} {x3 : Int32} {a b : St} (hn : 3000 ≤ n) (hx : TH L x3) (hS : RE a b) (hk : ∀ a b, RE a b → k (x3 + 5) a b = some 1) : K_law_25 n L xs k x3 a b = some 1 := by
  obtain ⟨H, D, F, hR⟩ := hS
  obtain ⟨⟨y1, y2⟩, y3, y4⟩ := hx
  unfold K_law_25
  simp only [y1, y2, y3, y4, if_false]
  exact k_ok2 (k (x3 + 5)) (o_keep hn hR _) hk
theorem kk_26 {n L : Nat} {xs : Nat → Int32} {k : Int32 → St → St → Option Int32} {x3 : Int32} {a b : St} (hn : 3000 ≤ n) (hx : TH L x3) (hS : RE a b) (hk : ∀ a b, RE a b → k (x3 + 5) a b = some 1) : K_law_26 n L xs k x3 a b = some 1 := by
  obtain ⟨H, D, F, hR⟩ := hS
  obtain ⟨⟨y1, y2⟩, y3, y4⟩ := hx
  unfold K_law_26
  simp only [y1, y2, y3, y4, if_false]
  exact k_ok2 (k (x3 + 5)) (o_back hn hR _) hk
theorem kk_27 {n L : Nat} {xs : Nat → Int32} {k : Int32 → St → St → Option Int32} {x3 : Int32} {a b : St} (hn : 3000 ≤ n) (hx : TH L x3) (hS : RE a b) (hk : ∀ a b, RE a b → k (x3 + 5) a b = some 1) : K_law_27 n L xs k x3 a b = some 1 := by
  obtain ⟨H, D, F, hR⟩ := hS
  obtain ⟨⟨y1, y2⟩, y3, y4⟩ := hx
  unfold K_law_27
  simp only [y1, y2, y3, y4, if_false]
  exact k_ok1 (o_count hR _) (hk a b ⟨H, D, F, hR⟩)
theorem stop_at {L p : Nat} (hL : L ≤ 2560) (hp : p ≤ 3000) : (nI L - 5 < nI p) = (L < p + 5) := by
  refine propext ?_
  rw [i_lt, show (5 : Int32) = nI 5 from rfl, pk_sub_toInt (by omega) (by omega), nI_toInt (by omega)]
  omega
theorem law_goes {L : Nat} {xs : Nat → Int32} (hL : L ≤ 2560) : ∀ m i, i + m = 513 → ∀ j, m < j → ∀ a b, RE a b → L_law_18 3000 L xs j (nI (5 * i)) a b = some 1 := by
  intro m
  induction m with
  | zero =>
    intro i hi j hj a b _
    obtain ⟨j, rfl⟩ : ∃ j1, j = j1 + 1 := ⟨j - 1, by omega⟩
    rw [L_law_18, if_pos (by rw [stop_at hL (by omega)]; omega)]
  | succ m ih =>
    intro i hi j hj a b hS
    obtain ⟨j, rfl⟩ : ∃ j1, j = j1 + 1 := ⟨j - 1, by omega⟩
    have hk : ∀ a b, RE a b → L_law_18 3000 L xs j (nI (5 * i) + 5) a b = some 1 := fun a b h => by
      rw [show (5 : Int32) = nI 5 from rfl, nI_add, show 5 * i + 5 = 5 * (i + 1) by omega]
      exact ih (i + 1) (by omega) j (by omega) a b h
    rw [L_law_18]
    by_cases hs : L < 5 * i + 5
    · rw [if_pos (by rw [stop_at hL (by omega)]; exact hs)]
    rw [if_neg (by rw [stop_at hL (by omega)]; exact hs), if_neg (by rw [gi (show 5 * i < L by omega) (by omega)]; exact id)]
    have hx : TH L (nI (5 * i)) := TH_of hL (by omega)
    generalize (xs (nI (5 * i)).toNatClampNeg) &&& 31 = c
    by_cases c0 : c = 0
    · rw [if_pos c0]
      exact kk_0 (by omega) hx hS hk
    rw [if_neg c0]
    by_cases c1 : c = 1
    · rw [if_pos c1]
      exact kk_1 (by omega) hx hS hk
    rw [if_neg c1]
    by_cases c2 : c = 2
    · rw [if_pos c2]
      exact kk_2 (by omega) hx hS hk
    rw [if_neg c2]
    by_cases c3 : c = 3
    · rw [if_pos c3]
      exact kk_3 (by omega) hx hS hk
    rw [if_neg c3]
    by_cases c4 : c = 4
    · rw [if_pos c4]
      exact kk_4 (by omega) hx hS hk
    rw [if_neg c4]
    by_cases c5 : c = 5
    · rw [if_pos c5]
      exact kk_5 (by omega) hx hS hk
    rw [if_neg c5]
    by_cases c6 : c = 6
    · rw [if_pos c6]
      exact kk_6 (by omega) hx hS hk
    rw [if_neg c6]
    by_cases c7 : c = 7
    · rw [if_pos c7]
      exact kk_7 (by omega) hx hS hk
    rw [if_neg c7]
    by_cases c8 : c = 8
    · rw [if_pos c8]
      exact kk_8 (by omega) hx hS hk
    rw [if_neg c8]
    by_cases c9 : c = 9
    · rw [if_pos c9]
      exact kk_9 (by omega) hx hS hk
    rw [if_neg c9]
    by_cases c10 : c = 10
    · rw [if_pos c10]
      exact kk_10 (by omega) hx hS hk
    rw [if_neg c10]
    by_cases c11 : c = 11
    · rw [if_pos c11]
      exact kk_11 (by omega) hx hS hk
    rw [if_neg c11]
    by_cases c12 : c = 12
    · rw [if_pos c12]
      exact kk_12 (by omega) hx hS hk
    rw [if_neg c12]
    by_cases c13 : c = 13
    · rw [if_pos c13]
      exact kk_13 (by omega) hx hS hk
    rw [if_neg c13]
    by_cases c14 : c = 14
    · rw [if_pos c14]
      exact kk_14 (by omega) hx hS hk
    rw [if_neg c14]
    by_cases c15 : c = 15
    · rw [if_pos c15]
      exact kk_15 (by omega) hx hS hk
    rw [if_neg c15]
    by_cases c16 : c = 16
    · rw [if_pos c16]
      exact kk_16 (by omega) hx hS hk
    rw [if_neg c16]
    by_cases c17 : c = 17
    · rw [if_pos c17]
      exact kk_17 (by omega) hx hS hk
    rw [if_neg c17]
    by_cases c18 : c = 18
    · rw [if_pos c18]
      exact kk_18 (by omega) hx hS hk
    rw [if_neg c18]
    by_cases c19 : c = 19
    · rw [if_pos c19]
      exact kk_19 (by omega) hx hS hk
    rw [if_neg c19]
    by_cases c20 : c = 20
    · rw [if_pos c20]
      exact kk_20 (by omega) hx hS hk
    rw [if_neg c20]
    by_cases c21 : c = 21
    · rw [if_pos c21]
      exact kk_21 (by omega) hx hS hk
    rw [if_neg c21]
    by_cases c22 : c = 22
    · rw [if_pos c22]
      exact kk_22 (by omega) hx hS hk
    rw [if_neg c22]
    by_cases c23 : c = 23
    · rw [if_pos c23]
      exact kk_23 (by omega) hx hS hk
    rw [if_neg c23]
    by_cases c24 : c = 24
    · rw [if_pos c24]
      exact kk_24 (by omega) hx hS hk
    rw [if_neg c24]
    by_cases c25 : c = 25
    · rw [if_pos c25]
      exact kk_25 (by omega) hx hS hk
    rw [if_neg c25]
    by_cases c26 : c = 26
    · rw [if_pos c26]
      exact kk_26 (by omega) hx hS hk
    rw [if_neg c26]
    by_cases c27 : c = 27
    · rw [if_pos c27]
      exact kk_27 (by omega) hx hS hk
    rw [if_neg c27]
    exact hk a b hS
theorem law_pure {L : Nat} {xs : Nat → Int32} (hL : L ≤ 2560) : ∃ n, L_law_18 n L xs 600 0 a0X b0M = some 1 := ⟨3000, law_goes hL 513 0 (by omega) 600 (by omega) a0X b0M ⟨2, 0, 0, RR_start⟩⟩
