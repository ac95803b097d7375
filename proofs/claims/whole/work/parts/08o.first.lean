/-! ===== who has to do what first; what lacks ===== -/
theorem fb_bit (v d : Nat) : fbN v d = v.testBit d := by
  unfold fbN
  rw [Nat.testBit_eq_decide_div_mod_eq]
theorem bsN_bit (p : Nat → Bool) (i : Nat) : ∀ k, (bsN p k).testBit i = (decide (i < k) && p i)
  | 0 => by
    rw [show bsN p 0 = 0 from rfl, Nat.zero_testBit]
    simp
  | k + 1 => by
    have h := bsN_lt p k
    show (bsN p k + if p k = true then 2 ^ k else 0).testBit i = _
    rcases Nat.lt_trichotomy i k with q | q | q
    · have e : (bsN p k + if p k = true then 2 ^ k else 0).testBit i = (bsN p k).testBit i := by
        by_cases c : p k = true
        · rw [if_pos c, Nat.add_comm, Nat.testBit_two_pow_add_gt q]
        · rw [if_neg c, Nat.add_zero]
      rw [e, bsN_bit p i k, decide_eq_true q, decide_eq_true (show i < k + 1 by omega)]
    · subst q
      rw [decide_eq_true (show i < i + 1 by omega), Bool.true_and]
      have h0 : (bsN p i).testBit i = false := Nat.testBit_lt_two_pow h
      by_cases c : p i = true
      · rw [if_pos c, Nat.add_comm, Nat.testBit_two_pow_add_eq, h0, c]
        rfl
      · rw [if_neg c, Nat.add_zero, h0, Bool.eq_false_iff.mpr c]
    · have h1 := bsN_lt p (k + 1)
      rw [decide_eq_false (show ¬ i < k + 1 by omega), Bool.false_and]
      exact Nat.testBit_lt_two_pow (Nat.lt_of_lt_of_le h1 (Nat.pow_le_pow_right (by omega) (by omega)))
theorem and64 : ∀ v, v < 64 → ∀ w, w < 64 → nI v &&& nI w = nI (v &&& w) := by decide +kernel
theorem and_lt {v w k : Nat} (h : w < 2 ^ k) : v &&& w < 2 ^ k := Nat.lt_of_le_of_lt Nat.and_le_right h
theorem x_abil {a : St} {H Dn F h n : Nat} (hn : 20 ≤ n) (hW : WT a H Dn F) (hh : h < 8) : f_X4_abilities n (nI h) a = some (nI (bsN (fun d => canT a F h d) Dn)) := by
  have h1 := hW.1
  unfold f_X4_abilities
  obtain ⟨s1, p1, g2⟩ := loop_inv (fun j i (s : Int32) => L_X4_abilities_4 n (nI h) a j s i) (fun s => some s) Dn 0 (fun k s => s = nI (bsN (fun d => canT a F h d) k)) (s0 := 0) (by omega) rfl (fun k s _ hk hs => by
    refine ⟨nI (bsN (fun d => canT a F h d) (k + 1)), rfl, fun j => ?_⟩
    show L_X4_abilities_4 n (nI h) a (j + 1) s (nI k) = L_X4_abilities_4 n (nI h) a j _ (nI (k + 1))
    rw [L_X4_abilities_4, if_neg (by rw [hW.2.1.2.1, leI (by omega) (by omega)]; omega), hW.2.1.2.2.1, x_canF hW.2.1.2.2.2 (by omega) (by omega), hs]
    simp only [Option.bind_some, nI_1]
    by_cases c : canT a F h k = true
    · rw [← bsN_or (p := fun d => canT a F h d) (by omega) c, c]
      rfl
    · rw [← bsN_not (p := fun d => canT a F h d) c, Bool.eq_false_iff.mpr c]
      rfl) (fun j s hs => by
    show L_X4_abilities_4 n (nI h) a (j + 1) s (nI Dn) = some s
    rw [L_X4_abilities_4, if_pos (by rw [hW.2.1.2.1, leI (by omega) (by omega)]; omega)])
  have h9 := g2 n (by omega)
  rw [p1] at h9
  exact h9
/-- what all of the first k on a way can -/
def psN (a : St) (F Dn : Nat) : Nat → Nat → Nat → Nat
  | 0, _, v => v
  | k + 1, h, v => psN a F Dn k (nx a h) (v &&& bsN (fun d => canT a F h d) Dn)
theorem psN_lt {a : St} {F Dn : Nat} (hD : Dn ≤ 6) : ∀ k h v, v < 64 → psN a F Dn k h v < 64
  | 0, _, _, hv => hv
  | k + 1, h, v, hv => psN_lt hD k _ _ (by
    have h1 := bsN_lt (fun d => canT a F h d) Dn
    have h2 := p2_64 hD
    exact and_lt (k := 6) (show _ < 64 by omega))
theorem psN_bit {a : St} {F Dn d : Nat} : ∀ k h v, (psN a F Dn k h v).testBit d = (v.testBit d && (decide (k = 0) || (decide (d < Dn) && allC a F k h d)))
  | 0, _, v => by simp [psN]
  | k + 1, h, v => by
    unfold psN allC
    rw [psN_bit k, Nat.testBit_and, bsN_bit]
    cases k with
    | zero => simp [allC, Bool.and_assoc]
    | succ k =>
      cases v.testBit d <;> cases decide (d < Dn) <;> cases canT a F h d <;> simp
theorem psN_is {a : St} {F Dn : Nat} (hD : Dn ≤ 6) (k h : Nat) : psN a F Dn (k + 1) h 63 = bsN (fun d => allC a F (k + 1) h d) Dn := by
  refine Nat.eq_of_testBit_eq (fun d => ?_)
  rw [psN_bit, bsN_bit]
  rcases Nat.lt_or_ge d Dn with q | q
  · have : (63 : Nat).testBit d = true := by
      rcases (show d = 0 ∨ d = 1 ∨ d = 2 ∨ d = 3 ∨ d = 4 ∨ d = 5 by omega) with rfl | rfl | rfl | rfl | rfl | rfl <;> rfl
    rw [this]
    simp
  · rw [decide_eq_false (by omega : ¬ d < Dn)]
    simp
theorem x_passL {a : St} {H Dn F n t : Nat} (hn : 3000 ≤ n) (hW : WT a H Dn F) (ht : t ≤ 1000) : ∀ k, k ≤ t + 1 → ∀ h, (h < H ∨ h = 8) → ∀ v, v < 64 → ∀ j, k < j → ((k = 0 ∨ wy a (k - 1) h ≠ 8) → L_X4_passing_9 n (nI t) a j (enH h) (nI v) (nI (t + 1 - k)) = some (nI (psN a F Dn k h v))) ∧ (k ≠ 0 → wy a (k - 1) h = 8 → L_X4_passing_9 n (nI t) a j (enH h) (nI v) (nI (t + 1 - k)) = some 0)
  | 0, _, h, hh, v, hv, j, hj => by
    obtain ⟨i, rfl⟩ : ∃ i, j = i + 1 := ⟨j - 1, by omega⟩
    refine ⟨fun _ => ?_, fun q => absurd rfl q⟩
    rw [L_X4_passing_9, if_pos (by rw [ltI (by omega) (by omega)]; omega)]
    rfl
  | k + 1, hk, h, hh, v, hv, j, hj => by
    obtain ⟨i, rfl⟩ : ∃ i, j = i + 1 := ⟨j - 1, by omega⟩
    have hW1 := hW.1
    rw [L_X4_passing_9, if_neg (by rw [ltI (by omega) (by omega)]; omega)]
    rcases hh with hh | rfl
    · have hh8 : h < 8 := by omega
      have hb := bsN_lt (fun d => canT a F h d) Dn
      have h64 := p2_64 hW1.2.2
      simp only [enH_neM hh8, if_false]
      rw [enH_lt hh8]
      simp only [x_abil (n := n) (by omega) hW hh8, Option.bind_some, cl (show h < 100000 by omega), gj hh8 (show 8 ≤ 100000 by omega), if_false, nI_1, ac_enc hW hh8, and64 v hv _ (show bsN (fun d => canT a F h d) Dn < 64 by omega), show t + 1 - (k + 1) + 1 = t + 1 - k by omega]
      have ih := x_passL hn hW ht k (by omega) (nx a h) (nx_in hW (Or.inl hh)) (v &&& bsN (fun d => canT a F h d) Dn) (and_lt (k := 6) (show _ < 64 by omega)) i (by omega)
      rw [show k + 1 - 1 = k by omega]
      refine ⟨fun q => ?_, fun _ q => ?_⟩
      · refine ih.1 ?_
        rcases q with q | q
        · omega
        · cases k with
          | zero => exact Or.inl rfl
          | succ k => exact Or.inr q
      · cases k with
        | zero => exact absurd (show h = 8 from q) (by omega)
        | succ k => exact ih.2 (by omega) q
    · rw [if_pos enH_8]
      refine ⟨fun q => ?_, fun _ _ => rfl⟩
      rcases q with q | q
      · omega
      · exact absurd (wy_8 a _) q
theorem x_passing {a : St} {H Dn F n t h : Nat} (hn : 3000 ≤ n) (hW : WT a H Dn F) (ht : t ≤ 1000) (hh : h < H) : f_X4_passing n (nI h) (nI t) a = some (if wy a t h = 8 then 0 else nI (bsN (fun d => allC a F (t + 1) h d) Dn)) := by
  have h1 := x_passL hn hW ht (t + 1) (Nat.le_refl _) h (Or.inl hh) 63 (by omega) n (by omega)
  rw [Nat.sub_self, enH_lt (by have := hW.1; omega), show t + 1 - 1 = t by omega, psN_is hW.1.2.2] at h1
  unfold f_X4_passing
  by_cases c : wy a t h = 8
  · rw [if_pos c]
    exact h1.2 (by omega) c
  · rw [if_neg c]
    exact h1.1 (Or.inr c)
theorem wy_ne {a : St} {t h : Nat} (h8 : wy a t h ≠ 8) : h ≠ 8 := fun e => h8 (by rw [e, wy_8])
theorem m_canAllL {a b : St} {H Dn F n t d : Nat} (hn : 3000 ≤ n) (hT : RT a b H Dn F) (ht : t ≤ 1000) (hd : d < Dn) : ∀ k, k ≤ t → ∀ h, (h < H ∨ h = 8) → wy a k h ≠ 8 → ∀ p j, k < j → L_X6_canAll_14 n (nI t) (nI d) b j (enH h) (b2i p) (nI (t - k)) = some (b2i (p && allC a F k (nx a h) d)) := by
  intro k
  induction k with
  | zero =>
    intro _ h hh h8 p j hj
    obtain ⟨i, rfl⟩ : ∃ i, j = i + 1 := ⟨j - 1, by omega⟩
    rw [L_X6_canAll_14, if_pos (by rw [leI (by omega) (by omega)]; omega), show allC a F 0 (nx a h) d = true from rfl, Bool.and_true]
    cases p <;> rfl
  | succ k ih =>
    intro hk h hh h8 p j hj
    obtain ⟨i, rfl⟩ : ∃ i, j = i + 1 := ⟨j - 1, by omega⟩
    have hW := WT_of hT
    have hW1 := hW.1
    rw [L_X6_canAll_14, if_neg (by rw [leI (by omega) (by omega)]; omega)]
    have hh8 : h < 8 := by have := wy_ne h8; omega
    have n8 : wy a k (nx a h) ≠ 8 := h8
    have n9 : nx a h < H := by
      rcases nx_in hW hh with q | q
      · exact q
      · exact absurd q (wy_ne n8)
    have ih := fun p => ih (by omega) (nx a h) (Or.inl n9) n8 p i (by omega)
    rw [enH_lt hh8]
    simp only [cl (show h < 100000 by omega), gj hh8 (show 8 ≤ 100000 by omega), if_false, nI_1, (hT.2.2.1 h hh8).1, ac_enc hW hh8, show t - (k + 1) + 1 = t - k by omega]
    cases p
    · have i0 := ih false
      rw [Bool.false_and] at i0
      rw [if_pos (show b2i false = 0 from rfl), Bool.false_and]
      exact i0
    · rw [if_neg (show ¬ b2i true = 0 from by decide)]
      have hc := m_can (n := n) (h := nx a h) (by omega) hT (by omega) hd
      rw [← enH_lt (show nx a h < 8 by omega)] at hc
      rw [hc, Bool.true_and, show allC a F (k + 1) (nx a h) d = (canT a F (nx a h) d && allC a F k (nx a (nx a h)) d) from rfl]
      cases canT a F (nx a h) d
      · have i0 := ih false
        rw [Bool.false_and] at i0
        rw [Bool.false_and]
        exact i0
      · have i0 := ih true
        rw [Bool.true_and] at i0
        rw [Bool.true_and]
        exact i0
theorem m_canAll {a b : St} {H Dn F n t d h : Nat} (hn : 3000 ≤ n) (hT : RT a b H Dn F) (ht : t ≤ 1000) (hd : d < Dn) (hh : h < H) (h8 : wy a t h ≠ 8) : f_X6_canAll n (nI h) (nI t) (nI d) b = some (b2i (allC a F (t + 1) h d)) := by
  have hW1 := (WT_of hT).1
  unfold f_X6_canAll
  rw [m_can (n := n) (by omega) hT (by omega) hd]
  have h1 := m_canAllL hn hT ht hd t (Nat.le_refl _) h (Or.inl hh) h8 (canT a F h d) n (by omega)
  rw [Nat.sub_self, enH_lt (by omega)] at h1
  exact h1
/-- the first of a wish -/
def fsN (a : St) (F h d t : Nat) : Nat := if wy a t h = 8 then 8 else if allC a F (t + 1) h d = true then wy a t h else 8
theorem m_firstOf {a b : St} {H Dn F n t d h : Nat} (hn : 3000 ≤ n) (hT : RT a b H Dn F) (ht : t ≤ 1000) (hd : d < Dn) (hh : h < H) : f_X6_firstOf n (nI h) (nI d) (nI t) b = some (enH (fsN a F h d t)) := by
  have hW := WT_of hT
  have hW1 := hW.1
  unfold f_X6_firstOf fsN
  rw [m_wayEnd (by omega) hT ht hh]
  by_cases c : wy a t h = 8
  · rw [c]
    rfl
  · have c8 : wy a t h < 8 := by rcases wy_in hW t h (Or.inl hh) with q | q <;> omega
    simp only [Option.bind_some, enH_neM c8, if_false, m_canAll hn hT ht hd hh c, if_neg c]
    cases allC a F (t + 1) h d
    · rfl
    · rfl
theorem ref_of {a b : St} {H Dn F : Nat} (hT : RT a b H Dn F) (x1 x2 x3 : Int32) : (∃ h d t, h < H ∧ d < Dn ∧ t ≤ 99 ∧ x1 = nI h ∧ x2 = nI d ∧ x3 = nI t ∧ f_X5_refusalOf x1 x2 x3 a = some 0 ∧ f_X6_isHouse x1 b = some 1 ∧ f_X6_isDeed x2 b = some 1 ∧ f_X6_isTime x3 = some 1) ∨ (f_X5_refusalOf x1 x2 x3 a = some (-2) ∧ (f_X6_isHouse x1 b = some 0 ∨ (f_X6_isHouse x1 b = some 1 ∧ f_X6_isDeed x2 b = some 0))) ∨ (f_X5_refusalOf x1 x2 x3 a = some (-3) ∧ f_X6_isHouse x1 b = some 1 ∧ f_X6_isDeed x2 b = some 1 ∧ f_X6_isTime x3 = some 0) := by
  unfold f_X5_refusalOf
  rcases ck_house hT x1 with ⟨h, hh, e1, f1, f2⟩ | ⟨f1, f2⟩
  · rw [f1, f2]
    rcases ck_deed hT x2 with ⟨d, hd, e2, f3, f4⟩ | ⟨f3, f4⟩
    · rw [f3, f4]
      rcases ck_time x3 with ⟨t, ht, e3, f5, f6⟩ | ⟨f5, f6⟩
      · rw [f5, f6]
        exact Or.inl ⟨h, d, t, hh, hd, ht, e1, e2, e3, rfl, rfl, rfl, rfl⟩
      · rw [f5, f6]
        exact Or.inr (Or.inr ⟨rfl, rfl, rfl, rfl⟩)
    · rw [f3, f4]
      exact Or.inr (Or.inl ⟨rfl, Or.inr ⟨rfl, rfl⟩⟩)
  · rw [f1, f2]
    exact Or.inr (Or.inl ⟨rfl, Or.inl rfl⟩)
theorem bs_has {p : Nat → Bool} {Dn d : Nat} (hD : Dn ≤ 6) (hd : d < Dn) : bitI (nI (bsN p Dn)) d = p d := by
  have h1 := bsN_lt p Dn
  have h2 := p2_64 hD
  rw [bit64 _ (by omega) d (by omega), fb_bit, bsN_bit, decide_eq_true hd, Bool.true_and]
theorem o_first {a b : St} {H Dn F n : Nat} (hn : 3000 ≤ n) (hR : RR a b H Dn F) (x1 x2 x3 : Int32) : OK1 (f_X5_first n x1 x2 x3 a) (f_X6_first n x1 x2 x3 b) := by
  have hT := hR.1
  have hW := WT_of hT
  have hW1 := hW.1
  unfold f_X5_first f_X6_first
  rcases ref_of hT x1 x2 x3 with ⟨h, d, t, hh, hd, ht, rfl, rfl, rfl, e, f1, f2, f3⟩ | ⟨e, f1 | ⟨f1, f2⟩⟩ | ⟨e, f1, f2, f3⟩
  · rw [e, f1, f2, f3]
    simp only [Option.bind_some, i10, if_false, if_true, m_firstOf hn hT (show t ≤ 1000 by omega) hd hh, x_passing hn hW (show t ≤ 1000 by omega) hh, x_wayEnd (n := n) (by omega) hW (show t ≤ 1000 by omega) hh, p_hasX]
    unfold fsN
    by_cases c : wy a t h = 8
    · rw [if_pos c, if_pos c]
      have hz : bitI 0 d = false := by
        have h1 := bit64 0 (by omega) d (by omega)
        rw [show fbN 0 d = false from by rw [fb_bit, Nat.zero_testBit]] at h1
        exact h1
      rw [hz]
      exact ⟨-1, rfl, rfl⟩
    · rw [if_neg c, if_neg c, bs_has hW1.2.2 hd]
      cases allC a F (t + 1) h d
      · exact ⟨-1, rfl, rfl⟩
      · exact ⟨_, rfl, rfl⟩
  · rw [e, f1]
    exact ⟨_, rfl, rfl⟩
  · rw [e, f1, f2]
    exact ⟨_, rfl, rfl⟩
  · rw [e, f1, f2, f3]
    exact ⟨_, rfl, rfl⟩
/-! what lacks -/
theorem x_lacking {a b : St} {H F h d kd v t : Nat} (hh : h < 8) (hd : d < 6) (hk : kd ≤ 3) (ek : a 9 d = nI kd) (hv : v ≤ 15) (ev : a 10 d = nI v) (ht : t ≤ 15) (et : a 7 h = nI t) : f_X4_lacking (nI h) (nI d) a = some (nI (lkN kd v t (decide (a 11 d = nI h)))) := by
  obtain ⟨a1, a2⟩ := and16 v hv t ht
  obtain ⟨l1, l2, l3, l4⟩ := lack16 v hv t ht
  have hb := x_bitCount (v &&& (15 - t)) (by omega)
  unfold f_X4_lacking f_X4_missing
  simp only [cl (show d < 100000 by omega), gj hd (show 6 ≤ 100000 by omega), cl (show h < 100000 by omega), gj hh (show 8 ≤ 100000 by omega), if_false, ek, ev, et, xm1, a1, a2, hb, Option.bind_some, nI_z (show v < 100000 by omega), eqI (show v &&& (15 - t) < 100000 by omega) (show v < 100000 by omega), l1]
  unfold lkN
  rcases (show kd = 0 ∨ kd = 1 ∨ kd = 2 ∨ kd = 3 by omega) with rfl | rfl | rfl | rfl
  · rfl
  · rfl
  · by_cases c1 : v = 0
    · simp [c1]
      rfl
    · by_cases c2 : v &&& t = 0
      · simp [c1, c2]
        rfl
      · simp [c1, c2]
        rfl
  · by_cases c1 : a 11 d = nI h
    · simp [c1]
      rfl
    · simp [c1]
      rfl
/-- both walk a way and count what lacks; X first comes to a gap -/
theorem x_lackGap {a : St} {H Dn F n t d : Nat} (hW : WT a H Dn F) (hl : ∀ h, h < H → ∃ r, f_X4_lacking (nI h) (nI d) a = some r) (ht : t ≤ 1000) : ∀ k, k ≤ t + 1 → ∀ h, (h < H ∨ h = 8) → k ≠ 0 → wy a (k - 1) h = 8 → ∀ m r j, k < j → L_X5_lack_29 n (nI d) (nI t) a j (enH h) m r (nI (t + 1 - k)) = some (-1) := by
  intro k
  induction k with
  | zero => exact fun _ _ _ q => absurd rfl q
  | succ k ih =>
    intro hk h hh _ h8 m r j hj
    obtain ⟨i, rfl⟩ : ∃ i, j = i + 1 := ⟨j - 1, by omega⟩
    have hW1 := hW.1
    rw [L_X5_lack_29, if_neg (by rw [ltI (by omega) (by omega)]; omega)]
    rcases hh with hh | rfl
    · have hh8 : h < 8 := by omega
      obtain ⟨z, hz⟩ := hl h hh
      have hk0 : k ≠ 0 := fun e => by subst e; exact absurd (show h = 8 from h8) (by omega)
      have h9 : wy a (k - 1) (nx a h) = 8 := by
        have e : wy a (k - 1 + 1) h = wy a (k - 1) (nx a h) := rfl
        rw [← e, show k - 1 + 1 = k by omega]
        exact h8
      have ih := fun m r => ih (by omega) (nx a h) (nx_in hW (Or.inl hh)) hk0 h9 m r i (by omega)
      simp only [enH_neM hh8, if_false]
      rw [enH_lt hh8]
      simp only [p_hasX, hz, Option.bind_some, cl (show h < 100000 by omega), gj hh8 (show 8 ≤ 100000 by omega), if_false, nI_1, ac_enc hW hh8, show t + 1 - (k + 1) + 1 = t + 1 - k by omega, ih]
      split <;> split <;> rfl
    · rw [if_pos enH_8]
theorem xm_lack {a b : St} {H Dn F n t d : Nat} (hn : 3000 ≤ n) (hT : RT a b H Dn F) (hd : d < Dn) (ht : t ≤ 1000) : ∀ k, k ≤ t + 1 → ∀ h, h < H → (k = 0 ∨ wy a (k - 1) h ≠ 8) → ∀ m r j, k < j → ∃ z, (∀ h1, (k = 0 ∨ h1 = enH h) → L_X5_lack_29 n (nI d) (nI t) a j h1 m r (nI (t + 1 - k)) = some z) ∧ L_X6_lack_53 n (nI d) (nI t) b j m r (nI h) (nI (t + 1 - k)) = some z := by
  intro k
  induction k with
  | zero =>
    intro _ h hh h8 m r j hj
    obtain ⟨i, rfl⟩ : ∃ i, j = i + 1 := ⟨j - 1, by omega⟩
    refine ⟨r, fun h1 _ => ?_, ?_⟩
    · rw [L_X5_lack_29, if_pos (by rw [ltI (by omega) (by omega)]; omega)]
    · rw [L_X6_lack_53, if_pos (by rw [ltI (by omega) (by omega)]; omega)]
  | succ k ih =>
    intro hk h hh h8 m r j hj
    obtain ⟨i, rfl⟩ : ∃ i, j = i + 1 := ⟨j - 1, by omega⟩
    have hW := WT_of hT
    have hW1 := hW.1
    have hh8 : h < 8 := by omega
    have hd6 : d < 6 := by omega
    have hD := hT.2.2.2.2.2 d hd
    obtain ⟨-, ⟨kd, hkd, ek⟩, ⟨v, hv, ev⟩, -⟩ := id hD
    obtain ⟨t7, tt, htt, et⟩ := hT.2.2.2.1 h hh8
    have hx := x_lacking (a := a) (b := b) (H := H) (F := F) hh8 hd6 hkd ek hv ev htt et
    have hm := m_lacks (n := n) (by omega) hh8 hd6 hD hkd ek hv ev htt (by rw [t7]; exact et)
    rw [show k + 1 - 1 = k by omega] at h8
    have h8 : wy a k h ≠ 8 := by rcases h8 with q | q; exact absurd q (by omega); exact q
    rw [L_X6_lack_53, if_neg (by rw [ltI (by omega) (by omega)]; omega)]
    have hX : ∀ h1, (k + 1 = 0 ∨ h1 = enH h) → h1 = nI h := fun h1 q => by
      rcases q with q | q
      · exact absurd q (by omega)
      · rw [q, enH_lt hh8]
    generalize nI (lkN kd v tt (decide (a 11 d = nI h))) = y at hx hm
    -- the next house
    by_cases k0 : k = 0
    · subst k0
      obtain ⟨z, z1, z2⟩ := ih (by omega) h hh (Or.inl rfl) (m ||| ((1 : Int32) <<< (nI h &&& 31))) (if bitI m h = true then r else r + y) i (by omega)
      refine ⟨z, fun h1 q => ?_, ?_⟩
      · rw [hX h1 q, L_X5_lack_29, if_neg (by rw [ltI (by omega) (by omega)]; omega)]
        have z3 := z1 (enH (nx a h)) (Or.inl rfl)
        simp only [neM (show h < 100000 by omega), p_hasX, hx, Option.bind_some, cl (show h < 100000 by omega), gj hh8 (show 8 ≤ 100000 by omega), if_false, nI_1, ac_enc hW hh8, show t + 1 - (0 + 1) + 1 = t + 1 - 0 by omega]
        cases c : bitI m h
        · rw [c] at z3
          exact z3
        · rw [c] at z3
          exact z3
      · simp only [p_hasM, hm, Option.bind_some, nI_1, show t + 1 - (0 + 1) + 1 = t + 1 - 0 by omega, leI (show t < 100000 by omega) (show t + 1 - (0 + 1) < 100000 by omega), show t ≤ t + 1 - (0 + 1) by omega, if_true, Int32.add_zero]
        cases c : bitI m h
        · rw [c] at z2
          exact z2
        · rw [c] at z2
          exact z2
    · have n9 : nx a h < H := by
        rcases nx_in hW (Or.inl hh) with q | q
        · exact q
        · exfalso
          have e : wy a (k - 1 + 1) h = wy a (k - 1) (nx a h) := rfl
          rw [show k - 1 + 1 = k by omega, q, wy_8] at e
          exact h8 e
      have n8 : wy a (k - 1) (nx a h) ≠ 8 := by
        have e : wy a (k - 1 + 1) h = wy a (k - 1) (nx a h) := rfl
        rw [← e, show k - 1 + 1 = k by omega]
        exact h8
      obtain ⟨z, z1, z2⟩ := ih (by omega) (nx a h) n9 (Or.inr n8) (m ||| ((1 : Int32) <<< (nI h &&& 31))) (if bitI m h = true then r else r + y) i (by omega)
      refine ⟨z, fun h1 q => ?_, ?_⟩
      · rw [hX h1 q, L_X5_lack_29, if_neg (by rw [ltI (by omega) (by omega)]; omega)]
        have z3 := z1 (enH (nx a h)) (Or.inr rfl)
        simp only [neM (show h < 100000 by omega), p_hasX, hx, Option.bind_some, cl (show h < 100000 by omega), gj hh8 (show 8 ≤ 100000 by omega), if_false, nI_1, ac_enc hW hh8, show t + 1 - (k + 1) + 1 = t + 1 - k by omega]
        cases c : bitI m h
        · rw [c] at z3
          exact z3
        · rw [c] at z3
          exact z3
      · rw [← enH_lt (show nx a h < 8 by omega)] at z2
        simp only [p_hasM, hm, Option.bind_some, nI_1, show t + 1 - (k + 1) + 1 = t + 1 - k by omega, leI (show t < 100000 by omega) (show t + 1 - (k + 1) < 100000 by omega), show ¬ t ≤ t + 1 - (k + 1) by omega, if_false, Int32.add_zero, cl (show h < 100000 by omega), gj hh8 (show 8 ≤ 100000 by omega), (hT.2.2.1 h hh8).1, ac_enc hW hh8]
        cases c : bitI m h
        · rw [c] at z2
          exact z2
        · rw [c] at z2
          exact z2
theorem o_lack {a b : St} {H Dn F n : Nat} (hn : 3000 ≤ n) (hR : RR a b H Dn F) (x1 x2 x3 : Int32) : OK1 (f_X5_lack n x1 x2 x3 a) (f_X6_lack n x1 x2 x3 b) := by
  have hT := hR.1
  have hW := WT_of hT
  have hW1 := hW.1
  unfold f_X5_lack f_X6_lack
  rcases ref_of hT x1 x2 x3 with ⟨h, d, t, hh, hd, ht, rfl, rfl, rfl, e, f1, f2, f3⟩ | ⟨e, f1 | ⟨f1, f2⟩⟩ | ⟨e, f1, f2, f3⟩
  · rw [e, f1, f2, f3]
    have hh8 : h < 8 := by omega
    simp only [Option.bind_some, i10, if_false, if_true, m_wayEnd (n := n) (by omega) hT (show t ≤ 1000 by omega) hh]
    by_cases c : wy a t h = 8
    · rw [c, if_pos enH_8]
      have hg := x_lackGap (n := n) (d := d) hW (fun h1 q => by
        have hD := hT.2.2.2.2.2 d hd
        obtain ⟨-, ⟨kd, hkd, ek⟩, ⟨v, hv, ev⟩, -⟩ := id hD
        obtain ⟨t7, tt, htt, et⟩ := hT.2.2.2.1 h1 (by omega)
        exact ⟨_, x_lacking (a := a) (b := b) (H := H) (F := F) (by omega) (by omega) hkd ek hv ev htt et⟩) (show t ≤ 1000 by omega) (t + 1) (Nat.le_refl _) h (Or.inl hh) (by omega) c 0 0 n (by omega)
      rw [Nat.sub_self, enH_lt hh8] at hg
      exact ⟨-1, hg, rfl⟩
    · have c8 : wy a t h < 8 := by rcases wy_in hW t h (Or.inl hh) with q | q <;> omega
      simp only [enH_neM c8, if_false]
      obtain ⟨z, z1, z2⟩ := xm_lack hn hT hd (show t ≤ 1000 by omega) (t + 1) (Nat.le_refl _) h hh (Or.inr c) 0 0 n (by omega)
      have z3 := z1 _ (Or.inr rfl)
      rw [Nat.sub_self, enH_lt hh8] at z3
      rw [Nat.sub_self] at z2
      exact ⟨z, z3, z2⟩
  · rw [e, f1]
    exact ⟨_, rfl, rfl⟩
  · rw [e, f1, f2]
    exact ⟨_, rfl, rfl⟩
  · rw [e, f1, f2, f3]
    exact ⟨_, rfl, rfl⟩
