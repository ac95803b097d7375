/-! ===== the pure part: the two classes' trees of answers, over numbers ===== -/
theorem gi {k N : Nat} (h : k < N) (hN : N ≤ 100000) : (nI k < 0 ∨ N ≤ (nI k).toNatClampNeg) = False := by
  refine eq_false (fun q => ?_)
  rcases q with q | q
  · exact nI_pos (by omega) q
  · rw [nI_clamp (by omega)] at q
    omega
theorem gj {k N : Nat} (h : k < N) (hN : N ≤ 100000) : (nI k < 0 ∨ N ≤ k) = False := by
  refine eq_false (fun q => ?_)
  rcases q with q | q
  · exact nI_pos (by omega) q
  · omega
theorem xm1 (x : Int32) : x ^^^ (-1) = ~~~x := by simp
theorem cl {k : Nat} (h : k < 100000) : (nI k).toNatClampNeg = k := nI_clamp (by omega)
theorem eqI {a b : Nat} (ha : a < 100000) (hb : b < 100000) : (nI a = nI b) = (a = b) := propext (nI_eq (by omega) (by omega))
theorem leI {a b : Nat} (ha : a < 100000) (hb : b < 100000) : (nI a ≤ nI b) = (a ≤ b) := propext (nI_leI (by omega) (by omega))
theorem ltI {a b : Nat} (ha : a < 100000) (hb : b < 100000) : (nI a < nI b) = (a < b) := propext (nI_ltI (by omega) (by omega))
theorem neM {a : Nat} (ha : a < 100000) : (nI a = -1) = False := by
  refine eq_false (fun q => ?_)
  have h1 := congrArg Int32.toInt q
  rw [nI_toInt (by omega)] at h1
  have h2 : (-1 : Int32).toInt = -1 := by decide
  omega
theorem up_s (a : St) (i k : Nat) (x : Int32) : up a i k x i = upd (a i) k x := by
  unfold up
  rw [show Nat.beq i i = true from Nat.beq_refl i]
  rfl
theorem up_n (a : St) {i j : Nat} (k : Nat) (x : Int32) (h : j ≠ i) : up a i k x j = a j := by
  unfold up
  rw [show Nat.beq j i = false from by
    cases hb : Nat.beq j i with
    | false => rfl
    | true => exact absurd (Nat.eq_of_beq_eq_true hb) h]
  rfl
theorem ur_s (a : St) (i : Nat) (f : Nat → Int32) : uprow a i f i = f := by
  unfold uprow
  rw [show Nat.beq i i = true from Nat.beq_refl i]
  rfl
theorem ur_n (a : St) {i j : Nat} (f : Nat → Int32) (h : j ≠ i) : uprow a i f j = a j := by
  unfold uprow
  rw [show Nat.beq j i = false from by
    cases hb : Nat.beq j i with
    | false => rfl
    | true => exact absurd (Nat.eq_of_beq_eq_true hb) h]
  rfl
theorem ud_s (f : Nat → Int32) (k : Nat) (x : Int32) : upd f k x k = x := by simp [upd]
theorem ud_n (f : Nat → Int32) {k j : Nat} (x : Int32) (h : j ≠ k) : upd f k x j = f j := by simp [upd, h]
theorem i_lt (a b : Int32) : a < b ↔ a.toInt < b.toInt := Int32.lt_iff_toInt_lt
theorem i_le (a b : Int32) : a ≤ b ↔ a.toInt ≤ b.toInt := Int32.le_iff_toInt_le
theorem i_eq (a b : Int32) : a = b ↔ a.toInt = b.toInt := Int32.toInt_inj.symm
/-- a number is in a row of places or not -/
theorem in_or (x : Int32) {N : Nat} (hN : N < 100000) : (∃ k, k < N ∧ x = nI k) ∨ (x < 0 ∨ nI N ≤ x) := by
  rcases pk_ix x (n := N) (by omega) with h | h | ⟨j, h1, h2⟩
  · exact Or.inr (Or.inl h)
  · exact Or.inr (Or.inr h)
  · exact Or.inl ⟨j, h1, h2⟩
theorem lgc_lt (x y : Int64) : lg_cmp x y < 0 ↔ x < y := by
  unfold lg_cmp
  by_cases h : x > y
  · rw [if_pos h]
    exact ⟨fun q => absurd q (by decide), fun q => absurd (Int64.lt_trans h q) (fun z => Int64.lt_irrefl z)⟩
  · rw [if_neg h]
    by_cases h2 : x = y
    · rw [if_pos h2]
      exact ⟨fun q => absurd q (by decide), fun q => absurd q (by rw [h2]; exact fun z => Int64.lt_irrefl z)⟩
    · rw [if_neg h2]
      refine ⟨fun _ => ?_, fun _ => by decide⟩
      rw [gt_iff_lt, Int64.lt_iff_toInt_lt] at h
      rw [Int64.lt_iff_toInt_lt]
      have h4 : ¬ x.toInt = y.toInt := fun q => h2 (Int64.toInt_inj.mp q)
      omega
theorem lgc_gt (x y : Int64) : 0 < lg_cmp x y ↔ y < x := by
  unfold lg_cmp
  by_cases h : x > y
  · rw [if_pos h]
    exact ⟨fun _ => h, fun _ => by decide⟩
  · rw [if_neg h]
    by_cases h2 : x = y
    · rw [if_pos h2]
      exact ⟨fun q => absurd q (by decide), fun q => absurd q h⟩
    · rw [if_neg h2]
      exact ⟨fun q => absurd q (by decide), fun q => absurd q h⟩
theorem p_within (x lo hi : Int32) : f_X5_within x lo hi = some (if lo ≤ x ∧ x ≤ hi then 1 else 0) := by
  unfold f_X5_within
  by_cases h1 : x < lo
  · rw [if_pos h1, if_neg (fun q => by rw [i_le, i_le] at q; rw [i_lt] at h1; omega)]
  · rw [if_neg h1]
    by_cases h2 : hi < x
    · rw [if_pos h2, if_neg (fun q => by rw [i_le, i_le] at q; rw [i_lt] at h2; omega)]
    · rw [if_neg h2, if_pos (by rw [i_le, i_le]; rw [i_lt] at h1 h2; omega)]
theorem p_in (x lo hi : Int32) : f_X6_in x.toInt64 lo.toInt64 hi.toInt64 = some (if lo ≤ x ∧ x ≤ hi then 1 else 0) := by
  unfold f_X6_in
  have e1 : lg_cmp x.toInt64 lo.toInt64 < 0 ↔ x.toInt < lo.toInt := by rw [lgc_lt, Int64.lt_iff_toInt_lt, Int32.toInt_toInt64, Int32.toInt_toInt64]
  have e2 : 0 < lg_cmp x.toInt64 hi.toInt64 ↔ hi.toInt < x.toInt := by rw [lgc_gt, Int64.lt_iff_toInt_lt, Int32.toInt_toInt64, Int32.toInt_toInt64]
  by_cases h1 : x.toInt < lo.toInt
  · rw [if_pos (e1.mpr h1), if_neg (fun q => by rw [i_le, i_le] at q; omega)]
  · rw [if_neg (fun q => h1 (e1.mp q))]
    by_cases h2 : hi.toInt < x.toInt
    · rw [if_pos (e2.mpr h2), if_neg (fun q => by rw [i_le, i_le] at q; omega)]
    · rw [if_neg (fun q => h2 (e2.mp q)), if_pos (by rw [i_le, i_le]; omega)]
/-- a counter from i0 up to N -/
theorem loop_inv {σ ρ : Type} (F : Nat → Int32 → σ → Option ρ) (ex : σ → Option ρ) (N i0 : Nat) (P : Nat → σ → Prop) {s0 : σ} (hi : i0 ≤ N) (h0 : P i0 s0) (hs : ∀ k s, i0 ≤ k → k < N → P k s → ∃ s1, P (k + 1) s1 ∧ ∀ j, F (j + 1) (nI k) s = F j (nI (k + 1)) s1) (he : ∀ j s, P N s → F (j + 1) (nI N) s = ex s) : ∃ s1, P N s1 ∧ ∀ j, N < j → F j (nI i0) s0 = ex s1 := by
  have key : ∀ k, i0 + k ≤ N → ∃ s1, P (i0 + k) s1 ∧ ∀ j, F (j + k) (nI i0) s0 = F j (nI (i0 + k)) s1 := by
    intro k
    induction k with
    | zero => exact fun _ => ⟨s0, h0, fun j => rfl⟩
    | succ k ih =>
      intro hk
      obtain ⟨s1, h1, h2⟩ := ih (by omega)
      obtain ⟨s2, h3, h4⟩ := hs (i0 + k) s1 (by omega) (by omega) h1
      refine ⟨s2, h3, fun j => ?_⟩
      rw [show j + (k + 1) = (j + 1) + k by omega, h2 (j + 1)]
      exact h4 j
  obtain ⟨s1, h1, h2⟩ := key (N - i0) (by omega)
  rw [show i0 + (N - i0) = N by omega] at h1 h2
  refine ⟨s1, h1, fun j hj => ?_⟩
  obtain ⟨d, rfl⟩ : ∃ d, j = (d + 1) + (N - i0) := ⟨j - 1 - (N - i0), by omega⟩
  rw [h2 (d + 1)]
  exact he d s1 h1
/-- a counter up to N that may stop at k with an answer -/
theorem loop_stop {ρ : Type} (F : Nat → Int32 → Option ρ) (N i0 : Nat) (r : Nat → Option ρ) (stop : Nat → Prop) (ex : Option ρ) (hi : i0 ≤ N) (hs : ∀ k, i0 ≤ k → k < N → (stop k ∧ ∀ j, F (j + 1) (nI k) = r k) ∨ (¬ stop k ∧ ∀ j, F (j + 1) (nI k) = F j (nI (k + 1)))) (he : ∀ j, F (j + 1) (nI N) = ex) : (∃ k, i0 ≤ k ∧ k < N ∧ stop k ∧ (∀ i, i0 ≤ i → i < k → ¬ stop i) ∧ ∀ j, N < j → F j (nI i0) = r k) ∨ ((∀ i, i0 ≤ i → i < N → ¬ stop i) ∧ ∀ j, N < j → F j (nI i0) = ex) := by
  have key : ∀ m, i0 + m ≤ N → (∃ k, i0 ≤ k ∧ k < i0 + m ∧ stop k ∧ (∀ i, i0 ≤ i → i < k → ¬ stop i) ∧ ∀ j, F (j + m) (nI i0) = r k) ∨ ((∀ i, i0 ≤ i → i < i0 + m → ¬ stop i) ∧ ∀ j, F (j + m) (nI i0) = F j (nI (i0 + m))) := by
    intro m
    induction m with
    | zero => exact fun _ => Or.inr ⟨fun i h1 h2 => absurd h1 (by omega), fun j => rfl⟩
    | succ m ih =>
      intro hm
      rcases ih (by omega) with ⟨k, h1, h2, h3, h4, h5⟩ | ⟨h1, h2⟩
      · exact Or.inl ⟨k, h1, by omega, h3, h4, fun j => by rw [show j + (m + 1) = (j + 1) + m by omega]; exact h5 (j + 1)⟩
      · rcases hs (i0 + m) (by omega) (by omega) with ⟨h3, h4⟩ | ⟨h3, h4⟩
        · exact Or.inl ⟨i0 + m, by omega, by omega, h3, h1, fun j => by rw [show j + (m + 1) = (j + 1) + m by omega, h2 (j + 1)]; exact h4 j⟩
        · refine Or.inr ⟨fun i g1 g2 => ?_, fun j => by rw [show j + (m + 1) = (j + 1) + m by omega, h2 (j + 1)]; exact h4 j⟩
          rcases Nat.lt_or_ge i (i0 + m) with q | q
          · exact h1 i g1 q
          · rw [show i = i0 + m by omega]
            exact h3
  rcases key (N - i0) (by omega) with ⟨k, h1, h2, h3, h4, h5⟩ | ⟨h1, h2⟩
  · refine Or.inl ⟨k, h1, by omega, h3, h4, fun j hj => ?_⟩
    obtain ⟨d, rfl⟩ : ∃ d, j = d + (N - i0) := ⟨j - (N - i0), by omega⟩
    exact h5 d
  · refine Or.inr ⟨fun i g1 g2 => h1 i g1 (by omega), fun j hj => ?_⟩
    obtain ⟨d, rfl⟩ : ∃ d, j = (d + 1) + (N - i0) := ⟨j - 1 - (N - i0), by omega⟩
    rw [h2 (d + 1), show i0 + (N - i0) = N by omega]
    exact he d
theorem nIs (k : Nat) : nI k + 1 = nI (k + 1) := nI_1 k
/-- a row of bits: the bit at d -/
def bitI (x : Int32) (d : Nat) : Bool := !decide ((x >>> (nI d &&& 31)) &&& 1 = 0)
theorem and1 (x : Int32) : x &&& 1 = 0 ∨ x &&& 1 = 1 := by
  obtain ⟨j, hj, e⟩ := pk_andE x (m := 1) 1 (by decide)
  rw [e]
  rcases (show j = 0 ∨ j = 1 by omega) with rfl | rfl
  · exact Or.inl rfl
  · exact Or.inr rfl
theorem p_hasX (x : Int32) (d : Nat) : f_X5_has x (nI d) = some (if bitI x d then 1 else 0) := by
  unfold f_X5_has bitI
  by_cases h : (x >>> (nI d &&& 31)) &&& 1 = 0 <;> simp [h]
theorem p_hasM (x : Int32) (d : Nat) : f_X6_has x (nI d) = some (if bitI x d then 1 else 0) := by
  unfold f_X6_has bitI
  rcases and1 (x >>> (nI d &&& 31)) with h | h <;> simp [h]
theorem p_hasHouse {a : St} {H : Nat} (hH : a 5 0 = nI H) (h1 : 1 ≤ H) (h8 : H ≤ 8) (x : Int32) : f_X4_hasHouse x a = some (if 0 ≤ x ∧ x < nI H then 1 else 0) := by
  unfold f_X4_hasHouse
  rw [p_within, hH]
  have e : (x ≤ nI H - 1) = (x < nI H) := by
    refine propext ?_
    obtain ⟨k, rfl⟩ : ∃ k, H = k + 1 := ⟨H - 1, by omega⟩
    rw [nI_pred, i_le, i_lt, nI_toInt (by omega), nI_toInt (by omega)]
    omega
  simp only [e]
  by_cases h : 0 ≤ x ∧ x < nI H <;> simp [h]
theorem p_hasDeed {a : St} {N : Nat} (hH : a 5 1 = nI N) (h8 : N ≤ 8) (x : Int32) : f_X4_hasDeed x a = some (if 0 ≤ x ∧ x < nI N then 1 else 0) := by
  unfold f_X4_hasDeed
  rw [p_within, hH]
  have e : (x ≤ nI N - 1) = (x < nI N) := by
    refine propext ?_
    cases N with
    | zero =>
      rw [i_le, i_lt, show (nI 0 - 1 : Int32).toInt = -1 from by decide, show (nI 0 : Int32).toInt = 0 from by decide]
      omega
    | succ k =>
      rw [nI_pred, i_le, i_lt, nI_toInt (by omega), nI_toInt (by omega)]
      omega
  simp only [e]
  by_cases h : 0 ≤ x ∧ x < nI N <;> simp [h]
theorem p_isHouse {b : St} {H : Nat} (hH : b 0 6 = nI H) (h1 : 1 ≤ H) (h8 : H ≤ 8) (x : Int32) : f_X6_isHouse x b = some (if 0 ≤ x ∧ x < nI H then 1 else 0) := by
  unfold f_X6_isHouse
  rw [show (0 : Int64) = (0 : Int32).toInt64 from rfl, p_in, hH]
  have e : (x ≤ nI H - 1) = (x < nI H) := by
    refine propext ?_
    obtain ⟨k, rfl⟩ : ∃ k, H = k + 1 := ⟨H - 1, by omega⟩
    rw [nI_pred, i_le, i_lt, nI_toInt (by omega), nI_toInt (by omega)]
    omega
  simp only [e]
  by_cases h : 0 ≤ x ∧ x < nI H <;> simp [h]
theorem p_isDeed {b : St} {N : Nat} (hH : b 0 11 = nI N) (h8 : N ≤ 8) (x : Int32) : f_X6_isDeed x b = some (if 0 ≤ x ∧ x < nI N then 1 else 0) := by
  unfold f_X6_isDeed
  rw [show (0 : Int64) = (0 : Int32).toInt64 from rfl, p_in, hH]
  have e : (x ≤ nI N - 1) = (x < nI N) := by
    refine propext ?_
    cases N with
    | zero =>
      rw [i_le, i_lt, show (nI 0 - 1 : Int32).toInt = -1 from by decide, show (nI 0 : Int32).toInt = 0 from by decide]
      omega
    | succ k =>
      rw [nI_pred, i_le, i_lt, nI_toInt (by omega), nI_toInt (by omega)]
      omega
  simp only [e]
  by_cases h : 0 ≤ x ∧ x < nI N <;> simp [h]
theorem p_isTime (x : Int32) : f_X6_isTime x = some (if 0 ≤ x ∧ x ≤ 99 then 1 else 0) := by
  unfold f_X6_isTime
  rw [show (0 : Int64) = (0 : Int32).toInt64 from rfl, show (99 : Int64) = (99 : Int32).toInt64 from rfl, p_in]
  by_cases h : 0 ≤ x ∧ x ≤ 99 <;> simp [h]
theorem ix_of {x : Int32} {N : Nat} (hN : N < 100000) (h : 0 ≤ x ∧ x < nI N) : ∃ k, k < N ∧ x = nI k := by
  rcases in_or x hN with q | q | q
  · exact q
  · rw [i_le] at h; rw [i_lt] at q h; have : (0 : Int32).toInt = 0 := by decide
    omega
  · rw [i_le] at h q; rw [i_lt] at h; omega
theorem ix_le {x M : Int32} {m : Nat} (hm : M = nI m) (hN : m < 99999) (h : 0 ≤ x ∧ x ≤ M) : ∃ k, k ≤ m ∧ x = nI k := by
  subst hm
  obtain ⟨k, h1, h2⟩ := ix_of (N := m + 1) (by omega) ⟨h.1, by
    rw [i_lt, nI_toInt (by omega)]
    have h3 := h.2
    rw [i_le, nI_toInt (by omega)] at h3
    exact Int.lt_of_le_of_lt h3 (by omega)⟩
  exact ⟨k, by omega, h2⟩
/-- whether a house can do a deed, told by the kinds; fb: it is forbidden -/
def cnB (a : St) (h d : Nat) (fb : Bool) : Bool := (!fb || decide (a 11 d = nI h)) && (if a 9 d = 0 then true else if a 9 d = 2 then !decide (a 10 d &&& a 7 h = 0) else if a 9 d = 3 then decide (a 11 d = nI h) || decide (a 10 d &&& ~~~(a 7 h) = 0) else decide (a 10 d &&& ~~~(a 7 h) = 0))
theorem x_can {a : St} {h d : Nat} {x3 : Int32} (hh : h < 8) (hd : d < 6) : f_X4_can (nI h) (nI d) x3 a = some (if cnB a h d (bitI x3 d) then 1 else 0) := by
  unfold f_X4_can f_X4_missing cnB
  rw [p_hasX]
  simp only [xm1, gj hd (show 6 ≤ 100000 by omega), gj hh (show 8 ≤ 100000 by omega), cl (show d < 100000 by omega), cl (show h < 100000 by omega), if_false, Option.bind_some]
  by_cases k0 : a 9 d = 0
  · by_cases c2 : a 11 d = nI h <;> cases bitI x3 d <;> simp [k0, c2]
  · by_cases k1 : a 9 d = 1
    · by_cases c2 : a 11 d = nI h <;> by_cases c3 : a 10 d &&& ~~~(a 7 h) = 0 <;> cases bitI x3 d <;> simp [k1, c2, c3]
    · by_cases k2 : a 9 d = 2
      · by_cases c2 : a 11 d = nI h <;> by_cases c3 : a 10 d &&& a 7 h = 0 <;> cases bitI x3 d <;> simp [k2, c2, c3]
      · by_cases k3 : a 9 d = 3
        · by_cases c2 : a 11 d = nI h <;> by_cases c3 : a 10 d &&& ~~~(a 7 h) = 0 <;> cases bitI x3 d <;> simp [k3, c2, c3]
        · by_cases c2 : a 11 d = nI h <;> by_cases c3 : a 10 d &&& ~~~(a 7 h) = 0 <;> cases bitI x3 d <;> simp [k0, k1, k2, k3, c2, c3]
