/-! ===== ways ===== -/
/-- who is across; 8: nobody -/
def nx (a : St) (h : Nat) : Nat := if h = 8 then 8 else if a 6 h = -1 then 8 else (a 6 h).toNatClampNeg
def wy (a : St) : Nat → Nat → Nat
  | 0, h => h
  | t + 1, h => wy a t (nx a h)
def enH (e : Nat) : Int32 := if e = 8 then -1 else nI e
/-- the first t on a way can do a deed -/
def allC (a : St) (F : Nat) : Nat → Nat → Nat → Bool
  | 0, _, _ => true
  | t + 1, h, d => canT a F h d && allC a F t (nx a h) d
theorem wy_8 (a : St) : ∀ t, wy a t 8 = 8
  | 0 => rfl
  | t + 1 => by
    unfold wy
    rw [show nx a 8 = 8 from rfl]
    exact wy_8 a t
theorem wy_add (a : St) : ∀ s t h, wy a (s + t) h = wy a t (wy a s h)
  | 0, t, h => by rw [Nat.zero_add]; rfl
  | s + 1, t, h => by
    rw [show s + 1 + t = (s + t) + 1 by omega]
    exact wy_add a s t (nx a h)
theorem wy_succ (a : St) (t h : Nat) : wy a (t + 1) h = nx a (wy a t h) := wy_add a t 1 h
theorem nx_of {a : St} {H Dn F h : Nat} (hW : WT a H Dn F) (hh : h < 8) : (nx a h = 8 ∧ a 6 h = -1) ∨ (nx a h < H ∧ a 6 h = nI (nx a h)) := by
  unfold nx
  rw [if_neg (by omega)]
  rcases hW.2.2 h hh with e | ⟨k, hk, e⟩
  · exact Or.inl ⟨if_pos e, e⟩
  · have hk8 : k < 100000 := by have := hW.1; omega
    refine Or.inr ?_
    rw [e, if_neg (by rw [neM hk8]; exact id), cl hk8]
    exact ⟨hk, rfl⟩
theorem nx_in {a : St} {H Dn F h : Nat} (hW : WT a H Dn F) (hh : h < H ∨ h = 8) : nx a h < H ∨ nx a h = 8 := by
  rcases hh with hh | rfl
  · rcases nx_of hW (h := h) (by have := hW.1; omega) with q | q
    · exact Or.inr q.1
    · exact Or.inl q.1
  · exact Or.inr rfl
theorem wy_in {a : St} {H Dn F : Nat} (hW : WT a H Dn F) : ∀ t h, (h < H ∨ h = 8) → wy a t h < H ∨ wy a t h = 8
  | 0, _, hh => hh
  | t + 1, _, hh => wy_in hW t _ (nx_in hW hh)
theorem enH_8 : enH 8 = -1 := rfl
theorem enH_lt {h : Nat} (hh : h < 8) : enH h = nI h := if_neg (by omega)
theorem ac_enc {a : St} {H Dn F h : Nat} (hW : WT a H Dn F) (hh : h < 8) : a 6 h = enH (nx a h) := by
  rcases nx_of hW hh with ⟨e1, e2⟩ | ⟨e1, e2⟩
  · rw [e1, e2]; rfl
  · rw [enH_lt (by have := hW.1; omega)]; exact e2
theorem enH_neM {h : Nat} (hh : h < 8) : (enH h = -1) = False := by
  rw [enH_lt hh, neM (by omega)]
theorem x_wayEndL {a : St} {H Dn F n t : Nat} (hW : WT a H Dn F) (ht : t ≤ 1000) : ∀ k, k ≤ t → ∀ h, (h < H ∨ h = 8) → ∀ j, k < j → L_X4_wayEnd_5 n (nI t) a j (enH h) (nI (t - k)) = some (enH (wy a k h))
  | 0, _, h, hh, j, hj => by
    obtain ⟨i, rfl⟩ : ∃ i, j = i + 1 := ⟨j - 1, by omega⟩
    rw [L_X4_wayEnd_5, if_pos (by rw [leI (by omega) (by omega)]; omega)]
    rfl
  | k + 1, hk, h, hh, j, hj => by
    obtain ⟨i, rfl⟩ : ∃ i, j = i + 1 := ⟨j - 1, by omega⟩
    rw [L_X4_wayEnd_5, if_neg (by rw [leI (by omega) (by omega)]; omega)]
    rcases hh with hh | rfl
    · have hh8 : h < 8 := by have := hW.1; omega
      simp only [enH_neM hh8, if_false]
      rw [enH_lt hh8]
      simp only [cl (show h < 100000 by omega), gj hh8 (show 8 ≤ 100000 by omega), if_false, nI_1, ac_enc hW hh8, show t - (k + 1) + 1 = t - k by omega]
      exact x_wayEndL hW ht k (by omega) (nx a h) (nx_in hW (Or.inl hh)) i (by omega)
    · rw [if_pos enH_8, wy_8]
theorem x_wayEnd {a : St} {H Dn F n t h : Nat} (hn : 1010 ≤ n) (hW : WT a H Dn F) (ht : t ≤ 1000) (hh : h < H) : f_X4_wayEnd n (nI h) (nI t) a = some (enH (wy a t h)) := by
  have h1 := x_wayEndL (n := n) hW ht t (Nat.le_refl t) h (Or.inl hh) n (by omega)
  rw [Nat.sub_self, enH_lt (by have := hW.1; omega)] at h1
  exact h1
theorem m_wayEndL {a b : St} {H Dn F n t : Nat} (hT : RT a b H Dn F) (ht : t ≤ 1000) : ∀ k, k ≤ t → ∀ h, (h < H ∨ h = 8) → ∀ j, k < j → L_X6_wayEnd_5 n (nI t) b j (enH h) (nI (t - k)) = some (enH (wy a k h))
  | 0, _, h, hh, j, hj => by
    obtain ⟨i, rfl⟩ : ∃ i, j = i + 1 := ⟨j - 1, by omega⟩
    rw [L_X6_wayEnd_5, if_pos (by rw [leI (by omega) (by omega)]; omega)]
    rfl
  | k + 1, hk, h, hh, j, hj => by
    obtain ⟨i, rfl⟩ : ∃ i, j = i + 1 := ⟨j - 1, by omega⟩
    have hW := WT_of hT
    rw [L_X6_wayEnd_5, if_neg (by rw [leI (by omega) (by omega)]; omega)]
    rcases hh with hh | rfl
    · have hh8 : h < 8 := by have := hW.1; omega
      simp only [enH_neM hh8, if_false]
      rw [enH_lt hh8]
      simp only [cl (show h < 100000 by omega), gj hh8 (show 8 ≤ 100000 by omega), if_false, nI_1, (hT.2.2.1 h hh8).1, ac_enc hW hh8, show t - (k + 1) + 1 = t - k by omega]
      exact m_wayEndL hT ht k (by omega) (nx a h) (nx_in hW (Or.inl hh)) i (by omega)
    · rw [if_pos enH_8, wy_8]
theorem m_wayEnd {a b : St} {H Dn F n t h : Nat} (hn : 1010 ≤ n) (hT : RT a b H Dn F) (ht : t ≤ 1000) (hh : h < H) : f_X6_wayEnd n (nI h) (nI t) b = some (enH (wy a t h)) := by
  have h1 := m_wayEndL (n := n) hT ht t (Nat.le_refl t) h (Or.inl hh) n (by omega)
  rw [Nat.sub_self, enH_lt (by have := hT.1; omega)] at h1
  exact h1
/-- what a house does in t days, told by its way -/
theorem itS_char {a : St} {H Dn F F1 : Nat} (hW : WT a H Dn F) (s : Nat → Int32) : ∀ t h, h < 8 → itS a F1 s t h = if wy a t h = 8 then -1 else if s (wy a t h) = -1 then -1 else if allC a F1 t h (s (wy a t h)).toNatClampNeg = true then s (wy a t h) else -1
  | 0, h, hh => by
    show s h = _
    unfold wy allC
    rw [if_neg (by omega), if_pos rfl]
    by_cases c : s h = -1
    · rw [if_pos c, c]
    · rw [if_neg c]
  | t + 1, h, hh => by
    show stp a F1 (itS a F1 s t) h = _
    unfold stp wy allC
    rcases nx_of hW hh with ⟨e1, e2⟩ | ⟨e1, e2⟩
    · rw [if_pos e2, e1, wy_8, if_pos rfl]
    · have hk : nx a h < 8 := by have := hW.1; omega
      rw [e2, if_neg (by rw [neM (by omega)]; exact id), cl (by omega), itS_char hW s t (nx a h) hk]
      generalize wy a t (nx a h) = e
      by_cases c1 : e = 8
      · rw [if_pos c1, if_pos rfl, if_pos c1]
      · rw [if_neg c1, if_neg c1]
        by_cases c2 : s e = -1
        · rw [if_pos c2, if_pos rfl, if_pos c2]
        · rw [if_neg c2, if_neg c2]
          cases allC a F1 t (nx a h) (s e).toNatClampNeg
          · simp
          · simp [c2]
/-! all comes again -/
/-- who is back first behind c steps -/
def per (a : St) (c y : Nat) : Prop := 0 < c ∧ wy a c y = y ∧ ∀ i, 0 < i → i < c → wy a i y ≠ y
theorem per_nx {a : St} {c y : Nat} (h : per a c y) : per a c (nx a y) := by
  obtain ⟨h1, h2, h3⟩ := h
  refine ⟨h1, ?_, fun i hi hc e => h3 i hi hc ?_⟩
  · have e : wy a c (nx a y) = nx a (wy a c y) := by rw [← wy_succ]; rfl
    rw [e, h2]
  · have e1 : wy a (c - 1) (nx a y) = y := by
      have e2 : wy a (c - 1 + 1) y = wy a (c - 1) (nx a y) := rfl
      rw [← e2, show c - 1 + 1 = c by omega, h2]
    have e3 : wy a (c - 1) (wy a i (nx a y)) = wy a i (wy a (c - 1) (nx a y)) := by
      rw [← wy_add, ← wy_add, Nat.add_comm]
    rw [e, e1] at e3
    exact e3.symm
theorem per_wy {a : St} {c : Nat} : ∀ t y, per a c y → per a c (wy a t y)
  | 0, _, h => h
  | t + 1, _, h => per_wy t _ (per_nx h)
theorem per_one {a : St} {c1 c2 y : Nat} (h1 : per a c1 y) (h2 : per a c2 y) : c1 = c2 := by
  rcases Nat.lt_trichotomy c1 c2 with q | q | q
  · exact absurd h1.2.1 (h2.2.2 c1 h1.1 q)
  · exact q
  · exact absurd h2.2.1 (h1.2.2 c2 h2.1 q)
theorem per_inj {a : St} {c y i j : Nat} (h : per a c y) (hi : i < c) (hj : j < c) (e : wy a i y = wy a j y) : i = j := by
  have key : ∀ i j, i < j → j < c → wy a i y ≠ wy a j y := fun i j hij hj e => by
    have e1 : wy a (c - j) (wy a i y) = wy a (c - j) (wy a j y) := by rw [e]
    rw [← wy_add, ← wy_add, show j + (c - j) = c by omega, h.2.1] at e1
    exact h.2.2 (i + (c - j)) (by omega) (by omega) e1
  rcases Nat.lt_trichotomy i j with q | q | q
  · exact absurd e (key i j q hj)
  · exact q
  · exact absurd e.symm (key j i q hi)
theorem per_dis {a : St} {c1 c2 y1 y2 i j : Nat} (h1 : per a c1 y1) (h2 : per a c2 y2) (hc : c1 ≠ c2) : wy a i y1 ≠ wy a j y2 := fun e => by
  have h3 := per_wy i y1 h1
  rw [e] at h3
  exact hc (per_one h3 (per_wy j y2 h2))
theorem per_mul {a : St} {c y : Nat} (h : per a c y) : ∀ k, wy a (k * c) y = y
  | 0 => by rw [Nat.zero_mul]; rfl
  | k + 1 => by rw [Nat.succ_mul, wy_add, per_mul h k, h.2.1]
/-- so many holes, no more -/
theorem holes : ∀ M N (g : Nat → Nat), (∀ i, i < N → g i < M) → (∀ i j, i < N → j < N → g i = g j → i = j) → N ≤ M
  | 0, N, g, h1, _ => by
    rcases Nat.eq_zero_or_pos N with e | e
    · omega
    · exact absurd (h1 0 e) (by omega)
  | M + 1, N, g, h1, h2 => by
    by_cases c : ∃ i0, i0 < N ∧ g i0 = M
    · obtain ⟨i0, hi, e⟩ := c
      have h3 := holes M (N - 1) (fun i => if i = i0 then g (N - 1) else g i) (fun i hi2 => by
        show (if i = i0 then g (N - 1) else g i) < M
        by_cases c2 : i = i0
        · rw [if_pos c2]
          have h4 := h1 (N - 1) (by omega)
          have h5 : g (N - 1) ≠ M := fun e2 => by
            have := h2 (N - 1) i0 (by omega) hi (by rw [e2, e])
            omega
          omega
        · rw [if_neg c2]
          have h4 := h1 i (by omega)
          have h5 : g i ≠ M := fun e2 => c2 (h2 i i0 (by omega) hi (by rw [e2, e]))
          omega) (fun i j hi2 hj2 e2 => by
        have e3 : (if i = i0 then g (N - 1) else g i) = (if j = i0 then g (N - 1) else g j) := e2
        by_cases c2 : i = i0 <;> by_cases c3 : j = i0
        · omega
        · rw [if_pos c2, if_neg c3] at e3
          have := h2 (N - 1) j (by omega) (by omega) e3
          omega
        · rw [if_neg c2, if_pos c3] at e3
          have := h2 i (N - 1) (by omega) (by omega) e3
          omega
        · rw [if_neg c2, if_neg c3] at e3
          exact h2 i j (by omega) (by omega) e3)
      omega
    · have h3 := holes M N g (fun i hi => by
        have h4 := h1 i hi
        have h5 : g i ≠ M := fun e => c ⟨i, hi, e⟩
        omega) h2
      omega
/-- three rounds of unlike lengths have room among eight -/
theorem rounds3 {a : St} {H Dn F c1 c2 c3 y1 y2 y3 : Nat} (hW : WT a H Dn F) (g1 : y1 < H ∧ per a c1 y1) (g2 : y2 < H ∧ per a c2 y2) (g3 : y3 < H ∧ per a c3 y3) (h12 : c1 ≠ c2) (h13 : c1 ≠ c3) (h23 : c2 ≠ c3) : c1 + c2 + c3 ≤ 8 := by
  have rng : ∀ {y c i : Nat}, y < H → per a c y → wy a i y < 8 := fun {y c i} hy hp => by
    rcases wy_in hW i y (Or.inl hy) with q | q
    · have := hW.1; omega
    · have h1 := per_wy i y hp
      exfalso
      -- the round never leaves the houses
      have h2 : wy a (c * i - i) (wy a i y) = y := by
        rw [← wy_add]
        rcases Nat.eq_zero_or_pos i with e | e
        · subst e
          rfl
        · rw [show i + (c * i - i) = i * c by
            have := Nat.le_mul_of_pos_left i hp.1
            rw [Nat.mul_comm i c]
            omega]
          exact per_mul hp i
      rw [q, wy_8] at h2
      have := hW.1
      omega
  refine holes 8 (c1 + c2 + c3) (fun i => if i < c1 then wy a i y1 else if i < c1 + c2 then wy a (i - c1) y2 else wy a (i - c1 - c2) y3) (fun i hi => ?_) (fun i j hi hj e => ?_)
  · show (if i < c1 then wy a i y1 else if i < c1 + c2 then wy a (i - c1) y2 else wy a (i - c1 - c2) y3) < 8
    split
    · exact rng g1.1 g1.2
    · split
      · exact rng g2.1 g2.2
      · exact rng g3.1 g3.2
  · have e : (if i < c1 then wy a i y1 else if i < c1 + c2 then wy a (i - c1) y2 else wy a (i - c1 - c2) y3) = (if j < c1 then wy a j y1 else if j < c1 + c2 then wy a (j - c1) y2 else wy a (j - c1 - c2) y3) := e
    by_cases i1 : i < c1 <;> by_cases j1 : j < c1
    · rw [if_pos i1, if_pos j1] at e
      exact per_inj g1.2 i1 j1 e
    · rw [if_pos i1, if_neg j1] at e
      by_cases j2 : j < c1 + c2
      · rw [if_pos j2] at e
        exact absurd e (per_dis g1.2 g2.2 h12)
      · rw [if_neg j2] at e
        exact absurd e (per_dis g1.2 g3.2 h13)
    · rw [if_neg i1, if_pos j1] at e
      by_cases i2 : i < c1 + c2
      · rw [if_pos i2] at e
        exact absurd e.symm (per_dis g1.2 g2.2 h12)
      · rw [if_neg i2] at e
        exact absurd e.symm (per_dis g1.2 g3.2 h13)
    · rw [if_neg i1, if_neg j1] at e
      by_cases i2 : i < c1 + c2 <;> by_cases j2 : j < c1 + c2
      · rw [if_pos i2, if_pos j2] at e
        have := per_inj g2.2 (by omega) (by omega) e
        omega
      · rw [if_pos i2, if_neg j2] at e
        exact absurd e (per_dis g2.2 g3.2 h23)
      · rw [if_neg i2, if_pos j2] at e
        exact absurd e.symm (per_dis g2.2 g3.2 h23)
      · rw [if_neg i2, if_neg j2] at e
        have := per_inj g3.2 (by omega) (by omega) e
        omega
