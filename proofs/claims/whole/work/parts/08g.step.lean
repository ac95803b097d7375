/-! ===== a day: what houses do, out of what those across did ===== -/
/-- a row of deeds that makes sense: nothing, or a deed that there is -/
def wfS (s : Nat → Int32) (Dn : Nat) : Prop := ∀ h, h < 8 → s h = -1 ∨ ∃ d, d < Dn ∧ s h = nI d
/-- the next day, for a house -/
def stp (a : St) (F : Nat) (s : Nat → Int32) (h : Nat) : Int32 := if a 6 h = -1 then -1 else if s (a 6 h).toNatClampNeg = -1 then -1 else if canT a F h (s (a 6 h).toNatClampNeg).toNatClampNeg = true then s (a 6 h).toNatClampNeg else -1
/-- t days on -/
def itS (a : St) (F : Nat) (s : Nat → Int32) : Nat → Nat → Int32
  | 0 => s
  | t + 1 => stp a F (itS a F s t)
/-- the town's rows of X alone -/
def WT (a : St) (H Dn F : Nat) : Prop := (2 ≤ H ∧ H ≤ 8 ∧ Dn ≤ 6) ∧ (a 5 0 = nI H ∧ a 5 1 = nI Dn ∧ a 5 2 = nI F ∧ F < 64) ∧ ∀ h, h < 8 → a 6 h = -1 ∨ ∃ k, k < H ∧ a 6 h = nI k
theorem WT_of {a b : St} {H Dn F : Nat} (h : RT a b H Dn F) : WT a H Dn F := by
  obtain ⟨⟨h1, h2, h3, h4⟩, ⟨e1, e2, e3, e4, e5⟩, h5, -⟩ := h
  exact ⟨⟨h1, h2, h3⟩, ⟨e1, e3, e5, by have := p2_64 h3; omega⟩, fun h hh => (h5 h hh).2⟩
theorem stp_wf {a : St} {H Dn F F1 : Nat} (hW : WT a H Dn F) {s : Nat → Int32} (hs : wfS s Dn) : wfS (stp a F1 s) Dn := by
  intro h hh
  unfold stp
  rcases hW.2.2 h hh with e | ⟨k, hk, e⟩
  · rw [if_pos e]
    exact Or.inl rfl
  · rw [if_neg (by rw [e, neM (by have := hW.1; omega)]; exact id)]
    rw [e, cl (by have := hW.1; omega)]
    rcases hs k (by have := hW.1; omega) with e2 | ⟨d, hd, e2⟩
    · rw [if_pos e2]
      exact Or.inl rfl
    · rw [e2]
      split
      · exact Or.inl rfl
      · split
        · exact Or.inr ⟨d, hd, rfl⟩
        · exact Or.inl rfl
theorem itS_wf {a : St} {H Dn F F1 : Nat} (hW : WT a H Dn F) {s : Nat → Int32} (hs : wfS s Dn) : ∀ t, wfS (itS a F1 s t) Dn
  | 0 => hs
  | t + 1 => stp_wf hW (itS_wf hW hs t)
/-- a day hangs only on what those do who are across -/
theorem stp_cong {a : St} {H Dn F F1 : Nat} (hW : WT a H Dn F) {s s1 : Nat → Int32} (h : ∀ k, k < H → s k = s1 k) {k : Nat} (hk : k < 8) : stp a F1 s k = stp a F1 s1 k := by
  unfold stp
  rcases hW.2.2 k hk with e | ⟨j, hj, e⟩
  · rw [if_pos e, if_pos e]
  · rw [e, cl (by have := hW.1; omega), h j hj]
theorem itS_cong {a : St} {H Dn F F1 : Nat} (hW : WT a H Dn F) {s s1 : Nat → Int32} (h : ∀ k, k < H → s k = s1 k) : ∀ t k, k < H → itS a F1 s t k = itS a F1 s1 t k
  | 0, k, hk => h k hk
  | t + 1, k, hk => stp_cong hW (fun j hj => itS_cong hW h t j hj) (by have := hW.1; omega)
theorem itS_add (a : St) (F : Nat) (s : Nat → Int32) (t : Nat) : ∀ u, itS a F s (t + u) = itS a F (itS a F s t) u
  | 0 => rfl
  | u + 1 => by
    show stp a F (itS a F s (t + u)) = stp a F (itS a F (itS a F s t) u)
    rw [itS_add a F s t u]
theorem x_mirrored {a : St} {H Dn F F1 o h : Nat} (hW : WT a H Dn F) (hF1 : F1 < 64) (hs : wfS (a o) Dn) (hh : h < 8) : f_X4_mirrored o (nI h) (nI F1) a = some (stp a F1 (a o) h) := by
  have hW1 := hW.1
  unfold f_X4_mirrored stp
  simp only [cl (show h < 100000 by omega), gj hh (show 8 ≤ 100000 by omega), if_false]
  rcases hW.2.2 h hh with e | ⟨k, hk, e⟩
  · rw [if_pos e, if_pos e]
  · have hk8 : k < 8 := by omega
    simp only [e, neM (show k < 100000 by omega), if_false, cl (show k < 100000 by omega), gj hk8 (show 8 ≤ 100000 by omega)]
    rcases hs k hk8 with e2 | ⟨d, hd, e2⟩
    · rw [if_pos e2, if_pos e2]
    · have hd6 : d < 6 := by omega
      simp only [e2, neM (show d < 100000 by omega), if_false, cl (show d < 100000 by omega), x_canF hF1 hh hd6, Option.bind_some]
      cases canT a F1 h d <;> simp [b2i]
/-- the cells that a day changes -/
theorem x_passDay {a : St} {H Dn F F1 o n : Nat} (hn : 20 ≤ n) (hW : WT a H Dn F) (hF1 : F1 < 64) (hs : wfS (a o) Dn) (ho : o ≠ 14) (ho5 : o ≠ 5) : ∃ a1, f_X4_passDay n o (nI F1) a = some a1 ∧ (∀ i, i ≠ 14 → i ≠ o → a1 i = a i) ∧ (∀ h, h < H → a1 o h = stp a F1 (a o) h) ∧ ∀ h, H ≤ h → a1 o h = a o h := by
  have hW1 := hW.1
  obtain ⟨s1, ⟨p1, p2⟩, h2⟩ := loop_inv (fun j i (s : St) => L_X4_passDay_2 n o (nI F1) j i s) (fun s => B_X4_passDay_29 n o s) H 0 (fun k s => (∀ i, i ≠ 14 → s i = a i) ∧ ∀ h, h < k → s 14 h = stp a F1 (a o) h) (s0 := a) (by omega) ⟨fun _ _ => rfl, fun h q => absurd q (by omega)⟩ (fun k s _ hk hP => by
    have hk8 : k < 8 := by omega
    refine ⟨up s 14 k (stp a F1 (a o) k), ⟨fun i hi => by rw [up_n _ _ _ hi]; exact hP.1 i hi, fun h hh => ?_⟩, fun j => ?_⟩
    · rw [up_s]
      by_cases e : h = k
      · rw [e, ud_s]
      · rw [ud_n _ _ e]
        exact hP.2 h (by omega)
    · have hWs : WT s H Dn F := by
        unfold WT at hW ⊢
        rw [hP.1 5 (by omega), hP.1 6 (by omega)]
        exact hW
      have hm := x_mirrored (h := k) hWs hF1 (o := o) (by rw [hP.1 o ho]; exact hs) hk8
      have es : stp s F1 (s o) k = stp a F1 (a o) k := by
        unfold stp canT cnB
        rw [hP.1 6 (by omega), hP.1 o ho, hP.1 11 (by omega), hP.1 9 (by omega), hP.1 10 (by omega), hP.1 7 (by omega)]
      rw [es] at hm
      show L_X4_passDay_2 n o (nI F1) (j + 1) (nI k) s = L_X4_passDay_2 n o (nI F1) j (nI (k + 1)) (up s 14 k (stp a F1 (a o) k))
      rw [L_X4_passDay_2, if_neg (by rw [hP.1 5 (by omega), hW.2.1.1, leI (by omega) (by omega)]; omega), hm]
      simp only [Option.bind_some, cl (show k < 100000 by omega), gj hk8 (show 8 ≤ 100000 by omega), if_false, nI_1]) (fun j s hP => by
    show L_X4_passDay_2 n o (nI F1) (j + 1) (nI H) s = B_X4_passDay_29 n o s
    rw [L_X4_passDay_2, if_pos (by rw [hP.1 5 (by omega), hW.2.1.1, leI (by omega) (by omega)]; omega)])
  refine ⟨uprow s1 o (va_cpy (s1 14) (s1 o) 0 0 H), ?_, fun i hi hio => ?_, fun h hh => ?_, fun h hh => ?_⟩
  · unfold f_X4_passDay
    have h3 := h2 n (by omega)
    rw [show (0 : Int32) = nI 0 from rfl]
    rw [h3]
    unfold B_X4_passDay_29
    rw [p1 5 (by omega), hW.2.1.1, if_neg (by
      simp only [cl (show H < 100000 by omega), show (0 : Int32).toNatClampNeg = 0 from rfl]
      rintro (q | q | q | q | q)
      · exact absurd q (by decide)
      · exact absurd q (by decide)
      · exact nI_pos (by omega) q
      · omega
      · omega), cl (show H < 100000 by omega)]
    rfl
  · rw [ur_n _ _ hio]
    exact p1 i hi
  · rw [ur_s]
    unfold va_cpy
    rw [if_pos ⟨by omega, by omega⟩, show 0 + (h - 0) = h by omega]
    exact p2 h hh
  · rw [ur_s]
    unfold va_cpy
    rw [if_neg (by omega), p1 o ho]
