/-! ===== houses, deeds: who can; what lacks ===== -/
theorem e60 : ∀ d, d < 6 → ((6 : Int32) * nI d + 0).toNatClampNeg = 6 * d + 0 := by decide +kernel
theorem s60 : ∀ d, d < 6 → ((6 : Int32) * nI d + 0 < 0) = False := fun d hd => eq_false (by revert d; decide +kernel)
theorem n60 {d : Nat} (hd : d < 6) : (36 ≤ 6 * d + 0) = False := eq_false (by omega)
theorem e61 : ∀ d, d < 6 → ((6 : Int32) * nI d + 1).toNatClampNeg = 6 * d + 1 := by decide +kernel
theorem s61 : ∀ d, d < 6 → ((6 : Int32) * nI d + 1 < 0) = False := fun d hd => eq_false (by revert d; decide +kernel)
theorem n61 {d : Nat} (hd : d < 6) : (36 ≤ 6 * d + 1) = False := eq_false (by omega)
theorem e62 : ∀ d, d < 6 → ((6 : Int32) * nI d + 2).toNatClampNeg = 6 * d + 2 := by decide +kernel
theorem s62 : ∀ d, d < 6 → ((6 : Int32) * nI d + 2 < 0) = False := fun d hd => eq_false (by revert d; decide +kernel)
theorem n62 {d : Nat} (hd : d < 6) : (36 ≤ 6 * d + 2) = False := eq_false (by omega)
theorem e63 : ∀ d, d < 6 → ((6 : Int32) * nI d + 3).toNatClampNeg = 6 * d + 3 := by decide +kernel
theorem s63 : ∀ d, d < 6 → ((6 : Int32) * nI d + 3 < 0) = False := fun d hd => eq_false (by revert d; decide +kernel)
theorem n63 {d : Nat} (hd : d < 6) : (36 ≤ 6 * d + 3) = False := eq_false (by omega)
theorem e64 : ∀ d, d < 6 → ((6 : Int32) * nI d + 4).toNatClampNeg = 6 * d + 4 := by decide +kernel
theorem s64 : ∀ d, d < 6 → ((6 : Int32) * nI d + 4 < 0) = False := fun d hd => eq_false (by revert d; decide +kernel)
theorem n64 {d : Nat} (hd : d < 6) : (36 ≤ 6 * d + 4) = False := eq_false (by omega)
theorem e65 : ∀ d, d < 6 → ((6 : Int32) * nI d + 5).toNatClampNeg = 6 * d + 5 := by decide +kernel
theorem s65 : ∀ d, d < 6 → ((6 : Int32) * nI d + 5 < 0) = False := fun d hd => eq_false (by revert d; decide +kernel)
theorem n65 {d : Nat} (hd : d < 6) : (36 ≤ 6 * d + 5) = False := eq_false (by omega)
def pcn (x : Nat) : Nat → Nat
  | 0 => 0
  | k + 1 => pcn x k + x / 2 ^ k % 2
theorem bit8 : ∀ x, x < 256 → ∀ k, k < 8 → (nI x >>> (nI k &&& 31)) &&& 1 = nI (x / 2 ^ k % 2) := by decide +kernel
theorem m_bits {n x : Nat} (hn : 10 ≤ n) (hx : x < 256) : f_X6_bits n (nI x) = some (nI (pcn x 8)) := by
  unfold f_X6_bits
  obtain ⟨s1, h1, h2⟩ := loop_inv (fun j i (s : Int32) => L_X6_bits_4 n (nI x) j s i) (fun s => some s) 8 0 (fun k s => s = nI (pcn x k)) (s0 := 0) (by omega) rfl (fun k s _ hk hs => by
    refine ⟨nI (pcn x (k + 1)), rfl, fun j => ?_⟩
    show L_X6_bits_4 n (nI x) (j + 1) s (nI k) = L_X6_bits_4 n (nI x) j (nI (pcn x (k + 1))) (nI (k + 1))
    rw [L_X6_bits_4, if_neg (show ¬ (8 : Int32) ≤ nI k from by rw [show (8 : Int32) = nI 8 from rfl, leI (by omega) (by omega)]; omega), bit8 x hx k hk, hs, nI_add, nI_1]
    rfl) (fun j s hs => by
    show L_X6_bits_4 n (nI x) (j + 1) s (nI 8) = some s
    rw [L_X6_bits_4, if_pos (show (8 : Int32) ≤ nI 8 by decide)])
  have h3 := h2 n (by omega)
  rw [h1] at h3
  exact h3
theorem x_bitCount : ∀ x, x < 256 → f_J6_bitCount_0f7a4 (nI x) = some (nI (pcn x 8)) := by decide +kernel
theorem and16 : ∀ v, v ≤ 15 → ∀ t, t ≤ 15 → nI v &&& nI t = nI (v &&& t) ∧ nI v &&& ~~~(nI t) = nI (v &&& (15 - t)) := by decide +kernel
theorem lack16 : ∀ v, v ≤ 15 → ∀ t, t ≤ 15 → (v &&& (15 - t) = v ↔ v &&& t = 0) ∧ (pcn (v &&& (15 - t)) 8 = 0 ↔ v &&& (15 - t) = 0) ∧ v &&& t ≤ 15 ∧ v &&& (15 - t) ≤ 15 := by decide +kernel
theorem nI_z {k : Nat} (hk : k < 100000) : (nI k = 0) = (k = 0) := by
  rw [show (0 : Int32) = nI 0 from rfl, eqI hk (by omega)]
/-- a deed, as both have it -/
def RD (a b : St) (H F d : Nat) : Prop := (b 8 (6 * d + 0) = a 9 d ∧ b 8 (6 * d + 1) = a 10 d ∧ b 8 (6 * d + 2) = a 11 d ∧ b 8 (6 * d + 3) = a 12 d ∧ b 8 (6 * d + 4) = a 13 d ∧ b 8 (6 * d + 5) = nI (F / 2 ^ d % 2)) ∧ (∃ v, v ≤ 3 ∧ a 9 d = nI v) ∧ (∃ v, v ≤ 15 ∧ a 10 d = nI v) ∧ (∃ v, v < H ∧ a 11 d = nI v) ∧ (∃ v, v ≤ 9 ∧ a 12 d = nI v) ∧ ∃ v, v ≤ 9 ∧ a 13 d = nI v
/-- the town, as both have it: H houses, Dn deeds, F the forbidden ones -/
def RT (a b : St) (H Dn F : Nat) : Prop := (2 ≤ H ∧ H ≤ 8 ∧ Dn ≤ 6 ∧ F < 2 ^ Dn) ∧ (a 5 0 = nI H ∧ b 0 6 = nI H ∧ a 5 1 = nI Dn ∧ b 0 11 = nI Dn ∧ a 5 2 = nI F) ∧ (∀ h, h < 8 → b 5 h = a 6 h ∧ (a 6 h = -1 ∨ ∃ k, k < H ∧ a 6 h = nI k)) ∧ (∀ h, h < 8 → b 6 h = a 7 h ∧ ∃ t, t ≤ 15 ∧ a 7 h = nI t) ∧ (∀ k, k < 64 → b 7 k = a 8 k ∧ ∃ v, v ≤ 9 ∧ a 8 k = nI v) ∧ ∀ d, d < Dn → RD a b H F d
/-- how many tools lack -/
def lkN (kd v t : Nat) (own : Bool) : Nat := if kd = 0 then 0 else if kd = 2 then (if v = 0 then 0 else if v &&& t = 0 then 1 else 0) else if kd = 3 ∧ own = true then 0 else pcn (v &&& (15 - t)) 8
theorem lk_le : ∀ kd, kd ≤ 3 → ∀ v, v ≤ 15 → ∀ t, t ≤ 15 → lkN kd v t true ≤ 4 ∧ lkN kd v t false ≤ 4 := by decide +kernel
theorem m_lacks {a b : St} {H F h d n kd v t : Nat} (hn : 10 ≤ n) (hh : h < 8) (hd : d < 6) (hR : RD a b H F d) (hk : kd ≤ 3) (ek : a 9 d = nI kd) (hv : v ≤ 15) (ev : a 10 d = nI v) (ht : t ≤ 15) (et : b 6 h = nI t) : f_X6_lacks n (nI h) (nI d) b = some (nI (lkN kd v t (decide (a 11 d = nI h)))) := by
  obtain ⟨⟨r0, r1, r2, -⟩, -⟩ := hR
  obtain ⟨a1, a2⟩ := and16 v hv t ht
  obtain ⟨l1, l2, l3, l4⟩ := lack16 v hv t ht
  have hb := m_bits (n := n) (x := v &&& (15 - t)) hn (by omega)
  unfold f_X6_lacks
  simp only [e60 d hd, e61 d hd, e62 d hd, s60 d hd, s61 d hd, s62 d hd, n60 hd, n61 hd, n62 hd, or_self, if_false, r0, r1, r2, ek, ev, cl (show h < 100000 by omega), gj hh (show 8 ≤ 100000 by omega), et, xm1, a1, a2, hb, Option.bind_some, nI_z (show v < 100000 by omega), nI_z (show v &&& t < 100000 by omega)]
  rcases (show kd = 0 ∨ kd = 1 ∨ kd = 2 ∨ kd = 3 by omega) with rfl | rfl | rfl | rfl
  · rfl
  · rfl
  · unfold lkN
    by_cases c1 : v = 0
    · simp [c1]
      rfl
    · by_cases c2 : v &&& t = 0
      · simp [c1, c2]
        rfl
      · simp [c1, c2]
        rfl
  · unfold lkN
    by_cases c1 : a 11 d = nI h
    · simp [c1]
      rfl
    · simp [c1]
      rfl
