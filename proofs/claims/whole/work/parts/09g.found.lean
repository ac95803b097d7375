/-! ===== a deed is told; a street is begun ===== -/
theorem e6k : ∀ d, d < 6 → ∀ k, k < 4 → (((6 : Int32) * nI d + 1) + nI k).toNatClampNeg = 6 * d + 1 + k ∧ ¬ (((6 : Int32) * nI d + 1) + nI k < 0) := by decide +kernel
theorem td_step {t : St} {n r D k : Nat} (hD : D < 6) (hr : r < 10) (hk : k < 4) (h11 : t 0 11 = nI D) (j : Nat) : L_X6_tellDeed_24 n (nI (5 * r)) (j + 1) (nI k) t = L_X6_tellDeed_24 n (nI (5 * r)) j (nI (k + 1)) (up t 8 (6 * D + 1 + k) (t 4 (5 * r + 1 + k))) := by
  obtain ⟨q1, q2⟩ := e6k D hD k hk
  rw [L_X6_tellDeed_24, if_neg (by rw [show (4 : Int32) = nI 4 from rfl, leI (by omega) (by omega)]; omega)]
  simp only [nI_1, nI_add, h11, cl (show 5 * r + 1 + k < 100000 by omega), gj (show 5 * r + 1 + k < 50 by omega) (show 50 ≤ 100000 by omega), if_false]
  rw [q1, if_neg (by
    rintro (y | y)
    · exact q2 y
    · omega)]
theorem td_end {t : St} {n r D : Nat} (hD : D < 6) (h11 : t 0 11 = nI D) (j : Nat) : L_X6_tellDeed_24 n (nI (5 * r)) (j + 1) (nI 4) t = some (up (up t 8 (6 * D + 5) 0) 0 11 (nI (D + 1))) := by
  rw [L_X6_tellDeed_24, if_pos (by decide)]
  unfold B_X6_tellDeed_61
  simp only [h11, e65 D hD, s65 D hD, n65 hD, or_self, if_false, up_n _ _ _ (show (0 : Nat) ≠ 8 by omega), nI_1]
/-- the model's row of a deed -/
def dR (f : Nat → Int32) (D : Nat) (y0 y1 y2 y3 y4 : Int32) : Nat → Int32 := upd (upd (upd (upd (upd (upd f (6 * D + 0) y0) (6 * D + 1) y1) (6 * D + 2) y2) (6 * D + 3) y3) (6 * D + 4) y4) (6 * D + 5) 0
theorem m_deed {u : St} {n r D : Nat} {y0 y1 y2 y3 y4 : Int32} (hn : 3000 ≤ n) (hD : D < 6) (hr : r < 10) (h11 : u 0 11 = nI D) (h0 : u 4 (5 * r) - 4 = y0) (h1 : u 4 (5 * r + 1) = y1) (h2 : u 4 (5 * r + 2) = y2) (h3 : u 4 (5 * r + 3) = y3) (h4 : u 4 (5 * r + 4) = y4) : ∃ u1, f_X6_tellDeed n (nI (5 * r)) u = some u1 ∧ u1 8 = dR (u 8) D y0 y1 y2 y3 y4 ∧ (∀ i, i ≠ 0 → i ≠ 8 → u1 i = u i) ∧ (∀ k, k ≠ 11 → u1 0 k = u 0 k) ∧ u1 0 11 = nI (D + 1) := by
  obtain ⟨j, rfl⟩ : ∃ j, n = j + 5 := ⟨n - 5, by omega⟩
  unfold f_X6_tellDeed
  simp only [h11, cl (show 5 * r < 100000 by omega), gj (show 5 * r < 50 by omega) (show 50 ≤ 100000 by omega), e60 D hD, s60 D hD, n60 hD, or_self, if_false, h0]
  have A : ∀ (t : St) (k : Nat) (x : Int32), up t 8 k x 0 = t 0 := fun t k x => up_n _ _ _ (by omega)
  have B : ∀ (t : St) (k : Nat) (x : Int32), up t 8 k x 4 = t 4 := fun t k x => up_n _ _ _ (by omega)
  rw [show (0 : Int32) = nI 0 from rfl]
  rw [td_step hD hr (show 0 < 4 by omega) (by rw [A]; exact h11) (j + 4), td_step hD hr (show 0 + 1 < 4 by omega) (by rw [A, A]; exact h11) (j + 3), td_step hD hr (show 0 + 1 + 1 < 4 by omega) (by rw [A, A, A]; exact h11) (j + 2), td_step hD hr (show 0 + 1 + 1 + 1 < 4 by omega) (by rw [A, A, A, A]; exact h11) (j + 1)]
  rw [show (0 + 1 + 1 + 1 + 1 : Nat) = 4 from rfl, td_end hD (by rw [A, A, A, A, A]; exact h11) j]
  refine ⟨_, rfl, ?_, fun i i1 i2 => ?_, fun k hk => ?_, ?_⟩
  · simp only [B]
    rw [up_n _ _ _ (by omega), up_s, up_s, up_s, up_s, up_s, up_s]
    subst h1
    subst h2
    subst h3
    subst h4
    rfl
  · rw [up_n _ _ _ i1, up_n _ _ _ i2, up_n _ _ _ i2, up_n _ _ _ i2, up_n _ _ _ i2, up_n _ _ _ i2, up_n _ _ _ i2]
  · rw [up_s, ud_n _ _ hk, A, A, A, A, A, A]
  · rw [up_s, ud_s]
theorem x_deed {s : St} {D : Nat} {x1 x2 x3 x4 x5 : Int32} (hD : D < 6) (h51 : s 5 1 = nI D) : f_X4_addDeed x1 x2 x3 x4 x5 s = some (up (up (up (up (up (up s 9 D x1) 10 D x2) 11 D x3) 12 D x4) 13 D x5) 5 1 (nI (D + 1))) := by
  unfold f_X4_addDeed
  have A : ∀ (t : St) (i k : Nat) (x : Int32), 5 ≠ i → up t i k x 5 = t 5 := fun t i k x h => up_n _ _ _ h
  simp only [A _ 9 _ _ (by omega), A _ 10 _ _ (by omega), A _ 11 _ _ (by omega), A _ 12 _ _ (by omega), A _ 13 _ _ (by omega), h51, cl (show D < 100000 by omega), gj (show D < 6 by omega) (show 6 ≤ 100000 by omega), if_false, nI_1]
  rw [if_neg (by rw [show (6 : Int32) = nI 6 from rfl, leI (by omega) (by omega)]; omega)]
theorem bit_up {F D i : Nat} (h : F < 2 ^ D) (hi : D ≤ i) : F / 2 ^ i % 2 = 0 := by
  have h0 : F / 2 ^ i = 0 := Nat.div_eq_of_lt (Nat.lt_of_lt_of_le h (Nat.pow_le_pow_right (by omega) hi))
  exact congrArg (fun x => x % 2) h0
theorem t_deed {s u : St} {n r w H D F : Nat} {v : Nat → Nat} (hn : 3000 ≤ n) (hr : r < 10) (hw4 : w < 4) (hL : LN s u r w v H D) (hT : RT s u H D F) (hI : NW s u H D) : TS n r s u H (D + 1) := by
  obtain ⟨hw, h3, h4, hv, -, hD⟩ := hL
  have hD := hD hw4
  obtain ⟨⟨g1, g2, g3, g4⟩, ⟨e1, e2, e3, e4, e5⟩, tA, tT, tL, tD⟩ := hT
  have hf : fo w = 20 := by
    rcases (show w = 0 ∨ w = 1 ∨ w = 2 ∨ w = 3 by omega) with rfl | rfl | rfl | rfl <;> rfl
  rw [hf] at hv
  obtain ⟨x0, m0, c0, -, b0⟩ := hv 0 (by decide)
  obtain ⟨x1, m1, c1, -, b1⟩ := hv 1 (by decide)
  obtain ⟨x2, m2, c2, -, b2⟩ := hv 2 (by decide)
  obtain ⟨x3, m3, c3, -, b3⟩ := hv 3 (by decide)
  have v0 : v 0 ≤ 15 := bS c0 b0
  have v1 : v 1 < H := bA (by omega) c1 b1
  have v2 : v 2 ≤ 9 := bV c2 b2
  have v3 : v 3 ≤ 9 := bV c3 b3
  have hmw : mw w = w + 4 := by
    unfold mw
    rw [if_pos hw4]
  have h40 : u 4 (5 * r) - 4 = nI w := by
    rw [h4, hmw, show (4 : Int32) = nI 4 from rfl, pk_sub (by omega), show w + 4 - 4 = w by omega]
  obtain ⟨u1, k1, k2, k3, k4, k5⟩ := m_deed (n := n) hn hD hr e4 h40 m0 m1 m2 m3
  obtain ⟨z0, z1, z2, z3⟩ := m_base r
  have hx := x_deed (s := s) (x1 := nI w) (x2 := nI (v 0)) (x3 := nI (v 1)) (x4 := nI (v 2)) (x5 := nI (v 3)) hD e3
  refine ⟨up (up (up (up (up (up s 9 D (nI w)) 10 D (nI (v 0))) 11 D (nI (v 1))) 12 D (nI (v 2))) 13 D (nI (v 3))) 5 1 (nI (D + 1)), u1, F, ?_, ?_, ?_, ?_, ?_, fun i hi => k3 i (by omega) (by omega), fun k _ hk => k4 k hk⟩
  · rw [x_tell hr h3, x0, x1, x2, x3, hx]
    rcases (show w = 0 ∨ w = 1 ∨ w = 2 ∨ w = 3 by omega) with rfl | rfl | rfl | rfl <;> rw [if_neg (by decide), if_neg (by decide), if_neg (by decide), if_neg (by decide), if_neg (by decide), if_neg (by decide), if_neg (by decide), if_neg (by decide), if_neg (by decide)] <;> rfl
  · rw [z0]
    unfold f_X6_tell
    simp only [z1, z2, cl (show 5 * r < 100000 by omega), cl (show 5 * r + 1 < 100000 by omega), cl (show 5 * r + 2 < 100000 by omega), gj (show 5 * r < 50 by omega) (show 50 ≤ 100000 by omega), gj (show 5 * r + 1 < 50 by omega) (show 50 ≤ 100000 by omega), gj (show 5 * r + 2 < 50 by omega) (show 50 ≤ 100000 by omega), if_false, h4, hmw, k1, Option.bind_some]
    rcases (show w = 0 ∨ w = 1 ∨ w = 2 ∨ w = 3 by omega) with rfl | rfl | rfl | rfl
    · rw [if_neg (by decide), if_neg (by decide), if_neg (by decide), if_neg (by decide), if_pos (by decide)]
    · rw [if_neg (by decide), if_neg (by decide), if_neg (by decide), if_neg (by decide), if_neg (by decide), if_pos (by decide)]
    · rw [if_neg (by decide), if_neg (by decide), if_neg (by decide), if_neg (by decide), if_neg (by decide), if_neg (by decide), if_pos (by decide)]
    · rw [if_neg (by decide), if_neg (by decide), if_neg (by decide), if_neg (by decide), if_neg (by decide), if_neg (by decide), if_neg (by decide), if_pos (by decide)]
  · have hp : F < 2 ^ (D + 1) := Nat.lt_of_lt_of_le g4 (Nat.pow_le_pow_right (by omega) (by omega))
    refine ⟨⟨g1, g2, by omega, hp⟩, ⟨?_, by rw [k4 6 (by omega)]; exact e2, by rw [up_s, ud_s], k5, ?_⟩, ?_, ?_, ?_, fun d hd => ?_⟩
    · rw [up_s, ud_n _ _ (by omega), up_n _ _ _ (by omega), up_n _ _ _ (by omega), up_n _ _ _ (by omega), up_n _ _ _ (by omega), up_n _ _ _ (by omega)]
      exact e1
    · rw [up_s, ud_n _ _ (by omega), up_n _ _ _ (by omega), up_n _ _ _ (by omega), up_n _ _ _ (by omega), up_n _ _ _ (by omega), up_n _ _ _ (by omega)]
      exact e5
    · rw [k3 5 (by omega) (by omega), up_n _ _ _ (by omega), up_n _ _ _ (by omega), up_n _ _ _ (by omega), up_n _ _ _ (by omega), up_n _ _ _ (by omega), up_n _ _ _ (by omega)]
      exact tA
    · rw [k3 6 (by omega) (by omega), up_n _ _ _ (by omega), up_n _ _ _ (by omega), up_n _ _ _ (by omega), up_n _ _ _ (by omega), up_n _ _ _ (by omega), up_n _ _ _ (by omega)]
      exact tT
    · rw [k3 7 (by omega) (by omega), up_n _ _ _ (by omega), up_n _ _ _ (by omega), up_n _ _ _ (by omega), up_n _ _ _ (by omega), up_n _ _ _ (by omega), up_n _ _ _ (by omega)]
      exact tL
    · have R9 : ∀ (i k : Nat) (x : Int32), (up (up (up (up (up (up s 9 D (nI w)) 10 D (nI (v 0))) 11 D (nI (v 1))) 12 D (nI (v 2))) 13 D (nI (v 3))) 5 1 (nI (D + 1))) 9 = upd (s 9) D (nI w) := fun _ _ _ => by
        rw [up_n _ _ _ (by omega), up_n _ _ _ (by omega), up_n _ _ _ (by omega), up_n _ _ _ (by omega), up_n _ _ _ (by omega), up_s]
      have R10 : (up (up (up (up (up (up s 9 D (nI w)) 10 D (nI (v 0))) 11 D (nI (v 1))) 12 D (nI (v 2))) 13 D (nI (v 3))) 5 1 (nI (D + 1))) 10 = upd (s 10) D (nI (v 0)) := by
        rw [up_n _ _ _ (by omega), up_n _ _ _ (by omega), up_n _ _ _ (by omega), up_n _ _ _ (by omega), up_s, up_n _ _ _ (by omega)]
      have R11 : (up (up (up (up (up (up s 9 D (nI w)) 10 D (nI (v 0))) 11 D (nI (v 1))) 12 D (nI (v 2))) 13 D (nI (v 3))) 5 1 (nI (D + 1))) 11 = upd (s 11) D (nI (v 1)) := by
        rw [up_n _ _ _ (by omega), up_n _ _ _ (by omega), up_n _ _ _ (by omega), up_s, up_n _ _ _ (by omega), up_n _ _ _ (by omega)]
      have R12 : (up (up (up (up (up (up s 9 D (nI w)) 10 D (nI (v 0))) 11 D (nI (v 1))) 12 D (nI (v 2))) 13 D (nI (v 3))) 5 1 (nI (D + 1))) 12 = upd (s 12) D (nI (v 2)) := by
        rw [up_n _ _ _ (by omega), up_n _ _ _ (by omega), up_s, up_n _ _ _ (by omega), up_n _ _ _ (by omega), up_n _ _ _ (by omega)]
      have R13 : (up (up (up (up (up (up s 9 D (nI w)) 10 D (nI (v 0))) 11 D (nI (v 1))) 12 D (nI (v 2))) 13 D (nI (v 3))) 5 1 (nI (D + 1))) 13 = upd (s 13) D (nI (v 3)) := by
        rw [up_n _ _ _ (by omega), up_s, up_n _ _ _ (by omega), up_n _ _ _ (by omega), up_n _ _ _ (by omega), up_n _ _ _ (by omega)]
      unfold RD
      rw [R9 0 0 0, R10, R11, R12, R13, k2]
      unfold dR
      by_cases c : d = D
      · subst c
        refine ⟨⟨?_, ?_, ?_, ?_, ?_, ?_⟩, ⟨w, by omega, by rw [ud_s]⟩, ⟨v 0, v0, by rw [ud_s]⟩, ⟨v 1, v1, by rw [ud_s]⟩, ⟨v 2, v2, by rw [ud_s]⟩, ⟨v 3, v3, by rw [ud_s]⟩⟩
        · rw [ud_n _ _ (by omega), ud_n _ _ (by omega), ud_n _ _ (by omega), ud_n _ _ (by omega), ud_n _ _ (by omega), ud_s, ud_s]
        · rw [ud_n _ _ (by omega), ud_n _ _ (by omega), ud_n _ _ (by omega), ud_n _ _ (by omega), ud_s, ud_s]
        · rw [ud_n _ _ (by omega), ud_n _ _ (by omega), ud_n _ _ (by omega), ud_s, ud_s]
        · rw [ud_n _ _ (by omega), ud_n _ _ (by omega), ud_s, ud_s]
        · rw [ud_n _ _ (by omega), ud_s, ud_s]
        · rw [ud_s, bit_up g4 (Nat.le_refl _)]
          rfl
      · have q := tD d (by omega)
        unfold RD at q
        rw [ud_n (s 9) _ c, ud_n (s 10) _ c, ud_n (s 11) _ c, ud_n (s 12) _ c, ud_n (s 13) _ c]
        rw [ud_n _ _ (show 6 * d + 0 ≠ 6 * D + 5 by omega), ud_n _ _ (show 6 * d + 0 ≠ 6 * D + 4 by omega), ud_n _ _ (show 6 * d + 0 ≠ 6 * D + 3 by omega), ud_n _ _ (show 6 * d + 0 ≠ 6 * D + 2 by omega), ud_n _ _ (show 6 * d + 0 ≠ 6 * D + 1 by omega), ud_n _ _ (show 6 * d + 0 ≠ 6 * D + 0 by omega)]
        rw [ud_n _ _ (show 6 * d + 1 ≠ 6 * D + 5 by omega), ud_n _ _ (show 6 * d + 1 ≠ 6 * D + 4 by omega), ud_n _ _ (show 6 * d + 1 ≠ 6 * D + 3 by omega), ud_n _ _ (show 6 * d + 1 ≠ 6 * D + 2 by omega), ud_n _ _ (show 6 * d + 1 ≠ 6 * D + 1 by omega), ud_n _ _ (show 6 * d + 1 ≠ 6 * D + 0 by omega)]
        rw [ud_n _ _ (show 6 * d + 2 ≠ 6 * D + 5 by omega), ud_n _ _ (show 6 * d + 2 ≠ 6 * D + 4 by omega), ud_n _ _ (show 6 * d + 2 ≠ 6 * D + 3 by omega), ud_n _ _ (show 6 * d + 2 ≠ 6 * D + 2 by omega), ud_n _ _ (show 6 * d + 2 ≠ 6 * D + 1 by omega), ud_n _ _ (show 6 * d + 2 ≠ 6 * D + 0 by omega)]
        rw [ud_n _ _ (show 6 * d + 3 ≠ 6 * D + 5 by omega), ud_n _ _ (show 6 * d + 3 ≠ 6 * D + 4 by omega), ud_n _ _ (show 6 * d + 3 ≠ 6 * D + 3 by omega), ud_n _ _ (show 6 * d + 3 ≠ 6 * D + 2 by omega), ud_n _ _ (show 6 * d + 3 ≠ 6 * D + 1 by omega), ud_n _ _ (show 6 * d + 3 ≠ 6 * D + 0 by omega)]
        rw [ud_n _ _ (show 6 * d + 4 ≠ 6 * D + 5 by omega), ud_n _ _ (show 6 * d + 4 ≠ 6 * D + 4 by omega), ud_n _ _ (show 6 * d + 4 ≠ 6 * D + 3 by omega), ud_n _ _ (show 6 * d + 4 ≠ 6 * D + 2 by omega), ud_n _ _ (show 6 * d + 4 ≠ 6 * D + 1 by omega), ud_n _ _ (show 6 * d + 4 ≠ 6 * D + 0 by omega)]
        rw [ud_n _ _ (show 6 * d + 5 ≠ 6 * D + 5 by omega), ud_n _ _ (show 6 * d + 5 ≠ 6 * D + 4 by omega), ud_n _ _ (show 6 * d + 5 ≠ 6 * D + 3 by omega), ud_n _ _ (show 6 * d + 5 ≠ 6 * D + 2 by omega), ud_n _ _ (show 6 * d + 5 ≠ 6 * D + 1 by omega), ud_n _ _ (show 6 * d + 5 ≠ 6 * D + 0 by omega)]
        exact q
  · intro h hh
    rw [k3 1 (by omega) (by omega), up_n _ _ _ (by omega), up_n _ _ _ (by omega), up_n _ _ _ (by omega), up_n _ _ _ (by omega), up_n _ _ _ (by omega), up_n _ _ _ (by omega)]
    obtain ⟨i1, i2, i3⟩ := hI h hh
    refine ⟨i1, ?_, i3⟩
    rcases i2 with y | ⟨d, d1, d2⟩
    · exact Or.inl y
    · exact Or.inr ⟨d, by omega, d2⟩
  · intro i hi
    rw [up_n _ _ _ (by omega), up_n _ _ _ (by omega), up_n _ _ _ (by omega), up_n _ _ _ (by omega), up_n _ _ _ (by omega), up_n _ _ _ (by omega)]
/-- the town is cleared -/
theorem x_restart {s : St} {n : Nat} {x : Int32} (hn : 3000 ≤ n) : ∃ s1, f_X4_restart n x s = some s1 ∧ (∀ i, i ≠ 5 → i ≠ 6 → i ≠ 7 → i ≠ 8 → s1 i = s i) ∧ s1 5 0 = x ∧ s1 5 1 = 0 ∧ s1 5 2 = 0 ∧ (∀ h, h < 8 → s1 6 h = -1 ∧ s1 7 h = 0) ∧ ∀ k, k < 64 → s1 8 k = 0 := by
  unfold f_X4_restart
  have a0 : (up (up (up s 5 0 x) 5 1 0) 5 2 0) 5 0 = x := by rw [up_s, ud_n _ _ (by omega), up_s, ud_n _ _ (by omega), up_s, ud_s]
  have a1 : (up (up (up s 5 0 x) 5 1 0) 5 2 0) 5 1 = 0 := by rw [up_s, ud_n _ _ (by omega), up_s, ud_s]
  have a2 : (up (up (up s 5 0 x) 5 1 0) 5 2 0) 5 2 = 0 := by rw [up_s, ud_s]
  have a3 : ∀ i, i ≠ 5 → (up (up (up s 5 0 x) 5 1 0) 5 2 0) i = s i := fun i hi => by rw [up_n _ _ _ hi, up_n _ _ _ hi, up_n _ _ _ hi]
  generalize up (up (up s 5 0 x) 5 1 0) 5 2 0 = t at a0 a1 a2 a3
  obtain ⟨s1, ⟨p1, p2⟩, g⟩ := loop_inv (fun j i (t : St) => L_X4_restart_17 n j i t) (fun t => B_X4_restart_43 n t) 8 0 (fun k z => (∀ i, i ≠ 6 → i ≠ 7 → z i = t i) ∧ ∀ h, h < k → z 6 h = -1 ∧ z 7 h = 0) (s0 := t) (by omega) ⟨fun _ _ _ => rfl, fun h hh => absurd hh (by omega)⟩ (fun k z _ hk hP => by
    obtain ⟨q1, q2⟩ := hP
    refine ⟨up (up z 6 k (-1)) 7 k 0, ⟨fun i i1 i2 => by rw [up_n _ _ _ i2, up_n _ _ _ i1]; exact q1 i i1 i2, fun h hh => ?_⟩, fun j => ?_⟩
    · rw [up_n _ _ _ (by omega), up_s, up_s, up_n _ _ _ (by omega)]
      by_cases c : h = k
      · rw [c, ud_s, ud_s]
        exact ⟨rfl, rfl⟩
      · rw [ud_n _ _ c, ud_n _ _ c]
        exact q2 h (by omega)
    · show L_X4_restart_17 n (j + 1) (nI k) z = L_X4_restart_17 n j (nI (k + 1)) _
      rw [L_X4_restart_17, if_neg (by rw [show (8 : Int32) = nI 8 from rfl, leI (by omega) (by omega)]; omega)]
      simp only [cl (show k < 100000 by omega), gj hk (show 8 ≤ 100000 by omega), if_false, nI_1]) (fun j z _ => by
    show L_X4_restart_17 n (j + 1) (nI 8) z = _
    rw [L_X4_restart_17, if_pos (by decide)])
  obtain ⟨s2, ⟨r1, r2⟩, g2⟩ := loop_inv (fun j i (t : St) => L_X4_restart_45 n j i t) (fun t => some t) 64 0 (fun k z => (∀ i, i ≠ 8 → z i = s1 i) ∧ ∀ h, h < k → z 8 h = 0) (s0 := s1) (by omega) ⟨fun _ _ => rfl, fun h hh => absurd hh (by omega)⟩ (fun k z _ hk hP => by
    obtain ⟨q1, q2⟩ := hP
    refine ⟨up z 8 k 0, ⟨fun i i1 => by rw [up_n _ _ _ i1]; exact q1 i i1, fun h hh => ?_⟩, fun j => ?_⟩
    · rw [up_s]
      by_cases c : h = k
      · rw [c, ud_s]
      · rw [ud_n _ _ c]
        exact q2 h (by omega)
    · show L_X4_restart_45 n (j + 1) (nI k) z = L_X4_restart_45 n j (nI (k + 1)) _
      rw [L_X4_restart_45, if_neg (by rw [show (64 : Int32) = nI 64 from rfl, leI (by omega) (by omega)]; omega)]
      simp only [cl (show k < 100000 by omega), gj hk (show 64 ≤ 100000 by omega), if_false, nI_1]) (fun j z _ => by
    show L_X4_restart_45 n (j + 1) (nI 64) z = _
    rw [L_X4_restart_45, if_pos (by decide)])
  refine ⟨s2, ?_, fun i i1 i2 i3 i4 => by rw [r1 i i4, p1 i i2 i3, a3 i i1], by rw [r1 5 (by omega), p1 5 (by omega) (by omega)]; exact a0, by rw [r1 5 (by omega), p1 5 (by omega) (by omega)]; exact a1, by rw [r1 5 (by omega), p1 5 (by omega) (by omega)]; exact a2, fun h hh => by rw [r1 6 (by omega), r1 7 (by omega)]; exact p2 h hh, fun k hk => r2 k hk⟩
  have g3 : L_X4_restart_17 n n 0 t = B_X4_restart_43 n s1 := g n (by omega)
  rw [g3]
  exact g2 n (by omega)
theorem x_idleAll {s : St} {n o : Nat} (hn : 10 ≤ n) : ∃ s1, f_X0_idleAll n o s = some s1 ∧ (∀ i, i ≠ o + 1 → s1 i = s i) ∧ ∀ h, h < 8 → s1 (o + 1) h = -1 := by
  obtain ⟨s2, ⟨r1, r2⟩, g2⟩ := loop_inv (fun j i (t : St) => L_X0_idleAll_2 n o j i t) (fun t => some t) 8 0 (fun k z => (∀ i, i ≠ o + 1 → z i = s i) ∧ ∀ h, h < k → z (o + 1) h = -1) (s0 := s) (by omega) ⟨fun _ _ => rfl, fun h hh => absurd hh (by omega)⟩ (fun k z _ hk hP => by
    obtain ⟨q1, q2⟩ := hP
    refine ⟨up z (o + 1) k (-1), ⟨fun i i1 => by rw [up_n _ _ _ i1]; exact q1 i i1, fun h hh => ?_⟩, fun j => ?_⟩
    · rw [up_s]
      by_cases c : h = k
      · rw [c, ud_s]
      · rw [ud_n _ _ c]
        exact q2 h (by omega)
    · show L_X0_idleAll_2 n o (j + 1) (nI k) z = L_X0_idleAll_2 n o j (nI (k + 1)) _
      rw [L_X0_idleAll_2, if_neg (by rw [show (8 : Int32) = nI 8 from rfl, leI (by omega) (by omega)]; omega)]
      simp only [cl (show k < 100000 by omega), gj hk (show 8 ≤ 100000 by omega), if_false, nI_1]) (fun j z _ => by
    show L_X0_idleAll_2 n o (j + 1) (nI 8) z = _
    rw [L_X0_idleAll_2, if_pos (by decide)])
  exact ⟨s2, g2 n (by omega), r1, r2⟩
theorem m_clear {u : St} {n : Nat} {x : Int32} (hn : 3000 ≤ n) : ∃ u1, f_X6_clear n x u = some u1 ∧ (∀ i, i ≠ 0 → i ≠ 1 → i ≠ 5 → i ≠ 6 → i ≠ 7 → u1 i = u i) ∧ (∀ k, k ≠ 6 → k ≠ 11 → u1 0 k = u 0 k) ∧ u1 0 6 = x ∧ u1 0 11 = 0 ∧ (∀ h, h < 8 → u1 5 h = -1 ∧ u1 6 h = 0 ∧ u1 1 h = -1) ∧ ∀ k, k < 64 → u1 7 k = 0 := by
  unfold f_X6_clear
  have a0 : (up (up u 0 6 x) 0 11 0) 0 6 = x := by rw [up_s, ud_n _ _ (by omega), up_s, ud_s]
  have a1 : (up (up u 0 6 x) 0 11 0) 0 11 = 0 := by rw [up_s, ud_s]
  have a2 : ∀ k, k ≠ 6 → k ≠ 11 → (up (up u 0 6 x) 0 11 0) 0 k = u 0 k := fun k k1 k2 => by rw [up_s, ud_n _ _ k2, up_s, ud_n _ _ k1]
  have a3 : ∀ i, i ≠ 0 → (up (up u 0 6 x) 0 11 0) i = u i := fun i hi => by rw [up_n _ _ _ hi, up_n _ _ _ hi]
  generalize up (up u 0 6 x) 0 11 0 = t at a0 a1 a2 a3
  obtain ⟨s1, ⟨p1, p2⟩, g⟩ := loop_inv (fun j i (t : St) => L_X6_clear_12 n j i t) (fun t => B_X6_clear_45 n t) 8 0 (fun k z => (∀ i, i ≠ 1 → i ≠ 5 → i ≠ 6 → z i = t i) ∧ ∀ h, h < k → z 5 h = -1 ∧ z 6 h = 0 ∧ z 1 h = -1) (s0 := t) (by omega) ⟨fun _ _ _ _ => rfl, fun h hh => absurd hh (by omega)⟩ (fun k z _ hk hP => by
    obtain ⟨q1, q2⟩ := hP
    refine ⟨up (up (up z 5 k (-1)) 6 k 0) 1 k (-1), ⟨fun i i1 i2 i3 => by rw [up_n _ _ _ i1, up_n _ _ _ i3, up_n _ _ _ i2]; exact q1 i i1 i2 i3, fun h hh => ?_⟩, fun j => ?_⟩
    · rw [up_n _ _ _ (by omega), up_n _ _ _ (by omega), up_s, up_n _ _ _ (by omega), up_s, up_n _ _ _ (by omega), up_s, up_n _ _ _ (by omega), up_n _ _ _ (by omega)]
      by_cases c : h = k
      · rw [c, ud_s, ud_s, ud_s]
        exact ⟨rfl, rfl, rfl⟩
      · rw [ud_n _ _ c, ud_n _ _ c, ud_n _ _ c]
        exact q2 h (by omega)
    · show L_X6_clear_12 n (j + 1) (nI k) z = L_X6_clear_12 n j (nI (k + 1)) _
      rw [L_X6_clear_12, if_neg (by rw [show (8 : Int32) = nI 8 from rfl, leI (by omega) (by omega)]; omega)]
      simp only [cl (show k < 100000 by omega), gj hk (show 8 ≤ 100000 by omega), gj (show k < 51 by omega) (show 51 ≤ 100000 by omega), if_false, nI_1]) (fun j z _ => by
    show L_X6_clear_12 n (j + 1) (nI 8) z = _
    rw [L_X6_clear_12, if_pos (by decide)])
  obtain ⟨s2, ⟨r1, r2⟩, g2⟩ := loop_inv (fun j i (t : St) => L_X6_clear_47 n j i t) (fun t => some t) 64 0 (fun k z => (∀ i, i ≠ 7 → z i = s1 i) ∧ ∀ h, h < k → z 7 h = 0) (s0 := s1) (by omega) ⟨fun _ _ => rfl, fun h hh => absurd hh (by omega)⟩ (fun k z _ hk hP => by
    obtain ⟨q1, q2⟩ := hP
    refine ⟨up z 7 k 0, ⟨fun i i1 => by rw [up_n _ _ _ i1]; exact q1 i i1, fun h hh => ?_⟩, fun j => ?_⟩
    · rw [up_s]
      by_cases c : h = k
      · rw [c, ud_s]
      · rw [ud_n _ _ c]
        exact q2 h (by omega)
    · show L_X6_clear_47 n (j + 1) (nI k) z = L_X6_clear_47 n j (nI (k + 1)) _
      rw [L_X6_clear_47, if_neg (by rw [show (64 : Int32) = nI 64 from rfl, leI (by omega) (by omega)]; omega)]
      simp only [cl (show k < 100000 by omega), gj hk (show 64 ≤ 100000 by omega), if_false, nI_1]) (fun j z _ => by
    show L_X6_clear_47 n (j + 1) (nI 64) z = _
    rw [L_X6_clear_47, if_pos (by decide)])
  refine ⟨s2, ?_, fun i i1 i2 i3 i4 i5 => by rw [r1 i i5, p1 i i2 i3 i4, a3 i i1], fun k k1 k2 => by rw [r1 0 (by omega), p1 0 (by omega) (by omega) (by omega)]; exact a2 k k1 k2, by rw [r1 0 (by omega), p1 0 (by omega) (by omega) (by omega)]; exact a0, by rw [r1 0 (by omega), p1 0 (by omega) (by omega) (by omega)]; exact a1, fun h hh => by rw [r1 5 (by omega), r1 6 (by omega), r1 1 (by omega)]; exact p2 h hh, fun k hk => r2 k hk⟩
  have g3 : L_X6_clear_12 n n 0 t = B_X6_clear_45 n s1 := g n (by omega)
  rw [g3]
  exact g2 n (by omega)
theorem t_street {s u : St} {n r H D F : Nat} {v : Nat → Nat} (hn : 3000 ≤ n) (hr : r < 10) (hL : LN s u r 4 v H D) (hT : RT s u H D F) (hI : NW s u H D) : TS n r s u (v 0) 0 := by
  obtain ⟨hw, h3, h4, hv, -, -⟩ := hL
  obtain ⟨x0, m0, c0, c0b, b0⟩ := hv 0 (by decide)
  have v0 : 2 ≤ v 0 ∧ v 0 ≤ 8 := bN c0 c0b b0
  have m0 : u 4 (5 * r + 1) = nI (v 0) := m0
  have h4 : u 4 (5 * r) = nI 0 := h4
  obtain ⟨z0, z1, z2, z3⟩ := m_base r
  obtain ⟨s1, y1, y2, y3, y4, y5, y6, y7⟩ := x_restart (s := s) (x := nI (v 0)) hn
  obtain ⟨s2, w1, w2, w3⟩ := x_idleAll (s := s1) (n := n) (o := 15) (by omega)
  obtain ⟨u1, k1, k2, k3, k4, k5, k6, k7⟩ := m_clear (u := u) (x := nI (v 0)) hn
  have w3 : ∀ h, h < 8 → s2 16 h = -1 := w3
  refine ⟨s2, u1, 0, ?_, ?_, ⟨⟨v0.1, v0.2, by omega, by decide⟩, ⟨by rw [w2 5 (by omega)]; exact y3, k4, by rw [w2 5 (by omega)]; exact y4, k5, by rw [w2 5 (by omega)]; exact y5⟩, fun h hh => ?_, fun h hh => ?_, fun k hk => ?_, fun d hd => absurd hd (by omega)⟩, fun h hh => ?_, fun i hi => ?_, fun i hi => k2 i (by omega) (by omega) (by omega) (by omega) (by omega), fun k c1 c2 => k3 k c1 c2⟩
  · rw [x_tell hr h3, if_pos (by decide), x0, y1, Option.bind_some, w1, Option.bind_some]
  · rw [z0]
    unfold f_X6_tell
    simp only [z1, z2, cl (show 5 * r < 100000 by omega), cl (show 5 * r + 1 < 100000 by omega), cl (show 5 * r + 2 < 100000 by omega), gj (show 5 * r < 50 by omega) (show 50 ≤ 100000 by omega), gj (show 5 * r + 1 < 50 by omega) (show 50 ≤ 100000 by omega), gj (show 5 * r + 2 < 50 by omega) (show 50 ≤ 100000 by omega), if_false, h4, m0]
    rw [if_pos (by decide), k1, Option.bind_some]
  · rw [w2 6 (by omega), (k6 h hh).1, (y6 h hh).1]
    exact ⟨rfl, Or.inl rfl⟩
  · rw [w2 7 (by omega), (k6 h hh).2.1, (y6 h hh).2]
    exact ⟨rfl, 0, by omega, rfl⟩
  · rw [w2 8 (by omega), k7 k hk, y7 k hk]
    exact ⟨rfl, 0, by omega, rfl⟩
  · rw [(k6 h hh).2.2, w3 h hh]
    exact ⟨rfl, Or.inl rfl, fun _ => rfl⟩
  · rw [w2 i (by omega)]
    exact y2 i (by omega) (by omega) (by omega) (by omega)
theorem t_line {s u : St} {n r w H D F : Nat} {v : Nat → Nat} (hn : 3000 ≤ n) (hr : r < 10) (hL : LN s u r w v H D) (hT : RT s u H D F) (hI : NW s u H D) : TS n r s u (nxH w v H) (nxD w D) := by
  have hw := hL.1
  unfold nxH nxD
  by_cases c4 : w = 4
  · rw [if_pos c4, if_pos c4]
    subst c4
    exact t_street hn hr hL hT hI
  · rw [if_neg c4, if_neg c4]
    by_cases c3 : w < 4
    · rw [if_pos c3]
      exact t_deed hn hr c3 hL hT hI
    · rw [if_neg c3]
      rcases (show w = 5 ∨ w = 6 ∨ w = 7 ∨ w = 8 ∨ w = 9 ∨ w = 10 ∨ w = 11 ∨ w = 12 by omega) with rfl | rfl | rfl | rfl | rfl | rfl | rfl | rfl
      · exact t_across hr hL hT hI
      · exact t_gap hr hL hT hI
      · exact t_tools hr hL hT hI
      · exact t_does hn hr hL hT hI
      · exact t_idle hr hL hT hI
      · exact t_like hr hL hT hI
      · exact t_forbid hr hL hT hI
      · exact t_allow hr hL hT hI
