/-! ===== pairs ===== -/
def lo (S : Nat) : Nat := if fbN S 0 = true then 0 else if fbN S 1 = true then 1 else if fbN S 2 = true then 2 else if fbN S 3 = true then 3 else if fbN S 4 = true then 4 else if fbN S 5 = true then 5 else if fbN S 6 = true then 6 else 7
def rm (S k : Nat) : Nat := S - if fbN S k = true then 2 ^ k else 0
theorem lo_ok : ∀ S, S < 256 → 0 < S → lo S < 8 ∧ fbN S (lo S) = true ∧ ∀ k, k < lo S → fbN S k = false := by decide +kernel
theorem bit256 : ∀ S, S < 256 → ∀ k, k < 8 → bitI (nI S) k = fbN S k := by decide +kernel
theorem rm_I : ∀ S, S < 256 → ∀ k, k < 8 → nI S &&& ~~~((1 : Int32) <<< (nI k &&& 31)) = nI (rm S k) := by decide +kernel
theorem rm_bit : ∀ S, S < 256 → ∀ k, k < 8 → ∀ i, i < 8 → fbN (rm S k) i = (fbN S i && !decide (i = k)) := by decide +kernel
theorem rm_le (S k : Nat) : rm S k ≤ S := Nat.sub_le _ _
theorem rm_lt {S k : Nat} (h : fbN S k = true) (h0 : 0 < S) : rm S k < S := by
  unfold rm
  rw [if_pos h]
  have := Nat.two_pow_pos k
  omega
theorem ntz : ∀ S, S < 256 → 0 < S → f_J6_numberOfTrailingZeros_0f7a4 (nI S) = some (nI (lo S)) := by decide +kernel
theorem more2 : ∀ S, S < 256 → 0 < S → nI (pcn S 8) - nI (pcn S 8) / 2 * 2 = 1 ∨ (List.range 8).any (fun i => decide (lo S < i) && fbN S i) = true := by decide +kernel
theorem no_bits : ∀ S, S < 256 → (List.range 8).all (fun i => !fbN S i) = true → S = 0 := by decide +kernel
theorem lk64 : ∀ l, l < 8 → ∀ b, b < 8 → ((nI l * 8) + nI b).toNatClampNeg = 8 * l + b ∧ ((8 : Int32) * nI l + nI b).toNatClampNeg = 8 * l + b := by decide +kernel
theorem ls64 : ∀ l, l < 8 → ∀ b, b < 8 → ¬ ((nI l * 8) + nI b < 0) ∧ ¬ ((8 : Int32) * nI l + nI b < 0) := by decide +kernel
theorem ln64 {l b : Nat} (hl : l < 8) (hb : b < 8) : (64 ≤ 8 * l + b) = False := eq_false (by omega)
theorem nor (x y : Int32) : ~~~(x ||| y) = ~~~x &&& ~~~y := by
  apply Int32.toBitVec_inj.mp
  simp [BitVec.not_or]
theorem fb_hi {S H i : Nat} (h : S < 2 ^ H) (hi : H ≤ i) : fbN S i = false := by
  rw [fb_bit]
  exact Nat.testBit_lt_two_pow (Nat.lt_of_lt_of_le h (Nat.pow_le_pow_right (by omega) hi))
theorem m_leastOf {n S : Nat} (hn : 3000 ≤ n) (hS : S < 256) (h0 : 0 < S) : f_X6_leastOf n (nI S) = some (nI (lo S)) := by
  obtain ⟨h1, h2, h3⟩ := lo_ok S hS h0
  obtain ⟨_, _, g⟩ := loop_inv (fun j i (_ : Unit) => L_X6_leastOf_2 n (nI S) j i) (fun _ => some (nI (lo S))) (lo S) 0 (fun _ _ => True) (s0 := ()) (by omega) trivial (fun k _ _ hk _ => by
    refine ⟨(), trivial, fun j => ?_⟩
    show L_X6_leastOf_2 n (nI S) (j + 1) (nI k) = L_X6_leastOf_2 n (nI S) j (nI (k + 1))
    rw [L_X6_leastOf_2, p_hasM, bit256 S hS k (by omega), h3 k hk, nI_1]
    rfl) (fun j _ _ => by
    show L_X6_leastOf_2 n (nI S) (j + 1) (nI (lo S)) = _
    rw [L_X6_leastOf_2, p_hasM, bit256 S hS (lo S) h1, h2]
    rfl)
  exact g n (by omega)
/-- liking of the least one of a set with another, and of those left -/
def li (a : St) (T : Nat → Int32) (S k : Nat) : Int32 := a 8 (8 * lo S + k) + T (rm (rm S (lo S)) k)
/-- the best of those looked at: m more than the least one -/
def mx (a : St) (T : Nat → Int32) (S : Nat) : Nat → Int32
  | 0 => if nI (pcn S 8) - nI (pcn S 8) / 2 * 2 = 1 then T (rm S (lo S)) else -1
  | m + 1 => if fbN S (lo S + 1 + m) = true then (if mx a T S m < li a T S (lo S + 1 + m) then li a T S (lo S + 1 + m) else mx a T S m) else mx a T S m
/-- a table of the best: no less than nothing -/
def TB (T : Nat → Int32) (N : Nat) : Prop := ∀ S, S < N → ∃ v, v ≤ 9 * S ∧ T S = nI v
theorem x_liking {a s : St} {H Dn F S k : Nat} {T : Nat → Int32} (hW : WT a H Dn F) (h8 : s 8 = a 8) (hT : ∀ R, R < S → s 37 R = T R) (hS : S < 256) (h0 : 0 < S) (hk : k < 8) (_hl : lo S < k) : f_X5_likingWith (nI (lo S)) (nI k) (nI (rm S (lo S))) s = some (li a T S k) := by
  obtain ⟨h1, h2, h3⟩ := lo_ok S hS h0
  have hr := rm_lt h2 h0
  have hr2 := rm_le (rm S (lo S)) k
  unfold f_X5_likingWith li
  simp only [xm1, rm_I (rm S (lo S)) (by omega) k hk, (lk64 (lo S) h1 k hk).1, eq_false (ls64 (lo S) h1 k hk).1, ln64 h1 hk, or_self, if_false, cl (show rm (rm S (lo S)) k < 100000 by omega), gj (show rm (rm S (lo S)) k < 256 by omega) (show 256 ≤ 100000 by omega), h8, hT (rm (rm S (lo S)) k) (by omega)]
theorem m_with {a t : St} {H Dn F S k n : Nat} {T : Nat → Int32} (hn : 3000 ≤ n) (hR : RT a t H Dn F) (hT : ∀ R, R < S → t 12 R = T R) (hS : S < 256) (h0 : 0 < S) (hk : k < 8) (hl : lo S ≤ k) : f_X6_withOf n (nI S) (nI (lo S)) (nI k) t = some (if k = lo S then (if nI (pcn S 8) - nI (pcn S 8) / 2 * 2 = 1 then T (rm S (lo S)) else -1) else if fbN S k = true then li a T S k else -1) := by
  obtain ⟨h1, h2, h3⟩ := lo_ok S hS h0
  have hr := rm_lt h2 h0
  have hr2 := rm_le (rm S (lo S)) k
  have e7 := (hR.2.2.2.2.1 (8 * lo S + k) (by omega)).1
  have ea : nI S &&& ~~~(((1 : Int32) <<< (nI (lo S) &&& 31)) ||| ((1 : Int32) <<< (nI k &&& 31))) = nI (rm (rm S (lo S)) k) := by
    rw [nor, ← Int32.and_assoc, rm_I S hS (lo S) h1, rm_I _ (by omega) k hk]
  unfold f_X6_withOf li
  by_cases c : k = lo S
  · subst c
    have ei : rm (rm S (lo S)) (lo S) = rm S (lo S) := by
      show rm S (lo S) - (if fbN (rm S (lo S)) (lo S) = true then 2 ^ lo S else 0) = _
      rw [rm_bit S hS (lo S) h1 (lo S) h1]
      simp
    rw [ei] at ea
    simp only [if_true, xm1, ea, m_bits (n := n) (by omega) hS, Option.bind_some, cl (show rm S (lo S) < 100000 by omega), gj (show rm S (lo S) < 256 by omega) (show 256 ≤ 100000 by omega), if_false, hT _ hr, Int32.zero_add]
    split <;> rfl
  · simp only [eqI (show lo S < 100000 by omega) (show k < 100000 by omega), show ¬ lo S = k from fun e => c e.symm, c, if_false, p_hasM, bit256 S hS k hk, xm1, ea, cl (show rm (rm S (lo S)) k < 100000 by omega), gj (show rm (rm S (lo S)) k < 256 by omega) (show 256 ≤ 100000 by omega), (lk64 (lo S) h1 k hk).2, eq_false (ls64 (lo S) h1 k hk).2, ln64 h1 hk, or_self, e7, hT (rm (rm S (lo S)) k) (by omega), Option.bind_some]
    cases fbN S k <;> rfl
theorem mx_ok {a b : St} {H Dn F S : Nat} {T : Nat → Int32} (hR : RT a b H Dn F) (hT : TB T S) (hS : S < 256) (h0 : 0 < S) : ∀ m, lo S + 1 + m ≤ 8 → (mx a T S m = -1 ∧ ¬ nI (pcn S 8) - nI (pcn S 8) / 2 * 2 = 1 ∧ ∀ i, lo S < i → i < lo S + 1 + m → fbN S i = false) ∨ ∃ v, v ≤ 9 * S ∧ mx a T S m = nI v
  | 0, _ => by
    obtain ⟨h1, h2, h3⟩ := lo_ok S hS h0
    have hr := rm_lt h2 h0
    unfold mx
    by_cases c : nI (pcn S 8) - nI (pcn S 8) / 2 * 2 = 1
    · obtain ⟨v, v1, v2⟩ := hT _ hr
      rw [if_pos c]
      exact Or.inr ⟨v, by omega, v2⟩
    · rw [if_neg c]
      exact Or.inl ⟨rfl, c, fun i h1 h2 => absurd h1 (by omega)⟩
  | m + 1, hm => by
    obtain ⟨h1, h2, h3⟩ := lo_ok S hS h0
    have hr := rm_lt h2 h0
    have ih := mx_ok hR hT hS h0 m (by omega)
    have hr2 := rm_le (rm S (lo S)) (lo S + 1 + m)
    obtain ⟨l, l1, l2⟩ := (hR.2.2.2.2.1 (8 * lo S + (lo S + 1 + m)) (by omega)).2
    obtain ⟨v, v1, v2⟩ := hT (rm (rm S (lo S)) (lo S + 1 + m)) (by omega)
    have el : li a T S (lo S + 1 + m) = nI (l + v) := by
      unfold li
      rw [l2, v2, nI_add]
    show ((if fbN S (lo S + 1 + m) = true then (if mx a T S m < li a T S (lo S + 1 + m) then li a T S (lo S + 1 + m) else mx a T S m) else mx a T S m) = -1 ∧ _) ∨ ∃ v, v ≤ 9 * S ∧ (if fbN S (lo S + 1 + m) = true then (if mx a T S m < li a T S (lo S + 1 + m) then li a T S (lo S + 1 + m) else mx a T S m) else mx a T S m) = nI v
    by_cases c : fbN S (lo S + 1 + m) = true
    · rw [if_pos c]
      refine Or.inr ?_
      rcases ih with ⟨q1, -, -⟩ | ⟨w, w1, w2⟩
      · rw [q1, el, if_pos (by
          rw [i_lt, nI_toInt (by omega), show (-1 : Int32).toInt = -1 from by decide]
          omega)]
        exact ⟨l + v, by omega, rfl⟩
      · split
        · exact ⟨l + v, by omega, el⟩
        · exact ⟨w, w1, w2⟩
    · rw [if_neg c]
      rcases ih with ⟨q1, q2, q3⟩ | ⟨w, w1, w2⟩
      · refine Or.inl ⟨q1, q2, fun i g1 g2 => ?_⟩
        rcases Nat.lt_or_ge i (lo S + 1 + m) with z | z
        · exact q3 i g1 z
        · rw [show i = lo S + 1 + m by omega]
          exact Bool.eq_false_iff.mpr c
      · exact Or.inr ⟨w, w1, w2⟩
theorem mx_end {a b : St} {H Dn F S : Nat} {T : Nat → Int32} (hR : RT a b H Dn F) (hT : TB T S) (hS : S < 2 ^ H) (h0 : 0 < S) : lo S < H ∧ ∃ v, v ≤ 9 * S ∧ mx a T S (H - (lo S + 1)) = nI v := by
  have hH := hR.1.2.1
  have h256 := p2_256 hH
  obtain ⟨h1, h2, h3⟩ := lo_ok S (by omega) h0
  have hl : lo S < H := by
    rcases Nat.lt_or_ge (lo S) H with q | q
    · exact q
    · rw [fb_hi hS q] at h2
      exact absurd h2 (by decide)
  refine ⟨hl, ?_⟩
  rcases mx_ok hR hT (by omega) h0 (H - (lo S + 1)) (by omega) with ⟨q1, q2, q3⟩ | q
  · exfalso
    rcases more2 S (by omega) h0 with z | z
    · exact q2 z
    · obtain ⟨i, i1, i2⟩ := List.any_eq_true.mp z
      rw [Bool.and_eq_true, decide_eq_true_eq] at i2
      rcases Nat.lt_or_ge i H with y | y
      · rw [q3 i i2.1 (by omega)] at i2
        exact absurd i2.2 (by decide)
      · rw [fb_hi hS y] at i2
        exact absurd i2.2 (by decide)
  · exact q
theorem likings {a b : St} {H Dn F n : Nat} (hn : 3000 ≤ n) (hR : RT a b H Dn F) : ∃ a1 b1, f_X5_likeBest n a = some a1 ∧ f_X6_layBests n b = some b1 ∧ (∀ i, i ≠ 37 → a1 i = a i) ∧ (∀ i, i ≠ 12 → b1 i = b i) ∧ (∀ S, S < 2 ^ H → a1 37 S = b1 12 S) ∧ TB (a1 37) (2 ^ H) := by
  have hW := WT_of hR
  have hW1 := hW.1
  have h256 := p2_256 hW1.2.1
  have h1H : 1 ≤ 2 ^ H := Nat.two_pow_pos H
  have eP : (1 : Int32) <<< (nI H &&& 31) = nI (2 ^ H) := by
    have := (show ∀ d, d ≤ 8 → (1 : Int32) <<< (nI d &&& 31) = nI (2 ^ d) by decide +kernel)
    exact this H hW1.2.1
  obtain ⟨s1, t1, ⟨p1, p2, p3, p4⟩, g1, g2⟩ := loop_two (fun j i (s : St) => L_X5_likeBest_9 n j i s) (fun s => some s) (fun j i (t : St) => L_X6_layBests_9 n j i t) (fun t => some t) (2 ^ H) 1 (fun k s t => (∀ i, i ≠ 37 → s i = a i) ∧ (∀ i, i ≠ 12 → t i = b i) ∧ (∀ S, S < k → s 37 S = t 12 S) ∧ TB (s 37) k) (s0 := up a 37 0 0) (t0 := up b 12 0 0) h1H ⟨fun i hi => up_n _ _ _ hi, fun i hi => up_n _ _ _ hi, fun S hS => by rw [show S = 0 by omega, up_s, up_s, ud_s, ud_s], fun S hS => by rw [show S = 0 by omega, up_s, ud_s]; exact ⟨0, by omega, rfl⟩⟩ (fun S s t hS0 hS hP => by
    obtain ⟨q1, q2, q3, q4⟩ := hP
    have hS256 : S < 256 := by omega
    obtain ⟨l1, l2, l3⟩ := lo_ok S hS256 hS0
    obtain ⟨lH, v, v1, v2⟩ := mx_end (a := a) (T := s 37) hR q4 hS hS0
    have hr := rm_lt l2 hS0
    have hRt : RT a t H Dn F := RT_fr hR (fun _ _ => rfl) (fun i hi => q2 i (by omega)) (by rw [q2 0 (by omega)]) (by rw [q2 0 (by omega)])
    have e5 : s 5 0 = nI H := by rw [q1 5 (by omega)]; exact hW.2.1.1
    have e6 : t 0 6 = nI H := by rw [q2 0 (by omega)]; exact hR.2.1.2.1
    refine ⟨up s 37 S (nI v), up t 12 S (nI v), ⟨fun i hi => by rw [up_n _ _ _ hi]; exact q1 i hi, fun i hi => by rw [up_n _ _ _ hi]; exact q2 i hi, fun R hR2 => ?_, fun R hR2 => ?_⟩, fun j => ?_, fun j => ?_⟩
    · rw [up_s, up_s]
      by_cases e : R = S
      · rw [e, ud_s, ud_s]
      · rw [ud_n _ _ e, ud_n _ _ e]
        exact q3 R (by omega)
    · rw [up_s]
      by_cases e : R = S
      · rw [e, ud_s]
        exact ⟨v, v1, rfl⟩
      · rw [ud_n _ _ e]
        exact q4 R (by omega)
    · show L_X5_likeBest_9 n (j + 1) (nI S) s = L_X5_likeBest_9 n j (nI (S + 1)) _
      rw [L_X5_likeBest_9, if_neg (by rw [e5, eP, leI (by omega) (by omega)]; omega), ntz S hS256 hS0, x_bitCount S hS256]
      simp only [Option.bind_some, xm1, rm_I S hS256 (lo S) l1, cl (show rm S (lo S) < 100000 by omega), gj (show rm S (lo S) < 256 by omega) (show 256 ≤ 100000 by omega), if_false, nI_1]
      obtain ⟨z, z1, z2⟩ := loop_inv (fun i c (x : Int32) => L_X5_likeBest_62 n (L_X5_likeBest_9 n j) (nI S) (nI (lo S)) (nI (rm S (lo S))) i x c s) (fun x => B_X5_likeBest_104 n (L_X5_likeBest_9 n j) (nI S) x s) H (lo S + 1) (fun k x => x = mx a (s 37) S (k - (lo S + 1))) (s0 := mx a (s 37) S 0) (by omega) (by rw [Nat.sub_self]) (fun k x hk1 hk2 hx => by
        refine ⟨mx a (s 37) S (k - (lo S + 1) + 1), by rw [show k + 1 - (lo S + 1) = k - (lo S + 1) + 1 by omega], fun i => ?_⟩
        show L_X5_likeBest_62 n (L_X5_likeBest_9 n j) (nI S) (nI (lo S)) (nI (rm S (lo S))) (i + 1) x (nI k) s = L_X5_likeBest_62 n (L_X5_likeBest_9 n j) (nI S) (nI (lo S)) (nI (rm S (lo S))) i (if fbN S (lo S + 1 + (k - (lo S + 1))) = true then (if mx a (s 37) S (k - (lo S + 1)) < li a (s 37) S (lo S + 1 + (k - (lo S + 1))) then li a (s 37) S (lo S + 1 + (k - (lo S + 1))) else mx a (s 37) S (k - (lo S + 1))) else mx a (s 37) S (k - (lo S + 1))) (nI (k + 1)) s
        rw [show lo S + 1 + (k - (lo S + 1)) = k by omega, L_X5_likeBest_62, if_neg (by rw [e5, leI (by omega) (by omega)]; omega), p_hasX, bit256 _ (by omega) k (by omega), rm_bit S hS256 (lo S) l1 k (by omega), decide_eq_false (show ¬ k = lo S by omega), hx]
        cases c : fbN S k
        · rw [nI_1]
          rfl
        · rw [x_liking hW (q1 8 (by omega)) (fun _ _ => rfl) hS256 hS0 (by omega) (by omega), nI_1]
          rfl) (fun i x hx => by
        show L_X5_likeBest_62 n (L_X5_likeBest_9 n j) (nI S) (nI (lo S)) (nI (rm S (lo S))) (i + 1) x (nI H) s = _
        rw [L_X5_likeBest_62, if_pos (by rw [e5, leI (by omega) (by omega)]; omega)])
      have z3 : L_X5_likeBest_62 n (L_X5_likeBest_9 n j) (nI S) (nI (lo S)) (nI (rm S (lo S))) n (mx a (s 37) S 0) (nI (lo S + 1)) s = B_X5_likeBest_104 n (L_X5_likeBest_9 n j) (nI S) z s := z2 n (by omega)
      rw [z1, v2] at z3
      have z4 : B_X5_likeBest_104 n (L_X5_likeBest_9 n j) (nI S) (nI v) s = L_X5_likeBest_9 n j (nI (S + 1)) (up s 37 S (nI v)) := by
        unfold B_X5_likeBest_104
        simp only [cl (show S < 100000 by omega), gj hS256 (show 256 ≤ 100000 by omega), if_false, nI_1]
      rw [z4] at z3
      rw [← z3]
      unfold mx
      split
      · rfl
      · rfl
    · show L_X6_layBests_9 n (j + 1) (nI S) t = L_X6_layBests_9 n j (nI (S + 1)) _
      rw [L_X6_layBests_9, if_neg (by rw [e6, eP, leI (by omega) (by omega)]; omega), m_leastOf hn hS256 hS0]
      simp only [Option.bind_some]
      have hw := fun k hk hl => m_with (n := n) (k := k) (T := s 37) hn hRt (fun R hR2 => (q3 R hR2).symm) hS256 hS0 hk hl
      obtain ⟨z, z1, z2⟩ := loop_inv (fun i c (x : Int32) => L_X6_layBests_29 n (L_X6_layBests_9 n j) (nI S) (nI (lo S)) i x c t) (fun x => B_X6_layBests_67 n (L_X6_layBests_9 n j) (nI S) x t) H (lo S) (fun k x => x = if k = lo S then -1 else mx a (s 37) S (k - (lo S + 1))) (s0 := -1) (by omega) (by rw [if_pos rfl]) (fun k x hk1 hk2 hx => by
        refine ⟨mx a (s 37) S (k + 1 - (lo S + 1)), by rw [if_neg (by omega)], fun i => ?_⟩
        show L_X6_layBests_29 n (L_X6_layBests_9 n j) (nI S) (nI (lo S)) (i + 1) x (nI k) t = L_X6_layBests_29 n (L_X6_layBests_9 n j) (nI S) (nI (lo S)) i (mx a (s 37) S (k + 1 - (lo S + 1))) (nI (k + 1)) t
        rw [L_X6_layBests_29, if_neg (by rw [e6, leI (by omega) (by omega)]; omega), hw k (by omega) hk1, hx]
        simp only [Option.bind_some, nI_1]
        by_cases c : k = lo S
        · rw [if_pos c, if_pos c, c, Nat.sub_self]
          unfold mx
          by_cases c2 : nI (pcn S 8) - nI (pcn S 8) / 2 * 2 = 1
          · rw [if_pos c2]
            obtain ⟨w, w1, w2⟩ := q4 _ hr
            rw [w2, if_neg (by rw [i_le, nI_toInt (by omega), show (-1 : Int32).toInt = -1 from by decide]; omega)]
          · rw [if_neg c2, if_pos (by decide)]
        · rw [if_neg c, if_neg c, show k + 1 - (lo S + 1) = k - (lo S + 1) + 1 by omega]
          show _ = L_X6_layBests_29 n (L_X6_layBests_9 n j) (nI S) (nI (lo S)) i (if fbN S (lo S + 1 + (k - (lo S + 1))) = true then (if mx a (s 37) S (k - (lo S + 1)) < li a (s 37) S (lo S + 1 + (k - (lo S + 1))) then li a (s 37) S (lo S + 1 + (k - (lo S + 1))) else mx a (s 37) S (k - (lo S + 1))) else mx a (s 37) S (k - (lo S + 1))) (nI (k + 1)) t
          rw [show lo S + 1 + (k - (lo S + 1)) = k by omega]
          have hmx := mx_ok (a := a) (T := s 37) hR q4 hS256 hS0 (k - (lo S + 1)) (by omega)
          by_cases c3 : fbN S k = true
          · rw [if_pos c3, if_pos c3]
            by_cases c4 : mx a (s 37) S (k - (lo S + 1)) < li a (s 37) S k
            · rw [if_pos c4, if_neg (by rw [i_lt] at c4; rw [i_le]; omega)]
            · rw [if_neg c4, if_pos (by rw [i_lt] at c4; rw [i_le]; omega)]
          · rw [if_neg c3, if_neg c3, if_pos (by
              rcases hmx with ⟨w, -, -⟩ | ⟨w, w1, w2⟩
              · rw [w]
                decide
              · rw [w2, i_le, nI_toInt (by omega), show (-1 : Int32).toInt = -1 from by decide]
                omega)]) (fun i x hx => by
        show L_X6_layBests_29 n (L_X6_layBests_9 n j) (nI S) (nI (lo S)) (i + 1) x (nI H) t = _
        rw [L_X6_layBests_29, if_pos (by rw [e6, leI (by omega) (by omega)]; omega)])
      have z3 : L_X6_layBests_29 n (L_X6_layBests_9 n j) (nI S) (nI (lo S)) n (-1) (nI (lo S)) t = B_X6_layBests_67 n (L_X6_layBests_9 n j) (nI S) z t := z2 n (by omega)
      rw [z1, if_neg (by omega), v2] at z3
      rw [z3]
      unfold B_X6_layBests_67
      simp only [cl (show S < 100000 by omega), gj hS256 (show 256 ≤ 100000 by omega), if_false, nI_1]) (fun j s t hP => by
    show L_X5_likeBest_9 n (j + 1) (nI (2 ^ H)) s = some s
    rw [L_X5_likeBest_9, if_pos (by rw [hP.1 5 (by omega), hW.2.1.1, eP, leI (by omega) (by omega)]; omega)]) (fun j s t hP => by
    show L_X6_layBests_9 n (j + 1) (nI (2 ^ H)) t = some t
    rw [L_X6_layBests_9, if_pos (by rw [hP.2.1 0 (by omega), hR.2.1.2.1, eP, leI (by omega) (by omega)]; omega)])
  exact ⟨s1, t1, g1 n (by omega), g2 n (by omega), p1, p2, p3, p4⟩
