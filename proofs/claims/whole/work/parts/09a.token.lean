/-! ===== tokens of a text, as both read them ===== -/
/-- 1 a letter, 2 a digit, 0 all else -/
def srt (c : Nat) : Nat := if 97 ≤ c ∧ c ≤ 122 then 1 else if 48 ≤ c ∧ c ≤ 57 then 2 else 0
def sxt (c : Nat) : Nat := if srt c = 1 then 0 else if srt c = 2 then 1 else 2
theorem x_sort : ∀ c, c < 256 → f_X2_sortOf (nI c) = some (nI (sxt c)) := by decide +kernel
theorem m_sort : ∀ c, c < 256 → f_X6_sort (nI c) = some (nI (srt c)) := by decide +kernel
theorem srt_le (c : Nat) : srt c ≤ 2 := by
  unfold srt
  split
  · omega
  · split <;> omega
theorem sxt_le (c : Nat) : sxt c ≤ 2 := by
  unfold sxt
  split
  · omega
  · split <;> omega
theorem sxt_eq (c d : Nat) : (sxt c = sxt d) = (srt c = srt d) := by
  have h1 := srt_le c
  have h2 := srt_le d
  unfold sxt
  rcases (show srt c = 0 ∨ srt c = 1 ∨ srt c = 2 by omega) with e | e | e <;> rcases (show srt d = 0 ∨ srt d = 1 ∨ srt d = 2 by omega) with f | f | f <;> rw [e, f] <;> simp
theorem sxt_2 (c : Nat) : (sxt c = 2) = (srt c = 0) := by
  have h1 := srt_le c
  unfold sxt
  rcases (show srt c = 0 ∨ srt c = 1 ∨ srt c = 2 by omega) with e | e | e <;> rw [e] <;> simp
/-- the token that is read from e on: from p to ahead of q -/
def IsTok (len : Nat) (cs : Nat → Nat) (e p q : Nat) : Prop := (e ≤ p ∧ p ≤ len ∧ (∀ i, e ≤ i → i < p → cs i = 32) ∧ (p < len → cs p ≠ 32)) ∧ ((p = len ∧ q = len) ∨ (p < len ∧ p < q ∧ q ≤ len ∧ (∀ i, p < i → i < q → srt (cs p) ≠ 0 ∧ srt (cs i) = srt (cs p)) ∧ (q < len → srt (cs p) = 0 ∨ srt (cs q) ≠ srt (cs p))))
theorem tokEx {len : Nat} (cs : Nat → Nat) {e : Nat} (he : e ≤ len) : ∃ p q, IsTok len cs e p q := by
  obtain ⟨p, ⟨p1, p2⟩, p3⟩ := pk_least (fun p => e ≤ p ∧ (p = len ∨ cs p ≠ 32)) ⟨len, he, Or.inl rfl⟩
  have hp : p ≤ len := by
    rcases Nat.lt_or_ge len p with q | q
    · exact absurd ⟨he, Or.inl rfl⟩ (p3 len q)
    · exact q
  have hA : e ≤ p ∧ p ≤ len ∧ (∀ i, e ≤ i → i < p → cs i = 32) ∧ (p < len → cs p ≠ 32) := ⟨p1, hp, fun i h1 h2 => by
    by_cases c : cs i = 32
    · exact c
    · exact absurd ⟨h1, Or.inr c⟩ (p3 i h2), fun h => by
    rcases p2 with q | q
    · omega
    · exact q⟩
  rcases Nat.lt_or_ge p len with h | h
  · obtain ⟨q, ⟨q1, q2⟩, q3⟩ := pk_least (fun q => p < q ∧ (q = len ∨ srt (cs p) = 0 ∨ srt (cs q) ≠ srt (cs p))) ⟨len, h, Or.inl rfl⟩
    refine ⟨p, q, hA, Or.inr ⟨h, q1, ?_, fun i h1 h2 => ?_, fun h1 => ?_⟩⟩
    · rcases Nat.lt_or_ge len q with z | z
      · exact absurd ⟨h, Or.inl rfl⟩ (q3 len z)
      · exact z
    · have z := q3 i h2
      refine ⟨fun c => z ⟨h1, Or.inr (Or.inl c)⟩, ?_⟩
      by_cases c : srt (cs i) = srt (cs p)
      · exact c
      · exact absurd ⟨h1, Or.inr (Or.inr c)⟩ z
    · rcases q2 with z | z
      · omega
      · exact z
  · exact ⟨p, len, hA, Or.inl ⟨by omega, rfl⟩⟩
/-- a text: its length, its bytes, in a row -/
def XT (s : St) (len : Nat) (cs : Nat → Nat) : Prop := s 1 1 = nI len ∧ ∀ i, i < len → s 2 i = nI (cs i)
def MT (u : St) (len : Nat) (cs : Nat → Nat) : Prop := u 0 3 = nI len ∧ ∀ i, i < len → u 3 i = nI (cs i)
theorem x_token {s : St} {len : Nat} {cs : Nat → Nat} {e p q n : Nat} (hn : 3000 ≤ n) (hl : len ≤ 200) (hc : ∀ i, i < len → cs i < 256) (hT : XT s len cs) (he : s 1 3 = nI e) (hI : IsTok len cs e p q) : ∃ s1, f_X2_readToken n s = some s1 ∧ (∀ i, i ≠ 1 → s1 i = s i) ∧ (∀ k, k ≠ 2 → k ≠ 3 → s1 1 k = s 1 k) ∧ s1 1 2 = nI p ∧ s1 1 3 = nI q := by
  obtain ⟨⟨i1, i2, i3, i4⟩, i5⟩ := hI
  obtain ⟨s1, ⟨p1, p2, p3⟩, g⟩ := loop_inv (fun j _ (t : St) => L_X2_readToken_8 n j t) (fun t => B_X2_readToken_46 n t) p e (fun k t => (∀ i, i ≠ 1 → t i = s i) ∧ (∀ m, m ≠ 2 → t 1 m = s 1 m) ∧ t 1 2 = nI k) (s0 := up s 1 2 (s 1 3)) i1 ⟨fun i hi => up_n _ _ _ hi, fun m hm => by rw [up_s, ud_n _ _ hm], by rw [up_s, ud_s, he]⟩ (fun k t hk1 hk2 hP => by
    obtain ⟨q1, q2, q3⟩ := hP
    refine ⟨up t 1 2 (nI (k + 1)), ⟨fun i hi => by rw [up_n _ _ _ hi]; exact q1 i hi, fun m hm => by rw [up_s, ud_n _ _ hm]; exact q2 m hm, by rw [up_s, ud_s]⟩, fun j => ?_⟩
    show L_X2_readToken_8 n (j + 1) t = L_X2_readToken_8 n j _
    rw [L_X2_readToken_8, q2 1 (by omega), hT.1, q3, if_neg (by rw [leI (by omega) (by omega)]; omega)]
    simp only [cl (show k < 100000 by omega), gj (show k < 200 by omega) (show 200 ≤ 100000 by omega), if_false, q1 2 (by omega), hT.2 k (by omega), i3 k hk1 hk2, nI_1]
    rw [if_pos (by decide)]) (fun j t hP => by
    obtain ⟨q1, q2, q3⟩ := hP
    show L_X2_readToken_8 n (j + 1) t = _
    rw [L_X2_readToken_8, q2 1 (by omega), hT.1, q3]
    by_cases c : p = len
    · rw [if_pos (by rw [leI (by omega) (by omega)]; omega)]
    · rw [if_neg (by rw [leI (by omega) (by omega)]; omega)]
      simp only [cl (show p < 100000 by omega), gj (show p < 200 by omega) (show 200 ≤ 100000 by omega), if_false, q1 2 (by omega), hT.2 p (by omega)]
      rw [if_neg (fun z => i4 (by omega) (by
        rw [show (32 : Int32) = nI 32 from rfl, eqI (by have := hc p (by omega); omega) (by omega)] at z
        exact z))])
  have hg : f_X2_readToken n s = B_X2_readToken_46 n s1 := by
    unfold f_X2_readToken
    exact g n (by omega)
  rw [hg]
  unfold B_X2_readToken_46
  have e12 : (up s1 1 3 (s1 1 2)) 1 2 = nI p := by rw [up_s, ud_n _ _ (by omega)]; exact p3
  have e11 : (up s1 1 3 (s1 1 2)) 1 1 = nI len := by rw [up_s, ud_n _ _ (by omega), p2 1 (by omega)]; exact hT.1
  have e13 : (up s1 1 3 (s1 1 2)) 1 3 = nI p := by rw [up_s, ud_s]; exact p3
  have e2 : ∀ i, (up s1 1 3 (s1 1 2)) 2 i = s 2 i := fun i => by rw [up_n _ _ _ (by omega), p1 2 (by omega)]
  have fr : ∀ i, i ≠ 1 → (up s1 1 3 (s1 1 2)) i = s i := fun i hi => by rw [up_n _ _ _ hi]; exact p1 i hi
  have fr1 : ∀ k, k ≠ 2 → k ≠ 3 → (up s1 1 3 (s1 1 2)) 1 k = s 1 k := fun k h1 h2 => by rw [up_s, ud_n _ _ h2]; exact p2 k h1
  generalize up s1 1 3 (s1 1 2) = t at e12 e11 e13 e2 fr fr1
  rw [e12, e11]
  rcases i5 with ⟨c, c2⟩ | ⟨c, c1, c2, c3, c4⟩
  · rw [if_pos (by rw [c])]
    exact ⟨t, rfl, fr, fr1, e12, by rw [e13, c, c2]⟩
  · rw [if_neg (by rw [eqI (by omega) (by omega)]; omega)]
    simp only [cl (show p < 100000 by omega), gj (show p < 200 by omega) (show 200 ≤ 100000 by omega), if_false, e2, hT.2 p c, x_sort (cs p) (hc p c), Option.bind_some, e13, nI_1]
    have hs2 := sxt_le (cs p)
    obtain ⟨s2, ⟨r1, r2, r3⟩, g2⟩ := loop_inv (fun j _ (t : St) => L_X2_readToken_89 n (nI (sxt (cs p))) j t) (fun t => some t) q (p + 1) (fun k v => (∀ i, i ≠ 1 → v i = t i) ∧ (∀ m, m ≠ 3 → v 1 m = t 1 m) ∧ v 1 3 = nI k) (s0 := up t 1 3 (nI (p + 1))) (by omega) ⟨fun i hi => up_n _ _ _ hi, fun m hm => by rw [up_s, ud_n _ _ hm], by rw [up_s, ud_s]⟩ (fun k v hk1 hk2 hP => by
      obtain ⟨q1, q2, q3⟩ := hP
      obtain ⟨d1, d2⟩ := c3 k (by omega) hk2
      refine ⟨up v 1 3 (nI (k + 1)), ⟨fun i hi => by rw [up_n _ _ _ hi]; exact q1 i hi, fun m hm => by rw [up_s, ud_n _ _ hm]; exact q2 m hm, by rw [up_s, ud_s]⟩, fun j => ?_⟩
      show L_X2_readToken_89 n (nI (sxt (cs p))) (j + 1) v = L_X2_readToken_89 n (nI (sxt (cs p))) j _
      have hk3 := sxt_le (cs k)
      rw [L_X2_readToken_89, if_neg (by rw [show (2 : Int32) = nI 2 from rfl, eqI (by omega) (by omega), sxt_2]; exact d1), q2 1 (by omega), e11, q3, if_neg (by rw [leI (by omega) (by omega)]; omega)]
      simp only [cl (show k < 100000 by omega), gj (show k < 200 by omega) (show 200 ≤ 100000 by omega), if_false, q1 2 (by omega), e2, hT.2 k (by omega), x_sort (cs k) (hc k (by omega)), Option.bind_some, eqI (show sxt (cs k) < 100000 by omega) (show sxt (cs p) < 100000 by omega), sxt_eq, d2, if_true, nI_1]) (fun j v hP => by
      obtain ⟨q1, q2, q3⟩ := hP
      show L_X2_readToken_89 n (nI (sxt (cs p))) (j + 1) v = some v
      rw [L_X2_readToken_89]
      by_cases z0 : srt (cs p) = 0
      · rw [if_pos (by rw [show (2 : Int32) = nI 2 from rfl, eqI (by omega) (by omega), sxt_2]; exact z0)]
      · rw [if_neg (by rw [show (2 : Int32) = nI 2 from rfl, eqI (by omega) (by omega), sxt_2]; exact z0), q2 1 (by omega), e11, q3]
        by_cases z1 : q = len
        · rw [if_pos (by rw [leI (by omega) (by omega)]; omega)]
        · have hk3 := sxt_le (cs q)
          rw [if_neg (by rw [leI (by omega) (by omega)]; omega)]
          simp only [cl (show q < 100000 by omega), gj (show q < 200 by omega) (show 200 ≤ 100000 by omega), if_false, q1 2 (by omega), e2, hT.2 q (by omega), x_sort (cs q) (hc q (by omega)), Option.bind_some, eqI (show sxt (cs q) < 100000 by omega) (show sxt (cs p) < 100000 by omega), sxt_eq]
          rw [if_neg (by
            rcases c4 (by omega) with y | y
            · exact absurd y z0
            · exact y)])
    exact ⟨s2, g2 n (by omega), fun i hi => by rw [r1 i hi, fr i hi], fun k h1 h2 => by rw [r2 k h2, fr1 k h1 h2], by rw [r2 2 (by omega), e12], r3⟩
theorem m_token {u : St} {len : Nat} {cs : Nat → Nat} {e p q n : Nat} (hn : 3000 ≤ n) (hl : len ≤ 200) (hc : ∀ i, i < len → cs i < 256) (hT : MT u len cs) (he : u 0 12 = nI e) (hI : IsTok len cs e p q) : ∃ u1, f_X6_token n u = some u1 ∧ (∀ i, i ≠ 0 → u1 i = u i) ∧ (∀ k, k ≠ 12 → k ≠ 13 → k ≠ 14 → u1 0 k = u 0 k) ∧ u1 0 13 = nI p ∧ u1 0 12 = nI q ∧ u1 0 14 = nI q := by
  obtain ⟨⟨i1, i2, i3, i4⟩, i5⟩ := hI
  obtain ⟨s1, ⟨p1, p2, p3⟩, g⟩ := loop_inv (fun j _ (t : St) => L_X6_token_0 n j t) (fun t => B_X6_token_38 n t) p e (fun k t => (∀ i, i ≠ 0 → t i = u i) ∧ (∀ m, m ≠ 12 → t 0 m = u 0 m) ∧ t 0 12 = nI k) (s0 := u) i1 ⟨fun _ _ => rfl, fun _ _ => rfl, he⟩ (fun k t hk1 hk2 hP => by
    obtain ⟨q1, q2, q3⟩ := hP
    refine ⟨up t 0 12 (nI (k + 1)), ⟨fun i hi => by rw [up_n _ _ _ hi]; exact q1 i hi, fun m hm => by rw [up_s, ud_n _ _ hm]; exact q2 m hm, by rw [up_s, ud_s]⟩, fun j => ?_⟩
    show L_X6_token_0 n (j + 1) t = L_X6_token_0 n j _
    rw [L_X6_token_0, q2 3 (by omega), hT.1, q3, if_neg (by rw [leI (by omega) (by omega)]; omega)]
    simp only [cl (show k < 100000 by omega), gj (show k < 200 by omega) (show 200 ≤ 100000 by omega), if_false, q1 3 (by omega), hT.2 k (by omega), i3 k hk1 hk2, nI_1]
    rw [if_pos (by decide)]) (fun j t hP => by
    obtain ⟨q1, q2, q3⟩ := hP
    show L_X6_token_0 n (j + 1) t = _
    rw [L_X6_token_0, q2 3 (by omega), hT.1, q3]
    by_cases c : p = len
    · rw [if_pos (by rw [leI (by omega) (by omega)]; omega)]
    · rw [if_neg (by rw [leI (by omega) (by omega)]; omega)]
      simp only [cl (show p < 100000 by omega), gj (show p < 200 by omega) (show 200 ≤ 100000 by omega), if_false, q1 3 (by omega), hT.2 p (by omega)]
      rw [if_neg (fun z => i4 (by omega) (by
        rw [show (32 : Int32) = nI 32 from rfl, eqI (by have := hc p (by omega); omega) (by omega)] at z
        exact z))])
  have hg : f_X6_token n u = B_X6_token_38 n s1 := by
    unfold f_X6_token
    exact g n (by omega)
  rw [hg]
  unfold B_X6_token_38
  have e12 : (up s1 0 13 (s1 0 12)) 0 12 = nI p := by rw [up_s, ud_n _ _ (by omega)]; exact p3
  have e3 : (up s1 0 13 (s1 0 12)) 0 3 = nI len := by rw [up_s, ud_n _ _ (by omega), p2 3 (by omega)]; exact hT.1
  have e13 : (up s1 0 13 (s1 0 12)) 0 13 = nI p := by rw [up_s, ud_s]; exact p3
  have fr : ∀ i, i ≠ 0 → (up s1 0 13 (s1 0 12)) i = u i := fun i hi => by rw [up_n _ _ _ hi]; exact p1 i hi
  have fr1 : ∀ k, k ≠ 12 → k ≠ 13 → (up s1 0 13 (s1 0 12)) 0 k = u 0 k := fun k h1 h2 => by rw [up_s, ud_n _ _ h2]; exact p2 k h1
  generalize up s1 0 13 (s1 0 12) = t at e12 e3 e13 fr fr1
  rw [e12, e3]
  rcases i5 with ⟨c, c2⟩ | ⟨c, c1, c2, c3, c4⟩
  · rw [if_pos (by rw [leI (by omega) (by omega)]; omega), Int32.add_zero]
    obtain ⟨i, rfl⟩ : ∃ i, n = i + 1 := ⟨n - 1, by omega⟩
    rw [L_X6_token_71, up_s, ud_n _ _ (by omega), ud_s, e3, if_pos (by rw [leI (by omega) (by omega)]; omega)]
    refine ⟨_, rfl, fun i hi => by rw [up_n _ _ _ hi, up_n _ _ _ hi]; exact fr i hi, fun k h1 h2 h3 => by rw [up_s, ud_n _ _ h3, up_s, ud_n _ _ h1]; exact fr1 k h1 h2, by rw [up_s, ud_n _ _ (by omega), up_s, ud_n _ _ (by omega)]; exact e13, by rw [up_s, ud_n _ _ (by omega), up_s, ud_s, c, c2], by rw [up_s, ud_s, c, c2]⟩
  · rw [if_neg (by rw [leI (by omega) (by omega)]; omega), nI_1]
    have hs2 := srt_le (cs p)
    obtain ⟨s2, ⟨r1, r2, r3⟩, g2⟩ := loop_inv (fun j _ (t : St) => L_X6_token_71 n j t) (fun t => some (up t 0 14 (nI q))) q (p + 1) (fun k v => (∀ i, i ≠ 0 → v i = t i) ∧ (∀ m, m ≠ 12 → v 0 m = t 0 m) ∧ v 0 12 = nI k) (s0 := up t 0 12 (nI (p + 1))) (by omega) ⟨fun i hi => up_n _ _ _ hi, fun m hm => by rw [up_s, ud_n _ _ hm], by rw [up_s, ud_s]⟩ (fun k v hk1 hk2 hP => by
      obtain ⟨q1, q2, q3⟩ := hP
      obtain ⟨d1, d2⟩ := c3 k (by omega) hk2
      refine ⟨up v 0 12 (nI (k + 1)), ⟨fun i hi => by rw [up_n _ _ _ hi]; exact q1 i hi, fun m hm => by rw [up_s, ud_n _ _ hm]; exact q2 m hm, by rw [up_s, ud_s]⟩, fun j => ?_⟩
      show L_X6_token_71 n (j + 1) v = L_X6_token_71 n j _
      rw [L_X6_token_71, q2 3 (by omega), e3, q3, if_neg (by rw [leI (by omega) (by omega)]; omega)]
      simp only [cl (show k < 100000 by omega), gj (show k < 200 by omega) (show 200 ≤ 100000 by omega), cl (show p < 100000 by omega), gj (show p < 200 by omega) (show 200 ≤ 100000 by omega), if_false, q2 13 (by omega), e13, q1 3 (by omega), fr 3 (by omega), hT.2 k (by omega), hT.2 p c, m_sort (cs k) (hc k (by omega)), m_sort (cs p) (hc p c), Option.bind_some, d2, if_true, nI_1]
      rw [if_neg (by rw [show (0 : Int32) = nI 0 from rfl, leI (by omega) (by omega)]; omega)]) (fun j v hP => by
      obtain ⟨q1, q2, q3⟩ := hP
      show L_X6_token_71 n (j + 1) v = _
      rw [L_X6_token_71, q2 3 (by omega), e3, q3]
      by_cases z1 : q = len
      · rw [if_pos (by rw [leI (by omega) (by omega)]; omega)]
      · have hk3 := srt_le (cs q)
        rw [if_neg (by rw [leI (by omega) (by omega)]; omega)]
        simp only [cl (show q < 100000 by omega), gj (show q < 200 by omega) (show 200 ≤ 100000 by omega), cl (show p < 100000 by omega), gj (show p < 200 by omega) (show 200 ≤ 100000 by omega), if_false, q2 13 (by omega), e13, q1 3 (by omega), fr 3 (by omega), hT.2 q (by omega), hT.2 p c, m_sort (cs q) (hc q (by omega)), m_sort (cs p) (hc p c), Option.bind_some, eqI (show srt (cs q) < 100000 by omega) (show srt (cs p) < 100000 by omega), show (nI (srt (cs p)) ≤ 0) = (srt (cs p) ≤ 0) from leI (b := 0) (by omega) (by omega)]
        by_cases z0 : srt (cs p) = 0
        · rw [if_pos (by omega)]
        · rw [if_neg (by omega), if_neg (by
            rcases c4 (by omega) with y | y
            · exact absurd y z0
            · exact y)])
    refine ⟨up s2 0 14 (nI q), g2 n (by omega), fun i hi => by rw [up_n _ _ _ hi, r1 i hi, fr i hi], fun k h1 h2 h3 => by rw [up_s, ud_n _ _ h3, r2 k h1, fr1 k h1 h2], by rw [up_s, ud_n _ _ (by omega), r2 13 (by omega)]; exact e13, by rw [up_s, ud_n _ _ (by omega)]; exact r3, by rw [up_s, ud_s]⟩
