/-! ===== words and numbers ===== -/
def wl (w : Nat) : Nat := txN.getD w 0
def wb (w i : Nat) : Int32 := (txB.getD w []).getD i 0
/-- the model's word for X's, its letters in one number -/
def mw (w : Nat) : Nat := if w < 4 then w + 4 else if w < 8 then w - 4 else w
def cw (w : Nat) : Int32 := ([14976400, 139869684, 609505573, 21169731, 676514451, 657967201, 16423, 20332020, 628196, 176265, 175404, 143739366, 24621441] : List Int32).getD w 0
def spP (cs : Nat → Nat) (p q w : Nat) : Prop := q - p = wl w ∧ ∀ i, i < wl w → nI (cs (p + i)) = wb w i
theorem wl_le : ∀ w, w < 21 → wl w ≤ 6 ∧ 0 < wl w := by decide +kernel
theorem cw_ok : ∀ w, w < 13 → ∀ i, i < 6 → i < wl w → (96 : Int32) + ((cw w >>> (((5 : Int32) * nI i) &&& 31)) &&& 31) = wb w i := by decide +kernel
theorem wd_ne : ∀ w, w < 13 → ∀ v, v < 13 → w ≠ v → wl w ≠ wl v ∨ (List.range (wl w)).any (fun i => !decide (wb w i = wb v i)) = true := by decide +kernel
theorem sp_one {cs : Nat → Nat} {p q w v : Nat} (hw : w < 13) (hv : v < 13) (h1 : spP cs p q w) (h2 : spP cs p q v) : w = v := by
  by_cases e : w = v
  · exact e
  · rcases wd_ne w hw v hv e with z | z
    · exact absurd (h1.1.symm.trans h2.1) z
    · obtain ⟨i, i1, i2⟩ := List.any_eq_true.mp z
      rw [Bool.not_eq_true', decide_eq_false_iff_not] at i2
      have i3 : i < wl w := List.mem_range.mp i1
      have e2 : wl w = wl v := h1.1.symm.trans h2.1
      exact absurd ((h1.2 i i3).symm.trans (h2.2 i (by omega))) i2
theorem j_len {w : Nat} (hw : w < 21) : f_J0_length_8abf5 w = some (nI (wl w)) := if_pos hw
theorem j_char {w i : Nat} (hw : w < 21) (hi : i < wl w) : f_J0_charAt_5068e w (nI i) = some (wb w i) := by
  have h6 := (wl_le w hw).1
  unfold f_J0_charAt_5068e
  rw [if_pos hw, cl (by omega), if_neg (by
    rintro (q | q)
    · exact nI_pos (by omega) q
    · exact absurd hi (Nat.not_lt.mpr q))]
  rfl
theorem x_spells {s : St} {len p q w n : Nat} {cs : Nat → Nat} (hn : 3000 ≤ n) (hl : len ≤ 200) (hT : XT s len cs) (hb : s 1 2 = nI p) (he : s 1 3 = nI q) (hpq : p ≤ q) (hq : q ≤ len) (hw : w < 13) : (spP cs p q w → f_X2_spells n w s = some 1) ∧ (¬ spP cs p q w → f_X2_spells n w s = some 0) := by
  have h6 := (wl_le w (by omega)).1
  unfold f_X2_spells
  rw [j_len (by omega), hb, he, pk_sub hpq]
  simp only [Option.bind_some, eqI (show q - p < 100000 by omega) (show wl w < 100000 by omega)]
  by_cases c : q - p = wl w
  · rw [if_pos c]
    have hs := loop_stop (fun j i => L_X2_spells_20 n w s j i) (wl w) 0 (fun _ => some 0) (fun k => ¬ nI (cs (p + k)) = wb w k) (some 1) (by omega) (fun k _ hk => by
      have e : ∀ j, L_X2_spells_20 n w s (j + 1) (nI k) = if nI (cs (p + k)) = wb w k then L_X2_spells_20 n w s j (nI (k + 1)) else some 0 := fun j => by
        rw [L_X2_spells_20, j_len (by omega), hb]
        simp only [Option.bind_some, leI (show wl w < 100000 by omega) (show k < 100000 by omega), nI_add, cl (show p + k < 100000 by omega), gj (show p + k < 200 by omega) (show 200 ≤ 100000 by omega), if_false, j_char (show w < 21 by omega) hk, hT.2 (p + k) (by omega), nI_1]
        rw [if_neg (by omega)]
      by_cases c2 : nI (cs (p + k)) = wb w k
      · exact Or.inr ⟨fun z => z c2, fun j => by show L_X2_spells_20 n w s (j + 1) (nI k) = _; rw [e, if_pos c2]⟩
      · exact Or.inl ⟨c2, fun j => by show L_X2_spells_20 n w s (j + 1) (nI k) = _; rw [e, if_neg c2]⟩) (fun j => by
      show L_X2_spells_20 n w s (j + 1) (nI (wl w)) = _
      rw [L_X2_spells_20, j_len (by omega)]
      simp only [Option.bind_some, leI (show wl w < 100000 by omega) (show wl w < 100000 by omega), Nat.le_refl, if_true])
    rcases hs with ⟨k, k1, k2, k3, k4, k5⟩ | ⟨k1, k2⟩
    · exact ⟨fun z => absurd (z.2 k k2) k3, fun _ => k5 n (by omega)⟩
    · refine ⟨fun _ => k2 n (by omega), fun z => absurd ⟨c, fun i hi => ?_⟩ z⟩
      by_cases y : nI (cs (p + i)) = wb w i
      · exact y
      · exact absurd y (k1 i (by omega) hi)
  · rw [if_neg c]
    exact ⟨fun z => absurd z.1 c, fun _ => rfl⟩
theorem m_isWordL {u : St} {len p w n : Nat} {cs : Nat → Nat} (hl : len ≤ 200) (hT : MT u len cs) (hb : u 0 13 = nI p) (hq : p + wl w ≤ len) (hw : w < 13) : ∀ m k, k + m = wl w → ∀ j, m + 1 < j → ((∀ i, k ≤ i → i < wl w → nI (cs (p + i)) = wb w i) → L_X6_isWord_22 n (cw w) (nI (wl w)) u j 1 (nI k) = some 1) ∧ (¬ (∀ i, k ≤ i → i < wl w → nI (cs (p + i)) = wb w i) → L_X6_isWord_22 n (cw w) (nI (wl w)) u j 1 (nI k) = some 0) := by
  have h6 := (wl_le w (by omega)).1
  intro m
  induction m with
  | zero =>
    intro k hk j hj
    obtain ⟨i, rfl⟩ : ∃ i, j = i + 1 := ⟨j - 1, by omega⟩
    refine ⟨fun _ => ?_, fun z => absurd (fun i h1 h2 => absurd h2 (by omega)) z⟩
    rw [L_X6_isWord_22, if_neg (by decide), if_pos (by rw [leI (by omega) (by omega)]; omega), if_pos (Or.inr rfl)]
  | succ m ih =>
    intro k hk j hj
    obtain ⟨i, rfl⟩ : ∃ i, j = i + 1 := ⟨j - 1, by omega⟩
    have hk6 : k < 6 := by omega
    have e : L_X6_isWord_22 n (cw w) (nI (wl w)) u (i + 1) 1 (nI k) = if nI (cs (p + k)) = wb w k then L_X6_isWord_22 n (cw w) (nI (wl w)) u i 1 (nI (k + 1)) else L_X6_isWord_22 n (cw w) (nI (wl w)) u i 0 (nI (k + 1)) := by
      rw [L_X6_isWord_22, if_neg (by decide), if_neg (by rw [leI (by omega) (by omega)]; omega), hb]
      simp only [nI_add, cl (show p + k < 100000 by omega), gj (show p + k < 200 by omega) (show 200 ≤ 100000 by omega), if_false, hT.2 (p + k) (by omega), cw_ok w hw k hk6 (by omega), nI_1]
    rw [e]
    by_cases c : nI (cs (p + k)) = wb w k
    · rw [if_pos c]
      have ih := ih (k + 1) (by omega) i (by omega)
      refine ⟨fun z => ih.1 (fun i h1 h2 => z i (by omega) h2), fun z => ih.2 (fun y => z (fun i h1 h2 => ?_))⟩
      by_cases d : i = k
      · rw [d]
        exact c
      · exact y i (by omega) h2
    · rw [if_neg c]
      refine ⟨fun z => absurd (z k (by omega) (by omega)) c, fun _ => ?_⟩
      obtain ⟨i, rfl⟩ : ∃ i1, i = i1 + 1 := ⟨i - 1, by omega⟩
      rw [L_X6_isWord_22, if_pos rfl, if_pos (Or.inl rfl)]
theorem m_isWord {u : St} {len p q w n : Nat} {cs : Nat → Nat} (hn : 3000 ≤ n) (hl : len ≤ 200) (hT : MT u len cs) (hb : u 0 13 = nI p) (he : u 0 14 = nI q) (hpq : p ≤ q) (hq : q ≤ len) (hw : w < 13) : (spP cs p q w → f_X6_isWord n (cw w) (nI (wl w)) u = some 1) ∧ (¬ spP cs p q w → f_X6_isWord n (cw w) (nI (wl w)) u = some 0) := by
  have h6 := (wl_le w (by omega)).1
  unfold f_X6_isWord
  rw [hb, he, pk_sub hpq]
  simp only [eqI (show q - p < 100000 by omega) (show wl w < 100000 by omega)]
  by_cases c : q - p = wl w
  · rw [if_pos c]
    have h := m_isWordL (n := n) hl hT hb (show p + wl w ≤ len by omega) hw (wl w) 0 (by omega) n (by omega)
    exact ⟨fun z => h.1 (fun i _ hi => z.2 i hi), fun z => h.2 (fun y => z ⟨c, fun i hi => y i (by omega) hi⟩)⟩
  · rw [if_neg c]
    refine ⟨fun z => absurd z.1 c, fun _ => ?_⟩
    obtain ⟨i, rfl⟩ : ∃ i, n = i + 1 := ⟨n - 1, by omega⟩
    rw [L_X6_isWord_22, if_pos rfl, if_pos (Or.inl rfl)]
/-- the word of a token in both -/
theorem words {s u : St} {len p q n : Nat} {cs : Nat → Nat} (hn : 3000 ≤ n) (hl : len ≤ 200) (hT : XT s len cs) (hM : MT u len cs) (hb : s 1 2 = nI p) (he : s 1 3 = nI q) (hb1 : u 0 13 = nI p) (he1 : u 0 14 = nI q) (hpq : p ≤ q) (hq : q ≤ len) : (f_X2_wordRead n s = some (-1) ∧ f_X6_wordOf n u = some (-1)) ∨ ∃ w, w < 13 ∧ f_X2_wordRead n s = some (nI w) ∧ f_X6_wordOf n u = some (nI (mw w)) := by
  have hx := fun w (hw : w < 13) => x_spells (n := n) (w := w) hn hl hT hb he hpq hq hw
  have hm := fun w (hw : w < 13) => m_isWord (n := n) (w := w) hn hl hM hb1 he1 hpq hq hw
  have spel : ∀ w, w < 13 → f_X2_spellingOf (nI w) = some w := by decide +kernel
  have hs := loop_stop (fun j i => L_X2_wordRead_2 n s j i) 13 0 (fun k => some (nI k)) (fun k => spP cs p q k) (some (-1)) (by omega) (fun k _ hk => by
    have e0 : ¬ (12 : Int32) < nI k := by rw [show (12 : Int32) = nI 12 from rfl, ltI (by omega) (by omega)]; omega
    by_cases c : spP cs p q k
    · refine Or.inl ⟨c, fun j => ?_⟩
      show L_X2_wordRead_2 n s (j + 1) (nI k) = _
      rw [L_X2_wordRead_2, if_neg e0, spel k hk, Option.bind_some, (hx k hk).1 c]
      rfl
    · refine Or.inr ⟨c, fun j => ?_⟩
      show L_X2_wordRead_2 n s (j + 1) (nI k) = L_X2_wordRead_2 n s j (nI (k + 1))
      rw [L_X2_wordRead_2, if_neg e0, spel k hk, Option.bind_some, (hx k hk).2 c, nI_1]
      rfl) (fun j => by
    show L_X2_wordRead_2 n s (j + 1) (nI 13) = _
    rw [L_X2_wordRead_2, if_pos (by decide)])
  have none0 : ∀ w, w < 13 → ¬ spP cs p q w → f_X6_isWord n (cw w) (nI (wl w)) u = some 0 := fun w hw z => (hm w hw).2 z
  rcases hs with ⟨w, _, w1, w2, w3, w4⟩ | ⟨w1, w2⟩
  · refine Or.inr ⟨w, w1, w4 n (by omega), ?_⟩
    have hv : ∀ v, v < 13 → f_X6_isWord n (cw v) (nI (wl v)) u = some (if v = w then 1 else 0) := fun v hv => by
      by_cases c : v = w
      · rw [if_pos c, c]
        exact (hm w w1).1 w2
      · rw [if_neg c]
        exact none0 v hv (fun z => c (sp_one hv w1 z w2))
    have h0 : f_X6_isWord n 14976400 5 u = _ := hv 0 (by omega)
    have h1 : f_X6_isWord n 139869684 6 u = _ := hv 1 (by omega)
    have h2 : f_X6_isWord n 609505573 6 u = _ := hv 2 (by omega)
    have h3 : f_X6_isWord n 21169731 5 u = _ := hv 3 (by omega)
    have h4 : f_X6_isWord n 676514451 6 u = _ := hv 4 (by omega)
    have h5 : f_X6_isWord n 657967201 6 u = _ := hv 5 (by omega)
    have h6 : f_X6_isWord n 16423 3 u = _ := hv 6 (by omega)
    have h7 : f_X6_isWord n 20332020 5 u = _ := hv 7 (by omega)
    have h8 : f_X6_isWord n 628196 4 u = _ := hv 8 (by omega)
    have h9 : f_X6_isWord n 176265 4 u = _ := hv 9 (by omega)
    have h10 : f_X6_isWord n 175404 4 u = _ := hv 10 (by omega)
    have h11 : f_X6_isWord n 143739366 6 u = _ := hv 11 (by omega)
    have h12 : f_X6_isWord n 24621441 5 u = _ := hv 12 (by omega)
    unfold f_X6_wordOf f_X6_deedWord f_X6_houseWord
    rw [h0, h1, h2, h3, h4, h5, h6, h7, h8, h9, h10, h11, h12]
    clear hx hm none0 hv h0 h1 h2 h3 h4 h5 h6 h7 h8 h9 h10 h11 h12 w2 w3 w4
    rcases (show w = 0 ∨ w = 1 ∨ w = 2 ∨ w = 3 ∨ w = 4 ∨ w = 5 ∨ w = 6 ∨ w = 7 ∨ w = 8 ∨ w = 9 ∨ w = 10 ∨ w = 11 ∨ w = 12 by omega) with rfl | rfl | rfl | rfl | rfl | rfl | rfl | rfl | rfl | rfl | rfl | rfl | rfl <;> rfl
  · refine Or.inl ⟨w2 n (by omega), ?_⟩
    have hv : ∀ v, v < 13 → f_X6_isWord n (cw v) (nI (wl v)) u = some 0 := fun v hv => none0 v hv (w1 v (by omega) hv)
    have h0 : f_X6_isWord n 14976400 5 u = _ := hv 0 (by omega)
    have h1 : f_X6_isWord n 139869684 6 u = _ := hv 1 (by omega)
    have h2 : f_X6_isWord n 609505573 6 u = _ := hv 2 (by omega)
    have h3 : f_X6_isWord n 21169731 5 u = _ := hv 3 (by omega)
    have h4 : f_X6_isWord n 676514451 6 u = _ := hv 4 (by omega)
    have h5 : f_X6_isWord n 657967201 6 u = _ := hv 5 (by omega)
    have h6 : f_X6_isWord n 16423 3 u = _ := hv 6 (by omega)
    have h7 : f_X6_isWord n 20332020 5 u = _ := hv 7 (by omega)
    have h8 : f_X6_isWord n 628196 4 u = _ := hv 8 (by omega)
    have h9 : f_X6_isWord n 176265 4 u = _ := hv 9 (by omega)
    have h10 : f_X6_isWord n 175404 4 u = _ := hv 10 (by omega)
    have h11 : f_X6_isWord n 143739366 6 u = _ := hv 11 (by omega)
    have h12 : f_X6_isWord n 24621441 5 u = _ := hv 12 (by omega)
    unfold f_X6_wordOf f_X6_deedWord f_X6_houseWord
    rw [h0, h1, h2, h3, h4, h5, h6, h7, h8, h9, h10, h11, h12]
    rfl
/-! numbers -/
def nmV (cs : Nat → Nat) (p q : Nat) : Nat := if q - p = 1 then cs p - 48 else (cs p - 48) * 10 + (cs (p + 1) - 48)
def isNm (len : Nat) (cs : Nat → Nat) (p q : Nat) : Prop := p < len ∧ srt (cs p) = 2 ∧ q - p ≤ 2
theorem srt2 : ∀ c, c < 256 → srt c = 2 → 48 ≤ c ∧ c ≤ 57 := by decide +kernel
theorem nm_in {len e p q : Nat} {cs : Nat → Nat} (hc : ∀ i, i < len → cs i < 256) (hI : IsTok len cs e p q) (hN : isNm len cs p q) : p < q ∧ q ≤ len ∧ (48 ≤ cs p ∧ cs p ≤ 57) ∧ (q - p = 2 → 48 ≤ cs (p + 1) ∧ cs (p + 1) ≤ 57) ∧ nmV cs p q ≤ 99 := by
  obtain ⟨h1, h2, h3⟩ := hN
  have hp := srt2 _ (hc p h1) h2
  rcases hI.2 with z | ⟨z1, z2, z3, z4, z5⟩
  · omega
  · have h4 : q - p = 2 → 48 ≤ cs (p + 1) ∧ cs (p + 1) ≤ 57 := fun y => srt2 _ (hc _ (by omega)) (by rw [(z4 (p + 1) (by omega) (by omega)).2]; exact h2)
    refine ⟨z2, z3, hp, h4, ?_⟩
    unfold nmV
    split
    · omega
    · have := h4 (by omega)
      omega
theorem nm_step {v c : Nat} (h : 48 ≤ c) : nI v * 10 + nI c - 48 = nI (v * 10 + (c - 48)) := by
  rw [show (10 : Int32) = nI 10 from rfl, pk_mul, nI_add, show (48 : Int32) = nI 48 from rfl, pk_sub (by omega)]
  congr 1
  omega
theorem x_number {s : St} {len e p q n : Nat} {cs : Nat → Nat} (hn : 3000 ≤ n) (hl : len ≤ 200) (hc : ∀ i, i < len → cs i < 256) (hT : XT s len cs) (hb : s 1 2 = nI p) (he : s 1 3 = nI q) (hI : IsTok len cs e p q) : (isNm len cs p q → f_X2_numberRead n s = some (nI (nmV cs p q))) ∧ (¬ isNm len cs p q → f_X2_numberRead n s = some (-1)) := by
  have hpq : p ≤ q ∧ q ≤ len ∧ p ≤ len := by
    have := hI.1
    rcases hI.2 with z | z <;> omega
  unfold f_X2_numberRead
  rw [hb, he, pk_sub hpq.1]
  have hw : f_X5_within (nI (q - p)) 1 2 = some (if 1 ≤ q - p ∧ q - p ≤ 2 then 1 else 0) := by
    rw [p_within]
    simp only [show (1 : Int32) = nI 1 from rfl, show (2 : Int32) = nI 2 from rfl, leI (show 1 < 100000 by omega) (show q - p < 100000 by omega), leI (show q - p < 100000 by omega) (show 2 < 100000 by omega)]
  rw [hw]
  by_cases c : 1 ≤ q - p ∧ q - p ≤ 2
  · have hpl : p < len := by
      rcases hI.2 with z | z <;> omega
    have hs := sxt_le (cs p)
    rw [if_pos c]
    simp only [Option.bind_some, i10, if_false, cl (show p < 100000 by omega), gj (show p < 200 by omega) (show 200 ≤ 100000 by omega), hT.2 p hpl, x_sort (cs p) (hc p hpl)]
    have e1 : (nI (sxt (cs p)) = 1) = (srt (cs p) = 2) := by
      rw [show (1 : Int32) = nI 1 from rfl, eqI (by omega) (by omega)]
      unfold sxt
      have := srt_le (cs p)
      rcases (show srt (cs p) = 0 ∨ srt (cs p) = 1 ∨ srt (cs p) = 2 by omega) with y | y | y <;> rw [y] <;> simp
    simp only [e1]
    by_cases c2 : srt (cs p) = 2
    · rw [if_pos c2]
      have hN : isNm len cs p q := ⟨hpl, c2, c.2⟩
      obtain ⟨n1, n2, n3, n4, n5⟩ := nm_in hc hI hN
      refine ⟨fun _ => ?_, fun z => absurd hN z⟩
      obtain ⟨i, rfl⟩ : ∃ i, n = i + 3 := ⟨n - 3, by omega⟩
      have a1 : L_X2_numberRead_42 (i + 3) s (i + 3) 0 (nI p) = L_X2_numberRead_42 (i + 3) s (i + 2) (nI (cs p - 48)) (nI (p + 1)) := by
        rw [L_X2_numberRead_42, he, if_neg (by rw [leI (by omega) (by omega)]; omega)]
        simp only [cl (show p < 100000 by omega), gj (show p < 200 by omega) (show 200 ≤ 100000 by omega), if_false, hT.2 p hpl, nI_1]
        rw [show (0 : Int32) = nI 0 from rfl, nm_step n3.1]
        congr 1
        congr 1
        omega
      rw [a1]
      unfold nmV
      by_cases c3 : q - p = 1
      · rw [if_pos c3, L_X2_numberRead_42, he, if_pos (by rw [leI (by omega) (by omega)]; omega)]
      · have n6 := n4 (by omega)
        rw [if_neg c3, L_X2_numberRead_42, he, if_neg (by rw [leI (by omega) (by omega)]; omega)]
        simp only [cl (show p + 1 < 100000 by omega), gj (show p + 1 < 200 by omega) (show 200 ≤ 100000 by omega), if_false, hT.2 (p + 1) (by omega), nI_1]
        rw [nm_step n6.1, L_X2_numberRead_42, he, if_pos (by rw [leI (by omega) (by omega)]; omega)]
    · rw [if_neg c2]
      exact ⟨fun z => absurd z.2.1 c2, fun _ => rfl⟩
  · rw [if_neg c]
    refine ⟨fun z => absurd ?_ c, fun _ => rfl⟩
    obtain ⟨n1, n2, n3, n4, n5⟩ := nm_in hc hI z
    exact ⟨by omega, z.2.2⟩
/-- the model reads a number: what it says, and where it is then -/
theorem m_reads {u : St} {len e p q k r n : Nat} {cs : Nat → Nat} {lo hi un : Int32} (hn : 3000 ≤ n) (hl : len ≤ 200) (hc : ∀ i, i < len → cs i < 256) (hT : MT u len cs) (hb : u 0 13 = nI p) (ha : u 0 12 = nI q) (he : u 0 14 = nI q) (hr : u 0 5 = nI r) (hr9 : r < 10) (hk : k < 4) (hI : IsTok len cs e p q) : ((isNm len cs p q ∧ lo ≤ nI (nmV cs p q) ∧ nI (nmV cs p q) ≤ hi ∧ nI (nmV cs p q) ≠ un) → ∃ u1 p1 q1, f_X6_reads n (nI k) lo hi un u = some (1, u1) ∧ IsTok len cs q p1 q1 ∧ u1 0 13 = nI p1 ∧ u1 0 12 = nI q1 ∧ u1 0 14 = nI q1 ∧ (∀ i, i ≠ 0 → i ≠ 4 → u1 i = u i) ∧ (∀ m, m ≠ 12 → m ≠ 13 → m ≠ 14 → u1 0 m = u 0 m) ∧ u1 4 = upd (u 4) (5 * r + 1 + k) (nI (nmV cs p q))) ∧ (¬ (isNm len cs p q ∧ lo ≤ nI (nmV cs p q) ∧ nI (nmV cs p q) ≤ hi ∧ nI (nmV cs p q) ≠ un) → f_X6_reads n (nI k) lo hi un u = some (0, u)) := by
  have hpq : p ≤ q ∧ q ≤ len ∧ p ≤ len := by
    have := hI.1
    rcases hI.2 with z | z <;> omega
  unfold f_X6_reads
  rw [hb, hT.1]
  by_cases c0 : p = len
  · rw [if_pos (by rw [c0])]
    exact ⟨fun z => absurd z.1.1 (by omega), fun _ => rfl⟩
  · have hpl : p < len := by omega
    have hs := srt_le (cs p)
    rw [if_neg (by rw [eqI (by omega) (by omega)]; exact c0)]
    simp only [cl (show p < 100000 by omega), gj (show p < 200 by omega) (show 200 ≤ 100000 by omega), if_false, hT.2 p hpl, m_sort (cs p) (hc p hpl), Option.bind_some, he, pk_sub hpq.1, show (2 : Int32) = nI 2 from rfl, eqI (show srt (cs p) < 100000 by omega) (show 2 < 100000 by omega), leI (show q - p < 100000 by omega) (show 2 < 100000 by omega)]
    by_cases c1 : srt (cs p) = 2
    · rw [if_pos c1]
      by_cases c2 : q - p ≤ 2
      · rw [if_pos c2]
        have hN : isNm len cs p q := ⟨hpl, c1, c2⟩
        obtain ⟨n1, n2, n3, n4, n5⟩ := nm_in hc hI hN
        have a1 : L_X6_reads_51 n (nI k) lo hi un n 0 (nI p) u = B_X6_reads_84 n (nI k) lo hi un (nI (nmV cs p q)) u := by
          obtain ⟨i, hi3⟩ : ∃ i, n = i + 3 := ⟨n - 3, by omega⟩
          have b1 : L_X6_reads_51 n (nI k) lo hi un (i + 3) 0 (nI p) u = L_X6_reads_51 n (nI k) lo hi un (i + 2) (nI (cs p - 48)) (nI (p + 1)) u := by
            rw [L_X6_reads_51, he, if_neg (by rw [leI (by omega) (by omega)]; omega)]
            simp only [cl (show p < 100000 by omega), gj (show p < 200 by omega) (show 200 ≤ 100000 by omega), if_false, hT.2 p hpl, nI_1]
            rw [Int32.mul_comm, show (0 : Int32) = nI 0 from rfl, nm_step n3.1]
            congr 1
            congr 1
            omega
          have b0 : L_X6_reads_51 n (nI k) lo hi un n 0 (nI p) u = L_X6_reads_51 n (nI k) lo hi un (i + 3) 0 (nI p) u := by rw [← hi3]
          rw [b0, b1]
          unfold nmV
          by_cases c3 : q - p = 1
          · rw [if_pos c3, L_X6_reads_51, he, if_pos (by rw [leI (by omega) (by omega)]; omega)]
          · have n6 := n4 (by omega)
            rw [if_neg c3, L_X6_reads_51, he, if_neg (by rw [leI (by omega) (by omega)]; omega)]
            simp only [cl (show p + 1 < 100000 by omega), gj (show p + 1 < 200 by omega) (show 200 ≤ 100000 by omega), if_false, hT.2 (p + 1) (by omega), nI_1]
            rw [Int32.mul_comm, nm_step n6.1, L_X6_reads_51, he, if_pos (by rw [leI (by omega) (by omega)]; omega)]
        rw [a1]
        unfold B_X6_reads_84
        rw [p_in]
        by_cases c3 : lo ≤ nI (nmV cs p q) ∧ nI (nmV cs p q) ≤ hi
        · rw [if_pos c3]
          simp only [Option.bind_some, i10, if_false]
          by_cases c4 : nI (nmV cs p q) = un
          · rw [if_pos c4]
            exact ⟨fun z => absurd c4 z.2.2.2, fun _ => rfl⟩
          · rw [if_neg c4, hr, show (5 : Int32) = nI 5 from rfl, show (1 : Int32) = nI 1 from rfl, pk_mul, nI_add, nI_add]
            simp only [cl (show 5 * r + 1 + k < 100000 by omega), gj (show 5 * r + 1 + k < 50 by omega) (show 50 ≤ 100000 by omega), if_false]
            obtain ⟨p1, q1, t1⟩ := tokEx cs hpq.2.1
            obtain ⟨u1, v1, v2, v3, v4, v5, v6⟩ := m_token (u := up u 4 (5 * r + 1 + k) (nI (nmV cs p q))) (n := n) hn hl hc ⟨by rw [up_n _ _ _ (by omega)]; exact hT.1, fun i hi2 => by rw [up_n _ _ _ (by omega)]; exact hT.2 i hi2⟩ (by rw [up_n _ _ _ (by omega)]; exact ha) t1
            refine ⟨fun _ => ⟨u1, p1, q1, by rw [v1]; rfl, t1, v4, v5, v6, fun i h1 h2 => by rw [v2 i h1, up_n _ _ _ h2], fun m h1 h2 h3 => by rw [v3 m h1 h2 h3, up_n _ _ _ (by omega)], by rw [v2 4 (by omega), up_s]⟩, fun z => absurd ⟨hN, c3.1, c3.2, c4⟩ z⟩
        · rw [if_neg c3]
          exact ⟨fun z => absurd ⟨z.2.1, z.2.2.1⟩ c3, fun _ => rfl⟩
      · rw [if_neg c2]
        exact ⟨fun z => absurd z.1.2.2 c2, fun _ => rfl⟩
    · rw [if_neg c1]
      exact ⟨fun z => absurd z.1.2.1 c1, fun _ => rfl⟩
