/-! ===== lines ===== -/
def fo (w : Nat) : Nat := ([20, 20, 20, 20, 13, 14, 15, 16, 17, 15, 18, 19, 19] : List Nat).getD w 0
theorem fo_ok : ∀ w, w < 13 → f_X2_formOf (nI w) = some (fo w) ∧ fo w < 21 ∧ wl (fo w) ≤ 4 ∧ 0 < wl (fo w) := by decide +kernel
def loC (c : Int32) : Int32 := if c = 78 then 2 else 0
def hiC (c x15 x16 : Int32) : Int32 := if c = 65 then x15 - 1 else if c = 68 then x16 - 1 else if c = 78 then 8 else if c = 83 then 15 else 9
theorem x_least (c : Int32) : f_X2_leastOf c = some (loC c) := by
  unfold f_X2_leastOf loC
  split <;> rfl
theorem x_most (c : Int32) (s : St) : f_X2_mostOf c s = some (hiC c (s 1 4) (s 1 5)) := by
  unfold f_X2_mostOf hiC
  split
  · rfl
  · split
    · rfl
    · split
      · rfl
      · split <;> rfl
/-- both read the same text: what stands still, and where they are -/
def FR (a b s u : St) (len : Nat) : Prop := ((∀ i, i ≠ 1 → i ≠ 3 → i ≠ 4 → s i = a i) ∧ (∀ i, i ≠ 0 → i ≠ 4 → u i = b i)) ∧ (s 1 1 = nI len ∧ ∀ k, k ≠ 5 → k ≠ 12 → k ≠ 13 → k ≠ 14 → k ≠ 15 → k ≠ 16 → u 0 k = b 0 k)
def PR (a b s u : St) (len : Nat) (cs : Nat → Nat) (e rx rm Hc Dc : Nat) : Prop := FR a b s u len ∧ (s 1 3 = nI e ∧ e ≤ len ∧ ∃ p q, IsTok len cs e p q ∧ u 0 13 = nI p ∧ u 0 12 = nI q ∧ u 0 14 = nI q) ∧ (s 1 4 = nI Hc ∧ u 0 15 = nI Hc ∧ s 1 5 = nI Dc ∧ u 0 16 = nI Dc) ∧ s 1 8 = nI rx ∧ u 0 5 = nI rm
/-- the text of both -/
def TT (a b : St) (len : Nat) (cs : Nat → Nat) : Prop := len ≤ 200 ∧ XT a len cs ∧ MT b len cs ∧ ∀ i, i < len → cs i < 256
theorem TT_x {a b s u : St} {len : Nat} {cs : Nat → Nat} (h : TT a b len cs) (hF : FR a b s u len) : XT s len cs := ⟨hF.2.1, fun i hi => by rw [hF.1.1 2 (by omega) (by omega) (by omega)]; exact h.2.1.2 i hi⟩
theorem TT_m {a b s u : St} {len : Nat} {cs : Nat → Nat} (h : TT a b len cs) (hF : FR a b s u len) : MT u len cs := ⟨by rw [hF.2.2 3 (by omega) (by omega) (by omega) (by omega) (by omega) (by omega)]; exact h.2.2.1.1, fun i hi => by rw [hF.1.2 3 (by omega) (by omega)]; exact h.2.2.1.2 i hi⟩
theorem tok_le {len e p q : Nat} {cs : Nat → Nat} (hI : IsTok len cs e p q) : p ≤ q ∧ q ≤ len ∧ p ≤ len := by
  have := hI.1
  rcases hI.2 with z | z <;> omega
theorem neg1_lt (w : Int32) : ¬ loC w ≤ -1 := by
  unfold loC
  split <;> decide
theorem e44 : ∀ r, r < 10 → ∀ i, i < 4 → (nI r * 4 + nI i).toNatClampNeg = 4 * r + i ∧ ¬ (nI r * 4 + nI i < 0) := by decide +kernel
theorem num_step {a b s u : St} {len e r i w n Hc Dc : Nat} {cs : Nat → Nat} (hn : 3000 ≤ n) (hT : TT a b len cs) (hP : PR a b s u len cs e r r Hc Dc) (hr : r < 10) (hw : w < 13) (hi : i < wl (fo w)) (hk : 1 ≤ i → s 4 (4 * r) = u 4 (5 * r + 1)) (un : Int32) (hun : un = if w = 10 ∧ i = 1 then u 4 (5 * r + 1) else -1) :
    (∃ s1 p, (∀ j, L_X2_readLine_47 n (nI w) (fo w) (j + 1) (nI i) s = some (0, s1)) ∧ f_X6_reads n (nI i) (loC (wb (fo w) i)) (hiC (wb (fo w) i) (nI Hc) (nI Dc)) un u = some (0, u) ∧ s1 1 2 = nI p ∧ u 0 13 = nI p ∧ p ≤ len ∧ FR a b s1 u len) ∨
    (∃ s2 u2 e2 v, (∀ j, L_X2_readLine_47 n (nI w) (fo w) (j + 1) (nI i) s = L_X2_readLine_47 n (nI w) (fo w) j (nI (i + 1)) s2) ∧ f_X6_reads n (nI i) (loC (wb (fo w) i)) (hiC (wb (fo w) i) (nI Hc) (nI Dc)) un u = some (1, u2) ∧ PR a b s2 u2 len cs e2 r r Hc Dc ∧ s2 3 = s 3 ∧ s2 4 = upd (s 4) (4 * r + i) (nI v) ∧ u2 4 = upd (u 4) (5 * r + 1 + i) (nI v) ∧ v ≤ 99 ∧ loC (wb (fo w) i) ≤ nI v ∧ nI v ≤ hiC (wb (fo w) i) (nI Hc) (nI Dc) ∧ nI v ≠ un) := by
  obtain ⟨hF, ⟨p1, p2, p, q, p3, p4, p5, p6⟩, ⟨h1, h2, h3, h4⟩, h5, h6⟩ := hP
  obtain ⟨hl, hX, hM, hc⟩ := id hT
  obtain ⟨f1, f2, f3, f4⟩ := fo_ok w hw
  have hi4 : i < 4 := by omega
  have ht := tok_le p3
  obtain ⟨s1, x1, x2, x3, x4, x5⟩ := x_token (n := n) hn hl hc (TT_x hT hF) p1 p3
  have hX1 : XT s1 len cs := ⟨by rw [x3 1 (by omega) (by omega)]; exact hF.2.1, fun i hi => by rw [x2 2 (by omega)]; exact (TT_x hT hF).2 i hi⟩
  have hnum := x_number (n := n) hn hl hc hX1 x4 x5 p3
  have hrd := m_reads (n := n) (k := i) (lo := loC (wb (fo w) i)) (hi := hiC (wb (fo w) i) (nI Hc) (nI Dc)) (un := un) hn hl hc (TT_m hT hF) p4 p5 p6 h6 hr hi4 p3
  have hFR1 : FR a b s1 u len := ⟨⟨fun i h1 h2 h3 => by rw [x2 i h1]; exact hF.1.1 i h1 h2 h3, hF.1.2⟩, by rw [x3 1 (by omega) (by omega)]; exact hF.2.1, hF.2.2⟩
  -- X's step, up to the number
  have eX : ∀ j, L_X2_readLine_47 n (nI w) (fo w) (j + 1) (nI i) s = (f_X2_numberRead n s1).bind fun q7 => (f_X5_within q7 (loC (wb (fo w) i)) (hiC (wb (fo w) i) (nI Hc) (nI Dc))).bind fun q12 => if q12 = 0 then some (0, s1) else if w = 10 ∧ i = 1 then (if q7 = s 4 (4 * r) then some (0, s1) else L_X2_readLine_47 n (nI w) (fo w) j (nI (i + 1)) (up s1 4 (4 * r + i) q7)) else L_X2_readLine_47 n (nI w) (fo w) j (nI (i + 1)) (up s1 4 (4 * r + i) q7) := fun j => by
    rw [L_X2_readLine_47, j_len f2, Option.bind_some, if_neg (by rw [leI (by omega) (by omega)]; omega), x1, Option.bind_some, j_char f2 hi]
    cases hz : f_X2_numberRead n s1 with
    | none => rfl
    | some z =>
      simp only [Option.bind_some, x_least, x_most, x3 4 (show (4 : Nat) ≠ 2 by omega) (show (4 : Nat) ≠ 3 by omega), x3 5 (show (5 : Nat) ≠ 2 by omega) (show (5 : Nat) ≠ 3 by omega), h1, h3, x3 8 (show (8 : Nat) ≠ 2 by omega) (show (8 : Nat) ≠ 3 by omega), h5, (e44 r hr i hi4).1, eq_false (e44 r hr i hi4).2, eq_false (show ¬ 40 ≤ 4 * r + i by omega), or_self, if_false, nI_1]
      have en : f_X2_number (nI r) 0 s1 = some (s 4 (4 * r)) := by
        unfold f_X2_number
        have z1 := e44 r hr 0 (by omega)
        rw [show nI 0 = (0 : Int32) from rfl] at z1
        rw [z1.1, if_neg (by
          rintro (y | y)
          · exact z1.2 y
          · omega), x2 4 (by omega)]
        rfl
      rw [en, show (10 : Int32) = nI 10 from rfl, show (1 : Int32) = nI 1 from rfl]
      simp only [eqI (show w < 100000 by omega) (show 10 < 100000 by omega), eqI (show i < 100000 by omega) (show 1 < 100000 by omega), Option.bind_some]
      congr 1
      funext q12
      by_cases c1 : q12 = 0
      · rw [if_pos c1, if_pos c1]
      · rw [if_neg c1, if_neg c1]
        by_cases c2 : w = 10
        · by_cases c3 : i = 1
          · rw [if_pos c2, if_pos c3, if_pos (show w = 10 ∧ i = 1 from ⟨c2, c3⟩)]
          · rw [if_pos c2, if_neg c3, if_neg (show ¬ (w = 10 ∧ i = 1) from fun y => c3 y.2)]
        · rw [if_neg c2, if_neg (show ¬ (w = 10 ∧ i = 1) from fun y => c2 y.1)]
  by_cases ok : isNm len cs p q ∧ loC (wb (fo w) i) ≤ nI (nmV cs p q) ∧ nI (nmV cs p q) ≤ hiC (wb (fo w) i) (nI Hc) (nI Dc) ∧ nI (nmV cs p q) ≠ un
  · obtain ⟨o1, o2, o3, o4⟩ := ok
    obtain ⟨u2, q1, q2, r1, r2, r3, r4, r5, r6, r7, r8⟩ := hrd.1 ⟨o1, o2, o3, o4⟩
    obtain ⟨n1, n2, n3, n4, n5⟩ := nm_in hc p3 o1
    refine Or.inr ⟨up s1 4 (4 * r + i) (nI (nmV cs p q)), u2, q, nmV cs p q, fun j => ?_, r1, ⟨⟨⟨fun i h1 h2 h3 => by rw [up_n _ _ _ h3, x2 i h1]; exact hF.1.1 i h1 h2 h3, fun i h1 h2 => by rw [r6 i h1 h2]; exact hF.1.2 i h1 h2⟩, by rw [up_n _ _ _ (by omega), x3 1 (by omega) (by omega)]; exact hF.2.1, fun k k1 k2 k3 k4 k5 k6 => by rw [r7 k k2 k3 k4]; exact hF.2.2 k k1 k2 k3 k4 k5 k6⟩, ⟨by rw [up_n _ _ _ (by omega)]; exact x5, ht.2.1, q1, q2, r2, r3, r4, r5⟩, ⟨by rw [up_n _ _ _ (by omega), x3 4 (by omega) (by omega)]; exact h1, by rw [r7 15 (by omega) (by omega) (by omega)]; exact h2, by rw [up_n _ _ _ (by omega), x3 5 (by omega) (by omega)]; exact h3, by rw [r7 16 (by omega) (by omega) (by omega)]; exact h4⟩, by rw [up_n _ _ _ (by omega), x3 8 (by omega) (by omega)]; exact h5, by rw [r7 5 (by omega) (by omega) (by omega)]; exact h6⟩, by rw [up_n _ _ _ (by omega), x2 3 (by omega)], by rw [up_s, x2 4 (by omega)], r8, n5, o2, o3, o4⟩
    rw [eX, hnum.1 o1, Option.bind_some, p_within, if_pos ⟨o2, o3⟩, Option.bind_some, if_neg (by decide)]
    by_cases c : w = 10 ∧ i = 1
    · rw [if_pos c] at hun ⊢
      rw [if_neg (by rw [hk (by omega), ← hun]; exact o4)]
    · rw [if_neg c]
  · refine Or.inl ⟨s1, p, fun j => ?_, hrd.2 ok, x4, p4, ht.2.2, hFR1⟩
    rw [eX]
    by_cases o1 : isNm len cs p q
    · rw [hnum.1 o1, Option.bind_some, p_within]
      by_cases o2 : loC (wb (fo w) i) ≤ nI (nmV cs p q) ∧ nI (nmV cs p q) ≤ hiC (wb (fo w) i) (nI Hc) (nI Dc)
      · obtain ⟨n1, n2, n3, n4, n5⟩ := nm_in hc p3 o1
        rw [if_pos o2, Option.bind_some, if_neg (by decide)]
        have o4 : nI (nmV cs p q) = un := by
          by_cases y : nI (nmV cs p q) = un
          · exact y
          · exact absurd ⟨o1, o2.1, o2.2, y⟩ ok
        by_cases c : w = 10 ∧ i = 1
        · rw [if_pos c] at hun ⊢
          rw [if_pos (by rw [hk (by omega), ← hun]; exact o4)]
        · rw [if_neg c] at hun
          rw [hun, neM (by omega)] at o4
          exact o4.elim
      · rw [if_neg o2, Option.bind_some, if_pos rfl]
    · rw [hnum.2 o1, Option.bind_some, p_within, if_neg (fun y => neg1_lt _ y.1), Option.bind_some, if_pos rfl]
/-- the numbers of a line, as the model reads them -/
def chn (n w : Nat) (x15 x16 : Int32) : Nat → Nat → St → Option (Int32 × St)
  | 0, _, u => some (1, u)
  | m + 1, i, u => if w = 10 ∧ i = 1 then (if ((5 : Int32) * (u 0 5)) + 1 < 0 ∨ 50 ≤ (((5 : Int32) * (u 0 5)) + 1).toNatClampNeg then none else (f_X6_reads n (nI i) (loC (wb (fo w) i)) (hiC (wb (fo w) i) x15 x16) (u 4 ((((5 : Int32) * (u 0 5)) + 1).toNatClampNeg)) u).bind fun q => if q.1 = 0 then some (0, q.2) else chn n w x15 x16 m (i + 1) q.2) else (f_X6_reads n (nI i) (loC (wb (fo w) i)) (hiC (wb (fo w) i) x15 x16) (-1) u).bind fun q => if q.1 = 0 then some (0, q.2) else chn n w x15 x16 m (i + 1) q.2
theorem reads_01 {n : Nat} {x1 x2 x3 x4 : Int32} {u : St} (q : Int32 × St) (h : f_X6_reads n x1 x2 x3 x4 u = some q) : q.1 = 0 ∨ q.1 = 1 := by
  have hB : ∀ (x5 : Int32) (t : St), B_X6_reads_84 n x1 x2 x3 x4 x5 t = some q → q.1 = 0 ∨ q.1 = 1 := fun x5 t h => by
    unfold B_X6_reads_84 at h
    rw [p_in] at h
    by_cases c : x2 ≤ x5 ∧ x5 ≤ x3
    · rw [if_pos c, Option.bind_some, if_neg (by decide)] at h
      by_cases c2 : x5 = x4
      · rw [if_pos c2] at h
        rw [← Option.some.inj h]
        exact Or.inl rfl
      · rw [if_neg c2] at h
        split at h
        · exact absurd h (by simp)
        · cases hz : f_X6_token n (up t 4 (((((5 : Int32) * (t 0 5)) + 1) + x1).toNatClampNeg) x5) with
          | none =>
            rw [hz] at h
            exact absurd h (by simp)
          | some z =>
            rw [hz, Option.bind_some] at h
            rw [← Option.some.inj h]
            exact Or.inr rfl
    · rw [if_neg c, Option.bind_some, if_pos rfl] at h
      rw [← Option.some.inj h]
      exact Or.inl rfl
  have hL : ∀ j (x5 x6 : Int32), L_X6_reads_51 n x1 x2 x3 x4 j x5 x6 u = some q → q.1 = 0 ∨ q.1 = 1 := by
    intro j
    induction j with
    | zero =>
      intro x5 x6 h
      rw [L_X6_reads_51] at h
      exact absurd h (by simp)
    | succ j ih =>
      intro x5 x6 h
      rw [L_X6_reads_51] at h
      split at h
      · exact hB _ _ h
      · split at h
        · exact absurd h (by simp)
        · exact ih _ _ h
  unfold f_X6_reads at h
  split at h
  · rw [← Option.some.inj h]
    exact Or.inl rfl
  · split at h
    · exact absurd h (by simp)
    · cases hz : f_X6_sort (u 3 ((u 0 13).toNatClampNeg)) with
      | none =>
        rw [hz] at h
        exact absurd h (by simp)
      | some z =>
        rw [hz] at h
        simp only [Option.bind_some] at h
        split at h
        · split at h
          · exact hL _ _ _ h
          · rw [← Option.some.inj h]
            exact Or.inl rfl
        · rw [← Option.some.inj h]
          exact Or.inl rfl
theorem one_num {f : Option (Int32 × St)} (h : ∀ q, f = some q → q.1 = 0 ∨ q.1 = 1) : (f.bind fun q1 => if q1.1 = 0 ∨ q1.1 = 1 then some (q1.1, q1.2) else none) = (f.bind fun q => if q.1 = 0 then some (0, q.2) else some (1, q.2)) := by
  cases f with
  | none => rfl
  | some q =>
    show (if q.1 = 0 ∨ q.1 = 1 then some (q.1, q.2) else none) = (if q.1 = 0 then some (0, q.2) else some (1, q.2))
    rcases h q rfl with e | e
    · rw [if_pos (Or.inl e), if_pos e, e]
    · rw [if_pos (Or.inr e), if_neg (by rw [e]; decide), e]
theorem rest_chn (n : Nat) (u : St) : ∀ w, w < 13 → f_X6_readsRest n (nI (mw w)) u = chn n w (u 0 15) (u 0 16) (wl (fo w)) 0 u := by
  intro w hw
  rcases (show w = 0 ∨ w = 1 ∨ w = 2 ∨ w = 3 ∨ w = 4 ∨ w = 5 ∨ w = 6 ∨ w = 7 ∨ w = 8 ∨ w = 9 ∨ w = 10 ∨ w = 11 ∨ w = 12 by omega) with rfl | rfl | rfl | rfl | rfl | rfl | rfl | rfl | rfl | rfl | rfl | rfl | rfl
  · rfl
  · rfl
  · rfl
  · rfl
  · exact one_num reads_01
  · rfl
  · exact one_num reads_01
  · rfl
  · rfl
  · exact one_num reads_01
  · rfl
  · exact one_num reads_01
  · exact one_num reads_01
