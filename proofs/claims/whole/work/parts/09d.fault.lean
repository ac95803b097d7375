/-! ===== lines in a row; the first fault ===== -/
/-- a line that was read: word w, numbers v, of a town of H houses, D deeds -/
def LN (s u : St) (r w : Nat) (v : Nat → Nat) (H D : Nat) : Prop := w < 13 ∧ s 3 r = nI w ∧ u 4 (5 * r) = nI (mw w) ∧ (∀ k, k < wl (fo w) → s 4 (4 * r + k) = nI (v k) ∧ u 4 (5 * r + 1 + k) = nI (v k) ∧ v k ≤ 99 ∧ loC (wb (fo w) k) ≤ nI (v k) ∧ nI (v k) ≤ hiC (wb (fo w) k) (nI H) (nI D)) ∧ (w = 10 → v 1 ≠ v 0) ∧ (w < 4 → D < 6)
def nxH (w : Nat) (v : Nat → Nat) (H : Nat) : Nat := if w = 4 then v 0 else H
def nxD (w D : Nat) : Nat := if w = 4 then 0 else if w < 4 then D + 1 else D
theorem e51 : ∀ r, r < 10 → ((5 : Int32) * nI r + 1).toNatClampNeg = 5 * r + 1 ∧ ¬ ((5 : Int32) * nI r + 1 < 0) ∧ ((5 : Int32) * nI r).toNatClampNeg = 5 * r ∧ ¬ ((5 : Int32) * nI r < 0) := by decide +kernel
theorem nums {a b : St} {len r w n Hc Dc : Nat} {cs : Nat → Nat} (hn : 3000 ≤ n) (hT : TT a b len cs) (hr : r < 10) (hw : w < 13) : ∀ m i, i + m = wl (fo w) → ∀ s u e, PR a b s u len cs e r r Hc Dc → (1 ≤ i → s 4 (4 * r) = u 4 (5 * r + 1)) → ∀ j, m < j →
    (∃ (s1 u1 : St) (p : Nat), L_X2_readLine_47 n (nI w) (fo w) j (nI i) s = some (0, s1) ∧ chn n w (nI Hc) (nI Dc) m i u = some (0, u1) ∧ s1 1 2 = nI p ∧ u1 0 13 = nI p ∧ p ≤ len ∧ FR a b s1 u1 len) ∨
    (∃ (s1 u1 : St) (e1 : Nat) (v : Nat → Nat), L_X2_readLine_47 n (nI w) (fo w) j (nI i) s = B_X2_readLine_140 n (nI w) s1 ∧ chn n w (nI Hc) (nI Dc) m i u = some (1, u1) ∧ PR a b s1 u1 len cs e1 r r Hc Dc ∧ s1 3 = s 3 ∧ (∀ x, x < 4 * r + i → s1 4 x = s 4 x) ∧ (∀ x, x < 5 * r + 1 + i → u1 4 x = u 4 x) ∧ ∀ k, i ≤ k → k < wl (fo w) → s1 4 (4 * r + k) = nI (v k) ∧ u1 4 (5 * r + 1 + k) = nI (v k) ∧ v k ≤ 99 ∧ loC (wb (fo w) k) ≤ nI (v k) ∧ nI (v k) ≤ hiC (wb (fo w) k) (nI Hc) (nI Dc) ∧ (w = 10 ∧ k = 1 → nI (v k) ≠ s1 4 (4 * r))) := by
  obtain ⟨f1, f2, f3, f4⟩ := fo_ok w hw
  intro m
  induction m with
  | zero =>
    intro i hi s u e hP hk j hj
    obtain ⟨j, rfl⟩ : ∃ i, j = i + 1 := ⟨j - 1, by omega⟩
    refine Or.inr ⟨s, u, e, fun _ => 0, ?_, rfl, hP, rfl, fun _ _ => rfl, fun _ _ => rfl, fun k h1 h2 => absurd h2 (by omega)⟩
    rw [L_X2_readLine_47, j_len f2, Option.bind_some, if_pos (by rw [leI (by omega) (by omega)]; omega)]
  | succ m ih =>
    intro i hi s u e hP hk j hj
    obtain ⟨j, rfl⟩ : ∃ i, j = i + 1 := ⟨j - 1, by omega⟩
    have hi4 : i < wl (fo w) := by omega
    have e5 := e51 r hr
    have h05 : u 0 5 = nI r := hP.2.2.2.2
    have hch : ∀ un, (un = if w = 10 ∧ i = 1 then u 4 (5 * r + 1) else -1) → chn n w (nI Hc) (nI Dc) (m + 1) i u = (f_X6_reads n (nI i) (loC (wb (fo w) i)) (hiC (wb (fo w) i) (nI Hc) (nI Dc)) un u).bind fun q => if q.1 = 0 then some (0, q.2) else chn n w (nI Hc) (nI Dc) m (i + 1) q.2 := fun un hun => by
      rw [chn]
      by_cases c : w = 10 ∧ i = 1
      · rw [if_pos c] at hun ⊢
        rw [h05, if_neg (by
          rintro (y | y)
          · exact e5.2.1 y
          · rw [e5.1] at y
            omega), e5.1, hun]
      · rw [if_neg c] at hun ⊢
        rw [hun]
    rcases num_step hn hT hP hr hw hi4 hk _ rfl with ⟨s1, p, x1, x2, x3, x4, x4b, x5⟩ | ⟨s2, u2, e2, v0, x1, x2, x3, x4, x5, x6, x7, x8, x9, x10⟩
    · refine Or.inl ⟨s1, u, p, x1 j, ?_, x3, x4, x4b, x5⟩
      rw [hch _ rfl, x2, Option.bind_some, if_pos rfl]
    · have hk2 : 1 ≤ i + 1 → s2 4 (4 * r) = u2 4 (5 * r + 1) := fun _ => by
        rw [x5, x6]
        by_cases c : i = 0
        · subst c
          rw [Nat.add_zero, Nat.add_zero, ud_s, ud_s]
        · rw [ud_n _ _ (by omega), ud_n _ _ (by omega)]
          exact hk (by omega)
      have hc2 : chn n w (nI Hc) (nI Dc) (m + 1) i u = chn n w (nI Hc) (nI Dc) m (i + 1) u2 := by
        rw [hch _ rfl, x2]
        simp only [Option.bind_some, i10, if_false]
      rcases ih (i + 1) (by omega) s2 u2 e2 x3 hk2 j (by omega) with ⟨s1, u1, p, y1, y2, y3, y4, y4b, y5⟩ | ⟨s1, u1, e1, v, y1, y2, y3, y4, y5, y6, y7⟩
      · exact Or.inl ⟨s1, u1, p, by rw [x1 j, y1], by rw [hc2, y2], y3, y4, y4b, y5⟩
      · refine Or.inr ⟨s1, u1, e1, fun k => if k = i then v0 else v k, by rw [x1 j, y1], by rw [hc2, y2], y3, by rw [y4, x4], fun x hx => by rw [y5 x (by omega), x5, ud_n _ _ (by omega)], fun x hx => by rw [y6 x (by omega), x6, ud_n _ _ (by omega)], fun k h1 h2 => ?_⟩
        by_cases c : k = i
        · subst c
          dsimp only
          rw [if_pos rfl]
          refine ⟨by rw [y5 _ (by omega), x5, ud_s], by rw [y6 _ (by omega), x6, ud_s], x7, x8, x9, fun z => ?_⟩
          rw [if_pos z] at x10
          rw [y5 _ (by omega), x5, ud_n _ _ (by omega), hk (by omega)]
          exact x10
        · dsimp only
          rw [if_neg c]
          exact y7 k (by omega) h2
theorem dl_01 : ∀ w, w < 13 → f_X6_isDeedLine (nI (mw w)) = some (if w < 4 then 1 else 0) := by decide +kernel
theorem mw_0 : ∀ w, w < 13 → (nI (mw w) = 0) = (w = 4) ∧ (nI (mw w) = -1) = False ∧ (nI w = -1) = False ∧ ((3 : Int32) < nI w) = (3 < w) ∧ (nI w = 4) = (w = 4) := fun w hw => by
  have h := (show ∀ w, w < 13 → (decide (nI (mw w) = 0) = decide (w = 4)) ∧ (decide (nI (mw w) = -1) = false) ∧ (decide (nI w = -1) = false) ∧ (decide ((3 : Int32) < nI w) = decide (3 < w)) ∧ (decide (nI w = 4) = decide (w = 4)) from by decide +kernel) w hw
  exact ⟨propext (decide_eq_decide.mp h.1), eq_false (of_decide_eq_false h.2.1), eq_false (of_decide_eq_false h.2.2.1), propext (decide_eq_decide.mp h.2.2.2.1), propext (decide_eq_decide.mp h.2.2.2.2)⟩
/-- what the model does behind a line's numbers -/
def tlM (w : Nat) (q4 : Int32 × St) : Option (Int32 × St) := if q4.1 = 0 then some (0, q4.2) else if w = 4 then if ((5 : Int32) * (q4.2 0 5)) + 1 < 0 ∨ 50 ≤ (((5 : Int32) * (q4.2 0 5)) + 1).toNatClampNeg then none else if w = 4 then some (1, up (up (up q4.2 0 15 (q4.2 4 ((((5 : Int32) * (q4.2 0 5)) + 1).toNatClampNeg))) 0 16 0) 0 5 (((up (up q4.2 0 15 (q4.2 4 ((((5 : Int32) * (q4.2 0 5)) + 1).toNatClampNeg))) 0 16 0) 0 5) + 1)) else if (if w < 4 then (1 : Int32) else 0) = 0 then some (1, up (up (up q4.2 0 15 (q4.2 4 ((((5 : Int32) * (q4.2 0 5)) + 1).toNatClampNeg))) 0 16 ((up q4.2 0 15 (q4.2 4 ((((5 : Int32) * (q4.2 0 5)) + 1).toNatClampNeg))) 0 16)) 0 5 (((up (up q4.2 0 15 (q4.2 4 ((((5 : Int32) * (q4.2 0 5)) + 1).toNatClampNeg))) 0 16 ((up q4.2 0 15 (q4.2 4 ((((5 : Int32) * (q4.2 0 5)) + 1).toNatClampNeg))) 0 16)) 0 5) + 1)) else some (1, up (up (up q4.2 0 15 (q4.2 4 ((((5 : Int32) * (q4.2 0 5)) + 1).toNatClampNeg))) 0 16 (((up q4.2 0 15 (q4.2 4 ((((5 : Int32) * (q4.2 0 5)) + 1).toNatClampNeg))) 0 16) + 1)) 0 5 (((up (up q4.2 0 15 (q4.2 4 ((((5 : Int32) * (q4.2 0 5)) + 1).toNatClampNeg))) 0 16 (((up q4.2 0 15 (q4.2 4 ((((5 : Int32) * (q4.2 0 5)) + 1).toNatClampNeg))) 0 16) + 1)) 0 5) + 1)) else if w = 4 then some (1, up (up (up q4.2 0 15 (q4.2 0 15)) 0 16 0) 0 5 (((up (up q4.2 0 15 (q4.2 0 15)) 0 16 0) 0 5) + 1)) else if (if w < 4 then (1 : Int32) else 0) = 0 then some (1, up (up (up q4.2 0 15 (q4.2 0 15)) 0 16 ((up q4.2 0 15 (q4.2 0 15)) 0 16)) 0 5 (((up (up q4.2 0 15 (q4.2 0 15)) 0 16 ((up q4.2 0 15 (q4.2 0 15)) 0 16)) 0 5) + 1)) else some (1, up (up (up q4.2 0 15 (q4.2 0 15)) 0 16 (((up q4.2 0 15 (q4.2 0 15)) 0 16) + 1)) 0 5 (((up (up q4.2 0 15 (q4.2 0 15)) 0 16 (((up q4.2 0 15 (q4.2 0 15)) 0 16) + 1)) 0 5) + 1))
theorem tlM_0 (w : Nat) (t : St) : tlM w (0, t) = some (0, t) := rfl
theorem tlM_1 {w r Hc Dc : Nat} {u2 : St} {v : Nat → Nat} (hr : r < 10) (z5 : u2 0 5 = nI r) (z15 : u2 0 15 = nI Hc) (z16 : u2 0 16 = nI Dc) (zv : w = 4 → u2 4 (5 * r + 1) = nI (v 0)) : tlM w (1, u2) = some (1, up (up (up u2 0 15 (nI (nxH w v Hc))) 0 16 (nI (nxD w Dc))) 0 5 (nI (r + 1))) := by
  have e5 := e51 r hr
  have o1 : ∀ x y, (up (up u2 0 15 x) 0 16 y) 0 5 = nI r := fun x y => by rw [up_s, ud_n _ _ (by omega), up_s, ud_n _ _ (by omega)]; exact z5
  have o2 : ∀ x, (up u2 0 15 x) 0 16 = nI Dc := fun x => by rw [up_s, ud_n _ _ (by omega)]; exact z16
  unfold tlM
  simp only [i10, z5, z15, e5.1, eq_false e5.2.1, eq_false (show ¬ 50 ≤ 5 * r + 1 by omega), or_self, if_false, o1, o2, nI_1]
  unfold nxH nxD
  by_cases c4 : w = 4
  · rw [if_pos c4, if_pos c4, if_pos c4, if_pos c4, zv c4]
    rfl
  · rw [if_neg c4, if_neg c4, if_neg c4, if_neg c4]
    by_cases c3 : w < 4
    · rw [if_pos c3, if_neg (by decide), if_pos c3]
    · rw [if_neg c3, if_pos rfl, if_neg c3]
theorem m_line {u u1 : St} {w r n Dc : Nat} (hr : r < 10) (hw : w < 13) (w2 : f_X6_wordOf n u = some (nI (mw w))) (ht : f_X6_token n u = some u1) (h5 : u1 0 5 = nI r) (hd : u 0 16 = nI Dc) (hD : Dc ≤ 6) : f_X6_readsLine n u = if w < 4 ∧ Dc = 6 then some (0, u) else (f_X6_readsRest n (nI (mw w)) (up u1 4 (5 * r) (nI (mw w)))).bind (tlM w) := by
  obtain ⟨g1, g2, g3, g4, g5⟩ := mw_0 w hw
  have e5 := e51 r hr
  unfold f_X6_readsLine
  rw [w2, Option.bind_some]
  simp only [g1, g2, if_false, dl_01 w hw, Option.bind_some, ht, h5, e5.2.2.1, eq_false e5.2.2.2, eq_false (show ¬ 50 ≤ 5 * r by omega), or_self, hd, show (nI Dc = 6) = (Dc = 6) from by rw [show (6 : Int32) = nI 6 from rfl, eqI (by omega) (by omega)]]
  by_cases c3 : w < 4
  · rw [if_neg (show ¬ (if w < 4 then (1 : Int32) else 0) = 0 from by rw [if_pos c3]; decide)]
    by_cases c6 : Dc = 6
    · rw [if_pos c6, if_pos (show w < 4 ∧ Dc = 6 from ⟨c3, c6⟩)]
    · rw [if_neg c6, if_neg (show ¬ (w < 4 ∧ Dc = 6) from fun z => c6 z.2)]
      rfl
  · rw [if_pos (show (if w < 4 then (1 : Int32) else 0) = 0 from by rw [if_neg c3]), if_neg (show ¬ (w < 4 ∧ Dc = 6) from fun z => c3 z.1)]
    rfl
/-- a line, in both: at fault at the same place, or read alike -/
theorem line {a b s u : St} {len e r n Hc Dc : Nat} {cs : Nat → Nat} (hn : 3000 ≤ n) (hT : TT a b len cs) (hP : PR a b s u len cs e r r Hc Dc) (hr : r < 10) (hD : Dc ≤ 6) :
    (∃ (s1 u1 : St) (p : Nat), f_X2_readLine n s = some (0, s1) ∧ f_X6_readsLine n u = some (0, u1) ∧ s1 1 2 = nI p ∧ u1 0 13 = nI p ∧ p ≤ len ∧ FR a b s1 u1 len) ∨
    (∃ (s1 u1 : St) (e1 w : Nat) (v : Nat → Nat), f_X2_readLine n s = some (1, s1) ∧ f_X6_readsLine n u = some (1, u1) ∧ PR a b s1 u1 len cs e1 r (r + 1) (nxH w v Hc) (nxD w Dc) ∧ LN s1 u1 r w v Hc Dc ∧ (∀ x, x < r → s1 3 x = s 3 x) ∧ (∀ x, x < 4 * r → s1 4 x = s 4 x) ∧ ∀ x, x < 5 * r → u1 4 x = u 4 x) := by
  obtain ⟨hF, ⟨p1, p2, p, q, p3, p4, p5, p6⟩, ⟨h1, h2, h3, h4⟩, h5, h6⟩ := id hP
  obtain ⟨hl, hX, hM, hc⟩ := id hT
  have ht := tok_le p3
  have e5 := e51 r hr
  obtain ⟨s1, x1, x2, x3, x4, x5⟩ := x_token (n := n) hn hl hc (TT_x hT hF) p1 p3
  have hX1 : XT s1 len cs := ⟨by rw [x3 1 (by omega) (by omega)]; exact hF.2.1, fun i hi => by rw [x2 2 (by omega)]; exact (TT_x hT hF).2 i hi⟩
  have hFR1 : FR a b s1 u len := ⟨⟨fun i h1 h2 h3 => by rw [x2 i h1]; exact hF.1.1 i h1 h2 h3, hF.1.2⟩, by rw [x3 1 (by omega) (by omega)]; exact hF.2.1, hF.2.2⟩
  have hdf : ∀ x : Int32, x = nI Dc → (x = 6) = (Dc = 6) := fun x e => by rw [e, show (6 : Int32) = nI 6 from rfl, eqI (by omega) (by omega)]
  unfold f_X2_readLine
  rw [x1, Option.bind_some]
  rcases words (n := n) hn hl hX1 (TT_m hT hF) x4 x5 p4 p6 ht.1 ht.2.1 with ⟨w1, w2⟩ | ⟨w, hw, w1, w2⟩
  · refine Or.inl ⟨s1, u, p, ?_, ?_, x4, p4, ht.2.2, hFR1⟩
    · rw [w1, Option.bind_some, if_pos rfl]
    · unfold f_X6_readsLine
      rw [w2, Option.bind_some, if_pos rfl]
  · obtain ⟨g1, g2, g3, g4, g5⟩ := mw_0 w hw
    obtain ⟨f1, f2, f3, f4⟩ := fo_ok w hw
    obtain ⟨pp, qq, t1⟩ := tokEx cs ht.2.1
    obtain ⟨u1, v1, v2, v3, v4, v5, v6⟩ := m_token (u := u) (n := n) hn hl hc (TT_m hT hF) p5 t1
    have h15 : u1 0 5 = nI r := by rw [v3 5 (by omega) (by omega) (by omega)]; exact h6
    rw [w1, Option.bind_some, m_line (n := n) hr hw w2 v1 h15 h4 hD]
    simp only [g3, if_false, g4, x3 5 (show (5 : Nat) ≠ 2 by omega) (show (5 : Nat) ≠ 3 by omega), x3 8 (show (8 : Nat) ≠ 2 by omega) (show (8 : Nat) ≠ 3 by omega), h5, cl (show r < 100000 by omega), gj hr (show 10 ≤ 100000 by omega), f1, Option.bind_some]
    by_cases full : w < 4 ∧ Dc = 6
    · rw [if_pos full, if_neg (show ¬ 3 < w by omega), if_pos (show s 1 5 = 6 from by rw [hdf _ h3]; exact full.2)]
      exact Or.inl ⟨s1, u, p, rfl, rfl, x4, p4, ht.2.2, hFR1⟩
    · rw [if_neg full]
      have hP1 : PR a b (up s1 3 r (nI w)) (up u1 4 (5 * r) (nI (mw w))) len cs q r r Hc Dc := ⟨⟨⟨fun i h1 h2 h3 => by rw [up_n _ _ _ h2]; exact hFR1.1.1 i h1 h2 h3, fun i h1 h2 => by rw [up_n _ _ _ h2, v2 i h1]; exact hF.1.2 i h1 h2⟩, by rw [up_n _ _ _ (by omega)]; exact hFR1.2.1, fun k k1 k2 k3 k4 k5 k6 => by rw [up_n _ _ _ (by omega), v3 k k2 k3 k4]; exact hF.2.2 k k1 k2 k3 k4 k5 k6⟩, ⟨by rw [up_n _ _ _ (by omega)]; exact x5, ht.2.1, pp, qq, t1, by rw [up_n _ _ _ (by omega)]; exact v4, by rw [up_n _ _ _ (by omega)]; exact v5, by rw [up_n _ _ _ (by omega)]; exact v6⟩, ⟨by rw [up_n _ _ _ (by omega), x3 4 (by omega) (by omega)]; exact h1, by rw [up_n _ _ _ (by omega), v3 15 (by omega) (by omega) (by omega)]; exact h2, by rw [up_n _ _ _ (by omega), x3 5 (by omega) (by omega)]; exact h3, by rw [up_n _ _ _ (by omega), v3 16 (by omega) (by omega) (by omega)]; exact h4⟩, by rw [up_n _ _ _ (by omega), x3 8 (by omega) (by omega)]; exact h5, by rw [up_n _ _ _ (by omega)]; exact h15⟩
      have hz := nums (n := n) (w := w) hn hT hr hw (wl (fo w)) 0 (by omega) _ _ _ hP1 (fun z => absurd z (by omega)) n (by omega)
      have hrest : f_X6_readsRest n (nI (mw w)) (up u1 4 (5 * r) (nI (mw w))) = chn n w (nI Hc) (nI Dc) (wl (fo w)) 0 (up u1 4 (5 * r) (nI (mw w))) := by
        rw [rest_chn n _ w hw, hP1.2.2.1.2.1, hP1.2.2.1.2.2.2]
      have eX : (if 3 < w then L_X2_readLine_47 n (nI w) (fo w) n 0 (up s1 3 r (nI w)) else if s 1 5 = 6 then some (0, s1) else L_X2_readLine_47 n (nI w) (fo w) n 0 (up s1 3 r (nI w))) = L_X2_readLine_47 n (nI w) (fo w) n (nI 0) (up s1 3 r (nI w)) := by
        by_cases c : 3 < w
        · rw [if_pos c]
          rfl
        · rw [if_neg c, if_neg (show ¬ s 1 5 = 6 from by rw [hdf _ h3]; intro z; exact full ⟨by omega, z⟩)]
          rfl
      rw [eX, hrest]
      rcases hz with ⟨s2, u2, p7, y1, y2, y3, y4, y4b, y5⟩ | ⟨s2, u2, e1, v, y1, y2, y3, y4, y5, y6, y7⟩
      · rw [y1, y2, Option.bind_some, tlM_0]
        exact Or.inl ⟨s2, u2, p7, rfl, rfl, y3, y4, y4b, y5⟩
      · obtain ⟨zF, ⟨za, zb, zp, zq, zc, zd, ze, zf⟩, ⟨zg, zh, zi, zj⟩, zk, zl⟩ := y3
        have a0 := fun k => y7 k (Nat.zero_le k)
        rw [y1, y2, Option.bind_some, tlM_1 (v := v) hr zl zh zj (fun _ => (a0 0 f4).2.1)]
        have eB : ∃ s3, B_X2_readLine_140 n (nI w) s2 = some (1, s3) ∧ (∀ i, i ≠ 1 → s3 i = s2 i) ∧ (∀ k, k ≠ 4 → k ≠ 5 → s3 1 k = s2 1 k) ∧ s3 1 4 = nI (nxH w v Hc) ∧ s3 1 5 = nI (nxD w Dc) := by
          unfold B_X2_readLine_140 nxH nxD
          simp only [g4, g5]
          by_cases c4 : w = 4
          · rw [if_pos c4, if_pos c4, if_pos c4]
            unfold f_X2_number
            have z1 := e44 r hr 0 (by omega)
            rw [show nI 0 = (0 : Int32) from rfl] at z1
            rw [zk, z1.1, if_neg (by
              rintro (y | y)
              · exact z1.2 y
              · omega), Option.bind_some, (a0 0 f4).1]
            exact ⟨_, rfl, fun i hi => by rw [up_n _ _ _ hi, up_n _ _ _ hi], fun k k1 k2 => by rw [up_s, ud_n _ _ k2, up_s, ud_n _ _ k1], by rw [up_s, ud_n _ _ (by omega), up_s, ud_s], by rw [up_s, ud_s]; rfl⟩
          · rw [if_neg c4, if_neg c4, if_neg c4]
            by_cases c3 : 3 < w
            · rw [if_pos c3, if_neg (show ¬ w < 4 by omega)]
              exact ⟨s2, rfl, fun _ _ => rfl, fun _ _ _ => rfl, zg, zi⟩
            · rw [if_neg c3, if_pos (show w < 4 by omega), zi, nI_1]
              exact ⟨_, rfl, fun i hi => by rw [up_n _ _ _ hi], fun k k1 k2 => by rw [up_s, ud_n _ _ k2], by rw [up_s, ud_n _ _ (by omega)]; exact zg, by rw [up_s, ud_s]⟩
        obtain ⟨s3, b1, b2, b3, b4, b5⟩ := eB
        have U : ∀ i, i ≠ 0 → (up (up (up u2 0 15 (nI (nxH w v Hc))) 0 16 (nI (nxD w Dc))) 0 5 (nI (r + 1))) i = u2 i := fun i hi => by rw [up_n _ _ _ hi, up_n _ _ _ hi, up_n _ _ _ hi]
        have U0 : ∀ k, k ≠ 5 → k ≠ 15 → k ≠ 16 → (up (up (up u2 0 15 (nI (nxH w v Hc))) 0 16 (nI (nxD w Dc))) 0 5 (nI (r + 1))) 0 k = u2 0 k := fun k k1 k2 k3 => by rw [up_s, ud_n _ _ k1, up_s, ud_n _ _ k3, up_s, ud_n _ _ k2]
        rw [b1]
        refine Or.inr ⟨s3, _, e1, w, v, rfl, rfl, ⟨⟨⟨fun i i1 i2 i3 => by rw [b2 i i1]; exact zF.1.1 i i1 i2 i3, fun i i1 i2 => by rw [U i i1]; exact zF.1.2 i i1 i2⟩, by rw [b3 1 (by omega) (by omega)]; exact zF.2.1, fun k k1 k2 k3 k4 k5 k6 => by rw [U0 k k1 k5 k6]; exact zF.2.2 k k1 k2 k3 k4 k5 k6⟩, ⟨by rw [b3 3 (by omega) (by omega)]; exact za, zb, zp, zq, zc, by rw [U0 13 (by omega) (by omega) (by omega)]; exact zd, by rw [U0 12 (by omega) (by omega) (by omega)]; exact ze, by rw [U0 14 (by omega) (by omega) (by omega)]; exact zf⟩, ⟨b4, by rw [up_s, ud_n _ _ (by omega), up_s, ud_n _ _ (by omega), up_s, ud_s], b5, by rw [up_s, ud_n _ _ (by omega), up_s, ud_s]⟩, by rw [b3 8 (by omega) (by omega)]; exact zk, by rw [up_s, ud_s]⟩, ⟨hw, by rw [b2 3 (by omega), y4, up_s, ud_s], by rw [U 4 (by omega), y6 _ (by omega), up_s, ud_s], fun k hk => ?_, fun c10 => ?_, fun c4 => ?_⟩, fun x hx => by rw [b2 3 (by omega), y4, up_s, ud_n _ _ (by omega), x2 3 (by omega)], fun x hx => by rw [b2 4 (by omega), y5 x (by omega), up_n _ _ _ (by omega), x2 4 (by omega)], fun x hx => by rw [U 4 (by omega), y6 x (by omega), up_s, ud_n _ _ (by omega), v2 4 (by omega)]⟩
        · rw [b2 4 (by omega), U 4 (by omega)]
          obtain ⟨d1, d2, d3, d4, d5, d6⟩ := a0 k hk
          exact ⟨d1, d2, d3, d4, d5⟩
        · subst c10
          obtain ⟨d1, d2, d3, d4, d5, d6⟩ := a0 1 (by decide)
          have d7 := d6 ⟨rfl, rfl⟩
          have d8 := (a0 0 f4).1
          rw [Nat.add_zero] at d8
          rw [d8] at d7
          intro y
          exact d7 (by rw [y])
        · rcases Nat.lt_or_ge Dc 6 with y | y
          · exact y
          · exact absurd ⟨c4, by omega⟩ full
