/-! ===== a text read to its first fault ===== -/
def LF (s u : St) (L H0 D0 : Nat) (ws : Nat → Nat) (vs : Nat → Nat → Nat) (hs ds : Nat → Nat) : Prop := hs 0 = H0 ∧ ds 0 = D0 ∧ ∀ m, m < L → LN s u m (ws m) (vs m) (hs m) (ds m) ∧ hs (m + 1) = nxH (ws m) (vs m) (hs m) ∧ ds (m + 1) = nxD (ws m) (ds m)
theorem LN_fr {s u s1 u1 : St} {m L w H D : Nat} {v : Nat → Nat} (h : LN s u m w v H D) (hm : m < L) (h3 : ∀ x, x < L → s1 3 x = s 3 x) (h4 : ∀ x, x < 4 * L → s1 4 x = s 4 x) (h5 : ∀ x, x < 5 * L → u1 4 x = u 4 x) : LN s1 u1 m w v H D := by
  obtain ⟨a1, a2, a3, a4, a5, a6⟩ := h
  obtain ⟨f1, f2, f3, f4⟩ := fo_ok w a1
  refine ⟨a1, by rw [h3 m hm]; exact a2, by rw [h5 _ (by omega)]; exact a3, fun k hk => ?_, a5, a6⟩
  rw [h4 _ (by omega), h5 _ (by omega)]
  exact a4 k hk
theorem LN_bd {s u : St} {m w H D : Nat} {v : Nat → Nat} (h : LN s u m w v H D) (hH : 2 ≤ H ∧ H ≤ 8) (hD : D ≤ 6) : (2 ≤ nxH w v H ∧ nxH w v H ≤ 8) ∧ nxD w D ≤ 6 := by
  obtain ⟨a1, a2, a3, a4, a5, a6⟩ := h
  unfold nxH nxD
  by_cases c4 : w = 4
  · subst c4
    obtain ⟨b1, b2, b3, b4, b5⟩ := a4 0 (by decide)
    have e1 : loC (wb (fo 4) 0) = nI 2 := by decide
    have e2 : hiC (wb (fo 4) 0) (nI H) (nI D) = nI 8 := by
      show hiC 78 (nI H) (nI D) = nI 8
      unfold hiC
      rw [if_neg (by decide), if_neg (by decide), if_pos rfl]
      rfl
    rw [e1, leI (by omega) (by omega)] at b4
    rw [e2, leI (by omega) (by omega)] at b5
    rw [if_pos rfl, if_pos rfl]
    omega
  · rw [if_neg c4, if_neg c4]
    by_cases c3 : w < 4
    · have := a6 c3
      rw [if_pos c3]
      omega
    · rw [if_neg c3]
      omega
theorem LF_more {s u s1 u1 : St} {L H0 D0 w : Nat} {v : Nat → Nat} {ws : Nat → Nat} {vs : Nat → Nat → Nat} {hs ds : Nat → Nat} (h : LF s u L H0 D0 ws vs hs ds) (hN : LN s1 u1 L w v (hs L) (ds L)) (h3 : ∀ x, x < L → s1 3 x = s 3 x) (h4 : ∀ x, x < 4 * L → s1 4 x = s 4 x) (h5 : ∀ x, x < 5 * L → u1 4 x = u 4 x) : LF s1 u1 (L + 1) H0 D0 (fun m => if m = L then w else ws m) (fun m => if m = L then v else vs m) (fun m => if m = L + 1 then nxH w v (hs L) else hs m) (fun m => if m = L + 1 then nxD w (ds L) else ds m) := by
  obtain ⟨b1, b2, b3⟩ := h
  refine ⟨?_, ?_, fun m hm => ?_⟩
  · dsimp only
    rw [if_neg (by omega)]
    exact b1
  · dsimp only
    rw [if_neg (by omega)]
    exact b2
  · dsimp only
    rw [if_neg (show ¬ m = L + 1 by omega), if_neg (show ¬ m = L + 1 by omega)]
    by_cases c : m = L
    · subst c
      rw [if_pos rfl, if_pos rfl, if_pos rfl, if_pos rfl]
      exact ⟨hN, rfl, rfl⟩
    · rw [if_neg c, if_neg c, if_neg (show ¬ m + 1 = L + 1 by omega), if_neg (show ¬ m + 1 = L + 1 by omega)]
      obtain ⟨c1, c2, c3⟩ := b3 m (by omega)
      exact ⟨LN_fr c1 (show m < L by omega) h3 h4 h5, c2, c3⟩
theorem LF_same {s u s1 u1 : St} {L H0 D0 : Nat} {ws : Nat → Nat} {vs : Nat → Nat → Nat} {hs ds : Nat → Nat} (h : LF s u L H0 D0 ws vs hs ds) (h3 : s1 3 = s 3) (h4 : s1 4 = s 4) (h5 : u1 4 = u 4) : LF s1 u1 L H0 D0 ws vs hs ds := by
  obtain ⟨b1, b2, b3⟩ := h
  refine ⟨b1, b2, fun m hm => ?_⟩
  obtain ⟨c1, c2, c3⟩ := b3 m hm
  exact ⟨LN_fr c1 hm (fun x _ => by rw [h3]) (fun x _ => by rw [h4]) (fun x _ => by rw [h5]), c2, c3⟩
/-- what a reading comes to -/
def RD2 (a b : St) (len H0 D0 : Nat) (f g : Option (Int32 × St)) : Prop := ∃ (res : Int32) (s1 u1 : St), f = some (res, s1) ∧ g = some (res, u1) ∧ FR a b s1 u1 len ∧ ((res = -1 ∧ ∃ (L : Nat) (ws : Nat → Nat) (vs : Nat → Nat → Nat) (hs ds : Nat → Nat), L ≤ 10 ∧ s1 1 8 = nI L ∧ u1 0 5 = nI L ∧ LF s1 u1 L H0 D0 ws vs hs ds) ∨ ∃ p, p ≤ len ∧ res = nI p)
theorem srt59 : srt 59 = 0 := by decide
/-- one line more, and what stands behind it -/
theorem reading1 {a b s u : St} {len n H0 D0 r e : Nat} {cs : Nat → Nat} {ws : Nat → Nat} {vs : Nat → Nat → Nat} {hs ds : Nat → Nat} (hn : 3000 ≤ n) (hT : TT a b len cs) (hr : r < 10) (hP : PR a b s u len cs e r r (hs r) (ds r)) (hLF : LF s u r H0 D0 ws vs hs ds) (hD : ds r ≤ 6) (j j1 : Nat) (hj : 1 < j) (hj1 : 0 < j1) (more : ∀ (s2 u2 : St) (e2 w : Nat) (v : Nat → Nat), r + 1 < 10 → PR a b s2 u2 len cs e2 (r + 1) (r + 1) (nxH w v (hs r)) (nxD w (ds r)) → LN s2 u2 r w v (hs r) (ds r) → LF s2 u2 (r + 1) H0 D0 (fun m => if m = r then w else ws m) (fun m => if m = r then v else vs m) (fun m => if m = r + 1 then nxH w v (hs r) else hs m) (fun m => if m = r + 1 then nxD w (ds r) else ds m) → RD2 a b len H0 D0 (L_X2_faultPlace_20 n (j - 1) s2) ((f_X6_readsLine n u2).bind fun q => if q.1 = 0 then some (q.2 0 13, q.2) else L_X6_fault_42 n (j1 - 1) q.2)) : RD2 a b len H0 D0 (L_X2_faultPlace_20 n j s) ((f_X6_readsLine n u).bind fun q => if q.1 = 0 then some (q.2 0 13, q.2) else L_X6_fault_42 n j1 q.2) := by
  obtain ⟨hl, hX, hM, hc⟩ := id hT
  obtain ⟨j, rfl⟩ : ∃ i, j = i + 2 := ⟨j - 2, by omega⟩
  obtain ⟨j1, rfl⟩ : ∃ i, j1 = i + 1 := ⟨j1 - 1, by omega⟩
  rw [show j + 2 - 1 = j + 1 by omega, show j1 + 1 - 1 = j1 by omega] at more
  have h18 : s 1 8 = nI r := hP.2.2.2.1
  rw [L_X2_faultPlace_20, if_neg (by rw [h18, show (10 : Int32) = nI 10 from rfl, leI (by omega) (by omega)]; omega)]
  rcases line (n := n) hn hT hP hr hD with ⟨s1, u1, p, x1, x2, x3, x4, x5, x6⟩ | ⟨s1, u1, e1, w, v, x1, x2, x3, x4, x5, x6, x7⟩
  · rw [x1, x2]
    simp only [Option.bind_some, if_true, x3, x4]
    exact ⟨nI p, s1, u1, rfl, rfl, x6, Or.inr ⟨p, x5, rfl⟩⟩
  · obtain ⟨hF, ⟨p1, p2, p, q, p3, p4, p5, p6⟩, ⟨h1, h2, h3, h4⟩, h5, h6⟩ := x3
    have ht := tok_le p3
    have hFu : FR a b (up s1 1 8 (nI (r + 1))) u1 len := ⟨⟨fun i h1 h2 h3 => by rw [up_n _ _ _ h1]; exact hF.1.1 i h1 h2 h3, hF.1.2⟩, by rw [up_s, ud_n _ _ (by omega)]; exact hF.2.1, hF.2.2⟩
    obtain ⟨s2, y1, y2, y3, y4, y5⟩ := x_token (s := up s1 1 8 (nI (r + 1))) (n := n) hn hl hc (TT_x hT hFu) (by rw [up_s, ud_n _ _ (by omega)]; exact p1) p3
    have hF2 : FR a b s2 u1 len := ⟨⟨fun i h1 h2 h3 => by rw [y2 i h1]; exact hFu.1.1 i h1 h2 h3, hF.1.2⟩, by rw [y3 1 (by omega) (by omega)]; exact hFu.2.1, hF.2.2⟩
    have e8 : s2 1 8 = nI (r + 1) := by rw [y3 8 (by omega) (by omega), up_s, ud_s]
    have e11 : s2 1 1 = nI len := hF2.2.1
    have e03 : u1 0 3 = nI len := (TT_m hT hF2).1
    have s3 : s2 3 = s1 3 := by rw [y2 3 (by omega), up_n _ _ _ (by omega)]
    have s4 : s2 4 = s1 4 := by rw [y2 4 (by omega), up_n _ _ _ (by omega)]
    have hLF1 := LF_more hLF x4 x5 x6 x7
    have hLF2 := LF_same (s1 := s2) (u1 := u1) hLF1 s3 s4 rfl
    rw [x1, x2]
    simp only [Option.bind_some, i10, if_false, h5, nI_1, y1, y4, e11]
    rw [L_X6_fault_42, e03, p4]
    by_cases c0 : p = len
    · rw [if_pos (by rw [c0]), if_pos (by rw [leI (by omega) (by omega)]; omega)]
      exact ⟨-1, s2, u1, rfl, rfl, hF2, Or.inl ⟨rfl, r + 1, _, _, _, _, by omega, e8, h6, hLF2⟩⟩
    · have hpl : p < len := by omega
      have hq := p3.2
      rw [if_neg (by rw [eqI (by omega) (by omega)]; exact c0), if_neg (show ¬ nI len ≤ nI p from by rw [leI (by omega) (by omega)]; omega), p6, pk_sub ht.1]
      simp only [cl (show p < 100000 by omega), gj (show p < 200 by omega) (show 200 ≤ 100000 by omega), if_false, (TT_x hT hF2).2 p hpl, (TT_m hT hF2).2 p hpl, h6, show (59 : Int32) = nI 59 from rfl, eqI (show cs p < 100000 by have := hc p hpl; omega) (show 59 < 100000 by omega), show (nI (q - p) = 1) = (q - p = 1) from eqI (b := 1) (by omega) (by omega), show ((10 : Int32) ≤ nI (r + 1)) = (10 ≤ r + 1) from leI (a := 10) (by omega) (by omega)]
      have fault : ∀ f g : Option (Int32 × St), f = some (nI p, s2) → g = some (nI p, u1) → RD2 a b len H0 D0 f g := fun f g hf hg => ⟨nI p, s2, u1, hf, hg, hF2, Or.inr ⟨p, by omega, rfl⟩⟩
      by_cases c1 : cs p = 59
      · have q1 : q - p = 1 := by
          rcases hq with z | ⟨z1, z2, z3, z4, z5⟩
          · omega
          · rcases Nat.lt_or_ge (p + 1) q with y | y
            · have := (z4 (p + 1) (by omega) y).1
              rw [c1, srt59] at this
              exact absurd rfl this
            · omega
        rw [if_pos c1, if_pos q1, if_pos c1]
        by_cases c2 : 10 ≤ r + 1
        · rw [if_pos c2]
          refine fault _ _ ?_ rfl
          rw [L_X2_faultPlace_20, if_pos (by rw [e8, show (10 : Int32) = nI 10 from rfl, leI (by omega) (by omega)]; omega), y4]
        · rw [if_neg c2]
          obtain ⟨pp, qq, t1⟩ := tokEx cs ht.2.1
          obtain ⟨u2, v1, v2, v3, v4, v5, v6⟩ := m_token (u := u1) (n := n) hn hl hc (TT_m hT hF2) p5 t1
          rw [v1, Option.bind_some]
          exact more s2 u2 q w v (by omega) ⟨⟨⟨hF2.1.1, fun i h1 h2 => by rw [v2 i h1]; exact hF2.1.2 i h1 h2⟩, e11, fun k k1 k2 k3 k4 k5 k6 => by rw [v3 k k2 k3 k4]; exact hF2.2.2 k k1 k2 k3 k4 k5 k6⟩, ⟨y5, ht.2.1, pp, qq, t1, v4, v5, v6⟩, ⟨by rw [y3 4 (by omega) (by omega), up_s, ud_n _ _ (by omega)]; exact h1, by rw [v3 15 (by omega) (by omega) (by omega)]; exact h2, by rw [y3 5 (by omega) (by omega), up_s, ud_n _ _ (by omega)]; exact h3, by rw [v3 16 (by omega) (by omega) (by omega)]; exact h4⟩, e8, by rw [v3 5 (by omega) (by omega) (by omega)]; exact h6⟩ (LN_fr x4 (Nat.lt_succ_self r) (fun x _ => by rw [s3]) (fun x _ => by rw [s4]) (fun x _ => by rw [v2 4 (by omega)])) (LF_same hLF2 rfl rfl (by rw [v2 4 (by omega)]))
      · rw [if_neg c1]
        refine fault _ _ rfl ?_
        by_cases q1 : q - p = 1
        · rw [if_pos q1, if_neg c1]
        · rw [if_neg q1]
theorem reading {a b : St} {len n H0 D0 : Nat} {cs : Nat → Nat} (hn : 3000 ≤ n) (hT : TT a b len cs) : ∀ g r, r + g = 9 → ∀ (s u : St) (e : Nat) (ws : Nat → Nat) (vs : Nat → Nat → Nat) (hs ds : Nat → Nat), PR a b s u len cs e r r (hs r) (ds r) → LF s u r H0 D0 ws vs hs ds → (2 ≤ hs r ∧ hs r ≤ 8) → ds r ≤ 6 → ∀ j j1, g + 1 < j → g < j1 → RD2 a b len H0 D0 (L_X2_faultPlace_20 n j s) ((f_X6_readsLine n u).bind fun q => if q.1 = 0 then some (q.2 0 13, q.2) else L_X6_fault_42 n j1 q.2) := by
  obtain ⟨hl, hX, hM, hc⟩ := id hT
  intro g
  induction g with
  | zero =>
    intro r hr s u e ws vs hs ds hP hLF hH hD j j1 hj hj1
    exact reading1 hn hT (by omega) hP hLF hD j j1 (by omega) (by omega) (fun s2 u2 e2 w v hr9 => absurd hr9 (by omega))
  | succ g ih =>
    intro r hr s u e ws vs hs ds hP hLF hH hD j j1 hj hj1
    refine reading1 hn hT (by omega) hP hLF hD j j1 (by omega) (by omega) (fun s2 u2 e2 w v hr9 hP2 hN hLF2 => ?_)
    have hb := LN_bd hN hH hD
    have hP3 : PR a b s2 u2 len cs e2 (r + 1) (r + 1) ((fun m => if m = r + 1 then nxH w v (hs r) else hs m) (r + 1)) ((fun m => if m = r + 1 then nxD w (ds r) else ds m) (r + 1)) := by
      dsimp only
      rw [if_pos rfl, if_pos rfl]
      exact hP2
    exact ih (r + 1) (by omega) s2 u2 e2 _ _ _ _ hP3 hLF2 (by rw [if_pos rfl]; exact hb.1) (by rw [if_pos rfl]; exact hb.2) (j - 1) (j1 - 1) (by omega) (by omega)
/-- from the text's begin -/
theorem fault_of {a b : St} {H Dn F n : Nat} (hn : 3000 ≤ n) (hR : RR a b H Dn F) : ∃ (len : Nat) (cs : Nat → Nat), TT a b len cs ∧ RD2 a b len H Dn (f_X2_faultPlace n (a 5 0) (a 5 1) a) (f_X6_fault n b) := by
  have hT0 := hR.1
  obtain ⟨len, l1, l2, l3, l4⟩ := hR.2.2.2.2.2.2
  have hTT : TT a b len (fun i => (a 2 i).toNatClampNeg) := ⟨l1, ⟨l2, fun i hi => by
    obtain ⟨-, c, c1, c2⟩ := l4 i hi
    dsimp only
    rw [c2, cl (by omega)]⟩, ⟨l3, fun i hi => by
    obtain ⟨c0, c, c1, c2⟩ := l4 i hi
    dsimp only
    rw [c0, c2, cl (by omega)]⟩, fun i hi => by
    obtain ⟨-, c, c1, c2⟩ := l4 i hi
    dsimp only
    rw [c2, cl (by omega)]
    exact c1⟩
  refine ⟨len, _, hTT, ?_⟩
  generalize (fun i => (a 2 i).toNatClampNeg) = cs at hTT
  obtain ⟨hl, hX, hM, hc⟩ := id hTT
  obtain ⟨⟨g1, g2, g3, g4⟩, ⟨e1, e2, e3, e4, e5⟩, -⟩ := hT0
  obtain ⟨p, q, t1⟩ := tokEx cs (Nat.zero_le len)
  unfold f_X2_faultPlace f_X6_fault
  have q6 : (up (up b 0 12 0) 0 5 0) 0 6 = nI H := by rw [up_s, ud_n _ _ (by omega), up_s, ud_n _ _ (by omega)]; exact e2
  rw [q6]
  have q11 : (up (up (up b 0 12 0) 0 5 0) 0 15 (nI H)) 0 11 = nI Dn := by rw [up_s, ud_n _ _ (by omega), up_s, ud_n _ _ (by omega), up_s, ud_n _ _ (by omega)]; exact e4
  rw [q11, e1, e3]
  have B : ∀ i, i ≠ 0 → (up (up (up (up b 0 12 0) 0 5 0) 0 15 (nI H)) 0 16 (nI Dn)) i = b i := fun i hi => by rw [up_n _ _ _ hi, up_n _ _ _ hi, up_n _ _ _ hi, up_n _ _ _ hi]
  have B0 : ∀ k, k ≠ 5 → k ≠ 12 → k ≠ 15 → k ≠ 16 → (up (up (up (up b 0 12 0) 0 5 0) 0 15 (nI H)) 0 16 (nI Dn)) 0 k = b 0 k := fun k k1 k2 k3 k4 => by rw [up_s, ud_n _ _ k4, up_s, ud_n _ _ k3, up_s, ud_n _ _ k1, up_s, ud_n _ _ k2]
  have b12 : (up (up (up (up b 0 12 0) 0 5 0) 0 15 (nI H)) 0 16 (nI Dn)) 0 12 = nI 0 := by rw [up_s, ud_n _ _ (by omega), up_s, ud_n _ _ (by omega), up_s, ud_n _ _ (by omega), up_s, ud_s]; rfl
  have b5 : (up (up (up (up b 0 12 0) 0 5 0) 0 15 (nI H)) 0 16 (nI Dn)) 0 5 = nI 0 := by rw [up_s, ud_n _ _ (by omega), up_s, ud_n _ _ (by omega), up_s, ud_s]; rfl
  have b15 : (up (up (up (up b 0 12 0) 0 5 0) 0 15 (nI H)) 0 16 (nI Dn)) 0 15 = nI H := by rw [up_s, ud_n _ _ (by omega), up_s, ud_s]
  have b16 : (up (up (up (up b 0 12 0) 0 5 0) 0 15 (nI H)) 0 16 (nI Dn)) 0 16 = nI Dn := by rw [up_s, ud_s]
  generalize up (up (up (up b 0 12 0) 0 5 0) 0 15 (nI H)) 0 16 (nI Dn) = u at B B0 b12 b5 b15 b16
  obtain ⟨u1, v1, v2, v3, v4, v5, v6⟩ := m_token (u := u) (n := n) hn hl hc ⟨by rw [B0 3 (by omega) (by omega) (by omega) (by omega)]; exact l3, fun i hi => by rw [B 3 (by omega)]; exact hM.2 i hi⟩ b12 t1
  rw [v1, Option.bind_some]
  have A : ∀ i, i ≠ 1 → (up (up (up (up a 1 4 (nI H)) 1 5 (nI Dn)) 1 8 0) 1 3 0) i = a i := fun i hi => by rw [up_n _ _ _ hi, up_n _ _ _ hi, up_n _ _ _ hi, up_n _ _ _ hi]
  have a1 : (up (up (up (up a 1 4 (nI H)) 1 5 (nI Dn)) 1 8 0) 1 3 0) 1 1 = nI len := by rw [up_s, ud_n _ _ (by omega), up_s, ud_n _ _ (by omega), up_s, ud_n _ _ (by omega), up_s, ud_n _ _ (by omega)]; exact l2
  have a3 : (up (up (up (up a 1 4 (nI H)) 1 5 (nI Dn)) 1 8 0) 1 3 0) 1 3 = nI 0 := by rw [up_s, ud_s]; rfl
  have a4 : (up (up (up (up a 1 4 (nI H)) 1 5 (nI Dn)) 1 8 0) 1 3 0) 1 4 = nI H := by rw [up_s, ud_n _ _ (by omega), up_s, ud_n _ _ (by omega), up_s, ud_n _ _ (by omega), up_s, ud_s]
  have a5 : (up (up (up (up a 1 4 (nI H)) 1 5 (nI Dn)) 1 8 0) 1 3 0) 1 5 = nI Dn := by rw [up_s, ud_n _ _ (by omega), up_s, ud_n _ _ (by omega), up_s, ud_s]
  have a8 : (up (up (up (up a 1 4 (nI H)) 1 5 (nI Dn)) 1 8 0) 1 3 0) 1 8 = nI 0 := by rw [up_s, ud_n _ _ (by omega), up_s, ud_s]; rfl
  generalize up (up (up (up a 1 4 (nI H)) 1 5 (nI Dn)) 1 8 0) 1 3 0 = s at A a1 a3 a4 a5 a8
  exact reading hn hTT 9 0 (by omega) s u1 0 (fun _ => 0) (fun _ _ => 0) (fun _ => H) (fun _ => Dn) ⟨⟨⟨fun i h1 _ _ => A i h1, fun i h1 _ => by rw [v2 i h1]; exact B i h1⟩, a1, fun k k1 k2 k3 k4 k5 k6 => by rw [v3 k k2 k3 k4]; exact B0 k k1 k2 k5 k6⟩, ⟨a3, Nat.zero_le _, p, q, t1, v4, v5, v6⟩, ⟨a4, by rw [v3 15 (by omega) (by omega) (by omega)]; exact b15, a5, by rw [v3 16 (by omega) (by omega) (by omega)]; exact b16⟩, a8, by rw [v3 5 (by omega) (by omega) (by omega)]; exact b5⟩ ⟨rfl, rfl, fun m hm => absurd hm (by omega)⟩ ⟨g1, g2⟩ g3 n n (by omega) (by omega)
theorem RR_of_FR {a b s u : St} {H Dn F len : Nat} (hR : RR a b H Dn F) (hT : TT a b len (fun i => (a 2 i).toNatClampNeg)) (hF : FR a b s u len) : RR s u H Dn F := by
  obtain ⟨hl, hX, hM, hc⟩ := hT
  exact RR_fr hR (fun i _ h1 h2 h3 _ _ => hF.1.1 i h1 h2 h3) (by rw [hF.2.1]; exact hX.1.symm) (fun i h1 h2 _ _ _ => hF.1.2 i h1 h2) (fun k hk => hF.2.2 k (by omega) (by omega) (by omega) (by omega) (by omega) (by omega))
theorem RR_of_FR2 {a b s u : St} {H Dn F len : Nat} {cs : Nat → Nat} (hR : RR a b H Dn F) (hT : TT a b len cs) (hF : FR a b s u len) : RR s u H Dn F :=
  RR_fr hR (fun i _ h1 h2 h3 _ _ => hF.1.1 i h1 h2 h3) (by rw [hF.2.1]; exact hT.2.1.1.symm) (fun i h1 h2 _ _ _ => hF.1.2 i h1 h2) (fun k hk => hF.2.2 k (by omega) (by omega) (by omega) (by omega) (by omega) (by omega))
theorem o_fault {a b : St} {H Dn F n : Nat} (hn : 3000 ≤ n) (hR : RR a b H Dn F) : OK2 (f_X5_fault n a) (f_X6_fault n b) := by
  obtain ⟨len, cs, hT, res, s1, u1, h1, h2, h3, -⟩ := fault_of hn hR
  unfold f_X5_fault
  rw [h1, h2]
  exact ⟨res, s1, u1, H, Dn, F, rfl, rfl, RR_of_FR2 hR hT h3⟩
