/-! ===== good and harm ===== -/
/-- what is done in the k-th place of the days' rows -/
def dyF (a : St) (H F1 k : Nat) : Int32 := if k % 8 < H then itS a F1 (a 16) (k / 8) (k % 8) else -1
def sG (a : St) (f : Nat → Int32) : Nat → Int32
  | 0 => 0
  | k + 1 => sG a f k + if f k = -1 then 0 else a 12 (f k).toNatClampNeg
def sH (a : St) (f : Nat → Int32) : Nat → Int32
  | 0 => 0
  | k + 1 => sH a f k + if f k = -1 then 0 else if a 11 (f k).toNatClampNeg = nI (k % 8) then 0 else a 13 (f k).toNatClampNeg
/-- by one deed alone -/
def dG (a : St) (f : Nat → Int32) (d : Nat) : Nat → Int32
  | 0 => 0
  | k + 1 => dG a f d k + if f k = nI d then a 12 d else 0
def dH (a : St) (f : Nat → Int32) (d : Nat) : Nat → Int32
  | 0 => 0
  | k + 1 => dH a f d k + if f k = nI d then (if a 11 d = nI (k % 8) then 0 else a 13 d) else 0
def smD (g : Nat → Int32) : Nat → Int32
  | 0 => 0
  | k + 1 => smD g k + g k
theorem smD_cong {g w : Nat → Int32} : ∀ k, (∀ d, d < k → g d = w d) → smD g k = smD w k
  | 0, _ => rfl
  | k + 1, h => by
    unfold smD
    rw [smD_cong k (fun i hi => h i (by omega)), h k (by omega)]
theorem smD_add (g w : Nat → Int32) : ∀ k, smD (fun d => g d + w d) k = smD g k + smD w k
  | 0 => rfl
  | k + 1 => by
    unfold smD
    rw [smD_add g w k, Int32.add_assoc, Int32.add_assoc, ← Int32.add_assoc (smD w k) (g k) (w k), Int32.add_comm (smD w k) (g k), Int32.add_assoc]
theorem smD_0 : ∀ k, smD (fun _ => 0) k = 0
  | 0 => rfl
  | k + 1 => by
    unfold smD
    rw [smD_0 k]
    rfl
theorem smD_one (v : Nat → Int32) (x : Int32) (d0 : Nat) (hx : x = nI d0) (h6 : d0 < 6) : ∀ k, k ≤ 6 → smD (fun d => if x = nI d then v d else 0) k = if d0 < k then v d0 else 0
  | 0, _ => rfl
  | k + 1, hk => by
    unfold smD
    rw [smD_one v x d0 hx h6 k (by omega)]
    by_cases e : d0 = k
    · subst e
      rw [if_neg (by omega), if_pos hx, if_pos (by omega), Int32.zero_add]
    · have e1 : ¬ x = nI k := fun q => e (by
        rw [hx, eqI (by omega) (by omega)] at q
        exact q)
      rw [if_neg e1, Int32.add_zero]
      by_cases c2 : d0 < k
      · rw [if_pos c2, if_pos (by omega)]
      · rw [if_neg c2, if_neg (by omega)]
theorem smD_none (v : Nat → Int32) : ∀ k, k ≤ 6 → smD (fun d => if (-1 : Int32) = nI d then v d else 0) k = 0
  | 0, _ => rfl
  | k + 1, hk => by
    unfold smD
    rw [smD_none v k (by omega), if_neg (fun q => by
      have h := neM (show k < 100000 by omega)
      rw [← h]
      exact q.symm)]
    rfl
/-- all together is what the deeds are together -/
theorem sG_sum {a : St} {f : Nat → Int32} {Dn : Nat} (hD : Dn ≤ 6) : ∀ k, (∀ i, i < k → f i = -1 ∨ ∃ d, d < Dn ∧ f i = nI d) → sG a f k = smD (fun d => dG a f d k) Dn ∧ sH a f k = smD (fun d => dH a f d k) Dn
  | 0, _ => ⟨(smD_0 Dn).symm, (smD_0 Dn).symm⟩
  | k + 1, h => by
    obtain ⟨h1, h2⟩ := sG_sum hD k (fun i hi => h i (by omega))
    refine ⟨?_, ?_⟩
    · show (sG a f k + if f k = -1 then 0 else a 12 (f k).toNatClampNeg) = smD (fun d => dG a f d k + if f k = nI d then a 12 d else 0) Dn
      rw [smD_add, ← h1]
      rcases h k (by omega) with e | ⟨d, hd, e⟩
      · rw [e, if_pos rfl, smD_none (fun d => a 12 d) Dn hD]
      · rw [smD_one (fun d => a 12 d) (f k) d e (by omega) Dn hD, if_pos hd, if_neg (by rw [e, neM (by omega)]; exact id), e, cl (by omega)]
    · show (sH a f k + if f k = -1 then 0 else if a 11 (f k).toNatClampNeg = nI (k % 8) then 0 else a 13 (f k).toNatClampNeg) = smD (fun d => dH a f d k + if f k = nI d then (if a 11 d = nI (k % 8) then 0 else a 13 d) else 0) Dn
      rw [smD_add, ← h2]
      rcases h k (by omega) with e | ⟨d, hd, e⟩
      · rw [e, if_pos rfl, smD_none (fun d => if a 11 d = nI (k % 8) then 0 else a 13 d) Dn hD]
      · rw [smD_one (fun d => if a 11 d = nI (k % 8) then 0 else a 13 d) (f k) d e (by omega) Dn hD, if_pos hd, if_neg (by rw [e, neM (by omega)]; exact id), e, cl (by omega)]
theorem dyF_in {a : St} {H Dn F F1 : Nat} (hW : WT a H Dn F) (hs : wfS (a 16) Dn) (k : Nat) : dyF a H F1 k = -1 ∨ ∃ d, d < Dn ∧ dyF a H F1 k = nI d := by
  unfold dyF
  by_cases c : k % 8 < H
  · rw [if_pos c]
    exact itS_wf hW hs _ _ (by have := hW.1; omega)
  · rw [if_neg c]
    exact Or.inl rfl
/-- a deed's course hangs on whether it is forbidden itself, on nothing else -/
theorem dyF_bit {a : St} {H Dn F F1 F2 d : Nat} (hW : WT a H Dn F) (hd : d < 6) (e : fbN F1 d = fbN F2 d) (k : Nat) : (dyF a H F1 k = nI d) = (dyF a H F2 k = nI d) := by
  have hM : ¬ (-1 : Int32) = nI d := fun q => by
    have h := neM (show d < 100000 by omega)
    rw [← h]
    exact q.symm
  have ec : ∀ t h, allC a F1 t h d = allC a F2 t h d := by
    intro t
    induction t with
    | zero => exact fun _ => rfl
    | succ t ih =>
      intro h
      unfold allC
      rw [ih]
      unfold canT
      rw [e]
  unfold dyF
  by_cases c : k % 8 < H
  · rw [if_pos c, if_pos c, itS_char hW _ _ _ (by have := hW.1; omega), itS_char hW _ _ _ (by have := hW.1; omega)]
    generalize wy a (k / 8) (k % 8) = w
    by_cases c1 : w = 8
    · rw [if_pos c1, if_pos c1]
    · rw [if_neg c1, if_neg c1]
      by_cases c2 : a 16 w = -1
      · rw [if_pos c2, if_pos c2]
      · rw [if_neg c2, if_neg c2]
        by_cases c3 : a 16 w = nI d
        · rw [c3, cl (by omega), ec]
        · refine propext ⟨fun q => absurd ?_ c3, fun q => absurd ?_ c3⟩
          · split at q
            · exact q
            · exact absurd q hM
          · split at q
            · exact q
            · exact absurd q hM
  · rw [if_neg c, if_neg c]
theorem dG_bit {a : St} {f g : Nat → Int32} {d : Nat} (h : ∀ k, (f k = nI d) = (g k = nI d)) : ∀ k, dG a f d k = dG a g d k ∧ dH a f d k = dH a g d k
  | 0 => ⟨rfl, rfl⟩
  | k + 1 => by
    obtain ⟨h1, h2⟩ := dG_bit (a := a) h k
    unfold dG dH
    rw [h1, h2]
    simp only [h k]
    exact ⟨trivial, trivial⟩
theorem dG_skip {a : St} {f : Nat → Int32} {d k : Nat} (hd : d < 6) : ∀ m, (∀ i, i < m → f (k + i) = -1) → dG a f d (k + m) = dG a f d k ∧ dH a f d (k + m) = dH a f d k
  | 0, _ => ⟨rfl, rfl⟩
  | m + 1, h => by
    obtain ⟨h1, h2⟩ := dG_skip (a := a) (f := f) (k := k) hd m (fun i hi => h i (by omega))
    have h3 : ¬ f (k + m) = nI d := fun q => by
      rw [h m (by omega)] at q
      have h := neM (show d < 100000 by omega)
      rw [← h]
      exact q.symm
    show dG a f d (k + m) + (if f (k + m) = nI d then a 12 d else 0) = _ ∧ dH a f d (k + m) + (if f (k + m) = nI d then _ else 0) = _
    rw [if_neg h3, if_neg h3, h1, h2, Int32.add_zero, Int32.add_zero]
    exact ⟨rfl, rfl⟩
/-- the model's sums -/
theorem m_laySums {a b : St} {H Dn F F1 n T : Nat} (hn : 3000 ≤ n) (hT : RT a b H Dn F) (hT1 : T ≤ 99) (hs : wfS (a 16) Dn) (hd : ∀ u, u < T → ∀ h, h < H → b 9 (8 * u + h) = itS a F1 (a 16) u h) : ∃ b1, f_X6_laySums n (nI T) b = some b1 ∧ (∀ i, i ≠ 0 → b1 i = b i) ∧ (∀ k, k ≠ 21 → k ≠ 22 → b1 0 k = b 0 k) ∧ b1 0 21 = sG a (dyF a H F1) (8 * T) ∧ b1 0 22 = sH a (dyF a H F1) (8 * T) := by
  have hW := WT_of hT
  have hW1 := hW.1
  obtain ⟨s1, ⟨p1, p2, p3, p4⟩, g⟩ := loop_inv (fun j i (s : St) => L_X6_laySums_12 n (nI T) j i s) (fun s => some s) (8 * T) 0 (fun k s => (∀ i, i ≠ 0 → s i = b i) ∧ (∀ i, i ≠ 21 → i ≠ 22 → s 0 i = b 0 i) ∧ s 0 21 = sG a (dyF a H F1) k ∧ s 0 22 = sH a (dyF a H F1) k) (s0 := up (up b 0 21 0) 0 22 0) (by omega) ⟨fun i hi => by rw [up_n _ _ _ hi, up_n _ _ _ hi], fun i h1 h2 => by rw [up_s, ud_n _ _ h2, up_s, ud_n _ _ h1], by rw [up_s, ud_n _ _ (by omega), up_s, ud_s]; rfl, by rw [up_s, ud_s]; rfl⟩ (fun k s _ hk hP => by
    obtain ⟨q1, q2, q3, q4⟩ := hP
    have e8 : (8 : Int32) * nI T = nI (8 * T) := by rw [show (8 : Int32) = nI 8 from rfl, pk_mul]
    have er : nI k - nI k / 8 * 8 = nI (k % 8) := pk_rem (d := 8) (by omega) (by omega) (by omega)
    refine ⟨up (up s 0 21 (sG a (dyF a H F1) (k + 1))) 0 22 (sH a (dyF a H F1) (k + 1)), ⟨fun i hi => by rw [up_n _ _ _ hi, up_n _ _ _ hi]; exact q1 i hi, fun i h1 h2 => by rw [up_s, ud_n _ _ h2, up_s, ud_n _ _ h1]; exact q2 i h1 h2, by rw [up_s, ud_n _ _ (by omega), up_s, ud_s], by rw [up_s, ud_s]⟩, fun j => ?_⟩
    show L_X6_laySums_12 n (nI T) (j + 1) (nI k) s = L_X6_laySums_12 n (nI T) j (nI (k + 1)) (up (up s 0 21 (sG a (dyF a H F1) k + if dyF a H F1 k = -1 then 0 else a 12 (dyF a H F1 k).toNatClampNeg)) 0 22 (sH a (dyF a H F1) k + if dyF a H F1 k = -1 then 0 else if a 11 (dyF a H F1 k).toNatClampNeg = nI (k % 8) then 0 else a 13 (dyF a H F1 k).toNatClampNeg))
    have u22 : ∀ x, (up s 0 21 x) 0 22 = sH a (dyF a H F1) k := fun x => by
      rw [up_s, ud_n _ _ (by omega)]
      exact q4
    rw [L_X6_laySums_12, if_neg (by rw [e8, leI (by omega) (by omega)]; omega), er, q2 6 (by omega) (by omega), hT.2.1.2.1]
    simp only [leI (show H < 100000 by omega) (show k % 8 < 100000 by omega), u22, q3, nI_1]
    by_cases c : k % 8 < H
    · have ed : dyF a H F1 k = itS a F1 (a 16) (k / 8) (k % 8) := if_pos c
      have e9 : s 9 k = dyF a H F1 k := by
        rw [q1 9 (by omega), ed, ← hd (k / 8) (by omega) (k % 8) c, show 8 * (k / 8) + k % 8 = k by omega]
      rw [if_neg (by omega)]
      simp only [cl (show k < 100000 by omega), gj (show k < 1600 by omega) (show 1600 ≤ 100000 by omega), if_false, e9]
      rcases dyF_in (F1 := F1) hW hs k with e | ⟨d, hdn, e⟩
      · simp only [e, if_true]
      · have hd6 : d < 6 := by omega
        have hD := (hT.2.2.2.2.2 d hdn).1
        have u8 : ∀ x y, (up s 0 21 x) 8 y = b 8 y := fun x y => by rw [up_n _ _ _ (by omega), q1 8 (by omega)]
        simp only [e, neM (show d < 100000 by omega), if_false, e62 d hd6, s62 d hd6, n62 hd6, e63 d hd6, s63 d hd6, n63 hd6, e64 d hd6, s64 d hd6, n64 hd6, or_self, u8, q1 8 (show (8 : Nat) ≠ 0 by omega), hD.2.2.1, hD.2.2.2.1, hD.2.2.2.2.1, cl (show d < 100000 by omega)]
        by_cases c2 : a 11 d = nI (k % 8)
        · rw [if_pos c2, if_pos c2]
        · rw [if_neg c2, if_neg c2]
    · have ed : dyF a H F1 k = -1 := if_neg c
      rw [if_pos (by omega), ed]
      simp only [if_true]) (fun j s hP => by
    show L_X6_laySums_12 n (nI T) (j + 1) (nI (8 * T)) s = some s
    rw [L_X6_laySums_12, if_pos (by rw [show (8 : Int32) = nI 8 from rfl, pk_mul, leI (by omega) (by omega)]; omega)])
  exact ⟨s1, g n (by omega), p1, p2, p3, p4⟩
/-- X's tally -/
theorem x_tclear {c : St} {n o : Nat} (hn : 3000 ≤ n) : ∃ c1, f_X1_clear n o c = some c1 ∧ (∀ i, i ≠ o + 1 → i ≠ o + 2 → c1 i = c i) ∧ ∀ d, d < 6 → c1 (o + 1) d = 0 ∧ c1 (o + 2) d = 0 := by
  obtain ⟨s1, ⟨p1, p2⟩, g⟩ := loop_inv (fun j i (s : St) => L_X1_clear_2 n o j i s) (fun s => some s) 6 0 (fun k s => (∀ i, i ≠ o + 1 → i ≠ o + 2 → s i = c i) ∧ ∀ d, d < k → s (o + 1) d = 0 ∧ s (o + 2) d = 0) (s0 := c) (by omega) ⟨fun _ _ _ => rfl, fun d q => absurd q (by omega)⟩ (fun k s _ hk hP => by
    refine ⟨up (up s (o + 1) k 0) (o + 2) k 0, ⟨fun i h1 h2 => by rw [up_n _ _ _ h2, up_n _ _ _ h1]; exact hP.1 i h1 h2, fun d hd => ?_⟩, fun j => ?_⟩
    · rw [up_n _ _ _ (by omega : o + 1 ≠ o + 2), up_s, up_s, up_n _ _ _ (by omega : o + 2 ≠ o + 1)]
      by_cases e : d = k
      · rw [e, ud_s, ud_s]
        exact ⟨rfl, rfl⟩
      · rw [ud_n _ _ e, ud_n _ _ e]
        exact hP.2 d (by omega)
    · show L_X1_clear_2 n o (j + 1) (nI k) s = L_X1_clear_2 n o j (nI (k + 1)) _
      rw [L_X1_clear_2, if_neg (by rw [show (6 : Int32) = nI 6 from rfl, leI (by omega) (by omega)]; omega)]
      simp only [cl (show k < 100000 by omega), gj hk (show 6 ≤ 100000 by omega), if_false, nI_1]) (fun j s hP => by
    show L_X1_clear_2 n o (j + 1) (nI 6) s = some s
    rw [L_X1_clear_2, if_pos (by decide)])
  exact ⟨s1, g n (by omega), p1, p2⟩
theorem itS_fr {a c : St} {F : Nat} (h6 : c 6 = a 6) (h7 : c 7 = a 7) (h9 : c 9 = a 9) (h10 : c 10 = a 10) (h11 : c 11 = a 11) (f : Nat → Int32) : ∀ t, itS c F f t = itS a F f t
  | 0 => rfl
  | t + 1 => by
    show stp c F (itS c F f t) = stp a F (itS a F f t)
    rw [itS_fr h6 h7 h9 h10 h11 f t]
    funext h
    exact stp_frame h6 h7 h9 h10 h11 _ h
theorem WT_fr {a c : St} {H Dn F : Nat} (h : WT a H Dn F) (h5 : c 5 = a 5) (h6 : c 6 = a 6) : WT c H Dn F := by
  unfold WT at h ⊢
  rw [h5, h6]
  exact h
theorem x_tally {a c : St} {H Dn F F1 n T o : Nat} (hn : 3000 ≤ n) (hW : WT a H Dn F) (hs : wfS (a 16) Dn) (ho : o = 38 ∨ o = 41) (hT1 : T ≤ 99) (hF1 : F1 < 64) (hc : ∀ i, 5 ≤ i → i ≤ 16 → i ≠ 14 → c i = a i) : ∃ a1, f_X5_tally n o (nI T) (nI F1) c = some a1 ∧ (∀ i, i ≠ 14 → i ≠ 33 → i ≠ o + 1 → i ≠ o + 2 → a1 i = c i) ∧ ∀ d, d < 6 → a1 (o + 1) d = dG a (dyF a H F1) d (8 * T) ∧ a1 (o + 2) d = dH a (dyF a H F1) d (8 * T) := by
  have hW1 := hW.1
  obtain ⟨c1, x1, x2, x3⟩ := x_tclear (c := c) (n := n) (o := o) hn
  have hc1 : ∀ i, 5 ≤ i → i ≤ 16 → i ≠ 14 → c1 i = a i := fun i h1 h2 h3 => by rw [x2 i (by omega) (by omega), hc i h1 h2 h3]
  obtain ⟨c2, y1, y2, y3, y4⟩ := x_foresee (n := n) (t := 0) (a := c1) (H := H) (Dn := Dn) (F := F) (by omega) (by omega) (WT_fr hW (hc1 5 (by omega) (by omega) (by omega)) (hc1 6 (by omega) (by omega) (by omega))) (by rw [hc1 16 (by omega) (by omega) (by omega)]; exact hs)
  have hc2 : ∀ i, 5 ≤ i → i ≤ 16 → i ≠ 14 → c2 i = a i := fun i h1 h2 h3 => by rw [y2 i h3 (by omega), hc1 i h1 h2 h3]
  have hx : ∀ t h, h < H → dyF a H F1 (8 * t + h) = itS a F1 (a 16) t h := fun t h hh => by
    unfold dyF
    rw [show (8 * t + h) % 8 = h by omega, show (8 * t + h) / 8 = t by omega, if_pos hh]
  have hz : ∀ t h, H ≤ h → h < 8 → dyF a H F1 (8 * t + h) = -1 := fun t h h1 h2 => by
    unfold dyF
    rw [show (8 * t + h) % 8 = h by omega, if_neg (by omega)]
  obtain ⟨s1, ⟨p1, p2, p3, p4⟩, g⟩ := loop_inv (fun j i (s : St) => L_X5_tally_12 n o (nI T) (nI F1) j i s) (fun s => some s) T 0 (fun t s => (∀ i, i ≠ 14 → i ≠ 33 → i ≠ o + 1 → i ≠ o + 2 → s i = c i) ∧ (∀ d, d < 6 → s (o + 1) d = dG a (dyF a H F1) d (8 * t) ∧ s (o + 2) d = dH a (dyF a H F1) d (8 * t)) ∧ (∀ h, h < H → s 33 h = itS a F1 (a 16) t h) ∧ wfS (s 33) Dn) (s0 := c2) (by omega) ⟨fun i h1 h2 h3 h4 => by rw [y2 i h1 h2, x2 i h3 h4], fun d hd => by
      rw [y2 (o + 1) (by omega) (by omega), y2 (o + 2) (by omega) (by omega)]
      exact x3 d hd, fun h hh => by
      rw [y3 h hh, hc1 16 (by omega) (by omega) (by omega)]
      rfl, y4⟩ (fun t s _ ht hP => by
    obtain ⟨q1, q2, q3, q4⟩ := hP
    have q5 : ∀ u : St, (∀ i, i ≠ 14 → i ≠ 33 → i ≠ o + 1 → i ≠ o + 2 → u i = c i) → ∀ i, 5 ≤ i → i ≤ 16 → i ≠ 14 → u i = a i := fun u hu i h1 h2 h3 => by rw [hu i h3 (by omega) (by omega) (by omega), hc i h1 h2 h3]
    obtain ⟨s2, ⟨r1, r2, r3⟩, g2⟩ := loop_invK (fun (k : Int32 → St → Option St) j i (s : St) => L_X5_tally_21 n o k (nI T) (nI F1) (nI t) j i s) (fun k s => B_X5_tally_67 n o k (nI T) (nI F1) (nI t) s) H 0 (fun h u => (∀ i, i ≠ 14 → i ≠ 33 → i ≠ o + 1 → i ≠ o + 2 → u i = c i) ∧ u 33 = s 33 ∧ ∀ d, d < 6 → u (o + 1) d = dG a (dyF a H F1) d (8 * t + h) ∧ u (o + 2) d = dH a (dyF a H F1) d (8 * t + h)) (s0 := s) (by omega) ⟨q1, rfl, q2⟩ (fun h u _ hh hQ => by
      obtain ⟨t1, t2, t3⟩ := hQ
      have hh8 : h < 8 := by omega
      have e33 : u 33 h = dyF a H F1 (8 * t + h) := by rw [t2, q3 h hh, hx t h hh]
      rcases dyF_in (F1 := F1) hW hs (8 * t + h) with e | ⟨d0, hd0, e⟩
      · refine ⟨u, ⟨t1, t2, fun d hd => ?_⟩, fun k j => ?_⟩
        · obtain ⟨z1, z2⟩ := dG_skip (a := a) (f := dyF a H F1) (k := 8 * t + h) hd 1 (fun i hi => by rw [show 8 * t + h + i = 8 * t + h by omega]; exact e)
          rw [show 8 * t + (h + 1) = 8 * t + h + 1 by omega, z1, z2]
          exact t3 d hd
        · show L_X5_tally_21 n o k (nI T) (nI F1) (nI t) (j + 1) (nI h) u = L_X5_tally_21 n o k (nI T) (nI F1) (nI t) j (nI (h + 1)) u
          rw [L_X5_tally_21, if_neg (by rw [q5 u t1 5 (by omega) (by omega) (by omega), hW.2.1.1, leI (by omega) (by omega)]; omega)]
          simp only [cl (show h < 100000 by omega), gj hh8 (show 8 ≤ 100000 by omega), if_false, e33, e, if_true, nI_1]
      · have hd6 : d0 < 6 := by omega
        have e12 : u 12 = a 12 := q5 u t1 12 (by omega) (by omega) (by omega)
        have e13 : u 13 = a 13 := q5 u t1 13 (by omega) (by omega) (by omega)
        have e11 : u 11 = a 11 := q5 u t1 11 (by omega) (by omega) (by omega)
        have gG : ∀ d, dG a (dyF a H F1) d (8 * t + (h + 1)) = dG a (dyF a H F1) d (8 * t + h) + if nI d0 = nI d then a 12 d else 0 := fun d => by
          rw [show 8 * t + (h + 1) = (8 * t + h) + 1 by omega, ← e]
          rfl
        have gH : ∀ d, dH a (dyF a H F1) d (8 * t + (h + 1)) = dH a (dyF a H F1) d (8 * t + h) + if nI d0 = nI d then (if a 11 d = nI h then 0 else a 13 d) else 0 := fun d => by
          rw [show 8 * t + (h + 1) = (8 * t + h) + 1 by omega, ← e]
          show _ + (if _ then (if a 11 d = nI ((8 * t + h) % 8) then _ else _) else _) = _
          rw [show (8 * t + h) % 8 = h by omega]
        -- what the note leaves
        have note : ∃ u1, f_X1_note o (nI h) (nI d0) u = some u1 ∧ (∀ i, i ≠ o + 1 → i ≠ o + 2 → u1 i = u i) ∧ ∀ d, d < 6 → u1 (o + 1) d = u (o + 1) d + (if nI d0 = nI d then a 12 d else 0) ∧ u1 (o + 2) d = u (o + 2) d + if nI d0 = nI d then (if a 11 d = nI h then 0 else a 13 d) else 0 := by
          unfold f_X1_note
          have v : ∀ i, i ≠ o + 1 → ∀ x, (up u (o + 1) d0 x) i = u i := fun i hi x => up_n _ _ _ hi
          simp only [cl (show d0 < 100000 by omega), gj hd6 (show 6 ≤ 100000 by omega), if_false, v 11 (by omega), v 13 (by omega), v (o + 2) (by omega), e11, e12, e13]
          by_cases c2 : a 11 d0 = nI h
          · rw [if_pos c2]
            refine ⟨_, rfl, fun i h1 h2 => up_n _ _ _ h1, fun d hd => ?_⟩
            rw [up_s, up_n _ _ _ (by omega : o + 2 ≠ o + 1)]
            simp only [eqI (show d0 < 100000 by omega) (show d < 100000 by omega)]
            by_cases c3 : d0 = d
            · subst c3
              rw [ud_s, if_pos rfl, if_pos rfl, if_pos c2, Int32.add_zero]
              exact ⟨rfl, rfl⟩
            · rw [ud_n _ _ (Ne.symm c3), if_neg c3, if_neg c3, Int32.add_zero, Int32.add_zero]
              exact ⟨rfl, rfl⟩
          · rw [if_neg c2]
            refine ⟨_, rfl, fun i h1 h2 => by rw [up_n _ _ _ h2, up_n _ _ _ h1], fun d hd => ?_⟩
            rw [up_n _ _ _ (by omega : o + 1 ≠ o + 2), up_s, up_s, up_n _ _ _ (by omega : o + 2 ≠ o + 1)]
            simp only [eqI (show d0 < 100000 by omega) (show d < 100000 by omega)]
            by_cases c3 : d0 = d
            · subst c3
              rw [ud_s, ud_s, if_pos rfl, if_pos rfl, if_neg c2]
              exact ⟨rfl, rfl⟩
            · rw [ud_n _ _ (Ne.symm c3), ud_n _ _ (Ne.symm c3), if_neg c3, if_neg c3, Int32.add_zero, Int32.add_zero]
              exact ⟨rfl, rfl⟩
        obtain ⟨u1, n1, n2, n3⟩ := note
        refine ⟨u1, ⟨fun i h1 h2 h3 h4 => by rw [n2 i h3 h4]; exact t1 i h1 h2 h3 h4, by rw [n2 33 (by omega) (by omega)]; exact t2, fun d hd => ?_⟩, fun k j => ?_⟩
        · rw [(n3 d hd).1, (n3 d hd).2, gG, gH, (t3 d hd).1, (t3 d hd).2]
          exact ⟨rfl, rfl⟩
        · show L_X5_tally_21 n o k (nI T) (nI F1) (nI t) (j + 1) (nI h) u = L_X5_tally_21 n o k (nI T) (nI F1) (nI t) j (nI (h + 1)) u1
          rw [L_X5_tally_21, if_neg (by rw [q5 u t1 5 (by omega) (by omega) (by omega), hW.2.1.1, leI (by omega) (by omega)]; omega)]
          simp only [cl (show h < 100000 by omega), gj hh8 (show 8 ≤ 100000 by omega), if_false, e33, e, neM (show d0 < 100000 by omega), n1, Option.bind_some, nI_1]) (fun k j u hQ => by
      show L_X5_tally_21 n o k (nI T) (nI F1) (nI t) (j + 1) (nI H) u = _
      rw [L_X5_tally_21, if_pos (by rw [q5 u hQ.1 5 (by omega) (by omega) (by omega), hW.2.1.1, leI (by omega) (by omega)]; omega)])
    have w2 := q5 s2 r1
    obtain ⟨s3, f1, f2, f3, f4⟩ := x_passDay (n := n) (o := 33) (a := s2) (H := H) (Dn := Dn) (F := F) (F1 := F1) (by omega) (WT_fr hW (w2 5 (by omega) (by omega) (by omega)) (w2 6 (by omega) (by omega) (by omega))) hF1 (by rw [r2]; exact q4) (by omega) (by omega)
    have es : ∀ h, h < H → s3 33 h = itS a F1 (a 16) (t + 1) h := fun h hh => by
      rw [f3 h hh, stp_frame (w2 6 (by omega) (by omega) (by omega)) (w2 7 (by omega) (by omega) (by omega)) (w2 9 (by omega) (by omega) (by omega)) (w2 10 (by omega) (by omega) (by omega)) (w2 11 (by omega) (by omega) (by omega)), r2]
      exact stp_cong hW (fun j hj => q3 j hj) (by omega)
    refine ⟨s3, ⟨fun i h1 h2 h3 h4 => by rw [f2 i h1 h2]; exact r1 i h1 h2 h3 h4, fun d hd => ?_, es, fun h hh => ?_⟩, fun j => ?_⟩
    · rw [f2 (o + 1) (by omega) (by omega), f2 (o + 2) (by omega) (by omega)]
      obtain ⟨z1, z2⟩ := dG_skip (a := a) (f := dyF a H F1) (k := 8 * t + H) hd (8 - H) (fun i hi => by rw [show 8 * t + H + i = 8 * t + (H + i) by omega]; exact hz t (H + i) (by omega) (by omega))
      rw [show 8 * (t + 1) = 8 * t + H + (8 - H) by omega, z1, z2]
      exact r3 d hd
    · rcases Nat.lt_or_ge h H with q | q
      · rw [es h q]
        exact itS_wf hW hs _ h hh
      · rw [f4 h q, r2]
        exact q4 h hh
    · show L_X5_tally_12 n o (nI T) (nI F1) (j + 1) (nI t) s = L_X5_tally_12 n o (nI T) (nI F1) j (nI (t + 1)) s3
      rw [L_X5_tally_12, if_neg (by rw [leI (by omega) (by omega)]; omega), show (0 : Int32) = nI 0 from rfl, g2 (L_X5_tally_12 n o (nI T) (nI F1) j) n (by omega)]
      unfold B_X5_tally_67
      rw [f1, nI_1]
      rfl) (fun j s hP => by
    show L_X5_tally_12 n o (nI T) (nI F1) (j + 1) (nI T) s = some s
    rw [L_X5_tally_12, if_pos (by rw [leI (by omega) (by omega)]; omega)])
  refine ⟨s1, ?_, p1, p2⟩
  unfold f_X5_tally
  rw [x1, show (0 : Int32) = nI 0 from rfl]
  simp only [Option.bind_some, y1]
  exact g n (by omega)
theorem isDays (x : Int32) : (∃ t, 1 ≤ t ∧ t ≤ 99 ∧ x = nI t ∧ f_X5_within x 1 99 = some 1 ∧ f_X6_isDays x = some 1) ∨ (f_X5_within x 1 99 = some 0 ∧ f_X6_isDays x = some 0) := by
  unfold f_X6_isDays
  rw [show (1 : Int64) = (1 : Int32).toInt64 from rfl, show (99 : Int64) = (99 : Int32).toInt64 from rfl]
  rcases ck_in (lo := 1) (hi := 99) x 1 99 rfl rfl (by omega) (by omega) with ⟨t, h1, ht, rfl, f3, f4⟩ | ⟨f3, f4⟩
  · exact Or.inl ⟨t, h1, ht, rfl, f3, by rw [f4]; rfl⟩
  · exact Or.inr ⟨f3, by rw [f4]; rfl⟩
theorem o_sum {a b : St} {H Dn F n : Nat} (hn : 3000 ≤ n) (hR : RR a b H Dn F) (x1 x2 : Int32) : OK2 (f_X5_sum n x1 x2 a) (f_X6_sum n x1 x2 b) := by
  have hT := hR.1
  have hW := WT_of hT
  have hW1 := hW.1
  have hs := wf_of hR
  unfold f_X5_sum f_X6_sum
  rcases isDays x1 with ⟨T, hT0, hT1, rfl, f1, f2⟩ | ⟨f1, f2⟩
  · rw [f1, f2]
    simp only [Option.bind_some, i10, if_false]
    rw [show (0 : Int64) = (0 : Int32).toInt64 from rfl, show (1 : Int64) = (1 : Int32).toInt64 from rfl]
    rcases ck_in (lo := 0) (hi := 1) x2 0 1 rfl rfl (by omega) (by omega) with ⟨w, _, hw, rfl, f3, f4⟩ | ⟨f3, f4⟩
    · rw [f3, f4]
      obtain ⟨T0, rfl⟩ : ∃ T0, T = T0 + 1 := ⟨T - 1, by omega⟩
      obtain ⟨a1, g1, g2, g3⟩ := x_tally (n := n) (c := a) (o := 38) (T := T0 + 1) hn hW hs (Or.inl rfl) hT1 hW.2.1.2.2.2 (fun _ _ _ _ => rfl)
      obtain ⟨b0, k1, k2, k3⟩ := m_layDays (n := n) (t := T0) (by omega) (by omega) hT hW.2.1.2.2.2 (today hR) hs
      obtain ⟨b1, m1, m2, m3, m4, m5⟩ := m_laySums (n := n) (F1 := F) (T := T0 + 1) hn (RT_fr hT (fun _ _ => rfl) (fun i hi => k2 i (by omega)) (by rw [k2 0 (by omega)]) (by rw [k2 0 (by omega)])) hT1 hs (fun u hu h hh => k3 u (by omega) h hh)
      obtain ⟨t1, t2⟩ := sG_sum (a := a) (f := dyF a H F) hW1.2.2 (8 * (T0 + 1)) (fun i _ => dyF_in hW hs i)
      have e51 : a1 5 1 = nI Dn := by rw [g2 5 (by omega) (by omega) (by omega) (by omega)]; exact hW.2.1.2.1
      have key : ∀ r, OK2 (some (r, a1)) (some (r, b1)) := fun r => ⟨r, a1, b1, H, Dn, F, rfl, rfl, RR_fr hR (fun i _ _ _ _ q1 q2 => g2 i q1 (by omega) (by omega) (by omega)) (by rw [g2 1 (by omega) (by omega) (by omega) (by omega)]) (fun i q1 _ q2 _ _ => by rw [m2 i q1, k2 i q2]) (fun k hk => by rw [m3 k (by omega) (by omega), k2 0 (by omega)])⟩
      have lp : ∀ g : Nat → Int32, (∀ d, d < 6 → (if nI w = 0 then a1 39 d else a1 40 d) = g d) → L_X5_sum_43 n (nI w) n 0 0 a1 = some (smD g Dn, a1) := fun g hg => by
        obtain ⟨z, z1, z2⟩ := loop_inv (fun j i (x : Int32) => L_X5_sum_43 n (nI w) j x i a1) (fun x => some (x, a1)) Dn 0 (fun k x => x = smD g k) (s0 := 0) (by omega) rfl (fun k x _ hk hx => by
          refine ⟨smD g (k + 1), rfl, fun j => ?_⟩
          show L_X5_sum_43 n (nI w) (j + 1) x (nI k) a1 = L_X5_sum_43 n (nI w) j (smD g k + g k) (nI (k + 1)) a1
          rw [L_X5_sum_43, if_neg (by rw [e51, leI (by omega) (by omega)]; omega), ← hg k (by omega), hx]
          simp only [cl (show k < 100000 by omega), gj (show k < 6 by omega) (show 6 ≤ 100000 by omega), if_false, nI_1]
          by_cases c : nI w = 0
          · rw [if_pos c, if_pos c]
          · rw [if_neg c, if_neg c]) (fun j x hx => by
          show L_X5_sum_43 n (nI w) (j + 1) x (nI Dn) a1 = _
          rw [L_X5_sum_43, if_pos (by rw [e51, leI (by omega) (by omega)]; omega)])
        have z3 := z2 n (by omega)
        rw [z1] at z3
        exact z3
      simp only [Option.bind_some, i10, if_false, hW.2.1.2.2.1, g1, m_forbiddenNow (n := n) (by omega) hT, nI_pred, k1, m1]
      by_cases c : nI w = 0
      · rw [lp (fun d => dG a (dyF a H F) d (8 * (T0 + 1))) (fun d hd => by rw [if_pos c]; exact (g3 d hd).1), if_pos c, m4, t1]
        exact key _
      · rw [lp (fun d => dH a (dyF a H F) d (8 * (T0 + 1))) (fun d hd => by rw [if_neg c]; exact (g3 d hd).2), if_neg c, m5, t2]
        exact key _
    · rw [f3, f4]
      exact OK2_same hR _
  · rw [f1, f2]
    exact OK2_same hR _
theorem shl6 : ∀ d, d ≤ 6 → (1 : Int32) <<< (nI d &&& 31) = nI (2 ^ d) := by decide +kernel
theorem fb63 : ∀ d, d < 6 → fbN 63 d = true := by decide +kernel
theorem fb0 (d : Nat) : fbN 0 d = false := by rw [fb_bit, Nat.zero_testBit]
theorem o_council {a b : St} {H Dn F n : Nat} (hn : 3000 ≤ n) (hR : RR a b H Dn F) (x1 x2 x3 : Int32) : OK2 (f_X5_council n x1 x2 x3 a) (f_X6_council n x1 x2 x3 b) := by
  have hT := hR.1
  have hW := WT_of hT
  have hW1 := hW.1
  have hs := wf_of hR
  unfold f_X5_council f_X6_council
  rcases isDays x1 with ⟨T, hT0, hT1, rfl, f1, f2⟩ | ⟨f1, f2⟩
  · rw [f1, f2]
    simp only [Option.bind_some, i10, if_false]
    rw [show (0 : Int64) = (0 : Int32).toInt64 from rfl, show (1 : Int64) = (1 : Int32).toInt64 from rfl, show (9999 : Int64) = (9999 : Int32).toInt64 from rfl]
    rcases ck_in (lo := 0) (hi := 9999) x2 0 9999 rfl rfl (by omega) (by omega) with ⟨hm, _, hhm, rfl, f5, f6⟩ | ⟨f5, f6⟩
    · rw [f5, f6]
      simp only [Option.bind_some, i10, if_false]
      rcases ck_in (lo := 0) (hi := 1) x3 0 1 rfl rfl (by omega) (by omega) with ⟨w, _, hw, rfl, f3, f4⟩ | ⟨f3, f4⟩
      · rw [f3, f4]
        obtain ⟨T0, rfl⟩ : ∃ T0, T = T0 + 1 := ⟨T - 1, by omega⟩
        obtain ⟨a1, g1, g2, g3⟩ := x_tally (n := n) (c := a) (o := 38) (T := T0 + 1) (F1 := 0) hn hW hs (Or.inl rfl) hT1 (by omega) (fun _ _ _ _ => rfl)
        obtain ⟨a2, y1, y2, y3⟩ := x_tally (n := n) (c := a1) (o := 41) (T := T0 + 1) (F1 := 63) hn hW hs (Or.inr rfl) hT1 (by omega) (fun i h1 h2 h3 => g2 i h3 (by omega) (by omega) (by omega))
        have e51 : a2 5 1 = nI Dn := by rw [y2 5 (by omega) (by omega) (by omega) (by omega), g2 5 (by omega) (by omega) (by omega) (by omega)]; exact hW.2.1.2.1
        have r39 : ∀ d, d < 6 → a2 39 d = dG a (dyF a H 0) d (8 * (T0 + 1)) ∧ a2 40 d = dH a (dyF a H 0) d (8 * (T0 + 1)) := fun d hd => by
          rw [y2 39 (by omega) (by omega) (by omega) (by omega), y2 40 (by omega) (by omega) (by omega) (by omega)]
          exact g3 d hd
        have h64 := p2_64 hW1.2.2
        -- the sums of X, for a set
        have xs : ∀ k, k < 2 ^ Dn → ∀ (k63 : Int32 → Int32 → Int32 → St → Option (Int32 × St)) (x4 x5 : Int32), L_X5_council_86 n k63 (nI hm) (nI w) x4 x5 (nI k) n 0 0 0 a2 = B_X5_council_153 n k63 (nI hm) (nI w) x4 x5 (nI k) (sG a (dyF a H k) (8 * (T0 + 1))) (sH a (dyF a H k) (8 * (T0 + 1))) a2 := fun k hk k63 x4 x5 => by
          obtain ⟨t1, t2⟩ := sG_sum (a := a) (f := dyF a H k) hW1.2.2 (8 * (T0 + 1)) (fun i _ => dyF_in hW hs i)
          obtain ⟨z, z1, z2⟩ := loop_inv (fun j i (x : Int32 × Int32) => L_X5_council_86 n k63 (nI hm) (nI w) x4 x5 (nI k) j x.1 x.2 i a2) (fun x => B_X5_council_153 n k63 (nI hm) (nI w) x4 x5 (nI k) x.1 x.2 a2) Dn 0 (fun m x => x = (smD (fun d => dG a (dyF a H k) d (8 * (T0 + 1))) m, smD (fun d => dH a (dyF a H k) d (8 * (T0 + 1))) m)) (s0 := (0, 0)) (by omega) rfl (fun m x _ hm2 hx => by
            have hm6 : m < 6 := by omega
            refine ⟨_, rfl, fun j => ?_⟩
            show L_X5_council_86 n k63 (nI hm) (nI w) x4 x5 (nI k) (j + 1) x.1 x.2 (nI m) a2 = L_X5_council_86 n k63 (nI hm) (nI w) x4 x5 (nI k) j (smD (fun d => dG a (dyF a H k) d (8 * (T0 + 1))) m + dG a (dyF a H k) m (8 * (T0 + 1))) (smD (fun d => dH a (dyF a H k) d (8 * (T0 + 1))) m + dH a (dyF a H k) m (8 * (T0 + 1))) (nI (m + 1)) a2
            rw [L_X5_council_86, if_neg (by rw [e51, leI (by omega) (by omega)]; omega), p_hasX, bit64 k (by omega) m hm6, hx]
            simp only [Option.bind_some, cl (show m < 100000 by omega), gj hm6 (show 6 ≤ 100000 by omega), if_false, nI_1, (r39 m hm6).1, (r39 m hm6).2, (y3 m hm6).1, (y3 m hm6).2]
            cases c : fbN k m
            · have e := dG_bit (a := a) (dyF_bit hW hm6 (show fbN k m = fbN 0 m by rw [c, fb0])) (8 * (T0 + 1))
              rw [e.1, e.2]
              rfl
            · have e := dG_bit (a := a) (dyF_bit hW hm6 (show fbN k m = fbN 63 m by rw [c, fb63 m hm6])) (8 * (T0 + 1))
              rw [e.1, e.2]
              rfl) (fun j x hx => by
            show L_X5_council_86 n k63 (nI hm) (nI w) x4 x5 (nI k) (j + 1) x.1 x.2 (nI Dn) a2 = _
            rw [L_X5_council_86, if_pos (by rw [e51, leI (by omega) (by omega)]; omega)])
          have z3 := z2 n (by omega)
          rw [z1, ← t1, ← t2] at z3
          exact z3
        obtain ⟨s1, u1, ⟨p1, p2, p3, p4⟩, l1, l2⟩ := loop_two (fun j i (s : Int32 × Int32) => L_X5_council_63 n (nI hm) (nI w) j s.1 s.2 i a2) (fun s => B_X5_council_180 n (nI w) s.1 s.2 a2) (fun j i (u : (Int32 × Int32) × St) => L_X6_council_41 n (nI (T0 + 1)) (nI hm) (nI w) j u.1.1 u.1.2 i u.2) (fun u => B_X6_council_99 n (nI w) u.1.1 u.1.2 u.2) (2 ^ Dn) 0 (fun _ s u => s.1 = u.1.2 ∧ s.2 = u.1.1 ∧ (∀ i, i ≠ 0 → i ≠ 9 → u.2 i = b i) ∧ ∀ k, k ≠ 21 → k ≠ 22 → u.2 0 k = b 0 k) (s0 := (-1, -1)) (t0 := ((-1, -1), b)) (Nat.zero_le _) ⟨rfl, rfl, fun _ _ _ => rfl, fun _ _ _ => rfl⟩ (fun k s u _ hk hP => by
          obtain ⟨q1, q2, q3, q4⟩ := hP
          have hTu : RT a u.2 H Dn F := RT_fr hT (fun _ _ => rfl) (fun i hi => q3 i (by omega) (by omega)) (q4 6 (by omega) (by omega)) (q4 11 (by omega) (by omega))
          obtain ⟨v0, k1, k2, k3⟩ := m_layDays (n := n) (t := T0) (F1 := k) (by omega) (by omega) hTu (by omega) (fun h hh => by rw [q3 1 (by omega) (by omega)]; exact today hR h hh) hs
          obtain ⟨v1, m1, m2, m3, m4, m5⟩ := m_laySums (n := n) (F1 := k) (T := T0 + 1) hn (RT_fr hTu (fun _ _ => rfl) (fun i hi => k2 i (by omega)) (by rw [k2 0 (by omega)]) (by rw [k2 0 (by omega)])) hT1 hs (fun u hu h hh => k3 u (by omega) h hh)
          have q5 : ∀ i, i ≠ 0 → i ≠ 9 → v1 i = b i := fun i h1 h2 => by rw [m2 i h1, k2 i h2, q3 i h1 h2]
          have q6 : ∀ i, i ≠ 21 → i ≠ 22 → v1 0 i = b 0 i := fun i h1 h2 => by rw [m3 i h1 h2, k2 0 (by omega), q4 i h1 h2]
          have ex : ∀ j, L_X5_council_63 n (nI hm) (nI w) (j + 1) s.1 s.2 (nI k) a2 = B_X5_council_153 n (L_X5_council_63 n (nI hm) (nI w) j) (nI hm) (nI w) s.1 s.2 (nI k) (sG a (dyF a H k) (8 * (T0 + 1))) (sH a (dyF a H k) (8 * (T0 + 1))) a2 := fun j => by
            rw [L_X5_council_63, if_neg (by rw [e51, shl6 Dn hW1.2.2, leI (by omega) (by omega)]; omega), xs k hk]
          have em : ∀ j, L_X6_council_41 n (nI (T0 + 1)) (nI hm) (nI w) (j + 1) u.1.1 u.1.2 (nI k) u.2 = if nI hm < sH a (dyF a H k) (8 * (T0 + 1)) then L_X6_council_41 n (nI (T0 + 1)) (nI hm) (nI w) j u.1.1 u.1.2 (nI (k + 1)) v1 else if sG a (dyF a H k) (8 * (T0 + 1)) ≤ u.1.2 then L_X6_council_41 n (nI (T0 + 1)) (nI hm) (nI w) j u.1.1 u.1.2 (nI (k + 1)) v1 else L_X6_council_41 n (nI (T0 + 1)) (nI hm) (nI w) j (nI k) (sG a (dyF a H k) (8 * (T0 + 1))) (nI (k + 1)) v1 := fun j => by
            rw [L_X6_council_41, if_neg (by rw [q4 11 (by omega) (by omega), hT.2.1.2.2.2.1, shl6 Dn hW1.2.2, leI (by omega) (by omega)]; omega)]
            simp only [nI_pred, k1, m1, m4, m5, Option.bind_some, nI_1]
          by_cases c1 : nI hm < sH a (dyF a H k) (8 * (T0 + 1))
          · refine ⟨s, ((u.1.1, u.1.2), v1), ⟨q1, q2, q5, q6⟩, fun j => ?_, fun j => ?_⟩
            · show L_X5_council_63 n (nI hm) (nI w) (j + 1) s.1 s.2 (nI k) a2 = _
              rw [ex]
              unfold B_X5_council_153
              rw [if_pos c1, nI_1]
            · show L_X6_council_41 n (nI (T0 + 1)) (nI hm) (nI w) (j + 1) u.1.1 u.1.2 (nI k) u.2 = _
              rw [em, if_pos c1]
          · by_cases c2 : sG a (dyF a H k) (8 * (T0 + 1)) ≤ u.1.2
            · refine ⟨s, ((u.1.1, u.1.2), v1), ⟨q1, q2, q5, q6⟩, fun j => ?_, fun j => ?_⟩
              · show L_X5_council_63 n (nI hm) (nI w) (j + 1) s.1 s.2 (nI k) a2 = _
                rw [ex]
                unfold B_X5_council_153
                rw [if_neg c1, q1, if_pos c2, nI_1]
              · show L_X6_council_41 n (nI (T0 + 1)) (nI hm) (nI w) (j + 1) u.1.1 u.1.2 (nI k) u.2 = _
                rw [em, if_neg c1, if_pos c2]
            · refine ⟨(sG a (dyF a H k) (8 * (T0 + 1)), nI k), ((nI k, sG a (dyF a H k) (8 * (T0 + 1))), v1), ⟨rfl, rfl, q5, q6⟩, fun j => ?_, fun j => ?_⟩
              · show L_X5_council_63 n (nI hm) (nI w) (j + 1) s.1 s.2 (nI k) a2 = _
                rw [ex]
                unfold B_X5_council_153
                rw [if_neg c1, q1, if_neg c2, nI_1]
              · show L_X6_council_41 n (nI (T0 + 1)) (nI hm) (nI w) (j + 1) u.1.1 u.1.2 (nI k) u.2 = _
                rw [em, if_neg c1, if_neg c2]) (fun j s u hP => by
          show L_X5_council_63 n (nI hm) (nI w) (j + 1) s.1 s.2 (nI (2 ^ Dn)) a2 = _
          rw [L_X5_council_63, if_pos (by rw [e51, shl6 Dn hW1.2.2, leI (by omega) (by omega)]; omega)]) (fun j s u hP => by
          show L_X6_council_41 n (nI (T0 + 1)) (nI hm) (nI w) (j + 1) u.1.1 u.1.2 (nI (2 ^ Dn)) u.2 = _
          rw [L_X6_council_41, if_pos (by rw [hP.2.2.2 11 (by omega) (by omega), hT.2.1.2.2.2.1, shl6 Dn hW1.2.2, leI (by omega) (by omega)]; omega)])
        have l3 : L_X5_council_63 n (nI hm) (nI w) n (-1) (-1) 0 a2 = B_X5_council_180 n (nI w) s1.1 s1.2 a2 := l1 n (by omega)
        have l4 : L_X6_council_41 n (nI (T0 + 1)) (nI hm) (nI w) n (-1) (-1) 0 b = B_X6_council_99 n (nI w) u1.1.1 u1.1.2 u1.2 := l2 n (by omega)
        have g1' : f_X5_tally n 38 (nI (T0 + 1)) 0 a = some a1 := g1
        have y1' : f_X5_tally n 41 (nI (T0 + 1)) 63 a1 = some a2 := y1
        simp only [Option.bind_some, i10, if_false, g1', y1', l3, l4]
        unfold B_X5_council_180 B_X6_council_99
        have key : ∀ r, OK2 (some (r, a2)) (some (r, u1.2)) := fun r => ⟨r, a2, u1.2, H, Dn, F, rfl, rfl, RR_fr hR (fun i _ _ _ _ q1 q2 => by rw [y2 i q1 (by omega) (by omega) (by omega), g2 i q1 (by omega) (by omega) (by omega)]) (by rw [y2 1 (by omega) (by omega) (by omega) (by omega), g2 1 (by omega) (by omega) (by omega) (by omega)]) (fun i q1 _ q2 _ _ => p3 i q1 q2) (fun k hk => p4 k (by omega) (by omega))⟩
        by_cases c : nI w = 0
        · rw [if_pos c, if_pos c, p2]
          exact key _
        · rw [if_neg c, if_neg c, p1]
          exact key _
      · rw [f3, f4]
        exact OK2_same hR _
    · rw [f5, f6]
      exact OK2_same hR _
  · rw [f1, f2]
    exact OK2_same hR _
