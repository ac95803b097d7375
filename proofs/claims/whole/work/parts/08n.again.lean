/-! ===== after how many days all comes again ===== -/
theorem per_rng {a : St} {H Dn F y c i : Nat} (hW : WT a H Dn F) (hy : y < H) (hp : per a c y) : wy a i y < 8 := by
  rcases wy_in hW i y (Or.inl hy) with q | q
  · have := hW.1; omega
  · exfalso
    have h2 : wy a (c * i - i) (wy a i y) = y := by
      rw [← wy_add, show i + (c * i - i) = i * c by
        have := Nat.le_mul_of_pos_left i hp.1
        rw [Nat.mul_comm i c]
        omega]
      exact per_mul hp i
    rw [q, wy_8] at h2
    have := hW.1
    omega
theorem rounds1 {a : St} {H Dn F c y : Nat} (hW : WT a H Dn F) (hy : y < H) (hp : per a c y) : c ≤ 8 :=
  holes 8 c (fun i => wy a i y) (fun i _ => per_rng hW hy hp) (fun i j hi hj e => per_inj hp hi hj e)
theorem rounds2 {a : St} {H Dn F c1 c2 y1 y2 : Nat} (hW : WT a H Dn F) (g1 : y1 < H ∧ per a c1 y1) (g2 : y2 < H ∧ per a c2 y2) (h12 : c1 ≠ c2) : c1 + c2 ≤ 8 := by
  refine holes 8 (c1 + c2) (fun i => if i < c1 then wy a i y1 else wy a (i - c1) y2) (fun i hi => ?_) (fun i j hi hj e => ?_)
  · show (if i < c1 then wy a i y1 else wy a (i - c1) y2) < 8
    split
    · exact per_rng hW g1.1 g1.2
    · exact per_rng hW g2.1 g2.2
  · have e : (if i < c1 then wy a i y1 else wy a (i - c1) y2) = (if j < c1 then wy a j y1 else wy a (j - c1) y2) := e
    by_cases i1 : i < c1 <;> by_cases j1 : j < c1
    · rw [if_pos i1, if_pos j1] at e
      exact per_inj g1.2 i1 j1 e
    · rw [if_pos i1, if_neg j1] at e
      exact absurd e (per_dis g1.2 g2.2 h12)
    · rw [if_neg i1, if_pos j1] at e
      exact absurd e.symm (per_dis g1.2 g2.2 h12)
    · rw [if_neg i1, if_neg j1] at e
      have := per_inj g2.2 (by omega) (by omega) e
      omega
theorem common {a : St} {H Dn F : Nat} (hW : WT a H Dn F) : ∃ l, 1 ≤ l ∧ l ≤ 15 ∧ ∀ c y, y < H → per a c y → l % c = 0 := by
  by_cases q8 : ∃ y, y < H ∧ per a 8 y
  · obtain ⟨y8, g8⟩ := q8
    refine ⟨8, by omega, by omega, fun c y hy hp => ?_⟩
    by_cases e : c = 8
    · rw [e]
    · have h1 := rounds2 hW g8 ⟨hy, hp⟩ (Ne.symm e)
      have h2 := hp.1
      omega
  by_cases q7 : ∃ y, y < H ∧ per a 7 y
  · obtain ⟨y7, g7⟩ := q7
    refine ⟨7, by omega, by omega, fun c y hy hp => ?_⟩
    by_cases e : c = 7
    · rw [e]
    · have h1 := rounds2 hW g7 ⟨hy, hp⟩ (Ne.symm e)
      have h2 := hp.1
      rw [show c = 1 by omega]
  by_cases q5 : ∃ y, y < H ∧ per a 5 y
  · obtain ⟨y5, g5⟩ := q5
    by_cases q2 : ∃ y, y < H ∧ per a 2 y
    · obtain ⟨y2, g2⟩ := q2
      refine ⟨10, by omega, by omega, fun c y hy hp => ?_⟩
      by_cases e : c = 5
      · rw [e]
      · by_cases e2 : c = 2
        · rw [e2]
        · have h1 := rounds3 hW g5 g2 ⟨hy, hp⟩ (by omega) (Ne.symm e) (Ne.symm e2)
          have h2 := hp.1
          rw [show c = 1 by omega]
    · refine ⟨15, by omega, by omega, fun c y hy hp => ?_⟩
      by_cases e : c = 5
      · rw [e]
      · have h1 := rounds2 hW g5 ⟨hy, hp⟩ (Ne.symm e)
        have h2 := hp.1
        by_cases e2 : c = 2
        · exact absurd ⟨y, hy, by rw [← e2]; exact hp⟩ q2
        · rcases (show c = 1 ∨ c = 3 by omega) with rfl | rfl <;> rfl
  refine ⟨12, by omega, by omega, fun c y hy hp => ?_⟩
  have h1 := rounds1 hW hy hp
  have h2 := hp.1
  have h8 : c ≠ 8 := fun e => q8 ⟨y, hy, by rw [← e]; exact hp⟩
  have h7 : c ≠ 7 := fun e => q7 ⟨y, hy, by rw [← e]; exact hp⟩
  have h5 : c ≠ 5 := fun e => q5 ⟨y, hy, by rw [← e]; exact hp⟩
  rcases (show c = 1 ∨ c = 2 ∨ c = 3 ∨ c = 4 ∨ c = 6 by omega) with rfl | rfl | rfl | rfl | rfl <;> rfl
/-- a way comes back to itself -/
theorem way_back {a : St} {H Dn F h : Nat} (hW : WT a H Dn F) (hh : h < H ∨ h = 8) : ∃ i j, i < j ∧ j ≤ 9 ∧ wy a i h = wy a j h := by
  by_cases c : ∃ i j, i < j ∧ j ≤ 9 ∧ wy a i h = wy a j h
  · exact c
  · have h1 := holes 9 10 (fun i => wy a i h) (fun i _ => by
      show wy a i h < 9
      rcases wy_in hW i h hh with q | q
      · have := hW.1; omega
      · omega) (fun i j hi hj e => by
      rcases Nat.lt_trichotomy i j with q | q | q
      · exact absurd ⟨i, j, q, by omega, e⟩ c
      · exact q
      · exact absurd ⟨j, i, q, by omega, e.symm⟩ c)
    omega
theorem way_all {a : St} {h i j : Nat} (hij : i < j) (e : wy a i h = wy a j h) : ∀ k, ∃ k1, k1 < j ∧ wy a k1 h = wy a k h := by
  intro k
  induction k using Nat.strongRecOn with
  | _ k ih =>
    rcases Nat.lt_or_ge k j with q | q
    · exact ⟨k, q, rfl⟩
    · obtain ⟨k1, h1, h2⟩ := ih (k - j + i) (by omega)
      refine ⟨k1, h1, ?_⟩
      rw [h2, show k - j + i = i + (k - j) by omega, wy_add, e, ← wy_add, show j + (k - j) = k by omega]
theorem allC_iff {a : St} {F d : Nat} : ∀ t h, allC a F t h d = true ↔ ∀ k, k < t → canT a F (wy a k h) d = true
  | 0, h => ⟨fun _ k hk => absurd hk (by omega), fun _ => rfl⟩
  | t + 1, h => by
    have ih := allC_iff (a := a) (F := F) (d := d) t (nx a h)
    unfold allC
    rw [Bool.and_eq_true, ih]
    refine ⟨fun q k hk => ?_, fun q => ⟨q 0 (by omega), fun k hk => q (k + 1) (by omega)⟩⟩
    cases k with
    | zero => exact q.1
    | succ k => exact q.2 k (by omega)
theorem bool_iff {p q : Bool} (h : p = true ↔ q = true) : p = q := by
  cases p <;> cases q <;> simp_all
/-- behind nine days all comes again -/
theorem comes_again {a : St} {H Dn F F1 : Nat} (hW : WT a H Dn F) (s : Nat → Int32) : ∃ l, 1 ≤ l ∧ l ≤ 15 ∧ ∀ h, h < H → itS a F1 s 9 h = itS a F1 s (9 + l) h := by
  obtain ⟨l, h1, h2, h3⟩ := common hW
  refine ⟨l, h1, h2, fun h hh => ?_⟩
  have hh8 : h < 8 := by have := hW.1; omega
  obtain ⟨i, j, hij, hj, e⟩ := way_back hW (Or.inl hh)
  have ew : wy a (9 + l) h = wy a 9 h := by
    rw [wy_add]
    rcases wy_in hW 9 h (Or.inl hh) with q | q
    · have hb : wy a (j - i) (wy a 9 h) = wy a 9 h := by
        rw [← wy_add, show 9 + (j - i) = j + (9 - i) by omega, wy_add, ← e, ← wy_add, show i + (9 - i) = 9 by omega]
      obtain ⟨c, hc, hm⟩ := pk_least (fun c => 0 < c ∧ wy a c (wy a 9 h) = wy a 9 h) ⟨j - i, by omega, hb⟩
      have hp : per a c (wy a 9 h) := ⟨hc.1, hc.2, fun i hi hic e2 => hm i hic ⟨hi, e2⟩⟩
      have h4 := h3 c _ q hp
      rw [show l = l / c * c by
        have := Nat.div_add_mod l c
        rw [Nat.mul_comm]
        omega]
      exact per_mul hp _
    · rw [q, wy_8]
  rw [itS_char hW s 9 h hh8, itS_char hW s (9 + l) h hh8, ew]
  have ea : ∀ d, allC a F1 (9 + l) h d = allC a F1 9 h d := fun d => bool_iff (by
    rw [allC_iff, allC_iff]
    refine ⟨fun q k hk => q k (by omega), fun q k hk => ?_⟩
    obtain ⟨k1, g1, g2⟩ := way_all hij e k
    rw [← g2]
    exact q k1 (by omega))
  rw [ea]
/-- the first days that are alike -/
theorem firstPair {a : St} {H Dn F F1 : Nat} (hW : WT a H Dn F) (s : Nat → Int32) : ∃ s0 m0, 1 ≤ m0 ∧ s0 ≤ 9 ∧ m0 ≤ 15 ∧ (∀ h, h < H → itS a F1 s s0 h = itS a F1 s (s0 + m0) h) ∧ (∀ i m, i < s0 → 1 ≤ m → ¬ ∀ h, h < H → itS a F1 s i h = itS a F1 s (i + m) h) ∧ ∀ m, 1 ≤ m → m < m0 → ¬ ∀ h, h < H → itS a F1 s s0 h = itS a F1 s (s0 + m) h := by
  obtain ⟨l, l1, l2, l3⟩ := comes_again (F1 := F1) hW s
  have shift : ∀ i j u, (∀ h, h < H → itS a F1 s i h = itS a F1 s j h) → ∀ h, h < H → itS a F1 s (i + u) h = itS a F1 s (j + u) h := fun i j u e h hh => by
    rw [itS_add, itS_add]
    exact itS_cong hW e u h hh
  obtain ⟨s0, ⟨m, m1, m2⟩, hs⟩ := pk_least (fun i => ∃ m, 1 ≤ m ∧ ∀ h, h < H → itS a F1 s i h = itS a F1 s (i + m) h) ⟨9, l, l1, l3⟩
  have hs9 : s0 ≤ 9 := by
    rcases Nat.lt_or_ge 9 s0 with q | q
    · exact absurd ⟨l, l1, l3⟩ (hs 9 q)
    · exact q
  have many : ∀ k, ∀ h, h < H → itS a F1 s s0 h = itS a F1 s (s0 + k * m) h := by
    intro k
    induction k with
    | zero => exact fun h _ => by rw [Nat.zero_mul, Nat.add_zero]
    | succ k ih =>
      intro h hh
      rw [m2 h hh, shift _ _ m ih h hh, Nat.succ_mul, Nat.add_assoc]
  have hl : ∀ h, h < H → itS a F1 s s0 h = itS a F1 s (s0 + l) h := fun h hh => by
    have e1 := many 9 h hh
    have e2 := shift _ _ (s0 + 9 * m - 9) l3 h hh
    have e3 := shift _ _ l (many 9) h hh
    rw [show 9 + (s0 + 9 * m - 9) = s0 + 9 * m by omega, show 9 + l + (s0 + 9 * m - 9) = s0 + 9 * m + l by omega] at e2
    rw [e1, e2, e3]
  obtain ⟨m0, ⟨g1, g2⟩, g3⟩ := pk_least (fun m => 1 ≤ m ∧ ∀ h, h < H → itS a F1 s s0 h = itS a F1 s (s0 + m) h) ⟨l, l1, hl⟩
  refine ⟨s0, m0, g1, hs9, ?_, g2, fun i m hi hm e => hs i hi ⟨m, hm, e⟩, fun m hm1 hm2 e => g3 m hm2 ⟨hm1, e⟩⟩
  rcases Nat.lt_or_ge l m0 with q | q
  · exact absurd ⟨l1, hl⟩ (g3 l q)
  · omega
/-- a number for all that is done -/
def stI (f : Nat → Int32) : Nat → Int32
  | 0 => 0
  | k + 1 => stI f k * 7 + f k + 1
def dg (x : Int32) : Nat := if x = -1 then 0 else x.toNatClampNeg + 1
def stN (f : Nat → Int32) : Nat → Nat
  | 0 => 0
  | k + 1 => stN f k * 7 + dg (f k)
theorem dg_of {f : Nat → Int32} {Dn k : Nat} (hs : wfS f Dn) (hD : Dn ≤ 6) (hk : k < 8) : dg (f k) < 7 ∧ f k + 1 = nI (dg (f k)) := by
  unfold dg
  rcases hs k hk with e | ⟨d, hd, e⟩
  · rw [e]
    exact ⟨by decide, by decide⟩
  · rw [e, if_neg (by rw [neM (by omega)]; exact id), cl (by omega), nI_1]
    exact ⟨by omega, rfl⟩
theorem dg_inj {f g : Nat → Int32} {Dn k : Nat} (hf : wfS f Dn) (hg : wfS g Dn) (hD : Dn ≤ 6) (hk : k < 8) (e : dg (f k) = dg (g k)) : f k = g k := by
  have e1 := (dg_of hf hD hk).2
  have e2 := (dg_of hg hD hk).2
  rw [e, ← e2] at e1
  have e3 := congrArg (fun z => z - 1) e1
  simpa [Int32.add_sub_cancel] using e3
theorem stI_N {f : Nat → Int32} {Dn : Nat} (hs : wfS f Dn) (hD : Dn ≤ 6) : ∀ k, k ≤ 8 → stI f k = nI (stN f k)
  | 0, _ => rfl
  | k + 1, hk => by
    unfold stI stN
    rw [stI_N hs hD k (by omega), Int32.add_assoc, (dg_of hs hD (by omega)).2, show (7 : Int32) = nI 7 from rfl, pk_mul, nI_add]
theorem stN_lt {f : Nat → Int32} {Dn : Nat} (hs : wfS f Dn) (hD : Dn ≤ 6) : ∀ k, k ≤ 8 → stN f k < 7 ^ k
  | 0, _ => by unfold stN; omega
  | k + 1, hk => by
    have h1 := stN_lt hs hD k (by omega)
    have h2 := (dg_of hs hD (show k < 8 by omega)).1
    unfold stN
    rw [Nat.pow_succ]
    omega
theorem stN_inj {f g : Nat → Int32} {Dn : Nat} (hf : wfS f Dn) (hg : wfS g Dn) (hD : Dn ≤ 6) : ∀ k, k ≤ 8 → stN f k = stN g k → ∀ h, h < k → f h = g h
  | 0, _, _ => fun h hh => absurd hh (by omega)
  | k + 1, hk, e => fun h hh => by
    unfold stN at e
    have h1 := (dg_of hf hD (show k < 8 by omega)).1
    have h2 := (dg_of hg hD (show k < 8 by omega)).1
    rcases Nat.lt_or_ge h k with q | q
    · exact stN_inj hf hg hD k (by omega) (by omega) h q
    · rw [show h = k by omega]
      exact dg_inj hf hg hD (by omega) (by omega)
theorem stI_cong {f g : Nat → Int32} : ∀ k, (∀ h, h < k → f h = g h) → stI f k = stI g k
  | 0, _ => rfl
  | k + 1, h => by
    unfold stI
    rw [stI_cong k (fun i hi => h i (by omega)), h k (by omega)]
theorem stI_iff {f g : Nat → Int32} {Dn H : Nat} (hf : wfS f Dn) (hg : wfS g Dn) (hD : Dn ≤ 6) (hH : H ≤ 8) : (stI f H = stI g H) = ∀ h, h < H → f h = g h := propext ⟨fun e => by
  rw [stI_N hf hD H hH, stI_N hg hD H hH] at e
  have h1 := stN_lt hf hD H hH
  have h2 := stN_lt hg hD H hH
  have h3 : 7 ^ H ≤ 7 ^ 8 := Nat.pow_le_pow_right (by omega) hH
  have h4 : (7 : Nat) ^ 8 < 2 ^ 31 := by decide
  exact stN_inj hf hg hD H hH ((nI_eq (by omega) (by omega)).mp e), stI_cong H⟩
theorem x_states {a : St} {H Dn F n : Nat} (hn : 3000 ≤ n) (hW : WT a H Dn F) (hs : wfS (a 16) Dn) : ∃ a1, f_X5_foreseeStates n a = some a1 ∧ (∀ i, i ≠ 14 → i ≠ 33 → i ≠ 36 → a1 i = a i) ∧ ∀ t, t < 32 → a1 36 t = stI (itS a F (a 16) t) H := by
  have hW1 := hW.1
  obtain ⟨a1, g1, g2, g3, g4⟩ := x_foresee (n := n) (t := 0) (by omega) (by omega) hW hs
  obtain ⟨s1, ⟨p1, p2, p3, p4⟩, h2⟩ := loop_inv (fun j i (s : St) => L_X5_foreseeStates_7 n j i s) (fun s => some s) 32 0 (fun k s => (∀ i, i ≠ 14 → i ≠ 33 → i ≠ 36 → s i = a i) ∧ (∀ t, t < k → s 36 t = stI (itS a F (a 16) t) H) ∧ (∀ h, h < H → s 33 h = itS a F (a 16) k h) ∧ wfS (s 33) Dn) (s0 := a1) (by omega) ⟨fun i q1 q2 _ => g2 i q1 q2, fun t q => absurd q (by omega), g3, g4⟩ (fun k s _ hk hP => by
    obtain ⟨q1, q2, q3, q4⟩ := hP
    have hWs : WT (up s 36 k (stI (s 33) H)) H Dn F := by
      unfold WT at hW ⊢
      rw [up_n _ _ _ (by omega : (5 : Nat) ≠ 36), up_n _ _ _ (by omega : (6 : Nat) ≠ 36), q1 5 (by omega) (by omega) (by omega), q1 6 (by omega) (by omega) (by omega)]
      exact hW
    obtain ⟨s3, e1, e2, e3, e4⟩ := x_passDay (n := n) (o := 33) (F1 := F) (by omega) hWs hW.2.1.2.2.2 (by rw [up_n _ _ _ (by omega : (33 : Nat) ≠ 36)]; exact q4) (by omega) (by omega)
    rw [up_n _ _ _ (by omega : (33 : Nat) ≠ 36)] at e3 e4
    have es : ∀ h, h < H → stp (up s 36 k (stI (s 33) H)) F (s 33) h = itS a F (a 16) (k + 1) h := by
      intro h hh
      rw [stp_frame (a := a) (by rw [up_n _ _ _ (by omega), q1 6 (by omega) (by omega) (by omega)]) (by rw [up_n _ _ _ (by omega), q1 7 (by omega) (by omega) (by omega)]) (by rw [up_n _ _ _ (by omega), q1 9 (by omega) (by omega) (by omega)]) (by rw [up_n _ _ _ (by omega), q1 10 (by omega) (by omega) (by omega)]) (by rw [up_n _ _ _ (by omega), q1 11 (by omega) (by omega) (by omega)])]
      exact stp_cong hW (fun j hj => q3 j hj) (by omega)
    refine ⟨s3, ⟨fun i h1 h3 h4 => by rw [e2 i h1 h3, up_n _ _ _ h4]; exact q1 i h1 h3 h4, fun t ht => ?_, fun h hh => by rw [e3 h hh]; exact es h hh, fun h hh => ?_⟩, fun j => ?_⟩
    · rw [e2 36 (by omega) (by omega), up_s]
      by_cases e : t = k
      · rw [e, ud_s]
        exact stI_cong H q3
      · rw [ud_n _ _ e]
        exact q2 t (by omega)
    · rcases Nat.lt_or_ge h H with q | q
      · rw [e3 h q]
        exact stp_wf hWs q4 h hh
      · rw [e4 h q]
        exact q4 h hh
    · show L_X5_foreseeStates_7 n (j + 1) (nI k) s = L_X5_foreseeStates_7 n j (nI (k + 1)) s3
      rw [L_X5_foreseeStates_7, if_neg (by rw [show (32 : Int32) = nI 32 from rfl, leI (by omega) (by omega)]; omega)]
      obtain ⟨z, z1, z2⟩ := loop_inv (fun i c (x : Int32) => L_X5_foreseeStates_17 n (L_X5_foreseeStates_7 n j) (nI k) i x c s) (fun x => B_X5_foreseeStates_48 n (L_X5_foreseeStates_7 n j) (nI k) x s) H 0 (fun m x => x = stI (s 33) m) (s0 := 0) (by omega) rfl (fun m x _ hm hx => by
        refine ⟨stI (s 33) (m + 1), rfl, fun i => ?_⟩
        show L_X5_foreseeStates_17 n (L_X5_foreseeStates_7 n j) (nI k) (i + 1) x (nI m) s = L_X5_foreseeStates_17 n (L_X5_foreseeStates_7 n j) (nI k) i (stI (s 33) (m + 1)) (nI (m + 1)) s
        rw [L_X5_foreseeStates_17, if_neg (by rw [q1 5 (by omega) (by omega) (by omega), hW.2.1.1, leI (by omega) (by omega)]; omega), hx]
        simp only [cl (show m < 100000 by omega), gj (show m < 8 by omega) (show 8 ≤ 100000 by omega), if_false, nI_1]
        rfl) (fun i x hx => by
        show L_X5_foreseeStates_17 n (L_X5_foreseeStates_7 n j) (nI k) (i + 1) x (nI H) s = B_X5_foreseeStates_48 n (L_X5_foreseeStates_7 n j) (nI k) x s
        rw [L_X5_foreseeStates_17, if_pos (by rw [q1 5 (by omega) (by omega) (by omega), hW.2.1.1, leI (by omega) (by omega)]; omega)])
      have z3 := z2 n (by omega)
      rw [show (0 : Int32) = nI 0 from rfl]
      have z4 : L_X5_foreseeStates_17 n (L_X5_foreseeStates_7 n j) (nI k) n (nI 0) (nI 0) s = B_X5_foreseeStates_48 n (L_X5_foreseeStates_7 n j) (nI k) z s := z3
      rw [z4, z1]
      unfold B_X5_foreseeStates_48
      have e5 : (up s 36 k (stI (s 33) H)) 5 2 = nI F := by rw [up_n _ _ _ (by omega), q1 5 (by omega) (by omega) (by omega)]; exact hW.2.1.2.2.1
      simp only [cl (show k < 100000 by omega), gj hk (show 32 ≤ 100000 by omega), if_false, e5, e1, nI_1]
      rfl) (fun j s hP => by
    show L_X5_foreseeStates_7 n (j + 1) (nI 32) s = some s
    rw [L_X5_foreseeStates_7, if_pos (by decide)])
  refine ⟨s1, ?_, p1, p2⟩
  unfold f_X5_foreseeStates
  rw [show (0 : Int32) = nI 0 from rfl, g1]
  exact h2 n (by omega)
theorem x_againL {a : St} {n s0 m0 w : Nat} {v : Nat → Int32} (hn : 3000 ≤ n) (hv : ∀ t, t < 32 → a 36 t = v t) (h0 : s0 + m0 < 32) (h1 : 1 ≤ m0) (e0 : v s0 = v (s0 + m0)) (n1 : ∀ i k, i < s0 → i < k → k < 32 → v i ≠ v k) (n2 : ∀ k, s0 < k → k < s0 + m0 → v s0 ≠ v k) : L_X5_again_18 n (nI w) n 0 a = B_X5_again_49 n (nI w) (nI s0) (nI (s0 + m0)) a := by
  have inner : ∀ i (k18 : Int32 → St → Option (Int32 × St)), i < 32 → (∃ k, i + 1 ≤ k ∧ k < 32 ∧ (v i = v k) ∧ (∀ m, i + 1 ≤ m → m < k → ¬ v i = v m) ∧ ∀ j, 32 < j → L_X5_again_28 n k18 (nI w) (nI i) j (nI (i + 1)) a = B_X5_again_49 n (nI w) (nI i) (nI k) a) ∨ ((∀ m, i + 1 ≤ m → m < 32 → ¬ v i = v m) ∧ ∀ j, 32 < j → L_X5_again_28 n k18 (nI w) (nI i) j (nI (i + 1)) a = B_X5_again_67 n k18 (nI w) (nI i) a) := fun i k18 hi => by
    refine loop_stop (fun j c => L_X5_again_28 n k18 (nI w) (nI i) j c a) 32 (i + 1) (fun k => B_X5_again_49 n (nI w) (nI i) (nI k) a) (fun k => v i = v k) (B_X5_again_67 n k18 (nI w) (nI i) a) (by omega) (fun k _ hk => ?_) (fun j => ?_)
    · have e : ∀ j, L_X5_again_28 n k18 (nI w) (nI i) (j + 1) (nI k) a = if v i = v k then B_X5_again_49 n (nI w) (nI i) (nI k) a else L_X5_again_28 n k18 (nI w) (nI i) j (nI (k + 1)) a := fun j => by
        rw [L_X5_again_28, if_neg (by rw [show (32 : Int32) = nI 32 from rfl, leI (by omega) (by omega)]; omega)]
        simp only [cl (show k < 100000 by omega), gj hk (show 32 ≤ 100000 by omega), cl (show i < 100000 by omega), gj hi (show 32 ≤ 100000 by omega), if_false, hv i hi, hv k hk, nI_1]
      by_cases c : v i = v k
      · exact Or.inl ⟨c, fun j => by show L_X5_again_28 n k18 (nI w) (nI i) (j + 1) (nI k) a = _; rw [e, if_pos c]⟩
      · exact Or.inr ⟨c, fun j => by show L_X5_again_28 n k18 (nI w) (nI i) (j + 1) (nI k) a = _; rw [e, if_neg c]⟩
    · show L_X5_again_28 n k18 (nI w) (nI i) (j + 1) (nI 32) a = _
      rw [L_X5_again_28, if_pos (by decide)]
  obtain ⟨_, _, g⟩ := loop_inv (fun j i (_ : Unit) => L_X5_again_18 n (nI w) j i a) (fun _ => B_X5_again_49 n (nI w) (nI s0) (nI (s0 + m0)) a) s0 0 (fun _ _ => True) (s0 := ()) (by omega) trivial (fun k _ _ hk _ => by
    refine ⟨(), trivial, fun j => ?_⟩
    show L_X5_again_18 n (nI w) (j + 1) (nI k) a = L_X5_again_18 n (nI w) j (nI (k + 1)) a
    rw [L_X5_again_18, if_neg (by rw [show (32 : Int32) = nI 32 from rfl, leI (by omega) (by omega)]; omega)]
    rcases inner k (L_X5_again_18 n (nI w) j) (by omega) with ⟨m, q1, q2, q3, -⟩ | ⟨-, q⟩
    · exact absurd q3 (n1 k m hk (by omega) q2)
    · rw [nI_1, q n (by omega)]
      unfold B_X5_again_67
      rw [nI_1]) (fun j _ _ => by
    show L_X5_again_18 n (nI w) (j + 1) (nI s0) a = _
    rw [L_X5_again_18, if_neg (by rw [show (32 : Int32) = nI 32 from rfl, leI (by omega) (by omega)]; omega)]
    rcases inner s0 (L_X5_again_18 n (nI w) j) (by omega) with ⟨m, q1, q2, q3, q4, q5⟩ | ⟨q, -⟩
    · have em : m = s0 + m0 := by
        rcases Nat.lt_trichotomy m (s0 + m0) with z | z | z
        · exact absurd q3 (n2 m (by omega) z)
        · exact z
        · exact absurd e0 (q4 (s0 + m0) (by omega) z)
      rw [nI_1, q5 n (by omega), em]
    · exact absurd e0 (q _ (by omega) h0))
  exact g n (by omega)
/-- the rows of two days alike -/
theorem m_alike {b : St} {H n s t : Nat} {v : Nat → Nat → Int32} (hn : 3000 ≤ n) (hH : H ≤ 8) (e0 : b 0 6 = nI H) (hs : s < 200) (ht : t < 200) (hv : ∀ u, u = s ∨ u = t → ∀ h, h < H → b 9 (8 * u + h) = v u h) : f_X6_areAlike n (nI s) (nI t) b = some (b2i (decide (∀ h, h < H → v s h = v t h))) := by
  unfold f_X6_areAlike
  obtain ⟨z, z1, z2⟩ := loop_inv (fun j i (x : Int32) => L_X6_areAlike_5 n (nI s) (nI t) b j x i) (fun x => if x = 0 ∨ x = 1 then some x else none) H 0 (fun m x => x = b2i (decide (∀ h, h < m → v s h = v t h))) (s0 := 1) (by omega) (by
    rw [decide_eq_true (show ∀ h, h < 0 → v s h = v t h from fun h hh => absurd hh (by omega))]
    rfl) (fun m x _ hm hx => by
    refine ⟨b2i (decide (∀ h, h < m + 1 → v s h = v t h)), rfl, fun i => ?_⟩
    show L_X6_areAlike_5 n (nI s) (nI t) b (i + 1) x (nI m) = L_X6_areAlike_5 n (nI s) (nI t) b i _ (nI (m + 1))
    have hm8 : m < 8 := by omega
    rw [L_X6_areAlike_5, if_neg (by rw [e0, leI (by omega) (by omega)]; omega), hx]
    simp only [e8 s hs m hm8, s8 s hs m hm8, n8 hs hm8, e8 t ht m hm8, s8 t ht m hm8, n8 ht hm8, or_self, if_false, hv s (Or.inl rfl) m hm, hv t (Or.inr rfl) m hm, nI_1]
    by_cases c : ∀ h, h < m → v s h = v t h
    · rw [show decide (∀ h, h < m → v s h = v t h) = true from decide_eq_true c]
      rw [if_neg (show ¬ b2i true = 0 from by decide)]
      by_cases c1 : v s m = v t m
      · rw [if_pos c1, show decide (∀ h, h < m + 1 → v s h = v t h) = true from decide_eq_true (fun h hh => by
          rcases Nat.lt_or_ge h m with q | q
          · exact c h q
          · rw [show h = m by omega]; exact c1)]
        rfl
      · rw [if_neg c1, show decide (∀ h, h < m + 1 → v s h = v t h) = false from decide_eq_false (fun q => c1 (q m (by omega)))]
        rfl
    · rw [show decide (∀ h, h < m → v s h = v t h) = false from decide_eq_false c]
      rw [if_pos (show b2i false = 0 from rfl), show decide (∀ h, h < m + 1 → v s h = v t h) = false from decide_eq_false (fun q => c (fun h hh => q h (by omega)))]
      rfl) (fun i x hx => by
    show L_X6_areAlike_5 n (nI s) (nI t) b (i + 1) x (nI H) = _
    rw [L_X6_areAlike_5, if_pos (by rw [e0, leI (by omega) (by omega)]; omega)])
  have z3 := z2 n (by omega)
  rw [z1] at z3
  refine z3.trans ?_
  generalize decide (∀ h, h < H → v s h = v t h) = p
  cases p <;> rfl
theorem m_againL {b : St} {H n s0 m0 w : Nat} {v : Nat → Nat → Int32} (hn : 3000 ≤ n) (hH : H ≤ 8) (b0 : b 0 6 = nI H) (hv : ∀ u, u ≤ 150 → ∀ h, h < H → b 9 (8 * u + h) = v u h) (h0 : s0 ≤ 9) (h9 : m0 ≤ 15) (h1 : 1 ≤ m0) (e0 : ∀ h, h < H → v s0 h = v (s0 + m0) h) (n1 : ∀ i m, i < s0 → 1 ≤ m → ¬ ∀ h, h < H → v i h = v (i + m) h) (n2 : ∀ m, 1 ≤ m → m < m0 → ¬ ∀ h, h < H → v s0 h = v (s0 + m) h) : L_X6_again_26 n (nI w) n 0 b = B_X6_again_51 n (nI w) (nI s0) (nI m0) b := by
  have inner : ∀ i (k26 : Int32 → St → Option (Int32 × St)), i < 70 → (∃ k, 1 ≤ k ∧ k < 70 ∧ (∀ h, h < H → v i h = v (i + k) h) ∧ (∀ m, 1 ≤ m → m < k → ¬ ∀ h, h < H → v i h = v (i + m) h) ∧ ∀ j, 70 < j → L_X6_again_34 n k26 (nI w) (nI i) j (nI 1) b = B_X6_again_51 n (nI w) (nI i) (nI k) b) ∨ ((∀ m, 1 ≤ m → m < 70 → ¬ ∀ h, h < H → v i h = v (i + m) h) ∧ ∀ j, 70 < j → L_X6_again_34 n k26 (nI w) (nI i) j (nI 1) b = B_X6_again_67 n k26 (nI w) (nI i) b) := fun i k26 hi => by
    refine loop_stop (fun j c => L_X6_again_34 n k26 (nI w) (nI i) j c b) 70 1 (fun k => B_X6_again_51 n (nI w) (nI i) (nI k) b) (fun k => ∀ h, h < H → v i h = v (i + k) h) (B_X6_again_67 n k26 (nI w) (nI i) b) (by omega) (fun k _ hk => ?_) (fun j => ?_)
    · have e : ∀ j, L_X6_again_34 n k26 (nI w) (nI i) (j + 1) (nI k) b = if b2i (decide (∀ h, h < H → v i h = v (i + k) h)) = 0 then L_X6_again_34 n k26 (nI w) (nI i) j (nI (k + 1)) b else B_X6_again_51 n (nI w) (nI i) (nI k) b := fun j => by
        rw [L_X6_again_34, if_neg (by rw [show (70 : Int32) = nI 70 from rfl, leI (by omega) (by omega)]; omega), nI_add, m_alike (v := v) hn hH b0 (by omega) (by omega) (fun u hu => hv u (by omega)), nI_1]
        rfl
      by_cases c : ∀ h, h < H → v i h = v (i + k) h
      · exact Or.inl ⟨c, fun j => by show L_X6_again_34 n k26 (nI w) (nI i) (j + 1) (nI k) b = _; rw [e, decide_eq_true c, if_neg (by decide)]⟩
      · exact Or.inr ⟨c, fun j => by show L_X6_again_34 n k26 (nI w) (nI i) (j + 1) (nI k) b = _; rw [e, decide_eq_false c, if_pos (by decide)]⟩
    · show L_X6_again_34 n k26 (nI w) (nI i) (j + 1) (nI 70) b = _
      rw [L_X6_again_34, if_pos (by decide)]
  obtain ⟨_, _, g⟩ := loop_inv (fun j i (_ : Unit) => L_X6_again_26 n (nI w) j i b) (fun _ => B_X6_again_51 n (nI w) (nI s0) (nI m0) b) s0 0 (fun _ _ => True) (s0 := ()) (by omega) trivial (fun k _ _ hk _ => by
    refine ⟨(), trivial, fun j => ?_⟩
    show L_X6_again_26 n (nI w) (j + 1) (nI k) b = L_X6_again_26 n (nI w) j (nI (k + 1)) b
    rw [L_X6_again_26, if_neg (by rw [show (70 : Int32) = nI 70 from rfl, leI (by omega) (by omega)]; omega)]
    rcases inner k (L_X6_again_26 n (nI w) j) (by omega) with ⟨m, q1, q2, q3, -⟩ | ⟨-, q⟩
    · exact absurd q3 (n1 k m hk q1)
    · rw [show (1 : Int32) = nI 1 from rfl, q n (by omega)]
      unfold B_X6_again_67
      rw [nI_1]) (fun j _ _ => by
    show L_X6_again_26 n (nI w) (j + 1) (nI s0) b = _
    rw [L_X6_again_26, if_neg (by rw [show (70 : Int32) = nI 70 from rfl, leI (by omega) (by omega)]; omega)]
    rcases inner s0 (L_X6_again_26 n (nI w) j) (by omega) with ⟨m, q1, q2, q3, q4, q5⟩ | ⟨q, -⟩
    · have em : m = m0 := by
        rcases Nat.lt_trichotomy m m0 with z | z | z
        · exact absurd q3 (n2 m q1 z)
        · exact z
        · exact absurd e0 (q4 m0 h1 z)
      rw [show (1 : Int32) = nI 1 from rfl, q5 n (by omega), em]
    · exact absurd e0 (q _ h1 (by omega)))
  exact g n (by omega)
theorem o_again {a b : St} {H Dn F n : Nat} (hn : 3000 ≤ n) (hR : RR a b H Dn F) (x1 : Int32) : OK2 (f_X5_again n x1 a) (f_X6_again n x1 b) := by
  have hT := hR.1
  have hW := WT_of hT
  have hwf := wf_of hR
  have hH := hT.1
  unfold f_X5_again f_X6_again
  rcases ck_in (lo := 0) (hi := 1) x1 0 1 rfl rfl (by omega) (by omega) with ⟨w, _, hw, rfl, f3, f4⟩ | ⟨f3, f4⟩
  · rw [show (0 : Int64) = (0 : Int32).toInt64 from rfl, show (1 : Int64) = (1 : Int32).toInt64 from rfl, f3, f4]
    obtain ⟨a1, g1, g2, g3⟩ := x_states (n := n) hn hW hwf
    obtain ⟨b1, k1, k2, k3⟩ := m_layDays (n := n) (t := 150) (by omega) (by omega) hT hW.2.1.2.2.2 (today hR) hwf
    obtain ⟨s0, m0, q1, q2, q3, q4, q5, q6⟩ := firstPair (F1 := F) hW (a 16)
    have ev : ∀ i k : Nat, (stI (itS a F (a 16) i) H = stI (itS a F (a 16) k) H) = ∀ h, h < H → itS a F (a 16) i h = itS a F (a 16) k h := fun i k => stI_iff (itS_wf hW hwf i) (itS_wf hW hwf k) (by omega) (by omega)
    have xl := x_againL (n := n) (w := w) (s0 := s0) (m0 := m0) (v := fun t => stI (itS a F (a 16) t) H) hn g3 (by omega) q1 (by show stI _ H = stI _ H; rw [ev]; exact q4) (fun i k hi hk _ => by
      show ¬ stI _ H = stI _ H
      rw [ev, show k = i + (k - i) by omega]
      exact q5 i _ hi (by omega)) (fun k h1 h2 => by
      show ¬ stI _ H = stI _ H
      rw [ev, show k = s0 + (k - s0) by omega]
      exact q6 _ (by omega) (by omega))
    have ml := m_againL (n := n) (w := w) (b := b1) (H := H) (s0 := s0) (m0 := m0) (v := fun t => itS a F (a 16) t) hn hH.2.1 (by rw [k2 0 (by omega)]; exact hT.2.1.2.1) k3 q2 q3 q1 q4 q5 q6
    simp only [Option.bind_some, i10, if_false, g1, m_forbiddenNow (n := n) (by omega) hT, show (150 : Int32) = nI 150 from rfl, k1, xl, ml]
    unfold B_X5_again_49 B_X6_again_51
    have key : ∀ r, OK2 (some (r, a1)) (some (r, b1)) := fun r => ⟨r, a1, b1, H, Dn, F, rfl, rfl, RR_fr hR (fun i _ _ _ _ q1 q2 => g2 i q1 (by omega) (by omega)) (by rw [g2 1 (by omega) (by omega) (by omega)]) (fun i _ _ q _ _ => k2 i q) (fun k _ => by rw [k2 0 (by omega)])⟩
    by_cases c : nI w = 0
    · rw [if_pos c, if_pos c]
      exact key _
    · rw [if_neg c, if_neg c, pk_sub (by omega), show s0 + m0 - s0 = m0 by omega]
      exact key _
  · rw [show (0 : Int64) = (0 : Int32).toInt64 from rfl, show (1 : Int64) = (1 : Int32).toInt64 from rfl, f3, f4]
    exact OK2_same hR _
