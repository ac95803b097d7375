/-! ===== rounds of the town ===== -/
def IsSz (a : St) (H c h : Nat) : Prop := (c = 0 ∧ ∀ t, 1 ≤ t → t ≤ H → wy a t h ≠ h) ∨ (1 ≤ c ∧ c ≤ H ∧ wy a c h = h ∧ ∀ t, 1 ≤ t → t < c → wy a t h ≠ h)
theorem szEx (a : St) (H h : Nat) : ∃ c, IsSz a H c h := by
  by_cases e : ∃ t, 1 ≤ t ∧ t ≤ H ∧ wy a t h = h
  · obtain ⟨c, ⟨c1, c2, c3⟩, c4⟩ := pk_least (fun t => 1 ≤ t ∧ t ≤ H ∧ wy a t h = h) e
    exact ⟨c, Or.inr ⟨c1, c2, c3, fun t h1 h2 h3 => c4 t h2 ⟨h1, by omega, h3⟩⟩⟩
  · exact ⟨0, Or.inl ⟨rfl, fun t h1 h2 h3 => e ⟨t, h1, h2, h3⟩⟩⟩
noncomputable def szN (a : St) (H h : Nat) : Nat := Classical.choose (szEx a H h)
theorem sz_is (a : St) (H h : Nat) : IsSz a H (szN a H h) h := Classical.choose_spec (szEx a H h)
theorem sz_one {a : St} {H c1 c2 h : Nat} (h1 : IsSz a H c1 h) (h2 : IsSz a H c2 h) : c1 = c2 := by
  rcases h1 with ⟨e1, q1⟩ | ⟨a1, a2, a3, a4⟩ <;> rcases h2 with ⟨e2, q2⟩ | ⟨b1, b2, b3, b4⟩
  · omega
  · exact absurd b3 (q1 c2 b1 b2)
  · exact absurd a3 (q2 c1 a1 a2)
  · rcases Nat.lt_trichotomy c1 c2 with q | q | q
    · exact absurd a3 (b4 c1 a1 q)
    · exact q
    · exact absurd b3 (a4 c2 b1 q)
theorem sz_per {a : St} {H c h : Nat} (hc : 0 < c) (h1 : IsSz a H c h) : per a c h ∧ c ≤ H := by
  rcases h1 with ⟨e1, q1⟩ | ⟨a1, a2, a3, a4⟩
  · omega
  · exact ⟨⟨a1, a3, fun i hi hic => a4 i hi hic⟩, a2⟩
theorem sz_of {a : St} {H c h : Nat} (h1 : per a c h) (h2 : c ≤ H) : IsSz a H c h := Or.inr ⟨h1.1, h2, h1.2.1, fun t q1 q2 => h1.2.2 t q1 q2⟩
/-- a house more in a set -/
def adb (S e : Nat) : Nat := if fbN S e = true then S else S + 2 ^ e
theorem adb_I : ∀ S, S < 256 → ∀ e, e < 8 → nI S ||| ((1 : Int32) <<< (nI e &&& 31)) = nI (adb S e) ∧ adb S e < 256 ∧ pcn (adb S e) 8 = pcn S 8 + (if fbN S e = true then 0 else 1) := by decide +kernel
theorem adb_bit : ∀ S, S < 256 → ∀ e, e < 8 → ∀ i, i < 8 → fbN (adb S e) i = (fbN S i || decide (i = e)) := by decide +kernel
def rsN (a : St) (h : Nat) : Nat → Nat
  | 0 => 0
  | k + 1 => adb (rsN a h k) (wy a k h)
theorem rsN_ok {a : St} {H Dn F c h : Nat} (hW : WT a H Dn F) (hh : h < H) (hp : per a c h) : ∀ k, k ≤ c → rsN a h k < 256 ∧ pcn (rsN a h k) 8 = k ∧ ∀ i, i < 8 → (fbN (rsN a h k) i = true ↔ ∃ m, m < k ∧ wy a m h = i)
  | 0, _ => ⟨by unfold rsN; omega, by unfold rsN; decide, fun i hi => by
    unfold rsN
    rw [fb0]
    exact ⟨fun q => absurd q (by decide), fun ⟨m, m1, _⟩ => absurd m1 (by omega)⟩⟩
  | k + 1, hk => by
    obtain ⟨h1, h2, h3⟩ := rsN_ok hW hh hp k (by omega)
    have h8 : wy a k h < 8 := per_rng hW hh hp
    obtain ⟨g1, g2, g3⟩ := adb_I _ h1 _ h8
    have hn : ¬ fbN (rsN a h k) (wy a k h) = true := fun q => by
      obtain ⟨m, m1, m2⟩ := (h3 _ h8).mp q
      have := per_inj hp (by omega) (by omega) m2
      omega
    unfold rsN
    refine ⟨g2, by rw [g3, h2, if_neg hn], fun i hi => ?_⟩
    rw [adb_bit _ h1 _ h8 i hi, Bool.or_eq_true, decide_eq_true_eq, h3 i hi]
    refine ⟨fun q => ?_, fun ⟨m, m1, m2⟩ => ?_⟩
    · rcases q with ⟨m, m1, m2⟩ | q
      · exact ⟨m, by omega, m2⟩
      · exact ⟨k, by omega, q.symm⟩
    · by_cases e : m = k
      · rw [e] at m2
        exact Or.inr m2.symm
      · exact Or.inl ⟨m, by omega, m2⟩
theorem x_round {a : St} {H Dn F n h : Nat} (hn : 3000 ≤ n) (hW : WT a H Dn F) (hh : h < H) : f_X4_roundOf n (nI h) a = some (if szN a H h = 0 then 0 else nI (rsN a h (szN a H h))) := by
  have hW1 := hW.1
  have hs := sz_is a H h
  unfold f_X4_roundOf
  rcases Nat.eq_zero_or_pos (szN a H h) with e | e
  · rw [if_pos e]
    have hno : ∀ t, 1 ≤ t → t ≤ H → wy a t h ≠ h := by
      rcases hs with q | q
      · exact q.2
      · omega
    have key : ∀ m k, k + m = H → ∀ S j, m < j → L_X4_roundOf_7 n (nI h) a j (enH (wy a k h)) S (nI k) = some 0 := by
      intro m
      induction m with
      | zero =>
        intro k hk S j hj
        obtain ⟨i, rfl⟩ : ∃ i, j = i + 1 := ⟨j - 1, by omega⟩
        rw [L_X4_roundOf_7, if_pos (by rw [hW.2.1.1, leI (by omega) (by omega)]; omega)]
      | succ m ih =>
        intro k hk S j hj
        obtain ⟨i, rfl⟩ : ∃ i, j = i + 1 := ⟨j - 1, by omega⟩
        rw [L_X4_roundOf_7, if_neg (by rw [hW.2.1.1, leI (by omega) (by omega)]; omega)]
        rcases wy_in hW k h (Or.inl hh) with q | q
        · have q8 : wy a k h < 8 := by omega
          have ih := fun S => ih (k + 1) (by omega) S i (by omega)
          simp only [enH_neM q8, if_false]
          rw [enH_lt q8]
          simp only [cl (show wy a k h < 100000 by omega), gj q8 (show 8 ≤ 100000 by omega), if_false, ac_enc hW q8, ← wy_succ, ih, nI_1]
          rw [if_neg]
          intro z
          rcases wy_in hW (k + 1) h (Or.inl hh) with y | y
          · rw [enH_lt (by omega), eqI (by omega) (by omega)] at z
            exact hno (k + 1) (by omega) (by omega) z
          · rw [y, enH_8] at z
            have x := neM (show h < 100000 by omega)
            rw [← x]
            exact z.symm
        · rw [q, if_pos enH_8]
    have h1 := key H 0 (by omega) 0 n (by omega)
    rw [show wy a 0 h = h from rfl, enH_lt (by omega)] at h1
    exact h1
  · rw [if_neg (by omega)]
    obtain ⟨hp, hc⟩ := sz_per e hs
    generalize szN a H h = c at e hp hc
    obtain ⟨s1, p1, g⟩ := loop_inv (fun j i (s : Int32 × Int32) => L_X4_roundOf_7 n (nI h) a j s.1 s.2 i) (fun _ => some (nI (rsN a h c))) (c - 1) 0 (fun k s => s = (enH (wy a k h), nI (rsN a h k))) (s0 := (nI h, 0)) (by omega) (by rw [show wy a 0 h = h from rfl, enH_lt (by omega)]; rfl) (fun k s _ hk hP => by
      have q8 : wy a k h < 8 := per_rng hW hh hp
      obtain ⟨r1, r2, r3⟩ := rsN_ok hW hh hp k (by omega)
      obtain ⟨w1, w2, w3⟩ := adb_I _ r1 _ q8
      refine ⟨(enH (wy a (k + 1) h), nI (rsN a h (k + 1))), rfl, fun j => ?_⟩
      show L_X4_roundOf_7 n (nI h) a (j + 1) s.1 s.2 (nI k) = L_X4_roundOf_7 n (nI h) a j (enH (wy a (k + 1) h)) (nI (adb (rsN a h k) (wy a k h))) (nI (k + 1))
      rw [hP, L_X4_roundOf_7, if_neg (by rw [hW.2.1.1, leI (by omega) (by omega)]; omega)]
      simp only [enH_neM q8, if_false]
      rw [enH_lt q8]
      simp only [cl (show wy a k h < 100000 by omega), gj q8 (show 8 ≤ 100000 by omega), if_false, ac_enc hW q8, ← wy_succ, w1, nI_1]
      rw [if_neg]
      intro z
      have y : wy a (k + 1) h < 8 := per_rng hW hh hp
      rw [enH_lt y, eqI (by omega) (by omega)] at z
      exact hp.2.2 (k + 1) (by omega) (by omega) z) (fun j s hP => by
      have q8 : wy a (c - 1) h < 8 := per_rng hW hh hp
      obtain ⟨r1, r2, r3⟩ := rsN_ok hW hh hp (c - 1) (by omega)
      obtain ⟨w1, w2, w3⟩ := adb_I _ r1 _ q8
      show L_X4_roundOf_7 n (nI h) a (j + 1) s.1 s.2 (nI (c - 1)) = _
      rw [hP, L_X4_roundOf_7, if_neg (by rw [hW.2.1.1, leI (by omega) (by omega)]; omega)]
      simp only [enH_neM q8, if_false]
      rw [enH_lt q8]
      simp only [cl (show wy a (c - 1) h < 100000 by omega), gj q8 (show 8 ≤ 100000 by omega), if_false, ac_enc hW q8, ← wy_succ, w1, show c - 1 + 1 = c by omega, hp.2.1, enH_lt (show h < 8 by omega), if_true]
      have er : rsN a h c = adb (rsN a h (c - 1)) (wy a (c - 1) h) := by
        have z : rsN a h (c - 1 + 1) = adb (rsN a h (c - 1)) (wy a (c - 1) h) := rfl
        rw [show c - 1 + 1 = c by omega] at z
        exact z
      rw [er])
    exact g n (by omega)
/-- the least of its round -/
def lst (a : St) (c h : Nat) : Prop := ∀ i, i < c → h ≤ wy a i h
def lstDec (a : St) (c h : Nat) : Decidable (lst a c h) := inferInstanceAs (Decidable (∀ i, i < c → h ≤ wy a i h))
theorem round_lo {a : St} {H Dn F c h : Nat} (hW : WT a H Dn F) (hh : h < H) (hp : per a c h) : (lo (rsN a h c) = h) = lst a c h ∧ 0 < rsN a h c := by
  have hW1 := hW.1
  obtain ⟨r1, r2, r3⟩ := rsN_ok hW hh hp c (Nat.le_refl _)
  have h0 : fbN (rsN a h c) h = true := (r3 h (by omega)).mpr ⟨0, hp.1, rfl⟩
  have hz : 0 < rsN a h c := by
    rcases Nat.eq_zero_or_pos (rsN a h c) with e | e
    · rw [e, fb0] at h0
      exact absurd h0 (by decide)
    · exact e
  obtain ⟨l1, l2, l3⟩ := lo_ok _ r1 hz
  refine ⟨propext ⟨fun e i hi => ?_, fun q => ?_⟩, hz⟩
  · rcases Nat.lt_or_ge (wy a i h) h with z | z
    · have h8 : wy a i h < 8 := per_rng hW hh hp
      have y := (r3 _ h8).mpr ⟨i, hi, rfl⟩
      rw [l3 _ (by omega)] at y
      exact absurd y (by decide)
    · exact z
  · obtain ⟨m, m1, m2⟩ := (r3 _ l1).mp l2
    have y := q m m1
    rcases Nat.lt_trichotomy (lo (rsN a h c)) h with z | z | z
    · omega
    · exact z
    · rw [l3 h z] at h0
      exact absurd h0 (by decide)
/-- the longest of those looked at -/
noncomputable def lM (a : St) (H : Nat) : Nat → Nat
  | 0 => 0
  | k + 1 => if szN a H k ≤ lM a H k then lM a H k else szN a H k
theorem lM_ge {a : St} {H h : Nat} : ∀ k, h < k → szN a H h ≤ lM a H k
  | 0, q => absurd q (by omega)
  | k + 1, q => by
    unfold lM
    rcases Nat.lt_or_ge h k with z | z
    · have := lM_ge (a := a) (H := H) k z
      split <;> omega
    · rw [show h = k by omega]
      split <;> omega
theorem sz_le (a : St) (H h : Nat) : szN a H h ≤ H := by
  rcases sz_is a H h with q | q
  · omega
  · exact q.2.1
theorem lM_le (a : St) (H : Nat) : ∀ k, lM a H k ≤ H
  | 0 => Nat.zero_le _
  | k + 1 => by
    have h1 := lM_le a H k
    have h2 := sz_le a H k
    unfold lM
    split <;> omega
theorem lM_other {a : St} {H Dn F k : Nat} (hW : WT a H Dn F) (hk : k < H) (h0 : 0 < szN a H k) (hl : ¬ lst a (szN a H k) k) : szN a H k ≤ lM a H k := by
  obtain ⟨hp, hc⟩ := sz_per h0 (sz_is a H k)
  have : ∃ i, i < szN a H k ∧ wy a i k < k := by
    by_cases e : ∃ i, i < szN a H k ∧ wy a i k < k
    · exact e
    · exact absurd (fun i hi => Nat.le_of_not_lt (fun q => e ⟨i, hi, q⟩)) hl
  obtain ⟨i, i1, i2⟩ := this
  have e1 : szN a H (wy a i k) = szN a H k := sz_one (sz_is a H _) (sz_of (per_wy i k hp) hc)
  have e2 := lM_ge (a := a) (H := H) k i2
  omega
/-- the model's look at a house -/
theorem m_house {a b : St} {H Dn F n h : Nat} (hn : 3000 ≤ n) (hT : RT a b H Dn F) (hh : h < H) (k25 : Int32 → Int32 → Int32 → Int32 → Option Int32) (x1 x2 x3 x4 : Int32) : ∃ x7, L_X6_town_73 n k25 x1 x2 x3 x4 (nI h) 1 b n 0 (nI H) = B_X6_town_151 n k25 x1 x2 x3 x4 (nI h) (nI (szN a H h)) x7 b ∧ ((x7 = 1 ∧ lst a (szN a H h) h) ∨ (x7 = 0 ∧ ¬ lst a (szN a H h) h)) := by
  have hW := WT_of hT
  have hW1 := hW.1
  have down : ∀ m, m ≤ H → ∀ x6 j, m < j → (∃ c, 1 ≤ c ∧ c ≤ m ∧ wy a c h = h ∧ (∀ t, 1 ≤ t → t < c → wy a t h ≠ h) ∧ L_X6_town_73 n k25 x1 x2 x3 x4 (nI h) 1 b j x6 (nI m) = B_X6_town_110 n k25 x1 x2 x3 x4 (nI h) (nI c) 1 b) ∨ ((∀ t, 1 ≤ t → t ≤ m → wy a t h ≠ h) ∧ L_X6_town_73 n k25 x1 x2 x3 x4 (nI h) 1 b j x6 (nI m) = B_X6_town_110 n k25 x1 x2 x3 x4 (nI h) x6 1 b) := by
    intro m
    induction m with
    | zero =>
      intro _ x6 j hj
      obtain ⟨i, rfl⟩ : ∃ i, j = i + 1 := ⟨j - 1, by omega⟩
      refine Or.inr ⟨fun t q1 q2 => absurd q1 (by omega), ?_⟩
      rw [L_X6_town_73, if_pos (by decide)]
    | succ m ih =>
      intro hm x6 j hj
      obtain ⟨i, rfl⟩ : ∃ i, j = i + 1 := ⟨j - 1, by omega⟩
      have e : L_X6_town_73 n k25 x1 x2 x3 x4 (nI h) 1 b (i + 1) x6 (nI (m + 1)) = L_X6_town_73 n k25 x1 x2 x3 x4 (nI h) 1 b i (if wy a (m + 1) h = h then nI (m + 1) else x6) (nI m) := by
        rw [L_X6_town_73, if_neg (by rw [show (0 : Int32) = nI 0 from rfl, leI (by omega) (by omega)]; omega), m_wayEnd (n := n) (by omega) hT (by omega) hh, Option.bind_some, pk_m1]
        rcases wy_in hW (m + 1) h (Or.inl hh) with y | y
        · rw [enH_lt (by omega)]
          simp only [eqI (show wy a (m + 1) h < 100000 by omega) (show h < 100000 by omega)]
          by_cases z : wy a (m + 1) h = h
          · rw [if_pos z, if_pos z]
          · rw [if_neg z, if_neg z]
        · rw [y, if_neg (fun z => by
            rw [enH_8] at z
            have x := neM (show h < 100000 by omega)
            rw [← x]
            exact z.symm), if_neg (by omega)]
      rw [e]
      rcases ih (by omega) (if wy a (m + 1) h = h then nI (m + 1) else x6) i (by omega) with ⟨c, c1, c2, c3, c4, c5⟩ | ⟨q1, q2⟩
      · exact Or.inl ⟨c, c1, by omega, c3, c4, c5⟩
      · by_cases z : wy a (m + 1) h = h
        · rw [if_pos z] at q2 ⊢
          exact Or.inl ⟨m + 1, by omega, Nat.le_refl _, z, fun t t1 t2 => q1 t t1 (by omega), q2⟩
        · rw [if_neg z] at q2 ⊢
          refine Or.inr ⟨fun t t1 t2 => ?_, q2⟩
          by_cases y : t = m + 1
          · rw [y]
            exact z
          · exact q1 t t1 (by omega)
  have e110 : L_X6_town_73 n k25 x1 x2 x3 x4 (nI h) 1 b n 0 (nI H) = B_X6_town_110 n k25 x1 x2 x3 x4 (nI h) (nI (szN a H h)) 1 b := by
    rcases down H (Nat.le_refl _) 0 n (by omega) with ⟨c, c1, c2, c3, c4, c5⟩ | ⟨q1, q2⟩
    · rw [c5, sz_one (sz_is a H h) (Or.inr ⟨c1, c2, c3, c4⟩)]
    · rw [q2, sz_one (sz_is a H h) (Or.inl ⟨rfl, q1⟩)]
      rfl
  have hcH := sz_le a H h
  have hin : ∀ t, t < szN a H h → wy a t h < 8 := fun t ht => per_rng hW hh (sz_per (by omega) (sz_is a H h)).1
  rw [e110]
  unfold B_X6_town_110
  generalize szN a H h = c at hcH hin
  obtain ⟨x7, p1, g⟩ := loop_inv (fun j i (x : Int32) => L_X6_town_113 n k25 x1 x2 x3 x4 (nI h) (nI c) b j x i) (fun x => B_X6_town_151 n k25 x1 x2 x3 x4 (nI h) (nI c) x b) c 0 (fun k x => (x = 1 ∧ lst a k h) ∨ (x = 0 ∧ ¬ lst a k h)) (s0 := 1) (by omega) (Or.inl ⟨rfl, fun i q => absurd q (by omega)⟩) (fun k x _ hk hx => by
    have q8 := hin k hk
    have er : ∀ j, L_X6_town_113 n k25 x1 x2 x3 x4 (nI h) (nI c) b (j + 1) x (nI k) = if x = 0 then L_X6_town_113 n k25 x1 x2 x3 x4 (nI h) (nI c) b j 0 (nI (k + 1)) else if wy a k h < h then L_X6_town_113 n k25 x1 x2 x3 x4 (nI h) (nI c) b j 0 (nI (k + 1)) else L_X6_town_113 n k25 x1 x2 x3 x4 (nI h) (nI c) b j 1 (nI (k + 1)) := fun j => by
      rw [L_X6_town_113, if_neg (by rw [leI (by omega) (by omega)]; omega), m_wayEnd (n := n) (by omega) hT (by omega) hh, enH_lt q8]
      simp only [Option.bind_some, ltI (show wy a k h < 100000 by omega) (show h < 100000 by omega), nI_1]
    rcases hx with ⟨e1, e2⟩ | ⟨e1, e2⟩
    · by_cases z : wy a k h < h
      · refine ⟨0, Or.inr ⟨rfl, fun q => ?_⟩, fun j => ?_⟩
        · have := q k (by omega)
          omega
        · show L_X6_town_113 n k25 x1 x2 x3 x4 (nI h) (nI c) b (j + 1) x (nI k) = _
          rw [er, e1, if_neg (by decide), if_pos z]
      · refine ⟨1, Or.inl ⟨rfl, fun i hi => ?_⟩, fun j => ?_⟩
        · by_cases y : i = k
          · rw [y]
            omega
          · exact e2 i (by omega)
        · show L_X6_town_113 n k25 x1 x2 x3 x4 (nI h) (nI c) b (j + 1) x (nI k) = _
          rw [er, e1, if_neg (by decide), if_neg z]
    · refine ⟨0, Or.inr ⟨rfl, fun q => e2 (fun i hi => q i (by omega))⟩, fun j => ?_⟩
      show L_X6_town_113 n k25 x1 x2 x3 x4 (nI h) (nI c) b (j + 1) x (nI k) = _
      rw [er, e1, if_pos rfl]) (fun j x hx => by
    show L_X6_town_113 n k25 x1 x2 x3 x4 (nI h) (nI c) b (j + 1) x (nI c) = _
    rw [L_X6_town_113, if_pos (by rw [leI (by omega) (by omega)]; omega)])
  exact ⟨x7, g n (by omega), p1⟩
theorem o_town {a b : St} {H Dn F n : Nat} (hn : 3000 ≤ n) (hR : RR a b H Dn F) (x1 : Int32) : OK1 (f_X5_town n x1 a) (f_X6_town n x1 b) := by
  have hT := hR.1
  have hW := WT_of hT
  have hW1 := hW.1
  unfold f_X5_town f_X6_town
  rw [show (0 : Int64) = (0 : Int32).toInt64 from rfl, show (2 : Int64) = (2 : Int32).toInt64 from rfl]
  rcases ck_in (lo := 0) (hi := 2) x1 0 2 rfl rfl (by omega) (by omega) with ⟨w, _, hw, rfl, f3, f4⟩ | ⟨f3, f4⟩
  · rw [f3, f4]
    simp only [Option.bind_some, i10, if_false]
    obtain ⟨s1, t1, ⟨p1, p2⟩, g1, g2⟩ := loop_two (fun j i (s : Int32 × Int32 × Int32) => L_X5_town_22 n (nI w) a j s.1 s.2.1 s.2.2 i) (fun s => B_X5_town_108 n (nI w) s.1 s.2.1 s.2.2 a) (fun j i (s : Int32 × Int32 × Int32) => L_X6_town_25 n (nI w) b j s.1 s.2.1 s.2.2 i) (fun s => B_X6_town_188 n (nI w) s.1 s.2.1 s.2.2 b) H 0 (fun k s t => s = t ∧ s.2.1 = nI (lM a H k)) (s0 := (0, 0, 0)) (t0 := (0, 0, 0)) (by omega) ⟨rfl, rfl⟩ (fun k s t _ hk hP => by
      obtain ⟨q1, q2⟩ := hP
      subst q1
      obtain ⟨y1, y2, y3⟩ := s
      have q2 : y2 = nI (lM a H k) := q2
      subst q2
      have hk8 : k < 8 := by omega
      have dl := lstDec a (szN a H k) k
      have hlM := lM_le a H k
      have hsz := sz_le a H k
      have eX : ∀ j, L_X5_town_22 n (nI w) a (j + 1) y1 (nI (lM a H k)) y3 (nI k) = L_X5_town_22 n (nI w) a j (if 0 < szN a H k ∧ lst a (szN a H k) k then y1 + 1 else y1) (nI (lM a H (k + 1))) (if wy a H k = 8 then y3 ||| ((1 : Int32) <<< (nI k &&& 31)) else y3) (nI (k + 1)) := fun j => by
        rw [L_X5_town_22, if_neg (by rw [hW.2.1.1, leI (by omega) (by omega)]; omega), x_round hn hW hk, hW.2.1.1]
        simp only [Option.bind_some, x_wayEnd (n := n) (by omega) hW (show H ≤ 1000 by omega) hk, nI_1]
        have e8 : (enH (wy a H k) = -1) = (wy a H k = 8) := propext ⟨fun z => by
          rcases wy_in hW H k (Or.inl hk) with y | y
          · rw [enH_neM (by omega)] at z
            exact z.elim
          · exact y, fun z => by rw [z]; rfl⟩
        simp only [e8]
        rcases Nat.eq_zero_or_pos (szN a H k) with e | e
        · rw [if_pos e, if_pos rfl, if_neg (show ¬ (0 < szN a H k ∧ lst a (szN a H k) k) from fun z => by omega)]
          have el : lM a H (k + 1) = lM a H k := by
            show (if szN a H k ≤ lM a H k then lM a H k else szN a H k) = _
            rw [if_pos (by omega)]
          rw [el]
          split <;> rfl
        · obtain ⟨hp, hc⟩ := sz_per e (sz_is a H k)
          obtain ⟨l1, l2⟩ := round_lo hW hk hp
          obtain ⟨r1, r2, r3⟩ := rsN_ok hW hk hp _ (Nat.le_refl _)
          obtain ⟨l3, -, -⟩ := lo_ok _ r1 l2
          rw [if_neg (show ¬ szN a H k = 0 from by omega), if_neg (show ¬ nI (rsN a k (szN a H k)) = 0 from by rw [nI_z (by omega)]; omega), ntz _ r1 l2]
          simp only [Option.bind_some, eqI (show lo (rsN a k (szN a H k)) < 100000 by omega) (show k < 100000 by omega), l1]
          by_cases z : lst a (szN a H k) k
          · rw [if_pos z, if_pos (show 0 < szN a H k ∧ lst a (szN a H k) k from ⟨e, z⟩), x_bitCount _ r1, r2]
            simp only [Option.bind_some, ltI (show lM a H k < 100000 by omega) (show szN a H k < 100000 by omega)]
            have el : (if lM a H k < szN a H k then nI (szN a H k) else nI (lM a H k)) = nI (lM a H (k + 1)) := by
              show _ = nI (if szN a H k ≤ lM a H k then lM a H k else szN a H k)
              by_cases y : szN a H k ≤ lM a H k
              · rw [if_neg (by omega), if_pos y]
              · rw [if_pos (by omega), if_neg y]
            rw [el]
            split <;> rfl
          · rw [if_neg z, if_neg (show ¬ (0 < szN a H k ∧ lst a (szN a H k) k) from fun q => z q.2)]
            have el : lM a H (k + 1) = lM a H k := by
              have := lM_other hW hk e z
              show (if szN a H k ≤ lM a H k then lM a H k else szN a H k) = _
              rw [if_pos this]
            rw [el]
            split <;> rfl
      have eM : ∀ j, L_X6_town_25 n (nI w) b (j + 1) y1 (nI (lM a H k)) y3 (nI k) = L_X6_town_25 n (nI w) b j (if 0 < szN a H k ∧ lst a (szN a H k) k then y1 + 1 else y1) (nI (lM a H (k + 1))) (if wy a H k = 8 then y3 ||| ((1 : Int32) <<< (nI k &&& 31)) else y3) (nI (k + 1)) := fun j => by
        have e8 : (enH (wy a H k) = -1) = (wy a H k = 8) := propext ⟨fun z => by
          rcases wy_in hW H k (Or.inl hk) with y | y
          · rw [enH_neM (by omega)] at z
            exact z.elim
          · exact y, fun z => by rw [z]; rfl⟩
        have fin : ∀ x4, L_X6_town_73 n (L_X6_town_25 n (nI w) b j) (nI w) y1 (nI (lM a H k)) x4 (nI k) 1 b n 0 (nI H) = L_X6_town_25 n (nI w) b j (if 0 < szN a H k ∧ lst a (szN a H k) k then y1 + 1 else y1) (nI (lM a H (k + 1))) x4 (nI (k + 1)) := fun x4 => by
          obtain ⟨x7, m1, m2⟩ := m_house hn hT hk (L_X6_town_25 n (nI w) b j) (nI w) y1 (nI (lM a H k)) x4
          rw [m1]
          unfold B_X6_town_151
          have el : lM a H (k + 1) = if szN a H k ≤ lM a H k then lM a H k else szN a H k := rfl
          rw [el]
          simp only [show (0 : Int32) = nI 0 from rfl, leI (show szN a H k < 100000 by omega) (show 0 < 100000 by omega), leI (show szN a H k < 100000 by omega) (show lM a H k < 100000 by omega), nI_1]
          have z0 : y1 + nI 0 = y1 := Int32.add_zero y1
          rw [z0]
          by_cases e : szN a H k ≤ 0
          · rw [if_pos e, if_neg (show ¬ (0 < szN a H k ∧ lst a (szN a H k) k) from fun z => by omega)]
            split <;> rfl
          · rw [if_neg e]
            rcases m2 with ⟨m3, m4⟩ | ⟨m3, m4⟩
            · rw [if_neg (show ¬ x7 = nI 0 from by rw [m3]; decide), if_pos (show 0 < szN a H k ∧ lst a (szN a H k) k from ⟨by omega, m4⟩)]
              split <;> rfl
            · rw [if_pos (show x7 = nI 0 from by rw [m3]; rfl), if_neg (show ¬ (0 < szN a H k ∧ lst a (szN a H k) k) from fun z => m4 z.2)]
              split <;> rfl
        rw [L_X6_town_25, if_neg (by rw [hT.2.1.2.1, leI (by omega) (by omega)]; omega), hT.2.1.2.1, m_wayEnd (n := n) (by omega) hT (by omega) hk]
        simp only [Option.bind_some, e8, fin, orz]
        split <;> rfl
      exact ⟨(if 0 < szN a H k ∧ lst a (szN a H k) k then y1 + 1 else y1, nI (lM a H (k + 1)), if wy a H k = 8 then y3 ||| ((1 : Int32) <<< (nI k &&& 31)) else y3), (if 0 < szN a H k ∧ lst a (szN a H k) k then y1 + 1 else y1, nI (lM a H (k + 1)), if wy a H k = 8 then y3 ||| ((1 : Int32) <<< (nI k &&& 31)) else y3), ⟨rfl, rfl⟩, fun j => eX j, fun j => eM j⟩) (fun j s t hP => by
      show L_X5_town_22 n (nI w) a (j + 1) s.1 s.2.1 s.2.2 (nI H) = _
      rw [L_X5_town_22, if_pos (by rw [hW.2.1.1, leI (by omega) (by omega)]; omega)]) (fun j s t hP => by
      show L_X6_town_25 n (nI w) b (j + 1) t.1 t.2.1 t.2.2 (nI H) = _
      rw [L_X6_town_25, if_pos (by rw [hT.2.1.2.1, leI (by omega) (by omega)]; omega)])
    have g3 : L_X5_town_22 n (nI w) a n 0 0 0 0 = B_X5_town_108 n (nI w) s1.1 s1.2.1 s1.2.2 a := g1 n (by omega)
    have g4 : L_X6_town_25 n (nI w) b n 0 0 0 0 = B_X6_town_188 n (nI w) t1.1 t1.2.1 t1.2.2 b := g2 n (by omega)
    rw [g3, g4, ← p1]
    unfold B_X5_town_108 B_X6_town_188
    split
    · exact ⟨_, rfl, rfl⟩
    · split
      · exact ⟨_, rfl, rfl⟩
      · exact ⟨_, rfl, rfl⟩
  · rw [f3, f4]
    exact ⟨_, rfl, rfl⟩
