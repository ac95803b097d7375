/-! ===== what is forbidden; days that go; days foretold ===== -/
theorem loop_invK {κ σ ρ : Type} (F : κ → Nat → Int32 → σ → Option ρ) (ex : κ → σ → Option ρ) (N i0 : Nat) (P : Nat → σ → Prop) {s0 : σ} (hi : i0 ≤ N) (h0 : P i0 s0) (hs : ∀ k s, i0 ≤ k → k < N → P k s → ∃ s1, P (k + 1) s1 ∧ ∀ c j, F c (j + 1) (nI k) s = F c j (nI (k + 1)) s1) (he : ∀ c j s, P N s → F c (j + 1) (nI N) s = ex c s) : ∃ s1, P N s1 ∧ ∀ c j, N < j → F c j (nI i0) s0 = ex c s1 := by
  have key : ∀ k, i0 + k ≤ N → ∃ s1, P (i0 + k) s1 ∧ ∀ c j, F c (j + k) (nI i0) s0 = F c j (nI (i0 + k)) s1 := by
    intro k
    induction k with
    | zero => exact fun _ => ⟨s0, h0, fun c j => rfl⟩
    | succ k ih =>
      intro hk
      obtain ⟨s1, h1, h2⟩ := ih (by omega)
      obtain ⟨s2, h3, h4⟩ := hs (i0 + k) s1 (by omega) (by omega) h1
      refine ⟨s2, h3, fun c j => ?_⟩
      rw [show j + (k + 1) = (j + 1) + k by omega, h2 c (j + 1)]
      exact h4 c j
  obtain ⟨s1, h1, h2⟩ := key (N - i0) (by omega)
  rw [show i0 + (N - i0) = N by omega] at h1 h2
  refine ⟨s1, h1, fun c j hj => ?_⟩
  obtain ⟨d, rfl⟩ : ∃ d, j = (d + 1) + (N - i0) := ⟨j - 1 - (N - i0), by omega⟩
  rw [h2 c (d + 1)]
  exact he c d s1 h1
theorem fbs : ∀ F, F < 64 → ∀ k, k < 6 → nI (F % 2 ^ k) ||| (nI (F / 2 ^ k % 2) <<< (nI k &&& 31)) = nI (F % 2 ^ (k + 1)) := by decide +kernel
theorem m_forbiddenNow {a b : St} {H Dn F n : Nat} (hn : 20 ≤ n) (hT : RT a b H Dn F) : f_X6_forbiddenNow n b = some (nI F) := by
  obtain ⟨⟨h1, h2, h3, h4⟩, ⟨e1, e2, e3, e4, e5⟩, h5, h6, h7, h8⟩ := id hT
  have h64 := p2_64 h3
  unfold f_X6_forbiddenNow
  obtain ⟨s1, p1, g2⟩ := loop_inv (fun j i (s : Int32) => L_X6_forbiddenNow_4 n b j s i) (fun s => some s) Dn 0 (fun k s => s = nI (F % 2 ^ k)) (s0 := 0) (by omega) (by rw [show F % 2 ^ 0 = 0 from by rw [Nat.pow_zero, Nat.mod_one]]; rfl) (fun k s _ hk hs => by
    have hk6 : k < 6 := by omega
    refine ⟨nI (F % 2 ^ (k + 1)), rfl, fun j => ?_⟩
    show L_X6_forbiddenNow_4 n b (j + 1) s (nI k) = L_X6_forbiddenNow_4 n b j (nI (F % 2 ^ (k + 1))) (nI (k + 1))
    rw [L_X6_forbiddenNow_4, if_neg (by rw [e4, leI (by omega) (by omega)]; omega)]
    simp only [e65 k hk6, s65 k hk6, n65 hk6, or_self, if_false, (h8 k hk).1.2.2.2.2.2, hs, fbs F (by omega) k hk6, nI_1]) (fun j s hs => by
    show L_X6_forbiddenNow_4 n b (j + 1) s (nI Dn) = some s
    rw [L_X6_forbiddenNow_4, if_pos (by rw [e4, leI (by omega) (by omega)]; omega)])
  have h9 := g2 n (by omega)
  rw [p1, Nat.mod_eq_of_lt h4] at h9
  exact h9
theorem wf_of {a b : St} {H Dn F : Nat} (hR : RR a b H Dn F) : wfS (a 16) Dn := fun h hh => (hR.2.1.1 h hh).2.2.1
theorem today {a b : St} {H Dn F : Nat} (hR : RR a b H Dn F) : ∀ h, h < H → b 1 h = a 16 h := fun h hh => by
  have := hR.1.1.2.1
  rw [← (hR.2.1.1 h (by omega)).1, Nat.zero_add]
theorem o_later {a b : St} {H Dn F n : Nat} (hn : 3000 ≤ n) (hR : RR a b H Dn F) (x1 x2 : Int32) : OK2 (f_X5_later n x1 x2 a) (f_X6_later n x1 x2 b) := by
  have hT := hR.1
  have hW := WT_of hT
  unfold f_X5_later f_X6_later
  rcases ck_house hT x1 with ⟨h, hh, rfl, f1, f2⟩ | ⟨f1, f2⟩
  · have hh8 : h < 8 := by have := hT.1; omega
    rw [f1, f2]
    simp only [Option.bind_some, i10, if_false]
    rcases ck_time x2 with ⟨t, ht, rfl, f5, f6⟩ | ⟨f5, f6⟩
    · rw [f5, f6]
      obtain ⟨a1, g1, g2, g3, g4⟩ := x_foresee (n := n) (t := t) (by omega) (by omega) hW (wf_of hR)
      obtain ⟨b1, k1, k2, k3⟩ := m_layDays (n := n) (t := t) (by omega) (by omega) hT hW.2.1.2.2.2 (today hR) (wf_of hR)
      simp only [Option.bind_some, i10, if_false, g1, m_forbiddenNow (n := n) (by omega) hT, k1, cl (show h < 100000 by omega), gj hh8 (show 8 ≤ 100000 by omega), e8 t (by omega) h hh8, s8 t (by omega) h hh8, n8 (show t < 200 by omega) hh8, or_self]
      refine ⟨_, a1, b1, H, Dn, F, rfl, by rw [k3 t (by omega) h hh, g3 h hh], RR_fr hR (fun i _ _ _ _ q1 q2 => g2 i q1 (by omega)) (by rw [g2 1 (by omega) (by omega)]) (fun i _ _ q _ _ => k2 i q) (fun k _ => by rw [k2 0 (by omega)])⟩
    · rw [f5, f6]
      exact OK2_same hR _
  · rw [f1, f2]
    exact OK2_same hR _
theorem o_deed {a b : St} {H Dn F : Nat} (hR : RR a b H Dn F) (x1 x2 : Int32) : OK1 (f_X5_deed x1 x2 a) (f_X6_deed x1 x2 b) := by
  have hT := hR.1
  unfold f_X5_deed f_X6_deed
  rcases ck_deed hT x1 with ⟨d, hd, rfl, f1, f2⟩ | ⟨f1, f2⟩
  · have hd6 : d < 6 := by have := hT.1; omega
    have hD := hT.2.2.2.2.2 d hd
    obtain ⟨r0, r1, r2, r3, r4, r5⟩ := hD.1
    have hF : F < 64 := by have := hT.1; have := p2_64 hT.1.2.2.1; omega
    rw [f1, f2]
    simp only [Option.bind_some, i10, if_false, cl (show d < 100000 by omega), gj hd6 (show 6 ≤ 100000 by omega)]
    rcases ck_in (lo := 0) (hi := 5) x2 0 5 rfl rfl (by omega) (by omega) with ⟨t, _, ht, rfl, _, f4⟩ | ⟨f3, f4⟩
    · rw [show (0 : Int64) = (0 : Int32).toInt64 from rfl, show (5 : Int64) = (5 : Int32).toInt64 from rfl, f4]
      simp only [Option.bind_some, i10, if_false]
      rcases (show t = 0 ∨ t = 1 ∨ t = 2 ∨ t = 3 ∨ t = 4 ∨ t = 5 by omega) with rfl | rfl | rfl | rfl | rfl | rfl
      · rw [if_pos (show nI 0 = 0 from rfl), show nI 0 = (0 : Int32) from rfl]
        simp only [e60 d hd6, s60 d hd6, n60 hd6, or_self, if_false]
        exact ⟨_, rfl, by rw [r0]⟩
      · rw [if_neg (by decide), if_pos (show nI 1 = 1 from rfl), show nI 1 = (1 : Int32) from rfl]
        simp only [e61 d hd6, s61 d hd6, n61 hd6, or_self, if_false]
        exact ⟨_, rfl, by rw [r1]⟩
      · rw [if_neg (by decide), if_neg (by decide), if_pos (show nI 2 = 2 from rfl), show nI 2 = (2 : Int32) from rfl]
        simp only [e62 d hd6, s62 d hd6, n62 hd6, or_self, if_false]
        exact ⟨_, rfl, by rw [r2]⟩
      · rw [if_neg (by decide), if_neg (by decide), if_neg (by decide), if_pos (show nI 3 = 3 from rfl), show nI 3 = (3 : Int32) from rfl]
        simp only [e63 d hd6, s63 d hd6, n63 hd6, or_self, if_false]
        exact ⟨_, rfl, by rw [r3]⟩
      · rw [if_neg (by decide), if_neg (by decide), if_neg (by decide), if_neg (by decide), if_pos (show nI 4 = 4 from rfl), show nI 4 = (4 : Int32) from rfl]
        simp only [e64 d hd6, s64 d hd6, n64 hd6, or_self, if_false]
        exact ⟨_, rfl, by rw [r4]⟩
      · rw [if_neg (by decide), if_neg (by decide), if_neg (by decide), if_neg (by decide), if_neg (by decide), if_pos (show nI 5 = 5 from rfl), show nI 5 = (5 : Int32) from rfl, p_hasX, (WT_of hT).2.1.2.2.1, bit64 F hF d hd6]
        simp only [e65 d hd6, s65 d hd6, n65 hd6, or_self, if_false, r5]
        unfold fbN
        rcases (show F / 2 ^ d % 2 = 0 ∨ F / 2 ^ d % 2 = 1 by omega) with e | e
        · rw [e]
          exact ⟨0, rfl, rfl⟩
        · rw [e]
          exact ⟨1, rfl, rfl⟩
    · rw [show (0 : Int64) = (0 : Int32).toInt64 from rfl, show (5 : Int64) = (5 : Int32).toInt64 from rfl, f4]
      have hx : ∀ k : Nat, k ≤ 5 → x2 ≠ nI k := fun k hk e => by
        rw [e, show f_X5_within (nI k) 0 5 = some 1 from by
          rw [p_within, if_pos ⟨by rw [show (0 : Int32) = nI 0 from rfl, leI (by omega) (by omega)]; omega, by rw [show (5 : Int32) = nI 5 from rfl, leI (by omega) (by omega)]; omega⟩]] at f3
        exact absurd f3 (by decide)
      rw [if_neg (show ¬ x2 = 0 from hx 0 (by omega)), if_neg (show ¬ x2 = 1 from hx 1 (by omega)), if_neg (show ¬ x2 = 2 from hx 2 (by omega)), if_neg (show ¬ x2 = 3 from hx 3 (by omega)), if_neg (show ¬ x2 = 4 from hx 4 (by omega)), if_neg (show ¬ x2 = 5 from hx 5 (by omega))]
      exact ⟨_, rfl, rfl⟩
  · rw [f1, f2]
    exact ⟨_, rfl, rfl⟩
/-- bits of those that p holds of -/
def bsN (p : Nat → Bool) : Nat → Nat
  | 0 => 0
  | k + 1 => bsN p k + if p k = true then 2 ^ k else 0
theorem bsN_lt (p : Nat → Bool) : ∀ k, bsN p k < 2 ^ k
  | 0 => by unfold bsN; omega
  | k + 1 => by
    have h := bsN_lt p k
    have e : 2 ^ (k + 1) = 2 ^ k + 2 ^ k := by omega
    unfold bsN
    split <;> omega
theorem bsN_cong {p q : Nat → Bool} : ∀ k, (∀ i, i < k → p i = q i) → bsN p k = bsN q k
  | 0, _ => rfl
  | k + 1, h => by
    unfold bsN
    rw [bsN_cong k (fun i hi => h i (by omega)), h k (by omega)]
theorem orb : ∀ k, k < 8 → ∀ v, v < 256 → v < 2 ^ k → nI v ||| ((1 : Int32) <<< (nI k &&& 31)) = nI (v + 2 ^ k) := by decide +kernel
theorem orz (x : Int32) : x ||| 0 = x := by simp
theorem p2_256 {k : Nat} (h : k ≤ 8) : 2 ^ k ≤ 256 := Nat.le_trans (Nat.pow_le_pow_right (by omega) h) (by decide)
theorem bsN_or {p : Nat → Bool} {k : Nat} (hk : k < 8) (h : p k = true) : nI (bsN p k) ||| ((1 : Int32) <<< (nI k &&& 31)) = nI (bsN p (k + 1)) := by
  have h1 := bsN_lt p k
  have h2 := p2_256 (show k ≤ 8 by omega)
  rw [orb k hk _ (by omega) h1]
  show _ = nI (bsN p k + if p k = true then 2 ^ k else 0)
  rw [if_pos h]
theorem bsN_not {p : Nat → Bool} {k : Nat} (h : ¬ p k = true) : nI (bsN p k) = nI (bsN p (k + 1)) := by
  show _ = nI (bsN p k + if p k = true then 2 ^ k else 0)
  rw [if_neg h, Nat.add_zero]
theorem x_doers {a b : St} {H Dn F d n : Nat} (hn : 20 ≤ n) (hT : RT a b H Dn F) (hd : d < Dn) : f_X4_doers n (nI d) a = some (nI (bsN (fun h => canT a F h d) H)) := by
  have hW := WT_of hT
  have h1 := hT.1
  unfold f_X4_doers
  obtain ⟨s1, p1, g2⟩ := loop_inv (fun j i (s : Int32) => L_X4_doers_4 n (nI d) a j s i) (fun s => some s) H 0 (fun k s => s = nI (bsN (fun h => canT a F h d) k)) (s0 := 0) (by omega) rfl (fun k s _ hk hs => by
    refine ⟨nI (bsN (fun h => canT a F h d) (k + 1)), rfl, fun j => ?_⟩
    show L_X4_doers_4 n (nI d) a (j + 1) s (nI k) = L_X4_doers_4 n (nI d) a j _ (nI (k + 1))
    rw [L_X4_doers_4, if_neg (by rw [hW.2.1.1, leI (by omega) (by omega)]; omega), hW.2.1.2.2.1, x_canF hW.2.1.2.2.2 (by omega) (by omega), hs]
    simp only [Option.bind_some, nI_1]
    by_cases c : canT a F k d = true
    · rw [← bsN_or (p := fun h => canT a F h d) (by omega) c, c]
      rfl
    · rw [← bsN_not (p := fun h => canT a F h d) c, Bool.eq_false_iff.mpr c]
      rfl) (fun j s hs => by
    show L_X4_doers_4 n (nI d) a (j + 1) s (nI H) = some s
    rw [L_X4_doers_4, if_pos (by rw [hW.2.1.1, leI (by omega) (by omega)]; omega)])
  have h9 := g2 n (by omega)
  rw [p1] at h9
  exact h9
theorem m_as101 {a b : St} {H Dn F d n : Nat} (hn : 20 ≤ n) (hT : RT a b H Dn F) (hd : d < Dn) : L_X6_as_101 n (nI d) b n 0 0 = some (nI (bsN (fun h => canT a F h d) H)) := by
  have h1 := hT.1
  have e2 := hT.2.1.2.1
  obtain ⟨s1, p1, g2⟩ := loop_inv (fun j i (s : Int32) => L_X6_as_101 n (nI d) b j s i) (fun s => some s) H 0 (fun k s => s = nI (bsN (fun h => canT a F h d) k)) (s0 := 0) (by omega) rfl (fun k s _ hk hs => by
    refine ⟨nI (bsN (fun h => canT a F h d) (k + 1)), rfl, fun j => ?_⟩
    show L_X6_as_101 n (nI d) b (j + 1) s (nI k) = L_X6_as_101 n (nI d) b j _ (nI (k + 1))
    rw [L_X6_as_101, if_neg (by rw [e2, leI (by omega) (by omega)]; omega), m_can (n := n) (by omega) hT (by omega) hd, hs]
    simp only [Option.bind_some, nI_1, orz]
    by_cases c : canT a F k d = true
    · rw [← bsN_or (p := fun h => canT a F h d) (by omega) c, c]
      rfl
    · rw [← bsN_not (p := fun h => canT a F h d) c, Bool.eq_false_iff.mpr c]
      rfl) (fun j s hs => by
    show L_X6_as_101 n (nI d) b (j + 1) s (nI H) = some s
    rw [L_X6_as_101, if_pos (by rw [e2, leI (by omega) (by omega)]; omega)])
  have h9 := g2 n (by omega)
  rw [p1] at h9
  exact h9
theorem o_as {a b : St} {H Dn F n : Nat} (hn : 3000 ≤ n) (hR : RR a b H Dn F) (x1 x2 : Int32) : OK1 (f_X5_as n x1 x2 a) (f_X6_as n x1 x2 b) := by
  have hT := hR.1
  unfold f_X5_as f_X6_as f_X4_isOfKind
  rcases ck_deed hT x1 with ⟨d, hd, rfl, f1, f2⟩ | ⟨f1, f2⟩
  · have hd6 : d < 6 := by have := hT.1; omega
    have hD := hT.2.2.2.2.2 d hd
    obtain ⟨⟨r0, -⟩, ⟨kd, hk, ek⟩, -⟩ := hD
    rw [f1, f2]
    rcases ck_in (lo := 0) (hi := 4) x2 0 4 rfl rfl (by omega) (by omega) with ⟨t, _, ht, rfl, f3, f4⟩ | ⟨f3, f4⟩
    · rw [show (0 : Int64) = (0 : Int32).toInt64 from rfl, show (4 : Int64) = (4 : Int32).toInt64 from rfl, f3, f4]
      simp only [Option.bind_some, i10, if_false, cl (show d < 100000 by omega), gj hd6 (show 6 ≤ 100000 by omega), e60 d hd6, s60 d hd6, n60 hd6, or_self, r0, ek, m_as101 (n := n) (by omega) hT hd, x_doers (n := n) (by omega) hT hd]
      generalize nI (bsN (fun h => canT a F h d) H) = z
      rcases (show t = 0 ∨ t = 1 ∨ t = 2 ∨ t = 3 ∨ t = 4 by omega) with rfl | rfl | rfl | rfl | rfl <;> rcases (show kd = 0 ∨ kd = 1 ∨ kd = 2 ∨ kd = 3 by omega) with rfl | rfl | rfl | rfl <;> first | exact ⟨z, rfl, rfl⟩ | exact ⟨-4, rfl, rfl⟩
    · rw [show (0 : Int64) = (0 : Int32).toInt64 from rfl, show (4 : Int64) = (4 : Int32).toInt64 from rfl, f3, f4]
      exact ⟨_, rfl, rfl⟩
  · rw [f1, f2]
    exact ⟨_, rfl, rfl⟩
