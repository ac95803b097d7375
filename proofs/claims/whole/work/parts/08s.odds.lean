/-! ===== odds ===== -/
def pwN (x : Int64) : Nat → Int64
  | 0 => 1
  | k + 1 => pwN x k * x
theorem x_power {x : Int64} {e n : Nat} (hn : 3000 ≤ n) (he : e ≤ 100) : f_X5_power n x (nI e) = some (pwN x e) := by
  unfold f_X5_power
  obtain ⟨z, p1, g2⟩ := loop_inv (fun j i (s : Int64) => L_X5_power_5 n x (nI e) j s i) (fun s => some s) e 0 (fun k s => s = pwN x k) (s0 := 1) (by omega) rfl (fun k s _ hk hs => by
    refine ⟨pwN x (k + 1), rfl, fun j => ?_⟩
    show L_X5_power_5 n x (nI e) (j + 1) s (nI k) = L_X5_power_5 n x (nI e) j (pwN x k * x) (nI (k + 1))
    rw [L_X5_power_5, if_neg (by rw [leI (by omega) (by omega)]; omega), hs, nI_1]) (fun j s hs => by
    show L_X5_power_5 n x (nI e) (j + 1) s (nI e) = some s
    rw [L_X5_power_5, if_pos (by rw [leI (by omega) (by omega)]; omega)])
  have g3 := g2 n (by omega)
  rw [p1] at g3
  exact g3
theorem div_mono (n m : Nat) : ∀ j k x y r, L_X6_divisor_6 m j x y = some r → L_X6_divisor_6 n (j + k) x y = some r
  | 0, _, _, _, _, h => by
    rw [L_X6_divisor_6] at h
    exact absurd h (by simp)
  | j + 1, k, x, y, r, h => by
    rw [show j + 1 + k = (j + k) + 1 by omega, L_X6_divisor_6]
    rw [L_X6_divisor_6] at h
    split at h
    · rename_i c
      rw [if_pos c]
      exact h
    · rename_i c
      rw [if_neg c]
      split at h
      · exact absurd h (by simp)
      · rename_i c2
        rw [if_neg c2]
        exact div_mono n m j k _ _ r h
def abN (u : Int64) (p : Int32) : Nat → Int64
  | 0 => u
  | k + 1 => abN u p k * ((10 : Int32) - p).toInt64
def beN : Nat → Int64
  | 0 => 1
  | k + 1 => beN k * 10
theorem m_oddsL {b : St} {t n : Nat} {u : Int64} {p w : Int32} (hn : 3000 ≤ n) (ht : t ≤ 9) : L_X6_odds_88 n (nI t) p w n u 1 0 b = B_X6_odds_118 n w (abN u p (t + 1)) (beN (t + 1)) b := by
  obtain ⟨z, p1, g2⟩ := loop_inv (fun j i (s : Int64 × Int64) => L_X6_odds_88 n (nI t) p w j s.1 s.2 i b) (fun s => B_X6_odds_118 n w s.1 s.2 b) (t + 1) 0 (fun k s => s = (abN u p k, beN k)) (s0 := (u, 1)) (by omega) rfl (fun k s _ hk hs => by
    refine ⟨(abN u p (k + 1), beN (k + 1)), rfl, fun j => ?_⟩
    show L_X6_odds_88 n (nI t) p w (j + 1) s.1 s.2 (nI k) b = L_X6_odds_88 n (nI t) p w j (abN u p k * ((10 : Int32) - p).toInt64) (beN k * 10) (nI (k + 1)) b
    rw [L_X6_odds_88, if_neg (by rw [ltI (by omega) (by omega)]; omega), hs, nI_1]) (fun j s hs => by
    show L_X6_odds_88 n (nI t) p w (j + 1) s.1 s.2 (nI (t + 1)) b = B_X6_odds_118 n w s.1 s.2 b
    rw [L_X6_odds_88, if_pos (by rw [ltI (by omega) (by omega)]; omega)])
  have g3 := g2 n (by omega)
  rw [p1] at g3
  exact g3
/-- what X says: above or below -/
def xOd (u : Bool) (x3 : Int32) (w : Bool) (e : Nat) : Int64 :=
  if u = true then (if w = true then pwN ((((0 : Int32) / 2) / 5).toInt64) e else pwN ((((10 : Int32) / 2) / 5).toInt64) e)
  else if ((10 : Int32) - x3) - ((10 : Int32) - x3) / 2 * 2 = 0 then
    (if (((10 : Int32) - x3) / 2) - (((10 : Int32) - x3) / 2) / 5 * 5 = 0 then (if w = true then pwN (((((10 : Int32) - x3) / 2) / 5).toInt64) e else pwN ((((10 : Int32) / 2) / 5).toInt64) e)
    else (if w = true then pwN ((((10 : Int32) - x3) / 2).toInt64) e else pwN (((10 : Int32) / 2).toInt64) e))
  else if ((10 : Int32) - x3) - ((10 : Int32) - x3) / 5 * 5 = 0 then (if w = true then pwN ((((10 : Int32) - x3) / 5).toInt64) e else pwN (((10 : Int32) / 5).toInt64) e)
  else (if w = true then pwN (((10 : Int32) - x3).toInt64) e else pwN ((10 : Int32).toInt64) e)
def okOd (u : Bool) (t p : Nat) : Bool := match L_X6_divisor_6 0 60 (abN (if u = true then 0 else 1) (nI p) (t + 1)) (beN (t + 1)) with
  | some g => decide (g ≠ 0) && (decide (abN (if u = true then 0 else 1) (nI p) (t + 1) / g = xOd u (nI p) true (t + 1)) && decide (beN (t + 1) / g = xOd u (nI p) false (t + 1)))
  | none => false
theorem odds_all : ∀ t, t < 10 → ∀ p, p < 11 → okOd true t p = true ∧ okOd false t p = true := by decide +kernel
theorem odds_of {t p : Nat} (u : Bool) (ht : t ≤ 9) (hp : p ≤ 10) : ∃ g, L_X6_divisor_6 0 60 (abN (if u = true then 0 else 1) (nI p) (t + 1)) (beN (t + 1)) = some g ∧ g ≠ 0 ∧ abN (if u = true then 0 else 1) (nI p) (t + 1) / g = xOd u (nI p) true (t + 1) ∧ beN (t + 1) / g = xOd u (nI p) false (t + 1) := by
  have h1 := odds_all t (by omega) p (by omega)
  have h2 : okOd u t p = true := by cases u; exact h1.2; exact h1.1
  unfold okOd at h2
  split at h2
  · rename_i g hg
    rw [Bool.and_eq_true, Bool.and_eq_true, decide_eq_true_eq, decide_eq_true_eq, decide_eq_true_eq] at h2
    exact ⟨g, hg, h2.1, h2.2.1, h2.2.2⟩
  · exact absurd h2 (by decide)
theorem m_oddsB {b : St} {t n p : Nat} {w : Int32} (u : Bool) (hn : 3000 ≤ n) (ht : t ≤ 9) (hp : p ≤ 10) : L_X6_odds_88 n (nI t) (nI p) w n (if u = true then 0 else 1) 1 0 b = some (xOd u (nI p) (decide (w = 0)) (t + 1), b) := by
  obtain ⟨g, g1, g2, g3, g4⟩ := odds_of u ht hp
  rw [m_oddsL hn ht]
  unfold B_X6_odds_118 f_X6_divisor
  have h1 := div_mono n 0 60 (n - 60) _ _ g g1
  rw [show 60 + (n - 60) = n by omega] at h1
  rw [h1]
  simp only [Option.bind_some, g2, if_false, g3, g4]
  by_cases c : w = 0
  · rw [if_pos c, decide_eq_true c]
  · rw [if_neg c, decide_eq_false c]
/-- long answers -/
def OK3 (f g : Option (Int64 × St)) : Prop := ∃ r a1 b1 H Dn F, f = some (r, a1) ∧ g = some (r, b1) ∧ RR a1 b1 H Dn F
theorem OK3_same {a b : St} {H Dn F : Nat} (hR : RR a b H Dn F) (r : Int64) : OK3 (some (r, a)) (some (r, b)) := ⟨r, a, b, H, Dn, F, rfl, rfl, hR⟩
theorem o_odds {a b : St} {H Dn F n : Nat} (hn : 3000 ≤ n) (hR : RR a b H Dn F) (x1 x2 x3 x4 : Int32) : OK3 (f_X5_odds n x1 x2 x3 x4 a) (f_X6_odds n x1 x2 x3 x4 b) := by
  have hT := hR.1
  have hW := WT_of hT
  unfold f_X5_odds f_X6_odds
  rw [show (0 : Int64) = (0 : Int32).toInt64 from rfl, show (9 : Int64) = (9 : Int32).toInt64 from rfl, show (10 : Int64) = (10 : Int32).toInt64 from rfl, show (1 : Int64) = (1 : Int32).toInt64 from rfl]
  rcases ck_house hT x1 with ⟨h, hh, rfl, f1, f2⟩ | ⟨f1, f2⟩
  · have hh8 : h < 8 := by have := hT.1; omega
    rw [f1, f2]
    simp only [Option.bind_some, i10, if_false]
    rcases ck_in (lo := 0) (hi := 9) x2 0 9 rfl rfl (by omega) (by omega) with ⟨t, _, ht, rfl, f3, f4⟩ | ⟨f3, f4⟩
    · rw [f3, f4]
      simp only [Option.bind_some, i10, if_false]
      rcases ck_in (lo := 0) (hi := 10) x3 0 10 rfl rfl (by omega) (by omega) with ⟨p, _, hp, rfl, f5, f6⟩ | ⟨f5, f6⟩
      · rw [f5, f6]
        simp only [Option.bind_some, i10, if_false]
        rcases ck_in (lo := 0) (hi := 1) x4 0 1 rfl rfl (by omega) (by omega) with ⟨w, _, hw, rfl, f7, f8⟩ | ⟨f7, f8⟩
        · rw [f7, f8]
          obtain ⟨a1, g1, g2, g3, g4⟩ := x_foresee (n := n) (t := t) (by omega) (by omega) hW (wf_of hR)
          obtain ⟨b1, k1, k2, k3⟩ := m_layDays (n := n) (t := t) (by omega) (by omega) hT hW.2.1.2.2.2 (today hR) (wf_of hR)
          have key : ∀ r, OK3 (some (r, a1)) (some (r, b1)) := fun r => ⟨r, a1, b1, H, Dn, F, rfl, rfl, RR_fr hR (fun i _ _ _ _ q1 q2 => g2 i q1 (by omega)) (by rw [g2 1 (by omega) (by omega)]) (fun i _ _ q _ _ => k2 i q) (fun k _ => by rw [k2 0 (by omega)])⟩
          have hpw := fun x => x_power (n := n) (x := x) (e := t + 1) hn (by omega)
          simp only [Option.bind_some, i10, if_false, g1, m_forbiddenNow (n := n) (by omega) hT, k1, cl (show h < 100000 by omega), gj hh8 (show 8 ≤ 100000 by omega), e8 t (by omega) h hh8, s8 t (by omega) h hh8, n8 (show t < 200 by omega) hh8, or_self, k3 t (Nat.le_refl _) h hh, g3 h hh, nI_1, hpw]
          by_cases c : itS a F (a 16) t h = -1
          · rw [if_pos c, if_pos c]
            have hm := m_oddsB (n := n) (b := b1) (w := nI w) true hn ht hp
            rw [if_pos rfl] at hm
            have hm2 : L_X6_odds_88 n (nI t) (nI p) (nI w) n (0 : Int32).toInt64 (1 : Int32).toInt64 0 b1 = _ := hm
            rw [hm2]
            unfold xOd
            rw [if_pos rfl]
            by_cases c1 : nI w = 0
            · rw [if_pos c1, decide_eq_true c1, if_pos rfl]
              exact key _
            · rw [if_neg c1, decide_eq_false c1, if_neg (by decide)]
              exact key _
          · rw [if_neg c, if_neg c]
            have hm := m_oddsB (n := n) (b := b1) (w := nI w) false hn ht hp
            rw [if_neg (by decide)] at hm
            have hm2 : L_X6_odds_88 n (nI t) (nI p) (nI w) n (1 : Int32).toInt64 (1 : Int32).toInt64 0 b1 = _ := hm
            rw [hm2]
            unfold xOd
            simp only [Bool.false_eq_true, if_false]
            by_cases d2 : ((10 : Int32) - nI p) - ((10 : Int32) - nI p) / 2 * 2 = 0
            · simp only [if_pos d2]
              by_cases d5 : (((10 : Int32) - nI p) / 2) - (((10 : Int32) - nI p) / 2) / 5 * 5 = 0
              · simp only [if_pos d5]
                by_cases c1 : nI w = 0
                · simp only [if_pos c1, decide_eq_true c1, if_true]
                  exact key _
                · simp only [if_neg c1, decide_eq_false c1, Bool.false_eq_true, if_false]
                  exact key _
              · simp only [if_neg d5]
                by_cases c1 : nI w = 0
                · simp only [if_pos c1, decide_eq_true c1, if_true]
                  exact key _
                · simp only [if_neg c1, decide_eq_false c1, Bool.false_eq_true, if_false]
                  exact key _
            · simp only [if_neg d2]
              by_cases d5 : ((10 : Int32) - nI p) - ((10 : Int32) - nI p) / 5 * 5 = 0
              · simp only [if_pos d5]
                by_cases c1 : nI w = 0
                · simp only [if_pos c1, decide_eq_true c1, if_true]
                  exact key _
                · simp only [if_neg c1, decide_eq_false c1, Bool.false_eq_true, if_false]
                  exact key _
              · simp only [if_neg d5]
                by_cases c1 : nI w = 0
                · simp only [if_pos c1, decide_eq_true c1, if_true]
                  exact key _
                · simp only [if_neg c1, decide_eq_false c1, Bool.false_eq_true, if_false]
                  exact key _
        · rw [f7, f8]
          exact OK3_same hR _
      · rw [f5, f6]
        exact OK3_same hR _
    · rw [f3, f4]
      exact OK3_same hR _
  · rw [f1, f2]
    exact OK3_same hR _
