/-! ===== in how many ways all that is told comes true ===== -/
theorem loop_two {σ τ ρ υ : Type} (F : Nat → Int32 → σ → Option ρ) (ex : σ → Option ρ) (G : Nat → Int32 → τ → Option υ) (ey : τ → Option υ) (N i0 : Nat) (P : Nat → σ → τ → Prop) {s0 : σ} {t0 : τ} (hi : i0 ≤ N) (h0 : P i0 s0 t0) (hs : ∀ k s t, i0 ≤ k → k < N → P k s t → ∃ s1 t1, P (k + 1) s1 t1 ∧ (∀ j, F (j + 1) (nI k) s = F j (nI (k + 1)) s1) ∧ ∀ j, G (j + 1) (nI k) t = G j (nI (k + 1)) t1) (he : ∀ j s t, P N s t → F (j + 1) (nI N) s = ex s) (hy : ∀ j s t, P N s t → G (j + 1) (nI N) t = ey t) : ∃ s1 t1, P N s1 t1 ∧ (∀ j, N < j → F j (nI i0) s0 = ex s1) ∧ ∀ j, N < j → G j (nI i0) t0 = ey t1 := by
  have key : ∀ k, i0 + k ≤ N → ∃ s1 t1, P (i0 + k) s1 t1 ∧ (∀ j, F (j + k) (nI i0) s0 = F j (nI (i0 + k)) s1) ∧ ∀ j, G (j + k) (nI i0) t0 = G j (nI (i0 + k)) t1 := by
    intro k
    induction k with
    | zero => exact fun _ => ⟨s0, t0, h0, fun j => rfl, fun j => rfl⟩
    | succ k ih =>
      intro hk
      obtain ⟨s1, t1, h1, h2, h3⟩ := ih (by omega)
      obtain ⟨s2, t2, h4, h5, h6⟩ := hs (i0 + k) s1 t1 (by omega) (by omega) h1
      refine ⟨s2, t2, h4, fun j => ?_, fun j => ?_⟩
      · rw [show j + (k + 1) = (j + 1) + k by omega, h2 (j + 1)]
        exact h5 j
      · rw [show j + (k + 1) = (j + 1) + k by omega, h3 (j + 1)]
        exact h6 j
  obtain ⟨s1, t1, h1, h2, h3⟩ := key (N - i0) (by omega)
  rw [show i0 + (N - i0) = N by omega] at h1 h2 h3
  refine ⟨s1, t1, h1, fun j hj => ?_, fun j hj => ?_⟩
  · obtain ⟨d, rfl⟩ : ∃ d, j = (d + 1) + (N - i0) := ⟨j - 1 - (N - i0), by omega⟩
    rw [h2 (d + 1)]
    exact he d s1 t1 h1
  · obtain ⟨d, rfl⟩ : ∃ d, j = (d + 1) + (N - i0) := ⟨j - 1 - (N - i0), by omega⟩
    rw [h3 (d + 1)]
    exact hy d s1 t1 h1
theorem and127 : ∀ v, v < 128 → nI v &&& 127 = nI v := by decide +kernel
theorem and_b {v : Nat} (hv : v < 128) (y : Int32) : ∃ w, w < 128 ∧ nI v &&& y = nI w := by
  obtain ⟨j, hj, e⟩ := pk_andE (nI v &&& y) (m := 127) 7 (by decide)
  refine ⟨j, hj, ?_⟩
  rw [← e, Int32.and_comm (nI v) y, Int32.and_assoc, and127 v hv]
theorem and_m1 (x : Int32) : x &&& -1 = x := by simp
theorem or64 : ∀ v, v < 64 → nI v ||| 64 = nI (64 + v) := by decide +kernel
theorem orb64 : ∀ k, k < 6 → ∀ v, v < 64 → v < 2 ^ k → nI (64 + v) ||| ((1 : Int32) <<< (nI k &&& 31)) = nI (64 + (v + 2 ^ k)) := by decide +kernel
theorem notb : ∀ k, k < 6 → ∀ w, w < 64 → w < 2 ^ k → ~~~(nI w) &&& ~~~((1 : Int32) <<< (nI k &&& 31)) = ~~~(nI (w + 2 ^ k)) := by decide +kernel
theorem andbit : ∀ v, v < 64 → ∀ d, d < 6 → nI v &&& ((1 : Int32) <<< (nI d &&& 31)) = if fbN v d = true then (1 : Int32) <<< (nI d &&& 31) else 0 := by decide +kernel
theorem and_0 (x : Int32) : x &&& 0 = 0 := by simp
/-- what houses may do: alike in both, or dead in both -/
def RM (s t : St) (H : Nat) : Prop := (∀ h, h < H → (∃ v, v < 128 ∧ s 35 h = nI v) ∧ ∃ v, v < 128 ∧ t 11 h = nI v) ∧ ((∀ h, h < H → s 35 h = t 11 h) ∨ ((∃ h, h < H ∧ s 35 h = 0) ∧ ∃ h, h < H ∧ t 11 h = 0))
/-- one house's part is narrowed alike -/
theorem RM_and {s t : St} {H e : Nat} (h : RM s t H) (he : e < H) (y z : Int32) (hyz : (∀ h, h < H → s 35 h = t 11 h) → y = z) : RM (up s 35 e (s 35 e &&& y)) (up t 11 e (t 11 e &&& z)) H := by
  obtain ⟨h1, h2⟩ := h
  refine ⟨fun k hk => ?_, ?_⟩
  · rw [up_s, up_s]
    by_cases c : k = e
    · subst c
      obtain ⟨⟨v, v1, v2⟩, w, w1, w2⟩ := h1 k hk
      rw [ud_s, ud_s, v2, w2]
      exact ⟨and_b v1 y, and_b w1 z⟩
    · rw [ud_n _ _ c, ud_n _ _ c]
      exact h1 k hk
  · rw [up_s, up_s]
    rcases h2 with h2 | ⟨⟨x, x1, x2⟩, m, m1, m2⟩
    · refine Or.inl (fun k hk => ?_)
      by_cases c : k = e
      · subst c
        rw [ud_s, ud_s, h2 k hk, hyz h2]
      · rw [ud_n _ _ c, ud_n _ _ c]
        exact h2 k hk
    · refine Or.inr ⟨⟨x, x1, ?_⟩, m, m1, ?_⟩
      · by_cases c : x = e
        · subst c
          rw [ud_s, x2, Int32.zero_and]
        · rw [ud_n _ _ c]
          exact x2
      · by_cases c : m = e
        · subst c
          rw [ud_s, m2, Int32.zero_and]
        · rw [ud_n _ _ c]
          exact m2
theorem m_none {t : St} {H n : Nat} (hn : 20 ≤ n) (hH : H ≤ 8) (e0 : t 0 6 = nI H) : ∃ t1, f_X6_none n t = some t1 ∧ (∀ i, i ≠ 11 → t1 i = t i) ∧ ∀ h, h < H → t1 11 h = 0 := by
  obtain ⟨s1, ⟨p1, p2⟩, g2⟩ := loop_inv (fun j i (s : St) => L_X6_none_2 n j i s) (fun s => some s) H 0 (fun k s => (∀ i, i ≠ 11 → s i = t i) ∧ ∀ h, h < k → s 11 h = 0) (s0 := t) (by omega) ⟨fun _ _ => rfl, fun h q => absurd q (by omega)⟩ (fun k s _ hk hP => by
    refine ⟨up s 11 k 0, ⟨fun i hi => by rw [up_n _ _ _ hi]; exact hP.1 i hi, fun h hh => ?_⟩, fun j => ?_⟩
    · rw [up_s]
      by_cases e : h = k
      · rw [e, ud_s]
      · rw [ud_n _ _ e]
        exact hP.2 h (by omega)
    · show L_X6_none_2 n (j + 1) (nI k) s = L_X6_none_2 n j (nI (k + 1)) _
      rw [L_X6_none_2, if_neg (by rw [hP.1 0 (by omega), e0, leI (by omega) (by omega)]; omega)]
      simp only [cl (show k < 100000 by omega), gj (show k < 8 by omega) (show 8 ≤ 100000 by omega), if_false, nI_1]) (fun j s hP => by
    show L_X6_none_2 n (j + 1) (nI H) s = some s
    rw [L_X6_none_2, if_pos (by rw [hP.1 0 (by omega), e0, leI (by omega) (by omega)]; omega)])
  exact ⟨s1, g2 n (by omega), p1, p2⟩
theorem RT_m {a b b1 : St} {H Dn F : Nat} (h : RT a b H Dn F) (hy : ∀ i, i ≠ 11 → b1 i = b i) : RT a b1 H Dn F := RT_fr h (fun _ _ => rfl) (fun i hi => hy i (by omega)) (by rw [hy 0 (by omega)]) (by rw [hy 0 (by omega)])
theorem m_bindNothing {a b : St} {H Dn F n t h : Nat} (hn : 3000 ≤ n) (hT : RT a b H Dn F) (ht : t ≤ 1000) (hh : h < H) : ∃ b1, f_X6_bindNothing n (nI h) (nI t) b = some b1 ∧ ((wy a t h = 8 ∧ b1 = b) ∨ (wy a t h < H ∧ b1 = up b 11 (wy a t h) (b 11 (wy a t h) &&& ~~~(nI (bsN (fun d => allC a F (t + 1) h d) Dn))))) := by
  have hW := WT_of hT
  have hW1 := hW.1
  have e4 := hT.2.1.2.2.2.1
  unfold f_X6_bindNothing
  rw [m_wayEnd (by omega) hT ht hh]
  rcases wy_in hW t h (Or.inl hh) with q | q
  · have q8 : wy a t h < 8 := by omega
    have c : wy a t h ≠ 8 := by omega
    obtain ⟨s1, p1, g2⟩ := loop_inv (fun j i (s : St) => L_X6_bindNothing_10 n (nI h) (nI t) (nI (wy a t h)) j i s) (fun s => some s) Dn 0 (fun k s => s = up b 11 (wy a t h) (b 11 (wy a t h) &&& ~~~(nI (bsN (fun d => allC a F (t + 1) h d) k)))) (s0 := b) (by omega) (by
      rw [show bsN (fun d => allC a F (t + 1) h d) 0 = 0 from rfl, show ~~~(nI 0) = (-1 : Int32) from by decide, and_m1]
      funext i
      by_cases e : i = 11
      · subst e
        rw [up_s]
        funext k
        by_cases e : k = wy a t h
        · rw [e, ud_s]
        · rw [ud_n _ _ e]
      · rw [up_n _ _ _ e]) (fun k s _ hk hs => by
      have hk6 : k < 6 := by omega
      have hb := bsN_lt (fun d => allC a F (t + 1) h d) k
      have h64 := p2_64 (show k ≤ 6 by omega)
      have hTs : RT a s H Dn F := RT_m hT (fun i hi => by rw [hs, up_n _ _ _ hi])
      refine ⟨_, rfl, fun j => ?_⟩
      show L_X6_bindNothing_10 n (nI h) (nI t) (nI (wy a t h)) (j + 1) (nI k) s = L_X6_bindNothing_10 n (nI h) (nI t) (nI (wy a t h)) j (nI (k + 1)) _
      have es : s 11 (wy a t h) = b 11 (wy a t h) &&& ~~~(nI (bsN (fun d => allC a F (t + 1) h d) k)) := by rw [hs, up_s, ud_s]
      have eu : ∀ x, up s 11 (wy a t h) x = up b 11 (wy a t h) x := fun x => by
        funext i
        by_cases e : i = 11
        · subst e
          rw [up_s, up_s, hs, up_s]
          funext k
          by_cases e : k = wy a t h
          · rw [e, ud_s, ud_s]
          · rw [ud_n _ _ e, ud_n _ _ e, ud_n _ _ e]
        · rw [up_n _ _ _ e, up_n _ _ _ e, hs, up_n _ _ _ e]
      rw [L_X6_bindNothing_10, if_neg (by rw [hs, up_n _ _ _ (by omega), e4, leI (by omega) (by omega)]; omega)]
      simp only [neM (show wy a t h < 100000 by omega), if_false, cl (show wy a t h < 100000 by omega), gj q8 (show 8 ≤ 100000 by omega), m_canAll hn hTs ht hk hh c, Option.bind_some, nI_1, es, xm1, and_m1, eu, Int32.and_assoc]
      by_cases c1 : allC a F (t + 1) h k = true
      · rw [c1, notb k hk6 _ (by omega) hb]
        show _ = L_X6_bindNothing_10 n (nI h) (nI t) (nI (wy a t h)) j (nI (k + 1)) (up b 11 (wy a t h) (b 11 (wy a t h) &&& ~~~(nI (bsN (fun d => allC a F (t + 1) h d) k + if allC a F (t + 1) h k = true then 2 ^ k else 0))))
        rw [if_pos c1]
        rfl
      · rw [Bool.eq_false_iff.mpr c1]
        show _ = L_X6_bindNothing_10 n (nI h) (nI t) (nI (wy a t h)) j (nI (k + 1)) (up b 11 (wy a t h) (b 11 (wy a t h) &&& ~~~(nI (bsN (fun d => allC a F (t + 1) h d) k + if allC a F (t + 1) h k = true then 2 ^ k else 0))))
        rw [if_neg c1]
        rfl) (fun j s hs => by
      show L_X6_bindNothing_10 n (nI h) (nI t) (nI (wy a t h)) (j + 1) (nI Dn) s = some s
      rw [L_X6_bindNothing_10, if_pos (by rw [hs, up_n _ _ _ (by omega), e4, leI (by omega) (by omega)]; omega)])
    refine ⟨s1, ?_, Or.inr ⟨q, p1⟩⟩
    rw [enH_lt q8]
    exact g2 n (by omega)
  · refine ⟨b, ?_, Or.inl ⟨q, rfl⟩⟩
    rw [q]
    show L_X6_bindNothing_10 n (nI h) (nI t) (-1) n 0 b = some b
    obtain ⟨i, rfl⟩ : ∃ i, n = i + 1 := ⟨n - 1, by omega⟩
    rw [L_X6_bindNothing_10]
    split
    · rfl
    · rw [if_pos rfl]
theorem narrow_step {s t : St} {H Dn F n h tt : Nat} {x2 : Int32} (hn : 3000 ≤ n) (hT : RT s t H Dn F) (hM : RM s t H) (hh : h < H) (ht : tt ≤ 99) (hx : x2 = -1 ∨ ∃ d, d < Dn ∧ x2 = nI d) : ∃ s1 t1, f_X5_narrow n (nI h) x2 (nI tt) s = some s1 ∧ (if x2 = -1 then f_X6_bindNothing n (nI h) (nI tt) t else f_X6_bind n (nI h) x2 (nI tt) t) = some t1 ∧ (∀ i, i ≠ 35 → s1 i = s i) ∧ (∀ i, i ≠ 11 → t1 i = t i) ∧ RM s1 t1 H := by
  have hW := WT_of hT
  have hW1 := hW.1
  have hh8 : h < 8 := by omega
  obtain ⟨tn, tn1, tn2, tn3⟩ := m_none (n := n) (t := t) (by omega) hW1.2.1 hT.2.1.2.1
  -- a house's own part gone, and all parts gone
  have dead : ∀ e, e < H → RM (up s 35 e 0) tn H := fun e he => by
    refine ⟨fun k hk => ⟨?_, 0, by omega, tn3 k hk⟩, Or.inr ⟨⟨e, he, by rw [up_s, ud_s]⟩, e, he, tn3 e he⟩⟩
    rw [up_s]
    by_cases c : k = e
    · subst c
      rw [ud_s]
      exact ⟨0, by omega, rfl⟩
    · rw [ud_n _ _ c]
      exact (hM.1 k hk).1
  have hb := bsN_lt (fun d => allC s F (tt + 1) h d) Dn
  have h64 := p2_64 hW1.2.2
  unfold f_X5_narrow
  rw [x_wayEnd (by omega) hW (show tt ≤ 1000 by omega) hh]
  rcases wy_in hW tt h (Or.inl hh) with q | q
  · have q8 : wy s tt h < 8 := by omega
    have c : wy s tt h ≠ 8 := by omega
    simp only [Option.bind_some, enH_neM q8, if_false, x_passing hn hW (show tt ≤ 1000 by omega) hh, if_neg c]
    rw [enH_lt q8]
    simp only [cl (show wy s tt h < 100000 by omega), gj q8 (show 8 ≤ 100000 by omega), if_false, xm1]
    by_cases c2 : x2 = -1
    · rw [if_pos c2, if_pos c2]
      obtain ⟨b1, g1, g2 | ⟨g2, g3⟩⟩ := m_bindNothing hn hT (show tt ≤ 1000 by omega) hh
      · exact absurd g2.1 c
      · refine ⟨_, b1, rfl, g1, fun i hi => up_n _ _ _ hi, fun i hi => by rw [g3, up_n _ _ _ hi], ?_⟩
        rw [g3]
        exact RM_and hM q _ _ (fun _ => rfl)
    · rw [if_neg c2, if_neg c2]
      obtain ⟨d, hd, rfl⟩ : ∃ d, d < Dn ∧ x2 = nI d := by
        rcases hx with z | z
        · exact absurd z c2
        · exact z
      unfold f_X6_bind
      rw [m_firstOf hn hT (show tt ≤ 1000 by omega) hd hh, andbit _ (by omega) d (by omega), fb_bit, bsN_bit, decide_eq_true hd, Bool.true_and]
      unfold fsN
      rw [if_neg c]
      by_cases c3 : allC s F (tt + 1) h d = true
      · rw [if_pos c3, if_pos c3]
        simp only [Option.bind_some, enH_neM q8, if_false]
        rw [enH_lt q8]
        simp only [cl (show wy s tt h < 100000 by omega), gj q8 (show 8 ≤ 100000 by omega), if_false]
        exact ⟨_, _, rfl, rfl, fun i hi => up_n _ _ _ hi, fun i hi => up_n _ _ _ hi, RM_and hM q _ _ (fun _ => rfl)⟩
      · rw [if_neg c3, if_neg c3]
        simp only [Option.bind_some, enH_8, if_true, tn1, and_0]
        exact ⟨_, tn, rfl, rfl, fun i hi => up_n _ _ _ hi, tn2, dead _ q⟩
  · rw [q, enH_8]
    simp only [Option.bind_some, if_true]
    by_cases c2 : x2 = -1
    · rw [if_pos c2, if_pos c2]
      obtain ⟨b1, g1, g2 | ⟨g2, g3⟩⟩ := m_bindNothing hn hT (show tt ≤ 1000 by omega) hh
      · rw [g2.2] at g1
        exact ⟨s, t, rfl, g1, fun _ _ => rfl, fun _ _ => rfl, hM⟩
      · exact absurd q (by omega)
    · rw [if_neg c2, if_neg c2]
      obtain ⟨d, hd, rfl⟩ : ∃ d, d < Dn ∧ x2 = nI d := by
        rcases hx with z | z
        · exact absurd z c2
        · exact z
      unfold f_X6_bind
      rw [m_firstOf hn hT (show tt ≤ 1000 by omega) hd hh]
      unfold fsN
      rw [if_pos q]
      simp only [Option.bind_some, enH_8, if_true, tn1, cl (show h < 100000 by omega), gj hh8 (show 8 ≤ 100000 by omega), if_false]
      exact ⟨_, tn, rfl, rfl, fun i hi => up_n _ _ _ hi, tn2, dead _ hh⟩
