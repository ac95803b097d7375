/-! ===== both states side by side ===== -/
theorem nl0 : nI 0 = 0 := rfl
theorem nl1 : nI 1 = 1 := rfl
theorem nl2 : nI 2 = 2 := rfl
theorem nl3 : nI 3 = 3 := rfl
def b2i (c : Bool) : Int32 := if c = true then 1 else 0
/-- a deed is among the forbidden ones -/
def fbN (F d : Nat) : Bool := decide (F / 2 ^ d % 2 = 1)
def canT (a : St) (F h d : Nat) : Bool := cnB a h d (fbN F d)
theorem bit64 : ∀ F, F < 64 → ∀ d, d < 6 → bitI (nI F) d = fbN F d := by decide +kernel
theorem bitF : ∀ f, f < 2 → ∀ d, d < 6 → bitI (nI f <<< (nI d &&& 31)) d = decide (f = 1) := by decide +kernel
theorem x_canF {a : St} {F h d : Nat} (hF : F < 64) (hh : h < 8) (hd : d < 6) : f_X4_can (nI h) (nI d) (nI F) a = some (b2i (canT a F h d)) := by
  rw [x_can hh hd, bit64 F hF d hd]
  rfl
/-- the tools, when told by number -/
theorem cn_num {a : St} {h d kd v t : Nat} {fb : Bool} (hk : kd ≤ 3) (ek : a 9 d = nI kd) (hv : v ≤ 15) (ev : a 10 d = nI v) (ht : t ≤ 15) (et : a 7 h = nI t) : cnB a h d fb = ((!fb || decide (a 11 d = nI h)) && (!(decide (kd = 2 ∧ v = 0)) && decide (lkN kd v t (decide (a 11 d = nI h)) = 0))) := by
  obtain ⟨a1, a2⟩ := and16 v hv t ht
  obtain ⟨l1, l2, l3, l4⟩ := lack16 v hv t ht
  unfold cnB lkN
  simp only [ek, ev, et, a1, a2, nI_z (show v &&& t < 100000 by omega), nI_z (show v &&& (15 - t) < 100000 by omega)]
  rcases (show kd = 0 ∨ kd = 1 ∨ kd = 2 ∨ kd = 3 by omega) with rfl | rfl | rfl | rfl
  · simp [nl0]
  · simp [nl1, l2]
  · by_cases c1 : v = 0
    · subst c1
      simp [nl2]
    · by_cases c2 : v &&& t = 0 <;> simp [c1, c2, nl2]
  · by_cases c1 : a 11 d = nI h <;> simp [c1, l2, nl3]
theorem m_canElse {a b : St} {H F h d n kd v t : Nat} (hn : 10 ≤ n) (hh : h < 8) (hd : d < 6) (hR : RD a b H F d) (hk : kd ≤ 3) (ek : a 9 d = nI kd) (hv : v ≤ 15) (ev : a 10 d = nI v) (ht : t ≤ 15) (et : b 6 h = nI t) : f_X6_canElse n (nI h) (nI d) b = some (b2i (!(decide (kd = 2 ∧ v = 0)) && decide (lkN kd v t (decide (a 11 d = nI h)) = 0))) := by
  have hl := m_lacks hn hh hd hR hk ek hv ev ht et
  have hle : lkN kd v t (decide (a 11 d = nI h)) ≤ 4 := by
    have := lk_le kd hk v hv t ht
    cases decide (a 11 d = nI h)
    · exact this.2
    · exact this.1
  obtain ⟨⟨r0, r1, r2, -⟩, -⟩ := hR
  unfold f_X6_canElse
  simp only [e60 d hd, e61 d hd, s60 d hd, s61 d hd, n60 hd, n61 hd, or_self, if_false, r0, r1, ek, ev, hl, Option.bind_some, nI_z (show v < 100000 by omega), nI_z (show lkN kd v t (decide (a 11 d = nI h)) < 100000 by omega)]
  generalize lkN kd v t (decide (a 11 d = nI h)) = z
  rcases (show kd = 0 ∨ kd = 1 ∨ kd = 2 ∨ kd = 3 by omega) with rfl | rfl | rfl | rfl
  · by_cases c2 : z = 0 <;> simp [c2, nl0, b2i]
  · by_cases c2 : z = 0 <;> simp [c2, nl1, b2i]
  · by_cases c1 : v = 0 <;> by_cases c2 : z = 0 <;> simp [c1, c2, nl2, b2i]
  · by_cases c2 : z = 0 <;> simp [c2, nl3, b2i]
theorem m_canBy {a b : St} {H Dn F F1 h d n : Nat} (hn : 10 ≤ n) (hT : RT a b H Dn F) (hF1 : F1 < 64) (hh : h < 8) (hd : d < Dn) {x : Int32} (hx : bitI x d = fbN F1 d) : f_X6_canBy n (nI h) (nI d) x b = some (b2i (canT a F1 h d)) := by
  obtain ⟨⟨h1, h2, h3, h4⟩, -, -, h7, -, h9⟩ := hT
  have hR := h9 d hd
  obtain ⟨t7, t, ht, et⟩ := h7 h hh
  obtain ⟨r0, ⟨kd, hk, ek⟩, ⟨v, hv, ev⟩, -⟩ := hR
  have he := m_canElse (n := n) hn hh (by omega) (h9 d hd) hk ek hv ev ht (by rw [t7]; exact et)
  have hd6 : d < 6 := by omega
  unfold f_X6_canBy canT
  rw [he, cn_num hk ek hv ev ht et, p_hasM, hx]
  simp only [e62 d hd6, s62 d hd6, n62 hd6, or_self, if_false, r0.2.2.1, Option.bind_some]
  cases (!(decide (kd = 2 ∧ v = 0)) && decide (lkN kd v t (decide (a 11 d = nI h)) = 0)) <;> cases fbN F1 d <;> by_cases c : a 11 d = nI h <;> simp [c, b2i]
theorem m_canByF {a b : St} {H Dn F F1 h d n : Nat} (hn : 10 ≤ n) (hT : RT a b H Dn F) (hF1 : F1 < 64) (hh : h < 8) (hd : d < Dn) : f_X6_canBy n (nI h) (nI d) (nI F1) b = some (b2i (canT a F1 h d)) :=
  m_canBy hn hT hF1 hh hd (bit64 F1 hF1 d (by have := hT.1.2.2.1; omega))
theorem p2_64 {Dn : Nat} (h : Dn ≤ 6) : 2 ^ Dn ≤ 64 := Nat.le_trans (Nat.pow_le_pow_right (by omega) h) (by decide)
theorem m_can {a b : St} {H Dn F h d n : Nat} (hn : 10 ≤ n) (hT : RT a b H Dn F) (hh : h < 8) (hd : d < Dn) : f_X6_can n (nI h) (nI d) b = some (b2i (canT a F h d)) := by
  have h3 := hT.1.2.2.1
  have h4 := hT.1.2.2.2
  have h64 := p2_64 h3
  have hd6 : d < 6 := by omega
  have hR := hT.2.2.2.2.2 d hd
  have e5 := hR.1.2.2.2.2.2
  have hc := m_canBy (F1 := F) (x := (nI (F / 2 ^ d % 2)) <<< (nI d &&& 31)) hn hT (by omega) hh hd (by
    rw [bitF (F / 2 ^ d % 2) (by omega) d hd6]
    rfl)
  unfold f_X6_can
  simp only [e65 d hd6, s65 d hd6, n65 hd6, or_self, if_false, e5, hc, Option.bind_some]
  cases canT a F h d <;> simp [b2i]
/-- an image of what houses do -/
def RI (a b : St) (H Dn o o1 o2 w : Nat) : Prop := (∀ h, h < 8 → b 1 (w + h) = a o1 h ∧ b 1 (w + 9 + h) = a o2 h ∧ (a o1 h = -1 ∨ ∃ d, d < Dn ∧ a o1 h = nI d) ∧ (H ≤ h → a o1 h = -1)) ∧ ∃ dd, dd ≤ 9999 ∧ a o 2 = nI dd ∧ b 1 (w + 8) = nI dd
def RK (a b : St) (H Dn o o1 o2 k w : Nat) : Prop := (a o 3 = 0 ∧ b 2 k = 0) ∨ (a o 3 = 1 ∧ b 2 k = 1 ∧ RI a b H Dn o o1 o2 w)
/-- wishes, or what was seen -/
def RTold (a b : St) (H Dn o o1 o2 o3 ms mr : Nat) (lo : Bool) : Prop := ∃ w, w ≤ 8 ∧ a o 3 = nI w ∧ b 0 ms = nI w ∧ ∀ i, i < w → (∃ h, h < H ∧ a o1 i = nI h ∧ b mr (3 * i) = nI h) ∧ (b mr (3 * i + 1) = a o2 i ∧ ((∃ d, d < Dn ∧ a o2 i = nI d) ∨ (lo = true ∧ a o2 i = -1))) ∧ ∃ t, t ≤ 99 ∧ a o3 i = nI t ∧ b mr (3 * i + 2) = nI t
/-- the text -/
def RX (a b : St) : Prop := ∃ len, len ≤ 200 ∧ a 1 1 = nI len ∧ b 0 3 = nI len ∧ ∀ i, i < len → b 3 i = a 2 i ∧ ∃ c, c < 256 ∧ a 2 i = nI c
def RR (a b : St) (H Dn F : Nat) : Prop := RT a b H Dn F ∧ RI a b H Dn 15 16 17 0 ∧ RK a b H Dn 19 20 21 0 17 ∧ RK a b H Dn 22 23 24 1 34 ∧ RTold a b H Dn 25 26 27 28 19 10 false ∧ RTold a b H Dn 29 30 31 32 25 13 true ∧ RX a b
/-- what the town's relation rests on -/
theorem RT_fr {a b a1 b1 : St} {H Dn F : Nat} (h : RT a b H Dn F) (hx : ∀ i, i = 5 ∨ i = 6 ∨ i = 7 ∨ i = 8 ∨ i = 9 ∨ i = 10 ∨ i = 11 ∨ i = 12 ∨ i = 13 → a1 i = a i) (hy : ∀ i, i = 5 ∨ i = 6 ∨ i = 7 ∨ i = 8 → b1 i = b i) (h6 : b1 0 6 = b 0 6) (h11 : b1 0 11 = b 0 11) : RT a1 b1 H Dn F := by
  unfold RT RD at h ⊢
  simp only [hx 5 (by omega), hx 6 (by omega), hx 7 (by omega), hx 8 (by omega), hx 9 (by omega), hx 10 (by omega), hx 11 (by omega), hx 12 (by omega), hx 13 (by omega), hy 5 (by omega), hy 6 (by omega), hy 7 (by omega), hy 8 (by omega), h6, h11]
  exact h
theorem RR_fr {a b a1 b1 : St} {H Dn F : Nat} (h : RR a b H Dn F) (hx : ∀ i, i ≠ 0 → i ≠ 1 → i ≠ 3 → i ≠ 4 → i ≠ 14 → i < 33 → a1 i = a i) (hx1 : a1 1 1 = a 1 1) (hy : ∀ i, i ≠ 0 → i ≠ 4 → i ≠ 9 → i ≠ 11 → i ≠ 12 → b1 i = b i) (hy0 : ∀ k, k = 3 ∨ k = 6 ∨ k = 11 ∨ k = 19 ∨ k = 25 → b1 0 k = b 0 k) : RR a1 b1 H Dn F := by
  have X : ∀ i, i ≠ 0 ∧ i ≠ 1 ∧ i ≠ 3 ∧ i ≠ 4 ∧ i ≠ 14 ∧ i < 33 → a1 i = a i := fun i q => hx i q.1 q.2.1 q.2.2.1 q.2.2.2.1 q.2.2.2.2.1 q.2.2.2.2.2
  have Y : ∀ i, i ≠ 0 ∧ i ≠ 4 ∧ i ≠ 9 ∧ i ≠ 11 ∧ i ≠ 12 → b1 i = b i := fun i q => hy i q.1 q.2.1 q.2.2.1 q.2.2.2.1 q.2.2.2.2
  unfold RR at h ⊢
  refine ⟨RT_fr h.1 (fun i q => X i (by omega)) (fun i q => Y i (by omega)) (hy0 6 (by omega)) (hy0 11 (by omega)), ?_⟩
  have h2 := h.2
  unfold RK RI RTold RX at h2 ⊢
  simpa only [X 2 (by omega), X 15 (by omega), X 16 (by omega), X 17 (by omega), X 19 (by omega), X 20 (by omega), X 21 (by omega), X 22 (by omega), X 23 (by omega), X 24 (by omega), X 25 (by omega), X 26 (by omega), X 27 (by omega), X 28 (by omega), X 29 (by omega), X 30 (by omega), X 31 (by omega), X 32 (by omega), hx1, Y 1 (by omega), Y 2 (by omega), Y 3 (by omega), Y 10 (by omega), Y 13 (by omega), hy0 3 (by omega), hy0 19 (by omega), hy0 25 (by omega)] using h2
