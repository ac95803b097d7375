/-! ===== the text grows ===== -/
theorem byte_of (y : Int64) : ∃ c, c < 256 ∧ (y &&& 255).toInt32 = nI c := by
  have h : (y &&& 255).toInt32.toBitVec.toNat < 256 := by
    have e : (y &&& 255).toInt32.toBitVec.toNat = (BitVec.signExtend 32 y.toBitVec).toNat &&& 255 := by
      simp [Int64.toBitVec_toInt32, BitVec.toNat_setWidth, BitVec.toNat_and]
    rw [e]
    have h2 : (BitVec.signExtend 32 y.toBitVec).toNat &&& 255 ≤ 255 := Nat.and_le_right
    omega
  refine ⟨_, h, Int32.toBitVec_inj.mp (BitVec.eq_of_toNat_eq ?_)⟩
  rw [pk_tn (by omega)]
theorem o_write {a b : St} {H Dn F n : Nat} (hn : 3000 ≤ n) (hR : RR a b H Dn F) (x1 : Int64) (x3 : Int32) : OK2 (f_X5_write n x1 x3 a) (f_X6_write n x1 x3 b) := by
  unfold f_X5_write f_X6_write
  rw [show (1 : Int64) = (1 : Int32).toInt64 from rfl, show (8 : Int64) = (8 : Int32).toInt64 from rfl]
  rcases ck_in (lo := 1) (hi := 8) x3 1 8 rfl rfl (by omega) (by omega) with ⟨w, hw1, hw, rfl, f3, f4⟩ | ⟨f3, f4⟩
  · rw [f3, f4]
    obtain ⟨r1, ri, k1, k2, t1, t2, tx⟩ := id hR
    obtain ⟨len, l1, l2, l3, l4⟩ := tx
    simp only [Option.bind_some, i10, if_false, l2, l3, nI_add, show (200 : Int32) = nI 200 from rfl, leI (show len + w < 100000 by omega) (show 200 < 100000 by omega)]
    by_cases c : len + w ≤ 200
    · rw [if_pos c, if_pos c]
      obtain ⟨s1, u1, ⟨p1, p2, p3, p4, p5, p6, p7⟩, g1, g2⟩ := loop_two (fun j i (s : St) => L_X5_write_34 n x1 (nI w) j i s) (fun s => some (s 1 1, s)) (fun j i (s : St) => L_X6_write_33 n x1 (nI w) j i s) (fun s => some (s 0 3, s)) w 0 (fun k s u => (∀ i, i ≠ 1 → i ≠ 2 → s i = a i) ∧ (∀ i, i ≠ 0 → i ≠ 3 → u i = b i) ∧ s 1 1 = nI (len + k) ∧ u 0 3 = nI (len + k) ∧ (∀ m, m ≠ 1 → s 1 m = a 1 m) ∧ (∀ m, m ≠ 3 → u 0 m = b 0 m) ∧ ∀ i, i < len + k → u 3 i = s 2 i ∧ ∃ c, c < 256 ∧ s 2 i = nI c) (s0 := a) (t0 := b) (by omega) ⟨fun _ _ _ => rfl, fun _ _ _ => rfl, l2, l3, fun _ _ => rfl, fun _ _ => rfl, l4⟩ (fun k s u _ hk hP => by
        obtain ⟨q1, q2, q3, q4, q5, q6, q7⟩ := hP
        obtain ⟨z, z1, z2⟩ := byte_of (x1 >>> (((8 : Int32) * nI k).toInt64 &&& 63))
        refine ⟨up (up s 2 (len + k) (nI z)) 1 1 (nI (len + (k + 1))), up (up u 3 (len + k) (nI z)) 0 3 (nI (len + (k + 1))), ⟨fun i g1 g2 => by rw [up_n _ _ _ g1, up_n _ _ _ g2]; exact q1 i g1 g2, fun i g1 g2 => by rw [up_n _ _ _ g1, up_n _ _ _ g2]; exact q2 i g1 g2, by rw [up_s, ud_s], by rw [up_s, ud_s], fun m hm => by rw [up_s, ud_n _ _ hm, up_n _ _ _ (by omega)]; exact q5 m hm, fun m hm => by rw [up_s, ud_n _ _ hm, up_n _ _ _ (by omega)]; exact q6 m hm, fun i hi => ?_⟩, fun j => ?_, fun j => ?_⟩
        · rw [up_n _ _ _ (by omega), up_s, up_n _ _ _ (by omega), up_s]
          by_cases e : i = len + k
          · rw [e, ud_s, ud_s]
            exact ⟨rfl, z, z1, rfl⟩
          · rw [ud_n _ _ e, ud_n _ _ e]
            exact q7 i (by omega)
        · show L_X5_write_34 n x1 (nI w) (j + 1) (nI k) s = L_X5_write_34 n x1 (nI w) j (nI (k + 1)) _
          rw [L_X5_write_34, if_neg (by rw [leI (by omega) (by omega)]; omega), z2]
          unfold f_X2_append
          rw [q3, if_neg (by rw [show (200 : Int32) = nI 200 from rfl, leI (by omega) (by omega)]; omega)]
          simp only [cl (show len + k < 100000 by omega), gj (show len + k < 200 by omega) (show 200 ≤ 100000 by omega), if_false, Option.bind_some, nI_1, up_n _ _ _ (show (1 : Nat) ≠ 2 by omega), q3, Nat.add_assoc]
        · show L_X6_write_33 n x1 (nI w) (j + 1) (nI k) u = L_X6_write_33 n x1 (nI w) j (nI (k + 1)) _
          rw [L_X6_write_33, if_neg (by rw [leI (by omega) (by omega)]; omega), z2]
          simp only [q4, cl (show len + k < 100000 by omega), gj (show len + k < 200 by omega) (show 200 ≤ 100000 by omega), if_false, nI_1, up_n _ _ _ (show (0 : Nat) ≠ 3 by omega), Nat.add_assoc]) (fun j s u hP => by
        show L_X5_write_34 n x1 (nI w) (j + 1) (nI w) s = _
        rw [L_X5_write_34, if_pos (by rw [leI (by omega) (by omega)]; omega)]) (fun j s u hP => by
        show L_X6_write_33 n x1 (nI w) (j + 1) (nI w) u = _
        rw [L_X6_write_33, if_pos (by rw [leI (by omega) (by omega)]; omega)])
      refine ⟨nI (len + w), s1, u1, H, Dn, F, ?_, ?_, RT_fr r1 (fun i hi => p1 i (by omega) (by omega)) (fun i hi => p2 i (by omega) (by omega)) (p6 _ (by omega)) (p6 _ (by omega)), RI_fr ri (by rw [p1 15 (by omega) (by omega)]) (p1 _ (by omega) (by omega)) (p1 _ (by omega) (by omega)) (fun k hk => by rw [p2 1 (by omega) (by omega)]), RK_fr k1 (p1 _ (by omega) (by omega)) (p1 _ (by omega) (by omega)) (p1 _ (by omega) (by omega)) (by rw [p2 2 (by omega) (by omega)]) (fun k hk => by rw [p2 1 (by omega) (by omega)]), RK_fr k2 (p1 _ (by omega) (by omega)) (p1 _ (by omega) (by omega)) (p1 _ (by omega) (by omega)) (by rw [p2 2 (by omega) (by omega)]) (fun k hk => by rw [p2 1 (by omega) (by omega)]), RTold_fr t1 (by rw [p1 _ (by omega) (by omega)]) (p1 _ (by omega) (by omega)) (p1 _ (by omega) (by omega)) (p1 _ (by omega) (by omega)) (p6 _ (by omega)) (p2 _ (by omega) (by omega)), RTold_fr t2 (by rw [p1 _ (by omega) (by omega)]) (p1 _ (by omega) (by omega)) (p1 _ (by omega) (by omega)) (p1 _ (by omega) (by omega)) (p6 _ (by omega)) (p2 _ (by omega) (by omega)), ⟨len + w, c, p3, p4, p7⟩⟩
      · rw [← p3]
        exact g1 n (by omega)
      · rw [← p4]
        exact g2 n (by omega)
    · rw [if_neg c, if_neg c]
      exact OK2_same hR _
  · rw [f3, f4]
    exact OK2_same hR _
