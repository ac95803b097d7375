set_option maxRecDepth 100000 in
set_option maxHeartbeats 4000000 in
theorem c_X5_refusalOf (g : GX) (hS : xSide (sX g)) (l : Launch) (x1 : Int32) (x2 : Int32) (x3 : Int32) (a : St) (q : Int32) (hf : f_X5_refusalOf x1 x2 x3 a = some q) : Met l yX5_refusalOf wsX5_refusalOf rm_X5_refusalOf (xPre (sX g) [.ref (aX g 0), .int x1, .int x2, .int x3] a) (xPostI (sX g) q a) 0 0 (sX g).2.2.1 := by
  refine xm_i (av := [.ref (aX g 0), .int x1, .int x2, .int x3]) (cc := cX5_refusalOf) (maxL := 4) (by decide) rfl (Nat.le_of_ble_eq_true rfl) hS.1 hS.2 (fun K C hret => ?_)
  have C : CC K (sX g) cX5_refusalOf 4 wsX5_refusalOf RX5 rm_X5_refusalOf := C
  have hiX5 : ∀ w ∈ u_ws RX5 TX5 13, w ∈ wsX5_refusalOf := fun w h => List.mem_cons_of_mem _ (List.mem_append_left _ (List.mem_append_right _ h))
  rw [f_X5_refusalOf] at hf
  show V K (sX g) 4 a [(0, .ref (aX g 0)), (1, .int x1), (2, .int x2), (3, .int x3)] 0 []
  refine xv_aload_n C dX5_refusalOf_0 rfl 0 rfl ?_
  refine xv_get C hiX5 0 (wX0 g _) rfl 1 (by decide) (List.mem_of_getElem? (i := 1) rfl) rfl dX5_refusalOf_1 ?_
  refine xv_iload_n C dX5_refusalOf_4 rfl 1 rfl ?_
  obtain ⟨q1, hg, hf⟩ := dt_bind hf
  refine xc_i (xr_VN C (ci := 4) (As := [.int x1]) (fun l => c_X4_hasHouse g hS l x1 a q1 hg) gX5_refusalOf_X4_hasHouse_n114 rfl ⟨rfl, rfl⟩ (fun U H h => h.1 _ (List.mem_of_getElem? (i := 45) rfl)) (List.mem_of_getElem? (i := 3) rfl) (List.mem_of_getElem? (i := 2) rfl) (List.mem_of_getElem? (i := 4) rfl) hdN_X4_hasHouse ⟨Nat.le_of_ble_eq_true rfl, Nat.le_of_ble_eq_true rfl⟩ 5 rfl rfl (wX5 g _) rfl rfl (Nat.le_of_ble_eq_true rfl) dX5_refusalOf_5) ?_
  refine xv_if_eq C (y := 0) 22 hf dX5_refusalOf_8 (by decide) (fun _ hf => ?_) (fun _ hf => ?_)
  · refine xv_bipush C (-2) dX5_refusalOf_22 (by decide) ?_
    exact xz_ir hret hf dX5_refusalOf_24
  · refine xv_aload_n C dX5_refusalOf_11 rfl 0 rfl ?_
    refine xv_get C hiX5 0 (wX0 g _) rfl 1 (by decide) (List.mem_of_getElem? (i := 1) rfl) rfl dX5_refusalOf_12 ?_
    refine xv_iload_n C dX5_refusalOf_15 rfl 2 rfl ?_
    obtain ⟨q2, hg, hf⟩ := dt_bind hf
    refine xc_i (xr_VN C (ci := 4) (As := [.int x2]) (fun l => c_X4_hasDeed g hS l x2 a q2 hg) gX5_refusalOf_X4_hasDeed_n130 rfl ⟨rfl, rfl⟩ (fun U H h => h.1 _ (List.mem_of_getElem? (i := 47) rfl)) (List.mem_of_getElem? (i := 3) rfl) (List.mem_of_getElem? (i := 10) rfl) (List.mem_of_getElem? (i := 11) rfl) hdN_X4_hasDeed ⟨Nat.le_of_ble_eq_true rfl, Nat.le_of_ble_eq_true rfl⟩ 5 rfl rfl (wX5 g _) rfl rfl (Nat.le_of_ble_eq_true rfl) dX5_refusalOf_16) ?_
    refine xv_if_ne C (y := 0) 25 hf dX5_refusalOf_19 (by decide) (fun _ hf => ?_) (fun _ hf => ?_)
    · refine xv_bipush C (-2) dX5_refusalOf_22 (by decide) ?_
      exact xz_ir hret hf dX5_refusalOf_24
    · refine xv_iload_n C dX5_refusalOf_25 rfl 3 rfl ?_
      refine xv_iconst C 0 dX5_refusalOf_26 (by decide) ?_
      refine xv_bipush C 99 dX5_refusalOf_27 (by decide) ?_
      obtain ⟨q3, hg, hf⟩ := dt_bind hf
      refine xc_i (xr_S C (As := [.int x3, .int 0, .int 99]) (fun l => c_X5_within (sX g) hS l x3 0 99 a q3 hg) gX5_refusalOf_X5_within rfl ⟨rfl, rfl⟩ hdS_X5_within ⟨Nat.le_of_ble_eq_true rfl, Nat.le_of_ble_eq_true rfl⟩ rfl rfl (Nat.le_of_ble_eq_true rfl) dX5_refusalOf_29) ?_
      refine xv_if_eq C (y := 0) 39 hf dX5_refusalOf_32 (by decide) (fun _ hf => ?_) (fun _ hf => ?_)
      · refine xv_bipush C (-3) dX5_refusalOf_39 (by decide) ?_
        exact xz_ir hret hf dX5_refusalOf_41
      · refine xv_iconst C 0 dX5_refusalOf_35 (by decide) ?_
        refine xv_goto C 41 dX5_refusalOf_36 (by decide) ?_
        exact xz_ir hret hf dX5_refusalOf_41
set_option maxRecDepth 100000 in
set_option maxHeartbeats 4000000 in
theorem c_X4_abilities (g : GX) (hS : xSide (sX g)) (l : Launch) (n : Nat) (x1 : Int32) (a : St) (q : Int32) (hf : f_X4_abilities n x1 a = some q) : Met l yX4_abilities wsX4_abilities rm_X4_abilities (xPre (sX g) [.ref (aX g 5), .int x1] a) (xPostI (sX g) q a) 0 0 (sX g).2.2.1 := by
  refine xm_i (av := [.ref (aX g 5), .int x1]) (cc := cX4_abilities) (maxL := 4) (by decide) rfl (Nat.le_of_ble_eq_true rfl) hS.1 hS.2 (fun K C hret => ?_)
  have C : CC K (sX g) cX4_abilities 4 wsX4_abilities RX4 rm_X4_abilities := C
  have hiX4 : ∀ w ∈ u_ws RX4 TX4 12, w ∈ wsX4_abilities := fun w h => List.mem_cons_of_mem _ (List.mem_append_right _ h)
  have hL4 : ∀ (x1 : Int32)  (j : Nat) (x2 : Int32) (x3 : Int32), L_X4_abilities_4 n x1 a j x2 x3 = some q → V K (sX g) 4 a [(0, .ref (aX g 5)), (1, .int x1), (2, .int x2), (3, .int x3)] 4 [] := by
    intro x1 j
    induction j with
    | zero =>
      intro x2 x3 hf
      have hf : (none : Option Int32) = some q := hf
      cases hf
    | succ j ih =>
      intro x2 x3 hf
      rw [L_X4_abilities_4] at hf
      refine xv_iload_n C dX4_abilities_4 rfl 3 rfl ?_
      refine xv_aload_n C dX4_abilities_5 rfl 0 rfl ?_
      refine xv_get C hiX4 5 (wX5 g _) rfl 1 (by decide) (List.mem_of_getElem? (i := 1) rfl) rfl dX4_abilities_6 ?_
      refine xv_icmp_ge C 37 hf dX4_abilities_9 (by decide) (fun _ hf => ?_) (fun _ hf => ?_)
      · refine xv_iload_n C dX4_abilities_37 rfl 2 rfl ?_
        exact xz_ir hret hf dX4_abilities_38
      · refine xv_aload_n C dX4_abilities_12 rfl 0 rfl ?_
        refine xv_iload_n C dX4_abilities_13 rfl 1 rfl ?_
        refine xv_iload_n C dX4_abilities_14 rfl 3 rfl ?_
        refine xv_aload_n C dX4_abilities_15 rfl 0 rfl ?_
        refine xv_get C hiX4 5 (wX5 g _) rfl 2 (by decide) (List.mem_of_getElem? (i := 2) rfl) rfl dX4_abilities_16 ?_
        obtain ⟨q1, hg, hf⟩ := dt_bind hf
        refine xc_i (xr_V C (ci := 4) (As := [.int x1, .int x3, .int (a 5 2)]) (fun l => c_X4_can g hS l x1 x3 (a 5 2) a q1 hg) gX4_abilities_X4_can rfl ⟨rfl, rfl⟩ hdV_X4_can ⟨Nat.le_of_ble_eq_true rfl, Nat.le_of_ble_eq_true rfl⟩ 5 rfl rfl (wX5 g _) rfl rfl (Nat.le_of_ble_eq_true rfl) dX4_abilities_19) ?_
        refine xv_if_eq C (y := 0) 31 hf dX4_abilities_22 (by decide) (fun _ hf => ?_) (fun _ hf => ?_)
        · refine xv_iinc C [(3, .int (x3 + 1)), (0, .ref (aX g 5)), (1, .int x1), (2, .int x2)] dX4_abilities_31 3 rfl rfl (by decide) rfl ?_
          refine xv_goto C 4 dX4_abilities_34 (by decide) ?_
          refine xv_eq [1, 2, 3, 0] rfl ?_
          exact ih x2 (x3 + 1) hf
        · refine xv_iload_n C dX4_abilities_25 rfl 2 rfl ?_
          refine xv_iconst C 1 dX4_abilities_26 (by decide) ?_
          refine xv_iload_n C dX4_abilities_27 rfl 3 rfl ?_
          refine xv_ishl C dX4_abilities_28 ?_
          refine xv_ior C dX4_abilities_29 ?_
          refine xv_istore_n C [(2, .int (x2 ||| ((1 : Int32) <<< (x3 &&& 31)))), (0, .ref (aX g 5)), (1, .int x1), (3, .int x3)] dX4_abilities_30 rfl (by decide) rfl ?_
          refine xv_iinc C [(3, .int (x3 + 1)), (2, .int (x2 ||| ((1 : Int32) <<< (x3 &&& 31)))), (0, .ref (aX g 5)), (1, .int x1)] dX4_abilities_31 3 rfl rfl (by decide) rfl ?_
          refine xv_goto C 4 dX4_abilities_34 (by decide) ?_
          refine xv_eq [2, 3, 1, 0] rfl ?_
          exact ih (x2 ||| ((1 : Int32) <<< (x3 &&& 31))) (x3 + 1) hf
  rw [f_X4_abilities] at hf
  show V K (sX g) 4 a [(0, .ref (aX g 5)), (1, .int x1)] 0 []
  refine xv_iconst C 0 dX4_abilities_0 (by decide) ?_
  refine xv_istore_n C [(2, .int 0), (0, .ref (aX g 5)), (1, .int x1)] dX4_abilities_1 rfl (by decide) rfl ?_
  refine xv_iconst C 0 dX4_abilities_2 (by decide) ?_
  refine xv_istore_n C [(3, .int 0), (2, .int 0), (0, .ref (aX g 5)), (1, .int x1)] dX4_abilities_3 rfl (by decide) rfl ?_
  refine xv_eq [2, 3, 1, 0] rfl ?_
  exact hL4 x1 n 0 0 hf
set_option maxRecDepth 100000 in
set_option maxHeartbeats 4000000 in
theorem c_X4_passing (g : GX) (hS : xSide (sX g)) (l : Launch) (n : Nat) (x1 : Int32) (x2 : Int32) (a : St) (q : Int32) (hf : f_X4_passing n x1 x2 a = some q) : Met l yX4_passing wsX4_passing rm_X4_passing (xPre (sX g) [.ref (aX g 5), .int x1, .int x2] a) (xPostI (sX g) q a) 0 0 (sX g).2.2.1 := by
  refine xm_i (av := [.ref (aX g 5), .int x1, .int x2]) (cc := cX4_passing) (maxL := 6) (by decide) rfl (Nat.le_of_ble_eq_true rfl) hS.1 hS.2 (fun K C hret => ?_)
  have C : CC K (sX g) cX4_passing 6 wsX4_passing RX4 rm_X4_passing := C
  have hiX4 : ∀ w ∈ u_ws RX4 TX4 12, w ∈ wsX4_passing := fun w h => List.mem_cons_of_mem _ (List.mem_append_right _ h)
  have hL9 : ∀ (x2 : Int32)  (j : Nat) (x3 : Int32) (x4 : Int32) (x5 : Int32), L_X4_passing_9 n x2 a j x3 x4 x5 = some q → V K (sX g) 6 a [(0, .ref (aX g 5)), (2, .int x2), (3, .int x3), (4, .int x4), (5, .int x5)] 9 [] := by
    intro x2 j
    induction j with
    | zero =>
      intro x3 x4 x5 hf
      have hf : (none : Option Int32) = some q := hf
      cases hf
    | succ j ih =>
      intro x3 x4 x5 hf
      rw [L_X4_passing_9] at hf
      refine xv_iload C dX4_passing_9 4 rfl ?_
      refine xv_iload_n C dX4_passing_11 rfl 1 rfl ?_
      refine xv_icmp_gt C 45 hf dX4_passing_12 (by decide) (fun _ hf => ?_) (fun _ hf => ?_)
      · refine xv_iload C dX4_passing_45 3 rfl ?_
        exact xz_ir hret hf dX4_passing_47
      · refine xv_iload_n C dX4_passing_15 rfl 2 rfl ?_
        refine xv_iconst C (-1) dX4_passing_16 (by decide) ?_
        refine xv_icmp_ne C 22 hf dX4_passing_17 (by decide) (fun _ hf => ?_) (fun _ hf => ?_)
        · refine xv_iconst C 0 dX4_passing_20 (by decide) ?_
          exact xz_ir hret hf dX4_passing_21
        · refine xv_iload C dX4_passing_22 3 rfl ?_
          refine xv_aload_n C dX4_passing_24 rfl 0 rfl ?_
          refine xv_iload_n C dX4_passing_25 rfl 2 rfl ?_
          obtain ⟨q1, hg, hf⟩ := dt_bind hf
          refine xc_i (xr_V C (ci := 4) (As := [.int x3]) (fun l => c_X4_abilities g hS l n x3 a q1 hg) gX4_passing_X4_abilities rfl ⟨rfl, rfl⟩ hdV_X4_abilities ⟨Nat.le_of_ble_eq_true rfl, Nat.le_of_ble_eq_true rfl⟩ 5 rfl rfl (wX5 g _) rfl rfl (Nat.le_of_ble_eq_true rfl) dX4_passing_26) ?_
          refine xv_iand C dX4_passing_29 ?_
          refine xv_istore C [(4, .int (x4 &&& q1)), (0, .ref (aX g 5)), (2, .int x2), (3, .int x3), (5, .int x5)] dX4_passing_30 (by decide) rfl ?_
          refine xv_aload_n C dX4_passing_32 rfl 1 rfl ?_
          refine xv_get C hiX4 5 (wX5 g _) rfl 3 (by decide) (List.mem_of_getElem? (i := 1) rfl) rfl dX4_passing_33 ?_
          refine xv_iload_n C dX4_passing_36 rfl 3 rfl ?_
          refine xv_iald C 6 0 (wX6 g _) rfl hf dX4_passing_37 (fun hf => ?_)
          refine xv_istore_n C [(3, .int (a 6 x3.toNatClampNeg)), (4, .int (x4 &&& q1)), (0, .ref (aX g 5)), (2, .int x2), (5, .int x5)] dX4_passing_38 rfl (by decide) rfl ?_
          refine xv_iinc C [(5, .int (x5 + 1)), (3, .int (a 6 x3.toNatClampNeg)), (4, .int (x4 &&& q1)), (0, .ref (aX g 5)), (2, .int x2)] dX4_passing_39 4 rfl rfl (by decide) rfl ?_
          refine xv_goto C 9 dX4_passing_42 (by decide) ?_
          refine xv_eq [3, 4, 1, 2, 0] rfl ?_
          exact ih (a 6 x3.toNatClampNeg) (x4 &&& q1) (x5 + 1) hf
  rw [f_X4_passing] at hf
  show V K (sX g) 6 a [(0, .ref (aX g 5)), (1, .int x1), (2, .int x2)] 0 []
  refine xv_iload_n C dX4_passing_0 rfl 1 rfl ?_
  refine xv_istore_n C [(3, .int x1), (0, .ref (aX g 5)), (1, .int x1), (2, .int x2)] dX4_passing_1 rfl (by decide) rfl ?_
  refine xv_bipush C 63 dX4_passing_2 (by decide) ?_
  refine xv_istore C [(4, .int 63), (3, .int x1), (0, .ref (aX g 5)), (1, .int x1), (2, .int x2)] dX4_passing_4 (by decide) rfl ?_
  refine xv_iconst C 0 dX4_passing_6 (by decide) ?_
  refine xv_istore C [(5, .int 0), (4, .int 63), (3, .int x1), (0, .ref (aX g 5)), (1, .int x1), (2, .int x2)] dX4_passing_7 (by decide) rfl ?_
  refine xv_eq [3, 5, 2, 1, 0] rfl ?_
  exact hL9 x2 n x1 63 0 hf
set_option maxRecDepth 100000 in
set_option maxHeartbeats 4000000 in
theorem c_X4_wayEnd (g : GX) (hS : xSide (sX g)) (l : Launch) (n : Nat) (x1 : Int32) (x2 : Int32) (a : St) (q : Int32) (hf : f_X4_wayEnd n x1 x2 a = some q) : Met l yX4_wayEnd wsX4_wayEnd rm_X4_wayEnd (xPre (sX g) [.ref (aX g 5), .int x1, .int x2] a) (xPostI (sX g) q a) 0 0 (sX g).2.2.1 := by
  refine xm_i (av := [.ref (aX g 5), .int x1, .int x2]) (cc := cX4_wayEnd) (maxL := 5) (by decide) rfl (Nat.le_of_ble_eq_true rfl) hS.1 hS.2 (fun K C hret => ?_)
  have C : CC K (sX g) cX4_wayEnd 5 wsX4_wayEnd RX4 rm_X4_wayEnd := C
  have hiX4 : ∀ w ∈ u_ws RX4 TX4 12, w ∈ wsX4_wayEnd := fun w h => List.mem_cons_of_mem _ (List.mem_append_right _ h)
  have hL5 : ∀ (x2 : Int32)  (j : Nat) (x3 : Int32) (x4 : Int32), L_X4_wayEnd_5 n x2 a j x3 x4 = some q → V K (sX g) 5 a [(0, .ref (aX g 5)), (2, .int x2), (3, .int x3), (4, .int x4)] 5 [] := by
    intro x2 j
    induction j with
    | zero =>
      intro x3 x4 hf
      have hf : (none : Option Int32) = some q := hf
      cases hf
    | succ j ih =>
      intro x3 x4 hf
      rw [L_X4_wayEnd_5] at hf
      refine xv_iload C dX4_wayEnd_5 3 rfl ?_
      refine xv_iload_n C dX4_wayEnd_7 rfl 1 rfl ?_
      refine xv_icmp_ge C 29 hf dX4_wayEnd_8 (by decide) (fun _ hf => ?_) (fun _ hf => ?_)
      · refine xv_iload_n C dX4_wayEnd_29 rfl 2 rfl ?_
        exact xz_ir hret hf dX4_wayEnd_30
      · refine xv_iload_n C dX4_wayEnd_11 rfl 2 rfl ?_
        refine xv_iconst C (-1) dX4_wayEnd_12 (by decide) ?_
        refine xv_icmp_eq C 29 hf dX4_wayEnd_13 (by decide) (fun _ hf => ?_) (fun _ hf => ?_)
        · refine xv_iload_n C dX4_wayEnd_29 rfl 2 rfl ?_
          exact xz_ir hret hf dX4_wayEnd_30
        · refine xv_aload_n C dX4_wayEnd_16 rfl 0 rfl ?_
          refine xv_get C hiX4 5 (wX5 g _) rfl 3 (by decide) (List.mem_of_getElem? (i := 1) rfl) rfl dX4_wayEnd_17 ?_
          refine xv_iload_n C dX4_wayEnd_20 rfl 2 rfl ?_
          refine xv_iald C 6 0 (wX6 g _) rfl hf dX4_wayEnd_21 (fun hf => ?_)
          refine xv_istore_n C [(3, .int (a 6 x3.toNatClampNeg)), (0, .ref (aX g 5)), (2, .int x2), (4, .int x4)] dX4_wayEnd_22 rfl (by decide) rfl ?_
          refine xv_iinc C [(4, .int (x4 + 1)), (3, .int (a 6 x3.toNatClampNeg)), (0, .ref (aX g 5)), (2, .int x2)] dX4_wayEnd_23 3 rfl rfl (by decide) rfl ?_
          refine xv_goto C 5 dX4_wayEnd_26 (by decide) ?_
          refine xv_eq [2, 3, 1, 0] rfl ?_
          exact ih (a 6 x3.toNatClampNeg) (x4 + 1) hf
  rw [f_X4_wayEnd] at hf
  show V K (sX g) 5 a [(0, .ref (aX g 5)), (1, .int x1), (2, .int x2)] 0 []
  refine xv_iload_n C dX4_wayEnd_0 rfl 1 rfl ?_
  refine xv_istore_n C [(3, .int x1), (0, .ref (aX g 5)), (1, .int x1), (2, .int x2)] dX4_wayEnd_1 rfl (by decide) rfl ?_
  refine xv_iconst C 0 dX4_wayEnd_2 (by decide) ?_
  refine xv_istore C [(4, .int 0), (3, .int x1), (0, .ref (aX g 5)), (1, .int x1), (2, .int x2)] dX4_wayEnd_3 (by decide) rfl ?_
  refine xv_eq [2, 4, 1, 0] rfl ?_
  exact hL5 x2 n x1 0 hf
set_option maxRecDepth 100000 in
set_option maxHeartbeats 4000000 in
theorem c_X5_first (g : GX) (hS : xSide (sX g)) (l : Launch) (n : Nat) (x1 : Int32) (x2 : Int32) (x3 : Int32) (a : St) (q : Int32) (hf : f_X5_first n x1 x2 x3 a = some q) : Met l yX5_first wsX5_first rm_X5_first (xPre (sX g) [.ref (aX g 0), .int x1, .int x2, .int x3] a) (xPostI (sX g) q a) 0 0 (sX g).2.2.1 := by
  refine xm_i (av := [.ref (aX g 0), .int x1, .int x2, .int x3]) (cc := cX5_first) (maxL := 5) (by decide) rfl (Nat.le_of_ble_eq_true rfl) hS.1 hS.2 (fun K C hret => ?_)
  have C : CC K (sX g) cX5_first 5 wsX5_first RX5 rm_X5_first := C
  have hiX5 : ∀ w ∈ u_ws RX5 TX5 13, w ∈ wsX5_first := fun w h => List.mem_cons_of_mem _ (List.mem_append_left _ (List.mem_append_right _ h))
  rw [f_X5_first] at hf
  show V K (sX g) 5 a [(0, .ref (aX g 0)), (1, .int x1), (2, .int x2), (3, .int x3)] 0 []
  refine xv_aload_n C dX5_first_0 rfl 0 rfl ?_
  refine xv_iload_n C dX5_first_1 rfl 1 rfl ?_
  refine xv_iload_n C dX5_first_2 rfl 2 rfl ?_
  refine xv_iload_n C dX5_first_3 rfl 3 rfl ?_
  obtain ⟨q1, hg, hf⟩ := dt_bind hf
  refine xc_i (xr_V C (ci := 5) (As := [.int x1, .int x2, .int x3]) (fun l => c_X5_refusalOf g hS l x1 x2 x3 a q1 hg) gX5_first_X5_refusalOf rfl ⟨rfl, rfl⟩ hdV_X5_refusalOf ⟨Nat.le_of_ble_eq_true rfl, Nat.le_of_ble_eq_true rfl⟩ 0 rfl rfl (wX0 g _) rfl rfl (Nat.le_of_ble_eq_true rfl) dX5_first_4) ?_
  refine xv_istore C [(4, .int q1), (0, .ref (aX g 0)), (1, .int x1), (2, .int x2), (3, .int x3)] dX5_first_7 (by decide) rfl ?_
  refine xv_iload C dX5_first_9 0 rfl ?_
  refine xv_if_eq C (y := 0) 17 hf dX5_first_11 (by decide) (fun _ hf => ?_) (fun _ hf => ?_)
  · refine xv_aload_n C dX5_first_17 rfl 1 rfl ?_
    refine xv_get C hiX5 0 (wX0 g _) rfl 1 (by decide) (List.mem_of_getElem? (i := 1) rfl) rfl dX5_first_18 ?_
    refine xv_iload_n C dX5_first_21 rfl 2 rfl ?_
    refine xv_iload_n C dX5_first_22 rfl 4 rfl ?_
    obtain ⟨q2, hg, hf⟩ := dt_bind hf
    refine xc_i (xr_VN C (ci := 4) (As := [.int x1, .int x3]) (fun l => c_X4_passing g hS l n x1 x3 a q2 hg) gX5_first_X4_passing_n188 rfl ⟨rfl, rfl⟩ (fun U H h => h.1 _ (List.mem_of_getElem? (i := 52) rfl)) (List.mem_of_getElem? (i := 8) rfl) (List.mem_of_getElem? (i := 19) rfl) (List.mem_of_getElem? (i := 20) rfl) hdN_X4_passing ⟨Nat.le_of_ble_eq_true rfl, Nat.le_of_ble_eq_true rfl⟩ 5 rfl rfl (wX5 g _) rfl rfl (Nat.le_of_ble_eq_true rfl) dX5_first_23) ?_
    refine xv_iload_n C dX5_first_26 rfl 3 rfl ?_
    obtain ⟨q3, hg, hf⟩ := dt_bind hf
    refine xc_i (xr_S C (As := [.int q2, .int x2]) (fun l => c_X5_has (sX g) hS l q2 x2 a q3 hg) gX5_first_X5_has rfl ⟨rfl, rfl⟩ hdS_X5_has ⟨Nat.le_of_ble_eq_true rfl, Nat.le_of_ble_eq_true rfl⟩ rfl rfl (Nat.le_of_ble_eq_true rfl) dX5_first_27) ?_
    refine xv_if_eq C (y := 0) 45 hf dX5_first_30 (by decide) (fun _ hf => ?_) (fun _ hf => ?_)
    · refine xv_iconst C (-1) dX5_first_45 (by decide) ?_
      exact xz_ir hret hf dX5_first_46
    · refine xv_aload_n C dX5_first_33 rfl 1 rfl ?_
      refine xv_get C hiX5 0 (wX0 g _) rfl 1 (by decide) (List.mem_of_getElem? (i := 1) rfl) rfl dX5_first_34 ?_
      refine xv_iload_n C dX5_first_37 rfl 2 rfl ?_
      refine xv_iload_n C dX5_first_38 rfl 4 rfl ?_
      obtain ⟨q4, hg, hf⟩ := dt_bind hf
      refine xc_i (xr_VN C (ci := 4) (As := [.int x1, .int x3]) (fun l => c_X4_wayEnd g hS l n x1 x3 a q4 hg) gX5_first_X4_wayEnd_n191 rfl ⟨rfl, rfl⟩ (fun U H h => h.1 _ (List.mem_of_getElem? (i := 53) rfl)) (List.mem_of_getElem? (i := 8) rfl) (List.mem_of_getElem? (i := 43) rfl) (List.mem_of_getElem? (i := 44) rfl) hdN_X4_wayEnd ⟨Nat.le_of_ble_eq_true rfl, Nat.le_of_ble_eq_true rfl⟩ 5 rfl rfl (wX5 g _) rfl rfl (Nat.le_of_ble_eq_true rfl) dX5_first_39) ?_
      refine xv_goto C 46 dX5_first_42 (by decide) ?_
      exact xz_ir hret hf dX5_first_46
  · refine xv_iload C dX5_first_14 0 rfl ?_
    exact xz_ir hret hf dX5_first_16
set_option maxRecDepth 100000 in
set_option maxHeartbeats 4000000 in
theorem c_J6_bitCount_0f7a4 (S : SID) (hS : xSide S) (l : Launch) (x0 : Int32) (a : St) (q : Int32) (hf : f_J6_bitCount_0f7a4 x0 = some q) : Met l yJ6_bitCount_0f7a4 wsJ6_bitCount_0f7a4 rm_J6_bitCount_0f7a4 (xPre S [.int x0] a) (xPostI S q a) 0 0 S.2.2.1 := by
  refine xm_i (av := [.int x0]) (cc := cJ6_bitCount_0f7a4) (maxL := 1) (by decide) rfl (Nat.le_of_ble_eq_true rfl) hS.1 hS.2 (fun K C hret => ?_)
  have C : CC K S cJ6_bitCount_0f7a4 1 wsJ6_bitCount_0f7a4 RJ6 rm_J6_bitCount_0f7a4 := C
  rw [f_J6_bitCount_0f7a4] at hf
  show V K S 1 a [(0, .int x0)] 0 []
  refine xv_iload_n C dJ6_bitCount_0f7a4_0 rfl 0 rfl ?_
  refine xv_iload_n C dJ6_bitCount_0f7a4_1 rfl 0 rfl ?_
  refine xv_iconst C 1 dJ6_bitCount_0f7a4_2 (by decide) ?_
  refine xv_iushr C dJ6_bitCount_0f7a4_3 ?_
  refine xv_ldcw C 1431655765 dJ6_bitCount_0f7a4_4 (List.mem_of_getElem? (i := 1) rfl) ?_
  refine xv_iand C dJ6_bitCount_0f7a4_7 ?_
  refine xv_isub C dJ6_bitCount_0f7a4_8 ?_
  refine xv_istore_n C [(0, .int (x0 - (((x0.toUInt32 >>> ((1 : Int32).toUInt32 &&& Int32.toUInt32 31)).toInt32) &&& 1431655765)))] dJ6_bitCount_0f7a4_9 rfl (by decide) rfl ?_
  refine xv_iload_n C dJ6_bitCount_0f7a4_10 rfl 0 rfl ?_
  refine xv_ldcw C 858993459 dJ6_bitCount_0f7a4_11 (List.mem_of_getElem? (i := 2) rfl) ?_
  refine xv_iand C dJ6_bitCount_0f7a4_14 ?_
  refine xv_iload_n C dJ6_bitCount_0f7a4_15 rfl 0 rfl ?_
  refine xv_iconst C 2 dJ6_bitCount_0f7a4_16 (by decide) ?_
  refine xv_iushr C dJ6_bitCount_0f7a4_17 ?_
  refine xv_ldcw C 858993459 dJ6_bitCount_0f7a4_18 (List.mem_of_getElem? (i := 2) rfl) ?_
  refine xv_iand C dJ6_bitCount_0f7a4_21 ?_
  refine xv_iadd C dJ6_bitCount_0f7a4_22 ?_
  refine xv_istore_n C [(0, .int (((x0 - (((x0.toUInt32 >>> ((1 : Int32).toUInt32 &&& Int32.toUInt32 31)).toInt32) &&& 1431655765)) &&& 858993459) + ((((x0 - (((x0.toUInt32 >>> ((1 : Int32).toUInt32 &&& Int32.toUInt32 31)).toInt32) &&& 1431655765)).toUInt32 >>> ((2 : Int32).toUInt32 &&& Int32.toUInt32 31)).toInt32) &&& 858993459)))] dJ6_bitCount_0f7a4_23 rfl (by decide) rfl ?_
  refine xv_iload_n C dJ6_bitCount_0f7a4_24 rfl 0 rfl ?_
  refine xv_iload_n C dJ6_bitCount_0f7a4_25 rfl 0 rfl ?_
  refine xv_iconst C 4 dJ6_bitCount_0f7a4_26 (by decide) ?_
  refine xv_iushr C dJ6_bitCount_0f7a4_27 ?_
  refine xv_iadd C dJ6_bitCount_0f7a4_28 ?_
  refine xv_ldcw C 252645135 dJ6_bitCount_0f7a4_29 (List.mem_of_getElem? (i := 3) rfl) ?_
  refine xv_iand C dJ6_bitCount_0f7a4_32 ?_
  refine xv_istore_n C [(0, .int (((((x0 - (((x0.toUInt32 >>> ((1 : Int32).toUInt32 &&& Int32.toUInt32 31)).toInt32) &&& 1431655765)) &&& 858993459) + ((((x0 - (((x0.toUInt32 >>> ((1 : Int32).toUInt32 &&& Int32.toUInt32 31)).toInt32) &&& 1431655765)).toUInt32 >>> ((2 : Int32).toUInt32 &&& Int32.toUInt32 31)).toInt32) &&& 858993459)) + (((((x0 - (((x0.toUInt32 >>> ((1 : Int32).toUInt32 &&& Int32.toUInt32 31)).toInt32) &&& 1431655765)) &&& 858993459) + ((((x0 - (((x0.toUInt32 >>> ((1 : Int32).toUInt32 &&& Int32.toUInt32 31)).toInt32) &&& 1431655765)).toUInt32 >>> ((2 : Int32).toUInt32 &&& Int32.toUInt32 31)).toInt32) &&& 858993459)).toUInt32 >>> ((4 : Int32).toUInt32 &&& Int32.toUInt32 31)).toInt32)) &&& 252645135))] dJ6_bitCount_0f7a4_33 rfl (by decide) rfl ?_
  refine xv_iload_n C dJ6_bitCount_0f7a4_34 rfl 0 rfl ?_
  refine xv_iload_n C dJ6_bitCount_0f7a4_35 rfl 0 rfl ?_
  refine xv_bipush C 8 dJ6_bitCount_0f7a4_36 (by decide) ?_
  refine xv_iushr C dJ6_bitCount_0f7a4_38 ?_
  refine xv_iadd C dJ6_bitCount_0f7a4_39 ?_
  refine xv_istore_n C [(0, .int ((((((x0 - (((x0.toUInt32 >>> ((1 : Int32).toUInt32 &&& Int32.toUInt32 31)).toInt32) &&& 1431655765)) &&& 858993459) + ((((x0 - (((x0.toUInt32 >>> ((1 : Int32).toUInt32 &&& Int32.toUInt32 31)).toInt32) &&& 1431655765)).toUInt32 >>> ((2 : Int32).toUInt32 &&& Int32.toUInt32 31)).toInt32) &&& 858993459)) + (((((x0 - (((x0.toUInt32 >>> ((1 : Int32).toUInt32 &&& Int32.toUInt32 31)).toInt32) &&& 1431655765)) &&& 858993459) + ((((x0 - (((x0.toUInt32 >>> ((1 : Int32).toUInt32 &&& Int32.toUInt32 31)).toInt32) &&& 1431655765)).toUInt32 >>> ((2 : Int32).toUInt32 &&& Int32.toUInt32 31)).toInt32) &&& 858993459)).toUInt32 >>> ((4 : Int32).toUInt32 &&& Int32.toUInt32 31)).toInt32)) &&& 252645135) + (((((((x0 - (((x0.toUInt32 >>> ((1 : Int32).toUInt32 &&& Int32.toUInt32 31)).toInt32) &&& 1431655765)) &&& 858993459) + ((((x0 - (((x0.toUInt32 >>> ((1 : Int32).toUInt32 &&& Int32.toUInt32 31)).toInt32) &&& 1431655765)).toUInt32 >>> ((2 : Int32).toUInt32 &&& Int32.toUInt32 31)).toInt32) &&& 858993459)) + (((((x0 - (((x0.toUInt32 >>> ((1 : Int32).toUInt32 &&& Int32.toUInt32 31)).toInt32) &&& 1431655765)) &&& 858993459) + ((((x0 - (((x0.toUInt32 >>> ((1 : Int32).toUInt32 &&& Int32.toUInt32 31)).toInt32) &&& 1431655765)).toUInt32 >>> ((2 : Int32).toUInt32 &&& Int32.toUInt32 31)).toInt32) &&& 858993459)).toUInt32 >>> ((4 : Int32).toUInt32 &&& Int32.toUInt32 31)).toInt32)) &&& 252645135).toUInt32 >>> ((8 : Int32).toUInt32 &&& Int32.toUInt32 31)).toInt32)))] dJ6_bitCount_0f7a4_40 rfl (by decide) rfl ?_
  refine xv_iload_n C dJ6_bitCount_0f7a4_41 rfl 0 rfl ?_
  refine xv_iload_n C dJ6_bitCount_0f7a4_42 rfl 0 rfl ?_
  refine xv_bipush C 16 dJ6_bitCount_0f7a4_43 (by decide) ?_
  refine xv_iushr C dJ6_bitCount_0f7a4_45 ?_
  refine xv_iadd C dJ6_bitCount_0f7a4_46 ?_
  refine xv_istore_n C [(0, .int (((((((x0 - (((x0.toUInt32 >>> ((1 : Int32).toUInt32 &&& Int32.toUInt32 31)).toInt32) &&& 1431655765)) &&& 858993459) + ((((x0 - (((x0.toUInt32 >>> ((1 : Int32).toUInt32 &&& Int32.toUInt32 31)).toInt32) &&& 1431655765)).toUInt32 >>> ((2 : Int32).toUInt32 &&& Int32.toUInt32 31)).toInt32) &&& 858993459)) + (((((x0 - (((x0.toUInt32 >>> ((1 : Int32).toUInt32 &&& Int32.toUInt32 31)).toInt32) &&& 1431655765)) &&& 858993459) + ((((x0 - (((x0.toUInt32 >>> ((1 : Int32).toUInt32 &&& Int32.toUInt32 31)).toInt32) &&& 1431655765)).toUInt32 >>> ((2 : Int32).toUInt32 &&& Int32.toUInt32 31)).toInt32) &&& 858993459)).toUInt32 >>> ((4 : Int32).toUInt32 &&& Int32.toUInt32 31)).toInt32)) &&& 252645135) + (((((((x0 - (((x0.toUInt32 >>> ((1 : Int32).toUInt32 &&& Int32.toUInt32 31)).toInt32) &&& 1431655765)) &&& 858993459) + ((((x0 - (((x0.toUInt32 >>> ((1 : Int32).toUInt32 &&& Int32.toUInt32 31)).toInt32) &&& 1431655765)).toUInt32 >>> ((2 : Int32).toUInt32 &&& Int32.toUInt32 31)).toInt32) &&& 858993459)) + (((((x0 - (((x0.toUInt32 >>> ((1 : Int32).toUInt32 &&& Int32.toUInt32 31)).toInt32) &&& 1431655765)) &&& 858993459) + ((((x0 - (((x0.toUInt32 >>> ((1 : Int32).toUInt32 &&& Int32.toUInt32 31)).toInt32) &&& 1431655765)).toUInt32 >>> ((2 : Int32).toUInt32 &&& Int32.toUInt32 31)).toInt32) &&& 858993459)).toUInt32 >>> ((4 : Int32).toUInt32 &&& Int32.toUInt32 31)).toInt32)) &&& 252645135).toUInt32 >>> ((8 : Int32).toUInt32 &&& Int32.toUInt32 31)).toInt32)) + ((((((((x0 - (((x0.toUInt32 >>> ((1 : Int32).toUInt32 &&& Int32.toUInt32 31)).toInt32) &&& 1431655765)) &&& 858993459) + ((((x0 - (((x0.toUInt32 >>> ((1 : Int32).toUInt32 &&& Int32.toUInt32 31)).toInt32) &&& 1431655765)).toUInt32 >>> ((2 : Int32).toUInt32 &&& Int32.toUInt32 31)).toInt32) &&& 858993459)) + (((((x0 - (((x0.toUInt32 >>> ((1 : Int32).toUInt32 &&& Int32.toUInt32 31)).toInt32) &&& 1431655765)) &&& 858993459) + ((((x0 - (((x0.toUInt32 >>> ((1 : Int32).toUInt32 &&& Int32.toUInt32 31)).toInt32) &&& 1431655765)).toUInt32 >>> ((2 : Int32).toUInt32 &&& Int32.toUInt32 31)).toInt32) &&& 858993459)).toUInt32 >>> ((4 : Int32).toUInt32 &&& Int32.toUInt32 31)).toInt32)) &&& 252645135) + (((((((x0 - (((x0.toUInt32 >>> ((1 : Int32).toUInt32 &&& Int32.toUInt32 31)).toInt32) &&& 1431655765)) &&& 858993459) + ((((x0 - (((x0.toUInt32 >>> ((1 : Int32).toUInt32 &&& Int32.toUInt32 31)).toInt32) &&& 1431655765)).toUInt32 >>> ((2 : Int32).toUInt32 &&& Int32.toUInt32 31)).toInt32) &&& 858993459)) + (((((x0 - (((x0.toUInt32 >>> ((1 : Int32).toUInt32 &&& Int32.toUInt32 31)).toInt32) &&& 1431655765)) &&& 858993459) + ((((x0 - (((x0.toUInt32 >>> ((1 : Int32).toUInt32 &&& Int32.toUInt32 31)).toInt32) &&& 1431655765)).toUInt32 >>> ((2 : Int32).toUInt32 &&& Int32.toUInt32 31)).toInt32) &&& 858993459)).toUInt32 >>> ((4 : Int32).toUInt32 &&& Int32.toUInt32 31)).toInt32)) &&& 252645135).toUInt32 >>> ((8 : Int32).toUInt32 &&& Int32.toUInt32 31)).toInt32)).toUInt32 >>> ((16 : Int32).toUInt32 &&& Int32.toUInt32 31)).toInt32)))] dJ6_bitCount_0f7a4_47 rfl (by decide) rfl ?_
  refine xv_iload_n C dJ6_bitCount_0f7a4_48 rfl 0 rfl ?_
  refine xv_bipush C 63 dJ6_bitCount_0f7a4_49 (by decide) ?_
  refine xv_iand C dJ6_bitCount_0f7a4_51 ?_
  exact xz_ir hret hf dJ6_bitCount_0f7a4_52
set_option maxRecDepth 100000 in
set_option maxHeartbeats 4000000 in
theorem c_X4_lacking (g : GX) (hS : xSide (sX g)) (l : Launch) (x1 : Int32) (x2 : Int32) (a : St) (q : Int32) (hf : f_X4_lacking x1 x2 a = some q) : Met l yX4_lacking wsX4_lacking rm_X4_lacking (xPre (sX g) [.ref (aX g 5), .int x1, .int x2] a) (xPostI (sX g) q a) 0 0 (sX g).2.2.1 := by
  refine xm_i (av := [.ref (aX g 5), .int x1, .int x2]) (cc := cX4_lacking) (maxL := 3) (by decide) rfl (Nat.le_of_ble_eq_true rfl) hS.1 hS.2 (fun K C hret => ?_)
  have C : CC K (sX g) cX4_lacking 3 wsX4_lacking RX4 rm_X4_lacking := C
  have hiX4 : ∀ w ∈ u_ws RX4 TX4 12, w ∈ wsX4_lacking := fun w h => List.mem_cons_of_mem _ (List.mem_append_right _ h)
  rw [f_X4_lacking] at hf
  show V K (sX g) 3 a [(0, .ref (aX g 5)), (1, .int x1), (2, .int x2)] 0 []
  refine xv_aload_n C dX4_lacking_0 rfl 0 rfl ?_
  refine xv_get C hiX4 5 (wX5 g _) rfl 6 (by decide) (List.mem_of_getElem? (i := 1) rfl) rfl dX4_lacking_1 ?_
  refine xv_iload_n C dX4_lacking_4 rfl 2 rfl ?_
  refine xv_iald C 9 0 (wX9 g _) rfl hf dX4_lacking_5 (fun hf => ?_)
  by_cases hs0 : a 9 x2.toNatClampNeg = 0
  · have hf := dt_pos hs0 hf
    refine xv_tin C (off := 30) 36 hs0 dX4_lacking_6 (by decide) (by decide) (by decide) (by decide) ?_
    refine xv_iconst C 0 dX4_lacking_36 (by decide) ?_
    exact xz_ir hret hf dX4_lacking_37
  have hf := dt_neg hs0 hf
  by_cases hs1 : a 9 x2.toNatClampNeg = 1
  · have hf := dt_pos hs1 hf
    refine xv_tin C (off := 86) 92 hs1 dX4_lacking_6 (by decide) (by decide) (by decide) (by decide) ?_
    refine xv_aload_n C dX4_lacking_92 rfl 0 rfl ?_
    refine xv_iload_n C dX4_lacking_93 rfl 1 rfl ?_
    refine xv_iload_n C dX4_lacking_94 rfl 2 rfl ?_
    obtain ⟨q1, hg, hf⟩ := dt_bind hf
    refine xc_i (xr_V C (ci := 4) (As := [.int x1, .int x2]) (fun l => c_X4_missing g hS l x1 x2 a q1 hg) gX4_lacking_X4_missing rfl ⟨rfl, rfl⟩ hdV_X4_missing ⟨Nat.le_of_ble_eq_true rfl, Nat.le_of_ble_eq_true rfl⟩ 5 rfl rfl (wX5 g _) rfl rfl (Nat.le_of_ble_eq_true rfl) dX4_lacking_95) ?_
    obtain ⟨q2, hg, hf⟩ := dt_bind hf
    refine xc_i (xr_S C (As := [.int q1]) (fun l => c_J6_bitCount_0f7a4 (sX g) hS l q1 a q2 hg) gX4_lacking_J6_bitCount_0f7a4 rfl ⟨rfl, rfl⟩ hdS_J6_bitCount_0f7a4 ⟨Nat.le_of_ble_eq_true rfl, Nat.le_of_ble_eq_true rfl⟩ rfl rfl (Nat.le_of_ble_eq_true rfl) dX4_lacking_98) ?_
    exact xz_ir hret hf dX4_lacking_101
  have hf := dt_neg hs1 hf
  by_cases hs2 : a 9 x2.toNatClampNeg = 2
  · have hf := dt_pos hs2 hf
    refine xv_tin C (off := 32) 38 hs2 dX4_lacking_6 (by decide) (by decide) (by decide) (by decide) ?_
    refine xv_aload_n C dX4_lacking_38 rfl 0 rfl ?_
    refine xv_get C hiX4 5 (wX5 g _) rfl 7 (by decide) (List.mem_of_getElem? (i := 2) rfl) rfl dX4_lacking_39 ?_
    refine xv_iload_n C dX4_lacking_42 rfl 2 rfl ?_
    refine xv_iald C 10 0 (wX10 g _) rfl hf dX4_lacking_43 (fun hf => ?_)
    refine xv_if_eq C (y := 0) 66 hf dX4_lacking_44 (by decide) (fun _ hf => ?_) (fun _ hf => ?_)
    · refine xv_iconst C 0 dX4_lacking_66 (by decide) ?_
      exact xz_ir hret hf dX4_lacking_67
    · refine xv_aload_n C dX4_lacking_47 rfl 0 rfl ?_
      refine xv_iload_n C dX4_lacking_48 rfl 1 rfl ?_
      refine xv_iload_n C dX4_lacking_49 rfl 2 rfl ?_
      obtain ⟨q3, hg, hf⟩ := dt_bind hf
      refine xc_i (xr_V C (ci := 4) (As := [.int x1, .int x2]) (fun l => c_X4_missing g hS l x1 x2 a q3 hg) gX4_lacking_X4_missing rfl ⟨rfl, rfl⟩ hdV_X4_missing ⟨Nat.le_of_ble_eq_true rfl, Nat.le_of_ble_eq_true rfl⟩ 5 rfl rfl (wX5 g _) rfl rfl (Nat.le_of_ble_eq_true rfl) dX4_lacking_50) ?_
      refine xv_aload_n C dX4_lacking_53 rfl 0 rfl ?_
      refine xv_get C hiX4 5 (wX5 g _) rfl 7 (by decide) (List.mem_of_getElem? (i := 2) rfl) rfl dX4_lacking_54 ?_
      refine xv_iload_n C dX4_lacking_57 rfl 2 rfl ?_
      refine xv_iald C 10 0 (wX10 g _) rfl hf dX4_lacking_58 (fun hf => ?_)
      refine xv_icmp_ne C 66 hf dX4_lacking_59 (by decide) (fun _ hf => ?_) (fun _ hf => ?_)
      · refine xv_iconst C 1 dX4_lacking_62 (by decide) ?_
        refine xv_goto C 67 dX4_lacking_63 (by decide) ?_
        exact xz_ir hret hf dX4_lacking_67
      · refine xv_iconst C 0 dX4_lacking_66 (by decide) ?_
        exact xz_ir hret hf dX4_lacking_67
  have hf := dt_neg hs2 hf
  by_cases hs3 : a 9 x2.toNatClampNeg = 3
  · have hf := dt_pos hs3 hf
    refine xv_tin C (off := 62) 68 hs3 dX4_lacking_6 (by decide) (by decide) (by decide) (by decide) ?_
    refine xv_aload_n C dX4_lacking_68 rfl 0 rfl ?_
    refine xv_get C hiX4 5 (wX5 g _) rfl 8 (by decide) (List.mem_of_getElem? (i := 3) rfl) rfl dX4_lacking_69 ?_
    refine xv_iload_n C dX4_lacking_72 rfl 2 rfl ?_
    refine xv_iald C 11 0 (wX11 g _) rfl hf dX4_lacking_73 (fun hf => ?_)
    refine xv_iload_n C dX4_lacking_74 rfl 1 rfl ?_
    refine xv_icmp_ne C 82 hf dX4_lacking_75 (by decide) (fun _ hf => ?_) (fun _ hf => ?_)
    · refine xv_iconst C 0 dX4_lacking_78 (by decide) ?_
      refine xv_goto C 91 dX4_lacking_79 (by decide) ?_
      exact xz_ir hret hf dX4_lacking_91
    · refine xv_aload_n C dX4_lacking_82 rfl 0 rfl ?_
      refine xv_iload_n C dX4_lacking_83 rfl 1 rfl ?_
      refine xv_iload_n C dX4_lacking_84 rfl 2 rfl ?_
      obtain ⟨q4, hg, hf⟩ := dt_bind hf
      refine xc_i (xr_V C (ci := 4) (As := [.int x1, .int x2]) (fun l => c_X4_missing g hS l x1 x2 a q4 hg) gX4_lacking_X4_missing rfl ⟨rfl, rfl⟩ hdV_X4_missing ⟨Nat.le_of_ble_eq_true rfl, Nat.le_of_ble_eq_true rfl⟩ 5 rfl rfl (wX5 g _) rfl rfl (Nat.le_of_ble_eq_true rfl) dX4_lacking_85) ?_
      obtain ⟨q5, hg, hf⟩ := dt_bind hf
      refine xc_i (xr_S C (As := [.int q4]) (fun l => c_J6_bitCount_0f7a4 (sX g) hS l q4 a q5 hg) gX4_lacking_J6_bitCount_0f7a4 rfl ⟨rfl, rfl⟩ hdS_J6_bitCount_0f7a4 ⟨Nat.le_of_ble_eq_true rfl, Nat.le_of_ble_eq_true rfl⟩ rfl rfl (Nat.le_of_ble_eq_true rfl) dX4_lacking_88) ?_
      exact xz_ir hret hf dX4_lacking_91
  have hf := dt_neg hs3 hf
  have e0 := lv_neT (a := 0) hs0 (by decide)
  have e1 := lv_neT (a := 1) hs1 (by decide)
  have e2 := lv_neT (a := 2) hs2 (by decide)
  have e3 := lv_neT (a := 3) hs3 (by decide)
  refine xv_tout C 92 dX4_lacking_6 (by omega) (by decide) ?_
  refine xv_aload_n C dX4_lacking_92 rfl 0 rfl ?_
  refine xv_iload_n C dX4_lacking_93 rfl 1 rfl ?_
  refine xv_iload_n C dX4_lacking_94 rfl 2 rfl ?_
  obtain ⟨q6, hg, hf⟩ := dt_bind hf
  refine xc_i (xr_V C (ci := 4) (As := [.int x1, .int x2]) (fun l => c_X4_missing g hS l x1 x2 a q6 hg) gX4_lacking_X4_missing rfl ⟨rfl, rfl⟩ hdV_X4_missing ⟨Nat.le_of_ble_eq_true rfl, Nat.le_of_ble_eq_true rfl⟩ 5 rfl rfl (wX5 g _) rfl rfl (Nat.le_of_ble_eq_true rfl) dX4_lacking_95) ?_
  obtain ⟨q7, hg, hf⟩ := dt_bind hf
  refine xc_i (xr_S C (As := [.int q6]) (fun l => c_J6_bitCount_0f7a4 (sX g) hS l q6 a q7 hg) gX4_lacking_J6_bitCount_0f7a4 rfl ⟨rfl, rfl⟩ hdS_J6_bitCount_0f7a4 ⟨Nat.le_of_ble_eq_true rfl, Nat.le_of_ble_eq_true rfl⟩ rfl rfl (Nat.le_of_ble_eq_true rfl) dX4_lacking_98) ?_
  exact xz_ir hret hf dX4_lacking_101
set_option maxRecDepth 100000 in
set_option maxHeartbeats 4000000 in
theorem c_X5_lack (g : GX) (hS : xSide (sX g)) (l : Launch) (n : Nat) (x1 : Int32) (x2 : Int32) (x3 : Int32) (a : St) (q : Int32) (hf : f_X5_lack n x1 x2 x3 a = some q) : Met l yX5_lack wsX5_lack rm_X5_lack (xPre (sX g) [.ref (aX g 0), .int x1, .int x2, .int x3] a) (xPostI (sX g) q a) 0 0 (sX g).2.2.1 := by
  refine xm_i (av := [.ref (aX g 0), .int x1, .int x2, .int x3]) (cc := cX5_lack) (maxL := 9) (by decide) rfl (Nat.le_of_ble_eq_true rfl) hS.1 hS.2 (fun K C hret => ?_)
  have C : CC K (sX g) cX5_lack 9 wsX5_lack RX5 rm_X5_lack := C
  have hiX4 : ∀ w ∈ u_ws RX4 TX4 12, w ∈ wsX5_lack := fun w h => List.mem_cons_of_mem _ (List.mem_append_right _ h)
  have hiX5 : ∀ w ∈ u_ws RX5 TX5 13, w ∈ wsX5_lack := fun w h => List.mem_cons_of_mem _ (List.mem_append_left _ (List.mem_append_right _ h))
  have hL29 : ∀ (x2 : Int32) (x3 : Int32)  (j : Nat) (x5 : Int32) (x6 : Int32) (x7 : Int32) (x8 : Int32), L_X5_lack_29 n x2 x3 a j x5 x6 x7 x8 = some q → V K (sX g) 9 a [(0, .ref (aX g 0)), (2, .int x2), (3, .int x3), (5, .int x5), (6, .int x6), (7, .int x7), (8, .int x8)] 29 [] := by
    intro x2 x3 j
    induction j with
    | zero =>
      intro x5 x6 x7 x8 hf
      have hf : (none : Option Int32) = some q := hf
      cases hf
    | succ j ih =>
      intro x5 x6 x7 x8 hf
      rw [L_X5_lack_29] at hf
      refine xv_iload C dX5_lack_29 6 rfl ?_
      refine xv_iload_n C dX5_lack_31 rfl 2 rfl ?_
      refine xv_icmp_gt C 95 hf dX5_lack_32 (by decide) (fun _ hf => ?_) (fun _ hf => ?_)
      · refine xv_iload C dX5_lack_95 5 rfl ?_
        exact xz_ir hret hf dX5_lack_97
      · refine xv_iload C dX5_lack_35 3 rfl ?_
        refine xv_iconst C (-1) dX5_lack_37 (by decide) ?_
        refine xv_icmp_ne C 43 hf dX5_lack_38 (by decide) (fun _ hf => ?_) (fun _ hf => ?_)
        · refine xv_iconst C (-1) dX5_lack_41 (by decide) ?_
          exact xz_ir hret hf dX5_lack_42
        · refine xv_iload C dX5_lack_43 4 rfl ?_
          refine xv_iload C dX5_lack_45 3 rfl ?_
          obtain ⟨q2, hg, hf⟩ := dt_bind hf
          refine xc_i (xr_S C (As := [.int x6, .int x5]) (fun l => c_X5_has (sX g) hS l x6 x5 a q2 hg) gX5_lack_X5_has rfl ⟨rfl, rfl⟩ hdS_X5_has ⟨Nat.le_of_ble_eq_true rfl, Nat.le_of_ble_eq_true rfl⟩ rfl rfl (Nat.le_of_ble_eq_true rfl) dX5_lack_47) ?_
          refine xv_if_ne C (y := 0) 68 hf dX5_lack_50 (by decide) (fun _ hf => ?_) (fun _ hf => ?_)
          · refine xv_iload C dX5_lack_53 5 rfl ?_
            refine xv_aload_n C dX5_lack_55 rfl 0 rfl ?_
            refine xv_get C hiX5 0 (wX0 g _) rfl 1 (by decide) (List.mem_of_getElem? (i := 1) rfl) rfl dX5_lack_56 ?_
            refine xv_iload C dX5_lack_59 3 rfl ?_
            refine xv_iload_n C dX5_lack_61 rfl 1 rfl ?_
            obtain ⟨q3, hg, hf⟩ := dt_bind hf
            refine xc_i (xr_VN C (ci := 4) (As := [.int x5, .int x2]) (fun l => c_X4_lacking g hS l x5 x2 a q3 hg) gX5_lack_X4_lacking_n194 rfl ⟨rfl, rfl⟩ (fun U H h => h.1 _ (List.mem_of_getElem? (i := 54) rfl)) (List.mem_of_getElem? (i := 8) rfl) (List.mem_of_getElem? (i := 22) rfl) (List.mem_of_getElem? (i := 23) rfl) hdN_X4_lacking ⟨Nat.le_of_ble_eq_true rfl, Nat.le_of_ble_eq_true rfl⟩ 5 rfl rfl (wX5 g _) rfl rfl (Nat.le_of_ble_eq_true rfl) dX5_lack_62) ?_
            refine xv_iadd C dX5_lack_65 ?_
            refine xv_istore C [(7, .int (x7 + q3)), (0, .ref (aX g 0)), (2, .int x2), (3, .int x3), (5, .int x5), (6, .int x6), (8, .int x8)] dX5_lack_66 (by decide) rfl ?_
            refine xv_iload C dX5_lack_68 5 rfl ?_
            refine xv_iconst C 1 dX5_lack_70 (by decide) ?_
            refine xv_iload C dX5_lack_71 4 rfl ?_
            refine xv_ishl C dX5_lack_73 ?_
            refine xv_ior C dX5_lack_74 ?_
            refine xv_istore C [(6, .int (x6 ||| ((1 : Int32) <<< (x5 &&& 31)))), (7, .int (x7 + q3)), (0, .ref (aX g 0)), (2, .int x2), (3, .int x3), (5, .int x5), (8, .int x8)] dX5_lack_75 (by decide) rfl ?_
            refine xv_aload_n C dX5_lack_77 rfl 2 rfl ?_
            refine xv_get C hiX5 0 (wX0 g _) rfl 1 (by decide) (List.mem_of_getElem? (i := 1) rfl) rfl dX5_lack_78 ?_
            refine xv_getN C hiX4 5 (wX5 g _) rfl 3 (by decide) (fun U H h => h.1 _ (List.mem_of_getElem? (i := 8) rfl)) rfl dX5_lack_81 ?_
            refine xv_iload C dX5_lack_84 5 rfl ?_
            refine xv_iald C 6 0 (wX6 g _) rfl hf dX5_lack_86 (fun hf => ?_)
            refine xv_istore C [(5, .int (a 6 x5.toNatClampNeg)), (6, .int (x6 ||| ((1 : Int32) <<< (x5 &&& 31)))), (7, .int (x7 + q3)), (0, .ref (aX g 0)), (2, .int x2), (3, .int x3), (8, .int x8)] dX5_lack_87 (by decide) rfl ?_
            refine xv_iinc C [(8, .int (x8 + 1)), (5, .int (a 6 x5.toNatClampNeg)), (6, .int (x6 ||| ((1 : Int32) <<< (x5 &&& 31)))), (7, .int (x7 + q3)), (0, .ref (aX g 0)), (2, .int x2), (3, .int x3)] dX5_lack_89 6 rfl rfl (by decide) rfl ?_
            refine xv_goto C 29 dX5_lack_92 (by decide) ?_
            refine xv_eq [4, 5, 6, 1, 2, 3, 0] rfl ?_
            exact ih (a 6 x5.toNatClampNeg) (x6 ||| ((1 : Int32) <<< (x5 &&& 31))) (x7 + q3) (x8 + 1) hf
          · refine xv_iload C dX5_lack_68 4 rfl ?_
            refine xv_iconst C 1 dX5_lack_70 (by decide) ?_
            refine xv_iload C dX5_lack_71 3 rfl ?_
            refine xv_ishl C dX5_lack_73 ?_
            refine xv_ior C dX5_lack_74 ?_
            refine xv_istore C [(6, .int (x6 ||| ((1 : Int32) <<< (x5 &&& 31)))), (0, .ref (aX g 0)), (2, .int x2), (3, .int x3), (5, .int x5), (7, .int x7), (8, .int x8)] dX5_lack_75 (by decide) rfl ?_
            refine xv_aload_n C dX5_lack_77 rfl 1 rfl ?_
            refine xv_get C hiX5 0 (wX0 g _) rfl 1 (by decide) (List.mem_of_getElem? (i := 1) rfl) rfl dX5_lack_78 ?_
            refine xv_getN C hiX4 5 (wX5 g _) rfl 3 (by decide) (fun U H h => h.1 _ (List.mem_of_getElem? (i := 8) rfl)) rfl dX5_lack_81 ?_
            refine xv_iload C dX5_lack_84 4 rfl ?_
            refine xv_iald C 6 0 (wX6 g _) rfl hf dX5_lack_86 (fun hf => ?_)
            refine xv_istore C [(5, .int (a 6 x5.toNatClampNeg)), (6, .int (x6 ||| ((1 : Int32) <<< (x5 &&& 31)))), (0, .ref (aX g 0)), (2, .int x2), (3, .int x3), (7, .int x7), (8, .int x8)] dX5_lack_87 (by decide) rfl ?_
            refine xv_iinc C [(8, .int (x8 + 1)), (5, .int (a 6 x5.toNatClampNeg)), (6, .int (x6 ||| ((1 : Int32) <<< (x5 &&& 31)))), (0, .ref (aX g 0)), (2, .int x2), (3, .int x3), (7, .int x7)] dX5_lack_89 6 rfl rfl (by decide) rfl ?_
            refine xv_goto C 29 dX5_lack_92 (by decide) ?_
            refine xv_eq [3, 4, 5, 1, 2, 6, 0] rfl ?_
            exact ih (a 6 x5.toNatClampNeg) (x6 ||| ((1 : Int32) <<< (x5 &&& 31))) x7 (x8 + 1) hf
  rw [f_X5_lack] at hf
  show V K (sX g) 9 a [(0, .ref (aX g 0)), (1, .int x1), (2, .int x2), (3, .int x3)] 0 []
  refine xv_aload_n C dX5_lack_0 rfl 0 rfl ?_
  refine xv_iload_n C dX5_lack_1 rfl 1 rfl ?_
  refine xv_iload_n C dX5_lack_2 rfl 2 rfl ?_
  refine xv_iload_n C dX5_lack_3 rfl 3 rfl ?_
  obtain ⟨q1, hg, hf⟩ := dt_bind hf
  refine xc_i (xr_V C (ci := 5) (As := [.int x1, .int x2, .int x3]) (fun l => c_X5_refusalOf g hS l x1 x2 x3 a q1 hg) gX5_lack_X5_refusalOf rfl ⟨rfl, rfl⟩ hdV_X5_refusalOf ⟨Nat.le_of_ble_eq_true rfl, Nat.le_of_ble_eq_true rfl⟩ 0 rfl rfl (wX0 g _) rfl rfl (Nat.le_of_ble_eq_true rfl) dX5_lack_4) ?_
  refine xv_istore C [(4, .int q1), (0, .ref (aX g 0)), (1, .int x1), (2, .int x2), (3, .int x3)] dX5_lack_7 (by decide) rfl ?_
  refine xv_iload C dX5_lack_9 0 rfl ?_
  refine xv_if_eq C (y := 0) 17 hf dX5_lack_11 (by decide) (fun _ hf => ?_) (fun _ hf => ?_)
  · refine xv_iload_n C dX5_lack_17 rfl 2 rfl ?_
    refine xv_istore C [(5, .int x1), (4, .int q1), (0, .ref (aX g 0)), (1, .int x1), (2, .int x2), (3, .int x3)] dX5_lack_18 (by decide) rfl ?_
    refine xv_iconst C 0 dX5_lack_20 (by decide) ?_
    refine xv_istore C [(6, .int 0), (5, .int x1), (4, .int q1), (0, .ref (aX g 0)), (1, .int x1), (2, .int x2), (3, .int x3)] dX5_lack_21 (by decide) rfl ?_
    refine xv_iconst C 0 dX5_lack_23 (by decide) ?_
    refine xv_istore C [(7, .int 0), (6, .int 0), (5, .int x1), (4, .int q1), (0, .ref (aX g 0)), (1, .int x1), (2, .int x2), (3, .int x3)] dX5_lack_24 (by decide) rfl ?_
    refine xv_iconst C 0 dX5_lack_26 (by decide) ?_
    refine xv_istore C [(8, .int 0), (7, .int 0), (6, .int 0), (5, .int x1), (4, .int q1), (0, .ref (aX g 0)), (1, .int x1), (2, .int x2), (3, .int x3)] dX5_lack_27 (by decide) rfl ?_
    refine xv_eq [5, 7, 8, 3, 2, 1, 0] rfl ?_
    exact hL29 x2 x3 n x1 0 0 0 hf
  · refine xv_iload C dX5_lack_14 0 rfl ?_
    exact xz_ir hret hf dX5_lack_16
set_option maxRecDepth 100000 in
set_option maxHeartbeats 4000000 in
theorem c_X3_add__25 (g : GX) (hS : xSide (sX g)) (l : Launch) (x1 : Int32) (x2 : Int32) (x3 : Int32) (a : St) (q : (Int32 × St)) (hf : f_X3_add 25 x1 x2 x3 a = some q) : Met l yX3_add wsX3_add rm_X3_add (xPre (sX g) [.ref (aX g 25), .int x1, .int x2, .int x3] a) (xPostI (sX g) q.1 q.2) 0 0 (sX g).2.2.1 := by
  refine xm_i (av := [.ref (aX g 25), .int x1, .int x2, .int x3]) (cc := cX3_add) (maxL := 4) (by decide) rfl (Nat.le_of_ble_eq_true rfl) hS.1 hS.2 (fun K C hret => ?_)
  have C : CC K (sX g) cX3_add 4 wsX3_add RX3 rm_X3_add := C
  have hiX3 : ∀ w ∈ u_ws RX3 TX3 4, w ∈ wsX3_add := fun w h => List.mem_cons_of_mem _ (List.mem_append_right _ h)
  rw [f_X3_add] at hf
  show V K (sX g) 4 a [(0, .ref (aX g 25)), (1, .int x1), (2, .int x2), (3, .int x3)] 0 []
  refine xv_aload_n C dX3_add_0 rfl 0 rfl ?_
  refine xv_get C hiX3 25 (wX25 g _) rfl 3 (by decide) (List.mem_of_getElem? (i := 1) rfl) rfl dX3_add_1 ?_
  refine xv_bipush C 8 dX3_add_4 (by decide) ?_
  refine xv_icmp_lt C 12 hf dX3_add_6 (by decide) (fun _ hf => ?_) (fun _ hf => ?_)
  · refine xv_aload_n C dX3_add_12 rfl 0 rfl ?_
    refine xv_get C hiX3 25 (wX25 g _) rfl 0 (by decide) (List.mem_of_getElem? (i := 2) rfl) rfl dX3_add_13 ?_
    refine xv_aload_n C dX3_add_16 rfl 0 rfl ?_
    refine xv_get C hiX3 25 (wX25 g _) rfl 3 (by decide) (List.mem_of_getElem? (i := 1) rfl) rfl dX3_add_17 ?_
    refine xv_iload_n C dX3_add_20 rfl 1 rfl ?_
    refine xv_iast C 26 0 (wX26 g _) rfl (up a 26 ((a 25 3).toNatClampNeg) x1) (pX26 g _ _ _) hf dX3_add_21 (fun hf => ?_)
    refine xv_aload_n C dX3_add_22 rfl 0 rfl ?_
    refine xv_get C hiX3 25 (wX25 g _) rfl 1 (by decide) (List.mem_of_getElem? (i := 3) rfl) rfl dX3_add_23 ?_
    refine xv_aload_n C dX3_add_26 rfl 0 rfl ?_
    refine xv_get C hiX3 25 (wX25 g _) rfl 3 (by decide) (List.mem_of_getElem? (i := 1) rfl) rfl dX3_add_27 ?_
    refine xv_iload_n C dX3_add_30 rfl 2 rfl ?_
    refine xv_iast C 27 0 (wX27 g _) rfl (up (up a 26 ((a 25 3).toNatClampNeg) x1) 27 (((up a 26 ((a 25 3).toNatClampNeg) x1) 25 3).toNatClampNeg) x2) (pX27 g _ _ _) hf dX3_add_31 (fun hf => ?_)
    refine xv_aload_n C dX3_add_32 rfl 0 rfl ?_
    refine xv_get C hiX3 25 (wX25 g _) rfl 2 (by decide) (List.mem_of_getElem? (i := 4) rfl) rfl dX3_add_33 ?_
    refine xv_aload_n C dX3_add_36 rfl 0 rfl ?_
    refine xv_get C hiX3 25 (wX25 g _) rfl 3 (by decide) (List.mem_of_getElem? (i := 1) rfl) rfl dX3_add_37 ?_
    refine xv_iload_n C dX3_add_40 rfl 3 rfl ?_
    refine xv_iast C 28 0 (wX28 g _) rfl (up (up (up a 26 ((a 25 3).toNatClampNeg) x1) 27 (((up a 26 ((a 25 3).toNatClampNeg) x1) 25 3).toNatClampNeg) x2) 28 (((up (up a 26 ((a 25 3).toNatClampNeg) x1) 27 (((up a 26 ((a 25 3).toNatClampNeg) x1) 25 3).toNatClampNeg) x2) 25 3).toNatClampNeg) x3) (pX28 g _ _ _) hf dX3_add_41 (fun hf => ?_)
    refine xv_aload_n C dX3_add_42 rfl 0 rfl ?_
    refine xv_dup C dX3_add_43 rfl ?_
    refine xv_get C hiX3 25 (wX25 g _) rfl 3 (by decide) (List.mem_of_getElem? (i := 1) rfl) rfl dX3_add_44 ?_
    refine xv_iconst C 1 dX3_add_47 (by decide) ?_
    refine xv_iadd C dX3_add_48 ?_
    refine xv_put C hiX3 tyX3 tyX3_ok nmX3 25 (wX25 g _) rfl 3 (by decide) (List.mem_of_getElem? (i := 1) rfl) rfl (tyX3_ok 3 (by decide)) rfl rfl (Nat.le_of_ble_eq_true rfl) (up (up (up (up a 26 ((a 25 3).toNatClampNeg) x1) 27 (((up a 26 ((a 25 3).toNatClampNeg) x1) 25 3).toNatClampNeg) x2) 28 (((up (up a 26 ((a 25 3).toNatClampNeg) x1) 27 (((up a 26 ((a 25 3).toNatClampNeg) x1) 25 3).toNatClampNeg) x2) 25 3).toNatClampNeg) x3) 25 3 (((up (up (up a 26 ((a 25 3).toNatClampNeg) x1) 27 (((up a 26 ((a 25 3).toNatClampNeg) x1) 25 3).toNatClampNeg) x2) 28 (((up (up a 26 ((a 25 3).toNatClampNeg) x1) 27 (((up a 26 ((a 25 3).toNatClampNeg) x1) 25 3).toNatClampNeg) x2) 25 3).toNatClampNeg) x3) 25 3) + 1)) (pX25_3 g _ _) dX3_add_49 ?_
    refine xv_aload_n C dX3_add_52 rfl 0 rfl ?_
    refine xv_get C hiX3 25 (wX25 g _) rfl 3 (by decide) (List.mem_of_getElem? (i := 1) rfl) rfl dX3_add_53 ?_
    exact xz_iw hret hf dX3_add_56
  · refine xv_bipush C (-5) dX3_add_9 (by decide) ?_
    exact xz_iw hret hf dX3_add_11
set_option maxRecDepth 100000 in
set_option maxHeartbeats 4000000 in
theorem c_X5_wish (g : GX) (hS : xSide (sX g)) (l : Launch) (x1 : Int32) (x2 : Int32) (x3 : Int32) (a : St) (q : (Int32 × St)) (hf : f_X5_wish x1 x2 x3 a = some q) : Met l yX5_wish wsX5_wish rm_X5_wish (xPre (sX g) [.ref (aX g 0), .int x1, .int x2, .int x3] a) (xPostI (sX g) q.1 q.2) 0 0 (sX g).2.2.1 := by
  refine xm_i (av := [.ref (aX g 0), .int x1, .int x2, .int x3]) (cc := cX5_wish) (maxL := 5) (by decide) rfl (Nat.le_of_ble_eq_true rfl) hS.1 hS.2 (fun K C hret => ?_)
  have C : CC K (sX g) cX5_wish 5 wsX5_wish RX5 rm_X5_wish := C
  have hiX5 : ∀ w ∈ u_ws RX5 TX5 13, w ∈ wsX5_wish := fun w h => List.mem_cons_of_mem _ (List.mem_append_left _ (List.mem_append_left _ (List.mem_append_right _ h)))
  rw [f_X5_wish] at hf
  show V K (sX g) 5 a [(0, .ref (aX g 0)), (1, .int x1), (2, .int x2), (3, .int x3)] 0 []
  refine xv_aload_n C dX5_wish_0 rfl 0 rfl ?_
  refine xv_iload_n C dX5_wish_1 rfl 1 rfl ?_
  refine xv_iload_n C dX5_wish_2 rfl 2 rfl ?_
  refine xv_iload_n C dX5_wish_3 rfl 3 rfl ?_
  obtain ⟨q1, hg, hf⟩ := dt_bind hf
  refine xc_i (xr_V C (ci := 5) (As := [.int x1, .int x2, .int x3]) (fun l => c_X5_refusalOf g hS l x1 x2 x3 a q1 hg) gX5_wish_X5_refusalOf rfl ⟨rfl, rfl⟩ hdV_X5_refusalOf ⟨Nat.le_of_ble_eq_true rfl, Nat.le_of_ble_eq_true rfl⟩ 0 rfl rfl (wX0 g _) rfl rfl (Nat.le_of_ble_eq_true rfl) dX5_wish_4) ?_
  refine xv_istore C [(4, .int q1), (0, .ref (aX g 0)), (1, .int x1), (2, .int x2), (3, .int x3)] dX5_wish_7 (by decide) rfl ?_
  refine xv_iload C dX5_wish_9 0 rfl ?_
  refine xv_if_eq C (y := 0) 19 hf dX5_wish_11 (by decide) (fun _ hf => ?_) (fun _ hf => ?_)
  · refine xv_aload_n C dX5_wish_19 rfl 1 rfl ?_
    refine xv_get C hiX5 0 (wX0 g _) rfl 4 (by decide) (List.mem_of_getElem? (i := 1) rfl) rfl dX5_wish_20 ?_
    refine xv_iload_n C dX5_wish_23 rfl 2 rfl ?_
    refine xv_iload_n C dX5_wish_24 rfl 3 rfl ?_
    refine xv_iload_n C dX5_wish_25 rfl 4 rfl ?_
    obtain ⟨q2, hg, hf⟩ := dt_bind hf
    refine xc_i (xr_VN C (ci := 3) (As := [.int x1, .int x2, .int x3]) (fun l => c_X3_add__25 g hS l x1 x2 x3 a q2 hg) gX5_wish_X3_add_n197 rfl ⟨rfl, rfl⟩ (fun U H h => h.1 _ (List.mem_of_getElem? (i := 55) rfl)) (List.mem_of_getElem? (i := 21) rfl) (List.mem_of_getElem? (i := 20) rfl) (List.mem_of_getElem? (i := 22) rfl) hdN_X3_add ⟨Nat.le_of_ble_eq_true rfl, Nat.le_of_ble_eq_true rfl⟩ 25 rfl rfl (wX25 g _) rfl rfl (Nat.le_of_ble_eq_true rfl) dX5_wish_26) ?_
    exact xz_iw hret hf dX5_wish_29
  · refine xv_iload C dX5_wish_14 0 rfl ?_
    refine xv_goto C 29 dX5_wish_16 (by decide) ?_
    exact xz_iw hret hf dX5_wish_29
set_option maxRecDepth 100000 in
set_option maxHeartbeats 4000000 in
theorem c_X5_drop (g : GX) (hS : xSide (sX g)) (l : Launch) (a : St) (q : (Int32 × St)) (hf : f_X5_drop a = some q) : Met l yX5_drop wsX5_drop rm_X5_drop (xPre (sX g) [.ref (aX g 0)] a) (xPostI (sX g) q.1 q.2) 0 0 (sX g).2.2.1 := by
  refine xm_i (av := [.ref (aX g 0)]) (cc := cX5_drop) (maxL := 1) (by decide) rfl (Nat.le_of_ble_eq_true rfl) hS.1 hS.2 (fun K C hret => ?_)
  have C : CC K (sX g) cX5_drop 1 wsX5_drop RX5 rm_X5_drop := C
  have hiX5 : ∀ w ∈ u_ws RX5 TX5 13, w ∈ wsX5_drop := fun w h => List.mem_cons_of_mem _ (List.mem_append_left _ (List.mem_append_right _ h))
  rw [f_X5_drop] at hf
  show V K (sX g) 1 a [(0, .ref (aX g 0))] 0 []
  refine xv_aload_n C dX5_drop_0 rfl 0 rfl ?_
  refine xv_get C hiX5 0 (wX0 g _) rfl 4 (by decide) (List.mem_of_getElem? (i := 1) rfl) rfl dX5_drop_1 ?_
  obtain ⟨q1, hg, hf⟩ := dt_bind hf
  refine xc_i (xr_VN C (ci := 3) (As := []) (fun l => c_X3_clear__25 g hS l a q1 hg) gX5_drop_X3_clear_n107 rfl ⟨rfl, rfl⟩ (fun U H h => h.1 _ (List.mem_of_getElem? (i := 44) rfl)) (List.mem_of_getElem? (i := 3) rfl) (List.mem_of_getElem? (i := 2) rfl) (List.mem_of_getElem? (i := 4) rfl) hdN_X3_clear ⟨Nat.le_of_ble_eq_true rfl, Nat.le_of_ble_eq_true rfl⟩ 25 rfl rfl (wX25 g _) rfl rfl (Nat.le_of_ble_eq_true rfl) dX5_drop_4) ?_
  exact xz_iw hret hf dX5_drop_7
set_option maxRecDepth 100000 in
set_option maxHeartbeats 4000000 in
theorem c_X5_narrow (g : GX) (hS : xSide (sX g)) (l : Launch) (n : Nat) (x1 : Int32) (x2 : Int32) (x3 : Int32) (a : St) (q : St) (hf : f_X5_narrow n x1 x2 x3 a = some q) : Met l yX5_narrow wsX5_narrow rm_X5_narrow (xPre (sX g) [.ref (aX g 0), .int x1, .int x2, .int x3] a) (xPostV (sX g) q) 0 0 (sX g).2.2.1 := by
  refine xm_v (av := [.ref (aX g 0), .int x1, .int x2, .int x3]) (cc := cX5_narrow) (maxL := 6) (by decide) rfl (Nat.le_of_ble_eq_true rfl) hS.1 hS.2 (fun K C hret => ?_)
  have C : CC K (sX g) cX5_narrow 6 wsX5_narrow RX5 rm_X5_narrow := C
  have hiX5 : ∀ w ∈ u_ws RX5 TX5 13, w ∈ wsX5_narrow := fun w h => List.mem_cons_of_mem _ (List.mem_append_left _ (List.mem_append_right _ h))
  rw [f_X5_narrow] at hf
  show V K (sX g) 6 a [(0, .ref (aX g 0)), (1, .int x1), (2, .int x2), (3, .int x3)] 0 []
  refine xv_aload_n C dX5_narrow_0 rfl 0 rfl ?_
  refine xv_get C hiX5 0 (wX0 g _) rfl 1 (by decide) (List.mem_of_getElem? (i := 1) rfl) rfl dX5_narrow_1 ?_
  refine xv_iload_n C dX5_narrow_4 rfl 1 rfl ?_
  refine xv_iload_n C dX5_narrow_5 rfl 3 rfl ?_
  obtain ⟨q1, hg, hf⟩ := dt_bind hf
  refine xc_i (xr_VN C (ci := 4) (As := [.int x1, .int x3]) (fun l => c_X4_wayEnd g hS l n x1 x3 a q1 hg) gX5_narrow_X4_wayEnd_n191 rfl ⟨rfl, rfl⟩ (fun U H h => h.1 _ (List.mem_of_getElem? (i := 53) rfl)) (List.mem_of_getElem? (i := 4) rfl) (List.mem_of_getElem? (i := 3) rfl) (List.mem_of_getElem? (i := 5) rfl) hdN_X4_wayEnd ⟨Nat.le_of_ble_eq_true rfl, Nat.le_of_ble_eq_true rfl⟩ 5 rfl rfl (wX5 g _) rfl rfl (Nat.le_of_ble_eq_true rfl) dX5_narrow_6) ?_
  refine xv_istore C [(4, .int q1), (0, .ref (aX g 0)), (1, .int x1), (2, .int x2), (3, .int x3)] dX5_narrow_9 (by decide) rfl ?_
  refine xv_iload C dX5_narrow_11 0 rfl ?_
  refine xv_iconst C (-1) dX5_narrow_13 (by decide) ?_
  refine xv_icmp_ne C 30 hf dX5_narrow_14 (by decide) (fun _ hf => ?_) (fun _ hf => ?_)
  · refine xv_iload_n C dX5_narrow_17 rfl 3 rfl ?_
    refine xv_iconst C (-1) dX5_narrow_18 (by decide) ?_
    refine xv_icmp_eq C 29 hf dX5_narrow_19 (by decide) (fun _ hf => ?_) (fun _ hf => ?_)
    · exact xz_v hret hf dX5_narrow_29
    · refine xv_aload_n C dX5_narrow_22 rfl 1 rfl ?_
      refine xv_get C hiX5 0 (wX0 g _) rfl 8 (by decide) (List.mem_of_getElem? (i := 2) rfl) rfl dX5_narrow_23 ?_
      refine xv_iload_n C dX5_narrow_26 rfl 2 rfl ?_
      refine xv_iconst C 0 dX5_narrow_27 (by decide) ?_
      refine xv_iast C 35 0 (wX35 g _) rfl (up a 35 x1.toNatClampNeg 0) (pX35 g _ _ _) hf dX5_narrow_28 (fun hf => ?_)
      exact xz_v hret hf dX5_narrow_29
  · refine xv_aload_n C dX5_narrow_30 rfl 1 rfl ?_
    refine xv_get C hiX5 0 (wX0 g _) rfl 1 (by decide) (List.mem_of_getElem? (i := 1) rfl) rfl dX5_narrow_31 ?_
    refine xv_iload_n C dX5_narrow_34 rfl 2 rfl ?_
    refine xv_iload_n C dX5_narrow_35 rfl 4 rfl ?_
    obtain ⟨q2, hg, hf⟩ := dt_bind hf
    refine xc_i (xr_VN C (ci := 4) (As := [.int x1, .int x3]) (fun l => c_X4_passing g hS l n x1 x3 a q2 hg) gX5_narrow_X4_passing_n188 rfl ⟨rfl, rfl⟩ (fun U H h => h.1 _ (List.mem_of_getElem? (i := 52) rfl)) (List.mem_of_getElem? (i := 4) rfl) (List.mem_of_getElem? (i := 8) rfl) (List.mem_of_getElem? (i := 9) rfl) hdN_X4_passing ⟨Nat.le_of_ble_eq_true rfl, Nat.le_of_ble_eq_true rfl⟩ 5 rfl rfl (wX5 g _) rfl rfl (Nat.le_of_ble_eq_true rfl) dX5_narrow_36) ?_
    refine xv_istore C [(5, .int q2), (4, .int q1), (0, .ref (aX g 0)), (1, .int x1), (2, .int x2), (3, .int x3)] dX5_narrow_39 (by decide) rfl ?_
    refine xv_aload_n C dX5_narrow_41 rfl 2 rfl ?_
    refine xv_get C hiX5 0 (wX0 g _) rfl 8 (by decide) (List.mem_of_getElem? (i := 2) rfl) rfl dX5_narrow_42 ?_
    refine xv_iload C dX5_narrow_45 1 rfl ?_
    refine xv_dup2 C dX5_narrow_47 rfl rfl ?_
    refine xv_iald C 35 0 (wX35 g _) rfl hf dX5_narrow_48 (fun hf => ?_)
    refine xv_iload_n C dX5_narrow_49 rfl 4 rfl ?_
    refine xv_iconst C (-1) dX5_narrow_50 (by decide) ?_
    refine xv_icmp_ne C 61 hf dX5_narrow_51 (by decide) (fun _ hf => ?_) (fun _ hf => ?_)
    · refine xv_iload C dX5_narrow_54 0 rfl ?_
      refine xv_iconst C (-1) dX5_narrow_56 (by decide) ?_
      refine xv_ixor C dX5_narrow_57 ?_
      refine xv_goto C 67 dX5_narrow_58 (by decide) ?_
      refine xv_iand C dX5_narrow_67 ?_
      refine xv_iast C 35 0 (wX35 g _) rfl (up a 35 q1.toNatClampNeg ((a 35 q1.toNatClampNeg) &&& (q2 ^^^ (-1)))) (pX35 g _ _ _) hf dX5_narrow_68 (fun hf => ?_)
      exact xz_v hret hf dX5_narrow_69
    · refine xv_iload C dX5_narrow_61 0 rfl ?_
      refine xv_iconst C 1 dX5_narrow_63 (by decide) ?_
      refine xv_iload_n C dX5_narrow_64 rfl 4 rfl ?_
      refine xv_ishl C dX5_narrow_65 ?_
      refine xv_iand C dX5_narrow_66 ?_
      refine xv_iand C dX5_narrow_67 ?_
      refine xv_iast C 35 0 (wX35 g _) rfl (up a 35 q1.toNatClampNeg ((a 35 q1.toNatClampNeg) &&& (q2 &&& ((1 : Int32) <<< (x2 &&& 31))))) (pX35 g _ _ _) hf dX5_narrow_68 (fun hf => ?_)
      exact xz_v hret hf dX5_narrow_69
set_option maxRecDepth 100000 in
set_option maxHeartbeats 4000000 in
theorem c_X5_rowsThatFit__25 (g : GX) (hS : xSide (sX g)) (l : Launch) (n : Nat) (a : St) (q : (Int32 × St)) (hf : f_X5_rowsThatFit n 25 a = some q) : Met l yX5_rowsThatFit wsX5_rowsThatFit rm_X5_rowsThatFit (xPre (sX g) [.ref (aX g 0), .ref (aX g 25)] a) (xPostI (sX g) q.1 q.2) 0 0 (sX g).2.2.1 := by
  refine xm_i (av := [.ref (aX g 0), .ref (aX g 25)]) (cc := cX5_rowsThatFit) (maxL := 4) (by decide) rfl (Nat.le_of_ble_eq_true rfl) hS.1 hS.2 (fun K C hret => ?_)
  have C : CC K (sX g) cX5_rowsThatFit 4 wsX5_rowsThatFit RX5 rm_X5_rowsThatFit := C
  have hiX3 : ∀ w ∈ u_ws RX3 TX3 4, w ∈ wsX5_rowsThatFit := fun w h => List.mem_cons_of_mem _ (List.mem_append_right _ h)
  have hiX4 : ∀ w ∈ u_ws RX4 TX4 12, w ∈ wsX5_rowsThatFit := fun w h => List.mem_cons_of_mem _ (List.mem_append_left _ (List.mem_append_right _ h))
  have hiX5 : ∀ w ∈ u_ws RX5 TX5 13, w ∈ wsX5_rowsThatFit := fun w h => List.mem_cons_of_mem _ (List.mem_append_left _ (List.mem_append_left _ (List.mem_append_right _ h)))
  have hL78 : ∀  (j : Nat) (x2 : Int32) (x3 : Int32) (a : St), L_X5_rowsThatFit_78 n 25 j x2 x3 a = some q → V K (sX g) 4 a [(0, .ref (aX g 0)), (2, .int x2), (3, .int x3)] 78 [] := by
    intro j
    induction j with
    | zero =>
      intro x2 x3 a hf
      have hf : (none : Option (Int32 × St)) = some q := hf
      cases hf
    | succ j ih =>
      intro x2 x3 a hf
      rw [L_X5_rowsThatFit_78] at hf
      refine xv_iload_n C dX5_rowsThatFit_78 rfl 2 rfl ?_
      refine xv_aload_n C dX5_rowsThatFit_79 rfl 0 rfl ?_
      refine xv_get C hiX5 0 (wX0 g _) rfl 1 (by decide) (List.mem_of_getElem? (i := 1) rfl) rfl dX5_rowsThatFit_80 ?_
      refine xv_getN C hiX4 5 (wX5 g _) rfl 0 (by decide) (fun U H h => h.1 _ (List.mem_of_getElem? (i := 5) rfl)) rfl dX5_rowsThatFit_83 ?_
      refine xv_icmp_ge C 107 hf dX5_rowsThatFit_86 (by decide) (fun _ hf => ?_) (fun _ hf => ?_)
      · refine xv_iload_n C dX5_rowsThatFit_107 rfl 1 rfl ?_
        exact xz_iw hret hf dX5_rowsThatFit_108
      · refine xv_iload_n C dX5_rowsThatFit_89 rfl 1 rfl ?_
        refine xv_aload_n C dX5_rowsThatFit_90 rfl 0 rfl ?_
        refine xv_get C hiX5 0 (wX0 g _) rfl 8 (by decide) (List.mem_of_getElem? (i := 2) rfl) rfl dX5_rowsThatFit_91 ?_
        refine xv_iload_n C dX5_rowsThatFit_94 rfl 2 rfl ?_
        refine xv_iald C 35 0 (wX35 g _) rfl hf dX5_rowsThatFit_95 (fun hf => ?_)
        obtain ⟨q1, hg, hf⟩ := dt_bind hf
        refine xc_i (xr_S C (As := [.int (a 35 x3.toNatClampNeg)]) (fun l => c_J6_bitCount_0f7a4 (sX g) hS l (a 35 x3.toNatClampNeg) a q1 hg) gX5_rowsThatFit_J6_bitCount_0f7a4 rfl ⟨rfl, rfl⟩ hdS_J6_bitCount_0f7a4 ⟨Nat.le_of_ble_eq_true rfl, Nat.le_of_ble_eq_true rfl⟩ rfl rfl (Nat.le_of_ble_eq_true rfl) dX5_rowsThatFit_96) ?_
        refine xv_imul C dX5_rowsThatFit_99 ?_
        refine xv_istore_n C [(2, .int (x2 * q1)), (0, .ref (aX g 0)), (3, .int x3)] dX5_rowsThatFit_100 rfl (by decide) rfl ?_
        refine xv_iinc C [(3, .int (x3 + 1)), (2, .int (x2 * q1)), (0, .ref (aX g 0))] dX5_rowsThatFit_101 2 rfl rfl (by decide) rfl ?_
        refine xv_goto C 78 dX5_rowsThatFit_104 (by decide) ?_
        refine xv_eq [2, 1, 0] rfl ?_
        exact ih (x2 * q1) (x3 + 1) a hf
  have hB74 : ∀  (a : St), B_X5_rowsThatFit_74 n 25 a = some q → V K (sX g) 4 a [(0, .ref (aX g 0))] 74 [] := by
    intro a hf
    rw [B_X5_rowsThatFit_74] at hf
    refine xv_iconst C 1 dX5_rowsThatFit_74 (by decide) ?_
    refine xv_istore_n C [(2, .int 1), (0, .ref (aX g 0))] dX5_rowsThatFit_75 rfl (by decide) rfl ?_
    refine xv_iconst C 0 dX5_rowsThatFit_76 (by decide) ?_
    refine xv_istore_n C [(3, .int 0), (2, .int 1), (0, .ref (aX g 0))] dX5_rowsThatFit_77 rfl (by decide) rfl ?_
    refine xv_eq [2, 1, 0] rfl ?_
    exact hL78 n 1 0 a hf
  have hL38 : ∀  (j : Nat) (x2 : Int32) (a : St), L_X5_rowsThatFit_38 n 25 j x2 a = some q → V K (sX g) 4 a [(0, .ref (aX g 0)), (1, .ref (aX g 25)), (2, .int x2)] 38 [] := by
    intro j
    induction j with
    | zero =>
      intro x2 a hf
      have hf : (none : Option (Int32 × St)) = some q := hf
      cases hf
    | succ j ih =>
      intro x2 a hf
      rw [L_X5_rowsThatFit_38] at hf
      refine xv_iload_n C dX5_rowsThatFit_38 rfl 2 rfl ?_
      refine xv_aload_n C dX5_rowsThatFit_39 rfl 1 rfl ?_
      refine xv_getN C hiX3 25 (wX25 g _) rfl 3 (by decide) (fun U H h => h.1 _ (List.mem_of_getElem? (i := 28) rfl)) rfl dX5_rowsThatFit_40 ?_
      refine xv_icmp_ge C 74 hf dX5_rowsThatFit_43 (by decide) (fun _ hf => ?_) (fun _ hf => ?_)
      · refine xv_eq [0] rfl ?_
        exact hB74 a hf
      · refine xv_aload_n C dX5_rowsThatFit_46 rfl 0 rfl ?_
        refine xv_aload_n C dX5_rowsThatFit_47 rfl 1 rfl ?_
        refine xv_getN C hiX3 25 (wX25 g _) rfl 0 (by decide) (fun U H h => h.1 _ (List.mem_of_getElem? (i := 25) rfl)) rfl dX5_rowsThatFit_48 ?_
        refine xv_iload_n C dX5_rowsThatFit_51 rfl 2 rfl ?_
        refine xv_iald C 26 0 (wX26 g _) rfl hf dX5_rowsThatFit_52 (fun hf => ?_)
        refine xv_aload_n C dX5_rowsThatFit_53 rfl 1 rfl ?_
        refine xv_getN C hiX3 25 (wX25 g _) rfl 1 (by decide) (fun U H h => h.1 _ (List.mem_of_getElem? (i := 26) rfl)) rfl dX5_rowsThatFit_54 ?_
        refine xv_iload_n C dX5_rowsThatFit_57 rfl 2 rfl ?_
        refine xv_iald C 27 0 (wX27 g _) rfl hf dX5_rowsThatFit_58 (fun hf => ?_)
        refine xv_aload_n C dX5_rowsThatFit_59 rfl 1 rfl ?_
        refine xv_getN C hiX3 25 (wX25 g _) rfl 2 (by decide) (fun U H h => h.1 _ (List.mem_of_getElem? (i := 27) rfl)) rfl dX5_rowsThatFit_60 ?_
        refine xv_iload_n C dX5_rowsThatFit_63 rfl 2 rfl ?_
        refine xv_iald C 28 0 (wX28 g _) rfl hf dX5_rowsThatFit_64 (fun hf => ?_)
        obtain ⟨q2, hg, hf⟩ := dt_bind hf
        refine xc_v (xr_V C (ci := 5) (As := [.int (a 26 x2.toNatClampNeg), .int (a 27 x2.toNatClampNeg), .int (a 28 x2.toNatClampNeg)]) (fun l => c_X5_narrow g hS l n (a 26 x2.toNatClampNeg) (a 27 x2.toNatClampNeg) (a 28 x2.toNatClampNeg) a q2 hg) gX5_rowsThatFit_X5_narrow rfl ⟨rfl, rfl⟩ hdV_X5_narrow ⟨Nat.le_of_ble_eq_true rfl, Nat.le_of_ble_eq_true rfl⟩ 0 rfl rfl (wX0 g _) rfl rfl (Nat.le_of_ble_eq_true rfl) dX5_rowsThatFit_65) ?_
        refine xv_iinc C [(2, .int (x2 + 1)), (0, .ref (aX g 0)), (1, .ref (aX g 25))] dX5_rowsThatFit_68 2 rfl rfl (by decide) rfl ?_
        refine xv_goto C 38 dX5_rowsThatFit_71 (by decide) ?_
        refine xv_eq [1, 2, 0] rfl ?_
        exact ih (x2 + 1) q2 hf
  have hB36 : ∀  (a : St), B_X5_rowsThatFit_36 n 25 a = some q → V K (sX g) 4 a [(0, .ref (aX g 0)), (1, .ref (aX g 25))] 36 [] := by
    intro a hf
    rw [B_X5_rowsThatFit_36] at hf
    refine xv_iconst C 0 dX5_rowsThatFit_36 (by decide) ?_
    refine xv_istore_n C [(2, .int 0), (0, .ref (aX g 0)), (1, .ref (aX g 25))] dX5_rowsThatFit_37 rfl (by decide) rfl ?_
    refine xv_eq [1, 2, 0] rfl ?_
    exact hL38 n 0 a hf
  have hL2 : ∀  (j : Nat) (x2 : Int32) (a : St), L_X5_rowsThatFit_2 n 25 j x2 a = some q → V K (sX g) 4 a [(0, .ref (aX g 0)), (1, .ref (aX g 25)), (2, .int x2)] 2 [] := by
    intro j
    induction j with
    | zero =>
      intro x2 a hf
      have hf : (none : Option (Int32 × St)) = some q := hf
      cases hf
    | succ j ih =>
      intro x2 a hf
      rw [L_X5_rowsThatFit_2] at hf
      refine xv_iload_n C dX5_rowsThatFit_2 rfl 2 rfl ?_
      refine xv_aload_n C dX5_rowsThatFit_3 rfl 0 rfl ?_
      refine xv_get C hiX5 0 (wX0 g _) rfl 1 (by decide) (List.mem_of_getElem? (i := 1) rfl) rfl dX5_rowsThatFit_4 ?_
      refine xv_getN C hiX4 5 (wX5 g _) rfl 0 (by decide) (fun U H h => h.1 _ (List.mem_of_getElem? (i := 5) rfl)) rfl dX5_rowsThatFit_7 ?_
      refine xv_icmp_ge C 36 hf dX5_rowsThatFit_10 (by decide) (fun _ hf => ?_) (fun _ hf => ?_)
      · refine xv_eq [0, 1] rfl ?_
        exact hB36 a hf
      · refine xv_aload_n C dX5_rowsThatFit_13 rfl 0 rfl ?_
        refine xv_get C hiX5 0 (wX0 g _) rfl 8 (by decide) (List.mem_of_getElem? (i := 2) rfl) rfl dX5_rowsThatFit_14 ?_
        refine xv_iload_n C dX5_rowsThatFit_17 rfl 2 rfl ?_
        refine xv_aload_n C dX5_rowsThatFit_18 rfl 0 rfl ?_
        refine xv_get C hiX5 0 (wX0 g _) rfl 1 (by decide) (List.mem_of_getElem? (i := 1) rfl) rfl dX5_rowsThatFit_19 ?_
        refine xv_iload_n C dX5_rowsThatFit_22 rfl 2 rfl ?_
        obtain ⟨q3, hg, hf⟩ := dt_bind hf
        refine xc_i (xr_VN C (ci := 4) (As := [.int x2]) (fun l => c_X4_abilities g hS l n x2 a q3 hg) gX5_rowsThatFit_X4_abilities_n282 rfl ⟨rfl, rfl⟩ (fun U H h => h.1 _ (List.mem_of_getElem? (i := 56) rfl)) (List.mem_of_getElem? (i := 4) rfl) (List.mem_of_getElem? (i := 3) rfl) (List.mem_of_getElem? (i := 5) rfl) hdN_X4_abilities ⟨Nat.le_of_ble_eq_true rfl, Nat.le_of_ble_eq_true rfl⟩ 5 rfl rfl (wX5 g _) rfl rfl (Nat.le_of_ble_eq_true rfl) dX5_rowsThatFit_23) ?_
        refine xv_bipush C 64 dX5_rowsThatFit_26 (by decide) ?_
        refine xv_ior C dX5_rowsThatFit_28 ?_
        refine xv_iast C 35 0 (wX35 g _) rfl (up a 35 x2.toNatClampNeg (q3 ||| 64)) (pX35 g _ _ _) hf dX5_rowsThatFit_29 (fun hf => ?_)
        refine xv_iinc C [(2, .int (x2 + 1)), (0, .ref (aX g 0)), (1, .ref (aX g 25))] dX5_rowsThatFit_30 2 rfl rfl (by decide) rfl ?_
        refine xv_goto C 2 dX5_rowsThatFit_33 (by decide) ?_
        refine xv_eq [1, 2, 0] rfl ?_
        exact ih (x2 + 1) (up a 35 x2.toNatClampNeg (q3 ||| 64)) hf
  rw [f_X5_rowsThatFit] at hf
  show V K (sX g) 4 a [(0, .ref (aX g 0)), (1, .ref (aX g 25))] 0 []
  refine xv_iconst C 0 dX5_rowsThatFit_0 (by decide) ?_
  refine xv_istore_n C [(2, .int 0), (0, .ref (aX g 0)), (1, .ref (aX g 25))] dX5_rowsThatFit_1 rfl (by decide) rfl ?_
  refine xv_eq [1, 2, 0] rfl ?_
  exact hL2 n 0 a hf
set_option maxRecDepth 100000 in
set_option maxHeartbeats 4000000 in
theorem c_X5_ways (g : GX) (hS : xSide (sX g)) (l : Launch) (n : Nat) (a : St) (q : (Int32 × St)) (hf : f_X5_ways n a = some q) : Met l yX5_ways wsX5_ways rm_X5_ways (xPre (sX g) [.ref (aX g 0)] a) (xPostI (sX g) q.1 q.2) 0 0 (sX g).2.2.1 := by
  refine xm_i (av := [.ref (aX g 0)]) (cc := cX5_ways) (maxL := 1) (by decide) rfl (Nat.le_of_ble_eq_true rfl) hS.1 hS.2 (fun K C hret => ?_)
  have C : CC K (sX g) cX5_ways 1 wsX5_ways RX5 rm_X5_ways := C
  have hiX5 : ∀ w ∈ u_ws RX5 TX5 13, w ∈ wsX5_ways := fun w h => List.mem_cons_of_mem _ (List.mem_append_left _ (List.mem_append_left _ (List.mem_append_right _ h)))
  rw [f_X5_ways] at hf
  show V K (sX g) 1 a [(0, .ref (aX g 0))] 0 []
  refine xv_aload_n C dX5_ways_0 rfl 0 rfl ?_
  refine xv_aload_n C dX5_ways_1 rfl 0 rfl ?_
  refine xv_get C hiX5 0 (wX0 g _) rfl 4 (by decide) (List.mem_of_getElem? (i := 1) rfl) rfl dX5_ways_2 ?_
  obtain ⟨q1, hg, hf⟩ := dt_bind hf
  refine xc_i (xr_V C (ci := 5) (As := [.ref (aX g 25)]) (fun l => c_X5_rowsThatFit__25 g hS l n a q1 hg) gX5_ways_X5_rowsThatFit rfl ⟨rfl, rfl⟩ hdV_X5_rowsThatFit ⟨Nat.le_of_ble_eq_true rfl, Nat.le_of_ble_eq_true rfl⟩ 0 rfl rfl (wX0 g _) rfl rfl (Nat.le_of_ble_eq_true rfl) dX5_ways_5) ?_
  exact xz_iw hret hf dX5_ways_8
set_option maxRecDepth 100000 in
set_option maxHeartbeats 4000000 in
theorem c_X1_clear__38 (g : GX) (hS : xSide (sX g)) (l : Launch) (n : Nat) (a : St) (q : St) (hf : f_X1_clear n 38 a = some q) : Met l yX1_clear wsX1_clear rm_X1_clear (xPre (sX g) [.ref (aX g 38)] a) (xPostV (sX g) q) 0 0 (sX g).2.2.1 := by
  refine xm_v (av := [.ref (aX g 38)]) (cc := cX1_clear) (maxL := 2) (by decide) rfl (Nat.le_of_ble_eq_true rfl) hS.1 hS.2 (fun K C hret => ?_)
  have C : CC K (sX g) cX1_clear 2 wsX1_clear RX1 rm_X1_clear := C
  have hiX1 : ∀ w ∈ u_ws RX1 TX1 2, w ∈ wsX1_clear := fun w h => List.mem_cons_of_mem _ (List.mem_append_right _ h)
  have hL2 : ∀  (j : Nat) (x1 : Int32) (a : St), L_X1_clear_2 n 38 j x1 a = some q → V K (sX g) 2 a [(0, .ref (aX g 38)), (1, .int x1)] 2 [] := by
    intro j
    induction j with
    | zero =>
      intro x1 a hf
      have hf : (none : Option St) = some q := hf
      cases hf
    | succ j ih =>
      intro x1 a hf
      rw [L_X1_clear_2] at hf
      refine xv_iload_n C dX1_clear_2 rfl 1 rfl ?_
      refine xv_bipush C 6 dX1_clear_3 (by decide) ?_
      refine xv_icmp_ge C 28 hf dX1_clear_5 (by decide) (fun _ hf => ?_) (fun _ hf => ?_)
      · exact xz_v hret hf dX1_clear_28
      · refine xv_aload_n C dX1_clear_8 rfl 0 rfl ?_
        refine xv_get C hiX1 38 (wX38 g _) rfl 0 (by decide) (List.mem_of_getElem? (i := 1) rfl) rfl dX1_clear_9 ?_
        refine xv_iload_n C dX1_clear_12 rfl 1 rfl ?_
        refine xv_iconst C 0 dX1_clear_13 (by decide) ?_
        refine xv_iast C 39 0 (wX39 g _) rfl (up a 39 x1.toNatClampNeg 0) (pX39 g _ _ _) hf dX1_clear_14 (fun hf => ?_)
        refine xv_aload_n C dX1_clear_15 rfl 0 rfl ?_
        refine xv_get C hiX1 38 (wX38 g _) rfl 1 (by decide) (List.mem_of_getElem? (i := 2) rfl) rfl dX1_clear_16 ?_
        refine xv_iload_n C dX1_clear_19 rfl 1 rfl ?_
        refine xv_iconst C 0 dX1_clear_20 (by decide) ?_
        refine xv_iast C 40 0 (wX40 g _) rfl (up (up a 39 x1.toNatClampNeg 0) 40 x1.toNatClampNeg 0) (pX40 g _ _ _) hf dX1_clear_21 (fun hf => ?_)
        refine xv_iinc C [(1, .int (x1 + 1)), (0, .ref (aX g 38))] dX1_clear_22 1 rfl rfl (by decide) rfl ?_
        refine xv_goto C 2 dX1_clear_25 (by decide) ?_
        refine xv_eq [1, 0] rfl ?_
        exact ih (x1 + 1) (up (up a 39 x1.toNatClampNeg 0) 40 x1.toNatClampNeg 0) hf
  rw [f_X1_clear] at hf
  show V K (sX g) 2 a [(0, .ref (aX g 38))] 0 []
  refine xv_iconst C 0 dX1_clear_0 (by decide) ?_
  refine xv_istore_n C [(1, .int 0), (0, .ref (aX g 38))] dX1_clear_1 rfl (by decide) rfl ?_
  refine xv_eq [1, 0] rfl ?_
  exact hL2 n 0 a hf
set_option maxRecDepth 100000 in
set_option maxHeartbeats 4000000 in
theorem c_X1_note__38 (g : GX) (hS : xSide (sX g)) (l : Launch) (x2 : Int32) (x3 : Int32) (a : St) (q : St) (hf : f_X1_note 38 x2 x3 a = some q) : Met l yX1_note wsX1_note rm_X1_note (xPre (sX g) [.ref (aX g 38), .ref (aX g 5), .int x2, .int x3] a) (xPostV (sX g) q) 0 0 (sX g).2.2.1 := by
  refine xm_v (av := [.ref (aX g 38), .ref (aX g 5), .int x2, .int x3]) (cc := cX1_note) (maxL := 4) (by decide) rfl (Nat.le_of_ble_eq_true rfl) hS.1 hS.2 (fun K C hret => ?_)
  have C : CC K (sX g) cX1_note 4 wsX1_note RX1 rm_X1_note := C
  have hiX1 : ∀ w ∈ u_ws RX1 TX1 2, w ∈ wsX1_note := fun w h => List.mem_cons_of_mem _ (List.mem_append_left _ (List.mem_append_right _ h))
  have hiX4 : ∀ w ∈ u_ws RX4 TX4 12, w ∈ wsX1_note := fun w h => List.mem_cons_of_mem _ (List.mem_append_right _ h)
  rw [f_X1_note] at hf
  show V K (sX g) 4 a [(0, .ref (aX g 38)), (1, .ref (aX g 5)), (2, .int x2), (3, .int x3)] 0 []
  refine xv_aload_n C dX1_note_0 rfl 0 rfl ?_
  refine xv_get C hiX1 38 (wX38 g _) rfl 0 (by decide) (List.mem_of_getElem? (i := 1) rfl) rfl dX1_note_1 ?_
  refine xv_iload_n C dX1_note_4 rfl 3 rfl ?_
  refine xv_dup2 C dX1_note_5 rfl rfl ?_
  refine xv_iald C 39 0 (wX39 g _) rfl hf dX1_note_6 (fun hf => ?_)
  refine xv_aload_n C dX1_note_7 rfl 1 rfl ?_
  refine xv_getN C hiX4 5 (wX5 g _) rfl 9 (by decide) (fun U H h => h.1 _ (List.mem_of_getElem? (i := 15) rfl)) rfl dX1_note_8 ?_
  refine xv_iload_n C dX1_note_11 rfl 3 rfl ?_
  refine xv_iald C 12 0 (wX12 g _) rfl hf dX1_note_12 (fun hf => ?_)
  refine xv_iadd C dX1_note_13 ?_
  refine xv_iast C 39 0 (wX39 g _) rfl (up a 39 x3.toNatClampNeg ((a 39 x3.toNatClampNeg) + (a 12 x3.toNatClampNeg))) (pX39 g _ _ _) hf dX1_note_14 (fun hf => ?_)
  refine xv_aload_n C dX1_note_15 rfl 1 rfl ?_
  refine xv_getN C hiX4 5 (wX5 g _) rfl 8 (by decide) (fun U H h => h.1 _ (List.mem_of_getElem? (i := 13) rfl)) rfl dX1_note_16 ?_
  refine xv_iload_n C dX1_note_19 rfl 3 rfl ?_
  refine xv_iald C 11 0 (wX11 g _) rfl hf dX1_note_20 (fun hf => ?_)
  refine xv_iload_n C dX1_note_21 rfl 2 rfl ?_
  refine xv_icmp_eq C 40 hf dX1_note_22 (by decide) (fun _ hf => ?_) (fun _ hf => ?_)
  · exact xz_v hret hf dX1_note_40
  · refine xv_aload_n C dX1_note_25 rfl 0 rfl ?_
    refine xv_get C hiX1 38 (wX38 g _) rfl 1 (by decide) (List.mem_of_getElem? (i := 2) rfl) rfl dX1_note_26 ?_
    refine xv_iload_n C dX1_note_29 rfl 3 rfl ?_
    refine xv_dup2 C dX1_note_30 rfl rfl ?_
    refine xv_iald C 40 0 (wX40 g _) rfl hf dX1_note_31 (fun hf => ?_)
    refine xv_aload_n C dX1_note_32 rfl 1 rfl ?_
    refine xv_getN C hiX4 5 (wX5 g _) rfl 10 (by decide) (fun U H h => h.1 _ (List.mem_of_getElem? (i := 17) rfl)) rfl dX1_note_33 ?_
    refine xv_iload_n C dX1_note_36 rfl 3 rfl ?_
    refine xv_iald C 13 0 (wX13 g _) rfl hf dX1_note_37 (fun hf => ?_)
    refine xv_iadd C dX1_note_38 ?_
    refine xv_iast C 40 0 (wX40 g _) rfl (up (up a 39 x3.toNatClampNeg ((a 39 x3.toNatClampNeg) + (a 12 x3.toNatClampNeg))) 40 x3.toNatClampNeg (((up a 39 x3.toNatClampNeg ((a 39 x3.toNatClampNeg) + (a 12 x3.toNatClampNeg))) 40 x3.toNatClampNeg) + ((up a 39 x3.toNatClampNeg ((a 39 x3.toNatClampNeg) + (a 12 x3.toNatClampNeg))) 13 x3.toNatClampNeg))) (pX40 g _ _ _) hf dX1_note_39 (fun hf => ?_)
    exact xz_v hret hf dX1_note_40
set_option maxRecDepth 100000 in
set_option maxHeartbeats 4000000 in
theorem c_X5_tally__38 (g : GX) (hS : xSide (sX g)) (l : Launch) (n : Nat) (x2 : Int32) (x3 : Int32) (a : St) (q : St) (hf : f_X5_tally n 38 x2 x3 a = some q) : Met l yX5_tally wsX5_tally rm_X5_tally (xPre (sX g) [.ref (aX g 0), .ref (aX g 38), .int x2, .int x3] a) (xPostV (sX g) q) 0 0 (sX g).2.2.1 := by
  refine xm_v (av := [.ref (aX g 0), .ref (aX g 38), .int x2, .int x3]) (cc := cX5_tally) (maxL := 6) (by decide) rfl (Nat.le_of_ble_eq_true rfl) hS.1 hS.2 (fun K C hret => ?_)
  have C : CC K (sX g) cX5_tally 6 wsX5_tally RX5 rm_X5_tally := C
  have hiX4 : ∀ w ∈ u_ws RX4 TX4 12, w ∈ wsX5_tally := fun w h => List.mem_cons_of_mem _ (List.mem_append_left _ (List.mem_append_left _ (List.mem_append_right _ h)))
  have hiX5 : ∀ w ∈ u_ws RX5 TX5 13, w ∈ wsX5_tally := fun w h => List.mem_cons_of_mem _ (List.mem_append_left _ (List.mem_append_left _ (List.mem_append_left _ (List.mem_append_right _ h))))
  have hB67 : ∀ (x2 : Int32) (x3 : Int32) (x4 : Int32) (k12 : Int32 → St → Option St) (hk12 : ∀ (y4 : Int32) (b : St), k12 y4 b = some q → V K (sX g) 6 b [(0, .ref (aX g 0)), (1, .ref (aX g 38)), (2, .int x2), (3, .int x3), (4, .int y4)] 12 []) (a : St), B_X5_tally_67 n 38 k12 x2 x3 x4 a = some q → V K (sX g) 6 a [(0, .ref (aX g 0)), (1, .ref (aX g 38)), (2, .int x2), (3, .int x3), (4, .int x4)] 67 [] := by
    intro x2 x3 x4 k12 hk12 a hf
    rw [B_X5_tally_67] at hf
    refine xv_aload_n C dX5_tally_67 rfl 0 rfl ?_
    refine xv_get C hiX5 0 (wX0 g _) rfl 1 (by decide) (List.mem_of_getElem? (i := 1) rfl) rfl dX5_tally_68 ?_
    refine xv_aload_n C dX5_tally_71 rfl 0 rfl ?_
    refine xv_get C hiX5 0 (wX0 g _) rfl 6 (by decide) (List.mem_of_getElem? (i := 2) rfl) rfl dX5_tally_72 ?_
    refine xv_iload_n C dX5_tally_75 rfl 3 rfl ?_
    obtain ⟨q3, hg, hf⟩ := dt_bind hf
    refine xc_v (xr_VN C (ci := 4) (As := [.ref (aX g 33), .int x3]) (fun l => c_X4_passDay__33 g hS l n x3 a q3 hg) gX5_tally_X4_passDay_n174 rfl ⟨rfl, rfl⟩ (fun U H h => h.1 _ (List.mem_of_getElem? (i := 51) rfl)) (List.mem_of_getElem? (i := 20) rfl) (List.mem_of_getElem? (i := 19) rfl) (List.mem_of_getElem? (i := 21) rfl) hdN_X4_passDay ⟨Nat.le_of_ble_eq_true rfl, Nat.le_of_ble_eq_true rfl⟩ 5 rfl rfl (wX5 g _) rfl rfl (Nat.le_of_ble_eq_true rfl) dX5_tally_76) ?_
    refine xv_iinc C [(4, .int (x4 + 1)), (0, .ref (aX g 0)), (1, .ref (aX g 38)), (2, .int x2), (3, .int x3)] dX5_tally_79 4 rfl rfl (by decide) rfl ?_
    refine xv_goto C 12 dX5_tally_82 (by decide) ?_
    refine xv_eq [1, 2, 3, 4, 0] rfl ?_
    exact hk12 (x4 + 1) q3 hf
  have hL21 : ∀ (x2 : Int32) (x3 : Int32) (x4 : Int32) (k12 : Int32 → St → Option St) (hk12 : ∀ (y4 : Int32) (b : St), k12 y4 b = some q → V K (sX g) 6 b [(0, .ref (aX g 0)), (1, .ref (aX g 38)), (2, .int x2), (3, .int x3), (4, .int y4)] 12 []) (j : Nat) (x5 : Int32) (a : St), L_X5_tally_21 n 38 k12 x2 x3 x4 j x5 a = some q → V K (sX g) 6 a [(0, .ref (aX g 0)), (1, .ref (aX g 38)), (2, .int x2), (3, .int x3), (4, .int x4), (5, .int x5)] 21 [] := by
    intro x2 x3 x4 k12 hk12 j
    induction j with
    | zero =>
      intro x5 a hf
      have hf : (none : Option St) = some q := hf
      cases hf
    | succ j ih =>
      intro x5 a hf
      rw [L_X5_tally_21] at hf
      refine xv_iload C dX5_tally_21 5 rfl ?_
      refine xv_aload_n C dX5_tally_23 rfl 0 rfl ?_
      refine xv_get C hiX5 0 (wX0 g _) rfl 1 (by decide) (List.mem_of_getElem? (i := 1) rfl) rfl dX5_tally_24 ?_
      refine xv_getN C hiX4 5 (wX5 g _) rfl 0 (by decide) (fun U H h => h.1 _ (List.mem_of_getElem? (i := 5) rfl)) rfl dX5_tally_27 ?_
      refine xv_icmp_ge C 67 hf dX5_tally_30 (by decide) (fun _ hf => ?_) (fun _ hf => ?_)
      · refine xv_eq [0, 1, 2, 3, 4] rfl ?_
        exact hB67 x2 x3 x4 k12 hk12 a hf
      · refine xv_aload_n C dX5_tally_33 rfl 0 rfl ?_
        refine xv_get C hiX5 0 (wX0 g _) rfl 6 (by decide) (List.mem_of_getElem? (i := 2) rfl) rfl dX5_tally_34 ?_
        refine xv_iload C dX5_tally_37 5 rfl ?_
        refine xv_iald C 33 0 (wX33 g _) rfl hf dX5_tally_39 (fun hf => ?_)
        refine xv_iconst C (-1) dX5_tally_40 (by decide) ?_
        refine xv_icmp_eq C 61 hf dX5_tally_41 (by decide) (fun _ hf => ?_) (fun _ hf => ?_)
        · refine xv_iinc C [(5, .int (x5 + 1)), (0, .ref (aX g 0)), (1, .ref (aX g 38)), (2, .int x2), (3, .int x3), (4, .int x4)] dX5_tally_61 5 rfl rfl (by decide) rfl ?_
          refine xv_goto C 21 dX5_tally_64 (by decide) ?_
          refine xv_eq [1, 2, 3, 4, 5, 0] rfl ?_
          exact ih (x5 + 1) a hf
        · refine xv_aload_n C dX5_tally_44 rfl 1 rfl ?_
          refine xv_aload_n C dX5_tally_45 rfl 0 rfl ?_
          refine xv_get C hiX5 0 (wX0 g _) rfl 1 (by decide) (List.mem_of_getElem? (i := 1) rfl) rfl dX5_tally_46 ?_
          refine xv_iload C dX5_tally_49 5 rfl ?_
          refine xv_aload_n C dX5_tally_51 rfl 0 rfl ?_
          refine xv_get C hiX5 0 (wX0 g _) rfl 6 (by decide) (List.mem_of_getElem? (i := 2) rfl) rfl dX5_tally_52 ?_
          refine xv_iload C dX5_tally_55 5 rfl ?_
          refine xv_iald C 33 0 (wX33 g _) rfl hf dX5_tally_57 (fun hf => ?_)
          obtain ⟨q4, hg, hf⟩ := dt_bind hf
          refine xc_v (xr_VN C (ci := 1) (As := [.ref (aX g 5), .int x5, .int (a 33 x5.toNatClampNeg)]) (fun l => c_X1_note__38 g hS l x5 (a 33 x5.toNatClampNeg) a q4 hg) gX5_tally_X1_note_n278 rfl ⟨rfl, rfl⟩ (fun U H h => h.1 _ (List.mem_of_getElem? (i := 58) rfl)) (List.mem_of_getElem? (i := 4) rfl) (List.mem_of_getElem? (i := 45) rfl) (List.mem_of_getElem? (i := 46) rfl) hdN_X1_note ⟨Nat.le_of_ble_eq_true rfl, Nat.le_of_ble_eq_true rfl⟩ 38 rfl rfl (wX38 g _) rfl rfl (Nat.le_of_ble_eq_true rfl) dX5_tally_58) ?_
          refine xv_iinc C [(5, .int (x5 + 1)), (0, .ref (aX g 0)), (1, .ref (aX g 38)), (2, .int x2), (3, .int x3), (4, .int x4)] dX5_tally_61 5 rfl rfl (by decide) rfl ?_
          refine xv_goto C 21 dX5_tally_64 (by decide) ?_
          refine xv_eq [1, 2, 3, 4, 5, 0] rfl ?_
          exact ih (x5 + 1) q4 hf
  have hL12 : ∀ (x2 : Int32) (x3 : Int32)  (j : Nat) (x4 : Int32) (a : St), L_X5_tally_12 n 38 x2 x3 j x4 a = some q → V K (sX g) 6 a [(0, .ref (aX g 0)), (1, .ref (aX g 38)), (2, .int x2), (3, .int x3), (4, .int x4)] 12 [] := by
    intro x2 x3 j
    induction j with
    | zero =>
      intro x4 a hf
      have hf : (none : Option St) = some q := hf
      cases hf
    | succ j ih =>
      intro x4 a hf
      rw [L_X5_tally_12] at hf
      refine xv_iload C dX5_tally_12 4 rfl ?_
      refine xv_iload_n C dX5_tally_14 rfl 2 rfl ?_
      refine xv_icmp_ge C 85 hf dX5_tally_15 (by decide) (fun _ hf => ?_) (fun _ hf => ?_)
      · exact xz_v hret hf dX5_tally_85
      · refine xv_iconst C 0 dX5_tally_18 (by decide) ?_
        refine xv_istore C [(5, .int 0), (0, .ref (aX g 0)), (1, .ref (aX g 38)), (2, .int x2), (3, .int x3), (4, .int x4)] dX5_tally_19 (by decide) rfl ?_
        refine xv_eq [1, 2, 3, 4, 5, 0] rfl ?_
        exact hL21 x2 x3 x4 (L_X5_tally_12 n 38 x2 x3 j) ih n 0 a hf
  rw [f_X5_tally] at hf
  show V K (sX g) 6 a [(0, .ref (aX g 0)), (1, .ref (aX g 38)), (2, .int x2), (3, .int x3)] 0 []
  refine xv_aload_n C dX5_tally_0 rfl 1 rfl ?_
  obtain ⟨q1, hg, hf⟩ := dt_bind hf
  refine xc_v (xr_VN C (ci := 1) (As := []) (fun l => c_X1_clear__38 g hS l n a q1 hg) gX5_tally_X1_clear_n276 rfl ⟨rfl, rfl⟩ (fun U H h => h.1 _ (List.mem_of_getElem? (i := 57) rfl)) (List.mem_of_getElem? (i := 4) rfl) (List.mem_of_getElem? (i := 3) rfl) (List.mem_of_getElem? (i := 5) rfl) hdN_X1_clear ⟨Nat.le_of_ble_eq_true rfl, Nat.le_of_ble_eq_true rfl⟩ 38 rfl rfl (wX38 g _) rfl rfl (Nat.le_of_ble_eq_true rfl) dX5_tally_1) ?_
  refine xv_aload_n C dX5_tally_4 rfl 0 rfl ?_
  refine xv_iconst C 0 dX5_tally_5 (by decide) ?_
  obtain ⟨q2, hg, hf⟩ := dt_bind hf
  refine xc_v (xr_V C (ci := 5) (As := [.int 0]) (fun l => c_X5_foresee g hS l n 0 q1 q2 hg) gX5_tally_X5_foresee rfl ⟨rfl, rfl⟩ hdV_X5_foresee ⟨Nat.le_of_ble_eq_true rfl, Nat.le_of_ble_eq_true rfl⟩ 0 rfl rfl (wX0 g _) rfl rfl (Nat.le_of_ble_eq_true rfl) dX5_tally_6) ?_
  refine xv_iconst C 0 dX5_tally_9 (by decide) ?_
  refine xv_istore C [(4, .int 0), (0, .ref (aX g 0)), (1, .ref (aX g 38)), (2, .int x2), (3, .int x3)] dX5_tally_10 (by decide) rfl ?_
  refine xv_eq [1, 2, 3, 4, 0] rfl ?_
  exact hL12 x2 x3 n 0 q2 hf
set_option maxRecDepth 100000 in
set_option maxHeartbeats 4000000 in
theorem c_X5_sum (g : GX) (hS : xSide (sX g)) (l : Launch) (n : Nat) (x1 : Int32) (x2 : Int32) (a : St) (q : (Int32 × St)) (hf : f_X5_sum n x1 x2 a = some q) : Met l yX5_sum wsX5_sum rm_X5_sum (xPre (sX g) [.ref (aX g 0), .int x1, .int x2] a) (xPostI (sX g) q.1 q.2) 0 0 (sX g).2.2.1 := by
  refine xm_i (av := [.ref (aX g 0), .int x1, .int x2]) (cc := cX5_sum) (maxL := 5) (by decide) rfl (Nat.le_of_ble_eq_true rfl) hS.1 hS.2 (fun K C hret => ?_)
  have C : CC K (sX g) cX5_sum 5 wsX5_sum RX5 rm_X5_sum := C
  have hiX1 : ∀ w ∈ u_ws RX1 TX1 2, w ∈ wsX5_sum := fun w h => List.mem_cons_of_mem _ (List.mem_append_left _ (List.mem_append_right _ h))
  have hiX4 : ∀ w ∈ u_ws RX4 TX4 12, w ∈ wsX5_sum := fun w h => List.mem_cons_of_mem _ (List.mem_append_left _ (List.mem_append_left _ (List.mem_append_right _ h)))
  have hiX5 : ∀ w ∈ u_ws RX5 TX5 13, w ∈ wsX5_sum := fun w h => List.mem_cons_of_mem _ (List.mem_append_left _ (List.mem_append_left _ (List.mem_append_left _ (List.mem_append_right _ h))))
  have hL43 : ∀ (x2 : Int32)  (j : Nat) (x3 : Int32) (x4 : Int32) (a : St), L_X5_sum_43 n x2 j x3 x4 a = some q → V K (sX g) 5 a [(0, .ref (aX g 0)), (2, .int x2), (3, .int x3), (4, .int x4)] 43 [] := by
    intro x2 j
    induction j with
    | zero =>
      intro x3 x4 a hf
      have hf : (none : Option (Int32 × St)) = some q := hf
      cases hf
    | succ j ih =>
      intro x3 x4 a hf
      rw [L_X5_sum_43] at hf
      refine xv_iload C dX5_sum_43 3 rfl ?_
      refine xv_aload_n C dX5_sum_45 rfl 0 rfl ?_
      refine xv_get C hiX5 0 (wX0 g _) rfl 1 (by decide) (List.mem_of_getElem? (i := 2) rfl) rfl dX5_sum_46 ?_
      refine xv_getN C hiX4 5 (wX5 g _) rfl 1 (by decide) (fun U H h => h.1 _ (List.mem_of_getElem? (i := 6) rfl)) rfl dX5_sum_49 ?_
      refine xv_icmp_ge C 91 hf dX5_sum_52 (by decide) (fun _ hf => ?_) (fun _ hf => ?_)
      · refine xv_iload_n C dX5_sum_91 rfl 2 rfl ?_
        exact xz_iw hret hf dX5_sum_92
      · refine xv_iload_n C dX5_sum_55 rfl 2 rfl ?_
        refine xv_iload_n C dX5_sum_56 rfl 1 rfl ?_
        refine xv_if_ne C (y := 0) 73 hf dX5_sum_57 (by decide) (fun _ hf => ?_) (fun _ hf => ?_)
        · refine xv_aload_n C dX5_sum_60 rfl 0 rfl ?_
          refine xv_get C hiX5 0 (wX0 g _) rfl 11 (by decide) (List.mem_of_getElem? (i := 1) rfl) rfl dX5_sum_61 ?_
          refine xv_getN C hiX1 38 (wX38 g _) rfl 0 (by decide) (fun U H h => h.1 _ (List.mem_of_getElem? (i := 30) rfl)) rfl dX5_sum_64 ?_
          refine xv_iload C dX5_sum_67 3 rfl ?_
          refine xv_iald C 39 0 (wX39 g _) rfl hf dX5_sum_69 (fun hf => ?_)
          refine xv_goto C 83 dX5_sum_70 (by decide) ?_
          refine xv_iadd C dX5_sum_83 ?_
          refine xv_istore_n C [(3, .int (x3 + (a 39 x4.toNatClampNeg))), (0, .ref (aX g 0)), (2, .int x2), (4, .int x4)] dX5_sum_84 rfl (by decide) rfl ?_
          refine xv_iinc C [(4, .int (x4 + 1)), (3, .int (x3 + (a 39 x4.toNatClampNeg))), (0, .ref (aX g 0)), (2, .int x2)] dX5_sum_85 3 rfl rfl (by decide) rfl ?_
          refine xv_goto C 43 dX5_sum_88 (by decide) ?_
          refine xv_eq [2, 3, 1, 0] rfl ?_
          exact ih (x3 + (a 39 x4.toNatClampNeg)) (x4 + 1) a hf
        · refine xv_aload_n C dX5_sum_73 rfl 0 rfl ?_
          refine xv_get C hiX5 0 (wX0 g _) rfl 11 (by decide) (List.mem_of_getElem? (i := 1) rfl) rfl dX5_sum_74 ?_
          refine xv_getN C hiX1 38 (wX38 g _) rfl 1 (by decide) (fun U H h => h.1 _ (List.mem_of_getElem? (i := 31) rfl)) rfl dX5_sum_77 ?_
          refine xv_iload C dX5_sum_80 3 rfl ?_
          refine xv_iald C 40 0 (wX40 g _) rfl hf dX5_sum_82 (fun hf => ?_)
          refine xv_iadd C dX5_sum_83 ?_
          refine xv_istore_n C [(3, .int (x3 + (a 40 x4.toNatClampNeg))), (0, .ref (aX g 0)), (2, .int x2), (4, .int x4)] dX5_sum_84 rfl (by decide) rfl ?_
          refine xv_iinc C [(4, .int (x4 + 1)), (3, .int (x3 + (a 40 x4.toNatClampNeg))), (0, .ref (aX g 0)), (2, .int x2)] dX5_sum_85 3 rfl rfl (by decide) rfl ?_
          refine xv_goto C 43 dX5_sum_88 (by decide) ?_
          refine xv_eq [2, 3, 1, 0] rfl ?_
          exact ih (x3 + (a 40 x4.toNatClampNeg)) (x4 + 1) a hf
  rw [f_X5_sum] at hf
  show V K (sX g) 5 a [(0, .ref (aX g 0)), (1, .int x1), (2, .int x2)] 0 []
  refine xv_iload_n C dX5_sum_0 rfl 1 rfl ?_
  refine xv_iconst C 1 dX5_sum_1 (by decide) ?_
  refine xv_bipush C 99 dX5_sum_2 (by decide) ?_
  obtain ⟨q1, hg, hf⟩ := dt_bind hf
  refine xc_i (xr_S C (As := [.int x1, .int 1, .int 99]) (fun l => c_X5_within (sX g) hS l x1 1 99 a q1 hg) gX5_sum_X5_within rfl ⟨rfl, rfl⟩ hdS_X5_within ⟨Nat.le_of_ble_eq_true rfl, Nat.le_of_ble_eq_true rfl⟩ rfl rfl (Nat.le_of_ble_eq_true rfl) dX5_sum_4) ?_
  refine xv_if_eq C (y := 0) 19 hf dX5_sum_7 (by decide) (fun _ hf => ?_) (fun _ hf => ?_)
  · refine xv_bipush C (-3) dX5_sum_19 (by decide) ?_
    exact xz_iw hret hf dX5_sum_21
  · refine xv_iload_n C dX5_sum_10 rfl 2 rfl ?_
    refine xv_iconst C 0 dX5_sum_11 (by decide) ?_
    refine xv_iconst C 1 dX5_sum_12 (by decide) ?_
    obtain ⟨q2, hg, hf⟩ := dt_bind hf
    refine xc_i (xr_S C (As := [.int x2, .int 0, .int 1]) (fun l => c_X5_within (sX g) hS l x2 0 1 a q2 hg) gX5_sum_X5_within rfl ⟨rfl, rfl⟩ hdS_X5_within ⟨Nat.le_of_ble_eq_true rfl, Nat.le_of_ble_eq_true rfl⟩ rfl rfl (Nat.le_of_ble_eq_true rfl) dX5_sum_13) ?_
    refine xv_if_ne C (y := 0) 22 hf dX5_sum_16 (by decide) (fun _ hf => ?_) (fun _ hf => ?_)
    · refine xv_bipush C (-3) dX5_sum_19 (by decide) ?_
      exact xz_iw hret hf dX5_sum_21
    · refine xv_aload_n C dX5_sum_22 rfl 0 rfl ?_
      refine xv_aload_n C dX5_sum_23 rfl 0 rfl ?_
      refine xv_get C hiX5 0 (wX0 g _) rfl 11 (by decide) (List.mem_of_getElem? (i := 1) rfl) rfl dX5_sum_24 ?_
      refine xv_iload_n C dX5_sum_27 rfl 1 rfl ?_
      refine xv_aload_n C dX5_sum_28 rfl 0 rfl ?_
      refine xv_get C hiX5 0 (wX0 g _) rfl 1 (by decide) (List.mem_of_getElem? (i := 2) rfl) rfl dX5_sum_29 ?_
      refine xv_getN C hiX4 5 (wX5 g _) rfl 2 (by decide) (fun U H h => h.1 _ (List.mem_of_getElem? (i := 7) rfl)) rfl dX5_sum_32 ?_
      obtain ⟨q3, hg, hf⟩ := dt_bind hf
      refine xc_v (xr_V C (ci := 5) (As := [.ref (aX g 38), .int x1, .int (a 5 2)]) (fun l => c_X5_tally__38 g hS l n x1 (a 5 2) a q3 hg) gX5_sum_X5_tally rfl ⟨rfl, rfl⟩ hdV_X5_tally ⟨Nat.le_of_ble_eq_true rfl, Nat.le_of_ble_eq_true rfl⟩ 0 rfl rfl (wX0 g _) rfl rfl (Nat.le_of_ble_eq_true rfl) dX5_sum_35) ?_
      refine xv_iconst C 0 dX5_sum_38 (by decide) ?_
      refine xv_istore_n C [(3, .int 0), (0, .ref (aX g 0)), (1, .int x1), (2, .int x2)] dX5_sum_39 rfl (by decide) rfl ?_
      refine xv_iconst C 0 dX5_sum_40 (by decide) ?_
      refine xv_istore C [(4, .int 0), (3, .int 0), (0, .ref (aX g 0)), (1, .int x1), (2, .int x2)] dX5_sum_41 (by decide) rfl ?_
      refine xv_eq [2, 4, 1, 0] rfl ?_
      exact hL43 x2 n 0 0 q3 hf
