set_option maxRecDepth 100000 in
set_option maxHeartbeats 4000000 in
theorem c_X5_fault (g : GX) (hS : xSide (sX g)) (l : Launch) (n : Nat) (a : St) (q : (Int32 × St)) (hf : f_X5_fault n a = some q) : Met l yX5_fault wsX5_fault rm_X5_fault (xPre (sX g) [.ref (aX g 0)] a) (xPostI (sX g) q.1 q.2) 0 0 (sX g).2.2.1 := by
  refine xm_i (av := [.ref (aX g 0)]) (cc := cX5_fault) (maxL := 1) (by decide) rfl (Nat.le_of_ble_eq_true rfl) hS.1 hS.2 (fun K C hret => ?_)
  have C : CC K (sX g) cX5_fault 1 wsX5_fault RX5 rm_X5_fault := C
  have hiX4 : ∀ w ∈ u_ws RX4 TX4 12, w ∈ wsX5_fault := fun w h => List.mem_cons_of_mem _ (List.mem_append_left _ (List.mem_append_right _ h))
  have hiX5 : ∀ w ∈ u_ws RX5 TX5 13, w ∈ wsX5_fault := fun w h => List.mem_cons_of_mem _ (List.mem_append_left _ (List.mem_append_left _ (List.mem_append_right _ h)))
  rw [f_X5_fault] at hf
  show V K (sX g) 1 a [(0, .ref (aX g 0))] 0 []
  refine xv_aload_n C dX5_fault_0 rfl 0 rfl ?_
  refine xv_get C hiX5 0 (wX0 g _) rfl 0 (by decide) (List.mem_of_getElem? (i := 1) rfl) rfl dX5_fault_1 ?_
  refine xv_aload_n C dX5_fault_4 rfl 0 rfl ?_
  refine xv_get C hiX5 0 (wX0 g _) rfl 1 (by decide) (List.mem_of_getElem? (i := 2) rfl) rfl dX5_fault_5 ?_
  refine xv_getN C hiX4 5 (wX5 g _) rfl 0 (by decide) (fun U H h => h.1 _ (List.mem_of_getElem? (i := 5) rfl)) rfl dX5_fault_8 ?_
  refine xv_aload_n C dX5_fault_11 rfl 0 rfl ?_
  refine xv_get C hiX5 0 (wX0 g _) rfl 1 (by decide) (List.mem_of_getElem? (i := 2) rfl) rfl dX5_fault_12 ?_
  refine xv_getN C hiX4 5 (wX5 g _) rfl 1 (by decide) (fun U H h => h.1 _ (List.mem_of_getElem? (i := 6) rfl)) rfl dX5_fault_15 ?_
  obtain ⟨q1, hg, hf⟩ := dt_bind hf
  refine xc_i (xr_VN C (ci := 2) (As := [.int (a 5 0), .int (a 5 1)]) (fun l => c_X2_faultPlace g hS l n (a 5 0) (a 5 1) a q1 hg) gX5_fault_X2_faultPlace_n94 rfl ⟨rfl, rfl⟩ (fun U H h => h.1 _ (List.mem_of_getElem? (i := 34) rfl)) (List.mem_of_getElem? (i := 4) rfl) (List.mem_of_getElem? (i := 3) rfl) (List.mem_of_getElem? (i := 5) rfl) hdN_X2_faultPlace ⟨Nat.le_of_ble_eq_true rfl, Nat.le_of_ble_eq_true rfl⟩ 1 rfl rfl (wX1 g _) rfl rfl (Nat.le_of_ble_eq_true rfl) dX5_fault_18) ?_
  exact xz_iw hret hf dX5_fault_21
set_option maxRecDepth 100000 in
set_option maxHeartbeats 4000000 in
theorem c_X0_restart__15 (g : GX) (hS : xSide (sX g)) (l : Launch) (n : Nat) (a : St) (q : St) (hf : f_X0_restart n 15 a = some q) : Met l yX0_restart wsX0_restart rm_X0_restart (xPre (sX g) [.ref (aX g 15)] a) (xPostV (sX g) q) 0 0 (sX g).2.2.1 := by
  refine xm_v (av := [.ref (aX g 15)]) (cc := cX0_restart) (maxL := 2) (by decide) rfl (Nat.le_of_ble_eq_true rfl) hS.1 hS.2 (fun K C hret => ?_)
  have C : CC K (sX g) cX0_restart 2 wsX0_restart RX0 rm_X0_restart := C
  have hiX0 : ∀ w ∈ u_ws RX0 TX0 4, w ∈ wsX0_restart := fun w h => List.mem_cons_of_mem _ (List.mem_append_right _ h)
  have hL7 : ∀  (j : Nat) (x1 : Int32) (a : St), L_X0_restart_7 n 15 j x1 a = some q → V K (sX g) 2 a [(0, .ref (aX g 15)), (1, .int x1)] 7 [] := by
    intro j
    induction j with
    | zero =>
      intro x1 a hf
      have hf : (none : Option St) = some q := hf
      cases hf
    | succ j ih =>
      intro x1 a hf
      rw [L_X0_restart_7] at hf
      refine xv_iload_n C dX0_restart_7 rfl 1 rfl ?_
      refine xv_bipush C 8 dX0_restart_8 (by decide) ?_
      refine xv_icmp_ge C 26 hf dX0_restart_10 (by decide) (fun _ hf => ?_) (fun _ hf => ?_)
      · exact xz_v hret hf dX0_restart_26
      · refine xv_aload_n C dX0_restart_13 rfl 0 rfl ?_
        refine xv_get C hiX0 15 (wX15 g _) rfl 1 (by decide) (List.mem_of_getElem? (i := 2) rfl) rfl dX0_restart_14 ?_
        refine xv_iload_n C dX0_restart_17 rfl 1 rfl ?_
        refine xv_iconst C 0 dX0_restart_18 (by decide) ?_
        refine xv_iast C 17 0 (wX17 g _) rfl (up a 17 x1.toNatClampNeg 0) (pX17 g _ _ _) hf dX0_restart_19 (fun hf => ?_)
        refine xv_iinc C [(1, .int (x1 + 1)), (0, .ref (aX g 15))] dX0_restart_20 1 rfl rfl (by decide) rfl ?_
        refine xv_goto C 7 dX0_restart_23 (by decide) ?_
        refine xv_eq [1, 0] rfl ?_
        exact ih (x1 + 1) (up a 17 x1.toNatClampNeg 0) hf
  rw [f_X0_restart] at hf
  show V K (sX g) 2 a [(0, .ref (aX g 15))] 0 []
  refine xv_aload_n C dX0_restart_0 rfl 0 rfl ?_
  refine xv_iconst C 0 dX0_restart_1 (by decide) ?_
  refine xv_put C hiX0 tyX0 tyX0_ok nmX0 15 (wX15 g _) rfl 2 (by decide) (List.mem_of_getElem? (i := 1) rfl) rfl (tyX0_ok 2 (by decide)) rfl rfl (Nat.le_of_ble_eq_true rfl) (up a 15 2 0) (pX15_2 g _ _) dX0_restart_2 ?_
  refine xv_iconst C 0 dX0_restart_5 (by decide) ?_
  refine xv_istore_n C [(1, .int 0), (0, .ref (aX g 15))] dX0_restart_6 rfl (by decide) rfl ?_
  refine xv_eq [1, 0] rfl ?_
  exact hL7 n 0 (up a 15 2 0) hf
set_option maxRecDepth 100000 in
set_option maxHeartbeats 4000000 in
theorem c_X3_clear__25 (g : GX) (hS : xSide (sX g)) (l : Launch) (a : St) (q : (Int32 × St)) (hf : f_X3_clear 25 a = some q) : Met l yX3_clear wsX3_clear rm_X3_clear (xPre (sX g) [.ref (aX g 25)] a) (xPostI (sX g) q.1 q.2) 0 0 (sX g).2.2.1 := by
  refine xm_i (av := [.ref (aX g 25)]) (cc := cX3_clear) (maxL := 2) (by decide) rfl (Nat.le_of_ble_eq_true rfl) hS.1 hS.2 (fun K C hret => ?_)
  have C : CC K (sX g) cX3_clear 2 wsX3_clear RX3 rm_X3_clear := C
  have hiX3 : ∀ w ∈ u_ws RX3 TX3 4, w ∈ wsX3_clear := fun w h => List.mem_cons_of_mem _ (List.mem_append_right _ h)
  rw [f_X3_clear] at hf
  show V K (sX g) 2 a [(0, .ref (aX g 25))] 0 []
  refine xv_aload_n C dX3_clear_0 rfl 0 rfl ?_
  refine xv_get C hiX3 25 (wX25 g _) rfl 3 (by decide) (List.mem_of_getElem? (i := 1) rfl) rfl dX3_clear_1 ?_
  refine xv_istore_n C [(1, .int (a 25 3)), (0, .ref (aX g 25))] dX3_clear_4 rfl (by decide) rfl ?_
  refine xv_aload_n C dX3_clear_5 rfl 1 rfl ?_
  refine xv_iconst C 0 dX3_clear_6 (by decide) ?_
  refine xv_put C hiX3 tyX3 tyX3_ok nmX3 25 (wX25 g _) rfl 3 (by decide) (List.mem_of_getElem? (i := 1) rfl) rfl (tyX3_ok 3 (by decide)) rfl rfl (Nat.le_of_ble_eq_true rfl) (up a 25 3 0) (pX25_3 g _ _) dX3_clear_7 ?_
  refine xv_iload_n C dX3_clear_10 rfl 0 rfl ?_
  exact xz_iw hret hf dX3_clear_11
set_option maxRecDepth 100000 in
set_option maxHeartbeats 4000000 in
theorem c_X3_clear__29 (g : GX) (hS : xSide (sX g)) (l : Launch) (a : St) (q : (Int32 × St)) (hf : f_X3_clear 29 a = some q) : Met l yX3_clear wsX3_clear rm_X3_clear (xPre (sX g) [.ref (aX g 29)] a) (xPostI (sX g) q.1 q.2) 0 0 (sX g).2.2.1 := by
  refine xm_i (av := [.ref (aX g 29)]) (cc := cX3_clear) (maxL := 2) (by decide) rfl (Nat.le_of_ble_eq_true rfl) hS.1 hS.2 (fun K C hret => ?_)
  have C : CC K (sX g) cX3_clear 2 wsX3_clear RX3 rm_X3_clear := C
  have hiX3 : ∀ w ∈ u_ws RX3 TX3 4, w ∈ wsX3_clear := fun w h => List.mem_cons_of_mem _ (List.mem_append_right _ h)
  rw [f_X3_clear] at hf
  show V K (sX g) 2 a [(0, .ref (aX g 29))] 0 []
  refine xv_aload_n C dX3_clear_0 rfl 0 rfl ?_
  refine xv_get C hiX3 29 (wX29 g _) rfl 3 (by decide) (List.mem_of_getElem? (i := 1) rfl) rfl dX3_clear_1 ?_
  refine xv_istore_n C [(1, .int (a 29 3)), (0, .ref (aX g 29))] dX3_clear_4 rfl (by decide) rfl ?_
  refine xv_aload_n C dX3_clear_5 rfl 1 rfl ?_
  refine xv_iconst C 0 dX3_clear_6 (by decide) ?_
  refine xv_put C hiX3 tyX3 tyX3_ok nmX3 29 (wX29 g _) rfl 3 (by decide) (List.mem_of_getElem? (i := 1) rfl) rfl (tyX3_ok 3 (by decide)) rfl rfl (Nat.le_of_ble_eq_true rfl) (up a 29 3 0) (pX29_3 g _ _) dX3_clear_7 ?_
  refine xv_iload_n C dX3_clear_10 rfl 0 rfl ?_
  exact xz_iw hret hf dX3_clear_11
set_option maxRecDepth 100000 in
set_option maxHeartbeats 4000000 in
theorem c_X4_restart (g : GX) (hS : xSide (sX g)) (l : Launch) (n : Nat) (x1 : Int32) (a : St) (q : St) (hf : f_X4_restart n x1 a = some q) : Met l yX4_restart wsX4_restart rm_X4_restart (xPre (sX g) [.ref (aX g 5), .int x1] a) (xPostV (sX g) q) 0 0 (sX g).2.2.1 := by
  refine xm_v (av := [.ref (aX g 5), .int x1]) (cc := cX4_restart) (maxL := 3) (by decide) rfl (Nat.le_of_ble_eq_true rfl) hS.1 hS.2 (fun K C hret => ?_)
  have C : CC K (sX g) cX4_restart 3 wsX4_restart RX4 rm_X4_restart := C
  have hiX4 : ∀ w ∈ u_ws RX4 TX4 12, w ∈ wsX4_restart := fun w h => List.mem_cons_of_mem _ (List.mem_append_right _ h)
  have hL45 : ∀  (j : Nat) (x2 : Int32) (a : St), L_X4_restart_45 n j x2 a = some q → V K (sX g) 3 a [(0, .ref (aX g 5)), (2, .int x2)] 45 [] := by
    intro j
    induction j with
    | zero =>
      intro x2 a hf
      have hf : (none : Option St) = some q := hf
      cases hf
    | succ j ih =>
      intro x2 a hf
      rw [L_X4_restart_45] at hf
      refine xv_iload_n C dX4_restart_45 rfl 1 rfl ?_
      refine xv_aload_n C dX4_restart_46 rfl 0 rfl ?_
      refine xv_get C hiX4 5 (wX5 g _) rfl 5 (by decide) (List.mem_of_getElem? (i := 6) rfl) rfl dX4_restart_47 ?_
      refine xv_alen C 8 0 (wX8 g _) rfl (v := 64) rfl dX4_restart_50 ?_
      refine xv_icmp_ge C 67 hf dX4_restart_51 (by decide) (fun _ hf => ?_) (fun _ hf => ?_)
      · exact xz_v hret hf dX4_restart_67
      · refine xv_aload_n C dX4_restart_54 rfl 0 rfl ?_
        refine xv_get C hiX4 5 (wX5 g _) rfl 5 (by decide) (List.mem_of_getElem? (i := 6) rfl) rfl dX4_restart_55 ?_
        refine xv_iload_n C dX4_restart_58 rfl 1 rfl ?_
        refine xv_iconst C 0 dX4_restart_59 (by decide) ?_
        refine xv_iast C 8 0 (wX8 g _) rfl (up a 8 x2.toNatClampNeg 0) (pX8 g _ _ _) hf dX4_restart_60 (fun hf => ?_)
        refine xv_iinc C [(2, .int (x2 + 1)), (0, .ref (aX g 5))] dX4_restart_61 1 rfl rfl (by decide) rfl ?_
        refine xv_goto C 45 dX4_restart_64 (by decide) ?_
        refine xv_eq [1, 0] rfl ?_
        exact ih (x2 + 1) (up a 8 x2.toNatClampNeg 0) hf
  have hB43 : ∀  (a : St), B_X4_restart_43 n a = some q → V K (sX g) 3 a [(0, .ref (aX g 5))] 43 [] := by
    intro a hf
    rw [B_X4_restart_43] at hf
    refine xv_iconst C 0 dX4_restart_43 (by decide) ?_
    refine xv_istore_n C [(2, .int 0), (0, .ref (aX g 5))] dX4_restart_44 rfl (by decide) rfl ?_
    refine xv_eq [1, 0] rfl ?_
    exact hL45 n 0 a hf
  have hL17 : ∀  (j : Nat) (x2 : Int32) (a : St), L_X4_restart_17 n j x2 a = some q → V K (sX g) 3 a [(0, .ref (aX g 5)), (2, .int x2)] 17 [] := by
    intro j
    induction j with
    | zero =>
      intro x2 a hf
      have hf : (none : Option St) = some q := hf
      cases hf
    | succ j ih =>
      intro x2 a hf
      rw [L_X4_restart_17] at hf
      refine xv_iload_n C dX4_restart_17 rfl 1 rfl ?_
      refine xv_bipush C 8 dX4_restart_18 (by decide) ?_
      refine xv_icmp_ge C 43 hf dX4_restart_20 (by decide) (fun _ hf => ?_) (fun _ hf => ?_)
      · refine xv_eq [0] rfl ?_
        exact hB43 a hf
      · refine xv_aload_n C dX4_restart_23 rfl 0 rfl ?_
        refine xv_get C hiX4 5 (wX5 g _) rfl 3 (by decide) (List.mem_of_getElem? (i := 4) rfl) rfl dX4_restart_24 ?_
        refine xv_iload_n C dX4_restart_27 rfl 1 rfl ?_
        refine xv_iconst C (-1) dX4_restart_28 (by decide) ?_
        refine xv_iast C 6 0 (wX6 g _) rfl (up a 6 x2.toNatClampNeg (-1)) (pX6 g _ _ _) hf dX4_restart_29 (fun hf => ?_)
        refine xv_aload_n C dX4_restart_30 rfl 0 rfl ?_
        refine xv_get C hiX4 5 (wX5 g _) rfl 4 (by decide) (List.mem_of_getElem? (i := 5) rfl) rfl dX4_restart_31 ?_
        refine xv_iload_n C dX4_restart_34 rfl 1 rfl ?_
        refine xv_iconst C 0 dX4_restart_35 (by decide) ?_
        refine xv_iast C 7 0 (wX7 g _) rfl (up (up a 6 x2.toNatClampNeg (-1)) 7 x2.toNatClampNeg 0) (pX7 g _ _ _) hf dX4_restart_36 (fun hf => ?_)
        refine xv_iinc C [(2, .int (x2 + 1)), (0, .ref (aX g 5))] dX4_restart_37 1 rfl rfl (by decide) rfl ?_
        refine xv_goto C 17 dX4_restart_40 (by decide) ?_
        refine xv_eq [1, 0] rfl ?_
        exact ih (x2 + 1) (up (up a 6 x2.toNatClampNeg (-1)) 7 x2.toNatClampNeg 0) hf
  rw [f_X4_restart] at hf
  show V K (sX g) 3 a [(0, .ref (aX g 5)), (1, .int x1)] 0 []
  refine xv_aload_n C dX4_restart_0 rfl 0 rfl ?_
  refine xv_iload_n C dX4_restart_1 rfl 1 rfl ?_
  refine xv_put C hiX4 tyX4 tyX4_ok nmX4 5 (wX5 g _) rfl 0 (by decide) (List.mem_of_getElem? (i := 1) rfl) rfl (tyX4_ok 0 (by decide)) rfl rfl (Nat.le_of_ble_eq_true rfl) (up a 5 0 x1) (pX5_0 g _ _) dX4_restart_2 ?_
  refine xv_aload_n C dX4_restart_5 rfl 0 rfl ?_
  refine xv_iconst C 0 dX4_restart_6 (by decide) ?_
  refine xv_put C hiX4 tyX4 tyX4_ok nmX4 5 (wX5 g _) rfl 1 (by decide) (List.mem_of_getElem? (i := 2) rfl) rfl (tyX4_ok 1 (by decide)) rfl rfl (Nat.le_of_ble_eq_true rfl) (up (up a 5 0 x1) 5 1 0) (pX5_1 g _ _) dX4_restart_7 ?_
  refine xv_aload_n C dX4_restart_10 rfl 0 rfl ?_
  refine xv_iconst C 0 dX4_restart_11 (by decide) ?_
  refine xv_put C hiX4 tyX4 tyX4_ok nmX4 5 (wX5 g _) rfl 2 (by decide) (List.mem_of_getElem? (i := 3) rfl) rfl (tyX4_ok 2 (by decide)) rfl rfl (Nat.le_of_ble_eq_true rfl) (up (up (up a 5 0 x1) 5 1 0) 5 2 0) (pX5_2 g _ _) dX4_restart_12 ?_
  refine xv_iconst C 0 dX4_restart_15 (by decide) ?_
  refine xv_istore_n C [(2, .int 0), (0, .ref (aX g 5)), (1, .int x1)] dX4_restart_16 rfl (by decide) rfl ?_
  refine xv_eq [1, 0] rfl ?_
  exact hL17 n 0 (up (up (up a 5 0 x1) 5 1 0) 5 2 0) hf
set_option maxRecDepth 100000 in
set_option maxHeartbeats 4000000 in
theorem c_X0_idleAll__15 (g : GX) (hS : xSide (sX g)) (l : Launch) (n : Nat) (a : St) (q : St) (hf : f_X0_idleAll n 15 a = some q) : Met l yX0_idleAll wsX0_idleAll rm_X0_idleAll (xPre (sX g) [.ref (aX g 15)] a) (xPostV (sX g) q) 0 0 (sX g).2.2.1 := by
  refine xm_v (av := [.ref (aX g 15)]) (cc := cX0_idleAll) (maxL := 2) (by decide) rfl (Nat.le_of_ble_eq_true rfl) hS.1 hS.2 (fun K C hret => ?_)
  have C : CC K (sX g) cX0_idleAll 2 wsX0_idleAll RX0 rm_X0_idleAll := C
  have hiX0 : ∀ w ∈ u_ws RX0 TX0 4, w ∈ wsX0_idleAll := fun w h => List.mem_cons_of_mem _ (List.mem_append_right _ h)
  have hL2 : ∀  (j : Nat) (x1 : Int32) (a : St), L_X0_idleAll_2 n 15 j x1 a = some q → V K (sX g) 2 a [(0, .ref (aX g 15)), (1, .int x1)] 2 [] := by
    intro j
    induction j with
    | zero =>
      intro x1 a hf
      have hf : (none : Option St) = some q := hf
      cases hf
    | succ j ih =>
      intro x1 a hf
      rw [L_X0_idleAll_2] at hf
      refine xv_iload_n C dX0_idleAll_2 rfl 1 rfl ?_
      refine xv_bipush C 8 dX0_idleAll_3 (by decide) ?_
      refine xv_icmp_ge C 21 hf dX0_idleAll_5 (by decide) (fun _ hf => ?_) (fun _ hf => ?_)
      · exact xz_v hret hf dX0_idleAll_21
      · refine xv_aload_n C dX0_idleAll_8 rfl 0 rfl ?_
        refine xv_get C hiX0 15 (wX15 g _) rfl 0 (by decide) (List.mem_of_getElem? (i := 1) rfl) rfl dX0_idleAll_9 ?_
        refine xv_iload_n C dX0_idleAll_12 rfl 1 rfl ?_
        refine xv_iconst C (-1) dX0_idleAll_13 (by decide) ?_
        refine xv_iast C 16 0 (wX16 g _) rfl (up a 16 x1.toNatClampNeg (-1)) (pX16 g _ _ _) hf dX0_idleAll_14 (fun hf => ?_)
        refine xv_iinc C [(1, .int (x1 + 1)), (0, .ref (aX g 15))] dX0_idleAll_15 1 rfl rfl (by decide) rfl ?_
        refine xv_goto C 2 dX0_idleAll_18 (by decide) ?_
        refine xv_eq [1, 0] rfl ?_
        exact ih (x1 + 1) (up a 16 x1.toNatClampNeg (-1)) hf
  rw [f_X0_idleAll] at hf
  show V K (sX g) 2 a [(0, .ref (aX g 15))] 0 []
  refine xv_iconst C 0 dX0_idleAll_0 (by decide) ?_
  refine xv_istore_n C [(1, .int 0), (0, .ref (aX g 15))] dX0_idleAll_1 rfl (by decide) rfl ?_
  refine xv_eq [1, 0] rfl ?_
  exact hL2 n 0 a hf
set_option maxRecDepth 100000 in
set_option maxHeartbeats 4000000 in
theorem c_X5_has (S : SID) (hS : xSide S) (l : Launch) (x0 : Int32) (x1 : Int32) (a : St) (q : Int32) (hf : f_X5_has x0 x1 = some q) : Met l yX5_has wsX5_has rm_X5_has (xPre S [.int x0, .int x1] a) (xPostI S q a) 0 0 S.2.2.1 := by
  refine xm_z (av := [.int x0, .int x1]) (cc := cX5_has) (maxL := 2) (by decide) rfl (Nat.le_of_ble_eq_true rfl) hS.1 hS.2 (fun K C hret => ?_)
  have C : CC K S cX5_has 2 wsX5_has RX5 rm_X5_has := C
  rw [f_X5_has] at hf
  show V K S 2 a [(0, .int x0), (1, .int x1)] 0 []
  refine xv_iload_n C dX5_has_0 rfl 0 rfl ?_
  refine xv_iload_n C dX5_has_1 rfl 1 rfl ?_
  refine xv_ishr C dX5_has_2 ?_
  refine xv_iconst C 1 dX5_has_3 (by decide) ?_
  refine xv_iand C dX5_has_4 ?_
  refine xv_if_eq C (y := 0) 12 hf dX5_has_5 (by decide) (fun _ hf => ?_) (fun _ hf => ?_)
  · refine xv_iconst C 0 dX5_has_12 (by decide) ?_
    exact xz_zr hret hf (by decide) dX5_has_13
  · refine xv_iconst C 1 dX5_has_8 (by decide) ?_
    refine xv_goto C 13 dX5_has_9 (by decide) ?_
    exact xz_zr hret hf (by decide) dX5_has_13
set_option maxRecDepth 100000 in
set_option maxHeartbeats 4000000 in
theorem c_X4_missing (g : GX) (hS : xSide (sX g)) (l : Launch) (x1 : Int32) (x2 : Int32) (a : St) (q : Int32) (hf : f_X4_missing x1 x2 a = some q) : Met l yX4_missing wsX4_missing rm_X4_missing (xPre (sX g) [.ref (aX g 5), .int x1, .int x2] a) (xPostI (sX g) q a) 0 0 (sX g).2.2.1 := by
  refine xm_i (av := [.ref (aX g 5), .int x1, .int x2]) (cc := cX4_missing) (maxL := 3) (by decide) rfl (Nat.le_of_ble_eq_true rfl) hS.1 hS.2 (fun K C hret => ?_)
  have C : CC K (sX g) cX4_missing 3 wsX4_missing RX4 rm_X4_missing := C
  have hiX4 : ∀ w ∈ u_ws RX4 TX4 12, w ∈ wsX4_missing := fun w h => List.mem_cons_of_mem _ (List.mem_append_right _ h)
  rw [f_X4_missing] at hf
  show V K (sX g) 3 a [(0, .ref (aX g 5)), (1, .int x1), (2, .int x2)] 0 []
  refine xv_aload_n C dX4_missing_0 rfl 0 rfl ?_
  refine xv_get C hiX4 5 (wX5 g _) rfl 7 (by decide) (List.mem_of_getElem? (i := 1) rfl) rfl dX4_missing_1 ?_
  refine xv_iload_n C dX4_missing_4 rfl 2 rfl ?_
  refine xv_iald C 10 0 (wX10 g _) rfl hf dX4_missing_5 (fun hf => ?_)
  refine xv_aload_n C dX4_missing_6 rfl 0 rfl ?_
  refine xv_get C hiX4 5 (wX5 g _) rfl 4 (by decide) (List.mem_of_getElem? (i := 2) rfl) rfl dX4_missing_7 ?_
  refine xv_iload_n C dX4_missing_10 rfl 1 rfl ?_
  refine xv_iald C 7 0 (wX7 g _) rfl hf dX4_missing_11 (fun hf => ?_)
  refine xv_iconst C (-1) dX4_missing_12 (by decide) ?_
  refine xv_ixor C dX4_missing_13 ?_
  refine xv_iand C dX4_missing_14 ?_
  exact xz_ir hret hf dX4_missing_15
set_option maxRecDepth 100000 in
set_option maxHeartbeats 4000000 in
theorem c_X4_can (g : GX) (hS : xSide (sX g)) (l : Launch) (x1 : Int32) (x2 : Int32) (x3 : Int32) (a : St) (q : Int32) (hf : f_X4_can x1 x2 x3 a = some q) : Met l yX4_can wsX4_can rm_X4_can (xPre (sX g) [.ref (aX g 5), .int x1, .int x2, .int x3] a) (xPostI (sX g) q a) 0 0 (sX g).2.2.1 := by
  refine xm_z (av := [.ref (aX g 5), .int x1, .int x2, .int x3]) (cc := cX4_can) (maxL := 4) (by decide) rfl (Nat.le_of_ble_eq_true rfl) hS.1 hS.2 (fun K C hret => ?_)
  have C : CC K (sX g) cX4_can 4 wsX4_can RX4 rm_X4_can := C
  have hiX4 : ∀ w ∈ u_ws RX4 TX4 12, w ∈ wsX4_can := fun w h => List.mem_cons_of_mem _ (List.mem_append_right _ h)
  rw [f_X4_can] at hf
  show V K (sX g) 4 a [(0, .ref (aX g 5)), (1, .int x1), (2, .int x2), (3, .int x3)] 0 []
  refine xv_iload_n C dX4_can_0 rfl 3 rfl ?_
  refine xv_iload_n C dX4_can_1 rfl 2 rfl ?_
  obtain ⟨q1, hg, hf⟩ := dt_bind hf
  refine xc_i (xr_SN C (As := [.int x3, .int x2]) (fun l => c_X5_has (sX g) hS l x3 x2 a q1 hg) gX4_can_X5_has_n57 rfl ⟨rfl, rfl⟩ (fun U H h => h.1 _ (List.mem_of_getElem? (i := 40) rfl)) (List.mem_of_getElem? (i := 6) rfl) (List.mem_of_getElem? (i := 5) rfl) hdS_X5_has ⟨Nat.le_of_ble_eq_true rfl, Nat.le_of_ble_eq_true rfl⟩ rfl rfl (Nat.le_of_ble_eq_true rfl) dX4_can_2) ?_
  refine xv_if_eq C (y := 0) 20 hf dX4_can_5 (by decide) (fun _ hf => ?_) (fun _ hf => ?_)
  · refine xv_aload_n C dX4_can_20 rfl 0 rfl ?_
    refine xv_get C hiX4 5 (wX5 g _) rfl 6 (by decide) (List.mem_of_getElem? (i := 2) rfl) rfl dX4_can_21 ?_
    refine xv_iload_n C dX4_can_24 rfl 2 rfl ?_
    refine xv_iald C 9 0 (wX9 g _) rfl hf dX4_can_25 (fun hf => ?_)
    by_cases hs0 : a 9 x2.toNatClampNeg = 0
    · have hf := dt_pos hs0 hf
      refine xv_tin C (off := 30) 56 hs0 dX4_can_26 (by decide) (by decide) (by decide) (by decide) ?_
      refine xv_iconst C 1 dX4_can_56 (by decide) ?_
      exact xz_zr hret hf (by decide) dX4_can_57
    have hf := dt_neg hs0 hf
    by_cases hs1 : a 9 x2.toNatClampNeg = 1
    · have hf := dt_pos hs1 hf
      refine xv_tin C (off := 79) 105 hs1 dX4_can_26 (by decide) (by decide) (by decide) (by decide) ?_
      refine xv_aload_n C dX4_can_105 rfl 0 rfl ?_
      refine xv_iload_n C dX4_can_106 rfl 1 rfl ?_
      refine xv_iload_n C dX4_can_107 rfl 2 rfl ?_
      obtain ⟨q2, hg, hf⟩ := dt_bind hf
      refine xc_i (xr_V C (ci := 4) (As := [.int x1, .int x2]) (fun l => c_X4_missing g hS l x1 x2 a q2 hg) gX4_can_X4_missing rfl ⟨rfl, rfl⟩ hdV_X4_missing ⟨Nat.le_of_ble_eq_true rfl, Nat.le_of_ble_eq_true rfl⟩ 5 rfl rfl (wX5 g _) rfl rfl (Nat.le_of_ble_eq_true rfl) dX4_can_108) ?_
      refine xv_if_ne C (y := 0) 118 hf dX4_can_111 (by decide) (fun _ hf => ?_) (fun _ hf => ?_)
      · refine xv_iconst C 1 dX4_can_114 (by decide) ?_
        refine xv_goto C 119 dX4_can_115 (by decide) ?_
        exact xz_zr hret hf (by decide) dX4_can_119
      · refine xv_iconst C 0 dX4_can_118 (by decide) ?_
        exact xz_zr hret hf (by decide) dX4_can_119
    have hf := dt_neg hs1 hf
    by_cases hs2 : a 9 x2.toNatClampNeg = 2
    · have hf := dt_pos hs2 hf
      refine xv_tin C (off := 32) 58 hs2 dX4_can_26 (by decide) (by decide) (by decide) (by decide) ?_
      refine xv_aload_n C dX4_can_58 rfl 0 rfl ?_
      refine xv_get C hiX4 5 (wX5 g _) rfl 7 (by decide) (List.mem_of_getElem? (i := 3) rfl) rfl dX4_can_59 ?_
      refine xv_iload_n C dX4_can_62 rfl 2 rfl ?_
      refine xv_iald C 10 0 (wX10 g _) rfl hf dX4_can_63 (fun hf => ?_)
      refine xv_aload_n C dX4_can_64 rfl 0 rfl ?_
      refine xv_get C hiX4 5 (wX5 g _) rfl 4 (by decide) (List.mem_of_getElem? (i := 4) rfl) rfl dX4_can_65 ?_
      refine xv_iload_n C dX4_can_68 rfl 1 rfl ?_
      refine xv_iald C 7 0 (wX7 g _) rfl hf dX4_can_69 (fun hf => ?_)
      refine xv_iand C dX4_can_70 ?_
      refine xv_if_eq C (y := 0) 78 hf dX4_can_71 (by decide) (fun _ hf => ?_) (fun _ hf => ?_)
      · refine xv_iconst C 0 dX4_can_78 (by decide) ?_
        exact xz_zr hret hf (by decide) dX4_can_79
      · refine xv_iconst C 1 dX4_can_74 (by decide) ?_
        refine xv_goto C 79 dX4_can_75 (by decide) ?_
        exact xz_zr hret hf (by decide) dX4_can_79
    have hf := dt_neg hs2 hf
    by_cases hs3 : a 9 x2.toNatClampNeg = 3
    · have hf := dt_pos hs3 hf
      refine xv_tin C (off := 54) 80 hs3 dX4_can_26 (by decide) (by decide) (by decide) (by decide) ?_
      refine xv_aload_n C dX4_can_80 rfl 0 rfl ?_
      refine xv_get C hiX4 5 (wX5 g _) rfl 8 (by decide) (List.mem_of_getElem? (i := 1) rfl) rfl dX4_can_81 ?_
      refine xv_iload_n C dX4_can_84 rfl 2 rfl ?_
      refine xv_iald C 11 0 (wX11 g _) rfl hf dX4_can_85 (fun hf => ?_)
      refine xv_iload_n C dX4_can_86 rfl 1 rfl ?_
      refine xv_icmp_eq C 99 hf dX4_can_87 (by decide) (fun _ hf => ?_) (fun _ hf => ?_)
      · refine xv_iconst C 1 dX4_can_99 (by decide) ?_
        refine xv_goto C 104 dX4_can_100 (by decide) ?_
        exact xz_zr hret hf (by decide) dX4_can_104
      · refine xv_aload_n C dX4_can_90 rfl 0 rfl ?_
        refine xv_iload_n C dX4_can_91 rfl 1 rfl ?_
        refine xv_iload_n C dX4_can_92 rfl 2 rfl ?_
        obtain ⟨q3, hg, hf⟩ := dt_bind hf
        refine xc_i (xr_V C (ci := 4) (As := [.int x1, .int x2]) (fun l => c_X4_missing g hS l x1 x2 a q3 hg) gX4_can_X4_missing rfl ⟨rfl, rfl⟩ hdV_X4_missing ⟨Nat.le_of_ble_eq_true rfl, Nat.le_of_ble_eq_true rfl⟩ 5 rfl rfl (wX5 g _) rfl rfl (Nat.le_of_ble_eq_true rfl) dX4_can_93) ?_
        refine xv_if_ne C (y := 0) 103 hf dX4_can_96 (by decide) (fun _ hf => ?_) (fun _ hf => ?_)
        · refine xv_iconst C 1 dX4_can_99 (by decide) ?_
          refine xv_goto C 104 dX4_can_100 (by decide) ?_
          exact xz_zr hret hf (by decide) dX4_can_104
        · refine xv_iconst C 0 dX4_can_103 (by decide) ?_
          exact xz_zr hret hf (by decide) dX4_can_104
    have hf := dt_neg hs3 hf
    have e0 := lv_neT (a := 0) hs0 (by decide)
    have e1 := lv_neT (a := 1) hs1 (by decide)
    have e2 := lv_neT (a := 2) hs2 (by decide)
    have e3 := lv_neT (a := 3) hs3 (by decide)
    refine xv_tout C 105 dX4_can_26 (by omega) (by decide) ?_
    refine xv_aload_n C dX4_can_105 rfl 0 rfl ?_
    refine xv_iload_n C dX4_can_106 rfl 1 rfl ?_
    refine xv_iload_n C dX4_can_107 rfl 2 rfl ?_
    obtain ⟨q4, hg, hf⟩ := dt_bind hf
    refine xc_i (xr_V C (ci := 4) (As := [.int x1, .int x2]) (fun l => c_X4_missing g hS l x1 x2 a q4 hg) gX4_can_X4_missing rfl ⟨rfl, rfl⟩ hdV_X4_missing ⟨Nat.le_of_ble_eq_true rfl, Nat.le_of_ble_eq_true rfl⟩ 5 rfl rfl (wX5 g _) rfl rfl (Nat.le_of_ble_eq_true rfl) dX4_can_108) ?_
    refine xv_if_ne C (y := 0) 118 hf dX4_can_111 (by decide) (fun _ hf => ?_) (fun _ hf => ?_)
    · refine xv_iconst C 1 dX4_can_114 (by decide) ?_
      refine xv_goto C 119 dX4_can_115 (by decide) ?_
      exact xz_zr hret hf (by decide) dX4_can_119
    · refine xv_iconst C 0 dX4_can_118 (by decide) ?_
      exact xz_zr hret hf (by decide) dX4_can_119
  · refine xv_aload_n C dX4_can_8 rfl 0 rfl ?_
    refine xv_get C hiX4 5 (wX5 g _) rfl 8 (by decide) (List.mem_of_getElem? (i := 1) rfl) rfl dX4_can_9 ?_
    refine xv_iload_n C dX4_can_12 rfl 2 rfl ?_
    refine xv_iald C 11 0 (wX11 g _) rfl hf dX4_can_13 (fun hf => ?_)
    refine xv_iload_n C dX4_can_14 rfl 1 rfl ?_
    refine xv_icmp_eq C 20 hf dX4_can_15 (by decide) (fun _ hf => ?_) (fun _ hf => ?_)
    · refine xv_aload_n C dX4_can_20 rfl 0 rfl ?_
      refine xv_get C hiX4 5 (wX5 g _) rfl 6 (by decide) (List.mem_of_getElem? (i := 2) rfl) rfl dX4_can_21 ?_
      refine xv_iload_n C dX4_can_24 rfl 2 rfl ?_
      refine xv_iald C 9 0 (wX9 g _) rfl hf dX4_can_25 (fun hf => ?_)
      by_cases hs0 : a 9 x2.toNatClampNeg = 0
      · have hf := dt_pos hs0 hf
        refine xv_tin C (off := 30) 56 hs0 dX4_can_26 (by decide) (by decide) (by decide) (by decide) ?_
        refine xv_iconst C 1 dX4_can_56 (by decide) ?_
        exact xz_zr hret hf (by decide) dX4_can_57
      have hf := dt_neg hs0 hf
      by_cases hs1 : a 9 x2.toNatClampNeg = 1
      · have hf := dt_pos hs1 hf
        refine xv_tin C (off := 79) 105 hs1 dX4_can_26 (by decide) (by decide) (by decide) (by decide) ?_
        refine xv_aload_n C dX4_can_105 rfl 0 rfl ?_
        refine xv_iload_n C dX4_can_106 rfl 1 rfl ?_
        refine xv_iload_n C dX4_can_107 rfl 2 rfl ?_
        obtain ⟨q5, hg, hf⟩ := dt_bind hf
        refine xc_i (xr_V C (ci := 4) (As := [.int x1, .int x2]) (fun l => c_X4_missing g hS l x1 x2 a q5 hg) gX4_can_X4_missing rfl ⟨rfl, rfl⟩ hdV_X4_missing ⟨Nat.le_of_ble_eq_true rfl, Nat.le_of_ble_eq_true rfl⟩ 5 rfl rfl (wX5 g _) rfl rfl (Nat.le_of_ble_eq_true rfl) dX4_can_108) ?_
        refine xv_if_ne C (y := 0) 118 hf dX4_can_111 (by decide) (fun _ hf => ?_) (fun _ hf => ?_)
        · refine xv_iconst C 1 dX4_can_114 (by decide) ?_
          refine xv_goto C 119 dX4_can_115 (by decide) ?_
          exact xz_zr hret hf (by decide) dX4_can_119
        · refine xv_iconst C 0 dX4_can_118 (by decide) ?_
          exact xz_zr hret hf (by decide) dX4_can_119
      have hf := dt_neg hs1 hf
      by_cases hs2 : a 9 x2.toNatClampNeg = 2
      · have hf := dt_pos hs2 hf
        refine xv_tin C (off := 32) 58 hs2 dX4_can_26 (by decide) (by decide) (by decide) (by decide) ?_
        refine xv_aload_n C dX4_can_58 rfl 0 rfl ?_
        refine xv_get C hiX4 5 (wX5 g _) rfl 7 (by decide) (List.mem_of_getElem? (i := 3) rfl) rfl dX4_can_59 ?_
        refine xv_iload_n C dX4_can_62 rfl 2 rfl ?_
        refine xv_iald C 10 0 (wX10 g _) rfl hf dX4_can_63 (fun hf => ?_)
        refine xv_aload_n C dX4_can_64 rfl 0 rfl ?_
        refine xv_get C hiX4 5 (wX5 g _) rfl 4 (by decide) (List.mem_of_getElem? (i := 4) rfl) rfl dX4_can_65 ?_
        refine xv_iload_n C dX4_can_68 rfl 1 rfl ?_
        refine xv_iald C 7 0 (wX7 g _) rfl hf dX4_can_69 (fun hf => ?_)
        refine xv_iand C dX4_can_70 ?_
        refine xv_if_eq C (y := 0) 78 hf dX4_can_71 (by decide) (fun _ hf => ?_) (fun _ hf => ?_)
        · refine xv_iconst C 0 dX4_can_78 (by decide) ?_
          exact xz_zr hret hf (by decide) dX4_can_79
        · refine xv_iconst C 1 dX4_can_74 (by decide) ?_
          refine xv_goto C 79 dX4_can_75 (by decide) ?_
          exact xz_zr hret hf (by decide) dX4_can_79
      have hf := dt_neg hs2 hf
      by_cases hs3 : a 9 x2.toNatClampNeg = 3
      · have hf := dt_pos hs3 hf
        refine xv_tin C (off := 54) 80 hs3 dX4_can_26 (by decide) (by decide) (by decide) (by decide) ?_
        refine xv_aload_n C dX4_can_80 rfl 0 rfl ?_
        refine xv_get C hiX4 5 (wX5 g _) rfl 8 (by decide) (List.mem_of_getElem? (i := 1) rfl) rfl dX4_can_81 ?_
        refine xv_iload_n C dX4_can_84 rfl 2 rfl ?_
        refine xv_iald C 11 0 (wX11 g _) rfl hf dX4_can_85 (fun hf => ?_)
        refine xv_iload_n C dX4_can_86 rfl 1 rfl ?_
        refine xv_icmp_eq C 99 hf dX4_can_87 (by decide) (fun _ hf => ?_) (fun _ hf => ?_)
        · refine xv_iconst C 1 dX4_can_99 (by decide) ?_
          refine xv_goto C 104 dX4_can_100 (by decide) ?_
          exact xz_zr hret hf (by decide) dX4_can_104
        · refine xv_aload_n C dX4_can_90 rfl 0 rfl ?_
          refine xv_iload_n C dX4_can_91 rfl 1 rfl ?_
          refine xv_iload_n C dX4_can_92 rfl 2 rfl ?_
          obtain ⟨q6, hg, hf⟩ := dt_bind hf
          refine xc_i (xr_V C (ci := 4) (As := [.int x1, .int x2]) (fun l => c_X4_missing g hS l x1 x2 a q6 hg) gX4_can_X4_missing rfl ⟨rfl, rfl⟩ hdV_X4_missing ⟨Nat.le_of_ble_eq_true rfl, Nat.le_of_ble_eq_true rfl⟩ 5 rfl rfl (wX5 g _) rfl rfl (Nat.le_of_ble_eq_true rfl) dX4_can_93) ?_
          refine xv_if_ne C (y := 0) 103 hf dX4_can_96 (by decide) (fun _ hf => ?_) (fun _ hf => ?_)
          · refine xv_iconst C 1 dX4_can_99 (by decide) ?_
            refine xv_goto C 104 dX4_can_100 (by decide) ?_
            exact xz_zr hret hf (by decide) dX4_can_104
          · refine xv_iconst C 0 dX4_can_103 (by decide) ?_
            exact xz_zr hret hf (by decide) dX4_can_104
      have hf := dt_neg hs3 hf
      have e0 := lv_neT (a := 0) hs0 (by decide)
      have e1 := lv_neT (a := 1) hs1 (by decide)
      have e2 := lv_neT (a := 2) hs2 (by decide)
      have e3 := lv_neT (a := 3) hs3 (by decide)
      refine xv_tout C 105 dX4_can_26 (by omega) (by decide) ?_
      refine xv_aload_n C dX4_can_105 rfl 0 rfl ?_
      refine xv_iload_n C dX4_can_106 rfl 1 rfl ?_
      refine xv_iload_n C dX4_can_107 rfl 2 rfl ?_
      obtain ⟨q7, hg, hf⟩ := dt_bind hf
      refine xc_i (xr_V C (ci := 4) (As := [.int x1, .int x2]) (fun l => c_X4_missing g hS l x1 x2 a q7 hg) gX4_can_X4_missing rfl ⟨rfl, rfl⟩ hdV_X4_missing ⟨Nat.le_of_ble_eq_true rfl, Nat.le_of_ble_eq_true rfl⟩ 5 rfl rfl (wX5 g _) rfl rfl (Nat.le_of_ble_eq_true rfl) dX4_can_108) ?_
      refine xv_if_ne C (y := 0) 118 hf dX4_can_111 (by decide) (fun _ hf => ?_) (fun _ hf => ?_)
      · refine xv_iconst C 1 dX4_can_114 (by decide) ?_
        refine xv_goto C 119 dX4_can_115 (by decide) ?_
        exact xz_zr hret hf (by decide) dX4_can_119
      · refine xv_iconst C 0 dX4_can_118 (by decide) ?_
        exact xz_zr hret hf (by decide) dX4_can_119
    · refine xv_iconst C 0 dX4_can_18 (by decide) ?_
      exact xz_zr hret hf (by decide) dX4_can_19
set_option maxRecDepth 100000 in
set_option maxHeartbeats 4000000 in
theorem c_X4_setLiking (g : GX) (hS : xSide (sX g)) (l : Launch) (x1 : Int32) (x2 : Int32) (x3 : Int32) (a : St) (q : St) (hf : f_X4_setLiking x1 x2 x3 a = some q) : Met l yX4_setLiking wsX4_setLiking rm_X4_setLiking (xPre (sX g) [.ref (aX g 5), .int x1, .int x2, .int x3] a) (xPostV (sX g) q) 0 0 (sX g).2.2.1 := by
  refine xm_v (av := [.ref (aX g 5), .int x1, .int x2, .int x3]) (cc := cX4_setLiking) (maxL := 4) (by decide) rfl (Nat.le_of_ble_eq_true rfl) hS.1 hS.2 (fun K C hret => ?_)
  have C : CC K (sX g) cX4_setLiking 4 wsX4_setLiking RX4 rm_X4_setLiking := C
  have hiX4 : ∀ w ∈ u_ws RX4 TX4 12, w ∈ wsX4_setLiking := fun w h => List.mem_cons_of_mem _ (List.mem_append_right _ h)
  rw [f_X4_setLiking] at hf
  show V K (sX g) 4 a [(0, .ref (aX g 5)), (1, .int x1), (2, .int x2), (3, .int x3)] 0 []
  refine xv_aload_n C dX4_setLiking_0 rfl 0 rfl ?_
  refine xv_get C hiX4 5 (wX5 g _) rfl 5 (by decide) (List.mem_of_getElem? (i := 1) rfl) rfl dX4_setLiking_1 ?_
  refine xv_iload_n C dX4_setLiking_4 rfl 1 rfl ?_
  refine xv_bipush C 8 dX4_setLiking_5 (by decide) ?_
  refine xv_imul C dX4_setLiking_7 ?_
  refine xv_iload_n C dX4_setLiking_8 rfl 2 rfl ?_
  refine xv_iadd C dX4_setLiking_9 ?_
  refine xv_iload_n C dX4_setLiking_10 rfl 3 rfl ?_
  refine xv_iast C 8 0 (wX8 g _) rfl (up a 8 (((x1 * 8) + x2).toNatClampNeg) x3) (pX8 g _ _ _) hf dX4_setLiking_11 (fun hf => ?_)
  refine xv_aload_n C dX4_setLiking_12 rfl 0 rfl ?_
  refine xv_get C hiX4 5 (wX5 g _) rfl 5 (by decide) (List.mem_of_getElem? (i := 1) rfl) rfl dX4_setLiking_13 ?_
  refine xv_iload_n C dX4_setLiking_16 rfl 2 rfl ?_
  refine xv_bipush C 8 dX4_setLiking_17 (by decide) ?_
  refine xv_imul C dX4_setLiking_19 ?_
  refine xv_iload_n C dX4_setLiking_20 rfl 1 rfl ?_
  refine xv_iadd C dX4_setLiking_21 ?_
  refine xv_iload_n C dX4_setLiking_22 rfl 3 rfl ?_
  refine xv_iast C 8 0 (wX8 g _) rfl (up (up a 8 (((x1 * 8) + x2).toNatClampNeg) x3) 8 (((x2 * 8) + x1).toNatClampNeg) x3) (pX8 g _ _ _) hf dX4_setLiking_23 (fun hf => ?_)
  exact xz_v hret hf dX4_setLiking_24
set_option maxRecDepth 100000 in
set_option maxHeartbeats 4000000 in
theorem c_X4_addDeed (g : GX) (hS : xSide (sX g)) (l : Launch) (x1 : Int32) (x2 : Int32) (x3 : Int32) (x4 : Int32) (x5 : Int32) (a : St) (q : St) (hf : f_X4_addDeed x1 x2 x3 x4 x5 a = some q) : Met l yX4_addDeed wsX4_addDeed rm_X4_addDeed (xPre (sX g) [.ref (aX g 5), .int x1, .int x2, .int x3, .int x4, .int x5] a) (xPostV (sX g) q) 0 0 (sX g).2.2.1 := by
  refine xm_v (av := [.ref (aX g 5), .int x1, .int x2, .int x3, .int x4, .int x5]) (cc := cX4_addDeed) (maxL := 6) (by decide) rfl (Nat.le_of_ble_eq_true rfl) hS.1 hS.2 (fun K C hret => ?_)
  have C : CC K (sX g) cX4_addDeed 6 wsX4_addDeed RX4 rm_X4_addDeed := C
  have hiX4 : ∀ w ∈ u_ws RX4 TX4 12, w ∈ wsX4_addDeed := fun w h => List.mem_cons_of_mem _ (List.mem_append_right _ h)
  rw [f_X4_addDeed] at hf
  show V K (sX g) 6 a [(0, .ref (aX g 5)), (1, .int x1), (2, .int x2), (3, .int x3), (4, .int x4), (5, .int x5)] 0 []
  refine xv_aload_n C dX4_addDeed_0 rfl 0 rfl ?_
  refine xv_get C hiX4 5 (wX5 g _) rfl 1 (by decide) (List.mem_of_getElem? (i := 1) rfl) rfl dX4_addDeed_1 ?_
  refine xv_bipush C 6 dX4_addDeed_4 (by decide) ?_
  refine xv_icmp_ge C 71 hf dX4_addDeed_6 (by decide) (fun _ hf => ?_) (fun _ hf => ?_)
  · exact xz_v hret hf dX4_addDeed_71
  · refine xv_aload_n C dX4_addDeed_9 rfl 0 rfl ?_
    refine xv_get C hiX4 5 (wX5 g _) rfl 6 (by decide) (List.mem_of_getElem? (i := 2) rfl) rfl dX4_addDeed_10 ?_
    refine xv_aload_n C dX4_addDeed_13 rfl 0 rfl ?_
    refine xv_get C hiX4 5 (wX5 g _) rfl 1 (by decide) (List.mem_of_getElem? (i := 1) rfl) rfl dX4_addDeed_14 ?_
    refine xv_iload_n C dX4_addDeed_17 rfl 1 rfl ?_
    refine xv_iast C 9 0 (wX9 g _) rfl (up a 9 ((a 5 1).toNatClampNeg) x1) (pX9 g _ _ _) hf dX4_addDeed_18 (fun hf => ?_)
    refine xv_aload_n C dX4_addDeed_19 rfl 0 rfl ?_
    refine xv_get C hiX4 5 (wX5 g _) rfl 7 (by decide) (List.mem_of_getElem? (i := 3) rfl) rfl dX4_addDeed_20 ?_
    refine xv_aload_n C dX4_addDeed_23 rfl 0 rfl ?_
    refine xv_get C hiX4 5 (wX5 g _) rfl 1 (by decide) (List.mem_of_getElem? (i := 1) rfl) rfl dX4_addDeed_24 ?_
    refine xv_iload_n C dX4_addDeed_27 rfl 2 rfl ?_
    refine xv_iast C 10 0 (wX10 g _) rfl (up (up a 9 ((a 5 1).toNatClampNeg) x1) 10 (((up a 9 ((a 5 1).toNatClampNeg) x1) 5 1).toNatClampNeg) x2) (pX10 g _ _ _) hf dX4_addDeed_28 (fun hf => ?_)
    refine xv_aload_n C dX4_addDeed_29 rfl 0 rfl ?_
    refine xv_get C hiX4 5 (wX5 g _) rfl 8 (by decide) (List.mem_of_getElem? (i := 4) rfl) rfl dX4_addDeed_30 ?_
    refine xv_aload_n C dX4_addDeed_33 rfl 0 rfl ?_
    refine xv_get C hiX4 5 (wX5 g _) rfl 1 (by decide) (List.mem_of_getElem? (i := 1) rfl) rfl dX4_addDeed_34 ?_
    refine xv_iload_n C dX4_addDeed_37 rfl 3 rfl ?_
    refine xv_iast C 11 0 (wX11 g _) rfl (up (up (up a 9 ((a 5 1).toNatClampNeg) x1) 10 (((up a 9 ((a 5 1).toNatClampNeg) x1) 5 1).toNatClampNeg) x2) 11 (((up (up a 9 ((a 5 1).toNatClampNeg) x1) 10 (((up a 9 ((a 5 1).toNatClampNeg) x1) 5 1).toNatClampNeg) x2) 5 1).toNatClampNeg) x3) (pX11 g _ _ _) hf dX4_addDeed_38 (fun hf => ?_)
    refine xv_aload_n C dX4_addDeed_39 rfl 0 rfl ?_
    refine xv_get C hiX4 5 (wX5 g _) rfl 9 (by decide) (List.mem_of_getElem? (i := 5) rfl) rfl dX4_addDeed_40 ?_
    refine xv_aload_n C dX4_addDeed_43 rfl 0 rfl ?_
    refine xv_get C hiX4 5 (wX5 g _) rfl 1 (by decide) (List.mem_of_getElem? (i := 1) rfl) rfl dX4_addDeed_44 ?_
    refine xv_iload C dX4_addDeed_47 4 rfl ?_
    refine xv_iast C 12 0 (wX12 g _) rfl (up (up (up (up a 9 ((a 5 1).toNatClampNeg) x1) 10 (((up a 9 ((a 5 1).toNatClampNeg) x1) 5 1).toNatClampNeg) x2) 11 (((up (up a 9 ((a 5 1).toNatClampNeg) x1) 10 (((up a 9 ((a 5 1).toNatClampNeg) x1) 5 1).toNatClampNeg) x2) 5 1).toNatClampNeg) x3) 12 (((up (up (up a 9 ((a 5 1).toNatClampNeg) x1) 10 (((up a 9 ((a 5 1).toNatClampNeg) x1) 5 1).toNatClampNeg) x2) 11 (((up (up a 9 ((a 5 1).toNatClampNeg) x1) 10 (((up a 9 ((a 5 1).toNatClampNeg) x1) 5 1).toNatClampNeg) x2) 5 1).toNatClampNeg) x3) 5 1).toNatClampNeg) x4) (pX12 g _ _ _) hf dX4_addDeed_49 (fun hf => ?_)
    refine xv_aload_n C dX4_addDeed_50 rfl 0 rfl ?_
    refine xv_get C hiX4 5 (wX5 g _) rfl 10 (by decide) (List.mem_of_getElem? (i := 6) rfl) rfl dX4_addDeed_51 ?_
    refine xv_aload_n C dX4_addDeed_54 rfl 0 rfl ?_
    refine xv_get C hiX4 5 (wX5 g _) rfl 1 (by decide) (List.mem_of_getElem? (i := 1) rfl) rfl dX4_addDeed_55 ?_
    refine xv_iload C dX4_addDeed_58 5 rfl ?_
    refine xv_iast C 13 0 (wX13 g _) rfl (up (up (up (up (up a 9 ((a 5 1).toNatClampNeg) x1) 10 (((up a 9 ((a 5 1).toNatClampNeg) x1) 5 1).toNatClampNeg) x2) 11 (((up (up a 9 ((a 5 1).toNatClampNeg) x1) 10 (((up a 9 ((a 5 1).toNatClampNeg) x1) 5 1).toNatClampNeg) x2) 5 1).toNatClampNeg) x3) 12 (((up (up (up a 9 ((a 5 1).toNatClampNeg) x1) 10 (((up a 9 ((a 5 1).toNatClampNeg) x1) 5 1).toNatClampNeg) x2) 11 (((up (up a 9 ((a 5 1).toNatClampNeg) x1) 10 (((up a 9 ((a 5 1).toNatClampNeg) x1) 5 1).toNatClampNeg) x2) 5 1).toNatClampNeg) x3) 5 1).toNatClampNeg) x4) 13 (((up (up (up (up a 9 ((a 5 1).toNatClampNeg) x1) 10 (((up a 9 ((a 5 1).toNatClampNeg) x1) 5 1).toNatClampNeg) x2) 11 (((up (up a 9 ((a 5 1).toNatClampNeg) x1) 10 (((up a 9 ((a 5 1).toNatClampNeg) x1) 5 1).toNatClampNeg) x2) 5 1).toNatClampNeg) x3) 12 (((up (up (up a 9 ((a 5 1).toNatClampNeg) x1) 10 (((up a 9 ((a 5 1).toNatClampNeg) x1) 5 1).toNatClampNeg) x2) 11 (((up (up a 9 ((a 5 1).toNatClampNeg) x1) 10 (((up a 9 ((a 5 1).toNatClampNeg) x1) 5 1).toNatClampNeg) x2) 5 1).toNatClampNeg) x3) 5 1).toNatClampNeg) x4) 5 1).toNatClampNeg) x5) (pX13 g _ _ _) hf dX4_addDeed_60 (fun hf => ?_)
    refine xv_aload_n C dX4_addDeed_61 rfl 0 rfl ?_
    refine xv_dup C dX4_addDeed_62 rfl ?_
    refine xv_get C hiX4 5 (wX5 g _) rfl 1 (by decide) (List.mem_of_getElem? (i := 1) rfl) rfl dX4_addDeed_63 ?_
    refine xv_iconst C 1 dX4_addDeed_66 (by decide) ?_
    refine xv_iadd C dX4_addDeed_67 ?_
    refine xv_put C hiX4 tyX4 tyX4_ok nmX4 5 (wX5 g _) rfl 1 (by decide) (List.mem_of_getElem? (i := 1) rfl) rfl (tyX4_ok 1 (by decide)) rfl rfl (Nat.le_of_ble_eq_true rfl) (up (up (up (up (up (up a 9 ((a 5 1).toNatClampNeg) x1) 10 (((up a 9 ((a 5 1).toNatClampNeg) x1) 5 1).toNatClampNeg) x2) 11 (((up (up a 9 ((a 5 1).toNatClampNeg) x1) 10 (((up a 9 ((a 5 1).toNatClampNeg) x1) 5 1).toNatClampNeg) x2) 5 1).toNatClampNeg) x3) 12 (((up (up (up a 9 ((a 5 1).toNatClampNeg) x1) 10 (((up a 9 ((a 5 1).toNatClampNeg) x1) 5 1).toNatClampNeg) x2) 11 (((up (up a 9 ((a 5 1).toNatClampNeg) x1) 10 (((up a 9 ((a 5 1).toNatClampNeg) x1) 5 1).toNatClampNeg) x2) 5 1).toNatClampNeg) x3) 5 1).toNatClampNeg) x4) 13 (((up (up (up (up a 9 ((a 5 1).toNatClampNeg) x1) 10 (((up a 9 ((a 5 1).toNatClampNeg) x1) 5 1).toNatClampNeg) x2) 11 (((up (up a 9 ((a 5 1).toNatClampNeg) x1) 10 (((up a 9 ((a 5 1).toNatClampNeg) x1) 5 1).toNatClampNeg) x2) 5 1).toNatClampNeg) x3) 12 (((up (up (up a 9 ((a 5 1).toNatClampNeg) x1) 10 (((up a 9 ((a 5 1).toNatClampNeg) x1) 5 1).toNatClampNeg) x2) 11 (((up (up a 9 ((a 5 1).toNatClampNeg) x1) 10 (((up a 9 ((a 5 1).toNatClampNeg) x1) 5 1).toNatClampNeg) x2) 5 1).toNatClampNeg) x3) 5 1).toNatClampNeg) x4) 5 1).toNatClampNeg) x5) 5 1 (((up (up (up (up (up a 9 ((a 5 1).toNatClampNeg) x1) 10 (((up a 9 ((a 5 1).toNatClampNeg) x1) 5 1).toNatClampNeg) x2) 11 (((up (up a 9 ((a 5 1).toNatClampNeg) x1) 10 (((up a 9 ((a 5 1).toNatClampNeg) x1) 5 1).toNatClampNeg) x2) 5 1).toNatClampNeg) x3) 12 (((up (up (up a 9 ((a 5 1).toNatClampNeg) x1) 10 (((up a 9 ((a 5 1).toNatClampNeg) x1) 5 1).toNatClampNeg) x2) 11 (((up (up a 9 ((a 5 1).toNatClampNeg) x1) 10 (((up a 9 ((a 5 1).toNatClampNeg) x1) 5 1).toNatClampNeg) x2) 5 1).toNatClampNeg) x3) 5 1).toNatClampNeg) x4) 13 (((up (up (up (up a 9 ((a 5 1).toNatClampNeg) x1) 10 (((up a 9 ((a 5 1).toNatClampNeg) x1) 5 1).toNatClampNeg) x2) 11 (((up (up a 9 ((a 5 1).toNatClampNeg) x1) 10 (((up a 9 ((a 5 1).toNatClampNeg) x1) 5 1).toNatClampNeg) x2) 5 1).toNatClampNeg) x3) 12 (((up (up (up a 9 ((a 5 1).toNatClampNeg) x1) 10 (((up a 9 ((a 5 1).toNatClampNeg) x1) 5 1).toNatClampNeg) x2) 11 (((up (up a 9 ((a 5 1).toNatClampNeg) x1) 10 (((up a 9 ((a 5 1).toNatClampNeg) x1) 5 1).toNatClampNeg) x2) 5 1).toNatClampNeg) x3) 5 1).toNatClampNeg) x4) 5 1).toNatClampNeg) x5) 5 1) + 1)) (pX5_1 g _ _) dX4_addDeed_68 ?_
    exact xz_v hret hf dX4_addDeed_71
set_option maxRecDepth 100000 in
set_option maxHeartbeats 4000000 in
theorem c_X5_perform (g : GX) (hS : xSide (sX g)) (l : Launch) (n : Nat) (x1 : Int32) (a : St) (q : St) (hf : f_X5_perform n x1 a = some q) : Met l yX5_perform wsX5_perform rm_X5_perform (xPre (sX g) [.ref (aX g 0), .int x1] a) (xPostV (sX g) q) 0 0 (sX g).2.2.1 := by
  refine xm_v (av := [.ref (aX g 0), .int x1]) (cc := cX5_perform) (maxL := 7) (by decide) rfl (Nat.le_of_ble_eq_true rfl) hS.1 hS.2 (fun K C hret => ?_)
  have C : CC K (sX g) cX5_perform 7 wsX5_perform RX5 rm_X5_perform := C
  have hiX0 : ∀ w ∈ u_ws RX0 TX0 4, w ∈ wsX5_perform := fun w h => List.mem_cons_of_mem _ (List.mem_append_right _ h)
  have hiX2 : ∀ w ∈ u_ws RX2 TX2 9, w ∈ wsX5_perform := fun w h => List.mem_cons_of_mem _ (List.mem_append_left _ (List.mem_append_left _ (List.mem_append_right _ h)))
  have hiX4 : ∀ w ∈ u_ws RX4 TX4 12, w ∈ wsX5_perform := fun w h => List.mem_cons_of_mem _ (List.mem_append_left _ (List.mem_append_right _ h))
  have hiX5 : ∀ w ∈ u_ws RX5 TX5 13, w ∈ wsX5_perform := fun w h => List.mem_cons_of_mem _ (List.mem_append_left _ (List.mem_append_left _ (List.mem_append_left _ (List.mem_append_right _ h))))
  rw [f_X5_perform] at hf
  show V K (sX g) 7 a [(0, .ref (aX g 0)), (1, .int x1)] 0 []
  refine xv_aload_n C dX5_perform_0 rfl 0 rfl ?_
  refine xv_get C hiX5 0 (wX0 g _) rfl 0 (by decide) (List.mem_of_getElem? (i := 1) rfl) rfl dX5_perform_1 ?_
  refine xv_iload_n C dX5_perform_4 rfl 1 rfl ?_
  refine xv_iconst C 0 dX5_perform_5 (by decide) ?_
  obtain ⟨q1, hg, hf⟩ := dt_bind hf
  refine xc_i (xr_VN C (ci := 2) (As := [.int x1, .int 0]) (fun l => c_X2_number g hS l x1 0 a q1 hg) gX5_perform_X2_number_n257 rfl ⟨rfl, rfl⟩ (fun U H h => h.1 _ (List.mem_of_getElem? (i := 36) rfl)) (List.mem_of_getElem? (i := 5) rfl) (List.mem_of_getElem? (i := 4) rfl) (List.mem_of_getElem? (i := 6) rfl) hdN_X2_number ⟨Nat.le_of_ble_eq_true rfl, Nat.le_of_ble_eq_true rfl⟩ 1 rfl rfl (wX1 g _) rfl rfl (Nat.le_of_ble_eq_true rfl) dX5_perform_6) ?_
  refine xv_istore_n C [(2, .int q1), (0, .ref (aX g 0)), (1, .int x1)] dX5_perform_9 rfl (by decide) rfl ?_
  refine xv_aload_n C dX5_perform_10 rfl 1 rfl ?_
  refine xv_get C hiX5 0 (wX0 g _) rfl 0 (by decide) (List.mem_of_getElem? (i := 1) rfl) rfl dX5_perform_11 ?_
  refine xv_iload_n C dX5_perform_14 rfl 2 rfl ?_
  refine xv_iconst C 1 dX5_perform_15 (by decide) ?_
  obtain ⟨q2, hg, hf⟩ := dt_bind hf
  refine xc_i (xr_VN C (ci := 2) (As := [.int x1, .int 1]) (fun l => c_X2_number g hS l x1 1 a q2 hg) gX5_perform_X2_number_n257 rfl ⟨rfl, rfl⟩ (fun U H h => h.1 _ (List.mem_of_getElem? (i := 36) rfl)) (List.mem_of_getElem? (i := 5) rfl) (List.mem_of_getElem? (i := 4) rfl) (List.mem_of_getElem? (i := 6) rfl) hdN_X2_number ⟨Nat.le_of_ble_eq_true rfl, Nat.le_of_ble_eq_true rfl⟩ 1 rfl rfl (wX1 g _) rfl rfl (Nat.le_of_ble_eq_true rfl) dX5_perform_16) ?_
  refine xv_istore_n C [(3, .int q2), (2, .int q1), (0, .ref (aX g 0)), (1, .int x1)] dX5_perform_19 rfl (by decide) rfl ?_
  refine xv_aload_n C dX5_perform_20 rfl 2 rfl ?_
  refine xv_get C hiX5 0 (wX0 g _) rfl 0 (by decide) (List.mem_of_getElem? (i := 1) rfl) rfl dX5_perform_21 ?_
  refine xv_iload_n C dX5_perform_24 rfl 3 rfl ?_
  refine xv_iconst C 2 dX5_perform_25 (by decide) ?_
  obtain ⟨q3, hg, hf⟩ := dt_bind hf
  refine xc_i (xr_VN C (ci := 2) (As := [.int x1, .int 2]) (fun l => c_X2_number g hS l x1 2 a q3 hg) gX5_perform_X2_number_n257 rfl ⟨rfl, rfl⟩ (fun U H h => h.1 _ (List.mem_of_getElem? (i := 36) rfl)) (List.mem_of_getElem? (i := 5) rfl) (List.mem_of_getElem? (i := 4) rfl) (List.mem_of_getElem? (i := 6) rfl) hdN_X2_number ⟨Nat.le_of_ble_eq_true rfl, Nat.le_of_ble_eq_true rfl⟩ 1 rfl rfl (wX1 g _) rfl rfl (Nat.le_of_ble_eq_true rfl) dX5_perform_26) ?_
  refine xv_istore C [(4, .int q3), (3, .int q2), (2, .int q1), (0, .ref (aX g 0)), (1, .int x1)] dX5_perform_29 (by decide) rfl ?_
  refine xv_aload_n C dX5_perform_31 rfl 3 rfl ?_
  refine xv_get C hiX5 0 (wX0 g _) rfl 0 (by decide) (List.mem_of_getElem? (i := 1) rfl) rfl dX5_perform_32 ?_
  refine xv_iload_n C dX5_perform_35 rfl 4 rfl ?_
  refine xv_iconst C 3 dX5_perform_36 (by decide) ?_
  obtain ⟨q4, hg, hf⟩ := dt_bind hf
  refine xc_i (xr_VN C (ci := 2) (As := [.int x1, .int 3]) (fun l => c_X2_number g hS l x1 3 a q4 hg) gX5_perform_X2_number_n257 rfl ⟨rfl, rfl⟩ (fun U H h => h.1 _ (List.mem_of_getElem? (i := 36) rfl)) (List.mem_of_getElem? (i := 5) rfl) (List.mem_of_getElem? (i := 4) rfl) (List.mem_of_getElem? (i := 6) rfl) hdN_X2_number ⟨Nat.le_of_ble_eq_true rfl, Nat.le_of_ble_eq_true rfl⟩ 1 rfl rfl (wX1 g _) rfl rfl (Nat.le_of_ble_eq_true rfl) dX5_perform_37) ?_
  refine xv_istore C [(5, .int q4), (4, .int q3), (3, .int q2), (2, .int q1), (0, .ref (aX g 0)), (1, .int x1)] dX5_perform_40 (by decide) rfl ?_
  refine xv_aload_n C dX5_perform_42 rfl 4 rfl ?_
  refine xv_get C hiX5 0 (wX0 g _) rfl 0 (by decide) (List.mem_of_getElem? (i := 1) rfl) rfl dX5_perform_43 ?_
  refine xv_getN C hiX2 1 (wX1 g _) rfl 6 (by decide) (fun U H h => h.1 _ (List.mem_of_getElem? (i := 2) rfl)) rfl dX5_perform_46 ?_
  refine xv_iload_n C dX5_perform_49 rfl 5 rfl ?_
  refine xv_iald C 3 0 (wX3 g _) rfl hf dX5_perform_50 (fun hf => ?_)
  refine xv_istore C [(6, .int (a 3 x1.toNatClampNeg)), (5, .int q4), (4, .int q3), (3, .int q2), (2, .int q1), (0, .ref (aX g 0)), (1, .int x1)] dX5_perform_51 (by decide) rfl ?_
  refine xv_iload C dX5_perform_53 0 rfl ?_
  by_cases hs0 : a 3 x1.toNatClampNeg = 4
  · have hf := dt_pos hs0 hf
    refine xv_tin C (off := 49) 104 hs0 dX5_perform_55 (by decide) (by decide) (by decide) (by decide) ?_
    refine xv_aload_n C dX5_perform_104 rfl 5 rfl ?_
    refine xv_get C hiX5 0 (wX0 g _) rfl 1 (by decide) (List.mem_of_getElem? (i := 2) rfl) rfl dX5_perform_105 ?_
    refine xv_iload_n C dX5_perform_108 rfl 4 rfl ?_
    obtain ⟨q5, hg, hf⟩ := dt_bind hf
    refine xc_v (xr_VN C (ci := 4) (As := [.int q1]) (fun l => c_X4_restart g hS l n q1 a q5 hg) gX5_perform_X4_restart_n263 rfl ⟨rfl, rfl⟩ (fun U H h => h.1 _ (List.mem_of_getElem? (i := 37) rfl)) (List.mem_of_getElem? (i := 10) rfl) (List.mem_of_getElem? (i := 9) rfl) (List.mem_of_getElem? (i := 11) rfl) hdN_X4_restart ⟨Nat.le_of_ble_eq_true rfl, Nat.le_of_ble_eq_true rfl⟩ 5 rfl rfl (wX5 g _) rfl rfl (Nat.le_of_ble_eq_true rfl) dX5_perform_109) ?_
    refine xv_aload_n C dX5_perform_112 rfl 5 rfl ?_
    refine xv_get C hiX5 0 (wX0 g _) rfl 2 (by decide) (List.mem_of_getElem? (i := 3) rfl) rfl dX5_perform_113 ?_
    obtain ⟨q6, hg, hf⟩ := dt_bind hf
    refine xc_v (xr_VN C (ci := 0) (As := []) (fun l => c_X0_idleAll__15 g hS l n q5 q6 hg) gX5_perform_X0_idleAll_n265 rfl ⟨rfl, rfl⟩ (fun U H h => h.1 _ (List.mem_of_getElem? (i := 38) rfl)) (List.mem_of_getElem? (i := 20) rfl) (List.mem_of_getElem? (i := 19) rfl) (List.mem_of_getElem? (i := 21) rfl) hdN_X0_idleAll ⟨Nat.le_of_ble_eq_true rfl, Nat.le_of_ble_eq_true rfl⟩ 15 rfl rfl (wX15 g _) rfl rfl (Nat.le_of_ble_eq_true rfl) dX5_perform_116) ?_
    refine xv_goto C 277 dX5_perform_119 (by decide) ?_
    exact xz_v hret hf dX5_perform_277
  have hf := dt_neg hs0 hf
  by_cases hs1 : a 3 x1.toNatClampNeg = 5
  · have hf := dt_pos hs1 hf
    refine xv_tin C (off := 67) 122 hs1 dX5_perform_55 (by decide) (by decide) (by decide) (by decide) ?_
    refine xv_aload_n C dX5_perform_122 rfl 5 rfl ?_
    refine xv_get C hiX5 0 (wX0 g _) rfl 1 (by decide) (List.mem_of_getElem? (i := 2) rfl) rfl dX5_perform_123 ?_
    refine xv_getN C hiX4 5 (wX5 g _) rfl 3 (by decide) (fun U H h => h.1 _ (List.mem_of_getElem? (i := 8) rfl)) rfl dX5_perform_126 ?_
    refine xv_iload_n C dX5_perform_129 rfl 4 rfl ?_
    refine xv_iload_n C dX5_perform_130 rfl 3 rfl ?_
    refine xv_iast C 6 0 (wX6 g _) rfl (up a 6 q1.toNatClampNeg q2) (pX6 g _ _ _) hf dX5_perform_131 (fun hf => ?_)
    refine xv_goto C 277 dX5_perform_132 (by decide) ?_
    exact xz_v hret hf dX5_perform_277
  have hf := dt_neg hs1 hf
  by_cases hs2 : a 3 x1.toNatClampNeg = 6
  · have hf := dt_pos hs2 hf
    refine xv_tin C (off := 80) 135 hs2 dX5_perform_55 (by decide) (by decide) (by decide) (by decide) ?_
    refine xv_aload_n C dX5_perform_135 rfl 5 rfl ?_
    refine xv_get C hiX5 0 (wX0 g _) rfl 1 (by decide) (List.mem_of_getElem? (i := 2) rfl) rfl dX5_perform_136 ?_
    refine xv_getN C hiX4 5 (wX5 g _) rfl 3 (by decide) (fun U H h => h.1 _ (List.mem_of_getElem? (i := 8) rfl)) rfl dX5_perform_139 ?_
    refine xv_iload_n C dX5_perform_142 rfl 4 rfl ?_
    refine xv_iconst C (-1) dX5_perform_143 (by decide) ?_
    refine xv_iast C 6 0 (wX6 g _) rfl (up a 6 q1.toNatClampNeg (-1)) (pX6 g _ _ _) hf dX5_perform_144 (fun hf => ?_)
    refine xv_goto C 277 dX5_perform_145 (by decide) ?_
    exact xz_v hret hf dX5_perform_277
  have hf := dt_neg hs2 hf
  by_cases hs3 : a 3 x1.toNatClampNeg = 7
  · have hf := dt_pos hs3 hf
    refine xv_tin C (off := 93) 148 hs3 dX5_perform_55 (by decide) (by decide) (by decide) (by decide) ?_
    refine xv_aload_n C dX5_perform_148 rfl 5 rfl ?_
    refine xv_get C hiX5 0 (wX0 g _) rfl 1 (by decide) (List.mem_of_getElem? (i := 2) rfl) rfl dX5_perform_149 ?_
    refine xv_getN C hiX4 5 (wX5 g _) rfl 4 (by decide) (fun U H h => h.1 _ (List.mem_of_getElem? (i := 9) rfl)) rfl dX5_perform_152 ?_
    refine xv_iload_n C dX5_perform_155 rfl 4 rfl ?_
    refine xv_iload_n C dX5_perform_156 rfl 3 rfl ?_
    refine xv_iast C 7 0 (wX7 g _) rfl (up a 7 q1.toNatClampNeg q2) (pX7 g _ _ _) hf dX5_perform_157 (fun hf => ?_)
    refine xv_goto C 277 dX5_perform_158 (by decide) ?_
    exact xz_v hret hf dX5_perform_277
  have hf := dt_neg hs3 hf
  by_cases hs4 : a 3 x1.toNatClampNeg = 8
  · have hf := dt_pos hs4 hf
    refine xv_tin C (off := 106) 161 hs4 dX5_perform_55 (by decide) (by decide) (by decide) (by decide) ?_
    refine xv_aload_n C dX5_perform_161 rfl 5 rfl ?_
    refine xv_get C hiX5 0 (wX0 g _) rfl 2 (by decide) (List.mem_of_getElem? (i := 3) rfl) rfl dX5_perform_162 ?_
    refine xv_getN C hiX0 15 (wX15 g _) rfl 0 (by decide) (fun U H h => h.1 _ (List.mem_of_getElem? (i := 20) rfl)) rfl dX5_perform_165 ?_
    refine xv_iload_n C dX5_perform_168 rfl 4 rfl ?_
    refine xv_aload_n C dX5_perform_169 rfl 5 rfl ?_
    refine xv_get C hiX5 0 (wX0 g _) rfl 1 (by decide) (List.mem_of_getElem? (i := 2) rfl) rfl dX5_perform_170 ?_
    refine xv_iload_n C dX5_perform_173 rfl 4 rfl ?_
    refine xv_iload_n C dX5_perform_174 rfl 3 rfl ?_
    refine xv_aload_n C dX5_perform_175 rfl 5 rfl ?_
    refine xv_get C hiX5 0 (wX0 g _) rfl 1 (by decide) (List.mem_of_getElem? (i := 2) rfl) rfl dX5_perform_176 ?_
    refine xv_getN C hiX4 5 (wX5 g _) rfl 2 (by decide) (fun U H h => h.1 _ (List.mem_of_getElem? (i := 7) rfl)) rfl dX5_perform_179 ?_
    obtain ⟨q7, hg, hf⟩ := dt_bind hf
    refine xc_i (xr_VN C (ci := 4) (As := [.int q1, .int q2, .int (a 5 2)]) (fun l => c_X4_can g hS l q1 q2 (a 5 2) a q7 hg) gX5_perform_X4_can_n165 rfl ⟨rfl, rfl⟩ (fun U H h => h.1 _ (List.mem_of_getElem? (i := 39) rfl)) (List.mem_of_getElem? (i := 10) rfl) (List.mem_of_getElem? (i := 24) rfl) (List.mem_of_getElem? (i := 25) rfl) hdN_X4_can ⟨Nat.le_of_ble_eq_true rfl, Nat.le_of_ble_eq_true rfl⟩ 5 rfl rfl (wX5 g _) rfl rfl (Nat.le_of_ble_eq_true rfl) dX5_perform_182) ?_
    refine xv_if_eq C (y := 0) 192 hf dX5_perform_185 (by decide) (fun _ hf => ?_) (fun _ hf => ?_)
    · refine xv_iconst C (-1) dX5_perform_192 (by decide) ?_
      refine xv_iast C 16 0 (wX16 g _) rfl (up a 16 q1.toNatClampNeg (-1)) (pX16 g _ _ _) hf dX5_perform_193 (fun hf => ?_)
      refine xv_goto C 277 dX5_perform_194 (by decide) ?_
      exact xz_v hret hf dX5_perform_277
    · refine xv_iload_n C dX5_perform_188 rfl 3 rfl ?_
      refine xv_goto C 193 dX5_perform_189 (by decide) ?_
      refine xv_iast C 16 0 (wX16 g _) rfl (up a 16 q1.toNatClampNeg q2) (pX16 g _ _ _) hf dX5_perform_193 (fun hf => ?_)
      refine xv_goto C 277 dX5_perform_194 (by decide) ?_
      exact xz_v hret hf dX5_perform_277
  have hf := dt_neg hs4 hf
  by_cases hs5 : a 3 x1.toNatClampNeg = 9
  · have hf := dt_pos hs5 hf
    refine xv_tin C (off := 142) 197 hs5 dX5_perform_55 (by decide) (by decide) (by decide) (by decide) ?_
    refine xv_aload_n C dX5_perform_197 rfl 5 rfl ?_
    refine xv_get C hiX5 0 (wX0 g _) rfl 2 (by decide) (List.mem_of_getElem? (i := 3) rfl) rfl dX5_perform_198 ?_
    refine xv_getN C hiX0 15 (wX15 g _) rfl 0 (by decide) (fun U H h => h.1 _ (List.mem_of_getElem? (i := 20) rfl)) rfl dX5_perform_201 ?_
    refine xv_iload_n C dX5_perform_204 rfl 4 rfl ?_
    refine xv_iconst C (-1) dX5_perform_205 (by decide) ?_
    refine xv_iast C 16 0 (wX16 g _) rfl (up a 16 q1.toNatClampNeg (-1)) (pX16 g _ _ _) hf dX5_perform_206 (fun hf => ?_)
    refine xv_goto C 277 dX5_perform_207 (by decide) ?_
    exact xz_v hret hf dX5_perform_277
  have hf := dt_neg hs5 hf
  by_cases hs6 : a 3 x1.toNatClampNeg = 10
  · have hf := dt_pos hs6 hf
    refine xv_tin C (off := 155) 210 hs6 dX5_perform_55 (by decide) (by decide) (by decide) (by decide) ?_
    refine xv_aload_n C dX5_perform_210 rfl 5 rfl ?_
    refine xv_get C hiX5 0 (wX0 g _) rfl 1 (by decide) (List.mem_of_getElem? (i := 2) rfl) rfl dX5_perform_211 ?_
    refine xv_iload_n C dX5_perform_214 rfl 4 rfl ?_
    refine xv_iload_n C dX5_perform_215 rfl 3 rfl ?_
    refine xv_iload C dX5_perform_216 2 rfl ?_
    obtain ⟨q8, hg, hf⟩ := dt_bind hf
    refine xc_v (xr_VN C (ci := 4) (As := [.int q1, .int q2, .int q3]) (fun l => c_X4_setLiking g hS l q1 q2 q3 a q8 hg) gX5_perform_X4_setLiking_n268 rfl ⟨rfl, rfl⟩ (fun U H h => h.1 _ (List.mem_of_getElem? (i := 41) rfl)) (List.mem_of_getElem? (i := 10) rfl) (List.mem_of_getElem? (i := 37) rfl) (List.mem_of_getElem? (i := 38) rfl) hdN_X4_setLiking ⟨Nat.le_of_ble_eq_true rfl, Nat.le_of_ble_eq_true rfl⟩ 5 rfl rfl (wX5 g _) rfl rfl (Nat.le_of_ble_eq_true rfl) dX5_perform_218) ?_
    refine xv_goto C 277 dX5_perform_221 (by decide) ?_
    exact xz_v hret hf dX5_perform_277
  have hf := dt_neg hs6 hf
  by_cases hs7 : a 3 x1.toNatClampNeg = 11
  · have hf := dt_pos hs7 hf
    refine xv_tin C (off := 169) 224 hs7 dX5_perform_55 (by decide) (by decide) (by decide) (by decide) ?_
    refine xv_aload_n C dX5_perform_224 rfl 5 rfl ?_
    refine xv_get C hiX5 0 (wX0 g _) rfl 1 (by decide) (List.mem_of_getElem? (i := 2) rfl) rfl dX5_perform_225 ?_
    refine xv_dup C dX5_perform_228 rfl ?_
    refine xv_getN C hiX4 5 (wX5 g _) rfl 2 (by decide) (fun U H h => h.1 _ (List.mem_of_getElem? (i := 7) rfl)) rfl dX5_perform_229 ?_
    refine xv_iconst C 1 dX5_perform_232 (by decide) ?_
    refine xv_iload_n C dX5_perform_233 rfl 4 rfl ?_
    refine xv_ishl C dX5_perform_234 ?_
    refine xv_ior C dX5_perform_235 ?_
    refine xv_putN C hiX4 tyX4 tyX4_ok nmX4 5 (wX5 g _) rfl 2 (by decide) (fun U H h => h.1 _ (List.mem_of_getElem? (i := 7) rfl)) rfl (tyX4_ok 2 (by decide)) rfl rfl (Nat.le_of_ble_eq_true rfl) (up a 5 2 ((a 5 2) ||| ((1 : Int32) <<< (q1 &&& 31)))) (pX5_2 g _ _) dX5_perform_236 ?_
    refine xv_goto C 277 dX5_perform_239 (by decide) ?_
    exact xz_v hret hf dX5_perform_277
  have hf := dt_neg hs7 hf
  by_cases hs8 : a 3 x1.toNatClampNeg = 12
  · have hf := dt_pos hs8 hf
    refine xv_tin C (off := 187) 242 hs8 dX5_perform_55 (by decide) (by decide) (by decide) (by decide) ?_
    refine xv_aload_n C dX5_perform_242 rfl 5 rfl ?_
    refine xv_get C hiX5 0 (wX0 g _) rfl 1 (by decide) (List.mem_of_getElem? (i := 2) rfl) rfl dX5_perform_243 ?_
    refine xv_dup C dX5_perform_246 rfl ?_
    refine xv_getN C hiX4 5 (wX5 g _) rfl 2 (by decide) (fun U H h => h.1 _ (List.mem_of_getElem? (i := 7) rfl)) rfl dX5_perform_247 ?_
    refine xv_iconst C 1 dX5_perform_250 (by decide) ?_
    refine xv_iload_n C dX5_perform_251 rfl 4 rfl ?_
    refine xv_ishl C dX5_perform_252 ?_
    refine xv_iconst C (-1) dX5_perform_253 (by decide) ?_
    refine xv_ixor C dX5_perform_254 ?_
    refine xv_iand C dX5_perform_255 ?_
    refine xv_putN C hiX4 tyX4 tyX4_ok nmX4 5 (wX5 g _) rfl 2 (by decide) (fun U H h => h.1 _ (List.mem_of_getElem? (i := 7) rfl)) rfl (tyX4_ok 2 (by decide)) rfl rfl (Nat.le_of_ble_eq_true rfl) (up a 5 2 ((a 5 2) &&& (((1 : Int32) <<< (q1 &&& 31)) ^^^ (-1)))) (pX5_2 g _ _) dX5_perform_256 ?_
    refine xv_goto C 277 dX5_perform_259 (by decide) ?_
    exact xz_v hret hf dX5_perform_277
  have hf := dt_neg hs8 hf
  have e0 := lv_neT (a := 4) hs0 (by decide)
  have e1 := lv_neT (a := 5) hs1 (by decide)
  have e2 := lv_neT (a := 6) hs2 (by decide)
  have e3 := lv_neT (a := 7) hs3 (by decide)
  have e4 := lv_neT (a := 8) hs4 (by decide)
  have e5 := lv_neT (a := 9) hs5 (by decide)
  have e6 := lv_neT (a := 10) hs6 (by decide)
  have e7 := lv_neT (a := 11) hs7 (by decide)
  have e8 := lv_neT (a := 12) hs8 (by decide)
  refine xv_tout C 262 dX5_perform_55 (by omega) (by decide) ?_
  refine xv_aload_n C dX5_perform_262 rfl 5 rfl ?_
  refine xv_get C hiX5 0 (wX0 g _) rfl 1 (by decide) (List.mem_of_getElem? (i := 2) rfl) rfl dX5_perform_263 ?_
  refine xv_iload C dX5_perform_266 0 rfl ?_
  refine xv_iload_n C dX5_perform_268 rfl 4 rfl ?_
  refine xv_iload_n C dX5_perform_269 rfl 3 rfl ?_
  refine xv_iload C dX5_perform_270 2 rfl ?_
  refine xv_iload C dX5_perform_272 1 rfl ?_
  obtain ⟨q9, hg, hf⟩ := dt_bind hf
  refine xc_v (xr_VN C (ci := 4) (As := [.int (a 3 x1.toNatClampNeg), .int q1, .int q2, .int q3, .int q4]) (fun l => c_X4_addDeed g hS l (a 3 x1.toNatClampNeg) q1 q2 q3 q4 a q9 hg) gX5_perform_X4_addDeed_n272 rfl ⟨rfl, rfl⟩ (fun U H h => h.1 _ (List.mem_of_getElem? (i := 42) rfl)) (List.mem_of_getElem? (i := 10) rfl) (List.mem_of_getElem? (i := 40) rfl) (List.mem_of_getElem? (i := 41) rfl) hdN_X4_addDeed ⟨Nat.le_of_ble_eq_true rfl, Nat.le_of_ble_eq_true rfl⟩ 5 rfl rfl (wX5 g _) rfl rfl (Nat.le_of_ble_eq_true rfl) dX5_perform_274) ?_
  exact xz_v hret hf dX5_perform_277
set_option maxRecDepth 100000 in
set_option maxHeartbeats 4000000 in
theorem c_X5_street (g : GX) (hS : xSide (sX g)) (l : Launch) (n : Nat) (a : St) (q : (Int32 × St)) (hf : f_X5_street n a = some q) : Met l yX5_street wsX5_street rm_X5_street (xPre (sX g) [.ref (aX g 0)] a) (xPostI (sX g) q.1 q.2) 0 0 (sX g).2.2.1 := by
  refine xm_i (av := [.ref (aX g 0)]) (cc := cX5_street) (maxL := 2) (by decide) rfl (Nat.le_of_ble_eq_true rfl) hS.1 hS.2 (fun K C hret => ?_)
  have C : CC K (sX g) cX5_street 2 wsX5_street RX5 rm_X5_street := C
  have hiX0 : ∀ w ∈ u_ws RX0 TX0 4, w ∈ wsX5_street := fun w h => List.mem_cons_of_mem _ (List.mem_append_left _ (List.mem_append_right _ h))
  have hiX2 : ∀ w ∈ u_ws RX2 TX2 9, w ∈ wsX5_street := fun w h => List.mem_cons_of_mem _ (List.mem_append_left _ (List.mem_append_left _ (List.mem_append_right _ h)))
  have hiX4 : ∀ w ∈ u_ws RX4 TX4 12, w ∈ wsX5_street := fun w h => List.mem_cons_of_mem _ (List.mem_append_left _ (List.mem_append_left _ (List.mem_append_left _ (List.mem_append_right _ h))))
  have hiX5 : ∀ w ∈ u_ws RX5 TX5 13, w ∈ wsX5_street := fun w h => List.mem_cons_of_mem _ (List.mem_append_left _ (List.mem_append_left _ (List.mem_append_left _ (List.mem_append_left _ (List.mem_append_right _ h)))))
  have hL77 : ∀  (j : Nat) (x1 : Int32) (a : St), L_X5_street_77 n j x1 a = some q → V K (sX g) 2 a [(0, .ref (aX g 0)), (1, .int x1)] 77 [] := by
    intro j
    induction j with
    | zero =>
      intro x1 a hf
      have hf : (none : Option (Int32 × St)) = some q := hf
      cases hf
    | succ j ih =>
      intro x1 a hf
      rw [L_X5_street_77] at hf
      refine xv_iload_n C dX5_street_77 rfl 1 rfl ?_
      refine xv_iconst C 2 dX5_street_78 (by decide) ?_
      refine xv_icmp_ge C 98 hf dX5_street_79 (by decide) (fun _ hf => ?_) (fun _ hf => ?_)
      · refine xv_aload_n C dX5_street_98 rfl 0 rfl ?_
        refine xv_get C hiX5 0 (wX0 g _) rfl 0 (by decide) (List.mem_of_getElem? (i := 1) rfl) rfl dX5_street_99 ?_
        obtain ⟨q5, hg, hf⟩ := dt_bind hf
        refine xc_i (xr_VN C (ci := 2) (As := []) (fun l => c_X2_empty g hS l a q5 hg) gX5_street_X2_empty_n84 rfl ⟨rfl, rfl⟩ (fun U H h => h.1 _ (List.mem_of_getElem? (i := 33) rfl)) (List.mem_of_getElem? (i := 8) rfl) (List.mem_of_getElem? (i := 161) rfl) (List.mem_of_getElem? (i := 162) rfl) hdN_X2_empty ⟨Nat.le_of_ble_eq_true rfl, Nat.le_of_ble_eq_true rfl⟩ 1 rfl rfl (wX1 g _) rfl rfl (Nat.le_of_ble_eq_true rfl) dX5_street_102) ?_
        refine xv_pop C dX5_street_105 rfl ?_
        refine xv_aload_n C dX5_street_106 rfl 0 rfl ?_
        refine xv_get C hiX5 0 (wX0 g _) rfl 0 (by decide) (List.mem_of_getElem? (i := 1) rfl) rfl dX5_street_107 ?_
        refine xv_getN C hiX2 1 (wX1 g _) rfl 8 (by decide) (fun U H h => h.1 _ (List.mem_of_getElem? (i := 3) rfl)) rfl dX5_street_110 ?_
        exact xz_iw hret hf dX5_street_113
      · refine xv_aload_n C dX5_street_82 rfl 0 rfl ?_
        refine xv_get C hiX5 0 (wX0 g _) rfl 3 (by decide) (List.mem_of_getElem? (i := 6) rfl) rfl dX5_street_83 ?_
        refine xv_iload_n C dX5_street_86 rfl 1 rfl ?_
        refine xv_aald2 C 18 1 (wX18 g _) rfl hf dX5_street_87 (fun hf => ?_) (fun hf => ?_)
        · refine xv_iconst C 0 dX5_street_88 (by decide) ?_
          refine xv_putN C hiX0 tyX0 tyX0_ok nmX0 19 (wX19 g _) rfl 3 (by decide) (fun U H h => h.1 _ (List.mem_of_getElem? (i := 23) rfl)) rfl (tyX0_ok 3 (by decide)) rfl rfl (Nat.le_of_ble_eq_true rfl) (up a 19 3 0) (pX19_3 g _ _) dX5_street_89 ?_
          refine xv_iinc C [(1, .int (x1 + 1)), (0, .ref (aX g 0))] dX5_street_92 1 rfl rfl (by decide) rfl ?_
          refine xv_goto C 77 dX5_street_95 (by decide) ?_
          refine xv_eq [1, 0] rfl ?_
          exact ih (x1 + 1) (up a 19 3 0) hf
        · refine xv_iconst C 0 dX5_street_88 (by decide) ?_
          refine xv_putN C hiX0 tyX0 tyX0_ok nmX0 22 (wX22 g _) rfl 3 (by decide) (fun U H h => h.1 _ (List.mem_of_getElem? (i := 23) rfl)) rfl (tyX0_ok 3 (by decide)) rfl rfl (Nat.le_of_ble_eq_true rfl) (up a 22 3 0) (pX22_3 g _ _) dX5_street_89 ?_
          refine xv_iinc C [(1, .int (x1 + 1)), (0, .ref (aX g 0))] dX5_street_92 1 rfl rfl (by decide) rfl ?_
          refine xv_goto C 77 dX5_street_95 (by decide) ?_
          refine xv_eq [1, 0] rfl ?_
          exact ih (x1 + 1) (up a 22 3 0) hf
  have hB52 : ∀  (a : St), B_X5_street_52 n a = some q → V K (sX g) 2 a [(0, .ref (aX g 0))] 52 [] := by
    intro a hf
    rw [B_X5_street_52] at hf
    refine xv_aload_n C dX5_street_52 rfl 0 rfl ?_
    refine xv_get C hiX5 0 (wX0 g _) rfl 2 (by decide) (List.mem_of_getElem? (i := 3) rfl) rfl dX5_street_53 ?_
    obtain ⟨q2, hg, hf⟩ := dt_bind hf
    refine xc_v (xr_VN C (ci := 0) (As := []) (fun l => c_X0_restart__15 g hS l n a q2 hg) gX5_street_X0_restart_n104 rfl ⟨rfl, rfl⟩ (fun U H h => h.1 _ (List.mem_of_getElem? (i := 43) rfl)) (List.mem_of_getElem? (i := 127) rfl) (List.mem_of_getElem? (i := 151) rfl) (List.mem_of_getElem? (i := 152) rfl) hdN_X0_restart ⟨Nat.le_of_ble_eq_true rfl, Nat.le_of_ble_eq_true rfl⟩ 15 rfl rfl (wX15 g _) rfl rfl (Nat.le_of_ble_eq_true rfl) dX5_street_56) ?_
    refine xv_aload_n C dX5_street_59 rfl 0 rfl ?_
    refine xv_get C hiX5 0 (wX0 g _) rfl 4 (by decide) (List.mem_of_getElem? (i := 4) rfl) rfl dX5_street_60 ?_
    obtain ⟨q3, hg, hf⟩ := dt_bind hf
    refine xc_i (xr_VN C (ci := 3) (As := []) (fun l => c_X3_clear__25 g hS l q2 q3 hg) gX5_street_X3_clear_n107 rfl ⟨rfl, rfl⟩ (fun U H h => h.1 _ (List.mem_of_getElem? (i := 44) rfl)) (List.mem_of_getElem? (i := 157) rfl) (List.mem_of_getElem? (i := 156) rfl) (List.mem_of_getElem? (i := 158) rfl) hdN_X3_clear ⟨Nat.le_of_ble_eq_true rfl, Nat.le_of_ble_eq_true rfl⟩ 25 rfl rfl (wX25 g _) rfl rfl (Nat.le_of_ble_eq_true rfl) dX5_street_63) ?_
    refine xv_pop C dX5_street_66 rfl ?_
    refine xv_aload_n C dX5_street_67 rfl 0 rfl ?_
    refine xv_get C hiX5 0 (wX0 g _) rfl 5 (by decide) (List.mem_of_getElem? (i := 5) rfl) rfl dX5_street_68 ?_
    obtain ⟨q4, hg, hf⟩ := dt_bind hf
    refine xc_i (xr_VN C (ci := 3) (As := []) (fun l => c_X3_clear__29 g hS l q3.2 q4 hg) gX5_street_X3_clear_n107 rfl ⟨rfl, rfl⟩ (fun U H h => h.1 _ (List.mem_of_getElem? (i := 44) rfl)) (List.mem_of_getElem? (i := 157) rfl) (List.mem_of_getElem? (i := 156) rfl) (List.mem_of_getElem? (i := 158) rfl) hdN_X3_clear ⟨Nat.le_of_ble_eq_true rfl, Nat.le_of_ble_eq_true rfl⟩ 29 rfl rfl (wX29 g _) rfl rfl (Nat.le_of_ble_eq_true rfl) dX5_street_71) ?_
    refine xv_pop C dX5_street_74 rfl ?_
    refine xv_iconst C 0 dX5_street_75 (by decide) ?_
    refine xv_istore_n C [(1, .int 0), (0, .ref (aX g 0))] dX5_street_76 rfl (by decide) rfl ?_
    refine xv_eq [1, 0] rfl ?_
    exact hL77 n 0 q4.2 hf
  have hL30 : ∀  (j : Nat) (x1 : Int32) (a : St), L_X5_street_30 n j x1 a = some q → V K (sX g) 2 a [(0, .ref (aX g 0)), (1, .int x1)] 30 [] := by
    intro j
    induction j with
    | zero =>
      intro x1 a hf
      have hf : (none : Option (Int32 × St)) = some q := hf
      cases hf
    | succ j ih =>
      intro x1 a hf
      rw [L_X5_street_30] at hf
      refine xv_iload_n C dX5_street_30 rfl 1 rfl ?_
      refine xv_aload_n C dX5_street_31 rfl 0 rfl ?_
      refine xv_get C hiX5 0 (wX0 g _) rfl 0 (by decide) (List.mem_of_getElem? (i := 1) rfl) rfl dX5_street_32 ?_
      refine xv_getN C hiX2 1 (wX1 g _) rfl 8 (by decide) (fun U H h => h.1 _ (List.mem_of_getElem? (i := 3) rfl)) rfl dX5_street_35 ?_
      refine xv_icmp_ge C 52 hf dX5_street_38 (by decide) (fun _ hf => ?_) (fun _ hf => ?_)
      · refine xv_eq [0] rfl ?_
        exact hB52 a hf
      · refine xv_aload_n C dX5_street_41 rfl 0 rfl ?_
        refine xv_iload_n C dX5_street_42 rfl 1 rfl ?_
        obtain ⟨q6, hg, hf⟩ := dt_bind hf
        refine xc_v (xr_V C (ci := 5) (As := [.int x1]) (fun l => c_X5_perform g hS l n x1 a q6 hg) gX5_street_X5_perform rfl ⟨rfl, rfl⟩ hdV_X5_perform ⟨Nat.le_of_ble_eq_true rfl, Nat.le_of_ble_eq_true rfl⟩ 0 rfl rfl (wX0 g _) rfl rfl (Nat.le_of_ble_eq_true rfl) dX5_street_43) ?_
        refine xv_iinc C [(1, .int (x1 + 1)), (0, .ref (aX g 0))] dX5_street_46 1 rfl rfl (by decide) rfl ?_
        refine xv_goto C 30 dX5_street_49 (by decide) ?_
        refine xv_eq [1, 0] rfl ?_
        exact ih (x1 + 1) q6 hf
  rw [f_X5_street] at hf
  show V K (sX g) 2 a [(0, .ref (aX g 0))] 0 []
  refine xv_aload_n C dX5_street_0 rfl 0 rfl ?_
  refine xv_get C hiX5 0 (wX0 g _) rfl 0 (by decide) (List.mem_of_getElem? (i := 1) rfl) rfl dX5_street_1 ?_
  refine xv_aload_n C dX5_street_4 rfl 0 rfl ?_
  refine xv_get C hiX5 0 (wX0 g _) rfl 1 (by decide) (List.mem_of_getElem? (i := 2) rfl) rfl dX5_street_5 ?_
  refine xv_getN C hiX4 5 (wX5 g _) rfl 0 (by decide) (fun U H h => h.1 _ (List.mem_of_getElem? (i := 5) rfl)) rfl dX5_street_8 ?_
  refine xv_aload_n C dX5_street_11 rfl 0 rfl ?_
  refine xv_get C hiX5 0 (wX0 g _) rfl 1 (by decide) (List.mem_of_getElem? (i := 2) rfl) rfl dX5_street_12 ?_
  refine xv_getN C hiX4 5 (wX5 g _) rfl 1 (by decide) (fun U H h => h.1 _ (List.mem_of_getElem? (i := 6) rfl)) rfl dX5_street_15 ?_
  obtain ⟨q1, hg, hf⟩ := dt_bind hf
  refine xc_i (xr_VN C (ci := 2) (As := [.int (a 5 0), .int (a 5 1)]) (fun l => c_X2_faultPlace g hS l n (a 5 0) (a 5 1) a q1 hg) gX5_street_X2_faultPlace_n94 rfl ⟨rfl, rfl⟩ (fun U H h => h.1 _ (List.mem_of_getElem? (i := 34) rfl)) (List.mem_of_getElem? (i := 8) rfl) (List.mem_of_getElem? (i := 7) rfl) (List.mem_of_getElem? (i := 9) rfl) hdN_X2_faultPlace ⟨Nat.le_of_ble_eq_true rfl, Nat.le_of_ble_eq_true rfl⟩ 1 rfl rfl (wX1 g _) rfl rfl (Nat.le_of_ble_eq_true rfl) dX5_street_18) ?_
  refine xv_iconst C (-1) dX5_street_21 (by decide) ?_
  refine xv_icmp_eq C 28 hf dX5_street_22 (by decide) (fun _ hf => ?_) (fun _ hf => ?_)
  · refine xv_iconst C 0 dX5_street_28 (by decide) ?_
    refine xv_istore_n C [(1, .int 0), (0, .ref (aX g 0))] dX5_street_29 rfl (by decide) rfl ?_
    refine xv_eq [1, 0] rfl ?_
    exact hL30 n 0 q1.2 hf
  · refine xv_bipush C (-4) dX5_street_25 (by decide) ?_
    exact xz_iw hret hf dX5_street_27
set_option maxRecDepth 100000 in
set_option maxHeartbeats 4000000 in
theorem c_X4_hasHouse (g : GX) (hS : xSide (sX g)) (l : Launch) (x1 : Int32) (a : St) (q : Int32) (hf : f_X4_hasHouse x1 a = some q) : Met l yX4_hasHouse wsX4_hasHouse rm_X4_hasHouse (xPre (sX g) [.ref (aX g 5), .int x1] a) (xPostI (sX g) q a) 0 0 (sX g).2.2.1 := by
  refine xm_z (av := [.ref (aX g 5), .int x1]) (cc := cX4_hasHouse) (maxL := 2) (by decide) rfl (Nat.le_of_ble_eq_true rfl) hS.1 hS.2 (fun K C hret => ?_)
  have C : CC K (sX g) cX4_hasHouse 2 wsX4_hasHouse RX4 rm_X4_hasHouse := C
  have hiX4 : ∀ w ∈ u_ws RX4 TX4 12, w ∈ wsX4_hasHouse := fun w h => List.mem_cons_of_mem _ (List.mem_append_right _ h)
  rw [f_X4_hasHouse] at hf
  show V K (sX g) 2 a [(0, .ref (aX g 5)), (1, .int x1)] 0 []
  refine xv_iload_n C dX4_hasHouse_0 rfl 1 rfl ?_
  refine xv_iconst C 0 dX4_hasHouse_1 (by decide) ?_
  refine xv_aload_n C dX4_hasHouse_2 rfl 0 rfl ?_
  refine xv_get C hiX4 5 (wX5 g _) rfl 0 (by decide) (List.mem_of_getElem? (i := 1) rfl) rfl dX4_hasHouse_3 ?_
  refine xv_iconst C 1 dX4_hasHouse_6 (by decide) ?_
  refine xv_isub C dX4_hasHouse_7 ?_
  obtain ⟨q1, hg, hf⟩ := dt_bind hf
  refine xc_i (xr_SN C (As := [.int x1, .int 0, .int ((a 5 0) - 1)]) (fun l => c_X5_within (sX g) hS l x1 0 ((a 5 0) - 1) a q1 hg) gX4_hasHouse_X5_within_n53 rfl ⟨rfl, rfl⟩ (fun U H h => h.1 _ (List.mem_of_getElem? (i := 46) rfl)) (List.mem_of_getElem? (i := 3) rfl) (List.mem_of_getElem? (i := 2) rfl) hdS_X5_within ⟨Nat.le_of_ble_eq_true rfl, Nat.le_of_ble_eq_true rfl⟩ rfl rfl (Nat.le_of_ble_eq_true rfl) dX4_hasHouse_8) ?_
  exact xz_zgr hret hf dX4_hasHouse_11
set_option maxRecDepth 100000 in
set_option maxHeartbeats 4000000 in
theorem c_X5_house (g : GX) (hS : xSide (sX g)) (l : Launch) (x1 : Int32) (x2 : Int32) (a : St) (q : Int32) (hf : f_X5_house x1 x2 a = some q) : Met l yX5_house wsX5_house rm_X5_house (xPre (sX g) [.ref (aX g 0), .int x1, .int x2] a) (xPostI (sX g) q a) 0 0 (sX g).2.2.1 := by
  refine xm_i (av := [.ref (aX g 0), .int x1, .int x2]) (cc := cX5_house) (maxL := 3) (by decide) rfl (Nat.le_of_ble_eq_true rfl) hS.1 hS.2 (fun K C hret => ?_)
  have C : CC K (sX g) cX5_house 3 wsX5_house RX5 rm_X5_house := C
  have hiX0 : ∀ w ∈ u_ws RX0 TX0 4, w ∈ wsX5_house := fun w h => List.mem_cons_of_mem _ (List.mem_append_right _ h)
  have hiX4 : ∀ w ∈ u_ws RX4 TX4 12, w ∈ wsX5_house := fun w h => List.mem_cons_of_mem _ (List.mem_append_left _ (List.mem_append_right _ h))
  have hiX5 : ∀ w ∈ u_ws RX5 TX5 13, w ∈ wsX5_house := fun w h => List.mem_cons_of_mem _ (List.mem_append_left _ (List.mem_append_left _ (List.mem_append_right _ h)))
  rw [f_X5_house] at hf
  show V K (sX g) 3 a [(0, .ref (aX g 0)), (1, .int x1), (2, .int x2)] 0 []
  refine xv_aload_n C dX5_house_0 rfl 0 rfl ?_
  refine xv_get C hiX5 0 (wX0 g _) rfl 1 (by decide) (List.mem_of_getElem? (i := 1) rfl) rfl dX5_house_1 ?_
  refine xv_iload_n C dX5_house_4 rfl 1 rfl ?_
  obtain ⟨q1, hg, hf⟩ := dt_bind hf
  refine xc_i (xr_VN C (ci := 4) (As := [.int x1]) (fun l => c_X4_hasHouse g hS l x1 a q1 hg) gX5_house_X4_hasHouse_n114 rfl ⟨rfl, rfl⟩ (fun U H h => h.1 _ (List.mem_of_getElem? (i := 45) rfl)) (List.mem_of_getElem? (i := 4) rfl) (List.mem_of_getElem? (i := 3) rfl) (List.mem_of_getElem? (i := 5) rfl) hdN_X4_hasHouse ⟨Nat.le_of_ble_eq_true rfl, Nat.le_of_ble_eq_true rfl⟩ 5 rfl rfl (wX5 g _) rfl rfl (Nat.le_of_ble_eq_true rfl) dX5_house_5) ?_
  refine xv_if_ne C (y := 0) 14 hf dX5_house_8 (by decide) (fun _ hf => ?_) (fun _ hf => ?_)
  · refine xv_bipush C (-2) dX5_house_11 (by decide) ?_
    exact xz_ir hret hf dX5_house_13
  · refine xv_iload_n C dX5_house_14 rfl 2 rfl ?_
    by_cases hs0 : x2 = 0
    · have hf := dt_pos hs0 hf
      refine xv_tin C (off := 29) 44 hs0 dX5_house_15 (by decide) (by decide) (by decide) (by decide) ?_
      refine xv_aload_n C dX5_house_44 rfl 0 rfl ?_
      refine xv_get C hiX5 0 (wX0 g _) rfl 1 (by decide) (List.mem_of_getElem? (i := 1) rfl) rfl dX5_house_45 ?_
      refine xv_getN C hiX4 5 (wX5 g _) rfl 3 (by decide) (fun U H h => h.1 _ (List.mem_of_getElem? (i := 8) rfl)) rfl dX5_house_48 ?_
      refine xv_iload_n C dX5_house_51 rfl 1 rfl ?_
      refine xv_iald C 6 0 (wX6 g _) rfl hf dX5_house_52 (fun hf => ?_)
      exact xz_ir hret hf dX5_house_53
    have hf := dt_neg hs0 hf
    by_cases hs1 : x2 = 1
    · have hf := dt_pos hs1 hf
      refine xv_tin C (off := 39) 54 hs1 dX5_house_15 (by decide) (by decide) (by decide) (by decide) ?_
      refine xv_aload_n C dX5_house_54 rfl 0 rfl ?_
      refine xv_get C hiX5 0 (wX0 g _) rfl 1 (by decide) (List.mem_of_getElem? (i := 1) rfl) rfl dX5_house_55 ?_
      refine xv_getN C hiX4 5 (wX5 g _) rfl 4 (by decide) (fun U H h => h.1 _ (List.mem_of_getElem? (i := 9) rfl)) rfl dX5_house_58 ?_
      refine xv_iload_n C dX5_house_61 rfl 1 rfl ?_
      refine xv_iald C 7 0 (wX7 g _) rfl hf dX5_house_62 (fun hf => ?_)
      exact xz_ir hret hf dX5_house_63
    have hf := dt_neg hs1 hf
    by_cases hs2 : x2 = 2
    · have hf := dt_pos hs2 hf
      refine xv_tin C (off := 49) 64 hs2 dX5_house_15 (by decide) (by decide) (by decide) (by decide) ?_
      refine xv_aload_n C dX5_house_64 rfl 0 rfl ?_
      refine xv_get C hiX5 0 (wX0 g _) rfl 2 (by decide) (List.mem_of_getElem? (i := 2) rfl) rfl dX5_house_65 ?_
      refine xv_getN C hiX0 15 (wX15 g _) rfl 0 (by decide) (fun U H h => h.1 _ (List.mem_of_getElem? (i := 20) rfl)) rfl dX5_house_68 ?_
      refine xv_iload_n C dX5_house_71 rfl 1 rfl ?_
      refine xv_iald C 16 0 (wX16 g _) rfl hf dX5_house_72 (fun hf => ?_)
      exact xz_ir hret hf dX5_house_73
    have hf := dt_neg hs2 hf
    by_cases hs3 : x2 = 3
    · have hf := dt_pos hs3 hf
      refine xv_tin C (off := 59) 74 hs3 dX5_house_15 (by decide) (by decide) (by decide) (by decide) ?_
      refine xv_aload_n C dX5_house_74 rfl 0 rfl ?_
      refine xv_get C hiX5 0 (wX0 g _) rfl 2 (by decide) (List.mem_of_getElem? (i := 2) rfl) rfl dX5_house_75 ?_
      refine xv_getN C hiX0 15 (wX15 g _) rfl 1 (by decide) (fun U H h => h.1 _ (List.mem_of_getElem? (i := 21) rfl)) rfl dX5_house_78 ?_
      refine xv_iload_n C dX5_house_81 rfl 1 rfl ?_
      refine xv_iald C 17 0 (wX17 g _) rfl hf dX5_house_82 (fun hf => ?_)
      exact xz_ir hret hf dX5_house_83
    have hf := dt_neg hs3 hf
    have e0 := lv_neT (a := 0) hs0 (by decide)
    have e1 := lv_neT (a := 1) hs1 (by decide)
    have e2 := lv_neT (a := 2) hs2 (by decide)
    have e3 := lv_neT (a := 3) hs3 (by decide)
    refine xv_tout C 84 dX5_house_15 (by omega) (by decide) ?_
    refine xv_bipush C (-3) dX5_house_84 (by decide) ?_
    exact xz_ir hret hf dX5_house_86
set_option maxRecDepth 100000 in
set_option maxHeartbeats 4000000 in
theorem c_X4_hasDeed (g : GX) (hS : xSide (sX g)) (l : Launch) (x1 : Int32) (a : St) (q : Int32) (hf : f_X4_hasDeed x1 a = some q) : Met l yX4_hasDeed wsX4_hasDeed rm_X4_hasDeed (xPre (sX g) [.ref (aX g 5), .int x1] a) (xPostI (sX g) q a) 0 0 (sX g).2.2.1 := by
  refine xm_z (av := [.ref (aX g 5), .int x1]) (cc := cX4_hasDeed) (maxL := 2) (by decide) rfl (Nat.le_of_ble_eq_true rfl) hS.1 hS.2 (fun K C hret => ?_)
  have C : CC K (sX g) cX4_hasDeed 2 wsX4_hasDeed RX4 rm_X4_hasDeed := C
  have hiX4 : ∀ w ∈ u_ws RX4 TX4 12, w ∈ wsX4_hasDeed := fun w h => List.mem_cons_of_mem _ (List.mem_append_right _ h)
  rw [f_X4_hasDeed] at hf
  show V K (sX g) 2 a [(0, .ref (aX g 5)), (1, .int x1)] 0 []
  refine xv_iload_n C dX4_hasDeed_0 rfl 1 rfl ?_
  refine xv_iconst C 0 dX4_hasDeed_1 (by decide) ?_
  refine xv_aload_n C dX4_hasDeed_2 rfl 0 rfl ?_
  refine xv_get C hiX4 5 (wX5 g _) rfl 1 (by decide) (List.mem_of_getElem? (i := 1) rfl) rfl dX4_hasDeed_3 ?_
  refine xv_iconst C 1 dX4_hasDeed_6 (by decide) ?_
  refine xv_isub C dX4_hasDeed_7 ?_
  obtain ⟨q1, hg, hf⟩ := dt_bind hf
  refine xc_i (xr_SN C (As := [.int x1, .int 0, .int ((a 5 1) - 1)]) (fun l => c_X5_within (sX g) hS l x1 0 ((a 5 1) - 1) a q1 hg) gX4_hasDeed_X5_within_n53 rfl ⟨rfl, rfl⟩ (fun U H h => h.1 _ (List.mem_of_getElem? (i := 46) rfl)) (List.mem_of_getElem? (i := 3) rfl) (List.mem_of_getElem? (i := 2) rfl) hdS_X5_within ⟨Nat.le_of_ble_eq_true rfl, Nat.le_of_ble_eq_true rfl⟩ rfl rfl (Nat.le_of_ble_eq_true rfl) dX4_hasDeed_8) ?_
  exact xz_zgr hret hf dX4_hasDeed_11
