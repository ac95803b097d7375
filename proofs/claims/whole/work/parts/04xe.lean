set_option maxRecDepth 100000 in
set_option maxHeartbeats 4000000 in
theorem c_X1_clear__41 (g : GX) (hS : xSide (sX g)) (l : Launch) (n : Nat) (a : St) (q : St) (hf : f_X1_clear n 41 a = some q) : Met l yX1_clear wsX1_clear rm_X1_clear (xPre (sX g) [.ref (aX g 41)] a) (xPostV (sX g) q) 0 0 (sX g).2.2.1 := by
  refine xm_v (av := [.ref (aX g 41)]) (cc := cX1_clear) (maxL := 2) (by decide) rfl (Nat.le_of_ble_eq_true rfl) hS.1 hS.2 (fun K C hret => ?_)
  have C : CC K (sX g) cX1_clear 2 wsX1_clear RX1 rm_X1_clear := C
  have hiX1 : ∀ w ∈ u_ws RX1 TX1 2, w ∈ wsX1_clear := fun w h => List.mem_cons_of_mem _ (List.mem_append_right _ h)
  have hL2 : ∀  (j : Nat) (x1 : Int32) (a : St), L_X1_clear_2 n 41 j x1 a = some q → V K (sX g) 2 a [(0, .ref (aX g 41)), (1, .int x1)] 2 [] := by
    intro j
    induction j with
    | zero =>
      intro x1 a hf
      have hf : (none : Option St) = some q := hf
      cases hf
    | succ j ih =>
      intro x1 a hf
      rw [L_X1_clear_2] at hf
      refine xv_iload_n C dX1_clear_2 rfl 1 rfl ?_
      refine xv_bipush C 6 dX1_clear_3 (by decide) ?_
      refine xv_icmp_ge C 28 hf dX1_clear_5 (by decide) (fun _ hf => ?_) (fun _ hf => ?_)
      · exact xz_v hret hf dX1_clear_28
      · refine xv_aload_n C dX1_clear_8 rfl 0 rfl ?_
        refine xv_get C hiX1 41 (wX41 g _) rfl 0 (by decide) (List.mem_of_getElem? (i := 1) rfl) rfl dX1_clear_9 ?_
        refine xv_iload_n C dX1_clear_12 rfl 1 rfl ?_
        refine xv_iconst C 0 dX1_clear_13 (by decide) ?_
        refine xv_iast C 42 0 (wX42 g _) rfl (up a 42 x1.toNatClampNeg 0) (pX42 g _ _ _) hf dX1_clear_14 (fun hf => ?_)
        refine xv_aload_n C dX1_clear_15 rfl 0 rfl ?_
        refine xv_get C hiX1 41 (wX41 g _) rfl 1 (by decide) (List.mem_of_getElem? (i := 2) rfl) rfl dX1_clear_16 ?_
        refine xv_iload_n C dX1_clear_19 rfl 1 rfl ?_
        refine xv_iconst C 0 dX1_clear_20 (by decide) ?_
        refine xv_iast C 43 0 (wX43 g _) rfl (up (up a 42 x1.toNatClampNeg 0) 43 x1.toNatClampNeg 0) (pX43 g _ _ _) hf dX1_clear_21 (fun hf => ?_)
        refine xv_iinc C [(1, .int (x1 + 1)), (0, .ref (aX g 41))] dX1_clear_22 1 rfl rfl (by decide) rfl ?_
        refine xv_goto C 2 dX1_clear_25 (by decide) ?_
        refine xv_eq [1, 0] rfl ?_
        exact ih (x1 + 1) (up (up a 42 x1.toNatClampNeg 0) 43 x1.toNatClampNeg 0) hf
  rw [f_X1_clear] at hf
  show V K (sX g) 2 a [(0, .ref (aX g 41))] 0 []
  refine xv_iconst C 0 dX1_clear_0 (by decide) ?_
  refine xv_istore_n C [(1, .int 0), (0, .ref (aX g 41))] dX1_clear_1 rfl (by decide) rfl ?_
  refine xv_eq [1, 0] rfl ?_
  exact hL2 n 0 a hf
set_option maxRecDepth 100000 in
set_option maxHeartbeats 4000000 in
theorem c_X1_note__41 (g : GX) (hS : xSide (sX g)) (l : Launch) (x2 : Int32) (x3 : Int32) (a : St) (q : St) (hf : f_X1_note 41 x2 x3 a = some q) : Met l yX1_note wsX1_note rm_X1_note (xPre (sX g) [.ref (aX g 41), .ref (aX g 5), .int x2, .int x3] a) (xPostV (sX g) q) 0 0 (sX g).2.2.1 := by
  refine xm_v (av := [.ref (aX g 41), .ref (aX g 5), .int x2, .int x3]) (cc := cX1_note) (maxL := 4) (by decide) rfl (Nat.le_of_ble_eq_true rfl) hS.1 hS.2 (fun K C hret => ?_)
  have C : CC K (sX g) cX1_note 4 wsX1_note RX1 rm_X1_note := C
  have hiX1 : ∀ w ∈ u_ws RX1 TX1 2, w ∈ wsX1_note := fun w h => List.mem_cons_of_mem _ (List.mem_append_left _ (List.mem_append_right _ h))
  have hiX4 : ∀ w ∈ u_ws RX4 TX4 12, w ∈ wsX1_note := fun w h => List.mem_cons_of_mem _ (List.mem_append_right _ h)
  rw [f_X1_note] at hf
  show V K (sX g) 4 a [(0, .ref (aX g 41)), (1, .ref (aX g 5)), (2, .int x2), (3, .int x3)] 0 []
  refine xv_aload_n C dX1_note_0 rfl 0 rfl ?_
  refine xv_get C hiX1 41 (wX41 g _) rfl 0 (by decide) (List.mem_of_getElem? (i := 1) rfl) rfl dX1_note_1 ?_
  refine xv_iload_n C dX1_note_4 rfl 3 rfl ?_
  refine xv_dup2 C dX1_note_5 rfl rfl ?_
  refine xv_iald C 42 0 (wX42 g _) rfl hf dX1_note_6 (fun hf => ?_)
  refine xv_aload_n C dX1_note_7 rfl 1 rfl ?_
  refine xv_getN C hiX4 5 (wX5 g _) rfl 9 (by decide) (fun U H h => h.1 _ (List.mem_of_getElem? (i := 15) rfl)) rfl dX1_note_8 ?_
  refine xv_iload_n C dX1_note_11 rfl 3 rfl ?_
  refine xv_iald C 12 0 (wX12 g _) rfl hf dX1_note_12 (fun hf => ?_)
  refine xv_iadd C dX1_note_13 ?_
  refine xv_iast C 42 0 (wX42 g _) rfl (up a 42 x3.toNatClampNeg ((a 42 x3.toNatClampNeg) + (a 12 x3.toNatClampNeg))) (pX42 g _ _ _) hf dX1_note_14 (fun hf => ?_)
  refine xv_aload_n C dX1_note_15 rfl 1 rfl ?_
  refine xv_getN C hiX4 5 (wX5 g _) rfl 8 (by decide) (fun U H h => h.1 _ (List.mem_of_getElem? (i := 13) rfl)) rfl dX1_note_16 ?_
  refine xv_iload_n C dX1_note_19 rfl 3 rfl ?_
  refine xv_iald C 11 0 (wX11 g _) rfl hf dX1_note_20 (fun hf => ?_)
  refine xv_iload_n C dX1_note_21 rfl 2 rfl ?_
  refine xv_icmp_eq C 40 hf dX1_note_22 (by decide) (fun _ hf => ?_) (fun _ hf => ?_)
  · exact xz_v hret hf dX1_note_40
  · refine xv_aload_n C dX1_note_25 rfl 0 rfl ?_
    refine xv_get C hiX1 41 (wX41 g _) rfl 1 (by decide) (List.mem_of_getElem? (i := 2) rfl) rfl dX1_note_26 ?_
    refine xv_iload_n C dX1_note_29 rfl 3 rfl ?_
    refine xv_dup2 C dX1_note_30 rfl rfl ?_
    refine xv_iald C 43 0 (wX43 g _) rfl hf dX1_note_31 (fun hf => ?_)
    refine xv_aload_n C dX1_note_32 rfl 1 rfl ?_
    refine xv_getN C hiX4 5 (wX5 g _) rfl 10 (by decide) (fun U H h => h.1 _ (List.mem_of_getElem? (i := 17) rfl)) rfl dX1_note_33 ?_
    refine xv_iload_n C dX1_note_36 rfl 3 rfl ?_
    refine xv_iald C 13 0 (wX13 g _) rfl hf dX1_note_37 (fun hf => ?_)
    refine xv_iadd C dX1_note_38 ?_
    refine xv_iast C 43 0 (wX43 g _) rfl (up (up a 42 x3.toNatClampNeg ((a 42 x3.toNatClampNeg) + (a 12 x3.toNatClampNeg))) 43 x3.toNatClampNeg (((up a 42 x3.toNatClampNeg ((a 42 x3.toNatClampNeg) + (a 12 x3.toNatClampNeg))) 43 x3.toNatClampNeg) + ((up a 42 x3.toNatClampNeg ((a 42 x3.toNatClampNeg) + (a 12 x3.toNatClampNeg))) 13 x3.toNatClampNeg))) (pX43 g _ _ _) hf dX1_note_39 (fun hf => ?_)
    exact xz_v hret hf dX1_note_40
set_option maxRecDepth 100000 in
set_option maxHeartbeats 4000000 in
theorem c_X5_tally__41 (g : GX) (hS : xSide (sX g)) (l : Launch) (n : Nat) (x2 : Int32) (x3 : Int32) (a : St) (q : St) (hf : f_X5_tally n 41 x2 x3 a = some q) : Met l yX5_tally wsX5_tally rm_X5_tally (xPre (sX g) [.ref (aX g 0), .ref (aX g 41), .int x2, .int x3] a) (xPostV (sX g) q) 0 0 (sX g).2.2.1 := by
  refine xm_v (av := [.ref (aX g 0), .ref (aX g 41), .int x2, .int x3]) (cc := cX5_tally) (maxL := 6) (by decide) rfl (Nat.le_of_ble_eq_true rfl) hS.1 hS.2 (fun K C hret => ?_)
  have C : CC K (sX g) cX5_tally 6 wsX5_tally RX5 rm_X5_tally := C
  have hiX4 : ∀ w ∈ u_ws RX4 TX4 12, w ∈ wsX5_tally := fun w h => List.mem_cons_of_mem _ (List.mem_append_left _ (List.mem_append_left _ (List.mem_append_right _ h)))
  have hiX5 : ∀ w ∈ u_ws RX5 TX5 13, w ∈ wsX5_tally := fun w h => List.mem_cons_of_mem _ (List.mem_append_left _ (List.mem_append_left _ (List.mem_append_left _ (List.mem_append_right _ h))))
  have hB67 : ∀ (x2 : Int32) (x3 : Int32) (x4 : Int32) (k12 : Int32 → St → Option St) (hk12 : ∀ (y4 : Int32) (b : St), k12 y4 b = some q → V K (sX g) 6 b [(0, .ref (aX g 0)), (1, .ref (aX g 41)), (2, .int x2), (3, .int x3), (4, .int y4)] 12 []) (a : St), B_X5_tally_67 n 41 k12 x2 x3 x4 a = some q → V K (sX g) 6 a [(0, .ref (aX g 0)), (1, .ref (aX g 41)), (2, .int x2), (3, .int x3), (4, .int x4)] 67 [] := by
    intro x2 x3 x4 k12 hk12 a hf
    rw [B_X5_tally_67] at hf
    refine xv_aload_n C dX5_tally_67 rfl 0 rfl ?_
    refine xv_get C hiX5 0 (wX0 g _) rfl 1 (by decide) (List.mem_of_getElem? (i := 1) rfl) rfl dX5_tally_68 ?_
    refine xv_aload_n C dX5_tally_71 rfl 0 rfl ?_
    refine xv_get C hiX5 0 (wX0 g _) rfl 6 (by decide) (List.mem_of_getElem? (i := 2) rfl) rfl dX5_tally_72 ?_
    refine xv_iload_n C dX5_tally_75 rfl 3 rfl ?_
    obtain ⟨q3, hg, hf⟩ := dt_bind hf
    refine xc_v (xr_VN C (ci := 4) (As := [.ref (aX g 33), .int x3]) (fun l => c_X4_passDay__33 g hS l n x3 a q3 hg) gX5_tally_X4_passDay_n174 rfl ⟨rfl, rfl⟩ (fun U H h => h.1 _ (List.mem_of_getElem? (i := 51) rfl)) (List.mem_of_getElem? (i := 20) rfl) (List.mem_of_getElem? (i := 19) rfl) (List.mem_of_getElem? (i := 21) rfl) hdN_X4_passDay ⟨Nat.le_of_ble_eq_true rfl, Nat.le_of_ble_eq_true rfl⟩ 5 rfl rfl (wX5 g _) rfl rfl (Nat.le_of_ble_eq_true rfl) dX5_tally_76) ?_
    refine xv_iinc C [(4, .int (x4 + 1)), (0, .ref (aX g 0)), (1, .ref (aX g 41)), (2, .int x2), (3, .int x3)] dX5_tally_79 4 rfl rfl (by decide) rfl ?_
    refine xv_goto C 12 dX5_tally_82 (by decide) ?_
    refine xv_eq [1, 2, 3, 4, 0] rfl ?_
    exact hk12 (x4 + 1) q3 hf
  have hL21 : ∀ (x2 : Int32) (x3 : Int32) (x4 : Int32) (k12 : Int32 → St → Option St) (hk12 : ∀ (y4 : Int32) (b : St), k12 y4 b = some q → V K (sX g) 6 b [(0, .ref (aX g 0)), (1, .ref (aX g 41)), (2, .int x2), (3, .int x3), (4, .int y4)] 12 []) (j : Nat) (x5 : Int32) (a : St), L_X5_tally_21 n 41 k12 x2 x3 x4 j x5 a = some q → V K (sX g) 6 a [(0, .ref (aX g 0)), (1, .ref (aX g 41)), (2, .int x2), (3, .int x3), (4, .int x4), (5, .int x5)] 21 [] := by
    intro x2 x3 x4 k12 hk12 j
    induction j with
    | zero =>
      intro x5 a hf
      have hf : (none : Option St) = some q := hf
      cases hf
    | succ j ih =>
      intro x5 a hf
      rw [L_X5_tally_21] at hf
      refine xv_iload C dX5_tally_21 5 rfl ?_
      refine xv_aload_n C dX5_tally_23 rfl 0 rfl ?_
      refine xv_get C hiX5 0 (wX0 g _) rfl 1 (by decide) (List.mem_of_getElem? (i := 1) rfl) rfl dX5_tally_24 ?_
      refine xv_getN C hiX4 5 (wX5 g _) rfl 0 (by decide) (fun U H h => h.1 _ (List.mem_of_getElem? (i := 5) rfl)) rfl dX5_tally_27 ?_
      refine xv_icmp_ge C 67 hf dX5_tally_30 (by decide) (fun _ hf => ?_) (fun _ hf => ?_)
      · refine xv_eq [0, 1, 2, 3, 4] rfl ?_
        exact hB67 x2 x3 x4 k12 hk12 a hf
      · refine xv_aload_n C dX5_tally_33 rfl 0 rfl ?_
        refine xv_get C hiX5 0 (wX0 g _) rfl 6 (by decide) (List.mem_of_getElem? (i := 2) rfl) rfl dX5_tally_34 ?_
        refine xv_iload C dX5_tally_37 5 rfl ?_
        refine xv_iald C 33 0 (wX33 g _) rfl hf dX5_tally_39 (fun hf => ?_)
        refine xv_iconst C (-1) dX5_tally_40 (by decide) ?_
        refine xv_icmp_eq C 61 hf dX5_tally_41 (by decide) (fun _ hf => ?_) (fun _ hf => ?_)
        · refine xv_iinc C [(5, .int (x5 + 1)), (0, .ref (aX g 0)), (1, .ref (aX g 41)), (2, .int x2), (3, .int x3), (4, .int x4)] dX5_tally_61 5 rfl rfl (by decide) rfl ?_
          refine xv_goto C 21 dX5_tally_64 (by decide) ?_
          refine xv_eq [1, 2, 3, 4, 5, 0] rfl ?_
          exact ih (x5 + 1) a hf
        · refine xv_aload_n C dX5_tally_44 rfl 1 rfl ?_
          refine xv_aload_n C dX5_tally_45 rfl 0 rfl ?_
          refine xv_get C hiX5 0 (wX0 g _) rfl 1 (by decide) (List.mem_of_getElem? (i := 1) rfl) rfl dX5_tally_46 ?_
          refine xv_iload C dX5_tally_49 5 rfl ?_
          refine xv_aload_n C dX5_tally_51 rfl 0 rfl ?_
          refine xv_get C hiX5 0 (wX0 g _) rfl 6 (by decide) (List.mem_of_getElem? (i := 2) rfl) rfl dX5_tally_52 ?_
          refine xv_iload C dX5_tally_55 5 rfl ?_
          refine xv_iald C 33 0 (wX33 g _) rfl hf dX5_tally_57 (fun hf => ?_)
          obtain ⟨q4, hg, hf⟩ := dt_bind hf
          refine xc_v (xr_VN C (ci := 1) (As := [.ref (aX g 5), .int x5, .int (a 33 x5.toNatClampNeg)]) (fun l => c_X1_note__41 g hS l x5 (a 33 x5.toNatClampNeg) a q4 hg) gX5_tally_X1_note_n278 rfl ⟨rfl, rfl⟩ (fun U H h => h.1 _ (List.mem_of_getElem? (i := 58) rfl)) (List.mem_of_getElem? (i := 4) rfl) (List.mem_of_getElem? (i := 45) rfl) (List.mem_of_getElem? (i := 46) rfl) hdN_X1_note ⟨Nat.le_of_ble_eq_true rfl, Nat.le_of_ble_eq_true rfl⟩ 41 rfl rfl (wX41 g _) rfl rfl (Nat.le_of_ble_eq_true rfl) dX5_tally_58) ?_
          refine xv_iinc C [(5, .int (x5 + 1)), (0, .ref (aX g 0)), (1, .ref (aX g 41)), (2, .int x2), (3, .int x3), (4, .int x4)] dX5_tally_61 5 rfl rfl (by decide) rfl ?_
          refine xv_goto C 21 dX5_tally_64 (by decide) ?_
          refine xv_eq [1, 2, 3, 4, 5, 0] rfl ?_
          exact ih (x5 + 1) q4 hf
  have hL12 : ∀ (x2 : Int32) (x3 : Int32)  (j : Nat) (x4 : Int32) (a : St), L_X5_tally_12 n 41 x2 x3 j x4 a = some q → V K (sX g) 6 a [(0, .ref (aX g 0)), (1, .ref (aX g 41)), (2, .int x2), (3, .int x3), (4, .int x4)] 12 [] := by
    intro x2 x3 j
    induction j with
    | zero =>
      intro x4 a hf
      have hf : (none : Option St) = some q := hf
      cases hf
    | succ j ih =>
      intro x4 a hf
      rw [L_X5_tally_12] at hf
      refine xv_iload C dX5_tally_12 4 rfl ?_
      refine xv_iload_n C dX5_tally_14 rfl 2 rfl ?_
      refine xv_icmp_ge C 85 hf dX5_tally_15 (by decide) (fun _ hf => ?_) (fun _ hf => ?_)
      · exact xz_v hret hf dX5_tally_85
      · refine xv_iconst C 0 dX5_tally_18 (by decide) ?_
        refine xv_istore C [(5, .int 0), (0, .ref (aX g 0)), (1, .ref (aX g 41)), (2, .int x2), (3, .int x3), (4, .int x4)] dX5_tally_19 (by decide) rfl ?_
        refine xv_eq [1, 2, 3, 4, 5, 0] rfl ?_
        exact hL21 x2 x3 x4 (L_X5_tally_12 n 41 x2 x3 j) ih n 0 a hf
  rw [f_X5_tally] at hf
  show V K (sX g) 6 a [(0, .ref (aX g 0)), (1, .ref (aX g 41)), (2, .int x2), (3, .int x3)] 0 []
  refine xv_aload_n C dX5_tally_0 rfl 1 rfl ?_
  obtain ⟨q1, hg, hf⟩ := dt_bind hf
  refine xc_v (xr_VN C (ci := 1) (As := []) (fun l => c_X1_clear__41 g hS l n a q1 hg) gX5_tally_X1_clear_n276 rfl ⟨rfl, rfl⟩ (fun U H h => h.1 _ (List.mem_of_getElem? (i := 57) rfl)) (List.mem_of_getElem? (i := 4) rfl) (List.mem_of_getElem? (i := 3) rfl) (List.mem_of_getElem? (i := 5) rfl) hdN_X1_clear ⟨Nat.le_of_ble_eq_true rfl, Nat.le_of_ble_eq_true rfl⟩ 41 rfl rfl (wX41 g _) rfl rfl (Nat.le_of_ble_eq_true rfl) dX5_tally_1) ?_
  refine xv_aload_n C dX5_tally_4 rfl 0 rfl ?_
  refine xv_iconst C 0 dX5_tally_5 (by decide) ?_
  obtain ⟨q2, hg, hf⟩ := dt_bind hf
  refine xc_v (xr_V C (ci := 5) (As := [.int 0]) (fun l => c_X5_foresee g hS l n 0 q1 q2 hg) gX5_tally_X5_foresee rfl ⟨rfl, rfl⟩ hdV_X5_foresee ⟨Nat.le_of_ble_eq_true rfl, Nat.le_of_ble_eq_true rfl⟩ 0 rfl rfl (wX0 g _) rfl rfl (Nat.le_of_ble_eq_true rfl) dX5_tally_6) ?_
  refine xv_iconst C 0 dX5_tally_9 (by decide) ?_
  refine xv_istore C [(4, .int 0), (0, .ref (aX g 0)), (1, .ref (aX g 41)), (2, .int x2), (3, .int x3)] dX5_tally_10 (by decide) rfl ?_
  refine xv_eq [1, 2, 3, 4, 0] rfl ?_
  exact hL12 x2 x3 n 0 q2 hf
set_option maxRecDepth 100000 in
set_option maxHeartbeats 4000000 in
theorem c_X5_council (g : GX) (hS : xSide (sX g)) (l : Launch) (n : Nat) (x1 : Int32) (x2 : Int32) (x3 : Int32) (a : St) (q : (Int32 × St)) (hf : f_X5_council n x1 x2 x3 a = some q) : Met l yX5_council wsX5_council rm_X5_council (xPre (sX g) [.ref (aX g 0), .int x1, .int x2, .int x3] a) (xPostI (sX g) q.1 q.2) 0 0 (sX g).2.2.1 := by
  refine xm_i (av := [.ref (aX g 0), .int x1, .int x2, .int x3]) (cc := cX5_council) (maxL := 11) (by decide) rfl (Nat.le_of_ble_eq_true rfl) hS.1 hS.2 (fun K C hret => ?_)
  have C : CC K (sX g) cX5_council 11 wsX5_council RX5 rm_X5_council := C
  have hiX1 : ∀ w ∈ u_ws RX1 TX1 2, w ∈ wsX5_council := fun w h => List.mem_cons_of_mem _ (List.mem_append_left _ (List.mem_append_right _ h))
  have hiX4 : ∀ w ∈ u_ws RX4 TX4 12, w ∈ wsX5_council := fun w h => List.mem_cons_of_mem _ (List.mem_append_left _ (List.mem_append_left _ (List.mem_append_right _ h)))
  have hiX5 : ∀ w ∈ u_ws RX5 TX5 13, w ∈ wsX5_council := fun w h => List.mem_cons_of_mem _ (List.mem_append_left _ (List.mem_append_left _ (List.mem_append_left _ (List.mem_append_right _ h))))
  have hB180 : ∀ (x3 : Int32) (x4 : Int32) (x5 : Int32)  (a : St), B_X5_council_180 n x3 x4 x5 a = some q → V K (sX g) 11 a [(3, .int x3), (4, .int x4), (5, .int x5)] 180 [] := by
    intro x3 x4 x5 a hf
    rw [B_X5_council_180] at hf
    refine xv_iload_n C dX5_council_180 rfl 0 rfl ?_
    refine xv_if_ne C (y := 0) 189 hf dX5_council_181 (by decide) (fun _ hf => ?_) (fun _ hf => ?_)
    · refine xv_iload C dX5_council_184 2 rfl ?_
      refine xv_goto C 191 dX5_council_186 (by decide) ?_
      exact xz_iw hret hf dX5_council_191
    · refine xv_iload C dX5_council_189 1 rfl ?_
      exact xz_iw hret hf dX5_council_191
  have hB153 : ∀ (x2 : Int32) (x3 : Int32) (x4 : Int32) (x5 : Int32) (x6 : Int32) (x7 : Int32) (x8 : Int32) (k63 : Int32 → Int32 → Int32 → St → Option (Int32 × St)) (hk63 : ∀ (y4 : Int32) (y5 : Int32) (y6 : Int32) (b : St), k63 y4 y5 y6 b = some q → V K (sX g) 11 b [(0, .ref (aX g 0)), (2, .int x2), (3, .int x3), (4, .int y4), (5, .int y5), (6, .int y6)] 63 []) (a : St), B_X5_council_153 n k63 x2 x3 x4 x5 x6 x7 x8 a = some q → V K (sX g) 11 a [(0, .ref (aX g 0)), (2, .int x2), (3, .int x3), (4, .int x4), (5, .int x5), (6, .int x6), (7, .int x7), (8, .int x8)] 153 [] := by
    intro x2 x3 x4 x5 x6 x7 x8 k63 hk63 a hf
    rw [B_X5_council_153] at hf
    refine xv_iload C dX5_council_153 7 rfl ?_
    refine xv_iload_n C dX5_council_155 rfl 1 rfl ?_
    refine xv_icmp_gt C 174 hf dX5_council_156 (by decide) (fun _ hf => ?_) (fun _ hf => ?_)
    · refine xv_iinc C [(6, .int (x6 + 1)), (0, .ref (aX g 0)), (2, .int x2), (3, .int x3), (4, .int x4), (5, .int x5), (7, .int x7), (8, .int x8)] dX5_council_174 5 rfl rfl (by decide) rfl ?_
      refine xv_goto C 63 dX5_council_177 (by decide) ?_
      refine xv_eq [1, 2, 3, 4, 5, 0] rfl ?_
      exact hk63 x4 x5 (x6 + 1) a hf
    · refine xv_iload C dX5_council_159 6 rfl ?_
      refine xv_iload C dX5_council_161 3 rfl ?_
      refine xv_icmp_le C 174 hf dX5_council_163 (by decide) (fun _ hf => ?_) (fun _ hf => ?_)
      · refine xv_iinc C [(6, .int (x6 + 1)), (0, .ref (aX g 0)), (2, .int x2), (3, .int x3), (4, .int x4), (5, .int x5), (7, .int x7), (8, .int x8)] dX5_council_174 5 rfl rfl (by decide) rfl ?_
        refine xv_goto C 63 dX5_council_177 (by decide) ?_
        refine xv_eq [1, 2, 3, 4, 5, 0] rfl ?_
        exact hk63 x4 x5 (x6 + 1) a hf
      · refine xv_iload C dX5_council_166 6 rfl ?_
        refine xv_istore C [(4, .int x7), (0, .ref (aX g 0)), (2, .int x2), (3, .int x3), (5, .int x5), (6, .int x6), (7, .int x7), (8, .int x8)] dX5_council_168 (by decide) rfl ?_
        refine xv_iload C dX5_council_170 5 rfl ?_
        refine xv_istore C [(5, .int x6), (4, .int x7), (0, .ref (aX g 0)), (2, .int x2), (3, .int x3), (6, .int x6), (7, .int x7), (8, .int x8)] dX5_council_172 (by decide) rfl ?_
        refine xv_iinc C [(6, .int (x6 + 1)), (5, .int x6), (4, .int x7), (0, .ref (aX g 0)), (2, .int x2), (3, .int x3), (7, .int x7), (8, .int x8)] dX5_council_174 5 rfl rfl (by decide) rfl ?_
        refine xv_goto C 63 dX5_council_177 (by decide) ?_
        refine xv_eq [3, 4, 5, 2, 1, 0] rfl ?_
        exact hk63 x7 x6 (x6 + 1) a hf
  have hL86 : ∀ (x2 : Int32) (x3 : Int32) (x4 : Int32) (x5 : Int32) (x6 : Int32) (k63 : Int32 → Int32 → Int32 → St → Option (Int32 × St)) (hk63 : ∀ (y4 : Int32) (y5 : Int32) (y6 : Int32) (b : St), k63 y4 y5 y6 b = some q → V K (sX g) 11 b [(0, .ref (aX g 0)), (2, .int x2), (3, .int x3), (4, .int y4), (5, .int y5), (6, .int y6)] 63 []) (j : Nat) (x7 : Int32) (x8 : Int32) (x9 : Int32) (a : St), L_X5_council_86 n k63 x2 x3 x4 x5 x6 j x7 x8 x9 a = some q → V K (sX g) 11 a [(0, .ref (aX g 0)), (2, .int x2), (3, .int x3), (4, .int x4), (5, .int x5), (6, .int x6), (7, .int x7), (8, .int x8), (9, .int x9)] 86 [] := by
    intro x2 x3 x4 x5 x6 k63 hk63 j
    induction j with
    | zero =>
      intro x7 x8 x9 a hf
      have hf : (none : Option (Int32 × St)) = some q := hf
      cases hf
    | succ j ih =>
      intro x7 x8 x9 a hf
      rw [L_X5_council_86] at hf
      refine xv_iload C dX5_council_86 8 rfl ?_
      refine xv_aload_n C dX5_council_88 rfl 0 rfl ?_
      refine xv_get C hiX5 0 (wX0 g _) rfl 1 (by decide) (List.mem_of_getElem? (i := 3) rfl) rfl dX5_council_89 ?_
      refine xv_getN C hiX4 5 (wX5 g _) rfl 1 (by decide) (fun U H h => h.1 _ (List.mem_of_getElem? (i := 6) rfl)) rfl dX5_council_92 ?_
      refine xv_icmp_ge C 153 hf dX5_council_95 (by decide) (fun _ hf => ?_) (fun _ hf => ?_)
      · refine xv_eq [0, 1, 2, 3, 4, 5, 6, 7] rfl ?_
        exact hB153 x2 x3 x4 x5 x6 x7 x8 k63 hk63 a hf
      · refine xv_iload C dX5_council_98 5 rfl ?_
        refine xv_iload C dX5_council_100 8 rfl ?_
        obtain ⟨q6, hg, hf⟩ := dt_bind hf
        refine xc_i (xr_S C (As := [.int x6, .int x9]) (fun l => c_X5_has (sX g) hS l x6 x9 a q6 hg) gX5_council_X5_has rfl ⟨rfl, rfl⟩ hdS_X5_has ⟨Nat.le_of_ble_eq_true rfl, Nat.le_of_ble_eq_true rfl⟩ rfl rfl (Nat.le_of_ble_eq_true rfl) dX5_council_102) ?_
        refine xv_if_eq C (y := 0) 115 hf dX5_council_105 (by decide) (fun _ hf => ?_) (fun _ hf => ?_)
        · refine xv_aload_n C dX5_council_115 rfl 0 rfl ?_
          refine xv_get C hiX5 0 (wX0 g _) rfl 11 (by decide) (List.mem_of_getElem? (i := 1) rfl) rfl dX5_council_116 ?_
          refine xv_astore C [(10, .ref (aX g 38)), (0, .ref (aX g 0)), (2, .int x2), (3, .int x3), (4, .int x4), (5, .int x5), (6, .int x6), (7, .int x7), (8, .int x8), (9, .int x9)] dX5_council_119 (by decide) rfl ?_
          refine xv_iload C dX5_council_121 7 rfl ?_
          refine xv_aload C dX5_council_123 0 rfl ?_
          refine xv_getN C hiX1 38 (wX38 g _) rfl 0 (by decide) (fun U H h => h.1 _ (List.mem_of_getElem? (i := 30) rfl)) rfl dX5_council_125 ?_
          refine xv_iload C dX5_council_128 9 rfl ?_
          refine xv_iald C 39 0 (wX39 g _) rfl hf dX5_council_130 (fun hf => ?_)
          refine xv_iadd C dX5_council_131 ?_
          refine xv_istore C [(7, .int (x7 + (a 39 x9.toNatClampNeg))), (10, .ref (aX g 38)), (0, .ref (aX g 0)), (2, .int x2), (3, .int x3), (4, .int x4), (5, .int x5), (6, .int x6), (8, .int x8), (9, .int x9)] dX5_council_132 (by decide) rfl ?_
          refine xv_iload C dX5_council_134 8 rfl ?_
          refine xv_aload C dX5_council_136 1 rfl ?_
          refine xv_getN C hiX1 38 (wX38 g _) rfl 1 (by decide) (fun U H h => h.1 _ (List.mem_of_getElem? (i := 31) rfl)) rfl dX5_council_138 ?_
          refine xv_iload C dX5_council_141 9 rfl ?_
          refine xv_iald C 40 0 (wX40 g _) rfl hf dX5_council_143 (fun hf => ?_)
          refine xv_iadd C dX5_council_144 ?_
          refine xv_istore C [(8, .int (x8 + (a 40 x9.toNatClampNeg))), (7, .int (x7 + (a 39 x9.toNatClampNeg))), (10, .ref (aX g 38)), (0, .ref (aX g 0)), (2, .int x2), (3, .int x3), (4, .int x4), (5, .int x5), (6, .int x6), (9, .int x9)] dX5_council_145 (by decide) rfl ?_
          refine xv_iinc C [(9, .int (x9 + 1)), (8, .int (x8 + (a 40 x9.toNatClampNeg))), (7, .int (x7 + (a 39 x9.toNatClampNeg))), (10, .ref (aX g 38)), (0, .ref (aX g 0)), (2, .int x2), (3, .int x3), (4, .int x4), (5, .int x5), (6, .int x6)] dX5_council_147 9 rfl rfl (by decide) rfl ?_
          refine xv_goto C 86 dX5_council_150 (by decide) ?_
          refine xv_eq [4, 5, 6, 7, 8, 9, 2, 1, 0] rfl ?_
          exact ih (x7 + (a 39 x9.toNatClampNeg)) (x8 + (a 40 x9.toNatClampNeg)) (x9 + 1) a hf
        · refine xv_aload_n C dX5_council_108 rfl 0 rfl ?_
          refine xv_get C hiX5 0 (wX0 g _) rfl 12 (by decide) (List.mem_of_getElem? (i := 2) rfl) rfl dX5_council_109 ?_
          refine xv_goto C 119 dX5_council_112 (by decide) ?_
          refine xv_astore C [(10, .ref (aX g 41)), (0, .ref (aX g 0)), (2, .int x2), (3, .int x3), (4, .int x4), (5, .int x5), (6, .int x6), (7, .int x7), (8, .int x8), (9, .int x9)] dX5_council_119 (by decide) rfl ?_
          refine xv_iload C dX5_council_121 7 rfl ?_
          refine xv_aload C dX5_council_123 0 rfl ?_
          refine xv_getN C hiX1 41 (wX41 g _) rfl 0 (by decide) (fun U H h => h.1 _ (List.mem_of_getElem? (i := 30) rfl)) rfl dX5_council_125 ?_
          refine xv_iload C dX5_council_128 9 rfl ?_
          refine xv_iald C 42 0 (wX42 g _) rfl hf dX5_council_130 (fun hf => ?_)
          refine xv_iadd C dX5_council_131 ?_
          refine xv_istore C [(7, .int (x7 + (a 42 x9.toNatClampNeg))), (10, .ref (aX g 41)), (0, .ref (aX g 0)), (2, .int x2), (3, .int x3), (4, .int x4), (5, .int x5), (6, .int x6), (8, .int x8), (9, .int x9)] dX5_council_132 (by decide) rfl ?_
          refine xv_iload C dX5_council_134 8 rfl ?_
          refine xv_aload C dX5_council_136 1 rfl ?_
          refine xv_getN C hiX1 41 (wX41 g _) rfl 1 (by decide) (fun U H h => h.1 _ (List.mem_of_getElem? (i := 31) rfl)) rfl dX5_council_138 ?_
          refine xv_iload C dX5_council_141 9 rfl ?_
          refine xv_iald C 43 0 (wX43 g _) rfl hf dX5_council_143 (fun hf => ?_)
          refine xv_iadd C dX5_council_144 ?_
          refine xv_istore C [(8, .int (x8 + (a 43 x9.toNatClampNeg))), (7, .int (x7 + (a 42 x9.toNatClampNeg))), (10, .ref (aX g 41)), (0, .ref (aX g 0)), (2, .int x2), (3, .int x3), (4, .int x4), (5, .int x5), (6, .int x6), (9, .int x9)] dX5_council_145 (by decide) rfl ?_
          refine xv_iinc C [(9, .int (x9 + 1)), (8, .int (x8 + (a 43 x9.toNatClampNeg))), (7, .int (x7 + (a 42 x9.toNatClampNeg))), (10, .ref (aX g 41)), (0, .ref (aX g 0)), (2, .int x2), (3, .int x3), (4, .int x4), (5, .int x5), (6, .int x6)] dX5_council_147 9 rfl rfl (by decide) rfl ?_
          refine xv_goto C 86 dX5_council_150 (by decide) ?_
          refine xv_eq [4, 5, 6, 7, 8, 9, 2, 1, 0] rfl ?_
          exact ih (x7 + (a 42 x9.toNatClampNeg)) (x8 + (a 43 x9.toNatClampNeg)) (x9 + 1) a hf
  have hL63 : ∀ (x2 : Int32) (x3 : Int32)  (j : Nat) (x4 : Int32) (x5 : Int32) (x6 : Int32) (a : St), L_X5_council_63 n x2 x3 j x4 x5 x6 a = some q → V K (sX g) 11 a [(0, .ref (aX g 0)), (2, .int x2), (3, .int x3), (4, .int x4), (5, .int x5), (6, .int x6)] 63 [] := by
    intro x2 x3 j
    induction j with
    | zero =>
      intro x4 x5 x6 a hf
      have hf : (none : Option (Int32 × St)) = some q := hf
      cases hf
    | succ j ih =>
      intro x4 x5 x6 a hf
      rw [L_X5_council_63] at hf
      refine xv_iload C dX5_council_63 5 rfl ?_
      refine xv_iconst C 1 dX5_council_65 (by decide) ?_
      refine xv_aload_n C dX5_council_66 rfl 0 rfl ?_
      refine xv_get C hiX5 0 (wX0 g _) rfl 1 (by decide) (List.mem_of_getElem? (i := 3) rfl) rfl dX5_council_67 ?_
      refine xv_getN C hiX4 5 (wX5 g _) rfl 1 (by decide) (fun U H h => h.1 _ (List.mem_of_getElem? (i := 6) rfl)) rfl dX5_council_70 ?_
      refine xv_ishl C dX5_council_73 ?_
      refine xv_icmp_ge C 180 hf dX5_council_74 (by decide) (fun _ hf => ?_) (fun _ hf => ?_)
      · refine xv_eq [2, 3, 4] rfl ?_
        exact hB180 x3 x4 x5 a hf
      · refine xv_iconst C 0 dX5_council_77 (by decide) ?_
        refine xv_istore C [(7, .int 0), (0, .ref (aX g 0)), (2, .int x2), (3, .int x3), (4, .int x4), (5, .int x5), (6, .int x6)] dX5_council_78 (by decide) rfl ?_
        refine xv_iconst C 0 dX5_council_80 (by decide) ?_
        refine xv_istore C [(8, .int 0), (7, .int 0), (0, .ref (aX g 0)), (2, .int x2), (3, .int x3), (4, .int x4), (5, .int x5), (6, .int x6)] dX5_council_81 (by decide) rfl ?_
        refine xv_iconst C 0 dX5_council_83 (by decide) ?_
        refine xv_istore C [(9, .int 0), (8, .int 0), (7, .int 0), (0, .ref (aX g 0)), (2, .int x2), (3, .int x3), (4, .int x4), (5, .int x5), (6, .int x6)] dX5_council_84 (by decide) rfl ?_
        refine xv_eq [3, 4, 5, 6, 7, 8, 2, 1, 0] rfl ?_
        exact hL86 x2 x3 x4 x5 x6 (L_X5_council_63 n x2 x3 j) ih n 0 0 0 a hf
  rw [f_X5_council] at hf
  show V K (sX g) 11 a [(0, .ref (aX g 0)), (1, .int x1), (2, .int x2), (3, .int x3)] 0 []
  refine xv_iload_n C dX5_council_0 rfl 1 rfl ?_
  refine xv_iconst C 1 dX5_council_1 (by decide) ?_
  refine xv_bipush C 99 dX5_council_2 (by decide) ?_
  obtain ⟨q1, hg, hf⟩ := dt_bind hf
  refine xc_i (xr_S C (As := [.int x1, .int 1, .int 99]) (fun l => c_X5_within (sX g) hS l x1 1 99 a q1 hg) gX5_council_X5_within rfl ⟨rfl, rfl⟩ hdS_X5_within ⟨Nat.le_of_ble_eq_true rfl, Nat.le_of_ble_eq_true rfl⟩ rfl rfl (Nat.le_of_ble_eq_true rfl) dX5_council_4) ?_
  refine xv_if_eq C (y := 0) 30 hf dX5_council_7 (by decide) (fun _ hf => ?_) (fun _ hf => ?_)
  · refine xv_bipush C (-3) dX5_council_30 (by decide) ?_
    exact xz_iw hret hf dX5_council_32
  · refine xv_iload_n C dX5_council_10 rfl 2 rfl ?_
    refine xv_iconst C 0 dX5_council_11 (by decide) ?_
    refine xv_sipush C 9999 dX5_council_12 (by decide) ?_
    obtain ⟨q2, hg, hf⟩ := dt_bind hf
    refine xc_i (xr_S C (As := [.int x2, .int 0, .int 9999]) (fun l => c_X5_within (sX g) hS l x2 0 9999 a q2 hg) gX5_council_X5_within rfl ⟨rfl, rfl⟩ hdS_X5_within ⟨Nat.le_of_ble_eq_true rfl, Nat.le_of_ble_eq_true rfl⟩ rfl rfl (Nat.le_of_ble_eq_true rfl) dX5_council_15) ?_
    refine xv_if_eq C (y := 0) 30 hf dX5_council_18 (by decide) (fun _ hf => ?_) (fun _ hf => ?_)
    · refine xv_bipush C (-3) dX5_council_30 (by decide) ?_
      exact xz_iw hret hf dX5_council_32
    · refine xv_iload_n C dX5_council_21 rfl 3 rfl ?_
      refine xv_iconst C 0 dX5_council_22 (by decide) ?_
      refine xv_iconst C 1 dX5_council_23 (by decide) ?_
      obtain ⟨q3, hg, hf⟩ := dt_bind hf
      refine xc_i (xr_S C (As := [.int x3, .int 0, .int 1]) (fun l => c_X5_within (sX g) hS l x3 0 1 a q3 hg) gX5_council_X5_within rfl ⟨rfl, rfl⟩ hdS_X5_within ⟨Nat.le_of_ble_eq_true rfl, Nat.le_of_ble_eq_true rfl⟩ rfl rfl (Nat.le_of_ble_eq_true rfl) dX5_council_24) ?_
      refine xv_if_ne C (y := 0) 33 hf dX5_council_27 (by decide) (fun _ hf => ?_) (fun _ hf => ?_)
      · refine xv_bipush C (-3) dX5_council_30 (by decide) ?_
        exact xz_iw hret hf dX5_council_32
      · refine xv_aload_n C dX5_council_33 rfl 0 rfl ?_
        refine xv_aload_n C dX5_council_34 rfl 0 rfl ?_
        refine xv_get C hiX5 0 (wX0 g _) rfl 11 (by decide) (List.mem_of_getElem? (i := 1) rfl) rfl dX5_council_35 ?_
        refine xv_iload_n C dX5_council_38 rfl 1 rfl ?_
        refine xv_iconst C 0 dX5_council_39 (by decide) ?_
        obtain ⟨q4, hg, hf⟩ := dt_bind hf
        refine xc_v (xr_V C (ci := 5) (As := [.ref (aX g 38), .int x1, .int 0]) (fun l => c_X5_tally__38 g hS l n x1 0 a q4 hg) gX5_council_X5_tally rfl ⟨rfl, rfl⟩ hdV_X5_tally ⟨Nat.le_of_ble_eq_true rfl, Nat.le_of_ble_eq_true rfl⟩ 0 rfl rfl (wX0 g _) rfl rfl (Nat.le_of_ble_eq_true rfl) dX5_council_40) ?_
        refine xv_aload_n C dX5_council_43 rfl 0 rfl ?_
        refine xv_aload_n C dX5_council_44 rfl 0 rfl ?_
        refine xv_get C hiX5 0 (wX0 g _) rfl 12 (by decide) (List.mem_of_getElem? (i := 2) rfl) rfl dX5_council_45 ?_
        refine xv_iload_n C dX5_council_48 rfl 1 rfl ?_
        refine xv_bipush C 63 dX5_council_49 (by decide) ?_
        obtain ⟨q5, hg, hf⟩ := dt_bind hf
        refine xc_v (xr_V C (ci := 5) (As := [.ref (aX g 41), .int x1, .int 63]) (fun l => c_X5_tally__41 g hS l n x1 63 q4 q5 hg) gX5_council_X5_tally rfl ⟨rfl, rfl⟩ hdV_X5_tally ⟨Nat.le_of_ble_eq_true rfl, Nat.le_of_ble_eq_true rfl⟩ 0 rfl rfl (wX0 g _) rfl rfl (Nat.le_of_ble_eq_true rfl) dX5_council_51) ?_
        refine xv_iconst C (-1) dX5_council_54 (by decide) ?_
        refine xv_istore C [(4, .int (-1)), (0, .ref (aX g 0)), (1, .int x1), (2, .int x2), (3, .int x3)] dX5_council_55 (by decide) rfl ?_
        refine xv_iconst C (-1) dX5_council_57 (by decide) ?_
        refine xv_istore C [(5, .int (-1)), (4, .int (-1)), (0, .ref (aX g 0)), (1, .int x1), (2, .int x2), (3, .int x3)] dX5_council_58 (by decide) rfl ?_
        refine xv_iconst C 0 dX5_council_60 (by decide) ?_
        refine xv_istore C [(6, .int 0), (5, .int (-1)), (4, .int (-1)), (0, .ref (aX g 0)), (1, .int x1), (2, .int x2), (3, .int x3)] dX5_council_61 (by decide) rfl ?_
        refine xv_eq [3, 5, 6, 2, 1, 0] rfl ?_
        exact hL63 x2 x3 n (-1) (-1) 0 q5 hf
set_option maxRecDepth 100000 in
set_option maxHeartbeats 4000000 in
theorem c_X4_mirrored__34 (g : GX) (hS : xSide (sX g)) (l : Launch) (x2 : Int32) (x3 : Int32) (a : St) (q : Int32) (hf : f_X4_mirrored 34 x2 x3 a = some q) : Met l yX4_mirrored wsX4_mirrored rm_X4_mirrored (xPre (sX g) [.ref (aX g 5), .ref (aX g 34), .int x2, .int x3] a) (xPostI (sX g) q a) 0 0 (sX g).2.2.1 := by
  refine xm_i (av := [.ref (aX g 5), .ref (aX g 34), .int x2, .int x3]) (cc := cX4_mirrored) (maxL := 5) (by decide) rfl (Nat.le_of_ble_eq_true rfl) hS.1 hS.2 (fun K C hret => ?_)
  have C : CC K (sX g) cX4_mirrored 5 wsX4_mirrored RX4 rm_X4_mirrored := C
  have hiX4 : ∀ w ∈ u_ws RX4 TX4 12, w ∈ wsX4_mirrored := fun w h => List.mem_cons_of_mem _ (List.mem_append_right _ h)
  rw [f_X4_mirrored] at hf
  show V K (sX g) 5 a [(0, .ref (aX g 5)), (1, .ref (aX g 34)), (2, .int x2), (3, .int x3)] 0 []
  refine xv_aload_n C dX4_mirrored_0 rfl 0 rfl ?_
  refine xv_get C hiX4 5 (wX5 g _) rfl 3 (by decide) (List.mem_of_getElem? (i := 1) rfl) rfl dX4_mirrored_1 ?_
  refine xv_iload_n C dX4_mirrored_4 rfl 2 rfl ?_
  refine xv_iald C 6 0 (wX6 g _) rfl hf dX4_mirrored_5 (fun hf => ?_)
  refine xv_iconst C (-1) dX4_mirrored_6 (by decide) ?_
  refine xv_icmp_ne C 14 hf dX4_mirrored_7 (by decide) (fun _ hf => ?_) (fun _ hf => ?_)
  · refine xv_iconst C (-1) dX4_mirrored_10 (by decide) ?_
    refine xv_goto C 22 dX4_mirrored_11 (by decide) ?_
    refine xv_istore C [(4, .int (-1)), (0, .ref (aX g 5)), (1, .ref (aX g 34)), (2, .int x2), (3, .int x3)] dX4_mirrored_22 (by decide) rfl ?_
    refine xv_iload C dX4_mirrored_24 0 rfl ?_
    refine xv_iconst C (-1) dX4_mirrored_26 (by decide) ?_
    refine xv_icmp_eq C (A := some ()) (B := (none : Option Unit)) (v := ()) 46 (by decide) dX4_mirrored_27 (by decide) (fun _ _ => ?_) (fun _ hf => by cases hf)
    refine xv_iconst C (-1) dX4_mirrored_46 (by decide) ?_
    exact xz_ir hret hf dX4_mirrored_47
  · refine xv_aload_n C dX4_mirrored_14 rfl 1 rfl ?_
    refine xv_aload_n C dX4_mirrored_15 rfl 0 rfl ?_
    refine xv_get C hiX4 5 (wX5 g _) rfl 3 (by decide) (List.mem_of_getElem? (i := 1) rfl) rfl dX4_mirrored_16 ?_
    refine xv_iload_n C dX4_mirrored_19 rfl 2 rfl ?_
    refine xv_iald C 6 0 (wX6 g _) rfl hf dX4_mirrored_20 (fun hf => ?_)
    refine xv_iald C 34 0 (wX34 g _) rfl hf dX4_mirrored_21 (fun hf => ?_)
    refine xv_istore C [(4, .int (a 34 ((a 6 x2.toNatClampNeg).toNatClampNeg))), (0, .ref (aX g 5)), (1, .ref (aX g 34)), (2, .int x2), (3, .int x3)] dX4_mirrored_22 (by decide) rfl ?_
    refine xv_iload C dX4_mirrored_24 0 rfl ?_
    refine xv_iconst C (-1) dX4_mirrored_26 (by decide) ?_
    refine xv_icmp_eq C 46 hf dX4_mirrored_27 (by decide) (fun _ hf => ?_) (fun _ hf => ?_)
    · refine xv_iconst C (-1) dX4_mirrored_46 (by decide) ?_
      exact xz_ir hret hf dX4_mirrored_47
    · refine xv_aload_n C dX4_mirrored_30 rfl 1 rfl ?_
      refine xv_iload_n C dX4_mirrored_31 rfl 3 rfl ?_
      refine xv_iload C dX4_mirrored_32 0 rfl ?_
      refine xv_iload_n C dX4_mirrored_34 rfl 4 rfl ?_
      obtain ⟨q1, hg, hf⟩ := dt_bind hf
      refine xc_i (xr_V C (ci := 4) (As := [.int x2, .int (a 34 ((a 6 x2.toNatClampNeg).toNatClampNeg)), .int x3]) (fun l => c_X4_can g hS l x2 (a 34 ((a 6 x2.toNatClampNeg).toNatClampNeg)) x3 a q1 hg) gX4_mirrored_X4_can rfl ⟨rfl, rfl⟩ hdV_X4_can ⟨Nat.le_of_ble_eq_true rfl, Nat.le_of_ble_eq_true rfl⟩ 5 rfl rfl (wX5 g _) rfl rfl (Nat.le_of_ble_eq_true rfl) dX4_mirrored_35) ?_
      refine xv_if_eq C (y := 0) 46 hf dX4_mirrored_38 (by decide) (fun _ hf => ?_) (fun _ hf => ?_)
      · refine xv_iconst C (-1) dX4_mirrored_46 (by decide) ?_
        exact xz_ir hret hf dX4_mirrored_47
      · refine xv_iload C dX4_mirrored_41 0 rfl ?_
        refine xv_goto C 47 dX4_mirrored_43 (by decide) ?_
        exact xz_ir hret hf dX4_mirrored_47
set_option maxRecDepth 100000 in
set_option maxHeartbeats 4000000 in
theorem c_X4_passDay__34 (g : GX) (hS : xSide (sX g)) (l : Launch) (n : Nat) (x2 : Int32) (a : St) (q : St) (hf : f_X4_passDay n 34 x2 a = some q) : Met l yX4_passDay wsX4_passDay rm_X4_passDay (xPre (sX g) [.ref (aX g 5), .ref (aX g 34), .int x2] a) (xPostV (sX g) q) 0 0 (sX g).2.2.1 := by
  refine xm_v (av := [.ref (aX g 5), .ref (aX g 34), .int x2]) (cc := cX4_passDay) (maxL := 4) (by decide) rfl (Nat.le_of_ble_eq_true rfl) hS.1 hS.2 (fun K C hret => ?_)
  have C : CC K (sX g) cX4_passDay 4 wsX4_passDay RX4 rm_X4_passDay := C
  have hiX4 : ∀ w ∈ u_ws RX4 TX4 12, w ∈ wsX4_passDay := fun w h => List.mem_cons_of_mem _ (List.mem_append_right _ h)
  have hB29 : ∀  (a : St), B_X4_passDay_29 n 34 a = some q → V K (sX g) 4 a [(0, .ref (aX g 5)), (1, .ref (aX g 34))] 29 [] := by
    intro a hf
    rw [B_X4_passDay_29] at hf
    refine xv_aload_n C dX4_passDay_29 rfl 0 rfl ?_
    refine xv_get C hiX4 5 (wX5 g _) rfl 11 (by decide) (List.mem_of_getElem? (i := 2) rfl) rfl dX4_passDay_30 ?_
    refine xv_iconst C 0 dX4_passDay_33 (by decide) ?_
    refine xv_aload_n C dX4_passDay_34 rfl 1 rfl ?_
    refine xv_iconst C 0 dX4_passDay_35 (by decide) ?_
    refine xv_aload_n C dX4_passDay_36 rfl 0 rfl ?_
    refine xv_get C hiX4 5 (wX5 g _) rfl 0 (by decide) (List.mem_of_getElem? (i := 1) rfl) rfl dX4_passDay_37 ?_
    refine xv_copy C (List.mem_of_getElem? (i := 3) rfl) (List.mem_of_getElem? (i := 4) rfl) (List.mem_of_getElem? (i := 5) rfl) (List.mem_of_getElem? (i := 6) rfl) 14 34 0 (wX14 g _) (wX34 g _) rfl (uprow a 34 (va_cpy (a 14) (a 34) ((0 : Int32).toNatClampNeg) ((0 : Int32).toNatClampNeg) ((a 5 0).toNatClampNeg))) (rX34 g _ _) hf (Nat.le_of_ble_eq_true rfl) (Nat.le_of_ble_eq_true rfl) dX4_passDay_40 rfl (fun hf => ?_)
    exact xz_v hret hf dX4_passDay_43
  have hL2 : ∀ (x2 : Int32)  (j : Nat) (x3 : Int32) (a : St), L_X4_passDay_2 n 34 x2 j x3 a = some q → V K (sX g) 4 a [(0, .ref (aX g 5)), (1, .ref (aX g 34)), (2, .int x2), (3, .int x3)] 2 [] := by
    intro x2 j
    induction j with
    | zero =>
      intro x3 a hf
      have hf : (none : Option St) = some q := hf
      cases hf
    | succ j ih =>
      intro x3 a hf
      rw [L_X4_passDay_2] at hf
      refine xv_iload_n C dX4_passDay_2 rfl 3 rfl ?_
      refine xv_aload_n C dX4_passDay_3 rfl 0 rfl ?_
      refine xv_get C hiX4 5 (wX5 g _) rfl 0 (by decide) (List.mem_of_getElem? (i := 1) rfl) rfl dX4_passDay_4 ?_
      refine xv_icmp_ge C 29 hf dX4_passDay_7 (by decide) (fun _ hf => ?_) (fun _ hf => ?_)
      · refine xv_eq [0, 1] rfl ?_
        exact hB29 a hf
      · refine xv_aload_n C dX4_passDay_10 rfl 0 rfl ?_
        refine xv_get C hiX4 5 (wX5 g _) rfl 11 (by decide) (List.mem_of_getElem? (i := 2) rfl) rfl dX4_passDay_11 ?_
        refine xv_iload_n C dX4_passDay_14 rfl 3 rfl ?_
        refine xv_aload_n C dX4_passDay_15 rfl 0 rfl ?_
        refine xv_aload_n C dX4_passDay_16 rfl 1 rfl ?_
        refine xv_iload_n C dX4_passDay_17 rfl 3 rfl ?_
        refine xv_iload_n C dX4_passDay_18 rfl 2 rfl ?_
        obtain ⟨q1, hg, hf⟩ := dt_bind hf
        refine xc_i (xr_V C (ci := 4) (As := [.ref (aX g 34), .int x3, .int x2]) (fun l => c_X4_mirrored__34 g hS l x3 x2 a q1 hg) gX4_passDay_X4_mirrored rfl ⟨rfl, rfl⟩ hdV_X4_mirrored ⟨Nat.le_of_ble_eq_true rfl, Nat.le_of_ble_eq_true rfl⟩ 5 rfl rfl (wX5 g _) rfl rfl (Nat.le_of_ble_eq_true rfl) dX4_passDay_19) ?_
        refine xv_iast C 14 0 (wX14 g _) rfl (up a 14 x3.toNatClampNeg q1) (pX14 g _ _ _) hf dX4_passDay_22 (fun hf => ?_)
        refine xv_iinc C [(3, .int (x3 + 1)), (0, .ref (aX g 5)), (1, .ref (aX g 34)), (2, .int x2)] dX4_passDay_23 3 rfl rfl (by decide) rfl ?_
        refine xv_goto C 2 dX4_passDay_26 (by decide) ?_
        refine xv_eq [1, 2, 3, 0] rfl ?_
        exact ih (x3 + 1) (up a 14 x3.toNatClampNeg q1) hf
  rw [f_X4_passDay] at hf
  show V K (sX g) 4 a [(0, .ref (aX g 5)), (1, .ref (aX g 34)), (2, .int x2)] 0 []
  refine xv_iconst C 0 dX4_passDay_0 (by decide) ?_
  refine xv_istore_n C [(3, .int 0), (0, .ref (aX g 5)), (1, .ref (aX g 34)), (2, .int x2)] dX4_passDay_1 rfl (by decide) rfl ?_
  refine xv_eq [1, 2, 3, 0] rfl ?_
  exact hL2 x2 n 0 a hf
set_option maxRecDepth 100000 in
set_option maxHeartbeats 4000000 in
theorem c_X5_idle (g : GX) (hS : xSide (sX g)) (l : Launch) (n : Nat) (x1 : Int32) (x2 : Int32) (x3 : Int32) (a : St) (q : (Int32 × St)) (hf : f_X5_idle n x1 x2 x3 a = some q) : Met l yX5_idle wsX5_idle rm_X5_idle (xPre (sX g) [.ref (aX g 0), .int x1, .int x2, .int x3] a) (xPostI (sX g) q.1 q.2) 0 0 (sX g).2.2.1 := by
  refine xm_i (av := [.ref (aX g 0), .int x1, .int x2, .int x3]) (cc := cX5_idle) (maxL := 6) (by decide) rfl (Nat.le_of_ble_eq_true rfl) hS.1 hS.2 (fun K C hret => ?_)
  have C : CC K (sX g) cX5_idle 6 wsX5_idle RX5 rm_X5_idle := C
  have hiX4 : ∀ w ∈ u_ws RX4 TX4 12, w ∈ wsX5_idle := fun w h => List.mem_cons_of_mem _ (List.mem_append_left _ (List.mem_append_right _ h))
  have hiX5 : ∀ w ∈ u_ws RX5 TX5 13, w ∈ wsX5_idle := fun w h => List.mem_cons_of_mem _ (List.mem_append_left _ (List.mem_append_left _ (List.mem_append_right _ h)))
  have hL121 : ∀  (j : Nat) (x4 : Int32) (x5 : Int32) (a : St), L_X5_idle_121 n j x4 x5 a = some q → V K (sX g) 6 a [(0, .ref (aX g 0)), (4, .int x4), (5, .int x5)] 121 [] := by
    intro j
    induction j with
    | zero =>
      intro x4 x5 a hf
      have hf : (none : Option (Int32 × St)) = some q := hf
      cases hf
    | succ j ih =>
      intro x4 x5 a hf
      rw [L_X5_idle_121] at hf
      refine xv_iload C dX5_idle_121 2 rfl ?_
      refine xv_aload_n C dX5_idle_123 rfl 0 rfl ?_
      refine xv_get C hiX5 0 (wX0 g _) rfl 1 (by decide) (List.mem_of_getElem? (i := 1) rfl) rfl dX5_idle_124 ?_
      refine xv_getN C hiX4 5 (wX5 g _) rfl 0 (by decide) (fun U H h => h.1 _ (List.mem_of_getElem? (i := 5) rfl)) rfl dX5_idle_127 ?_
      refine xv_icmp_ge C 165 hf dX5_idle_130 (by decide) (fun _ hf => ?_) (fun _ hf => ?_)
      · refine xv_iload C dX5_idle_165 1 rfl ?_
        exact xz_iw hret hf dX5_idle_167
      · refine xv_aload_n C dX5_idle_133 rfl 0 rfl ?_
        refine xv_get C hiX5 0 (wX0 g _) rfl 6 (by decide) (List.mem_of_getElem? (i := 2) rfl) rfl dX5_idle_134 ?_
        refine xv_iload C dX5_idle_137 2 rfl ?_
        refine xv_iald C 33 0 (wX33 g _) rfl hf dX5_idle_139 (fun hf => ?_)
        refine xv_aload_n C dX5_idle_140 rfl 0 rfl ?_
        refine xv_get C hiX5 0 (wX0 g _) rfl 7 (by decide) (List.mem_of_getElem? (i := 3) rfl) rfl dX5_idle_141 ?_
        refine xv_iload C dX5_idle_144 2 rfl ?_
        refine xv_iald C 34 0 (wX34 g _) rfl hf dX5_idle_146 (fun hf => ?_)
        refine xv_icmp_eq C 159 hf dX5_idle_147 (by decide) (fun _ hf => ?_) (fun _ hf => ?_)
        · refine xv_iinc C [(5, .int (x5 + 1)), (0, .ref (aX g 0)), (4, .int x4)] dX5_idle_159 2 rfl rfl (by decide) rfl ?_
          refine xv_goto C 121 dX5_idle_162 (by decide) ?_
          refine xv_eq [1, 2, 0] rfl ?_
          exact ih x4 (x5 + 1) a hf
        · refine xv_iload C dX5_idle_150 1 rfl ?_
          refine xv_iconst C 1 dX5_idle_152 (by decide) ?_
          refine xv_iload C dX5_idle_153 2 rfl ?_
          refine xv_ishl C dX5_idle_155 ?_
          refine xv_ior C dX5_idle_156 ?_
          refine xv_istore C [(4, .int (x4 ||| ((1 : Int32) <<< (x5 &&& 31)))), (0, .ref (aX g 0)), (5, .int x5)] dX5_idle_157 (by decide) rfl ?_
          refine xv_iinc C [(5, .int (x5 + 1)), (4, .int (x4 ||| ((1 : Int32) <<< (x5 &&& 31)))), (0, .ref (aX g 0))] dX5_idle_159 2 rfl rfl (by decide) rfl ?_
          refine xv_goto C 121 dX5_idle_162 (by decide) ?_
          refine xv_eq [2, 1, 0] rfl ?_
          exact ih (x4 ||| ((1 : Int32) <<< (x5 &&& 31))) (x5 + 1) a hf
  have hB115 : ∀  (a : St), B_X5_idle_115 n a = some q → V K (sX g) 6 a [(0, .ref (aX g 0))] 115 [] := by
    intro a hf
    rw [B_X5_idle_115] at hf
    refine xv_iconst C 0 dX5_idle_115 (by decide) ?_
    refine xv_istore C [(4, .int 0), (0, .ref (aX g 0))] dX5_idle_116 (by decide) rfl ?_
    refine xv_iconst C 0 dX5_idle_118 (by decide) ?_
    refine xv_istore C [(5, .int 0), (4, .int 0), (0, .ref (aX g 0))] dX5_idle_119 (by decide) rfl ?_
    refine xv_eq [2, 1, 0] rfl ?_
    exact hL121 n 0 0 a hf
  have hL67 : ∀ (x3 : Int32)  (j : Nat) (x4 : Int32) (a : St), L_X5_idle_67 n x3 j x4 a = some q → V K (sX g) 6 a [(0, .ref (aX g 0)), (3, .int x3), (4, .int x4)] 67 [] := by
    intro x3 j
    induction j with
    | zero =>
      intro x4 a hf
      have hf : (none : Option (Int32 × St)) = some q := hf
      cases hf
    | succ j ih =>
      intro x4 a hf
      rw [L_X5_idle_67] at hf
      refine xv_iload C dX5_idle_67 2 rfl ?_
      refine xv_iload_n C dX5_idle_69 rfl 1 rfl ?_
      refine xv_icmp_ge C 115 hf dX5_idle_70 (by decide) (fun _ hf => ?_) (fun _ hf => ?_)
      · refine xv_eq [0] rfl ?_
        exact hB115 a hf
      · refine xv_aload_n C dX5_idle_73 rfl 0 rfl ?_
        refine xv_get C hiX5 0 (wX0 g _) rfl 1 (by decide) (List.mem_of_getElem? (i := 1) rfl) rfl dX5_idle_74 ?_
        refine xv_aload_n C dX5_idle_77 rfl 0 rfl ?_
        refine xv_get C hiX5 0 (wX0 g _) rfl 6 (by decide) (List.mem_of_getElem? (i := 2) rfl) rfl dX5_idle_78 ?_
        refine xv_aload_n C dX5_idle_81 rfl 0 rfl ?_
        refine xv_get C hiX5 0 (wX0 g _) rfl 1 (by decide) (List.mem_of_getElem? (i := 1) rfl) rfl dX5_idle_82 ?_
        refine xv_getN C hiX4 5 (wX5 g _) rfl 2 (by decide) (fun U H h => h.1 _ (List.mem_of_getElem? (i := 7) rfl)) rfl dX5_idle_85 ?_
        obtain ⟨q5, hg, hf⟩ := dt_bind hf
        refine xc_v (xr_VN C (ci := 4) (As := [.ref (aX g 33), .int (a 5 2)]) (fun l => c_X4_passDay__33 g hS l n (a 5 2) a q5 hg) gX5_idle_X4_passDay_n174 rfl ⟨rfl, rfl⟩ (fun U H h => h.1 _ (List.mem_of_getElem? (i := 51) rfl)) (List.mem_of_getElem? (i := 9) rfl) (List.mem_of_getElem? (i := 22) rfl) (List.mem_of_getElem? (i := 23) rfl) hdN_X4_passDay ⟨Nat.le_of_ble_eq_true rfl, Nat.le_of_ble_eq_true rfl⟩ 5 rfl rfl (wX5 g _) rfl rfl (Nat.le_of_ble_eq_true rfl) dX5_idle_88) ?_
        refine xv_aload_n C dX5_idle_91 rfl 0 rfl ?_
        refine xv_get C hiX5 0 (wX0 g _) rfl 1 (by decide) (List.mem_of_getElem? (i := 1) rfl) rfl dX5_idle_92 ?_
        refine xv_aload_n C dX5_idle_95 rfl 0 rfl ?_
        refine xv_get C hiX5 0 (wX0 g _) rfl 7 (by decide) (List.mem_of_getElem? (i := 3) rfl) rfl dX5_idle_96 ?_
        refine xv_aload_n C dX5_idle_99 rfl 0 rfl ?_
        refine xv_get C hiX5 0 (wX0 g _) rfl 1 (by decide) (List.mem_of_getElem? (i := 1) rfl) rfl dX5_idle_100 ?_
        refine xv_getN C hiX4 5 (wX5 g _) rfl 2 (by decide) (fun U H h => h.1 _ (List.mem_of_getElem? (i := 7) rfl)) rfl dX5_idle_103 ?_
        obtain ⟨q6, hg, hf⟩ := dt_bind hf
        refine xc_v (xr_VN C (ci := 4) (As := [.ref (aX g 34), .int (q5 5 2)]) (fun l => c_X4_passDay__34 g hS l n (q5 5 2) q5 q6 hg) gX5_idle_X4_passDay_n174 rfl ⟨rfl, rfl⟩ (fun U H h => h.1 _ (List.mem_of_getElem? (i := 51) rfl)) (List.mem_of_getElem? (i := 9) rfl) (List.mem_of_getElem? (i := 22) rfl) (List.mem_of_getElem? (i := 23) rfl) hdN_X4_passDay ⟨Nat.le_of_ble_eq_true rfl, Nat.le_of_ble_eq_true rfl⟩ 5 rfl rfl (wX5 g _) rfl rfl (Nat.le_of_ble_eq_true rfl) dX5_idle_106) ?_
        refine xv_iinc C [(4, .int (x4 + 1)), (0, .ref (aX g 0)), (3, .int x3)] dX5_idle_109 2 rfl rfl (by decide) rfl ?_
        refine xv_goto C 67 dX5_idle_112 (by decide) ?_
        refine xv_eq [1, 2, 0] rfl ?_
        exact ih (x4 + 1) q6 hf
  rw [f_X5_idle] at hf
  show V K (sX g) 6 a [(0, .ref (aX g 0)), (1, .int x1), (2, .int x2), (3, .int x3)] 0 []
  refine xv_aload_n C dX5_idle_0 rfl 0 rfl ?_
  refine xv_get C hiX5 0 (wX0 g _) rfl 1 (by decide) (List.mem_of_getElem? (i := 1) rfl) rfl dX5_idle_1 ?_
  refine xv_iload_n C dX5_idle_4 rfl 1 rfl ?_
  obtain ⟨q1, hg, hf⟩ := dt_bind hf
  refine xc_i (xr_VN C (ci := 4) (As := [.int x1]) (fun l => c_X4_hasHouse g hS l x1 a q1 hg) gX5_idle_X4_hasHouse_n114 rfl ⟨rfl, rfl⟩ (fun U H h => h.1 _ (List.mem_of_getElem? (i := 45) rfl)) (List.mem_of_getElem? (i := 9) rfl) (List.mem_of_getElem? (i := 8) rfl) (List.mem_of_getElem? (i := 10) rfl) hdN_X4_hasHouse ⟨Nat.le_of_ble_eq_true rfl, Nat.le_of_ble_eq_true rfl⟩ 5 rfl rfl (wX5 g _) rfl rfl (Nat.le_of_ble_eq_true rfl) dX5_idle_5) ?_
  refine xv_if_ne C (y := 0) 14 hf dX5_idle_8 (by decide) (fun _ hf => ?_) (fun _ hf => ?_)
  · refine xv_bipush C (-2) dX5_idle_11 (by decide) ?_
    exact xz_iw hret hf dX5_idle_13
  · refine xv_iload_n C dX5_idle_14 rfl 2 rfl ?_
    refine xv_iconst C 0 dX5_idle_15 (by decide) ?_
    refine xv_bipush C 99 dX5_idle_16 (by decide) ?_
    obtain ⟨q2, hg, hf⟩ := dt_bind hf
    refine xc_i (xr_S C (As := [.int x2, .int 0, .int 99]) (fun l => c_X5_within (sX g) hS l x2 0 99 a q2 hg) gX5_idle_X5_within rfl ⟨rfl, rfl⟩ hdS_X5_within ⟨Nat.le_of_ble_eq_true rfl, Nat.le_of_ble_eq_true rfl⟩ rfl rfl (Nat.le_of_ble_eq_true rfl) dX5_idle_18) ?_
    refine xv_if_eq C (y := 0) 34 hf dX5_idle_21 (by decide) (fun _ hf => ?_) (fun _ hf => ?_)
    · refine xv_bipush C (-3) dX5_idle_34 (by decide) ?_
      exact xz_iw hret hf dX5_idle_36
    · refine xv_iload_n C dX5_idle_24 rfl 3 rfl ?_
      refine xv_iconst C 0 dX5_idle_25 (by decide) ?_
      refine xv_bipush C 99 dX5_idle_26 (by decide) ?_
      obtain ⟨q3, hg, hf⟩ := dt_bind hf
      refine xc_i (xr_S C (As := [.int x3, .int 0, .int 99]) (fun l => c_X5_within (sX g) hS l x3 0 99 a q3 hg) gX5_idle_X5_within rfl ⟨rfl, rfl⟩ hdS_X5_within ⟨Nat.le_of_ble_eq_true rfl, Nat.le_of_ble_eq_true rfl⟩ rfl rfl (Nat.le_of_ble_eq_true rfl) dX5_idle_28) ?_
      refine xv_if_ne C (y := 0) 37 hf dX5_idle_31 (by decide) (fun _ hf => ?_) (fun _ hf => ?_)
      · refine xv_bipush C (-3) dX5_idle_34 (by decide) ?_
        exact xz_iw hret hf dX5_idle_36
      · refine xv_aload_n C dX5_idle_37 rfl 0 rfl ?_
        refine xv_iload_n C dX5_idle_38 rfl 2 rfl ?_
        obtain ⟨q4, hg, hf⟩ := dt_bind hf
        refine xc_v (xr_V C (ci := 5) (As := [.int x2]) (fun l => c_X5_foresee g hS l n x2 a q4 hg) gX5_idle_X5_foresee rfl ⟨rfl, rfl⟩ hdV_X5_foresee ⟨Nat.le_of_ble_eq_true rfl, Nat.le_of_ble_eq_true rfl⟩ 0 rfl rfl (wX0 g _) rfl rfl (Nat.le_of_ble_eq_true rfl) dX5_idle_39) ?_
        refine xv_aload_n C dX5_idle_42 rfl 0 rfl ?_
        refine xv_get C hiX5 0 (wX0 g _) rfl 6 (by decide) (List.mem_of_getElem? (i := 2) rfl) rfl dX5_idle_43 ?_
        refine xv_iconst C 0 dX5_idle_46 (by decide) ?_
        refine xv_aload_n C dX5_idle_47 rfl 0 rfl ?_
        refine xv_get C hiX5 0 (wX0 g _) rfl 7 (by decide) (List.mem_of_getElem? (i := 3) rfl) rfl dX5_idle_48 ?_
        refine xv_iconst C 0 dX5_idle_51 (by decide) ?_
        refine xv_bipush C 8 dX5_idle_52 (by decide) ?_
        refine xv_copy C (List.mem_of_getElem? (i := 4) rfl) (List.mem_of_getElem? (i := 5) rfl) (List.mem_of_getElem? (i := 6) rfl) (List.mem_of_getElem? (i := 7) rfl) 33 34 0 (wX33 g _) (wX34 g _) rfl (uprow q4 34 (va_cpy (q4 33) (q4 34) ((0 : Int32).toNatClampNeg) ((0 : Int32).toNatClampNeg) ((8 : Int32).toNatClampNeg))) (rX34 g _ _) hf (Nat.le_of_ble_eq_true rfl) (Nat.le_of_ble_eq_true rfl) dX5_idle_54 rfl (fun hf => ?_)
        refine xv_aload_n C dX5_idle_57 rfl 0 rfl ?_
        refine xv_get C hiX5 0 (wX0 g _) rfl 7 (by decide) (List.mem_of_getElem? (i := 3) rfl) rfl dX5_idle_58 ?_
        refine xv_iload_n C dX5_idle_61 rfl 1 rfl ?_
        refine xv_iconst C (-1) dX5_idle_62 (by decide) ?_
        refine xv_iast C 34 0 (wX34 g _) rfl (up (uprow q4 34 (va_cpy (q4 33) (q4 34) ((0 : Int32).toNatClampNeg) ((0 : Int32).toNatClampNeg) ((8 : Int32).toNatClampNeg))) 34 x1.toNatClampNeg (-1)) (pX34 g _ _ _) hf dX5_idle_63 (fun hf => ?_)
        refine xv_iconst C 0 dX5_idle_64 (by decide) ?_
        refine xv_istore C [(4, .int 0), (0, .ref (aX g 0)), (1, .int x1), (2, .int x2), (3, .int x3)] dX5_idle_65 (by decide) rfl ?_
        refine xv_eq [1, 4, 0] rfl ?_
        exact hL67 x3 n 0 (up (uprow q4 34 (va_cpy (q4 33) (q4 34) ((0 : Int32).toNatClampNeg) ((0 : Int32).toNatClampNeg) ((8 : Int32).toNatClampNeg))) 34 x1.toNatClampNeg (-1)) hf
set_option maxRecDepth 100000 in
set_option maxHeartbeats 4000000 in
theorem c_X5_power (S : SID) (hS : xSide S) (l : Launch) (n : Nat) (x0 : Int64) (x2 : Int32) (a : St) (q : Int64) (hf : f_X5_power n x0 x2 = some q) : Met l yX5_power wsX5_power rm_X5_power (xPre S [.long x0, .int x2] a) (xPostL S q a) 0 0 S.2.2.1 := by
  refine xm_l (av := [.long x0, .int x2]) (cc := cX5_power) (maxL := 6) (by decide) rfl (Nat.le_of_ble_eq_true rfl) hS.1 hS.2 (fun K C hret => ?_)
  have C : CC K S cX5_power 6 wsX5_power RX5 rm_X5_power := C
  have hL5 : ∀ (x0 : Int64) (x2 : Int32)  (j : Nat) (x3 : Int64) (x5 : Int32), L_X5_power_5 n x0 x2 j x3 x5 = some q → V K S 6 a [(0, .long x0), (2, .int x2), (3, .long x3), (5, .int x5)] 5 [] := by
    intro x0 x2 j
    induction j with
    | zero =>
      intro x3 x5 hf
      have hf : (none : Option Int64) = some q := hf
      cases hf
    | succ j ih =>
      intro x3 x5 hf
      rw [L_X5_power_5] at hf
      refine xv_iload C dX5_power_5 3 rfl ?_
      refine xv_iload_n C dX5_power_7 rfl 1 rfl ?_
      refine xv_icmp_ge C 21 hf dX5_power_8 (by decide) (fun _ hf => ?_) (fun _ hf => ?_)
      · refine xv_lload_n C dX5_power_21 rfl 2 rfl ?_
        exact xz_lr hret hf dX5_power_22
      · refine xv_lload_n C dX5_power_11 rfl 2 rfl ?_
        refine xv_lload_n C dX5_power_12 rfl 0 rfl ?_
        refine xv_lmul C dX5_power_13 ?_
        refine xv_lstore_n C [(3, .long (x3 * x0)), (0, .long x0), (2, .int x2), (5, .int x5)] dX5_power_14 rfl (by decide) rfl ?_
        refine xv_iinc C [(5, .int (x5 + 1)), (3, .long (x3 * x0)), (0, .long x0), (2, .int x2)] dX5_power_15 3 rfl rfl (by decide) rfl ?_
        refine xv_goto C 5 dX5_power_18 (by decide) ?_
        refine xv_eq [2, 3, 1, 0] rfl ?_
        exact ih (x3 * x0) (x5 + 1) hf
  rw [f_X5_power] at hf
  show V K S 6 a [(0, .long x0), (2, .int x2)] 0 []
  refine xv_lconst C 1 dX5_power_0 (by decide) ?_
  refine xv_lstore_n C [(3, .long 1), (0, .long x0), (2, .int x2)] dX5_power_1 rfl (by decide) rfl ?_
  refine xv_iconst C 0 dX5_power_2 (by decide) ?_
  refine xv_istore C [(5, .int 0), (3, .long 1), (0, .long x0), (2, .int x2)] dX5_power_3 (by decide) rfl ?_
  refine xv_eq [2, 3, 1, 0] rfl ?_
  exact hL5 x0 x2 n 1 0 hf
set_option maxRecDepth 100000 in
set_option maxHeartbeats 4000000 in
theorem c_X5_odds (g : GX) (hS : xSide (sX g)) (l : Launch) (n : Nat) (x1 : Int32) (x2 : Int32) (x3 : Int32) (x4 : Int32) (a : St) (q : (Int64 × St)) (hf : f_X5_odds n x1 x2 x3 x4 a = some q) : Met l yX5_odds wsX5_odds rm_X5_odds (xPre (sX g) [.ref (aX g 0), .int x1, .int x2, .int x3, .int x4] a) (xPostL (sX g) q.1 q.2) 0 0 (sX g).2.2.1 := by
  refine xm_l (av := [.ref (aX g 0), .int x1, .int x2, .int x3, .int x4]) (cc := cX5_odds) (maxL := 7) (by decide) rfl (Nat.le_of_ble_eq_true rfl) hS.1 hS.2 (fun K C hret => ?_)
  have C : CC K (sX g) cX5_odds 7 wsX5_odds RX5 rm_X5_odds := C
  have hiX5 : ∀ w ∈ u_ws RX5 TX5 13, w ∈ wsX5_odds := fun w h => List.mem_cons_of_mem _ (List.mem_append_left _ (List.mem_append_left _ (List.mem_append_right _ h)))
  rw [f_X5_odds] at hf
  show V K (sX g) 7 a [(0, .ref (aX g 0)), (1, .int x1), (2, .int x2), (3, .int x3), (4, .int x4)] 0 []
  refine xv_aload_n C dX5_odds_0 rfl 0 rfl ?_
  refine xv_get C hiX5 0 (wX0 g _) rfl 1 (by decide) (List.mem_of_getElem? (i := 1) rfl) rfl dX5_odds_1 ?_
  refine xv_iload_n C dX5_odds_4 rfl 1 rfl ?_
  obtain ⟨q1, hg, hf⟩ := dt_bind hf
  refine xc_i (xr_VN C (ci := 4) (As := [.int x1]) (fun l => c_X4_hasHouse g hS l x1 a q1 hg) gX5_odds_X4_hasHouse_n114 rfl ⟨rfl, rfl⟩ (fun U H h => h.1 _ (List.mem_of_getElem? (i := 45) rfl)) (List.mem_of_getElem? (i := 6) rfl) (List.mem_of_getElem? (i := 5) rfl) (List.mem_of_getElem? (i := 7) rfl) hdN_X4_hasHouse ⟨Nat.le_of_ble_eq_true rfl, Nat.le_of_ble_eq_true rfl⟩ 5 rfl rfl (wX5 g _) rfl rfl (Nat.le_of_ble_eq_true rfl) dX5_odds_5) ?_
  refine xv_if_ne C (y := 0) 15 hf dX5_odds_8 (by decide) (fun _ hf => ?_) (fun _ hf => ?_)
  · refine xv_ldc2 C (-2) dX5_odds_11 (List.mem_of_getElem? (i := 2) rfl) ?_
    exact xz_lw hret hf dX5_odds_14
  · refine xv_iload_n C dX5_odds_15 rfl 2 rfl ?_
    refine xv_iconst C 0 dX5_odds_16 (by decide) ?_
    refine xv_bipush C 9 dX5_odds_17 (by decide) ?_
    obtain ⟨q2, hg, hf⟩ := dt_bind hf
    refine xc_i (xr_S C (As := [.int x2, .int 0, .int 9]) (fun l => c_X5_within (sX g) hS l x2 0 9 a q2 hg) gX5_odds_X5_within rfl ⟨rfl, rfl⟩ hdS_X5_within ⟨Nat.le_of_ble_eq_true rfl, Nat.le_of_ble_eq_true rfl⟩ rfl rfl (Nat.le_of_ble_eq_true rfl) dX5_odds_19) ?_
    refine xv_if_eq C (y := 0) 45 hf dX5_odds_22 (by decide) (fun _ hf => ?_) (fun _ hf => ?_)
    · refine xv_ldc2 C (-3) dX5_odds_45 (List.mem_of_getElem? (i := 3) rfl) ?_
      exact xz_lw hret hf dX5_odds_48
    · refine xv_iload_n C dX5_odds_25 rfl 3 rfl ?_
      refine xv_iconst C 0 dX5_odds_26 (by decide) ?_
      refine xv_bipush C 10 dX5_odds_27 (by decide) ?_
      obtain ⟨q3, hg, hf⟩ := dt_bind hf
      refine xc_i (xr_S C (As := [.int x3, .int 0, .int 10]) (fun l => c_X5_within (sX g) hS l x3 0 10 a q3 hg) gX5_odds_X5_within rfl ⟨rfl, rfl⟩ hdS_X5_within ⟨Nat.le_of_ble_eq_true rfl, Nat.le_of_ble_eq_true rfl⟩ rfl rfl (Nat.le_of_ble_eq_true rfl) dX5_odds_29) ?_
      refine xv_if_eq C (y := 0) 45 hf dX5_odds_32 (by decide) (fun _ hf => ?_) (fun _ hf => ?_)
      · refine xv_ldc2 C (-3) dX5_odds_45 (List.mem_of_getElem? (i := 3) rfl) ?_
        exact xz_lw hret hf dX5_odds_48
      · refine xv_iload C dX5_odds_35 4 rfl ?_
        refine xv_iconst C 0 dX5_odds_37 (by decide) ?_
        refine xv_iconst C 1 dX5_odds_38 (by decide) ?_
        obtain ⟨q4, hg, hf⟩ := dt_bind hf
        refine xc_i (xr_S C (As := [.int x4, .int 0, .int 1]) (fun l => c_X5_within (sX g) hS l x4 0 1 a q4 hg) gX5_odds_X5_within rfl ⟨rfl, rfl⟩ hdS_X5_within ⟨Nat.le_of_ble_eq_true rfl, Nat.le_of_ble_eq_true rfl⟩ rfl rfl (Nat.le_of_ble_eq_true rfl) dX5_odds_39) ?_
        refine xv_if_ne C (y := 0) 49 hf dX5_odds_42 (by decide) (fun _ hf => ?_) (fun _ hf => ?_)
        · refine xv_ldc2 C (-3) dX5_odds_45 (List.mem_of_getElem? (i := 3) rfl) ?_
          exact xz_lw hret hf dX5_odds_48
        · refine xv_aload_n C dX5_odds_49 rfl 0 rfl ?_
          refine xv_iload_n C dX5_odds_50 rfl 2 rfl ?_
          obtain ⟨q5, hg, hf⟩ := dt_bind hf
          refine xc_v (xr_V C (ci := 5) (As := [.int x2]) (fun l => c_X5_foresee g hS l n x2 a q5 hg) gX5_odds_X5_foresee rfl ⟨rfl, rfl⟩ hdV_X5_foresee ⟨Nat.le_of_ble_eq_true rfl, Nat.le_of_ble_eq_true rfl⟩ 0 rfl rfl (wX0 g _) rfl rfl (Nat.le_of_ble_eq_true rfl) dX5_odds_51) ?_
          refine xv_aload_n C dX5_odds_54 rfl 0 rfl ?_
          refine xv_get C hiX5 0 (wX0 g _) rfl 6 (by decide) (List.mem_of_getElem? (i := 4) rfl) rfl dX5_odds_55 ?_
          refine xv_iload_n C dX5_odds_58 rfl 1 rfl ?_
          refine xv_iald C 33 0 (wX33 g _) rfl hf dX5_odds_59 (fun hf => ?_)
          refine xv_iconst C (-1) dX5_odds_60 (by decide) ?_
          refine xv_icmp_ne C 68 hf dX5_odds_61 (by decide) (fun _ hf => ?_) (fun _ hf => ?_)
          · refine xv_iconst C 0 dX5_odds_64 (by decide) ?_
            refine xv_goto C 72 dX5_odds_65 (by decide) ?_
            refine xv_istore C [(5, .int 0), (0, .ref (aX g 0)), (1, .int x1), (2, .int x2), (3, .int x3), (4, .int x4)] dX5_odds_72 (by decide) rfl ?_
            refine xv_bipush C 10 dX5_odds_74 (by decide) ?_
            refine xv_istore C [(6, .int 10), (5, .int 0), (0, .ref (aX g 0)), (1, .int x1), (2, .int x2), (3, .int x3), (4, .int x4)] dX5_odds_76 (by decide) rfl ?_
            refine xv_iload C dX5_odds_78 1 rfl ?_
            refine xv_iconst C 2 dX5_odds_80 (by decide) ?_
            refine xv_irem C (B := some ()) (v := ()) (by decide) dX5_odds_81 (fun _ => ?_)
            refine xv_if_ne C (y := 0) (A := some ()) (B := (none : Option Unit)) (v := ()) 97 (by decide) dX5_odds_82 (by decide) (fun _ _ => ?_) (fun _ hf => by cases hf)
            refine xv_iload C dX5_odds_85 1 rfl ?_
            refine xv_iconst C 2 dX5_odds_87 (by decide) ?_
            refine xv_idiv C (B := some ()) (v := ()) (by decide) dX5_odds_88 (fun _ => ?_)
            refine xv_istore C [(5, .int ((0 : Int32) / 2)), (6, .int 10), (0, .ref (aX g 0)), (1, .int x1), (2, .int x2), (3, .int x3), (4, .int x4)] dX5_odds_89 (by decide) rfl ?_
            refine xv_iload C dX5_odds_91 1 rfl ?_
            refine xv_iconst C 2 dX5_odds_93 (by decide) ?_
            refine xv_idiv C (B := some ()) (v := ()) (by decide) dX5_odds_94 (fun _ => ?_)
            refine xv_istore C [(6, .int ((10 : Int32) / 2)), (5, .int ((0 : Int32) / 2)), (0, .ref (aX g 0)), (1, .int x1), (2, .int x2), (3, .int x3), (4, .int x4)] dX5_odds_95 (by decide) rfl ?_
            refine xv_iload C dX5_odds_97 1 rfl ?_
            refine xv_iconst C 5 dX5_odds_99 (by decide) ?_
            refine xv_irem C (B := some ()) (v := ()) (by decide) dX5_odds_100 (fun _ => ?_)
            refine xv_if_ne C (y := 0) (A := some ()) (B := (none : Option Unit)) (v := ()) 116 (by decide) dX5_odds_101 (by decide) (fun _ _ => ?_) (fun _ hf => by cases hf)
            refine xv_iload C dX5_odds_104 1 rfl ?_
            refine xv_iconst C 5 dX5_odds_106 (by decide) ?_
            refine xv_idiv C (B := some ()) (v := ()) (by decide) dX5_odds_107 (fun _ => ?_)
            refine xv_istore C [(5, .int (((0 : Int32) / 2) / 5)), (6, .int ((10 : Int32) / 2)), (0, .ref (aX g 0)), (1, .int x1), (2, .int x2), (3, .int x3), (4, .int x4)] dX5_odds_108 (by decide) rfl ?_
            refine xv_iload C dX5_odds_110 1 rfl ?_
            refine xv_iconst C 5 dX5_odds_112 (by decide) ?_
            refine xv_idiv C (B := some ()) (v := ()) (by decide) dX5_odds_113 (fun _ => ?_)
            refine xv_istore C [(6, .int (((10 : Int32) / 2) / 5)), (5, .int (((0 : Int32) / 2) / 5)), (0, .ref (aX g 0)), (1, .int x1), (2, .int x2), (3, .int x3), (4, .int x4)] dX5_odds_114 (by decide) rfl ?_
            refine xv_iload C dX5_odds_116 6 rfl ?_
            refine xv_if_ne C (y := 0) 127 hf dX5_odds_118 (by decide) (fun _ hf => ?_) (fun _ hf => ?_)
            · refine xv_iload C dX5_odds_121 1 rfl ?_
              refine xv_i2l C dX5_odds_123 ?_
              refine xv_goto C 130 dX5_odds_124 (by decide) ?_
              refine xv_iload_n C dX5_odds_130 rfl 4 rfl ?_
              refine xv_iconst C 1 dX5_odds_131 (by decide) ?_
              refine xv_iadd C dX5_odds_132 ?_
              obtain ⟨q15, hg, hf⟩ := dt_bind hf
              refine xc_l (xr_S C (As := [.long ((((0 : Int32) / 2) / 5).toInt64), .int (x2 + 1)]) (fun l => c_X5_power (sX g) hS l n ((((0 : Int32) / 2) / 5).toInt64) (x2 + 1) q5 q15 hg) gX5_odds_X5_power rfl ⟨rfl, rfl⟩ hdS_X5_power ⟨Nat.le_of_ble_eq_true rfl, Nat.le_of_ble_eq_true rfl⟩ rfl rfl (Nat.le_of_ble_eq_true rfl) dX5_odds_133) ?_
              exact xz_lw hret hf dX5_odds_136
            · refine xv_iload C dX5_odds_127 0 rfl ?_
              refine xv_i2l C dX5_odds_129 ?_
              refine xv_iload_n C dX5_odds_130 rfl 4 rfl ?_
              refine xv_iconst C 1 dX5_odds_131 (by decide) ?_
              refine xv_iadd C dX5_odds_132 ?_
              obtain ⟨q14, hg, hf⟩ := dt_bind hf
              refine xc_l (xr_S C (As := [.long ((((10 : Int32) / 2) / 5).toInt64), .int (x2 + 1)]) (fun l => c_X5_power (sX g) hS l n ((((10 : Int32) / 2) / 5).toInt64) (x2 + 1) q5 q14 hg) gX5_odds_X5_power rfl ⟨rfl, rfl⟩ hdS_X5_power ⟨Nat.le_of_ble_eq_true rfl, Nat.le_of_ble_eq_true rfl⟩ rfl rfl (Nat.le_of_ble_eq_true rfl) dX5_odds_133) ?_
              exact xz_lw hret hf dX5_odds_136
          · refine xv_bipush C 10 dX5_odds_68 (by decide) ?_
            refine xv_iload_n C dX5_odds_70 rfl 3 rfl ?_
            refine xv_isub C dX5_odds_71 ?_
            refine xv_istore C [(5, .int ((10 : Int32) - x3)), (0, .ref (aX g 0)), (1, .int x1), (2, .int x2), (3, .int x3), (4, .int x4)] dX5_odds_72 (by decide) rfl ?_
            refine xv_bipush C 10 dX5_odds_74 (by decide) ?_
            refine xv_istore C [(6, .int 10), (5, .int ((10 : Int32) - x3)), (0, .ref (aX g 0)), (1, .int x1), (2, .int x2), (3, .int x3), (4, .int x4)] dX5_odds_76 (by decide) rfl ?_
            refine xv_iload C dX5_odds_78 1 rfl ?_
            refine xv_iconst C 2 dX5_odds_80 (by decide) ?_
            refine xv_irem C (B := some ()) (v := ()) (by decide) dX5_odds_81 (fun _ => ?_)
            refine xv_if_ne C (y := 0) 97 hf dX5_odds_82 (by decide) (fun _ hf => ?_) (fun _ hf => ?_)
            · refine xv_iload C dX5_odds_85 1 rfl ?_
              refine xv_iconst C 2 dX5_odds_87 (by decide) ?_
              refine xv_idiv C (B := some ()) (v := ()) (by decide) dX5_odds_88 (fun _ => ?_)
              refine xv_istore C [(5, .int (((10 : Int32) - x3) / 2)), (6, .int 10), (0, .ref (aX g 0)), (1, .int x1), (2, .int x2), (3, .int x3), (4, .int x4)] dX5_odds_89 (by decide) rfl ?_
              refine xv_iload C dX5_odds_91 1 rfl ?_
              refine xv_iconst C 2 dX5_odds_93 (by decide) ?_
              refine xv_idiv C (B := some ()) (v := ()) (by decide) dX5_odds_94 (fun _ => ?_)
              refine xv_istore C [(6, .int ((10 : Int32) / 2)), (5, .int (((10 : Int32) - x3) / 2)), (0, .ref (aX g 0)), (1, .int x1), (2, .int x2), (3, .int x3), (4, .int x4)] dX5_odds_95 (by decide) rfl ?_
              refine xv_iload C dX5_odds_97 1 rfl ?_
              refine xv_iconst C 5 dX5_odds_99 (by decide) ?_
              refine xv_irem C (B := some ()) (v := ()) (by decide) dX5_odds_100 (fun _ => ?_)
              refine xv_if_ne C (y := 0) 116 hf dX5_odds_101 (by decide) (fun _ hf => ?_) (fun _ hf => ?_)
              · refine xv_iload C dX5_odds_104 1 rfl ?_
                refine xv_iconst C 5 dX5_odds_106 (by decide) ?_
                refine xv_idiv C (B := some ()) (v := ()) (by decide) dX5_odds_107 (fun _ => ?_)
                refine xv_istore C [(5, .int ((((10 : Int32) - x3) / 2) / 5)), (6, .int ((10 : Int32) / 2)), (0, .ref (aX g 0)), (1, .int x1), (2, .int x2), (3, .int x3), (4, .int x4)] dX5_odds_108 (by decide) rfl ?_
                refine xv_iload C dX5_odds_110 1 rfl ?_
                refine xv_iconst C 5 dX5_odds_112 (by decide) ?_
                refine xv_idiv C (B := some ()) (v := ()) (by decide) dX5_odds_113 (fun _ => ?_)
                refine xv_istore C [(6, .int (((10 : Int32) / 2) / 5)), (5, .int ((((10 : Int32) - x3) / 2) / 5)), (0, .ref (aX g 0)), (1, .int x1), (2, .int x2), (3, .int x3), (4, .int x4)] dX5_odds_114 (by decide) rfl ?_
                refine xv_iload C dX5_odds_116 6 rfl ?_
                refine xv_if_ne C (y := 0) 127 hf dX5_odds_118 (by decide) (fun _ hf => ?_) (fun _ hf => ?_)
                · refine xv_iload C dX5_odds_121 1 rfl ?_
                  refine xv_i2l C dX5_odds_123 ?_
                  refine xv_goto C 130 dX5_odds_124 (by decide) ?_
                  refine xv_iload_n C dX5_odds_130 rfl 4 rfl ?_
                  refine xv_iconst C 1 dX5_odds_131 (by decide) ?_
                  refine xv_iadd C dX5_odds_132 ?_
                  obtain ⟨q13, hg, hf⟩ := dt_bind hf
                  refine xc_l (xr_S C (As := [.long (((((10 : Int32) - x3) / 2) / 5).toInt64), .int (x2 + 1)]) (fun l => c_X5_power (sX g) hS l n (((((10 : Int32) - x3) / 2) / 5).toInt64) (x2 + 1) q5 q13 hg) gX5_odds_X5_power rfl ⟨rfl, rfl⟩ hdS_X5_power ⟨Nat.le_of_ble_eq_true rfl, Nat.le_of_ble_eq_true rfl⟩ rfl rfl (Nat.le_of_ble_eq_true rfl) dX5_odds_133) ?_
                  exact xz_lw hret hf dX5_odds_136
                · refine xv_iload C dX5_odds_127 0 rfl ?_
                  refine xv_i2l C dX5_odds_129 ?_
                  refine xv_iload_n C dX5_odds_130 rfl 4 rfl ?_
                  refine xv_iconst C 1 dX5_odds_131 (by decide) ?_
                  refine xv_iadd C dX5_odds_132 ?_
                  obtain ⟨q12, hg, hf⟩ := dt_bind hf
                  refine xc_l (xr_S C (As := [.long ((((10 : Int32) / 2) / 5).toInt64), .int (x2 + 1)]) (fun l => c_X5_power (sX g) hS l n ((((10 : Int32) / 2) / 5).toInt64) (x2 + 1) q5 q12 hg) gX5_odds_X5_power rfl ⟨rfl, rfl⟩ hdS_X5_power ⟨Nat.le_of_ble_eq_true rfl, Nat.le_of_ble_eq_true rfl⟩ rfl rfl (Nat.le_of_ble_eq_true rfl) dX5_odds_133) ?_
                  exact xz_lw hret hf dX5_odds_136
              · refine xv_iload C dX5_odds_116 6 rfl ?_
                refine xv_if_ne C (y := 0) 127 hf dX5_odds_118 (by decide) (fun _ hf => ?_) (fun _ hf => ?_)
                · refine xv_iload C dX5_odds_121 1 rfl ?_
                  refine xv_i2l C dX5_odds_123 ?_
                  refine xv_goto C 130 dX5_odds_124 (by decide) ?_
                  refine xv_iload_n C dX5_odds_130 rfl 4 rfl ?_
                  refine xv_iconst C 1 dX5_odds_131 (by decide) ?_
                  refine xv_iadd C dX5_odds_132 ?_
                  obtain ⟨q11, hg, hf⟩ := dt_bind hf
                  refine xc_l (xr_S C (As := [.long ((((10 : Int32) - x3) / 2).toInt64), .int (x2 + 1)]) (fun l => c_X5_power (sX g) hS l n ((((10 : Int32) - x3) / 2).toInt64) (x2 + 1) q5 q11 hg) gX5_odds_X5_power rfl ⟨rfl, rfl⟩ hdS_X5_power ⟨Nat.le_of_ble_eq_true rfl, Nat.le_of_ble_eq_true rfl⟩ rfl rfl (Nat.le_of_ble_eq_true rfl) dX5_odds_133) ?_
                  exact xz_lw hret hf dX5_odds_136
                · refine xv_iload C dX5_odds_127 0 rfl ?_
                  refine xv_i2l C dX5_odds_129 ?_
                  refine xv_iload_n C dX5_odds_130 rfl 4 rfl ?_
                  refine xv_iconst C 1 dX5_odds_131 (by decide) ?_
                  refine xv_iadd C dX5_odds_132 ?_
                  obtain ⟨q10, hg, hf⟩ := dt_bind hf
                  refine xc_l (xr_S C (As := [.long (((10 : Int32) / 2).toInt64), .int (x2 + 1)]) (fun l => c_X5_power (sX g) hS l n (((10 : Int32) / 2).toInt64) (x2 + 1) q5 q10 hg) gX5_odds_X5_power rfl ⟨rfl, rfl⟩ hdS_X5_power ⟨Nat.le_of_ble_eq_true rfl, Nat.le_of_ble_eq_true rfl⟩ rfl rfl (Nat.le_of_ble_eq_true rfl) dX5_odds_133) ?_
                  exact xz_lw hret hf dX5_odds_136
            · refine xv_iload C dX5_odds_97 1 rfl ?_
              refine xv_iconst C 5 dX5_odds_99 (by decide) ?_
              refine xv_irem C (B := some ()) (v := ()) (by decide) dX5_odds_100 (fun _ => ?_)
              refine xv_if_ne C (y := 0) 116 hf dX5_odds_101 (by decide) (fun _ hf => ?_) (fun _ hf => ?_)
              · refine xv_iload C dX5_odds_104 1 rfl ?_
                refine xv_iconst C 5 dX5_odds_106 (by decide) ?_
                refine xv_idiv C (B := some ()) (v := ()) (by decide) dX5_odds_107 (fun _ => ?_)
                refine xv_istore C [(5, .int (((10 : Int32) - x3) / 5)), (6, .int 10), (0, .ref (aX g 0)), (1, .int x1), (2, .int x2), (3, .int x3), (4, .int x4)] dX5_odds_108 (by decide) rfl ?_
                refine xv_iload C dX5_odds_110 1 rfl ?_
                refine xv_iconst C 5 dX5_odds_112 (by decide) ?_
                refine xv_idiv C (B := some ()) (v := ()) (by decide) dX5_odds_113 (fun _ => ?_)
                refine xv_istore C [(6, .int ((10 : Int32) / 5)), (5, .int (((10 : Int32) - x3) / 5)), (0, .ref (aX g 0)), (1, .int x1), (2, .int x2), (3, .int x3), (4, .int x4)] dX5_odds_114 (by decide) rfl ?_
                refine xv_iload C dX5_odds_116 6 rfl ?_
                refine xv_if_ne C (y := 0) 127 hf dX5_odds_118 (by decide) (fun _ hf => ?_) (fun _ hf => ?_)
                · refine xv_iload C dX5_odds_121 1 rfl ?_
                  refine xv_i2l C dX5_odds_123 ?_
                  refine xv_goto C 130 dX5_odds_124 (by decide) ?_
                  refine xv_iload_n C dX5_odds_130 rfl 4 rfl ?_
                  refine xv_iconst C 1 dX5_odds_131 (by decide) ?_
                  refine xv_iadd C dX5_odds_132 ?_
                  obtain ⟨q9, hg, hf⟩ := dt_bind hf
                  refine xc_l (xr_S C (As := [.long ((((10 : Int32) - x3) / 5).toInt64), .int (x2 + 1)]) (fun l => c_X5_power (sX g) hS l n ((((10 : Int32) - x3) / 5).toInt64) (x2 + 1) q5 q9 hg) gX5_odds_X5_power rfl ⟨rfl, rfl⟩ hdS_X5_power ⟨Nat.le_of_ble_eq_true rfl, Nat.le_of_ble_eq_true rfl⟩ rfl rfl (Nat.le_of_ble_eq_true rfl) dX5_odds_133) ?_
                  exact xz_lw hret hf dX5_odds_136
                · refine xv_iload C dX5_odds_127 0 rfl ?_
                  refine xv_i2l C dX5_odds_129 ?_
                  refine xv_iload_n C dX5_odds_130 rfl 4 rfl ?_
                  refine xv_iconst C 1 dX5_odds_131 (by decide) ?_
                  refine xv_iadd C dX5_odds_132 ?_
                  obtain ⟨q8, hg, hf⟩ := dt_bind hf
                  refine xc_l (xr_S C (As := [.long (((10 : Int32) / 5).toInt64), .int (x2 + 1)]) (fun l => c_X5_power (sX g) hS l n (((10 : Int32) / 5).toInt64) (x2 + 1) q5 q8 hg) gX5_odds_X5_power rfl ⟨rfl, rfl⟩ hdS_X5_power ⟨Nat.le_of_ble_eq_true rfl, Nat.le_of_ble_eq_true rfl⟩ rfl rfl (Nat.le_of_ble_eq_true rfl) dX5_odds_133) ?_
                  exact xz_lw hret hf dX5_odds_136
              · refine xv_iload C dX5_odds_116 6 rfl ?_
                refine xv_if_ne C (y := 0) 127 hf dX5_odds_118 (by decide) (fun _ hf => ?_) (fun _ hf => ?_)
                · refine xv_iload C dX5_odds_121 1 rfl ?_
                  refine xv_i2l C dX5_odds_123 ?_
                  refine xv_goto C 130 dX5_odds_124 (by decide) ?_
                  refine xv_iload_n C dX5_odds_130 rfl 4 rfl ?_
                  refine xv_iconst C 1 dX5_odds_131 (by decide) ?_
                  refine xv_iadd C dX5_odds_132 ?_
                  obtain ⟨q7, hg, hf⟩ := dt_bind hf
                  refine xc_l (xr_S C (As := [.long (((10 : Int32) - x3).toInt64), .int (x2 + 1)]) (fun l => c_X5_power (sX g) hS l n (((10 : Int32) - x3).toInt64) (x2 + 1) q5 q7 hg) gX5_odds_X5_power rfl ⟨rfl, rfl⟩ hdS_X5_power ⟨Nat.le_of_ble_eq_true rfl, Nat.le_of_ble_eq_true rfl⟩ rfl rfl (Nat.le_of_ble_eq_true rfl) dX5_odds_133) ?_
                  exact xz_lw hret hf dX5_odds_136
                · refine xv_iload C dX5_odds_127 0 rfl ?_
                  refine xv_i2l C dX5_odds_129 ?_
                  refine xv_iload_n C dX5_odds_130 rfl 4 rfl ?_
                  refine xv_iconst C 1 dX5_odds_131 (by decide) ?_
                  refine xv_iadd C dX5_odds_132 ?_
                  obtain ⟨q6, hg, hf⟩ := dt_bind hf
                  refine xc_l (xr_S C (As := [.long ((10 : Int32).toInt64), .int (x2 + 1)]) (fun l => c_X5_power (sX g) hS l n ((10 : Int32).toInt64) (x2 + 1) q5 q6 hg) gX5_odds_X5_power rfl ⟨rfl, rfl⟩ hdS_X5_power ⟨Nat.le_of_ble_eq_true rfl, Nat.le_of_ble_eq_true rfl⟩ rfl rfl (Nat.le_of_ble_eq_true rfl) dX5_odds_133) ?_
                  exact xz_lw hret hf dX5_odds_136
set_option maxRecDepth 100000 in
set_option maxHeartbeats 4000000 in
theorem c_J6_numberOfTrailingZeros_0f7a4 (S : SID) (hS : xSide S) (l : Launch) (x0 : Int32) (a : St) (q : Int32) (hf : f_J6_numberOfTrailingZeros_0f7a4 x0 = some q) : Met l yJ6_numberOfTrailingZeros_0f7a4 wsJ6_numberOfTrailingZeros_0f7a4 rm_J6_numberOfTrailingZeros_0f7a4 (xPre S [.int x0] a) (xPostI S q a) 0 0 S.2.2.1 := by
  refine xm_i (av := [.int x0]) (cc := cJ6_numberOfTrailingZeros_0f7a4) (maxL := 2) (by decide) rfl (Nat.le_of_ble_eq_true rfl) hS.1 hS.2 (fun K C hret => ?_)
  have C : CC K S cJ6_numberOfTrailingZeros_0f7a4 2 wsJ6_numberOfTrailingZeros_0f7a4 RJ6 rm_J6_numberOfTrailingZeros_0f7a4 := C
  rw [f_J6_numberOfTrailingZeros_0f7a4] at hf
  show V K S 2 a [(0, .int x0)] 0 []
  refine xv_iload_n C dJ6_numberOfTrailingZeros_0f7a4_0 rfl 0 rfl ?_
  refine xv_iconst C (-1) dJ6_numberOfTrailingZeros_0f7a4_1 (by decide) ?_
  refine xv_ixor C dJ6_numberOfTrailingZeros_0f7a4_2 ?_
  refine xv_iload_n C dJ6_numberOfTrailingZeros_0f7a4_3 rfl 0 rfl ?_
  refine xv_iconst C 1 dJ6_numberOfTrailingZeros_0f7a4_4 (by decide) ?_
  refine xv_isub C dJ6_numberOfTrailingZeros_0f7a4_5 ?_
  refine xv_iand C dJ6_numberOfTrailingZeros_0f7a4_6 ?_
  refine xv_istore_n C [(0, .int ((x0 ^^^ (-1)) &&& (x0 - 1)))] dJ6_numberOfTrailingZeros_0f7a4_7 rfl (by decide) rfl ?_
  refine xv_iload_n C dJ6_numberOfTrailingZeros_0f7a4_8 rfl 0 rfl ?_
  refine xv_if_gt C (y := 0) 17 hf dJ6_numberOfTrailingZeros_0f7a4_9 (by decide) (fun _ hf => ?_) (fun _ hf => ?_)
  · refine xv_iconst C 1 dJ6_numberOfTrailingZeros_0f7a4_17 (by decide) ?_
    refine xv_istore_n C [(1, .int 1), (0, .int ((x0 ^^^ (-1)) &&& (x0 - 1)))] dJ6_numberOfTrailingZeros_0f7a4_18 rfl (by decide) rfl ?_
    refine xv_iload_n C dJ6_numberOfTrailingZeros_0f7a4_19 rfl 1 rfl ?_
    refine xv_ldcw C 65536 dJ6_numberOfTrailingZeros_0f7a4_20 (List.mem_of_getElem? (i := 1) rfl) ?_
    refine xv_icmp_le C 34 hf dJ6_numberOfTrailingZeros_0f7a4_23 (by decide) (fun _ hf => ?_) (fun _ hf => ?_)
    · refine xv_iload_n C dJ6_numberOfTrailingZeros_0f7a4_34 rfl 1 rfl ?_
      refine xv_sipush C 256 dJ6_numberOfTrailingZeros_0f7a4_35 (by decide) ?_
      refine xv_icmp_le C 49 hf dJ6_numberOfTrailingZeros_0f7a4_38 (by decide) (fun _ hf => ?_) (fun _ hf => ?_)
      · refine xv_iload_n C dJ6_numberOfTrailingZeros_0f7a4_49 rfl 1 rfl ?_
        refine xv_bipush C 16 dJ6_numberOfTrailingZeros_0f7a4_50 (by decide) ?_
        refine xv_icmp_le C 62 hf dJ6_numberOfTrailingZeros_0f7a4_52 (by decide) (fun _ hf => ?_) (fun _ hf => ?_)
        · refine xv_iload_n C dJ6_numberOfTrailingZeros_0f7a4_62 rfl 1 rfl ?_
          refine xv_iconst C 4 dJ6_numberOfTrailingZeros_0f7a4_63 (by decide) ?_
          refine xv_icmp_le C 74 hf dJ6_numberOfTrailingZeros_0f7a4_64 (by decide) (fun _ hf => ?_) (fun _ hf => ?_)
          · refine xv_iload_n C dJ6_numberOfTrailingZeros_0f7a4_74 rfl 0 rfl ?_
            refine xv_iload_n C dJ6_numberOfTrailingZeros_0f7a4_75 rfl 1 rfl ?_
            refine xv_iconst C 1 dJ6_numberOfTrailingZeros_0f7a4_76 (by decide) ?_
            refine xv_iushr C dJ6_numberOfTrailingZeros_0f7a4_77 ?_
            refine xv_iadd C dJ6_numberOfTrailingZeros_0f7a4_78 ?_
            exact xz_ir hret hf dJ6_numberOfTrailingZeros_0f7a4_79
          · refine xv_iinc C [(1, .int (1 + 2)), (0, .int ((x0 ^^^ (-1)) &&& (x0 - 1)))] dJ6_numberOfTrailingZeros_0f7a4_67 0 rfl rfl (by decide) rfl ?_
            refine xv_iload_n C dJ6_numberOfTrailingZeros_0f7a4_70 rfl 1 rfl ?_
            refine xv_iconst C 2 dJ6_numberOfTrailingZeros_0f7a4_71 (by decide) ?_
            refine xv_iushr C dJ6_numberOfTrailingZeros_0f7a4_72 ?_
            refine xv_istore_n C [(0, .int ((((x0 ^^^ (-1)) &&& (x0 - 1)).toUInt32 >>> ((2 : Int32).toUInt32 &&& Int32.toUInt32 31)).toInt32)), (1, .int (1 + 2))] dJ6_numberOfTrailingZeros_0f7a4_73 rfl (by decide) rfl ?_
            refine xv_iload_n C dJ6_numberOfTrailingZeros_0f7a4_74 rfl 1 rfl ?_
            refine xv_iload_n C dJ6_numberOfTrailingZeros_0f7a4_75 rfl 0 rfl ?_
            refine xv_iconst C 1 dJ6_numberOfTrailingZeros_0f7a4_76 (by decide) ?_
            refine xv_iushr C dJ6_numberOfTrailingZeros_0f7a4_77 ?_
            refine xv_iadd C dJ6_numberOfTrailingZeros_0f7a4_78 ?_
            exact xz_ir hret hf dJ6_numberOfTrailingZeros_0f7a4_79
        · refine xv_iinc C [(1, .int (1 + 4)), (0, .int ((x0 ^^^ (-1)) &&& (x0 - 1)))] dJ6_numberOfTrailingZeros_0f7a4_55 0 rfl rfl (by decide) rfl ?_
          refine xv_iload_n C dJ6_numberOfTrailingZeros_0f7a4_58 rfl 1 rfl ?_
          refine xv_iconst C 4 dJ6_numberOfTrailingZeros_0f7a4_59 (by decide) ?_
          refine xv_iushr C dJ6_numberOfTrailingZeros_0f7a4_60 ?_
          refine xv_istore_n C [(0, .int ((((x0 ^^^ (-1)) &&& (x0 - 1)).toUInt32 >>> ((4 : Int32).toUInt32 &&& Int32.toUInt32 31)).toInt32)), (1, .int (1 + 4))] dJ6_numberOfTrailingZeros_0f7a4_61 rfl (by decide) rfl ?_
          refine xv_iload_n C dJ6_numberOfTrailingZeros_0f7a4_62 rfl 0 rfl ?_
          refine xv_iconst C 4 dJ6_numberOfTrailingZeros_0f7a4_63 (by decide) ?_
          refine xv_icmp_le C 74 hf dJ6_numberOfTrailingZeros_0f7a4_64 (by decide) (fun _ hf => ?_) (fun _ hf => ?_)
          · refine xv_iload_n C dJ6_numberOfTrailingZeros_0f7a4_74 rfl 1 rfl ?_
            refine xv_iload_n C dJ6_numberOfTrailingZeros_0f7a4_75 rfl 0 rfl ?_
            refine xv_iconst C 1 dJ6_numberOfTrailingZeros_0f7a4_76 (by decide) ?_
            refine xv_iushr C dJ6_numberOfTrailingZeros_0f7a4_77 ?_
            refine xv_iadd C dJ6_numberOfTrailingZeros_0f7a4_78 ?_
            exact xz_ir hret hf dJ6_numberOfTrailingZeros_0f7a4_79
          · refine xv_iinc C [(1, .int ((1 + 4) + 2)), (0, .int ((((x0 ^^^ (-1)) &&& (x0 - 1)).toUInt32 >>> ((4 : Int32).toUInt32 &&& Int32.toUInt32 31)).toInt32))] dJ6_numberOfTrailingZeros_0f7a4_67 1 rfl rfl (by decide) rfl ?_
            refine xv_iload_n C dJ6_numberOfTrailingZeros_0f7a4_70 rfl 1 rfl ?_
            refine xv_iconst C 2 dJ6_numberOfTrailingZeros_0f7a4_71 (by decide) ?_
            refine xv_iushr C dJ6_numberOfTrailingZeros_0f7a4_72 ?_
            refine xv_istore_n C [(0, .int ((((((x0 ^^^ (-1)) &&& (x0 - 1)).toUInt32 >>> ((4 : Int32).toUInt32 &&& Int32.toUInt32 31)).toInt32).toUInt32 >>> ((2 : Int32).toUInt32 &&& Int32.toUInt32 31)).toInt32)), (1, .int ((1 + 4) + 2))] dJ6_numberOfTrailingZeros_0f7a4_73 rfl (by decide) rfl ?_
            refine xv_iload_n C dJ6_numberOfTrailingZeros_0f7a4_74 rfl 1 rfl ?_
            refine xv_iload_n C dJ6_numberOfTrailingZeros_0f7a4_75 rfl 0 rfl ?_
            refine xv_iconst C 1 dJ6_numberOfTrailingZeros_0f7a4_76 (by decide) ?_
            refine xv_iushr C dJ6_numberOfTrailingZeros_0f7a4_77 ?_
            refine xv_iadd C dJ6_numberOfTrailingZeros_0f7a4_78 ?_
            exact xz_ir hret hf dJ6_numberOfTrailingZeros_0f7a4_79
      · refine xv_iinc C [(1, .int (1 + 8)), (0, .int ((x0 ^^^ (-1)) &&& (x0 - 1)))] dJ6_numberOfTrailingZeros_0f7a4_41 0 rfl rfl (by decide) rfl ?_
        refine xv_iload_n C dJ6_numberOfTrailingZeros_0f7a4_44 rfl 1 rfl ?_
        refine xv_bipush C 8 dJ6_numberOfTrailingZeros_0f7a4_45 (by decide) ?_
        refine xv_iushr C dJ6_numberOfTrailingZeros_0f7a4_47 ?_
        refine xv_istore_n C [(0, .int ((((x0 ^^^ (-1)) &&& (x0 - 1)).toUInt32 >>> ((8 : Int32).toUInt32 &&& Int32.toUInt32 31)).toInt32)), (1, .int (1 + 8))] dJ6_numberOfTrailingZeros_0f7a4_48 rfl (by decide) rfl ?_
        refine xv_iload_n C dJ6_numberOfTrailingZeros_0f7a4_49 rfl 0 rfl ?_
        refine xv_bipush C 16 dJ6_numberOfTrailingZeros_0f7a4_50 (by decide) ?_
        refine xv_icmp_le C 62 hf dJ6_numberOfTrailingZeros_0f7a4_52 (by decide) (fun _ hf => ?_) (fun _ hf => ?_)
        · refine xv_iload_n C dJ6_numberOfTrailingZeros_0f7a4_62 rfl 0 rfl ?_
          refine xv_iconst C 4 dJ6_numberOfTrailingZeros_0f7a4_63 (by decide) ?_
          refine xv_icmp_le C 74 hf dJ6_numberOfTrailingZeros_0f7a4_64 (by decide) (fun _ hf => ?_) (fun _ hf => ?_)
          · refine xv_iload_n C dJ6_numberOfTrailingZeros_0f7a4_74 rfl 1 rfl ?_
            refine xv_iload_n C dJ6_numberOfTrailingZeros_0f7a4_75 rfl 0 rfl ?_
            refine xv_iconst C 1 dJ6_numberOfTrailingZeros_0f7a4_76 (by decide) ?_
            refine xv_iushr C dJ6_numberOfTrailingZeros_0f7a4_77 ?_
            refine xv_iadd C dJ6_numberOfTrailingZeros_0f7a4_78 ?_
            exact xz_ir hret hf dJ6_numberOfTrailingZeros_0f7a4_79
          · refine xv_iinc C [(1, .int ((1 + 8) + 2)), (0, .int ((((x0 ^^^ (-1)) &&& (x0 - 1)).toUInt32 >>> ((8 : Int32).toUInt32 &&& Int32.toUInt32 31)).toInt32))] dJ6_numberOfTrailingZeros_0f7a4_67 1 rfl rfl (by decide) rfl ?_
            refine xv_iload_n C dJ6_numberOfTrailingZeros_0f7a4_70 rfl 1 rfl ?_
            refine xv_iconst C 2 dJ6_numberOfTrailingZeros_0f7a4_71 (by decide) ?_
            refine xv_iushr C dJ6_numberOfTrailingZeros_0f7a4_72 ?_
            refine xv_istore_n C [(0, .int ((((((x0 ^^^ (-1)) &&& (x0 - 1)).toUInt32 >>> ((8 : Int32).toUInt32 &&& Int32.toUInt32 31)).toInt32).toUInt32 >>> ((2 : Int32).toUInt32 &&& Int32.toUInt32 31)).toInt32)), (1, .int ((1 + 8) + 2))] dJ6_numberOfTrailingZeros_0f7a4_73 rfl (by decide) rfl ?_
            refine xv_iload_n C dJ6_numberOfTrailingZeros_0f7a4_74 rfl 1 rfl ?_
            refine xv_iload_n C dJ6_numberOfTrailingZeros_0f7a4_75 rfl 0 rfl ?_
            refine xv_iconst C 1 dJ6_numberOfTrailingZeros_0f7a4_76 (by decide) ?_
            refine xv_iushr C dJ6_numberOfTrailingZeros_0f7a4_77 ?_
            refine xv_iadd C dJ6_numberOfTrailingZeros_0f7a4_78 ?_
            exact xz_ir hret hf dJ6_numberOfTrailingZeros_0f7a4_79
        · refine xv_iinc C [(1, .int ((1 + 8) + 4)), (0, .int ((((x0 ^^^ (-1)) &&& (x0 - 1)).toUInt32 >>> ((8 : Int32).toUInt32 &&& Int32.toUInt32 31)).toInt32))] dJ6_numberOfTrailingZeros_0f7a4_55 1 rfl rfl (by decide) rfl ?_
          refine xv_iload_n C dJ6_numberOfTrailingZeros_0f7a4_58 rfl 1 rfl ?_
          refine xv_iconst C 4 dJ6_numberOfTrailingZeros_0f7a4_59 (by decide) ?_
          refine xv_iushr C dJ6_numberOfTrailingZeros_0f7a4_60 ?_
          refine xv_istore_n C [(0, .int ((((((x0 ^^^ (-1)) &&& (x0 - 1)).toUInt32 >>> ((8 : Int32).toUInt32 &&& Int32.toUInt32 31)).toInt32).toUInt32 >>> ((4 : Int32).toUInt32 &&& Int32.toUInt32 31)).toInt32)), (1, .int ((1 + 8) + 4))] dJ6_numberOfTrailingZeros_0f7a4_61 rfl (by decide) rfl ?_
          refine xv_iload_n C dJ6_numberOfTrailingZeros_0f7a4_62 rfl 0 rfl ?_
          refine xv_iconst C 4 dJ6_numberOfTrailingZeros_0f7a4_63 (by decide) ?_
          refine xv_icmp_le C 74 hf dJ6_numberOfTrailingZeros_0f7a4_64 (by decide) (fun _ hf => ?_) (fun _ hf => ?_)
          · refine xv_iload_n C dJ6_numberOfTrailingZeros_0f7a4_74 rfl 1 rfl ?_
            refine xv_iload_n C dJ6_numberOfTrailingZeros_0f7a4_75 rfl 0 rfl ?_
            refine xv_iconst C 1 dJ6_numberOfTrailingZeros_0f7a4_76 (by decide) ?_
            refine xv_iushr C dJ6_numberOfTrailingZeros_0f7a4_77 ?_
            refine xv_iadd C dJ6_numberOfTrailingZeros_0f7a4_78 ?_
            exact xz_ir hret hf dJ6_numberOfTrailingZeros_0f7a4_79
          · refine xv_iinc C [(1, .int (((1 + 8) + 4) + 2)), (0, .int ((((((x0 ^^^ (-1)) &&& (x0 - 1)).toUInt32 >>> ((8 : Int32).toUInt32 &&& Int32.toUInt32 31)).toInt32).toUInt32 >>> ((4 : Int32).toUInt32 &&& Int32.toUInt32 31)).toInt32))] dJ6_numberOfTrailingZeros_0f7a4_67 1 rfl rfl (by decide) rfl ?_
            refine xv_iload_n C dJ6_numberOfTrailingZeros_0f7a4_70 rfl 1 rfl ?_
            refine xv_iconst C 2 dJ6_numberOfTrailingZeros_0f7a4_71 (by decide) ?_
            refine xv_iushr C dJ6_numberOfTrailingZeros_0f7a4_72 ?_
            refine xv_istore_n C [(0, .int ((((((((x0 ^^^ (-1)) &&& (x0 - 1)).toUInt32 >>> ((8 : Int32).toUInt32 &&& Int32.toUInt32 31)).toInt32).toUInt32 >>> ((4 : Int32).toUInt32 &&& Int32.toUInt32 31)).toInt32).toUInt32 >>> ((2 : Int32).toUInt32 &&& Int32.toUInt32 31)).toInt32)), (1, .int (((1 + 8) + 4) + 2))] dJ6_numberOfTrailingZeros_0f7a4_73 rfl (by decide) rfl ?_
            refine xv_iload_n C dJ6_numberOfTrailingZeros_0f7a4_74 rfl 1 rfl ?_
            refine xv_iload_n C dJ6_numberOfTrailingZeros_0f7a4_75 rfl 0 rfl ?_
            refine xv_iconst C 1 dJ6_numberOfTrailingZeros_0f7a4_76 (by decide) ?_
            refine xv_iushr C dJ6_numberOfTrailingZeros_0f7a4_77 ?_
            refine xv_iadd C dJ6_numberOfTrailingZeros_0f7a4_78 ?_
            exact xz_ir hret hf dJ6_numberOfTrailingZeros_0f7a4_79
    · refine xv_iinc C [(1, .int (1 + 16)), (0, .int ((x0 ^^^ (-1)) &&& (x0 - 1)))] dJ6_numberOfTrailingZeros_0f7a4_26 0 rfl rfl (by decide) rfl ?_
      refine xv_iload_n C dJ6_numberOfTrailingZeros_0f7a4_29 rfl 1 rfl ?_
      refine xv_bipush C 16 dJ6_numberOfTrailingZeros_0f7a4_30 (by decide) ?_
      refine xv_iushr C dJ6_numberOfTrailingZeros_0f7a4_32 ?_
      refine xv_istore_n C [(0, .int ((((x0 ^^^ (-1)) &&& (x0 - 1)).toUInt32 >>> ((16 : Int32).toUInt32 &&& Int32.toUInt32 31)).toInt32)), (1, .int (1 + 16))] dJ6_numberOfTrailingZeros_0f7a4_33 rfl (by decide) rfl ?_
      refine xv_iload_n C dJ6_numberOfTrailingZeros_0f7a4_34 rfl 0 rfl ?_
      refine xv_sipush C 256 dJ6_numberOfTrailingZeros_0f7a4_35 (by decide) ?_
      refine xv_icmp_le C 49 hf dJ6_numberOfTrailingZeros_0f7a4_38 (by decide) (fun _ hf => ?_) (fun _ hf => ?_)
      · refine xv_iload_n C dJ6_numberOfTrailingZeros_0f7a4_49 rfl 0 rfl ?_
        refine xv_bipush C 16 dJ6_numberOfTrailingZeros_0f7a4_50 (by decide) ?_
        refine xv_icmp_le C 62 hf dJ6_numberOfTrailingZeros_0f7a4_52 (by decide) (fun _ hf => ?_) (fun _ hf => ?_)
        · refine xv_iload_n C dJ6_numberOfTrailingZeros_0f7a4_62 rfl 0 rfl ?_
          refine xv_iconst C 4 dJ6_numberOfTrailingZeros_0f7a4_63 (by decide) ?_
          refine xv_icmp_le C 74 hf dJ6_numberOfTrailingZeros_0f7a4_64 (by decide) (fun _ hf => ?_) (fun _ hf => ?_)
          · refine xv_iload_n C dJ6_numberOfTrailingZeros_0f7a4_74 rfl 1 rfl ?_
            refine xv_iload_n C dJ6_numberOfTrailingZeros_0f7a4_75 rfl 0 rfl ?_
            refine xv_iconst C 1 dJ6_numberOfTrailingZeros_0f7a4_76 (by decide) ?_
            refine xv_iushr C dJ6_numberOfTrailingZeros_0f7a4_77 ?_
            refine xv_iadd C dJ6_numberOfTrailingZeros_0f7a4_78 ?_
            exact xz_ir hret hf dJ6_numberOfTrailingZeros_0f7a4_79
          · refine xv_iinc C [(1, .int ((1 + 16) + 2)), (0, .int ((((x0 ^^^ (-1)) &&& (x0 - 1)).toUInt32 >>> ((16 : Int32).toUInt32 &&& Int32.toUInt32 31)).toInt32))] dJ6_numberOfTrailingZeros_0f7a4_67 1 rfl rfl (by decide) rfl ?_
            refine xv_iload_n C dJ6_numberOfTrailingZeros_0f7a4_70 rfl 1 rfl ?_
            refine xv_iconst C 2 dJ6_numberOfTrailingZeros_0f7a4_71 (by decide) ?_
            refine xv_iushr C dJ6_numberOfTrailingZeros_0f7a4_72 ?_
            refine xv_istore_n C [(0, .int ((((((x0 ^^^ (-1)) &&& (x0 - 1)).toUInt32 >>> ((16 : Int32).toUInt32 &&& Int32.toUInt32 31)).toInt32).toUInt32 >>> ((2 : Int32).toUInt32 &&& Int32.toUInt32 31)).toInt32)), (1, .int ((1 + 16) + 2))] dJ6_numberOfTrailingZeros_0f7a4_73 rfl (by decide) rfl ?_
            refine xv_iload_n C dJ6_numberOfTrailingZeros_0f7a4_74 rfl 1 rfl ?_
            refine xv_iload_n C dJ6_numberOfTrailingZeros_0f7a4_75 rfl 0 rfl ?_
            refine xv_iconst C 1 dJ6_numberOfTrailingZeros_0f7a4_76 (by decide) ?_
            refine xv_iushr C dJ6_numberOfTrailingZeros_0f7a4_77 ?_
            refine xv_iadd C dJ6_numberOfTrailingZeros_0f7a4_78 ?_
            exact xz_ir hret hf dJ6_numberOfTrailingZeros_0f7a4_79
        · refine xv_iinc C [(1, .int ((1 + 16) + 4)), (0, .int ((((x0 ^^^ (-1)) &&& (x0 - 1)).toUInt32 >>> ((16 : Int32).toUInt32 &&& Int32.toUInt32 31)).toInt32))] dJ6_numberOfTrailingZeros_0f7a4_55 1 rfl rfl (by decide) rfl ?_
          refine xv_iload_n C dJ6_numberOfTrailingZeros_0f7a4_58 rfl 1 rfl ?_
          refine xv_iconst C 4 dJ6_numberOfTrailingZeros_0f7a4_59 (by decide) ?_
          refine xv_iushr C dJ6_numberOfTrailingZeros_0f7a4_60 ?_
          refine xv_istore_n C [(0, .int ((((((x0 ^^^ (-1)) &&& (x0 - 1)).toUInt32 >>> ((16 : Int32).toUInt32 &&& Int32.toUInt32 31)).toInt32).toUInt32 >>> ((4 : Int32).toUInt32 &&& Int32.toUInt32 31)).toInt32)), (1, .int ((1 + 16) + 4))] dJ6_numberOfTrailingZeros_0f7a4_61 rfl (by decide) rfl ?_
          refine xv_iload_n C dJ6_numberOfTrailingZeros_0f7a4_62 rfl 0 rfl ?_
          refine xv_iconst C 4 dJ6_numberOfTrailingZeros_0f7a4_63 (by decide) ?_
          refine xv_icmp_le C 74 hf dJ6_numberOfTrailingZeros_0f7a4_64 (by decide) (fun _ hf => ?_) (fun _ hf => ?_)
          · refine xv_iload_n C dJ6_numberOfTrailingZeros_0f7a4_74 rfl 1 rfl ?_
            refine xv_iload_n C dJ6_numberOfTrailingZeros_0f7a4_75 rfl 0 rfl ?_
            refine xv_iconst C 1 dJ6_numberOfTrailingZeros_0f7a4_76 (by decide) ?_
            refine xv_iushr C dJ6_numberOfTrailingZeros_0f7a4_77 ?_
            refine xv_iadd C dJ6_numberOfTrailingZeros_0f7a4_78 ?_
            exact xz_ir hret hf dJ6_numberOfTrailingZeros_0f7a4_79
          · refine xv_iinc C [(1, .int (((1 + 16) + 4) + 2)), (0, .int ((((((x0 ^^^ (-1)) &&& (x0 - 1)).toUInt32 >>> ((16 : Int32).toUInt32 &&& Int32.toUInt32 31)).toInt32).toUInt32 >>> ((4 : Int32).toUInt32 &&& Int32.toUInt32 31)).toInt32))] dJ6_numberOfTrailingZeros_0f7a4_67 1 rfl rfl (by decide) rfl ?_
            refine xv_iload_n C dJ6_numberOfTrailingZeros_0f7a4_70 rfl 1 rfl ?_
            refine xv_iconst C 2 dJ6_numberOfTrailingZeros_0f7a4_71 (by decide) ?_
            refine xv_iushr C dJ6_numberOfTrailingZeros_0f7a4_72 ?_
            refine xv_istore_n C [(0, .int ((((((((x0 ^^^ (-1)) &&& (x0 - 1)).toUInt32 >>> ((16 : Int32).toUInt32 &&& Int32.toUInt32 31)).toInt32).toUInt32 >>> ((4 : Int32).toUInt32 &&& Int32.toUInt32 31)).toInt32).toUInt32 >>> ((2 : Int32).toUInt32 &&& Int32.toUInt32 31)).toInt32)), (1, .int (((1 + 16) + 4) + 2))] dJ6_numberOfTrailingZeros_0f7a4_73 rfl (by decide) rfl ?_
            refine xv_iload_n C dJ6_numberOfTrailingZeros_0f7a4_74 rfl 1 rfl ?_
            refine xv_iload_n C dJ6_numberOfTrailingZeros_0f7a4_75 rfl 0 rfl ?_
            refine xv_iconst C 1 dJ6_numberOfTrailingZeros_0f7a4_76 (by decide) ?_
            refine xv_iushr C dJ6_numberOfTrailingZeros_0f7a4_77 ?_
            refine xv_iadd C dJ6_numberOfTrailingZeros_0f7a4_78 ?_
            exact xz_ir hret hf dJ6_numberOfTrailingZeros_0f7a4_79
      · refine xv_iinc C [(1, .int ((1 + 16) + 8)), (0, .int ((((x0 ^^^ (-1)) &&& (x0 - 1)).toUInt32 >>> ((16 : Int32).toUInt32 &&& Int32.toUInt32 31)).toInt32))] dJ6_numberOfTrailingZeros_0f7a4_41 1 rfl rfl (by decide) rfl ?_
        refine xv_iload_n C dJ6_numberOfTrailingZeros_0f7a4_44 rfl 1 rfl ?_
        refine xv_bipush C 8 dJ6_numberOfTrailingZeros_0f7a4_45 (by decide) ?_
        refine xv_iushr C dJ6_numberOfTrailingZeros_0f7a4_47 ?_
        refine xv_istore_n C [(0, .int ((((((x0 ^^^ (-1)) &&& (x0 - 1)).toUInt32 >>> ((16 : Int32).toUInt32 &&& Int32.toUInt32 31)).toInt32).toUInt32 >>> ((8 : Int32).toUInt32 &&& Int32.toUInt32 31)).toInt32)), (1, .int ((1 + 16) + 8))] dJ6_numberOfTrailingZeros_0f7a4_48 rfl (by decide) rfl ?_
        refine xv_iload_n C dJ6_numberOfTrailingZeros_0f7a4_49 rfl 0 rfl ?_
        refine xv_bipush C 16 dJ6_numberOfTrailingZeros_0f7a4_50 (by decide) ?_
        refine xv_icmp_le C 62 hf dJ6_numberOfTrailingZeros_0f7a4_52 (by decide) (fun _ hf => ?_) (fun _ hf => ?_)
        · refine xv_iload_n C dJ6_numberOfTrailingZeros_0f7a4_62 rfl 0 rfl ?_
          refine xv_iconst C 4 dJ6_numberOfTrailingZeros_0f7a4_63 (by decide) ?_
          refine xv_icmp_le C 74 hf dJ6_numberOfTrailingZeros_0f7a4_64 (by decide) (fun _ hf => ?_) (fun _ hf => ?_)
          · refine xv_iload_n C dJ6_numberOfTrailingZeros_0f7a4_74 rfl 1 rfl ?_
            refine xv_iload_n C dJ6_numberOfTrailingZeros_0f7a4_75 rfl 0 rfl ?_
            refine xv_iconst C 1 dJ6_numberOfTrailingZeros_0f7a4_76 (by decide) ?_
            refine xv_iushr C dJ6_numberOfTrailingZeros_0f7a4_77 ?_
            refine xv_iadd C dJ6_numberOfTrailingZeros_0f7a4_78 ?_
            exact xz_ir hret hf dJ6_numberOfTrailingZeros_0f7a4_79
          · refine xv_iinc C [(1, .int (((1 + 16) + 8) + 2)), (0, .int ((((((x0 ^^^ (-1)) &&& (x0 - 1)).toUInt32 >>> ((16 : Int32).toUInt32 &&& Int32.toUInt32 31)).toInt32).toUInt32 >>> ((8 : Int32).toUInt32 &&& Int32.toUInt32 31)).toInt32))] dJ6_numberOfTrailingZeros_0f7a4_67 1 rfl rfl (by decide) rfl ?_
            refine xv_iload_n C dJ6_numberOfTrailingZeros_0f7a4_70 rfl 1 rfl ?_
            refine xv_iconst C 2 dJ6_numberOfTrailingZeros_0f7a4_71 (by decide) ?_
            refine xv_iushr C dJ6_numberOfTrailingZeros_0f7a4_72 ?_
            refine xv_istore_n C [(0, .int ((((((((x0 ^^^ (-1)) &&& (x0 - 1)).toUInt32 >>> ((16 : Int32).toUInt32 &&& Int32.toUInt32 31)).toInt32).toUInt32 >>> ((8 : Int32).toUInt32 &&& Int32.toUInt32 31)).toInt32).toUInt32 >>> ((2 : Int32).toUInt32 &&& Int32.toUInt32 31)).toInt32)), (1, .int (((1 + 16) + 8) + 2))] dJ6_numberOfTrailingZeros_0f7a4_73 rfl (by decide) rfl ?_
            refine xv_iload_n C dJ6_numberOfTrailingZeros_0f7a4_74 rfl 1 rfl ?_
            refine xv_iload_n C dJ6_numberOfTrailingZeros_0f7a4_75 rfl 0 rfl ?_
            refine xv_iconst C 1 dJ6_numberOfTrailingZeros_0f7a4_76 (by decide) ?_
            refine xv_iushr C dJ6_numberOfTrailingZeros_0f7a4_77 ?_
            refine xv_iadd C dJ6_numberOfTrailingZeros_0f7a4_78 ?_
            exact xz_ir hret hf dJ6_numberOfTrailingZeros_0f7a4_79
        · refine xv_iinc C [(1, .int (((1 + 16) + 8) + 4)), (0, .int ((((((x0 ^^^ (-1)) &&& (x0 - 1)).toUInt32 >>> ((16 : Int32).toUInt32 &&& Int32.toUInt32 31)).toInt32).toUInt32 >>> ((8 : Int32).toUInt32 &&& Int32.toUInt32 31)).toInt32))] dJ6_numberOfTrailingZeros_0f7a4_55 1 rfl rfl (by decide) rfl ?_
          refine xv_iload_n C dJ6_numberOfTrailingZeros_0f7a4_58 rfl 1 rfl ?_
          refine xv_iconst C 4 dJ6_numberOfTrailingZeros_0f7a4_59 (by decide) ?_
          refine xv_iushr C dJ6_numberOfTrailingZeros_0f7a4_60 ?_
          refine xv_istore_n C [(0, .int ((((((((x0 ^^^ (-1)) &&& (x0 - 1)).toUInt32 >>> ((16 : Int32).toUInt32 &&& Int32.toUInt32 31)).toInt32).toUInt32 >>> ((8 : Int32).toUInt32 &&& Int32.toUInt32 31)).toInt32).toUInt32 >>> ((4 : Int32).toUInt32 &&& Int32.toUInt32 31)).toInt32)), (1, .int (((1 + 16) + 8) + 4))] dJ6_numberOfTrailingZeros_0f7a4_61 rfl (by decide) rfl ?_
          refine xv_iload_n C dJ6_numberOfTrailingZeros_0f7a4_62 rfl 0 rfl ?_
          refine xv_iconst C 4 dJ6_numberOfTrailingZeros_0f7a4_63 (by decide) ?_
          refine xv_icmp_le C 74 hf dJ6_numberOfTrailingZeros_0f7a4_64 (by decide) (fun _ hf => ?_) (fun _ hf => ?_)
          · refine xv_iload_n C dJ6_numberOfTrailingZeros_0f7a4_74 rfl 1 rfl ?_
            refine xv_iload_n C dJ6_numberOfTrailingZeros_0f7a4_75 rfl 0 rfl ?_
            refine xv_iconst C 1 dJ6_numberOfTrailingZeros_0f7a4_76 (by decide) ?_
            refine xv_iushr C dJ6_numberOfTrailingZeros_0f7a4_77 ?_
            refine xv_iadd C dJ6_numberOfTrailingZeros_0f7a4_78 ?_
            exact xz_ir hret hf dJ6_numberOfTrailingZeros_0f7a4_79
          · refine xv_iinc C [(1, .int ((((1 + 16) + 8) + 4) + 2)), (0, .int ((((((((x0 ^^^ (-1)) &&& (x0 - 1)).toUInt32 >>> ((16 : Int32).toUInt32 &&& Int32.toUInt32 31)).toInt32).toUInt32 >>> ((8 : Int32).toUInt32 &&& Int32.toUInt32 31)).toInt32).toUInt32 >>> ((4 : Int32).toUInt32 &&& Int32.toUInt32 31)).toInt32))] dJ6_numberOfTrailingZeros_0f7a4_67 1 rfl rfl (by decide) rfl ?_
            refine xv_iload_n C dJ6_numberOfTrailingZeros_0f7a4_70 rfl 1 rfl ?_
            refine xv_iconst C 2 dJ6_numberOfTrailingZeros_0f7a4_71 (by decide) ?_
            refine xv_iushr C dJ6_numberOfTrailingZeros_0f7a4_72 ?_
            refine xv_istore_n C [(0, .int ((((((((((x0 ^^^ (-1)) &&& (x0 - 1)).toUInt32 >>> ((16 : Int32).toUInt32 &&& Int32.toUInt32 31)).toInt32).toUInt32 >>> ((8 : Int32).toUInt32 &&& Int32.toUInt32 31)).toInt32).toUInt32 >>> ((4 : Int32).toUInt32 &&& Int32.toUInt32 31)).toInt32).toUInt32 >>> ((2 : Int32).toUInt32 &&& Int32.toUInt32 31)).toInt32)), (1, .int ((((1 + 16) + 8) + 4) + 2))] dJ6_numberOfTrailingZeros_0f7a4_73 rfl (by decide) rfl ?_
            refine xv_iload_n C dJ6_numberOfTrailingZeros_0f7a4_74 rfl 1 rfl ?_
            refine xv_iload_n C dJ6_numberOfTrailingZeros_0f7a4_75 rfl 0 rfl ?_
            refine xv_iconst C 1 dJ6_numberOfTrailingZeros_0f7a4_76 (by decide) ?_
            refine xv_iushr C dJ6_numberOfTrailingZeros_0f7a4_77 ?_
            refine xv_iadd C dJ6_numberOfTrailingZeros_0f7a4_78 ?_
            exact xz_ir hret hf dJ6_numberOfTrailingZeros_0f7a4_79
  · refine xv_iload_n C dJ6_numberOfTrailingZeros_0f7a4_12 rfl 0 rfl ?_
    refine xv_bipush C 32 dJ6_numberOfTrailingZeros_0f7a4_13 (by decide) ?_
    refine xv_iand C dJ6_numberOfTrailingZeros_0f7a4_15 ?_
    exact xz_ir hret hf dJ6_numberOfTrailingZeros_0f7a4_16
