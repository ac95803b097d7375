set_option maxRecDepth 100000 in
set_option maxHeartbeats 4000000 in
theorem c_X6_copy (g : GM) (hS : xSide (sM g)) (l : Launch) (n : Nat) (x1 : Int32) (x2 : Int32) (a : St) (q : St) (hf : f_X6_copy n x1 x2 a = some q) : Met l yX6_copy wsX6_copy rm_X6_copy (xPre (sM g) [.ref (aM g 0), .int x1, .int x2] a) (xPostV (sM g) q) 0 0 (sM g).2.2.1 := by
  refine xm_v (av := [.ref (aM g 0), .int x1, .int x2]) (cc := cX6_copy) (maxL := 4) (by decide) rfl (Nat.le_of_ble_eq_true rfl) hS.1 hS.2 (fun K C hret => ?_)
  have C : CC K (sM g) cX6_copy 4 wsX6_copy RX6 rm_X6_copy := C
  have hiX6 : ∀ w ∈ u_ws RX6 TX6 26, w ∈ wsX6_copy := fun w h => List.mem_cons_of_mem _ (List.mem_append_right _ h)
  have hL2 : ∀ (x1 : Int32) (x2 : Int32)  (j : Nat) (x3 : Int32) (a : St), L_X6_copy_2 n x1 x2 j x3 a = some q → V K (sM g) 4 a [(0, .ref (aM g 0)), (1, .int x1), (2, .int x2), (3, .int x3)] 2 [] := by
    intro x1 x2 j
    induction j with
    | zero =>
      intro x3 a hf
      have hf : (none : Option St) = some q := hf
      cases hf
    | succ j ih =>
      intro x3 a hf
      rw [L_X6_copy_2] at hf
      refine xv_iload_n C dX6_copy_2 rfl 3 rfl ?_
      refine xv_bipush C 17 dX6_copy_3 (by decide) ?_
      refine xv_icmp_ge C 36 hf dX6_copy_5 (by decide) (fun _ hf => ?_) (fun _ hf => ?_)
      · exact xz_v hret hf dX6_copy_36
      · refine xv_aload_n C dX6_copy_8 rfl 0 rfl ?_
        refine xv_get C hiX6 0 (wM0 g _) rfl 0 (by decide) (List.mem_of_getElem? (i := 1) rfl) rfl dX6_copy_9 ?_
        refine xv_bipush C 17 dX6_copy_12 (by decide) ?_
        refine xv_iload_n C dX6_copy_14 rfl 2 rfl ?_
        refine xv_imul C dX6_copy_15 ?_
        refine xv_iload_n C dX6_copy_16 rfl 3 rfl ?_
        refine xv_iadd C dX6_copy_17 ?_
        refine xv_aload_n C dX6_copy_18 rfl 0 rfl ?_
        refine xv_get C hiX6 0 (wM0 g _) rfl 0 (by decide) (List.mem_of_getElem? (i := 1) rfl) rfl dX6_copy_19 ?_
        refine xv_bipush C 17 dX6_copy_22 (by decide) ?_
        refine xv_iload_n C dX6_copy_24 rfl 1 rfl ?_
        refine xv_imul C dX6_copy_25 ?_
        refine xv_iload_n C dX6_copy_26 rfl 3 rfl ?_
        refine xv_iadd C dX6_copy_27 ?_
        refine xv_iald C 1 0 (wM1 g _) rfl hf dX6_copy_28 (fun hf => ?_)
        refine xv_iast C 1 0 (wM1 g _) rfl (up a 1 ((((17 : Int32) * x2) + x3).toNatClampNeg) (a 1 ((((17 : Int32) * x1) + x3).toNatClampNeg))) (pM1 g _ _ _) hf dX6_copy_29 (fun hf => ?_)
        refine xv_iinc C [(3, .int (x3 + 1)), (0, .ref (aM g 0)), (1, .int x1), (2, .int x2)] dX6_copy_30 3 rfl rfl (by decide) rfl ?_
        refine xv_goto C 2 dX6_copy_33 (by decide) ?_
        refine xv_eq [1, 2, 3, 0] rfl ?_
        exact ih (x3 + 1) (up a 1 ((((17 : Int32) * x2) + x3).toNatClampNeg) (a 1 ((((17 : Int32) * x1) + x3).toNatClampNeg))) hf
  rw [f_X6_copy] at hf
  show V K (sM g) 4 a [(0, .ref (aM g 0)), (1, .int x1), (2, .int x2)] 0 []
  refine xv_iconst C 0 dX6_copy_0 (by decide) ?_
  refine xv_istore_n C [(3, .int 0), (0, .ref (aM g 0)), (1, .int x1), (2, .int x2)] dX6_copy_1 rfl (by decide) rfl ?_
  refine xv_eq [1, 2, 3, 0] rfl ?_
  exact hL2 x1 x2 n 0 a hf
set_option maxRecDepth 100000 in
set_option maxHeartbeats 4000000 in
theorem c_X6_keep (g : GM) (hS : xSide (sM g)) (l : Launch) (n : Nat) (x1 : Int32) (a : St) (q : (Int32 × St)) (hf : f_X6_keep n x1 a = some q) : Met l yX6_keep wsX6_keep rm_X6_keep (xPre (sM g) [.ref (aM g 0), .int x1] a) (xPostI (sM g) q.1 q.2) 0 0 (sM g).2.2.1 := by
  refine xm_i (av := [.ref (aM g 0), .int x1]) (cc := cX6_keep) (maxL := 2) (by decide) rfl (Nat.le_of_ble_eq_true rfl) hS.1 hS.2 (fun K C hret => ?_)
  have C : CC K (sM g) cX6_keep 2 wsX6_keep RX6 rm_X6_keep := C
  have hiX6 : ∀ w ∈ u_ws RX6 TX6 26, w ∈ wsX6_keep := fun w h => List.mem_cons_of_mem _ (List.mem_append_right _ h)
  rw [f_X6_keep] at hf
  show V K (sM g) 2 a [(0, .ref (aM g 0)), (1, .int x1)] 0 []
  refine xv_iload_n C dX6_keep_0 rfl 1 rfl ?_
  refine xv_i2l C dX6_keep_1 ?_
  refine xv_lconst C 0 dX6_keep_2 (by decide) ?_
  refine xv_lconst C 1 dX6_keep_3 (by decide) ?_
  obtain ⟨q1, hg, hf⟩ := dt_bind hf
  refine xc_i (xr_S C (As := [.long x1.toInt64, .long 0, .long 1]) (fun l => c_X6_in (sM g) hS l x1.toInt64 0 1 a q1 hg) gX6_keep_X6_in rfl ⟨rfl, rfl⟩ hdS_X6_in ⟨Nat.le_of_ble_eq_true rfl, Nat.le_of_ble_eq_true rfl⟩ rfl rfl (Nat.le_of_ble_eq_true rfl) dX6_keep_4) ?_
  refine xv_if_ne C (y := 0) 13 hf dX6_keep_7 (by decide) (fun _ hf => ?_) (fun _ hf => ?_)
  · refine xv_bipush C (-2) dX6_keep_10 (by decide) ?_
    exact xz_iw hret hf dX6_keep_12
  · refine xv_aload_n C dX6_keep_13 rfl 0 rfl ?_
    refine xv_iconst C 0 dX6_keep_14 (by decide) ?_
    refine xv_iconst C 1 dX6_keep_15 (by decide) ?_
    refine xv_iload_n C dX6_keep_16 rfl 1 rfl ?_
    refine xv_iadd C dX6_keep_17 ?_
    obtain ⟨q2, hg, hf⟩ := dt_bind hf
    refine xc_v (xr_V C (ci := 6) (As := [.int 0, .int ((1 : Int32) + x1)]) (fun l => c_X6_copy g hS l n 0 ((1 : Int32) + x1) a q2 hg) gX6_keep_X6_copy rfl ⟨rfl, rfl⟩ hdV_X6_copy ⟨Nat.le_of_ble_eq_true rfl, Nat.le_of_ble_eq_true rfl⟩ 0 rfl rfl (wM0 g _) rfl rfl (Nat.le_of_ble_eq_true rfl) dX6_keep_18) ?_
    refine xv_aload_n C dX6_keep_21 rfl 0 rfl ?_
    refine xv_get C hiX6 0 (wM0 g _) rfl 1 (by decide) (List.mem_of_getElem? (i := 1) rfl) rfl dX6_keep_22 ?_
    refine xv_iload_n C dX6_keep_25 rfl 1 rfl ?_
    refine xv_iconst C 1 dX6_keep_26 (by decide) ?_
    refine xv_zast C 2 1 (wM2 g _) rfl (by decide) (up q2 2 x1.toNatClampNeg 1) (pM2 g _ _ _) hf dX6_keep_27 (fun hf => ?_)
    refine xv_aload_n C dX6_keep_28 rfl 0 rfl ?_
    refine xv_get C hiX6 0 (wM0 g _) rfl 0 (by decide) (List.mem_of_getElem? (i := 2) rfl) rfl dX6_keep_29 ?_
    refine xv_bipush C 8 dX6_keep_32 (by decide) ?_
    refine xv_iald C 1 0 (wM1 g _) rfl (B := some ()) (w := ()) (by decide) dX6_keep_34 (fun _ => ?_)
    exact xz_iw hret hf dX6_keep_35
set_option maxRecDepth 100000 in
set_option maxHeartbeats 4000000 in
theorem c_X6_back (g : GM) (hS : xSide (sM g)) (l : Launch) (n : Nat) (x1 : Int32) (a : St) (q : (Int32 × St)) (hf : f_X6_back n x1 a = some q) : Met l yX6_back wsX6_back rm_X6_back (xPre (sM g) [.ref (aM g 0), .int x1] a) (xPostI (sM g) q.1 q.2) 0 0 (sM g).2.2.1 := by
  refine xm_i (av := [.ref (aM g 0), .int x1]) (cc := cX6_back) (maxL := 2) (by decide) rfl (Nat.le_of_ble_eq_true rfl) hS.1 hS.2 (fun K C hret => ?_)
  have C : CC K (sM g) cX6_back 2 wsX6_back RX6 rm_X6_back := C
  have hiX6 : ∀ w ∈ u_ws RX6 TX6 26, w ∈ wsX6_back := fun w h => List.mem_cons_of_mem _ (List.mem_append_right _ h)
  rw [f_X6_back] at hf
  show V K (sM g) 2 a [(0, .ref (aM g 0)), (1, .int x1)] 0 []
  refine xv_iload_n C dX6_back_0 rfl 1 rfl ?_
  refine xv_i2l C dX6_back_1 ?_
  refine xv_lconst C 0 dX6_back_2 (by decide) ?_
  refine xv_lconst C 1 dX6_back_3 (by decide) ?_
  obtain ⟨q1, hg, hf⟩ := dt_bind hf
  refine xc_i (xr_S C (As := [.long x1.toInt64, .long 0, .long 1]) (fun l => c_X6_in (sM g) hS l x1.toInt64 0 1 a q1 hg) gX6_back_X6_in rfl ⟨rfl, rfl⟩ hdS_X6_in ⟨Nat.le_of_ble_eq_true rfl, Nat.le_of_ble_eq_true rfl⟩ rfl rfl (Nat.le_of_ble_eq_true rfl) dX6_back_4) ?_
  refine xv_if_ne C (y := 0) 13 hf dX6_back_7 (by decide) (fun _ hf => ?_) (fun _ hf => ?_)
  · refine xv_bipush C (-2) dX6_back_10 (by decide) ?_
    exact xz_iw hret hf dX6_back_12
  · refine xv_aload_n C dX6_back_13 rfl 0 rfl ?_
    refine xv_get C hiX6 0 (wM0 g _) rfl 1 (by decide) (List.mem_of_getElem? (i := 1) rfl) rfl dX6_back_14 ?_
    refine xv_iload_n C dX6_back_17 rfl 1 rfl ?_
    refine xv_zald C 2 1 (wM2 g _) rfl hf dX6_back_18 (fun hf => ?_)
    refine xv_if_ne C (y := 0) 25 hf dX6_back_19 (by decide) (fun _ hf => ?_) (fun _ hf => ?_)
    · refine xv_bipush C (-4) dX6_back_22 (by decide) ?_
      exact xz_iw hret hf dX6_back_24
    · refine xv_aload_n C dX6_back_25 rfl 0 rfl ?_
      refine xv_iconst C 1 dX6_back_26 (by decide) ?_
      refine xv_iload_n C dX6_back_27 rfl 1 rfl ?_
      refine xv_iadd C dX6_back_28 ?_
      refine xv_iconst C 0 dX6_back_29 (by decide) ?_
      obtain ⟨q2, hg, hf⟩ := dt_bind hf
      refine xc_v (xr_V C (ci := 6) (As := [.int ((1 : Int32) + x1), .int 0]) (fun l => c_X6_copy g hS l n ((1 : Int32) + x1) 0 a q2 hg) gX6_back_X6_copy rfl ⟨rfl, rfl⟩ hdV_X6_copy ⟨Nat.le_of_ble_eq_true rfl, Nat.le_of_ble_eq_true rfl⟩ 0 rfl rfl (wM0 g _) rfl rfl (Nat.le_of_ble_eq_true rfl) dX6_back_30) ?_
      refine xv_aload_n C dX6_back_33 rfl 0 rfl ?_
      refine xv_get C hiX6 0 (wM0 g _) rfl 0 (by decide) (List.mem_of_getElem? (i := 2) rfl) rfl dX6_back_34 ?_
      refine xv_bipush C 8 dX6_back_37 (by decide) ?_
      refine xv_iald C 1 0 (wM1 g _) rfl (B := some ()) (w := ()) (by decide) dX6_back_39 (fun _ => ?_)
      exact xz_iw hret hf dX6_back_40
set_option maxRecDepth 100000 in
set_option maxHeartbeats 4000000 in
theorem c_X6_count (g : GM) (hS : xSide (sM g)) (l : Launch) (x1 : Int32) (a : St) (q : Int32) (hf : f_X6_count x1 a = some q) : Met l yX6_count wsX6_count rm_X6_count (xPre (sM g) [.ref (aM g 0), .int x1] a) (xPostI (sM g) q a) 0 0 (sM g).2.2.1 := by
  refine xm_i (av := [.ref (aM g 0), .int x1]) (cc := cX6_count) (maxL := 2) (by decide) rfl (Nat.le_of_ble_eq_true rfl) hS.1 hS.2 (fun K C hret => ?_)
  have C : CC K (sM g) cX6_count 2 wsX6_count RX6 rm_X6_count := C
  have hiX6 : ∀ w ∈ u_ws RX6 TX6 26, w ∈ wsX6_count := fun w h => List.mem_cons_of_mem _ (List.mem_append_right _ h)
  rw [f_X6_count] at hf
  show V K (sM g) 2 a [(0, .ref (aM g 0)), (1, .int x1)] 0 []
  refine xv_iload_n C dX6_count_0 rfl 1 rfl ?_
  refine xv_if_ne C (y := 0) 11 hf dX6_count_1 (by decide) (fun _ hf => ?_) (fun _ hf => ?_)
  · refine xv_aload_n C dX6_count_4 rfl 0 rfl ?_
    refine xv_get C hiX6 0 (wM0 g _) rfl 6 (by decide) (List.mem_of_getElem? (i := 1) rfl) rfl dX6_count_5 ?_
    refine xv_goto C 76 dX6_count_8 (by decide) ?_
    exact xz_ir hret hf dX6_count_76
  · refine xv_iload_n C dX6_count_11 rfl 1 rfl ?_
    refine xv_iconst C 1 dX6_count_12 (by decide) ?_
    refine xv_icmp_ne C 23 hf dX6_count_13 (by decide) (fun _ hf => ?_) (fun _ hf => ?_)
    · refine xv_aload_n C dX6_count_16 rfl 0 rfl ?_
      refine xv_get C hiX6 0 (wM0 g _) rfl 11 (by decide) (List.mem_of_getElem? (i := 2) rfl) rfl dX6_count_17 ?_
      refine xv_goto C 76 dX6_count_20 (by decide) ?_
      exact xz_ir hret hf dX6_count_76
    · refine xv_iload_n C dX6_count_23 rfl 1 rfl ?_
      refine xv_iconst C 2 dX6_count_24 (by decide) ?_
      refine xv_icmp_ne C 38 hf dX6_count_25 (by decide) (fun _ hf => ?_) (fun _ hf => ?_)
      · refine xv_aload_n C dX6_count_28 rfl 0 rfl ?_
        refine xv_get C hiX6 0 (wM0 g _) rfl 0 (by decide) (List.mem_of_getElem? (i := 3) rfl) rfl dX6_count_29 ?_
        refine xv_bipush C 8 dX6_count_32 (by decide) ?_
        refine xv_iald C 1 0 (wM1 g _) rfl (B := some ()) (w := ()) (by decide) dX6_count_34 (fun _ => ?_)
        refine xv_goto C 76 dX6_count_35 (by decide) ?_
        exact xz_ir hret hf dX6_count_76
      · refine xv_iload_n C dX6_count_38 rfl 1 rfl ?_
        refine xv_iconst C 3 dX6_count_39 (by decide) ?_
        refine xv_icmp_ne C 50 hf dX6_count_40 (by decide) (fun _ hf => ?_) (fun _ hf => ?_)
        · refine xv_aload_n C dX6_count_43 rfl 0 rfl ?_
          refine xv_get C hiX6 0 (wM0 g _) rfl 19 (by decide) (List.mem_of_getElem? (i := 4) rfl) rfl dX6_count_44 ?_
          refine xv_goto C 76 dX6_count_47 (by decide) ?_
          exact xz_ir hret hf dX6_count_76
        · refine xv_iload_n C dX6_count_50 rfl 1 rfl ?_
          refine xv_iconst C 4 dX6_count_51 (by decide) ?_
          refine xv_icmp_ne C 62 hf dX6_count_52 (by decide) (fun _ hf => ?_) (fun _ hf => ?_)
          · refine xv_aload_n C dX6_count_55 rfl 0 rfl ?_
            refine xv_get C hiX6 0 (wM0 g _) rfl 25 (by decide) (List.mem_of_getElem? (i := 5) rfl) rfl dX6_count_56 ?_
            refine xv_goto C 76 dX6_count_59 (by decide) ?_
            exact xz_ir hret hf dX6_count_76
          · refine xv_iload_n C dX6_count_62 rfl 1 rfl ?_
            refine xv_iconst C 5 dX6_count_63 (by decide) ?_
            refine xv_icmp_ne C 74 hf dX6_count_64 (by decide) (fun _ hf => ?_) (fun _ hf => ?_)
            · refine xv_aload_n C dX6_count_67 rfl 0 rfl ?_
              refine xv_get C hiX6 0 (wM0 g _) rfl 3 (by decide) (List.mem_of_getElem? (i := 6) rfl) rfl dX6_count_68 ?_
              refine xv_goto C 76 dX6_count_71 (by decide) ?_
              exact xz_ir hret hf dX6_count_76
            · refine xv_bipush C (-3) dX6_count_74 (by decide) ?_
              exact xz_ir hret hf dX6_count_76
