set_option maxRecDepth 100000 in
set_option maxHeartbeats 4000000 in
theorem c_X6_in (S : SID) (hS : xSide S) (l : Launch) (x0 : Int64) (x2 : Int64) (x4 : Int64) (a : St) (q : Int32) (hf : f_X6_in x0 x2 x4 = some q) : Met l yX6_in wsX6_in rm_X6_in (xPre S [.long x0, .long x2, .long x4] a) (xPostI S q a) 0 0 S.2.2.1 := by
  refine xm_z (av := [.long x0, .long x2, .long x4]) (cc := cX6_in) (maxL := 6) (by decide) rfl (Nat.le_of_ble_eq_true rfl) hS.1 hS.2 (fun K C hret => ?_)
  have C : CC K S cX6_in 6 wsX6_in RX6 rm_X6_in := C
  rw [f_X6_in] at hf
  show V K S 6 a [(0, .long x0), (2, .long x2), (4, .long x4)] 0 []
  refine xv_lload_n C dX6_in_0 rfl 0 rfl ?_
  refine xv_lload_n C dX6_in_1 rfl 1 rfl ?_
  refine xv_lcmp C dX6_in_2 ?_
  refine xv_if_lt C (y := 0) 17 hf dX6_in_3 (by decide) (fun _ hf => ?_) (fun _ hf => ?_)
  · refine xv_iconst C 0 dX6_in_17 (by decide) ?_
    exact xz_zr hret hf (by decide) dX6_in_18
  · refine xv_lload_n C dX6_in_6 rfl 0 rfl ?_
    refine xv_lload C dX6_in_7 2 rfl ?_
    refine xv_lcmp C dX6_in_9 ?_
    refine xv_if_gt C (y := 0) 17 hf dX6_in_10 (by decide) (fun _ hf => ?_) (fun _ hf => ?_)
    · refine xv_iconst C 0 dX6_in_17 (by decide) ?_
      exact xz_zr hret hf (by decide) dX6_in_18
    · refine xv_iconst C 1 dX6_in_13 (by decide) ?_
      refine xv_goto C 18 dX6_in_14 (by decide) ?_
      exact xz_zr hret hf (by decide) dX6_in_18
set_option maxRecDepth 100000 in
set_option maxHeartbeats 4000000 in
theorem c_X6_write (g : GM) (hS : xSide (sM g)) (l : Launch) (n : Nat) (x1 : Int64) (x3 : Int32) (a : St) (q : (Int32 × St)) (hf : f_X6_write n x1 x3 a = some q) : Met l yX6_write wsX6_write rm_X6_write (xPre (sM g) [.ref (aM g 0), .long x1, .int x3] a) (xPostI (sM g) q.1 q.2) 0 0 (sM g).2.2.1 := by
  refine xm_i (av := [.ref (aM g 0), .long x1, .int x3]) (cc := cX6_write) (maxL := 5) (by decide) rfl (Nat.le_of_ble_eq_true rfl) hS.1 hS.2 (fun K C hret => ?_)
  have C : CC K (sM g) cX6_write 5 wsX6_write RX6 rm_X6_write := C
  have hiX6 : ∀ w ∈ u_ws RX6 TX6 26, w ∈ wsX6_write := fun w h => List.mem_cons_of_mem _ (List.mem_append_right _ h)
  have hL33 : ∀ (x1 : Int64) (x3 : Int32)  (j : Nat) (x4 : Int32) (a : St), L_X6_write_33 n x1 x3 j x4 a = some q → V K (sM g) 5 a [(0, .ref (aM g 0)), (1, .long x1), (3, .int x3), (4, .int x4)] 33 [] := by
    intro x1 x3 j
    induction j with
    | zero =>
      intro x4 a hf
      have hf : (none : Option (Int32 × St)) = some q := hf
      cases hf
    | succ j ih =>
      intro x4 a hf
      rw [L_X6_write_33] at hf
      refine xv_iload C dX6_write_33 3 rfl ?_
      refine xv_iload_n C dX6_write_35 rfl 2 rfl ?_
      refine xv_icmp_ge C 76 hf dX6_write_36 (by decide) (fun _ hf => ?_) (fun _ hf => ?_)
      · refine xv_aload_n C dX6_write_76 rfl 0 rfl ?_
        refine xv_get C hiX6 0 (wM0 g _) rfl 3 (by decide) (List.mem_of_getElem? (i := 2) rfl) rfl dX6_write_77 ?_
        exact xz_iw hret hf dX6_write_80
      · refine xv_aload_n C dX6_write_39 rfl 0 rfl ?_
        refine xv_get C hiX6 0 (wM0 g _) rfl 2 (by decide) (List.mem_of_getElem? (i := 3) rfl) rfl dX6_write_40 ?_
        refine xv_aload_n C dX6_write_43 rfl 0 rfl ?_
        refine xv_get C hiX6 0 (wM0 g _) rfl 3 (by decide) (List.mem_of_getElem? (i := 2) rfl) rfl dX6_write_44 ?_
        refine xv_lload_n C dX6_write_47 rfl 1 rfl ?_
        refine xv_bipush C 8 dX6_write_48 (by decide) ?_
        refine xv_iload C dX6_write_50 3 rfl ?_
        refine xv_imul C dX6_write_52 ?_
        refine xv_lshr C dX6_write_53 ?_
        refine xv_ldc2 C 255 dX6_write_54 (List.mem_of_getElem? (i := 4) rfl) ?_
        refine xv_land C dX6_write_57 ?_
        refine xv_l2i C dX6_write_58 ?_
        refine xv_iast C 3 0 (wM3 g _) rfl (up a 3 ((a 0 3).toNatClampNeg) (((x1 >>> (((8 : Int32) * x4).toInt64 &&& 63)) &&& 255).toInt32)) (pM3 g _ _ _) hf dX6_write_59 (fun hf => ?_)
        refine xv_aload_n C dX6_write_60 rfl 0 rfl ?_
        refine xv_dup C dX6_write_61 rfl ?_
        refine xv_get C hiX6 0 (wM0 g _) rfl 3 (by decide) (List.mem_of_getElem? (i := 2) rfl) rfl dX6_write_62 ?_
        refine xv_iconst C 1 dX6_write_65 (by decide) ?_
        refine xv_iadd C dX6_write_66 ?_
        refine xv_put C hiX6 tyX6 tyX6_ok nmX6 0 (wM0 g _) rfl 3 (by decide) (List.mem_of_getElem? (i := 2) rfl) rfl (tyX6_ok 3 (by decide)) rfl rfl (Nat.le_of_ble_eq_true rfl) (up (up a 3 ((a 0 3).toNatClampNeg) (((x1 >>> (((8 : Int32) * x4).toInt64 &&& 63)) &&& 255).toInt32)) 0 3 (((up a 3 ((a 0 3).toNatClampNeg) (((x1 >>> (((8 : Int32) * x4).toInt64 &&& 63)) &&& 255).toInt32)) 0 3) + 1)) (pM0_3 g _ _) dX6_write_67 ?_
        refine xv_iinc C [(4, .int (x4 + 1)), (0, .ref (aM g 0)), (1, .long x1), (3, .int x3)] dX6_write_70 3 rfl rfl (by decide) rfl ?_
        refine xv_goto C 33 dX6_write_73 (by decide) ?_
        refine xv_eq [1, 2, 3, 0] rfl ?_
        exact ih (x4 + 1) (up (up a 3 ((a 0 3).toNatClampNeg) (((x1 >>> (((8 : Int32) * x4).toInt64 &&& 63)) &&& 255).toInt32)) 0 3 (((up a 3 ((a 0 3).toNatClampNeg) (((x1 >>> (((8 : Int32) * x4).toInt64 &&& 63)) &&& 255).toInt32)) 0 3) + 1)) hf
  rw [f_X6_write] at hf
  show V K (sM g) 5 a [(0, .ref (aM g 0)), (1, .long x1), (3, .int x3)] 0 []
  refine xv_iload_n C dX6_write_0 rfl 2 rfl ?_
  refine xv_i2l C dX6_write_1 ?_
  refine xv_lconst C 1 dX6_write_2 (by decide) ?_
  refine xv_ldc2 C 8 dX6_write_3 (List.mem_of_getElem? (i := 1) rfl) ?_
  obtain ⟨q1, hg, hf⟩ := dt_bind hf
  refine xc_i (xr_S C (As := [.long x3.toInt64, .long 1, .long 8]) (fun l => c_X6_in (sM g) hS l x3.toInt64 1 8 a q1 hg) gX6_write_X6_in rfl ⟨rfl, rfl⟩ hdS_X6_in ⟨Nat.le_of_ble_eq_true rfl, Nat.le_of_ble_eq_true rfl⟩ rfl rfl (Nat.le_of_ble_eq_true rfl) dX6_write_6) ?_
  refine xv_if_ne C (y := 0) 15 hf dX6_write_9 (by decide) (fun _ hf => ?_) (fun _ hf => ?_)
  · refine xv_bipush C (-3) dX6_write_12 (by decide) ?_
    exact xz_iw hret hf dX6_write_14
  · refine xv_aload_n C dX6_write_15 rfl 0 rfl ?_
    refine xv_get C hiX6 0 (wM0 g _) rfl 3 (by decide) (List.mem_of_getElem? (i := 2) rfl) rfl dX6_write_16 ?_
    refine xv_iload_n C dX6_write_19 rfl 2 rfl ?_
    refine xv_iadd C dX6_write_20 ?_
    refine xv_sipush C 200 dX6_write_21 (by decide) ?_
    refine xv_icmp_le C 30 hf dX6_write_24 (by decide) (fun _ hf => ?_) (fun _ hf => ?_)
    · refine xv_iconst C 0 dX6_write_30 (by decide) ?_
      refine xv_istore C [(4, .int 0), (0, .ref (aM g 0)), (1, .long x1), (3, .int x3)] dX6_write_31 (by decide) rfl ?_
      refine xv_eq [1, 2, 3, 0] rfl ?_
      exact hL33 x1 x3 n 0 a hf
    · refine xv_bipush C (-5) dX6_write_27 (by decide) ?_
      exact xz_iw hret hf dX6_write_29
set_option maxRecDepth 100000 in
set_option maxHeartbeats 4000000 in
theorem c_X6_erase (g : GM) (hS : xSide (sM g)) (l : Launch) (a : St) (q : (Int32 × St)) (hf : f_X6_erase a = some q) : Met l yX6_erase wsX6_erase rm_X6_erase (xPre (sM g) [.ref (aM g 0)] a) (xPostI (sM g) q.1 q.2) 0 0 (sM g).2.2.1 := by
  refine xm_i (av := [.ref (aM g 0)]) (cc := cX6_erase) (maxL := 2) (by decide) rfl (Nat.le_of_ble_eq_true rfl) hS.1 hS.2 (fun K C hret => ?_)
  have C : CC K (sM g) cX6_erase 2 wsX6_erase RX6 rm_X6_erase := C
  have hiX6 : ∀ w ∈ u_ws RX6 TX6 26, w ∈ wsX6_erase := fun w h => List.mem_cons_of_mem _ (List.mem_append_right _ h)
  rw [f_X6_erase] at hf
  show V K (sM g) 2 a [(0, .ref (aM g 0))] 0 []
  refine xv_aload_n C dX6_erase_0 rfl 0 rfl ?_
  refine xv_get C hiX6 0 (wM0 g _) rfl 3 (by decide) (List.mem_of_getElem? (i := 1) rfl) rfl dX6_erase_1 ?_
  refine xv_istore_n C [(1, .int (a 0 3)), (0, .ref (aM g 0))] dX6_erase_4 rfl (by decide) rfl ?_
  refine xv_aload_n C dX6_erase_5 rfl 1 rfl ?_
  refine xv_iconst C 0 dX6_erase_6 (by decide) ?_
  refine xv_put C hiX6 tyX6 tyX6_ok nmX6 0 (wM0 g _) rfl 3 (by decide) (List.mem_of_getElem? (i := 1) rfl) rfl (tyX6_ok 3 (by decide)) rfl rfl (Nat.le_of_ble_eq_true rfl) (up a 0 3 0) (pM0_3 g _ _) dX6_erase_7 ?_
  refine xv_iload_n C dX6_erase_10 rfl 0 rfl ?_
  exact xz_iw hret hf dX6_erase_11
set_option maxRecDepth 100000 in
set_option maxHeartbeats 4000000 in
theorem c_X6_sort (S : SID) (hS : xSide S) (l : Launch) (x0 : Int32) (a : St) (q : Int32) (hf : f_X6_sort x0 = some q) : Met l yX6_sort wsX6_sort rm_X6_sort (xPre S [.int x0] a) (xPostI S q a) 0 0 S.2.2.1 := by
  refine xm_i (av := [.int x0]) (cc := cX6_sort) (maxL := 1) (by decide) rfl (Nat.le_of_ble_eq_true rfl) hS.1 hS.2 (fun K C hret => ?_)
  have C : CC K S cX6_sort 1 wsX6_sort RX6 rm_X6_sort := C
  rw [f_X6_sort] at hf
  show V K S 1 a [(0, .int x0)] 0 []
  refine xv_iload_n C dX6_sort_0 rfl 0 rfl ?_
  refine xv_bipush C 97 dX6_sort_1 (by decide) ?_
  refine xv_icmp_lt C 16 hf dX6_sort_3 (by decide) (fun _ hf => ?_) (fun _ hf => ?_)
  · refine xv_iload_n C dX6_sort_16 rfl 0 rfl ?_
    refine xv_bipush C 48 dX6_sort_17 (by decide) ?_
    refine xv_icmp_lt C 32 hf dX6_sort_19 (by decide) (fun _ hf => ?_) (fun _ hf => ?_)
    · refine xv_iconst C 0 dX6_sort_32 (by decide) ?_
      exact xz_ir hret hf dX6_sort_33
    · refine xv_iload_n C dX6_sort_22 rfl 0 rfl ?_
      refine xv_bipush C 57 dX6_sort_23 (by decide) ?_
      refine xv_icmp_gt C 32 hf dX6_sort_25 (by decide) (fun _ hf => ?_) (fun _ hf => ?_)
      · refine xv_iconst C 0 dX6_sort_32 (by decide) ?_
        exact xz_ir hret hf dX6_sort_33
      · refine xv_iconst C 2 dX6_sort_28 (by decide) ?_
        refine xv_goto C 33 dX6_sort_29 (by decide) ?_
        exact xz_ir hret hf dX6_sort_33
  · refine xv_iload_n C dX6_sort_6 rfl 0 rfl ?_
    refine xv_bipush C 122 dX6_sort_7 (by decide) ?_
    refine xv_icmp_gt C 16 hf dX6_sort_9 (by decide) (fun _ hf => ?_) (fun _ hf => ?_)
    · refine xv_iload_n C dX6_sort_16 rfl 0 rfl ?_
      refine xv_bipush C 48 dX6_sort_17 (by decide) ?_
      refine xv_icmp_lt C 32 hf dX6_sort_19 (by decide) (fun _ hf => ?_) (fun _ hf => ?_)
      · refine xv_iconst C 0 dX6_sort_32 (by decide) ?_
        exact xz_ir hret hf dX6_sort_33
      · refine xv_iload_n C dX6_sort_22 rfl 0 rfl ?_
        refine xv_bipush C 57 dX6_sort_23 (by decide) ?_
        refine xv_icmp_gt C 32 hf dX6_sort_25 (by decide) (fun _ hf => ?_) (fun _ hf => ?_)
        · refine xv_iconst C 0 dX6_sort_32 (by decide) ?_
          exact xz_ir hret hf dX6_sort_33
        · refine xv_iconst C 2 dX6_sort_28 (by decide) ?_
          refine xv_goto C 33 dX6_sort_29 (by decide) ?_
          exact xz_ir hret hf dX6_sort_33
    · refine xv_iconst C 1 dX6_sort_12 (by decide) ?_
      refine xv_goto C 33 dX6_sort_13 (by decide) ?_
      exact xz_ir hret hf dX6_sort_33
set_option maxRecDepth 100000 in
set_option maxHeartbeats 4000000 in
theorem c_X6_token (g : GM) (hS : xSide (sM g)) (l : Launch) (n : Nat) (a : St) (q : St) (hf : f_X6_token n a = some q) : Met l yX6_token wsX6_token rm_X6_token (xPre (sM g) [.ref (aM g 0)] a) (xPostV (sM g) q) 0 0 (sM g).2.2.1 := by
  refine xm_v (av := [.ref (aM g 0)]) (cc := cX6_token) (maxL := 1) (by decide) rfl (Nat.le_of_ble_eq_true rfl) hS.1 hS.2 (fun K C hret => ?_)
  have C : CC K (sM g) cX6_token 1 wsX6_token RX6 rm_X6_token := C
  have hiX6 : ∀ w ∈ u_ws RX6 TX6 26, w ∈ wsX6_token := fun w h => List.mem_cons_of_mem _ (List.mem_append_right _ h)
  have hL71 : ∀  (j : Nat) (a : St), L_X6_token_71 n j a = some q → V K (sM g) 1 a [(0, .ref (aM g 0))] 71 [] := by
    intro j
    induction j with
    | zero =>
      intro a hf
      have hf : (none : Option St) = some q := hf
      cases hf
    | succ j ih =>
      intro a hf
      rw [L_X6_token_71] at hf
      refine xv_aload_n C dX6_token_71 rfl 0 rfl ?_
      refine xv_get C hiX6 0 (wM0 g _) rfl 12 (by decide) (List.mem_of_getElem? (i := 1) rfl) rfl dX6_token_72 ?_
      refine xv_aload_n C dX6_token_75 rfl 0 rfl ?_
      refine xv_get C hiX6 0 (wM0 g _) rfl 3 (by decide) (List.mem_of_getElem? (i := 2) rfl) rfl dX6_token_76 ?_
      refine xv_icmp_ge C 137 hf dX6_token_79 (by decide) (fun _ hf => ?_) (fun _ hf => ?_)
      · refine xv_aload_n C dX6_token_137 rfl 0 rfl ?_
        refine xv_aload_n C dX6_token_138 rfl 0 rfl ?_
        refine xv_get C hiX6 0 (wM0 g _) rfl 12 (by decide) (List.mem_of_getElem? (i := 1) rfl) rfl dX6_token_139 ?_
        refine xv_put C hiX6 tyX6 tyX6_ok nmX6 0 (wM0 g _) rfl 14 (by decide) (List.mem_of_getElem? (i := 5) rfl) rfl (tyX6_ok 14 (by decide)) rfl rfl (Nat.le_of_ble_eq_true rfl) (up a 0 14 (a 0 12)) (pM0_14 g _ _) dX6_token_142 ?_
        exact xz_v hret hf dX6_token_145
      · refine xv_aload_n C dX6_token_82 rfl 0 rfl ?_
        refine xv_get C hiX6 0 (wM0 g _) rfl 2 (by decide) (List.mem_of_getElem? (i := 3) rfl) rfl dX6_token_83 ?_
        refine xv_aload_n C dX6_token_86 rfl 0 rfl ?_
        refine xv_get C hiX6 0 (wM0 g _) rfl 13 (by decide) (List.mem_of_getElem? (i := 4) rfl) rfl dX6_token_87 ?_
        refine xv_iald C 3 0 (wM3 g _) rfl hf dX6_token_90 (fun hf => ?_)
        obtain ⟨q1, hg, hf⟩ := dt_bind hf
        refine xc_i (xr_S C (As := [.int (a 3 ((a 0 13).toNatClampNeg))]) (fun l => c_X6_sort (sM g) hS l (a 3 ((a 0 13).toNatClampNeg)) a q1 hg) gX6_token_X6_sort rfl ⟨rfl, rfl⟩ hdS_X6_sort ⟨Nat.le_of_ble_eq_true rfl, Nat.le_of_ble_eq_true rfl⟩ rfl rfl (Nat.le_of_ble_eq_true rfl) dX6_token_91) ?_
        refine xv_if_le C (y := 0) 137 hf dX6_token_94 (by decide) (fun _ hf => ?_) (fun _ hf => ?_)
        · refine xv_aload_n C dX6_token_137 rfl 0 rfl ?_
          refine xv_aload_n C dX6_token_138 rfl 0 rfl ?_
          refine xv_get C hiX6 0 (wM0 g _) rfl 12 (by decide) (List.mem_of_getElem? (i := 1) rfl) rfl dX6_token_139 ?_
          refine xv_put C hiX6 tyX6 tyX6_ok nmX6 0 (wM0 g _) rfl 14 (by decide) (List.mem_of_getElem? (i := 5) rfl) rfl (tyX6_ok 14 (by decide)) rfl rfl (Nat.le_of_ble_eq_true rfl) (up a 0 14 (a 0 12)) (pM0_14 g _ _) dX6_token_142 ?_
          exact xz_v hret hf dX6_token_145
        · refine xv_aload_n C dX6_token_97 rfl 0 rfl ?_
          refine xv_get C hiX6 0 (wM0 g _) rfl 2 (by decide) (List.mem_of_getElem? (i := 3) rfl) rfl dX6_token_98 ?_
          refine xv_aload_n C dX6_token_101 rfl 0 rfl ?_
          refine xv_get C hiX6 0 (wM0 g _) rfl 12 (by decide) (List.mem_of_getElem? (i := 1) rfl) rfl dX6_token_102 ?_
          refine xv_iald C 3 0 (wM3 g _) rfl hf dX6_token_105 (fun hf => ?_)
          obtain ⟨q2, hg, hf⟩ := dt_bind hf
          refine xc_i (xr_S C (As := [.int (a 3 ((a 0 12).toNatClampNeg))]) (fun l => c_X6_sort (sM g) hS l (a 3 ((a 0 12).toNatClampNeg)) a q2 hg) gX6_token_X6_sort rfl ⟨rfl, rfl⟩ hdS_X6_sort ⟨Nat.le_of_ble_eq_true rfl, Nat.le_of_ble_eq_true rfl⟩ rfl rfl (Nat.le_of_ble_eq_true rfl) dX6_token_106) ?_
          refine xv_aload_n C dX6_token_109 rfl 0 rfl ?_
          refine xv_get C hiX6 0 (wM0 g _) rfl 2 (by decide) (List.mem_of_getElem? (i := 3) rfl) rfl dX6_token_110 ?_
          refine xv_aload_n C dX6_token_113 rfl 0 rfl ?_
          refine xv_get C hiX6 0 (wM0 g _) rfl 13 (by decide) (List.mem_of_getElem? (i := 4) rfl) rfl dX6_token_114 ?_
          refine xv_iald C 3 0 (wM3 g _) rfl hf dX6_token_117 (fun hf => ?_)
          obtain ⟨q3, hg, hf⟩ := dt_bind hf
          refine xc_i (xr_S C (As := [.int (a 3 ((a 0 13).toNatClampNeg))]) (fun l => c_X6_sort (sM g) hS l (a 3 ((a 0 13).toNatClampNeg)) a q3 hg) gX6_token_X6_sort rfl ⟨rfl, rfl⟩ hdS_X6_sort ⟨Nat.le_of_ble_eq_true rfl, Nat.le_of_ble_eq_true rfl⟩ rfl rfl (Nat.le_of_ble_eq_true rfl) dX6_token_118) ?_
          refine xv_icmp_ne C 137 hf dX6_token_121 (by decide) (fun _ hf => ?_) (fun _ hf => ?_)
          · refine xv_aload_n C dX6_token_124 rfl 0 rfl ?_
            refine xv_dup C dX6_token_125 rfl ?_
            refine xv_get C hiX6 0 (wM0 g _) rfl 12 (by decide) (List.mem_of_getElem? (i := 1) rfl) rfl dX6_token_126 ?_
            refine xv_iconst C 1 dX6_token_129 (by decide) ?_
            refine xv_iadd C dX6_token_130 ?_
            refine xv_put C hiX6 tyX6 tyX6_ok nmX6 0 (wM0 g _) rfl 12 (by decide) (List.mem_of_getElem? (i := 1) rfl) rfl (tyX6_ok 12 (by decide)) rfl rfl (Nat.le_of_ble_eq_true rfl) (up a 0 12 ((a 0 12) + 1)) (pM0_12 g _ _) dX6_token_131 ?_
            refine xv_goto C 71 dX6_token_134 (by decide) ?_
            exact ih (up a 0 12 ((a 0 12) + 1)) hf
          · refine xv_aload_n C dX6_token_137 rfl 0 rfl ?_
            refine xv_aload_n C dX6_token_138 rfl 0 rfl ?_
            refine xv_get C hiX6 0 (wM0 g _) rfl 12 (by decide) (List.mem_of_getElem? (i := 1) rfl) rfl dX6_token_139 ?_
            refine xv_put C hiX6 tyX6 tyX6_ok nmX6 0 (wM0 g _) rfl 14 (by decide) (List.mem_of_getElem? (i := 5) rfl) rfl (tyX6_ok 14 (by decide)) rfl rfl (Nat.le_of_ble_eq_true rfl) (up a 0 14 (a 0 12)) (pM0_14 g _ _) dX6_token_142 ?_
            exact xz_v hret hf dX6_token_145
  have hB38 : ∀  (a : St), B_X6_token_38 n a = some q → V K (sM g) 1 a [(0, .ref (aM g 0))] 38 [] := by
    intro a hf
    rw [B_X6_token_38] at hf
    refine xv_aload_n C dX6_token_38 rfl 0 rfl ?_
    refine xv_aload_n C dX6_token_39 rfl 0 rfl ?_
    refine xv_get C hiX6 0 (wM0 g _) rfl 12 (by decide) (List.mem_of_getElem? (i := 1) rfl) rfl dX6_token_40 ?_
    refine xv_put C hiX6 tyX6 tyX6_ok nmX6 0 (wM0 g _) rfl 13 (by decide) (List.mem_of_getElem? (i := 4) rfl) rfl (tyX6_ok 13 (by decide)) rfl rfl (Nat.le_of_ble_eq_true rfl) (up a 0 13 (a 0 12)) (pM0_13 g _ _) dX6_token_43 ?_
    refine xv_aload_n C dX6_token_46 rfl 0 rfl ?_
    refine xv_dup C dX6_token_47 rfl ?_
    refine xv_get C hiX6 0 (wM0 g _) rfl 12 (by decide) (List.mem_of_getElem? (i := 1) rfl) rfl dX6_token_48 ?_
    refine xv_aload_n C dX6_token_51 rfl 0 rfl ?_
    refine xv_get C hiX6 0 (wM0 g _) rfl 12 (by decide) (List.mem_of_getElem? (i := 1) rfl) rfl dX6_token_52 ?_
    refine xv_aload_n C dX6_token_55 rfl 0 rfl ?_
    refine xv_get C hiX6 0 (wM0 g _) rfl 3 (by decide) (List.mem_of_getElem? (i := 2) rfl) rfl dX6_token_56 ?_
    refine xv_icmp_ge C 66 hf dX6_token_59 (by decide) (fun _ hf => ?_) (fun _ hf => ?_)
    · refine xv_iconst C 0 dX6_token_66 (by decide) ?_
      refine xv_iadd C dX6_token_67 ?_
      refine xv_put C hiX6 tyX6 tyX6_ok nmX6 0 (wM0 g _) rfl 12 (by decide) (List.mem_of_getElem? (i := 1) rfl) rfl (tyX6_ok 12 (by decide)) rfl rfl (Nat.le_of_ble_eq_true rfl) (up (up a 0 13 (a 0 12)) 0 12 (((up a 0 13 (a 0 12)) 0 12) + 0)) (pM0_12 g _ _) dX6_token_68 ?_
      exact hL71 n (up (up a 0 13 (a 0 12)) 0 12 (((up a 0 13 (a 0 12)) 0 12) + 0)) hf
    · refine xv_iconst C 1 dX6_token_62 (by decide) ?_
      refine xv_goto C 67 dX6_token_63 (by decide) ?_
      refine xv_iadd C dX6_token_67 ?_
      refine xv_put C hiX6 tyX6 tyX6_ok nmX6 0 (wM0 g _) rfl 12 (by decide) (List.mem_of_getElem? (i := 1) rfl) rfl (tyX6_ok 12 (by decide)) rfl rfl (Nat.le_of_ble_eq_true rfl) (up (up a 0 13 (a 0 12)) 0 12 (((up a 0 13 (a 0 12)) 0 12) + 1)) (pM0_12 g _ _) dX6_token_68 ?_
      exact hL71 n (up (up a 0 13 (a 0 12)) 0 12 (((up a 0 13 (a 0 12)) 0 12) + 1)) hf
  have hL0 : ∀  (j : Nat) (a : St), L_X6_token_0 n j a = some q → V K (sM g) 1 a [(0, .ref (aM g 0))] 0 [] := by
    intro j
    induction j with
    | zero =>
      intro a hf
      have hf : (none : Option St) = some q := hf
      cases hf
    | succ j ih =>
      intro a hf
      rw [L_X6_token_0] at hf
      refine xv_aload_n C dX6_token_0 rfl 0 rfl ?_
      refine xv_get C hiX6 0 (wM0 g _) rfl 12 (by decide) (List.mem_of_getElem? (i := 1) rfl) rfl dX6_token_1 ?_
      refine xv_aload_n C dX6_token_4 rfl 0 rfl ?_
      refine xv_get C hiX6 0 (wM0 g _) rfl 3 (by decide) (List.mem_of_getElem? (i := 2) rfl) rfl dX6_token_5 ?_
      refine xv_icmp_ge C 38 hf dX6_token_8 (by decide) (fun _ hf => ?_) (fun _ hf => ?_)
      · exact hB38 a hf
      · refine xv_aload_n C dX6_token_11 rfl 0 rfl ?_
        refine xv_get C hiX6 0 (wM0 g _) rfl 2 (by decide) (List.mem_of_getElem? (i := 3) rfl) rfl dX6_token_12 ?_
        refine xv_aload_n C dX6_token_15 rfl 0 rfl ?_
        refine xv_get C hiX6 0 (wM0 g _) rfl 12 (by decide) (List.mem_of_getElem? (i := 1) rfl) rfl dX6_token_16 ?_
        refine xv_iald C 3 0 (wM3 g _) rfl hf dX6_token_19 (fun hf => ?_)
        refine xv_bipush C 32 dX6_token_20 (by decide) ?_
        refine xv_icmp_ne C 38 hf dX6_token_22 (by decide) (fun _ hf => ?_) (fun _ hf => ?_)
        · refine xv_aload_n C dX6_token_25 rfl 0 rfl ?_
          refine xv_dup C dX6_token_26 rfl ?_
          refine xv_get C hiX6 0 (wM0 g _) rfl 12 (by decide) (List.mem_of_getElem? (i := 1) rfl) rfl dX6_token_27 ?_
          refine xv_iconst C 1 dX6_token_30 (by decide) ?_
          refine xv_iadd C dX6_token_31 ?_
          refine xv_put C hiX6 tyX6 tyX6_ok nmX6 0 (wM0 g _) rfl 12 (by decide) (List.mem_of_getElem? (i := 1) rfl) rfl (tyX6_ok 12 (by decide)) rfl rfl (Nat.le_of_ble_eq_true rfl) (up a 0 12 ((a 0 12) + 1)) (pM0_12 g _ _) dX6_token_32 ?_
          refine xv_goto C 0 dX6_token_35 (by decide) ?_
          exact ih (up a 0 12 ((a 0 12) + 1)) hf
        · exact hB38 a hf
  rw [f_X6_token] at hf
  show V K (sM g) 1 a [(0, .ref (aM g 0))] 0 []
  exact hL0 n a hf
set_option maxRecDepth 100000 in
set_option maxHeartbeats 4000000 in
theorem c_X6_isWord (g : GM) (hS : xSide (sM g)) (l : Launch) (n : Nat) (x1 : Int32) (x2 : Int32) (a : St) (q : Int32) (hf : f_X6_isWord n x1 x2 a = some q) : Met l yX6_isWord wsX6_isWord rm_X6_isWord (xPre (sM g) [.ref (aM g 0), .int x1, .int x2] a) (xPostI (sM g) q a) 0 0 (sM g).2.2.1 := by
  refine xm_z (av := [.ref (aM g 0), .int x1, .int x2]) (cc := cX6_isWord) (maxL := 5) (by decide) rfl (Nat.le_of_ble_eq_true rfl) hS.1 hS.2 (fun K C hret => ?_)
  have C : CC K (sM g) cX6_isWord 5 wsX6_isWord RX6 rm_X6_isWord := C
  have hiX6 : ∀ w ∈ u_ws RX6 TX6 26, w ∈ wsX6_isWord := fun w h => List.mem_cons_of_mem _ (List.mem_append_right _ h)
  have hL22 : ∀ (x1 : Int32) (x2 : Int32)  (j : Nat) (x3 : Int32) (x4 : Int32), L_X6_isWord_22 n x1 x2 a j x3 x4 = some q → V K (sM g) 5 a [(0, .ref (aM g 0)), (1, .int x1), (2, .int x2), (3, .int x3), (4, .int x4)] 22 [] := by
    intro x1 x2 j
    induction j with
    | zero =>
      intro x3 x4 hf
      have hf : (none : Option Int32) = some q := hf
      cases hf
    | succ j ih =>
      intro x3 x4 hf
      rw [L_X6_isWord_22] at hf
      refine xv_iload_n C dX6_isWord_22 rfl 3 rfl ?_
      refine xv_if_eq C (y := 0) 71 hf dX6_isWord_23 (by decide) (fun _ hf => ?_) (fun _ hf => ?_)
      · refine xv_iload_n C dX6_isWord_71 rfl 3 rfl ?_
        exact xz_zgr hret hf dX6_isWord_72
      · refine xv_iload C dX6_isWord_26 4 rfl ?_
        refine xv_iload_n C dX6_isWord_28 rfl 2 rfl ?_
        refine xv_icmp_ge C 71 hf dX6_isWord_29 (by decide) (fun _ hf => ?_) (fun _ hf => ?_)
        · refine xv_iload_n C dX6_isWord_71 rfl 3 rfl ?_
          exact xz_zgr hret hf dX6_isWord_72
        · refine xv_aload_n C dX6_isWord_32 rfl 0 rfl ?_
          refine xv_get C hiX6 0 (wM0 g _) rfl 2 (by decide) (List.mem_of_getElem? (i := 3) rfl) rfl dX6_isWord_33 ?_
          refine xv_aload_n C dX6_isWord_36 rfl 0 rfl ?_
          refine xv_get C hiX6 0 (wM0 g _) rfl 13 (by decide) (List.mem_of_getElem? (i := 2) rfl) rfl dX6_isWord_37 ?_
          refine xv_iload C dX6_isWord_40 4 rfl ?_
          refine xv_iadd C dX6_isWord_42 ?_
          refine xv_iald C 3 0 (wM3 g _) rfl hf dX6_isWord_43 (fun hf => ?_)
          refine xv_bipush C 96 dX6_isWord_44 (by decide) ?_
          refine xv_iload_n C dX6_isWord_46 rfl 1 rfl ?_
          refine xv_iconst C 5 dX6_isWord_47 (by decide) ?_
          refine xv_iload C dX6_isWord_48 4 rfl ?_
          refine xv_imul C dX6_isWord_50 ?_
          refine xv_ishr C dX6_isWord_51 ?_
          refine xv_bipush C 31 dX6_isWord_52 (by decide) ?_
          refine xv_iand C dX6_isWord_54 ?_
          refine xv_iadd C dX6_isWord_55 ?_
          refine xv_icmp_ne C 63 hf dX6_isWord_56 (by decide) (fun _ hf => ?_) (fun _ hf => ?_)
          · refine xv_iconst C 1 dX6_isWord_59 (by decide) ?_
            refine xv_goto C 64 dX6_isWord_60 (by decide) ?_
            refine xv_istore_n C [(3, .int 1), (0, .ref (aM g 0)), (1, .int x1), (2, .int x2), (4, .int x4)] dX6_isWord_64 rfl (by decide) rfl ?_
            refine xv_iinc C [(4, .int (x4 + 1)), (3, .int 1), (0, .ref (aM g 0)), (1, .int x1), (2, .int x2)] dX6_isWord_65 4 rfl rfl (by decide) rfl ?_
            refine xv_goto C 22 dX6_isWord_68 (by decide) ?_
            refine xv_eq [2, 3, 4, 1, 0] rfl ?_
            exact ih 1 (x4 + 1) hf
          · refine xv_iconst C 0 dX6_isWord_63 (by decide) ?_
            refine xv_istore_n C [(3, .int 0), (0, .ref (aM g 0)), (1, .int x1), (2, .int x2), (4, .int x4)] dX6_isWord_64 rfl (by decide) rfl ?_
            refine xv_iinc C [(4, .int (x4 + 1)), (3, .int 0), (0, .ref (aM g 0)), (1, .int x1), (2, .int x2)] dX6_isWord_65 4 rfl rfl (by decide) rfl ?_
            refine xv_goto C 22 dX6_isWord_68 (by decide) ?_
            refine xv_eq [2, 3, 4, 1, 0] rfl ?_
            exact ih 0 (x4 + 1) hf
  rw [f_X6_isWord] at hf
  show V K (sM g) 5 a [(0, .ref (aM g 0)), (1, .int x1), (2, .int x2)] 0 []
  refine xv_aload_n C dX6_isWord_0 rfl 0 rfl ?_
  refine xv_get C hiX6 0 (wM0 g _) rfl 14 (by decide) (List.mem_of_getElem? (i := 1) rfl) rfl dX6_isWord_1 ?_
  refine xv_aload_n C dX6_isWord_4 rfl 0 rfl ?_
  refine xv_get C hiX6 0 (wM0 g _) rfl 13 (by decide) (List.mem_of_getElem? (i := 2) rfl) rfl dX6_isWord_5 ?_
  refine xv_isub C dX6_isWord_8 ?_
  refine xv_iload_n C dX6_isWord_9 rfl 2 rfl ?_
  refine xv_icmp_ne C 17 hf dX6_isWord_10 (by decide) (fun _ hf => ?_) (fun _ hf => ?_)
  · refine xv_iconst C 1 dX6_isWord_13 (by decide) ?_
    refine xv_goto C 18 dX6_isWord_14 (by decide) ?_
    refine xv_istore_n C [(3, .int 1), (0, .ref (aM g 0)), (1, .int x1), (2, .int x2)] dX6_isWord_18 rfl (by decide) rfl ?_
    refine xv_iconst C 0 dX6_isWord_19 (by decide) ?_
    refine xv_istore C [(4, .int 0), (3, .int 1), (0, .ref (aM g 0)), (1, .int x1), (2, .int x2)] dX6_isWord_20 (by decide) rfl ?_
    refine xv_eq [2, 3, 4, 1, 0] rfl ?_
    exact hL22 x1 x2 n 1 0 hf
  · refine xv_iconst C 0 dX6_isWord_17 (by decide) ?_
    refine xv_istore_n C [(3, .int 0), (0, .ref (aM g 0)), (1, .int x1), (2, .int x2)] dX6_isWord_18 rfl (by decide) rfl ?_
    refine xv_iconst C 0 dX6_isWord_19 (by decide) ?_
    refine xv_istore C [(4, .int 0), (3, .int 0), (0, .ref (aM g 0)), (1, .int x1), (2, .int x2)] dX6_isWord_20 (by decide) rfl ?_
    refine xv_eq [2, 3, 4, 1, 0] rfl ?_
    exact hL22 x1 x2 n 0 0 hf
set_option maxRecDepth 100000 in
set_option maxHeartbeats 4000000 in
theorem c_X6_deedWord (g : GM) (hS : xSide (sM g)) (l : Launch) (n : Nat) (a : St) (q : Int32) (hf : f_X6_deedWord n a = some q) : Met l yX6_deedWord wsX6_deedWord rm_X6_deedWord (xPre (sM g) [.ref (aM g 0)] a) (xPostI (sM g) q a) 0 0 (sM g).2.2.1 := by
  refine xm_i (av := [.ref (aM g 0)]) (cc := cX6_deedWord) (maxL := 1) (by decide) rfl (Nat.le_of_ble_eq_true rfl) hS.1 hS.2 (fun K C hret => ?_)
  have C : CC K (sM g) cX6_deedWord 1 wsX6_deedWord RX6 rm_X6_deedWord := C
  rw [f_X6_deedWord] at hf
  show V K (sM g) 1 a [(0, .ref (aM g 0))] 0 []
  refine xv_aload_n C dX6_deedWord_0 rfl 0 rfl ?_
  refine xv_ldc C 14976400 dX6_deedWord_1 (List.mem_of_getElem? (i := 1) rfl) ?_
  refine xv_iconst C 5 dX6_deedWord_3 (by decide) ?_
  obtain ⟨q1, hg, hf⟩ := dt_bind hf
  refine xc_i (xr_V C (ci := 6) (As := [.int 14976400, .int 5]) (fun l => c_X6_isWord g hS l n 14976400 5 a q1 hg) gX6_deedWord_X6_isWord rfl ⟨rfl, rfl⟩ hdV_X6_isWord ⟨Nat.le_of_ble_eq_true rfl, Nat.le_of_ble_eq_true rfl⟩ 0 rfl rfl (wM0 g _) rfl rfl (Nat.le_of_ble_eq_true rfl) dX6_deedWord_4) ?_
  refine xv_if_eq C (y := 0) 14 hf dX6_deedWord_7 (by decide) (fun _ hf => ?_) (fun _ hf => ?_)
  · refine xv_aload_n C dX6_deedWord_14 rfl 0 rfl ?_
    refine xv_ldc C 139869684 dX6_deedWord_15 (List.mem_of_getElem? (i := 2) rfl) ?_
    refine xv_bipush C 6 dX6_deedWord_17 (by decide) ?_
    obtain ⟨q2, hg, hf⟩ := dt_bind hf
    refine xc_i (xr_V C (ci := 6) (As := [.int 139869684, .int 6]) (fun l => c_X6_isWord g hS l n 139869684 6 a q2 hg) gX6_deedWord_X6_isWord rfl ⟨rfl, rfl⟩ hdV_X6_isWord ⟨Nat.le_of_ble_eq_true rfl, Nat.le_of_ble_eq_true rfl⟩ 0 rfl rfl (wM0 g _) rfl rfl (Nat.le_of_ble_eq_true rfl) dX6_deedWord_19) ?_
    refine xv_if_eq C (y := 0) 29 hf dX6_deedWord_22 (by decide) (fun _ hf => ?_) (fun _ hf => ?_)
    · refine xv_aload_n C dX6_deedWord_29 rfl 0 rfl ?_
      refine xv_ldc C 609505573 dX6_deedWord_30 (List.mem_of_getElem? (i := 3) rfl) ?_
      refine xv_bipush C 6 dX6_deedWord_32 (by decide) ?_
      obtain ⟨q3, hg, hf⟩ := dt_bind hf
      refine xc_i (xr_V C (ci := 6) (As := [.int 609505573, .int 6]) (fun l => c_X6_isWord g hS l n 609505573 6 a q3 hg) gX6_deedWord_X6_isWord rfl ⟨rfl, rfl⟩ hdV_X6_isWord ⟨Nat.le_of_ble_eq_true rfl, Nat.le_of_ble_eq_true rfl⟩ 0 rfl rfl (wM0 g _) rfl rfl (Nat.le_of_ble_eq_true rfl) dX6_deedWord_34) ?_
      refine xv_if_eq C (y := 0) 45 hf dX6_deedWord_37 (by decide) (fun _ hf => ?_) (fun _ hf => ?_)
      · refine xv_aload_n C dX6_deedWord_45 rfl 0 rfl ?_
        refine xv_ldc C 21169731 dX6_deedWord_46 (List.mem_of_getElem? (i := 4) rfl) ?_
        refine xv_iconst C 5 dX6_deedWord_48 (by decide) ?_
        obtain ⟨q4, hg, hf⟩ := dt_bind hf
        refine xc_i (xr_V C (ci := 6) (As := [.int 21169731, .int 5]) (fun l => c_X6_isWord g hS l n 21169731 5 a q4 hg) gX6_deedWord_X6_isWord rfl ⟨rfl, rfl⟩ hdV_X6_isWord ⟨Nat.le_of_ble_eq_true rfl, Nat.le_of_ble_eq_true rfl⟩ 0 rfl rfl (wM0 g _) rfl rfl (Nat.le_of_ble_eq_true rfl) dX6_deedWord_49) ?_
        refine xv_if_eq C (y := 0) 60 hf dX6_deedWord_52 (by decide) (fun _ hf => ?_) (fun _ hf => ?_)
        · refine xv_iconst C (-1) dX6_deedWord_60 (by decide) ?_
          exact xz_ir hret hf dX6_deedWord_61
        · refine xv_bipush C 7 dX6_deedWord_55 (by decide) ?_
          refine xv_goto C 61 dX6_deedWord_57 (by decide) ?_
          exact xz_ir hret hf dX6_deedWord_61
      · refine xv_bipush C 6 dX6_deedWord_40 (by decide) ?_
        refine xv_goto C 61 dX6_deedWord_42 (by decide) ?_
        exact xz_ir hret hf dX6_deedWord_61
    · refine xv_iconst C 5 dX6_deedWord_25 (by decide) ?_
      refine xv_goto C 61 dX6_deedWord_26 (by decide) ?_
      exact xz_ir hret hf dX6_deedWord_61
  · refine xv_iconst C 4 dX6_deedWord_10 (by decide) ?_
    refine xv_goto C 61 dX6_deedWord_11 (by decide) ?_
    exact xz_ir hret hf dX6_deedWord_61
set_option maxRecDepth 100000 in
set_option maxHeartbeats 4000000 in
theorem c_X6_houseWord (g : GM) (hS : xSide (sM g)) (l : Launch) (n : Nat) (a : St) (q : Int32) (hf : f_X6_houseWord n a = some q) : Met l yX6_houseWord wsX6_houseWord rm_X6_houseWord (xPre (sM g) [.ref (aM g 0)] a) (xPostI (sM g) q a) 0 0 (sM g).2.2.1 := by
  refine xm_i (av := [.ref (aM g 0)]) (cc := cX6_houseWord) (maxL := 1) (by decide) rfl (Nat.le_of_ble_eq_true rfl) hS.1 hS.2 (fun K C hret => ?_)
  have C : CC K (sM g) cX6_houseWord 1 wsX6_houseWord RX6 rm_X6_houseWord := C
  rw [f_X6_houseWord] at hf
  show V K (sM g) 1 a [(0, .ref (aM g 0))] 0 []
  refine xv_aload_n C dX6_houseWord_0 rfl 0 rfl ?_
  refine xv_ldc C 676514451 dX6_houseWord_1 (List.mem_of_getElem? (i := 1) rfl) ?_
  refine xv_bipush C 6 dX6_houseWord_3 (by decide) ?_
  obtain ⟨q1, hg, hf⟩ := dt_bind hf
  refine xc_i (xr_V C (ci := 6) (As := [.int 676514451, .int 6]) (fun l => c_X6_isWord g hS l n 676514451 6 a q1 hg) gX6_houseWord_X6_isWord rfl ⟨rfl, rfl⟩ hdV_X6_isWord ⟨Nat.le_of_ble_eq_true rfl, Nat.le_of_ble_eq_true rfl⟩ 0 rfl rfl (wM0 g _) rfl rfl (Nat.le_of_ble_eq_true rfl) dX6_houseWord_5) ?_
  refine xv_if_eq C (y := 0) 15 hf dX6_houseWord_8 (by decide) (fun _ hf => ?_) (fun _ hf => ?_)
  · refine xv_aload_n C dX6_houseWord_15 rfl 0 rfl ?_
    refine xv_ldc C 657967201 dX6_houseWord_16 (List.mem_of_getElem? (i := 2) rfl) ?_
    refine xv_bipush C 6 dX6_houseWord_18 (by decide) ?_
    obtain ⟨q2, hg, hf⟩ := dt_bind hf
    refine xc_i (xr_V C (ci := 6) (As := [.int 657967201, .int 6]) (fun l => c_X6_isWord g hS l n 657967201 6 a q2 hg) gX6_houseWord_X6_isWord rfl ⟨rfl, rfl⟩ hdV_X6_isWord ⟨Nat.le_of_ble_eq_true rfl, Nat.le_of_ble_eq_true rfl⟩ 0 rfl rfl (wM0 g _) rfl rfl (Nat.le_of_ble_eq_true rfl) dX6_houseWord_20) ?_
    refine xv_if_eq C (y := 0) 30 hf dX6_houseWord_23 (by decide) (fun _ hf => ?_) (fun _ hf => ?_)
    · refine xv_aload_n C dX6_houseWord_30 rfl 0 rfl ?_
      refine xv_sipush C 16423 dX6_houseWord_31 (by decide) ?_
      refine xv_iconst C 3 dX6_houseWord_34 (by decide) ?_
      obtain ⟨q3, hg, hf⟩ := dt_bind hf
      refine xc_i (xr_V C (ci := 6) (As := [.int 16423, .int 3]) (fun l => c_X6_isWord g hS l n 16423 3 a q3 hg) gX6_houseWord_X6_isWord rfl ⟨rfl, rfl⟩ hdV_X6_isWord ⟨Nat.le_of_ble_eq_true rfl, Nat.le_of_ble_eq_true rfl⟩ 0 rfl rfl (wM0 g _) rfl rfl (Nat.le_of_ble_eq_true rfl) dX6_houseWord_35) ?_
      refine xv_if_eq C (y := 0) 45 hf dX6_houseWord_38 (by decide) (fun _ hf => ?_) (fun _ hf => ?_)
      · refine xv_aload_n C dX6_houseWord_45 rfl 0 rfl ?_
        refine xv_ldc C 20332020 dX6_houseWord_46 (List.mem_of_getElem? (i := 3) rfl) ?_
        refine xv_iconst C 5 dX6_houseWord_48 (by decide) ?_
        obtain ⟨q4, hg, hf⟩ := dt_bind hf
        refine xc_i (xr_V C (ci := 6) (As := [.int 20332020, .int 5]) (fun l => c_X6_isWord g hS l n 20332020 5 a q4 hg) gX6_houseWord_X6_isWord rfl ⟨rfl, rfl⟩ hdV_X6_isWord ⟨Nat.le_of_ble_eq_true rfl, Nat.le_of_ble_eq_true rfl⟩ 0 rfl rfl (wM0 g _) rfl rfl (Nat.le_of_ble_eq_true rfl) dX6_houseWord_49) ?_
        refine xv_if_eq C (y := 0) 59 hf dX6_houseWord_52 (by decide) (fun _ hf => ?_) (fun _ hf => ?_)
        · refine xv_iconst C (-1) dX6_houseWord_59 (by decide) ?_
          exact xz_ir hret hf dX6_houseWord_60
        · refine xv_iconst C 3 dX6_houseWord_55 (by decide) ?_
          refine xv_goto C 60 dX6_houseWord_56 (by decide) ?_
          exact xz_ir hret hf dX6_houseWord_60
      · refine xv_iconst C 2 dX6_houseWord_41 (by decide) ?_
        refine xv_goto C 60 dX6_houseWord_42 (by decide) ?_
        exact xz_ir hret hf dX6_houseWord_60
    · refine xv_iconst C 1 dX6_houseWord_26 (by decide) ?_
      refine xv_goto C 60 dX6_houseWord_27 (by decide) ?_
      exact xz_ir hret hf dX6_houseWord_60
  · refine xv_iconst C 0 dX6_houseWord_11 (by decide) ?_
    refine xv_goto C 60 dX6_houseWord_12 (by decide) ?_
    exact xz_ir hret hf dX6_houseWord_60
set_option maxRecDepth 100000 in
set_option maxHeartbeats 4000000 in
theorem c_X6_wordOf (g : GM) (hS : xSide (sM g)) (l : Launch) (n : Nat) (a : St) (q : Int32) (hf : f_X6_wordOf n a = some q) : Met l yX6_wordOf wsX6_wordOf rm_X6_wordOf (xPre (sM g) [.ref (aM g 0)] a) (xPostI (sM g) q a) 0 0 (sM g).2.2.1 := by
  refine xm_i (av := [.ref (aM g 0)]) (cc := cX6_wordOf) (maxL := 3) (by decide) rfl (Nat.le_of_ble_eq_true rfl) hS.1 hS.2 (fun K C hret => ?_)
  have C : CC K (sM g) cX6_wordOf 3 wsX6_wordOf RX6 rm_X6_wordOf := C
  rw [f_X6_wordOf] at hf
  show V K (sM g) 3 a [(0, .ref (aM g 0))] 0 []
  refine xv_aload_n C dX6_wordOf_0 rfl 0 rfl ?_
  obtain ⟨q1, hg, hf⟩ := dt_bind hf
  refine xc_i (xr_V C (ci := 6) (As := []) (fun l => c_X6_deedWord g hS l n a q1 hg) gX6_wordOf_X6_deedWord rfl ⟨rfl, rfl⟩ hdV_X6_deedWord ⟨Nat.le_of_ble_eq_true rfl, Nat.le_of_ble_eq_true rfl⟩ 0 rfl rfl (wM0 g _) rfl rfl (Nat.le_of_ble_eq_true rfl) dX6_wordOf_1) ?_
  refine xv_istore_n C [(1, .int q1), (0, .ref (aM g 0))] dX6_wordOf_4 rfl (by decide) rfl ?_
  refine xv_aload_n C dX6_wordOf_5 rfl 1 rfl ?_
  obtain ⟨q2, hg, hf⟩ := dt_bind hf
  refine xc_i (xr_V C (ci := 6) (As := []) (fun l => c_X6_houseWord g hS l n a q2 hg) gX6_wordOf_X6_houseWord rfl ⟨rfl, rfl⟩ hdV_X6_houseWord ⟨Nat.le_of_ble_eq_true rfl, Nat.le_of_ble_eq_true rfl⟩ 0 rfl rfl (wM0 g _) rfl rfl (Nat.le_of_ble_eq_true rfl) dX6_wordOf_6) ?_
  refine xv_istore_n C [(2, .int q2), (1, .int q1), (0, .ref (aM g 0))] dX6_wordOf_9 rfl (by decide) rfl ?_
  refine xv_iload_n C dX6_wordOf_10 rfl 1 rfl ?_
  refine xv_iconst C (-1) dX6_wordOf_11 (by decide) ?_
  refine xv_icmp_eq C 19 hf dX6_wordOf_12 (by decide) (fun _ hf => ?_) (fun _ hf => ?_)
  · refine xv_iload_n C dX6_wordOf_19 rfl 0 rfl ?_
    refine xv_iconst C (-1) dX6_wordOf_20 (by decide) ?_
    refine xv_icmp_eq C 28 hf dX6_wordOf_21 (by decide) (fun _ hf => ?_) (fun _ hf => ?_)
    · refine xv_aload_n C dX6_wordOf_28 rfl 2 rfl ?_
      refine xv_ldc C 628196 dX6_wordOf_29 (List.mem_of_getElem? (i := 1) rfl) ?_
      refine xv_iconst C 4 dX6_wordOf_31 (by decide) ?_
      obtain ⟨q3, hg, hf⟩ := dt_bind hf
      refine xc_i (xr_V C (ci := 6) (As := [.int 628196, .int 4]) (fun l => c_X6_isWord g hS l n 628196 4 a q3 hg) gX6_wordOf_X6_isWord rfl ⟨rfl, rfl⟩ hdV_X6_isWord ⟨Nat.le_of_ble_eq_true rfl, Nat.le_of_ble_eq_true rfl⟩ 0 rfl rfl (wM0 g _) rfl rfl (Nat.le_of_ble_eq_true rfl) dX6_wordOf_32) ?_
      refine xv_if_eq C (y := 0) 43 hf dX6_wordOf_35 (by decide) (fun _ hf => ?_) (fun _ hf => ?_)
      · refine xv_aload_n C dX6_wordOf_43 rfl 2 rfl ?_
        refine xv_ldc C 176265 dX6_wordOf_44 (List.mem_of_getElem? (i := 2) rfl) ?_
        refine xv_iconst C 4 dX6_wordOf_46 (by decide) ?_
        obtain ⟨q4, hg, hf⟩ := dt_bind hf
        refine xc_i (xr_V C (ci := 6) (As := [.int 176265, .int 4]) (fun l => c_X6_isWord g hS l n 176265 4 a q4 hg) gX6_wordOf_X6_isWord rfl ⟨rfl, rfl⟩ hdV_X6_isWord ⟨Nat.le_of_ble_eq_true rfl, Nat.le_of_ble_eq_true rfl⟩ 0 rfl rfl (wM0 g _) rfl rfl (Nat.le_of_ble_eq_true rfl) dX6_wordOf_47) ?_
        refine xv_if_eq C (y := 0) 58 hf dX6_wordOf_50 (by decide) (fun _ hf => ?_) (fun _ hf => ?_)
        · refine xv_aload_n C dX6_wordOf_58 rfl 2 rfl ?_
          refine xv_ldc C 175404 dX6_wordOf_59 (List.mem_of_getElem? (i := 3) rfl) ?_
          refine xv_iconst C 4 dX6_wordOf_61 (by decide) ?_
          obtain ⟨q5, hg, hf⟩ := dt_bind hf
          refine xc_i (xr_V C (ci := 6) (As := [.int 175404, .int 4]) (fun l => c_X6_isWord g hS l n 175404 4 a q5 hg) gX6_wordOf_X6_isWord rfl ⟨rfl, rfl⟩ hdV_X6_isWord ⟨Nat.le_of_ble_eq_true rfl, Nat.le_of_ble_eq_true rfl⟩ 0 rfl rfl (wM0 g _) rfl rfl (Nat.le_of_ble_eq_true rfl) dX6_wordOf_62) ?_
          refine xv_if_eq C (y := 0) 73 hf dX6_wordOf_65 (by decide) (fun _ hf => ?_) (fun _ hf => ?_)
          · refine xv_aload_n C dX6_wordOf_73 rfl 2 rfl ?_
            refine xv_ldc C 143739366 dX6_wordOf_74 (List.mem_of_getElem? (i := 4) rfl) ?_
            refine xv_bipush C 6 dX6_wordOf_76 (by decide) ?_
            obtain ⟨q6, hg, hf⟩ := dt_bind hf
            refine xc_i (xr_V C (ci := 6) (As := [.int 143739366, .int 6]) (fun l => c_X6_isWord g hS l n 143739366 6 a q6 hg) gX6_wordOf_X6_isWord rfl ⟨rfl, rfl⟩ hdV_X6_isWord ⟨Nat.le_of_ble_eq_true rfl, Nat.le_of_ble_eq_true rfl⟩ 0 rfl rfl (wM0 g _) rfl rfl (Nat.le_of_ble_eq_true rfl) dX6_wordOf_78) ?_
            refine xv_if_eq C (y := 0) 89 hf dX6_wordOf_81 (by decide) (fun _ hf => ?_) (fun _ hf => ?_)
            · refine xv_aload_n C dX6_wordOf_89 rfl 2 rfl ?_
              refine xv_ldc C 24621441 dX6_wordOf_90 (List.mem_of_getElem? (i := 5) rfl) ?_
              refine xv_iconst C 5 dX6_wordOf_92 (by decide) ?_
              obtain ⟨q7, hg, hf⟩ := dt_bind hf
              refine xc_i (xr_V C (ci := 6) (As := [.int 24621441, .int 5]) (fun l => c_X6_isWord g hS l n 24621441 5 a q7 hg) gX6_wordOf_X6_isWord rfl ⟨rfl, rfl⟩ hdV_X6_isWord ⟨Nat.le_of_ble_eq_true rfl, Nat.le_of_ble_eq_true rfl⟩ 0 rfl rfl (wM0 g _) rfl rfl (Nat.le_of_ble_eq_true rfl) dX6_wordOf_93) ?_
              refine xv_if_eq C (y := 0) 104 hf dX6_wordOf_96 (by decide) (fun _ hf => ?_) (fun _ hf => ?_)
              · refine xv_iconst C (-1) dX6_wordOf_104 (by decide) ?_
                exact xz_ir hret hf dX6_wordOf_105
              · refine xv_bipush C 12 dX6_wordOf_99 (by decide) ?_
                refine xv_goto C 105 dX6_wordOf_101 (by decide) ?_
                exact xz_ir hret hf dX6_wordOf_105
            · refine xv_bipush C 11 dX6_wordOf_84 (by decide) ?_
              refine xv_goto C 105 dX6_wordOf_86 (by decide) ?_
              exact xz_ir hret hf dX6_wordOf_105
          · refine xv_bipush C 10 dX6_wordOf_68 (by decide) ?_
            refine xv_goto C 105 dX6_wordOf_70 (by decide) ?_
            exact xz_ir hret hf dX6_wordOf_105
        · refine xv_bipush C 9 dX6_wordOf_53 (by decide) ?_
          refine xv_goto C 105 dX6_wordOf_55 (by decide) ?_
          exact xz_ir hret hf dX6_wordOf_105
      · refine xv_bipush C 8 dX6_wordOf_38 (by decide) ?_
        refine xv_goto C 105 dX6_wordOf_40 (by decide) ?_
        exact xz_ir hret hf dX6_wordOf_105
    · refine xv_iload_n C dX6_wordOf_24 rfl 0 rfl ?_
      refine xv_goto C 105 dX6_wordOf_25 (by decide) ?_
      exact xz_ir hret hf dX6_wordOf_105
  · refine xv_iload_n C dX6_wordOf_15 rfl 1 rfl ?_
    refine xv_goto C 105 dX6_wordOf_16 (by decide) ?_
    exact xz_ir hret hf dX6_wordOf_105
set_option maxRecDepth 100000 in
set_option maxHeartbeats 4000000 in
theorem c_X6_isDeedLine (S : SID) (hS : xSide S) (l : Launch) (x0 : Int32) (a : St) (q : Int32) (hf : f_X6_isDeedLine x0 = some q) : Met l yX6_isDeedLine wsX6_isDeedLine rm_X6_isDeedLine (xPre S [.int x0] a) (xPostI S q a) 0 0 S.2.2.1 := by
  refine xm_z (av := [.int x0]) (cc := cX6_isDeedLine) (maxL := 1) (by decide) rfl (Nat.le_of_ble_eq_true rfl) hS.1 hS.2 (fun K C hret => ?_)
  have C : CC K S cX6_isDeedLine 1 wsX6_isDeedLine RX6 rm_X6_isDeedLine := C
  rw [f_X6_isDeedLine] at hf
  show V K S 1 a [(0, .int x0)] 0 []
  refine xv_iload_n C dX6_isDeedLine_0 rfl 0 rfl ?_
  refine xv_i2l C dX6_isDeedLine_1 ?_
  refine xv_ldc2 C 4 dX6_isDeedLine_2 (List.mem_of_getElem? (i := 1) rfl) ?_
  refine xv_ldc2 C 7 dX6_isDeedLine_5 (List.mem_of_getElem? (i := 2) rfl) ?_
  obtain ⟨q1, hg, hf⟩ := dt_bind hf
  refine xc_i (xr_S C (As := [.long x0.toInt64, .long 4, .long 7]) (fun l => c_X6_in S hS l x0.toInt64 4 7 a q1 hg) gX6_isDeedLine_X6_in rfl ⟨rfl, rfl⟩ hdS_X6_in ⟨Nat.le_of_ble_eq_true rfl, Nat.le_of_ble_eq_true rfl⟩ rfl rfl (Nat.le_of_ble_eq_true rfl) dX6_isDeedLine_8) ?_
  exact xz_zgr hret hf dX6_isDeedLine_11
set_option maxRecDepth 100000 in
set_option maxHeartbeats 4000000 in
theorem c_X6_reads (g : GM) (hS : xSide (sM g)) (l : Launch) (n : Nat) (x1 : Int32) (x2 : Int32) (x3 : Int32) (x4 : Int32) (a : St) (q : (Int32 × St)) (hf : f_X6_reads n x1 x2 x3 x4 a = some q) : Met l yX6_reads wsX6_reads rm_X6_reads (xPre (sM g) [.ref (aM g 0), .int x1, .int x2, .int x3, .int x4] a) (xPostI (sM g) q.1 q.2) 0 0 (sM g).2.2.1 := by
  refine xm_z (av := [.ref (aM g 0), .int x1, .int x2, .int x3, .int x4]) (cc := cX6_reads) (maxL := 7) (by decide) rfl (Nat.le_of_ble_eq_true rfl) hS.1 hS.2 (fun K C hret => ?_)
  have C : CC K (sM g) cX6_reads 7 wsX6_reads RX6 rm_X6_reads := C
  have hiX6 : ∀ w ∈ u_ws RX6 TX6 26, w ∈ wsX6_reads := fun w h => List.mem_cons_of_mem _ (List.mem_append_right _ h)
  have hB84 : ∀ (x1 : Int32) (x2 : Int32) (x3 : Int32) (x4 : Int32) (x5 : Int32)  (a : St), B_X6_reads_84 n x1 x2 x3 x4 x5 a = some q → V K (sM g) 7 a [(0, .ref (aM g 0)), (1, .int x1), (2, .int x2), (3, .int x3), (4, .int x4), (5, .int x5)] 84 [] := by
    intro x1 x2 x3 x4 x5 a hf
    rw [B_X6_reads_84] at hf
    refine xv_iload C dX6_reads_84 5 rfl ?_
    refine xv_i2l C dX6_reads_86 ?_
    refine xv_iload_n C dX6_reads_87 rfl 2 rfl ?_
    refine xv_i2l C dX6_reads_88 ?_
    refine xv_iload_n C dX6_reads_89 rfl 3 rfl ?_
    refine xv_i2l C dX6_reads_90 ?_
    obtain ⟨q2, hg, hf⟩ := dt_bind hf
    refine xc_i (xr_S C (As := [.long x5.toInt64, .long x2.toInt64, .long x3.toInt64]) (fun l => c_X6_in (sM g) hS l x5.toInt64 x2.toInt64 x3.toInt64 a q2 hg) gX6_reads_X6_in rfl ⟨rfl, rfl⟩ hdS_X6_in ⟨Nat.le_of_ble_eq_true rfl, Nat.le_of_ble_eq_true rfl⟩ rfl rfl (Nat.le_of_ble_eq_true rfl) dX6_reads_91) ?_
    refine xv_if_eq C (y := 0) 104 hf dX6_reads_94 (by decide) (fun _ hf => ?_) (fun _ hf => ?_)
    · refine xv_iconst C 0 dX6_reads_104 (by decide) ?_
      exact xz_zw hret hf (by decide) dX6_reads_105
    · refine xv_iload C dX6_reads_97 5 rfl ?_
      refine xv_iload C dX6_reads_99 4 rfl ?_
      refine xv_icmp_ne C 106 hf dX6_reads_101 (by decide) (fun _ hf => ?_) (fun _ hf => ?_)
      · refine xv_iconst C 0 dX6_reads_104 (by decide) ?_
        exact xz_zw hret hf (by decide) dX6_reads_105
      · refine xv_aload_n C dX6_reads_106 rfl 0 rfl ?_
        refine xv_get C hiX6 0 (wM0 g _) rfl 4 (by decide) (List.mem_of_getElem? (i := 5) rfl) rfl dX6_reads_107 ?_
        refine xv_iconst C 5 dX6_reads_110 (by decide) ?_
        refine xv_aload_n C dX6_reads_111 rfl 0 rfl ?_
        refine xv_get C hiX6 0 (wM0 g _) rfl 5 (by decide) (List.mem_of_getElem? (i := 6) rfl) rfl dX6_reads_112 ?_
        refine xv_imul C dX6_reads_115 ?_
        refine xv_iconst C 1 dX6_reads_116 (by decide) ?_
        refine xv_iadd C dX6_reads_117 ?_
        refine xv_iload_n C dX6_reads_118 rfl 1 rfl ?_
        refine xv_iadd C dX6_reads_119 ?_
        refine xv_iload C dX6_reads_120 5 rfl ?_
        refine xv_iast C 4 0 (wM4 g _) rfl (up a 4 (((((5 : Int32) * (a 0 5)) + 1) + x1).toNatClampNeg) x5) (pM4 g _ _ _) hf dX6_reads_122 (fun hf => ?_)
        refine xv_aload_n C dX6_reads_123 rfl 0 rfl ?_
        obtain ⟨q3, hg, hf⟩ := dt_bind hf
        refine xc_v (xr_V C (ci := 6) (As := []) (fun l => c_X6_token g hS l n (up a 4 (((((5 : Int32) * (a 0 5)) + 1) + x1).toNatClampNeg) x5) q3 hg) gX6_reads_X6_token rfl ⟨rfl, rfl⟩ hdV_X6_token ⟨Nat.le_of_ble_eq_true rfl, Nat.le_of_ble_eq_true rfl⟩ 0 rfl rfl (wM0 g _) rfl rfl (Nat.le_of_ble_eq_true rfl) dX6_reads_124) ?_
        refine xv_iconst C 1 dX6_reads_127 (by decide) ?_
        exact xz_zw hret hf (by decide) dX6_reads_128
  have hL51 : ∀ (x1 : Int32) (x2 : Int32) (x3 : Int32) (x4 : Int32)  (j : Nat) (x5 : Int32) (x6 : Int32) (a : St), L_X6_reads_51 n x1 x2 x3 x4 j x5 x6 a = some q → V K (sM g) 7 a [(0, .ref (aM g 0)), (1, .int x1), (2, .int x2), (3, .int x3), (4, .int x4), (5, .int x5), (6, .int x6)] 51 [] := by
    intro x1 x2 x3 x4 j
    induction j with
    | zero =>
      intro x5 x6 a hf
      have hf : (none : Option (Int32 × St)) = some q := hf
      cases hf
    | succ j ih =>
      intro x5 x6 a hf
      rw [L_X6_reads_51] at hf
      refine xv_iload C dX6_reads_51 6 rfl ?_
      refine xv_aload_n C dX6_reads_53 rfl 0 rfl ?_
      refine xv_get C hiX6 0 (wM0 g _) rfl 14 (by decide) (List.mem_of_getElem? (i := 4) rfl) rfl dX6_reads_54 ?_
      refine xv_icmp_ge C 84 hf dX6_reads_57 (by decide) (fun _ hf => ?_) (fun _ hf => ?_)
      · refine xv_eq [0, 1, 2, 3, 4, 5] rfl ?_
        exact hB84 x1 x2 x3 x4 x5 a hf
      · refine xv_bipush C 10 dX6_reads_60 (by decide) ?_
        refine xv_iload C dX6_reads_62 5 rfl ?_
        refine xv_imul C dX6_reads_64 ?_
        refine xv_aload_n C dX6_reads_65 rfl 0 rfl ?_
        refine xv_get C hiX6 0 (wM0 g _) rfl 2 (by decide) (List.mem_of_getElem? (i := 3) rfl) rfl dX6_reads_66 ?_
        refine xv_iload C dX6_reads_69 6 rfl ?_
        refine xv_iald C 3 0 (wM3 g _) rfl hf dX6_reads_71 (fun hf => ?_)
        refine xv_iadd C dX6_reads_72 ?_
        refine xv_bipush C 48 dX6_reads_73 (by decide) ?_
        refine xv_isub C dX6_reads_75 ?_
        refine xv_istore C [(5, .int ((((10 : Int32) * x5) + (a 3 x6.toNatClampNeg)) - 48)), (0, .ref (aM g 0)), (1, .int x1), (2, .int x2), (3, .int x3), (4, .int x4), (6, .int x6)] dX6_reads_76 (by decide) rfl ?_
        refine xv_iinc C [(6, .int (x6 + 1)), (5, .int ((((10 : Int32) * x5) + (a 3 x6.toNatClampNeg)) - 48)), (0, .ref (aM g 0)), (1, .int x1), (2, .int x2), (3, .int x3), (4, .int x4)] dX6_reads_78 6 rfl rfl (by decide) rfl ?_
        refine xv_goto C 51 dX6_reads_81 (by decide) ?_
        refine xv_eq [2, 3, 4, 5, 6, 1, 0] rfl ?_
        exact ih ((((10 : Int32) * x5) + (a 3 x6.toNatClampNeg)) - 48) (x6 + 1) a hf
  rw [f_X6_reads] at hf
  show V K (sM g) 7 a [(0, .ref (aM g 0)), (1, .int x1), (2, .int x2), (3, .int x3), (4, .int x4)] 0 []
  refine xv_aload_n C dX6_reads_0 rfl 0 rfl ?_
  refine xv_get C hiX6 0 (wM0 g _) rfl 13 (by decide) (List.mem_of_getElem? (i := 1) rfl) rfl dX6_reads_1 ?_
  refine xv_aload_n C dX6_reads_4 rfl 0 rfl ?_
  refine xv_get C hiX6 0 (wM0 g _) rfl 3 (by decide) (List.mem_of_getElem? (i := 2) rfl) rfl dX6_reads_5 ?_
  refine xv_icmp_eq C 40 hf dX6_reads_8 (by decide) (fun _ hf => ?_) (fun _ hf => ?_)
  · refine xv_iconst C 0 dX6_reads_40 (by decide) ?_
    exact xz_zw hret hf (by decide) dX6_reads_41
  · refine xv_aload_n C dX6_reads_11 rfl 0 rfl ?_
    refine xv_get C hiX6 0 (wM0 g _) rfl 2 (by decide) (List.mem_of_getElem? (i := 3) rfl) rfl dX6_reads_12 ?_
    refine xv_aload_n C dX6_reads_15 rfl 0 rfl ?_
    refine xv_get C hiX6 0 (wM0 g _) rfl 13 (by decide) (List.mem_of_getElem? (i := 1) rfl) rfl dX6_reads_16 ?_
    refine xv_iald C 3 0 (wM3 g _) rfl hf dX6_reads_19 (fun hf => ?_)
    obtain ⟨q1, hg, hf⟩ := dt_bind hf
    refine xc_i (xr_S C (As := [.int (a 3 ((a 0 13).toNatClampNeg))]) (fun l => c_X6_sort (sM g) hS l (a 3 ((a 0 13).toNatClampNeg)) a q1 hg) gX6_reads_X6_sort rfl ⟨rfl, rfl⟩ hdS_X6_sort ⟨Nat.le_of_ble_eq_true rfl, Nat.le_of_ble_eq_true rfl⟩ rfl rfl (Nat.le_of_ble_eq_true rfl) dX6_reads_20) ?_
    refine xv_iconst C 2 dX6_reads_23 (by decide) ?_
    refine xv_icmp_ne C 40 hf dX6_reads_24 (by decide) (fun _ hf => ?_) (fun _ hf => ?_)
    · refine xv_aload_n C dX6_reads_27 rfl 0 rfl ?_
      refine xv_get C hiX6 0 (wM0 g _) rfl 14 (by decide) (List.mem_of_getElem? (i := 4) rfl) rfl dX6_reads_28 ?_
      refine xv_aload_n C dX6_reads_31 rfl 0 rfl ?_
      refine xv_get C hiX6 0 (wM0 g _) rfl 13 (by decide) (List.mem_of_getElem? (i := 1) rfl) rfl dX6_reads_32 ?_
      refine xv_isub C dX6_reads_35 ?_
      refine xv_iconst C 2 dX6_reads_36 (by decide) ?_
      refine xv_icmp_le C 42 hf dX6_reads_37 (by decide) (fun _ hf => ?_) (fun _ hf => ?_)
      · refine xv_iconst C 0 dX6_reads_42 (by decide) ?_
        refine xv_istore C [(5, .int 0), (0, .ref (aM g 0)), (1, .int x1), (2, .int x2), (3, .int x3), (4, .int x4)] dX6_reads_43 (by decide) rfl ?_
        refine xv_aload_n C dX6_reads_45 rfl 1 rfl ?_
        refine xv_get C hiX6 0 (wM0 g _) rfl 13 (by decide) (List.mem_of_getElem? (i := 1) rfl) rfl dX6_reads_46 ?_
        refine xv_istore C [(6, .int (a 0 13)), (5, .int 0), (0, .ref (aM g 0)), (1, .int x1), (2, .int x2), (3, .int x3), (4, .int x4)] dX6_reads_49 (by decide) rfl ?_
        refine xv_eq [2, 3, 4, 5, 6, 1, 0] rfl ?_
        exact hL51 x1 x2 x3 x4 n 0 (a 0 13) a hf
      · refine xv_iconst C 0 dX6_reads_40 (by decide) ?_
        exact xz_zw hret hf (by decide) dX6_reads_41
    · refine xv_iconst C 0 dX6_reads_40 (by decide) ?_
      exact xz_zw hret hf (by decide) dX6_reads_41
set_option maxRecDepth 100000 in
set_option maxHeartbeats 4000000 in
theorem c_X6_readsRest (g : GM) (hS : xSide (sM g)) (l : Launch) (n : Nat) (x1 : Int32) (a : St) (q : (Int32 × St)) (hf : f_X6_readsRest n x1 a = some q) : Met l yX6_readsRest wsX6_readsRest rm_X6_readsRest (xPre (sM g) [.ref (aM g 0), .int x1] a) (xPostI (sM g) q.1 q.2) 0 0 (sM g).2.2.1 := by
  refine xm_z (av := [.ref (aM g 0), .int x1]) (cc := cX6_readsRest) (maxL := 4) (by decide) rfl (Nat.le_of_ble_eq_true rfl) hS.1 hS.2 (fun K C hret => ?_)
  have C : CC K (sM g) cX6_readsRest 4 wsX6_readsRest RX6 rm_X6_readsRest := C
  have hiX6 : ∀ w ∈ u_ws RX6 TX6 26, w ∈ wsX6_readsRest := fun w h => List.mem_cons_of_mem _ (List.mem_append_right _ h)
  rw [f_X6_readsRest] at hf
  show V K (sM g) 4 a [(0, .ref (aM g 0)), (1, .int x1)] 0 []
  refine xv_aload_n C dX6_readsRest_0 rfl 0 rfl ?_
  refine xv_get C hiX6 0 (wM0 g _) rfl 15 (by decide) (List.mem_of_getElem? (i := 1) rfl) rfl dX6_readsRest_1 ?_
  refine xv_iconst C 1 dX6_readsRest_4 (by decide) ?_
  refine xv_isub C dX6_readsRest_5 ?_
  refine xv_istore_n C [(2, .int ((a 0 15) - 1)), (0, .ref (aM g 0)), (1, .int x1)] dX6_readsRest_6 rfl (by decide) rfl ?_
  refine xv_aload_n C dX6_readsRest_7 rfl 1 rfl ?_
  refine xv_get C hiX6 0 (wM0 g _) rfl 16 (by decide) (List.mem_of_getElem? (i := 2) rfl) rfl dX6_readsRest_8 ?_
  refine xv_iconst C 1 dX6_readsRest_11 (by decide) ?_
  refine xv_isub C dX6_readsRest_12 ?_
  refine xv_istore_n C [(3, .int ((a 0 16) - 1)), (2, .int ((a 0 15) - 1)), (0, .ref (aM g 0)), (1, .int x1)] dX6_readsRest_13 rfl (by decide) rfl ?_
  refine xv_iload_n C dX6_readsRest_14 rfl 3 rfl ?_
  by_cases hs0 : x1 = 0
  · have hf := dt_pos hs0 hf
    refine xv_tin C (off := 65) 80 hs0 dX6_readsRest_15 (by decide) (by decide) (by decide) (by decide) ?_
    refine xv_aload_n C dX6_readsRest_80 rfl 2 rfl ?_
    refine xv_iconst C 0 dX6_readsRest_81 (by decide) ?_
    refine xv_iconst C 2 dX6_readsRest_82 (by decide) ?_
    refine xv_bipush C 8 dX6_readsRest_83 (by decide) ?_
    refine xv_iconst C (-1) dX6_readsRest_85 (by decide) ?_
    obtain ⟨q1, hg, hf⟩ := dt_bind hf
    refine xc_i (xr_V C (ci := 6) (As := [.int 0, .int 2, .int 8, .int (-1)]) (fun l => c_X6_reads g hS l n 0 2 8 (-1) a q1 hg) gX6_readsRest_X6_reads rfl ⟨rfl, rfl⟩ hdV_X6_reads ⟨Nat.le_of_ble_eq_true rfl, Nat.le_of_ble_eq_true rfl⟩ 0 rfl rfl (wM0 g _) rfl rfl (Nat.le_of_ble_eq_true rfl) dX6_readsRest_86) ?_
    exact xz_zgw hret hf dX6_readsRest_89
  have hf := dt_neg hs0 hf
  by_cases hs1 : x1 = 1
  · have hf := dt_pos hs1 hf
    refine xv_tin C (off := 75) 90 hs1 dX6_readsRest_15 (by decide) (by decide) (by decide) (by decide) ?_
    refine xv_aload_n C dX6_readsRest_90 rfl 2 rfl ?_
    refine xv_iconst C 0 dX6_readsRest_91 (by decide) ?_
    refine xv_iconst C 0 dX6_readsRest_92 (by decide) ?_
    refine xv_iload_n C dX6_readsRest_93 rfl 1 rfl ?_
    refine xv_iconst C (-1) dX6_readsRest_94 (by decide) ?_
    obtain ⟨q2, hg, hf⟩ := dt_bind hf
    refine xc_i (xr_V C (ci := 6) (As := [.int 0, .int 0, .int ((a 0 15) - 1), .int (-1)]) (fun l => c_X6_reads g hS l n 0 0 ((a 0 15) - 1) (-1) a q2 hg) gX6_readsRest_X6_reads rfl ⟨rfl, rfl⟩ hdV_X6_reads ⟨Nat.le_of_ble_eq_true rfl, Nat.le_of_ble_eq_true rfl⟩ 0 rfl rfl (wM0 g _) rfl rfl (Nat.le_of_ble_eq_true rfl) dX6_readsRest_95) ?_
    refine xv_if_eq C (y := 0) 116 hf dX6_readsRest_98 (by decide) (fun _ hf => ?_) (fun _ hf => ?_)
    · refine xv_iconst C 0 dX6_readsRest_116 (by decide) ?_
      exact xz_zw hret hf (by decide) dX6_readsRest_117
    · refine xv_aload_n C dX6_readsRest_101 rfl 2 rfl ?_
      refine xv_iconst C 1 dX6_readsRest_102 (by decide) ?_
      refine xv_iconst C 0 dX6_readsRest_103 (by decide) ?_
      refine xv_iload_n C dX6_readsRest_104 rfl 1 rfl ?_
      refine xv_iconst C (-1) dX6_readsRest_105 (by decide) ?_
      obtain ⟨q3, hg, hf⟩ := dt_bind hf
      refine xc_i (xr_V C (ci := 6) (As := [.int 1, .int 0, .int ((a 0 15) - 1), .int (-1)]) (fun l => c_X6_reads g hS l n 1 0 ((a 0 15) - 1) (-1) q2.2 q3 hg) gX6_readsRest_X6_reads rfl ⟨rfl, rfl⟩ hdV_X6_reads ⟨Nat.le_of_ble_eq_true rfl, Nat.le_of_ble_eq_true rfl⟩ 0 rfl rfl (wM0 g _) rfl rfl (Nat.le_of_ble_eq_true rfl) dX6_readsRest_106) ?_
      refine xv_if_eq C (y := 0) 116 hf dX6_readsRest_109 (by decide) (fun _ hf => ?_) (fun _ hf => ?_)
      · refine xv_iconst C 0 dX6_readsRest_116 (by decide) ?_
        exact xz_zw hret hf (by decide) dX6_readsRest_117
      · refine xv_iconst C 1 dX6_readsRest_112 (by decide) ?_
        refine xv_goto C 117 dX6_readsRest_113 (by decide) ?_
        exact xz_zw hret hf (by decide) dX6_readsRest_117
  have hf := dt_neg hs1 hf
  by_cases hs2 : x1 = 2
  · have hf := dt_pos hs2 hf
    refine xv_tin C (off := 103) 118 hs2 dX6_readsRest_15 (by decide) (by decide) (by decide) (by decide) ?_
    refine xv_aload_n C dX6_readsRest_118 rfl 2 rfl ?_
    refine xv_iconst C 0 dX6_readsRest_119 (by decide) ?_
    refine xv_iconst C 0 dX6_readsRest_120 (by decide) ?_
    refine xv_iload_n C dX6_readsRest_121 rfl 1 rfl ?_
    refine xv_iconst C (-1) dX6_readsRest_122 (by decide) ?_
    obtain ⟨q4, hg, hf⟩ := dt_bind hf
    refine xc_i (xr_V C (ci := 6) (As := [.int 0, .int 0, .int ((a 0 15) - 1), .int (-1)]) (fun l => c_X6_reads g hS l n 0 0 ((a 0 15) - 1) (-1) a q4 hg) gX6_readsRest_X6_reads rfl ⟨rfl, rfl⟩ hdV_X6_reads ⟨Nat.le_of_ble_eq_true rfl, Nat.le_of_ble_eq_true rfl⟩ 0 rfl rfl (wM0 g _) rfl rfl (Nat.le_of_ble_eq_true rfl) dX6_readsRest_123) ?_
    exact xz_zgw hret hf dX6_readsRest_126
  have hf := dt_neg hs2 hf
  by_cases hs3 : x1 = 3
  · have hf := dt_pos hs3 hf
    refine xv_tin C (off := 112) 127 hs3 dX6_readsRest_15 (by decide) (by decide) (by decide) (by decide) ?_
    refine xv_aload_n C dX6_readsRest_127 rfl 2 rfl ?_
    refine xv_iconst C 0 dX6_readsRest_128 (by decide) ?_
    refine xv_iconst C 0 dX6_readsRest_129 (by decide) ?_
    refine xv_iload_n C dX6_readsRest_130 rfl 1 rfl ?_
    refine xv_iconst C (-1) dX6_readsRest_131 (by decide) ?_
    obtain ⟨q5, hg, hf⟩ := dt_bind hf
    refine xc_i (xr_V C (ci := 6) (As := [.int 0, .int 0, .int ((a 0 15) - 1), .int (-1)]) (fun l => c_X6_reads g hS l n 0 0 ((a 0 15) - 1) (-1) a q5 hg) gX6_readsRest_X6_reads rfl ⟨rfl, rfl⟩ hdV_X6_reads ⟨Nat.le_of_ble_eq_true rfl, Nat.le_of_ble_eq_true rfl⟩ 0 rfl rfl (wM0 g _) rfl rfl (Nat.le_of_ble_eq_true rfl) dX6_readsRest_132) ?_
    refine xv_if_eq C (y := 0) 154 hf dX6_readsRest_135 (by decide) (fun _ hf => ?_) (fun _ hf => ?_)
    · refine xv_iconst C 0 dX6_readsRest_154 (by decide) ?_
      exact xz_zw hret hf (by decide) dX6_readsRest_155
    · refine xv_aload_n C dX6_readsRest_138 rfl 2 rfl ?_
      refine xv_iconst C 1 dX6_readsRest_139 (by decide) ?_
      refine xv_iconst C 0 dX6_readsRest_140 (by decide) ?_
      refine xv_bipush C 15 dX6_readsRest_141 (by decide) ?_
      refine xv_iconst C (-1) dX6_readsRest_143 (by decide) ?_
      obtain ⟨q6, hg, hf⟩ := dt_bind hf
      refine xc_i (xr_V C (ci := 6) (As := [.int 1, .int 0, .int 15, .int (-1)]) (fun l => c_X6_reads g hS l n 1 0 15 (-1) q5.2 q6 hg) gX6_readsRest_X6_reads rfl ⟨rfl, rfl⟩ hdV_X6_reads ⟨Nat.le_of_ble_eq_true rfl, Nat.le_of_ble_eq_true rfl⟩ 0 rfl rfl (wM0 g _) rfl rfl (Nat.le_of_ble_eq_true rfl) dX6_readsRest_144) ?_
      refine xv_if_eq C (y := 0) 154 hf dX6_readsRest_147 (by decide) (fun _ hf => ?_) (fun _ hf => ?_)
      · refine xv_iconst C 0 dX6_readsRest_154 (by decide) ?_
        exact xz_zw hret hf (by decide) dX6_readsRest_155
      · refine xv_iconst C 1 dX6_readsRest_150 (by decide) ?_
        refine xv_goto C 155 dX6_readsRest_151 (by decide) ?_
        exact xz_zw hret hf (by decide) dX6_readsRest_155
  have hf := dt_neg hs3 hf
  by_cases hs4 : x1 = 4
  · have hf := dt_pos hs4 hf
    refine xv_tin C (off := 230) 245 hs4 dX6_readsRest_15 (by decide) (by decide) (by decide) (by decide) ?_
    refine xv_aload_n C dX6_readsRest_245 rfl 2 rfl ?_
    refine xv_iconst C 0 dX6_readsRest_246 (by decide) ?_
    refine xv_iconst C 0 dX6_readsRest_247 (by decide) ?_
    refine xv_bipush C 15 dX6_readsRest_248 (by decide) ?_
    refine xv_iconst C (-1) dX6_readsRest_250 (by decide) ?_
    obtain ⟨q7, hg, hf⟩ := dt_bind hf
    refine xc_i (xr_V C (ci := 6) (As := [.int 0, .int 0, .int 15, .int (-1)]) (fun l => c_X6_reads g hS l n 0 0 15 (-1) a q7 hg) gX6_readsRest_X6_reads rfl ⟨rfl, rfl⟩ hdV_X6_reads ⟨Nat.le_of_ble_eq_true rfl, Nat.le_of_ble_eq_true rfl⟩ 0 rfl rfl (wM0 g _) rfl rfl (Nat.le_of_ble_eq_true rfl) dX6_readsRest_251) ?_
    refine xv_if_eq C (y := 0) 296 hf dX6_readsRest_254 (by decide) (fun _ hf => ?_) (fun _ hf => ?_)
    · refine xv_iconst C 0 dX6_readsRest_296 (by decide) ?_
      exact xz_zw hret hf (by decide) dX6_readsRest_297
    · refine xv_aload_n C dX6_readsRest_257 rfl 2 rfl ?_
      refine xv_iconst C 1 dX6_readsRest_258 (by decide) ?_
      refine xv_iconst C 0 dX6_readsRest_259 (by decide) ?_
      refine xv_iload_n C dX6_readsRest_260 rfl 1 rfl ?_
      refine xv_iconst C (-1) dX6_readsRest_261 (by decide) ?_
      obtain ⟨q8, hg, hf⟩ := dt_bind hf
      refine xc_i (xr_V C (ci := 6) (As := [.int 1, .int 0, .int ((a 0 15) - 1), .int (-1)]) (fun l => c_X6_reads g hS l n 1 0 ((a 0 15) - 1) (-1) q7.2 q8 hg) gX6_readsRest_X6_reads rfl ⟨rfl, rfl⟩ hdV_X6_reads ⟨Nat.le_of_ble_eq_true rfl, Nat.le_of_ble_eq_true rfl⟩ 0 rfl rfl (wM0 g _) rfl rfl (Nat.le_of_ble_eq_true rfl) dX6_readsRest_262) ?_
      refine xv_if_eq C (y := 0) 296 hf dX6_readsRest_265 (by decide) (fun _ hf => ?_) (fun _ hf => ?_)
      · refine xv_iconst C 0 dX6_readsRest_296 (by decide) ?_
        exact xz_zw hret hf (by decide) dX6_readsRest_297
      · refine xv_aload_n C dX6_readsRest_268 rfl 2 rfl ?_
        refine xv_iconst C 2 dX6_readsRest_269 (by decide) ?_
        refine xv_iconst C 0 dX6_readsRest_270 (by decide) ?_
        refine xv_bipush C 9 dX6_readsRest_271 (by decide) ?_
        refine xv_iconst C (-1) dX6_readsRest_273 (by decide) ?_
        obtain ⟨q9, hg, hf⟩ := dt_bind hf
        refine xc_i (xr_V C (ci := 6) (As := [.int 2, .int 0, .int 9, .int (-1)]) (fun l => c_X6_reads g hS l n 2 0 9 (-1) q8.2 q9 hg) gX6_readsRest_X6_reads rfl ⟨rfl, rfl⟩ hdV_X6_reads ⟨Nat.le_of_ble_eq_true rfl, Nat.le_of_ble_eq_true rfl⟩ 0 rfl rfl (wM0 g _) rfl rfl (Nat.le_of_ble_eq_true rfl) dX6_readsRest_274) ?_
        refine xv_if_eq C (y := 0) 296 hf dX6_readsRest_277 (by decide) (fun _ hf => ?_) (fun _ hf => ?_)
        · refine xv_iconst C 0 dX6_readsRest_296 (by decide) ?_
          exact xz_zw hret hf (by decide) dX6_readsRest_297
        · refine xv_aload_n C dX6_readsRest_280 rfl 2 rfl ?_
          refine xv_iconst C 3 dX6_readsRest_281 (by decide) ?_
          refine xv_iconst C 0 dX6_readsRest_282 (by decide) ?_
          refine xv_bipush C 9 dX6_readsRest_283 (by decide) ?_
          refine xv_iconst C (-1) dX6_readsRest_285 (by decide) ?_
          obtain ⟨q10, hg, hf⟩ := dt_bind hf
          refine xc_i (xr_V C (ci := 6) (As := [.int 3, .int 0, .int 9, .int (-1)]) (fun l => c_X6_reads g hS l n 3 0 9 (-1) q9.2 q10 hg) gX6_readsRest_X6_reads rfl ⟨rfl, rfl⟩ hdV_X6_reads ⟨Nat.le_of_ble_eq_true rfl, Nat.le_of_ble_eq_true rfl⟩ 0 rfl rfl (wM0 g _) rfl rfl (Nat.le_of_ble_eq_true rfl) dX6_readsRest_286) ?_
          refine xv_if_eq C (y := 0) 296 hf dX6_readsRest_289 (by decide) (fun _ hf => ?_) (fun _ hf => ?_)
          · refine xv_iconst C 0 dX6_readsRest_296 (by decide) ?_
            exact xz_zw hret hf (by decide) dX6_readsRest_297
          · refine xv_iconst C 1 dX6_readsRest_292 (by decide) ?_
            refine xv_goto C 297 dX6_readsRest_293 (by decide) ?_
            exact xz_zw hret hf (by decide) dX6_readsRest_297
  have hf := dt_neg hs4 hf
  by_cases hs5 : x1 = 5
  · have hf := dt_pos hs5 hf
    refine xv_tin C (off := 230) 245 hs5 dX6_readsRest_15 (by decide) (by decide) (by decide) (by decide) ?_
    refine xv_aload_n C dX6_readsRest_245 rfl 2 rfl ?_
    refine xv_iconst C 0 dX6_readsRest_246 (by decide) ?_
    refine xv_iconst C 0 dX6_readsRest_247 (by decide) ?_
    refine xv_bipush C 15 dX6_readsRest_248 (by decide) ?_
    refine xv_iconst C (-1) dX6_readsRest_250 (by decide) ?_
    obtain ⟨q11, hg, hf⟩ := dt_bind hf
    refine xc_i (xr_V C (ci := 6) (As := [.int 0, .int 0, .int 15, .int (-1)]) (fun l => c_X6_reads g hS l n 0 0 15 (-1) a q11 hg) gX6_readsRest_X6_reads rfl ⟨rfl, rfl⟩ hdV_X6_reads ⟨Nat.le_of_ble_eq_true rfl, Nat.le_of_ble_eq_true rfl⟩ 0 rfl rfl (wM0 g _) rfl rfl (Nat.le_of_ble_eq_true rfl) dX6_readsRest_251) ?_
    refine xv_if_eq C (y := 0) 296 hf dX6_readsRest_254 (by decide) (fun _ hf => ?_) (fun _ hf => ?_)
    · refine xv_iconst C 0 dX6_readsRest_296 (by decide) ?_
      exact xz_zw hret hf (by decide) dX6_readsRest_297
    · refine xv_aload_n C dX6_readsRest_257 rfl 2 rfl ?_
      refine xv_iconst C 1 dX6_readsRest_258 (by decide) ?_
      refine xv_iconst C 0 dX6_readsRest_259 (by decide) ?_
      refine xv_iload_n C dX6_readsRest_260 rfl 1 rfl ?_
      refine xv_iconst C (-1) dX6_readsRest_261 (by decide) ?_
      obtain ⟨q12, hg, hf⟩ := dt_bind hf
      refine xc_i (xr_V C (ci := 6) (As := [.int 1, .int 0, .int ((a 0 15) - 1), .int (-1)]) (fun l => c_X6_reads g hS l n 1 0 ((a 0 15) - 1) (-1) q11.2 q12 hg) gX6_readsRest_X6_reads rfl ⟨rfl, rfl⟩ hdV_X6_reads ⟨Nat.le_of_ble_eq_true rfl, Nat.le_of_ble_eq_true rfl⟩ 0 rfl rfl (wM0 g _) rfl rfl (Nat.le_of_ble_eq_true rfl) dX6_readsRest_262) ?_
      refine xv_if_eq C (y := 0) 296 hf dX6_readsRest_265 (by decide) (fun _ hf => ?_) (fun _ hf => ?_)
      · refine xv_iconst C 0 dX6_readsRest_296 (by decide) ?_
        exact xz_zw hret hf (by decide) dX6_readsRest_297
      · refine xv_aload_n C dX6_readsRest_268 rfl 2 rfl ?_
        refine xv_iconst C 2 dX6_readsRest_269 (by decide) ?_
        refine xv_iconst C 0 dX6_readsRest_270 (by decide) ?_
        refine xv_bipush C 9 dX6_readsRest_271 (by decide) ?_
        refine xv_iconst C (-1) dX6_readsRest_273 (by decide) ?_
        obtain ⟨q13, hg, hf⟩ := dt_bind hf
        refine xc_i (xr_V C (ci := 6) (As := [.int 2, .int 0, .int 9, .int (-1)]) (fun l => c_X6_reads g hS l n 2 0 9 (-1) q12.2 q13 hg) gX6_readsRest_X6_reads rfl ⟨rfl, rfl⟩ hdV_X6_reads ⟨Nat.le_of_ble_eq_true rfl, Nat.le_of_ble_eq_true rfl⟩ 0 rfl rfl (wM0 g _) rfl rfl (Nat.le_of_ble_eq_true rfl) dX6_readsRest_274) ?_
        refine xv_if_eq C (y := 0) 296 hf dX6_readsRest_277 (by decide) (fun _ hf => ?_) (fun _ hf => ?_)
        · refine xv_iconst C 0 dX6_readsRest_296 (by decide) ?_
          exact xz_zw hret hf (by decide) dX6_readsRest_297
        · refine xv_aload_n C dX6_readsRest_280 rfl 2 rfl ?_
          refine xv_iconst C 3 dX6_readsRest_281 (by decide) ?_
          refine xv_iconst C 0 dX6_readsRest_282 (by decide) ?_
          refine xv_bipush C 9 dX6_readsRest_283 (by decide) ?_
          refine xv_iconst C (-1) dX6_readsRest_285 (by decide) ?_
          obtain ⟨q14, hg, hf⟩ := dt_bind hf
          refine xc_i (xr_V C (ci := 6) (As := [.int 3, .int 0, .int 9, .int (-1)]) (fun l => c_X6_reads g hS l n 3 0 9 (-1) q13.2 q14 hg) gX6_readsRest_X6_reads rfl ⟨rfl, rfl⟩ hdV_X6_reads ⟨Nat.le_of_ble_eq_true rfl, Nat.le_of_ble_eq_true rfl⟩ 0 rfl rfl (wM0 g _) rfl rfl (Nat.le_of_ble_eq_true rfl) dX6_readsRest_286) ?_
          refine xv_if_eq C (y := 0) 296 hf dX6_readsRest_289 (by decide) (fun _ hf => ?_) (fun _ hf => ?_)
          · refine xv_iconst C 0 dX6_readsRest_296 (by decide) ?_
            exact xz_zw hret hf (by decide) dX6_readsRest_297
          · refine xv_iconst C 1 dX6_readsRest_292 (by decide) ?_
            refine xv_goto C 297 dX6_readsRest_293 (by decide) ?_
            exact xz_zw hret hf (by decide) dX6_readsRest_297
  have hf := dt_neg hs5 hf
  by_cases hs6 : x1 = 6
  · have hf := dt_pos hs6 hf
    refine xv_tin C (off := 230) 245 hs6 dX6_readsRest_15 (by decide) (by decide) (by decide) (by decide) ?_
    refine xv_aload_n C dX6_readsRest_245 rfl 2 rfl ?_
    refine xv_iconst C 0 dX6_readsRest_246 (by decide) ?_
    refine xv_iconst C 0 dX6_readsRest_247 (by decide) ?_
    refine xv_bipush C 15 dX6_readsRest_248 (by decide) ?_
    refine xv_iconst C (-1) dX6_readsRest_250 (by decide) ?_
    obtain ⟨q15, hg, hf⟩ := dt_bind hf
    refine xc_i (xr_V C (ci := 6) (As := [.int 0, .int 0, .int 15, .int (-1)]) (fun l => c_X6_reads g hS l n 0 0 15 (-1) a q15 hg) gX6_readsRest_X6_reads rfl ⟨rfl, rfl⟩ hdV_X6_reads ⟨Nat.le_of_ble_eq_true rfl, Nat.le_of_ble_eq_true rfl⟩ 0 rfl rfl (wM0 g _) rfl rfl (Nat.le_of_ble_eq_true rfl) dX6_readsRest_251) ?_
    refine xv_if_eq C (y := 0) 296 hf dX6_readsRest_254 (by decide) (fun _ hf => ?_) (fun _ hf => ?_)
    · refine xv_iconst C 0 dX6_readsRest_296 (by decide) ?_
      exact xz_zw hret hf (by decide) dX6_readsRest_297
    · refine xv_aload_n C dX6_readsRest_257 rfl 2 rfl ?_
      refine xv_iconst C 1 dX6_readsRest_258 (by decide) ?_
      refine xv_iconst C 0 dX6_readsRest_259 (by decide) ?_
      refine xv_iload_n C dX6_readsRest_260 rfl 1 rfl ?_
      refine xv_iconst C (-1) dX6_readsRest_261 (by decide) ?_
      obtain ⟨q16, hg, hf⟩ := dt_bind hf
      refine xc_i (xr_V C (ci := 6) (As := [.int 1, .int 0, .int ((a 0 15) - 1), .int (-1)]) (fun l => c_X6_reads g hS l n 1 0 ((a 0 15) - 1) (-1) q15.2 q16 hg) gX6_readsRest_X6_reads rfl ⟨rfl, rfl⟩ hdV_X6_reads ⟨Nat.le_of_ble_eq_true rfl, Nat.le_of_ble_eq_true rfl⟩ 0 rfl rfl (wM0 g _) rfl rfl (Nat.le_of_ble_eq_true rfl) dX6_readsRest_262) ?_
      refine xv_if_eq C (y := 0) 296 hf dX6_readsRest_265 (by decide) (fun _ hf => ?_) (fun _ hf => ?_)
      · refine xv_iconst C 0 dX6_readsRest_296 (by decide) ?_
        exact xz_zw hret hf (by decide) dX6_readsRest_297
      · refine xv_aload_n C dX6_readsRest_268 rfl 2 rfl ?_
        refine xv_iconst C 2 dX6_readsRest_269 (by decide) ?_
        refine xv_iconst C 0 dX6_readsRest_270 (by decide) ?_
        refine xv_bipush C 9 dX6_readsRest_271 (by decide) ?_
        refine xv_iconst C (-1) dX6_readsRest_273 (by decide) ?_
        obtain ⟨q17, hg, hf⟩ := dt_bind hf
        refine xc_i (xr_V C (ci := 6) (As := [.int 2, .int 0, .int 9, .int (-1)]) (fun l => c_X6_reads g hS l n 2 0 9 (-1) q16.2 q17 hg) gX6_readsRest_X6_reads rfl ⟨rfl, rfl⟩ hdV_X6_reads ⟨Nat.le_of_ble_eq_true rfl, Nat.le_of_ble_eq_true rfl⟩ 0 rfl rfl (wM0 g _) rfl rfl (Nat.le_of_ble_eq_true rfl) dX6_readsRest_274) ?_
        refine xv_if_eq C (y := 0) 296 hf dX6_readsRest_277 (by decide) (fun _ hf => ?_) (fun _ hf => ?_)
        · refine xv_iconst C 0 dX6_readsRest_296 (by decide) ?_
          exact xz_zw hret hf (by decide) dX6_readsRest_297
        · refine xv_aload_n C dX6_readsRest_280 rfl 2 rfl ?_
          refine xv_iconst C 3 dX6_readsRest_281 (by decide) ?_
          refine xv_iconst C 0 dX6_readsRest_282 (by decide) ?_
          refine xv_bipush C 9 dX6_readsRest_283 (by decide) ?_
          refine xv_iconst C (-1) dX6_readsRest_285 (by decide) ?_
          obtain ⟨q18, hg, hf⟩ := dt_bind hf
          refine xc_i (xr_V C (ci := 6) (As := [.int 3, .int 0, .int 9, .int (-1)]) (fun l => c_X6_reads g hS l n 3 0 9 (-1) q17.2 q18 hg) gX6_readsRest_X6_reads rfl ⟨rfl, rfl⟩ hdV_X6_reads ⟨Nat.le_of_ble_eq_true rfl, Nat.le_of_ble_eq_true rfl⟩ 0 rfl rfl (wM0 g _) rfl rfl (Nat.le_of_ble_eq_true rfl) dX6_readsRest_286) ?_
          refine xv_if_eq C (y := 0) 296 hf dX6_readsRest_289 (by decide) (fun _ hf => ?_) (fun _ hf => ?_)
          · refine xv_iconst C 0 dX6_readsRest_296 (by decide) ?_
            exact xz_zw hret hf (by decide) dX6_readsRest_297
          · refine xv_iconst C 1 dX6_readsRest_292 (by decide) ?_
            refine xv_goto C 297 dX6_readsRest_293 (by decide) ?_
            exact xz_zw hret hf (by decide) dX6_readsRest_297
  have hf := dt_neg hs6 hf
  by_cases hs7 : x1 = 7
  · have hf := dt_pos hs7 hf
    refine xv_tin C (off := 230) 245 hs7 dX6_readsRest_15 (by decide) (by decide) (by decide) (by decide) ?_
    refine xv_aload_n C dX6_readsRest_245 rfl 2 rfl ?_
    refine xv_iconst C 0 dX6_readsRest_246 (by decide) ?_
    refine xv_iconst C 0 dX6_readsRest_247 (by decide) ?_
    refine xv_bipush C 15 dX6_readsRest_248 (by decide) ?_
    refine xv_iconst C (-1) dX6_readsRest_250 (by decide) ?_
    obtain ⟨q19, hg, hf⟩ := dt_bind hf
    refine xc_i (xr_V C (ci := 6) (As := [.int 0, .int 0, .int 15, .int (-1)]) (fun l => c_X6_reads g hS l n 0 0 15 (-1) a q19 hg) gX6_readsRest_X6_reads rfl ⟨rfl, rfl⟩ hdV_X6_reads ⟨Nat.le_of_ble_eq_true rfl, Nat.le_of_ble_eq_true rfl⟩ 0 rfl rfl (wM0 g _) rfl rfl (Nat.le_of_ble_eq_true rfl) dX6_readsRest_251) ?_
    refine xv_if_eq C (y := 0) 296 hf dX6_readsRest_254 (by decide) (fun _ hf => ?_) (fun _ hf => ?_)
    · refine xv_iconst C 0 dX6_readsRest_296 (by decide) ?_
      exact xz_zw hret hf (by decide) dX6_readsRest_297
    · refine xv_aload_n C dX6_readsRest_257 rfl 2 rfl ?_
      refine xv_iconst C 1 dX6_readsRest_258 (by decide) ?_
      refine xv_iconst C 0 dX6_readsRest_259 (by decide) ?_
      refine xv_iload_n C dX6_readsRest_260 rfl 1 rfl ?_
      refine xv_iconst C (-1) dX6_readsRest_261 (by decide) ?_
      obtain ⟨q20, hg, hf⟩ := dt_bind hf
      refine xc_i (xr_V C (ci := 6) (As := [.int 1, .int 0, .int ((a 0 15) - 1), .int (-1)]) (fun l => c_X6_reads g hS l n 1 0 ((a 0 15) - 1) (-1) q19.2 q20 hg) gX6_readsRest_X6_reads rfl ⟨rfl, rfl⟩ hdV_X6_reads ⟨Nat.le_of_ble_eq_true rfl, Nat.le_of_ble_eq_true rfl⟩ 0 rfl rfl (wM0 g _) rfl rfl (Nat.le_of_ble_eq_true rfl) dX6_readsRest_262) ?_
      refine xv_if_eq C (y := 0) 296 hf dX6_readsRest_265 (by decide) (fun _ hf => ?_) (fun _ hf => ?_)
      · refine xv_iconst C 0 dX6_readsRest_296 (by decide) ?_
        exact xz_zw hret hf (by decide) dX6_readsRest_297
      · refine xv_aload_n C dX6_readsRest_268 rfl 2 rfl ?_
        refine xv_iconst C 2 dX6_readsRest_269 (by decide) ?_
        refine xv_iconst C 0 dX6_readsRest_270 (by decide) ?_
        refine xv_bipush C 9 dX6_readsRest_271 (by decide) ?_
        refine xv_iconst C (-1) dX6_readsRest_273 (by decide) ?_
        obtain ⟨q21, hg, hf⟩ := dt_bind hf
        refine xc_i (xr_V C (ci := 6) (As := [.int 2, .int 0, .int 9, .int (-1)]) (fun l => c_X6_reads g hS l n 2 0 9 (-1) q20.2 q21 hg) gX6_readsRest_X6_reads rfl ⟨rfl, rfl⟩ hdV_X6_reads ⟨Nat.le_of_ble_eq_true rfl, Nat.le_of_ble_eq_true rfl⟩ 0 rfl rfl (wM0 g _) rfl rfl (Nat.le_of_ble_eq_true rfl) dX6_readsRest_274) ?_
        refine xv_if_eq C (y := 0) 296 hf dX6_readsRest_277 (by decide) (fun _ hf => ?_) (fun _ hf => ?_)
        · refine xv_iconst C 0 dX6_readsRest_296 (by decide) ?_
          exact xz_zw hret hf (by decide) dX6_readsRest_297
        · refine xv_aload_n C dX6_readsRest_280 rfl 2 rfl ?_
          refine xv_iconst C 3 dX6_readsRest_281 (by decide) ?_
          refine xv_iconst C 0 dX6_readsRest_282 (by decide) ?_
          refine xv_bipush C 9 dX6_readsRest_283 (by decide) ?_
          refine xv_iconst C (-1) dX6_readsRest_285 (by decide) ?_
          obtain ⟨q22, hg, hf⟩ := dt_bind hf
          refine xc_i (xr_V C (ci := 6) (As := [.int 3, .int 0, .int 9, .int (-1)]) (fun l => c_X6_reads g hS l n 3 0 9 (-1) q21.2 q22 hg) gX6_readsRest_X6_reads rfl ⟨rfl, rfl⟩ hdV_X6_reads ⟨Nat.le_of_ble_eq_true rfl, Nat.le_of_ble_eq_true rfl⟩ 0 rfl rfl (wM0 g _) rfl rfl (Nat.le_of_ble_eq_true rfl) dX6_readsRest_286) ?_
          refine xv_if_eq C (y := 0) 296 hf dX6_readsRest_289 (by decide) (fun _ hf => ?_) (fun _ hf => ?_)
          · refine xv_iconst C 0 dX6_readsRest_296 (by decide) ?_
            exact xz_zw hret hf (by decide) dX6_readsRest_297
          · refine xv_iconst C 1 dX6_readsRest_292 (by decide) ?_
            refine xv_goto C 297 dX6_readsRest_293 (by decide) ?_
            exact xz_zw hret hf (by decide) dX6_readsRest_297
  have hf := dt_neg hs7 hf
  by_cases hs8 : x1 = 8
  · have hf := dt_pos hs8 hf
    refine xv_tin C (off := 141) 156 hs8 dX6_readsRest_15 (by decide) (by decide) (by decide) (by decide) ?_
    refine xv_aload_n C dX6_readsRest_156 rfl 2 rfl ?_
    refine xv_iconst C 0 dX6_readsRest_157 (by decide) ?_
    refine xv_iconst C 0 dX6_readsRest_158 (by decide) ?_
    refine xv_iload_n C dX6_readsRest_159 rfl 1 rfl ?_
    refine xv_iconst C (-1) dX6_readsRest_160 (by decide) ?_
    obtain ⟨q23, hg, hf⟩ := dt_bind hf
    refine xc_i (xr_V C (ci := 6) (As := [.int 0, .int 0, .int ((a 0 15) - 1), .int (-1)]) (fun l => c_X6_reads g hS l n 0 0 ((a 0 15) - 1) (-1) a q23 hg) gX6_readsRest_X6_reads rfl ⟨rfl, rfl⟩ hdV_X6_reads ⟨Nat.le_of_ble_eq_true rfl, Nat.le_of_ble_eq_true rfl⟩ 0 rfl rfl (wM0 g _) rfl rfl (Nat.le_of_ble_eq_true rfl) dX6_readsRest_161) ?_
    refine xv_if_eq C (y := 0) 182 hf dX6_readsRest_164 (by decide) (fun _ hf => ?_) (fun _ hf => ?_)
    · refine xv_iconst C 0 dX6_readsRest_182 (by decide) ?_
      exact xz_zw hret hf (by decide) dX6_readsRest_183
    · refine xv_aload_n C dX6_readsRest_167 rfl 2 rfl ?_
      refine xv_iconst C 1 dX6_readsRest_168 (by decide) ?_
      refine xv_iconst C 0 dX6_readsRest_169 (by decide) ?_
      refine xv_iload_n C dX6_readsRest_170 rfl 0 rfl ?_
      refine xv_iconst C (-1) dX6_readsRest_171 (by decide) ?_
      obtain ⟨q24, hg, hf⟩ := dt_bind hf
      refine xc_i (xr_V C (ci := 6) (As := [.int 1, .int 0, .int ((a 0 16) - 1), .int (-1)]) (fun l => c_X6_reads g hS l n 1 0 ((a 0 16) - 1) (-1) q23.2 q24 hg) gX6_readsRest_X6_reads rfl ⟨rfl, rfl⟩ hdV_X6_reads ⟨Nat.le_of_ble_eq_true rfl, Nat.le_of_ble_eq_true rfl⟩ 0 rfl rfl (wM0 g _) rfl rfl (Nat.le_of_ble_eq_true rfl) dX6_readsRest_172) ?_
      refine xv_if_eq C (y := 0) 182 hf dX6_readsRest_175 (by decide) (fun _ hf => ?_) (fun _ hf => ?_)
      · refine xv_iconst C 0 dX6_readsRest_182 (by decide) ?_
        exact xz_zw hret hf (by decide) dX6_readsRest_183
      · refine xv_iconst C 1 dX6_readsRest_178 (by decide) ?_
        refine xv_goto C 183 dX6_readsRest_179 (by decide) ?_
        exact xz_zw hret hf (by decide) dX6_readsRest_183
  have hf := dt_neg hs8 hf
  by_cases hs9 : x1 = 9
  · have hf := dt_pos hs9 hf
    refine xv_tin C (off := 103) 118 hs9 dX6_readsRest_15 (by decide) (by decide) (by decide) (by decide) ?_
    refine xv_aload_n C dX6_readsRest_118 rfl 2 rfl ?_
    refine xv_iconst C 0 dX6_readsRest_119 (by decide) ?_
    refine xv_iconst C 0 dX6_readsRest_120 (by decide) ?_
    refine xv_iload_n C dX6_readsRest_121 rfl 1 rfl ?_
    refine xv_iconst C (-1) dX6_readsRest_122 (by decide) ?_
    obtain ⟨q25, hg, hf⟩ := dt_bind hf
    refine xc_i (xr_V C (ci := 6) (As := [.int 0, .int 0, .int ((a 0 15) - 1), .int (-1)]) (fun l => c_X6_reads g hS l n 0 0 ((a 0 15) - 1) (-1) a q25 hg) gX6_readsRest_X6_reads rfl ⟨rfl, rfl⟩ hdV_X6_reads ⟨Nat.le_of_ble_eq_true rfl, Nat.le_of_ble_eq_true rfl⟩ 0 rfl rfl (wM0 g _) rfl rfl (Nat.le_of_ble_eq_true rfl) dX6_readsRest_123) ?_
    exact xz_zgw hret hf dX6_readsRest_126
  have hf := dt_neg hs9 hf
  by_cases hs10 : x1 = 10
  · have hf := dt_pos hs10 hf
    refine xv_tin C (off := 169) 184 hs10 dX6_readsRest_15 (by decide) (by decide) (by decide) (by decide) ?_
    refine xv_aload_n C dX6_readsRest_184 rfl 2 rfl ?_
    refine xv_iconst C 0 dX6_readsRest_185 (by decide) ?_
    refine xv_iconst C 0 dX6_readsRest_186 (by decide) ?_
    refine xv_iload_n C dX6_readsRest_187 rfl 1 rfl ?_
    refine xv_iconst C (-1) dX6_readsRest_188 (by decide) ?_
    obtain ⟨q26, hg, hf⟩ := dt_bind hf
    refine xc_i (xr_V C (ci := 6) (As := [.int 0, .int 0, .int ((a 0 15) - 1), .int (-1)]) (fun l => c_X6_reads g hS l n 0 0 ((a 0 15) - 1) (-1) a q26 hg) gX6_readsRest_X6_reads rfl ⟨rfl, rfl⟩ hdV_X6_reads ⟨Nat.le_of_ble_eq_true rfl, Nat.le_of_ble_eq_true rfl⟩ 0 rfl rfl (wM0 g _) rfl rfl (Nat.le_of_ble_eq_true rfl) dX6_readsRest_189) ?_
    refine xv_if_eq C (y := 0) 234 hf dX6_readsRest_192 (by decide) (fun _ hf => ?_) (fun _ hf => ?_)
    · refine xv_iconst C 0 dX6_readsRest_234 (by decide) ?_
      exact xz_zw hret hf (by decide) dX6_readsRest_235
    · refine xv_aload_n C dX6_readsRest_195 rfl 2 rfl ?_
      refine xv_iconst C 1 dX6_readsRest_196 (by decide) ?_
      refine xv_iconst C 0 dX6_readsRest_197 (by decide) ?_
      refine xv_iload_n C dX6_readsRest_198 rfl 1 rfl ?_
      refine xv_aload_n C dX6_readsRest_199 rfl 2 rfl ?_
      refine xv_get C hiX6 0 (wM0 g _) rfl 4 (by decide) (List.mem_of_getElem? (i := 3) rfl) rfl dX6_readsRest_200 ?_
      refine xv_iconst C 5 dX6_readsRest_203 (by decide) ?_
      refine xv_aload_n C dX6_readsRest_204 rfl 2 rfl ?_
      refine xv_get C hiX6 0 (wM0 g _) rfl 5 (by decide) (List.mem_of_getElem? (i := 4) rfl) rfl dX6_readsRest_205 ?_
      refine xv_imul C dX6_readsRest_208 ?_
      refine xv_iconst C 1 dX6_readsRest_209 (by decide) ?_
      refine xv_iadd C dX6_readsRest_210 ?_
      refine xv_iald C 4 0 (wM4 g _) rfl hf dX6_readsRest_211 (fun hf => ?_)
      obtain ⟨q27, hg, hf⟩ := dt_bind hf
      refine xc_i (xr_V C (ci := 6) (As := [.int 1, .int 0, .int ((a 0 15) - 1), .int (q26.2 4 ((((5 : Int32) * (q26.2 0 5)) + 1).toNatClampNeg))]) (fun l => c_X6_reads g hS l n 1 0 ((a 0 15) - 1) (q26.2 4 ((((5 : Int32) * (q26.2 0 5)) + 1).toNatClampNeg)) q26.2 q27 hg) gX6_readsRest_X6_reads rfl ⟨rfl, rfl⟩ hdV_X6_reads ⟨Nat.le_of_ble_eq_true rfl, Nat.le_of_ble_eq_true rfl⟩ 0 rfl rfl (wM0 g _) rfl rfl (Nat.le_of_ble_eq_true rfl) dX6_readsRest_212) ?_
      refine xv_if_eq C (y := 0) 234 hf dX6_readsRest_215 (by decide) (fun _ hf => ?_) (fun _ hf => ?_)
      · refine xv_iconst C 0 dX6_readsRest_234 (by decide) ?_
        exact xz_zw hret hf (by decide) dX6_readsRest_235
      · refine xv_aload_n C dX6_readsRest_218 rfl 2 rfl ?_
        refine xv_iconst C 2 dX6_readsRest_219 (by decide) ?_
        refine xv_iconst C 0 dX6_readsRest_220 (by decide) ?_
        refine xv_bipush C 9 dX6_readsRest_221 (by decide) ?_
        refine xv_iconst C (-1) dX6_readsRest_223 (by decide) ?_
        obtain ⟨q28, hg, hf⟩ := dt_bind hf
        refine xc_i (xr_V C (ci := 6) (As := [.int 2, .int 0, .int 9, .int (-1)]) (fun l => c_X6_reads g hS l n 2 0 9 (-1) q27.2 q28 hg) gX6_readsRest_X6_reads rfl ⟨rfl, rfl⟩ hdV_X6_reads ⟨Nat.le_of_ble_eq_true rfl, Nat.le_of_ble_eq_true rfl⟩ 0 rfl rfl (wM0 g _) rfl rfl (Nat.le_of_ble_eq_true rfl) dX6_readsRest_224) ?_
        refine xv_if_eq C (y := 0) 234 hf dX6_readsRest_227 (by decide) (fun _ hf => ?_) (fun _ hf => ?_)
        · refine xv_iconst C 0 dX6_readsRest_234 (by decide) ?_
          exact xz_zw hret hf (by decide) dX6_readsRest_235
        · refine xv_iconst C 1 dX6_readsRest_230 (by decide) ?_
          refine xv_goto C 235 dX6_readsRest_231 (by decide) ?_
          exact xz_zw hret hf (by decide) dX6_readsRest_235
  have hf := dt_neg hs10 hf
  by_cases hs11 : x1 = 11
  · have hf := dt_pos hs11 hf
    refine xv_tin C (off := 221) 236 hs11 dX6_readsRest_15 (by decide) (by decide) (by decide) (by decide) ?_
    refine xv_aload_n C dX6_readsRest_236 rfl 2 rfl ?_
    refine xv_iconst C 0 dX6_readsRest_237 (by decide) ?_
    refine xv_iconst C 0 dX6_readsRest_238 (by decide) ?_
    refine xv_iload_n C dX6_readsRest_239 rfl 0 rfl ?_
    refine xv_iconst C (-1) dX6_readsRest_240 (by decide) ?_
    obtain ⟨q29, hg, hf⟩ := dt_bind hf
    refine xc_i (xr_V C (ci := 6) (As := [.int 0, .int 0, .int ((a 0 16) - 1), .int (-1)]) (fun l => c_X6_reads g hS l n 0 0 ((a 0 16) - 1) (-1) a q29 hg) gX6_readsRest_X6_reads rfl ⟨rfl, rfl⟩ hdV_X6_reads ⟨Nat.le_of_ble_eq_true rfl, Nat.le_of_ble_eq_true rfl⟩ 0 rfl rfl (wM0 g _) rfl rfl (Nat.le_of_ble_eq_true rfl) dX6_readsRest_241) ?_
    exact xz_zgw hret hf dX6_readsRest_244
  have hf := dt_neg hs11 hf
  by_cases hs12 : x1 = 12
  · have hf := dt_pos hs12 hf
    refine xv_tin C (off := 221) 236 hs12 dX6_readsRest_15 (by decide) (by decide) (by decide) (by decide) ?_
    refine xv_aload_n C dX6_readsRest_236 rfl 2 rfl ?_
    refine xv_iconst C 0 dX6_readsRest_237 (by decide) ?_
    refine xv_iconst C 0 dX6_readsRest_238 (by decide) ?_
    refine xv_iload_n C dX6_readsRest_239 rfl 0 rfl ?_
    refine xv_iconst C (-1) dX6_readsRest_240 (by decide) ?_
    obtain ⟨q30, hg, hf⟩ := dt_bind hf
    refine xc_i (xr_V C (ci := 6) (As := [.int 0, .int 0, .int ((a 0 16) - 1), .int (-1)]) (fun l => c_X6_reads g hS l n 0 0 ((a 0 16) - 1) (-1) a q30 hg) gX6_readsRest_X6_reads rfl ⟨rfl, rfl⟩ hdV_X6_reads ⟨Nat.le_of_ble_eq_true rfl, Nat.le_of_ble_eq_true rfl⟩ 0 rfl rfl (wM0 g _) rfl rfl (Nat.le_of_ble_eq_true rfl) dX6_readsRest_241) ?_
    exact xz_zgw hret hf dX6_readsRest_244
  have hf := dt_neg hs12 hf
  have e0 := lv_neT (a := 0) hs0 (by decide)
  have e1 := lv_neT (a := 1) hs1 (by decide)
  have e2 := lv_neT (a := 2) hs2 (by decide)
  have e3 := lv_neT (a := 3) hs3 (by decide)
  have e4 := lv_neT (a := 4) hs4 (by decide)
  have e5 := lv_neT (a := 5) hs5 (by decide)
  have e6 := lv_neT (a := 6) hs6 (by decide)
  have e7 := lv_neT (a := 7) hs7 (by decide)
  have e8 := lv_neT (a := 8) hs8 (by decide)
  have e9 := lv_neT (a := 9) hs9 (by decide)
  have e10 := lv_neT (a := 10) hs10 (by decide)
  have e11 := lv_neT (a := 11) hs11 (by decide)
  have e12 := lv_neT (a := 12) hs12 (by decide)
  refine xv_tout C 245 dX6_readsRest_15 (by omega) (by decide) ?_
  refine xv_aload_n C dX6_readsRest_245 rfl 2 rfl ?_
  refine xv_iconst C 0 dX6_readsRest_246 (by decide) ?_
  refine xv_iconst C 0 dX6_readsRest_247 (by decide) ?_
  refine xv_bipush C 15 dX6_readsRest_248 (by decide) ?_
  refine xv_iconst C (-1) dX6_readsRest_250 (by decide) ?_
  obtain ⟨q31, hg, hf⟩ := dt_bind hf
  refine xc_i (xr_V C (ci := 6) (As := [.int 0, .int 0, .int 15, .int (-1)]) (fun l => c_X6_reads g hS l n 0 0 15 (-1) a q31 hg) gX6_readsRest_X6_reads rfl ⟨rfl, rfl⟩ hdV_X6_reads ⟨Nat.le_of_ble_eq_true rfl, Nat.le_of_ble_eq_true rfl⟩ 0 rfl rfl (wM0 g _) rfl rfl (Nat.le_of_ble_eq_true rfl) dX6_readsRest_251) ?_
  refine xv_if_eq C (y := 0) 296 hf dX6_readsRest_254 (by decide) (fun _ hf => ?_) (fun _ hf => ?_)
  · refine xv_iconst C 0 dX6_readsRest_296 (by decide) ?_
    exact xz_zw hret hf (by decide) dX6_readsRest_297
  · refine xv_aload_n C dX6_readsRest_257 rfl 2 rfl ?_
    refine xv_iconst C 1 dX6_readsRest_258 (by decide) ?_
    refine xv_iconst C 0 dX6_readsRest_259 (by decide) ?_
    refine xv_iload_n C dX6_readsRest_260 rfl 1 rfl ?_
    refine xv_iconst C (-1) dX6_readsRest_261 (by decide) ?_
    obtain ⟨q32, hg, hf⟩ := dt_bind hf
    refine xc_i (xr_V C (ci := 6) (As := [.int 1, .int 0, .int ((a 0 15) - 1), .int (-1)]) (fun l => c_X6_reads g hS l n 1 0 ((a 0 15) - 1) (-1) q31.2 q32 hg) gX6_readsRest_X6_reads rfl ⟨rfl, rfl⟩ hdV_X6_reads ⟨Nat.le_of_ble_eq_true rfl, Nat.le_of_ble_eq_true rfl⟩ 0 rfl rfl (wM0 g _) rfl rfl (Nat.le_of_ble_eq_true rfl) dX6_readsRest_262) ?_
    refine xv_if_eq C (y := 0) 296 hf dX6_readsRest_265 (by decide) (fun _ hf => ?_) (fun _ hf => ?_)
    · refine xv_iconst C 0 dX6_readsRest_296 (by decide) ?_
      exact xz_zw hret hf (by decide) dX6_readsRest_297
    · refine xv_aload_n C dX6_readsRest_268 rfl 2 rfl ?_
      refine xv_iconst C 2 dX6_readsRest_269 (by decide) ?_
      refine xv_iconst C 0 dX6_readsRest_270 (by decide) ?_
      refine xv_bipush C 9 dX6_readsRest_271 (by decide) ?_
      refine xv_iconst C (-1) dX6_readsRest_273 (by decide) ?_
      obtain ⟨q33, hg, hf⟩ := dt_bind hf
      refine xc_i (xr_V C (ci := 6) (As := [.int 2, .int 0, .int 9, .int (-1)]) (fun l => c_X6_reads g hS l n 2 0 9 (-1) q32.2 q33 hg) gX6_readsRest_X6_reads rfl ⟨rfl, rfl⟩ hdV_X6_reads ⟨Nat.le_of_ble_eq_true rfl, Nat.le_of_ble_eq_true rfl⟩ 0 rfl rfl (wM0 g _) rfl rfl (Nat.le_of_ble_eq_true rfl) dX6_readsRest_274) ?_
      refine xv_if_eq C (y := 0) 296 hf dX6_readsRest_277 (by decide) (fun _ hf => ?_) (fun _ hf => ?_)
      · refine xv_iconst C 0 dX6_readsRest_296 (by decide) ?_
        exact xz_zw hret hf (by decide) dX6_readsRest_297
      · refine xv_aload_n C dX6_readsRest_280 rfl 2 rfl ?_
        refine xv_iconst C 3 dX6_readsRest_281 (by decide) ?_
        refine xv_iconst C 0 dX6_readsRest_282 (by decide) ?_
        refine xv_bipush C 9 dX6_readsRest_283 (by decide) ?_
        refine xv_iconst C (-1) dX6_readsRest_285 (by decide) ?_
        obtain ⟨q34, hg, hf⟩ := dt_bind hf
        refine xc_i (xr_V C (ci := 6) (As := [.int 3, .int 0, .int 9, .int (-1)]) (fun l => c_X6_reads g hS l n 3 0 9 (-1) q33.2 q34 hg) gX6_readsRest_X6_reads rfl ⟨rfl, rfl⟩ hdV_X6_reads ⟨Nat.le_of_ble_eq_true rfl, Nat.le_of_ble_eq_true rfl⟩ 0 rfl rfl (wM0 g _) rfl rfl (Nat.le_of_ble_eq_true rfl) dX6_readsRest_286) ?_
        refine xv_if_eq C (y := 0) 296 hf dX6_readsRest_289 (by decide) (fun _ hf => ?_) (fun _ hf => ?_)
        · refine xv_iconst C 0 dX6_readsRest_296 (by decide) ?_
          exact xz_zw hret hf (by decide) dX6_readsRest_297
        · refine xv_iconst C 1 dX6_readsRest_292 (by decide) ?_
          refine xv_goto C 297 dX6_readsRest_293 (by decide) ?_
          exact xz_zw hret hf (by decide) dX6_readsRest_297
