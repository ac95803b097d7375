set_option maxRecDepth 100000 in
set_option maxHeartbeats 4000000 in
theorem c_X5_within (S : SID) (hS : xSide S) (l : Launch) (x0 : Int32) (x1 : Int32) (x2 : Int32) (a : St) (q : Int32) (hf : f_X5_within x0 x1 x2 = some q) : Met l yX5_within wsX5_within rm_X5_within (xPre S [.int x0, .int x1, .int x2] a) (xPostI S q a) 0 0 S.2.2.1 := by
  refine xm_z (av := [.int x0, .int x1, .int x2]) (cc := cX5_within) (maxL := 3) (by decide) rfl (Nat.le_of_ble_eq_true rfl) hS.1 hS.2 (fun K C hret => ?_)
  have C : CC K S cX5_within 3 wsX5_within RX5 rm_X5_within := C
  rw [f_X5_within] at hf
  show V K S 3 a [(0, .int x0), (1, .int x1), (2, .int x2)] 0 []
  refine xv_iload_n C dX5_within_0 rfl 0 rfl ?_
  refine xv_iload_n C dX5_within_1 rfl 1 rfl ?_
  refine xv_icmp_lt C 14 hf dX5_within_2 (by decide) (fun _ hf => ?_) (fun _ hf => ?_)
  · refine xv_iconst C 0 dX5_within_14 (by decide) ?_
    exact xz_zr hret hf (by decide) dX5_within_15
  · refine xv_iload_n C dX5_within_5 rfl 0 rfl ?_
    refine xv_iload_n C dX5_within_6 rfl 2 rfl ?_
    refine xv_icmp_gt C 14 hf dX5_within_7 (by decide) (fun _ hf => ?_) (fun _ hf => ?_)
    · refine xv_iconst C 0 dX5_within_14 (by decide) ?_
      exact xz_zr hret hf (by decide) dX5_within_15
    · refine xv_iconst C 1 dX5_within_10 (by decide) ?_
      refine xv_goto C 15 dX5_within_11 (by decide) ?_
      exact xz_zr hret hf (by decide) dX5_within_15
set_option maxRecDepth 100000 in
set_option maxHeartbeats 4000000 in
theorem c_X2_append (g : GX) (hS : xSide (sX g)) (l : Launch) (x1 : Int32) (a : St) (q : St) (hf : f_X2_append x1 a = some q) : Met l yX2_append wsX2_append rm_X2_append (xPre (sX g) [.ref (aX g 1), .int x1] a) (xPostV (sX g) q) 0 0 (sX g).2.2.1 := by
  refine xm_v (av := [.ref (aX g 1), .int x1]) (cc := cX2_append) (maxL := 2) (by decide) rfl (Nat.le_of_ble_eq_true rfl) hS.1 hS.2 (fun K C hret => ?_)
  have C : CC K (sX g) cX2_append 2 wsX2_append "MirrorHour$Text" rm_X2_append := C
  have hiX2 : ∀ w ∈ u_ws RX2 TX2 9, w ∈ wsX2_append := fun w h => List.mem_cons_of_mem _ (List.mem_append_right _ h)
  rw [f_X2_append] at hf
  show V K (sX g) 2 a [(0, .ref (aX g 1)), (1, .int x1)] 0 []
  refine xv_aload_n C dX2_append_0 rfl 0 rfl ?_
  refine xv_get C hiX2 1 (wX1 g _) rfl 1 (by decide) (List.mem_of_getElem? (i := 1) rfl) rfl dX2_append_1 ?_
  refine xv_sipush C 200 dX2_append_4 (by decide) ?_
  refine xv_icmp_ge C 30 hf dX2_append_7 (by decide) (fun _ hf => ?_) (fun _ hf => ?_)
  · exact xz_v hret hf dX2_append_30
  · refine xv_aload_n C dX2_append_10 rfl 0 rfl ?_
    refine xv_get C hiX2 1 (wX1 g _) rfl 0 (by decide) (List.mem_of_getElem? (i := 2) rfl) rfl dX2_append_11 ?_
    refine xv_aload_n C dX2_append_14 rfl 0 rfl ?_
    refine xv_get C hiX2 1 (wX1 g _) rfl 1 (by decide) (List.mem_of_getElem? (i := 1) rfl) rfl dX2_append_15 ?_
    refine xv_iload_n C dX2_append_18 rfl 1 rfl ?_
    refine xv_iast C 2 0 (wX2 g _) rfl (up a 2 ((a 1 1).toNatClampNeg) x1) (pX2 g _ _ _) hf dX2_append_19 (fun hf => ?_)
    refine xv_aload_n C dX2_append_20 rfl 0 rfl ?_
    refine xv_dup C dX2_append_21 rfl ?_
    refine xv_get C hiX2 1 (wX1 g _) rfl 1 (by decide) (List.mem_of_getElem? (i := 1) rfl) rfl dX2_append_22 ?_
    refine xv_iconst C 1 dX2_append_25 (by decide) ?_
    refine xv_iadd C dX2_append_26 ?_
    refine xv_put C hiX2 tyX2 tyX2_ok nmX2 1 (wX1 g _) rfl 1 (by decide) (List.mem_of_getElem? (i := 1) rfl) rfl (tyX2_ok 1 (by decide)) rfl rfl (Nat.le_of_ble_eq_true rfl) (up (up a 2 ((a 1 1).toNatClampNeg) x1) 1 1 (((up a 2 ((a 1 1).toNatClampNeg) x1) 1 1) + 1)) (pX1_1 g _ _) dX2_append_27 ?_
    exact xz_v hret hf dX2_append_30
set_option maxRecDepth 100000 in
set_option maxHeartbeats 4000000 in
theorem c_X5_write (g : GX) (hS : xSide (sX g)) (l : Launch) (n : Nat) (x1 : Int64) (x3 : Int32) (a : St) (q : (Int32 × St)) (hf : f_X5_write n x1 x3 a = some q) : Met l yX5_write wsX5_write rm_X5_write (xPre (sX g) [.ref (aX g 0), .long x1, .int x3] a) (xPostI (sX g) q.1 q.2) 0 0 (sX g).2.2.1 := by
  refine xm_i (av := [.ref (aX g 0), .long x1, .int x3]) (cc := cX5_write) (maxL := 5) (by decide) rfl (Nat.le_of_ble_eq_true rfl) hS.1 hS.2 (fun K C hret => ?_)
  have C : CC K (sX g) cX5_write 5 wsX5_write RX5 rm_X5_write := C
  have hiX2 : ∀ w ∈ u_ws RX2 TX2 9, w ∈ wsX5_write := fun w h => List.mem_cons_of_mem _ (List.mem_append_right _ h)
  have hiX5 : ∀ w ∈ u_ws RX5 TX5 13, w ∈ wsX5_write := fun w h => List.mem_cons_of_mem _ (List.mem_append_left _ (List.mem_append_right _ h))
  have hL34 : ∀ (x1 : Int64) (x3 : Int32)  (j : Nat) (x4 : Int32) (a : St), L_X5_write_34 n x1 x3 j x4 a = some q → V K (sX g) 5 a [(0, .ref (aX g 0)), (1, .long x1), (3, .int x3), (4, .int x4)] 34 [] := by
    intro x1 x3 j
    induction j with
    | zero =>
      intro x4 a hf
      have hf : (none : Option (Int32 × St)) = some q := hf
      cases hf
    | succ j ih =>
      intro x4 a hf
      rw [L_X5_write_34] at hf
      refine xv_iload C dX5_write_34 3 rfl ?_
      refine xv_iload_n C dX5_write_36 rfl 2 rfl ?_
      refine xv_icmp_ge C 65 hf dX5_write_37 (by decide) (fun _ hf => ?_) (fun _ hf => ?_)
      · refine xv_aload_n C dX5_write_65 rfl 0 rfl ?_
        refine xv_get C hiX5 0 (wX0 g _) rfl 0 (by decide) (List.mem_of_getElem? (i := 1) rfl) rfl dX5_write_66 ?_
        refine xv_getN C hiX2 1 (wX1 g _) rfl 1 (by decide) (fun U H h => h.1 _ (List.mem_of_getElem? (i := 1) rfl)) rfl dX5_write_69 ?_
        exact xz_iw hret hf dX5_write_72
      · refine xv_aload_n C dX5_write_40 rfl 0 rfl ?_
        refine xv_get C hiX5 0 (wX0 g _) rfl 0 (by decide) (List.mem_of_getElem? (i := 1) rfl) rfl dX5_write_41 ?_
        refine xv_lload_n C dX5_write_44 rfl 1 rfl ?_
        refine xv_bipush C 8 dX5_write_45 (by decide) ?_
        refine xv_iload C dX5_write_47 3 rfl ?_
        refine xv_imul C dX5_write_49 ?_
        refine xv_lshr C dX5_write_50 ?_
        refine xv_ldc2 C 255 dX5_write_51 (List.mem_of_getElem? (i := 2) rfl) ?_
        refine xv_land C dX5_write_54 ?_
        refine xv_l2i C dX5_write_55 ?_
        obtain ⟨q2, hg, hf⟩ := dt_bind hf
        refine xc_v (xr_VN C (ci := 2) (As := [.int (((x1 >>> (((8 : Int32) * x4).toInt64 &&& 63)) &&& 255).toInt32)]) (fun l => c_X2_append g hS l (((x1 >>> (((8 : Int32) * x4).toInt64 &&& 63)) &&& 255).toInt32) a q2 hg) gX5_write_X2_append_n80 rfl ⟨rfl, rfl⟩ (fun U H h => h.1 _ (List.mem_of_getElem? (i := 32) rfl)) (List.mem_of_getElem? (i := 8) rfl) (List.mem_of_getElem? (i := 7) rfl) (List.mem_of_getElem? (i := 9) rfl) hdN_X2_append ⟨Nat.le_of_ble_eq_true rfl, Nat.le_of_ble_eq_true rfl⟩ 1 rfl rfl (wX1 g _) rfl rfl (Nat.le_of_ble_eq_true rfl) dX5_write_56) ?_
        refine xv_iinc C [(4, .int (x4 + 1)), (0, .ref (aX g 0)), (1, .long x1), (3, .int x3)] dX5_write_59 3 rfl rfl (by decide) rfl ?_
        refine xv_goto C 34 dX5_write_62 (by decide) ?_
        refine xv_eq [1, 2, 3, 0] rfl ?_
        exact ih (x4 + 1) q2 hf
  rw [f_X5_write] at hf
  show V K (sX g) 5 a [(0, .ref (aX g 0)), (1, .long x1), (3, .int x3)] 0 []
  refine xv_iload_n C dX5_write_0 rfl 2 rfl ?_
  refine xv_iconst C 1 dX5_write_1 (by decide) ?_
  refine xv_bipush C 8 dX5_write_2 (by decide) ?_
  obtain ⟨q1, hg, hf⟩ := dt_bind hf
  refine xc_i (xr_S C (As := [.int x3, .int 1, .int 8]) (fun l => c_X5_within (sX g) hS l x3 1 8 a q1 hg) gX5_write_X5_within rfl ⟨rfl, rfl⟩ hdS_X5_within ⟨Nat.le_of_ble_eq_true rfl, Nat.le_of_ble_eq_true rfl⟩ rfl rfl (Nat.le_of_ble_eq_true rfl) dX5_write_4) ?_
  refine xv_if_ne C (y := 0) 13 hf dX5_write_7 (by decide) (fun _ hf => ?_) (fun _ hf => ?_)
  · refine xv_bipush C (-3) dX5_write_10 (by decide) ?_
    exact xz_iw hret hf dX5_write_12
  · refine xv_aload_n C dX5_write_13 rfl 0 rfl ?_
    refine xv_get C hiX5 0 (wX0 g _) rfl 0 (by decide) (List.mem_of_getElem? (i := 1) rfl) rfl dX5_write_14 ?_
    refine xv_getN C hiX2 1 (wX1 g _) rfl 1 (by decide) (fun U H h => h.1 _ (List.mem_of_getElem? (i := 1) rfl)) rfl dX5_write_17 ?_
    refine xv_iload_n C dX5_write_20 rfl 2 rfl ?_
    refine xv_iadd C dX5_write_21 ?_
    refine xv_sipush C 200 dX5_write_22 (by decide) ?_
    refine xv_icmp_le C 31 hf dX5_write_25 (by decide) (fun _ hf => ?_) (fun _ hf => ?_)
    · refine xv_iconst C 0 dX5_write_31 (by decide) ?_
      refine xv_istore C [(4, .int 0), (0, .ref (aX g 0)), (1, .long x1), (3, .int x3)] dX5_write_32 (by decide) rfl ?_
      refine xv_eq [1, 2, 3, 0] rfl ?_
      exact hL34 x1 x3 n 0 a hf
    · refine xv_bipush C (-5) dX5_write_28 (by decide) ?_
      exact xz_iw hret hf dX5_write_30
set_option maxRecDepth 100000 in
set_option maxHeartbeats 4000000 in
theorem c_X2_empty (g : GX) (hS : xSide (sX g)) (l : Launch) (a : St) (q : (Int32 × St)) (hf : f_X2_empty a = some q) : Met l yX2_empty wsX2_empty rm_X2_empty (xPre (sX g) [.ref (aX g 1)] a) (xPostI (sX g) q.1 q.2) 0 0 (sX g).2.2.1 := by
  refine xm_i (av := [.ref (aX g 1)]) (cc := cX2_empty) (maxL := 2) (by decide) rfl (Nat.le_of_ble_eq_true rfl) hS.1 hS.2 (fun K C hret => ?_)
  have C : CC K (sX g) cX2_empty 2 wsX2_empty "MirrorHour$Text" rm_X2_empty := C
  have hiX2 : ∀ w ∈ u_ws RX2 TX2 9, w ∈ wsX2_empty := fun w h => List.mem_cons_of_mem _ (List.mem_append_right _ h)
  rw [f_X2_empty] at hf
  show V K (sX g) 2 a [(0, .ref (aX g 1))] 0 []
  refine xv_aload_n C dX2_empty_0 rfl 0 rfl ?_
  refine xv_get C hiX2 1 (wX1 g _) rfl 1 (by decide) (List.mem_of_getElem? (i := 1) rfl) rfl dX2_empty_1 ?_
  refine xv_istore_n C [(1, .int (a 1 1)), (0, .ref (aX g 1))] dX2_empty_4 rfl (by decide) rfl ?_
  refine xv_aload_n C dX2_empty_5 rfl 1 rfl ?_
  refine xv_iconst C 0 dX2_empty_6 (by decide) ?_
  refine xv_put C hiX2 tyX2 tyX2_ok nmX2 1 (wX1 g _) rfl 1 (by decide) (List.mem_of_getElem? (i := 1) rfl) rfl (tyX2_ok 1 (by decide)) rfl rfl (Nat.le_of_ble_eq_true rfl) (up a 1 1 0) (pX1_1 g _ _) dX2_empty_7 ?_
  refine xv_iload_n C dX2_empty_10 rfl 0 rfl ?_
  exact xz_iw hret hf dX2_empty_11
set_option maxRecDepth 100000 in
set_option maxHeartbeats 4000000 in
theorem c_X5_erase (g : GX) (hS : xSide (sX g)) (l : Launch) (a : St) (q : (Int32 × St)) (hf : f_X5_erase a = some q) : Met l yX5_erase wsX5_erase rm_X5_erase (xPre (sX g) [.ref (aX g 0)] a) (xPostI (sX g) q.1 q.2) 0 0 (sX g).2.2.1 := by
  refine xm_i (av := [.ref (aX g 0)]) (cc := cX5_erase) (maxL := 1) (by decide) rfl (Nat.le_of_ble_eq_true rfl) hS.1 hS.2 (fun K C hret => ?_)
  have C : CC K (sX g) cX5_erase 1 wsX5_erase RX5 rm_X5_erase := C
  have hiX5 : ∀ w ∈ u_ws RX5 TX5 13, w ∈ wsX5_erase := fun w h => List.mem_cons_of_mem _ (List.mem_append_left _ (List.mem_append_right _ h))
  rw [f_X5_erase] at hf
  show V K (sX g) 1 a [(0, .ref (aX g 0))] 0 []
  refine xv_aload_n C dX5_erase_0 rfl 0 rfl ?_
  refine xv_get C hiX5 0 (wX0 g _) rfl 0 (by decide) (List.mem_of_getElem? (i := 1) rfl) rfl dX5_erase_1 ?_
  obtain ⟨q1, hg, hf⟩ := dt_bind hf
  refine xc_i (xr_VN C (ci := 2) (As := []) (fun l => c_X2_empty g hS l a q1 hg) gX5_erase_X2_empty_n84 rfl ⟨rfl, rfl⟩ (fun U H h => h.1 _ (List.mem_of_getElem? (i := 33) rfl)) (List.mem_of_getElem? (i := 3) rfl) (List.mem_of_getElem? (i := 2) rfl) (List.mem_of_getElem? (i := 4) rfl) hdN_X2_empty ⟨Nat.le_of_ble_eq_true rfl, Nat.le_of_ble_eq_true rfl⟩ 1 rfl rfl (wX1 g _) rfl rfl (Nat.le_of_ble_eq_true rfl) dX5_erase_4) ?_
  exact xz_iw hret hf dX5_erase_7
set_option maxRecDepth 100000 in
set_option maxHeartbeats 4000000 in
theorem c_X2_sortOf (g : GX) (hS : xSide (sX g)) (l : Launch) (x0 : Int32) (a : St) (q : Int32) (hf : f_X2_sortOf x0 = some q) : Met l yX2_sortOf wsX2_sortOf rm_X2_sortOf (xPre (sX g) [.int x0] a) (xPostI (sX g) q a) 0 0 (sX g).2.2.1 := by
  refine xm_i (av := [.int x0]) (cc := cX2_sortOf) (maxL := 1) (by decide) rfl (Nat.le_of_ble_eq_true rfl) hS.1 hS.2 (fun K C hret => ?_)
  have C : CC K (sX g) cX2_sortOf 1 wsX2_sortOf "MirrorHour$Text" rm_X2_sortOf := C
  rw [f_X2_sortOf] at hf
  show V K (sX g) 1 a [(0, .int x0)] 0 []
  refine xv_iload_n C dX2_sortOf_0 rfl 0 rfl ?_
  refine xv_bipush C 97 dX2_sortOf_1 (by decide) ?_
  refine xv_bipush C 122 dX2_sortOf_3 (by decide) ?_
  obtain ⟨q1, hg, hf⟩ := dt_bind hf
  refine xc_i (xr_SN C (As := [.int x0, .int 97, .int 122]) (fun l => c_X5_within (sX g) hS l x0 97 122 a q1 hg) gX2_sortOf_X5_within_n73 rfl ⟨rfl, rfl⟩ (fun U H h => h.1 _ (List.mem_of_getElem? (i := 35) rfl)) (List.mem_of_getElem? (i := 2) rfl) (List.mem_of_getElem? (i := 1) rfl) hdS_X5_within ⟨Nat.le_of_ble_eq_true rfl, Nat.le_of_ble_eq_true rfl⟩ rfl rfl (Nat.le_of_ble_eq_true rfl) dX2_sortOf_5) ?_
  refine xv_if_eq C (y := 0) 13 hf dX2_sortOf_8 (by decide) (fun _ hf => ?_) (fun _ hf => ?_)
  · refine xv_iload_n C dX2_sortOf_13 rfl 0 rfl ?_
    refine xv_bipush C 48 dX2_sortOf_14 (by decide) ?_
    refine xv_bipush C 57 dX2_sortOf_16 (by decide) ?_
    obtain ⟨q2, hg, hf⟩ := dt_bind hf
    refine xc_i (xr_SN C (As := [.int x0, .int 48, .int 57]) (fun l => c_X5_within (sX g) hS l x0 48 57 a q2 hg) gX2_sortOf_X5_within_n73 rfl ⟨rfl, rfl⟩ (fun U H h => h.1 _ (List.mem_of_getElem? (i := 35) rfl)) (List.mem_of_getElem? (i := 2) rfl) (List.mem_of_getElem? (i := 1) rfl) hdS_X5_within ⟨Nat.le_of_ble_eq_true rfl, Nat.le_of_ble_eq_true rfl⟩ rfl rfl (Nat.le_of_ble_eq_true rfl) dX2_sortOf_18) ?_
    refine xv_if_eq C (y := 0) 28 hf dX2_sortOf_21 (by decide) (fun _ hf => ?_) (fun _ hf => ?_)
    · refine xv_iconst C 2 dX2_sortOf_28 (by decide) ?_
      exact xz_ir hret hf dX2_sortOf_29
    · refine xv_iconst C 1 dX2_sortOf_24 (by decide) ?_
      refine xv_goto C 29 dX2_sortOf_25 (by decide) ?_
      exact xz_ir hret hf dX2_sortOf_29
  · refine xv_iconst C 0 dX2_sortOf_11 (by decide) ?_
    exact xz_ir hret hf dX2_sortOf_12
set_option maxRecDepth 100000 in
set_option maxHeartbeats 4000000 in
theorem c_X2_readToken (g : GX) (hS : xSide (sX g)) (l : Launch) (n : Nat) (a : St) (q : St) (hf : f_X2_readToken n a = some q) : Met l yX2_readToken wsX2_readToken rm_X2_readToken (xPre (sX g) [.ref (aX g 1)] a) (xPostV (sX g) q) 0 0 (sX g).2.2.1 := by
  refine xm_v (av := [.ref (aX g 1)]) (cc := cX2_readToken) (maxL := 2) (by decide) rfl (Nat.le_of_ble_eq_true rfl) hS.1 hS.2 (fun K C hret => ?_)
  have C : CC K (sX g) cX2_readToken 2 wsX2_readToken "MirrorHour$Text" rm_X2_readToken := C
  have hiX2 : ∀ w ∈ u_ws RX2 TX2 9, w ∈ wsX2_readToken := fun w h => List.mem_cons_of_mem _ (List.mem_append_right _ h)
  have hL89 : ∀ (x1 : Int32)  (j : Nat) (a : St), L_X2_readToken_89 n x1 j a = some q → V K (sX g) 2 a [(0, .ref (aX g 1)), (1, .int x1)] 89 [] := by
    intro x1 j
    induction j with
    | zero =>
      intro a hf
      have hf : (none : Option St) = some q := hf
      cases hf
    | succ j ih =>
      intro a hf
      rw [L_X2_readToken_89] at hf
      refine xv_iload_n C dX2_readToken_89 rfl 1 rfl ?_
      refine xv_iconst C 2 dX2_readToken_90 (by decide) ?_
      refine xv_icmp_eq C 134 hf dX2_readToken_91 (by decide) (fun _ hf => ?_) (fun _ hf => ?_)
      · exact xz_v hret hf dX2_readToken_134
      · refine xv_aload_n C dX2_readToken_94 rfl 0 rfl ?_
        refine xv_get C hiX2 1 (wX1 g _) rfl 3 (by decide) (List.mem_of_getElem? (i := 1) rfl) rfl dX2_readToken_95 ?_
        refine xv_aload_n C dX2_readToken_98 rfl 0 rfl ?_
        refine xv_get C hiX2 1 (wX1 g _) rfl 1 (by decide) (List.mem_of_getElem? (i := 3) rfl) rfl dX2_readToken_99 ?_
        refine xv_icmp_ge C 134 hf dX2_readToken_102 (by decide) (fun _ hf => ?_) (fun _ hf => ?_)
        · exact xz_v hret hf dX2_readToken_134
        · refine xv_aload_n C dX2_readToken_105 rfl 0 rfl ?_
          refine xv_get C hiX2 1 (wX1 g _) rfl 0 (by decide) (List.mem_of_getElem? (i := 4) rfl) rfl dX2_readToken_106 ?_
          refine xv_aload_n C dX2_readToken_109 rfl 0 rfl ?_
          refine xv_get C hiX2 1 (wX1 g _) rfl 3 (by decide) (List.mem_of_getElem? (i := 1) rfl) rfl dX2_readToken_110 ?_
          refine xv_iald C 2 0 (wX2 g _) rfl hf dX2_readToken_113 (fun hf => ?_)
          obtain ⟨q2, hg, hf⟩ := dt_bind hf
          refine xc_i (xr_S C (As := [.int (a 2 ((a 1 3).toNatClampNeg))]) (fun l => c_X2_sortOf g hS l (a 2 ((a 1 3).toNatClampNeg)) a q2 hg) gX2_readToken_X2_sortOf rfl ⟨rfl, rfl⟩ hdS_X2_sortOf ⟨Nat.le_of_ble_eq_true rfl, Nat.le_of_ble_eq_true rfl⟩ rfl rfl (Nat.le_of_ble_eq_true rfl) dX2_readToken_114) ?_
          refine xv_iload_n C dX2_readToken_117 rfl 1 rfl ?_
          refine xv_icmp_ne C 134 hf dX2_readToken_118 (by decide) (fun _ hf => ?_) (fun _ hf => ?_)
          · refine xv_aload_n C dX2_readToken_121 rfl 0 rfl ?_
            refine xv_dup C dX2_readToken_122 rfl ?_
            refine xv_get C hiX2 1 (wX1 g _) rfl 3 (by decide) (List.mem_of_getElem? (i := 1) rfl) rfl dX2_readToken_123 ?_
            refine xv_iconst C 1 dX2_readToken_126 (by decide) ?_
            refine xv_iadd C dX2_readToken_127 ?_
            refine xv_put C hiX2 tyX2 tyX2_ok nmX2 1 (wX1 g _) rfl 3 (by decide) (List.mem_of_getElem? (i := 1) rfl) rfl (tyX2_ok 3 (by decide)) rfl rfl (Nat.le_of_ble_eq_true rfl) (up a 1 3 ((a 1 3) + 1)) (pX1_3 g _ _) dX2_readToken_128 ?_
            refine xv_goto C 89 dX2_readToken_131 (by decide) ?_
            exact ih (up a 1 3 ((a 1 3) + 1)) hf
          · exact xz_v hret hf dX2_readToken_134
  have hB46 : ∀  (a : St), B_X2_readToken_46 n a = some q → V K (sX g) 2 a [(0, .ref (aX g 1))] 46 [] := by
    intro a hf
    rw [B_X2_readToken_46] at hf
    refine xv_aload_n C dX2_readToken_46 rfl 0 rfl ?_
    refine xv_aload_n C dX2_readToken_47 rfl 0 rfl ?_
    refine xv_get C hiX2 1 (wX1 g _) rfl 2 (by decide) (List.mem_of_getElem? (i := 2) rfl) rfl dX2_readToken_48 ?_
    refine xv_put C hiX2 tyX2 tyX2_ok nmX2 1 (wX1 g _) rfl 3 (by decide) (List.mem_of_getElem? (i := 1) rfl) rfl (tyX2_ok 3 (by decide)) rfl rfl (Nat.le_of_ble_eq_true rfl) (up a 1 3 (a 1 2)) (pX1_3 g _ _) dX2_readToken_51 ?_
    refine xv_aload_n C dX2_readToken_54 rfl 0 rfl ?_
    refine xv_get C hiX2 1 (wX1 g _) rfl 2 (by decide) (List.mem_of_getElem? (i := 2) rfl) rfl dX2_readToken_55 ?_
    refine xv_aload_n C dX2_readToken_58 rfl 0 rfl ?_
    refine xv_get C hiX2 1 (wX1 g _) rfl 1 (by decide) (List.mem_of_getElem? (i := 3) rfl) rfl dX2_readToken_59 ?_
    refine xv_icmp_ne C 66 hf dX2_readToken_62 (by decide) (fun _ hf => ?_) (fun _ hf => ?_)
    · exact xz_v hret hf dX2_readToken_65
    · refine xv_aload_n C dX2_readToken_66 rfl 0 rfl ?_
      refine xv_get C hiX2 1 (wX1 g _) rfl 0 (by decide) (List.mem_of_getElem? (i := 4) rfl) rfl dX2_readToken_67 ?_
      refine xv_aload_n C dX2_readToken_70 rfl 0 rfl ?_
      refine xv_get C hiX2 1 (wX1 g _) rfl 2 (by decide) (List.mem_of_getElem? (i := 2) rfl) rfl dX2_readToken_71 ?_
      refine xv_iald C 2 0 (wX2 g _) rfl hf dX2_readToken_74 (fun hf => ?_)
      obtain ⟨q1, hg, hf⟩ := dt_bind hf
      refine xc_i (xr_S C (As := [.int ((up a 1 3 (a 1 2)) 2 (((up a 1 3 (a 1 2)) 1 2).toNatClampNeg))]) (fun l => c_X2_sortOf g hS l ((up a 1 3 (a 1 2)) 2 (((up a 1 3 (a 1 2)) 1 2).toNatClampNeg)) (up a 1 3 (a 1 2)) q1 hg) gX2_readToken_X2_sortOf rfl ⟨rfl, rfl⟩ hdS_X2_sortOf ⟨Nat.le_of_ble_eq_true rfl, Nat.le_of_ble_eq_true rfl⟩ rfl rfl (Nat.le_of_ble_eq_true rfl) dX2_readToken_75) ?_
      refine xv_istore_n C [(1, .int q1), (0, .ref (aX g 1))] dX2_readToken_78 rfl (by decide) rfl ?_
      refine xv_aload_n C dX2_readToken_79 rfl 1 rfl ?_
      refine xv_dup C dX2_readToken_80 rfl ?_
      refine xv_get C hiX2 1 (wX1 g _) rfl 3 (by decide) (List.mem_of_getElem? (i := 1) rfl) rfl dX2_readToken_81 ?_
      refine xv_iconst C 1 dX2_readToken_84 (by decide) ?_
      refine xv_iadd C dX2_readToken_85 ?_
      refine xv_put C hiX2 tyX2 tyX2_ok nmX2 1 (wX1 g _) rfl 3 (by decide) (List.mem_of_getElem? (i := 1) rfl) rfl (tyX2_ok 3 (by decide)) rfl rfl (Nat.le_of_ble_eq_true rfl) (up (up a 1 3 (a 1 2)) 1 3 (((up a 1 3 (a 1 2)) 1 3) + 1)) (pX1_3 g _ _) dX2_readToken_86 ?_
      refine xv_eq [1, 0] rfl ?_
      exact hL89 q1 n (up (up a 1 3 (a 1 2)) 1 3 (((up a 1 3 (a 1 2)) 1 3) + 1)) hf
  have hL8 : ∀  (j : Nat) (a : St), L_X2_readToken_8 n j a = some q → V K (sX g) 2 a [(0, .ref (aX g 1))] 8 [] := by
    intro j
    induction j with
    | zero =>
      intro a hf
      have hf : (none : Option St) = some q := hf
      cases hf
    | succ j ih =>
      intro a hf
      rw [L_X2_readToken_8] at hf
      refine xv_aload_n C dX2_readToken_8 rfl 0 rfl ?_
      refine xv_get C hiX2 1 (wX1 g _) rfl 2 (by decide) (List.mem_of_getElem? (i := 2) rfl) rfl dX2_readToken_9 ?_
      refine xv_aload_n C dX2_readToken_12 rfl 0 rfl ?_
      refine xv_get C hiX2 1 (wX1 g _) rfl 1 (by decide) (List.mem_of_getElem? (i := 3) rfl) rfl dX2_readToken_13 ?_
      refine xv_icmp_ge C 46 hf dX2_readToken_16 (by decide) (fun _ hf => ?_) (fun _ hf => ?_)
      · exact hB46 a hf
      · refine xv_aload_n C dX2_readToken_19 rfl 0 rfl ?_
        refine xv_get C hiX2 1 (wX1 g _) rfl 0 (by decide) (List.mem_of_getElem? (i := 4) rfl) rfl dX2_readToken_20 ?_
        refine xv_aload_n C dX2_readToken_23 rfl 0 rfl ?_
        refine xv_get C hiX2 1 (wX1 g _) rfl 2 (by decide) (List.mem_of_getElem? (i := 2) rfl) rfl dX2_readToken_24 ?_
        refine xv_iald C 2 0 (wX2 g _) rfl hf dX2_readToken_27 (fun hf => ?_)
        refine xv_bipush C 32 dX2_readToken_28 (by decide) ?_
        refine xv_icmp_ne C 46 hf dX2_readToken_30 (by decide) (fun _ hf => ?_) (fun _ hf => ?_)
        · refine xv_aload_n C dX2_readToken_33 rfl 0 rfl ?_
          refine xv_dup C dX2_readToken_34 rfl ?_
          refine xv_get C hiX2 1 (wX1 g _) rfl 2 (by decide) (List.mem_of_getElem? (i := 2) rfl) rfl dX2_readToken_35 ?_
          refine xv_iconst C 1 dX2_readToken_38 (by decide) ?_
          refine xv_iadd C dX2_readToken_39 ?_
          refine xv_put C hiX2 tyX2 tyX2_ok nmX2 1 (wX1 g _) rfl 2 (by decide) (List.mem_of_getElem? (i := 2) rfl) rfl (tyX2_ok 2 (by decide)) rfl rfl (Nat.le_of_ble_eq_true rfl) (up a 1 2 ((a 1 2) + 1)) (pX1_2 g _ _) dX2_readToken_40 ?_
          refine xv_goto C 8 dX2_readToken_43 (by decide) ?_
          exact ih (up a 1 2 ((a 1 2) + 1)) hf
        · exact hB46 a hf
  rw [f_X2_readToken] at hf
  show V K (sX g) 2 a [(0, .ref (aX g 1))] 0 []
  refine xv_aload_n C dX2_readToken_0 rfl 0 rfl ?_
  refine xv_aload_n C dX2_readToken_1 rfl 0 rfl ?_
  refine xv_get C hiX2 1 (wX1 g _) rfl 3 (by decide) (List.mem_of_getElem? (i := 1) rfl) rfl dX2_readToken_2 ?_
  refine xv_put C hiX2 tyX2 tyX2_ok nmX2 1 (wX1 g _) rfl 2 (by decide) (List.mem_of_getElem? (i := 2) rfl) rfl (tyX2_ok 2 (by decide)) rfl rfl (Nat.le_of_ble_eq_true rfl) (up a 1 2 (a 1 3)) (pX1_2 g _ _) dX2_readToken_5 ?_
  exact hL8 n (up a 1 2 (a 1 3)) hf
set_option maxRecDepth 100000 in
set_option maxHeartbeats 4000000 in
theorem c_X2_spellingOf (g : GX) (hS : xSide (sX g)) (l : Launch) (x0 : Int32) (a : St) (q : Nat) (hf : f_X2_spellingOf x0 = some q) : Met l yX2_spellingOf wsX2_spellingOf rm_X2_spellingOf (xPre (sX g) [.int x0] a) (xPostR (sX g) (kX g q) a) 0 0 (sX g).2.2.1 := by
  refine xm_r (av := [.int x0]) (cc := cX2_spellingOf) (maxL := 1) (by decide) rfl (Nat.le_of_ble_eq_true rfl) hS.1 hS.2 (fun K C hret => ?_)
  have C : CC K (sX g) cX2_spellingOf 1 wsX2_spellingOf "MirrorHour$Text" rm_X2_spellingOf := C
  rw [f_X2_spellingOf] at hf
  show V K (sX g) 1 a [(0, .int x0)] 0 []
  refine xv_iload_n C dX2_spellingOf_0 rfl 0 rfl ?_
  by_cases hs0 : x0 = 0
  · have hf := dt_pos hs0 hf
    refine xv_tin C (off := 63) 64 hs0 dX2_spellingOf_1 (by decide) (by decide) (by decide) (by decide) ?_
    refine xv_ldcS g C 0 (by decide) rfl dX2_spellingOf_64 ?_
    exact xz_sr hret hf dX2_spellingOf_66
  have hf := dt_neg hs0 hf
  by_cases hs1 : x0 = 1
  · have hf := dt_pos hs1 hf
    refine xv_tin C (off := 66) 67 hs1 dX2_spellingOf_1 (by decide) (by decide) (by decide) (by decide) ?_
    refine xv_ldcS g C 1 (by decide) rfl dX2_spellingOf_67 ?_
    exact xz_sr hret hf dX2_spellingOf_69
  have hf := dt_neg hs1 hf
  by_cases hs2 : x0 = 2
  · have hf := dt_pos hs2 hf
    refine xv_tin C (off := 69) 70 hs2 dX2_spellingOf_1 (by decide) (by decide) (by decide) (by decide) ?_
    refine xv_ldcS g C 2 (by decide) rfl dX2_spellingOf_70 ?_
    exact xz_sr hret hf dX2_spellingOf_72
  have hf := dt_neg hs2 hf
  by_cases hs3 : x0 = 3
  · have hf := dt_pos hs3 hf
    refine xv_tin C (off := 72) 73 hs3 dX2_spellingOf_1 (by decide) (by decide) (by decide) (by decide) ?_
    refine xv_ldcS g C 3 (by decide) rfl dX2_spellingOf_73 ?_
    exact xz_sr hret hf dX2_spellingOf_75
  have hf := dt_neg hs3 hf
  by_cases hs4 : x0 = 4
  · have hf := dt_pos hs4 hf
    refine xv_tin C (off := 75) 76 hs4 dX2_spellingOf_1 (by decide) (by decide) (by decide) (by decide) ?_
    refine xv_ldcS g C 4 (by decide) rfl dX2_spellingOf_76 ?_
    exact xz_sr hret hf dX2_spellingOf_78
  have hf := dt_neg hs4 hf
  by_cases hs5 : x0 = 5
  · have hf := dt_pos hs5 hf
    refine xv_tin C (off := 78) 79 hs5 dX2_spellingOf_1 (by decide) (by decide) (by decide) (by decide) ?_
    refine xv_ldcS g C 5 (by decide) rfl dX2_spellingOf_79 ?_
    exact xz_sr hret hf dX2_spellingOf_81
  have hf := dt_neg hs5 hf
  by_cases hs6 : x0 = 6
  · have hf := dt_pos hs6 hf
    refine xv_tin C (off := 81) 82 hs6 dX2_spellingOf_1 (by decide) (by decide) (by decide) (by decide) ?_
    refine xv_ldcS g C 6 (by decide) rfl dX2_spellingOf_82 ?_
    exact xz_sr hret hf dX2_spellingOf_84
  have hf := dt_neg hs6 hf
  by_cases hs7 : x0 = 7
  · have hf := dt_pos hs7 hf
    refine xv_tin C (off := 84) 85 hs7 dX2_spellingOf_1 (by decide) (by decide) (by decide) (by decide) ?_
    refine xv_ldcS g C 7 (by decide) rfl dX2_spellingOf_85 ?_
    exact xz_sr hret hf dX2_spellingOf_87
  have hf := dt_neg hs7 hf
  by_cases hs8 : x0 = 8
  · have hf := dt_pos hs8 hf
    refine xv_tin C (off := 87) 88 hs8 dX2_spellingOf_1 (by decide) (by decide) (by decide) (by decide) ?_
    refine xv_ldcS g C 8 (by decide) rfl dX2_spellingOf_88 ?_
    exact xz_sr hret hf dX2_spellingOf_90
  have hf := dt_neg hs8 hf
  by_cases hs9 : x0 = 9
  · have hf := dt_pos hs9 hf
    refine xv_tin C (off := 90) 91 hs9 dX2_spellingOf_1 (by decide) (by decide) (by decide) (by decide) ?_
    refine xv_ldcS g C 9 (by decide) rfl dX2_spellingOf_91 ?_
    exact xz_sr hret hf dX2_spellingOf_93
  have hf := dt_neg hs9 hf
  by_cases hs10 : x0 = 10
  · have hf := dt_pos hs10 hf
    refine xv_tin C (off := 93) 94 hs10 dX2_spellingOf_1 (by decide) (by decide) (by decide) (by decide) ?_
    refine xv_ldcS g C 10 (by decide) rfl dX2_spellingOf_94 ?_
    exact xz_sr hret hf dX2_spellingOf_96
  have hf := dt_neg hs10 hf
  by_cases hs11 : x0 = 11
  · have hf := dt_pos hs11 hf
    refine xv_tin C (off := 96) 97 hs11 dX2_spellingOf_1 (by decide) (by decide) (by decide) (by decide) ?_
    refine xv_ldcS g C 11 (by decide) rfl dX2_spellingOf_97 ?_
    exact xz_sr hret hf dX2_spellingOf_99
  have hf := dt_neg hs11 hf
  have e0 := lv_neT (a := 0) hs0 (by decide)
  have e1 := lv_neT (a := 1) hs1 (by decide)
  have e2 := lv_neT (a := 2) hs2 (by decide)
  have e3 := lv_neT (a := 3) hs3 (by decide)
  have e4 := lv_neT (a := 4) hs4 (by decide)
  have e5 := lv_neT (a := 5) hs5 (by decide)
  have e6 := lv_neT (a := 6) hs6 (by decide)
  have e7 := lv_neT (a := 7) hs7 (by decide)
  have e8 := lv_neT (a := 8) hs8 (by decide)
  have e9 := lv_neT (a := 9) hs9 (by decide)
  have e10 := lv_neT (a := 10) hs10 (by decide)
  have e11 := lv_neT (a := 11) hs11 (by decide)
  refine xv_tout C 100 dX2_spellingOf_1 (by omega) (by decide) ?_
  refine xv_ldcS g C 12 (by decide) rfl dX2_spellingOf_100 ?_
  exact xz_sr hret hf dX2_spellingOf_102
set_option maxRecDepth 100000 in
set_option maxHeartbeats 4000000 in
theorem c_X2_spells (g : GX) (hS : xSide (sX g)) (l : Launch) (n : Nat) (x1 : Nat) (a : St) (q : Int32) (hf : f_X2_spells n x1 a = some q) : Met l yX2_spells wsX2_spells rm_X2_spells (xPre (sX g) [.ref (aX g 1), .ref (kX g x1)] a) (xPostI (sX g) q a) 0 0 (sX g).2.2.1 := by
  refine xm_z (av := [.ref (aX g 1), .ref (kX g x1)]) (cc := cX2_spells) (maxL := 3) (by decide) rfl (Nat.le_of_ble_eq_true rfl) hS.1 hS.2 (fun K C hret => ?_)
  have C : CC K (sX g) cX2_spells 3 wsX2_spells "MirrorHour$Text" rm_X2_spells := C
  have hiX2 : ∀ w ∈ u_ws RX2 TX2 9, w ∈ wsX2_spells := fun w h => List.mem_cons_of_mem _ (List.mem_append_right _ h)
  have hL20 : ∀ (x1 : Nat)  (j : Nat) (x2 : Int32), L_X2_spells_20 n x1 a j x2 = some q → V K (sX g) 3 a [(0, .ref (aX g 1)), (1, .ref (kX g x1)), (2, .int x2)] 20 [] := by
    intro x1 j
    induction j with
    | zero =>
      intro x2 hf
      have hf : (none : Option Int32) = some q := hf
      cases hf
    | succ j ih =>
      intro x2 hf
      rw [L_X2_spells_20] at hf
      refine xv_iload_n C dX2_spells_20 rfl 2 rfl ?_
      refine xv_aload_n C dX2_spells_21 rfl 1 rfl ?_
      obtain ⟨q2, hg, hf⟩ := dt_bind hf
      refine xc_i (xr_VS g C (sx_J0_len hg) (As := []) (fun l => c_J0_length_8abf5 g hS l x1 a q2 hg) gX2_spells_J0_length_8abf5 rfl ⟨rfl, rfl⟩ hdV_J0_length_8abf5 ⟨Nat.le_of_ble_eq_true rfl, Nat.le_of_ble_eq_true rfl⟩ rfl rfl (Nat.le_of_ble_eq_true rfl) dX2_spells_22) ?_
      refine xv_icmp_ge C 55 hf dX2_spells_25 (by decide) (fun _ hf => ?_) (fun _ hf => ?_)
      · refine xv_iconst C 1 dX2_spells_55 (by decide) ?_
        exact xz_zr hret hf (by decide) dX2_spells_56
      · refine xv_aload_n C dX2_spells_28 rfl 0 rfl ?_
        refine xv_get C hiX2 1 (wX1 g _) rfl 0 (by decide) (List.mem_of_getElem? (i := 3) rfl) rfl dX2_spells_29 ?_
        refine xv_aload_n C dX2_spells_32 rfl 0 rfl ?_
        refine xv_get C hiX2 1 (wX1 g _) rfl 2 (by decide) (List.mem_of_getElem? (i := 2) rfl) rfl dX2_spells_33 ?_
        refine xv_iload_n C dX2_spells_36 rfl 2 rfl ?_
        refine xv_iadd C dX2_spells_37 ?_
        refine xv_iald C 2 0 (wX2 g _) rfl hf dX2_spells_38 (fun hf => ?_)
        refine xv_aload_n C dX2_spells_39 rfl 1 rfl ?_
        refine xv_iload_n C dX2_spells_40 rfl 2 rfl ?_
        obtain ⟨q3, hg, hf⟩ := dt_bind hf
        refine xc_i (xr_VS g C (sx_J0_cha hg) (As := [.int x2]) (fun l => c_J0_charAt_5068e g hS l x1 x2 a q3 hg) gX2_spells_J0_charAt_5068e rfl ⟨rfl, rfl⟩ hdV_J0_charAt_5068e ⟨Nat.le_of_ble_eq_true rfl, Nat.le_of_ble_eq_true rfl⟩ rfl rfl (Nat.le_of_ble_eq_true rfl) dX2_spells_41) ?_
        refine xv_icmp_eq C 49 hf dX2_spells_44 (by decide) (fun _ hf => ?_) (fun _ hf => ?_)
        · refine xv_iinc C [(2, .int (x2 + 1)), (0, .ref (aX g 1)), (1, .ref (kX g x1))] dX2_spells_49 2 rfl rfl (by decide) rfl ?_
          refine xv_goto C 20 dX2_spells_52 (by decide) ?_
          refine xv_eq [1, 2, 0] rfl ?_
          exact ih (x2 + 1) hf
        · refine xv_iconst C 0 dX2_spells_47 (by decide) ?_
          exact xz_zr hret hf (by decide) dX2_spells_48
  rw [f_X2_spells] at hf
  show V K (sX g) 3 a [(0, .ref (aX g 1)), (1, .ref (kX g x1))] 0 []
  refine xv_aload_n C dX2_spells_0 rfl 0 rfl ?_
  refine xv_get C hiX2 1 (wX1 g _) rfl 3 (by decide) (List.mem_of_getElem? (i := 1) rfl) rfl dX2_spells_1 ?_
  refine xv_aload_n C dX2_spells_4 rfl 0 rfl ?_
  refine xv_get C hiX2 1 (wX1 g _) rfl 2 (by decide) (List.mem_of_getElem? (i := 2) rfl) rfl dX2_spells_5 ?_
  refine xv_isub C dX2_spells_8 ?_
  refine xv_aload_n C dX2_spells_9 rfl 1 rfl ?_
  obtain ⟨q1, hg, hf⟩ := dt_bind hf
  refine xc_i (xr_VS g C (sx_J0_len hg) (As := []) (fun l => c_J0_length_8abf5 g hS l x1 a q1 hg) gX2_spells_J0_length_8abf5 rfl ⟨rfl, rfl⟩ hdV_J0_length_8abf5 ⟨Nat.le_of_ble_eq_true rfl, Nat.le_of_ble_eq_true rfl⟩ rfl rfl (Nat.le_of_ble_eq_true rfl) dX2_spells_10) ?_
  refine xv_icmp_eq C 18 hf dX2_spells_13 (by decide) (fun _ hf => ?_) (fun _ hf => ?_)
  · refine xv_iconst C 0 dX2_spells_18 (by decide) ?_
    refine xv_istore_n C [(2, .int 0), (0, .ref (aX g 1)), (1, .ref (kX g x1))] dX2_spells_19 rfl (by decide) rfl ?_
    refine xv_eq [1, 2, 0] rfl ?_
    exact hL20 x1 n 0 hf
  · refine xv_iconst C 0 dX2_spells_16 (by decide) ?_
    exact xz_zr hret hf (by decide) dX2_spells_17
set_option maxRecDepth 100000 in
set_option maxHeartbeats 4000000 in
theorem c_X2_wordRead (g : GX) (hS : xSide (sX g)) (l : Launch) (n : Nat) (a : St) (q : Int32) (hf : f_X2_wordRead n a = some q) : Met l yX2_wordRead wsX2_wordRead rm_X2_wordRead (xPre (sX g) [.ref (aX g 1)] a) (xPostI (sX g) q a) 0 0 (sX g).2.2.1 := by
  refine xm_i (av := [.ref (aX g 1)]) (cc := cX2_wordRead) (maxL := 2) (by decide) rfl (Nat.le_of_ble_eq_true rfl) hS.1 hS.2 (fun K C hret => ?_)
  have C : CC K (sX g) cX2_wordRead 2 wsX2_wordRead "MirrorHour$Text" rm_X2_wordRead := C
  have hL2 : ∀  (j : Nat) (x1 : Int32), L_X2_wordRead_2 n a j x1 = some q → V K (sX g) 2 a [(0, .ref (aX g 1)), (1, .int x1)] 2 [] := by
    intro j
    induction j with
    | zero =>
      intro x1 hf
      have hf : (none : Option Int32) = some q := hf
      cases hf
    | succ j ih =>
      intro x1 hf
      rw [L_X2_wordRead_2] at hf
      refine xv_iload_n C dX2_wordRead_2 rfl 1 rfl ?_
      refine xv_bipush C 12 dX2_wordRead_3 (by decide) ?_
      refine xv_icmp_gt C 27 hf dX2_wordRead_5 (by decide) (fun _ hf => ?_) (fun _ hf => ?_)
      · refine xv_iconst C (-1) dX2_wordRead_27 (by decide) ?_
        exact xz_ir hret hf dX2_wordRead_28
      · refine xv_aload_n C dX2_wordRead_8 rfl 0 rfl ?_
        refine xv_iload_n C dX2_wordRead_9 rfl 1 rfl ?_
        obtain ⟨q1, hg, hf⟩ := dt_bind hf
        refine xc_r (xr_S C (As := [.int x1]) (fun l => c_X2_spellingOf g hS l x1 a q1 hg) gX2_wordRead_X2_spellingOf rfl ⟨rfl, rfl⟩ hdS_X2_spellingOf ⟨Nat.le_of_ble_eq_true rfl, Nat.le_of_ble_eq_true rfl⟩ rfl rfl (Nat.le_of_ble_eq_true rfl) dX2_wordRead_10) ?_
        obtain ⟨q2, hg, hf⟩ := dt_bind hf
        refine xc_i (xr_V C (ci := 2) (As := [.ref (kX g q1)]) (fun l => c_X2_spells g hS l n q1 a q2 hg) gX2_wordRead_X2_spells rfl ⟨rfl, rfl⟩ hdV_X2_spells ⟨Nat.le_of_ble_eq_true rfl, Nat.le_of_ble_eq_true rfl⟩ 1 rfl rfl (wX1 g _) rfl rfl (Nat.le_of_ble_eq_true rfl) dX2_wordRead_13) ?_
        refine xv_if_eq C (y := 0) 21 hf dX2_wordRead_16 (by decide) (fun _ hf => ?_) (fun _ hf => ?_)
        · refine xv_iinc C [(1, .int (x1 + 1)), (0, .ref (aX g 1))] dX2_wordRead_21 1 rfl rfl (by decide) rfl ?_
          refine xv_goto C 2 dX2_wordRead_24 (by decide) ?_
          refine xv_eq [1, 0] rfl ?_
          exact ih (x1 + 1) hf
        · refine xv_iload_n C dX2_wordRead_19 rfl 1 rfl ?_
          exact xz_ir hret hf dX2_wordRead_20
  rw [f_X2_wordRead] at hf
  show V K (sX g) 2 a [(0, .ref (aX g 1))] 0 []
  refine xv_iconst C 0 dX2_wordRead_0 (by decide) ?_
  refine xv_istore_n C [(1, .int 0), (0, .ref (aX g 1))] dX2_wordRead_1 rfl (by decide) rfl ?_
  refine xv_eq [1, 0] rfl ?_
  exact hL2 n 0 hf
set_option maxRecDepth 100000 in
set_option maxHeartbeats 4000000 in
theorem c_X2_formOf (g : GX) (hS : xSide (sX g)) (l : Launch) (x0 : Int32) (a : St) (q : Nat) (hf : f_X2_formOf x0 = some q) : Met l yX2_formOf wsX2_formOf rm_X2_formOf (xPre (sX g) [.int x0] a) (xPostR (sX g) (kX g q) a) 0 0 (sX g).2.2.1 := by
  refine xm_r (av := [.int x0]) (cc := cX2_formOf) (maxL := 1) (by decide) rfl (Nat.le_of_ble_eq_true rfl) hS.1 hS.2 (fun K C hret => ?_)
  have C : CC K (sX g) cX2_formOf 1 wsX2_formOf "MirrorHour$Text" rm_X2_formOf := C
  rw [f_X2_formOf] at hf
  show V K (sX g) 1 a [(0, .int x0)] 0 []
  refine xv_iload_n C dX2_formOf_0 rfl 0 rfl ?_
  by_cases hs0 : x0 = 4
  · have hf := dt_pos hs0 hf
    refine xv_tin C (off := 51) 52 hs0 dX2_formOf_1 (by decide) (by decide) (by decide) (by decide) ?_
    refine xv_ldcS g C 13 (by decide) rfl dX2_formOf_52 ?_
    exact xz_sr hret hf dX2_formOf_54
  have hf := dt_neg hs0 hf
  by_cases hs1 : x0 = 5
  · have hf := dt_pos hs1 hf
    refine xv_tin C (off := 54) 55 hs1 dX2_formOf_1 (by decide) (by decide) (by decide) (by decide) ?_
    refine xv_ldcS g C 14 (by decide) rfl dX2_formOf_55 ?_
    exact xz_sr hret hf dX2_formOf_57
  have hf := dt_neg hs1 hf
  by_cases hs2 : x0 = 6
  · have hf := dt_pos hs2 hf
    refine xv_tin C (off := 57) 58 hs2 dX2_formOf_1 (by decide) (by decide) (by decide) (by decide) ?_
    refine xv_ldcS g C 15 (by decide) rfl dX2_formOf_58 ?_
    exact xz_sr hret hf dX2_formOf_60
  have hf := dt_neg hs2 hf
  by_cases hs3 : x0 = 7
  · have hf := dt_pos hs3 hf
    refine xv_tin C (off := 60) 61 hs3 dX2_formOf_1 (by decide) (by decide) (by decide) (by decide) ?_
    refine xv_ldcS g C 16 (by decide) rfl dX2_formOf_61 ?_
    exact xz_sr hret hf dX2_formOf_63
  have hf := dt_neg hs3 hf
  by_cases hs4 : x0 = 8
  · have hf := dt_pos hs4 hf
    refine xv_tin C (off := 63) 64 hs4 dX2_formOf_1 (by decide) (by decide) (by decide) (by decide) ?_
    refine xv_ldcS g C 17 (by decide) rfl dX2_formOf_64 ?_
    exact xz_sr hret hf dX2_formOf_66
  have hf := dt_neg hs4 hf
  by_cases hs5 : x0 = 9
  · have hf := dt_pos hs5 hf
    refine xv_tin C (off := 57) 58 hs5 dX2_formOf_1 (by decide) (by decide) (by decide) (by decide) ?_
    refine xv_ldcS g C 15 (by decide) rfl dX2_formOf_58 ?_
    exact xz_sr hret hf dX2_formOf_60
  have hf := dt_neg hs5 hf
  by_cases hs6 : x0 = 10
  · have hf := dt_pos hs6 hf
    refine xv_tin C (off := 66) 67 hs6 dX2_formOf_1 (by decide) (by decide) (by decide) (by decide) ?_
    refine xv_ldcS g C 18 (by decide) rfl dX2_formOf_67 ?_
    exact xz_sr hret hf dX2_formOf_69
  have hf := dt_neg hs6 hf
  by_cases hs7 : x0 = 11
  · have hf := dt_pos hs7 hf
    refine xv_tin C (off := 69) 70 hs7 dX2_formOf_1 (by decide) (by decide) (by decide) (by decide) ?_
    refine xv_ldcS g C 19 (by decide) rfl dX2_formOf_70 ?_
    exact xz_sr hret hf dX2_formOf_72
  have hf := dt_neg hs7 hf
  by_cases hs8 : x0 = 12
  · have hf := dt_pos hs8 hf
    refine xv_tin C (off := 69) 70 hs8 dX2_formOf_1 (by decide) (by decide) (by decide) (by decide) ?_
    refine xv_ldcS g C 19 (by decide) rfl dX2_formOf_70 ?_
    exact xz_sr hret hf dX2_formOf_72
  have hf := dt_neg hs8 hf
  have e0 := lv_neT (a := 4) hs0 (by decide)
  have e1 := lv_neT (a := 5) hs1 (by decide)
  have e2 := lv_neT (a := 6) hs2 (by decide)
  have e3 := lv_neT (a := 7) hs3 (by decide)
  have e4 := lv_neT (a := 8) hs4 (by decide)
  have e5 := lv_neT (a := 9) hs5 (by decide)
  have e6 := lv_neT (a := 10) hs6 (by decide)
  have e7 := lv_neT (a := 11) hs7 (by decide)
  have e8 := lv_neT (a := 12) hs8 (by decide)
  refine xv_tout C 73 dX2_formOf_1 (by omega) (by decide) ?_
  refine xv_ldcS g C 20 (by decide) rfl dX2_formOf_73 ?_
  exact xz_sr hret hf dX2_formOf_75
set_option maxRecDepth 100000 in
set_option maxHeartbeats 4000000 in
theorem c_X2_number (g : GX) (hS : xSide (sX g)) (l : Launch) (x1 : Int32) (x2 : Int32) (a : St) (q : Int32) (hf : f_X2_number x1 x2 a = some q) : Met l yX2_number wsX2_number rm_X2_number (xPre (sX g) [.ref (aX g 1), .int x1, .int x2] a) (xPostI (sX g) q a) 0 0 (sX g).2.2.1 := by
  refine xm_i (av := [.ref (aX g 1), .int x1, .int x2]) (cc := cX2_number) (maxL := 3) (by decide) rfl (Nat.le_of_ble_eq_true rfl) hS.1 hS.2 (fun K C hret => ?_)
  have C : CC K (sX g) cX2_number 3 wsX2_number "MirrorHour$Text" rm_X2_number := C
  have hiX2 : ∀ w ∈ u_ws RX2 TX2 9, w ∈ wsX2_number := fun w h => List.mem_cons_of_mem _ (List.mem_append_right _ h)
  rw [f_X2_number] at hf
  show V K (sX g) 3 a [(0, .ref (aX g 1)), (1, .int x1), (2, .int x2)] 0 []
  refine xv_aload_n C dX2_number_0 rfl 0 rfl ?_
  refine xv_get C hiX2 1 (wX1 g _) rfl 7 (by decide) (List.mem_of_getElem? (i := 1) rfl) rfl dX2_number_1 ?_
  refine xv_iload_n C dX2_number_4 rfl 1 rfl ?_
  refine xv_iconst C 4 dX2_number_5 (by decide) ?_
  refine xv_imul C dX2_number_6 ?_
  refine xv_iload_n C dX2_number_7 rfl 2 rfl ?_
  refine xv_iadd C dX2_number_8 ?_
  refine xv_iald C 4 0 (wX4 g _) rfl hf dX2_number_9 (fun hf => ?_)
  exact xz_ir hret hf dX2_number_10
set_option maxRecDepth 100000 in
set_option maxHeartbeats 4000000 in
theorem c_X2_numberRead (g : GX) (hS : xSide (sX g)) (l : Launch) (n : Nat) (a : St) (q : Int32) (hf : f_X2_numberRead n a = some q) : Met l yX2_numberRead wsX2_numberRead rm_X2_numberRead (xPre (sX g) [.ref (aX g 1)] a) (xPostI (sX g) q a) 0 0 (sX g).2.2.1 := by
  refine xm_i (av := [.ref (aX g 1)]) (cc := cX2_numberRead) (maxL := 3) (by decide) rfl (Nat.le_of_ble_eq_true rfl) hS.1 hS.2 (fun K C hret => ?_)
  have C : CC K (sX g) cX2_numberRead 3 wsX2_numberRead "MirrorHour$Text" rm_X2_numberRead := C
  have hiX2 : ∀ w ∈ u_ws RX2 TX2 9, w ∈ wsX2_numberRead := fun w h => List.mem_cons_of_mem _ (List.mem_append_right _ h)
  have hL42 : ∀  (j : Nat) (x1 : Int32) (x2 : Int32), L_X2_numberRead_42 n a j x1 x2 = some q → V K (sX g) 3 a [(0, .ref (aX g 1)), (1, .int x1), (2, .int x2)] 42 [] := by
    intro j
    induction j with
    | zero =>
      intro x1 x2 hf
      have hf : (none : Option Int32) = some q := hf
      cases hf
    | succ j ih =>
      intro x1 x2 hf
      rw [L_X2_numberRead_42] at hf
      refine xv_iload_n C dX2_numberRead_42 rfl 2 rfl ?_
      refine xv_aload_n C dX2_numberRead_43 rfl 0 rfl ?_
      refine xv_get C hiX2 1 (wX1 g _) rfl 3 (by decide) (List.mem_of_getElem? (i := 1) rfl) rfl dX2_numberRead_44 ?_
      refine xv_icmp_ge C 71 hf dX2_numberRead_47 (by decide) (fun _ hf => ?_) (fun _ hf => ?_)
      · refine xv_iload_n C dX2_numberRead_71 rfl 1 rfl ?_
        exact xz_ir hret hf dX2_numberRead_72
      · refine xv_iload_n C dX2_numberRead_50 rfl 1 rfl ?_
        refine xv_bipush C 10 dX2_numberRead_51 (by decide) ?_
        refine xv_imul C dX2_numberRead_53 ?_
        refine xv_aload_n C dX2_numberRead_54 rfl 0 rfl ?_
        refine xv_get C hiX2 1 (wX1 g _) rfl 0 (by decide) (List.mem_of_getElem? (i := 3) rfl) rfl dX2_numberRead_55 ?_
        refine xv_iload_n C dX2_numberRead_58 rfl 2 rfl ?_
        refine xv_iald C 2 0 (wX2 g _) rfl hf dX2_numberRead_59 (fun hf => ?_)
        refine xv_iadd C dX2_numberRead_60 ?_
        refine xv_bipush C 48 dX2_numberRead_61 (by decide) ?_
        refine xv_isub C dX2_numberRead_63 ?_
        refine xv_istore_n C [(1, .int (((x1 * 10) + (a 2 x2.toNatClampNeg)) - 48)), (0, .ref (aX g 1)), (2, .int x2)] dX2_numberRead_64 rfl (by decide) rfl ?_
        refine xv_iinc C [(2, .int (x2 + 1)), (1, .int (((x1 * 10) + (a 2 x2.toNatClampNeg)) - 48)), (0, .ref (aX g 1))] dX2_numberRead_65 2 rfl rfl (by decide) rfl ?_
        refine xv_goto C 42 dX2_numberRead_68 (by decide) ?_
        refine xv_eq [2, 1, 0] rfl ?_
        exact ih (((x1 * 10) + (a 2 x2.toNatClampNeg)) - 48) (x2 + 1) hf
  rw [f_X2_numberRead] at hf
  show V K (sX g) 3 a [(0, .ref (aX g 1))] 0 []
  refine xv_aload_n C dX2_numberRead_0 rfl 0 rfl ?_
  refine xv_get C hiX2 1 (wX1 g _) rfl 3 (by decide) (List.mem_of_getElem? (i := 1) rfl) rfl dX2_numberRead_1 ?_
  refine xv_aload_n C dX2_numberRead_4 rfl 0 rfl ?_
  refine xv_get C hiX2 1 (wX1 g _) rfl 2 (by decide) (List.mem_of_getElem? (i := 2) rfl) rfl dX2_numberRead_5 ?_
  refine xv_isub C dX2_numberRead_8 ?_
  refine xv_iconst C 1 dX2_numberRead_9 (by decide) ?_
  refine xv_iconst C 2 dX2_numberRead_10 (by decide) ?_
  obtain ⟨q1, hg, hf⟩ := dt_bind hf
  refine xc_i (xr_SN C (As := [.int ((a 1 3) - (a 1 2)), .int 1, .int 2]) (fun l => c_X5_within (sX g) hS l ((a 1 3) - (a 1 2)) 1 2 a q1 hg) gX2_numberRead_X5_within_n73 rfl ⟨rfl, rfl⟩ (fun U H h => h.1 _ (List.mem_of_getElem? (i := 35) rfl)) (List.mem_of_getElem? (i := 5) rfl) (List.mem_of_getElem? (i := 4) rfl) hdS_X5_within ⟨Nat.le_of_ble_eq_true rfl, Nat.le_of_ble_eq_true rfl⟩ rfl rfl (Nat.le_of_ble_eq_true rfl) dX2_numberRead_11) ?_
  refine xv_if_eq C (y := 0) 33 hf dX2_numberRead_14 (by decide) (fun _ hf => ?_) (fun _ hf => ?_)
  · refine xv_iconst C (-1) dX2_numberRead_33 (by decide) ?_
    exact xz_ir hret hf dX2_numberRead_34
  · refine xv_aload_n C dX2_numberRead_17 rfl 0 rfl ?_
    refine xv_get C hiX2 1 (wX1 g _) rfl 0 (by decide) (List.mem_of_getElem? (i := 3) rfl) rfl dX2_numberRead_18 ?_
    refine xv_aload_n C dX2_numberRead_21 rfl 0 rfl ?_
    refine xv_get C hiX2 1 (wX1 g _) rfl 2 (by decide) (List.mem_of_getElem? (i := 2) rfl) rfl dX2_numberRead_22 ?_
    refine xv_iald C 2 0 (wX2 g _) rfl hf dX2_numberRead_25 (fun hf => ?_)
    obtain ⟨q2, hg, hf⟩ := dt_bind hf
    refine xc_i (xr_S C (As := [.int (a 2 ((a 1 2).toNatClampNeg))]) (fun l => c_X2_sortOf g hS l (a 2 ((a 1 2).toNatClampNeg)) a q2 hg) gX2_numberRead_X2_sortOf rfl ⟨rfl, rfl⟩ hdS_X2_sortOf ⟨Nat.le_of_ble_eq_true rfl, Nat.le_of_ble_eq_true rfl⟩ rfl rfl (Nat.le_of_ble_eq_true rfl) dX2_numberRead_26) ?_
    refine xv_iconst C 1 dX2_numberRead_29 (by decide) ?_
    refine xv_icmp_eq C 35 hf dX2_numberRead_30 (by decide) (fun _ hf => ?_) (fun _ hf => ?_)
    · refine xv_iconst C 0 dX2_numberRead_35 (by decide) ?_
      refine xv_istore_n C [(1, .int 0), (0, .ref (aX g 1))] dX2_numberRead_36 rfl (by decide) rfl ?_
      refine xv_aload_n C dX2_numberRead_37 rfl 1 rfl ?_
      refine xv_get C hiX2 1 (wX1 g _) rfl 2 (by decide) (List.mem_of_getElem? (i := 2) rfl) rfl dX2_numberRead_38 ?_
      refine xv_istore_n C [(2, .int (a 1 2)), (1, .int 0), (0, .ref (aX g 1))] dX2_numberRead_41 rfl (by decide) rfl ?_
      refine xv_eq [2, 1, 0] rfl ?_
      exact hL42 n 0 (a 1 2) hf
    · refine xv_iconst C (-1) dX2_numberRead_33 (by decide) ?_
      exact xz_ir hret hf dX2_numberRead_34
set_option maxRecDepth 100000 in
set_option maxHeartbeats 4000000 in
theorem c_X2_leastOf (g : GX) (hS : xSide (sX g)) (l : Launch) (x0 : Int32) (a : St) (q : Int32) (hf : f_X2_leastOf x0 = some q) : Met l yX2_leastOf wsX2_leastOf rm_X2_leastOf (xPre (sX g) [.int x0] a) (xPostI (sX g) q a) 0 0 (sX g).2.2.1 := by
  refine xm_i (av := [.int x0]) (cc := cX2_leastOf) (maxL := 1) (by decide) rfl (Nat.le_of_ble_eq_true rfl) hS.1 hS.2 (fun K C hret => ?_)
  have C : CC K (sX g) cX2_leastOf 1 wsX2_leastOf "MirrorHour$Text" rm_X2_leastOf := C
  rw [f_X2_leastOf] at hf
  show V K (sX g) 1 a [(0, .int x0)] 0 []
  refine xv_iload_n C dX2_leastOf_0 rfl 0 rfl ?_
  refine xv_bipush C 78 dX2_leastOf_1 (by decide) ?_
  refine xv_icmp_ne C 10 hf dX2_leastOf_3 (by decide) (fun _ hf => ?_) (fun _ hf => ?_)
  · refine xv_iconst C 2 dX2_leastOf_6 (by decide) ?_
    refine xv_goto C 11 dX2_leastOf_7 (by decide) ?_
    exact xz_ir hret hf dX2_leastOf_11
  · refine xv_iconst C 0 dX2_leastOf_10 (by decide) ?_
    exact xz_ir hret hf dX2_leastOf_11
set_option maxRecDepth 100000 in
set_option maxHeartbeats 4000000 in
theorem c_X2_mostOf (g : GX) (hS : xSide (sX g)) (l : Launch) (x1 : Int32) (a : St) (q : Int32) (hf : f_X2_mostOf x1 a = some q) : Met l yX2_mostOf wsX2_mostOf rm_X2_mostOf (xPre (sX g) [.ref (aX g 1), .int x1] a) (xPostI (sX g) q a) 0 0 (sX g).2.2.1 := by
  refine xm_i (av := [.ref (aX g 1), .int x1]) (cc := cX2_mostOf) (maxL := 2) (by decide) rfl (Nat.le_of_ble_eq_true rfl) hS.1 hS.2 (fun K C hret => ?_)
  have C : CC K (sX g) cX2_mostOf 2 wsX2_mostOf "MirrorHour$Text" rm_X2_mostOf := C
  have hiX2 : ∀ w ∈ u_ws RX2 TX2 9, w ∈ wsX2_mostOf := fun w h => List.mem_cons_of_mem _ (List.mem_append_right _ h)
  rw [f_X2_mostOf] at hf
  show V K (sX g) 2 a [(0, .ref (aX g 1)), (1, .int x1)] 0 []
  refine xv_iload_n C dX2_mostOf_0 rfl 1 rfl ?_
  by_cases hs0 : x1 = 65
  · have hf := dt_pos hs0 hf
    refine xv_look C (off := 46) 47 dX2_mostOf_1 (by decide) (by rw [hs0]; decide) (by decide) ?_
    refine xv_aload_n C dX2_mostOf_47 rfl 0 rfl ?_
    refine xv_get C hiX2 1 (wX1 g _) rfl 4 (by decide) (List.mem_of_getElem? (i := 1) rfl) rfl dX2_mostOf_48 ?_
    refine xv_iconst C 1 dX2_mostOf_51 (by decide) ?_
    refine xv_isub C dX2_mostOf_52 ?_
    exact xz_ir hret hf dX2_mostOf_53
  have hf := dt_neg hs0 hf
  by_cases hs1 : x1 = 68
  · have hf := dt_pos hs1 hf
    refine xv_look C (off := 53) 54 dX2_mostOf_1 (by decide) (by rw [hs1]; decide) (by decide) ?_
    refine xv_aload_n C dX2_mostOf_54 rfl 0 rfl ?_
    refine xv_get C hiX2 1 (wX1 g _) rfl 5 (by decide) (List.mem_of_getElem? (i := 2) rfl) rfl dX2_mostOf_55 ?_
    refine xv_iconst C 1 dX2_mostOf_58 (by decide) ?_
    refine xv_isub C dX2_mostOf_59 ?_
    exact xz_ir hret hf dX2_mostOf_60
  have hf := dt_neg hs1 hf
  by_cases hs2 : x1 = 78
  · have hf := dt_pos hs2 hf
    refine xv_look C (off := 43) 44 dX2_mostOf_1 (by decide) (by rw [hs2]; decide) (by decide) ?_
    refine xv_bipush C 8 dX2_mostOf_44 (by decide) ?_
    exact xz_ir hret hf dX2_mostOf_46
  have hf := dt_neg hs2 hf
  by_cases hs3 : x1 = 83
  · have hf := dt_pos hs3 hf
    refine xv_look C (off := 60) 61 dX2_mostOf_1 (by decide) (by rw [hs3]; decide) (by decide) ?_
    refine xv_bipush C 15 dX2_mostOf_61 (by decide) ?_
    exact xz_ir hret hf dX2_mostOf_63
  have hf := dt_neg hs3 hf
  refine xv_look C (off := 63) 64 dX2_mostOf_1 (by decide) (by show Op.lookupswitch.offset [(65, 46), (68, 53), (78, 43), (83, 60)] 63 _ = _; rw [lv_osw hs0 (by decide), lv_osw hs1 (by decide), lv_osw hs2 (by decide), lv_osw hs3 (by decide)]; rfl) (by decide) ?_
  refine xv_bipush C 9 dX2_mostOf_64 (by decide) ?_
  exact xz_ir hret hf dX2_mostOf_66
set_option maxRecDepth 100000 in
set_option maxHeartbeats 4000000 in
theorem c_X2_readLine (g : GX) (hS : xSide (sX g)) (l : Launch) (n : Nat) (a : St) (q : (Int32 × St)) (hf : f_X2_readLine n a = some q) : Met l yX2_readLine wsX2_readLine rm_X2_readLine (xPre (sX g) [.ref (aX g 1)] a) (xPostI (sX g) q.1 q.2) 0 0 (sX g).2.2.1 := by
  refine xm_z (av := [.ref (aX g 1)]) (cc := cX2_readLine) (maxL := 5) (by decide) rfl (Nat.le_of_ble_eq_true rfl) hS.1 hS.2 (fun K C hret => ?_)
  have C : CC K (sX g) cX2_readLine 5 wsX2_readLine "MirrorHour$Text" rm_X2_readLine := C
  have hiX2 : ∀ w ∈ u_ws RX2 TX2 9, w ∈ wsX2_readLine := fun w h => List.mem_cons_of_mem _ (List.mem_append_right _ h)
  have hB140 : ∀ (x1 : Int32)  (a : St), B_X2_readLine_140 n x1 a = some q → V K (sX g) 5 a [(0, .ref (aX g 1)), (1, .int x1)] 140 [] := by
    intro x1 a hf
    rw [B_X2_readLine_140] at hf
    refine xv_iload_n C dX2_readLine_140 rfl 1 rfl ?_
    refine xv_iconst C 4 dX2_readLine_141 (by decide) ?_
    refine xv_icmp_ne C 166 hf dX2_readLine_142 (by decide) (fun _ hf => ?_) (fun _ hf => ?_)
    · refine xv_aload_n C dX2_readLine_145 rfl 0 rfl ?_
      refine xv_aload_n C dX2_readLine_146 rfl 0 rfl ?_
      refine xv_aload_n C dX2_readLine_147 rfl 0 rfl ?_
      refine xv_get C hiX2 1 (wX1 g _) rfl 8 (by decide) (List.mem_of_getElem? (i := 3) rfl) rfl dX2_readLine_148 ?_
      refine xv_iconst C 0 dX2_readLine_151 (by decide) ?_
      obtain ⟨q5, hg, hf⟩ := dt_bind hf
      refine xc_i (xr_V C (ci := 2) (As := [.int (a 1 8), .int 0]) (fun l => c_X2_number g hS l (a 1 8) 0 a q5 hg) gX2_readLine_X2_number rfl ⟨rfl, rfl⟩ hdV_X2_number ⟨Nat.le_of_ble_eq_true rfl, Nat.le_of_ble_eq_true rfl⟩ 1 rfl rfl (wX1 g _) rfl rfl (Nat.le_of_ble_eq_true rfl) dX2_readLine_152) ?_
      refine xv_put C hiX2 tyX2 tyX2_ok nmX2 1 (wX1 g _) rfl 4 (by decide) (List.mem_of_getElem? (i := 5) rfl) rfl (tyX2_ok 4 (by decide)) rfl rfl (Nat.le_of_ble_eq_true rfl) (up a 1 4 q5) (pX1_4 g _ _) dX2_readLine_155 ?_
      refine xv_aload_n C dX2_readLine_158 rfl 0 rfl ?_
      refine xv_iconst C 0 dX2_readLine_159 (by decide) ?_
      refine xv_put C hiX2 tyX2 tyX2_ok nmX2 1 (wX1 g _) rfl 5 (by decide) (List.mem_of_getElem? (i := 1) rfl) rfl (tyX2_ok 5 (by decide)) rfl rfl (Nat.le_of_ble_eq_true rfl) (up (up a 1 4 q5) 1 5 0) (pX1_5 g _ _) dX2_readLine_160 ?_
      refine xv_goto C 181 dX2_readLine_163 (by decide) ?_
      refine xv_iconst C 1 dX2_readLine_181 (by decide) ?_
      exact xz_zw hret hf (by decide) dX2_readLine_182
    · refine xv_iload_n C dX2_readLine_166 rfl 1 rfl ?_
      refine xv_iconst C 3 dX2_readLine_167 (by decide) ?_
      refine xv_icmp_gt C 181 hf dX2_readLine_168 (by decide) (fun _ hf => ?_) (fun _ hf => ?_)
      · refine xv_iconst C 1 dX2_readLine_181 (by decide) ?_
        exact xz_zw hret hf (by decide) dX2_readLine_182
      · refine xv_aload_n C dX2_readLine_171 rfl 0 rfl ?_
        refine xv_dup C dX2_readLine_172 rfl ?_
        refine xv_get C hiX2 1 (wX1 g _) rfl 5 (by decide) (List.mem_of_getElem? (i := 1) rfl) rfl dX2_readLine_173 ?_
        refine xv_iconst C 1 dX2_readLine_176 (by decide) ?_
        refine xv_iadd C dX2_readLine_177 ?_
        refine xv_put C hiX2 tyX2 tyX2_ok nmX2 1 (wX1 g _) rfl 5 (by decide) (List.mem_of_getElem? (i := 1) rfl) rfl (tyX2_ok 5 (by decide)) rfl rfl (Nat.le_of_ble_eq_true rfl) (up a 1 5 ((a 1 5) + 1)) (pX1_5 g _ _) dX2_readLine_178 ?_
        refine xv_iconst C 1 dX2_readLine_181 (by decide) ?_
        exact xz_zw hret hf (by decide) dX2_readLine_182
  have hL47 : ∀ (x1 : Int32) (x2 : Nat)  (j : Nat) (x3 : Int32) (a : St), L_X2_readLine_47 n x1 x2 j x3 a = some q → V K (sX g) 5 a [(0, .ref (aX g 1)), (1, .int x1), (2, .ref (kX g x2)), (3, .int x3)] 47 [] := by
    intro x1 x2 j
    induction j with
    | zero =>
      intro x3 a hf
      have hf : (none : Option (Int32 × St)) = some q := hf
      cases hf
    | succ j ih =>
      intro x3 a hf
      rw [L_X2_readLine_47] at hf
      refine xv_iload_n C dX2_readLine_47 rfl 3 rfl ?_
      refine xv_aload_n C dX2_readLine_48 rfl 2 rfl ?_
      obtain ⟨q4, hg, hf⟩ := dt_bind hf
      refine xc_i (xr_VS g C (sx_J0_len hg) (As := []) (fun l => c_J0_length_8abf5 g hS l x2 a q4 hg) gX2_readLine_J0_length_8abf5 rfl ⟨rfl, rfl⟩ hdV_J0_length_8abf5 ⟨Nat.le_of_ble_eq_true rfl, Nat.le_of_ble_eq_true rfl⟩ rfl rfl (Nat.le_of_ble_eq_true rfl) dX2_readLine_49) ?_
      refine xv_icmp_ge C 140 hf dX2_readLine_52 (by decide) (fun _ hf => ?_) (fun _ hf => ?_)
      · refine xv_eq [0, 1] rfl ?_
        exact hB140 x1 a hf
      · refine xv_aload_n C dX2_readLine_55 rfl 0 rfl ?_
        obtain ⟨q6, hg, hf⟩ := dt_bind hf
        refine xc_v (xr_V C (ci := 2) (As := []) (fun l => c_X2_readToken g hS l n a q6 hg) gX2_readLine_X2_readToken rfl ⟨rfl, rfl⟩ hdV_X2_readToken ⟨Nat.le_of_ble_eq_true rfl, Nat.le_of_ble_eq_true rfl⟩ 1 rfl rfl (wX1 g _) rfl rfl (Nat.le_of_ble_eq_true rfl) dX2_readLine_56) ?_
        refine xv_aload_n C dX2_readLine_59 rfl 0 rfl ?_
        obtain ⟨q7, hg, hf⟩ := dt_bind hf
        refine xc_i (xr_V C (ci := 2) (As := []) (fun l => c_X2_numberRead g hS l n q6 q7 hg) gX2_readLine_X2_numberRead rfl ⟨rfl, rfl⟩ hdV_X2_numberRead ⟨Nat.le_of_ble_eq_true rfl, Nat.le_of_ble_eq_true rfl⟩ 1 rfl rfl (wX1 g _) rfl rfl (Nat.le_of_ble_eq_true rfl) dX2_readLine_60) ?_
        refine xv_istore C [(4, .int q7), (0, .ref (aX g 1)), (1, .int x1), (2, .ref (kX g x2)), (3, .int x3)] dX2_readLine_63 (by decide) rfl ?_
        refine xv_iload C dX2_readLine_65 0 rfl ?_
        refine xv_aload_n C dX2_readLine_67 rfl 3 rfl ?_
        refine xv_iload_n C dX2_readLine_68 rfl 4 rfl ?_
        obtain ⟨q8, hg, hf⟩ := dt_bind hf
        refine xc_i (xr_VS g C (sx_J0_cha hg) (As := [.int x3]) (fun l => c_J0_charAt_5068e g hS l x2 x3 q6 q8 hg) gX2_readLine_J0_charAt_5068e rfl ⟨rfl, rfl⟩ hdV_J0_charAt_5068e ⟨Nat.le_of_ble_eq_true rfl, Nat.le_of_ble_eq_true rfl⟩ rfl rfl (Nat.le_of_ble_eq_true rfl) dX2_readLine_69) ?_
        obtain ⟨q9, hg, hf⟩ := dt_bind hf
        refine xc_i (xr_S C (As := [.int q8]) (fun l => c_X2_leastOf g hS l q8 q6 q9 hg) gX2_readLine_X2_leastOf rfl ⟨rfl, rfl⟩ hdS_X2_leastOf ⟨Nat.le_of_ble_eq_true rfl, Nat.le_of_ble_eq_true rfl⟩ rfl rfl (Nat.le_of_ble_eq_true rfl) dX2_readLine_72) ?_
        refine xv_aload_n C dX2_readLine_75 rfl 1 rfl ?_
        refine xv_aload_n C dX2_readLine_76 rfl 3 rfl ?_
        refine xv_iload_n C dX2_readLine_77 rfl 4 rfl ?_
        obtain ⟨q10, hg, hf⟩ := dt_bind hf
        refine xc_i (xr_VS g C (sx_J0_cha hg) (As := [.int x3]) (fun l => c_J0_charAt_5068e g hS l x2 x3 q6 q10 hg) gX2_readLine_J0_charAt_5068e rfl ⟨rfl, rfl⟩ hdV_J0_charAt_5068e ⟨Nat.le_of_ble_eq_true rfl, Nat.le_of_ble_eq_true rfl⟩ rfl rfl (Nat.le_of_ble_eq_true rfl) dX2_readLine_78) ?_
        obtain ⟨q11, hg, hf⟩ := dt_bind hf
        refine xc_i (xr_V C (ci := 2) (As := [.int q10]) (fun l => c_X2_mostOf g hS l q10 q6 q11 hg) gX2_readLine_X2_mostOf rfl ⟨rfl, rfl⟩ hdV_X2_mostOf ⟨Nat.le_of_ble_eq_true rfl, Nat.le_of_ble_eq_true rfl⟩ 1 rfl rfl (wX1 g _) rfl rfl (Nat.le_of_ble_eq_true rfl) dX2_readLine_81) ?_
        obtain ⟨q12, hg, hf⟩ := dt_bind hf
        refine xc_i (xr_SN C (As := [.int q7, .int q9, .int q11]) (fun l => c_X5_within (sX g) hS l q7 q9 q11 q6 q12 hg) gX2_readLine_X5_within_n73 rfl ⟨rfl, rfl⟩ (fun U H h => h.1 _ (List.mem_of_getElem? (i := 35) rfl)) (List.mem_of_getElem? (i := 19) rfl) (List.mem_of_getElem? (i := 18) rfl) hdS_X5_within ⟨Nat.le_of_ble_eq_true rfl, Nat.le_of_ble_eq_true rfl⟩ rfl rfl (Nat.le_of_ble_eq_true rfl) dX2_readLine_84) ?_
        refine xv_if_ne C (y := 0) 92 hf dX2_readLine_87 (by decide) (fun _ hf => ?_) (fun _ hf => ?_)
        · refine xv_iconst C 0 dX2_readLine_90 (by decide) ?_
          exact xz_zw hret hf (by decide) dX2_readLine_91
        · refine xv_iload_n C dX2_readLine_92 rfl 2 rfl ?_
          refine xv_bipush C 10 dX2_readLine_93 (by decide) ?_
          refine xv_icmp_ne C 119 hf dX2_readLine_95 (by decide) (fun _ hf => ?_) (fun _ hf => ?_)
          · refine xv_iload_n C dX2_readLine_98 rfl 4 rfl ?_
            refine xv_iconst C 1 dX2_readLine_99 (by decide) ?_
            refine xv_icmp_ne C 119 hf dX2_readLine_100 (by decide) (fun _ hf => ?_) (fun _ hf => ?_)
            · refine xv_iload C dX2_readLine_103 0 rfl ?_
              refine xv_aload_n C dX2_readLine_105 rfl 1 rfl ?_
              refine xv_aload_n C dX2_readLine_106 rfl 1 rfl ?_
              refine xv_get C hiX2 1 (wX1 g _) rfl 8 (by decide) (List.mem_of_getElem? (i := 3) rfl) rfl dX2_readLine_107 ?_
              refine xv_iconst C 0 dX2_readLine_110 (by decide) ?_
              obtain ⟨q13, hg, hf⟩ := dt_bind hf
              refine xc_i (xr_V C (ci := 2) (As := [.int (q6 1 8), .int 0]) (fun l => c_X2_number g hS l (q6 1 8) 0 q6 q13 hg) gX2_readLine_X2_number rfl ⟨rfl, rfl⟩ hdV_X2_number ⟨Nat.le_of_ble_eq_true rfl, Nat.le_of_ble_eq_true rfl⟩ 1 rfl rfl (wX1 g _) rfl rfl (Nat.le_of_ble_eq_true rfl) dX2_readLine_111) ?_
              refine xv_icmp_ne C 119 hf dX2_readLine_114 (by decide) (fun _ hf => ?_) (fun _ hf => ?_)
              · refine xv_iconst C 0 dX2_readLine_117 (by decide) ?_
                exact xz_zw hret hf (by decide) dX2_readLine_118
              · refine xv_aload_n C dX2_readLine_119 rfl 1 rfl ?_
                refine xv_get C hiX2 1 (wX1 g _) rfl 7 (by decide) (List.mem_of_getElem? (i := 4) rfl) rfl dX2_readLine_120 ?_
                refine xv_aload_n C dX2_readLine_123 rfl 1 rfl ?_
                refine xv_get C hiX2 1 (wX1 g _) rfl 8 (by decide) (List.mem_of_getElem? (i := 3) rfl) rfl dX2_readLine_124 ?_
                refine xv_iconst C 4 dX2_readLine_127 (by decide) ?_
                refine xv_imul C dX2_readLine_128 ?_
                refine xv_iload_n C dX2_readLine_129 rfl 4 rfl ?_
                refine xv_iadd C dX2_readLine_130 ?_
                refine xv_iload C dX2_readLine_131 0 rfl ?_
                refine xv_iast C 4 0 (wX4 g _) rfl (up q6 4 ((((q6 1 8) * 4) + x3).toNatClampNeg) q7) (pX4 g _ _ _) hf dX2_readLine_133 (fun hf => ?_)
                refine xv_iinc C [(3, .int (x3 + 1)), (4, .int q7), (0, .ref (aX g 1)), (1, .int x1), (2, .ref (kX g x2))] dX2_readLine_134 4 rfl rfl (by decide) rfl ?_
                refine xv_goto C 47 dX2_readLine_137 (by decide) ?_
                refine xv_eq [2, 3, 4, 0] rfl ?_
                exact ih (x3 + 1) (up q6 4 ((((q6 1 8) * 4) + x3).toNatClampNeg) q7) hf
            · refine xv_aload_n C dX2_readLine_119 rfl 1 rfl ?_
              refine xv_get C hiX2 1 (wX1 g _) rfl 7 (by decide) (List.mem_of_getElem? (i := 4) rfl) rfl dX2_readLine_120 ?_
              refine xv_aload_n C dX2_readLine_123 rfl 1 rfl ?_
              refine xv_get C hiX2 1 (wX1 g _) rfl 8 (by decide) (List.mem_of_getElem? (i := 3) rfl) rfl dX2_readLine_124 ?_
              refine xv_iconst C 4 dX2_readLine_127 (by decide) ?_
              refine xv_imul C dX2_readLine_128 ?_
              refine xv_iload_n C dX2_readLine_129 rfl 4 rfl ?_
              refine xv_iadd C dX2_readLine_130 ?_
              refine xv_iload C dX2_readLine_131 0 rfl ?_
              refine xv_iast C 4 0 (wX4 g _) rfl (up q6 4 ((((q6 1 8) * 4) + x3).toNatClampNeg) q7) (pX4 g _ _ _) hf dX2_readLine_133 (fun hf => ?_)
              refine xv_iinc C [(3, .int (x3 + 1)), (4, .int q7), (0, .ref (aX g 1)), (1, .int x1), (2, .ref (kX g x2))] dX2_readLine_134 4 rfl rfl (by decide) rfl ?_
              refine xv_goto C 47 dX2_readLine_137 (by decide) ?_
              refine xv_eq [2, 3, 4, 0] rfl ?_
              exact ih (x3 + 1) (up q6 4 ((((q6 1 8) * 4) + x3).toNatClampNeg) q7) hf
          · refine xv_aload_n C dX2_readLine_119 rfl 1 rfl ?_
            refine xv_get C hiX2 1 (wX1 g _) rfl 7 (by decide) (List.mem_of_getElem? (i := 4) rfl) rfl dX2_readLine_120 ?_
            refine xv_aload_n C dX2_readLine_123 rfl 1 rfl ?_
            refine xv_get C hiX2 1 (wX1 g _) rfl 8 (by decide) (List.mem_of_getElem? (i := 3) rfl) rfl dX2_readLine_124 ?_
            refine xv_iconst C 4 dX2_readLine_127 (by decide) ?_
            refine xv_imul C dX2_readLine_128 ?_
            refine xv_iload_n C dX2_readLine_129 rfl 4 rfl ?_
            refine xv_iadd C dX2_readLine_130 ?_
            refine xv_iload C dX2_readLine_131 0 rfl ?_
            refine xv_iast C 4 0 (wX4 g _) rfl (up q6 4 ((((q6 1 8) * 4) + x3).toNatClampNeg) q7) (pX4 g _ _ _) hf dX2_readLine_133 (fun hf => ?_)
            refine xv_iinc C [(3, .int (x3 + 1)), (4, .int q7), (0, .ref (aX g 1)), (1, .int x1), (2, .ref (kX g x2))] dX2_readLine_134 4 rfl rfl (by decide) rfl ?_
            refine xv_goto C 47 dX2_readLine_137 (by decide) ?_
            refine xv_eq [2, 3, 4, 0] rfl ?_
            exact ih (x3 + 1) (up q6 4 ((((q6 1 8) * 4) + x3).toNatClampNeg) q7) hf
  rw [f_X2_readLine] at hf
  show V K (sX g) 5 a [(0, .ref (aX g 1))] 0 []
  refine xv_aload_n C dX2_readLine_0 rfl 0 rfl ?_
  obtain ⟨q1, hg, hf⟩ := dt_bind hf
  refine xc_v (xr_V C (ci := 2) (As := []) (fun l => c_X2_readToken g hS l n a q1 hg) gX2_readLine_X2_readToken rfl ⟨rfl, rfl⟩ hdV_X2_readToken ⟨Nat.le_of_ble_eq_true rfl, Nat.le_of_ble_eq_true rfl⟩ 1 rfl rfl (wX1 g _) rfl rfl (Nat.le_of_ble_eq_true rfl) dX2_readLine_1) ?_
  refine xv_aload_n C dX2_readLine_4 rfl 0 rfl ?_
  obtain ⟨q2, hg, hf⟩ := dt_bind hf
  refine xc_i (xr_V C (ci := 2) (As := []) (fun l => c_X2_wordRead g hS l n q1 q2 hg) gX2_readLine_X2_wordRead rfl ⟨rfl, rfl⟩ hdV_X2_wordRead ⟨Nat.le_of_ble_eq_true rfl, Nat.le_of_ble_eq_true rfl⟩ 1 rfl rfl (wX1 g _) rfl rfl (Nat.le_of_ble_eq_true rfl) dX2_readLine_5) ?_
  refine xv_istore_n C [(1, .int q2), (0, .ref (aX g 1))] dX2_readLine_8 rfl (by decide) rfl ?_
  refine xv_iload_n C dX2_readLine_9 rfl 0 rfl ?_
  refine xv_iconst C (-1) dX2_readLine_10 (by decide) ?_
  refine xv_icmp_eq C 28 hf dX2_readLine_11 (by decide) (fun _ hf => ?_) (fun _ hf => ?_)
  · refine xv_iconst C 0 dX2_readLine_28 (by decide) ?_
    exact xz_zw hret hf (by decide) dX2_readLine_29
  · refine xv_iload_n C dX2_readLine_14 rfl 0 rfl ?_
    refine xv_iconst C 3 dX2_readLine_15 (by decide) ?_
    refine xv_icmp_gt C 30 hf dX2_readLine_16 (by decide) (fun _ hf => ?_) (fun _ hf => ?_)
    · refine xv_aload_n C dX2_readLine_30 rfl 1 rfl ?_
      refine xv_get C hiX2 1 (wX1 g _) rfl 6 (by decide) (List.mem_of_getElem? (i := 2) rfl) rfl dX2_readLine_31 ?_
      refine xv_aload_n C dX2_readLine_34 rfl 1 rfl ?_
      refine xv_get C hiX2 1 (wX1 g _) rfl 8 (by decide) (List.mem_of_getElem? (i := 3) rfl) rfl dX2_readLine_35 ?_
      refine xv_iload_n C dX2_readLine_38 rfl 0 rfl ?_
      refine xv_iast C 3 0 (wX3 g _) rfl (up q1 3 ((q1 1 8).toNatClampNeg) q2) (pX3 g _ _ _) hf dX2_readLine_39 (fun hf => ?_)
      refine xv_iload_n C dX2_readLine_40 rfl 0 rfl ?_
      obtain ⟨q3, hg, hf⟩ := dt_bind hf
      refine xc_r (xr_S C (As := [.int q2]) (fun l => c_X2_formOf g hS l q2 (up q1 3 ((q1 1 8).toNatClampNeg) q2) q3 hg) gX2_readLine_X2_formOf rfl ⟨rfl, rfl⟩ hdS_X2_formOf ⟨Nat.le_of_ble_eq_true rfl, Nat.le_of_ble_eq_true rfl⟩ rfl rfl (Nat.le_of_ble_eq_true rfl) dX2_readLine_41) ?_
      refine xv_astore_n C [(2, .ref (kX g q3)), (1, .int q2), (0, .ref (aX g 1))] dX2_readLine_44 rfl (by decide) rfl ?_
      refine xv_iconst C 0 dX2_readLine_45 (by decide) ?_
      refine xv_istore_n C [(3, .int 0), (2, .ref (kX g q3)), (1, .int q2), (0, .ref (aX g 1))] dX2_readLine_46 rfl (by decide) rfl ?_
      refine xv_eq [3, 2, 1, 0] rfl ?_
      exact hL47 q2 q3 n 0 (up q1 3 ((q1 1 8).toNatClampNeg) q2) hf
    · refine xv_aload_n C dX2_readLine_19 rfl 1 rfl ?_
      refine xv_get C hiX2 1 (wX1 g _) rfl 5 (by decide) (List.mem_of_getElem? (i := 1) rfl) rfl dX2_readLine_20 ?_
      refine xv_bipush C 6 dX2_readLine_23 (by decide) ?_
      refine xv_icmp_ne C 30 hf dX2_readLine_25 (by decide) (fun _ hf => ?_) (fun _ hf => ?_)
      · refine xv_iconst C 0 dX2_readLine_28 (by decide) ?_
        exact xz_zw hret hf (by decide) dX2_readLine_29
      · refine xv_aload_n C dX2_readLine_30 rfl 1 rfl ?_
        refine xv_get C hiX2 1 (wX1 g _) rfl 6 (by decide) (List.mem_of_getElem? (i := 2) rfl) rfl dX2_readLine_31 ?_
        refine xv_aload_n C dX2_readLine_34 rfl 1 rfl ?_
        refine xv_get C hiX2 1 (wX1 g _) rfl 8 (by decide) (List.mem_of_getElem? (i := 3) rfl) rfl dX2_readLine_35 ?_
        refine xv_iload_n C dX2_readLine_38 rfl 0 rfl ?_
        refine xv_iast C 3 0 (wX3 g _) rfl (up q1 3 ((q1 1 8).toNatClampNeg) q2) (pX3 g _ _ _) hf dX2_readLine_39 (fun hf => ?_)
        refine xv_iload_n C dX2_readLine_40 rfl 0 rfl ?_
        obtain ⟨q14, hg, hf⟩ := dt_bind hf
        refine xc_r (xr_S C (As := [.int q2]) (fun l => c_X2_formOf g hS l q2 (up q1 3 ((q1 1 8).toNatClampNeg) q2) q14 hg) gX2_readLine_X2_formOf rfl ⟨rfl, rfl⟩ hdS_X2_formOf ⟨Nat.le_of_ble_eq_true rfl, Nat.le_of_ble_eq_true rfl⟩ rfl rfl (Nat.le_of_ble_eq_true rfl) dX2_readLine_41) ?_
        refine xv_astore_n C [(2, .ref (kX g q14)), (1, .int q2), (0, .ref (aX g 1))] dX2_readLine_44 rfl (by decide) rfl ?_
        refine xv_iconst C 0 dX2_readLine_45 (by decide) ?_
        refine xv_istore_n C [(3, .int 0), (2, .ref (kX g q14)), (1, .int q2), (0, .ref (aX g 1))] dX2_readLine_46 rfl (by decide) rfl ?_
        refine xv_eq [3, 2, 1, 0] rfl ?_
        exact hL47 q2 q14 n 0 (up q1 3 ((q1 1 8).toNatClampNeg) q2) hf
set_option maxRecDepth 100000 in
set_option maxHeartbeats 4000000 in
theorem c_X2_faultPlace (g : GX) (hS : xSide (sX g)) (l : Launch) (n : Nat) (x1 : Int32) (x2 : Int32) (a : St) (q : (Int32 × St)) (hf : f_X2_faultPlace n x1 x2 a = some q) : Met l yX2_faultPlace wsX2_faultPlace rm_X2_faultPlace (xPre (sX g) [.ref (aX g 1), .int x1, .int x2] a) (xPostI (sX g) q.1 q.2) 0 0 (sX g).2.2.1 := by
  refine xm_i (av := [.ref (aX g 1), .int x1, .int x2]) (cc := cX2_faultPlace) (maxL := 3) (by decide) rfl (Nat.le_of_ble_eq_true rfl) hS.1 hS.2 (fun K C hret => ?_)
  have C : CC K (sX g) cX2_faultPlace 3 wsX2_faultPlace "MirrorHour$Text" rm_X2_faultPlace := C
  have hiX2 : ∀ w ∈ u_ws RX2 TX2 9, w ∈ wsX2_faultPlace := fun w h => List.mem_cons_of_mem _ (List.mem_append_right _ h)
  have hL20 : ∀  (j : Nat) (a : St), L_X2_faultPlace_20 n j a = some q → V K (sX g) 3 a [(0, .ref (aX g 1))] 20 [] := by
    intro j
    induction j with
    | zero =>
      intro a hf
      have hf : (none : Option (Int32 × St)) = some q := hf
      cases hf
    | succ j ih =>
      intro a hf
      rw [L_X2_faultPlace_20] at hf
      refine xv_aload_n C dX2_faultPlace_20 rfl 0 rfl ?_
      refine xv_get C hiX2 1 (wX1 g _) rfl 8 (by decide) (List.mem_of_getElem? (i := 3) rfl) rfl dX2_faultPlace_21 ?_
      refine xv_bipush C 10 dX2_faultPlace_24 (by decide) ?_
      refine xv_icmp_ge C 87 hf dX2_faultPlace_26 (by decide) (fun _ hf => ?_) (fun _ hf => ?_)
      · refine xv_aload_n C dX2_faultPlace_87 rfl 0 rfl ?_
        refine xv_get C hiX2 1 (wX1 g _) rfl 2 (by decide) (List.mem_of_getElem? (i := 5) rfl) rfl dX2_faultPlace_88 ?_
        exact xz_iw hret hf dX2_faultPlace_91
      · refine xv_aload_n C dX2_faultPlace_29 rfl 0 rfl ?_
        obtain ⟨q1, hg, hf⟩ := dt_bind hf
        refine xc_i (xr_V C (ci := 2) (As := []) (fun l => c_X2_readLine g hS l n a q1 hg) gX2_faultPlace_X2_readLine rfl ⟨rfl, rfl⟩ hdV_X2_readLine ⟨Nat.le_of_ble_eq_true rfl, Nat.le_of_ble_eq_true rfl⟩ 1 rfl rfl (wX1 g _) rfl rfl (Nat.le_of_ble_eq_true rfl) dX2_faultPlace_30) ?_
        refine xv_if_ne C (y := 0) 41 hf dX2_faultPlace_33 (by decide) (fun _ hf => ?_) (fun _ hf => ?_)
        · refine xv_aload_n C dX2_faultPlace_36 rfl 0 rfl ?_
          refine xv_get C hiX2 1 (wX1 g _) rfl 2 (by decide) (List.mem_of_getElem? (i := 5) rfl) rfl dX2_faultPlace_37 ?_
          exact xz_iw hret hf dX2_faultPlace_40
        · refine xv_aload_n C dX2_faultPlace_41 rfl 0 rfl ?_
          refine xv_dup C dX2_faultPlace_42 rfl ?_
          refine xv_get C hiX2 1 (wX1 g _) rfl 8 (by decide) (List.mem_of_getElem? (i := 3) rfl) rfl dX2_faultPlace_43 ?_
          refine xv_iconst C 1 dX2_faultPlace_46 (by decide) ?_
          refine xv_iadd C dX2_faultPlace_47 ?_
          refine xv_put C hiX2 tyX2 tyX2_ok nmX2 1 (wX1 g _) rfl 8 (by decide) (List.mem_of_getElem? (i := 3) rfl) rfl (tyX2_ok 8 (by decide)) rfl rfl (Nat.le_of_ble_eq_true rfl) (up q1.2 1 8 ((q1.2 1 8) + 1)) (pX1_8 g _ _) dX2_faultPlace_48 ?_
          refine xv_aload_n C dX2_faultPlace_51 rfl 0 rfl ?_
          obtain ⟨q2, hg, hf⟩ := dt_bind hf
          refine xc_v (xr_V C (ci := 2) (As := []) (fun l => c_X2_readToken g hS l n (up q1.2 1 8 ((q1.2 1 8) + 1)) q2 hg) gX2_faultPlace_X2_readToken rfl ⟨rfl, rfl⟩ hdV_X2_readToken ⟨Nat.le_of_ble_eq_true rfl, Nat.le_of_ble_eq_true rfl⟩ 1 rfl rfl (wX1 g _) rfl rfl (Nat.le_of_ble_eq_true rfl) dX2_faultPlace_52) ?_
          refine xv_aload_n C dX2_faultPlace_55 rfl 0 rfl ?_
          refine xv_get C hiX2 1 (wX1 g _) rfl 2 (by decide) (List.mem_of_getElem? (i := 5) rfl) rfl dX2_faultPlace_56 ?_
          refine xv_aload_n C dX2_faultPlace_59 rfl 0 rfl ?_
          refine xv_get C hiX2 1 (wX1 g _) rfl 1 (by decide) (List.mem_of_getElem? (i := 6) rfl) rfl dX2_faultPlace_60 ?_
          refine xv_icmp_ne C 68 hf dX2_faultPlace_63 (by decide) (fun _ hf => ?_) (fun _ hf => ?_)
          · refine xv_iconst C (-1) dX2_faultPlace_66 (by decide) ?_
            exact xz_iw hret hf dX2_faultPlace_67
          · refine xv_aload_n C dX2_faultPlace_68 rfl 0 rfl ?_
            refine xv_get C hiX2 1 (wX1 g _) rfl 0 (by decide) (List.mem_of_getElem? (i := 7) rfl) rfl dX2_faultPlace_69 ?_
            refine xv_aload_n C dX2_faultPlace_72 rfl 0 rfl ?_
            refine xv_get C hiX2 1 (wX1 g _) rfl 2 (by decide) (List.mem_of_getElem? (i := 5) rfl) rfl dX2_faultPlace_73 ?_
            refine xv_iald C 2 0 (wX2 g _) rfl hf dX2_faultPlace_76 (fun hf => ?_)
            refine xv_bipush C 59 dX2_faultPlace_77 (by decide) ?_
            refine xv_icmp_eq C 20 hf dX2_faultPlace_79 (by decide) (fun _ hf => ?_) (fun _ hf => ?_)
            · exact ih q2 hf
            · refine xv_aload_n C dX2_faultPlace_82 rfl 0 rfl ?_
              refine xv_get C hiX2 1 (wX1 g _) rfl 2 (by decide) (List.mem_of_getElem? (i := 5) rfl) rfl dX2_faultPlace_83 ?_
              exact xz_iw hret hf dX2_faultPlace_86
  rw [f_X2_faultPlace] at hf
  show V K (sX g) 3 a [(0, .ref (aX g 1)), (1, .int x1), (2, .int x2)] 0 []
  refine xv_aload_n C dX2_faultPlace_0 rfl 0 rfl ?_
  refine xv_iload_n C dX2_faultPlace_1 rfl 1 rfl ?_
  refine xv_put C hiX2 tyX2 tyX2_ok nmX2 1 (wX1 g _) rfl 4 (by decide) (List.mem_of_getElem? (i := 1) rfl) rfl (tyX2_ok 4 (by decide)) rfl rfl (Nat.le_of_ble_eq_true rfl) (up a 1 4 x1) (pX1_4 g _ _) dX2_faultPlace_2 ?_
  refine xv_aload_n C dX2_faultPlace_5 rfl 0 rfl ?_
  refine xv_iload_n C dX2_faultPlace_6 rfl 2 rfl ?_
  refine xv_put C hiX2 tyX2 tyX2_ok nmX2 1 (wX1 g _) rfl 5 (by decide) (List.mem_of_getElem? (i := 2) rfl) rfl (tyX2_ok 5 (by decide)) rfl rfl (Nat.le_of_ble_eq_true rfl) (up (up a 1 4 x1) 1 5 x2) (pX1_5 g _ _) dX2_faultPlace_7 ?_
  refine xv_aload_n C dX2_faultPlace_10 rfl 0 rfl ?_
  refine xv_iconst C 0 dX2_faultPlace_11 (by decide) ?_
  refine xv_put C hiX2 tyX2 tyX2_ok nmX2 1 (wX1 g _) rfl 8 (by decide) (List.mem_of_getElem? (i := 3) rfl) rfl (tyX2_ok 8 (by decide)) rfl rfl (Nat.le_of_ble_eq_true rfl) (up (up (up a 1 4 x1) 1 5 x2) 1 8 0) (pX1_8 g _ _) dX2_faultPlace_12 ?_
  refine xv_aload_n C dX2_faultPlace_15 rfl 0 rfl ?_
  refine xv_iconst C 0 dX2_faultPlace_16 (by decide) ?_
  refine xv_put C hiX2 tyX2 tyX2_ok nmX2 1 (wX1 g _) rfl 3 (by decide) (List.mem_of_getElem? (i := 4) rfl) rfl (tyX2_ok 3 (by decide)) rfl rfl (Nat.le_of_ble_eq_true rfl) (up (up (up (up a 1 4 x1) 1 5 x2) 1 8 0) 1 3 0) (pX1_3 g _ _) dX2_faultPlace_17 ?_
  refine xv_eq [0] rfl ?_
  exact hL20 n (up (up (up (up a 1 4 x1) 1 5 x2) 1 8 0) 1 3 0) hf
