set_option maxRecDepth 100000 in
set_option maxHeartbeats 4000000 in
theorem c_X5_keep (g : GX) (hS : xSide (sX g)) (l : Launch) (x1 : Int32) (a : St) (q : (Int32 × St)) (hf : f_X5_keep x1 a = some q) : Met l yX5_keep wsX5_keep rm_X5_keep (xPre (sX g) [.ref (aX g 0), .int x1] a) (xPostI (sX g) q.1 q.2) 0 0 (sX g).2.2.1 := by
  refine xm_i (av := [.ref (aX g 0), .int x1]) (cc := cX5_keep) (maxL := 2) (by decide) rfl (Nat.le_of_ble_eq_true rfl) hS.1 hS.2 (fun K C hret => ?_)
  have C : CC K (sX g) cX5_keep 2 wsX5_keep RX5 rm_X5_keep := C
  have hiX0 : ∀ w ∈ u_ws RX0 TX0 4, w ∈ wsX5_keep := fun w h => List.mem_cons_of_mem _ (List.mem_append_right _ h)
  have hiX5 : ∀ w ∈ u_ws RX5 TX5 13, w ∈ wsX5_keep := fun w h => List.mem_cons_of_mem _ (List.mem_append_left _ (List.mem_append_right _ h))
  rw [f_X5_keep] at hf
  show V K (sX g) 2 a [(0, .ref (aX g 0)), (1, .int x1)] 0 []
  refine xv_iload_n C dX5_keep_0 rfl 1 rfl ?_
  refine xv_iconst C 0 dX5_keep_1 (by decide) ?_
  refine xv_iconst C 1 dX5_keep_2 (by decide) ?_
  obtain ⟨q1, hg, hf⟩ := dt_bind hf
  refine xc_i (xr_S C (As := [.int x1, .int 0, .int 1]) (fun l => c_X5_within (sX g) hS l x1 0 1 a q1 hg) gX5_keep_X5_within rfl ⟨rfl, rfl⟩ hdS_X5_within ⟨Nat.le_of_ble_eq_true rfl, Nat.le_of_ble_eq_true rfl⟩ rfl rfl (Nat.le_of_ble_eq_true rfl) dX5_keep_3) ?_
  refine xv_if_ne C (y := 0) 12 hf dX5_keep_6 (by decide) (fun _ hf => ?_) (fun _ hf => ?_)
  · refine xv_bipush C (-2) dX5_keep_9 (by decide) ?_
    exact xz_iw hret hf dX5_keep_11
  · refine xv_aload_n C dX5_keep_12 rfl 0 rfl ?_
    refine xv_get C hiX5 0 (wX0 g _) rfl 3 (by decide) (List.mem_of_getElem? (i := 1) rfl) rfl dX5_keep_13 ?_
    refine xv_iload_n C dX5_keep_16 rfl 1 rfl ?_
    refine xv_aald2 C 18 1 (wX18 g _) rfl hf dX5_keep_17 (fun hf => ?_) (fun hf => ?_)
    · refine xv_aload_n C dX5_keep_18 rfl 0 rfl ?_
      refine xv_get C hiX5 0 (wX0 g _) rfl 2 (by decide) (List.mem_of_getElem? (i := 2) rfl) rfl dX5_keep_19 ?_
      obtain ⟨q2, hg, hf⟩ := dt_bind hf
      refine xc_v (xr_VN C (ci := 0) (As := [.ref (aX g 15)]) (fun l => c_X0_copy__19_15 g hS l a q2 hg) gX5_keep_X0_copy_n250 rfl ⟨rfl, rfl⟩ (fun U H h => h.1 _ (List.mem_of_getElem? (i := 60) rfl)) (List.mem_of_getElem? (i := 8) rfl) (List.mem_of_getElem? (i := 7) rfl) (List.mem_of_getElem? (i := 9) rfl) hdN_X0_copy ⟨Nat.le_of_ble_eq_true rfl, Nat.le_of_ble_eq_true rfl⟩ 19 rfl rfl (wX19 g _) rfl rfl (Nat.le_of_ble_eq_true rfl) dX5_keep_22) ?_
      refine xv_aload_n C dX5_keep_25 rfl 0 rfl ?_
      refine xv_get C hiX5 0 (wX0 g _) rfl 3 (by decide) (List.mem_of_getElem? (i := 1) rfl) rfl dX5_keep_26 ?_
      refine xv_iload_n C dX5_keep_29 rfl 1 rfl ?_
      refine xv_aald2 C 18 1 (wX18 g _) rfl hf dX5_keep_30 (fun hf => ?_) (fun hf => ?_)
      · refine xv_iconst C 1 dX5_keep_31 (by decide) ?_
        refine xv_putN C hiX0 tyX0 tyX0_ok nmX0 19 (wX19 g _) rfl 3 (by decide) (fun U H h => h.1 _ (List.mem_of_getElem? (i := 23) rfl)) rfl (tyX0_ok 3 (by decide)) rfl rfl (Nat.le_of_ble_eq_true rfl) (up q2 19 3 1) (pX19_3 g _ _) dX5_keep_32 ?_
        refine xv_aload_n C dX5_keep_35 rfl 0 rfl ?_
        refine xv_get C hiX5 0 (wX0 g _) rfl 2 (by decide) (List.mem_of_getElem? (i := 2) rfl) rfl dX5_keep_36 ?_
        refine xv_getN C hiX0 15 (wX15 g _) rfl 2 (by decide) (fun U H h => h.1 _ (List.mem_of_getElem? (i := 22) rfl)) rfl dX5_keep_39 ?_
        exact xz_iw hret hf dX5_keep_42
      · refine xv_iconst C 1 dX5_keep_31 (by decide) ?_
        refine xv_putN C hiX0 tyX0 tyX0_ok nmX0 22 (wX22 g _) rfl 3 (by decide) (fun U H h => h.1 _ (List.mem_of_getElem? (i := 23) rfl)) rfl (tyX0_ok 3 (by decide)) rfl rfl (Nat.le_of_ble_eq_true rfl) (up q2 22 3 1) (pX22_3 g _ _) dX5_keep_32 ?_
        refine xv_aload_n C dX5_keep_35 rfl 0 rfl ?_
        refine xv_get C hiX5 0 (wX0 g _) rfl 2 (by decide) (List.mem_of_getElem? (i := 2) rfl) rfl dX5_keep_36 ?_
        refine xv_getN C hiX0 15 (wX15 g _) rfl 2 (by decide) (fun U H h => h.1 _ (List.mem_of_getElem? (i := 22) rfl)) rfl dX5_keep_39 ?_
        exact xz_iw hret hf dX5_keep_42
    · refine xv_aload_n C dX5_keep_18 rfl 0 rfl ?_
      refine xv_get C hiX5 0 (wX0 g _) rfl 2 (by decide) (List.mem_of_getElem? (i := 2) rfl) rfl dX5_keep_19 ?_
      obtain ⟨q3, hg, hf⟩ := dt_bind hf
      refine xc_v (xr_VN C (ci := 0) (As := [.ref (aX g 15)]) (fun l => c_X0_copy__22_15 g hS l a q3 hg) gX5_keep_X0_copy_n250 rfl ⟨rfl, rfl⟩ (fun U H h => h.1 _ (List.mem_of_getElem? (i := 60) rfl)) (List.mem_of_getElem? (i := 8) rfl) (List.mem_of_getElem? (i := 7) rfl) (List.mem_of_getElem? (i := 9) rfl) hdN_X0_copy ⟨Nat.le_of_ble_eq_true rfl, Nat.le_of_ble_eq_true rfl⟩ 22 rfl rfl (wX22 g _) rfl rfl (Nat.le_of_ble_eq_true rfl) dX5_keep_22) ?_
      refine xv_aload_n C dX5_keep_25 rfl 0 rfl ?_
      refine xv_get C hiX5 0 (wX0 g _) rfl 3 (by decide) (List.mem_of_getElem? (i := 1) rfl) rfl dX5_keep_26 ?_
      refine xv_iload_n C dX5_keep_29 rfl 1 rfl ?_
      refine xv_aald2 C 18 1 (wX18 g _) rfl hf dX5_keep_30 (fun hf => ?_) (fun hf => ?_)
      · refine xv_iconst C 1 dX5_keep_31 (by decide) ?_
        refine xv_putN C hiX0 tyX0 tyX0_ok nmX0 19 (wX19 g _) rfl 3 (by decide) (fun U H h => h.1 _ (List.mem_of_getElem? (i := 23) rfl)) rfl (tyX0_ok 3 (by decide)) rfl rfl (Nat.le_of_ble_eq_true rfl) (up q3 19 3 1) (pX19_3 g _ _) dX5_keep_32 ?_
        refine xv_aload_n C dX5_keep_35 rfl 0 rfl ?_
        refine xv_get C hiX5 0 (wX0 g _) rfl 2 (by decide) (List.mem_of_getElem? (i := 2) rfl) rfl dX5_keep_36 ?_
        refine xv_getN C hiX0 15 (wX15 g _) rfl 2 (by decide) (fun U H h => h.1 _ (List.mem_of_getElem? (i := 22) rfl)) rfl dX5_keep_39 ?_
        exact xz_iw hret hf dX5_keep_42
      · refine xv_iconst C 1 dX5_keep_31 (by decide) ?_
        refine xv_putN C hiX0 tyX0 tyX0_ok nmX0 22 (wX22 g _) rfl 3 (by decide) (fun U H h => h.1 _ (List.mem_of_getElem? (i := 23) rfl)) rfl (tyX0_ok 3 (by decide)) rfl rfl (Nat.le_of_ble_eq_true rfl) (up q3 22 3 1) (pX22_3 g _ _) dX5_keep_32 ?_
        refine xv_aload_n C dX5_keep_35 rfl 0 rfl ?_
        refine xv_get C hiX5 0 (wX0 g _) rfl 2 (by decide) (List.mem_of_getElem? (i := 2) rfl) rfl dX5_keep_36 ?_
        refine xv_getN C hiX0 15 (wX15 g _) rfl 2 (by decide) (fun U H h => h.1 _ (List.mem_of_getElem? (i := 22) rfl)) rfl dX5_keep_39 ?_
        exact xz_iw hret hf dX5_keep_42
set_option maxRecDepth 100000 in
set_option maxHeartbeats 4000000 in
theorem c_X0_copy__15_19 (g : GX) (hS : xSide (sX g)) (l : Launch) (a : St) (q : St) (hf : f_X0_copy 15 19 a = some q) : Met l yX0_copy wsX0_copy rm_X0_copy (xPre (sX g) [.ref (aX g 15), .ref (aX g 19)] a) (xPostV (sX g) q) 0 0 (sX g).2.2.1 := by
  refine xm_v (av := [.ref (aX g 15), .ref (aX g 19)]) (cc := cX0_copy) (maxL := 2) (by decide) rfl (Nat.le_of_ble_eq_true rfl) hS.1 hS.2 (fun K C hret => ?_)
  have C : CC K (sX g) cX0_copy 2 wsX0_copy RX0 rm_X0_copy := C
  have hiX0 : ∀ w ∈ u_ws RX0 TX0 4, w ∈ wsX0_copy := fun w h => List.mem_cons_of_mem _ (List.mem_append_right _ h)
  rw [f_X0_copy] at hf
  show V K (sX g) 2 a [(0, .ref (aX g 15)), (1, .ref (aX g 19))] 0 []
  refine xv_aload_n C dX0_copy_0 rfl 0 rfl ?_
  refine xv_aload_n C dX0_copy_1 rfl 1 rfl ?_
  refine xv_get C hiX0 19 (wX19 g _) rfl 2 (by decide) (List.mem_of_getElem? (i := 1) rfl) rfl dX0_copy_2 ?_
  refine xv_put C hiX0 tyX0 tyX0_ok nmX0 15 (wX15 g _) rfl 2 (by decide) (List.mem_of_getElem? (i := 1) rfl) rfl (tyX0_ok 2 (by decide)) rfl rfl (Nat.le_of_ble_eq_true rfl) (up a 15 2 (a 19 2)) (pX15_2 g _ _) dX0_copy_5 ?_
  refine xv_aload_n C dX0_copy_8 rfl 1 rfl ?_
  refine xv_get C hiX0 19 (wX19 g _) rfl 0 (by decide) (List.mem_of_getElem? (i := 2) rfl) rfl dX0_copy_9 ?_
  refine xv_iconst C 0 dX0_copy_12 (by decide) ?_
  refine xv_aload_n C dX0_copy_13 rfl 0 rfl ?_
  refine xv_get C hiX0 15 (wX15 g _) rfl 0 (by decide) (List.mem_of_getElem? (i := 2) rfl) rfl dX0_copy_14 ?_
  refine xv_iconst C 0 dX0_copy_17 (by decide) ?_
  refine xv_bipush C 8 dX0_copy_18 (by decide) ?_
  refine xv_copy C (List.mem_of_getElem? (i := 3) rfl) (List.mem_of_getElem? (i := 4) rfl) (List.mem_of_getElem? (i := 5) rfl) (List.mem_of_getElem? (i := 6) rfl) 20 16 0 (wX20 g _) (wX16 g _) rfl (uprow (up a 15 2 (a 19 2)) 16 (va_cpy ((up a 15 2 (a 19 2)) 20) ((up a 15 2 (a 19 2)) 16) ((0 : Int32).toNatClampNeg) ((0 : Int32).toNatClampNeg) ((8 : Int32).toNatClampNeg))) (rX16 g _ _) hf (Nat.le_of_ble_eq_true rfl) (Nat.le_of_ble_eq_true rfl) dX0_copy_20 rfl (fun hf => ?_)
  refine xv_aload_n C dX0_copy_23 rfl 1 rfl ?_
  refine xv_get C hiX0 19 (wX19 g _) rfl 1 (by decide) (List.mem_of_getElem? (i := 7) rfl) rfl dX0_copy_24 ?_
  refine xv_iconst C 0 dX0_copy_27 (by decide) ?_
  refine xv_aload_n C dX0_copy_28 rfl 0 rfl ?_
  refine xv_get C hiX0 15 (wX15 g _) rfl 1 (by decide) (List.mem_of_getElem? (i := 7) rfl) rfl dX0_copy_29 ?_
  refine xv_iconst C 0 dX0_copy_32 (by decide) ?_
  refine xv_bipush C 8 dX0_copy_33 (by decide) ?_
  refine xv_copy C (List.mem_of_getElem? (i := 3) rfl) (List.mem_of_getElem? (i := 4) rfl) (List.mem_of_getElem? (i := 5) rfl) (List.mem_of_getElem? (i := 6) rfl) 21 17 0 (wX21 g _) (wX17 g _) rfl (uprow (uprow (up a 15 2 (a 19 2)) 16 (va_cpy ((up a 15 2 (a 19 2)) 20) ((up a 15 2 (a 19 2)) 16) ((0 : Int32).toNatClampNeg) ((0 : Int32).toNatClampNeg) ((8 : Int32).toNatClampNeg))) 17 (va_cpy ((uprow (up a 15 2 (a 19 2)) 16 (va_cpy ((up a 15 2 (a 19 2)) 20) ((up a 15 2 (a 19 2)) 16) ((0 : Int32).toNatClampNeg) ((0 : Int32).toNatClampNeg) ((8 : Int32).toNatClampNeg))) 21) ((uprow (up a 15 2 (a 19 2)) 16 (va_cpy ((up a 15 2 (a 19 2)) 20) ((up a 15 2 (a 19 2)) 16) ((0 : Int32).toNatClampNeg) ((0 : Int32).toNatClampNeg) ((8 : Int32).toNatClampNeg))) 17) ((0 : Int32).toNatClampNeg) ((0 : Int32).toNatClampNeg) ((8 : Int32).toNatClampNeg))) (rX17 g _ _) hf (Nat.le_of_ble_eq_true rfl) (Nat.le_of_ble_eq_true rfl) dX0_copy_35 rfl (fun hf => ?_)
  exact xz_v hret hf dX0_copy_38
set_option maxRecDepth 100000 in
set_option maxHeartbeats 4000000 in
theorem c_X0_copy__15_22 (g : GX) (hS : xSide (sX g)) (l : Launch) (a : St) (q : St) (hf : f_X0_copy 15 22 a = some q) : Met l yX0_copy wsX0_copy rm_X0_copy (xPre (sX g) [.ref (aX g 15), .ref (aX g 22)] a) (xPostV (sX g) q) 0 0 (sX g).2.2.1 := by
  refine xm_v (av := [.ref (aX g 15), .ref (aX g 22)]) (cc := cX0_copy) (maxL := 2) (by decide) rfl (Nat.le_of_ble_eq_true rfl) hS.1 hS.2 (fun K C hret => ?_)
  have C : CC K (sX g) cX0_copy 2 wsX0_copy RX0 rm_X0_copy := C
  have hiX0 : ∀ w ∈ u_ws RX0 TX0 4, w ∈ wsX0_copy := fun w h => List.mem_cons_of_mem _ (List.mem_append_right _ h)
  rw [f_X0_copy] at hf
  show V K (sX g) 2 a [(0, .ref (aX g 15)), (1, .ref (aX g 22))] 0 []
  refine xv_aload_n C dX0_copy_0 rfl 0 rfl ?_
  refine xv_aload_n C dX0_copy_1 rfl 1 rfl ?_
  refine xv_get C hiX0 22 (wX22 g _) rfl 2 (by decide) (List.mem_of_getElem? (i := 1) rfl) rfl dX0_copy_2 ?_
  refine xv_put C hiX0 tyX0 tyX0_ok nmX0 15 (wX15 g _) rfl 2 (by decide) (List.mem_of_getElem? (i := 1) rfl) rfl (tyX0_ok 2 (by decide)) rfl rfl (Nat.le_of_ble_eq_true rfl) (up a 15 2 (a 22 2)) (pX15_2 g _ _) dX0_copy_5 ?_
  refine xv_aload_n C dX0_copy_8 rfl 1 rfl ?_
  refine xv_get C hiX0 22 (wX22 g _) rfl 0 (by decide) (List.mem_of_getElem? (i := 2) rfl) rfl dX0_copy_9 ?_
  refine xv_iconst C 0 dX0_copy_12 (by decide) ?_
  refine xv_aload_n C dX0_copy_13 rfl 0 rfl ?_
  refine xv_get C hiX0 15 (wX15 g _) rfl 0 (by decide) (List.mem_of_getElem? (i := 2) rfl) rfl dX0_copy_14 ?_
  refine xv_iconst C 0 dX0_copy_17 (by decide) ?_
  refine xv_bipush C 8 dX0_copy_18 (by decide) ?_
  refine xv_copy C (List.mem_of_getElem? (i := 3) rfl) (List.mem_of_getElem? (i := 4) rfl) (List.mem_of_getElem? (i := 5) rfl) (List.mem_of_getElem? (i := 6) rfl) 23 16 0 (wX23 g _) (wX16 g _) rfl (uprow (up a 15 2 (a 22 2)) 16 (va_cpy ((up a 15 2 (a 22 2)) 23) ((up a 15 2 (a 22 2)) 16) ((0 : Int32).toNatClampNeg) ((0 : Int32).toNatClampNeg) ((8 : Int32).toNatClampNeg))) (rX16 g _ _) hf (Nat.le_of_ble_eq_true rfl) (Nat.le_of_ble_eq_true rfl) dX0_copy_20 rfl (fun hf => ?_)
  refine xv_aload_n C dX0_copy_23 rfl 1 rfl ?_
  refine xv_get C hiX0 22 (wX22 g _) rfl 1 (by decide) (List.mem_of_getElem? (i := 7) rfl) rfl dX0_copy_24 ?_
  refine xv_iconst C 0 dX0_copy_27 (by decide) ?_
  refine xv_aload_n C dX0_copy_28 rfl 0 rfl ?_
  refine xv_get C hiX0 15 (wX15 g _) rfl 1 (by decide) (List.mem_of_getElem? (i := 7) rfl) rfl dX0_copy_29 ?_
  refine xv_iconst C 0 dX0_copy_32 (by decide) ?_
  refine xv_bipush C 8 dX0_copy_33 (by decide) ?_
  refine xv_copy C (List.mem_of_getElem? (i := 3) rfl) (List.mem_of_getElem? (i := 4) rfl) (List.mem_of_getElem? (i := 5) rfl) (List.mem_of_getElem? (i := 6) rfl) 24 17 0 (wX24 g _) (wX17 g _) rfl (uprow (uprow (up a 15 2 (a 22 2)) 16 (va_cpy ((up a 15 2 (a 22 2)) 23) ((up a 15 2 (a 22 2)) 16) ((0 : Int32).toNatClampNeg) ((0 : Int32).toNatClampNeg) ((8 : Int32).toNatClampNeg))) 17 (va_cpy ((uprow (up a 15 2 (a 22 2)) 16 (va_cpy ((up a 15 2 (a 22 2)) 23) ((up a 15 2 (a 22 2)) 16) ((0 : Int32).toNatClampNeg) ((0 : Int32).toNatClampNeg) ((8 : Int32).toNatClampNeg))) 24) ((uprow (up a 15 2 (a 22 2)) 16 (va_cpy ((up a 15 2 (a 22 2)) 23) ((up a 15 2 (a 22 2)) 16) ((0 : Int32).toNatClampNeg) ((0 : Int32).toNatClampNeg) ((8 : Int32).toNatClampNeg))) 17) ((0 : Int32).toNatClampNeg) ((0 : Int32).toNatClampNeg) ((8 : Int32).toNatClampNeg))) (rX17 g _ _) hf (Nat.le_of_ble_eq_true rfl) (Nat.le_of_ble_eq_true rfl) dX0_copy_35 rfl (fun hf => ?_)
  exact xz_v hret hf dX0_copy_38
set_option maxRecDepth 100000 in
set_option maxHeartbeats 4000000 in
theorem c_X5_back (g : GX) (hS : xSide (sX g)) (l : Launch) (x1 : Int32) (a : St) (q : (Int32 × St)) (hf : f_X5_back x1 a = some q) : Met l yX5_back wsX5_back rm_X5_back (xPre (sX g) [.ref (aX g 0), .int x1] a) (xPostI (sX g) q.1 q.2) 0 0 (sX g).2.2.1 := by
  refine xm_i (av := [.ref (aX g 0), .int x1]) (cc := cX5_back) (maxL := 2) (by decide) rfl (Nat.le_of_ble_eq_true rfl) hS.1 hS.2 (fun K C hret => ?_)
  have C : CC K (sX g) cX5_back 2 wsX5_back RX5 rm_X5_back := C
  have hiX0 : ∀ w ∈ u_ws RX0 TX0 4, w ∈ wsX5_back := fun w h => List.mem_cons_of_mem _ (List.mem_append_right _ h)
  have hiX5 : ∀ w ∈ u_ws RX5 TX5 13, w ∈ wsX5_back := fun w h => List.mem_cons_of_mem _ (List.mem_append_left _ (List.mem_append_right _ h))
  rw [f_X5_back] at hf
  show V K (sX g) 2 a [(0, .ref (aX g 0)), (1, .int x1)] 0 []
  refine xv_iload_n C dX5_back_0 rfl 1 rfl ?_
  refine xv_iconst C 0 dX5_back_1 (by decide) ?_
  refine xv_iconst C 1 dX5_back_2 (by decide) ?_
  obtain ⟨q1, hg, hf⟩ := dt_bind hf
  refine xc_i (xr_S C (As := [.int x1, .int 0, .int 1]) (fun l => c_X5_within (sX g) hS l x1 0 1 a q1 hg) gX5_back_X5_within rfl ⟨rfl, rfl⟩ hdS_X5_within ⟨Nat.le_of_ble_eq_true rfl, Nat.le_of_ble_eq_true rfl⟩ rfl rfl (Nat.le_of_ble_eq_true rfl) dX5_back_3) ?_
  refine xv_if_ne C (y := 0) 12 hf dX5_back_6 (by decide) (fun _ hf => ?_) (fun _ hf => ?_)
  · refine xv_bipush C (-2) dX5_back_9 (by decide) ?_
    exact xz_iw hret hf dX5_back_11
  · refine xv_aload_n C dX5_back_12 rfl 0 rfl ?_
    refine xv_get C hiX5 0 (wX0 g _) rfl 3 (by decide) (List.mem_of_getElem? (i := 1) rfl) rfl dX5_back_13 ?_
    refine xv_iload_n C dX5_back_16 rfl 1 rfl ?_
    refine xv_aald2 C 18 1 (wX18 g _) rfl hf dX5_back_17 (fun hf => ?_) (fun hf => ?_)
    · refine xv_getN C hiX0 19 (wX19 g _) rfl 3 (by decide) (fun U H h => h.1 _ (List.mem_of_getElem? (i := 23) rfl)) rfl dX5_back_18 ?_
      refine xv_if_ne C (y := 0) 27 hf dX5_back_21 (by decide) (fun _ hf => ?_) (fun _ hf => ?_)
      · refine xv_bipush C (-4) dX5_back_24 (by decide) ?_
        exact xz_iw hret hf dX5_back_26
      · refine xv_aload_n C dX5_back_27 rfl 0 rfl ?_
        refine xv_get C hiX5 0 (wX0 g _) rfl 2 (by decide) (List.mem_of_getElem? (i := 2) rfl) rfl dX5_back_28 ?_
        refine xv_aload_n C dX5_back_31 rfl 0 rfl ?_
        refine xv_get C hiX5 0 (wX0 g _) rfl 3 (by decide) (List.mem_of_getElem? (i := 1) rfl) rfl dX5_back_32 ?_
        refine xv_iload_n C dX5_back_35 rfl 1 rfl ?_
        refine xv_aald2 C 18 1 (wX18 g _) rfl hf dX5_back_36 (fun hf => ?_) (fun hf => ?_)
        · obtain ⟨q2, hg, hf⟩ := dt_bind hf
          refine xc_v (xr_VN C (ci := 0) (As := [.ref (aX g 19)]) (fun l => c_X0_copy__15_19 g hS l a q2 hg) gX5_back_X0_copy_n250 rfl ⟨rfl, rfl⟩ (fun U H h => h.1 _ (List.mem_of_getElem? (i := 60) rfl)) (List.mem_of_getElem? (i := 8) rfl) (List.mem_of_getElem? (i := 7) rfl) (List.mem_of_getElem? (i := 9) rfl) hdN_X0_copy ⟨Nat.le_of_ble_eq_true rfl, Nat.le_of_ble_eq_true rfl⟩ 15 rfl rfl (wX15 g _) rfl rfl (Nat.le_of_ble_eq_true rfl) dX5_back_37) ?_
          refine xv_aload_n C dX5_back_40 rfl 0 rfl ?_
          refine xv_get C hiX5 0 (wX0 g _) rfl 2 (by decide) (List.mem_of_getElem? (i := 2) rfl) rfl dX5_back_41 ?_
          refine xv_getN C hiX0 15 (wX15 g _) rfl 2 (by decide) (fun U H h => h.1 _ (List.mem_of_getElem? (i := 22) rfl)) rfl dX5_back_44 ?_
          exact xz_iw hret hf dX5_back_47
        · obtain ⟨q3, hg, hf⟩ := dt_bind hf
          refine xc_v (xr_VN C (ci := 0) (As := [.ref (aX g 22)]) (fun l => c_X0_copy__15_22 g hS l a q3 hg) gX5_back_X0_copy_n250 rfl ⟨rfl, rfl⟩ (fun U H h => h.1 _ (List.mem_of_getElem? (i := 60) rfl)) (List.mem_of_getElem? (i := 8) rfl) (List.mem_of_getElem? (i := 7) rfl) (List.mem_of_getElem? (i := 9) rfl) hdN_X0_copy ⟨Nat.le_of_ble_eq_true rfl, Nat.le_of_ble_eq_true rfl⟩ 15 rfl rfl (wX15 g _) rfl rfl (Nat.le_of_ble_eq_true rfl) dX5_back_37) ?_
          refine xv_aload_n C dX5_back_40 rfl 0 rfl ?_
          refine xv_get C hiX5 0 (wX0 g _) rfl 2 (by decide) (List.mem_of_getElem? (i := 2) rfl) rfl dX5_back_41 ?_
          refine xv_getN C hiX0 15 (wX15 g _) rfl 2 (by decide) (fun U H h => h.1 _ (List.mem_of_getElem? (i := 22) rfl)) rfl dX5_back_44 ?_
          exact xz_iw hret hf dX5_back_47
    · refine xv_getN C hiX0 22 (wX22 g _) rfl 3 (by decide) (fun U H h => h.1 _ (List.mem_of_getElem? (i := 23) rfl)) rfl dX5_back_18 ?_
      refine xv_if_ne C (y := 0) 27 hf dX5_back_21 (by decide) (fun _ hf => ?_) (fun _ hf => ?_)
      · refine xv_bipush C (-4) dX5_back_24 (by decide) ?_
        exact xz_iw hret hf dX5_back_26
      · refine xv_aload_n C dX5_back_27 rfl 0 rfl ?_
        refine xv_get C hiX5 0 (wX0 g _) rfl 2 (by decide) (List.mem_of_getElem? (i := 2) rfl) rfl dX5_back_28 ?_
        refine xv_aload_n C dX5_back_31 rfl 0 rfl ?_
        refine xv_get C hiX5 0 (wX0 g _) rfl 3 (by decide) (List.mem_of_getElem? (i := 1) rfl) rfl dX5_back_32 ?_
        refine xv_iload_n C dX5_back_35 rfl 1 rfl ?_
        refine xv_aald2 C 18 1 (wX18 g _) rfl hf dX5_back_36 (fun hf => ?_) (fun hf => ?_)
        · obtain ⟨q4, hg, hf⟩ := dt_bind hf
          refine xc_v (xr_VN C (ci := 0) (As := [.ref (aX g 19)]) (fun l => c_X0_copy__15_19 g hS l a q4 hg) gX5_back_X0_copy_n250 rfl ⟨rfl, rfl⟩ (fun U H h => h.1 _ (List.mem_of_getElem? (i := 60) rfl)) (List.mem_of_getElem? (i := 8) rfl) (List.mem_of_getElem? (i := 7) rfl) (List.mem_of_getElem? (i := 9) rfl) hdN_X0_copy ⟨Nat.le_of_ble_eq_true rfl, Nat.le_of_ble_eq_true rfl⟩ 15 rfl rfl (wX15 g _) rfl rfl (Nat.le_of_ble_eq_true rfl) dX5_back_37) ?_
          refine xv_aload_n C dX5_back_40 rfl 0 rfl ?_
          refine xv_get C hiX5 0 (wX0 g _) rfl 2 (by decide) (List.mem_of_getElem? (i := 2) rfl) rfl dX5_back_41 ?_
          refine xv_getN C hiX0 15 (wX15 g _) rfl 2 (by decide) (fun U H h => h.1 _ (List.mem_of_getElem? (i := 22) rfl)) rfl dX5_back_44 ?_
          exact xz_iw hret hf dX5_back_47
        · obtain ⟨q5, hg, hf⟩ := dt_bind hf
          refine xc_v (xr_VN C (ci := 0) (As := [.ref (aX g 22)]) (fun l => c_X0_copy__15_22 g hS l a q5 hg) gX5_back_X0_copy_n250 rfl ⟨rfl, rfl⟩ (fun U H h => h.1 _ (List.mem_of_getElem? (i := 60) rfl)) (List.mem_of_getElem? (i := 8) rfl) (List.mem_of_getElem? (i := 7) rfl) (List.mem_of_getElem? (i := 9) rfl) hdN_X0_copy ⟨Nat.le_of_ble_eq_true rfl, Nat.le_of_ble_eq_true rfl⟩ 15 rfl rfl (wX15 g _) rfl rfl (Nat.le_of_ble_eq_true rfl) dX5_back_37) ?_
          refine xv_aload_n C dX5_back_40 rfl 0 rfl ?_
          refine xv_get C hiX5 0 (wX0 g _) rfl 2 (by decide) (List.mem_of_getElem? (i := 2) rfl) rfl dX5_back_41 ?_
          refine xv_getN C hiX0 15 (wX15 g _) rfl 2 (by decide) (fun U H h => h.1 _ (List.mem_of_getElem? (i := 22) rfl)) rfl dX5_back_44 ?_
          exact xz_iw hret hf dX5_back_47
set_option maxRecDepth 100000 in
set_option maxHeartbeats 4000000 in
theorem c_X5_count (g : GX) (hS : xSide (sX g)) (l : Launch) (x1 : Int32) (a : St) (q : Int32) (hf : f_X5_count x1 a = some q) : Met l yX5_count wsX5_count rm_X5_count (xPre (sX g) [.ref (aX g 0), .int x1] a) (xPostI (sX g) q a) 0 0 (sX g).2.2.1 := by
  refine xm_i (av := [.ref (aX g 0), .int x1]) (cc := cX5_count) (maxL := 2) (by decide) rfl (Nat.le_of_ble_eq_true rfl) hS.1 hS.2 (fun K C hret => ?_)
  have C : CC K (sX g) cX5_count 2 wsX5_count RX5 rm_X5_count := C
  have hiX0 : ∀ w ∈ u_ws RX0 TX0 4, w ∈ wsX5_count := fun w h => List.mem_cons_of_mem _ (List.mem_append_left _ (List.mem_append_left _ (List.mem_append_right _ h)))
  have hiX2 : ∀ w ∈ u_ws RX2 TX2 9, w ∈ wsX5_count := fun w h => List.mem_cons_of_mem _ (List.mem_append_right _ h)
  have hiX3 : ∀ w ∈ u_ws RX3 TX3 4, w ∈ wsX5_count := fun w h => List.mem_cons_of_mem _ (List.mem_append_left _ (List.mem_append_right _ h))
  have hiX4 : ∀ w ∈ u_ws RX4 TX4 12, w ∈ wsX5_count := fun w h => List.mem_cons_of_mem _ (List.mem_append_left _ (List.mem_append_left _ (List.mem_append_left _ (List.mem_append_right _ h))))
  have hiX5 : ∀ w ∈ u_ws RX5 TX5 13, w ∈ wsX5_count := fun w h => List.mem_cons_of_mem _ (List.mem_append_left _ (List.mem_append_left _ (List.mem_append_left _ (List.mem_append_left _ (List.mem_append_right _ h)))))
  rw [f_X5_count] at hf
  show V K (sX g) 2 a [(0, .ref (aX g 0)), (1, .int x1)] 0 []
  refine xv_iload_n C dX5_count_0 rfl 1 rfl ?_
  by_cases hs0 : x1 = 0
  · have hf := dt_pos hs0 hf
    refine xv_tin C (off := 39) 40 hs0 dX5_count_1 (by decide) (by decide) (by decide) (by decide) ?_
    refine xv_aload_n C dX5_count_40 rfl 0 rfl ?_
    refine xv_get C hiX5 0 (wX0 g _) rfl 1 (by decide) (List.mem_of_getElem? (i := 1) rfl) rfl dX5_count_41 ?_
    refine xv_getN C hiX4 5 (wX5 g _) rfl 0 (by decide) (fun U H h => h.1 _ (List.mem_of_getElem? (i := 5) rfl)) rfl dX5_count_44 ?_
    exact xz_ir hret hf dX5_count_47
  have hf := dt_neg hs0 hf
  by_cases hs1 : x1 = 1
  · have hf := dt_pos hs1 hf
    refine xv_tin C (off := 47) 48 hs1 dX5_count_1 (by decide) (by decide) (by decide) (by decide) ?_
    refine xv_aload_n C dX5_count_48 rfl 0 rfl ?_
    refine xv_get C hiX5 0 (wX0 g _) rfl 1 (by decide) (List.mem_of_getElem? (i := 1) rfl) rfl dX5_count_49 ?_
    refine xv_getN C hiX4 5 (wX5 g _) rfl 1 (by decide) (fun U H h => h.1 _ (List.mem_of_getElem? (i := 6) rfl)) rfl dX5_count_52 ?_
    exact xz_ir hret hf dX5_count_55
  have hf := dt_neg hs1 hf
  by_cases hs2 : x1 = 2
  · have hf := dt_pos hs2 hf
    refine xv_tin C (off := 55) 56 hs2 dX5_count_1 (by decide) (by decide) (by decide) (by decide) ?_
    refine xv_aload_n C dX5_count_56 rfl 0 rfl ?_
    refine xv_get C hiX5 0 (wX0 g _) rfl 2 (by decide) (List.mem_of_getElem? (i := 2) rfl) rfl dX5_count_57 ?_
    refine xv_getN C hiX0 15 (wX15 g _) rfl 2 (by decide) (fun U H h => h.1 _ (List.mem_of_getElem? (i := 22) rfl)) rfl dX5_count_60 ?_
    exact xz_ir hret hf dX5_count_63
  have hf := dt_neg hs2 hf
  by_cases hs3 : x1 = 3
  · have hf := dt_pos hs3 hf
    refine xv_tin C (off := 63) 64 hs3 dX5_count_1 (by decide) (by decide) (by decide) (by decide) ?_
    refine xv_aload_n C dX5_count_64 rfl 0 rfl ?_
    refine xv_get C hiX5 0 (wX0 g _) rfl 4 (by decide) (List.mem_of_getElem? (i := 3) rfl) rfl dX5_count_65 ?_
    refine xv_getN C hiX3 25 (wX25 g _) rfl 3 (by decide) (fun U H h => h.1 _ (List.mem_of_getElem? (i := 28) rfl)) rfl dX5_count_68 ?_
    exact xz_ir hret hf dX5_count_71
  have hf := dt_neg hs3 hf
  by_cases hs4 : x1 = 4
  · have hf := dt_pos hs4 hf
    refine xv_tin C (off := 71) 72 hs4 dX5_count_1 (by decide) (by decide) (by decide) (by decide) ?_
    refine xv_aload_n C dX5_count_72 rfl 0 rfl ?_
    refine xv_get C hiX5 0 (wX0 g _) rfl 5 (by decide) (List.mem_of_getElem? (i := 4) rfl) rfl dX5_count_73 ?_
    refine xv_getN C hiX3 29 (wX29 g _) rfl 3 (by decide) (fun U H h => h.1 _ (List.mem_of_getElem? (i := 28) rfl)) rfl dX5_count_76 ?_
    exact xz_ir hret hf dX5_count_79
  have hf := dt_neg hs4 hf
  by_cases hs5 : x1 = 5
  · have hf := dt_pos hs5 hf
    refine xv_tin C (off := 79) 80 hs5 dX5_count_1 (by decide) (by decide) (by decide) (by decide) ?_
    refine xv_aload_n C dX5_count_80 rfl 0 rfl ?_
    refine xv_get C hiX5 0 (wX0 g _) rfl 0 (by decide) (List.mem_of_getElem? (i := 5) rfl) rfl dX5_count_81 ?_
    refine xv_getN C hiX2 1 (wX1 g _) rfl 1 (by decide) (fun U H h => h.1 _ (List.mem_of_getElem? (i := 1) rfl)) rfl dX5_count_84 ?_
    exact xz_ir hret hf dX5_count_87
  have hf := dt_neg hs5 hf
  have e0 := lv_neT (a := 0) hs0 (by decide)
  have e1 := lv_neT (a := 1) hs1 (by decide)
  have e2 := lv_neT (a := 2) hs2 (by decide)
  have e3 := lv_neT (a := 3) hs3 (by decide)
  have e4 := lv_neT (a := 4) hs4 (by decide)
  have e5 := lv_neT (a := 5) hs5 (by decide)
  refine xv_tout C 88 dX5_count_1 (by omega) (by decide) ?_
  refine xv_bipush C (-3) dX5_count_88 (by decide) ?_
  exact xz_ir hret hf dX5_count_90
