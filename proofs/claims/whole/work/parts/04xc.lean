set_option maxRecDepth 100000 in
set_option maxHeartbeats 4000000 in
theorem c_X5_deed (g : GX) (hS : xSide (sX g)) (l : Launch) (x1 : Int32) (x2 : Int32) (a : St) (q : Int32) (hf : f_X5_deed x1 x2 a = some q) : Met l yX5_deed wsX5_deed rm_X5_deed (xPre (sX g) [.ref (aX g 0), .int x1, .int x2] a) (xPostI (sX g) q a) 0 0 (sX g).2.2.1 := by
  refine xm_i (av := [.ref (aX g 0), .int x1, .int x2]) (cc := cX5_deed) (maxL := 3) (by decide) rfl (Nat.le_of_ble_eq_true rfl) hS.1 hS.2 (fun K C hret => ?_)
  have C : CC K (sX g) cX5_deed 3 wsX5_deed RX5 rm_X5_deed := C
  have hiX4 : ∀ w ∈ u_ws RX4 TX4 12, w ∈ wsX5_deed := fun w h => List.mem_cons_of_mem _ (List.mem_append_right _ h)
  have hiX5 : ∀ w ∈ u_ws RX5 TX5 13, w ∈ wsX5_deed := fun w h => List.mem_cons_of_mem _ (List.mem_append_left _ (List.mem_append_right _ h))
  rw [f_X5_deed] at hf
  show V K (sX g) 3 a [(0, .ref (aX g 0)), (1, .int x1), (2, .int x2)] 0 []
  refine xv_aload_n C dX5_deed_0 rfl 0 rfl ?_
  refine xv_get C hiX5 0 (wX0 g _) rfl 1 (by decide) (List.mem_of_getElem? (i := 1) rfl) rfl dX5_deed_1 ?_
  refine xv_iload_n C dX5_deed_4 rfl 1 rfl ?_
  obtain ⟨q1, hg, hf⟩ := dt_bind hf
  refine xc_i (xr_VN C (ci := 4) (As := [.int x1]) (fun l => c_X4_hasDeed g hS l x1 a q1 hg) gX5_deed_X4_hasDeed_n130 rfl ⟨rfl, rfl⟩ (fun U H h => h.1 _ (List.mem_of_getElem? (i := 47) rfl)) (List.mem_of_getElem? (i := 3) rfl) (List.mem_of_getElem? (i := 2) rfl) (List.mem_of_getElem? (i := 4) rfl) hdN_X4_hasDeed ⟨Nat.le_of_ble_eq_true rfl, Nat.le_of_ble_eq_true rfl⟩ 5 rfl rfl (wX5 g _) rfl rfl (Nat.le_of_ble_eq_true rfl) dX5_deed_5) ?_
  refine xv_if_ne C (y := 0) 14 hf dX5_deed_8 (by decide) (fun _ hf => ?_) (fun _ hf => ?_)
  · refine xv_bipush C (-2) dX5_deed_11 (by decide) ?_
    exact xz_ir hret hf dX5_deed_13
  · refine xv_iload_n C dX5_deed_14 rfl 2 rfl ?_
    by_cases hs0 : x2 = 0
    · have hf := dt_pos hs0 hf
      refine xv_tin C (off := 37) 52 hs0 dX5_deed_15 (by decide) (by decide) (by decide) (by decide) ?_
      refine xv_aload_n C dX5_deed_52 rfl 0 rfl ?_
      refine xv_get C hiX5 0 (wX0 g _) rfl 1 (by decide) (List.mem_of_getElem? (i := 1) rfl) rfl dX5_deed_53 ?_
      refine xv_getN C hiX4 5 (wX5 g _) rfl 6 (by decide) (fun U H h => h.1 _ (List.mem_of_getElem? (i := 11) rfl)) rfl dX5_deed_56 ?_
      refine xv_iload_n C dX5_deed_59 rfl 1 rfl ?_
      refine xv_iald C 9 0 (wX9 g _) rfl hf dX5_deed_60 (fun hf => ?_)
      exact xz_ir hret hf dX5_deed_61
    have hf := dt_neg hs0 hf
    by_cases hs1 : x2 = 1
    · have hf := dt_pos hs1 hf
      refine xv_tin C (off := 47) 62 hs1 dX5_deed_15 (by decide) (by decide) (by decide) (by decide) ?_
      refine xv_aload_n C dX5_deed_62 rfl 0 rfl ?_
      refine xv_get C hiX5 0 (wX0 g _) rfl 1 (by decide) (List.mem_of_getElem? (i := 1) rfl) rfl dX5_deed_63 ?_
      refine xv_getN C hiX4 5 (wX5 g _) rfl 7 (by decide) (fun U H h => h.1 _ (List.mem_of_getElem? (i := 12) rfl)) rfl dX5_deed_66 ?_
      refine xv_iload_n C dX5_deed_69 rfl 1 rfl ?_
      refine xv_iald C 10 0 (wX10 g _) rfl hf dX5_deed_70 (fun hf => ?_)
      exact xz_ir hret hf dX5_deed_71
    have hf := dt_neg hs1 hf
    by_cases hs2 : x2 = 2
    · have hf := dt_pos hs2 hf
      refine xv_tin C (off := 57) 72 hs2 dX5_deed_15 (by decide) (by decide) (by decide) (by decide) ?_
      refine xv_aload_n C dX5_deed_72 rfl 0 rfl ?_
      refine xv_get C hiX5 0 (wX0 g _) rfl 1 (by decide) (List.mem_of_getElem? (i := 1) rfl) rfl dX5_deed_73 ?_
      refine xv_getN C hiX4 5 (wX5 g _) rfl 8 (by decide) (fun U H h => h.1 _ (List.mem_of_getElem? (i := 14) rfl)) rfl dX5_deed_76 ?_
      refine xv_iload_n C dX5_deed_79 rfl 1 rfl ?_
      refine xv_iald C 11 0 (wX11 g _) rfl hf dX5_deed_80 (fun hf => ?_)
      exact xz_ir hret hf dX5_deed_81
    have hf := dt_neg hs2 hf
    by_cases hs3 : x2 = 3
    · have hf := dt_pos hs3 hf
      refine xv_tin C (off := 67) 82 hs3 dX5_deed_15 (by decide) (by decide) (by decide) (by decide) ?_
      refine xv_aload_n C dX5_deed_82 rfl 0 rfl ?_
      refine xv_get C hiX5 0 (wX0 g _) rfl 1 (by decide) (List.mem_of_getElem? (i := 1) rfl) rfl dX5_deed_83 ?_
      refine xv_getN C hiX4 5 (wX5 g _) rfl 9 (by decide) (fun U H h => h.1 _ (List.mem_of_getElem? (i := 16) rfl)) rfl dX5_deed_86 ?_
      refine xv_iload_n C dX5_deed_89 rfl 1 rfl ?_
      refine xv_iald C 12 0 (wX12 g _) rfl hf dX5_deed_90 (fun hf => ?_)
      exact xz_ir hret hf dX5_deed_91
    have hf := dt_neg hs3 hf
    by_cases hs4 : x2 = 4
    · have hf := dt_pos hs4 hf
      refine xv_tin C (off := 77) 92 hs4 dX5_deed_15 (by decide) (by decide) (by decide) (by decide) ?_
      refine xv_aload_n C dX5_deed_92 rfl 0 rfl ?_
      refine xv_get C hiX5 0 (wX0 g _) rfl 1 (by decide) (List.mem_of_getElem? (i := 1) rfl) rfl dX5_deed_93 ?_
      refine xv_getN C hiX4 5 (wX5 g _) rfl 10 (by decide) (fun U H h => h.1 _ (List.mem_of_getElem? (i := 18) rfl)) rfl dX5_deed_96 ?_
      refine xv_iload_n C dX5_deed_99 rfl 1 rfl ?_
      refine xv_iald C 13 0 (wX13 g _) rfl hf dX5_deed_100 (fun hf => ?_)
      exact xz_ir hret hf dX5_deed_101
    have hf := dt_neg hs4 hf
    by_cases hs5 : x2 = 5
    · have hf := dt_pos hs5 hf
      refine xv_tin C (off := 87) 102 hs5 dX5_deed_15 (by decide) (by decide) (by decide) (by decide) ?_
      refine xv_aload_n C dX5_deed_102 rfl 0 rfl ?_
      refine xv_get C hiX5 0 (wX0 g _) rfl 1 (by decide) (List.mem_of_getElem? (i := 1) rfl) rfl dX5_deed_103 ?_
      refine xv_getN C hiX4 5 (wX5 g _) rfl 2 (by decide) (fun U H h => h.1 _ (List.mem_of_getElem? (i := 7) rfl)) rfl dX5_deed_106 ?_
      refine xv_iload_n C dX5_deed_109 rfl 1 rfl ?_
      obtain ⟨q2, hg, hf⟩ := dt_bind hf
      refine xc_i (xr_S C (As := [.int (a 5 2), .int x1]) (fun l => c_X5_has (sX g) hS l (a 5 2) x1 a q2 hg) gX5_deed_X5_has rfl ⟨rfl, rfl⟩ hdS_X5_has ⟨Nat.le_of_ble_eq_true rfl, Nat.le_of_ble_eq_true rfl⟩ rfl rfl (Nat.le_of_ble_eq_true rfl) dX5_deed_110) ?_
      refine xv_if_eq C (y := 0) 120 hf dX5_deed_113 (by decide) (fun _ hf => ?_) (fun _ hf => ?_)
      · refine xv_iconst C 0 dX5_deed_120 (by decide) ?_
        exact xz_ir hret hf dX5_deed_121
      · refine xv_iconst C 1 dX5_deed_116 (by decide) ?_
        refine xv_goto C 121 dX5_deed_117 (by decide) ?_
        exact xz_ir hret hf dX5_deed_121
    have hf := dt_neg hs5 hf
    have e0 := lv_neT (a := 0) hs0 (by decide)
    have e1 := lv_neT (a := 1) hs1 (by decide)
    have e2 := lv_neT (a := 2) hs2 (by decide)
    have e3 := lv_neT (a := 3) hs3 (by decide)
    have e4 := lv_neT (a := 4) hs4 (by decide)
    have e5 := lv_neT (a := 5) hs5 (by decide)
    refine xv_tout C 122 dX5_deed_15 (by omega) (by decide) ?_
    refine xv_bipush C (-3) dX5_deed_122 (by decide) ?_
    exact xz_ir hret hf dX5_deed_124
set_option maxRecDepth 100000 in
set_option maxHeartbeats 4000000 in
theorem c_X4_isOfKind (g : GX) (hS : xSide (sX g)) (l : Launch) (x1 : Int32) (x2 : Int32) (a : St) (q : Int32) (hf : f_X4_isOfKind x1 x2 a = some q) : Met l yX4_isOfKind wsX4_isOfKind rm_X4_isOfKind (xPre (sX g) [.ref (aX g 5), .int x1, .int x2] a) (xPostI (sX g) q a) 0 0 (sX g).2.2.1 := by
  refine xm_z (av := [.ref (aX g 5), .int x1, .int x2]) (cc := cX4_isOfKind) (maxL := 4) (by decide) rfl (Nat.le_of_ble_eq_true rfl) hS.1 hS.2 (fun K C hret => ?_)
  have C : CC K (sX g) cX4_isOfKind 4 wsX4_isOfKind RX4 rm_X4_isOfKind := C
  have hiX4 : ∀ w ∈ u_ws RX4 TX4 12, w ∈ wsX4_isOfKind := fun w h => List.mem_cons_of_mem _ (List.mem_append_right _ h)
  rw [f_X4_isOfKind] at hf
  show V K (sX g) 4 a [(0, .ref (aX g 5)), (1, .int x1), (2, .int x2)] 0 []
  refine xv_iload_n C dX4_isOfKind_0 rfl 2 rfl ?_
  refine xv_if_eq C (y := 0) 18 hf dX4_isOfKind_1 (by decide) (fun _ hf => ?_) (fun _ hf => ?_)
  · refine xv_iconst C 1 dX4_isOfKind_18 (by decide) ?_
    refine xv_goto C 23 dX4_isOfKind_19 (by decide) ?_
    refine xv_istore_n C [(3, .int 1), (0, .ref (aX g 5)), (1, .int x1), (2, .int x2)] dX4_isOfKind_23 rfl (by decide) rfl ?_
    refine xv_iload_n C dX4_isOfKind_24 rfl 0 rfl ?_
    refine xv_if_ne C (y := 0) (A := (none : Option Unit)) (B := some ()) (v := ()) 40 (by decide) dX4_isOfKind_25 (by decide) (fun _ hf => by cases hf) (fun _ _ => ?_)
    refine xv_iconst C 1 dX4_isOfKind_40 (by decide) ?_
    refine xv_goto C 45 dX4_isOfKind_41 (by decide) ?_
    exact xz_zr hret hf (by decide) dX4_isOfKind_45
  · refine xv_iload_n C dX4_isOfKind_4 rfl 2 rfl ?_
    refine xv_iconst C 2 dX4_isOfKind_5 (by decide) ?_
    refine xv_icmp_ne C 22 hf dX4_isOfKind_6 (by decide) (fun _ hf => ?_) (fun _ hf => ?_)
    · refine xv_aload_n C dX4_isOfKind_9 rfl 0 rfl ?_
      refine xv_get C hiX4 5 (wX5 g _) rfl 6 (by decide) (List.mem_of_getElem? (i := 1) rfl) rfl dX4_isOfKind_10 ?_
      refine xv_iload_n C dX4_isOfKind_13 rfl 1 rfl ?_
      refine xv_iald C 9 0 (wX9 g _) rfl hf dX4_isOfKind_14 (fun hf => ?_)
      refine xv_if_eq C (y := 0) 22 hf dX4_isOfKind_15 (by decide) (fun _ hf => ?_) (fun _ hf => ?_)
      · refine xv_iconst C 0 dX4_isOfKind_22 (by decide) ?_
        refine xv_istore_n C [(3, .int 0), (0, .ref (aX g 5)), (1, .int x1), (2, .int x2)] dX4_isOfKind_23 rfl (by decide) rfl ?_
        refine xv_iload_n C dX4_isOfKind_24 rfl 0 rfl ?_
        refine xv_if_ne C (y := 0) (A := some ()) (B := (none : Option Unit)) (v := ()) 40 (by decide) dX4_isOfKind_25 (by decide) (fun _ _ => ?_) (fun _ hf => by cases hf)
        refine xv_aload_n C dX4_isOfKind_28 rfl 1 rfl ?_
        refine xv_get C hiX4 5 (wX5 g _) rfl 6 (by decide) (List.mem_of_getElem? (i := 1) rfl) rfl dX4_isOfKind_29 ?_
        refine xv_iload_n C dX4_isOfKind_32 rfl 2 rfl ?_
        refine xv_iald C 9 0 (wX9 g _) rfl hf dX4_isOfKind_33 (fun hf => ?_)
        refine xv_iconst C 1 dX4_isOfKind_34 (by decide) ?_
        refine xv_iadd C dX4_isOfKind_35 ?_
        refine xv_iload_n C dX4_isOfKind_36 rfl 3 rfl ?_
        refine xv_icmp_ne C 44 hf dX4_isOfKind_37 (by decide) (fun _ hf => ?_) (fun _ hf => ?_)
        · refine xv_iconst C 1 dX4_isOfKind_40 (by decide) ?_
          refine xv_goto C 45 dX4_isOfKind_41 (by decide) ?_
          exact xz_zr hret hf (by decide) dX4_isOfKind_45
        · refine xv_iconst C 0 dX4_isOfKind_44 (by decide) ?_
          exact xz_zr hret hf (by decide) dX4_isOfKind_45
      · refine xv_iconst C 1 dX4_isOfKind_18 (by decide) ?_
        refine xv_goto C 23 dX4_isOfKind_19 (by decide) ?_
        refine xv_istore_n C [(3, .int 1), (0, .ref (aX g 5)), (1, .int x1), (2, .int x2)] dX4_isOfKind_23 rfl (by decide) rfl ?_
        refine xv_iload_n C dX4_isOfKind_24 rfl 0 rfl ?_
        refine xv_if_ne C (y := 0) (A := (none : Option Unit)) (B := some ()) (v := ()) 40 (by decide) dX4_isOfKind_25 (by decide) (fun _ hf => by cases hf) (fun _ _ => ?_)
        refine xv_iconst C 1 dX4_isOfKind_40 (by decide) ?_
        refine xv_goto C 45 dX4_isOfKind_41 (by decide) ?_
        exact xz_zr hret hf (by decide) dX4_isOfKind_45
    · refine xv_iconst C 0 dX4_isOfKind_22 (by decide) ?_
      refine xv_istore_n C [(3, .int 0), (0, .ref (aX g 5)), (1, .int x1), (2, .int x2)] dX4_isOfKind_23 rfl (by decide) rfl ?_
      refine xv_iload_n C dX4_isOfKind_24 rfl 0 rfl ?_
      refine xv_if_ne C (y := 0) (A := some ()) (B := (none : Option Unit)) (v := ()) 40 (by decide) dX4_isOfKind_25 (by decide) (fun _ _ => ?_) (fun _ hf => by cases hf)
      refine xv_aload_n C dX4_isOfKind_28 rfl 1 rfl ?_
      refine xv_get C hiX4 5 (wX5 g _) rfl 6 (by decide) (List.mem_of_getElem? (i := 1) rfl) rfl dX4_isOfKind_29 ?_
      refine xv_iload_n C dX4_isOfKind_32 rfl 2 rfl ?_
      refine xv_iald C 9 0 (wX9 g _) rfl hf dX4_isOfKind_33 (fun hf => ?_)
      refine xv_iconst C 1 dX4_isOfKind_34 (by decide) ?_
      refine xv_iadd C dX4_isOfKind_35 ?_
      refine xv_iload_n C dX4_isOfKind_36 rfl 3 rfl ?_
      refine xv_icmp_ne C 44 hf dX4_isOfKind_37 (by decide) (fun _ hf => ?_) (fun _ hf => ?_)
      · refine xv_iconst C 1 dX4_isOfKind_40 (by decide) ?_
        refine xv_goto C 45 dX4_isOfKind_41 (by decide) ?_
        exact xz_zr hret hf (by decide) dX4_isOfKind_45
      · refine xv_iconst C 0 dX4_isOfKind_44 (by decide) ?_
        exact xz_zr hret hf (by decide) dX4_isOfKind_45
set_option maxRecDepth 100000 in
set_option maxHeartbeats 4000000 in
theorem c_X4_doers (g : GX) (hS : xSide (sX g)) (l : Launch) (n : Nat) (x1 : Int32) (a : St) (q : Int32) (hf : f_X4_doers n x1 a = some q) : Met l yX4_doers wsX4_doers rm_X4_doers (xPre (sX g) [.ref (aX g 5), .int x1] a) (xPostI (sX g) q a) 0 0 (sX g).2.2.1 := by
  refine xm_i (av := [.ref (aX g 5), .int x1]) (cc := cX4_doers) (maxL := 4) (by decide) rfl (Nat.le_of_ble_eq_true rfl) hS.1 hS.2 (fun K C hret => ?_)
  have C : CC K (sX g) cX4_doers 4 wsX4_doers RX4 rm_X4_doers := C
  have hiX4 : ∀ w ∈ u_ws RX4 TX4 12, w ∈ wsX4_doers := fun w h => List.mem_cons_of_mem _ (List.mem_append_right _ h)
  have hL4 : ∀ (x1 : Int32)  (j : Nat) (x2 : Int32) (x3 : Int32), L_X4_doers_4 n x1 a j x2 x3 = some q → V K (sX g) 4 a [(0, .ref (aX g 5)), (1, .int x1), (2, .int x2), (3, .int x3)] 4 [] := by
    intro x1 j
    induction j with
    | zero =>
      intro x2 x3 hf
      have hf : (none : Option Int32) = some q := hf
      cases hf
    | succ j ih =>
      intro x2 x3 hf
      rw [L_X4_doers_4] at hf
      refine xv_iload_n C dX4_doers_4 rfl 3 rfl ?_
      refine xv_aload_n C dX4_doers_5 rfl 0 rfl ?_
      refine xv_get C hiX4 5 (wX5 g _) rfl 0 (by decide) (List.mem_of_getElem? (i := 1) rfl) rfl dX4_doers_6 ?_
      refine xv_icmp_ge C 37 hf dX4_doers_9 (by decide) (fun _ hf => ?_) (fun _ hf => ?_)
      · refine xv_iload_n C dX4_doers_37 rfl 2 rfl ?_
        exact xz_ir hret hf dX4_doers_38
      · refine xv_aload_n C dX4_doers_12 rfl 0 rfl ?_
        refine xv_iload_n C dX4_doers_13 rfl 3 rfl ?_
        refine xv_iload_n C dX4_doers_14 rfl 1 rfl ?_
        refine xv_aload_n C dX4_doers_15 rfl 0 rfl ?_
        refine xv_get C hiX4 5 (wX5 g _) rfl 2 (by decide) (List.mem_of_getElem? (i := 2) rfl) rfl dX4_doers_16 ?_
        obtain ⟨q1, hg, hf⟩ := dt_bind hf
        refine xc_i (xr_V C (ci := 4) (As := [.int x3, .int x1, .int (a 5 2)]) (fun l => c_X4_can g hS l x3 x1 (a 5 2) a q1 hg) gX4_doers_X4_can rfl ⟨rfl, rfl⟩ hdV_X4_can ⟨Nat.le_of_ble_eq_true rfl, Nat.le_of_ble_eq_true rfl⟩ 5 rfl rfl (wX5 g _) rfl rfl (Nat.le_of_ble_eq_true rfl) dX4_doers_19) ?_
        refine xv_if_eq C (y := 0) 31 hf dX4_doers_22 (by decide) (fun _ hf => ?_) (fun _ hf => ?_)
        · refine xv_iinc C [(3, .int (x3 + 1)), (0, .ref (aX g 5)), (1, .int x1), (2, .int x2)] dX4_doers_31 3 rfl rfl (by decide) rfl ?_
          refine xv_goto C 4 dX4_doers_34 (by decide) ?_
          refine xv_eq [1, 2, 3, 0] rfl ?_
          exact ih x2 (x3 + 1) hf
        · refine xv_iload_n C dX4_doers_25 rfl 2 rfl ?_
          refine xv_iconst C 1 dX4_doers_26 (by decide) ?_
          refine xv_iload_n C dX4_doers_27 rfl 3 rfl ?_
          refine xv_ishl C dX4_doers_28 ?_
          refine xv_ior C dX4_doers_29 ?_
          refine xv_istore_n C [(2, .int (x2 ||| ((1 : Int32) <<< (x3 &&& 31)))), (0, .ref (aX g 5)), (1, .int x1), (3, .int x3)] dX4_doers_30 rfl (by decide) rfl ?_
          refine xv_iinc C [(3, .int (x3 + 1)), (2, .int (x2 ||| ((1 : Int32) <<< (x3 &&& 31)))), (0, .ref (aX g 5)), (1, .int x1)] dX4_doers_31 3 rfl rfl (by decide) rfl ?_
          refine xv_goto C 4 dX4_doers_34 (by decide) ?_
          refine xv_eq [2, 3, 1, 0] rfl ?_
          exact ih (x2 ||| ((1 : Int32) <<< (x3 &&& 31))) (x3 + 1) hf
  rw [f_X4_doers] at hf
  show V K (sX g) 4 a [(0, .ref (aX g 5)), (1, .int x1)] 0 []
  refine xv_iconst C 0 dX4_doers_0 (by decide) ?_
  refine xv_istore_n C [(2, .int 0), (0, .ref (aX g 5)), (1, .int x1)] dX4_doers_1 rfl (by decide) rfl ?_
  refine xv_iconst C 0 dX4_doers_2 (by decide) ?_
  refine xv_istore_n C [(3, .int 0), (2, .int 0), (0, .ref (aX g 5)), (1, .int x1)] dX4_doers_3 rfl (by decide) rfl ?_
  refine xv_eq [2, 3, 1, 0] rfl ?_
  exact hL4 x1 n 0 0 hf
set_option maxRecDepth 100000 in
set_option maxHeartbeats 4000000 in
theorem c_X5_as (g : GX) (hS : xSide (sX g)) (l : Launch) (n : Nat) (x1 : Int32) (x2 : Int32) (a : St) (q : Int32) (hf : f_X5_as n x1 x2 a = some q) : Met l yX5_as wsX5_as rm_X5_as (xPre (sX g) [.ref (aX g 0), .int x1, .int x2] a) (xPostI (sX g) q a) 0 0 (sX g).2.2.1 := by
  refine xm_i (av := [.ref (aX g 0), .int x1, .int x2]) (cc := cX5_as) (maxL := 3) (by decide) rfl (Nat.le_of_ble_eq_true rfl) hS.1 hS.2 (fun K C hret => ?_)
  have C : CC K (sX g) cX5_as 3 wsX5_as RX5 rm_X5_as := C
  have hiX5 : ∀ w ∈ u_ws RX5 TX5 13, w ∈ wsX5_as := fun w h => List.mem_cons_of_mem _ (List.mem_append_left _ (List.mem_append_right _ h))
  rw [f_X5_as] at hf
  show V K (sX g) 3 a [(0, .ref (aX g 0)), (1, .int x1), (2, .int x2)] 0 []
  refine xv_aload_n C dX5_as_0 rfl 0 rfl ?_
  refine xv_get C hiX5 0 (wX0 g _) rfl 1 (by decide) (List.mem_of_getElem? (i := 1) rfl) rfl dX5_as_1 ?_
  refine xv_iload_n C dX5_as_4 rfl 1 rfl ?_
  obtain ⟨q1, hg, hf⟩ := dt_bind hf
  refine xc_i (xr_VN C (ci := 4) (As := [.int x1]) (fun l => c_X4_hasDeed g hS l x1 a q1 hg) gX5_as_X4_hasDeed_n130 rfl ⟨rfl, rfl⟩ (fun U H h => h.1 _ (List.mem_of_getElem? (i := 47) rfl)) (List.mem_of_getElem? (i := 3) rfl) (List.mem_of_getElem? (i := 2) rfl) (List.mem_of_getElem? (i := 4) rfl) hdN_X4_hasDeed ⟨Nat.le_of_ble_eq_true rfl, Nat.le_of_ble_eq_true rfl⟩ 5 rfl rfl (wX5 g _) rfl rfl (Nat.le_of_ble_eq_true rfl) dX5_as_5) ?_
  refine xv_if_ne C (y := 0) 14 hf dX5_as_8 (by decide) (fun _ hf => ?_) (fun _ hf => ?_)
  · refine xv_bipush C (-2) dX5_as_11 (by decide) ?_
    exact xz_ir hret hf dX5_as_13
  · refine xv_iload_n C dX5_as_14 rfl 2 rfl ?_
    refine xv_iconst C 0 dX5_as_15 (by decide) ?_
    refine xv_iconst C 4 dX5_as_16 (by decide) ?_
    obtain ⟨q2, hg, hf⟩ := dt_bind hf
    refine xc_i (xr_S C (As := [.int x2, .int 0, .int 4]) (fun l => c_X5_within (sX g) hS l x2 0 4 a q2 hg) gX5_as_X5_within rfl ⟨rfl, rfl⟩ hdS_X5_within ⟨Nat.le_of_ble_eq_true rfl, Nat.le_of_ble_eq_true rfl⟩ rfl rfl (Nat.le_of_ble_eq_true rfl) dX5_as_17) ?_
    refine xv_if_ne C (y := 0) 26 hf dX5_as_20 (by decide) (fun _ hf => ?_) (fun _ hf => ?_)
    · refine xv_bipush C (-3) dX5_as_23 (by decide) ?_
      exact xz_ir hret hf dX5_as_25
    · refine xv_aload_n C dX5_as_26 rfl 0 rfl ?_
      refine xv_get C hiX5 0 (wX0 g _) rfl 1 (by decide) (List.mem_of_getElem? (i := 1) rfl) rfl dX5_as_27 ?_
      refine xv_iload_n C dX5_as_30 rfl 1 rfl ?_
      refine xv_iload_n C dX5_as_31 rfl 2 rfl ?_
      obtain ⟨q3, hg, hf⟩ := dt_bind hf
      refine xc_i (xr_VN C (ci := 4) (As := [.int x1, .int x2]) (fun l => c_X4_isOfKind g hS l x1 x2 a q3 hg) gX5_as_X4_isOfKind_n155 rfl ⟨rfl, rfl⟩ (fun U H h => h.1 _ (List.mem_of_getElem? (i := 48) rfl)) (List.mem_of_getElem? (i := 3) rfl) (List.mem_of_getElem? (i := 11) rfl) (List.mem_of_getElem? (i := 12) rfl) hdN_X4_isOfKind ⟨Nat.le_of_ble_eq_true rfl, Nat.le_of_ble_eq_true rfl⟩ 5 rfl rfl (wX5 g _) rfl rfl (Nat.le_of_ble_eq_true rfl) dX5_as_32) ?_
      refine xv_if_eq C (y := 0) 49 hf dX5_as_35 (by decide) (fun _ hf => ?_) (fun _ hf => ?_)
      · refine xv_bipush C (-4) dX5_as_49 (by decide) ?_
        exact xz_ir hret hf dX5_as_51
      · refine xv_aload_n C dX5_as_38 rfl 0 rfl ?_
        refine xv_get C hiX5 0 (wX0 g _) rfl 1 (by decide) (List.mem_of_getElem? (i := 1) rfl) rfl dX5_as_39 ?_
        refine xv_iload_n C dX5_as_42 rfl 1 rfl ?_
        obtain ⟨q4, hg, hf⟩ := dt_bind hf
        refine xc_i (xr_VN C (ci := 4) (As := [.int x1]) (fun l => c_X4_doers g hS l n x1 a q4 hg) gX5_as_X4_doers_n158 rfl ⟨rfl, rfl⟩ (fun U H h => h.1 _ (List.mem_of_getElem? (i := 49) rfl)) (List.mem_of_getElem? (i := 3) rfl) (List.mem_of_getElem? (i := 15) rfl) (List.mem_of_getElem? (i := 16) rfl) hdN_X4_doers ⟨Nat.le_of_ble_eq_true rfl, Nat.le_of_ble_eq_true rfl⟩ 5 rfl rfl (wX5 g _) rfl rfl (Nat.le_of_ble_eq_true rfl) dX5_as_43) ?_
        refine xv_goto C 51 dX5_as_46 (by decide) ?_
        exact xz_ir hret hf dX5_as_51
set_option maxRecDepth 100000 in
set_option maxHeartbeats 4000000 in
theorem c_X5_isDeedOrNone (g : GX) (hS : xSide (sX g)) (l : Launch) (x1 : Int32) (a : St) (q : Int32) (hf : f_X5_isDeedOrNone x1 a = some q) : Met l yX5_isDeedOrNone wsX5_isDeedOrNone rm_X5_isDeedOrNone (xPre (sX g) [.ref (aX g 0), .int x1] a) (xPostI (sX g) q a) 0 0 (sX g).2.2.1 := by
  refine xm_z (av := [.ref (aX g 0), .int x1]) (cc := cX5_isDeedOrNone) (maxL := 2) (by decide) rfl (Nat.le_of_ble_eq_true rfl) hS.1 hS.2 (fun K C hret => ?_)
  have C : CC K (sX g) cX5_isDeedOrNone 2 wsX5_isDeedOrNone RX5 rm_X5_isDeedOrNone := C
  have hiX5 : ∀ w ∈ u_ws RX5 TX5 13, w ∈ wsX5_isDeedOrNone := fun w h => List.mem_cons_of_mem _ (List.mem_append_left _ (List.mem_append_right _ h))
  rw [f_X5_isDeedOrNone] at hf
  show V K (sX g) 2 a [(0, .ref (aX g 0)), (1, .int x1)] 0 []
  refine xv_iload_n C dX5_isDeedOrNone_0 rfl 1 rfl ?_
  refine xv_iconst C (-1) dX5_isDeedOrNone_1 (by decide) ?_
  refine xv_icmp_eq C 16 hf dX5_isDeedOrNone_2 (by decide) (fun _ hf => ?_) (fun _ hf => ?_)
  · refine xv_iconst C 1 dX5_isDeedOrNone_16 (by decide) ?_
    refine xv_goto C 21 dX5_isDeedOrNone_17 (by decide) ?_
    exact xz_zr hret hf (by decide) dX5_isDeedOrNone_21
  · refine xv_aload_n C dX5_isDeedOrNone_5 rfl 0 rfl ?_
    refine xv_get C hiX5 0 (wX0 g _) rfl 1 (by decide) (List.mem_of_getElem? (i := 1) rfl) rfl dX5_isDeedOrNone_6 ?_
    refine xv_iload_n C dX5_isDeedOrNone_9 rfl 1 rfl ?_
    obtain ⟨q1, hg, hf⟩ := dt_bind hf
    refine xc_i (xr_VN C (ci := 4) (As := [.int x1]) (fun l => c_X4_hasDeed g hS l x1 a q1 hg) gX5_isDeedOrNone_X4_hasDeed_n130 rfl ⟨rfl, rfl⟩ (fun U H h => h.1 _ (List.mem_of_getElem? (i := 47) rfl)) (List.mem_of_getElem? (i := 3) rfl) (List.mem_of_getElem? (i := 2) rfl) (List.mem_of_getElem? (i := 4) rfl) hdN_X4_hasDeed ⟨Nat.le_of_ble_eq_true rfl, Nat.le_of_ble_eq_true rfl⟩ 5 rfl rfl (wX5 g _) rfl rfl (Nat.le_of_ble_eq_true rfl) dX5_isDeedOrNone_10) ?_
    refine xv_if_eq C (y := 0) 20 hf dX5_isDeedOrNone_13 (by decide) (fun _ hf => ?_) (fun _ hf => ?_)
    · refine xv_iconst C 0 dX5_isDeedOrNone_20 (by decide) ?_
      exact xz_zr hret hf (by decide) dX5_isDeedOrNone_21
    · refine xv_iconst C 1 dX5_isDeedOrNone_16 (by decide) ?_
      refine xv_goto C 21 dX5_isDeedOrNone_17 (by decide) ?_
      exact xz_zr hret hf (by decide) dX5_isDeedOrNone_21
set_option maxRecDepth 100000 in
set_option maxHeartbeats 4000000 in
theorem c_X5_set (g : GX) (hS : xSide (sX g)) (l : Launch) (x1 : Int32) (x2 : Int32) (a : St) (q : (Int32 × St)) (hf : f_X5_set x1 x2 a = some q) : Met l yX5_set wsX5_set rm_X5_set (xPre (sX g) [.ref (aX g 0), .int x1, .int x2] a) (xPostI (sX g) q.1 q.2) 0 0 (sX g).2.2.1 := by
  refine xm_i (av := [.ref (aX g 0), .int x1, .int x2]) (cc := cX5_set) (maxL := 4) (by decide) rfl (Nat.le_of_ble_eq_true rfl) hS.1 hS.2 (fun K C hret => ?_)
  have C : CC K (sX g) cX5_set 4 wsX5_set RX5 rm_X5_set := C
  have hiX0 : ∀ w ∈ u_ws RX0 TX0 4, w ∈ wsX5_set := fun w h => List.mem_cons_of_mem _ (List.mem_append_right _ h)
  have hiX4 : ∀ w ∈ u_ws RX4 TX4 12, w ∈ wsX5_set := fun w h => List.mem_cons_of_mem _ (List.mem_append_left _ (List.mem_append_right _ h))
  have hiX5 : ∀ w ∈ u_ws RX5 TX5 13, w ∈ wsX5_set := fun w h => List.mem_cons_of_mem _ (List.mem_append_left _ (List.mem_append_left _ (List.mem_append_right _ h)))
  rw [f_X5_set] at hf
  show V K (sX g) 4 a [(0, .ref (aX g 0)), (1, .int x1), (2, .int x2)] 0 []
  refine xv_aload_n C dX5_set_0 rfl 0 rfl ?_
  refine xv_get C hiX5 0 (wX0 g _) rfl 1 (by decide) (List.mem_of_getElem? (i := 1) rfl) rfl dX5_set_1 ?_
  refine xv_iload_n C dX5_set_4 rfl 1 rfl ?_
  obtain ⟨q1, hg, hf⟩ := dt_bind hf
  refine xc_i (xr_VN C (ci := 4) (As := [.int x1]) (fun l => c_X4_hasHouse g hS l x1 a q1 hg) gX5_set_X4_hasHouse_n114 rfl ⟨rfl, rfl⟩ (fun U H h => h.1 _ (List.mem_of_getElem? (i := 45) rfl)) (List.mem_of_getElem? (i := 4) rfl) (List.mem_of_getElem? (i := 3) rfl) (List.mem_of_getElem? (i := 5) rfl) hdN_X4_hasHouse ⟨Nat.le_of_ble_eq_true rfl, Nat.le_of_ble_eq_true rfl⟩ 5 rfl rfl (wX5 g _) rfl rfl (Nat.le_of_ble_eq_true rfl) dX5_set_5) ?_
  refine xv_if_eq C (y := 0) 19 hf dX5_set_8 (by decide) (fun _ hf => ?_) (fun _ hf => ?_)
  · refine xv_bipush C (-2) dX5_set_19 (by decide) ?_
    exact xz_iw hret hf dX5_set_21
  · refine xv_aload_n C dX5_set_11 rfl 0 rfl ?_
    refine xv_iload_n C dX5_set_12 rfl 2 rfl ?_
    obtain ⟨q2, hg, hf⟩ := dt_bind hf
    refine xc_i (xr_V C (ci := 5) (As := [.int x2]) (fun l => c_X5_isDeedOrNone g hS l x2 a q2 hg) gX5_set_X5_isDeedOrNone rfl ⟨rfl, rfl⟩ hdV_X5_isDeedOrNone ⟨Nat.le_of_ble_eq_true rfl, Nat.le_of_ble_eq_true rfl⟩ 0 rfl rfl (wX0 g _) rfl rfl (Nat.le_of_ble_eq_true rfl) dX5_set_13) ?_
    refine xv_if_ne C (y := 0) 22 hf dX5_set_16 (by decide) (fun _ hf => ?_) (fun _ hf => ?_)
    · refine xv_bipush C (-2) dX5_set_19 (by decide) ?_
      exact xz_iw hret hf dX5_set_21
    · refine xv_iload_n C dX5_set_22 rfl 2 rfl ?_
      refine xv_iconst C (-1) dX5_set_23 (by decide) ?_
      refine xv_icmp_eq C 49 hf dX5_set_24 (by decide) (fun _ hf => ?_) (fun _ hf => ?_)
      · refine xv_aload_n C dX5_set_49 rfl 0 rfl ?_
        refine xv_get C hiX5 0 (wX0 g _) rfl 2 (by decide) (List.mem_of_getElem? (i := 2) rfl) rfl dX5_set_50 ?_
        refine xv_getN C hiX0 15 (wX15 g _) rfl 0 (by decide) (fun U H h => h.1 _ (List.mem_of_getElem? (i := 20) rfl)) rfl dX5_set_53 ?_
        refine xv_iload_n C dX5_set_56 rfl 1 rfl ?_
        refine xv_iald C 16 0 (wX16 g _) rfl hf dX5_set_57 (fun hf => ?_)
        refine xv_istore_n C [(3, .int (a 16 x1.toNatClampNeg)), (0, .ref (aX g 0)), (1, .int x1), (2, .int x2)] dX5_set_58 rfl (by decide) rfl ?_
        refine xv_aload_n C dX5_set_59 rfl 1 rfl ?_
        refine xv_get C hiX5 0 (wX0 g _) rfl 2 (by decide) (List.mem_of_getElem? (i := 2) rfl) rfl dX5_set_60 ?_
        refine xv_getN C hiX0 15 (wX15 g _) rfl 0 (by decide) (fun U H h => h.1 _ (List.mem_of_getElem? (i := 20) rfl)) rfl dX5_set_63 ?_
        refine xv_iload_n C dX5_set_66 rfl 2 rfl ?_
        refine xv_iload_n C dX5_set_67 rfl 3 rfl ?_
        refine xv_iast C 16 0 (wX16 g _) rfl (up a 16 x1.toNatClampNeg x2) (pX16 g _ _ _) hf dX5_set_68 (fun hf => ?_)
        refine xv_iload_n C dX5_set_69 rfl 0 rfl ?_
        exact xz_iw hret hf dX5_set_70
      · refine xv_aload_n C dX5_set_27 rfl 0 rfl ?_
        refine xv_get C hiX5 0 (wX0 g _) rfl 1 (by decide) (List.mem_of_getElem? (i := 1) rfl) rfl dX5_set_28 ?_
        refine xv_iload_n C dX5_set_31 rfl 1 rfl ?_
        refine xv_iload_n C dX5_set_32 rfl 2 rfl ?_
        refine xv_aload_n C dX5_set_33 rfl 0 rfl ?_
        refine xv_get C hiX5 0 (wX0 g _) rfl 1 (by decide) (List.mem_of_getElem? (i := 1) rfl) rfl dX5_set_34 ?_
        refine xv_getN C hiX4 5 (wX5 g _) rfl 2 (by decide) (fun U H h => h.1 _ (List.mem_of_getElem? (i := 7) rfl)) rfl dX5_set_37 ?_
        obtain ⟨q3, hg, hf⟩ := dt_bind hf
        refine xc_i (xr_VN C (ci := 4) (As := [.int x1, .int x2, .int (a 5 2)]) (fun l => c_X4_can g hS l x1 x2 (a 5 2) a q3 hg) gX5_set_X4_can_n165 rfl ⟨rfl, rfl⟩ (fun U H h => h.1 _ (List.mem_of_getElem? (i := 39) rfl)) (List.mem_of_getElem? (i := 4) rfl) (List.mem_of_getElem? (i := 19) rfl) (List.mem_of_getElem? (i := 20) rfl) hdN_X4_can ⟨Nat.le_of_ble_eq_true rfl, Nat.le_of_ble_eq_true rfl⟩ 5 rfl rfl (wX5 g _) rfl rfl (Nat.le_of_ble_eq_true rfl) dX5_set_40) ?_
        refine xv_if_ne C (y := 0) 49 hf dX5_set_43 (by decide) (fun _ hf => ?_) (fun _ hf => ?_)
        · refine xv_bipush C (-4) dX5_set_46 (by decide) ?_
          exact xz_iw hret hf dX5_set_48
        · refine xv_aload_n C dX5_set_49 rfl 0 rfl ?_
          refine xv_get C hiX5 0 (wX0 g _) rfl 2 (by decide) (List.mem_of_getElem? (i := 2) rfl) rfl dX5_set_50 ?_
          refine xv_getN C hiX0 15 (wX15 g _) rfl 0 (by decide) (fun U H h => h.1 _ (List.mem_of_getElem? (i := 20) rfl)) rfl dX5_set_53 ?_
          refine xv_iload_n C dX5_set_56 rfl 1 rfl ?_
          refine xv_iald C 16 0 (wX16 g _) rfl hf dX5_set_57 (fun hf => ?_)
          refine xv_istore_n C [(3, .int (a 16 x1.toNatClampNeg)), (0, .ref (aX g 0)), (1, .int x1), (2, .int x2)] dX5_set_58 rfl (by decide) rfl ?_
          refine xv_aload_n C dX5_set_59 rfl 1 rfl ?_
          refine xv_get C hiX5 0 (wX0 g _) rfl 2 (by decide) (List.mem_of_getElem? (i := 2) rfl) rfl dX5_set_60 ?_
          refine xv_getN C hiX0 15 (wX15 g _) rfl 0 (by decide) (fun U H h => h.1 _ (List.mem_of_getElem? (i := 20) rfl)) rfl dX5_set_63 ?_
          refine xv_iload_n C dX5_set_66 rfl 2 rfl ?_
          refine xv_iload_n C dX5_set_67 rfl 3 rfl ?_
          refine xv_iast C 16 0 (wX16 g _) rfl (up a 16 x1.toNatClampNeg x2) (pX16 g _ _ _) hf dX5_set_68 (fun hf => ?_)
          refine xv_iload_n C dX5_set_69 rfl 0 rfl ?_
          exact xz_iw hret hf dX5_set_70
set_option maxRecDepth 100000 in
set_option maxHeartbeats 4000000 in
theorem c_X0_noteDoers__15 (g : GX) (hS : xSide (sX g)) (l : Launch) (n : Nat) (a : St) (q : St) (hf : f_X0_noteDoers n 15 a = some q) : Met l yX0_noteDoers wsX0_noteDoers rm_X0_noteDoers (xPre (sX g) [.ref (aX g 15)] a) (xPostV (sX g) q) 0 0 (sX g).2.2.1 := by
  refine xm_v (av := [.ref (aX g 15)]) (cc := cX0_noteDoers) (maxL := 2) (by decide) rfl (Nat.le_of_ble_eq_true rfl) hS.1 hS.2 (fun K C hret => ?_)
  have C : CC K (sX g) cX0_noteDoers 2 wsX0_noteDoers RX0 rm_X0_noteDoers := C
  have hiX0 : ∀ w ∈ u_ws RX0 TX0 4, w ∈ wsX0_noteDoers := fun w h => List.mem_cons_of_mem _ (List.mem_append_right _ h)
  have hL2 : ∀  (j : Nat) (x1 : Int32) (a : St), L_X0_noteDoers_2 n 15 j x1 a = some q → V K (sX g) 2 a [(0, .ref (aX g 15)), (1, .int x1)] 2 [] := by
    intro j
    induction j with
    | zero =>
      intro x1 a hf
      have hf : (none : Option St) = some q := hf
      cases hf
    | succ j ih =>
      intro x1 a hf
      rw [L_X0_noteDoers_2] at hf
      refine xv_iload_n C dX0_noteDoers_2 rfl 1 rfl ?_
      refine xv_bipush C 8 dX0_noteDoers_3 (by decide) ?_
      refine xv_icmp_ge C 34 hf dX0_noteDoers_5 (by decide) (fun _ hf => ?_) (fun _ hf => ?_)
      · exact xz_v hret hf dX0_noteDoers_34
      · refine xv_aload_n C dX0_noteDoers_8 rfl 0 rfl ?_
        refine xv_get C hiX0 15 (wX15 g _) rfl 0 (by decide) (List.mem_of_getElem? (i := 1) rfl) rfl dX0_noteDoers_9 ?_
        refine xv_iload_n C dX0_noteDoers_12 rfl 1 rfl ?_
        refine xv_iald C 16 0 (wX16 g _) rfl hf dX0_noteDoers_13 (fun hf => ?_)
        refine xv_iconst C (-1) dX0_noteDoers_14 (by decide) ?_
        refine xv_icmp_eq C 28 hf dX0_noteDoers_15 (by decide) (fun _ hf => ?_) (fun _ hf => ?_)
        · refine xv_iinc C [(1, .int (x1 + 1)), (0, .ref (aX g 15))] dX0_noteDoers_28 1 rfl rfl (by decide) rfl ?_
          refine xv_goto C 2 dX0_noteDoers_31 (by decide) ?_
          refine xv_eq [1, 0] rfl ?_
          exact ih (x1 + 1) a hf
        · refine xv_aload_n C dX0_noteDoers_18 rfl 0 rfl ?_
          refine xv_get C hiX0 15 (wX15 g _) rfl 1 (by decide) (List.mem_of_getElem? (i := 2) rfl) rfl dX0_noteDoers_19 ?_
          refine xv_iload_n C dX0_noteDoers_22 rfl 1 rfl ?_
          refine xv_dup2 C dX0_noteDoers_23 rfl rfl ?_
          refine xv_iald C 17 0 (wX17 g _) rfl hf dX0_noteDoers_24 (fun hf => ?_)
          refine xv_iconst C 1 dX0_noteDoers_25 (by decide) ?_
          refine xv_iadd C dX0_noteDoers_26 ?_
          refine xv_iast C 17 0 (wX17 g _) rfl (up a 17 x1.toNatClampNeg ((a 17 x1.toNatClampNeg) + 1)) (pX17 g _ _ _) hf dX0_noteDoers_27 (fun hf => ?_)
          refine xv_iinc C [(1, .int (x1 + 1)), (0, .ref (aX g 15))] dX0_noteDoers_28 1 rfl rfl (by decide) rfl ?_
          refine xv_goto C 2 dX0_noteDoers_31 (by decide) ?_
          refine xv_eq [1, 0] rfl ?_
          exact ih (x1 + 1) (up a 17 x1.toNatClampNeg ((a 17 x1.toNatClampNeg) + 1)) hf
  rw [f_X0_noteDoers] at hf
  show V K (sX g) 2 a [(0, .ref (aX g 15))] 0 []
  refine xv_iconst C 0 dX0_noteDoers_0 (by decide) ?_
  refine xv_istore_n C [(1, .int 0), (0, .ref (aX g 15))] dX0_noteDoers_1 rfl (by decide) rfl ?_
  refine xv_eq [1, 0] rfl ?_
  exact hL2 n 0 a hf
set_option maxRecDepth 100000 in
set_option maxHeartbeats 4000000 in
theorem c_X4_mirrored__16 (g : GX) (hS : xSide (sX g)) (l : Launch) (x2 : Int32) (x3 : Int32) (a : St) (q : Int32) (hf : f_X4_mirrored 16 x2 x3 a = some q) : Met l yX4_mirrored wsX4_mirrored rm_X4_mirrored (xPre (sX g) [.ref (aX g 5), .ref (aX g 16), .int x2, .int x3] a) (xPostI (sX g) q a) 0 0 (sX g).2.2.1 := by
  refine xm_i (av := [.ref (aX g 5), .ref (aX g 16), .int x2, .int x3]) (cc := cX4_mirrored) (maxL := 5) (by decide) rfl (Nat.le_of_ble_eq_true rfl) hS.1 hS.2 (fun K C hret => ?_)
  have C : CC K (sX g) cX4_mirrored 5 wsX4_mirrored RX4 rm_X4_mirrored := C
  have hiX4 : ∀ w ∈ u_ws RX4 TX4 12, w ∈ wsX4_mirrored := fun w h => List.mem_cons_of_mem _ (List.mem_append_right _ h)
  rw [f_X4_mirrored] at hf
  show V K (sX g) 5 a [(0, .ref (aX g 5)), (1, .ref (aX g 16)), (2, .int x2), (3, .int x3)] 0 []
  refine xv_aload_n C dX4_mirrored_0 rfl 0 rfl ?_
  refine xv_get C hiX4 5 (wX5 g _) rfl 3 (by decide) (List.mem_of_getElem? (i := 1) rfl) rfl dX4_mirrored_1 ?_
  refine xv_iload_n C dX4_mirrored_4 rfl 2 rfl ?_
  refine xv_iald C 6 0 (wX6 g _) rfl hf dX4_mirrored_5 (fun hf => ?_)
  refine xv_iconst C (-1) dX4_mirrored_6 (by decide) ?_
  refine xv_icmp_ne C 14 hf dX4_mirrored_7 (by decide) (fun _ hf => ?_) (fun _ hf => ?_)
  · refine xv_iconst C (-1) dX4_mirrored_10 (by decide) ?_
    refine xv_goto C 22 dX4_mirrored_11 (by decide) ?_
    refine xv_istore C [(4, .int (-1)), (0, .ref (aX g 5)), (1, .ref (aX g 16)), (2, .int x2), (3, .int x3)] dX4_mirrored_22 (by decide) rfl ?_
    refine xv_iload C dX4_mirrored_24 0 rfl ?_
    refine xv_iconst C (-1) dX4_mirrored_26 (by decide) ?_
    refine xv_icmp_eq C (A := some ()) (B := (none : Option Unit)) (v := ()) 46 (by decide) dX4_mirrored_27 (by decide) (fun _ _ => ?_) (fun _ hf => by cases hf)
    refine xv_iconst C (-1) dX4_mirrored_46 (by decide) ?_
    exact xz_ir hret hf dX4_mirrored_47
  · refine xv_aload_n C dX4_mirrored_14 rfl 1 rfl ?_
    refine xv_aload_n C dX4_mirrored_15 rfl 0 rfl ?_
    refine xv_get C hiX4 5 (wX5 g _) rfl 3 (by decide) (List.mem_of_getElem? (i := 1) rfl) rfl dX4_mirrored_16 ?_
    refine xv_iload_n C dX4_mirrored_19 rfl 2 rfl ?_
    refine xv_iald C 6 0 (wX6 g _) rfl hf dX4_mirrored_20 (fun hf => ?_)
    refine xv_iald C 16 0 (wX16 g _) rfl hf dX4_mirrored_21 (fun hf => ?_)
    refine xv_istore C [(4, .int (a 16 ((a 6 x2.toNatClampNeg).toNatClampNeg))), (0, .ref (aX g 5)), (1, .ref (aX g 16)), (2, .int x2), (3, .int x3)] dX4_mirrored_22 (by decide) rfl ?_
    refine xv_iload C dX4_mirrored_24 0 rfl ?_
    refine xv_iconst C (-1) dX4_mirrored_26 (by decide) ?_
    refine xv_icmp_eq C 46 hf dX4_mirrored_27 (by decide) (fun _ hf => ?_) (fun _ hf => ?_)
    · refine xv_iconst C (-1) dX4_mirrored_46 (by decide) ?_
      exact xz_ir hret hf dX4_mirrored_47
    · refine xv_aload_n C dX4_mirrored_30 rfl 1 rfl ?_
      refine xv_iload_n C dX4_mirrored_31 rfl 3 rfl ?_
      refine xv_iload C dX4_mirrored_32 0 rfl ?_
      refine xv_iload_n C dX4_mirrored_34 rfl 4 rfl ?_
      obtain ⟨q1, hg, hf⟩ := dt_bind hf
      refine xc_i (xr_V C (ci := 4) (As := [.int x2, .int (a 16 ((a 6 x2.toNatClampNeg).toNatClampNeg)), .int x3]) (fun l => c_X4_can g hS l x2 (a 16 ((a 6 x2.toNatClampNeg).toNatClampNeg)) x3 a q1 hg) gX4_mirrored_X4_can rfl ⟨rfl, rfl⟩ hdV_X4_can ⟨Nat.le_of_ble_eq_true rfl, Nat.le_of_ble_eq_true rfl⟩ 5 rfl rfl (wX5 g _) rfl rfl (Nat.le_of_ble_eq_true rfl) dX4_mirrored_35) ?_
      refine xv_if_eq C (y := 0) 46 hf dX4_mirrored_38 (by decide) (fun _ hf => ?_) (fun _ hf => ?_)
      · refine xv_iconst C (-1) dX4_mirrored_46 (by decide) ?_
        exact xz_ir hret hf dX4_mirrored_47
      · refine xv_iload C dX4_mirrored_41 0 rfl ?_
        refine xv_goto C 47 dX4_mirrored_43 (by decide) ?_
        exact xz_ir hret hf dX4_mirrored_47
set_option maxRecDepth 100000 in
set_option maxHeartbeats 4000000 in
theorem c_X4_passDay__16 (g : GX) (hS : xSide (sX g)) (l : Launch) (n : Nat) (x2 : Int32) (a : St) (q : St) (hf : f_X4_passDay n 16 x2 a = some q) : Met l yX4_passDay wsX4_passDay rm_X4_passDay (xPre (sX g) [.ref (aX g 5), .ref (aX g 16), .int x2] a) (xPostV (sX g) q) 0 0 (sX g).2.2.1 := by
  refine xm_v (av := [.ref (aX g 5), .ref (aX g 16), .int x2]) (cc := cX4_passDay) (maxL := 4) (by decide) rfl (Nat.le_of_ble_eq_true rfl) hS.1 hS.2 (fun K C hret => ?_)
  have C : CC K (sX g) cX4_passDay 4 wsX4_passDay RX4 rm_X4_passDay := C
  have hiX4 : ∀ w ∈ u_ws RX4 TX4 12, w ∈ wsX4_passDay := fun w h => List.mem_cons_of_mem _ (List.mem_append_right _ h)
  have hB29 : ∀  (a : St), B_X4_passDay_29 n 16 a = some q → V K (sX g) 4 a [(0, .ref (aX g 5)), (1, .ref (aX g 16))] 29 [] := by
    intro a hf
    rw [B_X4_passDay_29] at hf
    refine xv_aload_n C dX4_passDay_29 rfl 0 rfl ?_
    refine xv_get C hiX4 5 (wX5 g _) rfl 11 (by decide) (List.mem_of_getElem? (i := 2) rfl) rfl dX4_passDay_30 ?_
    refine xv_iconst C 0 dX4_passDay_33 (by decide) ?_
    refine xv_aload_n C dX4_passDay_34 rfl 1 rfl ?_
    refine xv_iconst C 0 dX4_passDay_35 (by decide) ?_
    refine xv_aload_n C dX4_passDay_36 rfl 0 rfl ?_
    refine xv_get C hiX4 5 (wX5 g _) rfl 0 (by decide) (List.mem_of_getElem? (i := 1) rfl) rfl dX4_passDay_37 ?_
    refine xv_copy C (List.mem_of_getElem? (i := 3) rfl) (List.mem_of_getElem? (i := 4) rfl) (List.mem_of_getElem? (i := 5) rfl) (List.mem_of_getElem? (i := 6) rfl) 14 16 0 (wX14 g _) (wX16 g _) rfl (uprow a 16 (va_cpy (a 14) (a 16) ((0 : Int32).toNatClampNeg) ((0 : Int32).toNatClampNeg) ((a 5 0).toNatClampNeg))) (rX16 g _ _) hf (Nat.le_of_ble_eq_true rfl) (Nat.le_of_ble_eq_true rfl) dX4_passDay_40 rfl (fun hf => ?_)
    exact xz_v hret hf dX4_passDay_43
  have hL2 : ∀ (x2 : Int32)  (j : Nat) (x3 : Int32) (a : St), L_X4_passDay_2 n 16 x2 j x3 a = some q → V K (sX g) 4 a [(0, .ref (aX g 5)), (1, .ref (aX g 16)), (2, .int x2), (3, .int x3)] 2 [] := by
    intro x2 j
    induction j with
    | zero =>
      intro x3 a hf
      have hf : (none : Option St) = some q := hf
      cases hf
    | succ j ih =>
      intro x3 a hf
      rw [L_X4_passDay_2] at hf
      refine xv_iload_n C dX4_passDay_2 rfl 3 rfl ?_
      refine xv_aload_n C dX4_passDay_3 rfl 0 rfl ?_
      refine xv_get C hiX4 5 (wX5 g _) rfl 0 (by decide) (List.mem_of_getElem? (i := 1) rfl) rfl dX4_passDay_4 ?_
      refine xv_icmp_ge C 29 hf dX4_passDay_7 (by decide) (fun _ hf => ?_) (fun _ hf => ?_)
      · refine xv_eq [0, 1] rfl ?_
        exact hB29 a hf
      · refine xv_aload_n C dX4_passDay_10 rfl 0 rfl ?_
        refine xv_get C hiX4 5 (wX5 g _) rfl 11 (by decide) (List.mem_of_getElem? (i := 2) rfl) rfl dX4_passDay_11 ?_
        refine xv_iload_n C dX4_passDay_14 rfl 3 rfl ?_
        refine xv_aload_n C dX4_passDay_15 rfl 0 rfl ?_
        refine xv_aload_n C dX4_passDay_16 rfl 1 rfl ?_
        refine xv_iload_n C dX4_passDay_17 rfl 3 rfl ?_
        refine xv_iload_n C dX4_passDay_18 rfl 2 rfl ?_
        obtain ⟨q1, hg, hf⟩ := dt_bind hf
        refine xc_i (xr_V C (ci := 4) (As := [.ref (aX g 16), .int x3, .int x2]) (fun l => c_X4_mirrored__16 g hS l x3 x2 a q1 hg) gX4_passDay_X4_mirrored rfl ⟨rfl, rfl⟩ hdV_X4_mirrored ⟨Nat.le_of_ble_eq_true rfl, Nat.le_of_ble_eq_true rfl⟩ 5 rfl rfl (wX5 g _) rfl rfl (Nat.le_of_ble_eq_true rfl) dX4_passDay_19) ?_
        refine xv_iast C 14 0 (wX14 g _) rfl (up a 14 x3.toNatClampNeg q1) (pX14 g _ _ _) hf dX4_passDay_22 (fun hf => ?_)
        refine xv_iinc C [(3, .int (x3 + 1)), (0, .ref (aX g 5)), (1, .ref (aX g 16)), (2, .int x2)] dX4_passDay_23 3 rfl rfl (by decide) rfl ?_
        refine xv_goto C 2 dX4_passDay_26 (by decide) ?_
        refine xv_eq [1, 2, 3, 0] rfl ?_
        exact ih (x3 + 1) (up a 14 x3.toNatClampNeg q1) hf
  rw [f_X4_passDay] at hf
  show V K (sX g) 4 a [(0, .ref (aX g 5)), (1, .ref (aX g 16)), (2, .int x2)] 0 []
  refine xv_iconst C 0 dX4_passDay_0 (by decide) ?_
  refine xv_istore_n C [(3, .int 0), (0, .ref (aX g 5)), (1, .ref (aX g 16)), (2, .int x2)] dX4_passDay_1 rfl (by decide) rfl ?_
  refine xv_eq [1, 2, 3, 0] rfl ?_
  exact hL2 x2 n 0 a hf
set_option maxRecDepth 100000 in
set_option maxHeartbeats 4000000 in
theorem c_X5_go (g : GX) (hS : xSide (sX g)) (l : Launch) (n : Nat) (x1 : Int32) (a : St) (q : (Int32 × St)) (hf : f_X5_go n x1 a = some q) : Met l yX5_go wsX5_go rm_X5_go (xPre (sX g) [.ref (aX g 0), .int x1] a) (xPostI (sX g) q.1 q.2) 0 0 (sX g).2.2.1 := by
  refine xm_i (av := [.ref (aX g 0), .int x1]) (cc := cX5_go) (maxL := 3) (by decide) rfl (Nat.le_of_ble_eq_true rfl) hS.1 hS.2 (fun K C hret => ?_)
  have C : CC K (sX g) cX5_go 3 wsX5_go RX5 rm_X5_go := C
  have hiX0 : ∀ w ∈ u_ws RX0 TX0 4, w ∈ wsX5_go := fun w h => List.mem_cons_of_mem _ (List.mem_append_left _ (List.mem_append_right _ h))
  have hiX4 : ∀ w ∈ u_ws RX4 TX4 12, w ∈ wsX5_go := fun w h => List.mem_cons_of_mem _ (List.mem_append_right _ h)
  have hiX5 : ∀ w ∈ u_ws RX5 TX5 13, w ∈ wsX5_go := fun w h => List.mem_cons_of_mem _ (List.mem_append_left _ (List.mem_append_left _ (List.mem_append_right _ h)))
  have hB72 : ∀ (x1 : Int32)  (a : St), B_X5_go_72 n x1 a = some q → V K (sX g) 3 a [(0, .ref (aX g 0)), (1, .int x1)] 72 [] := by
    intro x1 a hf
    rw [B_X5_go_72] at hf
    refine xv_aload_n C dX5_go_72 rfl 0 rfl ?_
    refine xv_get C hiX5 0 (wX0 g _) rfl 2 (by decide) (List.mem_of_getElem? (i := 1) rfl) rfl dX5_go_73 ?_
    refine xv_dup C dX5_go_76 rfl ?_
    refine xv_getN C hiX0 15 (wX15 g _) rfl 2 (by decide) (fun U H h => h.1 _ (List.mem_of_getElem? (i := 22) rfl)) rfl dX5_go_77 ?_
    refine xv_iload_n C dX5_go_80 rfl 1 rfl ?_
    refine xv_iadd C dX5_go_81 ?_
    refine xv_putN C hiX0 tyX0 tyX0_ok nmX0 15 (wX15 g _) rfl 2 (by decide) (fun U H h => h.1 _ (List.mem_of_getElem? (i := 22) rfl)) rfl (tyX0_ok 2 (by decide)) rfl rfl (Nat.le_of_ble_eq_true rfl) (up a 15 2 ((a 15 2) + x1)) (pX15_2 g _ _) dX5_go_82 ?_
    refine xv_aload_n C dX5_go_85 rfl 0 rfl ?_
    refine xv_get C hiX5 0 (wX0 g _) rfl 2 (by decide) (List.mem_of_getElem? (i := 1) rfl) rfl dX5_go_86 ?_
    refine xv_getN C hiX0 15 (wX15 g _) rfl 2 (by decide) (fun U H h => h.1 _ (List.mem_of_getElem? (i := 22) rfl)) rfl dX5_go_89 ?_
    exact xz_iw hret hf dX5_go_92
  have hL33 : ∀ (x1 : Int32)  (j : Nat) (x2 : Int32) (a : St), L_X5_go_33 n x1 j x2 a = some q → V K (sX g) 3 a [(0, .ref (aX g 0)), (1, .int x1), (2, .int x2)] 33 [] := by
    intro x1 j
    induction j with
    | zero =>
      intro x2 a hf
      have hf : (none : Option (Int32 × St)) = some q := hf
      cases hf
    | succ j ih =>
      intro x2 a hf
      rw [L_X5_go_33] at hf
      refine xv_iload_n C dX5_go_33 rfl 2 rfl ?_
      refine xv_iload_n C dX5_go_34 rfl 1 rfl ?_
      refine xv_icmp_ge C 72 hf dX5_go_35 (by decide) (fun _ hf => ?_) (fun _ hf => ?_)
      · refine xv_eq [0, 1] rfl ?_
        exact hB72 x1 a hf
      · refine xv_aload_n C dX5_go_38 rfl 0 rfl ?_
        refine xv_get C hiX5 0 (wX0 g _) rfl 2 (by decide) (List.mem_of_getElem? (i := 1) rfl) rfl dX5_go_39 ?_
        obtain ⟨q2, hg, hf⟩ := dt_bind hf
        refine xc_v (xr_VN C (ci := 0) (As := []) (fun l => c_X0_noteDoers__15 g hS l n a q2 hg) gX5_go_X0_noteDoers_n171 rfl ⟨rfl, rfl⟩ (fun U H h => h.1 _ (List.mem_of_getElem? (i := 50) rfl)) (List.mem_of_getElem? (i := 8) rfl) (List.mem_of_getElem? (i := 7) rfl) (List.mem_of_getElem? (i := 9) rfl) hdN_X0_noteDoers ⟨Nat.le_of_ble_eq_true rfl, Nat.le_of_ble_eq_true rfl⟩ 15 rfl rfl (wX15 g _) rfl rfl (Nat.le_of_ble_eq_true rfl) dX5_go_42) ?_
        refine xv_aload_n C dX5_go_45 rfl 0 rfl ?_
        refine xv_get C hiX5 0 (wX0 g _) rfl 1 (by decide) (List.mem_of_getElem? (i := 2) rfl) rfl dX5_go_46 ?_
        refine xv_aload_n C dX5_go_49 rfl 0 rfl ?_
        refine xv_get C hiX5 0 (wX0 g _) rfl 2 (by decide) (List.mem_of_getElem? (i := 1) rfl) rfl dX5_go_50 ?_
        refine xv_getN C hiX0 15 (wX15 g _) rfl 0 (by decide) (fun U H h => h.1 _ (List.mem_of_getElem? (i := 20) rfl)) rfl dX5_go_53 ?_
        refine xv_aload_n C dX5_go_56 rfl 0 rfl ?_
        refine xv_get C hiX5 0 (wX0 g _) rfl 1 (by decide) (List.mem_of_getElem? (i := 2) rfl) rfl dX5_go_57 ?_
        refine xv_getN C hiX4 5 (wX5 g _) rfl 2 (by decide) (fun U H h => h.1 _ (List.mem_of_getElem? (i := 7) rfl)) rfl dX5_go_60 ?_
        obtain ⟨q3, hg, hf⟩ := dt_bind hf
        refine xc_v (xr_VN C (ci := 4) (As := [.ref (aX g 16), .int (q2 5 2)]) (fun l => c_X4_passDay__16 g hS l n (q2 5 2) q2 q3 hg) gX5_go_X4_passDay_n174 rfl ⟨rfl, rfl⟩ (fun U H h => h.1 _ (List.mem_of_getElem? (i := 51) rfl)) (List.mem_of_getElem? (i := 14) rfl) (List.mem_of_getElem? (i := 13) rfl) (List.mem_of_getElem? (i := 15) rfl) hdN_X4_passDay ⟨Nat.le_of_ble_eq_true rfl, Nat.le_of_ble_eq_true rfl⟩ 5 rfl rfl (wX5 g _) rfl rfl (Nat.le_of_ble_eq_true rfl) dX5_go_63) ?_
        refine xv_iinc C [(2, .int (x2 + 1)), (0, .ref (aX g 0)), (1, .int x1)] dX5_go_66 2 rfl rfl (by decide) rfl ?_
        refine xv_goto C 33 dX5_go_69 (by decide) ?_
        refine xv_eq [1, 2, 0] rfl ?_
        exact ih (x2 + 1) q3 hf
  rw [f_X5_go] at hf
  show V K (sX g) 3 a [(0, .ref (aX g 0)), (1, .int x1)] 0 []
  refine xv_iload_n C dX5_go_0 rfl 1 rfl ?_
  refine xv_iconst C 1 dX5_go_1 (by decide) ?_
  refine xv_bipush C 99 dX5_go_2 (by decide) ?_
  obtain ⟨q1, hg, hf⟩ := dt_bind hf
  refine xc_i (xr_S C (As := [.int x1, .int 1, .int 99]) (fun l => c_X5_within (sX g) hS l x1 1 99 a q1 hg) gX5_go_X5_within rfl ⟨rfl, rfl⟩ hdS_X5_within ⟨Nat.le_of_ble_eq_true rfl, Nat.le_of_ble_eq_true rfl⟩ rfl rfl (Nat.le_of_ble_eq_true rfl) dX5_go_4) ?_
  refine xv_if_ne C (y := 0) 13 hf dX5_go_7 (by decide) (fun _ hf => ?_) (fun _ hf => ?_)
  · refine xv_bipush C (-3) dX5_go_10 (by decide) ?_
    exact xz_iw hret hf dX5_go_12
  · refine xv_aload_n C dX5_go_13 rfl 0 rfl ?_
    refine xv_get C hiX5 0 (wX0 g _) rfl 2 (by decide) (List.mem_of_getElem? (i := 1) rfl) rfl dX5_go_14 ?_
    refine xv_getN C hiX0 15 (wX15 g _) rfl 2 (by decide) (fun U H h => h.1 _ (List.mem_of_getElem? (i := 22) rfl)) rfl dX5_go_17 ?_
    refine xv_iload_n C dX5_go_20 rfl 1 rfl ?_
    refine xv_iadd C dX5_go_21 ?_
    refine xv_sipush C 9999 dX5_go_22 (by decide) ?_
    refine xv_icmp_le C 31 hf dX5_go_25 (by decide) (fun _ hf => ?_) (fun _ hf => ?_)
    · refine xv_iconst C 0 dX5_go_31 (by decide) ?_
      refine xv_istore_n C [(2, .int 0), (0, .ref (aX g 0)), (1, .int x1)] dX5_go_32 rfl (by decide) rfl ?_
      refine xv_eq [1, 2, 0] rfl ?_
      exact hL33 x1 n 0 a hf
    · refine xv_bipush C (-5) dX5_go_28 (by decide) ?_
      exact xz_iw hret hf dX5_go_30
set_option maxRecDepth 100000 in
set_option maxHeartbeats 4000000 in
theorem c_X4_mirrored__33 (g : GX) (hS : xSide (sX g)) (l : Launch) (x2 : Int32) (x3 : Int32) (a : St) (q : Int32) (hf : f_X4_mirrored 33 x2 x3 a = some q) : Met l yX4_mirrored wsX4_mirrored rm_X4_mirrored (xPre (sX g) [.ref (aX g 5), .ref (aX g 33), .int x2, .int x3] a) (xPostI (sX g) q a) 0 0 (sX g).2.2.1 := by
  refine xm_i (av := [.ref (aX g 5), .ref (aX g 33), .int x2, .int x3]) (cc := cX4_mirrored) (maxL := 5) (by decide) rfl (Nat.le_of_ble_eq_true rfl) hS.1 hS.2 (fun K C hret => ?_)
  have C : CC K (sX g) cX4_mirrored 5 wsX4_mirrored RX4 rm_X4_mirrored := C
  have hiX4 : ∀ w ∈ u_ws RX4 TX4 12, w ∈ wsX4_mirrored := fun w h => List.mem_cons_of_mem _ (List.mem_append_right _ h)
  rw [f_X4_mirrored] at hf
  show V K (sX g) 5 a [(0, .ref (aX g 5)), (1, .ref (aX g 33)), (2, .int x2), (3, .int x3)] 0 []
  refine xv_aload_n C dX4_mirrored_0 rfl 0 rfl ?_
  refine xv_get C hiX4 5 (wX5 g _) rfl 3 (by decide) (List.mem_of_getElem? (i := 1) rfl) rfl dX4_mirrored_1 ?_
  refine xv_iload_n C dX4_mirrored_4 rfl 2 rfl ?_
  refine xv_iald C 6 0 (wX6 g _) rfl hf dX4_mirrored_5 (fun hf => ?_)
  refine xv_iconst C (-1) dX4_mirrored_6 (by decide) ?_
  refine xv_icmp_ne C 14 hf dX4_mirrored_7 (by decide) (fun _ hf => ?_) (fun _ hf => ?_)
  · refine xv_iconst C (-1) dX4_mirrored_10 (by decide) ?_
    refine xv_goto C 22 dX4_mirrored_11 (by decide) ?_
    refine xv_istore C [(4, .int (-1)), (0, .ref (aX g 5)), (1, .ref (aX g 33)), (2, .int x2), (3, .int x3)] dX4_mirrored_22 (by decide) rfl ?_
    refine xv_iload C dX4_mirrored_24 0 rfl ?_
    refine xv_iconst C (-1) dX4_mirrored_26 (by decide) ?_
    refine xv_icmp_eq C (A := some ()) (B := (none : Option Unit)) (v := ()) 46 (by decide) dX4_mirrored_27 (by decide) (fun _ _ => ?_) (fun _ hf => by cases hf)
    refine xv_iconst C (-1) dX4_mirrored_46 (by decide) ?_
    exact xz_ir hret hf dX4_mirrored_47
  · refine xv_aload_n C dX4_mirrored_14 rfl 1 rfl ?_
    refine xv_aload_n C dX4_mirrored_15 rfl 0 rfl ?_
    refine xv_get C hiX4 5 (wX5 g _) rfl 3 (by decide) (List.mem_of_getElem? (i := 1) rfl) rfl dX4_mirrored_16 ?_
    refine xv_iload_n C dX4_mirrored_19 rfl 2 rfl ?_
    refine xv_iald C 6 0 (wX6 g _) rfl hf dX4_mirrored_20 (fun hf => ?_)
    refine xv_iald C 33 0 (wX33 g _) rfl hf dX4_mirrored_21 (fun hf => ?_)
    refine xv_istore C [(4, .int (a 33 ((a 6 x2.toNatClampNeg).toNatClampNeg))), (0, .ref (aX g 5)), (1, .ref (aX g 33)), (2, .int x2), (3, .int x3)] dX4_mirrored_22 (by decide) rfl ?_
    refine xv_iload C dX4_mirrored_24 0 rfl ?_
    refine xv_iconst C (-1) dX4_mirrored_26 (by decide) ?_
    refine xv_icmp_eq C 46 hf dX4_mirrored_27 (by decide) (fun _ hf => ?_) (fun _ hf => ?_)
    · refine xv_iconst C (-1) dX4_mirrored_46 (by decide) ?_
      exact xz_ir hret hf dX4_mirrored_47
    · refine xv_aload_n C dX4_mirrored_30 rfl 1 rfl ?_
      refine xv_iload_n C dX4_mirrored_31 rfl 3 rfl ?_
      refine xv_iload C dX4_mirrored_32 0 rfl ?_
      refine xv_iload_n C dX4_mirrored_34 rfl 4 rfl ?_
      obtain ⟨q1, hg, hf⟩ := dt_bind hf
      refine xc_i (xr_V C (ci := 4) (As := [.int x2, .int (a 33 ((a 6 x2.toNatClampNeg).toNatClampNeg)), .int x3]) (fun l => c_X4_can g hS l x2 (a 33 ((a 6 x2.toNatClampNeg).toNatClampNeg)) x3 a q1 hg) gX4_mirrored_X4_can rfl ⟨rfl, rfl⟩ hdV_X4_can ⟨Nat.le_of_ble_eq_true rfl, Nat.le_of_ble_eq_true rfl⟩ 5 rfl rfl (wX5 g _) rfl rfl (Nat.le_of_ble_eq_true rfl) dX4_mirrored_35) ?_
      refine xv_if_eq C (y := 0) 46 hf dX4_mirrored_38 (by decide) (fun _ hf => ?_) (fun _ hf => ?_)
      · refine xv_iconst C (-1) dX4_mirrored_46 (by decide) ?_
        exact xz_ir hret hf dX4_mirrored_47
      · refine xv_iload C dX4_mirrored_41 0 rfl ?_
        refine xv_goto C 47 dX4_mirrored_43 (by decide) ?_
        exact xz_ir hret hf dX4_mirrored_47
set_option maxRecDepth 100000 in
set_option maxHeartbeats 4000000 in
theorem c_X4_passDay__33 (g : GX) (hS : xSide (sX g)) (l : Launch) (n : Nat) (x2 : Int32) (a : St) (q : St) (hf : f_X4_passDay n 33 x2 a = some q) : Met l yX4_passDay wsX4_passDay rm_X4_passDay (xPre (sX g) [.ref (aX g 5), .ref (aX g 33), .int x2] a) (xPostV (sX g) q) 0 0 (sX g).2.2.1 := by
  refine xm_v (av := [.ref (aX g 5), .ref (aX g 33), .int x2]) (cc := cX4_passDay) (maxL := 4) (by decide) rfl (Nat.le_of_ble_eq_true rfl) hS.1 hS.2 (fun K C hret => ?_)
  have C : CC K (sX g) cX4_passDay 4 wsX4_passDay RX4 rm_X4_passDay := C
  have hiX4 : ∀ w ∈ u_ws RX4 TX4 12, w ∈ wsX4_passDay := fun w h => List.mem_cons_of_mem _ (List.mem_append_right _ h)
  have hB29 : ∀  (a : St), B_X4_passDay_29 n 33 a = some q → V K (sX g) 4 a [(0, .ref (aX g 5)), (1, .ref (aX g 33))] 29 [] := by
    intro a hf
    rw [B_X4_passDay_29] at hf
    refine xv_aload_n C dX4_passDay_29 rfl 0 rfl ?_
    refine xv_get C hiX4 5 (wX5 g _) rfl 11 (by decide) (List.mem_of_getElem? (i := 2) rfl) rfl dX4_passDay_30 ?_
    refine xv_iconst C 0 dX4_passDay_33 (by decide) ?_
    refine xv_aload_n C dX4_passDay_34 rfl 1 rfl ?_
    refine xv_iconst C 0 dX4_passDay_35 (by decide) ?_
    refine xv_aload_n C dX4_passDay_36 rfl 0 rfl ?_
    refine xv_get C hiX4 5 (wX5 g _) rfl 0 (by decide) (List.mem_of_getElem? (i := 1) rfl) rfl dX4_passDay_37 ?_
    refine xv_copy C (List.mem_of_getElem? (i := 3) rfl) (List.mem_of_getElem? (i := 4) rfl) (List.mem_of_getElem? (i := 5) rfl) (List.mem_of_getElem? (i := 6) rfl) 14 33 0 (wX14 g _) (wX33 g _) rfl (uprow a 33 (va_cpy (a 14) (a 33) ((0 : Int32).toNatClampNeg) ((0 : Int32).toNatClampNeg) ((a 5 0).toNatClampNeg))) (rX33 g _ _) hf (Nat.le_of_ble_eq_true rfl) (Nat.le_of_ble_eq_true rfl) dX4_passDay_40 rfl (fun hf => ?_)
    exact xz_v hret hf dX4_passDay_43
  have hL2 : ∀ (x2 : Int32)  (j : Nat) (x3 : Int32) (a : St), L_X4_passDay_2 n 33 x2 j x3 a = some q → V K (sX g) 4 a [(0, .ref (aX g 5)), (1, .ref (aX g 33)), (2, .int x2), (3, .int x3)] 2 [] := by
    intro x2 j
    induction j with
    | zero =>
      intro x3 a hf
      have hf : (none : Option St) = some q := hf
      cases hf
    | succ j ih =>
      intro x3 a hf
      rw [L_X4_passDay_2] at hf
      refine xv_iload_n C dX4_passDay_2 rfl 3 rfl ?_
      refine xv_aload_n C dX4_passDay_3 rfl 0 rfl ?_
      refine xv_get C hiX4 5 (wX5 g _) rfl 0 (by decide) (List.mem_of_getElem? (i := 1) rfl) rfl dX4_passDay_4 ?_
      refine xv_icmp_ge C 29 hf dX4_passDay_7 (by decide) (fun _ hf => ?_) (fun _ hf => ?_)
      · refine xv_eq [0, 1] rfl ?_
        exact hB29 a hf
      · refine xv_aload_n C dX4_passDay_10 rfl 0 rfl ?_
        refine xv_get C hiX4 5 (wX5 g _) rfl 11 (by decide) (List.mem_of_getElem? (i := 2) rfl) rfl dX4_passDay_11 ?_
        refine xv_iload_n C dX4_passDay_14 rfl 3 rfl ?_
        refine xv_aload_n C dX4_passDay_15 rfl 0 rfl ?_
        refine xv_aload_n C dX4_passDay_16 rfl 1 rfl ?_
        refine xv_iload_n C dX4_passDay_17 rfl 3 rfl ?_
        refine xv_iload_n C dX4_passDay_18 rfl 2 rfl ?_
        obtain ⟨q1, hg, hf⟩ := dt_bind hf
        refine xc_i (xr_V C (ci := 4) (As := [.ref (aX g 33), .int x3, .int x2]) (fun l => c_X4_mirrored__33 g hS l x3 x2 a q1 hg) gX4_passDay_X4_mirrored rfl ⟨rfl, rfl⟩ hdV_X4_mirrored ⟨Nat.le_of_ble_eq_true rfl, Nat.le_of_ble_eq_true rfl⟩ 5 rfl rfl (wX5 g _) rfl rfl (Nat.le_of_ble_eq_true rfl) dX4_passDay_19) ?_
        refine xv_iast C 14 0 (wX14 g _) rfl (up a 14 x3.toNatClampNeg q1) (pX14 g _ _ _) hf dX4_passDay_22 (fun hf => ?_)
        refine xv_iinc C [(3, .int (x3 + 1)), (0, .ref (aX g 5)), (1, .ref (aX g 33)), (2, .int x2)] dX4_passDay_23 3 rfl rfl (by decide) rfl ?_
        refine xv_goto C 2 dX4_passDay_26 (by decide) ?_
        refine xv_eq [1, 2, 3, 0] rfl ?_
        exact ih (x3 + 1) (up a 14 x3.toNatClampNeg q1) hf
  rw [f_X4_passDay] at hf
  show V K (sX g) 4 a [(0, .ref (aX g 5)), (1, .ref (aX g 33)), (2, .int x2)] 0 []
  refine xv_iconst C 0 dX4_passDay_0 (by decide) ?_
  refine xv_istore_n C [(3, .int 0), (0, .ref (aX g 5)), (1, .ref (aX g 33)), (2, .int x2)] dX4_passDay_1 rfl (by decide) rfl ?_
  refine xv_eq [1, 2, 3, 0] rfl ?_
  exact hL2 x2 n 0 a hf
set_option maxRecDepth 100000 in
set_option maxHeartbeats 4000000 in
theorem c_X5_foresee (g : GX) (hS : xSide (sX g)) (l : Launch) (n : Nat) (x1 : Int32) (a : St) (q : St) (hf : f_X5_foresee n x1 a = some q) : Met l yX5_foresee wsX5_foresee rm_X5_foresee (xPre (sX g) [.ref (aX g 0), .int x1] a) (xPostV (sX g) q) 0 0 (sX g).2.2.1 := by
  refine xm_v (av := [.ref (aX g 0), .int x1]) (cc := cX5_foresee) (maxL := 3) (by decide) rfl (Nat.le_of_ble_eq_true rfl) hS.1 hS.2 (fun K C hret => ?_)
  have C : CC K (sX g) cX5_foresee 3 wsX5_foresee RX5 rm_X5_foresee := C
  have hiX0 : ∀ w ∈ u_ws RX0 TX0 4, w ∈ wsX5_foresee := fun w h => List.mem_cons_of_mem _ (List.mem_append_left _ (List.mem_append_right _ h))
  have hiX4 : ∀ w ∈ u_ws RX4 TX4 12, w ∈ wsX5_foresee := fun w h => List.mem_cons_of_mem _ (List.mem_append_right _ h)
  have hiX5 : ∀ w ∈ u_ws RX5 TX5 13, w ∈ wsX5_foresee := fun w h => List.mem_cons_of_mem _ (List.mem_append_left _ (List.mem_append_left _ (List.mem_append_right _ h)))
  have hL20 : ∀ (x1 : Int32)  (j : Nat) (x2 : Int32) (a : St), L_X5_foresee_20 n x1 j x2 a = some q → V K (sX g) 3 a [(0, .ref (aX g 0)), (1, .int x1), (2, .int x2)] 20 [] := by
    intro x1 j
    induction j with
    | zero =>
      intro x2 a hf
      have hf : (none : Option St) = some q := hf
      cases hf
    | succ j ih =>
      intro x2 a hf
      rw [L_X5_foresee_20] at hf
      refine xv_iload_n C dX5_foresee_20 rfl 2 rfl ?_
      refine xv_iload_n C dX5_foresee_21 rfl 1 rfl ?_
      refine xv_icmp_ge C 49 hf dX5_foresee_22 (by decide) (fun _ hf => ?_) (fun _ hf => ?_)
      · exact xz_v hret hf dX5_foresee_49
      · refine xv_aload_n C dX5_foresee_25 rfl 0 rfl ?_
        refine xv_get C hiX5 0 (wX0 g _) rfl 1 (by decide) (List.mem_of_getElem? (i := 7) rfl) rfl dX5_foresee_26 ?_
        refine xv_aload_n C dX5_foresee_29 rfl 0 rfl ?_
        refine xv_get C hiX5 0 (wX0 g _) rfl 6 (by decide) (List.mem_of_getElem? (i := 2) rfl) rfl dX5_foresee_30 ?_
        refine xv_aload_n C dX5_foresee_33 rfl 0 rfl ?_
        refine xv_get C hiX5 0 (wX0 g _) rfl 1 (by decide) (List.mem_of_getElem? (i := 7) rfl) rfl dX5_foresee_34 ?_
        refine xv_getN C hiX4 5 (wX5 g _) rfl 2 (by decide) (fun U H h => h.1 _ (List.mem_of_getElem? (i := 7) rfl)) rfl dX5_foresee_37 ?_
        obtain ⟨q1, hg, hf⟩ := dt_bind hf
        refine xc_v (xr_VN C (ci := 4) (As := [.ref (aX g 33), .int (a 5 2)]) (fun l => c_X4_passDay__33 g hS l n (a 5 2) a q1 hg) gX5_foresee_X4_passDay_n174 rfl ⟨rfl, rfl⟩ (fun U H h => h.1 _ (List.mem_of_getElem? (i := 51) rfl)) (List.mem_of_getElem? (i := 9) rfl) (List.mem_of_getElem? (i := 8) rfl) (List.mem_of_getElem? (i := 10) rfl) hdN_X4_passDay ⟨Nat.le_of_ble_eq_true rfl, Nat.le_of_ble_eq_true rfl⟩ 5 rfl rfl (wX5 g _) rfl rfl (Nat.le_of_ble_eq_true rfl) dX5_foresee_40) ?_
        refine xv_iinc C [(2, .int (x2 + 1)), (0, .ref (aX g 0)), (1, .int x1)] dX5_foresee_43 2 rfl rfl (by decide) rfl ?_
        refine xv_goto C 20 dX5_foresee_46 (by decide) ?_
        refine xv_eq [1, 2, 0] rfl ?_
        exact ih (x2 + 1) q1 hf
  rw [f_X5_foresee] at hf
  show V K (sX g) 3 a [(0, .ref (aX g 0)), (1, .int x1)] 0 []
  refine xv_aload_n C dX5_foresee_0 rfl 0 rfl ?_
  refine xv_get C hiX5 0 (wX0 g _) rfl 2 (by decide) (List.mem_of_getElem? (i := 1) rfl) rfl dX5_foresee_1 ?_
  refine xv_getN C hiX0 15 (wX15 g _) rfl 0 (by decide) (fun U H h => h.1 _ (List.mem_of_getElem? (i := 20) rfl)) rfl dX5_foresee_4 ?_
  refine xv_iconst C 0 dX5_foresee_7 (by decide) ?_
  refine xv_aload_n C dX5_foresee_8 rfl 0 rfl ?_
  refine xv_get C hiX5 0 (wX0 g _) rfl 6 (by decide) (List.mem_of_getElem? (i := 2) rfl) rfl dX5_foresee_9 ?_
  refine xv_iconst C 0 dX5_foresee_12 (by decide) ?_
  refine xv_bipush C 8 dX5_foresee_13 (by decide) ?_
  refine xv_copy C (List.mem_of_getElem? (i := 3) rfl) (List.mem_of_getElem? (i := 4) rfl) (List.mem_of_getElem? (i := 5) rfl) (List.mem_of_getElem? (i := 6) rfl) 16 33 0 (wX16 g _) (wX33 g _) rfl (uprow a 33 (va_cpy (a 16) (a 33) ((0 : Int32).toNatClampNeg) ((0 : Int32).toNatClampNeg) ((8 : Int32).toNatClampNeg))) (rX33 g _ _) hf (Nat.le_of_ble_eq_true rfl) (Nat.le_of_ble_eq_true rfl) dX5_foresee_15 rfl (fun hf => ?_)
  refine xv_iconst C 0 dX5_foresee_18 (by decide) ?_
  refine xv_istore_n C [(2, .int 0), (0, .ref (aX g 0)), (1, .int x1)] dX5_foresee_19 rfl (by decide) rfl ?_
  refine xv_eq [1, 2, 0] rfl ?_
  exact hL20 x1 n 0 (uprow a 33 (va_cpy (a 16) (a 33) ((0 : Int32).toNatClampNeg) ((0 : Int32).toNatClampNeg) ((8 : Int32).toNatClampNeg))) hf
set_option maxRecDepth 100000 in
set_option maxHeartbeats 4000000 in
theorem c_X5_later (g : GX) (hS : xSide (sX g)) (l : Launch) (n : Nat) (x1 : Int32) (x2 : Int32) (a : St) (q : (Int32 × St)) (hf : f_X5_later n x1 x2 a = some q) : Met l yX5_later wsX5_later rm_X5_later (xPre (sX g) [.ref (aX g 0), .int x1, .int x2] a) (xPostI (sX g) q.1 q.2) 0 0 (sX g).2.2.1 := by
  refine xm_i (av := [.ref (aX g 0), .int x1, .int x2]) (cc := cX5_later) (maxL := 3) (by decide) rfl (Nat.le_of_ble_eq_true rfl) hS.1 hS.2 (fun K C hret => ?_)
  have C : CC K (sX g) cX5_later 3 wsX5_later RX5 rm_X5_later := C
  have hiX5 : ∀ w ∈ u_ws RX5 TX5 13, w ∈ wsX5_later := fun w h => List.mem_cons_of_mem _ (List.mem_append_left _ (List.mem_append_left _ (List.mem_append_right _ h)))
  rw [f_X5_later] at hf
  show V K (sX g) 3 a [(0, .ref (aX g 0)), (1, .int x1), (2, .int x2)] 0 []
  refine xv_aload_n C dX5_later_0 rfl 0 rfl ?_
  refine xv_get C hiX5 0 (wX0 g _) rfl 1 (by decide) (List.mem_of_getElem? (i := 1) rfl) rfl dX5_later_1 ?_
  refine xv_iload_n C dX5_later_4 rfl 1 rfl ?_
  obtain ⟨q1, hg, hf⟩ := dt_bind hf
  refine xc_i (xr_VN C (ci := 4) (As := [.int x1]) (fun l => c_X4_hasHouse g hS l x1 a q1 hg) gX5_later_X4_hasHouse_n114 rfl ⟨rfl, rfl⟩ (fun U H h => h.1 _ (List.mem_of_getElem? (i := 45) rfl)) (List.mem_of_getElem? (i := 4) rfl) (List.mem_of_getElem? (i := 3) rfl) (List.mem_of_getElem? (i := 5) rfl) hdN_X4_hasHouse ⟨Nat.le_of_ble_eq_true rfl, Nat.le_of_ble_eq_true rfl⟩ 5 rfl rfl (wX5 g _) rfl rfl (Nat.le_of_ble_eq_true rfl) dX5_later_5) ?_
  refine xv_if_ne C (y := 0) 14 hf dX5_later_8 (by decide) (fun _ hf => ?_) (fun _ hf => ?_)
  · refine xv_bipush C (-2) dX5_later_11 (by decide) ?_
    exact xz_iw hret hf dX5_later_13
  · refine xv_iload_n C dX5_later_14 rfl 2 rfl ?_
    refine xv_iconst C 0 dX5_later_15 (by decide) ?_
    refine xv_bipush C 99 dX5_later_16 (by decide) ?_
    obtain ⟨q2, hg, hf⟩ := dt_bind hf
    refine xc_i (xr_S C (As := [.int x2, .int 0, .int 99]) (fun l => c_X5_within (sX g) hS l x2 0 99 a q2 hg) gX5_later_X5_within rfl ⟨rfl, rfl⟩ hdS_X5_within ⟨Nat.le_of_ble_eq_true rfl, Nat.le_of_ble_eq_true rfl⟩ rfl rfl (Nat.le_of_ble_eq_true rfl) dX5_later_18) ?_
    refine xv_if_ne C (y := 0) 27 hf dX5_later_21 (by decide) (fun _ hf => ?_) (fun _ hf => ?_)
    · refine xv_bipush C (-3) dX5_later_24 (by decide) ?_
      exact xz_iw hret hf dX5_later_26
    · refine xv_aload_n C dX5_later_27 rfl 0 rfl ?_
      refine xv_iload_n C dX5_later_28 rfl 2 rfl ?_
      obtain ⟨q3, hg, hf⟩ := dt_bind hf
      refine xc_v (xr_V C (ci := 5) (As := [.int x2]) (fun l => c_X5_foresee g hS l n x2 a q3 hg) gX5_later_X5_foresee rfl ⟨rfl, rfl⟩ hdV_X5_foresee ⟨Nat.le_of_ble_eq_true rfl, Nat.le_of_ble_eq_true rfl⟩ 0 rfl rfl (wX0 g _) rfl rfl (Nat.le_of_ble_eq_true rfl) dX5_later_29) ?_
      refine xv_aload_n C dX5_later_32 rfl 0 rfl ?_
      refine xv_get C hiX5 0 (wX0 g _) rfl 6 (by decide) (List.mem_of_getElem? (i := 2) rfl) rfl dX5_later_33 ?_
      refine xv_iload_n C dX5_later_36 rfl 1 rfl ?_
      refine xv_iald C 33 0 (wX33 g _) rfl hf dX5_later_37 (fun hf => ?_)
      exact xz_iw hret hf dX5_later_38
set_option maxRecDepth 100000 in
set_option maxHeartbeats 4000000 in
theorem c_X5_foreseeStates (g : GX) (hS : xSide (sX g)) (l : Launch) (n : Nat) (a : St) (q : St) (hf : f_X5_foreseeStates n a = some q) : Met l yX5_foreseeStates wsX5_foreseeStates rm_X5_foreseeStates (xPre (sX g) [.ref (aX g 0)] a) (xPostV (sX g) q) 0 0 (sX g).2.2.1 := by
  refine xm_v (av := [.ref (aX g 0)]) (cc := cX5_foreseeStates) (maxL := 4) (by decide) rfl (Nat.le_of_ble_eq_true rfl) hS.1 hS.2 (fun K C hret => ?_)
  have C : CC K (sX g) cX5_foreseeStates 4 wsX5_foreseeStates RX5 rm_X5_foreseeStates := C
  have hiX4 : ∀ w ∈ u_ws RX4 TX4 12, w ∈ wsX5_foreseeStates := fun w h => List.mem_cons_of_mem _ (List.mem_append_left _ (List.mem_append_right _ h))
  have hiX5 : ∀ w ∈ u_ws RX5 TX5 13, w ∈ wsX5_foreseeStates := fun w h => List.mem_cons_of_mem _ (List.mem_append_left _ (List.mem_append_left _ (List.mem_append_right _ h)))
  have hB48 : ∀ (x1 : Int32) (x2 : Int32) (k7 : Int32 → St → Option St) (hk7 : ∀ (y1 : Int32) (b : St), k7 y1 b = some q → V K (sX g) 4 b [(0, .ref (aX g 0)), (1, .int y1)] 7 []) (a : St), B_X5_foreseeStates_48 n k7 x1 x2 a = some q → V K (sX g) 4 a [(0, .ref (aX g 0)), (1, .int x1), (2, .int x2)] 48 [] := by
    intro x1 x2 k7 hk7 a hf
    rw [B_X5_foreseeStates_48] at hf
    refine xv_aload_n C dX5_foreseeStates_48 rfl 0 rfl ?_
    refine xv_get C hiX5 0 (wX0 g _) rfl 9 (by decide) (List.mem_of_getElem? (i := 3) rfl) rfl dX5_foreseeStates_49 ?_
    refine xv_iload_n C dX5_foreseeStates_52 rfl 1 rfl ?_
    refine xv_iload_n C dX5_foreseeStates_53 rfl 2 rfl ?_
    refine xv_iast C 36 0 (wX36 g _) rfl (up a 36 x1.toNatClampNeg x2) (pX36 g _ _ _) hf dX5_foreseeStates_54 (fun hf => ?_)
    refine xv_aload_n C dX5_foreseeStates_55 rfl 0 rfl ?_
    refine xv_get C hiX5 0 (wX0 g _) rfl 1 (by decide) (List.mem_of_getElem? (i := 1) rfl) rfl dX5_foreseeStates_56 ?_
    refine xv_aload_n C dX5_foreseeStates_59 rfl 0 rfl ?_
    refine xv_get C hiX5 0 (wX0 g _) rfl 6 (by decide) (List.mem_of_getElem? (i := 2) rfl) rfl dX5_foreseeStates_60 ?_
    refine xv_aload_n C dX5_foreseeStates_63 rfl 0 rfl ?_
    refine xv_get C hiX5 0 (wX0 g _) rfl 1 (by decide) (List.mem_of_getElem? (i := 1) rfl) rfl dX5_foreseeStates_64 ?_
    refine xv_getN C hiX4 5 (wX5 g _) rfl 2 (by decide) (fun U H h => h.1 _ (List.mem_of_getElem? (i := 7) rfl)) rfl dX5_foreseeStates_67 ?_
    obtain ⟨q2, hg, hf⟩ := dt_bind hf
    refine xc_v (xr_VN C (ci := 4) (As := [.ref (aX g 33), .int ((up a 36 x1.toNatClampNeg x2) 5 2)]) (fun l => c_X4_passDay__33 g hS l n ((up a 36 x1.toNatClampNeg x2) 5 2) (up a 36 x1.toNatClampNeg x2) q2 hg) gX5_foreseeStates_X4_passDay_n174 rfl ⟨rfl, rfl⟩ (fun U H h => h.1 _ (List.mem_of_getElem? (i := 51) rfl)) (List.mem_of_getElem? (i := 15) rfl) (List.mem_of_getElem? (i := 14) rfl) (List.mem_of_getElem? (i := 16) rfl) hdN_X4_passDay ⟨Nat.le_of_ble_eq_true rfl, Nat.le_of_ble_eq_true rfl⟩ 5 rfl rfl (wX5 g _) rfl rfl (Nat.le_of_ble_eq_true rfl) dX5_foreseeStates_70) ?_
    refine xv_iinc C [(1, .int (x1 + 1)), (0, .ref (aX g 0)), (2, .int x2)] dX5_foreseeStates_73 1 rfl rfl (by decide) rfl ?_
    refine xv_goto C 7 dX5_foreseeStates_76 (by decide) ?_
    refine xv_eq [1, 0] rfl ?_
    exact hk7 (x1 + 1) q2 hf
  have hL17 : ∀ (x1 : Int32) (k7 : Int32 → St → Option St) (hk7 : ∀ (y1 : Int32) (b : St), k7 y1 b = some q → V K (sX g) 4 b [(0, .ref (aX g 0)), (1, .int y1)] 7 []) (j : Nat) (x2 : Int32) (x3 : Int32) (a : St), L_X5_foreseeStates_17 n k7 x1 j x2 x3 a = some q → V K (sX g) 4 a [(0, .ref (aX g 0)), (1, .int x1), (2, .int x2), (3, .int x3)] 17 [] := by
    intro x1 k7 hk7 j
    induction j with
    | zero =>
      intro x2 x3 a hf
      have hf : (none : Option St) = some q := hf
      cases hf
    | succ j ih =>
      intro x2 x3 a hf
      rw [L_X5_foreseeStates_17] at hf
      refine xv_iload_n C dX5_foreseeStates_17 rfl 3 rfl ?_
      refine xv_aload_n C dX5_foreseeStates_18 rfl 0 rfl ?_
      refine xv_get C hiX5 0 (wX0 g _) rfl 1 (by decide) (List.mem_of_getElem? (i := 1) rfl) rfl dX5_foreseeStates_19 ?_
      refine xv_getN C hiX4 5 (wX5 g _) rfl 0 (by decide) (fun U H h => h.1 _ (List.mem_of_getElem? (i := 5) rfl)) rfl dX5_foreseeStates_22 ?_
      refine xv_icmp_ge C 48 hf dX5_foreseeStates_25 (by decide) (fun _ hf => ?_) (fun _ hf => ?_)
      · refine xv_eq [0, 1, 2] rfl ?_
        exact hB48 x1 x2 k7 hk7 a hf
      · refine xv_iload_n C dX5_foreseeStates_28 rfl 2 rfl ?_
        refine xv_bipush C 7 dX5_foreseeStates_29 (by decide) ?_
        refine xv_imul C dX5_foreseeStates_31 ?_
        refine xv_aload_n C dX5_foreseeStates_32 rfl 0 rfl ?_
        refine xv_get C hiX5 0 (wX0 g _) rfl 6 (by decide) (List.mem_of_getElem? (i := 2) rfl) rfl dX5_foreseeStates_33 ?_
        refine xv_iload_n C dX5_foreseeStates_36 rfl 3 rfl ?_
        refine xv_iald C 33 0 (wX33 g _) rfl hf dX5_foreseeStates_37 (fun hf => ?_)
        refine xv_iadd C dX5_foreseeStates_38 ?_
        refine xv_iconst C 1 dX5_foreseeStates_39 (by decide) ?_
        refine xv_iadd C dX5_foreseeStates_40 ?_
        refine xv_istore_n C [(2, .int (((x2 * 7) + (a 33 x3.toNatClampNeg)) + 1)), (0, .ref (aX g 0)), (1, .int x1), (3, .int x3)] dX5_foreseeStates_41 rfl (by decide) rfl ?_
        refine xv_iinc C [(3, .int (x3 + 1)), (2, .int (((x2 * 7) + (a 33 x3.toNatClampNeg)) + 1)), (0, .ref (aX g 0)), (1, .int x1)] dX5_foreseeStates_42 3 rfl rfl (by decide) rfl ?_
        refine xv_goto C 17 dX5_foreseeStates_45 (by decide) ?_
        refine xv_eq [2, 3, 1, 0] rfl ?_
        exact ih (((x2 * 7) + (a 33 x3.toNatClampNeg)) + 1) (x3 + 1) a hf
  have hL7 : ∀  (j : Nat) (x1 : Int32) (a : St), L_X5_foreseeStates_7 n j x1 a = some q → V K (sX g) 4 a [(0, .ref (aX g 0)), (1, .int x1)] 7 [] := by
    intro j
    induction j with
    | zero =>
      intro x1 a hf
      have hf : (none : Option St) = some q := hf
      cases hf
    | succ j ih =>
      intro x1 a hf
      rw [L_X5_foreseeStates_7] at hf
      refine xv_iload_n C dX5_foreseeStates_7 rfl 1 rfl ?_
      refine xv_bipush C 32 dX5_foreseeStates_8 (by decide) ?_
      refine xv_icmp_ge C 79 hf dX5_foreseeStates_10 (by decide) (fun _ hf => ?_) (fun _ hf => ?_)
      · exact xz_v hret hf dX5_foreseeStates_79
      · refine xv_iconst C 0 dX5_foreseeStates_13 (by decide) ?_
        refine xv_istore_n C [(2, .int 0), (0, .ref (aX g 0)), (1, .int x1)] dX5_foreseeStates_14 rfl (by decide) rfl ?_
        refine xv_iconst C 0 dX5_foreseeStates_15 (by decide) ?_
        refine xv_istore_n C [(3, .int 0), (2, .int 0), (0, .ref (aX g 0)), (1, .int x1)] dX5_foreseeStates_16 rfl (by decide) rfl ?_
        refine xv_eq [2, 3, 1, 0] rfl ?_
        exact hL17 x1 (L_X5_foreseeStates_7 n j) ih n 0 0 a hf
  rw [f_X5_foreseeStates] at hf
  show V K (sX g) 4 a [(0, .ref (aX g 0))] 0 []
  refine xv_aload_n C dX5_foreseeStates_0 rfl 0 rfl ?_
  refine xv_iconst C 0 dX5_foreseeStates_1 (by decide) ?_
  obtain ⟨q1, hg, hf⟩ := dt_bind hf
  refine xc_v (xr_V C (ci := 5) (As := [.int 0]) (fun l => c_X5_foresee g hS l n 0 a q1 hg) gX5_foreseeStates_X5_foresee rfl ⟨rfl, rfl⟩ hdV_X5_foresee ⟨Nat.le_of_ble_eq_true rfl, Nat.le_of_ble_eq_true rfl⟩ 0 rfl rfl (wX0 g _) rfl rfl (Nat.le_of_ble_eq_true rfl) dX5_foreseeStates_2) ?_
  refine xv_iconst C 0 dX5_foreseeStates_5 (by decide) ?_
  refine xv_istore_n C [(1, .int 0), (0, .ref (aX g 0))] dX5_foreseeStates_6 rfl (by decide) rfl ?_
  refine xv_eq [1, 0] rfl ?_
  exact hL7 n 0 q1 hf
set_option maxRecDepth 100000 in
set_option maxHeartbeats 4000000 in
theorem c_X5_again (g : GX) (hS : xSide (sX g)) (l : Launch) (n : Nat) (x1 : Int32) (a : St) (q : (Int32 × St)) (hf : f_X5_again n x1 a = some q) : Met l yX5_again wsX5_again rm_X5_again (xPre (sX g) [.ref (aX g 0), .int x1] a) (xPostI (sX g) q.1 q.2) 0 0 (sX g).2.2.1 := by
  refine xm_i (av := [.ref (aX g 0), .int x1]) (cc := cX5_again) (maxL := 4) (by decide) rfl (Nat.le_of_ble_eq_true rfl) hS.1 hS.2 (fun K C hret => ?_)
  have C : CC K (sX g) cX5_again 4 wsX5_again RX5 rm_X5_again := C
  have hiX5 : ∀ w ∈ u_ws RX5 TX5 13, w ∈ wsX5_again := fun w h => List.mem_cons_of_mem _ (List.mem_append_left _ (List.mem_append_left _ (List.mem_append_right _ h)))
  have hB67 : ∀ (x1 : Int32) (x2 : Int32) (k18 : Int32 → St → Option (Int32 × St)) (hk18 : ∀ (y2 : Int32) (b : St), k18 y2 b = some q → V K (sX g) 4 b [(0, .ref (aX g 0)), (1, .int x1), (2, .int y2)] 18 []) (a : St), B_X5_again_67 n k18 x1 x2 a = some q → V K (sX g) 4 a [(0, .ref (aX g 0)), (1, .int x1), (2, .int x2)] 67 [] := by
    intro x1 x2 k18 hk18 a hf
    rw [B_X5_again_67] at hf
    refine xv_iinc C [(2, .int (x2 + 1)), (0, .ref (aX g 0)), (1, .int x1)] dX5_again_67 2 rfl rfl (by decide) rfl ?_
    refine xv_goto C 18 dX5_again_70 (by decide) ?_
    refine xv_eq [1, 2, 0] rfl ?_
    exact hk18 (x2 + 1) a hf
  have hB49 : ∀ (x1 : Int32) (x2 : Int32) (x3 : Int32)  (a : St), B_X5_again_49 n x1 x2 x3 a = some q → V K (sX g) 4 a [(1, .int x1), (2, .int x2), (3, .int x3)] 49 [] := by
    intro x1 x2 x3 a hf
    rw [B_X5_again_49] at hf
    refine xv_iload_n C dX5_again_49 rfl 0 rfl ?_
    refine xv_if_ne C (y := 0) 57 hf dX5_again_50 (by decide) (fun _ hf => ?_) (fun _ hf => ?_)
    · refine xv_iload_n C dX5_again_53 rfl 1 rfl ?_
      refine xv_goto C 60 dX5_again_54 (by decide) ?_
      exact xz_iw hret hf dX5_again_60
    · refine xv_iload_n C dX5_again_57 rfl 2 rfl ?_
      refine xv_iload_n C dX5_again_58 rfl 1 rfl ?_
      refine xv_isub C dX5_again_59 ?_
      exact xz_iw hret hf dX5_again_60
  have hL28 : ∀ (x1 : Int32) (x2 : Int32) (k18 : Int32 → St → Option (Int32 × St)) (hk18 : ∀ (y2 : Int32) (b : St), k18 y2 b = some q → V K (sX g) 4 b [(0, .ref (aX g 0)), (1, .int x1), (2, .int y2)] 18 []) (j : Nat) (x3 : Int32) (a : St), L_X5_again_28 n k18 x1 x2 j x3 a = some q → V K (sX g) 4 a [(0, .ref (aX g 0)), (1, .int x1), (2, .int x2), (3, .int x3)] 28 [] := by
    intro x1 x2 k18 hk18 j
    induction j with
    | zero =>
      intro x3 a hf
      have hf : (none : Option (Int32 × St)) = some q := hf
      cases hf
    | succ j ih =>
      intro x3 a hf
      rw [L_X5_again_28] at hf
      refine xv_iload_n C dX5_again_28 rfl 3 rfl ?_
      refine xv_bipush C 32 dX5_again_29 (by decide) ?_
      refine xv_icmp_ge C 67 hf dX5_again_31 (by decide) (fun _ hf => ?_) (fun _ hf => ?_)
      · refine xv_eq [0, 1, 2] rfl ?_
        exact hB67 x1 x2 k18 hk18 a hf
      · refine xv_aload_n C dX5_again_34 rfl 0 rfl ?_
        refine xv_get C hiX5 0 (wX0 g _) rfl 9 (by decide) (List.mem_of_getElem? (i := 1) rfl) rfl dX5_again_35 ?_
        refine xv_iload_n C dX5_again_38 rfl 2 rfl ?_
        refine xv_iald C 36 0 (wX36 g _) rfl hf dX5_again_39 (fun hf => ?_)
        refine xv_aload_n C dX5_again_40 rfl 0 rfl ?_
        refine xv_get C hiX5 0 (wX0 g _) rfl 9 (by decide) (List.mem_of_getElem? (i := 1) rfl) rfl dX5_again_41 ?_
        refine xv_iload_n C dX5_again_44 rfl 3 rfl ?_
        refine xv_iald C 36 0 (wX36 g _) rfl hf dX5_again_45 (fun hf => ?_)
        refine xv_icmp_ne C 61 hf dX5_again_46 (by decide) (fun _ hf => ?_) (fun _ hf => ?_)
        · refine xv_eq [1, 2, 3] rfl ?_
          exact hB49 x1 x2 x3 a hf
        · refine xv_iinc C [(3, .int (x3 + 1)), (0, .ref (aX g 0)), (1, .int x1), (2, .int x2)] dX5_again_61 3 rfl rfl (by decide) rfl ?_
          refine xv_goto C 28 dX5_again_64 (by decide) ?_
          refine xv_eq [1, 2, 3, 0] rfl ?_
          exact ih (x3 + 1) a hf
  have hL18 : ∀ (x1 : Int32)  (j : Nat) (x2 : Int32) (a : St), L_X5_again_18 n x1 j x2 a = some q → V K (sX g) 4 a [(0, .ref (aX g 0)), (1, .int x1), (2, .int x2)] 18 [] := by
    intro x1 j
    induction j with
    | zero =>
      intro x2 a hf
      have hf : (none : Option (Int32 × St)) = some q := hf
      cases hf
    | succ j ih =>
      intro x2 a hf
      rw [L_X5_again_18] at hf
      refine xv_iload_n C dX5_again_18 rfl 2 rfl ?_
      refine xv_bipush C 32 dX5_again_19 (by decide) ?_
      refine xv_icmp_ge C 73 hf dX5_again_21 (by decide) (fun _ hf => ?_) (fun _ hf => ?_)
      · refine xv_iconst C (-1) dX5_again_73 (by decide) ?_
        exact xz_iw hret hf dX5_again_74
      · refine xv_iload_n C dX5_again_24 rfl 2 rfl ?_
        refine xv_iconst C 1 dX5_again_25 (by decide) ?_
        refine xv_iadd C dX5_again_26 ?_
        refine xv_istore_n C [(3, .int (x2 + 1)), (0, .ref (aX g 0)), (1, .int x1), (2, .int x2)] dX5_again_27 rfl (by decide) rfl ?_
        refine xv_eq [1, 2, 3, 0] rfl ?_
        exact hL28 x1 x2 (L_X5_again_18 n x1 j) ih n (x2 + 1) a hf
  rw [f_X5_again] at hf
  show V K (sX g) 4 a [(0, .ref (aX g 0)), (1, .int x1)] 0 []
  refine xv_iload_n C dX5_again_0 rfl 1 rfl ?_
  refine xv_iconst C 0 dX5_again_1 (by decide) ?_
  refine xv_iconst C 1 dX5_again_2 (by decide) ?_
  obtain ⟨q1, hg, hf⟩ := dt_bind hf
  refine xc_i (xr_S C (As := [.int x1, .int 0, .int 1]) (fun l => c_X5_within (sX g) hS l x1 0 1 a q1 hg) gX5_again_X5_within rfl ⟨rfl, rfl⟩ hdS_X5_within ⟨Nat.le_of_ble_eq_true rfl, Nat.le_of_ble_eq_true rfl⟩ rfl rfl (Nat.le_of_ble_eq_true rfl) dX5_again_3) ?_
  refine xv_if_ne C (y := 0) 12 hf dX5_again_6 (by decide) (fun _ hf => ?_) (fun _ hf => ?_)
  · refine xv_bipush C (-3) dX5_again_9 (by decide) ?_
    exact xz_iw hret hf dX5_again_11
  · refine xv_aload_n C dX5_again_12 rfl 0 rfl ?_
    obtain ⟨q2, hg, hf⟩ := dt_bind hf
    refine xc_v (xr_V C (ci := 5) (As := []) (fun l => c_X5_foreseeStates g hS l n a q2 hg) gX5_again_X5_foreseeStates rfl ⟨rfl, rfl⟩ hdV_X5_foreseeStates ⟨Nat.le_of_ble_eq_true rfl, Nat.le_of_ble_eq_true rfl⟩ 0 rfl rfl (wX0 g _) rfl rfl (Nat.le_of_ble_eq_true rfl) dX5_again_13) ?_
    refine xv_iconst C 0 dX5_again_16 (by decide) ?_
    refine xv_istore_n C [(2, .int 0), (0, .ref (aX g 0)), (1, .int x1)] dX5_again_17 rfl (by decide) rfl ?_
    refine xv_eq [1, 2, 0] rfl ?_
    exact hL18 x1 n 0 q2 hf
