set_option maxRecDepth 100000 in
set_option maxHeartbeats 4000000 in
theorem c_X6_readsLine (g : GM) (hS : xSide (sM g)) (l : Launch) (n : Nat) (a : St) (q : (Int32 × St)) (hf : f_X6_readsLine n a = some q) : Met l yX6_readsLine wsX6_readsLine rm_X6_readsLine (xPre (sM g) [.ref (aM g 0)] a) (xPostI (sM g) q.1 q.2) 0 0 (sM g).2.2.1 := by
  refine xm_z (av := [.ref (aM g 0)]) (cc := cX6_readsLine) (maxL := 2) (by decide) rfl (Nat.le_of_ble_eq_true rfl) hS.1 hS.2 (fun K C hret => ?_)
  have C : CC K (sM g) cX6_readsLine 2 wsX6_readsLine RX6 rm_X6_readsLine := C
  have hiX6 : ∀ w ∈ u_ws RX6 TX6 26, w ∈ wsX6_readsLine := fun w h => List.mem_cons_of_mem _ (List.mem_append_right _ h)
  rw [f_X6_readsLine] at hf
  show V K (sM g) 2 a [(0, .ref (aM g 0))] 0 []
  refine xv_aload_n C dX6_readsLine_0 rfl 0 rfl ?_
  obtain ⟨q1, hg, hf⟩ := dt_bind hf
  refine xc_i (xr_V C (ci := 6) (As := []) (fun l => c_X6_wordOf g hS l n a q1 hg) gX6_readsLine_X6_wordOf rfl ⟨rfl, rfl⟩ hdV_X6_wordOf ⟨Nat.le_of_ble_eq_true rfl, Nat.le_of_ble_eq_true rfl⟩ 0 rfl rfl (wM0 g _) rfl rfl (Nat.le_of_ble_eq_true rfl) dX6_readsLine_1) ?_
  refine xv_istore_n C [(1, .int q1), (0, .ref (aM g 0))] dX6_readsLine_4 rfl (by decide) rfl ?_
  refine xv_iload_n C dX6_readsLine_5 rfl 0 rfl ?_
  refine xv_iconst C (-1) dX6_readsLine_6 (by decide) ?_
  refine xv_icmp_eq C 26 hf dX6_readsLine_7 (by decide) (fun _ hf => ?_) (fun _ hf => ?_)
  · refine xv_iconst C 0 dX6_readsLine_26 (by decide) ?_
    exact xz_zw hret hf (by decide) dX6_readsLine_27
  · refine xv_iload_n C dX6_readsLine_10 rfl 0 rfl ?_
    obtain ⟨q2, hg, hf⟩ := dt_bind hf
    refine xc_i (xr_S C (As := [.int q1]) (fun l => c_X6_isDeedLine (sM g) hS l q1 a q2 hg) gX6_readsLine_X6_isDeedLine rfl ⟨rfl, rfl⟩ hdS_X6_isDeedLine ⟨Nat.le_of_ble_eq_true rfl, Nat.le_of_ble_eq_true rfl⟩ rfl rfl (Nat.le_of_ble_eq_true rfl) dX6_readsLine_11) ?_
    refine xv_if_eq C (y := 0) 28 hf dX6_readsLine_14 (by decide) (fun _ hf => ?_) (fun _ hf => ?_)
    · refine xv_aload_n C dX6_readsLine_28 rfl 1 rfl ?_
      obtain ⟨q3, hg, hf⟩ := dt_bind hf
      refine xc_v (xr_V C (ci := 6) (As := []) (fun l => c_X6_token g hS l n a q3 hg) gX6_readsLine_X6_token rfl ⟨rfl, rfl⟩ hdV_X6_token ⟨Nat.le_of_ble_eq_true rfl, Nat.le_of_ble_eq_true rfl⟩ 0 rfl rfl (wM0 g _) rfl rfl (Nat.le_of_ble_eq_true rfl) dX6_readsLine_29) ?_
      refine xv_aload_n C dX6_readsLine_32 rfl 1 rfl ?_
      refine xv_get C hiX6 0 (wM0 g _) rfl 4 (by decide) (List.mem_of_getElem? (i := 2) rfl) rfl dX6_readsLine_33 ?_
      refine xv_iconst C 5 dX6_readsLine_36 (by decide) ?_
      refine xv_aload_n C dX6_readsLine_37 rfl 1 rfl ?_
      refine xv_get C hiX6 0 (wM0 g _) rfl 5 (by decide) (List.mem_of_getElem? (i := 3) rfl) rfl dX6_readsLine_38 ?_
      refine xv_imul C dX6_readsLine_41 ?_
      refine xv_iload_n C dX6_readsLine_42 rfl 0 rfl ?_
      refine xv_iast C 4 0 (wM4 g _) rfl (up q3 4 (((5 : Int32) * (q3 0 5)).toNatClampNeg) q1) (pM4 g _ _ _) hf dX6_readsLine_43 (fun hf => ?_)
      refine xv_aload_n C dX6_readsLine_44 rfl 1 rfl ?_
      refine xv_iload_n C dX6_readsLine_45 rfl 0 rfl ?_
      obtain ⟨q4, hg, hf⟩ := dt_bind hf
      refine xc_i (xr_V C (ci := 6) (As := [.int q1]) (fun l => c_X6_readsRest g hS l n q1 (up q3 4 (((5 : Int32) * (q3 0 5)).toNatClampNeg) q1) q4 hg) gX6_readsLine_X6_readsRest rfl ⟨rfl, rfl⟩ hdV_X6_readsRest ⟨Nat.le_of_ble_eq_true rfl, Nat.le_of_ble_eq_true rfl⟩ 0 rfl rfl (wM0 g _) rfl rfl (Nat.le_of_ble_eq_true rfl) dX6_readsLine_46) ?_
      refine xv_if_ne C (y := 0) 54 hf dX6_readsLine_49 (by decide) (fun _ hf => ?_) (fun _ hf => ?_)
      · refine xv_iconst C 0 dX6_readsLine_52 (by decide) ?_
        exact xz_zw hret hf (by decide) dX6_readsLine_53
      · refine xv_aload_n C dX6_readsLine_54 rfl 1 rfl ?_
        refine xv_iload_n C dX6_readsLine_55 rfl 0 rfl ?_
        refine xv_if_ne C (y := 0) 75 hf dX6_readsLine_56 (by decide) (fun _ hf => ?_) (fun _ hf => ?_)
        · refine xv_aload_n C dX6_readsLine_59 rfl 1 rfl ?_
          refine xv_get C hiX6 0 (wM0 g _) rfl 4 (by decide) (List.mem_of_getElem? (i := 2) rfl) rfl dX6_readsLine_60 ?_
          refine xv_iconst C 5 dX6_readsLine_63 (by decide) ?_
          refine xv_aload_n C dX6_readsLine_64 rfl 1 rfl ?_
          refine xv_get C hiX6 0 (wM0 g _) rfl 5 (by decide) (List.mem_of_getElem? (i := 3) rfl) rfl dX6_readsLine_65 ?_
          refine xv_imul C dX6_readsLine_68 ?_
          refine xv_iconst C 1 dX6_readsLine_69 (by decide) ?_
          refine xv_iadd C dX6_readsLine_70 ?_
          refine xv_iald C 4 0 (wM4 g _) rfl hf dX6_readsLine_71 (fun hf => ?_)
          refine xv_goto C 79 dX6_readsLine_72 (by decide) ?_
          refine xv_put C hiX6 tyX6 tyX6_ok nmX6 0 (wM0 g _) rfl 15 (by decide) (List.mem_of_getElem? (i := 4) rfl) rfl (tyX6_ok 15 (by decide)) rfl rfl (Nat.le_of_ble_eq_true rfl) (up q4.2 0 15 (q4.2 4 ((((5 : Int32) * (q4.2 0 5)) + 1).toNatClampNeg))) (pM0_15 g _ _) dX6_readsLine_79 ?_
          refine xv_aload_n C dX6_readsLine_82 rfl 1 rfl ?_
          refine xv_iload_n C dX6_readsLine_83 rfl 0 rfl ?_
          refine xv_if_ne C (y := 0) 91 hf dX6_readsLine_84 (by decide) (fun _ hf => ?_) (fun _ hf => ?_)
          · refine xv_iconst C 0 dX6_readsLine_87 (by decide) ?_
            refine xv_goto C 111 dX6_readsLine_88 (by decide) ?_
            refine xv_put C hiX6 tyX6 tyX6_ok nmX6 0 (wM0 g _) rfl 16 (by decide) (List.mem_of_getElem? (i := 1) rfl) rfl (tyX6_ok 16 (by decide)) rfl rfl (Nat.le_of_ble_eq_true rfl) (up (up q4.2 0 15 (q4.2 4 ((((5 : Int32) * (q4.2 0 5)) + 1).toNatClampNeg))) 0 16 0) (pM0_16 g _ _) dX6_readsLine_111 ?_
            refine xv_aload_n C dX6_readsLine_114 rfl 1 rfl ?_
            refine xv_dup C dX6_readsLine_115 rfl ?_
            refine xv_get C hiX6 0 (wM0 g _) rfl 5 (by decide) (List.mem_of_getElem? (i := 3) rfl) rfl dX6_readsLine_116 ?_
            refine xv_iconst C 1 dX6_readsLine_119 (by decide) ?_
            refine xv_iadd C dX6_readsLine_120 ?_
            refine xv_put C hiX6 tyX6 tyX6_ok nmX6 0 (wM0 g _) rfl 5 (by decide) (List.mem_of_getElem? (i := 3) rfl) rfl (tyX6_ok 5 (by decide)) rfl rfl (Nat.le_of_ble_eq_true rfl) (up (up (up q4.2 0 15 (q4.2 4 ((((5 : Int32) * (q4.2 0 5)) + 1).toNatClampNeg))) 0 16 0) 0 5 (((up (up q4.2 0 15 (q4.2 4 ((((5 : Int32) * (q4.2 0 5)) + 1).toNatClampNeg))) 0 16 0) 0 5) + 1)) (pM0_5 g _ _) dX6_readsLine_121 ?_
            refine xv_iconst C 1 dX6_readsLine_124 (by decide) ?_
            exact xz_zw hret hf (by decide) dX6_readsLine_125
          · refine xv_iload_n C dX6_readsLine_91 rfl 0 rfl ?_
            obtain ⟨q6, hg, hf⟩ := dt_bind hf
            refine xc_i (xr_S C (As := [.int q1]) (fun l => c_X6_isDeedLine (sM g) hS l q1 (up q4.2 0 15 (q4.2 4 ((((5 : Int32) * (q4.2 0 5)) + 1).toNatClampNeg))) q6 hg) gX6_readsLine_X6_isDeedLine rfl ⟨rfl, rfl⟩ hdS_X6_isDeedLine ⟨Nat.le_of_ble_eq_true rfl, Nat.le_of_ble_eq_true rfl⟩ rfl rfl (Nat.le_of_ble_eq_true rfl) dX6_readsLine_92) ?_
            refine xv_if_eq C (y := 0) 107 hf dX6_readsLine_95 (by decide) (fun _ hf => ?_) (fun _ hf => ?_)
            · refine xv_aload_n C dX6_readsLine_107 rfl 1 rfl ?_
              refine xv_get C hiX6 0 (wM0 g _) rfl 16 (by decide) (List.mem_of_getElem? (i := 1) rfl) rfl dX6_readsLine_108 ?_
              refine xv_put C hiX6 tyX6 tyX6_ok nmX6 0 (wM0 g _) rfl 16 (by decide) (List.mem_of_getElem? (i := 1) rfl) rfl (tyX6_ok 16 (by decide)) rfl rfl (Nat.le_of_ble_eq_true rfl) (up (up q4.2 0 15 (q4.2 4 ((((5 : Int32) * (q4.2 0 5)) + 1).toNatClampNeg))) 0 16 ((up q4.2 0 15 (q4.2 4 ((((5 : Int32) * (q4.2 0 5)) + 1).toNatClampNeg))) 0 16)) (pM0_16 g _ _) dX6_readsLine_111 ?_
              refine xv_aload_n C dX6_readsLine_114 rfl 1 rfl ?_
              refine xv_dup C dX6_readsLine_115 rfl ?_
              refine xv_get C hiX6 0 (wM0 g _) rfl 5 (by decide) (List.mem_of_getElem? (i := 3) rfl) rfl dX6_readsLine_116 ?_
              refine xv_iconst C 1 dX6_readsLine_119 (by decide) ?_
              refine xv_iadd C dX6_readsLine_120 ?_
              refine xv_put C hiX6 tyX6 tyX6_ok nmX6 0 (wM0 g _) rfl 5 (by decide) (List.mem_of_getElem? (i := 3) rfl) rfl (tyX6_ok 5 (by decide)) rfl rfl (Nat.le_of_ble_eq_true rfl) (up (up (up q4.2 0 15 (q4.2 4 ((((5 : Int32) * (q4.2 0 5)) + 1).toNatClampNeg))) 0 16 ((up q4.2 0 15 (q4.2 4 ((((5 : Int32) * (q4.2 0 5)) + 1).toNatClampNeg))) 0 16)) 0 5 (((up (up q4.2 0 15 (q4.2 4 ((((5 : Int32) * (q4.2 0 5)) + 1).toNatClampNeg))) 0 16 ((up q4.2 0 15 (q4.2 4 ((((5 : Int32) * (q4.2 0 5)) + 1).toNatClampNeg))) 0 16)) 0 5) + 1)) (pM0_5 g _ _) dX6_readsLine_121 ?_
              refine xv_iconst C 1 dX6_readsLine_124 (by decide) ?_
              exact xz_zw hret hf (by decide) dX6_readsLine_125
            · refine xv_aload_n C dX6_readsLine_98 rfl 1 rfl ?_
              refine xv_get C hiX6 0 (wM0 g _) rfl 16 (by decide) (List.mem_of_getElem? (i := 1) rfl) rfl dX6_readsLine_99 ?_
              refine xv_iconst C 1 dX6_readsLine_102 (by decide) ?_
              refine xv_iadd C dX6_readsLine_103 ?_
              refine xv_goto C 111 dX6_readsLine_104 (by decide) ?_
              refine xv_put C hiX6 tyX6 tyX6_ok nmX6 0 (wM0 g _) rfl 16 (by decide) (List.mem_of_getElem? (i := 1) rfl) rfl (tyX6_ok 16 (by decide)) rfl rfl (Nat.le_of_ble_eq_true rfl) (up (up q4.2 0 15 (q4.2 4 ((((5 : Int32) * (q4.2 0 5)) + 1).toNatClampNeg))) 0 16 (((up q4.2 0 15 (q4.2 4 ((((5 : Int32) * (q4.2 0 5)) + 1).toNatClampNeg))) 0 16) + 1)) (pM0_16 g _ _) dX6_readsLine_111 ?_
              refine xv_aload_n C dX6_readsLine_114 rfl 1 rfl ?_
              refine xv_dup C dX6_readsLine_115 rfl ?_
              refine xv_get C hiX6 0 (wM0 g _) rfl 5 (by decide) (List.mem_of_getElem? (i := 3) rfl) rfl dX6_readsLine_116 ?_
              refine xv_iconst C 1 dX6_readsLine_119 (by decide) ?_
              refine xv_iadd C dX6_readsLine_120 ?_
              refine xv_put C hiX6 tyX6 tyX6_ok nmX6 0 (wM0 g _) rfl 5 (by decide) (List.mem_of_getElem? (i := 3) rfl) rfl (tyX6_ok 5 (by decide)) rfl rfl (Nat.le_of_ble_eq_true rfl) (up (up (up q4.2 0 15 (q4.2 4 ((((5 : Int32) * (q4.2 0 5)) + 1).toNatClampNeg))) 0 16 (((up q4.2 0 15 (q4.2 4 ((((5 : Int32) * (q4.2 0 5)) + 1).toNatClampNeg))) 0 16) + 1)) 0 5 (((up (up q4.2 0 15 (q4.2 4 ((((5 : Int32) * (q4.2 0 5)) + 1).toNatClampNeg))) 0 16 (((up q4.2 0 15 (q4.2 4 ((((5 : Int32) * (q4.2 0 5)) + 1).toNatClampNeg))) 0 16) + 1)) 0 5) + 1)) (pM0_5 g _ _) dX6_readsLine_121 ?_
              refine xv_iconst C 1 dX6_readsLine_124 (by decide) ?_
              exact xz_zw hret hf (by decide) dX6_readsLine_125
        · refine xv_aload_n C dX6_readsLine_75 rfl 1 rfl ?_
          refine xv_get C hiX6 0 (wM0 g _) rfl 15 (by decide) (List.mem_of_getElem? (i := 4) rfl) rfl dX6_readsLine_76 ?_
          refine xv_put C hiX6 tyX6 tyX6_ok nmX6 0 (wM0 g _) rfl 15 (by decide) (List.mem_of_getElem? (i := 4) rfl) rfl (tyX6_ok 15 (by decide)) rfl rfl (Nat.le_of_ble_eq_true rfl) (up q4.2 0 15 (q4.2 0 15)) (pM0_15 g _ _) dX6_readsLine_79 ?_
          refine xv_aload_n C dX6_readsLine_82 rfl 1 rfl ?_
          refine xv_iload_n C dX6_readsLine_83 rfl 0 rfl ?_
          refine xv_if_ne C (y := 0) 91 hf dX6_readsLine_84 (by decide) (fun _ hf => ?_) (fun _ hf => ?_)
          · refine xv_iconst C 0 dX6_readsLine_87 (by decide) ?_
            refine xv_goto C 111 dX6_readsLine_88 (by decide) ?_
            refine xv_put C hiX6 tyX6 tyX6_ok nmX6 0 (wM0 g _) rfl 16 (by decide) (List.mem_of_getElem? (i := 1) rfl) rfl (tyX6_ok 16 (by decide)) rfl rfl (Nat.le_of_ble_eq_true rfl) (up (up q4.2 0 15 (q4.2 0 15)) 0 16 0) (pM0_16 g _ _) dX6_readsLine_111 ?_
            refine xv_aload_n C dX6_readsLine_114 rfl 1 rfl ?_
            refine xv_dup C dX6_readsLine_115 rfl ?_
            refine xv_get C hiX6 0 (wM0 g _) rfl 5 (by decide) (List.mem_of_getElem? (i := 3) rfl) rfl dX6_readsLine_116 ?_
            refine xv_iconst C 1 dX6_readsLine_119 (by decide) ?_
            refine xv_iadd C dX6_readsLine_120 ?_
            refine xv_put C hiX6 tyX6 tyX6_ok nmX6 0 (wM0 g _) rfl 5 (by decide) (List.mem_of_getElem? (i := 3) rfl) rfl (tyX6_ok 5 (by decide)) rfl rfl (Nat.le_of_ble_eq_true rfl) (up (up (up q4.2 0 15 (q4.2 0 15)) 0 16 0) 0 5 (((up (up q4.2 0 15 (q4.2 0 15)) 0 16 0) 0 5) + 1)) (pM0_5 g _ _) dX6_readsLine_121 ?_
            refine xv_iconst C 1 dX6_readsLine_124 (by decide) ?_
            exact xz_zw hret hf (by decide) dX6_readsLine_125
          · refine xv_iload_n C dX6_readsLine_91 rfl 0 rfl ?_
            obtain ⟨q5, hg, hf⟩ := dt_bind hf
            refine xc_i (xr_S C (As := [.int q1]) (fun l => c_X6_isDeedLine (sM g) hS l q1 (up q4.2 0 15 (q4.2 0 15)) q5 hg) gX6_readsLine_X6_isDeedLine rfl ⟨rfl, rfl⟩ hdS_X6_isDeedLine ⟨Nat.le_of_ble_eq_true rfl, Nat.le_of_ble_eq_true rfl⟩ rfl rfl (Nat.le_of_ble_eq_true rfl) dX6_readsLine_92) ?_
            refine xv_if_eq C (y := 0) 107 hf dX6_readsLine_95 (by decide) (fun _ hf => ?_) (fun _ hf => ?_)
            · refine xv_aload_n C dX6_readsLine_107 rfl 1 rfl ?_
              refine xv_get C hiX6 0 (wM0 g _) rfl 16 (by decide) (List.mem_of_getElem? (i := 1) rfl) rfl dX6_readsLine_108 ?_
              refine xv_put C hiX6 tyX6 tyX6_ok nmX6 0 (wM0 g _) rfl 16 (by decide) (List.mem_of_getElem? (i := 1) rfl) rfl (tyX6_ok 16 (by decide)) rfl rfl (Nat.le_of_ble_eq_true rfl) (up (up q4.2 0 15 (q4.2 0 15)) 0 16 ((up q4.2 0 15 (q4.2 0 15)) 0 16)) (pM0_16 g _ _) dX6_readsLine_111 ?_
              refine xv_aload_n C dX6_readsLine_114 rfl 1 rfl ?_
              refine xv_dup C dX6_readsLine_115 rfl ?_
              refine xv_get C hiX6 0 (wM0 g _) rfl 5 (by decide) (List.mem_of_getElem? (i := 3) rfl) rfl dX6_readsLine_116 ?_
              refine xv_iconst C 1 dX6_readsLine_119 (by decide) ?_
              refine xv_iadd C dX6_readsLine_120 ?_
              refine xv_put C hiX6 tyX6 tyX6_ok nmX6 0 (wM0 g _) rfl 5 (by decide) (List.mem_of_getElem? (i := 3) rfl) rfl (tyX6_ok 5 (by decide)) rfl rfl (Nat.le_of_ble_eq_true rfl) (up (up (up q4.2 0 15 (q4.2 0 15)) 0 16 ((up q4.2 0 15 (q4.2 0 15)) 0 16)) 0 5 (((up (up q4.2 0 15 (q4.2 0 15)) 0 16 ((up q4.2 0 15 (q4.2 0 15)) 0 16)) 0 5) + 1)) (pM0_5 g _ _) dX6_readsLine_121 ?_
              refine xv_iconst C 1 dX6_readsLine_124 (by decide) ?_
              exact xz_zw hret hf (by decide) dX6_readsLine_125
            · refine xv_aload_n C dX6_readsLine_98 rfl 1 rfl ?_
              refine xv_get C hiX6 0 (wM0 g _) rfl 16 (by decide) (List.mem_of_getElem? (i := 1) rfl) rfl dX6_readsLine_99 ?_
              refine xv_iconst C 1 dX6_readsLine_102 (by decide) ?_
              refine xv_iadd C dX6_readsLine_103 ?_
              refine xv_goto C 111 dX6_readsLine_104 (by decide) ?_
              refine xv_put C hiX6 tyX6 tyX6_ok nmX6 0 (wM0 g _) rfl 16 (by decide) (List.mem_of_getElem? (i := 1) rfl) rfl (tyX6_ok 16 (by decide)) rfl rfl (Nat.le_of_ble_eq_true rfl) (up (up q4.2 0 15 (q4.2 0 15)) 0 16 (((up q4.2 0 15 (q4.2 0 15)) 0 16) + 1)) (pM0_16 g _ _) dX6_readsLine_111 ?_
              refine xv_aload_n C dX6_readsLine_114 rfl 1 rfl ?_
              refine xv_dup C dX6_readsLine_115 rfl ?_
              refine xv_get C hiX6 0 (wM0 g _) rfl 5 (by decide) (List.mem_of_getElem? (i := 3) rfl) rfl dX6_readsLine_116 ?_
              refine xv_iconst C 1 dX6_readsLine_119 (by decide) ?_
              refine xv_iadd C dX6_readsLine_120 ?_
              refine xv_put C hiX6 tyX6 tyX6_ok nmX6 0 (wM0 g _) rfl 5 (by decide) (List.mem_of_getElem? (i := 3) rfl) rfl (tyX6_ok 5 (by decide)) rfl rfl (Nat.le_of_ble_eq_true rfl) (up (up (up q4.2 0 15 (q4.2 0 15)) 0 16 (((up q4.2 0 15 (q4.2 0 15)) 0 16) + 1)) 0 5 (((up (up q4.2 0 15 (q4.2 0 15)) 0 16 (((up q4.2 0 15 (q4.2 0 15)) 0 16) + 1)) 0 5) + 1)) (pM0_5 g _ _) dX6_readsLine_121 ?_
              refine xv_iconst C 1 dX6_readsLine_124 (by decide) ?_
              exact xz_zw hret hf (by decide) dX6_readsLine_125
    · refine xv_aload_n C dX6_readsLine_17 rfl 1 rfl ?_
      refine xv_get C hiX6 0 (wM0 g _) rfl 16 (by decide) (List.mem_of_getElem? (i := 1) rfl) rfl dX6_readsLine_18 ?_
      refine xv_bipush C 6 dX6_readsLine_21 (by decide) ?_
      refine xv_icmp_ne C 28 hf dX6_readsLine_23 (by decide) (fun _ hf => ?_) (fun _ hf => ?_)
      · refine xv_iconst C 0 dX6_readsLine_26 (by decide) ?_
        exact xz_zw hret hf (by decide) dX6_readsLine_27
      · refine xv_aload_n C dX6_readsLine_28 rfl 1 rfl ?_
        obtain ⟨q7, hg, hf⟩ := dt_bind hf
        refine xc_v (xr_V C (ci := 6) (As := []) (fun l => c_X6_token g hS l n a q7 hg) gX6_readsLine_X6_token rfl ⟨rfl, rfl⟩ hdV_X6_token ⟨Nat.le_of_ble_eq_true rfl, Nat.le_of_ble_eq_true rfl⟩ 0 rfl rfl (wM0 g _) rfl rfl (Nat.le_of_ble_eq_true rfl) dX6_readsLine_29) ?_
        refine xv_aload_n C dX6_readsLine_32 rfl 1 rfl ?_
        refine xv_get C hiX6 0 (wM0 g _) rfl 4 (by decide) (List.mem_of_getElem? (i := 2) rfl) rfl dX6_readsLine_33 ?_
        refine xv_iconst C 5 dX6_readsLine_36 (by decide) ?_
        refine xv_aload_n C dX6_readsLine_37 rfl 1 rfl ?_
        refine xv_get C hiX6 0 (wM0 g _) rfl 5 (by decide) (List.mem_of_getElem? (i := 3) rfl) rfl dX6_readsLine_38 ?_
        refine xv_imul C dX6_readsLine_41 ?_
        refine xv_iload_n C dX6_readsLine_42 rfl 0 rfl ?_
        refine xv_iast C 4 0 (wM4 g _) rfl (up q7 4 (((5 : Int32) * (q7 0 5)).toNatClampNeg) q1) (pM4 g _ _ _) hf dX6_readsLine_43 (fun hf => ?_)
        refine xv_aload_n C dX6_readsLine_44 rfl 1 rfl ?_
        refine xv_iload_n C dX6_readsLine_45 rfl 0 rfl ?_
        obtain ⟨q8, hg, hf⟩ := dt_bind hf
        refine xc_i (xr_V C (ci := 6) (As := [.int q1]) (fun l => c_X6_readsRest g hS l n q1 (up q7 4 (((5 : Int32) * (q7 0 5)).toNatClampNeg) q1) q8 hg) gX6_readsLine_X6_readsRest rfl ⟨rfl, rfl⟩ hdV_X6_readsRest ⟨Nat.le_of_ble_eq_true rfl, Nat.le_of_ble_eq_true rfl⟩ 0 rfl rfl (wM0 g _) rfl rfl (Nat.le_of_ble_eq_true rfl) dX6_readsLine_46) ?_
        refine xv_if_ne C (y := 0) 54 hf dX6_readsLine_49 (by decide) (fun _ hf => ?_) (fun _ hf => ?_)
        · refine xv_iconst C 0 dX6_readsLine_52 (by decide) ?_
          exact xz_zw hret hf (by decide) dX6_readsLine_53
        · refine xv_aload_n C dX6_readsLine_54 rfl 1 rfl ?_
          refine xv_iload_n C dX6_readsLine_55 rfl 0 rfl ?_
          refine xv_if_ne C (y := 0) 75 hf dX6_readsLine_56 (by decide) (fun _ hf => ?_) (fun _ hf => ?_)
          · refine xv_aload_n C dX6_readsLine_59 rfl 1 rfl ?_
            refine xv_get C hiX6 0 (wM0 g _) rfl 4 (by decide) (List.mem_of_getElem? (i := 2) rfl) rfl dX6_readsLine_60 ?_
            refine xv_iconst C 5 dX6_readsLine_63 (by decide) ?_
            refine xv_aload_n C dX6_readsLine_64 rfl 1 rfl ?_
            refine xv_get C hiX6 0 (wM0 g _) rfl 5 (by decide) (List.mem_of_getElem? (i := 3) rfl) rfl dX6_readsLine_65 ?_
            refine xv_imul C dX6_readsLine_68 ?_
            refine xv_iconst C 1 dX6_readsLine_69 (by decide) ?_
            refine xv_iadd C dX6_readsLine_70 ?_
            refine xv_iald C 4 0 (wM4 g _) rfl hf dX6_readsLine_71 (fun hf => ?_)
            refine xv_goto C 79 dX6_readsLine_72 (by decide) ?_
            refine xv_put C hiX6 tyX6 tyX6_ok nmX6 0 (wM0 g _) rfl 15 (by decide) (List.mem_of_getElem? (i := 4) rfl) rfl (tyX6_ok 15 (by decide)) rfl rfl (Nat.le_of_ble_eq_true rfl) (up q8.2 0 15 (q8.2 4 ((((5 : Int32) * (q8.2 0 5)) + 1).toNatClampNeg))) (pM0_15 g _ _) dX6_readsLine_79 ?_
            refine xv_aload_n C dX6_readsLine_82 rfl 1 rfl ?_
            refine xv_iload_n C dX6_readsLine_83 rfl 0 rfl ?_
            refine xv_if_ne C (y := 0) 91 hf dX6_readsLine_84 (by decide) (fun _ hf => ?_) (fun _ hf => ?_)
            · refine xv_iconst C 0 dX6_readsLine_87 (by decide) ?_
              refine xv_goto C 111 dX6_readsLine_88 (by decide) ?_
              refine xv_put C hiX6 tyX6 tyX6_ok nmX6 0 (wM0 g _) rfl 16 (by decide) (List.mem_of_getElem? (i := 1) rfl) rfl (tyX6_ok 16 (by decide)) rfl rfl (Nat.le_of_ble_eq_true rfl) (up (up q8.2 0 15 (q8.2 4 ((((5 : Int32) * (q8.2 0 5)) + 1).toNatClampNeg))) 0 16 0) (pM0_16 g _ _) dX6_readsLine_111 ?_
              refine xv_aload_n C dX6_readsLine_114 rfl 1 rfl ?_
              refine xv_dup C dX6_readsLine_115 rfl ?_
              refine xv_get C hiX6 0 (wM0 g _) rfl 5 (by decide) (List.mem_of_getElem? (i := 3) rfl) rfl dX6_readsLine_116 ?_
              refine xv_iconst C 1 dX6_readsLine_119 (by decide) ?_
              refine xv_iadd C dX6_readsLine_120 ?_
              refine xv_put C hiX6 tyX6 tyX6_ok nmX6 0 (wM0 g _) rfl 5 (by decide) (List.mem_of_getElem? (i := 3) rfl) rfl (tyX6_ok 5 (by decide)) rfl rfl (Nat.le_of_ble_eq_true rfl) (up (up (up q8.2 0 15 (q8.2 4 ((((5 : Int32) * (q8.2 0 5)) + 1).toNatClampNeg))) 0 16 0) 0 5 (((up (up q8.2 0 15 (q8.2 4 ((((5 : Int32) * (q8.2 0 5)) + 1).toNatClampNeg))) 0 16 0) 0 5) + 1)) (pM0_5 g _ _) dX6_readsLine_121 ?_
              refine xv_iconst C 1 dX6_readsLine_124 (by decide) ?_
              exact xz_zw hret hf (by decide) dX6_readsLine_125
            · refine xv_iload_n C dX6_readsLine_91 rfl 0 rfl ?_
              obtain ⟨q10, hg, hf⟩ := dt_bind hf
              refine xc_i (xr_S C (As := [.int q1]) (fun l => c_X6_isDeedLine (sM g) hS l q1 (up q8.2 0 15 (q8.2 4 ((((5 : Int32) * (q8.2 0 5)) + 1).toNatClampNeg))) q10 hg) gX6_readsLine_X6_isDeedLine rfl ⟨rfl, rfl⟩ hdS_X6_isDeedLine ⟨Nat.le_of_ble_eq_true rfl, Nat.le_of_ble_eq_true rfl⟩ rfl rfl (Nat.le_of_ble_eq_true rfl) dX6_readsLine_92) ?_
              refine xv_if_eq C (y := 0) 107 hf dX6_readsLine_95 (by decide) (fun _ hf => ?_) (fun _ hf => ?_)
              · refine xv_aload_n C dX6_readsLine_107 rfl 1 rfl ?_
                refine xv_get C hiX6 0 (wM0 g _) rfl 16 (by decide) (List.mem_of_getElem? (i := 1) rfl) rfl dX6_readsLine_108 ?_
                refine xv_put C hiX6 tyX6 tyX6_ok nmX6 0 (wM0 g _) rfl 16 (by decide) (List.mem_of_getElem? (i := 1) rfl) rfl (tyX6_ok 16 (by decide)) rfl rfl (Nat.le_of_ble_eq_true rfl) (up (up q8.2 0 15 (q8.2 4 ((((5 : Int32) * (q8.2 0 5)) + 1).toNatClampNeg))) 0 16 ((up q8.2 0 15 (q8.2 4 ((((5 : Int32) * (q8.2 0 5)) + 1).toNatClampNeg))) 0 16)) (pM0_16 g _ _) dX6_readsLine_111 ?_
                refine xv_aload_n C dX6_readsLine_114 rfl 1 rfl ?_
                refine xv_dup C dX6_readsLine_115 rfl ?_
                refine xv_get C hiX6 0 (wM0 g _) rfl 5 (by decide) (List.mem_of_getElem? (i := 3) rfl) rfl dX6_readsLine_116 ?_
                refine xv_iconst C 1 dX6_readsLine_119 (by decide) ?_
                refine xv_iadd C dX6_readsLine_120 ?_
                refine xv_put C hiX6 tyX6 tyX6_ok nmX6 0 (wM0 g _) rfl 5 (by decide) (List.mem_of_getElem? (i := 3) rfl) rfl (tyX6_ok 5 (by decide)) rfl rfl (Nat.le_of_ble_eq_true rfl) (up (up (up q8.2 0 15 (q8.2 4 ((((5 : Int32) * (q8.2 0 5)) + 1).toNatClampNeg))) 0 16 ((up q8.2 0 15 (q8.2 4 ((((5 : Int32) * (q8.2 0 5)) + 1).toNatClampNeg))) 0 16)) 0 5 (((up (up q8.2 0 15 (q8.2 4 ((((5 : Int32) * (q8.2 0 5)) + 1).toNatClampNeg))) 0 16 ((up q8.2 0 15 (q8.2 4 ((((5 : Int32) * (q8.2 0 5)) + 1).toNatClampNeg))) 0 16)) 0 5) + 1)) (pM0_5 g _ _) dX6_readsLine_121 ?_
                refine xv_iconst C 1 dX6_readsLine_124 (by decide) ?_
                exact xz_zw hret hf (by decide) dX6_readsLine_125
              · refine xv_aload_n C dX6_readsLine_98 rfl 1 rfl ?_
                refine xv_get C hiX6 0 (wM0 g _) rfl 16 (by decide) (List.mem_of_getElem? (i := 1) rfl) rfl dX6_readsLine_99 ?_
                refine xv_iconst C 1 dX6_readsLine_102 (by decide) ?_
                refine xv_iadd C dX6_readsLine_103 ?_
                refine xv_goto C 111 dX6_readsLine_104 (by decide) ?_
                refine xv_put C hiX6 tyX6 tyX6_ok nmX6 0 (wM0 g _) rfl 16 (by decide) (List.mem_of_getElem? (i := 1) rfl) rfl (tyX6_ok 16 (by decide)) rfl rfl (Nat.le_of_ble_eq_true rfl) (up (up q8.2 0 15 (q8.2 4 ((((5 : Int32) * (q8.2 0 5)) + 1).toNatClampNeg))) 0 16 (((up q8.2 0 15 (q8.2 4 ((((5 : Int32) * (q8.2 0 5)) + 1).toNatClampNeg))) 0 16) + 1)) (pM0_16 g _ _) dX6_readsLine_111 ?_
                refine xv_aload_n C dX6_readsLine_114 rfl 1 rfl ?_
                refine xv_dup C dX6_readsLine_115 rfl ?_
                refine xv_get C hiX6 0 (wM0 g _) rfl 5 (by decide) (List.mem_of_getElem? (i := 3) rfl) rfl dX6_readsLine_116 ?_
                refine xv_iconst C 1 dX6_readsLine_119 (by decide) ?_
                refine xv_iadd C dX6_readsLine_120 ?_
                refine xv_put C hiX6 tyX6 tyX6_ok nmX6 0 (wM0 g _) rfl 5 (by decide) (List.mem_of_getElem? (i := 3) rfl) rfl (tyX6_ok 5 (by decide)) rfl rfl (Nat.le_of_ble_eq_true rfl) (up (up (up q8.2 0 15 (q8.2 4 ((((5 : Int32) * (q8.2 0 5)) + 1).toNatClampNeg))) 0 16 (((up q8.2 0 15 (q8.2 4 ((((5 : Int32) * (q8.2 0 5)) + 1).toNatClampNeg))) 0 16) + 1)) 0 5 (((up (up q8.2 0 15 (q8.2 4 ((((5 : Int32) * (q8.2 0 5)) + 1).toNatClampNeg))) 0 16 (((up q8.2 0 15 (q8.2 4 ((((5 : Int32) * (q8.2 0 5)) + 1).toNatClampNeg))) 0 16) + 1)) 0 5) + 1)) (pM0_5 g _ _) dX6_readsLine_121 ?_
                refine xv_iconst C 1 dX6_readsLine_124 (by decide) ?_
                exact xz_zw hret hf (by decide) dX6_readsLine_125
          · refine xv_aload_n C dX6_readsLine_75 rfl 1 rfl ?_
            refine xv_get C hiX6 0 (wM0 g _) rfl 15 (by decide) (List.mem_of_getElem? (i := 4) rfl) rfl dX6_readsLine_76 ?_
            refine xv_put C hiX6 tyX6 tyX6_ok nmX6 0 (wM0 g _) rfl 15 (by decide) (List.mem_of_getElem? (i := 4) rfl) rfl (tyX6_ok 15 (by decide)) rfl rfl (Nat.le_of_ble_eq_true rfl) (up q8.2 0 15 (q8.2 0 15)) (pM0_15 g _ _) dX6_readsLine_79 ?_
            refine xv_aload_n C dX6_readsLine_82 rfl 1 rfl ?_
            refine xv_iload_n C dX6_readsLine_83 rfl 0 rfl ?_
            refine xv_if_ne C (y := 0) 91 hf dX6_readsLine_84 (by decide) (fun _ hf => ?_) (fun _ hf => ?_)
            · refine xv_iconst C 0 dX6_readsLine_87 (by decide) ?_
              refine xv_goto C 111 dX6_readsLine_88 (by decide) ?_
              refine xv_put C hiX6 tyX6 tyX6_ok nmX6 0 (wM0 g _) rfl 16 (by decide) (List.mem_of_getElem? (i := 1) rfl) rfl (tyX6_ok 16 (by decide)) rfl rfl (Nat.le_of_ble_eq_true rfl) (up (up q8.2 0 15 (q8.2 0 15)) 0 16 0) (pM0_16 g _ _) dX6_readsLine_111 ?_
              refine xv_aload_n C dX6_readsLine_114 rfl 1 rfl ?_
              refine xv_dup C dX6_readsLine_115 rfl ?_
              refine xv_get C hiX6 0 (wM0 g _) rfl 5 (by decide) (List.mem_of_getElem? (i := 3) rfl) rfl dX6_readsLine_116 ?_
              refine xv_iconst C 1 dX6_readsLine_119 (by decide) ?_
              refine xv_iadd C dX6_readsLine_120 ?_
              refine xv_put C hiX6 tyX6 tyX6_ok nmX6 0 (wM0 g _) rfl 5 (by decide) (List.mem_of_getElem? (i := 3) rfl) rfl (tyX6_ok 5 (by decide)) rfl rfl (Nat.le_of_ble_eq_true rfl) (up (up (up q8.2 0 15 (q8.2 0 15)) 0 16 0) 0 5 (((up (up q8.2 0 15 (q8.2 0 15)) 0 16 0) 0 5) + 1)) (pM0_5 g _ _) dX6_readsLine_121 ?_
              refine xv_iconst C 1 dX6_readsLine_124 (by decide) ?_
              exact xz_zw hret hf (by decide) dX6_readsLine_125
            · refine xv_iload_n C dX6_readsLine_91 rfl 0 rfl ?_
              obtain ⟨q9, hg, hf⟩ := dt_bind hf
              refine xc_i (xr_S C (As := [.int q1]) (fun l => c_X6_isDeedLine (sM g) hS l q1 (up q8.2 0 15 (q8.2 0 15)) q9 hg) gX6_readsLine_X6_isDeedLine rfl ⟨rfl, rfl⟩ hdS_X6_isDeedLine ⟨Nat.le_of_ble_eq_true rfl, Nat.le_of_ble_eq_true rfl⟩ rfl rfl (Nat.le_of_ble_eq_true rfl) dX6_readsLine_92) ?_
              refine xv_if_eq C (y := 0) 107 hf dX6_readsLine_95 (by decide) (fun _ hf => ?_) (fun _ hf => ?_)
              · refine xv_aload_n C dX6_readsLine_107 rfl 1 rfl ?_
                refine xv_get C hiX6 0 (wM0 g _) rfl 16 (by decide) (List.mem_of_getElem? (i := 1) rfl) rfl dX6_readsLine_108 ?_
                refine xv_put C hiX6 tyX6 tyX6_ok nmX6 0 (wM0 g _) rfl 16 (by decide) (List.mem_of_getElem? (i := 1) rfl) rfl (tyX6_ok 16 (by decide)) rfl rfl (Nat.le_of_ble_eq_true rfl) (up (up q8.2 0 15 (q8.2 0 15)) 0 16 ((up q8.2 0 15 (q8.2 0 15)) 0 16)) (pM0_16 g _ _) dX6_readsLine_111 ?_
                refine xv_aload_n C dX6_readsLine_114 rfl 1 rfl ?_
                refine xv_dup C dX6_readsLine_115 rfl ?_
                refine xv_get C hiX6 0 (wM0 g _) rfl 5 (by decide) (List.mem_of_getElem? (i := 3) rfl) rfl dX6_readsLine_116 ?_
                refine xv_iconst C 1 dX6_readsLine_119 (by decide) ?_
                refine xv_iadd C dX6_readsLine_120 ?_
                refine xv_put C hiX6 tyX6 tyX6_ok nmX6 0 (wM0 g _) rfl 5 (by decide) (List.mem_of_getElem? (i := 3) rfl) rfl (tyX6_ok 5 (by decide)) rfl rfl (Nat.le_of_ble_eq_true rfl) (up (up (up q8.2 0 15 (q8.2 0 15)) 0 16 ((up q8.2 0 15 (q8.2 0 15)) 0 16)) 0 5 (((up (up q8.2 0 15 (q8.2 0 15)) 0 16 ((up q8.2 0 15 (q8.2 0 15)) 0 16)) 0 5) + 1)) (pM0_5 g _ _) dX6_readsLine_121 ?_
                refine xv_iconst C 1 dX6_readsLine_124 (by decide) ?_
                exact xz_zw hret hf (by decide) dX6_readsLine_125
              · refine xv_aload_n C dX6_readsLine_98 rfl 1 rfl ?_
                refine xv_get C hiX6 0 (wM0 g _) rfl 16 (by decide) (List.mem_of_getElem? (i := 1) rfl) rfl dX6_readsLine_99 ?_
                refine xv_iconst C 1 dX6_readsLine_102 (by decide) ?_
                refine xv_iadd C dX6_readsLine_103 ?_
                refine xv_goto C 111 dX6_readsLine_104 (by decide) ?_
                refine xv_put C hiX6 tyX6 tyX6_ok nmX6 0 (wM0 g _) rfl 16 (by decide) (List.mem_of_getElem? (i := 1) rfl) rfl (tyX6_ok 16 (by decide)) rfl rfl (Nat.le_of_ble_eq_true rfl) (up (up q8.2 0 15 (q8.2 0 15)) 0 16 (((up q8.2 0 15 (q8.2 0 15)) 0 16) + 1)) (pM0_16 g _ _) dX6_readsLine_111 ?_
                refine xv_aload_n C dX6_readsLine_114 rfl 1 rfl ?_
                refine xv_dup C dX6_readsLine_115 rfl ?_
                refine xv_get C hiX6 0 (wM0 g _) rfl 5 (by decide) (List.mem_of_getElem? (i := 3) rfl) rfl dX6_readsLine_116 ?_
                refine xv_iconst C 1 dX6_readsLine_119 (by decide) ?_
                refine xv_iadd C dX6_readsLine_120 ?_
                refine xv_put C hiX6 tyX6 tyX6_ok nmX6 0 (wM0 g _) rfl 5 (by decide) (List.mem_of_getElem? (i := 3) rfl) rfl (tyX6_ok 5 (by decide)) rfl rfl (Nat.le_of_ble_eq_true rfl) (up (up (up q8.2 0 15 (q8.2 0 15)) 0 16 (((up q8.2 0 15 (q8.2 0 15)) 0 16) + 1)) 0 5 (((up (up q8.2 0 15 (q8.2 0 15)) 0 16 (((up q8.2 0 15 (q8.2 0 15)) 0 16) + 1)) 0 5) + 1)) (pM0_5 g _ _) dX6_readsLine_121 ?_
                refine xv_iconst C 1 dX6_readsLine_124 (by decide) ?_
                exact xz_zw hret hf (by decide) dX6_readsLine_125
set_option maxRecDepth 100000 in
set_option maxHeartbeats 4000000 in
theorem c_X6_fault (g : GM) (hS : xSide (sM g)) (l : Launch) (n : Nat) (a : St) (q : (Int32 × St)) (hf : f_X6_fault n a = some q) : Met l yX6_fault wsX6_fault rm_X6_fault (xPre (sM g) [.ref (aM g 0)] a) (xPostI (sM g) q.1 q.2) 0 0 (sM g).2.2.1 := by
  refine xm_i (av := [.ref (aM g 0)]) (cc := cX6_fault) (maxL := 2) (by decide) rfl (Nat.le_of_ble_eq_true rfl) hS.1 hS.2 (fun K C hret => ?_)
  have C : CC K (sM g) cX6_fault 2 wsX6_fault RX6 rm_X6_fault := C
  have hiX6 : ∀ w ∈ u_ws RX6 TX6 26, w ∈ wsX6_fault := fun w h => List.mem_cons_of_mem _ (List.mem_append_right _ h)
  have hL42 : ∀  (j : Nat) (a : St), L_X6_fault_42 n j a = some q → V K (sM g) 2 a [(0, .ref (aM g 0))] 42 [] := by
    intro j
    induction j with
    | zero =>
      intro a hf
      have hf : (none : Option (Int32 × St)) = some q := hf
      cases hf
    | succ j ih =>
      intro a hf
      rw [L_X6_fault_42] at hf
      refine xv_aload_n C dX6_fault_42 rfl 0 rfl ?_
      refine xv_get C hiX6 0 (wM0 g _) rfl 13 (by decide) (List.mem_of_getElem? (i := 7) rfl) rfl dX6_fault_43 ?_
      refine xv_aload_n C dX6_fault_46 rfl 0 rfl ?_
      refine xv_get C hiX6 0 (wM0 g _) rfl 3 (by decide) (List.mem_of_getElem? (i := 8) rfl) rfl dX6_fault_47 ?_
      refine xv_icmp_ge C 120 hf dX6_fault_50 (by decide) (fun _ hf => ?_) (fun _ hf => ?_)
      · refine xv_iconst C (-1) dX6_fault_120 (by decide) ?_
        exact xz_iw hret hf dX6_fault_121
      · refine xv_aload_n C dX6_fault_53 rfl 0 rfl ?_
        refine xv_get C hiX6 0 (wM0 g _) rfl 14 (by decide) (List.mem_of_getElem? (i := 9) rfl) rfl dX6_fault_54 ?_
        refine xv_aload_n C dX6_fault_57 rfl 0 rfl ?_
        refine xv_get C hiX6 0 (wM0 g _) rfl 13 (by decide) (List.mem_of_getElem? (i := 7) rfl) rfl dX6_fault_58 ?_
        refine xv_isub C dX6_fault_61 ?_
        refine xv_iconst C 1 dX6_fault_62 (by decide) ?_
        refine xv_icmp_ne C 93 hf dX6_fault_63 (by decide) (fun _ hf => ?_) (fun _ hf => ?_)
        · refine xv_aload_n C dX6_fault_66 rfl 0 rfl ?_
          refine xv_get C hiX6 0 (wM0 g _) rfl 2 (by decide) (List.mem_of_getElem? (i := 10) rfl) rfl dX6_fault_67 ?_
          refine xv_aload_n C dX6_fault_70 rfl 0 rfl ?_
          refine xv_get C hiX6 0 (wM0 g _) rfl 13 (by decide) (List.mem_of_getElem? (i := 7) rfl) rfl dX6_fault_71 ?_
          refine xv_iald C 3 0 (wM3 g _) rfl hf dX6_fault_74 (fun hf => ?_)
          refine xv_bipush C 59 dX6_fault_75 (by decide) ?_
          refine xv_icmp_ne C 93 hf dX6_fault_77 (by decide) (fun _ hf => ?_) (fun _ hf => ?_)
          · refine xv_aload_n C dX6_fault_80 rfl 0 rfl ?_
            refine xv_get C hiX6 0 (wM0 g _) rfl 5 (by decide) (List.mem_of_getElem? (i := 2) rfl) rfl dX6_fault_81 ?_
            refine xv_bipush C 10 dX6_fault_84 (by decide) ?_
            refine xv_icmp_ge C 93 hf dX6_fault_86 (by decide) (fun _ hf => ?_) (fun _ hf => ?_)
            · refine xv_iconst C 0 dX6_fault_93 (by decide) ?_
              refine xv_istore_n C [(1, .int 0), (0, .ref (aM g 0))] dX6_fault_94 rfl (by decide) rfl ?_
              refine xv_iload_n C dX6_fault_95 rfl 0 rfl ?_
              refine xv_if_eq C (y := 0) (A := some ()) (B := (none : Option Unit)) (v := ()) 108 (by decide) dX6_fault_96 (by decide) (fun _ _ => ?_) (fun _ hf => by cases hf)
              refine xv_iload_n C dX6_fault_108 rfl 0 rfl ?_
              refine xv_if_ne C (y := 0) (A := some ()) (B := (none : Option Unit)) (v := ()) 117 (by decide) dX6_fault_109 (by decide) (fun _ _ => ?_) (fun _ hf => by cases hf)
              refine xv_aload_n C dX6_fault_112 rfl 1 rfl ?_
              refine xv_get C hiX6 0 (wM0 g _) rfl 13 (by decide) (List.mem_of_getElem? (i := 7) rfl) rfl dX6_fault_113 ?_
              exact xz_iw hret hf dX6_fault_116
            · refine xv_iconst C 1 dX6_fault_89 (by decide) ?_
              refine xv_goto C 94 dX6_fault_90 (by decide) ?_
              refine xv_istore_n C [(1, .int 1), (0, .ref (aM g 0))] dX6_fault_94 rfl (by decide) rfl ?_
              refine xv_iload_n C dX6_fault_95 rfl 0 rfl ?_
              refine xv_if_eq C (y := 0) (A := (none : Option Unit)) (B := some ()) (v := ()) 108 (by decide) dX6_fault_96 (by decide) (fun _ hf => by cases hf) (fun _ _ => ?_)
              refine xv_aload_n C dX6_fault_99 rfl 1 rfl ?_
              obtain ⟨q3, hg, hf⟩ := dt_bind hf
              refine xc_v (xr_V C (ci := 6) (As := []) (fun l => c_X6_token g hS l n a q3 hg) gX6_fault_X6_token rfl ⟨rfl, rfl⟩ hdV_X6_token ⟨Nat.le_of_ble_eq_true rfl, Nat.le_of_ble_eq_true rfl⟩ 0 rfl rfl (wM0 g _) rfl rfl (Nat.le_of_ble_eq_true rfl) dX6_fault_100) ?_
              refine xv_aload_n C dX6_fault_103 rfl 1 rfl ?_
              obtain ⟨q4, hg, hf⟩ := dt_bind hf
              refine xc_i (xr_V C (ci := 6) (As := []) (fun l => c_X6_readsLine g hS l n q3 q4 hg) gX6_fault_X6_readsLine rfl ⟨rfl, rfl⟩ hdV_X6_readsLine ⟨Nat.le_of_ble_eq_true rfl, Nat.le_of_ble_eq_true rfl⟩ 0 rfl rfl (wM0 g _) rfl rfl (Nat.le_of_ble_eq_true rfl) dX6_fault_104) ?_
              refine xv_istore_n C [(1, .int q4.1), (0, .ref (aM g 0))] dX6_fault_107 rfl (by decide) rfl ?_
              refine xv_iload_n C dX6_fault_108 rfl 0 rfl ?_
              refine xv_if_ne C (y := 0) 117 hf dX6_fault_109 (by decide) (fun _ hf => ?_) (fun _ hf => ?_)
              · refine xv_aload_n C dX6_fault_112 rfl 1 rfl ?_
                refine xv_get C hiX6 0 (wM0 g _) rfl 13 (by decide) (List.mem_of_getElem? (i := 7) rfl) rfl dX6_fault_113 ?_
                exact xz_iw hret hf dX6_fault_116
              · refine xv_goto C 42 dX6_fault_117 (by decide) ?_
                refine xv_eq [1] rfl ?_
                exact ih q4.2 hf
          · refine xv_iconst C 0 dX6_fault_93 (by decide) ?_
            refine xv_istore_n C [(1, .int 0), (0, .ref (aM g 0))] dX6_fault_94 rfl (by decide) rfl ?_
            refine xv_iload_n C dX6_fault_95 rfl 0 rfl ?_
            refine xv_if_eq C (y := 0) (A := some ()) (B := (none : Option Unit)) (v := ()) 108 (by decide) dX6_fault_96 (by decide) (fun _ _ => ?_) (fun _ hf => by cases hf)
            refine xv_iload_n C dX6_fault_108 rfl 0 rfl ?_
            refine xv_if_ne C (y := 0) (A := some ()) (B := (none : Option Unit)) (v := ()) 117 (by decide) dX6_fault_109 (by decide) (fun _ _ => ?_) (fun _ hf => by cases hf)
            refine xv_aload_n C dX6_fault_112 rfl 1 rfl ?_
            refine xv_get C hiX6 0 (wM0 g _) rfl 13 (by decide) (List.mem_of_getElem? (i := 7) rfl) rfl dX6_fault_113 ?_
            exact xz_iw hret hf dX6_fault_116
        · refine xv_iconst C 0 dX6_fault_93 (by decide) ?_
          refine xv_istore_n C [(1, .int 0), (0, .ref (aM g 0))] dX6_fault_94 rfl (by decide) rfl ?_
          refine xv_iload_n C dX6_fault_95 rfl 0 rfl ?_
          refine xv_if_eq C (y := 0) (A := some ()) (B := (none : Option Unit)) (v := ()) 108 (by decide) dX6_fault_96 (by decide) (fun _ _ => ?_) (fun _ hf => by cases hf)
          refine xv_iload_n C dX6_fault_108 rfl 0 rfl ?_
          refine xv_if_ne C (y := 0) (A := some ()) (B := (none : Option Unit)) (v := ()) 117 (by decide) dX6_fault_109 (by decide) (fun _ _ => ?_) (fun _ hf => by cases hf)
          refine xv_aload_n C dX6_fault_112 rfl 1 rfl ?_
          refine xv_get C hiX6 0 (wM0 g _) rfl 13 (by decide) (List.mem_of_getElem? (i := 7) rfl) rfl dX6_fault_113 ?_
          exact xz_iw hret hf dX6_fault_116
  rw [f_X6_fault] at hf
  show V K (sM g) 2 a [(0, .ref (aM g 0))] 0 []
  refine xv_aload_n C dX6_fault_0 rfl 0 rfl ?_
  refine xv_iconst C 0 dX6_fault_1 (by decide) ?_
  refine xv_put C hiX6 tyX6 tyX6_ok nmX6 0 (wM0 g _) rfl 12 (by decide) (List.mem_of_getElem? (i := 1) rfl) rfl (tyX6_ok 12 (by decide)) rfl rfl (Nat.le_of_ble_eq_true rfl) (up a 0 12 0) (pM0_12 g _ _) dX6_fault_2 ?_
  refine xv_aload_n C dX6_fault_5 rfl 0 rfl ?_
  refine xv_iconst C 0 dX6_fault_6 (by decide) ?_
  refine xv_put C hiX6 tyX6 tyX6_ok nmX6 0 (wM0 g _) rfl 5 (by decide) (List.mem_of_getElem? (i := 2) rfl) rfl (tyX6_ok 5 (by decide)) rfl rfl (Nat.le_of_ble_eq_true rfl) (up (up a 0 12 0) 0 5 0) (pM0_5 g _ _) dX6_fault_7 ?_
  refine xv_aload_n C dX6_fault_10 rfl 0 rfl ?_
  refine xv_aload_n C dX6_fault_11 rfl 0 rfl ?_
  refine xv_get C hiX6 0 (wM0 g _) rfl 6 (by decide) (List.mem_of_getElem? (i := 3) rfl) rfl dX6_fault_12 ?_
  refine xv_put C hiX6 tyX6 tyX6_ok nmX6 0 (wM0 g _) rfl 15 (by decide) (List.mem_of_getElem? (i := 4) rfl) rfl (tyX6_ok 15 (by decide)) rfl rfl (Nat.le_of_ble_eq_true rfl) (up (up (up a 0 12 0) 0 5 0) 0 15 ((up (up a 0 12 0) 0 5 0) 0 6)) (pM0_15 g _ _) dX6_fault_15 ?_
  refine xv_aload_n C dX6_fault_18 rfl 0 rfl ?_
  refine xv_aload_n C dX6_fault_19 rfl 0 rfl ?_
  refine xv_get C hiX6 0 (wM0 g _) rfl 11 (by decide) (List.mem_of_getElem? (i := 5) rfl) rfl dX6_fault_20 ?_
  refine xv_put C hiX6 tyX6 tyX6_ok nmX6 0 (wM0 g _) rfl 16 (by decide) (List.mem_of_getElem? (i := 6) rfl) rfl (tyX6_ok 16 (by decide)) rfl rfl (Nat.le_of_ble_eq_true rfl) (up (up (up (up a 0 12 0) 0 5 0) 0 15 ((up (up a 0 12 0) 0 5 0) 0 6)) 0 16 ((up (up (up a 0 12 0) 0 5 0) 0 15 ((up (up a 0 12 0) 0 5 0) 0 6)) 0 11)) (pM0_16 g _ _) dX6_fault_23 ?_
  refine xv_aload_n C dX6_fault_26 rfl 0 rfl ?_
  obtain ⟨q1, hg, hf⟩ := dt_bind hf
  refine xc_v (xr_V C (ci := 6) (As := []) (fun l => c_X6_token g hS l n (up (up (up (up a 0 12 0) 0 5 0) 0 15 ((up (up a 0 12 0) 0 5 0) 0 6)) 0 16 ((up (up (up a 0 12 0) 0 5 0) 0 15 ((up (up a 0 12 0) 0 5 0) 0 6)) 0 11)) q1 hg) gX6_fault_X6_token rfl ⟨rfl, rfl⟩ hdV_X6_token ⟨Nat.le_of_ble_eq_true rfl, Nat.le_of_ble_eq_true rfl⟩ 0 rfl rfl (wM0 g _) rfl rfl (Nat.le_of_ble_eq_true rfl) dX6_fault_27) ?_
  refine xv_aload_n C dX6_fault_30 rfl 0 rfl ?_
  obtain ⟨q2, hg, hf⟩ := dt_bind hf
  refine xc_i (xr_V C (ci := 6) (As := []) (fun l => c_X6_readsLine g hS l n q1 q2 hg) gX6_fault_X6_readsLine rfl ⟨rfl, rfl⟩ hdV_X6_readsLine ⟨Nat.le_of_ble_eq_true rfl, Nat.le_of_ble_eq_true rfl⟩ 0 rfl rfl (wM0 g _) rfl rfl (Nat.le_of_ble_eq_true rfl) dX6_fault_31) ?_
  refine xv_if_ne C (y := 0) 42 hf dX6_fault_34 (by decide) (fun _ hf => ?_) (fun _ hf => ?_)
  · refine xv_aload_n C dX6_fault_37 rfl 0 rfl ?_
    refine xv_get C hiX6 0 (wM0 g _) rfl 13 (by decide) (List.mem_of_getElem? (i := 7) rfl) rfl dX6_fault_38 ?_
    exact xz_iw hret hf dX6_fault_41
  · exact hL42 n q2.2 hf
set_option maxRecDepth 100000 in
set_option maxHeartbeats 4000000 in
theorem c_X6_clear (g : GM) (hS : xSide (sM g)) (l : Launch) (n : Nat) (x1 : Int32) (a : St) (q : St) (hf : f_X6_clear n x1 a = some q) : Met l yX6_clear wsX6_clear rm_X6_clear (xPre (sM g) [.ref (aM g 0), .int x1] a) (xPostV (sM g) q) 0 0 (sM g).2.2.1 := by
  refine xm_v (av := [.ref (aM g 0), .int x1]) (cc := cX6_clear) (maxL := 3) (by decide) rfl (Nat.le_of_ble_eq_true rfl) hS.1 hS.2 (fun K C hret => ?_)
  have C : CC K (sM g) cX6_clear 3 wsX6_clear RX6 rm_X6_clear := C
  have hiX6 : ∀ w ∈ u_ws RX6 TX6 26, w ∈ wsX6_clear := fun w h => List.mem_cons_of_mem _ (List.mem_append_right _ h)
  have hL47 : ∀  (j : Nat) (x2 : Int32) (a : St), L_X6_clear_47 n j x2 a = some q → V K (sM g) 3 a [(0, .ref (aM g 0)), (2, .int x2)] 47 [] := by
    intro j
    induction j with
    | zero =>
      intro x2 a hf
      have hf : (none : Option St) = some q := hf
      cases hf
    | succ j ih =>
      intro x2 a hf
      rw [L_X6_clear_47] at hf
      refine xv_iload_n C dX6_clear_47 rfl 1 rfl ?_
      refine xv_bipush C 64 dX6_clear_48 (by decide) ?_
      refine xv_icmp_ge C 66 hf dX6_clear_50 (by decide) (fun _ hf => ?_) (fun _ hf => ?_)
      · exact xz_v hret hf dX6_clear_66
      · refine xv_aload_n C dX6_clear_53 rfl 0 rfl ?_
        refine xv_get C hiX6 0 (wM0 g _) rfl 9 (by decide) (List.mem_of_getElem? (i := 6) rfl) rfl dX6_clear_54 ?_
        refine xv_iload_n C dX6_clear_57 rfl 1 rfl ?_
        refine xv_iconst C 0 dX6_clear_58 (by decide) ?_
        refine xv_iast C 7 0 (wM7 g _) rfl (up a 7 x2.toNatClampNeg 0) (pM7 g _ _ _) hf dX6_clear_59 (fun hf => ?_)
        refine xv_iinc C [(2, .int (x2 + 1)), (0, .ref (aM g 0))] dX6_clear_60 1 rfl rfl (by decide) rfl ?_
        refine xv_goto C 47 dX6_clear_63 (by decide) ?_
        refine xv_eq [1, 0] rfl ?_
        exact ih (x2 + 1) (up a 7 x2.toNatClampNeg 0) hf
  have hB45 : ∀  (a : St), B_X6_clear_45 n a = some q → V K (sM g) 3 a [(0, .ref (aM g 0))] 45 [] := by
    intro a hf
    rw [B_X6_clear_45] at hf
    refine xv_iconst C 0 dX6_clear_45 (by decide) ?_
    refine xv_istore_n C [(2, .int 0), (0, .ref (aM g 0))] dX6_clear_46 rfl (by decide) rfl ?_
    refine xv_eq [1, 0] rfl ?_
    exact hL47 n 0 a hf
  have hL12 : ∀  (j : Nat) (x2 : Int32) (a : St), L_X6_clear_12 n j x2 a = some q → V K (sM g) 3 a [(0, .ref (aM g 0)), (2, .int x2)] 12 [] := by
    intro j
    induction j with
    | zero =>
      intro x2 a hf
      have hf : (none : Option St) = some q := hf
      cases hf
    | succ j ih =>
      intro x2 a hf
      rw [L_X6_clear_12] at hf
      refine xv_iload_n C dX6_clear_12 rfl 1 rfl ?_
      refine xv_bipush C 8 dX6_clear_13 (by decide) ?_
      refine xv_icmp_ge C 45 hf dX6_clear_15 (by decide) (fun _ hf => ?_) (fun _ hf => ?_)
      · refine xv_eq [0] rfl ?_
        exact hB45 a hf
      · refine xv_aload_n C dX6_clear_18 rfl 0 rfl ?_
        refine xv_get C hiX6 0 (wM0 g _) rfl 7 (by decide) (List.mem_of_getElem? (i := 3) rfl) rfl dX6_clear_19 ?_
        refine xv_iload_n C dX6_clear_22 rfl 1 rfl ?_
        refine xv_iconst C (-1) dX6_clear_23 (by decide) ?_
        refine xv_iast C 5 0 (wM5 g _) rfl (up a 5 x2.toNatClampNeg (-1)) (pM5 g _ _ _) hf dX6_clear_24 (fun hf => ?_)
        refine xv_aload_n C dX6_clear_25 rfl 0 rfl ?_
        refine xv_get C hiX6 0 (wM0 g _) rfl 8 (by decide) (List.mem_of_getElem? (i := 4) rfl) rfl dX6_clear_26 ?_
        refine xv_iload_n C dX6_clear_29 rfl 1 rfl ?_
        refine xv_iconst C 0 dX6_clear_30 (by decide) ?_
        refine xv_iast C 6 0 (wM6 g _) rfl (up (up a 5 x2.toNatClampNeg (-1)) 6 x2.toNatClampNeg 0) (pM6 g _ _ _) hf dX6_clear_31 (fun hf => ?_)
        refine xv_aload_n C dX6_clear_32 rfl 0 rfl ?_
        refine xv_get C hiX6 0 (wM0 g _) rfl 0 (by decide) (List.mem_of_getElem? (i := 5) rfl) rfl dX6_clear_33 ?_
        refine xv_iload_n C dX6_clear_36 rfl 1 rfl ?_
        refine xv_iconst C (-1) dX6_clear_37 (by decide) ?_
        refine xv_iast C 1 0 (wM1 g _) rfl (up (up (up a 5 x2.toNatClampNeg (-1)) 6 x2.toNatClampNeg 0) 1 x2.toNatClampNeg (-1)) (pM1 g _ _ _) hf dX6_clear_38 (fun hf => ?_)
        refine xv_iinc C [(2, .int (x2 + 1)), (0, .ref (aM g 0))] dX6_clear_39 1 rfl rfl (by decide) rfl ?_
        refine xv_goto C 12 dX6_clear_42 (by decide) ?_
        refine xv_eq [1, 0] rfl ?_
        exact ih (x2 + 1) (up (up (up a 5 x2.toNatClampNeg (-1)) 6 x2.toNatClampNeg 0) 1 x2.toNatClampNeg (-1)) hf
  rw [f_X6_clear] at hf
  show V K (sM g) 3 a [(0, .ref (aM g 0)), (1, .int x1)] 0 []
  refine xv_aload_n C dX6_clear_0 rfl 0 rfl ?_
  refine xv_iload_n C dX6_clear_1 rfl 1 rfl ?_
  refine xv_put C hiX6 tyX6 tyX6_ok nmX6 0 (wM0 g _) rfl 6 (by decide) (List.mem_of_getElem? (i := 1) rfl) rfl (tyX6_ok 6 (by decide)) rfl rfl (Nat.le_of_ble_eq_true rfl) (up a 0 6 x1) (pM0_6 g _ _) dX6_clear_2 ?_
  refine xv_aload_n C dX6_clear_5 rfl 0 rfl ?_
  refine xv_iconst C 0 dX6_clear_6 (by decide) ?_
  refine xv_put C hiX6 tyX6 tyX6_ok nmX6 0 (wM0 g _) rfl 11 (by decide) (List.mem_of_getElem? (i := 2) rfl) rfl (tyX6_ok 11 (by decide)) rfl rfl (Nat.le_of_ble_eq_true rfl) (up (up a 0 6 x1) 0 11 0) (pM0_11 g _ _) dX6_clear_7 ?_
  refine xv_iconst C 0 dX6_clear_10 (by decide) ?_
  refine xv_istore_n C [(2, .int 0), (0, .ref (aM g 0)), (1, .int x1)] dX6_clear_11 rfl (by decide) rfl ?_
  refine xv_eq [1, 0] rfl ?_
  exact hL12 n 0 (up (up a 0 6 x1) 0 11 0) hf
set_option maxRecDepth 100000 in
set_option maxHeartbeats 4000000 in
theorem c_X6_tellDeed (g : GM) (hS : xSide (sM g)) (l : Launch) (n : Nat) (x1 : Int32) (a : St) (q : St) (hf : f_X6_tellDeed n x1 a = some q) : Met l yX6_tellDeed wsX6_tellDeed rm_X6_tellDeed (xPre (sM g) [.ref (aM g 0), .int x1] a) (xPostV (sM g) q) 0 0 (sM g).2.2.1 := by
  refine xm_v (av := [.ref (aM g 0), .int x1]) (cc := cX6_tellDeed) (maxL := 3) (by decide) rfl (Nat.le_of_ble_eq_true rfl) hS.1 hS.2 (fun K C hret => ?_)
  have C : CC K (sM g) cX6_tellDeed 3 wsX6_tellDeed RX6 rm_X6_tellDeed := C
  have hiX6 : ∀ w ∈ u_ws RX6 TX6 26, w ∈ wsX6_tellDeed := fun w h => List.mem_cons_of_mem _ (List.mem_append_right _ h)
  have hB61 : ∀  (a : St), B_X6_tellDeed_61 n a = some q → V K (sM g) 3 a [(0, .ref (aM g 0))] 61 [] := by
    intro a hf
    rw [B_X6_tellDeed_61] at hf
    refine xv_aload_n C dX6_tellDeed_61 rfl 0 rfl ?_
    refine xv_get C hiX6 0 (wM0 g _) rfl 10 (by decide) (List.mem_of_getElem? (i := 1) rfl) rfl dX6_tellDeed_62 ?_
    refine xv_bipush C 6 dX6_tellDeed_65 (by decide) ?_
    refine xv_aload_n C dX6_tellDeed_67 rfl 0 rfl ?_
    refine xv_get C hiX6 0 (wM0 g _) rfl 11 (by decide) (List.mem_of_getElem? (i := 2) rfl) rfl dX6_tellDeed_68 ?_
    refine xv_imul C dX6_tellDeed_71 ?_
    refine xv_iconst C 5 dX6_tellDeed_72 (by decide) ?_
    refine xv_iadd C dX6_tellDeed_73 ?_
    refine xv_iconst C 0 dX6_tellDeed_74 (by decide) ?_
    refine xv_iast C 8 0 (wM8 g _) rfl (up a 8 ((((6 : Int32) * (a 0 11)) + 5).toNatClampNeg) 0) (pM8 g _ _ _) hf dX6_tellDeed_75 (fun hf => ?_)
    refine xv_aload_n C dX6_tellDeed_76 rfl 0 rfl ?_
    refine xv_dup C dX6_tellDeed_77 rfl ?_
    refine xv_get C hiX6 0 (wM0 g _) rfl 11 (by decide) (List.mem_of_getElem? (i := 2) rfl) rfl dX6_tellDeed_78 ?_
    refine xv_iconst C 1 dX6_tellDeed_81 (by decide) ?_
    refine xv_iadd C dX6_tellDeed_82 ?_
    refine xv_put C hiX6 tyX6 tyX6_ok nmX6 0 (wM0 g _) rfl 11 (by decide) (List.mem_of_getElem? (i := 2) rfl) rfl (tyX6_ok 11 (by decide)) rfl rfl (Nat.le_of_ble_eq_true rfl) (up (up a 8 ((((6 : Int32) * (a 0 11)) + 5).toNatClampNeg) 0) 0 11 (((up a 8 ((((6 : Int32) * (a 0 11)) + 5).toNatClampNeg) 0) 0 11) + 1)) (pM0_11 g _ _) dX6_tellDeed_83 ?_
    exact xz_v hret hf dX6_tellDeed_86
  have hL24 : ∀ (x1 : Int32)  (j : Nat) (x2 : Int32) (a : St), L_X6_tellDeed_24 n x1 j x2 a = some q → V K (sM g) 3 a [(0, .ref (aM g 0)), (1, .int x1), (2, .int x2)] 24 [] := by
    intro x1 j
    induction j with
    | zero =>
      intro x2 a hf
      have hf : (none : Option St) = some q := hf
      cases hf
    | succ j ih =>
      intro x2 a hf
      rw [L_X6_tellDeed_24] at hf
      refine xv_iload_n C dX6_tellDeed_24 rfl 2 rfl ?_
      refine xv_iconst C 4 dX6_tellDeed_25 (by decide) ?_
      refine xv_icmp_ge C 61 hf dX6_tellDeed_26 (by decide) (fun _ hf => ?_) (fun _ hf => ?_)
      · refine xv_eq [0] rfl ?_
        exact hB61 a hf
      · refine xv_aload_n C dX6_tellDeed_29 rfl 0 rfl ?_
        refine xv_get C hiX6 0 (wM0 g _) rfl 10 (by decide) (List.mem_of_getElem? (i := 1) rfl) rfl dX6_tellDeed_30 ?_
        refine xv_bipush C 6 dX6_tellDeed_33 (by decide) ?_
        refine xv_aload_n C dX6_tellDeed_35 rfl 0 rfl ?_
        refine xv_get C hiX6 0 (wM0 g _) rfl 11 (by decide) (List.mem_of_getElem? (i := 2) rfl) rfl dX6_tellDeed_36 ?_
        refine xv_imul C dX6_tellDeed_39 ?_
        refine xv_iconst C 1 dX6_tellDeed_40 (by decide) ?_
        refine xv_iadd C dX6_tellDeed_41 ?_
        refine xv_iload_n C dX6_tellDeed_42 rfl 2 rfl ?_
        refine xv_iadd C dX6_tellDeed_43 ?_
        refine xv_aload_n C dX6_tellDeed_44 rfl 0 rfl ?_
        refine xv_get C hiX6 0 (wM0 g _) rfl 4 (by decide) (List.mem_of_getElem? (i := 3) rfl) rfl dX6_tellDeed_45 ?_
        refine xv_iload_n C dX6_tellDeed_48 rfl 1 rfl ?_
        refine xv_iconst C 1 dX6_tellDeed_49 (by decide) ?_
        refine xv_iadd C dX6_tellDeed_50 ?_
        refine xv_iload_n C dX6_tellDeed_51 rfl 2 rfl ?_
        refine xv_iadd C dX6_tellDeed_52 ?_
        refine xv_iald C 4 0 (wM4 g _) rfl hf dX6_tellDeed_53 (fun hf => ?_)
        refine xv_iast C 8 0 (wM8 g _) rfl (up a 8 (((((6 : Int32) * (a 0 11)) + 1) + x2).toNatClampNeg) (a 4 (((x1 + 1) + x2).toNatClampNeg))) (pM8 g _ _ _) hf dX6_tellDeed_54 (fun hf => ?_)
        refine xv_iinc C [(2, .int (x2 + 1)), (0, .ref (aM g 0)), (1, .int x1)] dX6_tellDeed_55 2 rfl rfl (by decide) rfl ?_
        refine xv_goto C 24 dX6_tellDeed_58 (by decide) ?_
        refine xv_eq [1, 2, 0] rfl ?_
        exact ih (x2 + 1) (up a 8 (((((6 : Int32) * (a 0 11)) + 1) + x2).toNatClampNeg) (a 4 (((x1 + 1) + x2).toNatClampNeg))) hf
  rw [f_X6_tellDeed] at hf
  show V K (sM g) 3 a [(0, .ref (aM g 0)), (1, .int x1)] 0 []
  refine xv_aload_n C dX6_tellDeed_0 rfl 0 rfl ?_
  refine xv_get C hiX6 0 (wM0 g _) rfl 10 (by decide) (List.mem_of_getElem? (i := 1) rfl) rfl dX6_tellDeed_1 ?_
  refine xv_bipush C 6 dX6_tellDeed_4 (by decide) ?_
  refine xv_aload_n C dX6_tellDeed_6 rfl 0 rfl ?_
  refine xv_get C hiX6 0 (wM0 g _) rfl 11 (by decide) (List.mem_of_getElem? (i := 2) rfl) rfl dX6_tellDeed_7 ?_
  refine xv_imul C dX6_tellDeed_10 ?_
  refine xv_iconst C 0 dX6_tellDeed_11 (by decide) ?_
  refine xv_iadd C dX6_tellDeed_12 ?_
  refine xv_aload_n C dX6_tellDeed_13 rfl 0 rfl ?_
  refine xv_get C hiX6 0 (wM0 g _) rfl 4 (by decide) (List.mem_of_getElem? (i := 3) rfl) rfl dX6_tellDeed_14 ?_
  refine xv_iload_n C dX6_tellDeed_17 rfl 1 rfl ?_
  refine xv_iald C 4 0 (wM4 g _) rfl hf dX6_tellDeed_18 (fun hf => ?_)
  refine xv_iconst C 4 dX6_tellDeed_19 (by decide) ?_
  refine xv_isub C dX6_tellDeed_20 ?_
  refine xv_iast C 8 0 (wM8 g _) rfl (up a 8 ((((6 : Int32) * (a 0 11)) + 0).toNatClampNeg) ((a 4 x1.toNatClampNeg) - 4)) (pM8 g _ _ _) hf dX6_tellDeed_21 (fun hf => ?_)
  refine xv_iconst C 0 dX6_tellDeed_22 (by decide) ?_
  refine xv_istore_n C [(2, .int 0), (0, .ref (aM g 0)), (1, .int x1)] dX6_tellDeed_23 rfl (by decide) rfl ?_
  refine xv_eq [1, 2, 0] rfl ?_
  exact hL24 x1 n 0 (up a 8 ((((6 : Int32) * (a 0 11)) + 0).toNatClampNeg) ((a 4 x1.toNatClampNeg) - 4)) hf
set_option maxRecDepth 100000 in
set_option maxHeartbeats 4000000 in
theorem c_X6_bits (S : SID) (hS : xSide S) (l : Launch) (n : Nat) (x0 : Int32) (a : St) (q : Int32) (hf : f_X6_bits n x0 = some q) : Met l yX6_bits wsX6_bits rm_X6_bits (xPre S [.int x0] a) (xPostI S q a) 0 0 S.2.2.1 := by
  refine xm_i (av := [.int x0]) (cc := cX6_bits) (maxL := 3) (by decide) rfl (Nat.le_of_ble_eq_true rfl) hS.1 hS.2 (fun K C hret => ?_)
  have C : CC K S cX6_bits 3 wsX6_bits RX6 rm_X6_bits := C
  have hL4 : ∀ (x0 : Int32)  (j : Nat) (x1 : Int32) (x2 : Int32), L_X6_bits_4 n x0 j x1 x2 = some q → V K S 3 a [(0, .int x0), (1, .int x1), (2, .int x2)] 4 [] := by
    intro x0 j
    induction j with
    | zero =>
      intro x1 x2 hf
      have hf : (none : Option Int32) = some q := hf
      cases hf
    | succ j ih =>
      intro x1 x2 hf
      rw [L_X6_bits_4] at hf
      refine xv_iload_n C dX6_bits_4 rfl 2 rfl ?_
      refine xv_bipush C 8 dX6_bits_5 (by decide) ?_
      refine xv_icmp_ge C 24 hf dX6_bits_7 (by decide) (fun _ hf => ?_) (fun _ hf => ?_)
      · refine xv_iload_n C dX6_bits_24 rfl 1 rfl ?_
        exact xz_ir hret hf dX6_bits_25
      · refine xv_iload_n C dX6_bits_10 rfl 1 rfl ?_
        refine xv_iload_n C dX6_bits_11 rfl 0 rfl ?_
        refine xv_iload_n C dX6_bits_12 rfl 2 rfl ?_
        refine xv_ishr C dX6_bits_13 ?_
        refine xv_iconst C 1 dX6_bits_14 (by decide) ?_
        refine xv_iand C dX6_bits_15 ?_
        refine xv_iadd C dX6_bits_16 ?_
        refine xv_istore_n C [(1, .int (x1 + ((x0 >>> (x2 &&& 31)) &&& 1))), (0, .int x0), (2, .int x2)] dX6_bits_17 rfl (by decide) rfl ?_
        refine xv_iinc C [(2, .int (x2 + 1)), (1, .int (x1 + ((x0 >>> (x2 &&& 31)) &&& 1))), (0, .int x0)] dX6_bits_18 2 rfl rfl (by decide) rfl ?_
        refine xv_goto C 4 dX6_bits_21 (by decide) ?_
        refine xv_eq [2, 1, 0] rfl ?_
        exact ih (x1 + ((x0 >>> (x2 &&& 31)) &&& 1)) (x2 + 1) hf
  rw [f_X6_bits] at hf
  show V K S 3 a [(0, .int x0)] 0 []
  refine xv_iconst C 0 dX6_bits_0 (by decide) ?_
  refine xv_istore_n C [(1, .int 0), (0, .int x0)] dX6_bits_1 rfl (by decide) rfl ?_
  refine xv_iconst C 0 dX6_bits_2 (by decide) ?_
  refine xv_istore_n C [(2, .int 0), (1, .int 0), (0, .int x0)] dX6_bits_3 rfl (by decide) rfl ?_
  refine xv_eq [2, 1, 0] rfl ?_
  exact hL4 x0 n 0 0 hf
set_option maxRecDepth 100000 in
set_option maxHeartbeats 4000000 in
theorem c_X6_lacks (g : GM) (hS : xSide (sM g)) (l : Launch) (n : Nat) (x1 : Int32) (x2 : Int32) (a : St) (q : Int32) (hf : f_X6_lacks n x1 x2 a = some q) : Met l yX6_lacks wsX6_lacks rm_X6_lacks (xPre (sM g) [.ref (aM g 0), .int x1, .int x2] a) (xPostI (sM g) q a) 0 0 (sM g).2.2.1 := by
  refine xm_i (av := [.ref (aM g 0), .int x1, .int x2]) (cc := cX6_lacks) (maxL := 5) (by decide) rfl (Nat.le_of_ble_eq_true rfl) hS.1 hS.2 (fun K C hret => ?_)
  have C : CC K (sM g) cX6_lacks 5 wsX6_lacks RX6 rm_X6_lacks := C
  have hiX6 : ∀ w ∈ u_ws RX6 TX6 26, w ∈ wsX6_lacks := fun w h => List.mem_cons_of_mem _ (List.mem_append_right _ h)
  rw [f_X6_lacks] at hf
  show V K (sM g) 5 a [(0, .ref (aM g 0)), (1, .int x1), (2, .int x2)] 0 []
  refine xv_aload_n C dX6_lacks_0 rfl 0 rfl ?_
  refine xv_get C hiX6 0 (wM0 g _) rfl 10 (by decide) (List.mem_of_getElem? (i := 1) rfl) rfl dX6_lacks_1 ?_
  refine xv_bipush C 6 dX6_lacks_4 (by decide) ?_
  refine xv_iload_n C dX6_lacks_6 rfl 2 rfl ?_
  refine xv_imul C dX6_lacks_7 ?_
  refine xv_iconst C 0 dX6_lacks_8 (by decide) ?_
  refine xv_iadd C dX6_lacks_9 ?_
  refine xv_iald C 8 0 (wM8 g _) rfl hf dX6_lacks_10 (fun hf => ?_)
  refine xv_istore_n C [(3, .int (a 8 ((((6 : Int32) * x2) + 0).toNatClampNeg))), (0, .ref (aM g 0)), (1, .int x1), (2, .int x2)] dX6_lacks_11 rfl (by decide) rfl ?_
  refine xv_aload_n C dX6_lacks_12 rfl 1 rfl ?_
  refine xv_get C hiX6 0 (wM0 g _) rfl 10 (by decide) (List.mem_of_getElem? (i := 1) rfl) rfl dX6_lacks_13 ?_
  refine xv_bipush C 6 dX6_lacks_16 (by decide) ?_
  refine xv_iload_n C dX6_lacks_18 rfl 3 rfl ?_
  refine xv_imul C dX6_lacks_19 ?_
  refine xv_iconst C 1 dX6_lacks_20 (by decide) ?_
  refine xv_iadd C dX6_lacks_21 ?_
  refine xv_iald C 8 0 (wM8 g _) rfl hf dX6_lacks_22 (fun hf => ?_)
  refine xv_istore C [(4, .int (a 8 ((((6 : Int32) * x2) + 1).toNatClampNeg))), (3, .int (a 8 ((((6 : Int32) * x2) + 0).toNatClampNeg))), (0, .ref (aM g 0)), (1, .int x1), (2, .int x2)] dX6_lacks_23 (by decide) rfl ?_
  refine xv_iload_n C dX6_lacks_25 rfl 1 rfl ?_
  refine xv_if_eq C (y := 0) 49 hf dX6_lacks_26 (by decide) (fun _ hf => ?_) (fun _ hf => ?_)
  · refine xv_iconst C 0 dX6_lacks_49 (by decide) ?_
    exact xz_ir hret hf dX6_lacks_50
  · refine xv_iload_n C dX6_lacks_29 rfl 1 rfl ?_
    refine xv_iconst C 2 dX6_lacks_30 (by decide) ?_
    refine xv_icmp_le C 51 hf dX6_lacks_31 (by decide) (fun _ hf => ?_) (fun _ hf => ?_)
    · refine xv_iload_n C dX6_lacks_51 rfl 1 rfl ?_
      refine xv_iconst C 2 dX6_lacks_52 (by decide) ?_
      refine xv_icmp_ne C 81 hf dX6_lacks_53 (by decide) (fun _ hf => ?_) (fun _ hf => ?_)
      · refine xv_iload C dX6_lacks_56 0 rfl ?_
        refine xv_if_eq C (y := 0) 77 hf dX6_lacks_58 (by decide) (fun _ hf => ?_) (fun _ hf => ?_)
        · refine xv_iconst C 0 dX6_lacks_77 (by decide) ?_
          refine xv_goto C 95 dX6_lacks_78 (by decide) ?_
          exact xz_ir hret hf dX6_lacks_95
        · refine xv_iload C dX6_lacks_61 0 rfl ?_
          refine xv_aload_n C dX6_lacks_63 rfl 2 rfl ?_
          refine xv_get C hiX6 0 (wM0 g _) rfl 8 (by decide) (List.mem_of_getElem? (i := 2) rfl) rfl dX6_lacks_64 ?_
          refine xv_iload_n C dX6_lacks_67 rfl 3 rfl ?_
          refine xv_iald C 6 0 (wM6 g _) rfl hf dX6_lacks_68 (fun hf => ?_)
          refine xv_iand C dX6_lacks_69 ?_
          refine xv_if_ne C (y := 0) 77 hf dX6_lacks_70 (by decide) (fun _ hf => ?_) (fun _ hf => ?_)
          · refine xv_iconst C 1 dX6_lacks_73 (by decide) ?_
            refine xv_goto C 95 dX6_lacks_74 (by decide) ?_
            exact xz_ir hret hf dX6_lacks_95
          · refine xv_iconst C 0 dX6_lacks_77 (by decide) ?_
            refine xv_goto C 95 dX6_lacks_78 (by decide) ?_
            exact xz_ir hret hf dX6_lacks_95
      · refine xv_iload C dX6_lacks_81 0 rfl ?_
        refine xv_aload_n C dX6_lacks_83 rfl 2 rfl ?_
        refine xv_get C hiX6 0 (wM0 g _) rfl 8 (by decide) (List.mem_of_getElem? (i := 2) rfl) rfl dX6_lacks_84 ?_
        refine xv_iload_n C dX6_lacks_87 rfl 3 rfl ?_
        refine xv_iald C 6 0 (wM6 g _) rfl hf dX6_lacks_88 (fun hf => ?_)
        refine xv_iconst C (-1) dX6_lacks_89 (by decide) ?_
        refine xv_ixor C dX6_lacks_90 ?_
        refine xv_iand C dX6_lacks_91 ?_
        obtain ⟨q1, hg, hf⟩ := dt_bind hf
        refine xc_i (xr_S C (As := [.int ((a 8 ((((6 : Int32) * x2) + 1).toNatClampNeg)) &&& ((a 6 x1.toNatClampNeg) ^^^ (-1)))]) (fun l => c_X6_bits (sM g) hS l n ((a 8 ((((6 : Int32) * x2) + 1).toNatClampNeg)) &&& ((a 6 x1.toNatClampNeg) ^^^ (-1))) a q1 hg) gX6_lacks_X6_bits rfl ⟨rfl, rfl⟩ hdS_X6_bits ⟨Nat.le_of_ble_eq_true rfl, Nat.le_of_ble_eq_true rfl⟩ rfl rfl (Nat.le_of_ble_eq_true rfl) dX6_lacks_92) ?_
        exact xz_ir hret hf dX6_lacks_95
    · refine xv_aload_n C dX6_lacks_34 rfl 2 rfl ?_
      refine xv_get C hiX6 0 (wM0 g _) rfl 10 (by decide) (List.mem_of_getElem? (i := 1) rfl) rfl dX6_lacks_35 ?_
      refine xv_bipush C 6 dX6_lacks_38 (by decide) ?_
      refine xv_iload_n C dX6_lacks_40 rfl 4 rfl ?_
      refine xv_imul C dX6_lacks_41 ?_
      refine xv_iconst C 2 dX6_lacks_42 (by decide) ?_
      refine xv_iadd C dX6_lacks_43 ?_
      refine xv_iald C 8 0 (wM8 g _) rfl hf dX6_lacks_44 (fun hf => ?_)
      refine xv_iload_n C dX6_lacks_45 rfl 3 rfl ?_
      refine xv_icmp_ne C 51 hf dX6_lacks_46 (by decide) (fun _ hf => ?_) (fun _ hf => ?_)
      · refine xv_iconst C 0 dX6_lacks_49 (by decide) ?_
        exact xz_ir hret hf dX6_lacks_50
      · refine xv_iload_n C dX6_lacks_51 rfl 1 rfl ?_
        refine xv_iconst C 2 dX6_lacks_52 (by decide) ?_
        refine xv_icmp_ne C 81 hf dX6_lacks_53 (by decide) (fun _ hf => ?_) (fun _ hf => ?_)
        · refine xv_iload C dX6_lacks_56 0 rfl ?_
          refine xv_if_eq C (y := 0) 77 hf dX6_lacks_58 (by decide) (fun _ hf => ?_) (fun _ hf => ?_)
          · refine xv_iconst C 0 dX6_lacks_77 (by decide) ?_
            refine xv_goto C 95 dX6_lacks_78 (by decide) ?_
            exact xz_ir hret hf dX6_lacks_95
          · refine xv_iload C dX6_lacks_61 0 rfl ?_
            refine xv_aload_n C dX6_lacks_63 rfl 2 rfl ?_
            refine xv_get C hiX6 0 (wM0 g _) rfl 8 (by decide) (List.mem_of_getElem? (i := 2) rfl) rfl dX6_lacks_64 ?_
            refine xv_iload_n C dX6_lacks_67 rfl 3 rfl ?_
            refine xv_iald C 6 0 (wM6 g _) rfl hf dX6_lacks_68 (fun hf => ?_)
            refine xv_iand C dX6_lacks_69 ?_
            refine xv_if_ne C (y := 0) 77 hf dX6_lacks_70 (by decide) (fun _ hf => ?_) (fun _ hf => ?_)
            · refine xv_iconst C 1 dX6_lacks_73 (by decide) ?_
              refine xv_goto C 95 dX6_lacks_74 (by decide) ?_
              exact xz_ir hret hf dX6_lacks_95
            · refine xv_iconst C 0 dX6_lacks_77 (by decide) ?_
              refine xv_goto C 95 dX6_lacks_78 (by decide) ?_
              exact xz_ir hret hf dX6_lacks_95
        · refine xv_iload C dX6_lacks_81 0 rfl ?_
          refine xv_aload_n C dX6_lacks_83 rfl 2 rfl ?_
          refine xv_get C hiX6 0 (wM0 g _) rfl 8 (by decide) (List.mem_of_getElem? (i := 2) rfl) rfl dX6_lacks_84 ?_
          refine xv_iload_n C dX6_lacks_87 rfl 3 rfl ?_
          refine xv_iald C 6 0 (wM6 g _) rfl hf dX6_lacks_88 (fun hf => ?_)
          refine xv_iconst C (-1) dX6_lacks_89 (by decide) ?_
          refine xv_ixor C dX6_lacks_90 ?_
          refine xv_iand C dX6_lacks_91 ?_
          obtain ⟨q2, hg, hf⟩ := dt_bind hf
          refine xc_i (xr_S C (As := [.int ((a 8 ((((6 : Int32) * x2) + 1).toNatClampNeg)) &&& ((a 6 x1.toNatClampNeg) ^^^ (-1)))]) (fun l => c_X6_bits (sM g) hS l n ((a 8 ((((6 : Int32) * x2) + 1).toNatClampNeg)) &&& ((a 6 x1.toNatClampNeg) ^^^ (-1))) a q2 hg) gX6_lacks_X6_bits rfl ⟨rfl, rfl⟩ hdS_X6_bits ⟨Nat.le_of_ble_eq_true rfl, Nat.le_of_ble_eq_true rfl⟩ rfl rfl (Nat.le_of_ble_eq_true rfl) dX6_lacks_92) ?_
          exact xz_ir hret hf dX6_lacks_95
set_option maxRecDepth 100000 in
set_option maxHeartbeats 4000000 in
theorem c_X6_canElse (g : GM) (hS : xSide (sM g)) (l : Launch) (n : Nat) (x1 : Int32) (x2 : Int32) (a : St) (q : Int32) (hf : f_X6_canElse n x1 x2 a = some q) : Met l yX6_canElse wsX6_canElse rm_X6_canElse (xPre (sM g) [.ref (aM g 0), .int x1, .int x2] a) (xPostI (sM g) q a) 0 0 (sM g).2.2.1 := by
  refine xm_z (av := [.ref (aM g 0), .int x1, .int x2]) (cc := cX6_canElse) (maxL := 4) (by decide) rfl (Nat.le_of_ble_eq_true rfl) hS.1 hS.2 (fun K C hret => ?_)
  have C : CC K (sM g) cX6_canElse 4 wsX6_canElse RX6 rm_X6_canElse := C
  have hiX6 : ∀ w ∈ u_ws RX6 TX6 26, w ∈ wsX6_canElse := fun w h => List.mem_cons_of_mem _ (List.mem_append_right _ h)
  rw [f_X6_canElse] at hf
  show V K (sM g) 4 a [(0, .ref (aM g 0)), (1, .int x1), (2, .int x2)] 0 []
  refine xv_aload_n C dX6_canElse_0 rfl 0 rfl ?_
  refine xv_get C hiX6 0 (wM0 g _) rfl 10 (by decide) (List.mem_of_getElem? (i := 1) rfl) rfl dX6_canElse_1 ?_
  refine xv_bipush C 6 dX6_canElse_4 (by decide) ?_
  refine xv_iload_n C dX6_canElse_6 rfl 2 rfl ?_
  refine xv_imul C dX6_canElse_7 ?_
  refine xv_iconst C 0 dX6_canElse_8 (by decide) ?_
  refine xv_iadd C dX6_canElse_9 ?_
  refine xv_iald C 8 0 (wM8 g _) rfl hf dX6_canElse_10 (fun hf => ?_)
  refine xv_iconst C 2 dX6_canElse_11 (by decide) ?_
  refine xv_icmp_ne C 33 hf dX6_canElse_12 (by decide) (fun _ hf => ?_) (fun _ hf => ?_)
  · refine xv_aload_n C dX6_canElse_15 rfl 0 rfl ?_
    refine xv_get C hiX6 0 (wM0 g _) rfl 10 (by decide) (List.mem_of_getElem? (i := 1) rfl) rfl dX6_canElse_16 ?_
    refine xv_bipush C 6 dX6_canElse_19 (by decide) ?_
    refine xv_iload_n C dX6_canElse_21 rfl 2 rfl ?_
    refine xv_imul C dX6_canElse_22 ?_
    refine xv_iconst C 1 dX6_canElse_23 (by decide) ?_
    refine xv_iadd C dX6_canElse_24 ?_
    refine xv_iald C 8 0 (wM8 g _) rfl hf dX6_canElse_25 (fun hf => ?_)
    refine xv_if_ne C (y := 0) 33 hf dX6_canElse_26 (by decide) (fun _ hf => ?_) (fun _ hf => ?_)
    · refine xv_iconst C 1 dX6_canElse_29 (by decide) ?_
      refine xv_goto C 34 dX6_canElse_30 (by decide) ?_
      refine xv_istore_n C [(3, .int 1), (0, .ref (aM g 0)), (1, .int x1), (2, .int x2)] dX6_canElse_34 rfl (by decide) rfl ?_
      refine xv_iload_n C dX6_canElse_35 rfl 0 rfl ?_
      refine xv_if_ne C (y := 0) (A := (none : Option Unit)) (B := some ()) (v := ()) 52 (by decide) dX6_canElse_36 (by decide) (fun _ hf => by cases hf) (fun _ _ => ?_)
      refine xv_iconst C 0 dX6_canElse_52 (by decide) ?_
      exact xz_zr hret hf (by decide) dX6_canElse_53
    · refine xv_iconst C 0 dX6_canElse_33 (by decide) ?_
      refine xv_istore_n C [(3, .int 0), (0, .ref (aM g 0)), (1, .int x1), (2, .int x2)] dX6_canElse_34 rfl (by decide) rfl ?_
      refine xv_iload_n C dX6_canElse_35 rfl 0 rfl ?_
      refine xv_if_ne C (y := 0) (A := some ()) (B := (none : Option Unit)) (v := ()) 52 (by decide) dX6_canElse_36 (by decide) (fun _ _ => ?_) (fun _ hf => by cases hf)
      refine xv_aload_n C dX6_canElse_39 rfl 1 rfl ?_
      refine xv_iload_n C dX6_canElse_40 rfl 2 rfl ?_
      refine xv_iload_n C dX6_canElse_41 rfl 3 rfl ?_
      obtain ⟨q2, hg, hf⟩ := dt_bind hf
      refine xc_i (xr_V C (ci := 6) (As := [.int x1, .int x2]) (fun l => c_X6_lacks g hS l n x1 x2 a q2 hg) gX6_canElse_X6_lacks rfl ⟨rfl, rfl⟩ hdV_X6_lacks ⟨Nat.le_of_ble_eq_true rfl, Nat.le_of_ble_eq_true rfl⟩ 0 rfl rfl (wM0 g _) rfl rfl (Nat.le_of_ble_eq_true rfl) dX6_canElse_42) ?_
      refine xv_if_ne C (y := 0) 52 hf dX6_canElse_45 (by decide) (fun _ hf => ?_) (fun _ hf => ?_)
      · refine xv_iconst C 1 dX6_canElse_48 (by decide) ?_
        refine xv_goto C 53 dX6_canElse_49 (by decide) ?_
        exact xz_zr hret hf (by decide) dX6_canElse_53
      · refine xv_iconst C 0 dX6_canElse_52 (by decide) ?_
        exact xz_zr hret hf (by decide) dX6_canElse_53
  · refine xv_iconst C 0 dX6_canElse_33 (by decide) ?_
    refine xv_istore_n C [(3, .int 0), (0, .ref (aM g 0)), (1, .int x1), (2, .int x2)] dX6_canElse_34 rfl (by decide) rfl ?_
    refine xv_iload_n C dX6_canElse_35 rfl 0 rfl ?_
    refine xv_if_ne C (y := 0) (A := some ()) (B := (none : Option Unit)) (v := ()) 52 (by decide) dX6_canElse_36 (by decide) (fun _ _ => ?_) (fun _ hf => by cases hf)
    refine xv_aload_n C dX6_canElse_39 rfl 1 rfl ?_
    refine xv_iload_n C dX6_canElse_40 rfl 2 rfl ?_
    refine xv_iload_n C dX6_canElse_41 rfl 3 rfl ?_
    obtain ⟨q1, hg, hf⟩ := dt_bind hf
    refine xc_i (xr_V C (ci := 6) (As := [.int x1, .int x2]) (fun l => c_X6_lacks g hS l n x1 x2 a q1 hg) gX6_canElse_X6_lacks rfl ⟨rfl, rfl⟩ hdV_X6_lacks ⟨Nat.le_of_ble_eq_true rfl, Nat.le_of_ble_eq_true rfl⟩ 0 rfl rfl (wM0 g _) rfl rfl (Nat.le_of_ble_eq_true rfl) dX6_canElse_42) ?_
    refine xv_if_ne C (y := 0) 52 hf dX6_canElse_45 (by decide) (fun _ hf => ?_) (fun _ hf => ?_)
    · refine xv_iconst C 1 dX6_canElse_48 (by decide) ?_
      refine xv_goto C 53 dX6_canElse_49 (by decide) ?_
      exact xz_zr hret hf (by decide) dX6_canElse_53
    · refine xv_iconst C 0 dX6_canElse_52 (by decide) ?_
      exact xz_zr hret hf (by decide) dX6_canElse_53
set_option maxRecDepth 100000 in
set_option maxHeartbeats 4000000 in
theorem c_X6_has (S : SID) (hS : xSide S) (l : Launch) (x0 : Int32) (x1 : Int32) (a : St) (q : Int32) (hf : f_X6_has x0 x1 = some q) : Met l yX6_has wsX6_has rm_X6_has (xPre S [.int x0, .int x1] a) (xPostI S q a) 0 0 S.2.2.1 := by
  refine xm_z (av := [.int x0, .int x1]) (cc := cX6_has) (maxL := 2) (by decide) rfl (Nat.le_of_ble_eq_true rfl) hS.1 hS.2 (fun K C hret => ?_)
  have C : CC K S cX6_has 2 wsX6_has RX6 rm_X6_has := C
  rw [f_X6_has] at hf
  show V K S 2 a [(0, .int x0), (1, .int x1)] 0 []
  refine xv_iload_n C dX6_has_0 rfl 0 rfl ?_
  refine xv_iload_n C dX6_has_1 rfl 1 rfl ?_
  refine xv_ishr C dX6_has_2 ?_
  refine xv_iconst C 1 dX6_has_3 (by decide) ?_
  refine xv_iand C dX6_has_4 ?_
  refine xv_iconst C 1 dX6_has_5 (by decide) ?_
  refine xv_icmp_ne C 13 hf dX6_has_6 (by decide) (fun _ hf => ?_) (fun _ hf => ?_)
  · refine xv_iconst C 1 dX6_has_9 (by decide) ?_
    refine xv_goto C 14 dX6_has_10 (by decide) ?_
    exact xz_zr hret hf (by decide) dX6_has_14
  · refine xv_iconst C 0 dX6_has_13 (by decide) ?_
    exact xz_zr hret hf (by decide) dX6_has_14
set_option maxRecDepth 100000 in
set_option maxHeartbeats 4000000 in
theorem c_X6_canBy (g : GM) (hS : xSide (sM g)) (l : Launch) (n : Nat) (x1 : Int32) (x2 : Int32) (x3 : Int32) (a : St) (q : Int32) (hf : f_X6_canBy n x1 x2 x3 a = some q) : Met l yX6_canBy wsX6_canBy rm_X6_canBy (xPre (sM g) [.ref (aM g 0), .int x1, .int x2, .int x3] a) (xPostI (sM g) q a) 0 0 (sM g).2.2.1 := by
  refine xm_z (av := [.ref (aM g 0), .int x1, .int x2, .int x3]) (cc := cX6_canBy) (maxL := 4) (by decide) rfl (Nat.le_of_ble_eq_true rfl) hS.1 hS.2 (fun K C hret => ?_)
  have C : CC K (sM g) cX6_canBy 4 wsX6_canBy RX6 rm_X6_canBy := C
  have hiX6 : ∀ w ∈ u_ws RX6 TX6 26, w ∈ wsX6_canBy := fun w h => List.mem_cons_of_mem _ (List.mem_append_right _ h)
  rw [f_X6_canBy] at hf
  show V K (sM g) 4 a [(0, .ref (aM g 0)), (1, .int x1), (2, .int x2), (3, .int x3)] 0 []
  refine xv_aload_n C dX6_canBy_0 rfl 0 rfl ?_
  refine xv_iload_n C dX6_canBy_1 rfl 1 rfl ?_
  refine xv_iload_n C dX6_canBy_2 rfl 2 rfl ?_
  obtain ⟨q1, hg, hf⟩ := dt_bind hf
  refine xc_i (xr_V C (ci := 6) (As := [.int x1, .int x2]) (fun l => c_X6_canElse g hS l n x1 x2 a q1 hg) gX6_canBy_X6_canElse rfl ⟨rfl, rfl⟩ hdV_X6_canElse ⟨Nat.le_of_ble_eq_true rfl, Nat.le_of_ble_eq_true rfl⟩ 0 rfl rfl (wM0 g _) rfl rfl (Nat.le_of_ble_eq_true rfl) dX6_canBy_3) ?_
  refine xv_if_eq C (y := 0) 36 hf dX6_canBy_6 (by decide) (fun _ hf => ?_) (fun _ hf => ?_)
  · refine xv_iconst C 0 dX6_canBy_36 (by decide) ?_
    exact xz_zr hret hf (by decide) dX6_canBy_37
  · refine xv_iload_n C dX6_canBy_9 rfl 3 rfl ?_
    refine xv_iload_n C dX6_canBy_10 rfl 2 rfl ?_
    obtain ⟨q2, hg, hf⟩ := dt_bind hf
    refine xc_i (xr_S C (As := [.int x3, .int x2]) (fun l => c_X6_has (sM g) hS l x3 x2 a q2 hg) gX6_canBy_X6_has rfl ⟨rfl, rfl⟩ hdS_X6_has ⟨Nat.le_of_ble_eq_true rfl, Nat.le_of_ble_eq_true rfl⟩ rfl rfl (Nat.le_of_ble_eq_true rfl) dX6_canBy_11) ?_
    refine xv_if_eq C (y := 0) 32 hf dX6_canBy_14 (by decide) (fun _ hf => ?_) (fun _ hf => ?_)
    · refine xv_iconst C 1 dX6_canBy_32 (by decide) ?_
      refine xv_goto C 37 dX6_canBy_33 (by decide) ?_
      exact xz_zr hret hf (by decide) dX6_canBy_37
    · refine xv_aload_n C dX6_canBy_17 rfl 0 rfl ?_
      refine xv_get C hiX6 0 (wM0 g _) rfl 10 (by decide) (List.mem_of_getElem? (i := 1) rfl) rfl dX6_canBy_18 ?_
      refine xv_bipush C 6 dX6_canBy_21 (by decide) ?_
      refine xv_iload_n C dX6_canBy_23 rfl 2 rfl ?_
      refine xv_imul C dX6_canBy_24 ?_
      refine xv_iconst C 2 dX6_canBy_25 (by decide) ?_
      refine xv_iadd C dX6_canBy_26 ?_
      refine xv_iald C 8 0 (wM8 g _) rfl hf dX6_canBy_27 (fun hf => ?_)
      refine xv_iload_n C dX6_canBy_28 rfl 1 rfl ?_
      refine xv_icmp_ne C 36 hf dX6_canBy_29 (by decide) (fun _ hf => ?_) (fun _ hf => ?_)
      · refine xv_iconst C 1 dX6_canBy_32 (by decide) ?_
        refine xv_goto C 37 dX6_canBy_33 (by decide) ?_
        exact xz_zr hret hf (by decide) dX6_canBy_37
      · refine xv_iconst C 0 dX6_canBy_36 (by decide) ?_
        exact xz_zr hret hf (by decide) dX6_canBy_37
set_option maxRecDepth 100000 in
set_option maxHeartbeats 4000000 in
theorem c_X6_can (g : GM) (hS : xSide (sM g)) (l : Launch) (n : Nat) (x1 : Int32) (x2 : Int32) (a : St) (q : Int32) (hf : f_X6_can n x1 x2 a = some q) : Met l yX6_can wsX6_can rm_X6_can (xPre (sM g) [.ref (aM g 0), .int x1, .int x2] a) (xPostI (sM g) q a) 0 0 (sM g).2.2.1 := by
  refine xm_z (av := [.ref (aM g 0), .int x1, .int x2]) (cc := cX6_can) (maxL := 3) (by decide) rfl (Nat.le_of_ble_eq_true rfl) hS.1 hS.2 (fun K C hret => ?_)
  have C : CC K (sM g) cX6_can 3 wsX6_can RX6 rm_X6_can := C
  have hiX6 : ∀ w ∈ u_ws RX6 TX6 26, w ∈ wsX6_can := fun w h => List.mem_cons_of_mem _ (List.mem_append_right _ h)
  rw [f_X6_can] at hf
  show V K (sM g) 3 a [(0, .ref (aM g 0)), (1, .int x1), (2, .int x2)] 0 []
  refine xv_aload_n C dX6_can_0 rfl 0 rfl ?_
  refine xv_iload_n C dX6_can_1 rfl 1 rfl ?_
  refine xv_iload_n C dX6_can_2 rfl 2 rfl ?_
  refine xv_aload_n C dX6_can_3 rfl 0 rfl ?_
  refine xv_get C hiX6 0 (wM0 g _) rfl 10 (by decide) (List.mem_of_getElem? (i := 1) rfl) rfl dX6_can_4 ?_
  refine xv_bipush C 6 dX6_can_7 (by decide) ?_
  refine xv_iload_n C dX6_can_9 rfl 2 rfl ?_
  refine xv_imul C dX6_can_10 ?_
  refine xv_iconst C 5 dX6_can_11 (by decide) ?_
  refine xv_iadd C dX6_can_12 ?_
  refine xv_iald C 8 0 (wM8 g _) rfl hf dX6_can_13 (fun hf => ?_)
  refine xv_iload_n C dX6_can_14 rfl 2 rfl ?_
  refine xv_ishl C dX6_can_15 ?_
  obtain ⟨q1, hg, hf⟩ := dt_bind hf
  refine xc_i (xr_V C (ci := 6) (As := [.int x1, .int x2, .int ((a 8 ((((6 : Int32) * x2) + 5).toNatClampNeg)) <<< (x2 &&& 31))]) (fun l => c_X6_canBy g hS l n x1 x2 ((a 8 ((((6 : Int32) * x2) + 5).toNatClampNeg)) <<< (x2 &&& 31)) a q1 hg) gX6_can_X6_canBy rfl ⟨rfl, rfl⟩ hdV_X6_canBy ⟨Nat.le_of_ble_eq_true rfl, Nat.le_of_ble_eq_true rfl⟩ 0 rfl rfl (wM0 g _) rfl rfl (Nat.le_of_ble_eq_true rfl) dX6_can_16) ?_
  exact xz_zgr hret hf dX6_can_19
set_option maxRecDepth 100000 in
set_option maxHeartbeats 4000000 in
theorem c_X6_tell (g : GM) (hS : xSide (sM g)) (l : Launch) (n : Nat) (x1 : Int32) (a : St) (q : St) (hf : f_X6_tell n x1 a = some q) : Met l yX6_tell wsX6_tell rm_X6_tell (xPre (sM g) [.ref (aM g 0), .int x1] a) (xPostV (sM g) q) 0 0 (sM g).2.2.1 := by
  refine xm_v (av := [.ref (aM g 0), .int x1]) (cc := cX6_tell) (maxL := 4) (by decide) rfl (Nat.le_of_ble_eq_true rfl) hS.1 hS.2 (fun K C hret => ?_)
  have C : CC K (sM g) cX6_tell 4 wsX6_tell RX6 rm_X6_tell := C
  have hiX6 : ∀ w ∈ u_ws RX6 TX6 26, w ∈ wsX6_tell := fun w h => List.mem_cons_of_mem _ (List.mem_append_right _ h)
  rw [f_X6_tell] at hf
  show V K (sM g) 4 a [(0, .ref (aM g 0)), (1, .int x1)] 0 []
  refine xv_aload_n C dX6_tell_0 rfl 0 rfl ?_
  refine xv_get C hiX6 0 (wM0 g _) rfl 4 (by decide) (List.mem_of_getElem? (i := 1) rfl) rfl dX6_tell_1 ?_
  refine xv_iload_n C dX6_tell_4 rfl 1 rfl ?_
  refine xv_iconst C 1 dX6_tell_5 (by decide) ?_
  refine xv_iadd C dX6_tell_6 ?_
  refine xv_iald C 4 0 (wM4 g _) rfl hf dX6_tell_7 (fun hf => ?_)
  refine xv_istore_n C [(2, .int (a 4 ((x1 + 1).toNatClampNeg))), (0, .ref (aM g 0)), (1, .int x1)] dX6_tell_8 rfl (by decide) rfl ?_
  refine xv_aload_n C dX6_tell_9 rfl 1 rfl ?_
  refine xv_get C hiX6 0 (wM0 g _) rfl 4 (by decide) (List.mem_of_getElem? (i := 1) rfl) rfl dX6_tell_10 ?_
  refine xv_iload_n C dX6_tell_13 rfl 2 rfl ?_
  refine xv_iconst C 2 dX6_tell_14 (by decide) ?_
  refine xv_iadd C dX6_tell_15 ?_
  refine xv_iald C 4 0 (wM4 g _) rfl hf dX6_tell_16 (fun hf => ?_)
  refine xv_istore_n C [(3, .int (a 4 ((x1 + 2).toNatClampNeg))), (2, .int (a 4 ((x1 + 1).toNatClampNeg))), (0, .ref (aM g 0)), (1, .int x1)] dX6_tell_17 rfl (by decide) rfl ?_
  refine xv_aload_n C dX6_tell_18 rfl 2 rfl ?_
  refine xv_get C hiX6 0 (wM0 g _) rfl 4 (by decide) (List.mem_of_getElem? (i := 1) rfl) rfl dX6_tell_19 ?_
  refine xv_iload_n C dX6_tell_22 rfl 3 rfl ?_
  refine xv_iald C 4 0 (wM4 g _) rfl hf dX6_tell_23 (fun hf => ?_)
  by_cases hs0 : a 4 x1.toNatClampNeg = 0
  · have hf := dt_pos hs0 hf
    refine xv_tin C (off := 68) 92 hs0 dX6_tell_24 (by decide) (by decide) (by decide) (by decide) ?_
    refine xv_aload_n C dX6_tell_92 rfl 2 rfl ?_
    refine xv_iload_n C dX6_tell_93 rfl 1 rfl ?_
    obtain ⟨q1, hg, hf⟩ := dt_bind hf
    refine xc_v (xr_V C (ci := 6) (As := [.int (a 4 ((x1 + 1).toNatClampNeg))]) (fun l => c_X6_clear g hS l n (a 4 ((x1 + 1).toNatClampNeg)) a q1 hg) gX6_tell_X6_clear rfl ⟨rfl, rfl⟩ hdV_X6_clear ⟨Nat.le_of_ble_eq_true rfl, Nat.le_of_ble_eq_true rfl⟩ 0 rfl rfl (wM0 g _) rfl rfl (Nat.le_of_ble_eq_true rfl) dX6_tell_94) ?_
    exact xz_v hret hf dX6_tell_97
  have hf := dt_neg hs0 hf
  by_cases hs1 : a 4 x1.toNatClampNeg = 1
  · have hf := dt_pos hs1 hf
    refine xv_tin C (off := 74) 98 hs1 dX6_tell_24 (by decide) (by decide) (by decide) (by decide) ?_
    refine xv_aload_n C dX6_tell_98 rfl 2 rfl ?_
    refine xv_get C hiX6 0 (wM0 g _) rfl 7 (by decide) (List.mem_of_getElem? (i := 2) rfl) rfl dX6_tell_99 ?_
    refine xv_iload_n C dX6_tell_102 rfl 1 rfl ?_
    refine xv_iload_n C dX6_tell_103 rfl 0 rfl ?_
    refine xv_iast C 5 0 (wM5 g _) rfl (up a 5 ((a 4 ((x1 + 1).toNatClampNeg)).toNatClampNeg) (a 4 ((x1 + 2).toNatClampNeg))) (pM5 g _ _ _) hf dX6_tell_104 (fun hf => ?_)
    exact xz_v hret hf dX6_tell_105
  have hf := dt_neg hs1 hf
  by_cases hs2 : a 4 x1.toNatClampNeg = 2
  · have hf := dt_pos hs2 hf
    refine xv_tin C (off := 82) 106 hs2 dX6_tell_24 (by decide) (by decide) (by decide) (by decide) ?_
    refine xv_aload_n C dX6_tell_106 rfl 2 rfl ?_
    refine xv_get C hiX6 0 (wM0 g _) rfl 7 (by decide) (List.mem_of_getElem? (i := 2) rfl) rfl dX6_tell_107 ?_
    refine xv_iload_n C dX6_tell_110 rfl 1 rfl ?_
    refine xv_iconst C (-1) dX6_tell_111 (by decide) ?_
    refine xv_iast C 5 0 (wM5 g _) rfl (up a 5 ((a 4 ((x1 + 1).toNatClampNeg)).toNatClampNeg) (-1)) (pM5 g _ _ _) hf dX6_tell_112 (fun hf => ?_)
    exact xz_v hret hf dX6_tell_113
  have hf := dt_neg hs2 hf
  by_cases hs3 : a 4 x1.toNatClampNeg = 3
  · have hf := dt_pos hs3 hf
    refine xv_tin C (off := 90) 114 hs3 dX6_tell_24 (by decide) (by decide) (by decide) (by decide) ?_
    refine xv_aload_n C dX6_tell_114 rfl 2 rfl ?_
    refine xv_get C hiX6 0 (wM0 g _) rfl 8 (by decide) (List.mem_of_getElem? (i := 3) rfl) rfl dX6_tell_115 ?_
    refine xv_iload_n C dX6_tell_118 rfl 1 rfl ?_
    refine xv_iload_n C dX6_tell_119 rfl 0 rfl ?_
    refine xv_iast C 6 0 (wM6 g _) rfl (up a 6 ((a 4 ((x1 + 1).toNatClampNeg)).toNatClampNeg) (a 4 ((x1 + 2).toNatClampNeg))) (pM6 g _ _ _) hf dX6_tell_120 (fun hf => ?_)
    exact xz_v hret hf dX6_tell_121
  have hf := dt_neg hs3 hf
  by_cases hs4 : a 4 x1.toNatClampNeg = 4
  · have hf := dt_pos hs4 hf
    refine xv_tin C (off := 194) 218 hs4 dX6_tell_24 (by decide) (by decide) (by decide) (by decide) ?_
    refine xv_aload_n C dX6_tell_218 rfl 2 rfl ?_
    refine xv_iload_n C dX6_tell_219 rfl 3 rfl ?_
    obtain ⟨q2, hg, hf⟩ := dt_bind hf
    refine xc_v (xr_V C (ci := 6) (As := [.int x1]) (fun l => c_X6_tellDeed g hS l n x1 a q2 hg) gX6_tell_X6_tellDeed rfl ⟨rfl, rfl⟩ hdV_X6_tellDeed ⟨Nat.le_of_ble_eq_true rfl, Nat.le_of_ble_eq_true rfl⟩ 0 rfl rfl (wM0 g _) rfl rfl (Nat.le_of_ble_eq_true rfl) dX6_tell_220) ?_
    exact xz_v hret hf dX6_tell_223
  have hf := dt_neg hs4 hf
  by_cases hs5 : a 4 x1.toNatClampNeg = 5
  · have hf := dt_pos hs5 hf
    refine xv_tin C (off := 194) 218 hs5 dX6_tell_24 (by decide) (by decide) (by decide) (by decide) ?_
    refine xv_aload_n C dX6_tell_218 rfl 2 rfl ?_
    refine xv_iload_n C dX6_tell_219 rfl 3 rfl ?_
    obtain ⟨q3, hg, hf⟩ := dt_bind hf
    refine xc_v (xr_V C (ci := 6) (As := [.int x1]) (fun l => c_X6_tellDeed g hS l n x1 a q3 hg) gX6_tell_X6_tellDeed rfl ⟨rfl, rfl⟩ hdV_X6_tellDeed ⟨Nat.le_of_ble_eq_true rfl, Nat.le_of_ble_eq_true rfl⟩ 0 rfl rfl (wM0 g _) rfl rfl (Nat.le_of_ble_eq_true rfl) dX6_tell_220) ?_
    exact xz_v hret hf dX6_tell_223
  have hf := dt_neg hs5 hf
  by_cases hs6 : a 4 x1.toNatClampNeg = 6
  · have hf := dt_pos hs6 hf
    refine xv_tin C (off := 194) 218 hs6 dX6_tell_24 (by decide) (by decide) (by decide) (by decide) ?_
    refine xv_aload_n C dX6_tell_218 rfl 2 rfl ?_
    refine xv_iload_n C dX6_tell_219 rfl 3 rfl ?_
    obtain ⟨q4, hg, hf⟩ := dt_bind hf
    refine xc_v (xr_V C (ci := 6) (As := [.int x1]) (fun l => c_X6_tellDeed g hS l n x1 a q4 hg) gX6_tell_X6_tellDeed rfl ⟨rfl, rfl⟩ hdV_X6_tellDeed ⟨Nat.le_of_ble_eq_true rfl, Nat.le_of_ble_eq_true rfl⟩ 0 rfl rfl (wM0 g _) rfl rfl (Nat.le_of_ble_eq_true rfl) dX6_tell_220) ?_
    exact xz_v hret hf dX6_tell_223
  have hf := dt_neg hs6 hf
  by_cases hs7 : a 4 x1.toNatClampNeg = 7
  · have hf := dt_pos hs7 hf
    refine xv_tin C (off := 194) 218 hs7 dX6_tell_24 (by decide) (by decide) (by decide) (by decide) ?_
    refine xv_aload_n C dX6_tell_218 rfl 2 rfl ?_
    refine xv_iload_n C dX6_tell_219 rfl 3 rfl ?_
    obtain ⟨q5, hg, hf⟩ := dt_bind hf
    refine xc_v (xr_V C (ci := 6) (As := [.int x1]) (fun l => c_X6_tellDeed g hS l n x1 a q5 hg) gX6_tell_X6_tellDeed rfl ⟨rfl, rfl⟩ hdV_X6_tellDeed ⟨Nat.le_of_ble_eq_true rfl, Nat.le_of_ble_eq_true rfl⟩ 0 rfl rfl (wM0 g _) rfl rfl (Nat.le_of_ble_eq_true rfl) dX6_tell_220) ?_
    exact xz_v hret hf dX6_tell_223
  have hf := dt_neg hs7 hf
  by_cases hs8 : a 4 x1.toNatClampNeg = 8
  · have hf := dt_pos hs8 hf
    refine xv_tin C (off := 98) 122 hs8 dX6_tell_24 (by decide) (by decide) (by decide) (by decide) ?_
    refine xv_aload_n C dX6_tell_122 rfl 2 rfl ?_
    refine xv_get C hiX6 0 (wM0 g _) rfl 0 (by decide) (List.mem_of_getElem? (i := 4) rfl) rfl dX6_tell_123 ?_
    refine xv_iload_n C dX6_tell_126 rfl 1 rfl ?_
    refine xv_aload_n C dX6_tell_127 rfl 2 rfl ?_
    refine xv_iload_n C dX6_tell_128 rfl 1 rfl ?_
    refine xv_iload_n C dX6_tell_129 rfl 0 rfl ?_
    obtain ⟨q6, hg, hf⟩ := dt_bind hf
    refine xc_i (xr_V C (ci := 6) (As := [.int (a 4 ((x1 + 1).toNatClampNeg)), .int (a 4 ((x1 + 2).toNatClampNeg))]) (fun l => c_X6_can g hS l n (a 4 ((x1 + 1).toNatClampNeg)) (a 4 ((x1 + 2).toNatClampNeg)) a q6 hg) gX6_tell_X6_can rfl ⟨rfl, rfl⟩ hdV_X6_can ⟨Nat.le_of_ble_eq_true rfl, Nat.le_of_ble_eq_true rfl⟩ 0 rfl rfl (wM0 g _) rfl rfl (Nat.le_of_ble_eq_true rfl) dX6_tell_130) ?_
    refine xv_if_eq C (y := 0) 140 hf dX6_tell_133 (by decide) (fun _ hf => ?_) (fun _ hf => ?_)
    · refine xv_iconst C (-1) dX6_tell_140 (by decide) ?_
      refine xv_iast C 1 0 (wM1 g _) rfl (up a 1 ((a 4 ((x1 + 1).toNatClampNeg)).toNatClampNeg) (-1)) (pM1 g _ _ _) hf dX6_tell_141 (fun hf => ?_)
      exact xz_v hret hf dX6_tell_142
    · refine xv_iload_n C dX6_tell_136 rfl 0 rfl ?_
      refine xv_goto C 141 dX6_tell_137 (by decide) ?_
      refine xv_iast C 1 0 (wM1 g _) rfl (up a 1 ((a 4 ((x1 + 1).toNatClampNeg)).toNatClampNeg) (a 4 ((x1 + 2).toNatClampNeg))) (pM1 g _ _ _) hf dX6_tell_141 (fun hf => ?_)
      exact xz_v hret hf dX6_tell_142
  have hf := dt_neg hs8 hf
  by_cases hs9 : a 4 x1.toNatClampNeg = 9
  · have hf := dt_pos hs9 hf
    refine xv_tin C (off := 119) 143 hs9 dX6_tell_24 (by decide) (by decide) (by decide) (by decide) ?_
    refine xv_aload_n C dX6_tell_143 rfl 2 rfl ?_
    refine xv_get C hiX6 0 (wM0 g _) rfl 0 (by decide) (List.mem_of_getElem? (i := 4) rfl) rfl dX6_tell_144 ?_
    refine xv_iload_n C dX6_tell_147 rfl 1 rfl ?_
    refine xv_iconst C (-1) dX6_tell_148 (by decide) ?_
    refine xv_iast C 1 0 (wM1 g _) rfl (up a 1 ((a 4 ((x1 + 1).toNatClampNeg)).toNatClampNeg) (-1)) (pM1 g _ _ _) hf dX6_tell_149 (fun hf => ?_)
    exact xz_v hret hf dX6_tell_150
  have hf := dt_neg hs9 hf
  by_cases hs10 : a 4 x1.toNatClampNeg = 10
  · have hf := dt_pos hs10 hf
    refine xv_tin C (off := 127) 151 hs10 dX6_tell_24 (by decide) (by decide) (by decide) (by decide) ?_
    refine xv_aload_n C dX6_tell_151 rfl 2 rfl ?_
    refine xv_get C hiX6 0 (wM0 g _) rfl 9 (by decide) (List.mem_of_getElem? (i := 5) rfl) rfl dX6_tell_152 ?_
    refine xv_bipush C 8 dX6_tell_155 (by decide) ?_
    refine xv_iload_n C dX6_tell_157 rfl 1 rfl ?_
    refine xv_imul C dX6_tell_158 ?_
    refine xv_iload_n C dX6_tell_159 rfl 0 rfl ?_
    refine xv_iadd C dX6_tell_160 ?_
    refine xv_aload_n C dX6_tell_161 rfl 2 rfl ?_
    refine xv_get C hiX6 0 (wM0 g _) rfl 4 (by decide) (List.mem_of_getElem? (i := 1) rfl) rfl dX6_tell_162 ?_
    refine xv_iload_n C dX6_tell_165 rfl 3 rfl ?_
    refine xv_iconst C 3 dX6_tell_166 (by decide) ?_
    refine xv_iadd C dX6_tell_167 ?_
    refine xv_iald C 4 0 (wM4 g _) rfl hf dX6_tell_168 (fun hf => ?_)
    refine xv_iast C 7 0 (wM7 g _) rfl (up a 7 ((((8 : Int32) * (a 4 ((x1 + 1).toNatClampNeg))) + (a 4 ((x1 + 2).toNatClampNeg))).toNatClampNeg) (a 4 ((x1 + 3).toNatClampNeg))) (pM7 g _ _ _) hf dX6_tell_169 (fun hf => ?_)
    refine xv_aload_n C dX6_tell_170 rfl 2 rfl ?_
    refine xv_get C hiX6 0 (wM0 g _) rfl 9 (by decide) (List.mem_of_getElem? (i := 5) rfl) rfl dX6_tell_171 ?_
    refine xv_bipush C 8 dX6_tell_174 (by decide) ?_
    refine xv_iload_n C dX6_tell_176 rfl 0 rfl ?_
    refine xv_imul C dX6_tell_177 ?_
    refine xv_iload_n C dX6_tell_178 rfl 1 rfl ?_
    refine xv_iadd C dX6_tell_179 ?_
    refine xv_aload_n C dX6_tell_180 rfl 2 rfl ?_
    refine xv_get C hiX6 0 (wM0 g _) rfl 4 (by decide) (List.mem_of_getElem? (i := 1) rfl) rfl dX6_tell_181 ?_
    refine xv_iload_n C dX6_tell_184 rfl 3 rfl ?_
    refine xv_iconst C 3 dX6_tell_185 (by decide) ?_
    refine xv_iadd C dX6_tell_186 ?_
    refine xv_iald C 4 0 (wM4 g _) rfl hf dX6_tell_187 (fun hf => ?_)
    refine xv_iast C 7 0 (wM7 g _) rfl (up (up a 7 ((((8 : Int32) * (a 4 ((x1 + 1).toNatClampNeg))) + (a 4 ((x1 + 2).toNatClampNeg))).toNatClampNeg) (a 4 ((x1 + 3).toNatClampNeg))) 7 ((((8 : Int32) * (a 4 ((x1 + 2).toNatClampNeg))) + (a 4 ((x1 + 1).toNatClampNeg))).toNatClampNeg) ((up a 7 ((((8 : Int32) * (a 4 ((x1 + 1).toNatClampNeg))) + (a 4 ((x1 + 2).toNatClampNeg))).toNatClampNeg) (a 4 ((x1 + 3).toNatClampNeg))) 4 ((x1 + 3).toNatClampNeg))) (pM7 g _ _ _) hf dX6_tell_188 (fun hf => ?_)
    exact xz_v hret hf dX6_tell_189
  have hf := dt_neg hs10 hf
  by_cases hs11 : a 4 x1.toNatClampNeg = 11
  · have hf := dt_pos hs11 hf
    refine xv_tin C (off := 166) 190 hs11 dX6_tell_24 (by decide) (by decide) (by decide) (by decide) ?_
    refine xv_aload_n C dX6_tell_190 rfl 2 rfl ?_
    refine xv_get C hiX6 0 (wM0 g _) rfl 10 (by decide) (List.mem_of_getElem? (i := 6) rfl) rfl dX6_tell_191 ?_
    refine xv_bipush C 6 dX6_tell_194 (by decide) ?_
    refine xv_iload_n C dX6_tell_196 rfl 1 rfl ?_
    refine xv_imul C dX6_tell_197 ?_
    refine xv_iconst C 5 dX6_tell_198 (by decide) ?_
    refine xv_iadd C dX6_tell_199 ?_
    refine xv_aload_n C dX6_tell_200 rfl 2 rfl ?_
    refine xv_get C hiX6 0 (wM0 g _) rfl 4 (by decide) (List.mem_of_getElem? (i := 1) rfl) rfl dX6_tell_201 ?_
    refine xv_iload_n C dX6_tell_204 rfl 3 rfl ?_
    refine xv_iald C 4 0 (wM4 g _) rfl hf dX6_tell_205 (fun hf => ?_)
    refine xv_bipush C 11 dX6_tell_206 (by decide) ?_
    refine xv_icmp_ne C 215 hf dX6_tell_208 (by decide) (fun _ hf => ?_) (fun _ hf => ?_)
    · refine xv_iconst C 1 dX6_tell_211 (by decide) ?_
      refine xv_goto C 216 dX6_tell_212 (by decide) ?_
      refine xv_iast C 8 0 (wM8 g _) rfl (up a 8 ((((6 : Int32) * (a 4 ((x1 + 1).toNatClampNeg))) + 5).toNatClampNeg) 1) (pM8 g _ _ _) hf dX6_tell_216 (fun hf => ?_)
      exact xz_v hret hf dX6_tell_217
    · refine xv_iconst C 0 dX6_tell_215 (by decide) ?_
      refine xv_iast C 8 0 (wM8 g _) rfl (up a 8 ((((6 : Int32) * (a 4 ((x1 + 1).toNatClampNeg))) + 5).toNatClampNeg) 0) (pM8 g _ _ _) hf dX6_tell_216 (fun hf => ?_)
      exact xz_v hret hf dX6_tell_217
  have hf := dt_neg hs11 hf
  by_cases hs12 : a 4 x1.toNatClampNeg = 12
  · have hf := dt_pos hs12 hf
    refine xv_tin C (off := 166) 190 hs12 dX6_tell_24 (by decide) (by decide) (by decide) (by decide) ?_
    refine xv_aload_n C dX6_tell_190 rfl 2 rfl ?_
    refine xv_get C hiX6 0 (wM0 g _) rfl 10 (by decide) (List.mem_of_getElem? (i := 6) rfl) rfl dX6_tell_191 ?_
    refine xv_bipush C 6 dX6_tell_194 (by decide) ?_
    refine xv_iload_n C dX6_tell_196 rfl 1 rfl ?_
    refine xv_imul C dX6_tell_197 ?_
    refine xv_iconst C 5 dX6_tell_198 (by decide) ?_
    refine xv_iadd C dX6_tell_199 ?_
    refine xv_aload_n C dX6_tell_200 rfl 2 rfl ?_
    refine xv_get C hiX6 0 (wM0 g _) rfl 4 (by decide) (List.mem_of_getElem? (i := 1) rfl) rfl dX6_tell_201 ?_
    refine xv_iload_n C dX6_tell_204 rfl 3 rfl ?_
    refine xv_iald C 4 0 (wM4 g _) rfl hf dX6_tell_205 (fun hf => ?_)
    refine xv_bipush C 11 dX6_tell_206 (by decide) ?_
    refine xv_icmp_ne C 215 hf dX6_tell_208 (by decide) (fun _ hf => ?_) (fun _ hf => ?_)
    · refine xv_iconst C 1 dX6_tell_211 (by decide) ?_
      refine xv_goto C 216 dX6_tell_212 (by decide) ?_
      refine xv_iast C 8 0 (wM8 g _) rfl (up a 8 ((((6 : Int32) * (a 4 ((x1 + 1).toNatClampNeg))) + 5).toNatClampNeg) 1) (pM8 g _ _ _) hf dX6_tell_216 (fun hf => ?_)
      exact xz_v hret hf dX6_tell_217
    · refine xv_iconst C 0 dX6_tell_215 (by decide) ?_
      refine xv_iast C 8 0 (wM8 g _) rfl (up a 8 ((((6 : Int32) * (a 4 ((x1 + 1).toNatClampNeg))) + 5).toNatClampNeg) 0) (pM8 g _ _ _) hf dX6_tell_216 (fun hf => ?_)
      exact xz_v hret hf dX6_tell_217
  have hf := dt_neg hs12 hf
  have e0 := lv_neT (a := 0) hs0 (by decide)
  have e1 := lv_neT (a := 1) hs1 (by decide)
  have e2 := lv_neT (a := 2) hs2 (by decide)
  have e3 := lv_neT (a := 3) hs3 (by decide)
  have e4 := lv_neT (a := 4) hs4 (by decide)
  have e5 := lv_neT (a := 5) hs5 (by decide)
  have e6 := lv_neT (a := 6) hs6 (by decide)
  have e7 := lv_neT (a := 7) hs7 (by decide)
  have e8 := lv_neT (a := 8) hs8 (by decide)
  have e9 := lv_neT (a := 9) hs9 (by decide)
  have e10 := lv_neT (a := 10) hs10 (by decide)
  have e11 := lv_neT (a := 11) hs11 (by decide)
  have e12 := lv_neT (a := 12) hs12 (by decide)
  refine xv_tout C 218 dX6_tell_24 (by omega) (by decide) ?_
  refine xv_aload_n C dX6_tell_218 rfl 2 rfl ?_
  refine xv_iload_n C dX6_tell_219 rfl 3 rfl ?_
  obtain ⟨q7, hg, hf⟩ := dt_bind hf
  refine xc_v (xr_V C (ci := 6) (As := [.int x1]) (fun l => c_X6_tellDeed g hS l n x1 a q7 hg) gX6_tell_X6_tellDeed rfl ⟨rfl, rfl⟩ hdV_X6_tellDeed ⟨Nat.le_of_ble_eq_true rfl, Nat.le_of_ble_eq_true rfl⟩ 0 rfl rfl (wM0 g _) rfl rfl (Nat.le_of_ble_eq_true rfl) dX6_tell_220) ?_
  exact xz_v hret hf dX6_tell_223
