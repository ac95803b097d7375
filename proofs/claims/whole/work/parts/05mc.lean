set_option maxRecDepth 100000 in
set_option maxHeartbeats 4000000 in
theorem c_X6_street (g : GM) (hS : xSide (sM g)) (l : Launch) (n : Nat) (a : St) (q : (Int32 × St)) (hf : f_X6_street n a = some q) : Met l yX6_street wsX6_street rm_X6_street (xPre (sM g) [.ref (aM g 0)] a) (xPostI (sM g) q.1 q.2) 0 0 (sM g).2.2.1 := by
  refine xm_i (av := [.ref (aM g 0)]) (cc := cX6_street) (maxL := 2) (by decide) rfl (Nat.le_of_ble_eq_true rfl) hS.1 hS.2 (fun K C hret => ?_)
  have C : CC K (sM g) cX6_street 2 wsX6_street RX6 rm_X6_street := C
  have hiX6 : ∀ w ∈ u_ws RX6 TX6 26, w ∈ wsX6_street := fun w h => List.mem_cons_of_mem _ (List.mem_append_right _ h)
  have hB56 : ∀  (a : St), B_X6_street_56 n a = some q → V K (sM g) 2 a [(0, .ref (aM g 0))] 56 [] := by
    intro a hf
    rw [B_X6_street_56] at hf
    refine xv_aload_n C dX6_street_56 rfl 0 rfl ?_
    refine xv_iconst C 0 dX6_street_57 (by decide) ?_
    refine xv_put C hiX6 tyX6 tyX6_ok nmX6 0 (wM0 g _) rfl 19 (by decide) (List.mem_of_getElem? (i := 3) rfl) rfl (tyX6_ok 19 (by decide)) rfl rfl (Nat.le_of_ble_eq_true rfl) (up a 0 19 0) (pM0_19 g _ _) dX6_street_58 ?_
    refine xv_aload_n C dX6_street_61 rfl 0 rfl ?_
    refine xv_iconst C 0 dX6_street_62 (by decide) ?_
    refine xv_put C hiX6 tyX6 tyX6_ok nmX6 0 (wM0 g _) rfl 25 (by decide) (List.mem_of_getElem? (i := 4) rfl) rfl (tyX6_ok 25 (by decide)) rfl rfl (Nat.le_of_ble_eq_true rfl) (up (up a 0 19 0) 0 25 0) (pM0_25 g _ _) dX6_street_63 ?_
    refine xv_aload_n C dX6_street_66 rfl 0 rfl ?_
    refine xv_get C hiX6 0 (wM0 g _) rfl 1 (by decide) (List.mem_of_getElem? (i := 5) rfl) rfl dX6_street_67 ?_
    refine xv_iconst C 0 dX6_street_70 (by decide) ?_
    refine xv_iconst C 0 dX6_street_71 (by decide) ?_
    refine xv_zast C 2 1 (wM2 g _) rfl (by decide) (up (up (up a 0 19 0) 0 25 0) 2 ((0 : Int32).toNatClampNeg) 0) (pM2 g _ _ _) (B := some ()) (w := ()) (by decide) dX6_street_72 (fun _ => ?_)
    refine xv_aload_n C dX6_street_73 rfl 0 rfl ?_
    refine xv_get C hiX6 0 (wM0 g _) rfl 1 (by decide) (List.mem_of_getElem? (i := 5) rfl) rfl dX6_street_74 ?_
    refine xv_iconst C 1 dX6_street_77 (by decide) ?_
    refine xv_iconst C 0 dX6_street_78 (by decide) ?_
    refine xv_zast C 2 1 (wM2 g _) rfl (by decide) (up (up (up (up a 0 19 0) 0 25 0) 2 ((0 : Int32).toNatClampNeg) 0) 2 ((1 : Int32).toNatClampNeg) 0) (pM2 g _ _ _) (B := some ()) (w := ()) (by decide) dX6_street_79 (fun _ => ?_)
    refine xv_aload_n C dX6_street_80 rfl 0 rfl ?_
    refine xv_iconst C 0 dX6_street_81 (by decide) ?_
    refine xv_put C hiX6 tyX6 tyX6_ok nmX6 0 (wM0 g _) rfl 3 (by decide) (List.mem_of_getElem? (i := 6) rfl) rfl (tyX6_ok 3 (by decide)) rfl rfl (Nat.le_of_ble_eq_true rfl) (up (up (up (up (up a 0 19 0) 0 25 0) 2 ((0 : Int32).toNatClampNeg) 0) 2 ((1 : Int32).toNatClampNeg) 0) 0 3 0) (pM0_3 g _ _) dX6_street_82 ?_
    refine xv_aload_n C dX6_street_85 rfl 0 rfl ?_
    refine xv_get C hiX6 0 (wM0 g _) rfl 5 (by decide) (List.mem_of_getElem? (i := 1) rfl) rfl dX6_street_86 ?_
    exact xz_iw hret hf dX6_street_89
  have hL37 : ∀  (j : Nat) (x1 : Int32) (a : St), L_X6_street_37 n j x1 a = some q → V K (sM g) 2 a [(0, .ref (aM g 0)), (1, .int x1)] 37 [] := by
    intro j
    induction j with
    | zero =>
      intro x1 a hf
      have hf : (none : Option (Int32 × St)) = some q := hf
      cases hf
    | succ j ih =>
      intro x1 a hf
      rw [L_X6_street_37] at hf
      refine xv_iload_n C dX6_street_37 rfl 1 rfl ?_
      refine xv_bipush C 17 dX6_street_38 (by decide) ?_
      refine xv_icmp_ge C 56 hf dX6_street_40 (by decide) (fun _ hf => ?_) (fun _ hf => ?_)
      · refine xv_eq [0] rfl ?_
        exact hB56 a hf
      · refine xv_aload_n C dX6_street_43 rfl 0 rfl ?_
        refine xv_get C hiX6 0 (wM0 g _) rfl 0 (by decide) (List.mem_of_getElem? (i := 2) rfl) rfl dX6_street_44 ?_
        refine xv_iload_n C dX6_street_47 rfl 1 rfl ?_
        refine xv_iconst C 0 dX6_street_48 (by decide) ?_
        refine xv_iast C 1 0 (wM1 g _) rfl (up a 1 x1.toNatClampNeg 0) (pM1 g _ _ _) hf dX6_street_49 (fun hf => ?_)
        refine xv_iinc C [(1, .int (x1 + 1)), (0, .ref (aM g 0))] dX6_street_50 1 rfl rfl (by decide) rfl ?_
        refine xv_goto C 37 dX6_street_53 (by decide) ?_
        refine xv_eq [1, 0] rfl ?_
        exact ih (x1 + 1) (up a 1 x1.toNatClampNeg 0) hf
  have hB34 : ∀  (a : St), B_X6_street_34 n a = some q → V K (sM g) 2 a [(0, .ref (aM g 0))] 34 [] := by
    intro a hf
    rw [B_X6_street_34] at hf
    refine xv_bipush C 8 dX6_street_34 (by decide) ?_
    refine xv_istore_n C [(1, .int 8), (0, .ref (aM g 0))] dX6_street_36 rfl (by decide) rfl ?_
    refine xv_eq [1, 0] rfl ?_
    exact hL37 n 8 a hf
  have hL13 : ∀  (j : Nat) (x1 : Int32) (a : St), L_X6_street_13 n j x1 a = some q → V K (sM g) 2 a [(0, .ref (aM g 0)), (1, .int x1)] 13 [] := by
    intro j
    induction j with
    | zero =>
      intro x1 a hf
      have hf : (none : Option (Int32 × St)) = some q := hf
      cases hf
    | succ j ih =>
      intro x1 a hf
      rw [L_X6_street_13] at hf
      refine xv_iload_n C dX6_street_13 rfl 1 rfl ?_
      refine xv_aload_n C dX6_street_14 rfl 0 rfl ?_
      refine xv_get C hiX6 0 (wM0 g _) rfl 5 (by decide) (List.mem_of_getElem? (i := 1) rfl) rfl dX6_street_15 ?_
      refine xv_icmp_ge C 34 hf dX6_street_18 (by decide) (fun _ hf => ?_) (fun _ hf => ?_)
      · refine xv_eq [0] rfl ?_
        exact hB34 a hf
      · refine xv_aload_n C dX6_street_21 rfl 0 rfl ?_
        refine xv_iconst C 5 dX6_street_22 (by decide) ?_
        refine xv_iload_n C dX6_street_23 rfl 1 rfl ?_
        refine xv_imul C dX6_street_24 ?_
        obtain ⟨q2, hg, hf⟩ := dt_bind hf
        refine xc_v (xr_V C (ci := 6) (As := [.int ((5 : Int32) * x1)]) (fun l => c_X6_tell g hS l n ((5 : Int32) * x1) a q2 hg) gX6_street_X6_tell rfl ⟨rfl, rfl⟩ hdV_X6_tell ⟨Nat.le_of_ble_eq_true rfl, Nat.le_of_ble_eq_true rfl⟩ 0 rfl rfl (wM0 g _) rfl rfl (Nat.le_of_ble_eq_true rfl) dX6_street_25) ?_
        refine xv_iinc C [(1, .int (x1 + 1)), (0, .ref (aM g 0))] dX6_street_28 1 rfl rfl (by decide) rfl ?_
        refine xv_goto C 13 dX6_street_31 (by decide) ?_
        refine xv_eq [1, 0] rfl ?_
        exact ih (x1 + 1) q2 hf
  rw [f_X6_street] at hf
  show V K (sM g) 2 a [(0, .ref (aM g 0))] 0 []
  refine xv_aload_n C dX6_street_0 rfl 0 rfl ?_
  obtain ⟨q1, hg, hf⟩ := dt_bind hf
  refine xc_i (xr_V C (ci := 6) (As := []) (fun l => c_X6_fault g hS l n a q1 hg) gX6_street_X6_fault rfl ⟨rfl, rfl⟩ hdV_X6_fault ⟨Nat.le_of_ble_eq_true rfl, Nat.le_of_ble_eq_true rfl⟩ 0 rfl rfl (wM0 g _) rfl rfl (Nat.le_of_ble_eq_true rfl) dX6_street_1) ?_
  refine xv_iconst C (-1) dX6_street_4 (by decide) ?_
  refine xv_icmp_eq C 11 hf dX6_street_5 (by decide) (fun _ hf => ?_) (fun _ hf => ?_)
  · refine xv_iconst C 0 dX6_street_11 (by decide) ?_
    refine xv_istore_n C [(1, .int 0), (0, .ref (aM g 0))] dX6_street_12 rfl (by decide) rfl ?_
    refine xv_eq [1, 0] rfl ?_
    exact hL13 n 0 q1.2 hf
  · refine xv_bipush C (-4) dX6_street_8 (by decide) ?_
    exact xz_iw hret hf dX6_street_10
set_option maxRecDepth 100000 in
set_option maxHeartbeats 4000000 in
theorem c_X6_isHouse (g : GM) (hS : xSide (sM g)) (l : Launch) (x1 : Int32) (a : St) (q : Int32) (hf : f_X6_isHouse x1 a = some q) : Met l yX6_isHouse wsX6_isHouse rm_X6_isHouse (xPre (sM g) [.ref (aM g 0), .int x1] a) (xPostI (sM g) q a) 0 0 (sM g).2.2.1 := by
  refine xm_z (av := [.ref (aM g 0), .int x1]) (cc := cX6_isHouse) (maxL := 2) (by decide) rfl (Nat.le_of_ble_eq_true rfl) hS.1 hS.2 (fun K C hret => ?_)
  have C : CC K (sM g) cX6_isHouse 2 wsX6_isHouse RX6 rm_X6_isHouse := C
  have hiX6 : ∀ w ∈ u_ws RX6 TX6 26, w ∈ wsX6_isHouse := fun w h => List.mem_cons_of_mem _ (List.mem_append_right _ h)
  rw [f_X6_isHouse] at hf
  show V K (sM g) 2 a [(0, .ref (aM g 0)), (1, .int x1)] 0 []
  refine xv_iload_n C dX6_isHouse_0 rfl 1 rfl ?_
  refine xv_i2l C dX6_isHouse_1 ?_
  refine xv_lconst C 0 dX6_isHouse_2 (by decide) ?_
  refine xv_aload_n C dX6_isHouse_3 rfl 0 rfl ?_
  refine xv_get C hiX6 0 (wM0 g _) rfl 6 (by decide) (List.mem_of_getElem? (i := 1) rfl) rfl dX6_isHouse_4 ?_
  refine xv_iconst C 1 dX6_isHouse_7 (by decide) ?_
  refine xv_isub C dX6_isHouse_8 ?_
  refine xv_i2l C dX6_isHouse_9 ?_
  obtain ⟨q1, hg, hf⟩ := dt_bind hf
  refine xc_i (xr_S C (As := [.long x1.toInt64, .long 0, .long (((a 0 6) - 1).toInt64)]) (fun l => c_X6_in (sM g) hS l x1.toInt64 0 (((a 0 6) - 1).toInt64) a q1 hg) gX6_isHouse_X6_in rfl ⟨rfl, rfl⟩ hdS_X6_in ⟨Nat.le_of_ble_eq_true rfl, Nat.le_of_ble_eq_true rfl⟩ rfl rfl (Nat.le_of_ble_eq_true rfl) dX6_isHouse_10) ?_
  exact xz_zgr hret hf dX6_isHouse_13
set_option maxRecDepth 100000 in
set_option maxHeartbeats 4000000 in
theorem c_X6_house (g : GM) (hS : xSide (sM g)) (l : Launch) (x1 : Int32) (x2 : Int32) (a : St) (q : Int32) (hf : f_X6_house x1 x2 a = some q) : Met l yX6_house wsX6_house rm_X6_house (xPre (sM g) [.ref (aM g 0), .int x1, .int x2] a) (xPostI (sM g) q a) 0 0 (sM g).2.2.1 := by
  refine xm_i (av := [.ref (aM g 0), .int x1, .int x2]) (cc := cX6_house) (maxL := 3) (by decide) rfl (Nat.le_of_ble_eq_true rfl) hS.1 hS.2 (fun K C hret => ?_)
  have C : CC K (sM g) cX6_house 3 wsX6_house RX6 rm_X6_house := C
  have hiX6 : ∀ w ∈ u_ws RX6 TX6 26, w ∈ wsX6_house := fun w h => List.mem_cons_of_mem _ (List.mem_append_right _ h)
  rw [f_X6_house] at hf
  show V K (sM g) 3 a [(0, .ref (aM g 0)), (1, .int x1), (2, .int x2)] 0 []
  refine xv_aload_n C dX6_house_0 rfl 0 rfl ?_
  refine xv_iload_n C dX6_house_1 rfl 1 rfl ?_
  obtain ⟨q1, hg, hf⟩ := dt_bind hf
  refine xc_i (xr_V C (ci := 6) (As := [.int x1]) (fun l => c_X6_isHouse g hS l x1 a q1 hg) gX6_house_X6_isHouse rfl ⟨rfl, rfl⟩ hdV_X6_isHouse ⟨Nat.le_of_ble_eq_true rfl, Nat.le_of_ble_eq_true rfl⟩ 0 rfl rfl (wM0 g _) rfl rfl (Nat.le_of_ble_eq_true rfl) dX6_house_2) ?_
  refine xv_if_ne C (y := 0) 11 hf dX6_house_5 (by decide) (fun _ hf => ?_) (fun _ hf => ?_)
  · refine xv_bipush C (-2) dX6_house_8 (by decide) ?_
    exact xz_ir hret hf dX6_house_10
  · refine xv_iload_n C dX6_house_11 rfl 2 rfl ?_
    by_cases hs0 : x2 = 0
    · have hf := dt_pos hs0 hf
      refine xv_tin C (off := 32) 44 hs0 dX6_house_12 (by decide) (by decide) (by decide) (by decide) ?_
      refine xv_aload_n C dX6_house_44 rfl 0 rfl ?_
      refine xv_get C hiX6 0 (wM0 g _) rfl 7 (by decide) (List.mem_of_getElem? (i := 1) rfl) rfl dX6_house_45 ?_
      refine xv_iload_n C dX6_house_48 rfl 1 rfl ?_
      refine xv_iald C 5 0 (wM5 g _) rfl hf dX6_house_49 (fun hf => ?_)
      exact xz_ir hret hf dX6_house_50
    have hf := dt_neg hs0 hf
    by_cases hs1 : x2 = 1
    · have hf := dt_pos hs1 hf
      refine xv_tin C (off := 39) 51 hs1 dX6_house_12 (by decide) (by decide) (by decide) (by decide) ?_
      refine xv_aload_n C dX6_house_51 rfl 0 rfl ?_
      refine xv_get C hiX6 0 (wM0 g _) rfl 8 (by decide) (List.mem_of_getElem? (i := 2) rfl) rfl dX6_house_52 ?_
      refine xv_iload_n C dX6_house_55 rfl 1 rfl ?_
      refine xv_iald C 6 0 (wM6 g _) rfl hf dX6_house_56 (fun hf => ?_)
      exact xz_ir hret hf dX6_house_57
    have hf := dt_neg hs1 hf
    by_cases hs2 : x2 = 2
    · have hf := dt_pos hs2 hf
      refine xv_tin C (off := 46) 58 hs2 dX6_house_12 (by decide) (by decide) (by decide) (by decide) ?_
      refine xv_aload_n C dX6_house_58 rfl 0 rfl ?_
      refine xv_get C hiX6 0 (wM0 g _) rfl 0 (by decide) (List.mem_of_getElem? (i := 3) rfl) rfl dX6_house_59 ?_
      refine xv_iload_n C dX6_house_62 rfl 1 rfl ?_
      refine xv_iald C 1 0 (wM1 g _) rfl hf dX6_house_63 (fun hf => ?_)
      exact xz_ir hret hf dX6_house_64
    have hf := dt_neg hs2 hf
    by_cases hs3 : x2 = 3
    · have hf := dt_pos hs3 hf
      refine xv_tin C (off := 53) 65 hs3 dX6_house_12 (by decide) (by decide) (by decide) (by decide) ?_
      refine xv_aload_n C dX6_house_65 rfl 0 rfl ?_
      refine xv_get C hiX6 0 (wM0 g _) rfl 0 (by decide) (List.mem_of_getElem? (i := 3) rfl) rfl dX6_house_66 ?_
      refine xv_bipush C 9 dX6_house_69 (by decide) ?_
      refine xv_iload_n C dX6_house_71 rfl 1 rfl ?_
      refine xv_iadd C dX6_house_72 ?_
      refine xv_iald C 1 0 (wM1 g _) rfl hf dX6_house_73 (fun hf => ?_)
      exact xz_ir hret hf dX6_house_74
    have hf := dt_neg hs3 hf
    have e0 := lv_neT (a := 0) hs0 (by decide)
    have e1 := lv_neT (a := 1) hs1 (by decide)
    have e2 := lv_neT (a := 2) hs2 (by decide)
    have e3 := lv_neT (a := 3) hs3 (by decide)
    refine xv_tout C 75 dX6_house_12 (by omega) (by decide) ?_
    refine xv_bipush C (-3) dX6_house_75 (by decide) ?_
    exact xz_ir hret hf dX6_house_77
set_option maxRecDepth 100000 in
set_option maxHeartbeats 4000000 in
theorem c_X6_isDeed (g : GM) (hS : xSide (sM g)) (l : Launch) (x1 : Int32) (a : St) (q : Int32) (hf : f_X6_isDeed x1 a = some q) : Met l yX6_isDeed wsX6_isDeed rm_X6_isDeed (xPre (sM g) [.ref (aM g 0), .int x1] a) (xPostI (sM g) q a) 0 0 (sM g).2.2.1 := by
  refine xm_z (av := [.ref (aM g 0), .int x1]) (cc := cX6_isDeed) (maxL := 2) (by decide) rfl (Nat.le_of_ble_eq_true rfl) hS.1 hS.2 (fun K C hret => ?_)
  have C : CC K (sM g) cX6_isDeed 2 wsX6_isDeed RX6 rm_X6_isDeed := C
  have hiX6 : ∀ w ∈ u_ws RX6 TX6 26, w ∈ wsX6_isDeed := fun w h => List.mem_cons_of_mem _ (List.mem_append_right _ h)
  rw [f_X6_isDeed] at hf
  show V K (sM g) 2 a [(0, .ref (aM g 0)), (1, .int x1)] 0 []
  refine xv_iload_n C dX6_isDeed_0 rfl 1 rfl ?_
  refine xv_i2l C dX6_isDeed_1 ?_
  refine xv_lconst C 0 dX6_isDeed_2 (by decide) ?_
  refine xv_aload_n C dX6_isDeed_3 rfl 0 rfl ?_
  refine xv_get C hiX6 0 (wM0 g _) rfl 11 (by decide) (List.mem_of_getElem? (i := 1) rfl) rfl dX6_isDeed_4 ?_
  refine xv_iconst C 1 dX6_isDeed_7 (by decide) ?_
  refine xv_isub C dX6_isDeed_8 ?_
  refine xv_i2l C dX6_isDeed_9 ?_
  obtain ⟨q1, hg, hf⟩ := dt_bind hf
  refine xc_i (xr_S C (As := [.long x1.toInt64, .long 0, .long (((a 0 11) - 1).toInt64)]) (fun l => c_X6_in (sM g) hS l x1.toInt64 0 (((a 0 11) - 1).toInt64) a q1 hg) gX6_isDeed_X6_in rfl ⟨rfl, rfl⟩ hdS_X6_in ⟨Nat.le_of_ble_eq_true rfl, Nat.le_of_ble_eq_true rfl⟩ rfl rfl (Nat.le_of_ble_eq_true rfl) dX6_isDeed_10) ?_
  exact xz_zgr hret hf dX6_isDeed_13
set_option maxRecDepth 100000 in
set_option maxHeartbeats 4000000 in
theorem c_X6_deed (g : GM) (hS : xSide (sM g)) (l : Launch) (x1 : Int32) (x2 : Int32) (a : St) (q : Int32) (hf : f_X6_deed x1 x2 a = some q) : Met l yX6_deed wsX6_deed rm_X6_deed (xPre (sM g) [.ref (aM g 0), .int x1, .int x2] a) (xPostI (sM g) q a) 0 0 (sM g).2.2.1 := by
  refine xm_i (av := [.ref (aM g 0), .int x1, .int x2]) (cc := cX6_deed) (maxL := 3) (by decide) rfl (Nat.le_of_ble_eq_true rfl) hS.1 hS.2 (fun K C hret => ?_)
  have C : CC K (sM g) cX6_deed 3 wsX6_deed RX6 rm_X6_deed := C
  have hiX6 : ∀ w ∈ u_ws RX6 TX6 26, w ∈ wsX6_deed := fun w h => List.mem_cons_of_mem _ (List.mem_append_right _ h)
  rw [f_X6_deed] at hf
  show V K (sM g) 3 a [(0, .ref (aM g 0)), (1, .int x1), (2, .int x2)] 0 []
  refine xv_aload_n C dX6_deed_0 rfl 0 rfl ?_
  refine xv_iload_n C dX6_deed_1 rfl 1 rfl ?_
  obtain ⟨q1, hg, hf⟩ := dt_bind hf
  refine xc_i (xr_V C (ci := 6) (As := [.int x1]) (fun l => c_X6_isDeed g hS l x1 a q1 hg) gX6_deed_X6_isDeed rfl ⟨rfl, rfl⟩ hdV_X6_isDeed ⟨Nat.le_of_ble_eq_true rfl, Nat.le_of_ble_eq_true rfl⟩ 0 rfl rfl (wM0 g _) rfl rfl (Nat.le_of_ble_eq_true rfl) dX6_deed_2) ?_
  refine xv_if_ne C (y := 0) 11 hf dX6_deed_5 (by decide) (fun _ hf => ?_) (fun _ hf => ?_)
  · refine xv_bipush C (-2) dX6_deed_8 (by decide) ?_
    exact xz_ir hret hf dX6_deed_10
  · refine xv_iload_n C dX6_deed_11 rfl 2 rfl ?_
    refine xv_i2l C dX6_deed_12 ?_
    refine xv_lconst C 0 dX6_deed_13 (by decide) ?_
    refine xv_ldc2 C 5 dX6_deed_14 (List.mem_of_getElem? (i := 1) rfl) ?_
    obtain ⟨q2, hg, hf⟩ := dt_bind hf
    refine xc_i (xr_S C (As := [.long x2.toInt64, .long 0, .long 5]) (fun l => c_X6_in (sM g) hS l x2.toInt64 0 5 a q2 hg) gX6_deed_X6_in rfl ⟨rfl, rfl⟩ hdS_X6_in ⟨Nat.le_of_ble_eq_true rfl, Nat.le_of_ble_eq_true rfl⟩ rfl rfl (Nat.le_of_ble_eq_true rfl) dX6_deed_17) ?_
    refine xv_if_eq C (y := 0) 37 hf dX6_deed_20 (by decide) (fun _ hf => ?_) (fun _ hf => ?_)
    · refine xv_bipush C (-3) dX6_deed_37 (by decide) ?_
      exact xz_ir hret hf dX6_deed_39
    · refine xv_aload_n C dX6_deed_23 rfl 0 rfl ?_
      refine xv_get C hiX6 0 (wM0 g _) rfl 10 (by decide) (List.mem_of_getElem? (i := 2) rfl) rfl dX6_deed_24 ?_
      refine xv_bipush C 6 dX6_deed_27 (by decide) ?_
      refine xv_iload_n C dX6_deed_29 rfl 1 rfl ?_
      refine xv_imul C dX6_deed_30 ?_
      refine xv_iload_n C dX6_deed_31 rfl 2 rfl ?_
      refine xv_iadd C dX6_deed_32 ?_
      refine xv_iald C 8 0 (wM8 g _) rfl hf dX6_deed_33 (fun hf => ?_)
      refine xv_goto C 39 dX6_deed_34 (by decide) ?_
      exact xz_ir hret hf dX6_deed_39
set_option maxRecDepth 100000 in
set_option maxHeartbeats 4000000 in
theorem c_X6_as (g : GM) (hS : xSide (sM g)) (l : Launch) (n : Nat) (x1 : Int32) (x2 : Int32) (a : St) (q : Int32) (hf : f_X6_as n x1 x2 a = some q) : Met l yX6_as wsX6_as rm_X6_as (xPre (sM g) [.ref (aM g 0), .int x1, .int x2] a) (xPostI (sM g) q a) 0 0 (sM g).2.2.1 := by
  refine xm_i (av := [.ref (aM g 0), .int x1, .int x2]) (cc := cX6_as) (maxL := 7) (by decide) rfl (Nat.le_of_ble_eq_true rfl) hS.1 hS.2 (fun K C hret => ?_)
  have C : CC K (sM g) cX6_as 7 wsX6_as RX6 rm_X6_as := C
  have hiX6 : ∀ w ∈ u_ws RX6 TX6 26, w ∈ wsX6_as := fun w h => List.mem_cons_of_mem _ (List.mem_append_right _ h)
  have hL101 : ∀ (x1 : Int32)  (j : Nat) (x5 : Int32) (x6 : Int32), L_X6_as_101 n x1 a j x5 x6 = some q → V K (sM g) 7 a [(0, .ref (aM g 0)), (1, .int x1), (5, .int x5), (6, .int x6)] 101 [] := by
    intro x1 j
    induction j with
    | zero =>
      intro x5 x6 hf
      have hf : (none : Option Int32) = some q := hf
      cases hf
    | succ j ih =>
      intro x5 x6 hf
      rw [L_X6_as_101] at hf
      refine xv_iload C dX6_as_101 3 rfl ?_
      refine xv_aload_n C dX6_as_103 rfl 0 rfl ?_
      refine xv_get C hiX6 0 (wM0 g _) rfl 6 (by decide) (List.mem_of_getElem? (i := 3) rfl) rfl dX6_as_104 ?_
      refine xv_icmp_ge C 139 hf dX6_as_107 (by decide) (fun _ hf => ?_) (fun _ hf => ?_)
      · refine xv_iload C dX6_as_139 2 rfl ?_
        exact xz_ir hret hf dX6_as_141
      · refine xv_iload C dX6_as_110 2 rfl ?_
        refine xv_aload_n C dX6_as_112 rfl 0 rfl ?_
        refine xv_iload C dX6_as_113 3 rfl ?_
        refine xv_iload_n C dX6_as_115 rfl 1 rfl ?_
        obtain ⟨q3, hg, hf⟩ := dt_bind hf
        refine xc_i (xr_V C (ci := 6) (As := [.int x6, .int x1]) (fun l => c_X6_can g hS l n x6 x1 a q3 hg) gX6_as_X6_can rfl ⟨rfl, rfl⟩ hdV_X6_can ⟨Nat.le_of_ble_eq_true rfl, Nat.le_of_ble_eq_true rfl⟩ 0 rfl rfl (wM0 g _) rfl rfl (Nat.le_of_ble_eq_true rfl) dX6_as_116) ?_
        refine xv_if_eq C (y := 0) 129 hf dX6_as_119 (by decide) (fun _ hf => ?_) (fun _ hf => ?_)
        · refine xv_iconst C 0 dX6_as_129 (by decide) ?_
          refine xv_ior C dX6_as_130 ?_
          refine xv_istore C [(5, .int (x5 ||| 0)), (0, .ref (aM g 0)), (1, .int x1), (6, .int x6)] dX6_as_131 (by decide) rfl ?_
          refine xv_iinc C [(6, .int (x6 + 1)), (5, .int (x5 ||| 0)), (0, .ref (aM g 0)), (1, .int x1)] dX6_as_133 3 rfl rfl (by decide) rfl ?_
          refine xv_goto C 101 dX6_as_136 (by decide) ?_
          refine xv_eq [2, 3, 1, 0] rfl ?_
          exact ih (x5 ||| 0) (x6 + 1) hf
        · refine xv_iconst C 1 dX6_as_122 (by decide) ?_
          refine xv_iload C dX6_as_123 3 rfl ?_
          refine xv_ishl C dX6_as_125 ?_
          refine xv_goto C 130 dX6_as_126 (by decide) ?_
          refine xv_ior C dX6_as_130 ?_
          refine xv_istore C [(5, .int (x5 ||| ((1 : Int32) <<< (x6 &&& 31)))), (0, .ref (aM g 0)), (1, .int x1), (6, .int x6)] dX6_as_131 (by decide) rfl ?_
          refine xv_iinc C [(6, .int (x6 + 1)), (5, .int (x5 ||| ((1 : Int32) <<< (x6 &&& 31)))), (0, .ref (aM g 0)), (1, .int x1)] dX6_as_133 3 rfl rfl (by decide) rfl ?_
          refine xv_goto C 101 dX6_as_136 (by decide) ?_
          refine xv_eq [2, 3, 1, 0] rfl ?_
          exact ih (x5 ||| ((1 : Int32) <<< (x6 &&& 31))) (x6 + 1) hf
  rw [f_X6_as] at hf
  show V K (sM g) 7 a [(0, .ref (aM g 0)), (1, .int x1), (2, .int x2)] 0 []
  refine xv_aload_n C dX6_as_0 rfl 0 rfl ?_
  refine xv_iload_n C dX6_as_1 rfl 1 rfl ?_
  obtain ⟨q1, hg, hf⟩ := dt_bind hf
  refine xc_i (xr_V C (ci := 6) (As := [.int x1]) (fun l => c_X6_isDeed g hS l x1 a q1 hg) gX6_as_X6_isDeed rfl ⟨rfl, rfl⟩ hdV_X6_isDeed ⟨Nat.le_of_ble_eq_true rfl, Nat.le_of_ble_eq_true rfl⟩ 0 rfl rfl (wM0 g _) rfl rfl (Nat.le_of_ble_eq_true rfl) dX6_as_2) ?_
  refine xv_if_ne C (y := 0) 11 hf dX6_as_5 (by decide) (fun _ hf => ?_) (fun _ hf => ?_)
  · refine xv_bipush C (-2) dX6_as_8 (by decide) ?_
    exact xz_ir hret hf dX6_as_10
  · refine xv_iload_n C dX6_as_11 rfl 2 rfl ?_
    refine xv_i2l C dX6_as_12 ?_
    refine xv_lconst C 0 dX6_as_13 (by decide) ?_
    refine xv_ldc2 C 4 dX6_as_14 (List.mem_of_getElem? (i := 1) rfl) ?_
    obtain ⟨q2, hg, hf⟩ := dt_bind hf
    refine xc_i (xr_S C (As := [.long x2.toInt64, .long 0, .long 4]) (fun l => c_X6_in (sM g) hS l x2.toInt64 0 4 a q2 hg) gX6_as_X6_in rfl ⟨rfl, rfl⟩ hdS_X6_in ⟨Nat.le_of_ble_eq_true rfl, Nat.le_of_ble_eq_true rfl⟩ rfl rfl (Nat.le_of_ble_eq_true rfl) dX6_as_17) ?_
    refine xv_if_ne C (y := 0) 26 hf dX6_as_20 (by decide) (fun _ hf => ?_) (fun _ hf => ?_)
    · refine xv_bipush C (-3) dX6_as_23 (by decide) ?_
      exact xz_ir hret hf dX6_as_25
    · refine xv_aload_n C dX6_as_26 rfl 0 rfl ?_
      refine xv_get C hiX6 0 (wM0 g _) rfl 10 (by decide) (List.mem_of_getElem? (i := 2) rfl) rfl dX6_as_27 ?_
      refine xv_bipush C 6 dX6_as_30 (by decide) ?_
      refine xv_iload_n C dX6_as_32 rfl 1 rfl ?_
      refine xv_imul C dX6_as_33 ?_
      refine xv_iconst C 0 dX6_as_34 (by decide) ?_
      refine xv_iadd C dX6_as_35 ?_
      refine xv_iald C 8 0 (wM8 g _) rfl hf dX6_as_36 (fun hf => ?_)
      refine xv_istore_n C [(3, .int (a 8 ((((6 : Int32) * x1) + 0).toNatClampNeg))), (0, .ref (aM g 0)), (1, .int x1), (2, .int x2)] dX6_as_37 rfl (by decide) rfl ?_
      refine xv_iload_n C dX6_as_38 rfl 3 rfl ?_
      refine xv_if_eq C (y := 0) 80 hf dX6_as_39 (by decide) (fun _ hf => ?_) (fun _ hf => ?_)
      · refine xv_iconst C 1 dX6_as_80 (by decide) ?_
        refine xv_goto C 85 dX6_as_81 (by decide) ?_
        refine xv_istore C [(4, .int 1), (3, .int (a 8 ((((6 : Int32) * x1) + 0).toNatClampNeg))), (0, .ref (aM g 0)), (1, .int x1), (2, .int x2)] dX6_as_85 (by decide) rfl ?_
        refine xv_iload C dX6_as_87 0 rfl ?_
        refine xv_if_ne C (y := 0) (A := (none : Option Unit)) (B := some ()) (v := ()) 95 (by decide) dX6_as_89 (by decide) (fun _ hf => by cases hf) (fun _ _ => ?_)
        refine xv_iconst C 0 dX6_as_95 (by decide) ?_
        refine xv_istore C [(5, .int 0), (4, .int 1), (3, .int (a 8 ((((6 : Int32) * x1) + 0).toNatClampNeg))), (0, .ref (aM g 0)), (1, .int x1), (2, .int x2)] dX6_as_96 (by decide) rfl ?_
        refine xv_iconst C 0 dX6_as_98 (by decide) ?_
        refine xv_istore C [(6, .int 0), (5, .int 0), (4, .int 1), (3, .int (a 8 ((((6 : Int32) * x1) + 0).toNatClampNeg))), (0, .ref (aM g 0)), (1, .int x1), (2, .int x2)] dX6_as_99 (by decide) rfl ?_
        refine xv_eq [4, 5, 1, 0] rfl ?_
        exact hL101 x1 n 0 0 hf
      · refine xv_iload_n C dX6_as_42 rfl 3 rfl ?_
        refine xv_iconst C 1 dX6_as_43 (by decide) ?_
        refine xv_icmp_ne C 51 hf dX6_as_44 (by decide) (fun _ hf => ?_) (fun _ hf => ?_)
        · refine xv_iload_n C dX6_as_47 rfl 0 rfl ?_
          refine xv_if_eq C (y := 0) 80 hf dX6_as_48 (by decide) (fun _ hf => ?_) (fun _ hf => ?_)
          · refine xv_iconst C 1 dX6_as_80 (by decide) ?_
            refine xv_goto C 85 dX6_as_81 (by decide) ?_
            refine xv_istore C [(4, .int 1), (3, .int (a 8 ((((6 : Int32) * x1) + 0).toNatClampNeg))), (0, .ref (aM g 0)), (1, .int x1), (2, .int x2)] dX6_as_85 (by decide) rfl ?_
            refine xv_iload C dX6_as_87 0 rfl ?_
            refine xv_if_ne C (y := 0) (A := (none : Option Unit)) (B := some ()) (v := ()) 95 (by decide) dX6_as_89 (by decide) (fun _ hf => by cases hf) (fun _ _ => ?_)
            refine xv_iconst C 0 dX6_as_95 (by decide) ?_
            refine xv_istore C [(5, .int 0), (4, .int 1), (3, .int (a 8 ((((6 : Int32) * x1) + 0).toNatClampNeg))), (0, .ref (aM g 0)), (1, .int x1), (2, .int x2)] dX6_as_96 (by decide) rfl ?_
            refine xv_iconst C 0 dX6_as_98 (by decide) ?_
            refine xv_istore C [(6, .int 0), (5, .int 0), (4, .int 1), (3, .int (a 8 ((((6 : Int32) * x1) + 0).toNatClampNeg))), (0, .ref (aM g 0)), (1, .int x1), (2, .int x2)] dX6_as_99 (by decide) rfl ?_
            refine xv_eq [4, 5, 1, 0] rfl ?_
            exact hL101 x1 n 0 0 hf
          · refine xv_iload_n C dX6_as_51 rfl 3 rfl ?_
            refine xv_iconst C 2 dX6_as_52 (by decide) ?_
            refine xv_icmp_ne C 60 hf dX6_as_53 (by decide) (fun _ hf => ?_) (fun _ hf => ?_)
            · refine xv_iload_n C dX6_as_56 rfl 0 rfl ?_
              refine xv_if_ne C (y := 0) 80 hf dX6_as_57 (by decide) (fun _ hf => ?_) (fun _ hf => ?_)
              · refine xv_iload_n C dX6_as_60 rfl 3 rfl ?_
                refine xv_iconst C 3 dX6_as_61 (by decide) ?_
                refine xv_icmp_ne C 70 hf dX6_as_62 (by decide) (fun _ hf => ?_) (fun _ hf => ?_)
                · refine xv_iload_n C dX6_as_65 rfl 0 rfl ?_
                  refine xv_iconst C 2 dX6_as_66 (by decide) ?_
                  refine xv_icmp_eq C 80 hf dX6_as_67 (by decide) (fun _ hf => ?_) (fun _ hf => ?_)
                  · refine xv_iconst C 1 dX6_as_80 (by decide) ?_
                    refine xv_goto C 85 dX6_as_81 (by decide) ?_
                    refine xv_istore C [(4, .int 1), (3, .int (a 8 ((((6 : Int32) * x1) + 0).toNatClampNeg))), (0, .ref (aM g 0)), (1, .int x1), (2, .int x2)] dX6_as_85 (by decide) rfl ?_
                    refine xv_iload C dX6_as_87 0 rfl ?_
                    refine xv_if_ne C (y := 0) (A := (none : Option Unit)) (B := some ()) (v := ()) 95 (by decide) dX6_as_89 (by decide) (fun _ hf => by cases hf) (fun _ _ => ?_)
                    refine xv_iconst C 0 dX6_as_95 (by decide) ?_
                    refine xv_istore C [(5, .int 0), (4, .int 1), (3, .int (a 8 ((((6 : Int32) * x1) + 0).toNatClampNeg))), (0, .ref (aM g 0)), (1, .int x1), (2, .int x2)] dX6_as_96 (by decide) rfl ?_
                    refine xv_iconst C 0 dX6_as_98 (by decide) ?_
                    refine xv_istore C [(6, .int 0), (5, .int 0), (4, .int 1), (3, .int (a 8 ((((6 : Int32) * x1) + 0).toNatClampNeg))), (0, .ref (aM g 0)), (1, .int x1), (2, .int x2)] dX6_as_99 (by decide) rfl ?_
                    refine xv_eq [4, 5, 1, 0] rfl ?_
                    exact hL101 x1 n 0 0 hf
                  · refine xv_iload_n C dX6_as_70 rfl 3 rfl ?_
                    refine xv_iconst C 4 dX6_as_71 (by decide) ?_
                    refine xv_icmp_ne C 84 hf dX6_as_72 (by decide) (fun _ hf => ?_) (fun _ hf => ?_)
                    · refine xv_iload_n C dX6_as_75 rfl 0 rfl ?_
                      refine xv_iconst C 2 dX6_as_76 (by decide) ?_
                      refine xv_icmp_le C 84 hf dX6_as_77 (by decide) (fun _ hf => ?_) (fun _ hf => ?_)
                      · refine xv_iconst C 0 dX6_as_84 (by decide) ?_
                        refine xv_istore C [(4, .int 0), (3, .int (a 8 ((((6 : Int32) * x1) + 0).toNatClampNeg))), (0, .ref (aM g 0)), (1, .int x1), (2, .int x2)] dX6_as_85 (by decide) rfl ?_
                        refine xv_iload C dX6_as_87 0 rfl ?_
                        refine xv_if_ne C (y := 0) (A := some ()) (B := (none : Option Unit)) (v := ()) 95 (by decide) dX6_as_89 (by decide) (fun _ _ => ?_) (fun _ hf => by cases hf)
                        refine xv_bipush C (-4) dX6_as_92 (by decide) ?_
                        exact xz_ir hret hf dX6_as_94
                      · refine xv_iconst C 1 dX6_as_80 (by decide) ?_
                        refine xv_goto C 85 dX6_as_81 (by decide) ?_
                        refine xv_istore C [(4, .int 1), (3, .int (a 8 ((((6 : Int32) * x1) + 0).toNatClampNeg))), (0, .ref (aM g 0)), (1, .int x1), (2, .int x2)] dX6_as_85 (by decide) rfl ?_
                        refine xv_iload C dX6_as_87 0 rfl ?_
                        refine xv_if_ne C (y := 0) (A := (none : Option Unit)) (B := some ()) (v := ()) 95 (by decide) dX6_as_89 (by decide) (fun _ hf => by cases hf) (fun _ _ => ?_)
                        refine xv_iconst C 0 dX6_as_95 (by decide) ?_
                        refine xv_istore C [(5, .int 0), (4, .int 1), (3, .int (a 8 ((((6 : Int32) * x1) + 0).toNatClampNeg))), (0, .ref (aM g 0)), (1, .int x1), (2, .int x2)] dX6_as_96 (by decide) rfl ?_
                        refine xv_iconst C 0 dX6_as_98 (by decide) ?_
                        refine xv_istore C [(6, .int 0), (5, .int 0), (4, .int 1), (3, .int (a 8 ((((6 : Int32) * x1) + 0).toNatClampNeg))), (0, .ref (aM g 0)), (1, .int x1), (2, .int x2)] dX6_as_99 (by decide) rfl ?_
                        refine xv_eq [4, 5, 1, 0] rfl ?_
                        exact hL101 x1 n 0 0 hf
                    · refine xv_iconst C 0 dX6_as_84 (by decide) ?_
                      refine xv_istore C [(4, .int 0), (3, .int (a 8 ((((6 : Int32) * x1) + 0).toNatClampNeg))), (0, .ref (aM g 0)), (1, .int x1), (2, .int x2)] dX6_as_85 (by decide) rfl ?_
                      refine xv_iload C dX6_as_87 0 rfl ?_
                      refine xv_if_ne C (y := 0) (A := some ()) (B := (none : Option Unit)) (v := ()) 95 (by decide) dX6_as_89 (by decide) (fun _ _ => ?_) (fun _ hf => by cases hf)
                      refine xv_bipush C (-4) dX6_as_92 (by decide) ?_
                      exact xz_ir hret hf dX6_as_94
                · refine xv_iload_n C dX6_as_70 rfl 3 rfl ?_
                  refine xv_iconst C 4 dX6_as_71 (by decide) ?_
                  refine xv_icmp_ne C 84 hf dX6_as_72 (by decide) (fun _ hf => ?_) (fun _ hf => ?_)
                  · refine xv_iload_n C dX6_as_75 rfl 0 rfl ?_
                    refine xv_iconst C 2 dX6_as_76 (by decide) ?_
                    refine xv_icmp_le C 84 hf dX6_as_77 (by decide) (fun _ hf => ?_) (fun _ hf => ?_)
                    · refine xv_iconst C 0 dX6_as_84 (by decide) ?_
                      refine xv_istore C [(4, .int 0), (3, .int (a 8 ((((6 : Int32) * x1) + 0).toNatClampNeg))), (0, .ref (aM g 0)), (1, .int x1), (2, .int x2)] dX6_as_85 (by decide) rfl ?_
                      refine xv_iload C dX6_as_87 0 rfl ?_
                      refine xv_if_ne C (y := 0) (A := some ()) (B := (none : Option Unit)) (v := ()) 95 (by decide) dX6_as_89 (by decide) (fun _ _ => ?_) (fun _ hf => by cases hf)
                      refine xv_bipush C (-4) dX6_as_92 (by decide) ?_
                      exact xz_ir hret hf dX6_as_94
                    · refine xv_iconst C 1 dX6_as_80 (by decide) ?_
                      refine xv_goto C 85 dX6_as_81 (by decide) ?_
                      refine xv_istore C [(4, .int 1), (3, .int (a 8 ((((6 : Int32) * x1) + 0).toNatClampNeg))), (0, .ref (aM g 0)), (1, .int x1), (2, .int x2)] dX6_as_85 (by decide) rfl ?_
                      refine xv_iload C dX6_as_87 0 rfl ?_
                      refine xv_if_ne C (y := 0) (A := (none : Option Unit)) (B := some ()) (v := ()) 95 (by decide) dX6_as_89 (by decide) (fun _ hf => by cases hf) (fun _ _ => ?_)
                      refine xv_iconst C 0 dX6_as_95 (by decide) ?_
                      refine xv_istore C [(5, .int 0), (4, .int 1), (3, .int (a 8 ((((6 : Int32) * x1) + 0).toNatClampNeg))), (0, .ref (aM g 0)), (1, .int x1), (2, .int x2)] dX6_as_96 (by decide) rfl ?_
                      refine xv_iconst C 0 dX6_as_98 (by decide) ?_
                      refine xv_istore C [(6, .int 0), (5, .int 0), (4, .int 1), (3, .int (a 8 ((((6 : Int32) * x1) + 0).toNatClampNeg))), (0, .ref (aM g 0)), (1, .int x1), (2, .int x2)] dX6_as_99 (by decide) rfl ?_
                      refine xv_eq [4, 5, 1, 0] rfl ?_
                      exact hL101 x1 n 0 0 hf
                  · refine xv_iconst C 0 dX6_as_84 (by decide) ?_
                    refine xv_istore C [(4, .int 0), (3, .int (a 8 ((((6 : Int32) * x1) + 0).toNatClampNeg))), (0, .ref (aM g 0)), (1, .int x1), (2, .int x2)] dX6_as_85 (by decide) rfl ?_
                    refine xv_iload C dX6_as_87 0 rfl ?_
                    refine xv_if_ne C (y := 0) (A := some ()) (B := (none : Option Unit)) (v := ()) 95 (by decide) dX6_as_89 (by decide) (fun _ _ => ?_) (fun _ hf => by cases hf)
                    refine xv_bipush C (-4) dX6_as_92 (by decide) ?_
                    exact xz_ir hret hf dX6_as_94
              · refine xv_iconst C 1 dX6_as_80 (by decide) ?_
                refine xv_goto C 85 dX6_as_81 (by decide) ?_
                refine xv_istore C [(4, .int 1), (3, .int (a 8 ((((6 : Int32) * x1) + 0).toNatClampNeg))), (0, .ref (aM g 0)), (1, .int x1), (2, .int x2)] dX6_as_85 (by decide) rfl ?_
                refine xv_iload C dX6_as_87 0 rfl ?_
                refine xv_if_ne C (y := 0) (A := (none : Option Unit)) (B := some ()) (v := ()) 95 (by decide) dX6_as_89 (by decide) (fun _ hf => by cases hf) (fun _ _ => ?_)
                refine xv_iconst C 0 dX6_as_95 (by decide) ?_
                refine xv_istore C [(5, .int 0), (4, .int 1), (3, .int (a 8 ((((6 : Int32) * x1) + 0).toNatClampNeg))), (0, .ref (aM g 0)), (1, .int x1), (2, .int x2)] dX6_as_96 (by decide) rfl ?_
                refine xv_iconst C 0 dX6_as_98 (by decide) ?_
                refine xv_istore C [(6, .int 0), (5, .int 0), (4, .int 1), (3, .int (a 8 ((((6 : Int32) * x1) + 0).toNatClampNeg))), (0, .ref (aM g 0)), (1, .int x1), (2, .int x2)] dX6_as_99 (by decide) rfl ?_
                refine xv_eq [4, 5, 1, 0] rfl ?_
                exact hL101 x1 n 0 0 hf
            · refine xv_iload_n C dX6_as_60 rfl 3 rfl ?_
              refine xv_iconst C 3 dX6_as_61 (by decide) ?_
              refine xv_icmp_ne C 70 hf dX6_as_62 (by decide) (fun _ hf => ?_) (fun _ hf => ?_)
              · refine xv_iload_n C dX6_as_65 rfl 0 rfl ?_
                refine xv_iconst C 2 dX6_as_66 (by decide) ?_
                refine xv_icmp_eq C 80 hf dX6_as_67 (by decide) (fun _ hf => ?_) (fun _ hf => ?_)
                · refine xv_iconst C 1 dX6_as_80 (by decide) ?_
                  refine xv_goto C 85 dX6_as_81 (by decide) ?_
                  refine xv_istore C [(4, .int 1), (3, .int (a 8 ((((6 : Int32) * x1) + 0).toNatClampNeg))), (0, .ref (aM g 0)), (1, .int x1), (2, .int x2)] dX6_as_85 (by decide) rfl ?_
                  refine xv_iload C dX6_as_87 0 rfl ?_
                  refine xv_if_ne C (y := 0) (A := (none : Option Unit)) (B := some ()) (v := ()) 95 (by decide) dX6_as_89 (by decide) (fun _ hf => by cases hf) (fun _ _ => ?_)
                  refine xv_iconst C 0 dX6_as_95 (by decide) ?_
                  refine xv_istore C [(5, .int 0), (4, .int 1), (3, .int (a 8 ((((6 : Int32) * x1) + 0).toNatClampNeg))), (0, .ref (aM g 0)), (1, .int x1), (2, .int x2)] dX6_as_96 (by decide) rfl ?_
                  refine xv_iconst C 0 dX6_as_98 (by decide) ?_
                  refine xv_istore C [(6, .int 0), (5, .int 0), (4, .int 1), (3, .int (a 8 ((((6 : Int32) * x1) + 0).toNatClampNeg))), (0, .ref (aM g 0)), (1, .int x1), (2, .int x2)] dX6_as_99 (by decide) rfl ?_
                  refine xv_eq [4, 5, 1, 0] rfl ?_
                  exact hL101 x1 n 0 0 hf
                · refine xv_iload_n C dX6_as_70 rfl 3 rfl ?_
                  refine xv_iconst C 4 dX6_as_71 (by decide) ?_
                  refine xv_icmp_ne C 84 hf dX6_as_72 (by decide) (fun _ hf => ?_) (fun _ hf => ?_)
                  · refine xv_iload_n C dX6_as_75 rfl 0 rfl ?_
                    refine xv_iconst C 2 dX6_as_76 (by decide) ?_
                    refine xv_icmp_le C 84 hf dX6_as_77 (by decide) (fun _ hf => ?_) (fun _ hf => ?_)
                    · refine xv_iconst C 0 dX6_as_84 (by decide) ?_
                      refine xv_istore C [(4, .int 0), (3, .int (a 8 ((((6 : Int32) * x1) + 0).toNatClampNeg))), (0, .ref (aM g 0)), (1, .int x1), (2, .int x2)] dX6_as_85 (by decide) rfl ?_
                      refine xv_iload C dX6_as_87 0 rfl ?_
                      refine xv_if_ne C (y := 0) (A := some ()) (B := (none : Option Unit)) (v := ()) 95 (by decide) dX6_as_89 (by decide) (fun _ _ => ?_) (fun _ hf => by cases hf)
                      refine xv_bipush C (-4) dX6_as_92 (by decide) ?_
                      exact xz_ir hret hf dX6_as_94
                    · refine xv_iconst C 1 dX6_as_80 (by decide) ?_
                      refine xv_goto C 85 dX6_as_81 (by decide) ?_
                      refine xv_istore C [(4, .int 1), (3, .int (a 8 ((((6 : Int32) * x1) + 0).toNatClampNeg))), (0, .ref (aM g 0)), (1, .int x1), (2, .int x2)] dX6_as_85 (by decide) rfl ?_
                      refine xv_iload C dX6_as_87 0 rfl ?_
                      refine xv_if_ne C (y := 0) (A := (none : Option Unit)) (B := some ()) (v := ()) 95 (by decide) dX6_as_89 (by decide) (fun _ hf => by cases hf) (fun _ _ => ?_)
                      refine xv_iconst C 0 dX6_as_95 (by decide) ?_
                      refine xv_istore C [(5, .int 0), (4, .int 1), (3, .int (a 8 ((((6 : Int32) * x1) + 0).toNatClampNeg))), (0, .ref (aM g 0)), (1, .int x1), (2, .int x2)] dX6_as_96 (by decide) rfl ?_
                      refine xv_iconst C 0 dX6_as_98 (by decide) ?_
                      refine xv_istore C [(6, .int 0), (5, .int 0), (4, .int 1), (3, .int (a 8 ((((6 : Int32) * x1) + 0).toNatClampNeg))), (0, .ref (aM g 0)), (1, .int x1), (2, .int x2)] dX6_as_99 (by decide) rfl ?_
                      refine xv_eq [4, 5, 1, 0] rfl ?_
                      exact hL101 x1 n 0 0 hf
                  · refine xv_iconst C 0 dX6_as_84 (by decide) ?_
                    refine xv_istore C [(4, .int 0), (3, .int (a 8 ((((6 : Int32) * x1) + 0).toNatClampNeg))), (0, .ref (aM g 0)), (1, .int x1), (2, .int x2)] dX6_as_85 (by decide) rfl ?_
                    refine xv_iload C dX6_as_87 0 rfl ?_
                    refine xv_if_ne C (y := 0) (A := some ()) (B := (none : Option Unit)) (v := ()) 95 (by decide) dX6_as_89 (by decide) (fun _ _ => ?_) (fun _ hf => by cases hf)
                    refine xv_bipush C (-4) dX6_as_92 (by decide) ?_
                    exact xz_ir hret hf dX6_as_94
              · refine xv_iload_n C dX6_as_70 rfl 3 rfl ?_
                refine xv_iconst C 4 dX6_as_71 (by decide) ?_
                refine xv_icmp_ne C 84 hf dX6_as_72 (by decide) (fun _ hf => ?_) (fun _ hf => ?_)
                · refine xv_iload_n C dX6_as_75 rfl 0 rfl ?_
                  refine xv_iconst C 2 dX6_as_76 (by decide) ?_
                  refine xv_icmp_le C 84 hf dX6_as_77 (by decide) (fun _ hf => ?_) (fun _ hf => ?_)
                  · refine xv_iconst C 0 dX6_as_84 (by decide) ?_
                    refine xv_istore C [(4, .int 0), (3, .int (a 8 ((((6 : Int32) * x1) + 0).toNatClampNeg))), (0, .ref (aM g 0)), (1, .int x1), (2, .int x2)] dX6_as_85 (by decide) rfl ?_
                    refine xv_iload C dX6_as_87 0 rfl ?_
                    refine xv_if_ne C (y := 0) (A := some ()) (B := (none : Option Unit)) (v := ()) 95 (by decide) dX6_as_89 (by decide) (fun _ _ => ?_) (fun _ hf => by cases hf)
                    refine xv_bipush C (-4) dX6_as_92 (by decide) ?_
                    exact xz_ir hret hf dX6_as_94
                  · refine xv_iconst C 1 dX6_as_80 (by decide) ?_
                    refine xv_goto C 85 dX6_as_81 (by decide) ?_
                    refine xv_istore C [(4, .int 1), (3, .int (a 8 ((((6 : Int32) * x1) + 0).toNatClampNeg))), (0, .ref (aM g 0)), (1, .int x1), (2, .int x2)] dX6_as_85 (by decide) rfl ?_
                    refine xv_iload C dX6_as_87 0 rfl ?_
                    refine xv_if_ne C (y := 0) (A := (none : Option Unit)) (B := some ()) (v := ()) 95 (by decide) dX6_as_89 (by decide) (fun _ hf => by cases hf) (fun _ _ => ?_)
                    refine xv_iconst C 0 dX6_as_95 (by decide) ?_
                    refine xv_istore C [(5, .int 0), (4, .int 1), (3, .int (a 8 ((((6 : Int32) * x1) + 0).toNatClampNeg))), (0, .ref (aM g 0)), (1, .int x1), (2, .int x2)] dX6_as_96 (by decide) rfl ?_
                    refine xv_iconst C 0 dX6_as_98 (by decide) ?_
                    refine xv_istore C [(6, .int 0), (5, .int 0), (4, .int 1), (3, .int (a 8 ((((6 : Int32) * x1) + 0).toNatClampNeg))), (0, .ref (aM g 0)), (1, .int x1), (2, .int x2)] dX6_as_99 (by decide) rfl ?_
                    refine xv_eq [4, 5, 1, 0] rfl ?_
                    exact hL101 x1 n 0 0 hf
                · refine xv_iconst C 0 dX6_as_84 (by decide) ?_
                  refine xv_istore C [(4, .int 0), (3, .int (a 8 ((((6 : Int32) * x1) + 0).toNatClampNeg))), (0, .ref (aM g 0)), (1, .int x1), (2, .int x2)] dX6_as_85 (by decide) rfl ?_
                  refine xv_iload C dX6_as_87 0 rfl ?_
                  refine xv_if_ne C (y := 0) (A := some ()) (B := (none : Option Unit)) (v := ()) 95 (by decide) dX6_as_89 (by decide) (fun _ _ => ?_) (fun _ hf => by cases hf)
                  refine xv_bipush C (-4) dX6_as_92 (by decide) ?_
                  exact xz_ir hret hf dX6_as_94
        · refine xv_iload_n C dX6_as_51 rfl 3 rfl ?_
          refine xv_iconst C 2 dX6_as_52 (by decide) ?_
          refine xv_icmp_ne C 60 hf dX6_as_53 (by decide) (fun _ hf => ?_) (fun _ hf => ?_)
          · refine xv_iload_n C dX6_as_56 rfl 0 rfl ?_
            refine xv_if_ne C (y := 0) 80 hf dX6_as_57 (by decide) (fun _ hf => ?_) (fun _ hf => ?_)
            · refine xv_iload_n C dX6_as_60 rfl 3 rfl ?_
              refine xv_iconst C 3 dX6_as_61 (by decide) ?_
              refine xv_icmp_ne C 70 hf dX6_as_62 (by decide) (fun _ hf => ?_) (fun _ hf => ?_)
              · refine xv_iload_n C dX6_as_65 rfl 0 rfl ?_
                refine xv_iconst C 2 dX6_as_66 (by decide) ?_
                refine xv_icmp_eq C 80 hf dX6_as_67 (by decide) (fun _ hf => ?_) (fun _ hf => ?_)
                · refine xv_iconst C 1 dX6_as_80 (by decide) ?_
                  refine xv_goto C 85 dX6_as_81 (by decide) ?_
                  refine xv_istore C [(4, .int 1), (3, .int (a 8 ((((6 : Int32) * x1) + 0).toNatClampNeg))), (0, .ref (aM g 0)), (1, .int x1), (2, .int x2)] dX6_as_85 (by decide) rfl ?_
                  refine xv_iload C dX6_as_87 0 rfl ?_
                  refine xv_if_ne C (y := 0) (A := (none : Option Unit)) (B := some ()) (v := ()) 95 (by decide) dX6_as_89 (by decide) (fun _ hf => by cases hf) (fun _ _ => ?_)
                  refine xv_iconst C 0 dX6_as_95 (by decide) ?_
                  refine xv_istore C [(5, .int 0), (4, .int 1), (3, .int (a 8 ((((6 : Int32) * x1) + 0).toNatClampNeg))), (0, .ref (aM g 0)), (1, .int x1), (2, .int x2)] dX6_as_96 (by decide) rfl ?_
                  refine xv_iconst C 0 dX6_as_98 (by decide) ?_
                  refine xv_istore C [(6, .int 0), (5, .int 0), (4, .int 1), (3, .int (a 8 ((((6 : Int32) * x1) + 0).toNatClampNeg))), (0, .ref (aM g 0)), (1, .int x1), (2, .int x2)] dX6_as_99 (by decide) rfl ?_
                  refine xv_eq [4, 5, 1, 0] rfl ?_
                  exact hL101 x1 n 0 0 hf
                · refine xv_iload_n C dX6_as_70 rfl 3 rfl ?_
                  refine xv_iconst C 4 dX6_as_71 (by decide) ?_
                  refine xv_icmp_ne C 84 hf dX6_as_72 (by decide) (fun _ hf => ?_) (fun _ hf => ?_)
                  · refine xv_iload_n C dX6_as_75 rfl 0 rfl ?_
                    refine xv_iconst C 2 dX6_as_76 (by decide) ?_
                    refine xv_icmp_le C 84 hf dX6_as_77 (by decide) (fun _ hf => ?_) (fun _ hf => ?_)
                    · refine xv_iconst C 0 dX6_as_84 (by decide) ?_
                      refine xv_istore C [(4, .int 0), (3, .int (a 8 ((((6 : Int32) * x1) + 0).toNatClampNeg))), (0, .ref (aM g 0)), (1, .int x1), (2, .int x2)] dX6_as_85 (by decide) rfl ?_
                      refine xv_iload C dX6_as_87 0 rfl ?_
                      refine xv_if_ne C (y := 0) (A := some ()) (B := (none : Option Unit)) (v := ()) 95 (by decide) dX6_as_89 (by decide) (fun _ _ => ?_) (fun _ hf => by cases hf)
                      refine xv_bipush C (-4) dX6_as_92 (by decide) ?_
                      exact xz_ir hret hf dX6_as_94
                    · refine xv_iconst C 1 dX6_as_80 (by decide) ?_
                      refine xv_goto C 85 dX6_as_81 (by decide) ?_
                      refine xv_istore C [(4, .int 1), (3, .int (a 8 ((((6 : Int32) * x1) + 0).toNatClampNeg))), (0, .ref (aM g 0)), (1, .int x1), (2, .int x2)] dX6_as_85 (by decide) rfl ?_
                      refine xv_iload C dX6_as_87 0 rfl ?_
                      refine xv_if_ne C (y := 0) (A := (none : Option Unit)) (B := some ()) (v := ()) 95 (by decide) dX6_as_89 (by decide) (fun _ hf => by cases hf) (fun _ _ => ?_)
                      refine xv_iconst C 0 dX6_as_95 (by decide) ?_
                      refine xv_istore C [(5, .int 0), (4, .int 1), (3, .int (a 8 ((((6 : Int32) * x1) + 0).toNatClampNeg))), (0, .ref (aM g 0)), (1, .int x1), (2, .int x2)] dX6_as_96 (by decide) rfl ?_
                      refine xv_iconst C 0 dX6_as_98 (by decide) ?_
                      refine xv_istore C [(6, .int 0), (5, .int 0), (4, .int 1), (3, .int (a 8 ((((6 : Int32) * x1) + 0).toNatClampNeg))), (0, .ref (aM g 0)), (1, .int x1), (2, .int x2)] dX6_as_99 (by decide) rfl ?_
                      refine xv_eq [4, 5, 1, 0] rfl ?_
                      exact hL101 x1 n 0 0 hf
                  · refine xv_iconst C 0 dX6_as_84 (by decide) ?_
                    refine xv_istore C [(4, .int 0), (3, .int (a 8 ((((6 : Int32) * x1) + 0).toNatClampNeg))), (0, .ref (aM g 0)), (1, .int x1), (2, .int x2)] dX6_as_85 (by decide) rfl ?_
                    refine xv_iload C dX6_as_87 0 rfl ?_
                    refine xv_if_ne C (y := 0) (A := some ()) (B := (none : Option Unit)) (v := ()) 95 (by decide) dX6_as_89 (by decide) (fun _ _ => ?_) (fun _ hf => by cases hf)
                    refine xv_bipush C (-4) dX6_as_92 (by decide) ?_
                    exact xz_ir hret hf dX6_as_94
              · refine xv_iload_n C dX6_as_70 rfl 3 rfl ?_
                refine xv_iconst C 4 dX6_as_71 (by decide) ?_
                refine xv_icmp_ne C 84 hf dX6_as_72 (by decide) (fun _ hf => ?_) (fun _ hf => ?_)
                · refine xv_iload_n C dX6_as_75 rfl 0 rfl ?_
                  refine xv_iconst C 2 dX6_as_76 (by decide) ?_
                  refine xv_icmp_le C 84 hf dX6_as_77 (by decide) (fun _ hf => ?_) (fun _ hf => ?_)
                  · refine xv_iconst C 0 dX6_as_84 (by decide) ?_
                    refine xv_istore C [(4, .int 0), (3, .int (a 8 ((((6 : Int32) * x1) + 0).toNatClampNeg))), (0, .ref (aM g 0)), (1, .int x1), (2, .int x2)] dX6_as_85 (by decide) rfl ?_
                    refine xv_iload C dX6_as_87 0 rfl ?_
                    refine xv_if_ne C (y := 0) (A := some ()) (B := (none : Option Unit)) (v := ()) 95 (by decide) dX6_as_89 (by decide) (fun _ _ => ?_) (fun _ hf => by cases hf)
                    refine xv_bipush C (-4) dX6_as_92 (by decide) ?_
                    exact xz_ir hret hf dX6_as_94
                  · refine xv_iconst C 1 dX6_as_80 (by decide) ?_
                    refine xv_goto C 85 dX6_as_81 (by decide) ?_
                    refine xv_istore C [(4, .int 1), (3, .int (a 8 ((((6 : Int32) * x1) + 0).toNatClampNeg))), (0, .ref (aM g 0)), (1, .int x1), (2, .int x2)] dX6_as_85 (by decide) rfl ?_
                    refine xv_iload C dX6_as_87 0 rfl ?_
                    refine xv_if_ne C (y := 0) (A := (none : Option Unit)) (B := some ()) (v := ()) 95 (by decide) dX6_as_89 (by decide) (fun _ hf => by cases hf) (fun _ _ => ?_)
                    refine xv_iconst C 0 dX6_as_95 (by decide) ?_
                    refine xv_istore C [(5, .int 0), (4, .int 1), (3, .int (a 8 ((((6 : Int32) * x1) + 0).toNatClampNeg))), (0, .ref (aM g 0)), (1, .int x1), (2, .int x2)] dX6_as_96 (by decide) rfl ?_
                    refine xv_iconst C 0 dX6_as_98 (by decide) ?_
                    refine xv_istore C [(6, .int 0), (5, .int 0), (4, .int 1), (3, .int (a 8 ((((6 : Int32) * x1) + 0).toNatClampNeg))), (0, .ref (aM g 0)), (1, .int x1), (2, .int x2)] dX6_as_99 (by decide) rfl ?_
                    refine xv_eq [4, 5, 1, 0] rfl ?_
                    exact hL101 x1 n 0 0 hf
                · refine xv_iconst C 0 dX6_as_84 (by decide) ?_
                  refine xv_istore C [(4, .int 0), (3, .int (a 8 ((((6 : Int32) * x1) + 0).toNatClampNeg))), (0, .ref (aM g 0)), (1, .int x1), (2, .int x2)] dX6_as_85 (by decide) rfl ?_
                  refine xv_iload C dX6_as_87 0 rfl ?_
                  refine xv_if_ne C (y := 0) (A := some ()) (B := (none : Option Unit)) (v := ()) 95 (by decide) dX6_as_89 (by decide) (fun _ _ => ?_) (fun _ hf => by cases hf)
                  refine xv_bipush C (-4) dX6_as_92 (by decide) ?_
                  exact xz_ir hret hf dX6_as_94
            · refine xv_iconst C 1 dX6_as_80 (by decide) ?_
              refine xv_goto C 85 dX6_as_81 (by decide) ?_
              refine xv_istore C [(4, .int 1), (3, .int (a 8 ((((6 : Int32) * x1) + 0).toNatClampNeg))), (0, .ref (aM g 0)), (1, .int x1), (2, .int x2)] dX6_as_85 (by decide) rfl ?_
              refine xv_iload C dX6_as_87 0 rfl ?_
              refine xv_if_ne C (y := 0) (A := (none : Option Unit)) (B := some ()) (v := ()) 95 (by decide) dX6_as_89 (by decide) (fun _ hf => by cases hf) (fun _ _ => ?_)
              refine xv_iconst C 0 dX6_as_95 (by decide) ?_
              refine xv_istore C [(5, .int 0), (4, .int 1), (3, .int (a 8 ((((6 : Int32) * x1) + 0).toNatClampNeg))), (0, .ref (aM g 0)), (1, .int x1), (2, .int x2)] dX6_as_96 (by decide) rfl ?_
              refine xv_iconst C 0 dX6_as_98 (by decide) ?_
              refine xv_istore C [(6, .int 0), (5, .int 0), (4, .int 1), (3, .int (a 8 ((((6 : Int32) * x1) + 0).toNatClampNeg))), (0, .ref (aM g 0)), (1, .int x1), (2, .int x2)] dX6_as_99 (by decide) rfl ?_
              refine xv_eq [4, 5, 1, 0] rfl ?_
              exact hL101 x1 n 0 0 hf
          · refine xv_iload_n C dX6_as_60 rfl 3 rfl ?_
            refine xv_iconst C 3 dX6_as_61 (by decide) ?_
            refine xv_icmp_ne C 70 hf dX6_as_62 (by decide) (fun _ hf => ?_) (fun _ hf => ?_)
            · refine xv_iload_n C dX6_as_65 rfl 0 rfl ?_
              refine xv_iconst C 2 dX6_as_66 (by decide) ?_
              refine xv_icmp_eq C 80 hf dX6_as_67 (by decide) (fun _ hf => ?_) (fun _ hf => ?_)
              · refine xv_iconst C 1 dX6_as_80 (by decide) ?_
                refine xv_goto C 85 dX6_as_81 (by decide) ?_
                refine xv_istore C [(4, .int 1), (3, .int (a 8 ((((6 : Int32) * x1) + 0).toNatClampNeg))), (0, .ref (aM g 0)), (1, .int x1), (2, .int x2)] dX6_as_85 (by decide) rfl ?_
                refine xv_iload C dX6_as_87 0 rfl ?_
                refine xv_if_ne C (y := 0) (A := (none : Option Unit)) (B := some ()) (v := ()) 95 (by decide) dX6_as_89 (by decide) (fun _ hf => by cases hf) (fun _ _ => ?_)
                refine xv_iconst C 0 dX6_as_95 (by decide) ?_
                refine xv_istore C [(5, .int 0), (4, .int 1), (3, .int (a 8 ((((6 : Int32) * x1) + 0).toNatClampNeg))), (0, .ref (aM g 0)), (1, .int x1), (2, .int x2)] dX6_as_96 (by decide) rfl ?_
                refine xv_iconst C 0 dX6_as_98 (by decide) ?_
                refine xv_istore C [(6, .int 0), (5, .int 0), (4, .int 1), (3, .int (a 8 ((((6 : Int32) * x1) + 0).toNatClampNeg))), (0, .ref (aM g 0)), (1, .int x1), (2, .int x2)] dX6_as_99 (by decide) rfl ?_
                refine xv_eq [4, 5, 1, 0] rfl ?_
                exact hL101 x1 n 0 0 hf
              · refine xv_iload_n C dX6_as_70 rfl 3 rfl ?_
                refine xv_iconst C 4 dX6_as_71 (by decide) ?_
                refine xv_icmp_ne C 84 hf dX6_as_72 (by decide) (fun _ hf => ?_) (fun _ hf => ?_)
                · refine xv_iload_n C dX6_as_75 rfl 0 rfl ?_
                  refine xv_iconst C 2 dX6_as_76 (by decide) ?_
                  refine xv_icmp_le C 84 hf dX6_as_77 (by decide) (fun _ hf => ?_) (fun _ hf => ?_)
                  · refine xv_iconst C 0 dX6_as_84 (by decide) ?_
                    refine xv_istore C [(4, .int 0), (3, .int (a 8 ((((6 : Int32) * x1) + 0).toNatClampNeg))), (0, .ref (aM g 0)), (1, .int x1), (2, .int x2)] dX6_as_85 (by decide) rfl ?_
                    refine xv_iload C dX6_as_87 0 rfl ?_
                    refine xv_if_ne C (y := 0) (A := some ()) (B := (none : Option Unit)) (v := ()) 95 (by decide) dX6_as_89 (by decide) (fun _ _ => ?_) (fun _ hf => by cases hf)
                    refine xv_bipush C (-4) dX6_as_92 (by decide) ?_
                    exact xz_ir hret hf dX6_as_94
                  · refine xv_iconst C 1 dX6_as_80 (by decide) ?_
                    refine xv_goto C 85 dX6_as_81 (by decide) ?_
                    refine xv_istore C [(4, .int 1), (3, .int (a 8 ((((6 : Int32) * x1) + 0).toNatClampNeg))), (0, .ref (aM g 0)), (1, .int x1), (2, .int x2)] dX6_as_85 (by decide) rfl ?_
                    refine xv_iload C dX6_as_87 0 rfl ?_
                    refine xv_if_ne C (y := 0) (A := (none : Option Unit)) (B := some ()) (v := ()) 95 (by decide) dX6_as_89 (by decide) (fun _ hf => by cases hf) (fun _ _ => ?_)
                    refine xv_iconst C 0 dX6_as_95 (by decide) ?_
                    refine xv_istore C [(5, .int 0), (4, .int 1), (3, .int (a 8 ((((6 : Int32) * x1) + 0).toNatClampNeg))), (0, .ref (aM g 0)), (1, .int x1), (2, .int x2)] dX6_as_96 (by decide) rfl ?_
                    refine xv_iconst C 0 dX6_as_98 (by decide) ?_
                    refine xv_istore C [(6, .int 0), (5, .int 0), (4, .int 1), (3, .int (a 8 ((((6 : Int32) * x1) + 0).toNatClampNeg))), (0, .ref (aM g 0)), (1, .int x1), (2, .int x2)] dX6_as_99 (by decide) rfl ?_
                    refine xv_eq [4, 5, 1, 0] rfl ?_
                    exact hL101 x1 n 0 0 hf
                · refine xv_iconst C 0 dX6_as_84 (by decide) ?_
                  refine xv_istore C [(4, .int 0), (3, .int (a 8 ((((6 : Int32) * x1) + 0).toNatClampNeg))), (0, .ref (aM g 0)), (1, .int x1), (2, .int x2)] dX6_as_85 (by decide) rfl ?_
                  refine xv_iload C dX6_as_87 0 rfl ?_
                  refine xv_if_ne C (y := 0) (A := some ()) (B := (none : Option Unit)) (v := ()) 95 (by decide) dX6_as_89 (by decide) (fun _ _ => ?_) (fun _ hf => by cases hf)
                  refine xv_bipush C (-4) dX6_as_92 (by decide) ?_
                  exact xz_ir hret hf dX6_as_94
            · refine xv_iload_n C dX6_as_70 rfl 3 rfl ?_
              refine xv_iconst C 4 dX6_as_71 (by decide) ?_
              refine xv_icmp_ne C 84 hf dX6_as_72 (by decide) (fun _ hf => ?_) (fun _ hf => ?_)
              · refine xv_iload_n C dX6_as_75 rfl 0 rfl ?_
                refine xv_iconst C 2 dX6_as_76 (by decide) ?_
                refine xv_icmp_le C 84 hf dX6_as_77 (by decide) (fun _ hf => ?_) (fun _ hf => ?_)
                · refine xv_iconst C 0 dX6_as_84 (by decide) ?_
                  refine xv_istore C [(4, .int 0), (3, .int (a 8 ((((6 : Int32) * x1) + 0).toNatClampNeg))), (0, .ref (aM g 0)), (1, .int x1), (2, .int x2)] dX6_as_85 (by decide) rfl ?_
                  refine xv_iload C dX6_as_87 0 rfl ?_
                  refine xv_if_ne C (y := 0) (A := some ()) (B := (none : Option Unit)) (v := ()) 95 (by decide) dX6_as_89 (by decide) (fun _ _ => ?_) (fun _ hf => by cases hf)
                  refine xv_bipush C (-4) dX6_as_92 (by decide) ?_
                  exact xz_ir hret hf dX6_as_94
                · refine xv_iconst C 1 dX6_as_80 (by decide) ?_
                  refine xv_goto C 85 dX6_as_81 (by decide) ?_
                  refine xv_istore C [(4, .int 1), (3, .int (a 8 ((((6 : Int32) * x1) + 0).toNatClampNeg))), (0, .ref (aM g 0)), (1, .int x1), (2, .int x2)] dX6_as_85 (by decide) rfl ?_
                  refine xv_iload C dX6_as_87 0 rfl ?_
                  refine xv_if_ne C (y := 0) (A := (none : Option Unit)) (B := some ()) (v := ()) 95 (by decide) dX6_as_89 (by decide) (fun _ hf => by cases hf) (fun _ _ => ?_)
                  refine xv_iconst C 0 dX6_as_95 (by decide) ?_
                  refine xv_istore C [(5, .int 0), (4, .int 1), (3, .int (a 8 ((((6 : Int32) * x1) + 0).toNatClampNeg))), (0, .ref (aM g 0)), (1, .int x1), (2, .int x2)] dX6_as_96 (by decide) rfl ?_
                  refine xv_iconst C 0 dX6_as_98 (by decide) ?_
                  refine xv_istore C [(6, .int 0), (5, .int 0), (4, .int 1), (3, .int (a 8 ((((6 : Int32) * x1) + 0).toNatClampNeg))), (0, .ref (aM g 0)), (1, .int x1), (2, .int x2)] dX6_as_99 (by decide) rfl ?_
                  refine xv_eq [4, 5, 1, 0] rfl ?_
                  exact hL101 x1 n 0 0 hf
              · refine xv_iconst C 0 dX6_as_84 (by decide) ?_
                refine xv_istore C [(4, .int 0), (3, .int (a 8 ((((6 : Int32) * x1) + 0).toNatClampNeg))), (0, .ref (aM g 0)), (1, .int x1), (2, .int x2)] dX6_as_85 (by decide) rfl ?_
                refine xv_iload C dX6_as_87 0 rfl ?_
                refine xv_if_ne C (y := 0) (A := some ()) (B := (none : Option Unit)) (v := ()) 95 (by decide) dX6_as_89 (by decide) (fun _ _ => ?_) (fun _ hf => by cases hf)
                refine xv_bipush C (-4) dX6_as_92 (by decide) ?_
                exact xz_ir hret hf dX6_as_94
set_option maxRecDepth 100000 in
set_option maxHeartbeats 4000000 in
theorem c_X6_set (g : GM) (hS : xSide (sM g)) (l : Launch) (n : Nat) (x1 : Int32) (x2 : Int32) (a : St) (q : (Int32 × St)) (hf : f_X6_set n x1 x2 a = some q) : Met l yX6_set wsX6_set rm_X6_set (xPre (sM g) [.ref (aM g 0), .int x1, .int x2] a) (xPostI (sM g) q.1 q.2) 0 0 (sM g).2.2.1 := by
  refine xm_i (av := [.ref (aM g 0), .int x1, .int x2]) (cc := cX6_set) (maxL := 4) (by decide) rfl (Nat.le_of_ble_eq_true rfl) hS.1 hS.2 (fun K C hret => ?_)
  have C : CC K (sM g) cX6_set 4 wsX6_set RX6 rm_X6_set := C
  have hiX6 : ∀ w ∈ u_ws RX6 TX6 26, w ∈ wsX6_set := fun w h => List.mem_cons_of_mem _ (List.mem_append_right _ h)
  rw [f_X6_set] at hf
  show V K (sM g) 4 a [(0, .ref (aM g 0)), (1, .int x1), (2, .int x2)] 0 []
  refine xv_aload_n C dX6_set_0 rfl 0 rfl ?_
  refine xv_iload_n C dX6_set_1 rfl 1 rfl ?_
  obtain ⟨q1, hg, hf⟩ := dt_bind hf
  refine xc_i (xr_V C (ci := 6) (As := [.int x1]) (fun l => c_X6_isHouse g hS l x1 a q1 hg) gX6_set_X6_isHouse rfl ⟨rfl, rfl⟩ hdV_X6_isHouse ⟨Nat.le_of_ble_eq_true rfl, Nat.le_of_ble_eq_true rfl⟩ 0 rfl rfl (wM0 g _) rfl rfl (Nat.le_of_ble_eq_true rfl) dX6_set_2) ?_
  refine xv_if_eq C (y := 0) 21 hf dX6_set_5 (by decide) (fun _ hf => ?_) (fun _ hf => ?_)
  · refine xv_bipush C (-2) dX6_set_21 (by decide) ?_
    exact xz_iw hret hf dX6_set_23
  · refine xv_iload_n C dX6_set_8 rfl 2 rfl ?_
    refine xv_iconst C (-1) dX6_set_9 (by decide) ?_
    refine xv_icmp_eq C 24 hf dX6_set_10 (by decide) (fun _ hf => ?_) (fun _ hf => ?_)
    · refine xv_iload_n C dX6_set_24 rfl 2 rfl ?_
      refine xv_iconst C (-1) dX6_set_25 (by decide) ?_
      refine xv_icmp_eq C 41 hf dX6_set_26 (by decide) (fun _ hf => ?_) (fun _ hf => ?_)
      · refine xv_aload_n C dX6_set_41 rfl 0 rfl ?_
        refine xv_get C hiX6 0 (wM0 g _) rfl 0 (by decide) (List.mem_of_getElem? (i := 1) rfl) rfl dX6_set_42 ?_
        refine xv_iload_n C dX6_set_45 rfl 1 rfl ?_
        refine xv_iald C 1 0 (wM1 g _) rfl hf dX6_set_46 (fun hf => ?_)
        refine xv_istore_n C [(3, .int (a 1 x1.toNatClampNeg)), (0, .ref (aM g 0)), (1, .int x1), (2, .int x2)] dX6_set_47 rfl (by decide) rfl ?_
        refine xv_aload_n C dX6_set_48 rfl 1 rfl ?_
        refine xv_get C hiX6 0 (wM0 g _) rfl 0 (by decide) (List.mem_of_getElem? (i := 1) rfl) rfl dX6_set_49 ?_
        refine xv_iload_n C dX6_set_52 rfl 2 rfl ?_
        refine xv_iload_n C dX6_set_53 rfl 3 rfl ?_
        refine xv_iast C 1 0 (wM1 g _) rfl (up a 1 x1.toNatClampNeg x2) (pM1 g _ _ _) hf dX6_set_54 (fun hf => ?_)
        refine xv_iload_n C dX6_set_55 rfl 0 rfl ?_
        exact xz_iw hret hf dX6_set_56
      · refine xv_aload_n C dX6_set_29 rfl 0 rfl ?_
        refine xv_iload_n C dX6_set_30 rfl 1 rfl ?_
        refine xv_iload_n C dX6_set_31 rfl 2 rfl ?_
        obtain ⟨q2, hg, hf⟩ := dt_bind hf
        refine xc_i (xr_V C (ci := 6) (As := [.int x1, .int x2]) (fun l => c_X6_can g hS l n x1 x2 a q2 hg) gX6_set_X6_can rfl ⟨rfl, rfl⟩ hdV_X6_can ⟨Nat.le_of_ble_eq_true rfl, Nat.le_of_ble_eq_true rfl⟩ 0 rfl rfl (wM0 g _) rfl rfl (Nat.le_of_ble_eq_true rfl) dX6_set_32) ?_
        refine xv_if_ne C (y := 0) 41 hf dX6_set_35 (by decide) (fun _ hf => ?_) (fun _ hf => ?_)
        · refine xv_bipush C (-4) dX6_set_38 (by decide) ?_
          exact xz_iw hret hf dX6_set_40
        · refine xv_aload_n C dX6_set_41 rfl 0 rfl ?_
          refine xv_get C hiX6 0 (wM0 g _) rfl 0 (by decide) (List.mem_of_getElem? (i := 1) rfl) rfl dX6_set_42 ?_
          refine xv_iload_n C dX6_set_45 rfl 1 rfl ?_
          refine xv_iald C 1 0 (wM1 g _) rfl hf dX6_set_46 (fun hf => ?_)
          refine xv_istore_n C [(3, .int (a 1 x1.toNatClampNeg)), (0, .ref (aM g 0)), (1, .int x1), (2, .int x2)] dX6_set_47 rfl (by decide) rfl ?_
          refine xv_aload_n C dX6_set_48 rfl 1 rfl ?_
          refine xv_get C hiX6 0 (wM0 g _) rfl 0 (by decide) (List.mem_of_getElem? (i := 1) rfl) rfl dX6_set_49 ?_
          refine xv_iload_n C dX6_set_52 rfl 2 rfl ?_
          refine xv_iload_n C dX6_set_53 rfl 3 rfl ?_
          refine xv_iast C 1 0 (wM1 g _) rfl (up a 1 x1.toNatClampNeg x2) (pM1 g _ _ _) hf dX6_set_54 (fun hf => ?_)
          refine xv_iload_n C dX6_set_55 rfl 0 rfl ?_
          exact xz_iw hret hf dX6_set_56
    · refine xv_aload_n C dX6_set_13 rfl 0 rfl ?_
      refine xv_iload_n C dX6_set_14 rfl 2 rfl ?_
      obtain ⟨q3, hg, hf⟩ := dt_bind hf
      refine xc_i (xr_V C (ci := 6) (As := [.int x2]) (fun l => c_X6_isDeed g hS l x2 a q3 hg) gX6_set_X6_isDeed rfl ⟨rfl, rfl⟩ hdV_X6_isDeed ⟨Nat.le_of_ble_eq_true rfl, Nat.le_of_ble_eq_true rfl⟩ 0 rfl rfl (wM0 g _) rfl rfl (Nat.le_of_ble_eq_true rfl) dX6_set_15) ?_
      refine xv_if_ne C (y := 0) 24 hf dX6_set_18 (by decide) (fun _ hf => ?_) (fun _ hf => ?_)
      · refine xv_bipush C (-2) dX6_set_21 (by decide) ?_
        exact xz_iw hret hf dX6_set_23
      · refine xv_iload_n C dX6_set_24 rfl 2 rfl ?_
        refine xv_iconst C (-1) dX6_set_25 (by decide) ?_
        refine xv_icmp_eq C 41 hf dX6_set_26 (by decide) (fun _ hf => ?_) (fun _ hf => ?_)
        · refine xv_aload_n C dX6_set_41 rfl 0 rfl ?_
          refine xv_get C hiX6 0 (wM0 g _) rfl 0 (by decide) (List.mem_of_getElem? (i := 1) rfl) rfl dX6_set_42 ?_
          refine xv_iload_n C dX6_set_45 rfl 1 rfl ?_
          refine xv_iald C 1 0 (wM1 g _) rfl hf dX6_set_46 (fun hf => ?_)
          refine xv_istore_n C [(3, .int (a 1 x1.toNatClampNeg)), (0, .ref (aM g 0)), (1, .int x1), (2, .int x2)] dX6_set_47 rfl (by decide) rfl ?_
          refine xv_aload_n C dX6_set_48 rfl 1 rfl ?_
          refine xv_get C hiX6 0 (wM0 g _) rfl 0 (by decide) (List.mem_of_getElem? (i := 1) rfl) rfl dX6_set_49 ?_
          refine xv_iload_n C dX6_set_52 rfl 2 rfl ?_
          refine xv_iload_n C dX6_set_53 rfl 3 rfl ?_
          refine xv_iast C 1 0 (wM1 g _) rfl (up a 1 x1.toNatClampNeg x2) (pM1 g _ _ _) hf dX6_set_54 (fun hf => ?_)
          refine xv_iload_n C dX6_set_55 rfl 0 rfl ?_
          exact xz_iw hret hf dX6_set_56
        · refine xv_aload_n C dX6_set_29 rfl 0 rfl ?_
          refine xv_iload_n C dX6_set_30 rfl 1 rfl ?_
          refine xv_iload_n C dX6_set_31 rfl 2 rfl ?_
          obtain ⟨q4, hg, hf⟩ := dt_bind hf
          refine xc_i (xr_V C (ci := 6) (As := [.int x1, .int x2]) (fun l => c_X6_can g hS l n x1 x2 a q4 hg) gX6_set_X6_can rfl ⟨rfl, rfl⟩ hdV_X6_can ⟨Nat.le_of_ble_eq_true rfl, Nat.le_of_ble_eq_true rfl⟩ 0 rfl rfl (wM0 g _) rfl rfl (Nat.le_of_ble_eq_true rfl) dX6_set_32) ?_
          refine xv_if_ne C (y := 0) 41 hf dX6_set_35 (by decide) (fun _ hf => ?_) (fun _ hf => ?_)
          · refine xv_bipush C (-4) dX6_set_38 (by decide) ?_
            exact xz_iw hret hf dX6_set_40
          · refine xv_aload_n C dX6_set_41 rfl 0 rfl ?_
            refine xv_get C hiX6 0 (wM0 g _) rfl 0 (by decide) (List.mem_of_getElem? (i := 1) rfl) rfl dX6_set_42 ?_
            refine xv_iload_n C dX6_set_45 rfl 1 rfl ?_
            refine xv_iald C 1 0 (wM1 g _) rfl hf dX6_set_46 (fun hf => ?_)
            refine xv_istore_n C [(3, .int (a 1 x1.toNatClampNeg)), (0, .ref (aM g 0)), (1, .int x1), (2, .int x2)] dX6_set_47 rfl (by decide) rfl ?_
            refine xv_aload_n C dX6_set_48 rfl 1 rfl ?_
            refine xv_get C hiX6 0 (wM0 g _) rfl 0 (by decide) (List.mem_of_getElem? (i := 1) rfl) rfl dX6_set_49 ?_
            refine xv_iload_n C dX6_set_52 rfl 2 rfl ?_
            refine xv_iload_n C dX6_set_53 rfl 3 rfl ?_
            refine xv_iast C 1 0 (wM1 g _) rfl (up a 1 x1.toNatClampNeg x2) (pM1 g _ _ _) hf dX6_set_54 (fun hf => ?_)
            refine xv_iload_n C dX6_set_55 rfl 0 rfl ?_
            exact xz_iw hret hf dX6_set_56
set_option maxRecDepth 100000 in
set_option maxHeartbeats 4000000 in
theorem c_X6_forbiddenNow (g : GM) (hS : xSide (sM g)) (l : Launch) (n : Nat) (a : St) (q : Int32) (hf : f_X6_forbiddenNow n a = some q) : Met l yX6_forbiddenNow wsX6_forbiddenNow rm_X6_forbiddenNow (xPre (sM g) [.ref (aM g 0)] a) (xPostI (sM g) q a) 0 0 (sM g).2.2.1 := by
  refine xm_i (av := [.ref (aM g 0)]) (cc := cX6_forbiddenNow) (maxL := 3) (by decide) rfl (Nat.le_of_ble_eq_true rfl) hS.1 hS.2 (fun K C hret => ?_)
  have C : CC K (sM g) cX6_forbiddenNow 3 wsX6_forbiddenNow RX6 rm_X6_forbiddenNow := C
  have hiX6 : ∀ w ∈ u_ws RX6 TX6 26, w ∈ wsX6_forbiddenNow := fun w h => List.mem_cons_of_mem _ (List.mem_append_right _ h)
  have hL4 : ∀  (j : Nat) (x1 : Int32) (x2 : Int32), L_X6_forbiddenNow_4 n a j x1 x2 = some q → V K (sM g) 3 a [(0, .ref (aM g 0)), (1, .int x1), (2, .int x2)] 4 [] := by
    intro j
    induction j with
    | zero =>
      intro x1 x2 hf
      have hf : (none : Option Int32) = some q := hf
      cases hf
    | succ j ih =>
      intro x1 x2 hf
      rw [L_X6_forbiddenNow_4] at hf
      refine xv_iload_n C dX6_forbiddenNow_4 rfl 2 rfl ?_
      refine xv_aload_n C dX6_forbiddenNow_5 rfl 0 rfl ?_
      refine xv_get C hiX6 0 (wM0 g _) rfl 11 (by decide) (List.mem_of_getElem? (i := 1) rfl) rfl dX6_forbiddenNow_6 ?_
      refine xv_icmp_ge C 34 hf dX6_forbiddenNow_9 (by decide) (fun _ hf => ?_) (fun _ hf => ?_)
      · refine xv_iload_n C dX6_forbiddenNow_34 rfl 1 rfl ?_
        exact xz_ir hret hf dX6_forbiddenNow_35
      · refine xv_iload_n C dX6_forbiddenNow_12 rfl 1 rfl ?_
        refine xv_aload_n C dX6_forbiddenNow_13 rfl 0 rfl ?_
        refine xv_get C hiX6 0 (wM0 g _) rfl 10 (by decide) (List.mem_of_getElem? (i := 2) rfl) rfl dX6_forbiddenNow_14 ?_
        refine xv_bipush C 6 dX6_forbiddenNow_17 (by decide) ?_
        refine xv_iload_n C dX6_forbiddenNow_19 rfl 2 rfl ?_
        refine xv_imul C dX6_forbiddenNow_20 ?_
        refine xv_iconst C 5 dX6_forbiddenNow_21 (by decide) ?_
        refine xv_iadd C dX6_forbiddenNow_22 ?_
        refine xv_iald C 8 0 (wM8 g _) rfl hf dX6_forbiddenNow_23 (fun hf => ?_)
        refine xv_iload_n C dX6_forbiddenNow_24 rfl 2 rfl ?_
        refine xv_ishl C dX6_forbiddenNow_25 ?_
        refine xv_ior C dX6_forbiddenNow_26 ?_
        refine xv_istore_n C [(1, .int (x1 ||| ((a 8 ((((6 : Int32) * x2) + 5).toNatClampNeg)) <<< (x2 &&& 31)))), (0, .ref (aM g 0)), (2, .int x2)] dX6_forbiddenNow_27 rfl (by decide) rfl ?_
        refine xv_iinc C [(2, .int (x2 + 1)), (1, .int (x1 ||| ((a 8 ((((6 : Int32) * x2) + 5).toNatClampNeg)) <<< (x2 &&& 31)))), (0, .ref (aM g 0))] dX6_forbiddenNow_28 2 rfl rfl (by decide) rfl ?_
        refine xv_goto C 4 dX6_forbiddenNow_31 (by decide) ?_
        refine xv_eq [2, 1, 0] rfl ?_
        exact ih (x1 ||| ((a 8 ((((6 : Int32) * x2) + 5).toNatClampNeg)) <<< (x2 &&& 31))) (x2 + 1) hf
  rw [f_X6_forbiddenNow] at hf
  show V K (sM g) 3 a [(0, .ref (aM g 0))] 0 []
  refine xv_iconst C 0 dX6_forbiddenNow_0 (by decide) ?_
  refine xv_istore_n C [(1, .int 0), (0, .ref (aM g 0))] dX6_forbiddenNow_1 rfl (by decide) rfl ?_
  refine xv_iconst C 0 dX6_forbiddenNow_2 (by decide) ?_
  refine xv_istore_n C [(2, .int 0), (1, .int 0), (0, .ref (aM g 0))] dX6_forbiddenNow_3 rfl (by decide) rfl ?_
  refine xv_eq [2, 1, 0] rfl ?_
  exact hL4 n 0 0 hf
set_option maxRecDepth 100000 in
set_option maxHeartbeats 4000000 in
theorem c_X6_layNext (g : GM) (hS : xSide (sM g)) (l : Launch) (n : Nat) (x1 : Int32) (x2 : Int32) (a : St) (q : St) (hf : f_X6_layNext n x1 x2 a = some q) : Met l yX6_layNext wsX6_layNext rm_X6_layNext (xPre (sM g) [.ref (aM g 0), .int x1, .int x2] a) (xPostV (sM g) q) 0 0 (sM g).2.2.1 := by
  refine xm_v (av := [.ref (aM g 0), .int x1, .int x2]) (cc := cX6_layNext) (maxL := 5) (by decide) rfl (Nat.le_of_ble_eq_true rfl) hS.1 hS.2 (fun K C hret => ?_)
  have C : CC K (sM g) cX6_layNext 5 wsX6_layNext RX6 rm_X6_layNext := C
  have hiX6 : ∀ w ∈ u_ws RX6 TX6 26, w ∈ wsX6_layNext := fun w h => List.mem_cons_of_mem _ (List.mem_append_right _ h)
  have hL2 : ∀ (x1 : Int32) (x2 : Int32)  (j : Nat) (x3 : Int32) (a : St), L_X6_layNext_2 n x1 x2 j x3 a = some q → V K (sM g) 5 a [(0, .ref (aM g 0)), (1, .int x1), (2, .int x2), (3, .int x3)] 2 [] := by
    intro x1 x2 j
    induction j with
    | zero =>
      intro x3 a hf
      have hf : (none : Option St) = some q := hf
      cases hf
    | succ j ih =>
      intro x3 a hf
      rw [L_X6_layNext_2] at hf
      refine xv_iload_n C dX6_layNext_2 rfl 3 rfl ?_
      refine xv_aload_n C dX6_layNext_3 rfl 0 rfl ?_
      refine xv_get C hiX6 0 (wM0 g _) rfl 6 (by decide) (List.mem_of_getElem? (i := 1) rfl) rfl dX6_layNext_4 ?_
      refine xv_icmp_ge C 85 hf dX6_layNext_7 (by decide) (fun _ hf => ?_) (fun _ hf => ?_)
      · exact xz_v hret hf dX6_layNext_85
      · refine xv_aload_n C dX6_layNext_10 rfl 0 rfl ?_
        refine xv_get C hiX6 0 (wM0 g _) rfl 7 (by decide) (List.mem_of_getElem? (i := 2) rfl) rfl dX6_layNext_11 ?_
        refine xv_iload_n C dX6_layNext_14 rfl 3 rfl ?_
        refine xv_iald C 5 0 (wM5 g _) rfl hf dX6_layNext_15 (fun hf => ?_)
        refine xv_iconst C (-1) dX6_layNext_16 (by decide) ?_
        refine xv_icmp_ne C 24 hf dX6_layNext_17 (by decide) (fun _ hf => ?_) (fun _ hf => ?_)
        · refine xv_iconst C (-1) dX6_layNext_20 (by decide) ?_
          refine xv_goto C 40 dX6_layNext_21 (by decide) ?_
          refine xv_istore C [(4, .int (-1)), (0, .ref (aM g 0)), (1, .int x1), (2, .int x2), (3, .int x3)] dX6_layNext_40 (by decide) rfl ?_
          refine xv_aload_n C dX6_layNext_42 rfl 1 rfl ?_
          refine xv_get C hiX6 0 (wM0 g _) rfl 17 (by decide) (List.mem_of_getElem? (i := 3) rfl) rfl dX6_layNext_43 ?_
          refine xv_bipush C 8 dX6_layNext_46 (by decide) ?_
          refine xv_iload_n C dX6_layNext_48 rfl 2 rfl ?_
          refine xv_imul C dX6_layNext_49 ?_
          refine xv_bipush C 8 dX6_layNext_50 (by decide) ?_
          refine xv_iadd C dX6_layNext_52 ?_
          refine xv_iload_n C dX6_layNext_53 rfl 4 rfl ?_
          refine xv_iadd C dX6_layNext_54 ?_
          refine xv_iload C dX6_layNext_55 0 rfl ?_
          refine xv_iconst C (-1) dX6_layNext_57 (by decide) ?_
          refine xv_icmp_eq C (A := some ()) (B := (none : Option Unit)) (v := ()) 77 (by decide) dX6_layNext_58 (by decide) (fun _ _ => ?_) (fun _ hf => by cases hf)
          refine xv_iconst C (-1) dX6_layNext_77 (by decide) ?_
          refine xv_iast C 9 0 (wM9 g _) rfl (up a 9 (((((8 : Int32) * x1) + 8) + x3).toNatClampNeg) (-1)) (pM9 g _ _ _) hf dX6_layNext_78 (fun hf => ?_)
          refine xv_iinc C [(3, .int (x3 + 1)), (4, .int (-1)), (0, .ref (aM g 0)), (1, .int x1), (2, .int x2)] dX6_layNext_79 4 rfl rfl (by decide) rfl ?_
          refine xv_goto C 2 dX6_layNext_82 (by decide) ?_
          refine xv_eq [2, 3, 4, 0] rfl ?_
          exact ih (x3 + 1) (up a 9 (((((8 : Int32) * x1) + 8) + x3).toNatClampNeg) (-1)) hf
        · refine xv_aload_n C dX6_layNext_24 rfl 0 rfl ?_
          refine xv_get C hiX6 0 (wM0 g _) rfl 17 (by decide) (List.mem_of_getElem? (i := 3) rfl) rfl dX6_layNext_25 ?_
          refine xv_bipush C 8 dX6_layNext_28 (by decide) ?_
          refine xv_iload_n C dX6_layNext_30 rfl 1 rfl ?_
          refine xv_imul C dX6_layNext_31 ?_
          refine xv_aload_n C dX6_layNext_32 rfl 0 rfl ?_
          refine xv_get C hiX6 0 (wM0 g _) rfl 7 (by decide) (List.mem_of_getElem? (i := 2) rfl) rfl dX6_layNext_33 ?_
          refine xv_iload_n C dX6_layNext_36 rfl 3 rfl ?_
          refine xv_iald C 5 0 (wM5 g _) rfl hf dX6_layNext_37 (fun hf => ?_)
          refine xv_iadd C dX6_layNext_38 ?_
          refine xv_iald C 9 0 (wM9 g _) rfl hf dX6_layNext_39 (fun hf => ?_)
          refine xv_istore C [(4, .int (a 9 ((((8 : Int32) * x1) + (a 5 x3.toNatClampNeg)).toNatClampNeg))), (0, .ref (aM g 0)), (1, .int x1), (2, .int x2), (3, .int x3)] dX6_layNext_40 (by decide) rfl ?_
          refine xv_aload_n C dX6_layNext_42 rfl 1 rfl ?_
          refine xv_get C hiX6 0 (wM0 g _) rfl 17 (by decide) (List.mem_of_getElem? (i := 3) rfl) rfl dX6_layNext_43 ?_
          refine xv_bipush C 8 dX6_layNext_46 (by decide) ?_
          refine xv_iload_n C dX6_layNext_48 rfl 2 rfl ?_
          refine xv_imul C dX6_layNext_49 ?_
          refine xv_bipush C 8 dX6_layNext_50 (by decide) ?_
          refine xv_iadd C dX6_layNext_52 ?_
          refine xv_iload_n C dX6_layNext_53 rfl 4 rfl ?_
          refine xv_iadd C dX6_layNext_54 ?_
          refine xv_iload C dX6_layNext_55 0 rfl ?_
          refine xv_iconst C (-1) dX6_layNext_57 (by decide) ?_
          refine xv_icmp_eq C 77 hf dX6_layNext_58 (by decide) (fun _ hf => ?_) (fun _ hf => ?_)
          · refine xv_iconst C (-1) dX6_layNext_77 (by decide) ?_
            refine xv_iast C 9 0 (wM9 g _) rfl (up a 9 (((((8 : Int32) * x1) + 8) + x3).toNatClampNeg) (-1)) (pM9 g _ _ _) hf dX6_layNext_78 (fun hf => ?_)
            refine xv_iinc C [(3, .int (x3 + 1)), (4, .int (a 9 ((((8 : Int32) * x1) + (a 5 x3.toNatClampNeg)).toNatClampNeg))), (0, .ref (aM g 0)), (1, .int x1), (2, .int x2)] dX6_layNext_79 4 rfl rfl (by decide) rfl ?_
            refine xv_goto C 2 dX6_layNext_82 (by decide) ?_
            refine xv_eq [2, 3, 4, 0] rfl ?_
            exact ih (x3 + 1) (up a 9 (((((8 : Int32) * x1) + 8) + x3).toNatClampNeg) (-1)) hf
          · refine xv_aload_n C dX6_layNext_61 rfl 1 rfl ?_
            refine xv_iload_n C dX6_layNext_62 rfl 4 rfl ?_
            refine xv_iload C dX6_layNext_63 0 rfl ?_
            refine xv_iload_n C dX6_layNext_65 rfl 3 rfl ?_
            obtain ⟨q1, hg, hf⟩ := dt_bind hf
            refine xc_i (xr_V C (ci := 6) (As := [.int x3, .int (a 9 ((((8 : Int32) * x1) + (a 5 x3.toNatClampNeg)).toNatClampNeg)), .int x2]) (fun l => c_X6_canBy g hS l n x3 (a 9 ((((8 : Int32) * x1) + (a 5 x3.toNatClampNeg)).toNatClampNeg)) x2 a q1 hg) gX6_layNext_X6_canBy rfl ⟨rfl, rfl⟩ hdV_X6_canBy ⟨Nat.le_of_ble_eq_true rfl, Nat.le_of_ble_eq_true rfl⟩ 0 rfl rfl (wM0 g _) rfl rfl (Nat.le_of_ble_eq_true rfl) dX6_layNext_66) ?_
            refine xv_if_eq C (y := 0) 77 hf dX6_layNext_69 (by decide) (fun _ hf => ?_) (fun _ hf => ?_)
            · refine xv_iconst C (-1) dX6_layNext_77 (by decide) ?_
              refine xv_iast C 9 0 (wM9 g _) rfl (up a 9 (((((8 : Int32) * x1) + 8) + x3).toNatClampNeg) (-1)) (pM9 g _ _ _) hf dX6_layNext_78 (fun hf => ?_)
              refine xv_iinc C [(3, .int (x3 + 1)), (4, .int (a 9 ((((8 : Int32) * x1) + (a 5 x3.toNatClampNeg)).toNatClampNeg))), (0, .ref (aM g 0)), (1, .int x1), (2, .int x2)] dX6_layNext_79 4 rfl rfl (by decide) rfl ?_
              refine xv_goto C 2 dX6_layNext_82 (by decide) ?_
              refine xv_eq [2, 3, 4, 0] rfl ?_
              exact ih (x3 + 1) (up a 9 (((((8 : Int32) * x1) + 8) + x3).toNatClampNeg) (-1)) hf
            · refine xv_iload C dX6_layNext_72 0 rfl ?_
              refine xv_goto C 78 dX6_layNext_74 (by decide) ?_
              refine xv_iast C 9 0 (wM9 g _) rfl (up a 9 (((((8 : Int32) * x1) + 8) + x3).toNatClampNeg) (a 9 ((((8 : Int32) * x1) + (a 5 x3.toNatClampNeg)).toNatClampNeg))) (pM9 g _ _ _) hf dX6_layNext_78 (fun hf => ?_)
              refine xv_iinc C [(3, .int (x3 + 1)), (4, .int (a 9 ((((8 : Int32) * x1) + (a 5 x3.toNatClampNeg)).toNatClampNeg))), (0, .ref (aM g 0)), (1, .int x1), (2, .int x2)] dX6_layNext_79 4 rfl rfl (by decide) rfl ?_
              refine xv_goto C 2 dX6_layNext_82 (by decide) ?_
              refine xv_eq [2, 3, 4, 0] rfl ?_
              exact ih (x3 + 1) (up a 9 (((((8 : Int32) * x1) + 8) + x3).toNatClampNeg) (a 9 ((((8 : Int32) * x1) + (a 5 x3.toNatClampNeg)).toNatClampNeg))) hf
  rw [f_X6_layNext] at hf
  show V K (sM g) 5 a [(0, .ref (aM g 0)), (1, .int x1), (2, .int x2)] 0 []
  refine xv_iconst C 0 dX6_layNext_0 (by decide) ?_
  refine xv_istore_n C [(3, .int 0), (0, .ref (aM g 0)), (1, .int x1), (2, .int x2)] dX6_layNext_1 rfl (by decide) rfl ?_
  refine xv_eq [1, 2, 3, 0] rfl ?_
  exact hL2 x1 x2 n 0 a hf
