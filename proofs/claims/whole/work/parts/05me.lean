set_option maxRecDepth 100000 in
set_option maxHeartbeats 4000000 in
theorem c_X6_rows (g : GM) (hS : xSide (sM g)) (l : Launch) (n : Nat) (a : St) (q : Int32) (hf : f_X6_rows n a = some q) : Met l yX6_rows wsX6_rows rm_X6_rows (xPre (sM g) [.ref (aM g 0)] a) (xPostI (sM g) q a) 0 0 (sM g).2.2.1 := by
  refine xm_i (av := [.ref (aM g 0)]) (cc := cX6_rows) (maxL := 3) (by decide) rfl (Nat.le_of_ble_eq_true rfl) hS.1 hS.2 (fun K C hret => ?_)
  have C : CC K (sM g) cX6_rows 3 wsX6_rows RX6 rm_X6_rows := C
  have hiX6 : ∀ w ∈ u_ws RX6 TX6 26, w ∈ wsX6_rows := fun w h => List.mem_cons_of_mem _ (List.mem_append_right _ h)
  have hL4 : ∀  (j : Nat) (x1 : Int32) (x2 : Int32), L_X6_rows_4 n a j x1 x2 = some q → V K (sM g) 3 a [(0, .ref (aM g 0)), (1, .int x1), (2, .int x2)] 4 [] := by
    intro j
    induction j with
    | zero =>
      intro x1 x2 hf
      have hf : (none : Option Int32) = some q := hf
      cases hf
    | succ j ih =>
      intro x1 x2 hf
      rw [L_X6_rows_4] at hf
      refine xv_iload_n C dX6_rows_4 rfl 2 rfl ?_
      refine xv_aload_n C dX6_rows_5 rfl 0 rfl ?_
      refine xv_get C hiX6 0 (wM0 g _) rfl 6 (by decide) (List.mem_of_getElem? (i := 1) rfl) rfl dX6_rows_6 ?_
      refine xv_icmp_ge C 30 hf dX6_rows_9 (by decide) (fun _ hf => ?_) (fun _ hf => ?_)
      · refine xv_iload_n C dX6_rows_30 rfl 1 rfl ?_
        exact xz_ir hret hf dX6_rows_31
      · refine xv_iload_n C dX6_rows_12 rfl 1 rfl ?_
        refine xv_aload_n C dX6_rows_13 rfl 0 rfl ?_
        refine xv_get C hiX6 0 (wM0 g _) rfl 20 (by decide) (List.mem_of_getElem? (i := 2) rfl) rfl dX6_rows_14 ?_
        refine xv_iload_n C dX6_rows_17 rfl 2 rfl ?_
        refine xv_iald C 11 0 (wM11 g _) rfl hf dX6_rows_18 (fun hf => ?_)
        obtain ⟨q1, hg, hf⟩ := dt_bind hf
        refine xc_i (xr_S C (As := [.int (a 11 x2.toNatClampNeg)]) (fun l => c_X6_bits (sM g) hS l n (a 11 x2.toNatClampNeg) a q1 hg) gX6_rows_X6_bits rfl ⟨rfl, rfl⟩ hdS_X6_bits ⟨Nat.le_of_ble_eq_true rfl, Nat.le_of_ble_eq_true rfl⟩ rfl rfl (Nat.le_of_ble_eq_true rfl) dX6_rows_19) ?_
        refine xv_imul C dX6_rows_22 ?_
        refine xv_istore_n C [(1, .int (x1 * q1)), (0, .ref (aM g 0)), (2, .int x2)] dX6_rows_23 rfl (by decide) rfl ?_
        refine xv_iinc C [(2, .int (x2 + 1)), (1, .int (x1 * q1)), (0, .ref (aM g 0))] dX6_rows_24 2 rfl rfl (by decide) rfl ?_
        refine xv_goto C 4 dX6_rows_27 (by decide) ?_
        refine xv_eq [2, 1, 0] rfl ?_
        exact ih (x1 * q1) (x2 + 1) hf
  rw [f_X6_rows] at hf
  show V K (sM g) 3 a [(0, .ref (aM g 0))] 0 []
  refine xv_iconst C 1 dX6_rows_0 (by decide) ?_
  refine xv_istore_n C [(1, .int 1), (0, .ref (aM g 0))] dX6_rows_1 rfl (by decide) rfl ?_
  refine xv_iconst C 0 dX6_rows_2 (by decide) ?_
  refine xv_istore_n C [(2, .int 0), (1, .int 1), (0, .ref (aM g 0))] dX6_rows_3 rfl (by decide) rfl ?_
  refine xv_eq [2, 1, 0] rfl ?_
  exact hL4 n 1 0 hf
set_option maxRecDepth 100000 in
set_option maxHeartbeats 4000000 in
theorem c_X6_none (g : GM) (hS : xSide (sM g)) (l : Launch) (n : Nat) (a : St) (q : St) (hf : f_X6_none n a = some q) : Met l yX6_none wsX6_none rm_X6_none (xPre (sM g) [.ref (aM g 0)] a) (xPostV (sM g) q) 0 0 (sM g).2.2.1 := by
  refine xm_v (av := [.ref (aM g 0)]) (cc := cX6_none) (maxL := 2) (by decide) rfl (Nat.le_of_ble_eq_true rfl) hS.1 hS.2 (fun K C hret => ?_)
  have C : CC K (sM g) cX6_none 2 wsX6_none RX6 rm_X6_none := C
  have hiX6 : ∀ w ∈ u_ws RX6 TX6 26, w ∈ wsX6_none := fun w h => List.mem_cons_of_mem _ (List.mem_append_right _ h)
  have hL2 : ∀  (j : Nat) (x1 : Int32) (a : St), L_X6_none_2 n j x1 a = some q → V K (sM g) 2 a [(0, .ref (aM g 0)), (1, .int x1)] 2 [] := by
    intro j
    induction j with
    | zero =>
      intro x1 a hf
      have hf : (none : Option St) = some q := hf
      cases hf
    | succ j ih =>
      intro x1 a hf
      rw [L_X6_none_2] at hf
      refine xv_iload_n C dX6_none_2 rfl 1 rfl ?_
      refine xv_aload_n C dX6_none_3 rfl 0 rfl ?_
      refine xv_get C hiX6 0 (wM0 g _) rfl 6 (by decide) (List.mem_of_getElem? (i := 1) rfl) rfl dX6_none_4 ?_
      refine xv_icmp_ge C 23 hf dX6_none_7 (by decide) (fun _ hf => ?_) (fun _ hf => ?_)
      · exact xz_v hret hf dX6_none_23
      · refine xv_aload_n C dX6_none_10 rfl 0 rfl ?_
        refine xv_get C hiX6 0 (wM0 g _) rfl 20 (by decide) (List.mem_of_getElem? (i := 2) rfl) rfl dX6_none_11 ?_
        refine xv_iload_n C dX6_none_14 rfl 1 rfl ?_
        refine xv_iconst C 0 dX6_none_15 (by decide) ?_
        refine xv_iast C 11 0 (wM11 g _) rfl (up a 11 x1.toNatClampNeg 0) (pM11 g _ _ _) hf dX6_none_16 (fun hf => ?_)
        refine xv_iinc C [(1, .int (x1 + 1)), (0, .ref (aM g 0))] dX6_none_17 1 rfl rfl (by decide) rfl ?_
        refine xv_goto C 2 dX6_none_20 (by decide) ?_
        refine xv_eq [1, 0] rfl ?_
        exact ih (x1 + 1) (up a 11 x1.toNatClampNeg 0) hf
  rw [f_X6_none] at hf
  show V K (sM g) 2 a [(0, .ref (aM g 0))] 0 []
  refine xv_iconst C 0 dX6_none_0 (by decide) ?_
  refine xv_istore_n C [(1, .int 0), (0, .ref (aM g 0))] dX6_none_1 rfl (by decide) rfl ?_
  refine xv_eq [1, 0] rfl ?_
  exact hL2 n 0 a hf
set_option maxRecDepth 100000 in
set_option maxHeartbeats 4000000 in
theorem c_X6_bind (g : GM) (hS : xSide (sM g)) (l : Launch) (n : Nat) (x1 : Int32) (x2 : Int32) (x3 : Int32) (a : St) (q : St) (hf : f_X6_bind n x1 x2 x3 a = some q) : Met l yX6_bind wsX6_bind rm_X6_bind (xPre (sM g) [.ref (aM g 0), .int x1, .int x2, .int x3] a) (xPostV (sM g) q) 0 0 (sM g).2.2.1 := by
  refine xm_v (av := [.ref (aM g 0), .int x1, .int x2, .int x3]) (cc := cX6_bind) (maxL := 5) (by decide) rfl (Nat.le_of_ble_eq_true rfl) hS.1 hS.2 (fun K C hret => ?_)
  have C : CC K (sM g) cX6_bind 5 wsX6_bind RX6 rm_X6_bind := C
  have hiX6 : ∀ w ∈ u_ws RX6 TX6 26, w ∈ wsX6_bind := fun w h => List.mem_cons_of_mem _ (List.mem_append_right _ h)
  rw [f_X6_bind] at hf
  show V K (sM g) 5 a [(0, .ref (aM g 0)), (1, .int x1), (2, .int x2), (3, .int x3)] 0 []
  refine xv_aload_n C dX6_bind_0 rfl 0 rfl ?_
  refine xv_iload_n C dX6_bind_1 rfl 1 rfl ?_
  refine xv_iload_n C dX6_bind_2 rfl 2 rfl ?_
  refine xv_iload_n C dX6_bind_3 rfl 3 rfl ?_
  obtain ⟨q1, hg, hf⟩ := dt_bind hf
  refine xc_i (xr_V C (ci := 6) (As := [.int x1, .int x2, .int x3]) (fun l => c_X6_firstOf g hS l n x1 x2 x3 a q1 hg) gX6_bind_X6_firstOf rfl ⟨rfl, rfl⟩ hdV_X6_firstOf ⟨Nat.le_of_ble_eq_true rfl, Nat.le_of_ble_eq_true rfl⟩ 0 rfl rfl (wM0 g _) rfl rfl (Nat.le_of_ble_eq_true rfl) dX6_bind_4) ?_
  refine xv_istore C [(4, .int q1), (0, .ref (aM g 0)), (1, .int x1), (2, .int x2), (3, .int x3)] dX6_bind_7 (by decide) rfl ?_
  refine xv_iload C dX6_bind_9 0 rfl ?_
  refine xv_iconst C (-1) dX6_bind_11 (by decide) ?_
  refine xv_icmp_ne C 22 hf dX6_bind_12 (by decide) (fun _ hf => ?_) (fun _ hf => ?_)
  · refine xv_aload_n C dX6_bind_15 rfl 1 rfl ?_
    obtain ⟨q2, hg, hf⟩ := dt_bind hf
    refine xc_v (xr_V C (ci := 6) (As := []) (fun l => c_X6_none g hS l n a q2 hg) gX6_bind_X6_none rfl ⟨rfl, rfl⟩ hdV_X6_none ⟨Nat.le_of_ble_eq_true rfl, Nat.le_of_ble_eq_true rfl⟩ 0 rfl rfl (wM0 g _) rfl rfl (Nat.le_of_ble_eq_true rfl) dX6_bind_16) ?_
    refine xv_goto C 35 dX6_bind_19 (by decide) ?_
    exact xz_v hret hf dX6_bind_35
  · refine xv_aload_n C dX6_bind_22 rfl 1 rfl ?_
    refine xv_get C hiX6 0 (wM0 g _) rfl 20 (by decide) (List.mem_of_getElem? (i := 1) rfl) rfl dX6_bind_23 ?_
    refine xv_iload C dX6_bind_26 0 rfl ?_
    refine xv_dup2 C dX6_bind_28 rfl rfl ?_
    refine xv_iald C 11 0 (wM11 g _) rfl hf dX6_bind_29 (fun hf => ?_)
    refine xv_iconst C 1 dX6_bind_30 (by decide) ?_
    refine xv_iload_n C dX6_bind_31 rfl 3 rfl ?_
    refine xv_ishl C dX6_bind_32 ?_
    refine xv_iand C dX6_bind_33 ?_
    refine xv_iast C 11 0 (wM11 g _) rfl (up a 11 q1.toNatClampNeg ((a 11 q1.toNatClampNeg) &&& ((1 : Int32) <<< (x2 &&& 31)))) (pM11 g _ _ _) hf dX6_bind_34 (fun hf => ?_)
    exact xz_v hret hf dX6_bind_35
set_option maxRecDepth 100000 in
set_option maxHeartbeats 4000000 in
theorem c_X6_ways (g : GM) (hS : xSide (sM g)) (l : Launch) (n : Nat) (a : St) (q : (Int32 × St)) (hf : f_X6_ways n a = some q) : Met l yX6_ways wsX6_ways rm_X6_ways (xPre (sM g) [.ref (aM g 0)] a) (xPostI (sM g) q.1 q.2) 0 0 (sM g).2.2.1 := by
  refine xm_i (av := [.ref (aM g 0)]) (cc := cX6_ways) (maxL := 2) (by decide) rfl (Nat.le_of_ble_eq_true rfl) hS.1 hS.2 (fun K C hret => ?_)
  have C : CC K (sM g) cX6_ways 2 wsX6_ways RX6 rm_X6_ways := C
  have hiX6 : ∀ w ∈ u_ws RX6 TX6 26, w ∈ wsX6_ways := fun w h => List.mem_cons_of_mem _ (List.mem_append_right _ h)
  have hL6 : ∀  (j : Nat) (x1 : Int32) (a : St), L_X6_ways_6 n j x1 a = some q → V K (sM g) 2 a [(0, .ref (aM g 0)), (1, .int x1)] 6 [] := by
    intro j
    induction j with
    | zero =>
      intro x1 a hf
      have hf : (none : Option (Int32 × St)) = some q := hf
      cases hf
    | succ j ih =>
      intro x1 a hf
      rw [L_X6_ways_6] at hf
      refine xv_iload_n C dX6_ways_6 rfl 1 rfl ?_
      refine xv_aload_n C dX6_ways_7 rfl 0 rfl ?_
      refine xv_get C hiX6 0 (wM0 g _) rfl 19 (by decide) (List.mem_of_getElem? (i := 1) rfl) rfl dX6_ways_8 ?_
      refine xv_icmp_ge C 52 hf dX6_ways_11 (by decide) (fun _ hf => ?_) (fun _ hf => ?_)
      · refine xv_aload_n C dX6_ways_52 rfl 0 rfl ?_
        obtain ⟨q2, hg, hf⟩ := dt_bind hf
        refine xc_i (xr_V C (ci := 6) (As := []) (fun l => c_X6_rows g hS l n a q2 hg) gX6_ways_X6_rows rfl ⟨rfl, rfl⟩ hdV_X6_rows ⟨Nat.le_of_ble_eq_true rfl, Nat.le_of_ble_eq_true rfl⟩ 0 rfl rfl (wM0 g _) rfl rfl (Nat.le_of_ble_eq_true rfl) dX6_ways_53) ?_
        exact xz_iw hret hf dX6_ways_56
      · refine xv_aload_n C dX6_ways_14 rfl 0 rfl ?_
        refine xv_aload_n C dX6_ways_15 rfl 0 rfl ?_
        refine xv_get C hiX6 0 (wM0 g _) rfl 18 (by decide) (List.mem_of_getElem? (i := 2) rfl) rfl dX6_ways_16 ?_
        refine xv_iconst C 3 dX6_ways_19 (by decide) ?_
        refine xv_iload_n C dX6_ways_20 rfl 1 rfl ?_
        refine xv_imul C dX6_ways_21 ?_
        refine xv_iald C 10 0 (wM10 g _) rfl hf dX6_ways_22 (fun hf => ?_)
        refine xv_aload_n C dX6_ways_23 rfl 0 rfl ?_
        refine xv_get C hiX6 0 (wM0 g _) rfl 18 (by decide) (List.mem_of_getElem? (i := 2) rfl) rfl dX6_ways_24 ?_
        refine xv_iconst C 3 dX6_ways_27 (by decide) ?_
        refine xv_iload_n C dX6_ways_28 rfl 1 rfl ?_
        refine xv_imul C dX6_ways_29 ?_
        refine xv_iconst C 1 dX6_ways_30 (by decide) ?_
        refine xv_iadd C dX6_ways_31 ?_
        refine xv_iald C 10 0 (wM10 g _) rfl hf dX6_ways_32 (fun hf => ?_)
        refine xv_aload_n C dX6_ways_33 rfl 0 rfl ?_
        refine xv_get C hiX6 0 (wM0 g _) rfl 18 (by decide) (List.mem_of_getElem? (i := 2) rfl) rfl dX6_ways_34 ?_
        refine xv_iconst C 3 dX6_ways_37 (by decide) ?_
        refine xv_iload_n C dX6_ways_38 rfl 1 rfl ?_
        refine xv_imul C dX6_ways_39 ?_
        refine xv_iconst C 2 dX6_ways_40 (by decide) ?_
        refine xv_iadd C dX6_ways_41 ?_
        refine xv_iald C 10 0 (wM10 g _) rfl hf dX6_ways_42 (fun hf => ?_)
        obtain ⟨q3, hg, hf⟩ := dt_bind hf
        refine xc_v (xr_V C (ci := 6) (As := [.int (a 10 (((3 : Int32) * x1).toNatClampNeg)), .int (a 10 ((((3 : Int32) * x1) + 1).toNatClampNeg)), .int (a 10 ((((3 : Int32) * x1) + 2).toNatClampNeg))]) (fun l => c_X6_bind g hS l n (a 10 (((3 : Int32) * x1).toNatClampNeg)) (a 10 ((((3 : Int32) * x1) + 1).toNatClampNeg)) (a 10 ((((3 : Int32) * x1) + 2).toNatClampNeg)) a q3 hg) gX6_ways_X6_bind rfl ⟨rfl, rfl⟩ hdV_X6_bind ⟨Nat.le_of_ble_eq_true rfl, Nat.le_of_ble_eq_true rfl⟩ 0 rfl rfl (wM0 g _) rfl rfl (Nat.le_of_ble_eq_true rfl) dX6_ways_43) ?_
        refine xv_iinc C [(1, .int (x1 + 1)), (0, .ref (aM g 0))] dX6_ways_46 1 rfl rfl (by decide) rfl ?_
        refine xv_goto C 6 dX6_ways_49 (by decide) ?_
        refine xv_eq [1, 0] rfl ?_
        exact ih (x1 + 1) q3 hf
  rw [f_X6_ways] at hf
  show V K (sM g) 2 a [(0, .ref (aM g 0))] 0 []
  refine xv_aload_n C dX6_ways_0 rfl 0 rfl ?_
  obtain ⟨q1, hg, hf⟩ := dt_bind hf
  refine xc_v (xr_V C (ci := 6) (As := []) (fun l => c_X6_layMays g hS l n a q1 hg) gX6_ways_X6_layMays rfl ⟨rfl, rfl⟩ hdV_X6_layMays ⟨Nat.le_of_ble_eq_true rfl, Nat.le_of_ble_eq_true rfl⟩ 0 rfl rfl (wM0 g _) rfl rfl (Nat.le_of_ble_eq_true rfl) dX6_ways_1) ?_
  refine xv_iconst C 0 dX6_ways_4 (by decide) ?_
  refine xv_istore_n C [(1, .int 0), (0, .ref (aM g 0))] dX6_ways_5 rfl (by decide) rfl ?_
  refine xv_eq [1, 0] rfl ?_
  exact hL6 n 0 q1 hf
set_option maxRecDepth 100000 in
set_option maxHeartbeats 4000000 in
theorem c_X6_isDays (S : SID) (hS : xSide S) (l : Launch) (x0 : Int32) (a : St) (q : Int32) (hf : f_X6_isDays x0 = some q) : Met l yX6_isDays wsX6_isDays rm_X6_isDays (xPre S [.int x0] a) (xPostI S q a) 0 0 S.2.2.1 := by
  refine xm_z (av := [.int x0]) (cc := cX6_isDays) (maxL := 1) (by decide) rfl (Nat.le_of_ble_eq_true rfl) hS.1 hS.2 (fun K C hret => ?_)
  have C : CC K S cX6_isDays 1 wsX6_isDays RX6 rm_X6_isDays := C
  rw [f_X6_isDays] at hf
  show V K S 1 a [(0, .int x0)] 0 []
  refine xv_iload_n C dX6_isDays_0 rfl 0 rfl ?_
  refine xv_i2l C dX6_isDays_1 ?_
  refine xv_lconst C 1 dX6_isDays_2 (by decide) ?_
  refine xv_ldc2 C 99 dX6_isDays_3 (List.mem_of_getElem? (i := 1) rfl) ?_
  obtain ⟨q1, hg, hf⟩ := dt_bind hf
  refine xc_i (xr_S C (As := [.long x0.toInt64, .long 1, .long 99]) (fun l => c_X6_in S hS l x0.toInt64 1 99 a q1 hg) gX6_isDays_X6_in rfl ⟨rfl, rfl⟩ hdS_X6_in ⟨Nat.le_of_ble_eq_true rfl, Nat.le_of_ble_eq_true rfl⟩ rfl rfl (Nat.le_of_ble_eq_true rfl) dX6_isDays_6) ?_
  exact xz_zgr hret hf dX6_isDays_9
set_option maxRecDepth 100000 in
set_option maxHeartbeats 4000000 in
theorem c_X6_laySums (g : GM) (hS : xSide (sM g)) (l : Launch) (n : Nat) (x1 : Int32) (a : St) (q : St) (hf : f_X6_laySums n x1 a = some q) : Met l yX6_laySums wsX6_laySums rm_X6_laySums (xPre (sM g) [.ref (aM g 0), .int x1] a) (xPostV (sM g) q) 0 0 (sM g).2.2.1 := by
  refine xm_v (av := [.ref (aM g 0), .int x1]) (cc := cX6_laySums) (maxL := 4) (by decide) rfl (Nat.le_of_ble_eq_true rfl) hS.1 hS.2 (fun K C hret => ?_)
  have C : CC K (sM g) cX6_laySums 4 wsX6_laySums RX6 rm_X6_laySums := C
  have hiX6 : ∀ w ∈ u_ws RX6 TX6 26, w ∈ wsX6_laySums := fun w h => List.mem_cons_of_mem _ (List.mem_append_right _ h)
  have hL12 : ∀ (x1 : Int32)  (j : Nat) (x2 : Int32) (a : St), L_X6_laySums_12 n x1 j x2 a = some q → V K (sM g) 4 a [(0, .ref (aM g 0)), (1, .int x1), (2, .int x2)] 12 [] := by
    intro x1 j
    induction j with
    | zero =>
      intro x2 a hf
      have hf : (none : Option St) = some q := hf
      cases hf
    | succ j ih =>
      intro x2 a hf
      rw [L_X6_laySums_12] at hf
      refine xv_iload_n C dX6_laySums_12 rfl 2 rfl ?_
      refine xv_bipush C 8 dX6_laySums_13 (by decide) ?_
      refine xv_iload_n C dX6_laySums_15 rfl 1 rfl ?_
      refine xv_imul C dX6_laySums_16 ?_
      refine xv_icmp_ge C 124 hf dX6_laySums_17 (by decide) (fun _ hf => ?_) (fun _ hf => ?_)
      · exact xz_v hret hf dX6_laySums_124
      · refine xv_iload_n C dX6_laySums_20 rfl 2 rfl ?_
        refine xv_bipush C 8 dX6_laySums_21 (by decide) ?_
        refine xv_irem C (B := some ()) (v := ()) (by decide) dX6_laySums_23 (fun _ => ?_)
        refine xv_aload_n C dX6_laySums_24 rfl 0 rfl ?_
        refine xv_get C hiX6 0 (wM0 g _) rfl 6 (by decide) (List.mem_of_getElem? (i := 3) rfl) rfl dX6_laySums_25 ?_
        refine xv_icmp_ge C 40 hf dX6_laySums_28 (by decide) (fun _ hf => ?_) (fun _ hf => ?_)
        · refine xv_iconst C (-1) dX6_laySums_40 (by decide) ?_
          refine xv_istore_n C [(3, .int (-1)), (0, .ref (aM g 0)), (1, .int x1), (2, .int x2)] dX6_laySums_41 rfl (by decide) rfl ?_
          refine xv_aload_n C dX6_laySums_42 rfl 1 rfl ?_
          refine xv_dup C dX6_laySums_43 rfl ?_
          refine xv_get C hiX6 0 (wM0 g _) rfl 21 (by decide) (List.mem_of_getElem? (i := 1) rfl) rfl dX6_laySums_44 ?_
          refine xv_iload_n C dX6_laySums_47 rfl 0 rfl ?_
          refine xv_iconst C (-1) dX6_laySums_48 (by decide) ?_
          refine xv_icmp_ne C (A := some ()) (B := (none : Option Unit)) (v := ()) 56 (by decide) dX6_laySums_49 (by decide) (fun _ _ => ?_) (fun _ hf => by cases hf)
          refine xv_iconst C 0 dX6_laySums_52 (by decide) ?_
          refine xv_goto C 67 dX6_laySums_53 (by decide) ?_
          refine xv_iadd C dX6_laySums_67 ?_
          refine xv_put C hiX6 tyX6 tyX6_ok nmX6 0 (wM0 g _) rfl 21 (by decide) (List.mem_of_getElem? (i := 1) rfl) rfl (tyX6_ok 21 (by decide)) rfl rfl (Nat.le_of_ble_eq_true rfl) (up a 0 21 ((a 0 21) + 0)) (pM0_21 g _ _) dX6_laySums_68 ?_
          refine xv_aload_n C dX6_laySums_71 rfl 1 rfl ?_
          refine xv_dup C dX6_laySums_72 rfl ?_
          refine xv_get C hiX6 0 (wM0 g _) rfl 22 (by decide) (List.mem_of_getElem? (i := 2) rfl) rfl dX6_laySums_73 ?_
          refine xv_iload_n C dX6_laySums_76 rfl 0 rfl ?_
          refine xv_iconst C (-1) dX6_laySums_77 (by decide) ?_
          refine xv_icmp_eq C (A := some ()) (B := (none : Option Unit)) (v := ()) 99 (by decide) dX6_laySums_78 (by decide) (fun _ _ => ?_) (fun _ hf => by cases hf)
          refine xv_iconst C 0 dX6_laySums_99 (by decide) ?_
          refine xv_goto C 114 dX6_laySums_100 (by decide) ?_
          refine xv_iadd C dX6_laySums_114 ?_
          refine xv_put C hiX6 tyX6 tyX6_ok nmX6 0 (wM0 g _) rfl 22 (by decide) (List.mem_of_getElem? (i := 2) rfl) rfl (tyX6_ok 22 (by decide)) rfl rfl (Nat.le_of_ble_eq_true rfl) (up (up a 0 21 ((a 0 21) + 0)) 0 22 (((up a 0 21 ((a 0 21) + 0)) 0 22) + 0)) (pM0_22 g _ _) dX6_laySums_115 ?_
          refine xv_iinc C [(2, .int (x2 + 1)), (3, .int (-1)), (0, .ref (aM g 0)), (1, .int x1)] dX6_laySums_118 3 rfl rfl (by decide) rfl ?_
          refine xv_goto C 12 dX6_laySums_121 (by decide) ?_
          refine xv_eq [2, 3, 0] rfl ?_
          exact ih (x2 + 1) (up (up a 0 21 ((a 0 21) + 0)) 0 22 (((up a 0 21 ((a 0 21) + 0)) 0 22) + 0)) hf
        · refine xv_aload_n C dX6_laySums_31 rfl 0 rfl ?_
          refine xv_get C hiX6 0 (wM0 g _) rfl 17 (by decide) (List.mem_of_getElem? (i := 4) rfl) rfl dX6_laySums_32 ?_
          refine xv_iload_n C dX6_laySums_35 rfl 2 rfl ?_
          refine xv_iald C 9 0 (wM9 g _) rfl hf dX6_laySums_36 (fun hf => ?_)
          refine xv_goto C 41 dX6_laySums_37 (by decide) ?_
          refine xv_istore_n C [(3, .int (a 9 x2.toNatClampNeg)), (0, .ref (aM g 0)), (1, .int x1), (2, .int x2)] dX6_laySums_41 rfl (by decide) rfl ?_
          refine xv_aload_n C dX6_laySums_42 rfl 1 rfl ?_
          refine xv_dup C dX6_laySums_43 rfl ?_
          refine xv_get C hiX6 0 (wM0 g _) rfl 21 (by decide) (List.mem_of_getElem? (i := 1) rfl) rfl dX6_laySums_44 ?_
          refine xv_iload_n C dX6_laySums_47 rfl 0 rfl ?_
          refine xv_iconst C (-1) dX6_laySums_48 (by decide) ?_
          refine xv_icmp_ne C 56 hf dX6_laySums_49 (by decide) (fun _ hf => ?_) (fun _ hf => ?_)
          · refine xv_iconst C 0 dX6_laySums_52 (by decide) ?_
            refine xv_goto C 67 dX6_laySums_53 (by decide) ?_
            refine xv_iadd C dX6_laySums_67 ?_
            refine xv_put C hiX6 tyX6 tyX6_ok nmX6 0 (wM0 g _) rfl 21 (by decide) (List.mem_of_getElem? (i := 1) rfl) rfl (tyX6_ok 21 (by decide)) rfl rfl (Nat.le_of_ble_eq_true rfl) (up a 0 21 ((a 0 21) + 0)) (pM0_21 g _ _) dX6_laySums_68 ?_
            refine xv_aload_n C dX6_laySums_71 rfl 1 rfl ?_
            refine xv_dup C dX6_laySums_72 rfl ?_
            refine xv_get C hiX6 0 (wM0 g _) rfl 22 (by decide) (List.mem_of_getElem? (i := 2) rfl) rfl dX6_laySums_73 ?_
            refine xv_iload_n C dX6_laySums_76 rfl 0 rfl ?_
            refine xv_iconst C (-1) dX6_laySums_77 (by decide) ?_
            refine xv_icmp_eq C 99 hf dX6_laySums_78 (by decide) (fun _ hf => ?_) (fun _ hf => ?_)
            · refine xv_iconst C 0 dX6_laySums_99 (by decide) ?_
              refine xv_goto C 114 dX6_laySums_100 (by decide) ?_
              refine xv_iadd C dX6_laySums_114 ?_
              refine xv_put C hiX6 tyX6 tyX6_ok nmX6 0 (wM0 g _) rfl 22 (by decide) (List.mem_of_getElem? (i := 2) rfl) rfl (tyX6_ok 22 (by decide)) rfl rfl (Nat.le_of_ble_eq_true rfl) (up (up a 0 21 ((a 0 21) + 0)) 0 22 (((up a 0 21 ((a 0 21) + 0)) 0 22) + 0)) (pM0_22 g _ _) dX6_laySums_115 ?_
              refine xv_iinc C [(2, .int (x2 + 1)), (3, .int (a 9 x2.toNatClampNeg)), (0, .ref (aM g 0)), (1, .int x1)] dX6_laySums_118 3 rfl rfl (by decide) rfl ?_
              refine xv_goto C 12 dX6_laySums_121 (by decide) ?_
              refine xv_eq [2, 3, 0] rfl ?_
              exact ih (x2 + 1) (up (up a 0 21 ((a 0 21) + 0)) 0 22 (((up a 0 21 ((a 0 21) + 0)) 0 22) + 0)) hf
            · refine xv_aload_n C dX6_laySums_81 rfl 1 rfl ?_
              refine xv_get C hiX6 0 (wM0 g _) rfl 10 (by decide) (List.mem_of_getElem? (i := 5) rfl) rfl dX6_laySums_82 ?_
              refine xv_bipush C 6 dX6_laySums_85 (by decide) ?_
              refine xv_iload_n C dX6_laySums_87 rfl 0 rfl ?_
              refine xv_imul C dX6_laySums_88 ?_
              refine xv_iconst C 2 dX6_laySums_89 (by decide) ?_
              refine xv_iadd C dX6_laySums_90 ?_
              refine xv_iald C 8 0 (wM8 g _) rfl hf dX6_laySums_91 (fun hf => ?_)
              refine xv_iload_n C dX6_laySums_92 rfl 3 rfl ?_
              refine xv_bipush C 8 dX6_laySums_93 (by decide) ?_
              refine xv_irem C (B := some ()) (v := ()) (by decide) dX6_laySums_95 (fun _ => ?_)
              refine xv_icmp_ne C 103 hf dX6_laySums_96 (by decide) (fun _ hf => ?_) (fun _ hf => ?_)
              · refine xv_iconst C 0 dX6_laySums_99 (by decide) ?_
                refine xv_goto C 114 dX6_laySums_100 (by decide) ?_
                refine xv_iadd C dX6_laySums_114 ?_
                refine xv_put C hiX6 tyX6 tyX6_ok nmX6 0 (wM0 g _) rfl 22 (by decide) (List.mem_of_getElem? (i := 2) rfl) rfl (tyX6_ok 22 (by decide)) rfl rfl (Nat.le_of_ble_eq_true rfl) (up (up a 0 21 ((a 0 21) + 0)) 0 22 (((up a 0 21 ((a 0 21) + 0)) 0 22) + 0)) (pM0_22 g _ _) dX6_laySums_115 ?_
                refine xv_iinc C [(2, .int (x2 + 1)), (3, .int (a 9 x2.toNatClampNeg)), (0, .ref (aM g 0)), (1, .int x1)] dX6_laySums_118 3 rfl rfl (by decide) rfl ?_
                refine xv_goto C 12 dX6_laySums_121 (by decide) ?_
                refine xv_eq [2, 3, 0] rfl ?_
                exact ih (x2 + 1) (up (up a 0 21 ((a 0 21) + 0)) 0 22 (((up a 0 21 ((a 0 21) + 0)) 0 22) + 0)) hf
              · refine xv_aload_n C dX6_laySums_103 rfl 1 rfl ?_
                refine xv_get C hiX6 0 (wM0 g _) rfl 10 (by decide) (List.mem_of_getElem? (i := 5) rfl) rfl dX6_laySums_104 ?_
                refine xv_bipush C 6 dX6_laySums_107 (by decide) ?_
                refine xv_iload_n C dX6_laySums_109 rfl 0 rfl ?_
                refine xv_imul C dX6_laySums_110 ?_
                refine xv_iconst C 4 dX6_laySums_111 (by decide) ?_
                refine xv_iadd C dX6_laySums_112 ?_
                refine xv_iald C 8 0 (wM8 g _) rfl hf dX6_laySums_113 (fun hf => ?_)
                refine xv_iadd C dX6_laySums_114 ?_
                refine xv_put C hiX6 tyX6 tyX6_ok nmX6 0 (wM0 g _) rfl 22 (by decide) (List.mem_of_getElem? (i := 2) rfl) rfl (tyX6_ok 22 (by decide)) rfl rfl (Nat.le_of_ble_eq_true rfl) (up (up a 0 21 ((a 0 21) + 0)) 0 22 (((up a 0 21 ((a 0 21) + 0)) 0 22) + ((up a 0 21 ((a 0 21) + 0)) 8 ((((6 : Int32) * (a 9 x2.toNatClampNeg)) + 4).toNatClampNeg)))) (pM0_22 g _ _) dX6_laySums_115 ?_
                refine xv_iinc C [(2, .int (x2 + 1)), (3, .int (a 9 x2.toNatClampNeg)), (0, .ref (aM g 0)), (1, .int x1)] dX6_laySums_118 3 rfl rfl (by decide) rfl ?_
                refine xv_goto C 12 dX6_laySums_121 (by decide) ?_
                refine xv_eq [2, 3, 0] rfl ?_
                exact ih (x2 + 1) (up (up a 0 21 ((a 0 21) + 0)) 0 22 (((up a 0 21 ((a 0 21) + 0)) 0 22) + ((up a 0 21 ((a 0 21) + 0)) 8 ((((6 : Int32) * (a 9 x2.toNatClampNeg)) + 4).toNatClampNeg)))) hf
          · refine xv_aload_n C dX6_laySums_56 rfl 1 rfl ?_
            refine xv_get C hiX6 0 (wM0 g _) rfl 10 (by decide) (List.mem_of_getElem? (i := 5) rfl) rfl dX6_laySums_57 ?_
            refine xv_bipush C 6 dX6_laySums_60 (by decide) ?_
            refine xv_iload_n C dX6_laySums_62 rfl 0 rfl ?_
            refine xv_imul C dX6_laySums_63 ?_
            refine xv_iconst C 3 dX6_laySums_64 (by decide) ?_
            refine xv_iadd C dX6_laySums_65 ?_
            refine xv_iald C 8 0 (wM8 g _) rfl hf dX6_laySums_66 (fun hf => ?_)
            refine xv_iadd C dX6_laySums_67 ?_
            refine xv_put C hiX6 tyX6 tyX6_ok nmX6 0 (wM0 g _) rfl 21 (by decide) (List.mem_of_getElem? (i := 1) rfl) rfl (tyX6_ok 21 (by decide)) rfl rfl (Nat.le_of_ble_eq_true rfl) (up a 0 21 ((a 0 21) + (a 8 ((((6 : Int32) * (a 9 x2.toNatClampNeg)) + 3).toNatClampNeg)))) (pM0_21 g _ _) dX6_laySums_68 ?_
            refine xv_aload_n C dX6_laySums_71 rfl 1 rfl ?_
            refine xv_dup C dX6_laySums_72 rfl ?_
            refine xv_get C hiX6 0 (wM0 g _) rfl 22 (by decide) (List.mem_of_getElem? (i := 2) rfl) rfl dX6_laySums_73 ?_
            refine xv_iload_n C dX6_laySums_76 rfl 0 rfl ?_
            refine xv_iconst C (-1) dX6_laySums_77 (by decide) ?_
            refine xv_icmp_eq C 99 hf dX6_laySums_78 (by decide) (fun _ hf => ?_) (fun _ hf => ?_)
            · refine xv_iconst C 0 dX6_laySums_99 (by decide) ?_
              refine xv_goto C 114 dX6_laySums_100 (by decide) ?_
              refine xv_iadd C dX6_laySums_114 ?_
              refine xv_put C hiX6 tyX6 tyX6_ok nmX6 0 (wM0 g _) rfl 22 (by decide) (List.mem_of_getElem? (i := 2) rfl) rfl (tyX6_ok 22 (by decide)) rfl rfl (Nat.le_of_ble_eq_true rfl) (up (up a 0 21 ((a 0 21) + (a 8 ((((6 : Int32) * (a 9 x2.toNatClampNeg)) + 3).toNatClampNeg)))) 0 22 (((up a 0 21 ((a 0 21) + (a 8 ((((6 : Int32) * (a 9 x2.toNatClampNeg)) + 3).toNatClampNeg)))) 0 22) + 0)) (pM0_22 g _ _) dX6_laySums_115 ?_
              refine xv_iinc C [(2, .int (x2 + 1)), (3, .int (a 9 x2.toNatClampNeg)), (0, .ref (aM g 0)), (1, .int x1)] dX6_laySums_118 3 rfl rfl (by decide) rfl ?_
              refine xv_goto C 12 dX6_laySums_121 (by decide) ?_
              refine xv_eq [2, 3, 0] rfl ?_
              exact ih (x2 + 1) (up (up a 0 21 ((a 0 21) + (a 8 ((((6 : Int32) * (a 9 x2.toNatClampNeg)) + 3).toNatClampNeg)))) 0 22 (((up a 0 21 ((a 0 21) + (a 8 ((((6 : Int32) * (a 9 x2.toNatClampNeg)) + 3).toNatClampNeg)))) 0 22) + 0)) hf
            · refine xv_aload_n C dX6_laySums_81 rfl 1 rfl ?_
              refine xv_get C hiX6 0 (wM0 g _) rfl 10 (by decide) (List.mem_of_getElem? (i := 5) rfl) rfl dX6_laySums_82 ?_
              refine xv_bipush C 6 dX6_laySums_85 (by decide) ?_
              refine xv_iload_n C dX6_laySums_87 rfl 0 rfl ?_
              refine xv_imul C dX6_laySums_88 ?_
              refine xv_iconst C 2 dX6_laySums_89 (by decide) ?_
              refine xv_iadd C dX6_laySums_90 ?_
              refine xv_iald C 8 0 (wM8 g _) rfl hf dX6_laySums_91 (fun hf => ?_)
              refine xv_iload_n C dX6_laySums_92 rfl 3 rfl ?_
              refine xv_bipush C 8 dX6_laySums_93 (by decide) ?_
              refine xv_irem C (B := some ()) (v := ()) (by decide) dX6_laySums_95 (fun _ => ?_)
              refine xv_icmp_ne C 103 hf dX6_laySums_96 (by decide) (fun _ hf => ?_) (fun _ hf => ?_)
              · refine xv_iconst C 0 dX6_laySums_99 (by decide) ?_
                refine xv_goto C 114 dX6_laySums_100 (by decide) ?_
                refine xv_iadd C dX6_laySums_114 ?_
                refine xv_put C hiX6 tyX6 tyX6_ok nmX6 0 (wM0 g _) rfl 22 (by decide) (List.mem_of_getElem? (i := 2) rfl) rfl (tyX6_ok 22 (by decide)) rfl rfl (Nat.le_of_ble_eq_true rfl) (up (up a 0 21 ((a 0 21) + (a 8 ((((6 : Int32) * (a 9 x2.toNatClampNeg)) + 3).toNatClampNeg)))) 0 22 (((up a 0 21 ((a 0 21) + (a 8 ((((6 : Int32) * (a 9 x2.toNatClampNeg)) + 3).toNatClampNeg)))) 0 22) + 0)) (pM0_22 g _ _) dX6_laySums_115 ?_
                refine xv_iinc C [(2, .int (x2 + 1)), (3, .int (a 9 x2.toNatClampNeg)), (0, .ref (aM g 0)), (1, .int x1)] dX6_laySums_118 3 rfl rfl (by decide) rfl ?_
                refine xv_goto C 12 dX6_laySums_121 (by decide) ?_
                refine xv_eq [2, 3, 0] rfl ?_
                exact ih (x2 + 1) (up (up a 0 21 ((a 0 21) + (a 8 ((((6 : Int32) * (a 9 x2.toNatClampNeg)) + 3).toNatClampNeg)))) 0 22 (((up a 0 21 ((a 0 21) + (a 8 ((((6 : Int32) * (a 9 x2.toNatClampNeg)) + 3).toNatClampNeg)))) 0 22) + 0)) hf
              · refine xv_aload_n C dX6_laySums_103 rfl 1 rfl ?_
                refine xv_get C hiX6 0 (wM0 g _) rfl 10 (by decide) (List.mem_of_getElem? (i := 5) rfl) rfl dX6_laySums_104 ?_
                refine xv_bipush C 6 dX6_laySums_107 (by decide) ?_
                refine xv_iload_n C dX6_laySums_109 rfl 0 rfl ?_
                refine xv_imul C dX6_laySums_110 ?_
                refine xv_iconst C 4 dX6_laySums_111 (by decide) ?_
                refine xv_iadd C dX6_laySums_112 ?_
                refine xv_iald C 8 0 (wM8 g _) rfl hf dX6_laySums_113 (fun hf => ?_)
                refine xv_iadd C dX6_laySums_114 ?_
                refine xv_put C hiX6 tyX6 tyX6_ok nmX6 0 (wM0 g _) rfl 22 (by decide) (List.mem_of_getElem? (i := 2) rfl) rfl (tyX6_ok 22 (by decide)) rfl rfl (Nat.le_of_ble_eq_true rfl) (up (up a 0 21 ((a 0 21) + (a 8 ((((6 : Int32) * (a 9 x2.toNatClampNeg)) + 3).toNatClampNeg)))) 0 22 (((up a 0 21 ((a 0 21) + (a 8 ((((6 : Int32) * (a 9 x2.toNatClampNeg)) + 3).toNatClampNeg)))) 0 22) + ((up a 0 21 ((a 0 21) + (a 8 ((((6 : Int32) * (a 9 x2.toNatClampNeg)) + 3).toNatClampNeg)))) 8 ((((6 : Int32) * (a 9 x2.toNatClampNeg)) + 4).toNatClampNeg)))) (pM0_22 g _ _) dX6_laySums_115 ?_
                refine xv_iinc C [(2, .int (x2 + 1)), (3, .int (a 9 x2.toNatClampNeg)), (0, .ref (aM g 0)), (1, .int x1)] dX6_laySums_118 3 rfl rfl (by decide) rfl ?_
                refine xv_goto C 12 dX6_laySums_121 (by decide) ?_
                refine xv_eq [2, 3, 0] rfl ?_
                exact ih (x2 + 1) (up (up a 0 21 ((a 0 21) + (a 8 ((((6 : Int32) * (a 9 x2.toNatClampNeg)) + 3).toNatClampNeg)))) 0 22 (((up a 0 21 ((a 0 21) + (a 8 ((((6 : Int32) * (a 9 x2.toNatClampNeg)) + 3).toNatClampNeg)))) 0 22) + ((up a 0 21 ((a 0 21) + (a 8 ((((6 : Int32) * (a 9 x2.toNatClampNeg)) + 3).toNatClampNeg)))) 8 ((((6 : Int32) * (a 9 x2.toNatClampNeg)) + 4).toNatClampNeg)))) hf
  rw [f_X6_laySums] at hf
  show V K (sM g) 4 a [(0, .ref (aM g 0)), (1, .int x1)] 0 []
  refine xv_aload_n C dX6_laySums_0 rfl 0 rfl ?_
  refine xv_iconst C 0 dX6_laySums_1 (by decide) ?_
  refine xv_put C hiX6 tyX6 tyX6_ok nmX6 0 (wM0 g _) rfl 21 (by decide) (List.mem_of_getElem? (i := 1) rfl) rfl (tyX6_ok 21 (by decide)) rfl rfl (Nat.le_of_ble_eq_true rfl) (up a 0 21 0) (pM0_21 g _ _) dX6_laySums_2 ?_
  refine xv_aload_n C dX6_laySums_5 rfl 0 rfl ?_
  refine xv_iconst C 0 dX6_laySums_6 (by decide) ?_
  refine xv_put C hiX6 tyX6 tyX6_ok nmX6 0 (wM0 g _) rfl 22 (by decide) (List.mem_of_getElem? (i := 2) rfl) rfl (tyX6_ok 22 (by decide)) rfl rfl (Nat.le_of_ble_eq_true rfl) (up (up a 0 21 0) 0 22 0) (pM0_22 g _ _) dX6_laySums_7 ?_
  refine xv_iconst C 0 dX6_laySums_10 (by decide) ?_
  refine xv_istore_n C [(2, .int 0), (0, .ref (aM g 0)), (1, .int x1)] dX6_laySums_11 rfl (by decide) rfl ?_
  refine xv_eq [1, 2, 0] rfl ?_
  exact hL12 x1 n 0 (up (up a 0 21 0) 0 22 0) hf
set_option maxRecDepth 100000 in
set_option maxHeartbeats 4000000 in
theorem c_X6_sum (g : GM) (hS : xSide (sM g)) (l : Launch) (n : Nat) (x1 : Int32) (x2 : Int32) (a : St) (q : (Int32 × St)) (hf : f_X6_sum n x1 x2 a = some q) : Met l yX6_sum wsX6_sum rm_X6_sum (xPre (sM g) [.ref (aM g 0), .int x1, .int x2] a) (xPostI (sM g) q.1 q.2) 0 0 (sM g).2.2.1 := by
  refine xm_i (av := [.ref (aM g 0), .int x1, .int x2]) (cc := cX6_sum) (maxL := 3) (by decide) rfl (Nat.le_of_ble_eq_true rfl) hS.1 hS.2 (fun K C hret => ?_)
  have C : CC K (sM g) cX6_sum 3 wsX6_sum RX6 rm_X6_sum := C
  have hiX6 : ∀ w ∈ u_ws RX6 TX6 26, w ∈ wsX6_sum := fun w h => List.mem_cons_of_mem _ (List.mem_append_right _ h)
  rw [f_X6_sum] at hf
  show V K (sM g) 3 a [(0, .ref (aM g 0)), (1, .int x1), (2, .int x2)] 0 []
  refine xv_iload_n C dX6_sum_0 rfl 1 rfl ?_
  obtain ⟨q1, hg, hf⟩ := dt_bind hf
  refine xc_i (xr_S C (As := [.int x1]) (fun l => c_X6_isDays (sM g) hS l x1 a q1 hg) gX6_sum_X6_isDays rfl ⟨rfl, rfl⟩ hdS_X6_isDays ⟨Nat.le_of_ble_eq_true rfl, Nat.le_of_ble_eq_true rfl⟩ rfl rfl (Nat.le_of_ble_eq_true rfl) dX6_sum_1) ?_
  refine xv_if_eq C (y := 0) 17 hf dX6_sum_4 (by decide) (fun _ hf => ?_) (fun _ hf => ?_)
  · refine xv_bipush C (-3) dX6_sum_17 (by decide) ?_
    exact xz_iw hret hf dX6_sum_19
  · refine xv_iload_n C dX6_sum_7 rfl 2 rfl ?_
    refine xv_i2l C dX6_sum_8 ?_
    refine xv_lconst C 0 dX6_sum_9 (by decide) ?_
    refine xv_lconst C 1 dX6_sum_10 (by decide) ?_
    obtain ⟨q2, hg, hf⟩ := dt_bind hf
    refine xc_i (xr_S C (As := [.long x2.toInt64, .long 0, .long 1]) (fun l => c_X6_in (sM g) hS l x2.toInt64 0 1 a q2 hg) gX6_sum_X6_in rfl ⟨rfl, rfl⟩ hdS_X6_in ⟨Nat.le_of_ble_eq_true rfl, Nat.le_of_ble_eq_true rfl⟩ rfl rfl (Nat.le_of_ble_eq_true rfl) dX6_sum_11) ?_
    refine xv_if_ne C (y := 0) 20 hf dX6_sum_14 (by decide) (fun _ hf => ?_) (fun _ hf => ?_)
    · refine xv_bipush C (-3) dX6_sum_17 (by decide) ?_
      exact xz_iw hret hf dX6_sum_19
    · refine xv_aload_n C dX6_sum_20 rfl 0 rfl ?_
      refine xv_iload_n C dX6_sum_21 rfl 1 rfl ?_
      refine xv_iconst C 1 dX6_sum_22 (by decide) ?_
      refine xv_isub C dX6_sum_23 ?_
      refine xv_aload_n C dX6_sum_24 rfl 0 rfl ?_
      obtain ⟨q3, hg, hf⟩ := dt_bind hf
      refine xc_i (xr_V C (ci := 6) (As := []) (fun l => c_X6_forbiddenNow g hS l n a q3 hg) gX6_sum_X6_forbiddenNow rfl ⟨rfl, rfl⟩ hdV_X6_forbiddenNow ⟨Nat.le_of_ble_eq_true rfl, Nat.le_of_ble_eq_true rfl⟩ 0 rfl rfl (wM0 g _) rfl rfl (Nat.le_of_ble_eq_true rfl) dX6_sum_25) ?_
      obtain ⟨q4, hg, hf⟩ := dt_bind hf
      refine xc_v (xr_V C (ci := 6) (As := [.int (x1 - 1), .int q3]) (fun l => c_X6_layDays g hS l n (x1 - 1) q3 a q4 hg) gX6_sum_X6_layDays rfl ⟨rfl, rfl⟩ hdV_X6_layDays ⟨Nat.le_of_ble_eq_true rfl, Nat.le_of_ble_eq_true rfl⟩ 0 rfl rfl (wM0 g _) rfl rfl (Nat.le_of_ble_eq_true rfl) dX6_sum_28) ?_
      refine xv_aload_n C dX6_sum_31 rfl 0 rfl ?_
      refine xv_iload_n C dX6_sum_32 rfl 1 rfl ?_
      obtain ⟨q5, hg, hf⟩ := dt_bind hf
      refine xc_v (xr_V C (ci := 6) (As := [.int x1]) (fun l => c_X6_laySums g hS l n x1 q4 q5 hg) gX6_sum_X6_laySums rfl ⟨rfl, rfl⟩ hdV_X6_laySums ⟨Nat.le_of_ble_eq_true rfl, Nat.le_of_ble_eq_true rfl⟩ 0 rfl rfl (wM0 g _) rfl rfl (Nat.le_of_ble_eq_true rfl) dX6_sum_33) ?_
      refine xv_iload_n C dX6_sum_36 rfl 2 rfl ?_
      refine xv_if_ne C (y := 0) 47 hf dX6_sum_37 (by decide) (fun _ hf => ?_) (fun _ hf => ?_)
      · refine xv_aload_n C dX6_sum_40 rfl 0 rfl ?_
        refine xv_get C hiX6 0 (wM0 g _) rfl 21 (by decide) (List.mem_of_getElem? (i := 1) rfl) rfl dX6_sum_41 ?_
        refine xv_goto C 51 dX6_sum_44 (by decide) ?_
        exact xz_iw hret hf dX6_sum_51
      · refine xv_aload_n C dX6_sum_47 rfl 0 rfl ?_
        refine xv_get C hiX6 0 (wM0 g _) rfl 22 (by decide) (List.mem_of_getElem? (i := 2) rfl) rfl dX6_sum_48 ?_
        exact xz_iw hret hf dX6_sum_51
set_option maxRecDepth 100000 in
set_option maxHeartbeats 4000000 in
theorem c_X6_council (g : GM) (hS : xSide (sM g)) (l : Launch) (n : Nat) (x1 : Int32) (x2 : Int32) (x3 : Int32) (a : St) (q : (Int32 × St)) (hf : f_X6_council n x1 x2 x3 a = some q) : Met l yX6_council wsX6_council rm_X6_council (xPre (sM g) [.ref (aM g 0), .int x1, .int x2, .int x3] a) (xPostI (sM g) q.1 q.2) 0 0 (sM g).2.2.1 := by
  refine xm_i (av := [.ref (aM g 0), .int x1, .int x2, .int x3]) (cc := cX6_council) (maxL := 7) (by decide) rfl (Nat.le_of_ble_eq_true rfl) hS.1 hS.2 (fun K C hret => ?_)
  have C : CC K (sM g) cX6_council 7 wsX6_council RX6 rm_X6_council := C
  have hiX6 : ∀ w ∈ u_ws RX6 TX6 26, w ∈ wsX6_council := fun w h => List.mem_cons_of_mem _ (List.mem_append_right _ h)
  have hB99 : ∀ (x3 : Int32) (x4 : Int32) (x5 : Int32)  (a : St), B_X6_council_99 n x3 x4 x5 a = some q → V K (sM g) 7 a [(3, .int x3), (4, .int x4), (5, .int x5)] 99 [] := by
    intro x3 x4 x5 a hf
    rw [B_X6_council_99] at hf
    refine xv_iload_n C dX6_council_99 rfl 0 rfl ?_
    refine xv_if_ne C (y := 0) 108 hf dX6_council_100 (by decide) (fun _ hf => ?_) (fun _ hf => ?_)
    · refine xv_iload C dX6_council_103 1 rfl ?_
      refine xv_goto C 110 dX6_council_105 (by decide) ?_
      exact xz_iw hret hf dX6_council_110
    · refine xv_iload C dX6_council_108 2 rfl ?_
      exact xz_iw hret hf dX6_council_110
  have hL41 : ∀ (x1 : Int32) (x2 : Int32) (x3 : Int32)  (j : Nat) (x4 : Int32) (x5 : Int32) (x6 : Int32) (a : St), L_X6_council_41 n x1 x2 x3 j x4 x5 x6 a = some q → V K (sM g) 7 a [(0, .ref (aM g 0)), (1, .int x1), (2, .int x2), (3, .int x3), (4, .int x4), (5, .int x5), (6, .int x6)] 41 [] := by
    intro x1 x2 x3 j
    induction j with
    | zero =>
      intro x4 x5 x6 a hf
      have hf : (none : Option (Int32 × St)) = some q := hf
      cases hf
    | succ j ih =>
      intro x4 x5 x6 a hf
      rw [L_X6_council_41] at hf
      refine xv_iload C dX6_council_41 6 rfl ?_
      refine xv_iconst C 1 dX6_council_43 (by decide) ?_
      refine xv_aload_n C dX6_council_44 rfl 0 rfl ?_
      refine xv_get C hiX6 0 (wM0 g _) rfl 11 (by decide) (List.mem_of_getElem? (i := 2) rfl) rfl dX6_council_45 ?_
      refine xv_ishl C dX6_council_48 ?_
      refine xv_icmp_ge C 99 hf dX6_council_49 (by decide) (fun _ hf => ?_) (fun _ hf => ?_)
      · refine xv_eq [3, 4, 5] rfl ?_
        exact hB99 x3 x4 x5 a hf
      · refine xv_aload_n C dX6_council_52 rfl 0 rfl ?_
        refine xv_iload_n C dX6_council_53 rfl 1 rfl ?_
        refine xv_iconst C 1 dX6_council_54 (by decide) ?_
        refine xv_isub C dX6_council_55 ?_
        refine xv_iload C dX6_council_56 6 rfl ?_
        obtain ⟨q4, hg, hf⟩ := dt_bind hf
        refine xc_v (xr_V C (ci := 6) (As := [.int (x1 - 1), .int x6]) (fun l => c_X6_layDays g hS l n (x1 - 1) x6 a q4 hg) gX6_council_X6_layDays rfl ⟨rfl, rfl⟩ hdV_X6_layDays ⟨Nat.le_of_ble_eq_true rfl, Nat.le_of_ble_eq_true rfl⟩ 0 rfl rfl (wM0 g _) rfl rfl (Nat.le_of_ble_eq_true rfl) dX6_council_58) ?_
        refine xv_aload_n C dX6_council_61 rfl 0 rfl ?_
        refine xv_iload_n C dX6_council_62 rfl 1 rfl ?_
        obtain ⟨q5, hg, hf⟩ := dt_bind hf
        refine xc_v (xr_V C (ci := 6) (As := [.int x1]) (fun l => c_X6_laySums g hS l n x1 q4 q5 hg) gX6_council_X6_laySums rfl ⟨rfl, rfl⟩ hdV_X6_laySums ⟨Nat.le_of_ble_eq_true rfl, Nat.le_of_ble_eq_true rfl⟩ 0 rfl rfl (wM0 g _) rfl rfl (Nat.le_of_ble_eq_true rfl) dX6_council_63) ?_
        refine xv_aload_n C dX6_council_66 rfl 0 rfl ?_
        refine xv_get C hiX6 0 (wM0 g _) rfl 22 (by decide) (List.mem_of_getElem? (i := 3) rfl) rfl dX6_council_67 ?_
        refine xv_iload_n C dX6_council_70 rfl 2 rfl ?_
        refine xv_icmp_gt C 93 hf dX6_council_71 (by decide) (fun _ hf => ?_) (fun _ hf => ?_)
        · refine xv_iinc C [(6, .int (x6 + 1)), (0, .ref (aM g 0)), (1, .int x1), (2, .int x2), (3, .int x3), (4, .int x4), (5, .int x5)] dX6_council_93 6 rfl rfl (by decide) rfl ?_
          refine xv_goto C 41 dX6_council_96 (by decide) ?_
          refine xv_eq [1, 2, 3, 4, 5, 6, 0] rfl ?_
          exact ih x4 x5 (x6 + 1) q5 hf
        · refine xv_aload_n C dX6_council_74 rfl 0 rfl ?_
          refine xv_get C hiX6 0 (wM0 g _) rfl 21 (by decide) (List.mem_of_getElem? (i := 4) rfl) rfl dX6_council_75 ?_
          refine xv_iload C dX6_council_78 5 rfl ?_
          refine xv_icmp_le C 93 hf dX6_council_80 (by decide) (fun _ hf => ?_) (fun _ hf => ?_)
          · refine xv_iinc C [(6, .int (x6 + 1)), (0, .ref (aM g 0)), (1, .int x1), (2, .int x2), (3, .int x3), (4, .int x4), (5, .int x5)] dX6_council_93 6 rfl rfl (by decide) rfl ?_
            refine xv_goto C 41 dX6_council_96 (by decide) ?_
            refine xv_eq [1, 2, 3, 4, 5, 6, 0] rfl ?_
            exact ih x4 x5 (x6 + 1) q5 hf
          · refine xv_iload C dX6_council_83 6 rfl ?_
            refine xv_istore C [(4, .int x6), (0, .ref (aM g 0)), (1, .int x1), (2, .int x2), (3, .int x3), (5, .int x5), (6, .int x6)] dX6_council_85 (by decide) rfl ?_
            refine xv_aload_n C dX6_council_87 rfl 1 rfl ?_
            refine xv_get C hiX6 0 (wM0 g _) rfl 21 (by decide) (List.mem_of_getElem? (i := 4) rfl) rfl dX6_council_88 ?_
            refine xv_istore C [(5, .int (q5 0 21)), (4, .int x6), (0, .ref (aM g 0)), (1, .int x1), (2, .int x2), (3, .int x3), (6, .int x6)] dX6_council_91 (by decide) rfl ?_
            refine xv_iinc C [(6, .int (x6 + 1)), (5, .int (q5 0 21)), (4, .int x6), (0, .ref (aM g 0)), (1, .int x1), (2, .int x2), (3, .int x3)] dX6_council_93 6 rfl rfl (by decide) rfl ?_
            refine xv_goto C 41 dX6_council_96 (by decide) ?_
            refine xv_eq [3, 4, 5, 6, 2, 1, 0] rfl ?_
            exact ih x6 (q5 0 21) (x6 + 1) q5 hf
  rw [f_X6_council] at hf
  show V K (sM g) 7 a [(0, .ref (aM g 0)), (1, .int x1), (2, .int x2), (3, .int x3)] 0 []
  refine xv_iload_n C dX6_council_0 rfl 1 rfl ?_
  obtain ⟨q1, hg, hf⟩ := dt_bind hf
  refine xc_i (xr_S C (As := [.int x1]) (fun l => c_X6_isDays (sM g) hS l x1 a q1 hg) gX6_council_X6_isDays rfl ⟨rfl, rfl⟩ hdS_X6_isDays ⟨Nat.le_of_ble_eq_true rfl, Nat.le_of_ble_eq_true rfl⟩ rfl rfl (Nat.le_of_ble_eq_true rfl) dX6_council_1) ?_
  refine xv_if_eq C (y := 0) 29 hf dX6_council_4 (by decide) (fun _ hf => ?_) (fun _ hf => ?_)
  · refine xv_bipush C (-3) dX6_council_29 (by decide) ?_
    exact xz_iw hret hf dX6_council_31
  · refine xv_iload_n C dX6_council_7 rfl 2 rfl ?_
    refine xv_i2l C dX6_council_8 ?_
    refine xv_lconst C 0 dX6_council_9 (by decide) ?_
    refine xv_ldc2 C 9999 dX6_council_10 (List.mem_of_getElem? (i := 1) rfl) ?_
    obtain ⟨q2, hg, hf⟩ := dt_bind hf
    refine xc_i (xr_S C (As := [.long x2.toInt64, .long 0, .long 9999]) (fun l => c_X6_in (sM g) hS l x2.toInt64 0 9999 a q2 hg) gX6_council_X6_in rfl ⟨rfl, rfl⟩ hdS_X6_in ⟨Nat.le_of_ble_eq_true rfl, Nat.le_of_ble_eq_true rfl⟩ rfl rfl (Nat.le_of_ble_eq_true rfl) dX6_council_13) ?_
    refine xv_if_eq C (y := 0) 29 hf dX6_council_16 (by decide) (fun _ hf => ?_) (fun _ hf => ?_)
    · refine xv_bipush C (-3) dX6_council_29 (by decide) ?_
      exact xz_iw hret hf dX6_council_31
    · refine xv_iload_n C dX6_council_19 rfl 3 rfl ?_
      refine xv_i2l C dX6_council_20 ?_
      refine xv_lconst C 0 dX6_council_21 (by decide) ?_
      refine xv_lconst C 1 dX6_council_22 (by decide) ?_
      obtain ⟨q3, hg, hf⟩ := dt_bind hf
      refine xc_i (xr_S C (As := [.long x3.toInt64, .long 0, .long 1]) (fun l => c_X6_in (sM g) hS l x3.toInt64 0 1 a q3 hg) gX6_council_X6_in rfl ⟨rfl, rfl⟩ hdS_X6_in ⟨Nat.le_of_ble_eq_true rfl, Nat.le_of_ble_eq_true rfl⟩ rfl rfl (Nat.le_of_ble_eq_true rfl) dX6_council_23) ?_
      refine xv_if_ne C (y := 0) 32 hf dX6_council_26 (by decide) (fun _ hf => ?_) (fun _ hf => ?_)
      · refine xv_bipush C (-3) dX6_council_29 (by decide) ?_
        exact xz_iw hret hf dX6_council_31
      · refine xv_iconst C (-1) dX6_council_32 (by decide) ?_
        refine xv_istore C [(4, .int (-1)), (0, .ref (aM g 0)), (1, .int x1), (2, .int x2), (3, .int x3)] dX6_council_33 (by decide) rfl ?_
        refine xv_iconst C (-1) dX6_council_35 (by decide) ?_
        refine xv_istore C [(5, .int (-1)), (4, .int (-1)), (0, .ref (aM g 0)), (1, .int x1), (2, .int x2), (3, .int x3)] dX6_council_36 (by decide) rfl ?_
        refine xv_iconst C 0 dX6_council_38 (by decide) ?_
        refine xv_istore C [(6, .int 0), (5, .int (-1)), (4, .int (-1)), (0, .ref (aM g 0)), (1, .int x1), (2, .int x2), (3, .int x3)] dX6_council_39 (by decide) rfl ?_
        refine xv_eq [3, 4, 5, 6, 2, 1, 0] rfl ?_
        exact hL41 x1 x2 x3 n (-1) (-1) 0 a hf
set_option maxRecDepth 100000 in
set_option maxHeartbeats 4000000 in
theorem c_X6_idle (g : GM) (hS : xSide (sM g)) (l : Launch) (n : Nat) (x1 : Int32) (x2 : Int32) (x3 : Int32) (a : St) (q : (Int32 × St)) (hf : f_X6_idle n x1 x2 x3 a = some q) : Met l yX6_idle wsX6_idle rm_X6_idle (xPre (sM g) [.ref (aM g 0), .int x1, .int x2, .int x3] a) (xPostI (sM g) q.1 q.2) 0 0 (sM g).2.2.1 := by
  refine xm_i (av := [.ref (aM g 0), .int x1, .int x2, .int x3]) (cc := cX6_idle) (maxL := 7) (by decide) rfl (Nat.le_of_ble_eq_true rfl) hS.1 hS.2 (fun K C hret => ?_)
  have C : CC K (sM g) cX6_idle 7 wsX6_idle RX6 rm_X6_idle := C
  have hiX6 : ∀ w ∈ u_ws RX6 TX6 26, w ∈ wsX6_idle := fun w h => List.mem_cons_of_mem _ (List.mem_append_right _ h)
  have hL204 : ∀  (j : Nat) (x5 : Int32) (x6 : Int32) (a : St), L_X6_idle_204 n j x5 x6 a = some q → V K (sM g) 7 a [(0, .ref (aM g 0)), (5, .int x5), (6, .int x6)] 204 [] := by
    intro j
    induction j with
    | zero =>
      intro x5 x6 a hf
      have hf : (none : Option (Int32 × St)) = some q := hf
      cases hf
    | succ j ih =>
      intro x5 x6 a hf
      rw [L_X6_idle_204] at hf
      refine xv_iload C dX6_idle_204 2 rfl ?_
      refine xv_aload_n C dX6_idle_206 rfl 0 rfl ?_
      refine xv_get C hiX6 0 (wM0 g _) rfl 6 (by decide) (List.mem_of_getElem? (i := 1) rfl) rfl dX6_idle_207 ?_
      refine xv_icmp_ge C 253 hf dX6_idle_210 (by decide) (fun _ hf => ?_) (fun _ hf => ?_)
      · refine xv_iload C dX6_idle_253 1 rfl ?_
        exact xz_iw hret hf dX6_idle_255
      · refine xv_iload C dX6_idle_213 1 rfl ?_
        refine xv_aload_n C dX6_idle_215 rfl 0 rfl ?_
        refine xv_get C hiX6 0 (wM0 g _) rfl 17 (by decide) (List.mem_of_getElem? (i := 2) rfl) rfl dX6_idle_216 ?_
        refine xv_iload C dX6_idle_219 2 rfl ?_
        refine xv_iald C 9 0 (wM9 g _) rfl hf dX6_idle_221 (fun hf => ?_)
        refine xv_aload_n C dX6_idle_222 rfl 0 rfl ?_
        refine xv_get C hiX6 0 (wM0 g _) rfl 17 (by decide) (List.mem_of_getElem? (i := 2) rfl) rfl dX6_idle_223 ?_
        refine xv_sipush C 800 dX6_idle_226 (by decide) ?_
        refine xv_iload C dX6_idle_229 2 rfl ?_
        refine xv_iadd C dX6_idle_231 ?_
        refine xv_iald C 9 0 (wM9 g _) rfl hf dX6_idle_232 (fun hf => ?_)
        refine xv_icmp_ne C 240 hf dX6_idle_233 (by decide) (fun _ hf => ?_) (fun _ hf => ?_)
        · refine xv_iconst C 0 dX6_idle_236 (by decide) ?_
          refine xv_goto C 244 dX6_idle_237 (by decide) ?_
          refine xv_ior C dX6_idle_244 ?_
          refine xv_istore C [(5, .int (x5 ||| 0)), (0, .ref (aM g 0)), (6, .int x6)] dX6_idle_245 (by decide) rfl ?_
          refine xv_iinc C [(6, .int (x6 + 1)), (5, .int (x5 ||| 0)), (0, .ref (aM g 0))] dX6_idle_247 2 rfl rfl (by decide) rfl ?_
          refine xv_goto C 204 dX6_idle_250 (by decide) ?_
          refine xv_eq [2, 1, 0] rfl ?_
          exact ih (x5 ||| 0) (x6 + 1) a hf
        · refine xv_iconst C 1 dX6_idle_240 (by decide) ?_
          refine xv_iload C dX6_idle_241 2 rfl ?_
          refine xv_ishl C dX6_idle_243 ?_
          refine xv_ior C dX6_idle_244 ?_
          refine xv_istore C [(5, .int (x5 ||| ((1 : Int32) <<< (x6 &&& 31)))), (0, .ref (aM g 0)), (6, .int x6)] dX6_idle_245 (by decide) rfl ?_
          refine xv_iinc C [(6, .int (x6 + 1)), (5, .int (x5 ||| ((1 : Int32) <<< (x6 &&& 31)))), (0, .ref (aM g 0))] dX6_idle_247 2 rfl rfl (by decide) rfl ?_
          refine xv_goto C 204 dX6_idle_250 (by decide) ?_
          refine xv_eq [2, 1, 0] rfl ?_
          exact ih (x5 ||| ((1 : Int32) <<< (x6 &&& 31))) (x6 + 1) a hf
  have hB198 : ∀  (a : St), B_X6_idle_198 n a = some q → V K (sM g) 7 a [(0, .ref (aM g 0))] 198 [] := by
    intro a hf
    rw [B_X6_idle_198] at hf
    refine xv_iconst C 0 dX6_idle_198 (by decide) ?_
    refine xv_istore C [(5, .int 0), (0, .ref (aM g 0))] dX6_idle_199 (by decide) rfl ?_
    refine xv_iconst C 0 dX6_idle_201 (by decide) ?_
    refine xv_istore C [(6, .int 0), (5, .int 0), (0, .ref (aM g 0))] dX6_idle_202 (by decide) rfl ?_
    refine xv_eq [2, 1, 0] rfl ?_
    exact hL204 n 0 0 a hf
  have hB192 : ∀ (x3 : Int32) (x4 : Int32) (x5 : Int32) (k114 : Int32 → St → Option (Int32 × St)) (hk114 : ∀ (y5 : Int32) (b : St), k114 y5 b = some q → V K (sM g) 7 b [(0, .ref (aM g 0)), (3, .int x3), (4, .int x4), (5, .int y5)] 114 []) (a : St), B_X6_idle_192 n k114 x3 x4 x5 a = some q → V K (sM g) 7 a [(0, .ref (aM g 0)), (3, .int x3), (4, .int x4), (5, .int x5)] 192 [] := by
    intro x3 x4 x5 k114 hk114 a hf
    rw [B_X6_idle_192] at hf
    refine xv_iinc C [(5, .int (x5 + 1)), (0, .ref (aM g 0)), (3, .int x3), (4, .int x4)] dX6_idle_192 3 rfl rfl (by decide) rfl ?_
    refine xv_goto C 114 dX6_idle_195 (by decide) ?_
    refine xv_eq [1, 2, 3, 0] rfl ?_
    exact hk114 (x5 + 1) a hf
  have hL138 : ∀ (x3 : Int32) (x4 : Int32) (x5 : Int32) (k114 : Int32 → St → Option (Int32 × St)) (hk114 : ∀ (y5 : Int32) (b : St), k114 y5 b = some q → V K (sM g) 7 b [(0, .ref (aM g 0)), (3, .int x3), (4, .int x4), (5, .int y5)] 114 []) (j : Nat) (x6 : Int32) (a : St), L_X6_idle_138 n k114 x3 x4 x5 j x6 a = some q → V K (sM g) 7 a [(0, .ref (aM g 0)), (3, .int x3), (4, .int x4), (5, .int x5), (6, .int x6)] 138 [] := by
    intro x3 x4 x5 k114 hk114 j
    induction j with
    | zero =>
      intro x6 a hf
      have hf : (none : Option (Int32 × St)) = some q := hf
      cases hf
    | succ j ih =>
      intro x6 a hf
      rw [L_X6_idle_138] at hf
      refine xv_iload C dX6_idle_138 4 rfl ?_
      refine xv_aload_n C dX6_idle_140 rfl 0 rfl ?_
      refine xv_get C hiX6 0 (wM0 g _) rfl 6 (by decide) (List.mem_of_getElem? (i := 1) rfl) rfl dX6_idle_141 ?_
      refine xv_icmp_ge C 192 hf dX6_idle_144 (by decide) (fun _ hf => ?_) (fun _ hf => ?_)
      · refine xv_eq [0, 1, 2, 3] rfl ?_
        exact hB192 x3 x4 x5 k114 hk114 a hf
      · refine xv_aload_n C dX6_idle_147 rfl 0 rfl ?_
        refine xv_get C hiX6 0 (wM0 g _) rfl 17 (by decide) (List.mem_of_getElem? (i := 2) rfl) rfl dX6_idle_148 ?_
        refine xv_iload C dX6_idle_151 4 rfl ?_
        refine xv_aload_n C dX6_idle_153 rfl 0 rfl ?_
        refine xv_get C hiX6 0 (wM0 g _) rfl 17 (by decide) (List.mem_of_getElem? (i := 2) rfl) rfl dX6_idle_154 ?_
        refine xv_bipush C 8 dX6_idle_157 (by decide) ?_
        refine xv_iload C dX6_idle_159 4 rfl ?_
        refine xv_iadd C dX6_idle_161 ?_
        refine xv_iald C 9 0 (wM9 g _) rfl hf dX6_idle_162 (fun hf => ?_)
        refine xv_iast C 9 0 (wM9 g _) rfl (up a 9 x6.toNatClampNeg (a 9 (((8 : Int32) + x6).toNatClampNeg))) (pM9 g _ _ _) hf dX6_idle_163 (fun hf => ?_)
        refine xv_aload_n C dX6_idle_164 rfl 0 rfl ?_
        refine xv_get C hiX6 0 (wM0 g _) rfl 17 (by decide) (List.mem_of_getElem? (i := 2) rfl) rfl dX6_idle_165 ?_
        refine xv_sipush C 800 dX6_idle_168 (by decide) ?_
        refine xv_iload C dX6_idle_171 4 rfl ?_
        refine xv_iadd C dX6_idle_173 ?_
        refine xv_aload_n C dX6_idle_174 rfl 0 rfl ?_
        refine xv_get C hiX6 0 (wM0 g _) rfl 17 (by decide) (List.mem_of_getElem? (i := 2) rfl) rfl dX6_idle_175 ?_
        refine xv_sipush C 808 dX6_idle_178 (by decide) ?_
        refine xv_iload C dX6_idle_181 4 rfl ?_
        refine xv_iadd C dX6_idle_183 ?_
        refine xv_iald C 9 0 (wM9 g _) rfl hf dX6_idle_184 (fun hf => ?_)
        refine xv_iast C 9 0 (wM9 g _) rfl (up (up a 9 x6.toNatClampNeg (a 9 (((8 : Int32) + x6).toNatClampNeg))) 9 (((800 : Int32) + x6).toNatClampNeg) ((up a 9 x6.toNatClampNeg (a 9 (((8 : Int32) + x6).toNatClampNeg))) 9 (((808 : Int32) + x6).toNatClampNeg))) (pM9 g _ _ _) hf dX6_idle_185 (fun hf => ?_)
        refine xv_iinc C [(6, .int (x6 + 1)), (0, .ref (aM g 0)), (3, .int x3), (4, .int x4), (5, .int x5)] dX6_idle_186 4 rfl rfl (by decide) rfl ?_
        refine xv_goto C 138 dX6_idle_189 (by decide) ?_
        refine xv_eq [1, 2, 3, 4, 0] rfl ?_
        exact ih (x6 + 1) (up (up a 9 x6.toNatClampNeg (a 9 (((8 : Int32) + x6).toNatClampNeg))) 9 (((800 : Int32) + x6).toNatClampNeg) ((up a 9 x6.toNatClampNeg (a 9 (((8 : Int32) + x6).toNatClampNeg))) 9 (((808 : Int32) + x6).toNatClampNeg))) hf
  have hL114 : ∀ (x3 : Int32) (x4 : Int32)  (j : Nat) (x5 : Int32) (a : St), L_X6_idle_114 n x3 x4 j x5 a = some q → V K (sM g) 7 a [(0, .ref (aM g 0)), (3, .int x3), (4, .int x4), (5, .int x5)] 114 [] := by
    intro x3 x4 j
    induction j with
    | zero =>
      intro x5 a hf
      have hf : (none : Option (Int32 × St)) = some q := hf
      cases hf
    | succ j ih =>
      intro x5 a hf
      rw [L_X6_idle_114] at hf
      refine xv_iload C dX6_idle_114 3 rfl ?_
      refine xv_iload_n C dX6_idle_116 rfl 1 rfl ?_
      refine xv_icmp_ge C 198 hf dX6_idle_117 (by decide) (fun _ hf => ?_) (fun _ hf => ?_)
      · refine xv_eq [0] rfl ?_
        exact hB198 a hf
      · refine xv_aload_n C dX6_idle_120 rfl 0 rfl ?_
        refine xv_iconst C 0 dX6_idle_121 (by decide) ?_
        refine xv_iload C dX6_idle_122 2 rfl ?_
        obtain ⟨q6, hg, hf⟩ := dt_bind hf
        refine xc_v (xr_V C (ci := 6) (As := [.int 0, .int x4]) (fun l => c_X6_layNext g hS l n 0 x4 a q6 hg) gX6_idle_X6_layNext rfl ⟨rfl, rfl⟩ hdV_X6_layNext ⟨Nat.le_of_ble_eq_true rfl, Nat.le_of_ble_eq_true rfl⟩ 0 rfl rfl (wM0 g _) rfl rfl (Nat.le_of_ble_eq_true rfl) dX6_idle_124) ?_
        refine xv_aload_n C dX6_idle_127 rfl 0 rfl ?_
        refine xv_bipush C 100 dX6_idle_128 (by decide) ?_
        refine xv_iload C dX6_idle_130 2 rfl ?_
        obtain ⟨q7, hg, hf⟩ := dt_bind hf
        refine xc_v (xr_V C (ci := 6) (As := [.int 100, .int x4]) (fun l => c_X6_layNext g hS l n 100 x4 q6 q7 hg) gX6_idle_X6_layNext rfl ⟨rfl, rfl⟩ hdV_X6_layNext ⟨Nat.le_of_ble_eq_true rfl, Nat.le_of_ble_eq_true rfl⟩ 0 rfl rfl (wM0 g _) rfl rfl (Nat.le_of_ble_eq_true rfl) dX6_idle_132) ?_
        refine xv_iconst C 0 dX6_idle_135 (by decide) ?_
        refine xv_istore C [(6, .int 0), (0, .ref (aM g 0)), (3, .int x3), (4, .int x4), (5, .int x5)] dX6_idle_136 (by decide) rfl ?_
        refine xv_eq [1, 2, 3, 4, 0] rfl ?_
        exact hL138 x3 x4 x5 (L_X6_idle_114 n x3 x4 j) ih n 0 q7 hf
  have hB111 : ∀ (x3 : Int32) (x4 : Int32)  (a : St), B_X6_idle_111 n x3 x4 a = some q → V K (sM g) 7 a [(0, .ref (aM g 0)), (3, .int x3), (4, .int x4)] 111 [] := by
    intro x3 x4 a hf
    rw [B_X6_idle_111] at hf
    refine xv_iconst C 0 dX6_idle_111 (by decide) ?_
    refine xv_istore C [(5, .int 0), (0, .ref (aM g 0)), (3, .int x3), (4, .int x4)] dX6_idle_112 (by decide) rfl ?_
    refine xv_eq [1, 2, 3, 0] rfl ?_
    exact hL114 x3 x4 n 0 a hf
  have hL44 : ∀ (x1 : Int32) (x2 : Int32) (x3 : Int32) (x4 : Int32)  (j : Nat) (x5 : Int32) (a : St), L_X6_idle_44 n x1 x2 x3 x4 j x5 a = some q → V K (sM g) 7 a [(0, .ref (aM g 0)), (1, .int x1), (2, .int x2), (3, .int x3), (4, .int x4), (5, .int x5)] 44 [] := by
    intro x1 x2 x3 x4 j
    induction j with
    | zero =>
      intro x5 a hf
      have hf : (none : Option (Int32 × St)) = some q := hf
      cases hf
    | succ j ih =>
      intro x5 a hf
      rw [L_X6_idle_44] at hf
      refine xv_iload C dX6_idle_44 5 rfl ?_
      refine xv_aload_n C dX6_idle_46 rfl 0 rfl ?_
      refine xv_get C hiX6 0 (wM0 g _) rfl 6 (by decide) (List.mem_of_getElem? (i := 1) rfl) rfl dX6_idle_47 ?_
      refine xv_icmp_ge C 111 hf dX6_idle_50 (by decide) (fun _ hf => ?_) (fun _ hf => ?_)
      · refine xv_eq [0, 3, 4] rfl ?_
        exact hB111 x3 x4 a hf
      · refine xv_aload_n C dX6_idle_53 rfl 0 rfl ?_
        refine xv_get C hiX6 0 (wM0 g _) rfl 17 (by decide) (List.mem_of_getElem? (i := 2) rfl) rfl dX6_idle_54 ?_
        refine xv_sipush C 800 dX6_idle_57 (by decide) ?_
        refine xv_iload C dX6_idle_60 5 rfl ?_
        refine xv_iadd C dX6_idle_62 ?_
        refine xv_iload C dX6_idle_63 5 rfl ?_
        refine xv_iload_n C dX6_idle_65 rfl 1 rfl ?_
        refine xv_icmp_ne C 73 hf dX6_idle_66 (by decide) (fun _ hf => ?_) (fun _ hf => ?_)
        · refine xv_iconst C (-1) dX6_idle_69 (by decide) ?_
          refine xv_goto C 85 dX6_idle_70 (by decide) ?_
          refine xv_iast C 9 0 (wM9 g _) rfl (up a 9 (((800 : Int32) + x5).toNatClampNeg) (-1)) (pM9 g _ _ _) hf dX6_idle_85 (fun hf => ?_)
          refine xv_aload_n C dX6_idle_86 rfl 0 rfl ?_
          refine xv_get C hiX6 0 (wM0 g _) rfl 17 (by decide) (List.mem_of_getElem? (i := 2) rfl) rfl dX6_idle_87 ?_
          refine xv_iload C dX6_idle_90 5 rfl ?_
          refine xv_aload_n C dX6_idle_92 rfl 0 rfl ?_
          refine xv_get C hiX6 0 (wM0 g _) rfl 17 (by decide) (List.mem_of_getElem? (i := 2) rfl) rfl dX6_idle_93 ?_
          refine xv_bipush C 8 dX6_idle_96 (by decide) ?_
          refine xv_iload_n C dX6_idle_98 rfl 2 rfl ?_
          refine xv_imul C dX6_idle_99 ?_
          refine xv_iload C dX6_idle_100 5 rfl ?_
          refine xv_iadd C dX6_idle_102 ?_
          refine xv_iald C 9 0 (wM9 g _) rfl hf dX6_idle_103 (fun hf => ?_)
          refine xv_iast C 9 0 (wM9 g _) rfl (up (up a 9 (((800 : Int32) + x5).toNatClampNeg) (-1)) 9 x5.toNatClampNeg ((up a 9 (((800 : Int32) + x5).toNatClampNeg) (-1)) 9 ((((8 : Int32) * x2) + x5).toNatClampNeg))) (pM9 g _ _ _) hf dX6_idle_104 (fun hf => ?_)
          refine xv_iinc C [(5, .int (x5 + 1)), (0, .ref (aM g 0)), (1, .int x1), (2, .int x2), (3, .int x3), (4, .int x4)] dX6_idle_105 5 rfl rfl (by decide) rfl ?_
          refine xv_goto C 44 dX6_idle_108 (by decide) ?_
          refine xv_eq [1, 2, 3, 4, 5, 0] rfl ?_
          exact ih (x5 + 1) (up (up a 9 (((800 : Int32) + x5).toNatClampNeg) (-1)) 9 x5.toNatClampNeg ((up a 9 (((800 : Int32) + x5).toNatClampNeg) (-1)) 9 ((((8 : Int32) * x2) + x5).toNatClampNeg))) hf
        · refine xv_aload_n C dX6_idle_73 rfl 0 rfl ?_
          refine xv_get C hiX6 0 (wM0 g _) rfl 17 (by decide) (List.mem_of_getElem? (i := 2) rfl) rfl dX6_idle_74 ?_
          refine xv_bipush C 8 dX6_idle_77 (by decide) ?_
          refine xv_iload_n C dX6_idle_79 rfl 2 rfl ?_
          refine xv_imul C dX6_idle_80 ?_
          refine xv_iload C dX6_idle_81 5 rfl ?_
          refine xv_iadd C dX6_idle_83 ?_
          refine xv_iald C 9 0 (wM9 g _) rfl hf dX6_idle_84 (fun hf => ?_)
          refine xv_iast C 9 0 (wM9 g _) rfl (up a 9 (((800 : Int32) + x5).toNatClampNeg) (a 9 ((((8 : Int32) * x2) + x5).toNatClampNeg))) (pM9 g _ _ _) hf dX6_idle_85 (fun hf => ?_)
          refine xv_aload_n C dX6_idle_86 rfl 0 rfl ?_
          refine xv_get C hiX6 0 (wM0 g _) rfl 17 (by decide) (List.mem_of_getElem? (i := 2) rfl) rfl dX6_idle_87 ?_
          refine xv_iload C dX6_idle_90 5 rfl ?_
          refine xv_aload_n C dX6_idle_92 rfl 0 rfl ?_
          refine xv_get C hiX6 0 (wM0 g _) rfl 17 (by decide) (List.mem_of_getElem? (i := 2) rfl) rfl dX6_idle_93 ?_
          refine xv_bipush C 8 dX6_idle_96 (by decide) ?_
          refine xv_iload_n C dX6_idle_98 rfl 2 rfl ?_
          refine xv_imul C dX6_idle_99 ?_
          refine xv_iload C dX6_idle_100 5 rfl ?_
          refine xv_iadd C dX6_idle_102 ?_
          refine xv_iald C 9 0 (wM9 g _) rfl hf dX6_idle_103 (fun hf => ?_)
          refine xv_iast C 9 0 (wM9 g _) rfl (up (up a 9 (((800 : Int32) + x5).toNatClampNeg) (a 9 ((((8 : Int32) * x2) + x5).toNatClampNeg))) 9 x5.toNatClampNeg ((up a 9 (((800 : Int32) + x5).toNatClampNeg) (a 9 ((((8 : Int32) * x2) + x5).toNatClampNeg))) 9 ((((8 : Int32) * x2) + x5).toNatClampNeg))) (pM9 g _ _ _) hf dX6_idle_104 (fun hf => ?_)
          refine xv_iinc C [(5, .int (x5 + 1)), (0, .ref (aM g 0)), (1, .int x1), (2, .int x2), (3, .int x3), (4, .int x4)] dX6_idle_105 5 rfl rfl (by decide) rfl ?_
          refine xv_goto C 44 dX6_idle_108 (by decide) ?_
          refine xv_eq [1, 2, 3, 4, 5, 0] rfl ?_
          exact ih (x5 + 1) (up (up a 9 (((800 : Int32) + x5).toNatClampNeg) (a 9 ((((8 : Int32) * x2) + x5).toNatClampNeg))) 9 x5.toNatClampNeg ((up a 9 (((800 : Int32) + x5).toNatClampNeg) (a 9 ((((8 : Int32) * x2) + x5).toNatClampNeg))) 9 ((((8 : Int32) * x2) + x5).toNatClampNeg))) hf
  rw [f_X6_idle] at hf
  show V K (sM g) 7 a [(0, .ref (aM g 0)), (1, .int x1), (2, .int x2), (3, .int x3)] 0 []
  refine xv_aload_n C dX6_idle_0 rfl 0 rfl ?_
  refine xv_iload_n C dX6_idle_1 rfl 1 rfl ?_
  obtain ⟨q1, hg, hf⟩ := dt_bind hf
  refine xc_i (xr_V C (ci := 6) (As := [.int x1]) (fun l => c_X6_isHouse g hS l x1 a q1 hg) gX6_idle_X6_isHouse rfl ⟨rfl, rfl⟩ hdV_X6_isHouse ⟨Nat.le_of_ble_eq_true rfl, Nat.le_of_ble_eq_true rfl⟩ 0 rfl rfl (wM0 g _) rfl rfl (Nat.le_of_ble_eq_true rfl) dX6_idle_2) ?_
  refine xv_if_ne C (y := 0) 11 hf dX6_idle_5 (by decide) (fun _ hf => ?_) (fun _ hf => ?_)
  · refine xv_bipush C (-2) dX6_idle_8 (by decide) ?_
    exact xz_iw hret hf dX6_idle_10
  · refine xv_iload_n C dX6_idle_11 rfl 2 rfl ?_
    obtain ⟨q2, hg, hf⟩ := dt_bind hf
    refine xc_i (xr_S C (As := [.int x2]) (fun l => c_X6_isTime (sM g) hS l x2 a q2 hg) gX6_idle_X6_isTime rfl ⟨rfl, rfl⟩ hdS_X6_isTime ⟨Nat.le_of_ble_eq_true rfl, Nat.le_of_ble_eq_true rfl⟩ rfl rfl (Nat.le_of_ble_eq_true rfl) dX6_idle_12) ?_
    refine xv_if_eq C (y := 0) 25 hf dX6_idle_15 (by decide) (fun _ hf => ?_) (fun _ hf => ?_)
    · refine xv_bipush C (-3) dX6_idle_25 (by decide) ?_
      exact xz_iw hret hf dX6_idle_27
    · refine xv_iload_n C dX6_idle_18 rfl 3 rfl ?_
      obtain ⟨q3, hg, hf⟩ := dt_bind hf
      refine xc_i (xr_S C (As := [.int x3]) (fun l => c_X6_isTime (sM g) hS l x3 a q3 hg) gX6_idle_X6_isTime rfl ⟨rfl, rfl⟩ hdS_X6_isTime ⟨Nat.le_of_ble_eq_true rfl, Nat.le_of_ble_eq_true rfl⟩ rfl rfl (Nat.le_of_ble_eq_true rfl) dX6_idle_19) ?_
      refine xv_if_ne C (y := 0) 28 hf dX6_idle_22 (by decide) (fun _ hf => ?_) (fun _ hf => ?_)
      · refine xv_bipush C (-3) dX6_idle_25 (by decide) ?_
        exact xz_iw hret hf dX6_idle_27
      · refine xv_aload_n C dX6_idle_28 rfl 0 rfl ?_
        obtain ⟨q4, hg, hf⟩ := dt_bind hf
        refine xc_i (xr_V C (ci := 6) (As := []) (fun l => c_X6_forbiddenNow g hS l n a q4 hg) gX6_idle_X6_forbiddenNow rfl ⟨rfl, rfl⟩ hdV_X6_forbiddenNow ⟨Nat.le_of_ble_eq_true rfl, Nat.le_of_ble_eq_true rfl⟩ 0 rfl rfl (wM0 g _) rfl rfl (Nat.le_of_ble_eq_true rfl) dX6_idle_29) ?_
        refine xv_istore C [(4, .int q4), (0, .ref (aM g 0)), (1, .int x1), (2, .int x2), (3, .int x3)] dX6_idle_32 (by decide) rfl ?_
        refine xv_aload_n C dX6_idle_34 rfl 1 rfl ?_
        refine xv_iload_n C dX6_idle_35 rfl 3 rfl ?_
        refine xv_iload C dX6_idle_36 0 rfl ?_
        obtain ⟨q5, hg, hf⟩ := dt_bind hf
        refine xc_v (xr_V C (ci := 6) (As := [.int x2, .int q4]) (fun l => c_X6_layDays g hS l n x2 q4 a q5 hg) gX6_idle_X6_layDays rfl ⟨rfl, rfl⟩ hdV_X6_layDays ⟨Nat.le_of_ble_eq_true rfl, Nat.le_of_ble_eq_true rfl⟩ 0 rfl rfl (wM0 g _) rfl rfl (Nat.le_of_ble_eq_true rfl) dX6_idle_38) ?_
        refine xv_iconst C 0 dX6_idle_41 (by decide) ?_
        refine xv_istore C [(5, .int 0), (4, .int q4), (0, .ref (aM g 0)), (1, .int x1), (2, .int x2), (3, .int x3)] dX6_idle_42 (by decide) rfl ?_
        refine xv_eq [2, 3, 4, 5, 1, 0] rfl ?_
        exact hL44 x1 x2 x3 q4 n 0 q5 hf
set_option maxRecDepth 100000 in
set_option maxHeartbeats 4000000 in
theorem c_X6_divisor (S : SID) (hS : xSide S) (l : Launch) (n : Nat) (x0 : Int64) (x2 : Int64) (a : St) (q : Int64) (hf : f_X6_divisor n x0 x2 = some q) : Met l yX6_divisor wsX6_divisor rm_X6_divisor (xPre S [.long x0, .long x2] a) (xPostL S q a) 0 0 S.2.2.1 := by
  refine xm_l (av := [.long x0, .long x2]) (cc := cX6_divisor) (maxL := 10) (by decide) rfl (Nat.le_of_ble_eq_true rfl) hS.1 hS.2 (fun K C hret => ?_)
  have C : CC K S cX6_divisor 10 wsX6_divisor RX6 rm_X6_divisor := C
  have hL6 : ∀  (j : Nat) (x4 : Int64) (x6 : Int64), L_X6_divisor_6 n j x4 x6 = some q → V K S 10 a [(4, .long x4), (6, .long x6)] 6 [] := by
    intro j
    induction j with
    | zero =>
      intro x4 x6 hf
      have hf : (none : Option Int64) = some q := hf
      cases hf
    | succ j ih =>
      intro x4 x6 hf
      rw [L_X6_divisor_6] at hf
      refine xv_lload C dX6_divisor_6 1 rfl ?_
      refine xv_lconst C 0 dX6_divisor_8 (by decide) ?_
      refine xv_lcmp C dX6_divisor_9 ?_
      refine xv_if_eq C (y := 0) 31 hf dX6_divisor_10 (by decide) (fun _ hf => ?_) (fun _ hf => ?_)
      · refine xv_lload C dX6_divisor_31 0 rfl ?_
        exact xz_lr hret hf dX6_divisor_33
      · refine xv_lload C dX6_divisor_13 0 rfl ?_
        refine xv_lload C dX6_divisor_15 1 rfl ?_
        refine xv_lrem C hf dX6_divisor_17 (fun hf => ?_)
        refine xv_lstore C [(8, .long (x4 - x4 / x6 * x6)), (4, .long x4), (6, .long x6)] dX6_divisor_18 (by decide) rfl ?_
        refine xv_lload C dX6_divisor_20 2 rfl ?_
        refine xv_lstore C [(4, .long x6), (8, .long (x4 - x4 / x6 * x6)), (6, .long x6)] dX6_divisor_22 (by decide) rfl ?_
        refine xv_lload C dX6_divisor_24 1 rfl ?_
        refine xv_lstore C [(6, .long (x4 - x4 / x6 * x6)), (4, .long x6), (8, .long (x4 - x4 / x6 * x6))] dX6_divisor_26 (by decide) rfl ?_
        refine xv_goto C 6 dX6_divisor_28 (by decide) ?_
        refine xv_eq [1, 0] rfl ?_
        exact ih x6 (x4 - x4 / x6 * x6) hf
  rw [f_X6_divisor] at hf
  show V K S 10 a [(0, .long x0), (2, .long x2)] 0 []
  refine xv_lload_n C dX6_divisor_0 rfl 0 rfl ?_
  refine xv_lstore C [(4, .long x0), (0, .long x0), (2, .long x2)] dX6_divisor_1 (by decide) rfl ?_
  refine xv_lload_n C dX6_divisor_3 rfl 2 rfl ?_
  refine xv_lstore C [(6, .long x2), (4, .long x0), (0, .long x0), (2, .long x2)] dX6_divisor_4 (by decide) rfl ?_
  refine xv_eq [1, 0] rfl ?_
  exact hL6 n x0 x2 hf
set_option maxRecDepth 100000 in
set_option maxHeartbeats 4000000 in
theorem c_X6_odds (g : GM) (hS : xSide (sM g)) (l : Launch) (n : Nat) (x1 : Int32) (x2 : Int32) (x3 : Int32) (x4 : Int32) (a : St) (q : (Int64 × St)) (hf : f_X6_odds n x1 x2 x3 x4 a = some q) : Met l yX6_odds wsX6_odds rm_X6_odds (xPre (sM g) [.ref (aM g 0), .int x1, .int x2, .int x3, .int x4] a) (xPostL (sM g) q.1 q.2) 0 0 (sM g).2.2.1 := by
  refine xm_l (av := [.ref (aM g 0), .int x1, .int x2, .int x3, .int x4]) (cc := cX6_odds) (maxL := 11) (by decide) rfl (Nat.le_of_ble_eq_true rfl) hS.1 hS.2 (fun K C hret => ?_)
  have C : CC K (sM g) cX6_odds 11 wsX6_odds RX6 rm_X6_odds := C
  have hiX6 : ∀ w ∈ u_ws RX6 TX6 26, w ∈ wsX6_odds := fun w h => List.mem_cons_of_mem _ (List.mem_append_right _ h)
  have hB118 : ∀ (x4 : Int32) (x5 : Int64) (x7 : Int64)  (a : St), B_X6_odds_118 n x4 x5 x7 a = some q → V K (sM g) 11 a [(4, .int x4), (5, .long x5), (7, .long x7)] 118 [] := by
    intro x4 x5 x7 a hf
    rw [B_X6_odds_118] at hf
    refine xv_lload C dX6_odds_118 1 rfl ?_
    refine xv_lload C dX6_odds_120 2 rfl ?_
    obtain ⟨q7, hg, hf⟩ := dt_bind hf
    refine xc_l (xr_S C (As := [.long x5, .long x7]) (fun l => c_X6_divisor (sM g) hS l n x5 x7 a q7 hg) gX6_odds_X6_divisor rfl ⟨rfl, rfl⟩ hdS_X6_divisor ⟨Nat.le_of_ble_eq_true rfl, Nat.le_of_ble_eq_true rfl⟩ rfl rfl (Nat.le_of_ble_eq_true rfl) dX6_odds_122) ?_
    refine xv_lstore C [(9, .long q7), (4, .int x4), (5, .long x5), (7, .long x7)] dX6_odds_125 (by decide) rfl ?_
    refine xv_iload C dX6_odds_127 1 rfl ?_
    refine xv_if_ne C (y := 0) 140 hf dX6_odds_129 (by decide) (fun _ hf => ?_) (fun _ hf => ?_)
    · refine xv_lload C dX6_odds_132 2 rfl ?_
      refine xv_lload C dX6_odds_134 0 rfl ?_
      refine xv_ldiv C hf dX6_odds_136 (fun hf => ?_)
      refine xv_goto C 145 dX6_odds_137 (by decide) ?_
      exact xz_lw hret hf dX6_odds_145
    · refine xv_lload C dX6_odds_140 3 rfl ?_
      refine xv_lload C dX6_odds_142 0 rfl ?_
      refine xv_ldiv C hf dX6_odds_144 (fun hf => ?_)
      exact xz_lw hret hf dX6_odds_145
  have hL88 : ∀ (x2 : Int32) (x3 : Int32) (x4 : Int32)  (j : Nat) (x5 : Int64) (x7 : Int64) (x9 : Int32) (a : St), L_X6_odds_88 n x2 x3 x4 j x5 x7 x9 a = some q → V K (sM g) 11 a [(2, .int x2), (3, .int x3), (4, .int x4), (5, .long x5), (7, .long x7), (9, .int x9)] 88 [] := by
    intro x2 x3 x4 j
    induction j with
    | zero =>
      intro x5 x7 x9 a hf
      have hf : (none : Option (Int64 × St)) = some q := hf
      cases hf
    | succ j ih =>
      intro x5 x7 x9 a hf
      rw [L_X6_odds_88] at hf
      refine xv_iload C dX6_odds_88 5 rfl ?_
      refine xv_iload_n C dX6_odds_90 rfl 0 rfl ?_
      refine xv_icmp_gt C 118 hf dX6_odds_91 (by decide) (fun _ hf => ?_) (fun _ hf => ?_)
      · refine xv_eq [2, 3, 4] rfl ?_
        exact hB118 x4 x5 x7 a hf
      · refine xv_lload C dX6_odds_94 3 rfl ?_
        refine xv_bipush C 10 dX6_odds_96 (by decide) ?_
        refine xv_iload_n C dX6_odds_98 rfl 1 rfl ?_
        refine xv_isub C dX6_odds_99 ?_
        refine xv_i2l C dX6_odds_100 ?_
        refine xv_lmul C dX6_odds_101 ?_
        refine xv_lstore C [(5, .long (x5 * (((10 : Int32) - x3).toInt64))), (2, .int x2), (3, .int x3), (4, .int x4), (7, .long x7), (9, .int x9)] dX6_odds_102 (by decide) rfl ?_
        refine xv_lload C dX6_odds_104 4 rfl ?_
        refine xv_ldc2 C 10 dX6_odds_106 (List.mem_of_getElem? (i := 3) rfl) ?_
        refine xv_lmul C dX6_odds_109 ?_
        refine xv_lstore C [(7, .long (x7 * 10)), (5, .long (x5 * (((10 : Int32) - x3).toInt64))), (2, .int x2), (3, .int x3), (4, .int x4), (9, .int x9)] dX6_odds_110 (by decide) rfl ?_
        refine xv_iinc C [(9, .int (x9 + 1)), (7, .long (x7 * 10)), (5, .long (x5 * (((10 : Int32) - x3).toInt64))), (2, .int x2), (3, .int x3), (4, .int x4)] dX6_odds_112 5 rfl rfl (by decide) rfl ?_
        refine xv_goto C 88 dX6_odds_115 (by decide) ?_
        refine xv_eq [3, 4, 5, 2, 1, 0] rfl ?_
        exact ih (x5 * (((10 : Int32) - x3).toInt64)) (x7 * 10) (x9 + 1) a hf
  rw [f_X6_odds] at hf
  show V K (sM g) 11 a [(0, .ref (aM g 0)), (1, .int x1), (2, .int x2), (3, .int x3), (4, .int x4)] 0 []
  refine xv_aload_n C dX6_odds_0 rfl 0 rfl ?_
  refine xv_iload_n C dX6_odds_1 rfl 1 rfl ?_
  obtain ⟨q1, hg, hf⟩ := dt_bind hf
  refine xc_i (xr_V C (ci := 6) (As := [.int x1]) (fun l => c_X6_isHouse g hS l x1 a q1 hg) gX6_odds_X6_isHouse rfl ⟨rfl, rfl⟩ hdV_X6_isHouse ⟨Nat.le_of_ble_eq_true rfl, Nat.le_of_ble_eq_true rfl⟩ 0 rfl rfl (wM0 g _) rfl rfl (Nat.le_of_ble_eq_true rfl) dX6_odds_2) ?_
  refine xv_if_ne C (y := 0) 12 hf dX6_odds_5 (by decide) (fun _ hf => ?_) (fun _ hf => ?_)
  · refine xv_ldc2 C (-2) dX6_odds_8 (List.mem_of_getElem? (i := 1) rfl) ?_
    exact xz_lw hret hf dX6_odds_11
  · refine xv_iload_n C dX6_odds_12 rfl 2 rfl ?_
    refine xv_i2l C dX6_odds_13 ?_
    refine xv_lconst C 0 dX6_odds_14 (by decide) ?_
    refine xv_ldc2 C 9 dX6_odds_15 (List.mem_of_getElem? (i := 2) rfl) ?_
    obtain ⟨q2, hg, hf⟩ := dt_bind hf
    refine xc_i (xr_S C (As := [.long x2.toInt64, .long 0, .long 9]) (fun l => c_X6_in (sM g) hS l x2.toInt64 0 9 a q2 hg) gX6_odds_X6_in rfl ⟨rfl, rfl⟩ hdS_X6_in ⟨Nat.le_of_ble_eq_true rfl, Nat.le_of_ble_eq_true rfl⟩ rfl rfl (Nat.le_of_ble_eq_true rfl) dX6_odds_18) ?_
    refine xv_if_eq C (y := 0) 47 hf dX6_odds_21 (by decide) (fun _ hf => ?_) (fun _ hf => ?_)
    · refine xv_ldc2 C (-3) dX6_odds_47 (List.mem_of_getElem? (i := 4) rfl) ?_
      exact xz_lw hret hf dX6_odds_50
    · refine xv_iload_n C dX6_odds_24 rfl 3 rfl ?_
      refine xv_i2l C dX6_odds_25 ?_
      refine xv_lconst C 0 dX6_odds_26 (by decide) ?_
      refine xv_ldc2 C 10 dX6_odds_27 (List.mem_of_getElem? (i := 3) rfl) ?_
      obtain ⟨q3, hg, hf⟩ := dt_bind hf
      refine xc_i (xr_S C (As := [.long x3.toInt64, .long 0, .long 10]) (fun l => c_X6_in (sM g) hS l x3.toInt64 0 10 a q3 hg) gX6_odds_X6_in rfl ⟨rfl, rfl⟩ hdS_X6_in ⟨Nat.le_of_ble_eq_true rfl, Nat.le_of_ble_eq_true rfl⟩ rfl rfl (Nat.le_of_ble_eq_true rfl) dX6_odds_30) ?_
      refine xv_if_eq C (y := 0) 47 hf dX6_odds_33 (by decide) (fun _ hf => ?_) (fun _ hf => ?_)
      · refine xv_ldc2 C (-3) dX6_odds_47 (List.mem_of_getElem? (i := 4) rfl) ?_
        exact xz_lw hret hf dX6_odds_50
      · refine xv_iload C dX6_odds_36 4 rfl ?_
        refine xv_i2l C dX6_odds_38 ?_
        refine xv_lconst C 0 dX6_odds_39 (by decide) ?_
        refine xv_lconst C 1 dX6_odds_40 (by decide) ?_
        obtain ⟨q4, hg, hf⟩ := dt_bind hf
        refine xc_i (xr_S C (As := [.long x4.toInt64, .long 0, .long 1]) (fun l => c_X6_in (sM g) hS l x4.toInt64 0 1 a q4 hg) gX6_odds_X6_in rfl ⟨rfl, rfl⟩ hdS_X6_in ⟨Nat.le_of_ble_eq_true rfl, Nat.le_of_ble_eq_true rfl⟩ rfl rfl (Nat.le_of_ble_eq_true rfl) dX6_odds_41) ?_
        refine xv_if_ne C (y := 0) 51 hf dX6_odds_44 (by decide) (fun _ hf => ?_) (fun _ hf => ?_)
        · refine xv_ldc2 C (-3) dX6_odds_47 (List.mem_of_getElem? (i := 4) rfl) ?_
          exact xz_lw hret hf dX6_odds_50
        · refine xv_aload_n C dX6_odds_51 rfl 0 rfl ?_
          refine xv_iload_n C dX6_odds_52 rfl 2 rfl ?_
          refine xv_aload_n C dX6_odds_53 rfl 0 rfl ?_
          obtain ⟨q5, hg, hf⟩ := dt_bind hf
          refine xc_i (xr_V C (ci := 6) (As := []) (fun l => c_X6_forbiddenNow g hS l n a q5 hg) gX6_odds_X6_forbiddenNow rfl ⟨rfl, rfl⟩ hdV_X6_forbiddenNow ⟨Nat.le_of_ble_eq_true rfl, Nat.le_of_ble_eq_true rfl⟩ 0 rfl rfl (wM0 g _) rfl rfl (Nat.le_of_ble_eq_true rfl) dX6_odds_54) ?_
          obtain ⟨q6, hg, hf⟩ := dt_bind hf
          refine xc_v (xr_V C (ci := 6) (As := [.int x2, .int q5]) (fun l => c_X6_layDays g hS l n x2 q5 a q6 hg) gX6_odds_X6_layDays rfl ⟨rfl, rfl⟩ hdV_X6_layDays ⟨Nat.le_of_ble_eq_true rfl, Nat.le_of_ble_eq_true rfl⟩ 0 rfl rfl (wM0 g _) rfl rfl (Nat.le_of_ble_eq_true rfl) dX6_odds_57) ?_
          refine xv_aload_n C dX6_odds_60 rfl 0 rfl ?_
          refine xv_get C hiX6 0 (wM0 g _) rfl 17 (by decide) (List.mem_of_getElem? (i := 5) rfl) rfl dX6_odds_61 ?_
          refine xv_bipush C 8 dX6_odds_64 (by decide) ?_
          refine xv_iload_n C dX6_odds_66 rfl 2 rfl ?_
          refine xv_imul C dX6_odds_67 ?_
          refine xv_iload_n C dX6_odds_68 rfl 1 rfl ?_
          refine xv_iadd C dX6_odds_69 ?_
          refine xv_iald C 9 0 (wM9 g _) rfl hf dX6_odds_70 (fun hf => ?_)
          refine xv_iconst C (-1) dX6_odds_71 (by decide) ?_
          refine xv_icmp_ne C 79 hf dX6_odds_72 (by decide) (fun _ hf => ?_) (fun _ hf => ?_)
          · refine xv_lconst C 0 dX6_odds_75 (by decide) ?_
            refine xv_goto C 80 dX6_odds_76 (by decide) ?_
            refine xv_lstore C [(5, .long 0), (0, .ref (aM g 0)), (1, .int x1), (2, .int x2), (3, .int x3), (4, .int x4)] dX6_odds_80 (by decide) rfl ?_
            refine xv_lconst C 1 dX6_odds_82 (by decide) ?_
            refine xv_lstore C [(7, .long 1), (5, .long 0), (0, .ref (aM g 0)), (1, .int x1), (2, .int x2), (3, .int x3), (4, .int x4)] dX6_odds_83 (by decide) rfl ?_
            refine xv_iconst C 0 dX6_odds_85 (by decide) ?_
            refine xv_istore C [(9, .int 0), (7, .long 1), (5, .long 0), (0, .ref (aM g 0)), (1, .int x1), (2, .int x2), (3, .int x3), (4, .int x4)] dX6_odds_86 (by decide) rfl ?_
            refine xv_eq [5, 6, 7, 2, 1, 0] rfl ?_
            exact hL88 x2 x3 x4 n 0 1 0 q6 hf
          · refine xv_lconst C 1 dX6_odds_79 (by decide) ?_
            refine xv_lstore C [(5, .long 1), (0, .ref (aM g 0)), (1, .int x1), (2, .int x2), (3, .int x3), (4, .int x4)] dX6_odds_80 (by decide) rfl ?_
            refine xv_lconst C 1 dX6_odds_82 (by decide) ?_
            refine xv_lstore C [(7, .long 1), (5, .long 1), (0, .ref (aM g 0)), (1, .int x1), (2, .int x2), (3, .int x3), (4, .int x4)] dX6_odds_83 (by decide) rfl ?_
            refine xv_iconst C 0 dX6_odds_85 (by decide) ?_
            refine xv_istore C [(9, .int 0), (7, .long 1), (5, .long 1), (0, .ref (aM g 0)), (1, .int x1), (2, .int x2), (3, .int x3), (4, .int x4)] dX6_odds_86 (by decide) rfl ?_
            refine xv_eq [5, 6, 7, 2, 1, 0] rfl ?_
            exact hL88 x2 x3 x4 n 1 1 0 q6 hf
