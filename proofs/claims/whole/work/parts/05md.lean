set_option maxRecDepth 100000 in
set_option maxHeartbeats 4000000 in
theorem c_X6_layDays (g : GM) (hS : xSide (sM g)) (l : Launch) (n : Nat) (x1 : Int32) (x2 : Int32) (a : St) (q : St) (hf : f_X6_layDays n x1 x2 a = some q) : Met l yX6_layDays wsX6_layDays rm_X6_layDays (xPre (sM g) [.ref (aM g 0), .int x1, .int x2] a) (xPostV (sM g) q) 0 0 (sM g).2.2.1 := by
  refine xm_v (av := [.ref (aM g 0), .int x1, .int x2]) (cc := cX6_layDays) (maxL := 4) (by decide) rfl (Nat.le_of_ble_eq_true rfl) hS.1 hS.2 (fun K C hret => ?_)
  have C : CC K (sM g) cX6_layDays 4 wsX6_layDays RX6 rm_X6_layDays := C
  have hiX6 : ∀ w ∈ u_ws RX6 TX6 26, w ∈ wsX6_layDays := fun w h => List.mem_cons_of_mem _ (List.mem_append_right _ h)
  have hL30 : ∀ (x1 : Int32) (x2 : Int32)  (j : Nat) (x3 : Int32) (a : St), L_X6_layDays_30 n x1 x2 j x3 a = some q → V K (sM g) 4 a [(0, .ref (aM g 0)), (1, .int x1), (2, .int x2), (3, .int x3)] 30 [] := by
    intro x1 x2 j
    induction j with
    | zero =>
      intro x3 a hf
      have hf : (none : Option St) = some q := hf
      cases hf
    | succ j ih =>
      intro x3 a hf
      rw [L_X6_layDays_30] at hf
      refine xv_iload_n C dX6_layDays_30 rfl 3 rfl ?_
      refine xv_iload_n C dX6_layDays_31 rfl 1 rfl ?_
      refine xv_icmp_ge C 47 hf dX6_layDays_32 (by decide) (fun _ hf => ?_) (fun _ hf => ?_)
      · exact xz_v hret hf dX6_layDays_47
      · refine xv_aload_n C dX6_layDays_35 rfl 0 rfl ?_
        refine xv_iload_n C dX6_layDays_36 rfl 3 rfl ?_
        refine xv_iload_n C dX6_layDays_37 rfl 2 rfl ?_
        obtain ⟨q1, hg, hf⟩ := dt_bind hf
        refine xc_v (xr_V C (ci := 6) (As := [.int x3, .int x2]) (fun l => c_X6_layNext g hS l n x3 x2 a q1 hg) gX6_layDays_X6_layNext rfl ⟨rfl, rfl⟩ hdV_X6_layNext ⟨Nat.le_of_ble_eq_true rfl, Nat.le_of_ble_eq_true rfl⟩ 0 rfl rfl (wM0 g _) rfl rfl (Nat.le_of_ble_eq_true rfl) dX6_layDays_38) ?_
        refine xv_iinc C [(3, .int (x3 + 1)), (0, .ref (aM g 0)), (1, .int x1), (2, .int x2)] dX6_layDays_41 3 rfl rfl (by decide) rfl ?_
        refine xv_goto C 30 dX6_layDays_44 (by decide) ?_
        refine xv_eq [1, 2, 3, 0] rfl ?_
        exact ih (x3 + 1) q1 hf
  have hB28 : ∀ (x1 : Int32) (x2 : Int32)  (a : St), B_X6_layDays_28 n x1 x2 a = some q → V K (sM g) 4 a [(0, .ref (aM g 0)), (1, .int x1), (2, .int x2)] 28 [] := by
    intro x1 x2 a hf
    rw [B_X6_layDays_28] at hf
    refine xv_iconst C 0 dX6_layDays_28 (by decide) ?_
    refine xv_istore_n C [(3, .int 0), (0, .ref (aM g 0)), (1, .int x1), (2, .int x2)] dX6_layDays_29 rfl (by decide) rfl ?_
    refine xv_eq [1, 2, 3, 0] rfl ?_
    exact hL30 x1 x2 n 0 a hf
  have hL2 : ∀ (x1 : Int32) (x2 : Int32)  (j : Nat) (x3 : Int32) (a : St), L_X6_layDays_2 n x1 x2 j x3 a = some q → V K (sM g) 4 a [(0, .ref (aM g 0)), (1, .int x1), (2, .int x2), (3, .int x3)] 2 [] := by
    intro x1 x2 j
    induction j with
    | zero =>
      intro x3 a hf
      have hf : (none : Option St) = some q := hf
      cases hf
    | succ j ih =>
      intro x3 a hf
      rw [L_X6_layDays_2] at hf
      refine xv_iload_n C dX6_layDays_2 rfl 3 rfl ?_
      refine xv_aload_n C dX6_layDays_3 rfl 0 rfl ?_
      refine xv_get C hiX6 0 (wM0 g _) rfl 6 (by decide) (List.mem_of_getElem? (i := 1) rfl) rfl dX6_layDays_4 ?_
      refine xv_icmp_ge C 28 hf dX6_layDays_7 (by decide) (fun _ hf => ?_) (fun _ hf => ?_)
      · refine xv_eq [0, 1, 2] rfl ?_
        exact hB28 x1 x2 a hf
      · refine xv_aload_n C dX6_layDays_10 rfl 0 rfl ?_
        refine xv_get C hiX6 0 (wM0 g _) rfl 17 (by decide) (List.mem_of_getElem? (i := 2) rfl) rfl dX6_layDays_11 ?_
        refine xv_iload_n C dX6_layDays_14 rfl 3 rfl ?_
        refine xv_aload_n C dX6_layDays_15 rfl 0 rfl ?_
        refine xv_get C hiX6 0 (wM0 g _) rfl 0 (by decide) (List.mem_of_getElem? (i := 3) rfl) rfl dX6_layDays_16 ?_
        refine xv_iload_n C dX6_layDays_19 rfl 3 rfl ?_
        refine xv_iald C 1 0 (wM1 g _) rfl hf dX6_layDays_20 (fun hf => ?_)
        refine xv_iast C 9 0 (wM9 g _) rfl (up a 9 x3.toNatClampNeg (a 1 x3.toNatClampNeg)) (pM9 g _ _ _) hf dX6_layDays_21 (fun hf => ?_)
        refine xv_iinc C [(3, .int (x3 + 1)), (0, .ref (aM g 0)), (1, .int x1), (2, .int x2)] dX6_layDays_22 3 rfl rfl (by decide) rfl ?_
        refine xv_goto C 2 dX6_layDays_25 (by decide) ?_
        refine xv_eq [1, 2, 3, 0] rfl ?_
        exact ih (x3 + 1) (up a 9 x3.toNatClampNeg (a 1 x3.toNatClampNeg)) hf
  rw [f_X6_layDays] at hf
  show V K (sM g) 4 a [(0, .ref (aM g 0)), (1, .int x1), (2, .int x2)] 0 []
  refine xv_iconst C 0 dX6_layDays_0 (by decide) ?_
  refine xv_istore_n C [(3, .int 0), (0, .ref (aM g 0)), (1, .int x1), (2, .int x2)] dX6_layDays_1 rfl (by decide) rfl ?_
  refine xv_eq [1, 2, 3, 0] rfl ?_
  exact hL2 x1 x2 n 0 a hf
set_option maxRecDepth 100000 in
set_option maxHeartbeats 4000000 in
theorem c_X6_go (g : GM) (hS : xSide (sM g)) (l : Launch) (n : Nat) (x1 : Int32) (a : St) (q : (Int32 × St)) (hf : f_X6_go n x1 a = some q) : Met l yX6_go wsX6_go rm_X6_go (xPre (sM g) [.ref (aM g 0), .int x1] a) (xPostI (sM g) q.1 q.2) 0 0 (sM g).2.2.1 := by
  refine xm_i (av := [.ref (aM g 0), .int x1]) (cc := cX6_go) (maxL := 4) (by decide) rfl (Nat.le_of_ble_eq_true rfl) hS.1 hS.2 (fun K C hret => ?_)
  have C : CC K (sM g) cX6_go 4 wsX6_go RX6 rm_X6_go := C
  have hiX6 : ∀ w ∈ u_ws RX6 TX6 26, w ∈ wsX6_go := fun w h => List.mem_cons_of_mem _ (List.mem_append_right _ h)
  have hB136 : ∀ (x1 : Int32)  (a : St), B_X6_go_136 n x1 a = some q → V K (sM g) 4 a [(0, .ref (aM g 0)), (1, .int x1)] 136 [] := by
    intro x1 a hf
    rw [B_X6_go_136] at hf
    refine xv_aload_n C dX6_go_136 rfl 0 rfl ?_
    refine xv_get C hiX6 0 (wM0 g _) rfl 0 (by decide) (List.mem_of_getElem? (i := 2) rfl) rfl dX6_go_137 ?_
    refine xv_bipush C 8 dX6_go_140 (by decide) ?_
    refine xv_dup2 C dX6_go_142 rfl rfl ?_
    refine xv_iald C 1 0 (wM1 g _) rfl (B := some ()) (w := ()) (by decide) dX6_go_143 (fun _ => ?_)
    refine xv_iload_n C dX6_go_144 rfl 1 rfl ?_
    refine xv_iadd C dX6_go_145 ?_
    refine xv_iast C 1 0 (wM1 g _) rfl (up a 1 ((8 : Int32).toNatClampNeg) ((a 1 ((8 : Int32).toNatClampNeg)) + x1)) (pM1 g _ _ _) (B := some ()) (w := ()) (by decide) dX6_go_146 (fun _ => ?_)
    refine xv_aload_n C dX6_go_147 rfl 0 rfl ?_
    refine xv_get C hiX6 0 (wM0 g _) rfl 0 (by decide) (List.mem_of_getElem? (i := 2) rfl) rfl dX6_go_148 ?_
    refine xv_bipush C 8 dX6_go_151 (by decide) ?_
    refine xv_iald C 1 0 (wM1 g _) rfl (B := some ()) (w := ()) (by decide) dX6_go_153 (fun _ => ?_)
    exact xz_iw hret hf dX6_go_154
  have hL105 : ∀ (x1 : Int32)  (j : Nat) (x2 : Int32) (a : St), L_X6_go_105 n x1 j x2 a = some q → V K (sM g) 4 a [(0, .ref (aM g 0)), (1, .int x1), (2, .int x2)] 105 [] := by
    intro x1 j
    induction j with
    | zero =>
      intro x2 a hf
      have hf : (none : Option (Int32 × St)) = some q := hf
      cases hf
    | succ j ih =>
      intro x2 a hf
      rw [L_X6_go_105] at hf
      refine xv_iload_n C dX6_go_105 rfl 2 rfl ?_
      refine xv_aload_n C dX6_go_106 rfl 0 rfl ?_
      refine xv_get C hiX6 0 (wM0 g _) rfl 6 (by decide) (List.mem_of_getElem? (i := 3) rfl) rfl dX6_go_107 ?_
      refine xv_icmp_ge C 136 hf dX6_go_110 (by decide) (fun _ hf => ?_) (fun _ hf => ?_)
      · refine xv_eq [0, 1] rfl ?_
        exact hB136 x1 a hf
      · refine xv_aload_n C dX6_go_113 rfl 0 rfl ?_
        refine xv_get C hiX6 0 (wM0 g _) rfl 0 (by decide) (List.mem_of_getElem? (i := 2) rfl) rfl dX6_go_114 ?_
        refine xv_iload_n C dX6_go_117 rfl 2 rfl ?_
        refine xv_aload_n C dX6_go_118 rfl 0 rfl ?_
        refine xv_get C hiX6 0 (wM0 g _) rfl 17 (by decide) (List.mem_of_getElem? (i := 4) rfl) rfl dX6_go_119 ?_
        refine xv_bipush C 8 dX6_go_122 (by decide) ?_
        refine xv_iload_n C dX6_go_124 rfl 1 rfl ?_
        refine xv_imul C dX6_go_125 ?_
        refine xv_iload_n C dX6_go_126 rfl 2 rfl ?_
        refine xv_iadd C dX6_go_127 ?_
        refine xv_iald C 9 0 (wM9 g _) rfl hf dX6_go_128 (fun hf => ?_)
        refine xv_iast C 1 0 (wM1 g _) rfl (up a 1 x2.toNatClampNeg (a 9 ((((8 : Int32) * x1) + x2).toNatClampNeg))) (pM1 g _ _ _) hf dX6_go_129 (fun hf => ?_)
        refine xv_iinc C [(2, .int (x2 + 1)), (0, .ref (aM g 0)), (1, .int x1)] dX6_go_130 2 rfl rfl (by decide) rfl ?_
        refine xv_goto C 105 dX6_go_133 (by decide) ?_
        refine xv_eq [1, 2, 0] rfl ?_
        exact ih (x2 + 1) (up a 1 x2.toNatClampNeg (a 9 ((((8 : Int32) * x1) + x2).toNatClampNeg))) hf
  have hB103 : ∀ (x1 : Int32)  (a : St), B_X6_go_103 n x1 a = some q → V K (sM g) 4 a [(0, .ref (aM g 0)), (1, .int x1)] 103 [] := by
    intro x1 a hf
    rw [B_X6_go_103] at hf
    refine xv_iconst C 0 dX6_go_103 (by decide) ?_
    refine xv_istore_n C [(2, .int 0), (0, .ref (aM g 0)), (1, .int x1)] dX6_go_104 rfl (by decide) rfl ?_
    refine xv_eq [1, 2, 0] rfl ?_
    exact hL105 x1 n 0 a hf
  have hB97 : ∀ (x1 : Int32) (x2 : Int32) (k44 : Int32 → St → Option (Int32 × St)) (hk44 : ∀ (y2 : Int32) (b : St), k44 y2 b = some q → V K (sM g) 4 b [(0, .ref (aM g 0)), (1, .int x1), (2, .int y2)] 44 []) (a : St), B_X6_go_97 n k44 x1 x2 a = some q → V K (sM g) 4 a [(0, .ref (aM g 0)), (1, .int x1), (2, .int x2)] 97 [] := by
    intro x1 x2 k44 hk44 a hf
    rw [B_X6_go_97] at hf
    refine xv_iinc C [(2, .int (x2 + 1)), (0, .ref (aM g 0)), (1, .int x1)] dX6_go_97 2 rfl rfl (by decide) rfl ?_
    refine xv_goto C 44 dX6_go_100 (by decide) ?_
    refine xv_eq [1, 2, 0] rfl ?_
    exact hk44 (x2 + 1) a hf
  have hL51 : ∀ (x1 : Int32) (x2 : Int32) (k44 : Int32 → St → Option (Int32 × St)) (hk44 : ∀ (y2 : Int32) (b : St), k44 y2 b = some q → V K (sM g) 4 b [(0, .ref (aM g 0)), (1, .int x1), (2, .int y2)] 44 []) (j : Nat) (x3 : Int32) (a : St), L_X6_go_51 n k44 x1 x2 j x3 a = some q → V K (sM g) 4 a [(0, .ref (aM g 0)), (1, .int x1), (2, .int x2), (3, .int x3)] 51 [] := by
    intro x1 x2 k44 hk44 j
    induction j with
    | zero =>
      intro x3 a hf
      have hf : (none : Option (Int32 × St)) = some q := hf
      cases hf
    | succ j ih =>
      intro x3 a hf
      rw [L_X6_go_51] at hf
      refine xv_iload_n C dX6_go_51 rfl 3 rfl ?_
      refine xv_aload_n C dX6_go_52 rfl 0 rfl ?_
      refine xv_get C hiX6 0 (wM0 g _) rfl 6 (by decide) (List.mem_of_getElem? (i := 3) rfl) rfl dX6_go_53 ?_
      refine xv_icmp_ge C 97 hf dX6_go_56 (by decide) (fun _ hf => ?_) (fun _ hf => ?_)
      · refine xv_eq [0, 1, 2] rfl ?_
        exact hB97 x1 x2 k44 hk44 a hf
      · refine xv_aload_n C dX6_go_59 rfl 0 rfl ?_
        refine xv_get C hiX6 0 (wM0 g _) rfl 0 (by decide) (List.mem_of_getElem? (i := 2) rfl) rfl dX6_go_60 ?_
        refine xv_bipush C 9 dX6_go_63 (by decide) ?_
        refine xv_iload_n C dX6_go_65 rfl 3 rfl ?_
        refine xv_iadd C dX6_go_66 ?_
        refine xv_dup2 C dX6_go_67 rfl rfl ?_
        refine xv_iald C 1 0 (wM1 g _) rfl hf dX6_go_68 (fun hf => ?_)
        refine xv_aload_n C dX6_go_69 rfl 0 rfl ?_
        refine xv_get C hiX6 0 (wM0 g _) rfl 17 (by decide) (List.mem_of_getElem? (i := 4) rfl) rfl dX6_go_70 ?_
        refine xv_bipush C 8 dX6_go_73 (by decide) ?_
        refine xv_iload_n C dX6_go_75 rfl 2 rfl ?_
        refine xv_imul C dX6_go_76 ?_
        refine xv_iload_n C dX6_go_77 rfl 3 rfl ?_
        refine xv_iadd C dX6_go_78 ?_
        refine xv_iald C 9 0 (wM9 g _) rfl hf dX6_go_79 (fun hf => ?_)
        refine xv_iconst C (-1) dX6_go_80 (by decide) ?_
        refine xv_icmp_ne C 88 hf dX6_go_81 (by decide) (fun _ hf => ?_) (fun _ hf => ?_)
        · refine xv_iconst C 0 dX6_go_84 (by decide) ?_
          refine xv_goto C 89 dX6_go_85 (by decide) ?_
          refine xv_iadd C dX6_go_89 ?_
          refine xv_iast C 1 0 (wM1 g _) rfl (up a 1 (((9 : Int32) + x3).toNatClampNeg) ((a 1 (((9 : Int32) + x3).toNatClampNeg)) + 0)) (pM1 g _ _ _) hf dX6_go_90 (fun hf => ?_)
          refine xv_iinc C [(3, .int (x3 + 1)), (0, .ref (aM g 0)), (1, .int x1), (2, .int x2)] dX6_go_91 3 rfl rfl (by decide) rfl ?_
          refine xv_goto C 51 dX6_go_94 (by decide) ?_
          refine xv_eq [1, 2, 3, 0] rfl ?_
          exact ih (x3 + 1) (up a 1 (((9 : Int32) + x3).toNatClampNeg) ((a 1 (((9 : Int32) + x3).toNatClampNeg)) + 0)) hf
        · refine xv_iconst C 1 dX6_go_88 (by decide) ?_
          refine xv_iadd C dX6_go_89 ?_
          refine xv_iast C 1 0 (wM1 g _) rfl (up a 1 (((9 : Int32) + x3).toNatClampNeg) ((a 1 (((9 : Int32) + x3).toNatClampNeg)) + 1)) (pM1 g _ _ _) hf dX6_go_90 (fun hf => ?_)
          refine xv_iinc C [(3, .int (x3 + 1)), (0, .ref (aM g 0)), (1, .int x1), (2, .int x2)] dX6_go_91 3 rfl rfl (by decide) rfl ?_
          refine xv_goto C 51 dX6_go_94 (by decide) ?_
          refine xv_eq [1, 2, 3, 0] rfl ?_
          exact ih (x3 + 1) (up a 1 (((9 : Int32) + x3).toNatClampNeg) ((a 1 (((9 : Int32) + x3).toNatClampNeg)) + 1)) hf
  have hL44 : ∀ (x1 : Int32)  (j : Nat) (x2 : Int32) (a : St), L_X6_go_44 n x1 j x2 a = some q → V K (sM g) 4 a [(0, .ref (aM g 0)), (1, .int x1), (2, .int x2)] 44 [] := by
    intro x1 j
    induction j with
    | zero =>
      intro x2 a hf
      have hf : (none : Option (Int32 × St)) = some q := hf
      cases hf
    | succ j ih =>
      intro x2 a hf
      rw [L_X6_go_44] at hf
      refine xv_iload_n C dX6_go_44 rfl 2 rfl ?_
      refine xv_iload_n C dX6_go_45 rfl 1 rfl ?_
      refine xv_icmp_ge C 103 hf dX6_go_46 (by decide) (fun _ hf => ?_) (fun _ hf => ?_)
      · refine xv_eq [0, 1] rfl ?_
        exact hB103 x1 a hf
      · refine xv_iconst C 0 dX6_go_49 (by decide) ?_
        refine xv_istore_n C [(3, .int 0), (0, .ref (aM g 0)), (1, .int x1), (2, .int x2)] dX6_go_50 rfl (by decide) rfl ?_
        refine xv_eq [1, 2, 3, 0] rfl ?_
        exact hL51 x1 x2 (L_X6_go_44 n x1 j) ih n 0 a hf
  rw [f_X6_go] at hf
  show V K (sM g) 4 a [(0, .ref (aM g 0)), (1, .int x1)] 0 []
  refine xv_iload_n C dX6_go_0 rfl 1 rfl ?_
  refine xv_i2l C dX6_go_1 ?_
  refine xv_lconst C 1 dX6_go_2 (by decide) ?_
  refine xv_ldc2 C 99 dX6_go_3 (List.mem_of_getElem? (i := 1) rfl) ?_
  obtain ⟨q1, hg, hf⟩ := dt_bind hf
  refine xc_i (xr_S C (As := [.long x1.toInt64, .long 1, .long 99]) (fun l => c_X6_in (sM g) hS l x1.toInt64 1 99 a q1 hg) gX6_go_X6_in rfl ⟨rfl, rfl⟩ hdS_X6_in ⟨Nat.le_of_ble_eq_true rfl, Nat.le_of_ble_eq_true rfl⟩ rfl rfl (Nat.le_of_ble_eq_true rfl) dX6_go_6) ?_
  refine xv_if_ne C (y := 0) 15 hf dX6_go_9 (by decide) (fun _ hf => ?_) (fun _ hf => ?_)
  · refine xv_bipush C (-3) dX6_go_12 (by decide) ?_
    exact xz_iw hret hf dX6_go_14
  · refine xv_aload_n C dX6_go_15 rfl 0 rfl ?_
    refine xv_get C hiX6 0 (wM0 g _) rfl 0 (by decide) (List.mem_of_getElem? (i := 2) rfl) rfl dX6_go_16 ?_
    refine xv_bipush C 8 dX6_go_19 (by decide) ?_
    refine xv_iald C 1 0 (wM1 g _) rfl (B := some ()) (w := ()) (by decide) dX6_go_21 (fun _ => ?_)
    refine xv_iload_n C dX6_go_22 rfl 1 rfl ?_
    refine xv_iadd C dX6_go_23 ?_
    refine xv_sipush C 9999 dX6_go_24 (by decide) ?_
    refine xv_icmp_le C 33 hf dX6_go_27 (by decide) (fun _ hf => ?_) (fun _ hf => ?_)
    · refine xv_aload_n C dX6_go_33 rfl 0 rfl ?_
      refine xv_iload_n C dX6_go_34 rfl 1 rfl ?_
      refine xv_aload_n C dX6_go_35 rfl 0 rfl ?_
      obtain ⟨q2, hg, hf⟩ := dt_bind hf
      refine xc_i (xr_V C (ci := 6) (As := []) (fun l => c_X6_forbiddenNow g hS l n a q2 hg) gX6_go_X6_forbiddenNow rfl ⟨rfl, rfl⟩ hdV_X6_forbiddenNow ⟨Nat.le_of_ble_eq_true rfl, Nat.le_of_ble_eq_true rfl⟩ 0 rfl rfl (wM0 g _) rfl rfl (Nat.le_of_ble_eq_true rfl) dX6_go_36) ?_
      obtain ⟨q3, hg, hf⟩ := dt_bind hf
      refine xc_v (xr_V C (ci := 6) (As := [.int x1, .int q2]) (fun l => c_X6_layDays g hS l n x1 q2 a q3 hg) gX6_go_X6_layDays rfl ⟨rfl, rfl⟩ hdV_X6_layDays ⟨Nat.le_of_ble_eq_true rfl, Nat.le_of_ble_eq_true rfl⟩ 0 rfl rfl (wM0 g _) rfl rfl (Nat.le_of_ble_eq_true rfl) dX6_go_39) ?_
      refine xv_iconst C 0 dX6_go_42 (by decide) ?_
      refine xv_istore_n C [(2, .int 0), (0, .ref (aM g 0)), (1, .int x1)] dX6_go_43 rfl (by decide) rfl ?_
      refine xv_eq [1, 2, 0] rfl ?_
      exact hL44 x1 n 0 q3 hf
    · refine xv_bipush C (-5) dX6_go_30 (by decide) ?_
      exact xz_iw hret hf dX6_go_32
set_option maxRecDepth 100000 in
set_option maxHeartbeats 4000000 in
theorem c_X6_isTime (S : SID) (hS : xSide S) (l : Launch) (x0 : Int32) (a : St) (q : Int32) (hf : f_X6_isTime x0 = some q) : Met l yX6_isTime wsX6_isTime rm_X6_isTime (xPre S [.int x0] a) (xPostI S q a) 0 0 S.2.2.1 := by
  refine xm_z (av := [.int x0]) (cc := cX6_isTime) (maxL := 1) (by decide) rfl (Nat.le_of_ble_eq_true rfl) hS.1 hS.2 (fun K C hret => ?_)
  have C : CC K S cX6_isTime 1 wsX6_isTime RX6 rm_X6_isTime := C
  rw [f_X6_isTime] at hf
  show V K S 1 a [(0, .int x0)] 0 []
  refine xv_iload_n C dX6_isTime_0 rfl 0 rfl ?_
  refine xv_i2l C dX6_isTime_1 ?_
  refine xv_lconst C 0 dX6_isTime_2 (by decide) ?_
  refine xv_ldc2 C 99 dX6_isTime_3 (List.mem_of_getElem? (i := 1) rfl) ?_
  obtain ⟨q1, hg, hf⟩ := dt_bind hf
  refine xc_i (xr_S C (As := [.long x0.toInt64, .long 0, .long 99]) (fun l => c_X6_in S hS l x0.toInt64 0 99 a q1 hg) gX6_isTime_X6_in rfl ⟨rfl, rfl⟩ hdS_X6_in ⟨Nat.le_of_ble_eq_true rfl, Nat.le_of_ble_eq_true rfl⟩ rfl rfl (Nat.le_of_ble_eq_true rfl) dX6_isTime_6) ?_
  exact xz_zgr hret hf dX6_isTime_9
set_option maxRecDepth 100000 in
set_option maxHeartbeats 4000000 in
theorem c_X6_later (g : GM) (hS : xSide (sM g)) (l : Launch) (n : Nat) (x1 : Int32) (x2 : Int32) (a : St) (q : (Int32 × St)) (hf : f_X6_later n x1 x2 a = some q) : Met l yX6_later wsX6_later rm_X6_later (xPre (sM g) [.ref (aM g 0), .int x1, .int x2] a) (xPostI (sM g) q.1 q.2) 0 0 (sM g).2.2.1 := by
  refine xm_i (av := [.ref (aM g 0), .int x1, .int x2]) (cc := cX6_later) (maxL := 3) (by decide) rfl (Nat.le_of_ble_eq_true rfl) hS.1 hS.2 (fun K C hret => ?_)
  have C : CC K (sM g) cX6_later 3 wsX6_later RX6 rm_X6_later := C
  have hiX6 : ∀ w ∈ u_ws RX6 TX6 26, w ∈ wsX6_later := fun w h => List.mem_cons_of_mem _ (List.mem_append_right _ h)
  rw [f_X6_later] at hf
  show V K (sM g) 3 a [(0, .ref (aM g 0)), (1, .int x1), (2, .int x2)] 0 []
  refine xv_aload_n C dX6_later_0 rfl 0 rfl ?_
  refine xv_iload_n C dX6_later_1 rfl 1 rfl ?_
  obtain ⟨q1, hg, hf⟩ := dt_bind hf
  refine xc_i (xr_V C (ci := 6) (As := [.int x1]) (fun l => c_X6_isHouse g hS l x1 a q1 hg) gX6_later_X6_isHouse rfl ⟨rfl, rfl⟩ hdV_X6_isHouse ⟨Nat.le_of_ble_eq_true rfl, Nat.le_of_ble_eq_true rfl⟩ 0 rfl rfl (wM0 g _) rfl rfl (Nat.le_of_ble_eq_true rfl) dX6_later_2) ?_
  refine xv_if_ne C (y := 0) 11 hf dX6_later_5 (by decide) (fun _ hf => ?_) (fun _ hf => ?_)
  · refine xv_bipush C (-2) dX6_later_8 (by decide) ?_
    exact xz_iw hret hf dX6_later_10
  · refine xv_iload_n C dX6_later_11 rfl 2 rfl ?_
    obtain ⟨q2, hg, hf⟩ := dt_bind hf
    refine xc_i (xr_S C (As := [.int x2]) (fun l => c_X6_isTime (sM g) hS l x2 a q2 hg) gX6_later_X6_isTime rfl ⟨rfl, rfl⟩ hdS_X6_isTime ⟨Nat.le_of_ble_eq_true rfl, Nat.le_of_ble_eq_true rfl⟩ rfl rfl (Nat.le_of_ble_eq_true rfl) dX6_later_12) ?_
    refine xv_if_ne C (y := 0) 21 hf dX6_later_15 (by decide) (fun _ hf => ?_) (fun _ hf => ?_)
    · refine xv_bipush C (-3) dX6_later_18 (by decide) ?_
      exact xz_iw hret hf dX6_later_20
    · refine xv_aload_n C dX6_later_21 rfl 0 rfl ?_
      refine xv_iload_n C dX6_later_22 rfl 2 rfl ?_
      refine xv_aload_n C dX6_later_23 rfl 0 rfl ?_
      obtain ⟨q3, hg, hf⟩ := dt_bind hf
      refine xc_i (xr_V C (ci := 6) (As := []) (fun l => c_X6_forbiddenNow g hS l n a q3 hg) gX6_later_X6_forbiddenNow rfl ⟨rfl, rfl⟩ hdV_X6_forbiddenNow ⟨Nat.le_of_ble_eq_true rfl, Nat.le_of_ble_eq_true rfl⟩ 0 rfl rfl (wM0 g _) rfl rfl (Nat.le_of_ble_eq_true rfl) dX6_later_24) ?_
      obtain ⟨q4, hg, hf⟩ := dt_bind hf
      refine xc_v (xr_V C (ci := 6) (As := [.int x2, .int q3]) (fun l => c_X6_layDays g hS l n x2 q3 a q4 hg) gX6_later_X6_layDays rfl ⟨rfl, rfl⟩ hdV_X6_layDays ⟨Nat.le_of_ble_eq_true rfl, Nat.le_of_ble_eq_true rfl⟩ 0 rfl rfl (wM0 g _) rfl rfl (Nat.le_of_ble_eq_true rfl) dX6_later_27) ?_
      refine xv_aload_n C dX6_later_30 rfl 0 rfl ?_
      refine xv_get C hiX6 0 (wM0 g _) rfl 17 (by decide) (List.mem_of_getElem? (i := 1) rfl) rfl dX6_later_31 ?_
      refine xv_bipush C 8 dX6_later_34 (by decide) ?_
      refine xv_iload_n C dX6_later_36 rfl 2 rfl ?_
      refine xv_imul C dX6_later_37 ?_
      refine xv_iload_n C dX6_later_38 rfl 1 rfl ?_
      refine xv_iadd C dX6_later_39 ?_
      refine xv_iald C 9 0 (wM9 g _) rfl hf dX6_later_40 (fun hf => ?_)
      exact xz_iw hret hf dX6_later_41
set_option maxRecDepth 100000 in
set_option maxHeartbeats 4000000 in
theorem c_X6_areAlike (g : GM) (hS : xSide (sM g)) (l : Launch) (n : Nat) (x1 : Int32) (x2 : Int32) (a : St) (q : Int32) (hf : f_X6_areAlike n x1 x2 a = some q) : Met l yX6_areAlike wsX6_areAlike rm_X6_areAlike (xPre (sM g) [.ref (aM g 0), .int x1, .int x2] a) (xPostI (sM g) q a) 0 0 (sM g).2.2.1 := by
  refine xm_z (av := [.ref (aM g 0), .int x1, .int x2]) (cc := cX6_areAlike) (maxL := 5) (by decide) rfl (Nat.le_of_ble_eq_true rfl) hS.1 hS.2 (fun K C hret => ?_)
  have C : CC K (sM g) cX6_areAlike 5 wsX6_areAlike RX6 rm_X6_areAlike := C
  have hiX6 : ∀ w ∈ u_ws RX6 TX6 26, w ∈ wsX6_areAlike := fun w h => List.mem_cons_of_mem _ (List.mem_append_right _ h)
  have hL5 : ∀ (x1 : Int32) (x2 : Int32)  (j : Nat) (x3 : Int32) (x4 : Int32), L_X6_areAlike_5 n x1 x2 a j x3 x4 = some q → V K (sM g) 5 a [(0, .ref (aM g 0)), (1, .int x1), (2, .int x2), (3, .int x3), (4, .int x4)] 5 [] := by
    intro x1 x2 j
    induction j with
    | zero =>
      intro x3 x4 hf
      have hf : (none : Option Int32) = some q := hf
      cases hf
    | succ j ih =>
      intro x3 x4 hf
      rw [L_X6_areAlike_5] at hf
      refine xv_iload C dX6_areAlike_5 4 rfl ?_
      refine xv_aload_n C dX6_areAlike_7 rfl 0 rfl ?_
      refine xv_get C hiX6 0 (wM0 g _) rfl 6 (by decide) (List.mem_of_getElem? (i := 1) rfl) rfl dX6_areAlike_8 ?_
      refine xv_icmp_ge C 57 hf dX6_areAlike_11 (by decide) (fun _ hf => ?_) (fun _ hf => ?_)
      · refine xv_iload_n C dX6_areAlike_57 rfl 3 rfl ?_
        exact xz_zgr hret hf dX6_areAlike_58
      · refine xv_iload_n C dX6_areAlike_14 rfl 3 rfl ?_
        refine xv_if_eq C (y := 0) 49 hf dX6_areAlike_15 (by decide) (fun _ hf => ?_) (fun _ hf => ?_)
        · refine xv_iconst C 0 dX6_areAlike_49 (by decide) ?_
          refine xv_istore_n C [(3, .int 0), (0, .ref (aM g 0)), (1, .int x1), (2, .int x2), (4, .int x4)] dX6_areAlike_50 rfl (by decide) rfl ?_
          refine xv_iinc C [(4, .int (x4 + 1)), (3, .int 0), (0, .ref (aM g 0)), (1, .int x1), (2, .int x2)] dX6_areAlike_51 4 rfl rfl (by decide) rfl ?_
          refine xv_goto C 5 dX6_areAlike_54 (by decide) ?_
          refine xv_eq [2, 3, 4, 1, 0] rfl ?_
          exact ih 0 (x4 + 1) hf
        · refine xv_aload_n C dX6_areAlike_18 rfl 0 rfl ?_
          refine xv_get C hiX6 0 (wM0 g _) rfl 17 (by decide) (List.mem_of_getElem? (i := 2) rfl) rfl dX6_areAlike_19 ?_
          refine xv_bipush C 8 dX6_areAlike_22 (by decide) ?_
          refine xv_iload_n C dX6_areAlike_24 rfl 1 rfl ?_
          refine xv_imul C dX6_areAlike_25 ?_
          refine xv_iload C dX6_areAlike_26 4 rfl ?_
          refine xv_iadd C dX6_areAlike_28 ?_
          refine xv_iald C 9 0 (wM9 g _) rfl hf dX6_areAlike_29 (fun hf => ?_)
          refine xv_aload_n C dX6_areAlike_30 rfl 0 rfl ?_
          refine xv_get C hiX6 0 (wM0 g _) rfl 17 (by decide) (List.mem_of_getElem? (i := 2) rfl) rfl dX6_areAlike_31 ?_
          refine xv_bipush C 8 dX6_areAlike_34 (by decide) ?_
          refine xv_iload_n C dX6_areAlike_36 rfl 2 rfl ?_
          refine xv_imul C dX6_areAlike_37 ?_
          refine xv_iload C dX6_areAlike_38 4 rfl ?_
          refine xv_iadd C dX6_areAlike_40 ?_
          refine xv_iald C 9 0 (wM9 g _) rfl hf dX6_areAlike_41 (fun hf => ?_)
          refine xv_icmp_ne C 49 hf dX6_areAlike_42 (by decide) (fun _ hf => ?_) (fun _ hf => ?_)
          · refine xv_iconst C 1 dX6_areAlike_45 (by decide) ?_
            refine xv_goto C 50 dX6_areAlike_46 (by decide) ?_
            refine xv_istore_n C [(3, .int 1), (0, .ref (aM g 0)), (1, .int x1), (2, .int x2), (4, .int x4)] dX6_areAlike_50 rfl (by decide) rfl ?_
            refine xv_iinc C [(4, .int (x4 + 1)), (3, .int 1), (0, .ref (aM g 0)), (1, .int x1), (2, .int x2)] dX6_areAlike_51 4 rfl rfl (by decide) rfl ?_
            refine xv_goto C 5 dX6_areAlike_54 (by decide) ?_
            refine xv_eq [2, 3, 4, 1, 0] rfl ?_
            exact ih 1 (x4 + 1) hf
          · refine xv_iconst C 0 dX6_areAlike_49 (by decide) ?_
            refine xv_istore_n C [(3, .int 0), (0, .ref (aM g 0)), (1, .int x1), (2, .int x2), (4, .int x4)] dX6_areAlike_50 rfl (by decide) rfl ?_
            refine xv_iinc C [(4, .int (x4 + 1)), (3, .int 0), (0, .ref (aM g 0)), (1, .int x1), (2, .int x2)] dX6_areAlike_51 4 rfl rfl (by decide) rfl ?_
            refine xv_goto C 5 dX6_areAlike_54 (by decide) ?_
            refine xv_eq [2, 3, 4, 1, 0] rfl ?_
            exact ih 0 (x4 + 1) hf
  rw [f_X6_areAlike] at hf
  show V K (sM g) 5 a [(0, .ref (aM g 0)), (1, .int x1), (2, .int x2)] 0 []
  refine xv_iconst C 1 dX6_areAlike_0 (by decide) ?_
  refine xv_istore_n C [(3, .int 1), (0, .ref (aM g 0)), (1, .int x1), (2, .int x2)] dX6_areAlike_1 rfl (by decide) rfl ?_
  refine xv_iconst C 0 dX6_areAlike_2 (by decide) ?_
  refine xv_istore C [(4, .int 0), (3, .int 1), (0, .ref (aM g 0)), (1, .int x1), (2, .int x2)] dX6_areAlike_3 (by decide) rfl ?_
  refine xv_eq [2, 3, 4, 1, 0] rfl ?_
  exact hL5 x1 x2 n 1 0 hf
set_option maxRecDepth 100000 in
set_option maxHeartbeats 4000000 in
theorem c_X6_again (g : GM) (hS : xSide (sM g)) (l : Launch) (n : Nat) (x1 : Int32) (a : St) (q : (Int32 × St)) (hf : f_X6_again n x1 a = some q) : Met l yX6_again wsX6_again rm_X6_again (xPre (sM g) [.ref (aM g 0), .int x1] a) (xPostI (sM g) q.1 q.2) 0 0 (sM g).2.2.1 := by
  refine xm_i (av := [.ref (aM g 0), .int x1]) (cc := cX6_again) (maxL := 4) (by decide) rfl (Nat.le_of_ble_eq_true rfl) hS.1 hS.2 (fun K C hret => ?_)
  have C : CC K (sM g) cX6_again 4 wsX6_again RX6 rm_X6_again := C
  have hB67 : ∀ (x1 : Int32) (x2 : Int32) (k26 : Int32 → St → Option (Int32 × St)) (hk26 : ∀ (y2 : Int32) (b : St), k26 y2 b = some q → V K (sM g) 4 b [(0, .ref (aM g 0)), (1, .int x1), (2, .int y2)] 26 []) (a : St), B_X6_again_67 n k26 x1 x2 a = some q → V K (sM g) 4 a [(0, .ref (aM g 0)), (1, .int x1), (2, .int x2)] 67 [] := by
    intro x1 x2 k26 hk26 a hf
    rw [B_X6_again_67] at hf
    refine xv_iinc C [(2, .int (x2 + 1)), (0, .ref (aM g 0)), (1, .int x1)] dX6_again_67 2 rfl rfl (by decide) rfl ?_
    refine xv_goto C 26 dX6_again_70 (by decide) ?_
    refine xv_eq [1, 2, 0] rfl ?_
    exact hk26 (x2 + 1) a hf
  have hB51 : ∀ (x1 : Int32) (x2 : Int32) (x3 : Int32)  (a : St), B_X6_again_51 n x1 x2 x3 a = some q → V K (sM g) 4 a [(1, .int x1), (2, .int x2), (3, .int x3)] 51 [] := by
    intro x1 x2 x3 a hf
    rw [B_X6_again_51] at hf
    refine xv_iload_n C dX6_again_51 rfl 0 rfl ?_
    refine xv_if_ne C (y := 0) 59 hf dX6_again_52 (by decide) (fun _ hf => ?_) (fun _ hf => ?_)
    · refine xv_iload_n C dX6_again_55 rfl 1 rfl ?_
      refine xv_goto C 60 dX6_again_56 (by decide) ?_
      exact xz_iw hret hf dX6_again_60
    · refine xv_iload_n C dX6_again_59 rfl 2 rfl ?_
      exact xz_iw hret hf dX6_again_60
  have hL34 : ∀ (x1 : Int32) (x2 : Int32) (k26 : Int32 → St → Option (Int32 × St)) (hk26 : ∀ (y2 : Int32) (b : St), k26 y2 b = some q → V K (sM g) 4 b [(0, .ref (aM g 0)), (1, .int x1), (2, .int y2)] 26 []) (j : Nat) (x3 : Int32) (a : St), L_X6_again_34 n k26 x1 x2 j x3 a = some q → V K (sM g) 4 a [(0, .ref (aM g 0)), (1, .int x1), (2, .int x2), (3, .int x3)] 34 [] := by
    intro x1 x2 k26 hk26 j
    induction j with
    | zero =>
      intro x3 a hf
      have hf : (none : Option (Int32 × St)) = some q := hf
      cases hf
    | succ j ih =>
      intro x3 a hf
      rw [L_X6_again_34] at hf
      refine xv_iload_n C dX6_again_34 rfl 3 rfl ?_
      refine xv_bipush C 70 dX6_again_35 (by decide) ?_
      refine xv_icmp_ge C 67 hf dX6_again_37 (by decide) (fun _ hf => ?_) (fun _ hf => ?_)
      · refine xv_eq [0, 1, 2] rfl ?_
        exact hB67 x1 x2 k26 hk26 a hf
      · refine xv_aload_n C dX6_again_40 rfl 0 rfl ?_
        refine xv_iload_n C dX6_again_41 rfl 2 rfl ?_
        refine xv_iload_n C dX6_again_42 rfl 2 rfl ?_
        refine xv_iload_n C dX6_again_43 rfl 3 rfl ?_
        refine xv_iadd C dX6_again_44 ?_
        obtain ⟨q4, hg, hf⟩ := dt_bind hf
        refine xc_i (xr_V C (ci := 6) (As := [.int x2, .int (x2 + x3)]) (fun l => c_X6_areAlike g hS l n x2 (x2 + x3) a q4 hg) gX6_again_X6_areAlike rfl ⟨rfl, rfl⟩ hdV_X6_areAlike ⟨Nat.le_of_ble_eq_true rfl, Nat.le_of_ble_eq_true rfl⟩ 0 rfl rfl (wM0 g _) rfl rfl (Nat.le_of_ble_eq_true rfl) dX6_again_45) ?_
        refine xv_if_eq C (y := 0) 61 hf dX6_again_48 (by decide) (fun _ hf => ?_) (fun _ hf => ?_)
        · refine xv_iinc C [(3, .int (x3 + 1)), (0, .ref (aM g 0)), (1, .int x1), (2, .int x2)] dX6_again_61 3 rfl rfl (by decide) rfl ?_
          refine xv_goto C 34 dX6_again_64 (by decide) ?_
          refine xv_eq [1, 2, 3, 0] rfl ?_
          exact ih (x3 + 1) a hf
        · refine xv_eq [1, 2, 3] rfl ?_
          exact hB51 x1 x2 x3 a hf
  have hL26 : ∀ (x1 : Int32)  (j : Nat) (x2 : Int32) (a : St), L_X6_again_26 n x1 j x2 a = some q → V K (sM g) 4 a [(0, .ref (aM g 0)), (1, .int x1), (2, .int x2)] 26 [] := by
    intro x1 j
    induction j with
    | zero =>
      intro x2 a hf
      have hf : (none : Option (Int32 × St)) = some q := hf
      cases hf
    | succ j ih =>
      intro x2 a hf
      rw [L_X6_again_26] at hf
      refine xv_iload_n C dX6_again_26 rfl 2 rfl ?_
      refine xv_bipush C 70 dX6_again_27 (by decide) ?_
      refine xv_icmp_ge C 73 hf dX6_again_29 (by decide) (fun _ hf => ?_) (fun _ hf => ?_)
      · refine xv_iconst C (-1) dX6_again_73 (by decide) ?_
        exact xz_iw hret hf dX6_again_74
      · refine xv_iconst C 1 dX6_again_32 (by decide) ?_
        refine xv_istore_n C [(3, .int 1), (0, .ref (aM g 0)), (1, .int x1), (2, .int x2)] dX6_again_33 rfl (by decide) rfl ?_
        refine xv_eq [1, 2, 3, 0] rfl ?_
        exact hL34 x1 x2 (L_X6_again_26 n x1 j) ih n 1 a hf
  rw [f_X6_again] at hf
  show V K (sM g) 4 a [(0, .ref (aM g 0)), (1, .int x1)] 0 []
  refine xv_iload_n C dX6_again_0 rfl 1 rfl ?_
  refine xv_i2l C dX6_again_1 ?_
  refine xv_lconst C 0 dX6_again_2 (by decide) ?_
  refine xv_lconst C 1 dX6_again_3 (by decide) ?_
  obtain ⟨q1, hg, hf⟩ := dt_bind hf
  refine xc_i (xr_S C (As := [.long x1.toInt64, .long 0, .long 1]) (fun l => c_X6_in (sM g) hS l x1.toInt64 0 1 a q1 hg) gX6_again_X6_in rfl ⟨rfl, rfl⟩ hdS_X6_in ⟨Nat.le_of_ble_eq_true rfl, Nat.le_of_ble_eq_true rfl⟩ rfl rfl (Nat.le_of_ble_eq_true rfl) dX6_again_4) ?_
  refine xv_if_ne C (y := 0) 13 hf dX6_again_7 (by decide) (fun _ hf => ?_) (fun _ hf => ?_)
  · refine xv_bipush C (-3) dX6_again_10 (by decide) ?_
    exact xz_iw hret hf dX6_again_12
  · refine xv_aload_n C dX6_again_13 rfl 0 rfl ?_
    refine xv_sipush C 150 dX6_again_14 (by decide) ?_
    refine xv_aload_n C dX6_again_17 rfl 0 rfl ?_
    obtain ⟨q2, hg, hf⟩ := dt_bind hf
    refine xc_i (xr_V C (ci := 6) (As := []) (fun l => c_X6_forbiddenNow g hS l n a q2 hg) gX6_again_X6_forbiddenNow rfl ⟨rfl, rfl⟩ hdV_X6_forbiddenNow ⟨Nat.le_of_ble_eq_true rfl, Nat.le_of_ble_eq_true rfl⟩ 0 rfl rfl (wM0 g _) rfl rfl (Nat.le_of_ble_eq_true rfl) dX6_again_18) ?_
    obtain ⟨q3, hg, hf⟩ := dt_bind hf
    refine xc_v (xr_V C (ci := 6) (As := [.int 150, .int q2]) (fun l => c_X6_layDays g hS l n 150 q2 a q3 hg) gX6_again_X6_layDays rfl ⟨rfl, rfl⟩ hdV_X6_layDays ⟨Nat.le_of_ble_eq_true rfl, Nat.le_of_ble_eq_true rfl⟩ 0 rfl rfl (wM0 g _) rfl rfl (Nat.le_of_ble_eq_true rfl) dX6_again_21) ?_
    refine xv_iconst C 0 dX6_again_24 (by decide) ?_
    refine xv_istore_n C [(2, .int 0), (0, .ref (aM g 0)), (1, .int x1)] dX6_again_25 rfl (by decide) rfl ?_
    refine xv_eq [1, 2, 0] rfl ?_
    exact hL26 x1 n 0 q3 hf
set_option maxRecDepth 100000 in
set_option maxHeartbeats 4000000 in
theorem c_X6_wayEnd (g : GM) (hS : xSide (sM g)) (l : Launch) (n : Nat) (x1 : Int32) (x2 : Int32) (a : St) (q : Int32) (hf : f_X6_wayEnd n x1 x2 a = some q) : Met l yX6_wayEnd wsX6_wayEnd rm_X6_wayEnd (xPre (sM g) [.ref (aM g 0), .int x1, .int x2] a) (xPostI (sM g) q a) 0 0 (sM g).2.2.1 := by
  refine xm_i (av := [.ref (aM g 0), .int x1, .int x2]) (cc := cX6_wayEnd) (maxL := 5) (by decide) rfl (Nat.le_of_ble_eq_true rfl) hS.1 hS.2 (fun K C hret => ?_)
  have C : CC K (sM g) cX6_wayEnd 5 wsX6_wayEnd RX6 rm_X6_wayEnd := C
  have hiX6 : ∀ w ∈ u_ws RX6 TX6 26, w ∈ wsX6_wayEnd := fun w h => List.mem_cons_of_mem _ (List.mem_append_right _ h)
  have hL5 : ∀ (x2 : Int32)  (j : Nat) (x3 : Int32) (x4 : Int32), L_X6_wayEnd_5 n x2 a j x3 x4 = some q → V K (sM g) 5 a [(0, .ref (aM g 0)), (2, .int x2), (3, .int x3), (4, .int x4)] 5 [] := by
    intro x2 j
    induction j with
    | zero =>
      intro x3 x4 hf
      have hf : (none : Option Int32) = some q := hf
      cases hf
    | succ j ih =>
      intro x3 x4 hf
      rw [L_X6_wayEnd_5] at hf
      refine xv_iload C dX6_wayEnd_5 3 rfl ?_
      refine xv_iload_n C dX6_wayEnd_7 rfl 1 rfl ?_
      refine xv_icmp_ge C 29 hf dX6_wayEnd_8 (by decide) (fun _ hf => ?_) (fun _ hf => ?_)
      · refine xv_iload_n C dX6_wayEnd_29 rfl 2 rfl ?_
        exact xz_ir hret hf dX6_wayEnd_30
      · refine xv_iload_n C dX6_wayEnd_11 rfl 2 rfl ?_
        refine xv_iconst C (-1) dX6_wayEnd_12 (by decide) ?_
        refine xv_icmp_eq C 29 hf dX6_wayEnd_13 (by decide) (fun _ hf => ?_) (fun _ hf => ?_)
        · refine xv_iload_n C dX6_wayEnd_29 rfl 2 rfl ?_
          exact xz_ir hret hf dX6_wayEnd_30
        · refine xv_aload_n C dX6_wayEnd_16 rfl 0 rfl ?_
          refine xv_get C hiX6 0 (wM0 g _) rfl 7 (by decide) (List.mem_of_getElem? (i := 1) rfl) rfl dX6_wayEnd_17 ?_
          refine xv_iload_n C dX6_wayEnd_20 rfl 2 rfl ?_
          refine xv_iald C 5 0 (wM5 g _) rfl hf dX6_wayEnd_21 (fun hf => ?_)
          refine xv_istore_n C [(3, .int (a 5 x3.toNatClampNeg)), (0, .ref (aM g 0)), (2, .int x2), (4, .int x4)] dX6_wayEnd_22 rfl (by decide) rfl ?_
          refine xv_iinc C [(4, .int (x4 + 1)), (3, .int (a 5 x3.toNatClampNeg)), (0, .ref (aM g 0)), (2, .int x2)] dX6_wayEnd_23 3 rfl rfl (by decide) rfl ?_
          refine xv_goto C 5 dX6_wayEnd_26 (by decide) ?_
          refine xv_eq [2, 3, 1, 0] rfl ?_
          exact ih (a 5 x3.toNatClampNeg) (x4 + 1) hf
  rw [f_X6_wayEnd] at hf
  show V K (sM g) 5 a [(0, .ref (aM g 0)), (1, .int x1), (2, .int x2)] 0 []
  refine xv_iload_n C dX6_wayEnd_0 rfl 1 rfl ?_
  refine xv_istore_n C [(3, .int x1), (0, .ref (aM g 0)), (1, .int x1), (2, .int x2)] dX6_wayEnd_1 rfl (by decide) rfl ?_
  refine xv_iconst C 0 dX6_wayEnd_2 (by decide) ?_
  refine xv_istore C [(4, .int 0), (3, .int x1), (0, .ref (aM g 0)), (1, .int x1), (2, .int x2)] dX6_wayEnd_3 (by decide) rfl ?_
  refine xv_eq [2, 4, 1, 0] rfl ?_
  exact hL5 x2 n x1 0 hf
set_option maxRecDepth 100000 in
set_option maxHeartbeats 4000000 in
theorem c_X6_canAll (g : GM) (hS : xSide (sM g)) (l : Launch) (n : Nat) (x1 : Int32) (x2 : Int32) (x3 : Int32) (a : St) (q : Int32) (hf : f_X6_canAll n x1 x2 x3 a = some q) : Met l yX6_canAll wsX6_canAll rm_X6_canAll (xPre (sM g) [.ref (aM g 0), .int x1, .int x2, .int x3] a) (xPostI (sM g) q a) 0 0 (sM g).2.2.1 := by
  refine xm_z (av := [.ref (aM g 0), .int x1, .int x2, .int x3]) (cc := cX6_canAll) (maxL := 7) (by decide) rfl (Nat.le_of_ble_eq_true rfl) hS.1 hS.2 (fun K C hret => ?_)
  have C : CC K (sM g) cX6_canAll 7 wsX6_canAll RX6 rm_X6_canAll := C
  have hiX6 : ∀ w ∈ u_ws RX6 TX6 26, w ∈ wsX6_canAll := fun w h => List.mem_cons_of_mem _ (List.mem_append_right _ h)
  have hL14 : ∀ (x2 : Int32) (x3 : Int32)  (j : Nat) (x4 : Int32) (x5 : Int32) (x6 : Int32), L_X6_canAll_14 n x2 x3 a j x4 x5 x6 = some q → V K (sM g) 7 a [(0, .ref (aM g 0)), (2, .int x2), (3, .int x3), (4, .int x4), (5, .int x5), (6, .int x6)] 14 [] := by
    intro x2 x3 j
    induction j with
    | zero =>
      intro x4 x5 x6 hf
      have hf : (none : Option Int32) = some q := hf
      cases hf
    | succ j ih =>
      intro x4 x5 x6 hf
      rw [L_X6_canAll_14] at hf
      refine xv_iload C dX6_canAll_14 5 rfl ?_
      refine xv_iload_n C dX6_canAll_16 rfl 1 rfl ?_
      refine xv_icmp_ge C 57 hf dX6_canAll_17 (by decide) (fun _ hf => ?_) (fun _ hf => ?_)
      · refine xv_iload C dX6_canAll_57 4 rfl ?_
        exact xz_zgr hret hf dX6_canAll_59
      · refine xv_aload_n C dX6_canAll_20 rfl 0 rfl ?_
        refine xv_get C hiX6 0 (wM0 g _) rfl 7 (by decide) (List.mem_of_getElem? (i := 1) rfl) rfl dX6_canAll_21 ?_
        refine xv_iload C dX6_canAll_24 3 rfl ?_
        refine xv_iald C 5 0 (wM5 g _) rfl hf dX6_canAll_26 (fun hf => ?_)
        refine xv_istore C [(4, .int (a 5 x4.toNatClampNeg)), (0, .ref (aM g 0)), (2, .int x2), (3, .int x3), (5, .int x5), (6, .int x6)] dX6_canAll_27 (by decide) rfl ?_
        refine xv_iload C dX6_canAll_29 4 rfl ?_
        refine xv_if_eq C (y := 0) 48 hf dX6_canAll_31 (by decide) (fun _ hf => ?_) (fun _ hf => ?_)
        · refine xv_iconst C 0 dX6_canAll_48 (by decide) ?_
          refine xv_istore C [(5, .int 0), (4, .int (a 5 x4.toNatClampNeg)), (0, .ref (aM g 0)), (2, .int x2), (3, .int x3), (6, .int x6)] dX6_canAll_49 (by decide) rfl ?_
          refine xv_iinc C [(6, .int (x6 + 1)), (5, .int 0), (4, .int (a 5 x4.toNatClampNeg)), (0, .ref (aM g 0)), (2, .int x2), (3, .int x3)] dX6_canAll_51 5 rfl rfl (by decide) rfl ?_
          refine xv_goto C 14 dX6_canAll_54 (by decide) ?_
          refine xv_eq [3, 4, 5, 2, 1, 0] rfl ?_
          exact ih (a 5 x4.toNatClampNeg) 0 (x6 + 1) hf
        · refine xv_aload_n C dX6_canAll_34 rfl 1 rfl ?_
          refine xv_iload C dX6_canAll_35 0 rfl ?_
          refine xv_iload_n C dX6_canAll_37 rfl 3 rfl ?_
          obtain ⟨q2, hg, hf⟩ := dt_bind hf
          refine xc_i (xr_V C (ci := 6) (As := [.int (a 5 x4.toNatClampNeg), .int x3]) (fun l => c_X6_can g hS l n (a 5 x4.toNatClampNeg) x3 a q2 hg) gX6_canAll_X6_can rfl ⟨rfl, rfl⟩ hdV_X6_can ⟨Nat.le_of_ble_eq_true rfl, Nat.le_of_ble_eq_true rfl⟩ 0 rfl rfl (wM0 g _) rfl rfl (Nat.le_of_ble_eq_true rfl) dX6_canAll_38) ?_
          refine xv_if_eq C (y := 0) 48 hf dX6_canAll_41 (by decide) (fun _ hf => ?_) (fun _ hf => ?_)
          · refine xv_iconst C 0 dX6_canAll_48 (by decide) ?_
            refine xv_istore C [(5, .int 0), (4, .int (a 5 x4.toNatClampNeg)), (0, .ref (aM g 0)), (2, .int x2), (3, .int x3), (6, .int x6)] dX6_canAll_49 (by decide) rfl ?_
            refine xv_iinc C [(6, .int (x6 + 1)), (5, .int 0), (4, .int (a 5 x4.toNatClampNeg)), (0, .ref (aM g 0)), (2, .int x2), (3, .int x3)] dX6_canAll_51 5 rfl rfl (by decide) rfl ?_
            refine xv_goto C 14 dX6_canAll_54 (by decide) ?_
            refine xv_eq [3, 4, 5, 2, 1, 0] rfl ?_
            exact ih (a 5 x4.toNatClampNeg) 0 (x6 + 1) hf
          · refine xv_iconst C 1 dX6_canAll_44 (by decide) ?_
            refine xv_goto C 49 dX6_canAll_45 (by decide) ?_
            refine xv_istore C [(5, .int 1), (4, .int (a 5 x4.toNatClampNeg)), (0, .ref (aM g 0)), (2, .int x2), (3, .int x3), (6, .int x6)] dX6_canAll_49 (by decide) rfl ?_
            refine xv_iinc C [(6, .int (x6 + 1)), (5, .int 1), (4, .int (a 5 x4.toNatClampNeg)), (0, .ref (aM g 0)), (2, .int x2), (3, .int x3)] dX6_canAll_51 5 rfl rfl (by decide) rfl ?_
            refine xv_goto C 14 dX6_canAll_54 (by decide) ?_
            refine xv_eq [3, 4, 5, 2, 1, 0] rfl ?_
            exact ih (a 5 x4.toNatClampNeg) 1 (x6 + 1) hf
  rw [f_X6_canAll] at hf
  show V K (sM g) 7 a [(0, .ref (aM g 0)), (1, .int x1), (2, .int x2), (3, .int x3)] 0 []
  refine xv_iload_n C dX6_canAll_0 rfl 1 rfl ?_
  refine xv_istore C [(4, .int x1), (0, .ref (aM g 0)), (1, .int x1), (2, .int x2), (3, .int x3)] dX6_canAll_1 (by decide) rfl ?_
  refine xv_aload_n C dX6_canAll_3 rfl 1 rfl ?_
  refine xv_iload_n C dX6_canAll_4 rfl 2 rfl ?_
  refine xv_iload_n C dX6_canAll_5 rfl 4 rfl ?_
  obtain ⟨q1, hg, hf⟩ := dt_bind hf
  refine xc_i (xr_V C (ci := 6) (As := [.int x1, .int x3]) (fun l => c_X6_can g hS l n x1 x3 a q1 hg) gX6_canAll_X6_can rfl ⟨rfl, rfl⟩ hdV_X6_can ⟨Nat.le_of_ble_eq_true rfl, Nat.le_of_ble_eq_true rfl⟩ 0 rfl rfl (wM0 g _) rfl rfl (Nat.le_of_ble_eq_true rfl) dX6_canAll_6) ?_
  refine xv_istore C [(5, .int q1), (4, .int x1), (0, .ref (aM g 0)), (1, .int x1), (2, .int x2), (3, .int x3)] dX6_canAll_9 (by decide) rfl ?_
  refine xv_iconst C 0 dX6_canAll_11 (by decide) ?_
  refine xv_istore C [(6, .int 0), (5, .int q1), (4, .int x1), (0, .ref (aM g 0)), (1, .int x1), (2, .int x2), (3, .int x3)] dX6_canAll_12 (by decide) rfl ?_
  refine xv_eq [3, 5, 6, 2, 1, 0] rfl ?_
  exact hL14 x2 x3 n x1 q1 0 hf
set_option maxRecDepth 100000 in
set_option maxHeartbeats 4000000 in
theorem c_X6_firstOf (g : GM) (hS : xSide (sM g)) (l : Launch) (n : Nat) (x1 : Int32) (x2 : Int32) (x3 : Int32) (a : St) (q : Int32) (hf : f_X6_firstOf n x1 x2 x3 a = some q) : Met l yX6_firstOf wsX6_firstOf rm_X6_firstOf (xPre (sM g) [.ref (aM g 0), .int x1, .int x2, .int x3] a) (xPostI (sM g) q a) 0 0 (sM g).2.2.1 := by
  refine xm_i (av := [.ref (aM g 0), .int x1, .int x2, .int x3]) (cc := cX6_firstOf) (maxL := 5) (by decide) rfl (Nat.le_of_ble_eq_true rfl) hS.1 hS.2 (fun K C hret => ?_)
  have C : CC K (sM g) cX6_firstOf 5 wsX6_firstOf RX6 rm_X6_firstOf := C
  rw [f_X6_firstOf] at hf
  show V K (sM g) 5 a [(0, .ref (aM g 0)), (1, .int x1), (2, .int x2), (3, .int x3)] 0 []
  refine xv_aload_n C dX6_firstOf_0 rfl 0 rfl ?_
  refine xv_iload_n C dX6_firstOf_1 rfl 1 rfl ?_
  refine xv_iload_n C dX6_firstOf_2 rfl 3 rfl ?_
  obtain ⟨q1, hg, hf⟩ := dt_bind hf
  refine xc_i (xr_V C (ci := 6) (As := [.int x1, .int x3]) (fun l => c_X6_wayEnd g hS l n x1 x3 a q1 hg) gX6_firstOf_X6_wayEnd rfl ⟨rfl, rfl⟩ hdV_X6_wayEnd ⟨Nat.le_of_ble_eq_true rfl, Nat.le_of_ble_eq_true rfl⟩ 0 rfl rfl (wM0 g _) rfl rfl (Nat.le_of_ble_eq_true rfl) dX6_firstOf_3) ?_
  refine xv_istore C [(4, .int q1), (0, .ref (aM g 0)), (1, .int x1), (2, .int x2), (3, .int x3)] dX6_firstOf_6 (by decide) rfl ?_
  refine xv_iload C dX6_firstOf_8 0 rfl ?_
  refine xv_iconst C (-1) dX6_firstOf_10 (by decide) ?_
  refine xv_icmp_eq C 29 hf dX6_firstOf_11 (by decide) (fun _ hf => ?_) (fun _ hf => ?_)
  · refine xv_iconst C (-1) dX6_firstOf_29 (by decide) ?_
    exact xz_ir hret hf dX6_firstOf_30
  · refine xv_aload_n C dX6_firstOf_14 rfl 1 rfl ?_
    refine xv_iload_n C dX6_firstOf_15 rfl 2 rfl ?_
    refine xv_iload_n C dX6_firstOf_16 rfl 4 rfl ?_
    refine xv_iload_n C dX6_firstOf_17 rfl 3 rfl ?_
    obtain ⟨q2, hg, hf⟩ := dt_bind hf
    refine xc_i (xr_V C (ci := 6) (As := [.int x1, .int x3, .int x2]) (fun l => c_X6_canAll g hS l n x1 x3 x2 a q2 hg) gX6_firstOf_X6_canAll rfl ⟨rfl, rfl⟩ hdV_X6_canAll ⟨Nat.le_of_ble_eq_true rfl, Nat.le_of_ble_eq_true rfl⟩ 0 rfl rfl (wM0 g _) rfl rfl (Nat.le_of_ble_eq_true rfl) dX6_firstOf_18) ?_
    refine xv_if_eq C (y := 0) 29 hf dX6_firstOf_21 (by decide) (fun _ hf => ?_) (fun _ hf => ?_)
    · refine xv_iconst C (-1) dX6_firstOf_29 (by decide) ?_
      exact xz_ir hret hf dX6_firstOf_30
    · refine xv_iload C dX6_firstOf_24 0 rfl ?_
      refine xv_goto C 30 dX6_firstOf_26 (by decide) ?_
      exact xz_ir hret hf dX6_firstOf_30
set_option maxRecDepth 100000 in
set_option maxHeartbeats 4000000 in
theorem c_X6_first (g : GM) (hS : xSide (sM g)) (l : Launch) (n : Nat) (x1 : Int32) (x2 : Int32) (x3 : Int32) (a : St) (q : Int32) (hf : f_X6_first n x1 x2 x3 a = some q) : Met l yX6_first wsX6_first rm_X6_first (xPre (sM g) [.ref (aM g 0), .int x1, .int x2, .int x3] a) (xPostI (sM g) q a) 0 0 (sM g).2.2.1 := by
  refine xm_i (av := [.ref (aM g 0), .int x1, .int x2, .int x3]) (cc := cX6_first) (maxL := 4) (by decide) rfl (Nat.le_of_ble_eq_true rfl) hS.1 hS.2 (fun K C hret => ?_)
  have C : CC K (sM g) cX6_first 4 wsX6_first RX6 rm_X6_first := C
  rw [f_X6_first] at hf
  show V K (sM g) 4 a [(0, .ref (aM g 0)), (1, .int x1), (2, .int x2), (3, .int x3)] 0 []
  refine xv_aload_n C dX6_first_0 rfl 0 rfl ?_
  refine xv_iload_n C dX6_first_1 rfl 1 rfl ?_
  obtain ⟨q1, hg, hf⟩ := dt_bind hf
  refine xc_i (xr_V C (ci := 6) (As := [.int x1]) (fun l => c_X6_isHouse g hS l x1 a q1 hg) gX6_first_X6_isHouse rfl ⟨rfl, rfl⟩ hdV_X6_isHouse ⟨Nat.le_of_ble_eq_true rfl, Nat.le_of_ble_eq_true rfl⟩ 0 rfl rfl (wM0 g _) rfl rfl (Nat.le_of_ble_eq_true rfl) dX6_first_2) ?_
  refine xv_if_eq C (y := 0) 16 hf dX6_first_5 (by decide) (fun _ hf => ?_) (fun _ hf => ?_)
  · refine xv_bipush C (-2) dX6_first_16 (by decide) ?_
    exact xz_ir hret hf dX6_first_18
  · refine xv_aload_n C dX6_first_8 rfl 0 rfl ?_
    refine xv_iload_n C dX6_first_9 rfl 2 rfl ?_
    obtain ⟨q2, hg, hf⟩ := dt_bind hf
    refine xc_i (xr_V C (ci := 6) (As := [.int x2]) (fun l => c_X6_isDeed g hS l x2 a q2 hg) gX6_first_X6_isDeed rfl ⟨rfl, rfl⟩ hdV_X6_isDeed ⟨Nat.le_of_ble_eq_true rfl, Nat.le_of_ble_eq_true rfl⟩ 0 rfl rfl (wM0 g _) rfl rfl (Nat.le_of_ble_eq_true rfl) dX6_first_10) ?_
    refine xv_if_ne C (y := 0) 19 hf dX6_first_13 (by decide) (fun _ hf => ?_) (fun _ hf => ?_)
    · refine xv_bipush C (-2) dX6_first_16 (by decide) ?_
      exact xz_ir hret hf dX6_first_18
    · refine xv_iload_n C dX6_first_19 rfl 3 rfl ?_
      obtain ⟨q3, hg, hf⟩ := dt_bind hf
      refine xc_i (xr_S C (As := [.int x3]) (fun l => c_X6_isTime (sM g) hS l x3 a q3 hg) gX6_first_X6_isTime rfl ⟨rfl, rfl⟩ hdS_X6_isTime ⟨Nat.le_of_ble_eq_true rfl, Nat.le_of_ble_eq_true rfl⟩ rfl rfl (Nat.le_of_ble_eq_true rfl) dX6_first_20) ?_
      refine xv_if_eq C (y := 0) 36 hf dX6_first_23 (by decide) (fun _ hf => ?_) (fun _ hf => ?_)
      · refine xv_bipush C (-3) dX6_first_36 (by decide) ?_
        exact xz_ir hret hf dX6_first_38
      · refine xv_aload_n C dX6_first_26 rfl 0 rfl ?_
        refine xv_iload_n C dX6_first_27 rfl 1 rfl ?_
        refine xv_iload_n C dX6_first_28 rfl 2 rfl ?_
        refine xv_iload_n C dX6_first_29 rfl 3 rfl ?_
        obtain ⟨q4, hg, hf⟩ := dt_bind hf
        refine xc_i (xr_V C (ci := 6) (As := [.int x1, .int x2, .int x3]) (fun l => c_X6_firstOf g hS l n x1 x2 x3 a q4 hg) gX6_first_X6_firstOf rfl ⟨rfl, rfl⟩ hdV_X6_firstOf ⟨Nat.le_of_ble_eq_true rfl, Nat.le_of_ble_eq_true rfl⟩ 0 rfl rfl (wM0 g _) rfl rfl (Nat.le_of_ble_eq_true rfl) dX6_first_30) ?_
        refine xv_goto C 38 dX6_first_33 (by decide) ?_
        exact xz_ir hret hf dX6_first_38
set_option maxRecDepth 100000 in
set_option maxHeartbeats 4000000 in
theorem c_X6_lack (g : GM) (hS : xSide (sM g)) (l : Launch) (n : Nat) (x1 : Int32) (x2 : Int32) (x3 : Int32) (a : St) (q : Int32) (hf : f_X6_lack n x1 x2 x3 a = some q) : Met l yX6_lack wsX6_lack rm_X6_lack (xPre (sM g) [.ref (aM g 0), .int x1, .int x2, .int x3] a) (xPostI (sM g) q a) 0 0 (sM g).2.2.1 := by
  refine xm_i (av := [.ref (aM g 0), .int x1, .int x2, .int x3]) (cc := cX6_lack) (maxL := 8) (by decide) rfl (Nat.le_of_ble_eq_true rfl) hS.1 hS.2 (fun K C hret => ?_)
  have C : CC K (sM g) cX6_lack 8 wsX6_lack RX6 rm_X6_lack := C
  have hiX6 : ∀ w ∈ u_ws RX6 TX6 26, w ∈ wsX6_lack := fun w h => List.mem_cons_of_mem _ (List.mem_append_right _ h)
  have hL53 : ∀ (x2 : Int32) (x3 : Int32)  (j : Nat) (x4 : Int32) (x5 : Int32) (x6 : Int32) (x7 : Int32), L_X6_lack_53 n x2 x3 a j x4 x5 x6 x7 = some q → V K (sM g) 8 a [(0, .ref (aM g 0)), (2, .int x2), (3, .int x3), (4, .int x4), (5, .int x5), (6, .int x6), (7, .int x7)] 53 [] := by
    intro x2 x3 j
    induction j with
    | zero =>
      intro x4 x5 x6 x7 hf
      have hf : (none : Option Int32) = some q := hf
      cases hf
    | succ j ih =>
      intro x4 x5 x6 x7 hf
      rw [L_X6_lack_53] at hf
      refine xv_iload C dX6_lack_53 6 rfl ?_
      refine xv_iload_n C dX6_lack_55 rfl 2 rfl ?_
      refine xv_icmp_gt C 120 hf dX6_lack_56 (by decide) (fun _ hf => ?_) (fun _ hf => ?_)
      · refine xv_iload C dX6_lack_120 4 rfl ?_
        exact xz_ir hret hf dX6_lack_122
      · refine xv_iload C dX6_lack_59 4 rfl ?_
        refine xv_iload C dX6_lack_61 3 rfl ?_
        refine xv_iload C dX6_lack_63 5 rfl ?_
        obtain ⟨q5, hg, hf⟩ := dt_bind hf
        refine xc_i (xr_S C (As := [.int x4, .int x6]) (fun l => c_X6_has (sM g) hS l x4 x6 a q5 hg) gX6_lack_X6_has rfl ⟨rfl, rfl⟩ hdS_X6_has ⟨Nat.le_of_ble_eq_true rfl, Nat.le_of_ble_eq_true rfl⟩ rfl rfl (Nat.le_of_ble_eq_true rfl) dX6_lack_65) ?_
        refine xv_if_eq C (y := 0) 75 hf dX6_lack_68 (by decide) (fun _ hf => ?_) (fun _ hf => ?_)
        · refine xv_aload_n C dX6_lack_75 rfl 0 rfl ?_
          refine xv_iload C dX6_lack_76 5 rfl ?_
          refine xv_iload_n C dX6_lack_78 rfl 1 rfl ?_
          obtain ⟨q6, hg, hf⟩ := dt_bind hf
          refine xc_i (xr_V C (ci := 6) (As := [.int x6, .int x2]) (fun l => c_X6_lacks g hS l n x6 x2 a q6 hg) gX6_lack_X6_lacks rfl ⟨rfl, rfl⟩ hdV_X6_lacks ⟨Nat.le_of_ble_eq_true rfl, Nat.le_of_ble_eq_true rfl⟩ 0 rfl rfl (wM0 g _) rfl rfl (Nat.le_of_ble_eq_true rfl) dX6_lack_79) ?_
          refine xv_iadd C dX6_lack_82 ?_
          refine xv_istore C [(5, .int (x5 + q6)), (0, .ref (aM g 0)), (2, .int x2), (3, .int x3), (4, .int x4), (6, .int x6), (7, .int x7)] dX6_lack_83 (by decide) rfl ?_
          refine xv_iload C dX6_lack_85 4 rfl ?_
          refine xv_iconst C 1 dX6_lack_87 (by decide) ?_
          refine xv_iload C dX6_lack_88 5 rfl ?_
          refine xv_ishl C dX6_lack_90 ?_
          refine xv_ior C dX6_lack_91 ?_
          refine xv_istore C [(4, .int (x4 ||| ((1 : Int32) <<< (x6 &&& 31)))), (5, .int (x5 + q6)), (0, .ref (aM g 0)), (2, .int x2), (3, .int x3), (6, .int x6), (7, .int x7)] dX6_lack_92 (by decide) rfl ?_
          refine xv_iload C dX6_lack_94 6 rfl ?_
          refine xv_iload_n C dX6_lack_96 rfl 4 rfl ?_
          refine xv_icmp_ge C 110 hf dX6_lack_97 (by decide) (fun _ hf => ?_) (fun _ hf => ?_)
          · refine xv_iload C dX6_lack_110 5 rfl ?_
            refine xv_istore C [(6, .int x6), (4, .int (x4 ||| ((1 : Int32) <<< (x6 &&& 31)))), (5, .int (x5 + q6)), (0, .ref (aM g 0)), (2, .int x2), (3, .int x3), (7, .int x7)] dX6_lack_112 (by decide) rfl ?_
            refine xv_iinc C [(7, .int (x7 + 1)), (6, .int x6), (4, .int (x4 ||| ((1 : Int32) <<< (x6 &&& 31)))), (5, .int (x5 + q6)), (0, .ref (aM g 0)), (2, .int x2), (3, .int x3)] dX6_lack_114 6 rfl rfl (by decide) rfl ?_
            refine xv_goto C 53 dX6_lack_117 (by decide) ?_
            refine xv_eq [4, 5, 6, 2, 3, 1, 0] rfl ?_
            exact ih (x4 ||| ((1 : Int32) <<< (x6 &&& 31))) (x5 + q6) x6 (x7 + 1) hf
          · refine xv_aload_n C dX6_lack_100 rfl 2 rfl ?_
            refine xv_get C hiX6 0 (wM0 g _) rfl 7 (by decide) (List.mem_of_getElem? (i := 1) rfl) rfl dX6_lack_101 ?_
            refine xv_iload C dX6_lack_104 5 rfl ?_
            refine xv_iald C 5 0 (wM5 g _) rfl hf dX6_lack_106 (fun hf => ?_)
            refine xv_goto C 112 dX6_lack_107 (by decide) ?_
            refine xv_istore C [(6, .int (a 5 x6.toNatClampNeg)), (4, .int (x4 ||| ((1 : Int32) <<< (x6 &&& 31)))), (5, .int (x5 + q6)), (0, .ref (aM g 0)), (2, .int x2), (3, .int x3), (7, .int x7)] dX6_lack_112 (by decide) rfl ?_
            refine xv_iinc C [(7, .int (x7 + 1)), (6, .int (a 5 x6.toNatClampNeg)), (4, .int (x4 ||| ((1 : Int32) <<< (x6 &&& 31)))), (5, .int (x5 + q6)), (0, .ref (aM g 0)), (2, .int x2), (3, .int x3)] dX6_lack_114 6 rfl rfl (by decide) rfl ?_
            refine xv_goto C 53 dX6_lack_117 (by decide) ?_
            refine xv_eq [4, 5, 6, 2, 3, 1, 0] rfl ?_
            exact ih (x4 ||| ((1 : Int32) <<< (x6 &&& 31))) (x5 + q6) (a 5 x6.toNatClampNeg) (x7 + 1) hf
        · refine xv_iconst C 0 dX6_lack_71 (by decide) ?_
          refine xv_goto C 82 dX6_lack_72 (by decide) ?_
          refine xv_iadd C dX6_lack_82 ?_
          refine xv_istore C [(5, .int (x5 + 0)), (0, .ref (aM g 0)), (2, .int x2), (3, .int x3), (4, .int x4), (6, .int x6), (7, .int x7)] dX6_lack_83 (by decide) rfl ?_
          refine xv_iload C dX6_lack_85 4 rfl ?_
          refine xv_iconst C 1 dX6_lack_87 (by decide) ?_
          refine xv_iload C dX6_lack_88 5 rfl ?_
          refine xv_ishl C dX6_lack_90 ?_
          refine xv_ior C dX6_lack_91 ?_
          refine xv_istore C [(4, .int (x4 ||| ((1 : Int32) <<< (x6 &&& 31)))), (5, .int (x5 + 0)), (0, .ref (aM g 0)), (2, .int x2), (3, .int x3), (6, .int x6), (7, .int x7)] dX6_lack_92 (by decide) rfl ?_
          refine xv_iload C dX6_lack_94 6 rfl ?_
          refine xv_iload_n C dX6_lack_96 rfl 4 rfl ?_
          refine xv_icmp_ge C 110 hf dX6_lack_97 (by decide) (fun _ hf => ?_) (fun _ hf => ?_)
          · refine xv_iload C dX6_lack_110 5 rfl ?_
            refine xv_istore C [(6, .int x6), (4, .int (x4 ||| ((1 : Int32) <<< (x6 &&& 31)))), (5, .int (x5 + 0)), (0, .ref (aM g 0)), (2, .int x2), (3, .int x3), (7, .int x7)] dX6_lack_112 (by decide) rfl ?_
            refine xv_iinc C [(7, .int (x7 + 1)), (6, .int x6), (4, .int (x4 ||| ((1 : Int32) <<< (x6 &&& 31)))), (5, .int (x5 + 0)), (0, .ref (aM g 0)), (2, .int x2), (3, .int x3)] dX6_lack_114 6 rfl rfl (by decide) rfl ?_
            refine xv_goto C 53 dX6_lack_117 (by decide) ?_
            refine xv_eq [4, 5, 6, 2, 3, 1, 0] rfl ?_
            exact ih (x4 ||| ((1 : Int32) <<< (x6 &&& 31))) (x5 + 0) x6 (x7 + 1) hf
          · refine xv_aload_n C dX6_lack_100 rfl 2 rfl ?_
            refine xv_get C hiX6 0 (wM0 g _) rfl 7 (by decide) (List.mem_of_getElem? (i := 1) rfl) rfl dX6_lack_101 ?_
            refine xv_iload C dX6_lack_104 5 rfl ?_
            refine xv_iald C 5 0 (wM5 g _) rfl hf dX6_lack_106 (fun hf => ?_)
            refine xv_goto C 112 dX6_lack_107 (by decide) ?_
            refine xv_istore C [(6, .int (a 5 x6.toNatClampNeg)), (4, .int (x4 ||| ((1 : Int32) <<< (x6 &&& 31)))), (5, .int (x5 + 0)), (0, .ref (aM g 0)), (2, .int x2), (3, .int x3), (7, .int x7)] dX6_lack_112 (by decide) rfl ?_
            refine xv_iinc C [(7, .int (x7 + 1)), (6, .int (a 5 x6.toNatClampNeg)), (4, .int (x4 ||| ((1 : Int32) <<< (x6 &&& 31)))), (5, .int (x5 + 0)), (0, .ref (aM g 0)), (2, .int x2), (3, .int x3)] dX6_lack_114 6 rfl rfl (by decide) rfl ?_
            refine xv_goto C 53 dX6_lack_117 (by decide) ?_
            refine xv_eq [4, 5, 6, 2, 3, 1, 0] rfl ?_
            exact ih (x4 ||| ((1 : Int32) <<< (x6 &&& 31))) (x5 + 0) (a 5 x6.toNatClampNeg) (x7 + 1) hf
  rw [f_X6_lack] at hf
  show V K (sM g) 8 a [(0, .ref (aM g 0)), (1, .int x1), (2, .int x2), (3, .int x3)] 0 []
  refine xv_aload_n C dX6_lack_0 rfl 0 rfl ?_
  refine xv_iload_n C dX6_lack_1 rfl 1 rfl ?_
  obtain ⟨q1, hg, hf⟩ := dt_bind hf
  refine xc_i (xr_V C (ci := 6) (As := [.int x1]) (fun l => c_X6_isHouse g hS l x1 a q1 hg) gX6_lack_X6_isHouse rfl ⟨rfl, rfl⟩ hdV_X6_isHouse ⟨Nat.le_of_ble_eq_true rfl, Nat.le_of_ble_eq_true rfl⟩ 0 rfl rfl (wM0 g _) rfl rfl (Nat.le_of_ble_eq_true rfl) dX6_lack_2) ?_
  refine xv_if_eq C (y := 0) 16 hf dX6_lack_5 (by decide) (fun _ hf => ?_) (fun _ hf => ?_)
  · refine xv_bipush C (-2) dX6_lack_16 (by decide) ?_
    exact xz_ir hret hf dX6_lack_18
  · refine xv_aload_n C dX6_lack_8 rfl 0 rfl ?_
    refine xv_iload_n C dX6_lack_9 rfl 2 rfl ?_
    obtain ⟨q2, hg, hf⟩ := dt_bind hf
    refine xc_i (xr_V C (ci := 6) (As := [.int x2]) (fun l => c_X6_isDeed g hS l x2 a q2 hg) gX6_lack_X6_isDeed rfl ⟨rfl, rfl⟩ hdV_X6_isDeed ⟨Nat.le_of_ble_eq_true rfl, Nat.le_of_ble_eq_true rfl⟩ 0 rfl rfl (wM0 g _) rfl rfl (Nat.le_of_ble_eq_true rfl) dX6_lack_10) ?_
    refine xv_if_ne C (y := 0) 19 hf dX6_lack_13 (by decide) (fun _ hf => ?_) (fun _ hf => ?_)
    · refine xv_bipush C (-2) dX6_lack_16 (by decide) ?_
      exact xz_ir hret hf dX6_lack_18
    · refine xv_iload_n C dX6_lack_19 rfl 3 rfl ?_
      obtain ⟨q3, hg, hf⟩ := dt_bind hf
      refine xc_i (xr_S C (As := [.int x3]) (fun l => c_X6_isTime (sM g) hS l x3 a q3 hg) gX6_lack_X6_isTime rfl ⟨rfl, rfl⟩ hdS_X6_isTime ⟨Nat.le_of_ble_eq_true rfl, Nat.le_of_ble_eq_true rfl⟩ rfl rfl (Nat.le_of_ble_eq_true rfl) dX6_lack_20) ?_
      refine xv_if_ne C (y := 0) 29 hf dX6_lack_23 (by decide) (fun _ hf => ?_) (fun _ hf => ?_)
      · refine xv_bipush C (-3) dX6_lack_26 (by decide) ?_
        exact xz_ir hret hf dX6_lack_28
      · refine xv_aload_n C dX6_lack_29 rfl 0 rfl ?_
        refine xv_iload_n C dX6_lack_30 rfl 1 rfl ?_
        refine xv_iload_n C dX6_lack_31 rfl 3 rfl ?_
        obtain ⟨q4, hg, hf⟩ := dt_bind hf
        refine xc_i (xr_V C (ci := 6) (As := [.int x1, .int x3]) (fun l => c_X6_wayEnd g hS l n x1 x3 a q4 hg) gX6_lack_X6_wayEnd rfl ⟨rfl, rfl⟩ hdV_X6_wayEnd ⟨Nat.le_of_ble_eq_true rfl, Nat.le_of_ble_eq_true rfl⟩ 0 rfl rfl (wM0 g _) rfl rfl (Nat.le_of_ble_eq_true rfl) dX6_lack_32) ?_
        refine xv_iconst C (-1) dX6_lack_35 (by decide) ?_
        refine xv_icmp_ne C 41 hf dX6_lack_36 (by decide) (fun _ hf => ?_) (fun _ hf => ?_)
        · refine xv_iconst C (-1) dX6_lack_39 (by decide) ?_
          exact xz_ir hret hf dX6_lack_40
        · refine xv_iconst C 0 dX6_lack_41 (by decide) ?_
          refine xv_istore C [(4, .int 0), (0, .ref (aM g 0)), (1, .int x1), (2, .int x2), (3, .int x3)] dX6_lack_42 (by decide) rfl ?_
          refine xv_iconst C 0 dX6_lack_44 (by decide) ?_
          refine xv_istore C [(5, .int 0), (4, .int 0), (0, .ref (aM g 0)), (1, .int x1), (2, .int x2), (3, .int x3)] dX6_lack_45 (by decide) rfl ?_
          refine xv_iload_n C dX6_lack_47 rfl 3 rfl ?_
          refine xv_istore C [(6, .int x1), (5, .int 0), (4, .int 0), (0, .ref (aM g 0)), (1, .int x1), (2, .int x2), (3, .int x3)] dX6_lack_48 (by decide) rfl ?_
          refine xv_iconst C 0 dX6_lack_50 (by decide) ?_
          refine xv_istore C [(7, .int 0), (6, .int x1), (5, .int 0), (4, .int 0), (0, .ref (aM g 0)), (1, .int x1), (2, .int x2), (3, .int x3)] dX6_lack_51 (by decide) rfl ?_
          refine xv_eq [4, 6, 7, 3, 2, 1, 0] rfl ?_
          exact hL53 x2 x3 n 0 0 x1 0 hf
set_option maxRecDepth 100000 in
set_option maxHeartbeats 4000000 in
theorem c_X6_wish (g : GM) (hS : xSide (sM g)) (l : Launch) (x1 : Int32) (x2 : Int32) (x3 : Int32) (a : St) (q : (Int32 × St)) (hf : f_X6_wish x1 x2 x3 a = some q) : Met l yX6_wish wsX6_wish rm_X6_wish (xPre (sM g) [.ref (aM g 0), .int x1, .int x2, .int x3] a) (xPostI (sM g) q.1 q.2) 0 0 (sM g).2.2.1 := by
  refine xm_i (av := [.ref (aM g 0), .int x1, .int x2, .int x3]) (cc := cX6_wish) (maxL := 4) (by decide) rfl (Nat.le_of_ble_eq_true rfl) hS.1 hS.2 (fun K C hret => ?_)
  have C : CC K (sM g) cX6_wish 4 wsX6_wish RX6 rm_X6_wish := C
  have hiX6 : ∀ w ∈ u_ws RX6 TX6 26, w ∈ wsX6_wish := fun w h => List.mem_cons_of_mem _ (List.mem_append_right _ h)
  rw [f_X6_wish] at hf
  show V K (sM g) 4 a [(0, .ref (aM g 0)), (1, .int x1), (2, .int x2), (3, .int x3)] 0 []
  refine xv_aload_n C dX6_wish_0 rfl 0 rfl ?_
  refine xv_iload_n C dX6_wish_1 rfl 1 rfl ?_
  obtain ⟨q1, hg, hf⟩ := dt_bind hf
  refine xc_i (xr_V C (ci := 6) (As := [.int x1]) (fun l => c_X6_isHouse g hS l x1 a q1 hg) gX6_wish_X6_isHouse rfl ⟨rfl, rfl⟩ hdV_X6_isHouse ⟨Nat.le_of_ble_eq_true rfl, Nat.le_of_ble_eq_true rfl⟩ 0 rfl rfl (wM0 g _) rfl rfl (Nat.le_of_ble_eq_true rfl) dX6_wish_2) ?_
  refine xv_if_eq C (y := 0) 16 hf dX6_wish_5 (by decide) (fun _ hf => ?_) (fun _ hf => ?_)
  · refine xv_bipush C (-2) dX6_wish_16 (by decide) ?_
    exact xz_iw hret hf dX6_wish_18
  · refine xv_aload_n C dX6_wish_8 rfl 0 rfl ?_
    refine xv_iload_n C dX6_wish_9 rfl 2 rfl ?_
    obtain ⟨q2, hg, hf⟩ := dt_bind hf
    refine xc_i (xr_V C (ci := 6) (As := [.int x2]) (fun l => c_X6_isDeed g hS l x2 a q2 hg) gX6_wish_X6_isDeed rfl ⟨rfl, rfl⟩ hdV_X6_isDeed ⟨Nat.le_of_ble_eq_true rfl, Nat.le_of_ble_eq_true rfl⟩ 0 rfl rfl (wM0 g _) rfl rfl (Nat.le_of_ble_eq_true rfl) dX6_wish_10) ?_
    refine xv_if_ne C (y := 0) 19 hf dX6_wish_13 (by decide) (fun _ hf => ?_) (fun _ hf => ?_)
    · refine xv_bipush C (-2) dX6_wish_16 (by decide) ?_
      exact xz_iw hret hf dX6_wish_18
    · refine xv_iload_n C dX6_wish_19 rfl 3 rfl ?_
      obtain ⟨q3, hg, hf⟩ := dt_bind hf
      refine xc_i (xr_S C (As := [.int x3]) (fun l => c_X6_isTime (sM g) hS l x3 a q3 hg) gX6_wish_X6_isTime rfl ⟨rfl, rfl⟩ hdS_X6_isTime ⟨Nat.le_of_ble_eq_true rfl, Nat.le_of_ble_eq_true rfl⟩ rfl rfl (Nat.le_of_ble_eq_true rfl) dX6_wish_20) ?_
      refine xv_if_ne C (y := 0) 29 hf dX6_wish_23 (by decide) (fun _ hf => ?_) (fun _ hf => ?_)
      · refine xv_bipush C (-3) dX6_wish_26 (by decide) ?_
        exact xz_iw hret hf dX6_wish_28
      · refine xv_aload_n C dX6_wish_29 rfl 0 rfl ?_
        refine xv_get C hiX6 0 (wM0 g _) rfl 19 (by decide) (List.mem_of_getElem? (i := 1) rfl) rfl dX6_wish_30 ?_
        refine xv_bipush C 8 dX6_wish_33 (by decide) ?_
        refine xv_icmp_ne C 41 hf dX6_wish_35 (by decide) (fun _ hf => ?_) (fun _ hf => ?_)
        · refine xv_bipush C (-5) dX6_wish_38 (by decide) ?_
          exact xz_iw hret hf dX6_wish_40
        · refine xv_aload_n C dX6_wish_41 rfl 0 rfl ?_
          refine xv_get C hiX6 0 (wM0 g _) rfl 18 (by decide) (List.mem_of_getElem? (i := 2) rfl) rfl dX6_wish_42 ?_
          refine xv_iconst C 3 dX6_wish_45 (by decide) ?_
          refine xv_aload_n C dX6_wish_46 rfl 0 rfl ?_
          refine xv_get C hiX6 0 (wM0 g _) rfl 19 (by decide) (List.mem_of_getElem? (i := 1) rfl) rfl dX6_wish_47 ?_
          refine xv_imul C dX6_wish_50 ?_
          refine xv_iload_n C dX6_wish_51 rfl 1 rfl ?_
          refine xv_iast C 10 0 (wM10 g _) rfl (up a 10 (((3 : Int32) * (a 0 19)).toNatClampNeg) x1) (pM10 g _ _ _) hf dX6_wish_52 (fun hf => ?_)
          refine xv_aload_n C dX6_wish_53 rfl 0 rfl ?_
          refine xv_get C hiX6 0 (wM0 g _) rfl 18 (by decide) (List.mem_of_getElem? (i := 2) rfl) rfl dX6_wish_54 ?_
          refine xv_iconst C 3 dX6_wish_57 (by decide) ?_
          refine xv_aload_n C dX6_wish_58 rfl 0 rfl ?_
          refine xv_get C hiX6 0 (wM0 g _) rfl 19 (by decide) (List.mem_of_getElem? (i := 1) rfl) rfl dX6_wish_59 ?_
          refine xv_imul C dX6_wish_62 ?_
          refine xv_iconst C 1 dX6_wish_63 (by decide) ?_
          refine xv_iadd C dX6_wish_64 ?_
          refine xv_iload_n C dX6_wish_65 rfl 2 rfl ?_
          refine xv_iast C 10 0 (wM10 g _) rfl (up (up a 10 (((3 : Int32) * (a 0 19)).toNatClampNeg) x1) 10 ((((3 : Int32) * ((up a 10 (((3 : Int32) * (a 0 19)).toNatClampNeg) x1) 0 19)) + 1).toNatClampNeg) x2) (pM10 g _ _ _) hf dX6_wish_66 (fun hf => ?_)
          refine xv_aload_n C dX6_wish_67 rfl 0 rfl ?_
          refine xv_get C hiX6 0 (wM0 g _) rfl 18 (by decide) (List.mem_of_getElem? (i := 2) rfl) rfl dX6_wish_68 ?_
          refine xv_iconst C 3 dX6_wish_71 (by decide) ?_
          refine xv_aload_n C dX6_wish_72 rfl 0 rfl ?_
          refine xv_get C hiX6 0 (wM0 g _) rfl 19 (by decide) (List.mem_of_getElem? (i := 1) rfl) rfl dX6_wish_73 ?_
          refine xv_imul C dX6_wish_76 ?_
          refine xv_iconst C 2 dX6_wish_77 (by decide) ?_
          refine xv_iadd C dX6_wish_78 ?_
          refine xv_iload_n C dX6_wish_79 rfl 3 rfl ?_
          refine xv_iast C 10 0 (wM10 g _) rfl (up (up (up a 10 (((3 : Int32) * (a 0 19)).toNatClampNeg) x1) 10 ((((3 : Int32) * ((up a 10 (((3 : Int32) * (a 0 19)).toNatClampNeg) x1) 0 19)) + 1).toNatClampNeg) x2) 10 ((((3 : Int32) * ((up (up a 10 (((3 : Int32) * (a 0 19)).toNatClampNeg) x1) 10 ((((3 : Int32) * ((up a 10 (((3 : Int32) * (a 0 19)).toNatClampNeg) x1) 0 19)) + 1).toNatClampNeg) x2) 0 19)) + 2).toNatClampNeg) x3) (pM10 g _ _ _) hf dX6_wish_80 (fun hf => ?_)
          refine xv_aload_n C dX6_wish_81 rfl 0 rfl ?_
          refine xv_dup C dX6_wish_82 rfl ?_
          refine xv_get C hiX6 0 (wM0 g _) rfl 19 (by decide) (List.mem_of_getElem? (i := 1) rfl) rfl dX6_wish_83 ?_
          refine xv_iconst C 1 dX6_wish_86 (by decide) ?_
          refine xv_iadd C dX6_wish_87 ?_
          refine xv_put C hiX6 tyX6 tyX6_ok nmX6 0 (wM0 g _) rfl 19 (by decide) (List.mem_of_getElem? (i := 1) rfl) rfl (tyX6_ok 19 (by decide)) rfl rfl (Nat.le_of_ble_eq_true rfl) (up (up (up (up a 10 (((3 : Int32) * (a 0 19)).toNatClampNeg) x1) 10 ((((3 : Int32) * ((up a 10 (((3 : Int32) * (a 0 19)).toNatClampNeg) x1) 0 19)) + 1).toNatClampNeg) x2) 10 ((((3 : Int32) * ((up (up a 10 (((3 : Int32) * (a 0 19)).toNatClampNeg) x1) 10 ((((3 : Int32) * ((up a 10 (((3 : Int32) * (a 0 19)).toNatClampNeg) x1) 0 19)) + 1).toNatClampNeg) x2) 0 19)) + 2).toNatClampNeg) x3) 0 19 (((up (up (up a 10 (((3 : Int32) * (a 0 19)).toNatClampNeg) x1) 10 ((((3 : Int32) * ((up a 10 (((3 : Int32) * (a 0 19)).toNatClampNeg) x1) 0 19)) + 1).toNatClampNeg) x2) 10 ((((3 : Int32) * ((up (up a 10 (((3 : Int32) * (a 0 19)).toNatClampNeg) x1) 10 ((((3 : Int32) * ((up a 10 (((3 : Int32) * (a 0 19)).toNatClampNeg) x1) 0 19)) + 1).toNatClampNeg) x2) 0 19)) + 2).toNatClampNeg) x3) 0 19) + 1)) (pM0_19 g _ _) dX6_wish_88 ?_
          refine xv_aload_n C dX6_wish_91 rfl 0 rfl ?_
          refine xv_get C hiX6 0 (wM0 g _) rfl 19 (by decide) (List.mem_of_getElem? (i := 1) rfl) rfl dX6_wish_92 ?_
          exact xz_iw hret hf dX6_wish_95
set_option maxRecDepth 100000 in
set_option maxHeartbeats 4000000 in
theorem c_X6_drop (g : GM) (hS : xSide (sM g)) (l : Launch) (a : St) (q : (Int32 × St)) (hf : f_X6_drop a = some q) : Met l yX6_drop wsX6_drop rm_X6_drop (xPre (sM g) [.ref (aM g 0)] a) (xPostI (sM g) q.1 q.2) 0 0 (sM g).2.2.1 := by
  refine xm_i (av := [.ref (aM g 0)]) (cc := cX6_drop) (maxL := 2) (by decide) rfl (Nat.le_of_ble_eq_true rfl) hS.1 hS.2 (fun K C hret => ?_)
  have C : CC K (sM g) cX6_drop 2 wsX6_drop RX6 rm_X6_drop := C
  have hiX6 : ∀ w ∈ u_ws RX6 TX6 26, w ∈ wsX6_drop := fun w h => List.mem_cons_of_mem _ (List.mem_append_right _ h)
  rw [f_X6_drop] at hf
  show V K (sM g) 2 a [(0, .ref (aM g 0))] 0 []
  refine xv_aload_n C dX6_drop_0 rfl 0 rfl ?_
  refine xv_get C hiX6 0 (wM0 g _) rfl 19 (by decide) (List.mem_of_getElem? (i := 1) rfl) rfl dX6_drop_1 ?_
  refine xv_istore_n C [(1, .int (a 0 19)), (0, .ref (aM g 0))] dX6_drop_4 rfl (by decide) rfl ?_
  refine xv_aload_n C dX6_drop_5 rfl 1 rfl ?_
  refine xv_iconst C 0 dX6_drop_6 (by decide) ?_
  refine xv_put C hiX6 tyX6 tyX6_ok nmX6 0 (wM0 g _) rfl 19 (by decide) (List.mem_of_getElem? (i := 1) rfl) rfl (tyX6_ok 19 (by decide)) rfl rfl (Nat.le_of_ble_eq_true rfl) (up a 0 19 0) (pM0_19 g _ _) dX6_drop_7 ?_
  refine xv_iload_n C dX6_drop_10 rfl 0 rfl ?_
  exact xz_iw hret hf dX6_drop_11
set_option maxRecDepth 100000 in
set_option maxHeartbeats 4000000 in
theorem c_X6_layMays (g : GM) (hS : xSide (sM g)) (l : Launch) (n : Nat) (a : St) (q : St) (hf : f_X6_layMays n a = some q) : Met l yX6_layMays wsX6_layMays rm_X6_layMays (xPre (sM g) [.ref (aM g 0)] a) (xPostV (sM g) q) 0 0 (sM g).2.2.1 := by
  refine xm_v (av := [.ref (aM g 0)]) (cc := cX6_layMays) (maxL := 3) (by decide) rfl (Nat.le_of_ble_eq_true rfl) hS.1 hS.2 (fun K C hret => ?_)
  have C : CC K (sM g) cX6_layMays 3 wsX6_layMays RX6 rm_X6_layMays := C
  have hiX6 : ∀ w ∈ u_ws RX6 TX6 26, w ∈ wsX6_layMays := fun w h => List.mem_cons_of_mem _ (List.mem_append_right _ h)
  have hB59 : ∀ (x1 : Int32) (k2 : Int32 → St → Option St) (hk2 : ∀ (y1 : Int32) (b : St), k2 y1 b = some q → V K (sM g) 3 b [(0, .ref (aM g 0)), (1, .int y1)] 2 []) (a : St), B_X6_layMays_59 n k2 x1 a = some q → V K (sM g) 3 a [(0, .ref (aM g 0)), (1, .int x1)] 59 [] := by
    intro x1 k2 hk2 a hf
    rw [B_X6_layMays_59] at hf
    refine xv_iinc C [(1, .int (x1 + 1)), (0, .ref (aM g 0))] dX6_layMays_59 1 rfl rfl (by decide) rfl ?_
    refine xv_goto C 2 dX6_layMays_62 (by decide) ?_
    refine xv_eq [1, 0] rfl ?_
    exact hk2 (x1 + 1) a hf
  have hL20 : ∀ (x1 : Int32) (k2 : Int32 → St → Option St) (hk2 : ∀ (y1 : Int32) (b : St), k2 y1 b = some q → V K (sM g) 3 b [(0, .ref (aM g 0)), (1, .int y1)] 2 []) (j : Nat) (x2 : Int32) (a : St), L_X6_layMays_20 n k2 x1 j x2 a = some q → V K (sM g) 3 a [(0, .ref (aM g 0)), (1, .int x1), (2, .int x2)] 20 [] := by
    intro x1 k2 hk2 j
    induction j with
    | zero =>
      intro x2 a hf
      have hf : (none : Option St) = some q := hf
      cases hf
    | succ j ih =>
      intro x2 a hf
      rw [L_X6_layMays_20] at hf
      refine xv_iload_n C dX6_layMays_20 rfl 2 rfl ?_
      refine xv_aload_n C dX6_layMays_21 rfl 0 rfl ?_
      refine xv_get C hiX6 0 (wM0 g _) rfl 11 (by decide) (List.mem_of_getElem? (i := 3) rfl) rfl dX6_layMays_22 ?_
      refine xv_icmp_ge C 59 hf dX6_layMays_25 (by decide) (fun _ hf => ?_) (fun _ hf => ?_)
      · refine xv_eq [0, 1] rfl ?_
        exact hB59 x1 k2 hk2 a hf
      · refine xv_aload_n C dX6_layMays_28 rfl 0 rfl ?_
        refine xv_get C hiX6 0 (wM0 g _) rfl 20 (by decide) (List.mem_of_getElem? (i := 2) rfl) rfl dX6_layMays_29 ?_
        refine xv_iload_n C dX6_layMays_32 rfl 1 rfl ?_
        refine xv_dup2 C dX6_layMays_33 rfl rfl ?_
        refine xv_iald C 11 0 (wM11 g _) rfl hf dX6_layMays_34 (fun hf => ?_)
        refine xv_aload_n C dX6_layMays_35 rfl 0 rfl ?_
        refine xv_iload_n C dX6_layMays_36 rfl 1 rfl ?_
        refine xv_iload_n C dX6_layMays_37 rfl 2 rfl ?_
        obtain ⟨q1, hg, hf⟩ := dt_bind hf
        refine xc_i (xr_V C (ci := 6) (As := [.int x1, .int x2]) (fun l => c_X6_can g hS l n x1 x2 a q1 hg) gX6_layMays_X6_can rfl ⟨rfl, rfl⟩ hdV_X6_can ⟨Nat.le_of_ble_eq_true rfl, Nat.le_of_ble_eq_true rfl⟩ 0 rfl rfl (wM0 g _) rfl rfl (Nat.le_of_ble_eq_true rfl) dX6_layMays_38) ?_
        refine xv_if_eq C (y := 0) 50 hf dX6_layMays_41 (by decide) (fun _ hf => ?_) (fun _ hf => ?_)
        · refine xv_iconst C 0 dX6_layMays_50 (by decide) ?_
          refine xv_ior C dX6_layMays_51 ?_
          refine xv_iast C 11 0 (wM11 g _) rfl (up a 11 x1.toNatClampNeg ((a 11 x1.toNatClampNeg) ||| 0)) (pM11 g _ _ _) hf dX6_layMays_52 (fun hf => ?_)
          refine xv_iinc C [(2, .int (x2 + 1)), (0, .ref (aM g 0)), (1, .int x1)] dX6_layMays_53 2 rfl rfl (by decide) rfl ?_
          refine xv_goto C 20 dX6_layMays_56 (by decide) ?_
          refine xv_eq [1, 2, 0] rfl ?_
          exact ih (x2 + 1) (up a 11 x1.toNatClampNeg ((a 11 x1.toNatClampNeg) ||| 0)) hf
        · refine xv_iconst C 1 dX6_layMays_44 (by decide) ?_
          refine xv_iload_n C dX6_layMays_45 rfl 2 rfl ?_
          refine xv_ishl C dX6_layMays_46 ?_
          refine xv_goto C 51 dX6_layMays_47 (by decide) ?_
          refine xv_ior C dX6_layMays_51 ?_
          refine xv_iast C 11 0 (wM11 g _) rfl (up a 11 x1.toNatClampNeg ((a 11 x1.toNatClampNeg) ||| ((1 : Int32) <<< (x2 &&& 31)))) (pM11 g _ _ _) hf dX6_layMays_52 (fun hf => ?_)
          refine xv_iinc C [(2, .int (x2 + 1)), (0, .ref (aM g 0)), (1, .int x1)] dX6_layMays_53 2 rfl rfl (by decide) rfl ?_
          refine xv_goto C 20 dX6_layMays_56 (by decide) ?_
          refine xv_eq [1, 2, 0] rfl ?_
          exact ih (x2 + 1) (up a 11 x1.toNatClampNeg ((a 11 x1.toNatClampNeg) ||| ((1 : Int32) <<< (x2 &&& 31)))) hf
  have hL2 : ∀  (j : Nat) (x1 : Int32) (a : St), L_X6_layMays_2 n j x1 a = some q → V K (sM g) 3 a [(0, .ref (aM g 0)), (1, .int x1)] 2 [] := by
    intro j
    induction j with
    | zero =>
      intro x1 a hf
      have hf : (none : Option St) = some q := hf
      cases hf
    | succ j ih =>
      intro x1 a hf
      rw [L_X6_layMays_2] at hf
      refine xv_iload_n C dX6_layMays_2 rfl 1 rfl ?_
      refine xv_aload_n C dX6_layMays_3 rfl 0 rfl ?_
      refine xv_get C hiX6 0 (wM0 g _) rfl 6 (by decide) (List.mem_of_getElem? (i := 1) rfl) rfl dX6_layMays_4 ?_
      refine xv_icmp_ge C 65 hf dX6_layMays_7 (by decide) (fun _ hf => ?_) (fun _ hf => ?_)
      · exact xz_v hret hf dX6_layMays_65
      · refine xv_aload_n C dX6_layMays_10 rfl 0 rfl ?_
        refine xv_get C hiX6 0 (wM0 g _) rfl 20 (by decide) (List.mem_of_getElem? (i := 2) rfl) rfl dX6_layMays_11 ?_
        refine xv_iload_n C dX6_layMays_14 rfl 1 rfl ?_
        refine xv_bipush C 64 dX6_layMays_15 (by decide) ?_
        refine xv_iast C 11 0 (wM11 g _) rfl (up a 11 x1.toNatClampNeg 64) (pM11 g _ _ _) hf dX6_layMays_17 (fun hf => ?_)
        refine xv_iconst C 0 dX6_layMays_18 (by decide) ?_
        refine xv_istore_n C [(2, .int 0), (0, .ref (aM g 0)), (1, .int x1)] dX6_layMays_19 rfl (by decide) rfl ?_
        refine xv_eq [1, 2, 0] rfl ?_
        exact hL20 x1 (L_X6_layMays_2 n j) ih n 0 (up a 11 x1.toNatClampNeg 64) hf
  rw [f_X6_layMays] at hf
  show V K (sM g) 3 a [(0, .ref (aM g 0))] 0 []
  refine xv_iconst C 0 dX6_layMays_0 (by decide) ?_
  refine xv_istore_n C [(1, .int 0), (0, .ref (aM g 0))] dX6_layMays_1 rfl (by decide) rfl ?_
  refine xv_eq [1, 0] rfl ?_
  exact hL2 n 0 a hf
