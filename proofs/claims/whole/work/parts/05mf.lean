set_option maxRecDepth 100000 in
set_option maxHeartbeats 4000000 in
theorem c_X6_leastOf (S : SID) (hS : xSide S) (l : Launch) (n : Nat) (x0 : Int32) (a : St) (q : Int32) (hf : f_X6_leastOf n x0 = some q) : Met l yX6_leastOf wsX6_leastOf rm_X6_leastOf (xPre S [.int x0] a) (xPostI S q a) 0 0 S.2.2.1 := by
  refine xm_i (av := [.int x0]) (cc := cX6_leastOf) (maxL := 2) (by decide) rfl (Nat.le_of_ble_eq_true rfl) hS.1 hS.2 (fun K C hret => ?_)
  have C : CC K S cX6_leastOf 2 wsX6_leastOf RX6 rm_X6_leastOf := C
  have hL2 : ∀ (x0 : Int32)  (j : Nat) (x1 : Int32), L_X6_leastOf_2 n x0 j x1 = some q → V K S 2 a [(0, .int x0), (1, .int x1)] 2 [] := by
    intro x0 j
    induction j with
    | zero =>
      intro x1 hf
      have hf : (none : Option Int32) = some q := hf
      cases hf
    | succ j ih =>
      intro x1 hf
      rw [L_X6_leastOf_2] at hf
      refine xv_iload_n C dX6_leastOf_2 rfl 0 rfl ?_
      refine xv_iload_n C dX6_leastOf_3 rfl 1 rfl ?_
      obtain ⟨q1, hg, hf⟩ := dt_bind hf
      refine xc_i (xr_S C (As := [.int x0, .int x1]) (fun l => c_X6_has S hS l x0 x1 a q1 hg) gX6_leastOf_X6_has rfl ⟨rfl, rfl⟩ hdS_X6_has ⟨Nat.le_of_ble_eq_true rfl, Nat.le_of_ble_eq_true rfl⟩ rfl rfl (Nat.le_of_ble_eq_true rfl) dX6_leastOf_4) ?_
      refine xv_if_ne C (y := 0) 16 hf dX6_leastOf_7 (by decide) (fun _ hf => ?_) (fun _ hf => ?_)
      · refine xv_iinc C [(1, .int (x1 + 1)), (0, .int x0)] dX6_leastOf_10 1 rfl rfl (by decide) rfl ?_
        refine xv_goto C 2 dX6_leastOf_13 (by decide) ?_
        refine xv_eq [1, 0] rfl ?_
        exact ih (x1 + 1) hf
      · refine xv_iload_n C dX6_leastOf_16 rfl 1 rfl ?_
        exact xz_ir hret hf dX6_leastOf_17
  rw [f_X6_leastOf] at hf
  show V K S 2 a [(0, .int x0)] 0 []
  refine xv_iconst C 0 dX6_leastOf_0 (by decide) ?_
  refine xv_istore_n C [(1, .int 0), (0, .int x0)] dX6_leastOf_1 rfl (by decide) rfl ?_
  refine xv_eq [1, 0] rfl ?_
  exact hL2 x0 n 0 hf
set_option maxRecDepth 100000 in
set_option maxHeartbeats 4000000 in
theorem c_X6_withOf (g : GM) (hS : xSide (sM g)) (l : Launch) (n : Nat) (x1 : Int32) (x2 : Int32) (x3 : Int32) (a : St) (q : Int32) (hf : f_X6_withOf n x1 x2 x3 a = some q) : Met l yX6_withOf wsX6_withOf rm_X6_withOf (xPre (sM g) [.ref (aM g 0), .int x1, .int x2, .int x3] a) (xPostI (sM g) q a) 0 0 (sM g).2.2.1 := by
  refine xm_i (av := [.ref (aM g 0), .int x1, .int x2, .int x3]) (cc := cX6_withOf) (maxL := 6) (by decide) rfl (Nat.le_of_ble_eq_true rfl) hS.1 hS.2 (fun K C hret => ?_)
  have C : CC K (sM g) cX6_withOf 6 wsX6_withOf RX6 rm_X6_withOf := C
  have hiX6 : ∀ w ∈ u_ws RX6 TX6 26, w ∈ wsX6_withOf := fun w h => List.mem_cons_of_mem _ (List.mem_append_right _ h)
  rw [f_X6_withOf] at hf
  show V K (sM g) 6 a [(0, .ref (aM g 0)), (1, .int x1), (2, .int x2), (3, .int x3)] 0 []
  refine xv_iload_n C dX6_withOf_0 rfl 1 rfl ?_
  refine xv_iconst C 1 dX6_withOf_1 (by decide) ?_
  refine xv_iload_n C dX6_withOf_2 rfl 2 rfl ?_
  refine xv_ishl C dX6_withOf_3 ?_
  refine xv_iconst C 1 dX6_withOf_4 (by decide) ?_
  refine xv_iload_n C dX6_withOf_5 rfl 3 rfl ?_
  refine xv_ishl C dX6_withOf_6 ?_
  refine xv_ior C dX6_withOf_7 ?_
  refine xv_iconst C (-1) dX6_withOf_8 (by decide) ?_
  refine xv_ixor C dX6_withOf_9 ?_
  refine xv_iand C dX6_withOf_10 ?_
  refine xv_istore C [(4, .int (x1 &&& ((((1 : Int32) <<< (x2 &&& 31)) ||| ((1 : Int32) <<< (x3 &&& 31))) ^^^ (-1)))), (0, .ref (aM g 0)), (1, .int x1), (2, .int x2), (3, .int x3)] dX6_withOf_11 (by decide) rfl ?_
  refine xv_iload_n C dX6_withOf_13 rfl 3 rfl ?_
  refine xv_iload_n C dX6_withOf_14 rfl 4 rfl ?_
  refine xv_icmp_ne C 36 hf dX6_withOf_15 (by decide) (fun _ hf => ?_) (fun _ hf => ?_)
  · refine xv_iload_n C dX6_withOf_18 rfl 2 rfl ?_
    obtain ⟨q2, hg, hf⟩ := dt_bind hf
    refine xc_i (xr_S C (As := [.int x1]) (fun l => c_X6_bits (sM g) hS l n x1 a q2 hg) gX6_withOf_X6_bits rfl ⟨rfl, rfl⟩ hdS_X6_bits ⟨Nat.le_of_ble_eq_true rfl, Nat.le_of_ble_eq_true rfl⟩ rfl rfl (Nat.le_of_ble_eq_true rfl) dX6_withOf_19) ?_
    refine xv_iconst C 2 dX6_withOf_22 (by decide) ?_
    refine xv_irem C (B := some ()) (v := ()) (by decide) dX6_withOf_23 (fun _ => ?_)
    refine xv_iconst C 1 dX6_withOf_24 (by decide) ?_
    refine xv_icmp_ne C 32 hf dX6_withOf_25 (by decide) (fun _ hf => ?_) (fun _ hf => ?_)
    · refine xv_iconst C 1 dX6_withOf_28 (by decide) ?_
      refine xv_goto C 41 dX6_withOf_29 (by decide) ?_
      refine xv_istore C [(5, .int 1), (4, .int (x1 &&& ((((1 : Int32) <<< (x2 &&& 31)) ||| ((1 : Int32) <<< (x3 &&& 31))) ^^^ (-1)))), (0, .ref (aM g 0)), (1, .int x1), (2, .int x2), (3, .int x3)] dX6_withOf_41 (by decide) rfl ?_
      refine xv_iload C dX6_withOf_43 0 rfl ?_
      refine xv_if_eq C (y := 0) (A := (none : Option Unit)) (B := some ()) (v := ()) 79 (by decide) dX6_withOf_45 (by decide) (fun _ hf => by cases hf) (fun _ _ => ?_)
      refine xv_iload_n C dX6_withOf_48 rfl 4 rfl ?_
      refine xv_iload_n C dX6_withOf_49 rfl 5 rfl ?_
      refine xv_icmp_ne C 57 hf dX6_withOf_50 (by decide) (fun _ hf => ?_) (fun _ hf => ?_)
      · refine xv_iconst C 0 dX6_withOf_53 (by decide) ?_
        refine xv_goto C 68 dX6_withOf_54 (by decide) ?_
        refine xv_aload_n C dX6_withOf_68 rfl 2 rfl ?_
        refine xv_get C hiX6 0 (wM0 g _) rfl 23 (by decide) (List.mem_of_getElem? (i := 2) rfl) rfl dX6_withOf_69 ?_
        refine xv_iload C dX6_withOf_72 1 rfl ?_
        refine xv_iald C 12 0 (wM12 g _) rfl hf dX6_withOf_74 (fun hf => ?_)
        refine xv_iadd C dX6_withOf_75 ?_
        refine xv_goto C 80 dX6_withOf_76 (by decide) ?_
        exact xz_ir hret hf dX6_withOf_80
      · refine xv_aload_n C dX6_withOf_57 rfl 2 rfl ?_
        refine xv_get C hiX6 0 (wM0 g _) rfl 9 (by decide) (List.mem_of_getElem? (i := 1) rfl) rfl dX6_withOf_58 ?_
        refine xv_bipush C 8 dX6_withOf_61 (by decide) ?_
        refine xv_iload_n C dX6_withOf_63 rfl 4 rfl ?_
        refine xv_imul C dX6_withOf_64 ?_
        refine xv_iload_n C dX6_withOf_65 rfl 5 rfl ?_
        refine xv_iadd C dX6_withOf_66 ?_
        refine xv_iald C 7 0 (wM7 g _) rfl hf dX6_withOf_67 (fun hf => ?_)
        refine xv_aload_n C dX6_withOf_68 rfl 2 rfl ?_
        refine xv_get C hiX6 0 (wM0 g _) rfl 23 (by decide) (List.mem_of_getElem? (i := 2) rfl) rfl dX6_withOf_69 ?_
        refine xv_iload C dX6_withOf_72 1 rfl ?_
        refine xv_iald C 12 0 (wM12 g _) rfl hf dX6_withOf_74 (fun hf => ?_)
        refine xv_iadd C dX6_withOf_75 ?_
        refine xv_goto C 80 dX6_withOf_76 (by decide) ?_
        exact xz_ir hret hf dX6_withOf_80
    · refine xv_iconst C 0 dX6_withOf_32 (by decide) ?_
      refine xv_goto C 41 dX6_withOf_33 (by decide) ?_
      refine xv_istore C [(5, .int 0), (4, .int (x1 &&& ((((1 : Int32) <<< (x2 &&& 31)) ||| ((1 : Int32) <<< (x3 &&& 31))) ^^^ (-1)))), (0, .ref (aM g 0)), (1, .int x1), (2, .int x2), (3, .int x3)] dX6_withOf_41 (by decide) rfl ?_
      refine xv_iload C dX6_withOf_43 0 rfl ?_
      refine xv_if_eq C (y := 0) (A := some ()) (B := (none : Option Unit)) (v := ()) 79 (by decide) dX6_withOf_45 (by decide) (fun _ _ => ?_) (fun _ hf => by cases hf)
      refine xv_iconst C (-1) dX6_withOf_79 (by decide) ?_
      exact xz_ir hret hf dX6_withOf_80
  · refine xv_iload_n C dX6_withOf_36 rfl 2 rfl ?_
    refine xv_iload_n C dX6_withOf_37 rfl 4 rfl ?_
    obtain ⟨q1, hg, hf⟩ := dt_bind hf
    refine xc_i (xr_S C (As := [.int x1, .int x3]) (fun l => c_X6_has (sM g) hS l x1 x3 a q1 hg) gX6_withOf_X6_has rfl ⟨rfl, rfl⟩ hdS_X6_has ⟨Nat.le_of_ble_eq_true rfl, Nat.le_of_ble_eq_true rfl⟩ rfl rfl (Nat.le_of_ble_eq_true rfl) dX6_withOf_38) ?_
    refine xv_istore C [(5, .int q1), (4, .int (x1 &&& ((((1 : Int32) <<< (x2 &&& 31)) ||| ((1 : Int32) <<< (x3 &&& 31))) ^^^ (-1)))), (0, .ref (aM g 0)), (1, .int x1), (2, .int x2), (3, .int x3)] dX6_withOf_41 (by decide) rfl ?_
    refine xv_iload C dX6_withOf_43 0 rfl ?_
    refine xv_if_eq C (y := 0) 79 hf dX6_withOf_45 (by decide) (fun _ hf => ?_) (fun _ hf => ?_)
    · refine xv_iconst C (-1) dX6_withOf_79 (by decide) ?_
      exact xz_ir hret hf dX6_withOf_80
    · refine xv_iload_n C dX6_withOf_48 rfl 4 rfl ?_
      refine xv_iload_n C dX6_withOf_49 rfl 5 rfl ?_
      refine xv_icmp_ne C 57 hf dX6_withOf_50 (by decide) (fun _ hf => ?_) (fun _ hf => ?_)
      · refine xv_iconst C 0 dX6_withOf_53 (by decide) ?_
        refine xv_goto C 68 dX6_withOf_54 (by decide) ?_
        refine xv_aload_n C dX6_withOf_68 rfl 2 rfl ?_
        refine xv_get C hiX6 0 (wM0 g _) rfl 23 (by decide) (List.mem_of_getElem? (i := 2) rfl) rfl dX6_withOf_69 ?_
        refine xv_iload C dX6_withOf_72 1 rfl ?_
        refine xv_iald C 12 0 (wM12 g _) rfl hf dX6_withOf_74 (fun hf => ?_)
        refine xv_iadd C dX6_withOf_75 ?_
        refine xv_goto C 80 dX6_withOf_76 (by decide) ?_
        exact xz_ir hret hf dX6_withOf_80
      · refine xv_aload_n C dX6_withOf_57 rfl 2 rfl ?_
        refine xv_get C hiX6 0 (wM0 g _) rfl 9 (by decide) (List.mem_of_getElem? (i := 1) rfl) rfl dX6_withOf_58 ?_
        refine xv_bipush C 8 dX6_withOf_61 (by decide) ?_
        refine xv_iload_n C dX6_withOf_63 rfl 4 rfl ?_
        refine xv_imul C dX6_withOf_64 ?_
        refine xv_iload_n C dX6_withOf_65 rfl 5 rfl ?_
        refine xv_iadd C dX6_withOf_66 ?_
        refine xv_iald C 7 0 (wM7 g _) rfl hf dX6_withOf_67 (fun hf => ?_)
        refine xv_aload_n C dX6_withOf_68 rfl 2 rfl ?_
        refine xv_get C hiX6 0 (wM0 g _) rfl 23 (by decide) (List.mem_of_getElem? (i := 2) rfl) rfl dX6_withOf_69 ?_
        refine xv_iload C dX6_withOf_72 1 rfl ?_
        refine xv_iald C 12 0 (wM12 g _) rfl hf dX6_withOf_74 (fun hf => ?_)
        refine xv_iadd C dX6_withOf_75 ?_
        refine xv_goto C 80 dX6_withOf_76 (by decide) ?_
        exact xz_ir hret hf dX6_withOf_80
set_option maxRecDepth 100000 in
set_option maxHeartbeats 4000000 in
theorem c_X6_layBests (g : GM) (hS : xSide (sM g)) (l : Launch) (n : Nat) (a : St) (q : St) (hf : f_X6_layBests n a = some q) : Met l yX6_layBests wsX6_layBests rm_X6_layBests (xPre (sM g) [.ref (aM g 0)] a) (xPostV (sM g) q) 0 0 (sM g).2.2.1 := by
  refine xm_v (av := [.ref (aM g 0)]) (cc := cX6_layBests) (maxL := 6) (by decide) rfl (Nat.le_of_ble_eq_true rfl) hS.1 hS.2 (fun K C hret => ?_)
  have C : CC K (sM g) cX6_layBests 6 wsX6_layBests RX6 rm_X6_layBests := C
  have hiX6 : ∀ w ∈ u_ws RX6 TX6 26, w ∈ wsX6_layBests := fun w h => List.mem_cons_of_mem _ (List.mem_append_right _ h)
  have hB67 : ∀ (x1 : Int32) (x3 : Int32) (k9 : Int32 → St → Option St) (hk9 : ∀ (y1 : Int32) (b : St), k9 y1 b = some q → V K (sM g) 6 b [(0, .ref (aM g 0)), (1, .int y1)] 9 []) (a : St), B_X6_layBests_67 n k9 x1 x3 a = some q → V K (sM g) 6 a [(0, .ref (aM g 0)), (1, .int x1), (3, .int x3)] 67 [] := by
    intro x1 x3 k9 hk9 a hf
    rw [B_X6_layBests_67] at hf
    refine xv_aload_n C dX6_layBests_67 rfl 0 rfl ?_
    refine xv_get C hiX6 0 (wM0 g _) rfl 23 (by decide) (List.mem_of_getElem? (i := 1) rfl) rfl dX6_layBests_68 ?_
    refine xv_iload_n C dX6_layBests_71 rfl 1 rfl ?_
    refine xv_iload_n C dX6_layBests_72 rfl 2 rfl ?_
    refine xv_iast C 12 0 (wM12 g _) rfl (up a 12 x1.toNatClampNeg x3) (pM12 g _ _ _) hf dX6_layBests_73 (fun hf => ?_)
    refine xv_iinc C [(1, .int (x1 + 1)), (0, .ref (aM g 0)), (3, .int x3)] dX6_layBests_74 1 rfl rfl (by decide) rfl ?_
    refine xv_goto C 9 dX6_layBests_77 (by decide) ?_
    refine xv_eq [1, 0] rfl ?_
    exact hk9 (x1 + 1) (up a 12 x1.toNatClampNeg x3) hf
  have hL29 : ∀ (x1 : Int32) (x2 : Int32) (k9 : Int32 → St → Option St) (hk9 : ∀ (y1 : Int32) (b : St), k9 y1 b = some q → V K (sM g) 6 b [(0, .ref (aM g 0)), (1, .int y1)] 9 []) (j : Nat) (x3 : Int32) (x4 : Int32) (a : St), L_X6_layBests_29 n k9 x1 x2 j x3 x4 a = some q → V K (sM g) 6 a [(0, .ref (aM g 0)), (1, .int x1), (2, .int x2), (3, .int x3), (4, .int x4)] 29 [] := by
    intro x1 x2 k9 hk9 j
    induction j with
    | zero =>
      intro x3 x4 a hf
      have hf : (none : Option St) = some q := hf
      cases hf
    | succ j ih =>
      intro x3 x4 a hf
      rw [L_X6_layBests_29] at hf
      refine xv_iload C dX6_layBests_29 4 rfl ?_
      refine xv_aload_n C dX6_layBests_31 rfl 0 rfl ?_
      refine xv_get C hiX6 0 (wM0 g _) rfl 6 (by decide) (List.mem_of_getElem? (i := 2) rfl) rfl dX6_layBests_32 ?_
      refine xv_icmp_ge C 67 hf dX6_layBests_35 (by decide) (fun _ hf => ?_) (fun _ hf => ?_)
      · refine xv_eq [0, 1, 3] rfl ?_
        exact hB67 x1 x3 k9 hk9 a hf
      · refine xv_aload_n C dX6_layBests_38 rfl 0 rfl ?_
        refine xv_iload_n C dX6_layBests_39 rfl 1 rfl ?_
        refine xv_iload_n C dX6_layBests_40 rfl 2 rfl ?_
        refine xv_iload C dX6_layBests_41 4 rfl ?_
        obtain ⟨q2, hg, hf⟩ := dt_bind hf
        refine xc_i (xr_V C (ci := 6) (As := [.int x1, .int x2, .int x4]) (fun l => c_X6_withOf g hS l n x1 x2 x4 a q2 hg) gX6_layBests_X6_withOf rfl ⟨rfl, rfl⟩ hdV_X6_withOf ⟨Nat.le_of_ble_eq_true rfl, Nat.le_of_ble_eq_true rfl⟩ 0 rfl rfl (wM0 g _) rfl rfl (Nat.le_of_ble_eq_true rfl) dX6_layBests_43) ?_
        refine xv_istore C [(5, .int q2), (0, .ref (aM g 0)), (1, .int x1), (2, .int x2), (3, .int x3), (4, .int x4)] dX6_layBests_46 (by decide) rfl ?_
        refine xv_iload C dX6_layBests_48 0 rfl ?_
        refine xv_iload_n C dX6_layBests_50 rfl 4 rfl ?_
        refine xv_icmp_le C 59 hf dX6_layBests_51 (by decide) (fun _ hf => ?_) (fun _ hf => ?_)
        · refine xv_iload_n C dX6_layBests_59 rfl 4 rfl ?_
          refine xv_istore_n C [(3, .int x3), (5, .int q2), (0, .ref (aM g 0)), (1, .int x1), (2, .int x2), (4, .int x4)] dX6_layBests_60 rfl (by decide) rfl ?_
          refine xv_iinc C [(4, .int (x4 + 1)), (3, .int x3), (5, .int q2), (0, .ref (aM g 0)), (1, .int x1), (2, .int x2)] dX6_layBests_61 5 rfl rfl (by decide) rfl ?_
          refine xv_goto C 29 dX6_layBests_64 (by decide) ?_
          refine xv_eq [3, 4, 5, 1, 0] rfl ?_
          exact ih x3 (x4 + 1) a hf
        · refine xv_iload C dX6_layBests_54 0 rfl ?_
          refine xv_goto C 60 dX6_layBests_56 (by decide) ?_
          refine xv_istore_n C [(3, .int q2), (5, .int q2), (0, .ref (aM g 0)), (1, .int x1), (2, .int x2), (4, .int x4)] dX6_layBests_60 rfl (by decide) rfl ?_
          refine xv_iinc C [(4, .int (x4 + 1)), (3, .int q2), (5, .int q2), (0, .ref (aM g 0)), (1, .int x1), (2, .int x2)] dX6_layBests_61 5 rfl rfl (by decide) rfl ?_
          refine xv_goto C 29 dX6_layBests_64 (by decide) ?_
          refine xv_eq [3, 4, 5, 1, 0] rfl ?_
          exact ih q2 (x4 + 1) a hf
  have hL9 : ∀  (j : Nat) (x1 : Int32) (a : St), L_X6_layBests_9 n j x1 a = some q → V K (sM g) 6 a [(0, .ref (aM g 0)), (1, .int x1)] 9 [] := by
    intro j
    induction j with
    | zero =>
      intro x1 a hf
      have hf : (none : Option St) = some q := hf
      cases hf
    | succ j ih =>
      intro x1 a hf
      rw [L_X6_layBests_9] at hf
      refine xv_iload_n C dX6_layBests_9 rfl 1 rfl ?_
      refine xv_iconst C 1 dX6_layBests_10 (by decide) ?_
      refine xv_aload_n C dX6_layBests_11 rfl 0 rfl ?_
      refine xv_get C hiX6 0 (wM0 g _) rfl 6 (by decide) (List.mem_of_getElem? (i := 2) rfl) rfl dX6_layBests_12 ?_
      refine xv_ishl C dX6_layBests_15 ?_
      refine xv_icmp_ge C 80 hf dX6_layBests_16 (by decide) (fun _ hf => ?_) (fun _ hf => ?_)
      · exact xz_v hret hf dX6_layBests_80
      · refine xv_iload_n C dX6_layBests_19 rfl 1 rfl ?_
        obtain ⟨q1, hg, hf⟩ := dt_bind hf
        refine xc_i (xr_S C (As := [.int x1]) (fun l => c_X6_leastOf (sM g) hS l n x1 a q1 hg) gX6_layBests_X6_leastOf rfl ⟨rfl, rfl⟩ hdS_X6_leastOf ⟨Nat.le_of_ble_eq_true rfl, Nat.le_of_ble_eq_true rfl⟩ rfl rfl (Nat.le_of_ble_eq_true rfl) dX6_layBests_20) ?_
        refine xv_istore_n C [(2, .int q1), (0, .ref (aM g 0)), (1, .int x1)] dX6_layBests_23 rfl (by decide) rfl ?_
        refine xv_iconst C (-1) dX6_layBests_24 (by decide) ?_
        refine xv_istore_n C [(3, .int (-1)), (2, .int q1), (0, .ref (aM g 0)), (1, .int x1)] dX6_layBests_25 rfl (by decide) rfl ?_
        refine xv_iload_n C dX6_layBests_26 rfl 1 rfl ?_
        refine xv_istore C [(4, .int q1), (3, .int (-1)), (2, .int q1), (0, .ref (aM g 0)), (1, .int x1)] dX6_layBests_27 (by decide) rfl ?_
        refine xv_eq [3, 4, 2, 1, 0] rfl ?_
        exact hL29 x1 q1 (L_X6_layBests_9 n j) ih n (-1) q1 a hf
  rw [f_X6_layBests] at hf
  show V K (sM g) 6 a [(0, .ref (aM g 0))] 0 []
  refine xv_aload_n C dX6_layBests_0 rfl 0 rfl ?_
  refine xv_get C hiX6 0 (wM0 g _) rfl 23 (by decide) (List.mem_of_getElem? (i := 1) rfl) rfl dX6_layBests_1 ?_
  refine xv_iconst C 0 dX6_layBests_4 (by decide) ?_
  refine xv_iconst C 0 dX6_layBests_5 (by decide) ?_
  refine xv_iast C 12 0 (wM12 g _) rfl (up a 12 ((0 : Int32).toNatClampNeg) 0) (pM12 g _ _ _) (B := some ()) (w := ()) (by decide) dX6_layBests_6 (fun _ => ?_)
  refine xv_iconst C 1 dX6_layBests_7 (by decide) ?_
  refine xv_istore_n C [(1, .int 1), (0, .ref (aM g 0))] dX6_layBests_8 rfl (by decide) rfl ?_
  refine xv_eq [1, 0] rfl ?_
  exact hL9 n 1 (up a 12 ((0 : Int32).toNatClampNeg) 0) hf
set_option maxRecDepth 100000 in
set_option maxHeartbeats 4000000 in
theorem c_X6_partnerOf (g : GM) (hS : xSide (sM g)) (l : Launch) (n : Nat) (x1 : Int32) (a : St) (q : Int32) (hf : f_X6_partnerOf n x1 a = some q) : Met l yX6_partnerOf wsX6_partnerOf rm_X6_partnerOf (xPre (sM g) [.ref (aM g 0), .int x1] a) (xPostI (sM g) q a) 0 0 (sM g).2.2.1 := by
  refine xm_i (av := [.ref (aM g 0), .int x1]) (cc := cX6_partnerOf) (maxL := 4) (by decide) rfl (Nat.le_of_ble_eq_true rfl) hS.1 hS.2 (fun K C hret => ?_)
  have C : CC K (sM g) cX6_partnerOf 4 wsX6_partnerOf RX6 rm_X6_partnerOf := C
  have hiX6 : ∀ w ∈ u_ws RX6 TX6 26, w ∈ wsX6_partnerOf := fun w h => List.mem_cons_of_mem _ (List.mem_append_right _ h)
  have hL9 : ∀ (x1 : Int32) (x2 : Int32)  (j : Nat) (x3 : Int32), L_X6_partnerOf_9 n x1 x2 a j x3 = some q → V K (sM g) 4 a [(0, .ref (aM g 0)), (1, .int x1), (2, .int x2), (3, .int x3)] 9 [] := by
    intro x1 x2 j
    induction j with
    | zero =>
      intro x3 hf
      have hf : (none : Option Int32) = some q := hf
      cases hf
    | succ j ih =>
      intro x3 hf
      rw [L_X6_partnerOf_9] at hf
      refine xv_iload_n C dX6_partnerOf_9 rfl 3 rfl ?_
      refine xv_aload_n C dX6_partnerOf_10 rfl 0 rfl ?_
      refine xv_get C hiX6 0 (wM0 g _) rfl 6 (by decide) (List.mem_of_getElem? (i := 1) rfl) rfl dX6_partnerOf_11 ?_
      refine xv_icmp_ge C 41 hf dX6_partnerOf_14 (by decide) (fun _ hf => ?_) (fun _ hf => ?_)
      · refine xv_iload_n C dX6_partnerOf_41 rfl 2 rfl ?_
        exact xz_ir hret hf dX6_partnerOf_42
      · refine xv_aload_n C dX6_partnerOf_17 rfl 0 rfl ?_
        refine xv_iload_n C dX6_partnerOf_18 rfl 1 rfl ?_
        refine xv_iload_n C dX6_partnerOf_19 rfl 2 rfl ?_
        refine xv_iload_n C dX6_partnerOf_20 rfl 3 rfl ?_
        obtain ⟨q2, hg, hf⟩ := dt_bind hf
        refine xc_i (xr_V C (ci := 6) (As := [.int x1, .int x2, .int x3]) (fun l => c_X6_withOf g hS l n x1 x2 x3 a q2 hg) gX6_partnerOf_X6_withOf rfl ⟨rfl, rfl⟩ hdV_X6_withOf ⟨Nat.le_of_ble_eq_true rfl, Nat.le_of_ble_eq_true rfl⟩ 0 rfl rfl (wM0 g _) rfl rfl (Nat.le_of_ble_eq_true rfl) dX6_partnerOf_21) ?_
        refine xv_aload_n C dX6_partnerOf_24 rfl 0 rfl ?_
        refine xv_get C hiX6 0 (wM0 g _) rfl 23 (by decide) (List.mem_of_getElem? (i := 2) rfl) rfl dX6_partnerOf_25 ?_
        refine xv_iload_n C dX6_partnerOf_28 rfl 1 rfl ?_
        refine xv_iald C 12 0 (wM12 g _) rfl hf dX6_partnerOf_29 (fun hf => ?_)
        refine xv_icmp_ne C 35 hf dX6_partnerOf_30 (by decide) (fun _ hf => ?_) (fun _ hf => ?_)
        · refine xv_iload_n C dX6_partnerOf_33 rfl 3 rfl ?_
          exact xz_ir hret hf dX6_partnerOf_34
        · refine xv_iinc C [(3, .int (x3 + 1)), (0, .ref (aM g 0)), (1, .int x1), (2, .int x2)] dX6_partnerOf_35 3 rfl rfl (by decide) rfl ?_
          refine xv_goto C 9 dX6_partnerOf_38 (by decide) ?_
          refine xv_eq [1, 2, 3, 0] rfl ?_
          exact ih (x3 + 1) hf
  rw [f_X6_partnerOf] at hf
  show V K (sM g) 4 a [(0, .ref (aM g 0)), (1, .int x1)] 0 []
  refine xv_iload_n C dX6_partnerOf_0 rfl 1 rfl ?_
  obtain ⟨q1, hg, hf⟩ := dt_bind hf
  refine xc_i (xr_S C (As := [.int x1]) (fun l => c_X6_leastOf (sM g) hS l n x1 a q1 hg) gX6_partnerOf_X6_leastOf rfl ⟨rfl, rfl⟩ hdS_X6_leastOf ⟨Nat.le_of_ble_eq_true rfl, Nat.le_of_ble_eq_true rfl⟩ rfl rfl (Nat.le_of_ble_eq_true rfl) dX6_partnerOf_1) ?_
  refine xv_istore_n C [(2, .int q1), (0, .ref (aM g 0)), (1, .int x1)] dX6_partnerOf_4 rfl (by decide) rfl ?_
  refine xv_iload_n C dX6_partnerOf_5 rfl 0 rfl ?_
  refine xv_iconst C 1 dX6_partnerOf_6 (by decide) ?_
  refine xv_iadd C dX6_partnerOf_7 ?_
  refine xv_istore_n C [(3, .int (q1 + 1)), (2, .int q1), (0, .ref (aM g 0)), (1, .int x1)] dX6_partnerOf_8 rfl (by decide) rfl ?_
  refine xv_eq [2, 3, 1, 0] rfl ?_
  exact hL9 x1 q1 n (q1 + 1) hf
set_option maxRecDepth 100000 in
set_option maxHeartbeats 4000000 in
theorem c_X6_pair (g : GM) (hS : xSide (sM g)) (l : Launch) (n : Nat) (x1 : Int32) (a : St) (q : (Int32 × St)) (hf : f_X6_pair n x1 a = some q) : Met l yX6_pair wsX6_pair rm_X6_pair (xPre (sM g) [.ref (aM g 0), .int x1] a) (xPostI (sM g) q.1 q.2) 0 0 (sM g).2.2.1 := by
  refine xm_i (av := [.ref (aM g 0), .int x1]) (cc := cX6_pair) (maxL := 5) (by decide) rfl (Nat.le_of_ble_eq_true rfl) hS.1 hS.2 (fun K C hret => ?_)
  have C : CC K (sM g) cX6_pair 5 wsX6_pair RX6 rm_X6_pair := C
  have hiX6 : ∀ w ∈ u_ws RX6 TX6 26, w ∈ wsX6_pair := fun w h => List.mem_cons_of_mem _ (List.mem_append_right _ h)
  have hB68 : ∀ (x1 : Int32) (x3 : Int32) (x4 : Int32)  (a : St), B_X6_pair_68 n x1 x3 x4 a = some q → V K (sM g) 5 a [(1, .int x1), (3, .int x3), (4, .int x4)] 68 [] := by
    intro x1 x3 x4 a hf
    rw [B_X6_pair_68] at hf
    refine xv_iload_n C dX6_pair_68 rfl 1 rfl ?_
    refine xv_iload C dX6_pair_69 2 rfl ?_
    refine xv_icmp_ne C 78 hf dX6_pair_71 (by decide) (fun _ hf => ?_) (fun _ hf => ?_)
    · refine xv_iconst C (-1) dX6_pair_74 (by decide) ?_
      refine xv_goto C 89 dX6_pair_75 (by decide) ?_
      exact xz_iw hret hf dX6_pair_89
    · refine xv_iload_n C dX6_pair_78 rfl 1 rfl ?_
      refine xv_iload_n C dX6_pair_79 rfl 0 rfl ?_
      refine xv_icmp_ne C 88 hf dX6_pair_80 (by decide) (fun _ hf => ?_) (fun _ hf => ?_)
      · refine xv_iload C dX6_pair_83 2 rfl ?_
        refine xv_goto C 89 dX6_pair_85 (by decide) ?_
        exact xz_iw hret hf dX6_pair_89
      · refine xv_iload_n C dX6_pair_88 rfl 1 rfl ?_
        exact xz_iw hret hf dX6_pair_89
  have hL41 : ∀ (x1 : Int32)  (j : Nat) (x2 : Int32) (a : St), L_X6_pair_41 n x1 j x2 a = some q → V K (sM g) 5 a [(0, .ref (aM g 0)), (1, .int x1), (2, .int x2)] 41 [] := by
    intro x1 j
    induction j with
    | zero =>
      intro x2 a hf
      have hf : (none : Option (Int32 × St)) = some q := hf
      cases hf
    | succ j ih =>
      intro x2 a hf
      rw [L_X6_pair_41] at hf
      refine xv_iload_n C dX6_pair_41 rfl 2 rfl ?_
      refine xv_if_eq C (y := 0) 106 hf dX6_pair_42 (by decide) (fun _ hf => ?_) (fun _ hf => ?_)
      · refine xv_iconst C (-1) dX6_pair_106 (by decide) ?_
        exact xz_iw hret hf dX6_pair_107
      · refine xv_iload_n C dX6_pair_45 rfl 2 rfl ?_
        obtain ⟨q2, hg, hf⟩ := dt_bind hf
        refine xc_i (xr_S C (As := [.int x2]) (fun l => c_X6_leastOf (sM g) hS l n x2 a q2 hg) gX6_pair_X6_leastOf rfl ⟨rfl, rfl⟩ hdS_X6_leastOf ⟨Nat.le_of_ble_eq_true rfl, Nat.le_of_ble_eq_true rfl⟩ rfl rfl (Nat.le_of_ble_eq_true rfl) dX6_pair_46) ?_
        refine xv_istore_n C [(3, .int q2), (0, .ref (aM g 0)), (1, .int x1), (2, .int x2)] dX6_pair_49 rfl (by decide) rfl ?_
        refine xv_aload_n C dX6_pair_50 rfl 1 rfl ?_
        refine xv_iload_n C dX6_pair_51 rfl 3 rfl ?_
        obtain ⟨q3, hg, hf⟩ := dt_bind hf
        refine xc_i (xr_V C (ci := 6) (As := [.int x2]) (fun l => c_X6_partnerOf g hS l n x2 a q3 hg) gX6_pair_X6_partnerOf rfl ⟨rfl, rfl⟩ hdV_X6_partnerOf ⟨Nat.le_of_ble_eq_true rfl, Nat.le_of_ble_eq_true rfl⟩ 0 rfl rfl (wM0 g _) rfl rfl (Nat.le_of_ble_eq_true rfl) dX6_pair_52) ?_
        refine xv_istore C [(4, .int q3), (3, .int q2), (0, .ref (aM g 0)), (1, .int x1), (2, .int x2)] dX6_pair_55 (by decide) rfl ?_
        refine xv_iload_n C dX6_pair_57 rfl 1 rfl ?_
        refine xv_iload_n C dX6_pair_58 rfl 3 rfl ?_
        refine xv_icmp_eq C 68 hf dX6_pair_59 (by decide) (fun _ hf => ?_) (fun _ hf => ?_)
        · refine xv_eq [3, 1, 0] rfl ?_
          exact hB68 x1 q2 q3 a hf
        · refine xv_iload C dX6_pair_62 0 rfl ?_
          refine xv_iload_n C dX6_pair_64 rfl 3 rfl ?_
          refine xv_icmp_ne C 90 hf dX6_pair_65 (by decide) (fun _ hf => ?_) (fun _ hf => ?_)
          · refine xv_eq [3, 1, 0] rfl ?_
            exact hB68 x1 q2 q3 a hf
          · refine xv_iload_n C dX6_pair_90 rfl 4 rfl ?_
            refine xv_iconst C 1 dX6_pair_91 (by decide) ?_
            refine xv_iload_n C dX6_pair_92 rfl 1 rfl ?_
            refine xv_ishl C dX6_pair_93 ?_
            refine xv_iconst C 1 dX6_pair_94 (by decide) ?_
            refine xv_iload C dX6_pair_95 0 rfl ?_
            refine xv_ishl C dX6_pair_97 ?_
            refine xv_ior C dX6_pair_98 ?_
            refine xv_iconst C (-1) dX6_pair_99 (by decide) ?_
            refine xv_ixor C dX6_pair_100 ?_
            refine xv_iand C dX6_pair_101 ?_
            refine xv_istore_n C [(2, .int (x2 &&& ((((1 : Int32) <<< (q2 &&& 31)) ||| ((1 : Int32) <<< (q3 &&& 31))) ^^^ (-1)))), (4, .int q3), (3, .int q2), (0, .ref (aM g 0)), (1, .int x1)] dX6_pair_102 rfl (by decide) rfl ?_
            refine xv_goto C 41 dX6_pair_103 (by decide) ?_
            refine xv_eq [3, 4, 0] rfl ?_
            exact ih (x2 &&& ((((1 : Int32) <<< (q2 &&& 31)) ||| ((1 : Int32) <<< (q3 &&& 31))) ^^^ (-1))) a hf
  rw [f_X6_pair] at hf
  show V K (sM g) 5 a [(0, .ref (aM g 0)), (1, .int x1)] 0 []
  refine xv_iload_n C dX6_pair_0 rfl 1 rfl ?_
  refine xv_iconst C (-1) dX6_pair_1 (by decide) ?_
  refine xv_icmp_eq C 16 hf dX6_pair_2 (by decide) (fun _ hf => ?_) (fun _ hf => ?_)
  · refine xv_aload_n C dX6_pair_16 rfl 0 rfl ?_
    obtain ⟨q1, hg, hf⟩ := dt_bind hf
    refine xc_v (xr_V C (ci := 6) (As := []) (fun l => c_X6_layBests g hS l n a q1 hg) gX6_pair_X6_layBests rfl ⟨rfl, rfl⟩ hdV_X6_layBests ⟨Nat.le_of_ble_eq_true rfl, Nat.le_of_ble_eq_true rfl⟩ 0 rfl rfl (wM0 g _) rfl rfl (Nat.le_of_ble_eq_true rfl) dX6_pair_17) ?_
    refine xv_iconst C 1 dX6_pair_20 (by decide) ?_
    refine xv_aload_n C dX6_pair_21 rfl 0 rfl ?_
    refine xv_get C hiX6 0 (wM0 g _) rfl 6 (by decide) (List.mem_of_getElem? (i := 1) rfl) rfl dX6_pair_22 ?_
    refine xv_ishl C dX6_pair_25 ?_
    refine xv_iconst C 1 dX6_pair_26 (by decide) ?_
    refine xv_isub C dX6_pair_27 ?_
    refine xv_istore_n C [(2, .int (((1 : Int32) <<< ((q1 0 6) &&& 31)) - 1)), (0, .ref (aM g 0)), (1, .int x1)] dX6_pair_28 rfl (by decide) rfl ?_
    refine xv_iload_n C dX6_pair_29 rfl 2 rfl ?_
    refine xv_iconst C (-1) dX6_pair_30 (by decide) ?_
    refine xv_icmp_ne C 41 hf dX6_pair_31 (by decide) (fun _ hf => ?_) (fun _ hf => ?_)
    · refine xv_aload_n C dX6_pair_34 rfl 1 rfl ?_
      refine xv_get C hiX6 0 (wM0 g _) rfl 23 (by decide) (List.mem_of_getElem? (i := 2) rfl) rfl dX6_pair_35 ?_
      refine xv_iload_n C dX6_pair_38 rfl 0 rfl ?_
      refine xv_iald C 12 0 (wM12 g _) rfl hf dX6_pair_39 (fun hf => ?_)
      exact xz_iw hret hf dX6_pair_40
    · refine xv_eq [1, 2, 0] rfl ?_
      exact hL41 x1 n (((1 : Int32) <<< ((q1 0 6) &&& 31)) - 1) q1 hf
  · refine xv_aload_n C dX6_pair_5 rfl 0 rfl ?_
    refine xv_iload_n C dX6_pair_6 rfl 1 rfl ?_
    obtain ⟨q4, hg, hf⟩ := dt_bind hf
    refine xc_i (xr_V C (ci := 6) (As := [.int x1]) (fun l => c_X6_isHouse g hS l x1 a q4 hg) gX6_pair_X6_isHouse rfl ⟨rfl, rfl⟩ hdV_X6_isHouse ⟨Nat.le_of_ble_eq_true rfl, Nat.le_of_ble_eq_true rfl⟩ 0 rfl rfl (wM0 g _) rfl rfl (Nat.le_of_ble_eq_true rfl) dX6_pair_7) ?_
    refine xv_if_ne C (y := 0) 16 hf dX6_pair_10 (by decide) (fun _ hf => ?_) (fun _ hf => ?_)
    · refine xv_bipush C (-2) dX6_pair_13 (by decide) ?_
      exact xz_iw hret hf dX6_pair_15
    · refine xv_aload_n C dX6_pair_16 rfl 0 rfl ?_
      obtain ⟨q5, hg, hf⟩ := dt_bind hf
      refine xc_v (xr_V C (ci := 6) (As := []) (fun l => c_X6_layBests g hS l n a q5 hg) gX6_pair_X6_layBests rfl ⟨rfl, rfl⟩ hdV_X6_layBests ⟨Nat.le_of_ble_eq_true rfl, Nat.le_of_ble_eq_true rfl⟩ 0 rfl rfl (wM0 g _) rfl rfl (Nat.le_of_ble_eq_true rfl) dX6_pair_17) ?_
      refine xv_iconst C 1 dX6_pair_20 (by decide) ?_
      refine xv_aload_n C dX6_pair_21 rfl 0 rfl ?_
      refine xv_get C hiX6 0 (wM0 g _) rfl 6 (by decide) (List.mem_of_getElem? (i := 1) rfl) rfl dX6_pair_22 ?_
      refine xv_ishl C dX6_pair_25 ?_
      refine xv_iconst C 1 dX6_pair_26 (by decide) ?_
      refine xv_isub C dX6_pair_27 ?_
      refine xv_istore_n C [(2, .int (((1 : Int32) <<< ((q5 0 6) &&& 31)) - 1)), (0, .ref (aM g 0)), (1, .int x1)] dX6_pair_28 rfl (by decide) rfl ?_
      refine xv_iload_n C dX6_pair_29 rfl 2 rfl ?_
      refine xv_iconst C (-1) dX6_pair_30 (by decide) ?_
      refine xv_icmp_ne C 41 hf dX6_pair_31 (by decide) (fun _ hf => ?_) (fun _ hf => ?_)
      · refine xv_aload_n C dX6_pair_34 rfl 1 rfl ?_
        refine xv_get C hiX6 0 (wM0 g _) rfl 23 (by decide) (List.mem_of_getElem? (i := 2) rfl) rfl dX6_pair_35 ?_
        refine xv_iload_n C dX6_pair_38 rfl 0 rfl ?_
        refine xv_iald C 12 0 (wM12 g _) rfl hf dX6_pair_39 (fun hf => ?_)
        exact xz_iw hret hf dX6_pair_40
      · refine xv_eq [1, 2, 0] rfl ?_
        exact hL41 x1 n (((1 : Int32) <<< ((q5 0 6) &&& 31)) - 1) q5 hf
set_option maxRecDepth 100000 in
set_option maxHeartbeats 4000000 in
theorem c_X6_town (g : GM) (hS : xSide (sM g)) (l : Launch) (n : Nat) (x1 : Int32) (a : St) (q : Int32) (hf : f_X6_town n x1 a = some q) : Met l yX6_town wsX6_town rm_X6_town (xPre (sM g) [.ref (aM g 0), .int x1] a) (xPostI (sM g) q a) 0 0 (sM g).2.2.1 := by
  refine xm_i (av := [.ref (aM g 0), .int x1]) (cc := cX6_town) (maxL := 10) (by decide) rfl (Nat.le_of_ble_eq_true rfl) hS.1 hS.2 (fun K C hret => ?_)
  have C : CC K (sM g) cX6_town 10 wsX6_town RX6 rm_X6_town := C
  have hiX6 : ∀ w ∈ u_ws RX6 TX6 26, w ∈ wsX6_town := fun w h => List.mem_cons_of_mem _ (List.mem_append_right _ h)
  have hB188 : ∀ (x1 : Int32) (x2 : Int32) (x3 : Int32) (x4 : Int32) , B_X6_town_188 n x1 x2 x3 x4 a = some q → V K (sM g) 10 a [(1, .int x1), (2, .int x2), (3, .int x3), (4, .int x4)] 188 [] := by
    intro x1 x2 x3 x4 hf
    rw [B_X6_town_188] at hf
    refine xv_iload_n C dX6_town_188 rfl 0 rfl ?_
    refine xv_if_ne C (y := 0) 196 hf dX6_town_189 (by decide) (fun _ hf => ?_) (fun _ hf => ?_)
    · refine xv_iload_n C dX6_town_192 rfl 1 rfl ?_
      refine xv_goto C 207 dX6_town_193 (by decide) ?_
      exact xz_ir hret hf dX6_town_207
    · refine xv_iload_n C dX6_town_196 rfl 0 rfl ?_
      refine xv_iconst C 1 dX6_town_197 (by decide) ?_
      refine xv_icmp_ne C 205 hf dX6_town_198 (by decide) (fun _ hf => ?_) (fun _ hf => ?_)
      · refine xv_iload_n C dX6_town_201 rfl 2 rfl ?_
        refine xv_goto C 207 dX6_town_202 (by decide) ?_
        exact xz_ir hret hf dX6_town_207
      · refine xv_iload C dX6_town_205 3 rfl ?_
        exact xz_ir hret hf dX6_town_207
  have hB151 : ∀ (x1 : Int32) (x2 : Int32) (x3 : Int32) (x4 : Int32) (x5 : Int32) (x6 : Int32) (x7 : Int32) (k25 : Int32 → Int32 → Int32 → Int32 → Option Int32) (hk25 : ∀ (y2 : Int32) (y3 : Int32) (y4 : Int32) (y5 : Int32), k25 y2 y3 y4 y5 = some q → V K (sM g) 10 a [(0, .ref (aM g 0)), (1, .int x1), (2, .int y2), (3, .int y3), (4, .int y4), (5, .int y5)] 25 []), B_X6_town_151 n k25 x1 x2 x3 x4 x5 x6 x7 a = some q → V K (sM g) 10 a [(0, .ref (aM g 0)), (1, .int x1), (2, .int x2), (3, .int x3), (4, .int x4), (5, .int x5), (6, .int x6), (7, .int x7)] 151 [] := by
    intro x1 x2 x3 x4 x5 x6 x7 k25 hk25 hf
    rw [B_X6_town_151] at hf
    refine xv_iload_n C dX6_town_151 rfl 2 rfl ?_
    refine xv_iload C dX6_town_152 6 rfl ?_
    refine xv_if_le C (y := 0) 166 hf dX6_town_154 (by decide) (fun _ hf => ?_) (fun _ hf => ?_)
    · refine xv_iconst C 0 dX6_town_166 (by decide) ?_
      refine xv_iadd C dX6_town_167 ?_
      refine xv_istore_n C [(2, .int (x2 + 0)), (0, .ref (aM g 0)), (1, .int x1), (3, .int x3), (4, .int x4), (5, .int x5), (6, .int x6), (7, .int x7)] dX6_town_168 rfl (by decide) rfl ?_
      refine xv_iload C dX6_town_169 6 rfl ?_
      refine xv_iload_n C dX6_town_171 rfl 3 rfl ?_
      refine xv_icmp_le C 180 hf dX6_town_172 (by decide) (fun _ hf => ?_) (fun _ hf => ?_)
      · refine xv_iload_n C dX6_town_180 rfl 3 rfl ?_
        refine xv_istore_n C [(3, .int x3), (2, .int (x2 + 0)), (0, .ref (aM g 0)), (1, .int x1), (4, .int x4), (5, .int x5), (6, .int x6), (7, .int x7)] dX6_town_181 rfl (by decide) rfl ?_
        refine xv_iinc C [(5, .int (x5 + 1)), (3, .int x3), (2, .int (x2 + 0)), (0, .ref (aM g 0)), (1, .int x1), (4, .int x4), (6, .int x6), (7, .int x7)] dX6_town_182 5 rfl rfl (by decide) rfl ?_
        refine xv_goto C 25 dX6_town_185 (by decide) ?_
        refine xv_eq [3, 4, 2, 1, 5, 0] rfl ?_
        exact hk25 (x2 + 0) x3 x4 (x5 + 1) hf
      · refine xv_iload C dX6_town_175 6 rfl ?_
        refine xv_goto C 181 dX6_town_177 (by decide) ?_
        refine xv_istore_n C [(3, .int x6), (2, .int (x2 + 0)), (0, .ref (aM g 0)), (1, .int x1), (4, .int x4), (5, .int x5), (6, .int x6), (7, .int x7)] dX6_town_181 rfl (by decide) rfl ?_
        refine xv_iinc C [(5, .int (x5 + 1)), (3, .int x6), (2, .int (x2 + 0)), (0, .ref (aM g 0)), (1, .int x1), (4, .int x4), (6, .int x6), (7, .int x7)] dX6_town_182 5 rfl rfl (by decide) rfl ?_
        refine xv_goto C 25 dX6_town_185 (by decide) ?_
        refine xv_eq [3, 4, 2, 1, 5, 0] rfl ?_
        exact hk25 (x2 + 0) x6 x4 (x5 + 1) hf
    · refine xv_iload C dX6_town_157 7 rfl ?_
      refine xv_if_eq C (y := 0) 166 hf dX6_town_159 (by decide) (fun _ hf => ?_) (fun _ hf => ?_)
      · refine xv_iconst C 0 dX6_town_166 (by decide) ?_
        refine xv_iadd C dX6_town_167 ?_
        refine xv_istore_n C [(2, .int (x2 + 0)), (0, .ref (aM g 0)), (1, .int x1), (3, .int x3), (4, .int x4), (5, .int x5), (6, .int x6), (7, .int x7)] dX6_town_168 rfl (by decide) rfl ?_
        refine xv_iload C dX6_town_169 6 rfl ?_
        refine xv_iload_n C dX6_town_171 rfl 3 rfl ?_
        refine xv_icmp_le C 180 hf dX6_town_172 (by decide) (fun _ hf => ?_) (fun _ hf => ?_)
        · refine xv_iload_n C dX6_town_180 rfl 3 rfl ?_
          refine xv_istore_n C [(3, .int x3), (2, .int (x2 + 0)), (0, .ref (aM g 0)), (1, .int x1), (4, .int x4), (5, .int x5), (6, .int x6), (7, .int x7)] dX6_town_181 rfl (by decide) rfl ?_
          refine xv_iinc C [(5, .int (x5 + 1)), (3, .int x3), (2, .int (x2 + 0)), (0, .ref (aM g 0)), (1, .int x1), (4, .int x4), (6, .int x6), (7, .int x7)] dX6_town_182 5 rfl rfl (by decide) rfl ?_
          refine xv_goto C 25 dX6_town_185 (by decide) ?_
          refine xv_eq [3, 4, 2, 1, 5, 0] rfl ?_
          exact hk25 (x2 + 0) x3 x4 (x5 + 1) hf
        · refine xv_iload C dX6_town_175 6 rfl ?_
          refine xv_goto C 181 dX6_town_177 (by decide) ?_
          refine xv_istore_n C [(3, .int x6), (2, .int (x2 + 0)), (0, .ref (aM g 0)), (1, .int x1), (4, .int x4), (5, .int x5), (6, .int x6), (7, .int x7)] dX6_town_181 rfl (by decide) rfl ?_
          refine xv_iinc C [(5, .int (x5 + 1)), (3, .int x6), (2, .int (x2 + 0)), (0, .ref (aM g 0)), (1, .int x1), (4, .int x4), (6, .int x6), (7, .int x7)] dX6_town_182 5 rfl rfl (by decide) rfl ?_
          refine xv_goto C 25 dX6_town_185 (by decide) ?_
          refine xv_eq [3, 4, 2, 1, 5, 0] rfl ?_
          exact hk25 (x2 + 0) x6 x4 (x5 + 1) hf
      · refine xv_iconst C 1 dX6_town_162 (by decide) ?_
        refine xv_goto C 167 dX6_town_163 (by decide) ?_
        refine xv_iadd C dX6_town_167 ?_
        refine xv_istore_n C [(2, .int (x2 + 1)), (0, .ref (aM g 0)), (1, .int x1), (3, .int x3), (4, .int x4), (5, .int x5), (6, .int x6), (7, .int x7)] dX6_town_168 rfl (by decide) rfl ?_
        refine xv_iload C dX6_town_169 6 rfl ?_
        refine xv_iload_n C dX6_town_171 rfl 3 rfl ?_
        refine xv_icmp_le C 180 hf dX6_town_172 (by decide) (fun _ hf => ?_) (fun _ hf => ?_)
        · refine xv_iload_n C dX6_town_180 rfl 3 rfl ?_
          refine xv_istore_n C [(3, .int x3), (2, .int (x2 + 1)), (0, .ref (aM g 0)), (1, .int x1), (4, .int x4), (5, .int x5), (6, .int x6), (7, .int x7)] dX6_town_181 rfl (by decide) rfl ?_
          refine xv_iinc C [(5, .int (x5 + 1)), (3, .int x3), (2, .int (x2 + 1)), (0, .ref (aM g 0)), (1, .int x1), (4, .int x4), (6, .int x6), (7, .int x7)] dX6_town_182 5 rfl rfl (by decide) rfl ?_
          refine xv_goto C 25 dX6_town_185 (by decide) ?_
          refine xv_eq [3, 4, 2, 1, 5, 0] rfl ?_
          exact hk25 (x2 + 1) x3 x4 (x5 + 1) hf
        · refine xv_iload C dX6_town_175 6 rfl ?_
          refine xv_goto C 181 dX6_town_177 (by decide) ?_
          refine xv_istore_n C [(3, .int x6), (2, .int (x2 + 1)), (0, .ref (aM g 0)), (1, .int x1), (4, .int x4), (5, .int x5), (6, .int x6), (7, .int x7)] dX6_town_181 rfl (by decide) rfl ?_
          refine xv_iinc C [(5, .int (x5 + 1)), (3, .int x6), (2, .int (x2 + 1)), (0, .ref (aM g 0)), (1, .int x1), (4, .int x4), (6, .int x6), (7, .int x7)] dX6_town_182 5 rfl rfl (by decide) rfl ?_
          refine xv_goto C 25 dX6_town_185 (by decide) ?_
          refine xv_eq [3, 4, 2, 1, 5, 0] rfl ?_
          exact hk25 (x2 + 1) x6 x4 (x5 + 1) hf
  have hL113 : ∀ (x1 : Int32) (x2 : Int32) (x3 : Int32) (x4 : Int32) (x5 : Int32) (x6 : Int32) (k25 : Int32 → Int32 → Int32 → Int32 → Option Int32) (hk25 : ∀ (y2 : Int32) (y3 : Int32) (y4 : Int32) (y5 : Int32), k25 y2 y3 y4 y5 = some q → V K (sM g) 10 a [(0, .ref (aM g 0)), (1, .int x1), (2, .int y2), (3, .int y3), (4, .int y4), (5, .int y5)] 25 []) (j : Nat) (x7 : Int32) (x8 : Int32), L_X6_town_113 n k25 x1 x2 x3 x4 x5 x6 a j x7 x8 = some q → V K (sM g) 10 a [(0, .ref (aM g 0)), (1, .int x1), (2, .int x2), (3, .int x3), (4, .int x4), (5, .int x5), (6, .int x6), (7, .int x7), (8, .int x8)] 113 [] := by
    intro x1 x2 x3 x4 x5 x6 k25 hk25 j
    induction j with
    | zero =>
      intro x7 x8 hf
      have hf : (none : Option Int32) = some q := hf
      cases hf
    | succ j ih =>
      intro x7 x8 hf
      rw [L_X6_town_113] at hf
      refine xv_iload C dX6_town_113 8 rfl ?_
      refine xv_iload C dX6_town_115 6 rfl ?_
      refine xv_icmp_ge C 151 hf dX6_town_117 (by decide) (fun _ hf => ?_) (fun _ hf => ?_)
      · refine xv_eq [0, 1, 2, 3, 4, 5, 6, 7] rfl ?_
        exact hB151 x1 x2 x3 x4 x5 x6 x7 k25 hk25 hf
      · refine xv_iload C dX6_town_120 7 rfl ?_
        refine xv_if_eq C (y := 0) 142 hf dX6_town_122 (by decide) (fun _ hf => ?_) (fun _ hf => ?_)
        · refine xv_iconst C 0 dX6_town_142 (by decide) ?_
          refine xv_istore C [(7, .int 0), (0, .ref (aM g 0)), (1, .int x1), (2, .int x2), (3, .int x3), (4, .int x4), (5, .int x5), (6, .int x6), (8, .int x8)] dX6_town_143 (by decide) rfl ?_
          refine xv_iinc C [(8, .int (x8 + 1)), (7, .int 0), (0, .ref (aM g 0)), (1, .int x1), (2, .int x2), (3, .int x3), (4, .int x4), (5, .int x5), (6, .int x6)] dX6_town_145 8 rfl rfl (by decide) rfl ?_
          refine xv_goto C 113 dX6_town_148 (by decide) ?_
          refine xv_eq [2, 3, 4, 5, 6, 7, 8, 1, 0] rfl ?_
          exact ih 0 (x8 + 1) hf
        · refine xv_aload_n C dX6_town_125 rfl 0 rfl ?_
          refine xv_iload C dX6_town_126 5 rfl ?_
          refine xv_iload C dX6_town_128 8 rfl ?_
          obtain ⟨q3, hg, hf⟩ := dt_bind hf
          refine xc_i (xr_V C (ci := 6) (As := [.int x5, .int x8]) (fun l => c_X6_wayEnd g hS l n x5 x8 a q3 hg) gX6_town_X6_wayEnd rfl ⟨rfl, rfl⟩ hdV_X6_wayEnd ⟨Nat.le_of_ble_eq_true rfl, Nat.le_of_ble_eq_true rfl⟩ 0 rfl rfl (wM0 g _) rfl rfl (Nat.le_of_ble_eq_true rfl) dX6_town_130) ?_
          refine xv_iload C dX6_town_133 5 rfl ?_
          refine xv_icmp_lt C 142 hf dX6_town_135 (by decide) (fun _ hf => ?_) (fun _ hf => ?_)
          · refine xv_iconst C 0 dX6_town_142 (by decide) ?_
            refine xv_istore C [(7, .int 0), (0, .ref (aM g 0)), (1, .int x1), (2, .int x2), (3, .int x3), (4, .int x4), (5, .int x5), (6, .int x6), (8, .int x8)] dX6_town_143 (by decide) rfl ?_
            refine xv_iinc C [(8, .int (x8 + 1)), (7, .int 0), (0, .ref (aM g 0)), (1, .int x1), (2, .int x2), (3, .int x3), (4, .int x4), (5, .int x5), (6, .int x6)] dX6_town_145 8 rfl rfl (by decide) rfl ?_
            refine xv_goto C 113 dX6_town_148 (by decide) ?_
            refine xv_eq [2, 3, 4, 5, 6, 7, 8, 1, 0] rfl ?_
            exact ih 0 (x8 + 1) hf
          · refine xv_iconst C 1 dX6_town_138 (by decide) ?_
            refine xv_goto C 143 dX6_town_139 (by decide) ?_
            refine xv_istore C [(7, .int 1), (0, .ref (aM g 0)), (1, .int x1), (2, .int x2), (3, .int x3), (4, .int x4), (5, .int x5), (6, .int x6), (8, .int x8)] dX6_town_143 (by decide) rfl ?_
            refine xv_iinc C [(8, .int (x8 + 1)), (7, .int 1), (0, .ref (aM g 0)), (1, .int x1), (2, .int x2), (3, .int x3), (4, .int x4), (5, .int x5), (6, .int x6)] dX6_town_145 8 rfl rfl (by decide) rfl ?_
            refine xv_goto C 113 dX6_town_148 (by decide) ?_
            refine xv_eq [2, 3, 4, 5, 6, 7, 8, 1, 0] rfl ?_
            exact ih 1 (x8 + 1) hf
  have hB110 : ∀ (x1 : Int32) (x2 : Int32) (x3 : Int32) (x4 : Int32) (x5 : Int32) (x6 : Int32) (x7 : Int32) (k25 : Int32 → Int32 → Int32 → Int32 → Option Int32) (hk25 : ∀ (y2 : Int32) (y3 : Int32) (y4 : Int32) (y5 : Int32), k25 y2 y3 y4 y5 = some q → V K (sM g) 10 a [(0, .ref (aM g 0)), (1, .int x1), (2, .int y2), (3, .int y3), (4, .int y4), (5, .int y5)] 25 []), B_X6_town_110 n k25 x1 x2 x3 x4 x5 x6 x7 a = some q → V K (sM g) 10 a [(0, .ref (aM g 0)), (1, .int x1), (2, .int x2), (3, .int x3), (4, .int x4), (5, .int x5), (6, .int x6), (7, .int x7)] 110 [] := by
    intro x1 x2 x3 x4 x5 x6 x7 k25 hk25 hf
    rw [B_X6_town_110] at hf
    refine xv_iconst C 0 dX6_town_110 (by decide) ?_
    refine xv_istore C [(8, .int 0), (0, .ref (aM g 0)), (1, .int x1), (2, .int x2), (3, .int x3), (4, .int x4), (5, .int x5), (6, .int x6), (7, .int x7)] dX6_town_111 (by decide) rfl ?_
    refine xv_eq [1, 2, 3, 4, 5, 6, 7, 8, 0] rfl ?_
    exact hL113 x1 x2 x3 x4 x5 x6 k25 hk25 n x7 0 hf
  have hL73 : ∀ (x1 : Int32) (x2 : Int32) (x3 : Int32) (x4 : Int32) (x5 : Int32) (x7 : Int32) (k25 : Int32 → Int32 → Int32 → Int32 → Option Int32) (hk25 : ∀ (y2 : Int32) (y3 : Int32) (y4 : Int32) (y5 : Int32), k25 y2 y3 y4 y5 = some q → V K (sM g) 10 a [(0, .ref (aM g 0)), (1, .int x1), (2, .int y2), (3, .int y3), (4, .int y4), (5, .int y5)] 25 []) (j : Nat) (x6 : Int32) (x8 : Int32), L_X6_town_73 n k25 x1 x2 x3 x4 x5 x7 a j x6 x8 = some q → V K (sM g) 10 a [(0, .ref (aM g 0)), (1, .int x1), (2, .int x2), (3, .int x3), (4, .int x4), (5, .int x5), (6, .int x6), (7, .int x7), (8, .int x8)] 73 [] := by
    intro x1 x2 x3 x4 x5 x7 k25 hk25 j
    induction j with
    | zero =>
      intro x6 x8 hf
      have hf : (none : Option Int32) = some q := hf
      cases hf
    | succ j ih =>
      intro x6 x8 hf
      rw [L_X6_town_73] at hf
      refine xv_iload C dX6_town_73 8 rfl ?_
      refine xv_if_le C (y := 0) 110 hf dX6_town_75 (by decide) (fun _ hf => ?_) (fun _ hf => ?_)
      · refine xv_eq [0, 1, 2, 3, 4, 5, 6, 7] rfl ?_
        exact hB110 x1 x2 x3 x4 x5 x6 x7 k25 hk25 hf
      · refine xv_aload_n C dX6_town_78 rfl 0 rfl ?_
        refine xv_iload C dX6_town_79 5 rfl ?_
        refine xv_iload C dX6_town_81 8 rfl ?_
        obtain ⟨q4, hg, hf⟩ := dt_bind hf
        refine xc_i (xr_V C (ci := 6) (As := [.int x5, .int x8]) (fun l => c_X6_wayEnd g hS l n x5 x8 a q4 hg) gX6_town_X6_wayEnd rfl ⟨rfl, rfl⟩ hdV_X6_wayEnd ⟨Nat.le_of_ble_eq_true rfl, Nat.le_of_ble_eq_true rfl⟩ 0 rfl rfl (wM0 g _) rfl rfl (Nat.le_of_ble_eq_true rfl) dX6_town_83) ?_
        refine xv_istore C [(9, .int q4), (0, .ref (aM g 0)), (1, .int x1), (2, .int x2), (3, .int x3), (4, .int x4), (5, .int x5), (6, .int x6), (7, .int x7), (8, .int x8)] dX6_town_86 (by decide) rfl ?_
        refine xv_iload C dX6_town_88 0 rfl ?_
        refine xv_iload C dX6_town_90 6 rfl ?_
        refine xv_icmp_ne C 100 hf dX6_town_92 (by decide) (fun _ hf => ?_) (fun _ hf => ?_)
        · refine xv_iload C dX6_town_95 9 rfl ?_
          refine xv_goto C 102 dX6_town_97 (by decide) ?_
          refine xv_istore C [(6, .int x8), (9, .int q4), (0, .ref (aM g 0)), (1, .int x1), (2, .int x2), (3, .int x3), (4, .int x4), (5, .int x5), (7, .int x7), (8, .int x8)] dX6_town_102 (by decide) rfl ?_
          refine xv_iinc C [(8, .int (x8 + (-1))), (6, .int x8), (9, .int q4), (0, .ref (aM g 0)), (1, .int x1), (2, .int x2), (3, .int x3), (4, .int x4), (5, .int x5), (7, .int x7)] dX6_town_104 9 rfl rfl (by decide) rfl ?_
          refine xv_goto C 73 dX6_town_107 (by decide) ?_
          refine xv_eq [3, 4, 5, 6, 7, 8, 1, 9, 0] rfl ?_
          exact ih x8 (x8 + (-1)) hf
        · refine xv_iload C dX6_town_100 7 rfl ?_
          refine xv_istore C [(6, .int x6), (9, .int q4), (0, .ref (aM g 0)), (1, .int x1), (2, .int x2), (3, .int x3), (4, .int x4), (5, .int x5), (7, .int x7), (8, .int x8)] dX6_town_102 (by decide) rfl ?_
          refine xv_iinc C [(8, .int (x8 + (-1))), (6, .int x6), (9, .int q4), (0, .ref (aM g 0)), (1, .int x1), (2, .int x2), (3, .int x3), (4, .int x4), (5, .int x5), (7, .int x7)] dX6_town_104 9 rfl rfl (by decide) rfl ?_
          refine xv_goto C 73 dX6_town_107 (by decide) ?_
          refine xv_eq [3, 4, 5, 6, 7, 8, 1, 9, 0] rfl ?_
          exact ih x6 (x8 + (-1)) hf
  have hL25 : ∀ (x1 : Int32)  (j : Nat) (x2 : Int32) (x3 : Int32) (x4 : Int32) (x5 : Int32), L_X6_town_25 n x1 a j x2 x3 x4 x5 = some q → V K (sM g) 10 a [(0, .ref (aM g 0)), (1, .int x1), (2, .int x2), (3, .int x3), (4, .int x4), (5, .int x5)] 25 [] := by
    intro x1 j
    induction j with
    | zero =>
      intro x2 x3 x4 x5 hf
      have hf : (none : Option Int32) = some q := hf
      cases hf
    | succ j ih =>
      intro x2 x3 x4 x5 hf
      rw [L_X6_town_25] at hf
      refine xv_iload C dX6_town_25 5 rfl ?_
      refine xv_aload_n C dX6_town_27 rfl 0 rfl ?_
      refine xv_get C hiX6 0 (wM0 g _) rfl 6 (by decide) (List.mem_of_getElem? (i := 2) rfl) rfl dX6_town_28 ?_
      refine xv_icmp_ge C 188 hf dX6_town_31 (by decide) (fun _ hf => ?_) (fun _ hf => ?_)
      · refine xv_eq [1, 2, 3, 4] rfl ?_
        exact hB188 x1 x2 x3 x4 hf
      · refine xv_iload C dX6_town_34 4 rfl ?_
        refine xv_aload_n C dX6_town_36 rfl 0 rfl ?_
        refine xv_iload C dX6_town_37 5 rfl ?_
        refine xv_aload_n C dX6_town_39 rfl 0 rfl ?_
        refine xv_get C hiX6 0 (wM0 g _) rfl 6 (by decide) (List.mem_of_getElem? (i := 2) rfl) rfl dX6_town_40 ?_
        obtain ⟨q2, hg, hf⟩ := dt_bind hf
        refine xc_i (xr_V C (ci := 6) (As := [.int x5, .int (a 0 6)]) (fun l => c_X6_wayEnd g hS l n x5 (a 0 6) a q2 hg) gX6_town_X6_wayEnd rfl ⟨rfl, rfl⟩ hdV_X6_wayEnd ⟨Nat.le_of_ble_eq_true rfl, Nat.le_of_ble_eq_true rfl⟩ 0 rfl rfl (wM0 g _) rfl rfl (Nat.le_of_ble_eq_true rfl) dX6_town_43) ?_
        refine xv_iconst C (-1) dX6_town_46 (by decide) ?_
        refine xv_icmp_ne C 57 hf dX6_town_47 (by decide) (fun _ hf => ?_) (fun _ hf => ?_)
        · refine xv_iconst C 1 dX6_town_50 (by decide) ?_
          refine xv_iload C dX6_town_51 5 rfl ?_
          refine xv_ishl C dX6_town_53 ?_
          refine xv_goto C 58 dX6_town_54 (by decide) ?_
          refine xv_ior C dX6_town_58 ?_
          refine xv_istore C [(4, .int (x4 ||| ((1 : Int32) <<< (x5 &&& 31)))), (0, .ref (aM g 0)), (1, .int x1), (2, .int x2), (3, .int x3), (5, .int x5)] dX6_town_59 (by decide) rfl ?_
          refine xv_iconst C 0 dX6_town_61 (by decide) ?_
          refine xv_istore C [(6, .int 0), (4, .int (x4 ||| ((1 : Int32) <<< (x5 &&& 31)))), (0, .ref (aM g 0)), (1, .int x1), (2, .int x2), (3, .int x3), (5, .int x5)] dX6_town_62 (by decide) rfl ?_
          refine xv_iconst C 1 dX6_town_64 (by decide) ?_
          refine xv_istore C [(7, .int 1), (6, .int 0), (4, .int (x4 ||| ((1 : Int32) <<< (x5 &&& 31)))), (0, .ref (aM g 0)), (1, .int x1), (2, .int x2), (3, .int x3), (5, .int x5)] dX6_town_65 (by decide) rfl ?_
          refine xv_aload_n C dX6_town_67 rfl 3 rfl ?_
          refine xv_get C hiX6 0 (wM0 g _) rfl 6 (by decide) (List.mem_of_getElem? (i := 2) rfl) rfl dX6_town_68 ?_
          refine xv_istore C [(8, .int (a 0 6)), (7, .int 1), (6, .int 0), (4, .int (x4 ||| ((1 : Int32) <<< (x5 &&& 31)))), (0, .ref (aM g 0)), (1, .int x1), (2, .int x2), (3, .int x3), (5, .int x5)] dX6_town_71 (by decide) rfl ?_
          refine xv_eq [4, 5, 6, 7, 3, 8, 2, 1, 0] rfl ?_
          exact hL73 x1 x2 x3 (x4 ||| ((1 : Int32) <<< (x5 &&& 31))) x5 1 (L_X6_town_25 n x1 a j) ih n 0 (a 0 6) hf
        · refine xv_iconst C 0 dX6_town_57 (by decide) ?_
          refine xv_ior C dX6_town_58 ?_
          refine xv_istore C [(4, .int (x4 ||| 0)), (0, .ref (aM g 0)), (1, .int x1), (2, .int x2), (3, .int x3), (5, .int x5)] dX6_town_59 (by decide) rfl ?_
          refine xv_iconst C 0 dX6_town_61 (by decide) ?_
          refine xv_istore C [(6, .int 0), (4, .int (x4 ||| 0)), (0, .ref (aM g 0)), (1, .int x1), (2, .int x2), (3, .int x3), (5, .int x5)] dX6_town_62 (by decide) rfl ?_
          refine xv_iconst C 1 dX6_town_64 (by decide) ?_
          refine xv_istore C [(7, .int 1), (6, .int 0), (4, .int (x4 ||| 0)), (0, .ref (aM g 0)), (1, .int x1), (2, .int x2), (3, .int x3), (5, .int x5)] dX6_town_65 (by decide) rfl ?_
          refine xv_aload_n C dX6_town_67 rfl 3 rfl ?_
          refine xv_get C hiX6 0 (wM0 g _) rfl 6 (by decide) (List.mem_of_getElem? (i := 2) rfl) rfl dX6_town_68 ?_
          refine xv_istore C [(8, .int (a 0 6)), (7, .int 1), (6, .int 0), (4, .int (x4 ||| 0)), (0, .ref (aM g 0)), (1, .int x1), (2, .int x2), (3, .int x3), (5, .int x5)] dX6_town_71 (by decide) rfl ?_
          refine xv_eq [4, 5, 6, 7, 3, 8, 2, 1, 0] rfl ?_
          exact hL73 x1 x2 x3 (x4 ||| 0) x5 1 (L_X6_town_25 n x1 a j) ih n 0 (a 0 6) hf
  rw [f_X6_town] at hf
  show V K (sM g) 10 a [(0, .ref (aM g 0)), (1, .int x1)] 0 []
  refine xv_iload_n C dX6_town_0 rfl 1 rfl ?_
  refine xv_i2l C dX6_town_1 ?_
  refine xv_lconst C 0 dX6_town_2 (by decide) ?_
  refine xv_ldc2 C 2 dX6_town_3 (List.mem_of_getElem? (i := 1) rfl) ?_
  obtain ⟨q1, hg, hf⟩ := dt_bind hf
  refine xc_i (xr_S C (As := [.long x1.toInt64, .long 0, .long 2]) (fun l => c_X6_in (sM g) hS l x1.toInt64 0 2 a q1 hg) gX6_town_X6_in rfl ⟨rfl, rfl⟩ hdS_X6_in ⟨Nat.le_of_ble_eq_true rfl, Nat.le_of_ble_eq_true rfl⟩ rfl rfl (Nat.le_of_ble_eq_true rfl) dX6_town_6) ?_
  refine xv_if_ne C (y := 0) 15 hf dX6_town_9 (by decide) (fun _ hf => ?_) (fun _ hf => ?_)
  · refine xv_bipush C (-3) dX6_town_12 (by decide) ?_
    exact xz_ir hret hf dX6_town_14
  · refine xv_iconst C 0 dX6_town_15 (by decide) ?_
    refine xv_istore_n C [(2, .int 0), (0, .ref (aM g 0)), (1, .int x1)] dX6_town_16 rfl (by decide) rfl ?_
    refine xv_iconst C 0 dX6_town_17 (by decide) ?_
    refine xv_istore_n C [(3, .int 0), (2, .int 0), (0, .ref (aM g 0)), (1, .int x1)] dX6_town_18 rfl (by decide) rfl ?_
    refine xv_iconst C 0 dX6_town_19 (by decide) ?_
    refine xv_istore C [(4, .int 0), (3, .int 0), (2, .int 0), (0, .ref (aM g 0)), (1, .int x1)] dX6_town_20 (by decide) rfl ?_
    refine xv_iconst C 0 dX6_town_22 (by decide) ?_
    refine xv_istore C [(5, .int 0), (4, .int 0), (3, .int 0), (2, .int 0), (0, .ref (aM g 0)), (1, .int x1)] dX6_town_23 (by decide) rfl ?_
    refine xv_eq [4, 5, 3, 2, 1, 0] rfl ?_
    exact hL25 x1 n 0 0 0 0 hf
set_option maxRecDepth 100000 in
set_option maxHeartbeats 4000000 in
theorem c_X6_seen (g : GM) (hS : xSide (sM g)) (l : Launch) (x1 : Int32) (x2 : Int32) (x3 : Int32) (a : St) (q : (Int32 × St)) (hf : f_X6_seen x1 x2 x3 a = some q) : Met l yX6_seen wsX6_seen rm_X6_seen (xPre (sM g) [.ref (aM g 0), .int x1, .int x2, .int x3] a) (xPostI (sM g) q.1 q.2) 0 0 (sM g).2.2.1 := by
  refine xm_i (av := [.ref (aM g 0), .int x1, .int x2, .int x3]) (cc := cX6_seen) (maxL := 4) (by decide) rfl (Nat.le_of_ble_eq_true rfl) hS.1 hS.2 (fun K C hret => ?_)
  have C : CC K (sM g) cX6_seen 4 wsX6_seen RX6 rm_X6_seen := C
  have hiX6 : ∀ w ∈ u_ws RX6 TX6 26, w ∈ wsX6_seen := fun w h => List.mem_cons_of_mem _ (List.mem_append_right _ h)
  rw [f_X6_seen] at hf
  show V K (sM g) 4 a [(0, .ref (aM g 0)), (1, .int x1), (2, .int x2), (3, .int x3)] 0 []
  refine xv_aload_n C dX6_seen_0 rfl 0 rfl ?_
  refine xv_iload_n C dX6_seen_1 rfl 1 rfl ?_
  obtain ⟨q1, hg, hf⟩ := dt_bind hf
  refine xc_i (xr_V C (ci := 6) (As := [.int x1]) (fun l => c_X6_isHouse g hS l x1 a q1 hg) gX6_seen_X6_isHouse rfl ⟨rfl, rfl⟩ hdV_X6_isHouse ⟨Nat.le_of_ble_eq_true rfl, Nat.le_of_ble_eq_true rfl⟩ 0 rfl rfl (wM0 g _) rfl rfl (Nat.le_of_ble_eq_true rfl) dX6_seen_2) ?_
  refine xv_if_eq C (y := 0) 21 hf dX6_seen_5 (by decide) (fun _ hf => ?_) (fun _ hf => ?_)
  · refine xv_bipush C (-2) dX6_seen_21 (by decide) ?_
    exact xz_iw hret hf dX6_seen_23
  · refine xv_iload_n C dX6_seen_8 rfl 2 rfl ?_
    refine xv_iconst C (-1) dX6_seen_9 (by decide) ?_
    refine xv_icmp_eq C 24 hf dX6_seen_10 (by decide) (fun _ hf => ?_) (fun _ hf => ?_)
    · refine xv_iload_n C dX6_seen_24 rfl 3 rfl ?_
      obtain ⟨q2, hg, hf⟩ := dt_bind hf
      refine xc_i (xr_S C (As := [.int x3]) (fun l => c_X6_isTime (sM g) hS l x3 a q2 hg) gX6_seen_X6_isTime rfl ⟨rfl, rfl⟩ hdS_X6_isTime ⟨Nat.le_of_ble_eq_true rfl, Nat.le_of_ble_eq_true rfl⟩ rfl rfl (Nat.le_of_ble_eq_true rfl) dX6_seen_25) ?_
      refine xv_if_ne C (y := 0) 34 hf dX6_seen_28 (by decide) (fun _ hf => ?_) (fun _ hf => ?_)
      · refine xv_bipush C (-3) dX6_seen_31 (by decide) ?_
        exact xz_iw hret hf dX6_seen_33
      · refine xv_aload_n C dX6_seen_34 rfl 0 rfl ?_
        refine xv_get C hiX6 0 (wM0 g _) rfl 25 (by decide) (List.mem_of_getElem? (i := 1) rfl) rfl dX6_seen_35 ?_
        refine xv_bipush C 8 dX6_seen_38 (by decide) ?_
        refine xv_icmp_ne C 46 hf dX6_seen_40 (by decide) (fun _ hf => ?_) (fun _ hf => ?_)
        · refine xv_bipush C (-5) dX6_seen_43 (by decide) ?_
          exact xz_iw hret hf dX6_seen_45
        · refine xv_aload_n C dX6_seen_46 rfl 0 rfl ?_
          refine xv_get C hiX6 0 (wM0 g _) rfl 24 (by decide) (List.mem_of_getElem? (i := 2) rfl) rfl dX6_seen_47 ?_
          refine xv_iconst C 3 dX6_seen_50 (by decide) ?_
          refine xv_aload_n C dX6_seen_51 rfl 0 rfl ?_
          refine xv_get C hiX6 0 (wM0 g _) rfl 25 (by decide) (List.mem_of_getElem? (i := 1) rfl) rfl dX6_seen_52 ?_
          refine xv_imul C dX6_seen_55 ?_
          refine xv_iload_n C dX6_seen_56 rfl 1 rfl ?_
          refine xv_iast C 13 0 (wM13 g _) rfl (up a 13 (((3 : Int32) * (a 0 25)).toNatClampNeg) x1) (pM13 g _ _ _) hf dX6_seen_57 (fun hf => ?_)
          refine xv_aload_n C dX6_seen_58 rfl 0 rfl ?_
          refine xv_get C hiX6 0 (wM0 g _) rfl 24 (by decide) (List.mem_of_getElem? (i := 2) rfl) rfl dX6_seen_59 ?_
          refine xv_iconst C 3 dX6_seen_62 (by decide) ?_
          refine xv_aload_n C dX6_seen_63 rfl 0 rfl ?_
          refine xv_get C hiX6 0 (wM0 g _) rfl 25 (by decide) (List.mem_of_getElem? (i := 1) rfl) rfl dX6_seen_64 ?_
          refine xv_imul C dX6_seen_67 ?_
          refine xv_iconst C 1 dX6_seen_68 (by decide) ?_
          refine xv_iadd C dX6_seen_69 ?_
          refine xv_iload_n C dX6_seen_70 rfl 2 rfl ?_
          refine xv_iast C 13 0 (wM13 g _) rfl (up (up a 13 (((3 : Int32) * (a 0 25)).toNatClampNeg) x1) 13 ((((3 : Int32) * ((up a 13 (((3 : Int32) * (a 0 25)).toNatClampNeg) x1) 0 25)) + 1).toNatClampNeg) x2) (pM13 g _ _ _) hf dX6_seen_71 (fun hf => ?_)
          refine xv_aload_n C dX6_seen_72 rfl 0 rfl ?_
          refine xv_get C hiX6 0 (wM0 g _) rfl 24 (by decide) (List.mem_of_getElem? (i := 2) rfl) rfl dX6_seen_73 ?_
          refine xv_iconst C 3 dX6_seen_76 (by decide) ?_
          refine xv_aload_n C dX6_seen_77 rfl 0 rfl ?_
          refine xv_get C hiX6 0 (wM0 g _) rfl 25 (by decide) (List.mem_of_getElem? (i := 1) rfl) rfl dX6_seen_78 ?_
          refine xv_imul C dX6_seen_81 ?_
          refine xv_iconst C 2 dX6_seen_82 (by decide) ?_
          refine xv_iadd C dX6_seen_83 ?_
          refine xv_iload_n C dX6_seen_84 rfl 3 rfl ?_
          refine xv_iast C 13 0 (wM13 g _) rfl (up (up (up a 13 (((3 : Int32) * (a 0 25)).toNatClampNeg) x1) 13 ((((3 : Int32) * ((up a 13 (((3 : Int32) * (a 0 25)).toNatClampNeg) x1) 0 25)) + 1).toNatClampNeg) x2) 13 ((((3 : Int32) * ((up (up a 13 (((3 : Int32) * (a 0 25)).toNatClampNeg) x1) 13 ((((3 : Int32) * ((up a 13 (((3 : Int32) * (a 0 25)).toNatClampNeg) x1) 0 25)) + 1).toNatClampNeg) x2) 0 25)) + 2).toNatClampNeg) x3) (pM13 g _ _ _) hf dX6_seen_85 (fun hf => ?_)
          refine xv_aload_n C dX6_seen_86 rfl 0 rfl ?_
          refine xv_dup C dX6_seen_87 rfl ?_
          refine xv_get C hiX6 0 (wM0 g _) rfl 25 (by decide) (List.mem_of_getElem? (i := 1) rfl) rfl dX6_seen_88 ?_
          refine xv_iconst C 1 dX6_seen_91 (by decide) ?_
          refine xv_iadd C dX6_seen_92 ?_
          refine xv_put C hiX6 tyX6 tyX6_ok nmX6 0 (wM0 g _) rfl 25 (by decide) (List.mem_of_getElem? (i := 1) rfl) rfl (tyX6_ok 25 (by decide)) rfl rfl (Nat.le_of_ble_eq_true rfl) (up (up (up (up a 13 (((3 : Int32) * (a 0 25)).toNatClampNeg) x1) 13 ((((3 : Int32) * ((up a 13 (((3 : Int32) * (a 0 25)).toNatClampNeg) x1) 0 25)) + 1).toNatClampNeg) x2) 13 ((((3 : Int32) * ((up (up a 13 (((3 : Int32) * (a 0 25)).toNatClampNeg) x1) 13 ((((3 : Int32) * ((up a 13 (((3 : Int32) * (a 0 25)).toNatClampNeg) x1) 0 25)) + 1).toNatClampNeg) x2) 0 25)) + 2).toNatClampNeg) x3) 0 25 (((up (up (up a 13 (((3 : Int32) * (a 0 25)).toNatClampNeg) x1) 13 ((((3 : Int32) * ((up a 13 (((3 : Int32) * (a 0 25)).toNatClampNeg) x1) 0 25)) + 1).toNatClampNeg) x2) 13 ((((3 : Int32) * ((up (up a 13 (((3 : Int32) * (a 0 25)).toNatClampNeg) x1) 13 ((((3 : Int32) * ((up a 13 (((3 : Int32) * (a 0 25)).toNatClampNeg) x1) 0 25)) + 1).toNatClampNeg) x2) 0 25)) + 2).toNatClampNeg) x3) 0 25) + 1)) (pM0_25 g _ _) dX6_seen_93 ?_
          refine xv_aload_n C dX6_seen_96 rfl 0 rfl ?_
          refine xv_get C hiX6 0 (wM0 g _) rfl 25 (by decide) (List.mem_of_getElem? (i := 1) rfl) rfl dX6_seen_97 ?_
          exact xz_iw hret hf dX6_seen_100
    · refine xv_aload_n C dX6_seen_13 rfl 0 rfl ?_
      refine xv_iload_n C dX6_seen_14 rfl 2 rfl ?_
      obtain ⟨q3, hg, hf⟩ := dt_bind hf
      refine xc_i (xr_V C (ci := 6) (As := [.int x2]) (fun l => c_X6_isDeed g hS l x2 a q3 hg) gX6_seen_X6_isDeed rfl ⟨rfl, rfl⟩ hdV_X6_isDeed ⟨Nat.le_of_ble_eq_true rfl, Nat.le_of_ble_eq_true rfl⟩ 0 rfl rfl (wM0 g _) rfl rfl (Nat.le_of_ble_eq_true rfl) dX6_seen_15) ?_
      refine xv_if_ne C (y := 0) 24 hf dX6_seen_18 (by decide) (fun _ hf => ?_) (fun _ hf => ?_)
      · refine xv_bipush C (-2) dX6_seen_21 (by decide) ?_
        exact xz_iw hret hf dX6_seen_23
      · refine xv_iload_n C dX6_seen_24 rfl 3 rfl ?_
        obtain ⟨q4, hg, hf⟩ := dt_bind hf
        refine xc_i (xr_S C (As := [.int x3]) (fun l => c_X6_isTime (sM g) hS l x3 a q4 hg) gX6_seen_X6_isTime rfl ⟨rfl, rfl⟩ hdS_X6_isTime ⟨Nat.le_of_ble_eq_true rfl, Nat.le_of_ble_eq_true rfl⟩ rfl rfl (Nat.le_of_ble_eq_true rfl) dX6_seen_25) ?_
        refine xv_if_ne C (y := 0) 34 hf dX6_seen_28 (by decide) (fun _ hf => ?_) (fun _ hf => ?_)
        · refine xv_bipush C (-3) dX6_seen_31 (by decide) ?_
          exact xz_iw hret hf dX6_seen_33
        · refine xv_aload_n C dX6_seen_34 rfl 0 rfl ?_
          refine xv_get C hiX6 0 (wM0 g _) rfl 25 (by decide) (List.mem_of_getElem? (i := 1) rfl) rfl dX6_seen_35 ?_
          refine xv_bipush C 8 dX6_seen_38 (by decide) ?_
          refine xv_icmp_ne C 46 hf dX6_seen_40 (by decide) (fun _ hf => ?_) (fun _ hf => ?_)
          · refine xv_bipush C (-5) dX6_seen_43 (by decide) ?_
            exact xz_iw hret hf dX6_seen_45
          · refine xv_aload_n C dX6_seen_46 rfl 0 rfl ?_
            refine xv_get C hiX6 0 (wM0 g _) rfl 24 (by decide) (List.mem_of_getElem? (i := 2) rfl) rfl dX6_seen_47 ?_
            refine xv_iconst C 3 dX6_seen_50 (by decide) ?_
            refine xv_aload_n C dX6_seen_51 rfl 0 rfl ?_
            refine xv_get C hiX6 0 (wM0 g _) rfl 25 (by decide) (List.mem_of_getElem? (i := 1) rfl) rfl dX6_seen_52 ?_
            refine xv_imul C dX6_seen_55 ?_
            refine xv_iload_n C dX6_seen_56 rfl 1 rfl ?_
            refine xv_iast C 13 0 (wM13 g _) rfl (up a 13 (((3 : Int32) * (a 0 25)).toNatClampNeg) x1) (pM13 g _ _ _) hf dX6_seen_57 (fun hf => ?_)
            refine xv_aload_n C dX6_seen_58 rfl 0 rfl ?_
            refine xv_get C hiX6 0 (wM0 g _) rfl 24 (by decide) (List.mem_of_getElem? (i := 2) rfl) rfl dX6_seen_59 ?_
            refine xv_iconst C 3 dX6_seen_62 (by decide) ?_
            refine xv_aload_n C dX6_seen_63 rfl 0 rfl ?_
            refine xv_get C hiX6 0 (wM0 g _) rfl 25 (by decide) (List.mem_of_getElem? (i := 1) rfl) rfl dX6_seen_64 ?_
            refine xv_imul C dX6_seen_67 ?_
            refine xv_iconst C 1 dX6_seen_68 (by decide) ?_
            refine xv_iadd C dX6_seen_69 ?_
            refine xv_iload_n C dX6_seen_70 rfl 2 rfl ?_
            refine xv_iast C 13 0 (wM13 g _) rfl (up (up a 13 (((3 : Int32) * (a 0 25)).toNatClampNeg) x1) 13 ((((3 : Int32) * ((up a 13 (((3 : Int32) * (a 0 25)).toNatClampNeg) x1) 0 25)) + 1).toNatClampNeg) x2) (pM13 g _ _ _) hf dX6_seen_71 (fun hf => ?_)
            refine xv_aload_n C dX6_seen_72 rfl 0 rfl ?_
            refine xv_get C hiX6 0 (wM0 g _) rfl 24 (by decide) (List.mem_of_getElem? (i := 2) rfl) rfl dX6_seen_73 ?_
            refine xv_iconst C 3 dX6_seen_76 (by decide) ?_
            refine xv_aload_n C dX6_seen_77 rfl 0 rfl ?_
            refine xv_get C hiX6 0 (wM0 g _) rfl 25 (by decide) (List.mem_of_getElem? (i := 1) rfl) rfl dX6_seen_78 ?_
            refine xv_imul C dX6_seen_81 ?_
            refine xv_iconst C 2 dX6_seen_82 (by decide) ?_
            refine xv_iadd C dX6_seen_83 ?_
            refine xv_iload_n C dX6_seen_84 rfl 3 rfl ?_
            refine xv_iast C 13 0 (wM13 g _) rfl (up (up (up a 13 (((3 : Int32) * (a 0 25)).toNatClampNeg) x1) 13 ((((3 : Int32) * ((up a 13 (((3 : Int32) * (a 0 25)).toNatClampNeg) x1) 0 25)) + 1).toNatClampNeg) x2) 13 ((((3 : Int32) * ((up (up a 13 (((3 : Int32) * (a 0 25)).toNatClampNeg) x1) 13 ((((3 : Int32) * ((up a 13 (((3 : Int32) * (a 0 25)).toNatClampNeg) x1) 0 25)) + 1).toNatClampNeg) x2) 0 25)) + 2).toNatClampNeg) x3) (pM13 g _ _ _) hf dX6_seen_85 (fun hf => ?_)
            refine xv_aload_n C dX6_seen_86 rfl 0 rfl ?_
            refine xv_dup C dX6_seen_87 rfl ?_
            refine xv_get C hiX6 0 (wM0 g _) rfl 25 (by decide) (List.mem_of_getElem? (i := 1) rfl) rfl dX6_seen_88 ?_
            refine xv_iconst C 1 dX6_seen_91 (by decide) ?_
            refine xv_iadd C dX6_seen_92 ?_
            refine xv_put C hiX6 tyX6 tyX6_ok nmX6 0 (wM0 g _) rfl 25 (by decide) (List.mem_of_getElem? (i := 1) rfl) rfl (tyX6_ok 25 (by decide)) rfl rfl (Nat.le_of_ble_eq_true rfl) (up (up (up (up a 13 (((3 : Int32) * (a 0 25)).toNatClampNeg) x1) 13 ((((3 : Int32) * ((up a 13 (((3 : Int32) * (a 0 25)).toNatClampNeg) x1) 0 25)) + 1).toNatClampNeg) x2) 13 ((((3 : Int32) * ((up (up a 13 (((3 : Int32) * (a 0 25)).toNatClampNeg) x1) 13 ((((3 : Int32) * ((up a 13 (((3 : Int32) * (a 0 25)).toNatClampNeg) x1) 0 25)) + 1).toNatClampNeg) x2) 0 25)) + 2).toNatClampNeg) x3) 0 25 (((up (up (up a 13 (((3 : Int32) * (a 0 25)).toNatClampNeg) x1) 13 ((((3 : Int32) * ((up a 13 (((3 : Int32) * (a 0 25)).toNatClampNeg) x1) 0 25)) + 1).toNatClampNeg) x2) 13 ((((3 : Int32) * ((up (up a 13 (((3 : Int32) * (a 0 25)).toNatClampNeg) x1) 13 ((((3 : Int32) * ((up a 13 (((3 : Int32) * (a 0 25)).toNatClampNeg) x1) 0 25)) + 1).toNatClampNeg) x2) 0 25)) + 2).toNatClampNeg) x3) 0 25) + 1)) (pM0_25 g _ _) dX6_seen_93 ?_
            refine xv_aload_n C dX6_seen_96 rfl 0 rfl ?_
            refine xv_get C hiX6 0 (wM0 g _) rfl 25 (by decide) (List.mem_of_getElem? (i := 1) rfl) rfl dX6_seen_97 ?_
            exact xz_iw hret hf dX6_seen_100
set_option maxRecDepth 100000 in
set_option maxHeartbeats 4000000 in
theorem c_X6_forget (g : GM) (hS : xSide (sM g)) (l : Launch) (a : St) (q : (Int32 × St)) (hf : f_X6_forget a = some q) : Met l yX6_forget wsX6_forget rm_X6_forget (xPre (sM g) [.ref (aM g 0)] a) (xPostI (sM g) q.1 q.2) 0 0 (sM g).2.2.1 := by
  refine xm_i (av := [.ref (aM g 0)]) (cc := cX6_forget) (maxL := 2) (by decide) rfl (Nat.le_of_ble_eq_true rfl) hS.1 hS.2 (fun K C hret => ?_)
  have C : CC K (sM g) cX6_forget 2 wsX6_forget RX6 rm_X6_forget := C
  have hiX6 : ∀ w ∈ u_ws RX6 TX6 26, w ∈ wsX6_forget := fun w h => List.mem_cons_of_mem _ (List.mem_append_right _ h)
  rw [f_X6_forget] at hf
  show V K (sM g) 2 a [(0, .ref (aM g 0))] 0 []
  refine xv_aload_n C dX6_forget_0 rfl 0 rfl ?_
  refine xv_get C hiX6 0 (wM0 g _) rfl 25 (by decide) (List.mem_of_getElem? (i := 1) rfl) rfl dX6_forget_1 ?_
  refine xv_istore_n C [(1, .int (a 0 25)), (0, .ref (aM g 0))] dX6_forget_4 rfl (by decide) rfl ?_
  refine xv_aload_n C dX6_forget_5 rfl 1 rfl ?_
  refine xv_iconst C 0 dX6_forget_6 (by decide) ?_
  refine xv_put C hiX6 tyX6 tyX6_ok nmX6 0 (wM0 g _) rfl 25 (by decide) (List.mem_of_getElem? (i := 1) rfl) rfl (tyX6_ok 25 (by decide)) rfl rfl (Nat.le_of_ble_eq_true rfl) (up a 0 25 0) (pM0_25 g _ _) dX6_forget_7 ?_
  refine xv_iload_n C dX6_forget_10 rfl 0 rfl ?_
  exact xz_iw hret hf dX6_forget_11
set_option maxRecDepth 100000 in
set_option maxHeartbeats 4000000 in
theorem c_X6_bindNothing (g : GM) (hS : xSide (sM g)) (l : Launch) (n : Nat) (x1 : Int32) (x2 : Int32) (a : St) (q : St) (hf : f_X6_bindNothing n x1 x2 a = some q) : Met l yX6_bindNothing wsX6_bindNothing rm_X6_bindNothing (xPre (sM g) [.ref (aM g 0), .int x1, .int x2] a) (xPostV (sM g) q) 0 0 (sM g).2.2.1 := by
  refine xm_v (av := [.ref (aM g 0), .int x1, .int x2]) (cc := cX6_bindNothing) (maxL := 5) (by decide) rfl (Nat.le_of_ble_eq_true rfl) hS.1 hS.2 (fun K C hret => ?_)
  have C : CC K (sM g) cX6_bindNothing 5 wsX6_bindNothing RX6 rm_X6_bindNothing := C
  have hiX6 : ∀ w ∈ u_ws RX6 TX6 26, w ∈ wsX6_bindNothing := fun w h => List.mem_cons_of_mem _ (List.mem_append_right _ h)
  have hL10 : ∀ (x1 : Int32) (x2 : Int32) (x3 : Int32)  (j : Nat) (x4 : Int32) (a : St), L_X6_bindNothing_10 n x1 x2 x3 j x4 a = some q → V K (sM g) 5 a [(0, .ref (aM g 0)), (1, .int x1), (2, .int x2), (3, .int x3), (4, .int x4)] 10 [] := by
    intro x1 x2 x3 j
    induction j with
    | zero =>
      intro x4 a hf
      have hf : (none : Option St) = some q := hf
      cases hf
    | succ j ih =>
      intro x4 a hf
      rw [L_X6_bindNothing_10] at hf
      refine xv_iload C dX6_bindNothing_10 4 rfl ?_
      refine xv_aload_n C dX6_bindNothing_12 rfl 0 rfl ?_
      refine xv_get C hiX6 0 (wM0 g _) rfl 11 (by decide) (List.mem_of_getElem? (i := 1) rfl) rfl dX6_bindNothing_13 ?_
      refine xv_icmp_ge C 60 hf dX6_bindNothing_16 (by decide) (fun _ hf => ?_) (fun _ hf => ?_)
      · exact xz_v hret hf dX6_bindNothing_60
      · refine xv_iload_n C dX6_bindNothing_19 rfl 3 rfl ?_
        refine xv_iconst C (-1) dX6_bindNothing_20 (by decide) ?_
        refine xv_icmp_eq C 60 hf dX6_bindNothing_21 (by decide) (fun _ hf => ?_) (fun _ hf => ?_)
        · exact xz_v hret hf dX6_bindNothing_60
        · refine xv_aload_n C dX6_bindNothing_24 rfl 0 rfl ?_
          refine xv_get C hiX6 0 (wM0 g _) rfl 20 (by decide) (List.mem_of_getElem? (i := 2) rfl) rfl dX6_bindNothing_25 ?_
          refine xv_iload_n C dX6_bindNothing_28 rfl 3 rfl ?_
          refine xv_dup2 C dX6_bindNothing_29 rfl rfl ?_
          refine xv_iald C 11 0 (wM11 g _) rfl hf dX6_bindNothing_30 (fun hf => ?_)
          refine xv_aload_n C dX6_bindNothing_31 rfl 0 rfl ?_
          refine xv_iload_n C dX6_bindNothing_32 rfl 1 rfl ?_
          refine xv_iload_n C dX6_bindNothing_33 rfl 2 rfl ?_
          refine xv_iload C dX6_bindNothing_34 4 rfl ?_
          obtain ⟨q2, hg, hf⟩ := dt_bind hf
          refine xc_i (xr_V C (ci := 6) (As := [.int x1, .int x2, .int x4]) (fun l => c_X6_canAll g hS l n x1 x2 x4 a q2 hg) gX6_bindNothing_X6_canAll rfl ⟨rfl, rfl⟩ hdV_X6_canAll ⟨Nat.le_of_ble_eq_true rfl, Nat.le_of_ble_eq_true rfl⟩ 0 rfl rfl (wM0 g _) rfl rfl (Nat.le_of_ble_eq_true rfl) dX6_bindNothing_36) ?_
          refine xv_if_eq C (y := 0) 51 hf dX6_bindNothing_39 (by decide) (fun _ hf => ?_) (fun _ hf => ?_)
          · refine xv_iconst C (-1) dX6_bindNothing_51 (by decide) ?_
            refine xv_iand C dX6_bindNothing_52 ?_
            refine xv_iast C 11 0 (wM11 g _) rfl (up a 11 x3.toNatClampNeg ((a 11 x3.toNatClampNeg) &&& (-1))) (pM11 g _ _ _) hf dX6_bindNothing_53 (fun hf => ?_)
            refine xv_iinc C [(4, .int (x4 + 1)), (0, .ref (aM g 0)), (1, .int x1), (2, .int x2), (3, .int x3)] dX6_bindNothing_54 4 rfl rfl (by decide) rfl ?_
            refine xv_goto C 10 dX6_bindNothing_57 (by decide) ?_
            refine xv_eq [1, 2, 3, 4, 0] rfl ?_
            exact ih (x4 + 1) (up a 11 x3.toNatClampNeg ((a 11 x3.toNatClampNeg) &&& (-1))) hf
          · refine xv_iconst C 1 dX6_bindNothing_42 (by decide) ?_
            refine xv_iload C dX6_bindNothing_43 4 rfl ?_
            refine xv_ishl C dX6_bindNothing_45 ?_
            refine xv_iconst C (-1) dX6_bindNothing_46 (by decide) ?_
            refine xv_ixor C dX6_bindNothing_47 ?_
            refine xv_goto C 52 dX6_bindNothing_48 (by decide) ?_
            refine xv_iand C dX6_bindNothing_52 ?_
            refine xv_iast C 11 0 (wM11 g _) rfl (up a 11 x3.toNatClampNeg ((a 11 x3.toNatClampNeg) &&& (((1 : Int32) <<< (x4 &&& 31)) ^^^ (-1)))) (pM11 g _ _ _) hf dX6_bindNothing_53 (fun hf => ?_)
            refine xv_iinc C [(4, .int (x4 + 1)), (0, .ref (aM g 0)), (1, .int x1), (2, .int x2), (3, .int x3)] dX6_bindNothing_54 4 rfl rfl (by decide) rfl ?_
            refine xv_goto C 10 dX6_bindNothing_57 (by decide) ?_
            refine xv_eq [1, 2, 3, 4, 0] rfl ?_
            exact ih (x4 + 1) (up a 11 x3.toNatClampNeg ((a 11 x3.toNatClampNeg) &&& (((1 : Int32) <<< (x4 &&& 31)) ^^^ (-1)))) hf
  rw [f_X6_bindNothing] at hf
  show V K (sM g) 5 a [(0, .ref (aM g 0)), (1, .int x1), (2, .int x2)] 0 []
  refine xv_aload_n C dX6_bindNothing_0 rfl 0 rfl ?_
  refine xv_iload_n C dX6_bindNothing_1 rfl 1 rfl ?_
  refine xv_iload_n C dX6_bindNothing_2 rfl 2 rfl ?_
  obtain ⟨q1, hg, hf⟩ := dt_bind hf
  refine xc_i (xr_V C (ci := 6) (As := [.int x1, .int x2]) (fun l => c_X6_wayEnd g hS l n x1 x2 a q1 hg) gX6_bindNothing_X6_wayEnd rfl ⟨rfl, rfl⟩ hdV_X6_wayEnd ⟨Nat.le_of_ble_eq_true rfl, Nat.le_of_ble_eq_true rfl⟩ 0 rfl rfl (wM0 g _) rfl rfl (Nat.le_of_ble_eq_true rfl) dX6_bindNothing_3) ?_
  refine xv_istore_n C [(3, .int q1), (0, .ref (aM g 0)), (1, .int x1), (2, .int x2)] dX6_bindNothing_6 rfl (by decide) rfl ?_
  refine xv_iconst C 0 dX6_bindNothing_7 (by decide) ?_
  refine xv_istore C [(4, .int 0), (3, .int q1), (0, .ref (aM g 0)), (1, .int x1), (2, .int x2)] dX6_bindNothing_8 (by decide) rfl ?_
  refine xv_eq [2, 3, 4, 1, 0] rfl ?_
  exact hL10 x1 x2 q1 n 0 a hf
set_option maxRecDepth 100000 in
set_option maxHeartbeats 4000000 in
theorem c_X6_fits (g : GM) (hS : xSide (sM g)) (l : Launch) (n : Nat) (x1 : Int32) (a : St) (q : (Int32 × St)) (hf : f_X6_fits n x1 a = some q) : Met l yX6_fits wsX6_fits rm_X6_fits (xPre (sM g) [.ref (aM g 0), .int x1] a) (xPostI (sM g) q.1 q.2) 0 0 (sM g).2.2.1 := by
  refine xm_i (av := [.ref (aM g 0), .int x1]) (cc := cX6_fits) (maxL := 4) (by decide) rfl (Nat.le_of_ble_eq_true rfl) hS.1 hS.2 (fun K C hret => ?_)
  have C : CC K (sM g) cX6_fits 4 wsX6_fits RX6 rm_X6_fits := C
  have hiX6 : ∀ w ∈ u_ws RX6 TX6 26, w ∈ wsX6_fits := fun w h => List.mem_cons_of_mem _ (List.mem_append_right _ h)
  have hB100 : ∀ (x1 : Int32)  (a : St), B_X6_fits_100 n x1 a = some q → V K (sM g) 4 a [(0, .ref (aM g 0)), (1, .int x1)] 100 [] := by
    intro x1 a hf
    rw [B_X6_fits_100] at hf
    refine xv_iload_n C dX6_fits_100 rfl 1 rfl ?_
    refine xv_iconst C (-1) dX6_fits_101 (by decide) ?_
    refine xv_icmp_ne C 112 hf dX6_fits_102 (by decide) (fun _ hf => ?_) (fun _ hf => ?_)
    · refine xv_aload_n C dX6_fits_105 rfl 0 rfl ?_
      obtain ⟨q3, hg, hf⟩ := dt_bind hf
      refine xc_i (xr_V C (ci := 6) (As := []) (fun l => c_X6_rows g hS l n a q3 hg) gX6_fits_X6_rows rfl ⟨rfl, rfl⟩ hdV_X6_rows ⟨Nat.le_of_ble_eq_true rfl, Nat.le_of_ble_eq_true rfl⟩ 0 rfl rfl (wM0 g _) rfl rfl (Nat.le_of_ble_eq_true rfl) dX6_fits_106) ?_
      refine xv_goto C 129 dX6_fits_109 (by decide) ?_
      exact xz_iw hret hf dX6_fits_129
    · refine xv_aload_n C dX6_fits_112 rfl 0 rfl ?_
      obtain ⟨q2, hg, hf⟩ := dt_bind hf
      refine xc_i (xr_V C (ci := 6) (As := []) (fun l => c_X6_rows g hS l n a q2 hg) gX6_fits_X6_rows rfl ⟨rfl, rfl⟩ hdV_X6_rows ⟨Nat.le_of_ble_eq_true rfl, Nat.le_of_ble_eq_true rfl⟩ 0 rfl rfl (wM0 g _) rfl rfl (Nat.le_of_ble_eq_true rfl) dX6_fits_113) ?_
      refine xv_if_ne C (y := 0) 123 hf dX6_fits_116 (by decide) (fun _ hf => ?_) (fun _ hf => ?_)
      · refine xv_iconst C 0 dX6_fits_119 (by decide) ?_
        refine xv_goto C 129 dX6_fits_120 (by decide) ?_
        exact xz_iw hret hf dX6_fits_129
      · refine xv_aload_n C dX6_fits_123 rfl 0 rfl ?_
        refine xv_get C hiX6 0 (wM0 g _) rfl 20 (by decide) (List.mem_of_getElem? (i := 3) rfl) rfl dX6_fits_124 ?_
        refine xv_iload_n C dX6_fits_127 rfl 1 rfl ?_
        refine xv_iald C 11 0 (wM11 g _) rfl hf dX6_fits_128 (fun hf => ?_)
        exact xz_iw hret hf dX6_fits_129
  have hL22 : ∀ (x1 : Int32)  (j : Nat) (x2 : Int32) (a : St), L_X6_fits_22 n x1 j x2 a = some q → V K (sM g) 4 a [(0, .ref (aM g 0)), (1, .int x1), (2, .int x2)] 22 [] := by
    intro x1 j
    induction j with
    | zero =>
      intro x2 a hf
      have hf : (none : Option (Int32 × St)) = some q := hf
      cases hf
    | succ j ih =>
      intro x2 a hf
      rw [L_X6_fits_22] at hf
      refine xv_iload_n C dX6_fits_22 rfl 2 rfl ?_
      refine xv_aload_n C dX6_fits_23 rfl 0 rfl ?_
      refine xv_get C hiX6 0 (wM0 g _) rfl 25 (by decide) (List.mem_of_getElem? (i := 1) rfl) rfl dX6_fits_24 ?_
      refine xv_icmp_ge C 100 hf dX6_fits_27 (by decide) (fun _ hf => ?_) (fun _ hf => ?_)
      · refine xv_eq [0, 1] rfl ?_
        exact hB100 x1 a hf
      · refine xv_aload_n C dX6_fits_30 rfl 0 rfl ?_
        refine xv_get C hiX6 0 (wM0 g _) rfl 24 (by decide) (List.mem_of_getElem? (i := 2) rfl) rfl dX6_fits_31 ?_
        refine xv_iconst C 3 dX6_fits_34 (by decide) ?_
        refine xv_iload_n C dX6_fits_35 rfl 2 rfl ?_
        refine xv_imul C dX6_fits_36 ?_
        refine xv_iconst C 1 dX6_fits_37 (by decide) ?_
        refine xv_iadd C dX6_fits_38 ?_
        refine xv_iald C 13 0 (wM13 g _) rfl hf dX6_fits_39 (fun hf => ?_)
        refine xv_istore_n C [(3, .int (a 13 ((((3 : Int32) * x2) + 1).toNatClampNeg))), (0, .ref (aM g 0)), (1, .int x1), (2, .int x2)] dX6_fits_40 rfl (by decide) rfl ?_
        refine xv_iload_n C dX6_fits_41 rfl 0 rfl ?_
        refine xv_iconst C (-1) dX6_fits_42 (by decide) ?_
        refine xv_icmp_ne C 71 hf dX6_fits_43 (by decide) (fun _ hf => ?_) (fun _ hf => ?_)
        · refine xv_aload_n C dX6_fits_46 rfl 1 rfl ?_
          refine xv_aload_n C dX6_fits_47 rfl 1 rfl ?_
          refine xv_get C hiX6 0 (wM0 g _) rfl 24 (by decide) (List.mem_of_getElem? (i := 2) rfl) rfl dX6_fits_48 ?_
          refine xv_iconst C 3 dX6_fits_51 (by decide) ?_
          refine xv_iload_n C dX6_fits_52 rfl 3 rfl ?_
          refine xv_imul C dX6_fits_53 ?_
          refine xv_iald C 13 0 (wM13 g _) rfl hf dX6_fits_54 (fun hf => ?_)
          refine xv_aload_n C dX6_fits_55 rfl 1 rfl ?_
          refine xv_get C hiX6 0 (wM0 g _) rfl 24 (by decide) (List.mem_of_getElem? (i := 2) rfl) rfl dX6_fits_56 ?_
          refine xv_iconst C 3 dX6_fits_59 (by decide) ?_
          refine xv_iload_n C dX6_fits_60 rfl 3 rfl ?_
          refine xv_imul C dX6_fits_61 ?_
          refine xv_iconst C 2 dX6_fits_62 (by decide) ?_
          refine xv_iadd C dX6_fits_63 ?_
          refine xv_iald C 13 0 (wM13 g _) rfl hf dX6_fits_64 (fun hf => ?_)
          obtain ⟨q5, hg, hf⟩ := dt_bind hf
          refine xc_v (xr_V C (ci := 6) (As := [.int (a 13 (((3 : Int32) * x2).toNatClampNeg)), .int (a 13 ((((3 : Int32) * x2) + 2).toNatClampNeg))]) (fun l => c_X6_bindNothing g hS l n (a 13 (((3 : Int32) * x2).toNatClampNeg)) (a 13 ((((3 : Int32) * x2) + 2).toNatClampNeg)) a q5 hg) gX6_fits_X6_bindNothing rfl ⟨rfl, rfl⟩ hdV_X6_bindNothing ⟨Nat.le_of_ble_eq_true rfl, Nat.le_of_ble_eq_true rfl⟩ 0 rfl rfl (wM0 g _) rfl rfl (Nat.le_of_ble_eq_true rfl) dX6_fits_65) ?_
          refine xv_goto C 94 dX6_fits_68 (by decide) ?_
          refine xv_iinc C [(2, .int (x2 + 1)), (3, .int (a 13 ((((3 : Int32) * x2) + 1).toNatClampNeg))), (0, .ref (aM g 0)), (1, .int x1)] dX6_fits_94 3 rfl rfl (by decide) rfl ?_
          refine xv_goto C 22 dX6_fits_97 (by decide) ?_
          refine xv_eq [2, 3, 0] rfl ?_
          exact ih (x2 + 1) q5 hf
        · refine xv_aload_n C dX6_fits_71 rfl 1 rfl ?_
          refine xv_aload_n C dX6_fits_72 rfl 1 rfl ?_
          refine xv_get C hiX6 0 (wM0 g _) rfl 24 (by decide) (List.mem_of_getElem? (i := 2) rfl) rfl dX6_fits_73 ?_
          refine xv_iconst C 3 dX6_fits_76 (by decide) ?_
          refine xv_iload_n C dX6_fits_77 rfl 3 rfl ?_
          refine xv_imul C dX6_fits_78 ?_
          refine xv_iald C 13 0 (wM13 g _) rfl hf dX6_fits_79 (fun hf => ?_)
          refine xv_iload_n C dX6_fits_80 rfl 0 rfl ?_
          refine xv_aload_n C dX6_fits_81 rfl 1 rfl ?_
          refine xv_get C hiX6 0 (wM0 g _) rfl 24 (by decide) (List.mem_of_getElem? (i := 2) rfl) rfl dX6_fits_82 ?_
          refine xv_iconst C 3 dX6_fits_85 (by decide) ?_
          refine xv_iload_n C dX6_fits_86 rfl 3 rfl ?_
          refine xv_imul C dX6_fits_87 ?_
          refine xv_iconst C 2 dX6_fits_88 (by decide) ?_
          refine xv_iadd C dX6_fits_89 ?_
          refine xv_iald C 13 0 (wM13 g _) rfl hf dX6_fits_90 (fun hf => ?_)
          obtain ⟨q4, hg, hf⟩ := dt_bind hf
          refine xc_v (xr_V C (ci := 6) (As := [.int (a 13 (((3 : Int32) * x2).toNatClampNeg)), .int (a 13 ((((3 : Int32) * x2) + 1).toNatClampNeg)), .int (a 13 ((((3 : Int32) * x2) + 2).toNatClampNeg))]) (fun l => c_X6_bind g hS l n (a 13 (((3 : Int32) * x2).toNatClampNeg)) (a 13 ((((3 : Int32) * x2) + 1).toNatClampNeg)) (a 13 ((((3 : Int32) * x2) + 2).toNatClampNeg)) a q4 hg) gX6_fits_X6_bind rfl ⟨rfl, rfl⟩ hdV_X6_bind ⟨Nat.le_of_ble_eq_true rfl, Nat.le_of_ble_eq_true rfl⟩ 0 rfl rfl (wM0 g _) rfl rfl (Nat.le_of_ble_eq_true rfl) dX6_fits_91) ?_
          refine xv_iinc C [(2, .int (x2 + 1)), (3, .int (a 13 ((((3 : Int32) * x2) + 1).toNatClampNeg))), (0, .ref (aM g 0)), (1, .int x1)] dX6_fits_94 3 rfl rfl (by decide) rfl ?_
          refine xv_goto C 22 dX6_fits_97 (by decide) ?_
          refine xv_eq [2, 3, 0] rfl ?_
          exact ih (x2 + 1) q4 hf
  rw [f_X6_fits] at hf
  show V K (sM g) 4 a [(0, .ref (aM g 0)), (1, .int x1)] 0 []
  refine xv_iload_n C dX6_fits_0 rfl 1 rfl ?_
  refine xv_iconst C (-1) dX6_fits_1 (by decide) ?_
  refine xv_icmp_eq C 16 hf dX6_fits_2 (by decide) (fun _ hf => ?_) (fun _ hf => ?_)
  · refine xv_aload_n C dX6_fits_16 rfl 0 rfl ?_
    obtain ⟨q1, hg, hf⟩ := dt_bind hf
    refine xc_v (xr_V C (ci := 6) (As := []) (fun l => c_X6_layMays g hS l n a q1 hg) gX6_fits_X6_layMays rfl ⟨rfl, rfl⟩ hdV_X6_layMays ⟨Nat.le_of_ble_eq_true rfl, Nat.le_of_ble_eq_true rfl⟩ 0 rfl rfl (wM0 g _) rfl rfl (Nat.le_of_ble_eq_true rfl) dX6_fits_17) ?_
    refine xv_iconst C 0 dX6_fits_20 (by decide) ?_
    refine xv_istore_n C [(2, .int 0), (0, .ref (aM g 0)), (1, .int x1)] dX6_fits_21 rfl (by decide) rfl ?_
    refine xv_eq [1, 2, 0] rfl ?_
    exact hL22 x1 n 0 q1 hf
  · refine xv_aload_n C dX6_fits_5 rfl 0 rfl ?_
    refine xv_iload_n C dX6_fits_6 rfl 1 rfl ?_
    obtain ⟨q6, hg, hf⟩ := dt_bind hf
    refine xc_i (xr_V C (ci := 6) (As := [.int x1]) (fun l => c_X6_isHouse g hS l x1 a q6 hg) gX6_fits_X6_isHouse rfl ⟨rfl, rfl⟩ hdV_X6_isHouse ⟨Nat.le_of_ble_eq_true rfl, Nat.le_of_ble_eq_true rfl⟩ 0 rfl rfl (wM0 g _) rfl rfl (Nat.le_of_ble_eq_true rfl) dX6_fits_7) ?_
    refine xv_if_ne C (y := 0) 16 hf dX6_fits_10 (by decide) (fun _ hf => ?_) (fun _ hf => ?_)
    · refine xv_bipush C (-2) dX6_fits_13 (by decide) ?_
      exact xz_iw hret hf dX6_fits_15
    · refine xv_aload_n C dX6_fits_16 rfl 0 rfl ?_
      obtain ⟨q7, hg, hf⟩ := dt_bind hf
      refine xc_v (xr_V C (ci := 6) (As := []) (fun l => c_X6_layMays g hS l n a q7 hg) gX6_fits_X6_layMays rfl ⟨rfl, rfl⟩ hdV_X6_layMays ⟨Nat.le_of_ble_eq_true rfl, Nat.le_of_ble_eq_true rfl⟩ 0 rfl rfl (wM0 g _) rfl rfl (Nat.le_of_ble_eq_true rfl) dX6_fits_17) ?_
      refine xv_iconst C 0 dX6_fits_20 (by decide) ?_
      refine xv_istore_n C [(2, .int 0), (0, .ref (aM g 0)), (1, .int x1)] dX6_fits_21 rfl (by decide) rfl ?_
      refine xv_eq [1, 2, 0] rfl ?_
      exact hL22 x1 n 0 q7 hf
