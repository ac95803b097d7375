set_option maxRecDepth 100000 in
set_option maxHeartbeats 4000000 in
theorem c_X5_likingWith (g : GX) (hS : xSide (sX g)) (l : Launch) (x1 : Int32) (x2 : Int32) (x3 : Int32) (a : St) (q : Int32) (hf : f_X5_likingWith x1 x2 x3 a = some q) : Met l yX5_likingWith wsX5_likingWith rm_X5_likingWith (xPre (sX g) [.ref (aX g 0), .int x1, .int x2, .int x3] a) (xPostI (sX g) q a) 0 0 (sX g).2.2.1 := by
  refine xm_i (av := [.ref (aX g 0), .int x1, .int x2, .int x3]) (cc := cX5_likingWith) (maxL := 4) (by decide) rfl (Nat.le_of_ble_eq_true rfl) hS.1 hS.2 (fun K C hret => ?_)
  have C : CC K (sX g) cX5_likingWith 4 wsX5_likingWith RX5 rm_X5_likingWith := C
  have hiX4 : ∀ w ∈ u_ws RX4 TX4 12, w ∈ wsX5_likingWith := fun w h => List.mem_cons_of_mem _ (List.mem_append_right _ h)
  have hiX5 : ∀ w ∈ u_ws RX5 TX5 13, w ∈ wsX5_likingWith := fun w h => List.mem_cons_of_mem _ (List.mem_append_left _ (List.mem_append_right _ h))
  rw [f_X5_likingWith] at hf
  show V K (sX g) 4 a [(0, .ref (aX g 0)), (1, .int x1), (2, .int x2), (3, .int x3)] 0 []
  refine xv_aload_n C dX5_likingWith_0 rfl 0 rfl ?_
  refine xv_get C hiX5 0 (wX0 g _) rfl 1 (by decide) (List.mem_of_getElem? (i := 1) rfl) rfl dX5_likingWith_1 ?_
  refine xv_getN C hiX4 5 (wX5 g _) rfl 5 (by decide) (fun U H h => h.1 _ (List.mem_of_getElem? (i := 10) rfl)) rfl dX5_likingWith_4 ?_
  refine xv_iload_n C dX5_likingWith_7 rfl 1 rfl ?_
  refine xv_bipush C 8 dX5_likingWith_8 (by decide) ?_
  refine xv_imul C dX5_likingWith_10 ?_
  refine xv_iload_n C dX5_likingWith_11 rfl 2 rfl ?_
  refine xv_iadd C dX5_likingWith_12 ?_
  refine xv_iald C 8 0 (wX8 g _) rfl hf dX5_likingWith_13 (fun hf => ?_)
  refine xv_aload_n C dX5_likingWith_14 rfl 0 rfl ?_
  refine xv_get C hiX5 0 (wX0 g _) rfl 10 (by decide) (List.mem_of_getElem? (i := 2) rfl) rfl dX5_likingWith_15 ?_
  refine xv_iload_n C dX5_likingWith_18 rfl 3 rfl ?_
  refine xv_iconst C 1 dX5_likingWith_19 (by decide) ?_
  refine xv_iload_n C dX5_likingWith_20 rfl 2 rfl ?_
  refine xv_ishl C dX5_likingWith_21 ?_
  refine xv_iconst C (-1) dX5_likingWith_22 (by decide) ?_
  refine xv_ixor C dX5_likingWith_23 ?_
  refine xv_iand C dX5_likingWith_24 ?_
  refine xv_iald C 37 0 (wX37 g _) rfl hf dX5_likingWith_25 (fun hf => ?_)
  refine xv_iadd C dX5_likingWith_26 ?_
  exact xz_ir hret hf dX5_likingWith_27
set_option maxRecDepth 100000 in
set_option maxHeartbeats 4000000 in
theorem c_X5_likeBest (g : GX) (hS : xSide (sX g)) (l : Launch) (n : Nat) (a : St) (q : St) (hf : f_X5_likeBest n a = some q) : Met l yX5_likeBest wsX5_likeBest rm_X5_likeBest (xPre (sX g) [.ref (aX g 0)] a) (xPostV (sX g) q) 0 0 (sX g).2.2.1 := by
  refine xm_v (av := [.ref (aX g 0)]) (cc := cX5_likeBest) (maxL := 6) (by decide) rfl (Nat.le_of_ble_eq_true rfl) hS.1 hS.2 (fun K C hret => ?_)
  have C : CC K (sX g) cX5_likeBest 6 wsX5_likeBest RX5 rm_X5_likeBest := C
  have hiX4 : ∀ w ∈ u_ws RX4 TX4 12, w ∈ wsX5_likeBest := fun w h => List.mem_cons_of_mem _ (List.mem_append_right _ h)
  have hiX5 : ∀ w ∈ u_ws RX5 TX5 13, w ∈ wsX5_likeBest := fun w h => List.mem_cons_of_mem _ (List.mem_append_left _ (List.mem_append_right _ h))
  have hB104 : ∀ (x1 : Int32) (x4 : Int32) (k9 : Int32 → St → Option St) (hk9 : ∀ (y1 : Int32) (b : St), k9 y1 b = some q → V K (sX g) 6 b [(0, .ref (aX g 0)), (1, .int y1)] 9 []) (a : St), B_X5_likeBest_104 n k9 x1 x4 a = some q → V K (sX g) 6 a [(0, .ref (aX g 0)), (1, .int x1), (4, .int x4)] 104 [] := by
    intro x1 x4 k9 hk9 a hf
    rw [B_X5_likeBest_104] at hf
    refine xv_aload_n C dX5_likeBest_104 rfl 0 rfl ?_
    refine xv_get C hiX5 0 (wX0 g _) rfl 10 (by decide) (List.mem_of_getElem? (i := 1) rfl) rfl dX5_likeBest_105 ?_
    refine xv_iload_n C dX5_likeBest_108 rfl 1 rfl ?_
    refine xv_iload C dX5_likeBest_109 2 rfl ?_
    refine xv_iast C 37 0 (wX37 g _) rfl (up a 37 x1.toNatClampNeg x4) (pX37 g _ _ _) hf dX5_likeBest_111 (fun hf => ?_)
    refine xv_iinc C [(1, .int (x1 + 1)), (0, .ref (aX g 0)), (4, .int x4)] dX5_likeBest_112 1 rfl rfl (by decide) rfl ?_
    refine xv_goto C 9 dX5_likeBest_115 (by decide) ?_
    refine xv_eq [1, 0] rfl ?_
    exact hk9 (x1 + 1) (up a 37 x1.toNatClampNeg x4) hf
  have hL62 : ∀ (x1 : Int32) (x2 : Int32) (x3 : Int32) (k9 : Int32 → St → Option St) (hk9 : ∀ (y1 : Int32) (b : St), k9 y1 b = some q → V K (sX g) 6 b [(0, .ref (aX g 0)), (1, .int y1)] 9 []) (j : Nat) (x4 : Int32) (x5 : Int32) (a : St), L_X5_likeBest_62 n k9 x1 x2 x3 j x4 x5 a = some q → V K (sX g) 6 a [(0, .ref (aX g 0)), (1, .int x1), (2, .int x2), (3, .int x3), (4, .int x4), (5, .int x5)] 62 [] := by
    intro x1 x2 x3 k9 hk9 j
    induction j with
    | zero =>
      intro x4 x5 a hf
      have hf : (none : Option St) = some q := hf
      cases hf
    | succ j ih =>
      intro x4 x5 a hf
      rw [L_X5_likeBest_62] at hf
      refine xv_iload C dX5_likeBest_62 5 rfl ?_
      refine xv_aload_n C dX5_likeBest_64 rfl 0 rfl ?_
      refine xv_get C hiX5 0 (wX0 g _) rfl 1 (by decide) (List.mem_of_getElem? (i := 2) rfl) rfl dX5_likeBest_65 ?_
      refine xv_getN C hiX4 5 (wX5 g _) rfl 0 (by decide) (fun U H h => h.1 _ (List.mem_of_getElem? (i := 5) rfl)) rfl dX5_likeBest_68 ?_
      refine xv_icmp_ge C 104 hf dX5_likeBest_71 (by decide) (fun _ hf => ?_) (fun _ hf => ?_)
      · refine xv_eq [0, 1, 4] rfl ?_
        exact hB104 x1 x4 k9 hk9 a hf
      · refine xv_iload_n C dX5_likeBest_74 rfl 3 rfl ?_
        refine xv_iload C dX5_likeBest_75 5 rfl ?_
        obtain ⟨q3, hg, hf⟩ := dt_bind hf
        refine xc_i (xr_S C (As := [.int x3, .int x5]) (fun l => c_X5_has (sX g) hS l x3 x5 a q3 hg) gX5_likeBest_X5_has rfl ⟨rfl, rfl⟩ hdS_X5_has ⟨Nat.le_of_ble_eq_true rfl, Nat.le_of_ble_eq_true rfl⟩ rfl rfl (Nat.le_of_ble_eq_true rfl) dX5_likeBest_77) ?_
        refine xv_if_eq C (y := 0) 98 hf dX5_likeBest_80 (by decide) (fun _ hf => ?_) (fun _ hf => ?_)
        · refine xv_iinc C [(5, .int (x5 + 1)), (0, .ref (aX g 0)), (1, .int x1), (2, .int x2), (3, .int x3), (4, .int x4)] dX5_likeBest_98 5 rfl rfl (by decide) rfl ?_
          refine xv_goto C 62 dX5_likeBest_101 (by decide) ?_
          refine xv_eq [1, 2, 3, 4, 5, 0] rfl ?_
          exact ih x4 (x5 + 1) a hf
        · refine xv_iload C dX5_likeBest_83 4 rfl ?_
          refine xv_aload_n C dX5_likeBest_85 rfl 0 rfl ?_
          refine xv_iload_n C dX5_likeBest_86 rfl 2 rfl ?_
          refine xv_iload C dX5_likeBest_87 5 rfl ?_
          refine xv_iload_n C dX5_likeBest_89 rfl 3 rfl ?_
          obtain ⟨q4, hg, hf⟩ := dt_bind hf
          refine xc_i (xr_V C (ci := 5) (As := [.int x2, .int x5, .int x3]) (fun l => c_X5_likingWith g hS l x2 x5 x3 a q4 hg) gX5_likeBest_X5_likingWith rfl ⟨rfl, rfl⟩ hdV_X5_likingWith ⟨Nat.le_of_ble_eq_true rfl, Nat.le_of_ble_eq_true rfl⟩ 0 rfl rfl (wX0 g _) rfl rfl (Nat.le_of_ble_eq_true rfl) dX5_likeBest_90) ?_
          refine xv_max C (List.mem_of_getElem? (i := 3) rfl) (List.mem_of_getElem? (i := 4) rfl) (List.mem_of_getElem? (i := 5) rfl) (List.mem_of_getElem? (i := 6) rfl) (Nat.le_of_ble_eq_true rfl) (Nat.le_of_ble_eq_true rfl) dX5_likeBest_93 ?_
          refine xv_istore C [(4, .int (if x4 < q4 then q4 else x4)), (0, .ref (aX g 0)), (1, .int x1), (2, .int x2), (3, .int x3), (5, .int x5)] dX5_likeBest_96 (by decide) rfl ?_
          refine xv_iinc C [(5, .int (x5 + 1)), (4, .int (if x4 < q4 then q4 else x4)), (0, .ref (aX g 0)), (1, .int x1), (2, .int x2), (3, .int x3)] dX5_likeBest_98 5 rfl rfl (by decide) rfl ?_
          refine xv_goto C 62 dX5_likeBest_101 (by decide) ?_
          refine xv_eq [2, 3, 4, 5, 1, 0] rfl ?_
          exact ih (if x4 < q4 then q4 else x4) (x5 + 1) a hf
  have hL9 : ∀  (j : Nat) (x1 : Int32) (a : St), L_X5_likeBest_9 n j x1 a = some q → V K (sX g) 6 a [(0, .ref (aX g 0)), (1, .int x1)] 9 [] := by
    intro j
    induction j with
    | zero =>
      intro x1 a hf
      have hf : (none : Option St) = some q := hf
      cases hf
    | succ j ih =>
      intro x1 a hf
      rw [L_X5_likeBest_9] at hf
      refine xv_iload_n C dX5_likeBest_9 rfl 1 rfl ?_
      refine xv_iconst C 1 dX5_likeBest_10 (by decide) ?_
      refine xv_aload_n C dX5_likeBest_11 rfl 0 rfl ?_
      refine xv_get C hiX5 0 (wX0 g _) rfl 1 (by decide) (List.mem_of_getElem? (i := 2) rfl) rfl dX5_likeBest_12 ?_
      refine xv_getN C hiX4 5 (wX5 g _) rfl 0 (by decide) (fun U H h => h.1 _ (List.mem_of_getElem? (i := 5) rfl)) rfl dX5_likeBest_15 ?_
      refine xv_ishl C dX5_likeBest_18 ?_
      refine xv_icmp_ge C 118 hf dX5_likeBest_19 (by decide) (fun _ hf => ?_) (fun _ hf => ?_)
      · exact xz_v hret hf dX5_likeBest_118
      · refine xv_iload_n C dX5_likeBest_22 rfl 1 rfl ?_
        obtain ⟨q1, hg, hf⟩ := dt_bind hf
        refine xc_i (xr_S C (As := [.int x1]) (fun l => c_J6_numberOfTrailingZeros_0f7a4 (sX g) hS l x1 a q1 hg) gX5_likeBest_J6_numberOfTrailingZeros_0f7a4 rfl ⟨rfl, rfl⟩ hdS_J6_numberOfTrailingZeros_0f7a4 ⟨Nat.le_of_ble_eq_true rfl, Nat.le_of_ble_eq_true rfl⟩ rfl rfl (Nat.le_of_ble_eq_true rfl) dX5_likeBest_23) ?_
        refine xv_istore_n C [(2, .int q1), (0, .ref (aX g 0)), (1, .int x1)] dX5_likeBest_26 rfl (by decide) rfl ?_
        refine xv_iload_n C dX5_likeBest_27 rfl 2 rfl ?_
        refine xv_iconst C 1 dX5_likeBest_28 (by decide) ?_
        refine xv_iload_n C dX5_likeBest_29 rfl 0 rfl ?_
        refine xv_ishl C dX5_likeBest_30 ?_
        refine xv_iconst C (-1) dX5_likeBest_31 (by decide) ?_
        refine xv_ixor C dX5_likeBest_32 ?_
        refine xv_iand C dX5_likeBest_33 ?_
        refine xv_istore_n C [(3, .int (x1 &&& (((1 : Int32) <<< (q1 &&& 31)) ^^^ (-1)))), (2, .int q1), (0, .ref (aX g 0)), (1, .int x1)] dX5_likeBest_34 rfl (by decide) rfl ?_
        refine xv_iload_n C dX5_likeBest_35 rfl 3 rfl ?_
        obtain ⟨q2, hg, hf⟩ := dt_bind hf
        refine xc_i (xr_S C (As := [.int x1]) (fun l => c_J6_bitCount_0f7a4 (sX g) hS l x1 a q2 hg) gX5_likeBest_J6_bitCount_0f7a4 rfl ⟨rfl, rfl⟩ hdS_J6_bitCount_0f7a4 ⟨Nat.le_of_ble_eq_true rfl, Nat.le_of_ble_eq_true rfl⟩ rfl rfl (Nat.le_of_ble_eq_true rfl) dX5_likeBest_36) ?_
        refine xv_iconst C 2 dX5_likeBest_39 (by decide) ?_
        refine xv_irem C (B := some ()) (v := ()) (by decide) dX5_likeBest_40 (fun _ => ?_)
        refine xv_iconst C 1 dX5_likeBest_41 (by decide) ?_
        refine xv_icmp_ne C 54 hf dX5_likeBest_42 (by decide) (fun _ hf => ?_) (fun _ hf => ?_)
        · refine xv_aload_n C dX5_likeBest_45 rfl 2 rfl ?_
          refine xv_get C hiX5 0 (wX0 g _) rfl 10 (by decide) (List.mem_of_getElem? (i := 1) rfl) rfl dX5_likeBest_46 ?_
          refine xv_iload_n C dX5_likeBest_49 rfl 0 rfl ?_
          refine xv_iald C 37 0 (wX37 g _) rfl hf dX5_likeBest_50 (fun hf => ?_)
          refine xv_goto C 55 dX5_likeBest_51 (by decide) ?_
          refine xv_istore C [(4, .int (a 37 ((x1 &&& (((1 : Int32) <<< (q1 &&& 31)) ^^^ (-1))).toNatClampNeg))), (3, .int (x1 &&& (((1 : Int32) <<< (q1 &&& 31)) ^^^ (-1)))), (2, .int q1), (0, .ref (aX g 0)), (1, .int x1)] dX5_likeBest_55 (by decide) rfl ?_
          refine xv_iload_n C dX5_likeBest_57 rfl 2 rfl ?_
          refine xv_iconst C 1 dX5_likeBest_58 (by decide) ?_
          refine xv_iadd C dX5_likeBest_59 ?_
          refine xv_istore C [(5, .int (q1 + 1)), (4, .int (a 37 ((x1 &&& (((1 : Int32) <<< (q1 &&& 31)) ^^^ (-1))).toNatClampNeg))), (3, .int (x1 &&& (((1 : Int32) <<< (q1 &&& 31)) ^^^ (-1)))), (2, .int q1), (0, .ref (aX g 0)), (1, .int x1)] dX5_likeBest_60 (by decide) rfl ?_
          refine xv_eq [4, 5, 3, 2, 1, 0] rfl ?_
          exact hL62 x1 q1 (x1 &&& (((1 : Int32) <<< (q1 &&& 31)) ^^^ (-1))) (L_X5_likeBest_9 n j) ih n (a 37 ((x1 &&& (((1 : Int32) <<< (q1 &&& 31)) ^^^ (-1))).toNatClampNeg)) (q1 + 1) a hf
        · refine xv_iconst C (-1) dX5_likeBest_54 (by decide) ?_
          refine xv_istore C [(4, .int (-1)), (3, .int (x1 &&& (((1 : Int32) <<< (q1 &&& 31)) ^^^ (-1)))), (2, .int q1), (0, .ref (aX g 0)), (1, .int x1)] dX5_likeBest_55 (by decide) rfl ?_
          refine xv_iload_n C dX5_likeBest_57 rfl 2 rfl ?_
          refine xv_iconst C 1 dX5_likeBest_58 (by decide) ?_
          refine xv_iadd C dX5_likeBest_59 ?_
          refine xv_istore C [(5, .int (q1 + 1)), (4, .int (-1)), (3, .int (x1 &&& (((1 : Int32) <<< (q1 &&& 31)) ^^^ (-1)))), (2, .int q1), (0, .ref (aX g 0)), (1, .int x1)] dX5_likeBest_60 (by decide) rfl ?_
          refine xv_eq [4, 5, 3, 2, 1, 0] rfl ?_
          exact hL62 x1 q1 (x1 &&& (((1 : Int32) <<< (q1 &&& 31)) ^^^ (-1))) (L_X5_likeBest_9 n j) ih n (-1) (q1 + 1) a hf
  rw [f_X5_likeBest] at hf
  show V K (sX g) 6 a [(0, .ref (aX g 0))] 0 []
  refine xv_aload_n C dX5_likeBest_0 rfl 0 rfl ?_
  refine xv_get C hiX5 0 (wX0 g _) rfl 10 (by decide) (List.mem_of_getElem? (i := 1) rfl) rfl dX5_likeBest_1 ?_
  refine xv_iconst C 0 dX5_likeBest_4 (by decide) ?_
  refine xv_iconst C 0 dX5_likeBest_5 (by decide) ?_
  refine xv_iast C 37 0 (wX37 g _) rfl (up a 37 ((0 : Int32).toNatClampNeg) 0) (pX37 g _ _ _) (B := some ()) (w := ()) (by decide) dX5_likeBest_6 (fun _ => ?_)
  refine xv_iconst C 1 dX5_likeBest_7 (by decide) ?_
  refine xv_istore_n C [(1, .int 1), (0, .ref (aX g 0))] dX5_likeBest_8 rfl (by decide) rfl ?_
  refine xv_eq [1, 0] rfl ?_
  exact hL9 n 1 (up a 37 ((0 : Int32).toNatClampNeg) 0) hf
set_option maxRecDepth 100000 in
set_option maxHeartbeats 4000000 in
theorem c_X5_leastPartner (g : GX) (hS : xSide (sX g)) (l : Launch) (n : Nat) (x1 : Int32) (x2 : Int32) (a : St) (q : Int32) (hf : f_X5_leastPartner n x1 x2 a = some q) : Met l yX5_leastPartner wsX5_leastPartner rm_X5_leastPartner (xPre (sX g) [.ref (aX g 0), .int x1, .int x2] a) (xPostI (sX g) q a) 0 0 (sX g).2.2.1 := by
  refine xm_i (av := [.ref (aX g 0), .int x1, .int x2]) (cc := cX5_leastPartner) (maxL := 5) (by decide) rfl (Nat.le_of_ble_eq_true rfl) hS.1 hS.2 (fun K C hret => ?_)
  have C : CC K (sX g) cX5_leastPartner 5 wsX5_leastPartner RX5 rm_X5_leastPartner := C
  have hiX4 : ∀ w ∈ u_ws RX4 TX4 12, w ∈ wsX5_leastPartner := fun w h => List.mem_cons_of_mem _ (List.mem_append_right _ h)
  have hiX5 : ∀ w ∈ u_ws RX5 TX5 13, w ∈ wsX5_leastPartner := fun w h => List.mem_cons_of_mem _ (List.mem_append_left _ (List.mem_append_right _ h))
  have hL13 : ∀ (x1 : Int32) (x2 : Int32) (x3 : Int32)  (j : Nat) (x4 : Int32), L_X5_leastPartner_13 n x1 x2 x3 a j x4 = some q → V K (sX g) 5 a [(0, .ref (aX g 0)), (1, .int x1), (2, .int x2), (3, .int x3), (4, .int x4)] 13 [] := by
    intro x1 x2 x3 j
    induction j with
    | zero =>
      intro x4 hf
      have hf : (none : Option Int32) = some q := hf
      cases hf
    | succ j ih =>
      intro x4 hf
      rw [L_X5_leastPartner_13] at hf
      refine xv_iload C dX5_leastPartner_13 4 rfl ?_
      refine xv_aload_n C dX5_leastPartner_15 rfl 0 rfl ?_
      refine xv_get C hiX5 0 (wX0 g _) rfl 1 (by decide) (List.mem_of_getElem? (i := 1) rfl) rfl dX5_leastPartner_16 ?_
      refine xv_getN C hiX4 5 (wX5 g _) rfl 0 (by decide) (fun U H h => h.1 _ (List.mem_of_getElem? (i := 5) rfl)) rfl dX5_leastPartner_19 ?_
      refine xv_icmp_ge C 60 hf dX5_leastPartner_22 (by decide) (fun _ hf => ?_) (fun _ hf => ?_)
      · refine xv_iconst C (-1) dX5_leastPartner_60 (by decide) ?_
        exact xz_ir hret hf dX5_leastPartner_61
      · refine xv_iload_n C dX5_leastPartner_25 rfl 3 rfl ?_
        refine xv_iload C dX5_leastPartner_26 4 rfl ?_
        obtain ⟨q1, hg, hf⟩ := dt_bind hf
        refine xc_i (xr_S C (As := [.int x3, .int x4]) (fun l => c_X5_has (sX g) hS l x3 x4 a q1 hg) gX5_leastPartner_X5_has rfl ⟨rfl, rfl⟩ hdS_X5_has ⟨Nat.le_of_ble_eq_true rfl, Nat.le_of_ble_eq_true rfl⟩ rfl rfl (Nat.le_of_ble_eq_true rfl) dX5_leastPartner_28) ?_
        refine xv_if_eq C (y := 0) 54 hf dX5_leastPartner_31 (by decide) (fun _ hf => ?_) (fun _ hf => ?_)
        · refine xv_iinc C [(4, .int (x4 + 1)), (0, .ref (aX g 0)), (1, .int x1), (2, .int x2), (3, .int x3)] dX5_leastPartner_54 4 rfl rfl (by decide) rfl ?_
          refine xv_goto C 13 dX5_leastPartner_57 (by decide) ?_
          refine xv_eq [1, 2, 3, 4, 0] rfl ?_
          exact ih (x4 + 1) hf
        · refine xv_aload_n C dX5_leastPartner_34 rfl 0 rfl ?_
          refine xv_iload_n C dX5_leastPartner_35 rfl 1 rfl ?_
          refine xv_iload C dX5_leastPartner_36 4 rfl ?_
          refine xv_iload_n C dX5_leastPartner_38 rfl 3 rfl ?_
          obtain ⟨q2, hg, hf⟩ := dt_bind hf
          refine xc_i (xr_V C (ci := 5) (As := [.int x1, .int x4, .int x3]) (fun l => c_X5_likingWith g hS l x1 x4 x3 a q2 hg) gX5_leastPartner_X5_likingWith rfl ⟨rfl, rfl⟩ hdV_X5_likingWith ⟨Nat.le_of_ble_eq_true rfl, Nat.le_of_ble_eq_true rfl⟩ 0 rfl rfl (wX0 g _) rfl rfl (Nat.le_of_ble_eq_true rfl) dX5_leastPartner_39) ?_
          refine xv_aload_n C dX5_leastPartner_42 rfl 0 rfl ?_
          refine xv_get C hiX5 0 (wX0 g _) rfl 10 (by decide) (List.mem_of_getElem? (i := 2) rfl) rfl dX5_leastPartner_43 ?_
          refine xv_iload_n C dX5_leastPartner_46 rfl 2 rfl ?_
          refine xv_iald C 37 0 (wX37 g _) rfl hf dX5_leastPartner_47 (fun hf => ?_)
          refine xv_icmp_ne C 54 hf dX5_leastPartner_48 (by decide) (fun _ hf => ?_) (fun _ hf => ?_)
          · refine xv_iload C dX5_leastPartner_51 4 rfl ?_
            exact xz_ir hret hf dX5_leastPartner_53
          · refine xv_iinc C [(4, .int (x4 + 1)), (0, .ref (aX g 0)), (1, .int x1), (2, .int x2), (3, .int x3)] dX5_leastPartner_54 4 rfl rfl (by decide) rfl ?_
            refine xv_goto C 13 dX5_leastPartner_57 (by decide) ?_
            refine xv_eq [1, 2, 3, 4, 0] rfl ?_
            exact ih (x4 + 1) hf
  rw [f_X5_leastPartner] at hf
  show V K (sX g) 5 a [(0, .ref (aX g 0)), (1, .int x1), (2, .int x2)] 0 []
  refine xv_iload_n C dX5_leastPartner_0 rfl 2 rfl ?_
  refine xv_iconst C 1 dX5_leastPartner_1 (by decide) ?_
  refine xv_iload_n C dX5_leastPartner_2 rfl 1 rfl ?_
  refine xv_ishl C dX5_leastPartner_3 ?_
  refine xv_iconst C (-1) dX5_leastPartner_4 (by decide) ?_
  refine xv_ixor C dX5_leastPartner_5 ?_
  refine xv_iand C dX5_leastPartner_6 ?_
  refine xv_istore_n C [(3, .int (x2 &&& (((1 : Int32) <<< (x1 &&& 31)) ^^^ (-1)))), (0, .ref (aX g 0)), (1, .int x1), (2, .int x2)] dX5_leastPartner_7 rfl (by decide) rfl ?_
  refine xv_iload_n C dX5_leastPartner_8 rfl 2 rfl ?_
  refine xv_iconst C 1 dX5_leastPartner_9 (by decide) ?_
  refine xv_iadd C dX5_leastPartner_10 ?_
  refine xv_istore C [(4, .int (x1 + 1)), (3, .int (x2 &&& (((1 : Int32) <<< (x1 &&& 31)) ^^^ (-1)))), (0, .ref (aX g 0)), (1, .int x1), (2, .int x2)] dX5_leastPartner_11 (by decide) rfl ?_
  refine xv_eq [2, 3, 4, 1, 0] rfl ?_
  exact hL13 x1 x2 (x2 &&& (((1 : Int32) <<< (x1 &&& 31)) ^^^ (-1))) n (x1 + 1) hf
set_option maxRecDepth 100000 in
set_option maxHeartbeats 4000000 in
theorem c_X5_bestPartner (g : GX) (hS : xSide (sX g)) (l : Launch) (n : Nat) (x1 : Int32) (a : St) (q : Int32) (hf : f_X5_bestPartner n x1 a = some q) : Met l yX5_bestPartner wsX5_bestPartner rm_X5_bestPartner (xPre (sX g) [.ref (aX g 0), .int x1] a) (xPostI (sX g) q a) 0 0 (sX g).2.2.1 := by
  refine xm_i (av := [.ref (aX g 0), .int x1]) (cc := cX5_bestPartner) (maxL := 5) (by decide) rfl (Nat.le_of_ble_eq_true rfl) hS.1 hS.2 (fun K C hret => ?_)
  have C : CC K (sX g) cX5_bestPartner 5 wsX5_bestPartner RX5 rm_X5_bestPartner := C
  have hiX4 : ∀ w ∈ u_ws RX4 TX4 12, w ∈ wsX5_bestPartner := fun w h => List.mem_cons_of_mem _ (List.mem_append_right _ h)
  have hiX5 : ∀ w ∈ u_ws RX5 TX5 13, w ∈ wsX5_bestPartner := fun w h => List.mem_cons_of_mem _ (List.mem_append_left _ (List.mem_append_right _ h))
  have hL14 : ∀ (x1 : Int32)  (j : Nat) (x2 : Int32) (x3 : Int32), L_X5_bestPartner_14 n x1 a j x2 x3 = some q → V K (sX g) 5 a [(0, .ref (aX g 0)), (1, .int x1), (2, .int x2), (3, .int x3)] 14 [] := by
    intro x1 j
    induction j with
    | zero =>
      intro x2 x3 hf
      have hf : (none : Option Int32) = some q := hf
      cases hf
    | succ j ih =>
      intro x2 x3 hf
      rw [L_X5_bestPartner_14] at hf
      refine xv_iload_n C dX5_bestPartner_14 rfl 3 rfl ?_
      refine xv_aload_n C dX5_bestPartner_15 rfl 0 rfl ?_
      refine xv_get C hiX5 0 (wX0 g _) rfl 1 (by decide) (List.mem_of_getElem? (i := 1) rfl) rfl dX5_bestPartner_16 ?_
      refine xv_getN C hiX4 5 (wX5 g _) rfl 0 (by decide) (fun U H h => h.1 _ (List.mem_of_getElem? (i := 5) rfl)) rfl dX5_bestPartner_19 ?_
      refine xv_icmp_ge C 86 hf dX5_bestPartner_22 (by decide) (fun _ hf => ?_) (fun _ hf => ?_)
      · refine xv_iconst C (-1) dX5_bestPartner_86 (by decide) ?_
        exact xz_ir hret hf dX5_bestPartner_87
      · refine xv_iload_n C dX5_bestPartner_25 rfl 2 rfl ?_
        refine xv_iload_n C dX5_bestPartner_26 rfl 3 rfl ?_
        obtain ⟨q1, hg, hf⟩ := dt_bind hf
        refine xc_i (xr_S C (As := [.int x2, .int x3]) (fun l => c_X5_has (sX g) hS l x2 x3 a q1 hg) gX5_bestPartner_X5_has rfl ⟨rfl, rfl⟩ hdS_X5_has ⟨Nat.le_of_ble_eq_true rfl, Nat.le_of_ble_eq_true rfl⟩ rfl rfl (Nat.le_of_ble_eq_true rfl) dX5_bestPartner_27) ?_
        refine xv_if_eq C (y := 0) 80 hf dX5_bestPartner_30 (by decide) (fun _ hf => ?_) (fun _ hf => ?_)
        · refine xv_iinc C [(3, .int (x3 + 1)), (0, .ref (aX g 0)), (1, .int x1), (2, .int x2)] dX5_bestPartner_80 3 rfl rfl (by decide) rfl ?_
          refine xv_goto C 14 dX5_bestPartner_83 (by decide) ?_
          refine xv_eq [1, 2, 3, 0] rfl ?_
          exact ih x2 (x3 + 1) hf
        · refine xv_aload_n C dX5_bestPartner_33 rfl 0 rfl ?_
          refine xv_iload_n C dX5_bestPartner_34 rfl 3 rfl ?_
          refine xv_iload_n C dX5_bestPartner_35 rfl 2 rfl ?_
          obtain ⟨q2, hg, hf⟩ := dt_bind hf
          refine xc_i (xr_V C (ci := 5) (As := [.int x3, .int x2]) (fun l => c_X5_leastPartner g hS l n x3 x2 a q2 hg) gX5_bestPartner_X5_leastPartner rfl ⟨rfl, rfl⟩ hdV_X5_leastPartner ⟨Nat.le_of_ble_eq_true rfl, Nat.le_of_ble_eq_true rfl⟩ 0 rfl rfl (wX0 g _) rfl rfl (Nat.le_of_ble_eq_true rfl) dX5_bestPartner_36) ?_
          refine xv_istore C [(4, .int q2), (0, .ref (aX g 0)), (1, .int x1), (2, .int x2), (3, .int x3)] dX5_bestPartner_39 (by decide) rfl ?_
          refine xv_iload_n C dX5_bestPartner_41 rfl 4 rfl ?_
          refine xv_iload_n C dX5_bestPartner_42 rfl 2 rfl ?_
          refine xv_icmp_ne C 49 hf dX5_bestPartner_43 (by decide) (fun _ hf => ?_) (fun _ hf => ?_)
          · refine xv_iload C dX5_bestPartner_46 0 rfl ?_
            exact xz_ir hret hf dX5_bestPartner_48
          · refine xv_iload C dX5_bestPartner_49 0 rfl ?_
            refine xv_iload_n C dX5_bestPartner_51 rfl 2 rfl ?_
            refine xv_icmp_ne C 57 hf dX5_bestPartner_52 (by decide) (fun _ hf => ?_) (fun _ hf => ?_)
            · refine xv_iload_n C dX5_bestPartner_55 rfl 4 rfl ?_
              exact xz_ir hret hf dX5_bestPartner_56
            · refine xv_iload_n C dX5_bestPartner_57 rfl 3 rfl ?_
              refine xv_iconst C 1 dX5_bestPartner_58 (by decide) ?_
              refine xv_iload_n C dX5_bestPartner_59 rfl 4 rfl ?_
              refine xv_ishl C dX5_bestPartner_60 ?_
              refine xv_iconst C (-1) dX5_bestPartner_61 (by decide) ?_
              refine xv_ixor C dX5_bestPartner_62 ?_
              refine xv_iand C dX5_bestPartner_63 ?_
              refine xv_istore_n C [(2, .int (x2 &&& (((1 : Int32) <<< (x3 &&& 31)) ^^^ (-1)))), (4, .int q2), (0, .ref (aX g 0)), (1, .int x1), (3, .int x3)] dX5_bestPartner_64 rfl (by decide) rfl ?_
              refine xv_iload C dX5_bestPartner_65 1 rfl ?_
              refine xv_iconst C (-1) dX5_bestPartner_67 (by decide) ?_
              refine xv_icmp_eq C 80 hf dX5_bestPartner_68 (by decide) (fun _ hf => ?_) (fun _ hf => ?_)
              · refine xv_iinc C [(3, .int (x3 + 1)), (2, .int (x2 &&& (((1 : Int32) <<< (x3 &&& 31)) ^^^ (-1)))), (4, .int q2), (0, .ref (aX g 0)), (1, .int x1)] dX5_bestPartner_80 4 rfl rfl (by decide) rfl ?_
                refine xv_goto C 14 dX5_bestPartner_83 (by decide) ?_
                refine xv_eq [3, 4, 1, 0] rfl ?_
                exact ih (x2 &&& (((1 : Int32) <<< (x3 &&& 31)) ^^^ (-1))) (x3 + 1) hf
              · refine xv_iload_n C dX5_bestPartner_71 rfl 0 rfl ?_
                refine xv_iconst C 1 dX5_bestPartner_72 (by decide) ?_
                refine xv_iload C dX5_bestPartner_73 1 rfl ?_
                refine xv_ishl C dX5_bestPartner_75 ?_
                refine xv_iconst C (-1) dX5_bestPartner_76 (by decide) ?_
                refine xv_ixor C dX5_bestPartner_77 ?_
                refine xv_iand C dX5_bestPartner_78 ?_
                refine xv_istore_n C [(2, .int ((x2 &&& (((1 : Int32) <<< (x3 &&& 31)) ^^^ (-1))) &&& (((1 : Int32) <<< (q2 &&& 31)) ^^^ (-1)))), (4, .int q2), (0, .ref (aX g 0)), (1, .int x1), (3, .int x3)] dX5_bestPartner_79 rfl (by decide) rfl ?_
                refine xv_iinc C [(3, .int (x3 + 1)), (2, .int ((x2 &&& (((1 : Int32) <<< (x3 &&& 31)) ^^^ (-1))) &&& (((1 : Int32) <<< (q2 &&& 31)) ^^^ (-1)))), (4, .int q2), (0, .ref (aX g 0)), (1, .int x1)] dX5_bestPartner_80 4 rfl rfl (by decide) rfl ?_
                refine xv_goto C 14 dX5_bestPartner_83 (by decide) ?_
                refine xv_eq [3, 4, 1, 0] rfl ?_
                exact ih ((x2 &&& (((1 : Int32) <<< (x3 &&& 31)) ^^^ (-1))) &&& (((1 : Int32) <<< (q2 &&& 31)) ^^^ (-1))) (x3 + 1) hf
  rw [f_X5_bestPartner] at hf
  show V K (sX g) 5 a [(0, .ref (aX g 0)), (1, .int x1)] 0 []
  refine xv_iconst C 1 dX5_bestPartner_0 (by decide) ?_
  refine xv_aload_n C dX5_bestPartner_1 rfl 0 rfl ?_
  refine xv_get C hiX5 0 (wX0 g _) rfl 1 (by decide) (List.mem_of_getElem? (i := 1) rfl) rfl dX5_bestPartner_2 ?_
  refine xv_getN C hiX4 5 (wX5 g _) rfl 0 (by decide) (fun U H h => h.1 _ (List.mem_of_getElem? (i := 5) rfl)) rfl dX5_bestPartner_5 ?_
  refine xv_ishl C dX5_bestPartner_8 ?_
  refine xv_iconst C 1 dX5_bestPartner_9 (by decide) ?_
  refine xv_isub C dX5_bestPartner_10 ?_
  refine xv_istore_n C [(2, .int (((1 : Int32) <<< ((a 5 0) &&& 31)) - 1)), (0, .ref (aX g 0)), (1, .int x1)] dX5_bestPartner_11 rfl (by decide) rfl ?_
  refine xv_iconst C 0 dX5_bestPartner_12 (by decide) ?_
  refine xv_istore_n C [(3, .int 0), (2, .int (((1 : Int32) <<< ((a 5 0) &&& 31)) - 1)), (0, .ref (aX g 0)), (1, .int x1)] dX5_bestPartner_13 rfl (by decide) rfl ?_
  refine xv_eq [2, 3, 1, 0] rfl ?_
  exact hL14 x1 n (((1 : Int32) <<< ((a 5 0) &&& 31)) - 1) 0 hf
set_option maxRecDepth 100000 in
set_option maxHeartbeats 4000000 in
theorem c_X5_pair (g : GX) (hS : xSide (sX g)) (l : Launch) (n : Nat) (x1 : Int32) (a : St) (q : (Int32 × St)) (hf : f_X5_pair n x1 a = some q) : Met l yX5_pair wsX5_pair rm_X5_pair (xPre (sX g) [.ref (aX g 0), .int x1] a) (xPostI (sX g) q.1 q.2) 0 0 (sX g).2.2.1 := by
  refine xm_i (av := [.ref (aX g 0), .int x1]) (cc := cX5_pair) (maxL := 2) (by decide) rfl (Nat.le_of_ble_eq_true rfl) hS.1 hS.2 (fun K C hret => ?_)
  have C : CC K (sX g) cX5_pair 2 wsX5_pair RX5 rm_X5_pair := C
  have hiX4 : ∀ w ∈ u_ws RX4 TX4 12, w ∈ wsX5_pair := fun w h => List.mem_cons_of_mem _ (List.mem_append_right _ h)
  have hiX5 : ∀ w ∈ u_ws RX5 TX5 13, w ∈ wsX5_pair := fun w h => List.mem_cons_of_mem _ (List.mem_append_left _ (List.mem_append_right _ h))
  rw [f_X5_pair] at hf
  show V K (sX g) 2 a [(0, .ref (aX g 0)), (1, .int x1)] 0 []
  refine xv_iload_n C dX5_pair_0 rfl 1 rfl ?_
  refine xv_iconst C (-1) dX5_pair_1 (by decide) ?_
  refine xv_icmp_eq C 19 hf dX5_pair_2 (by decide) (fun _ hf => ?_) (fun _ hf => ?_)
  · refine xv_aload_n C dX5_pair_19 rfl 0 rfl ?_
    obtain ⟨q1, hg, hf⟩ := dt_bind hf
    refine xc_v (xr_V C (ci := 5) (As := []) (fun l => c_X5_likeBest g hS l n a q1 hg) gX5_pair_X5_likeBest rfl ⟨rfl, rfl⟩ hdV_X5_likeBest ⟨Nat.le_of_ble_eq_true rfl, Nat.le_of_ble_eq_true rfl⟩ 0 rfl rfl (wX0 g _) rfl rfl (Nat.le_of_ble_eq_true rfl) dX5_pair_20) ?_
    refine xv_iload_n C dX5_pair_23 rfl 1 rfl ?_
    refine xv_iconst C (-1) dX5_pair_24 (by decide) ?_
    refine xv_icmp_ne C 47 hf dX5_pair_25 (by decide) (fun _ hf => ?_) (fun _ hf => ?_)
    · refine xv_aload_n C dX5_pair_28 rfl 0 rfl ?_
      refine xv_get C hiX5 0 (wX0 g _) rfl 10 (by decide) (List.mem_of_getElem? (i := 2) rfl) rfl dX5_pair_29 ?_
      refine xv_iconst C 1 dX5_pair_32 (by decide) ?_
      refine xv_aload_n C dX5_pair_33 rfl 0 rfl ?_
      refine xv_get C hiX5 0 (wX0 g _) rfl 1 (by decide) (List.mem_of_getElem? (i := 1) rfl) rfl dX5_pair_34 ?_
      refine xv_getN C hiX4 5 (wX5 g _) rfl 0 (by decide) (fun U H h => h.1 _ (List.mem_of_getElem? (i := 5) rfl)) rfl dX5_pair_37 ?_
      refine xv_ishl C dX5_pair_40 ?_
      refine xv_iconst C 1 dX5_pair_41 (by decide) ?_
      refine xv_isub C dX5_pair_42 ?_
      refine xv_iald C 37 0 (wX37 g _) rfl hf dX5_pair_43 (fun hf => ?_)
      refine xv_goto C 52 dX5_pair_44 (by decide) ?_
      exact xz_iw hret hf dX5_pair_52
    · refine xv_aload_n C dX5_pair_47 rfl 0 rfl ?_
      refine xv_iload_n C dX5_pair_48 rfl 1 rfl ?_
      obtain ⟨q2, hg, hf⟩ := dt_bind hf
      refine xc_i (xr_V C (ci := 5) (As := [.int x1]) (fun l => c_X5_bestPartner g hS l n x1 q1 q2 hg) gX5_pair_X5_bestPartner rfl ⟨rfl, rfl⟩ hdV_X5_bestPartner ⟨Nat.le_of_ble_eq_true rfl, Nat.le_of_ble_eq_true rfl⟩ 0 rfl rfl (wX0 g _) rfl rfl (Nat.le_of_ble_eq_true rfl) dX5_pair_49) ?_
      exact xz_iw hret hf dX5_pair_52
  · refine xv_aload_n C dX5_pair_5 rfl 0 rfl ?_
    refine xv_get C hiX5 0 (wX0 g _) rfl 1 (by decide) (List.mem_of_getElem? (i := 1) rfl) rfl dX5_pair_6 ?_
    refine xv_iload_n C dX5_pair_9 rfl 1 rfl ?_
    obtain ⟨q3, hg, hf⟩ := dt_bind hf
    refine xc_i (xr_VN C (ci := 4) (As := [.int x1]) (fun l => c_X4_hasHouse g hS l x1 a q3 hg) gX5_pair_X4_hasHouse_n114 rfl ⟨rfl, rfl⟩ (fun U H h => h.1 _ (List.mem_of_getElem? (i := 45) rfl)) (List.mem_of_getElem? (i := 4) rfl) (List.mem_of_getElem? (i := 3) rfl) (List.mem_of_getElem? (i := 5) rfl) hdN_X4_hasHouse ⟨Nat.le_of_ble_eq_true rfl, Nat.le_of_ble_eq_true rfl⟩ 5 rfl rfl (wX5 g _) rfl rfl (Nat.le_of_ble_eq_true rfl) dX5_pair_10) ?_
    refine xv_if_ne C (y := 0) 19 hf dX5_pair_13 (by decide) (fun _ hf => ?_) (fun _ hf => ?_)
    · refine xv_bipush C (-2) dX5_pair_16 (by decide) ?_
      exact xz_iw hret hf dX5_pair_18
    · refine xv_aload_n C dX5_pair_19 rfl 0 rfl ?_
      obtain ⟨q4, hg, hf⟩ := dt_bind hf
      refine xc_v (xr_V C (ci := 5) (As := []) (fun l => c_X5_likeBest g hS l n a q4 hg) gX5_pair_X5_likeBest rfl ⟨rfl, rfl⟩ hdV_X5_likeBest ⟨Nat.le_of_ble_eq_true rfl, Nat.le_of_ble_eq_true rfl⟩ 0 rfl rfl (wX0 g _) rfl rfl (Nat.le_of_ble_eq_true rfl) dX5_pair_20) ?_
      refine xv_iload_n C dX5_pair_23 rfl 1 rfl ?_
      refine xv_iconst C (-1) dX5_pair_24 (by decide) ?_
      refine xv_icmp_ne C 47 hf dX5_pair_25 (by decide) (fun _ hf => ?_) (fun _ hf => ?_)
      · refine xv_aload_n C dX5_pair_28 rfl 0 rfl ?_
        refine xv_get C hiX5 0 (wX0 g _) rfl 10 (by decide) (List.mem_of_getElem? (i := 2) rfl) rfl dX5_pair_29 ?_
        refine xv_iconst C 1 dX5_pair_32 (by decide) ?_
        refine xv_aload_n C dX5_pair_33 rfl 0 rfl ?_
        refine xv_get C hiX5 0 (wX0 g _) rfl 1 (by decide) (List.mem_of_getElem? (i := 1) rfl) rfl dX5_pair_34 ?_
        refine xv_getN C hiX4 5 (wX5 g _) rfl 0 (by decide) (fun U H h => h.1 _ (List.mem_of_getElem? (i := 5) rfl)) rfl dX5_pair_37 ?_
        refine xv_ishl C dX5_pair_40 ?_
        refine xv_iconst C 1 dX5_pair_41 (by decide) ?_
        refine xv_isub C dX5_pair_42 ?_
        refine xv_iald C 37 0 (wX37 g _) rfl hf dX5_pair_43 (fun hf => ?_)
        refine xv_goto C 52 dX5_pair_44 (by decide) ?_
        exact xz_iw hret hf dX5_pair_52
      · refine xv_aload_n C dX5_pair_47 rfl 0 rfl ?_
        refine xv_iload_n C dX5_pair_48 rfl 1 rfl ?_
        obtain ⟨q5, hg, hf⟩ := dt_bind hf
        refine xc_i (xr_V C (ci := 5) (As := [.int x1]) (fun l => c_X5_bestPartner g hS l n x1 q4 q5 hg) gX5_pair_X5_bestPartner rfl ⟨rfl, rfl⟩ hdV_X5_bestPartner ⟨Nat.le_of_ble_eq_true rfl, Nat.le_of_ble_eq_true rfl⟩ 0 rfl rfl (wX0 g _) rfl rfl (Nat.le_of_ble_eq_true rfl) dX5_pair_49) ?_
        exact xz_iw hret hf dX5_pair_52
set_option maxRecDepth 100000 in
set_option maxHeartbeats 4000000 in
theorem c_X4_roundOf (g : GX) (hS : xSide (sX g)) (l : Launch) (n : Nat) (x1 : Int32) (a : St) (q : Int32) (hf : f_X4_roundOf n x1 a = some q) : Met l yX4_roundOf wsX4_roundOf rm_X4_roundOf (xPre (sX g) [.ref (aX g 5), .int x1] a) (xPostI (sX g) q a) 0 0 (sX g).2.2.1 := by
  refine xm_i (av := [.ref (aX g 5), .int x1]) (cc := cX4_roundOf) (maxL := 5) (by decide) rfl (Nat.le_of_ble_eq_true rfl) hS.1 hS.2 (fun K C hret => ?_)
  have C : CC K (sX g) cX4_roundOf 5 wsX4_roundOf RX4 rm_X4_roundOf := C
  have hiX4 : ∀ w ∈ u_ws RX4 TX4 12, w ∈ wsX4_roundOf := fun w h => List.mem_cons_of_mem _ (List.mem_append_right _ h)
  have hL7 : ∀ (x1 : Int32)  (j : Nat) (x2 : Int32) (x3 : Int32) (x4 : Int32), L_X4_roundOf_7 n x1 a j x2 x3 x4 = some q → V K (sX g) 5 a [(0, .ref (aX g 5)), (1, .int x1), (2, .int x2), (3, .int x3), (4, .int x4)] 7 [] := by
    intro x1 j
    induction j with
    | zero =>
      intro x2 x3 x4 hf
      have hf : (none : Option Int32) = some q := hf
      cases hf
    | succ j ih =>
      intro x2 x3 x4 hf
      rw [L_X4_roundOf_7] at hf
      refine xv_iload C dX4_roundOf_7 4 rfl ?_
      refine xv_aload_n C dX4_roundOf_9 rfl 0 rfl ?_
      refine xv_get C hiX4 5 (wX5 g _) rfl 0 (by decide) (List.mem_of_getElem? (i := 1) rfl) rfl dX4_roundOf_10 ?_
      refine xv_icmp_ge C 47 hf dX4_roundOf_13 (by decide) (fun _ hf => ?_) (fun _ hf => ?_)
      · refine xv_iconst C 0 dX4_roundOf_47 (by decide) ?_
        exact xz_ir hret hf dX4_roundOf_48
      · refine xv_iload_n C dX4_roundOf_16 rfl 2 rfl ?_
        refine xv_iconst C (-1) dX4_roundOf_17 (by decide) ?_
        refine xv_icmp_eq C 47 hf dX4_roundOf_18 (by decide) (fun _ hf => ?_) (fun _ hf => ?_)
        · refine xv_iconst C 0 dX4_roundOf_47 (by decide) ?_
          exact xz_ir hret hf dX4_roundOf_48
        · refine xv_iload_n C dX4_roundOf_21 rfl 3 rfl ?_
          refine xv_iconst C 1 dX4_roundOf_22 (by decide) ?_
          refine xv_iload_n C dX4_roundOf_23 rfl 2 rfl ?_
          refine xv_ishl C dX4_roundOf_24 ?_
          refine xv_ior C dX4_roundOf_25 ?_
          refine xv_istore_n C [(3, .int (x3 ||| ((1 : Int32) <<< (x2 &&& 31)))), (0, .ref (aX g 5)), (1, .int x1), (2, .int x2), (4, .int x4)] dX4_roundOf_26 rfl (by decide) rfl ?_
          refine xv_aload_n C dX4_roundOf_27 rfl 1 rfl ?_
          refine xv_get C hiX4 5 (wX5 g _) rfl 3 (by decide) (List.mem_of_getElem? (i := 2) rfl) rfl dX4_roundOf_28 ?_
          refine xv_iload_n C dX4_roundOf_31 rfl 3 rfl ?_
          refine xv_iald C 6 0 (wX6 g _) rfl hf dX4_roundOf_32 (fun hf => ?_)
          refine xv_istore_n C [(2, .int (a 6 x2.toNatClampNeg)), (3, .int (x3 ||| ((1 : Int32) <<< (x2 &&& 31)))), (0, .ref (aX g 5)), (1, .int x1), (4, .int x4)] dX4_roundOf_33 rfl (by decide) rfl ?_
          refine xv_iload_n C dX4_roundOf_34 rfl 0 rfl ?_
          refine xv_iload_n C dX4_roundOf_35 rfl 3 rfl ?_
          refine xv_icmp_ne C 41 hf dX4_roundOf_36 (by decide) (fun _ hf => ?_) (fun _ hf => ?_)
          · refine xv_iload_n C dX4_roundOf_39 rfl 1 rfl ?_
            exact xz_ir hret hf dX4_roundOf_40
          · refine xv_iinc C [(4, .int (x4 + 1)), (2, .int (a 6 x2.toNatClampNeg)), (3, .int (x3 ||| ((1 : Int32) <<< (x2 &&& 31)))), (0, .ref (aX g 5)), (1, .int x1)] dX4_roundOf_41 4 rfl rfl (by decide) rfl ?_
            refine xv_goto C 7 dX4_roundOf_44 (by decide) ?_
            refine xv_eq [3, 4, 1, 2, 0] rfl ?_
            exact ih (a 6 x2.toNatClampNeg) (x3 ||| ((1 : Int32) <<< (x2 &&& 31))) (x4 + 1) hf
  rw [f_X4_roundOf] at hf
  show V K (sX g) 5 a [(0, .ref (aX g 5)), (1, .int x1)] 0 []
  refine xv_iload_n C dX4_roundOf_0 rfl 1 rfl ?_
  refine xv_istore_n C [(2, .int x1), (0, .ref (aX g 5)), (1, .int x1)] dX4_roundOf_1 rfl (by decide) rfl ?_
  refine xv_iconst C 0 dX4_roundOf_2 (by decide) ?_
  refine xv_istore_n C [(3, .int 0), (2, .int x1), (0, .ref (aX g 5)), (1, .int x1)] dX4_roundOf_3 rfl (by decide) rfl ?_
  refine xv_iconst C 0 dX4_roundOf_4 (by decide) ?_
  refine xv_istore C [(4, .int 0), (3, .int 0), (2, .int x1), (0, .ref (aX g 5)), (1, .int x1)] dX4_roundOf_5 (by decide) rfl ?_
  refine xv_eq [3, 4, 2, 1, 0] rfl ?_
  exact hL7 x1 n x1 0 0 hf
set_option maxRecDepth 100000 in
set_option maxHeartbeats 4000000 in
theorem c_X5_town (g : GX) (hS : xSide (sX g)) (l : Launch) (n : Nat) (x1 : Int32) (a : St) (q : Int32) (hf : f_X5_town n x1 a = some q) : Met l yX5_town wsX5_town rm_X5_town (xPre (sX g) [.ref (aX g 0), .int x1] a) (xPostI (sX g) q a) 0 0 (sX g).2.2.1 := by
  refine xm_i (av := [.ref (aX g 0), .int x1]) (cc := cX5_town) (maxL := 7) (by decide) rfl (Nat.le_of_ble_eq_true rfl) hS.1 hS.2 (fun K C hret => ?_)
  have C : CC K (sX g) cX5_town 7 wsX5_town RX5 rm_X5_town := C
  have hiX4 : ∀ w ∈ u_ws RX4 TX4 12, w ∈ wsX5_town := fun w h => List.mem_cons_of_mem _ (List.mem_append_right _ h)
  have hiX5 : ∀ w ∈ u_ws RX5 TX5 13, w ∈ wsX5_town := fun w h => List.mem_cons_of_mem _ (List.mem_append_left _ (List.mem_append_right _ h))
  have hB108 : ∀ (x1 : Int32) (x2 : Int32) (x3 : Int32) (x4 : Int32) , B_X5_town_108 n x1 x2 x3 x4 a = some q → V K (sX g) 7 a [(1, .int x1), (2, .int x2), (3, .int x3), (4, .int x4)] 108 [] := by
    intro x1 x2 x3 x4 hf
    rw [B_X5_town_108] at hf
    refine xv_iload_n C dX5_town_108 rfl 0 rfl ?_
    refine xv_if_ne C (y := 0) 116 hf dX5_town_109 (by decide) (fun _ hf => ?_) (fun _ hf => ?_)
    · refine xv_iload_n C dX5_town_112 rfl 1 rfl ?_
      refine xv_goto C 127 dX5_town_113 (by decide) ?_
      exact xz_ir hret hf dX5_town_127
    · refine xv_iload_n C dX5_town_116 rfl 0 rfl ?_
      refine xv_iconst C 1 dX5_town_117 (by decide) ?_
      refine xv_icmp_ne C 125 hf dX5_town_118 (by decide) (fun _ hf => ?_) (fun _ hf => ?_)
      · refine xv_iload_n C dX5_town_121 rfl 2 rfl ?_
        refine xv_goto C 127 dX5_town_122 (by decide) ?_
        exact xz_ir hret hf dX5_town_127
      · refine xv_iload C dX5_town_125 3 rfl ?_
        exact xz_ir hret hf dX5_town_127
  have hL22 : ∀ (x1 : Int32)  (j : Nat) (x2 : Int32) (x3 : Int32) (x4 : Int32) (x5 : Int32), L_X5_town_22 n x1 a j x2 x3 x4 x5 = some q → V K (sX g) 7 a [(0, .ref (aX g 0)), (1, .int x1), (2, .int x2), (3, .int x3), (4, .int x4), (5, .int x5)] 22 [] := by
    intro x1 j
    induction j with
    | zero =>
      intro x2 x3 x4 x5 hf
      have hf : (none : Option Int32) = some q := hf
      cases hf
    | succ j ih =>
      intro x2 x3 x4 x5 hf
      rw [L_X5_town_22] at hf
      refine xv_iload C dX5_town_22 5 rfl ?_
      refine xv_aload_n C dX5_town_24 rfl 0 rfl ?_
      refine xv_get C hiX5 0 (wX0 g _) rfl 1 (by decide) (List.mem_of_getElem? (i := 1) rfl) rfl dX5_town_25 ?_
      refine xv_getN C hiX4 5 (wX5 g _) rfl 0 (by decide) (fun U H h => h.1 _ (List.mem_of_getElem? (i := 5) rfl)) rfl dX5_town_28 ?_
      refine xv_icmp_ge C 108 hf dX5_town_31 (by decide) (fun _ hf => ?_) (fun _ hf => ?_)
      · refine xv_eq [1, 2, 3, 4] rfl ?_
        exact hB108 x1 x2 x3 x4 hf
      · refine xv_aload_n C dX5_town_34 rfl 0 rfl ?_
        refine xv_get C hiX5 0 (wX0 g _) rfl 1 (by decide) (List.mem_of_getElem? (i := 1) rfl) rfl dX5_town_35 ?_
        refine xv_iload C dX5_town_38 5 rfl ?_
        obtain ⟨q2, hg, hf⟩ := dt_bind hf
        refine xc_i (xr_VN C (ci := 4) (As := [.int x5]) (fun l => c_X4_roundOf g hS l n x5 a q2 hg) gX5_town_X4_roundOf_n234 rfl ⟨rfl, rfl⟩ (fun U H h => h.1 _ (List.mem_of_getElem? (i := 59) rfl)) (List.mem_of_getElem? (i := 11) rfl) (List.mem_of_getElem? (i := 10) rfl) (List.mem_of_getElem? (i := 12) rfl) hdN_X4_roundOf ⟨Nat.le_of_ble_eq_true rfl, Nat.le_of_ble_eq_true rfl⟩ 5 rfl rfl (wX5 g _) rfl rfl (Nat.le_of_ble_eq_true rfl) dX5_town_40) ?_
        refine xv_istore C [(6, .int q2), (0, .ref (aX g 0)), (1, .int x1), (2, .int x2), (3, .int x3), (4, .int x4), (5, .int x5)] dX5_town_43 (by decide) rfl ?_
        refine xv_iload C dX5_town_45 0 rfl ?_
        refine xv_if_eq C (y := 0) 73 hf dX5_town_47 (by decide) (fun _ hf => ?_) (fun _ hf => ?_)
        · refine xv_aload_n C dX5_town_73 rfl 1 rfl ?_
          refine xv_get C hiX5 0 (wX0 g _) rfl 1 (by decide) (List.mem_of_getElem? (i := 1) rfl) rfl dX5_town_74 ?_
          refine xv_iload C dX5_town_77 6 rfl ?_
          refine xv_aload_n C dX5_town_79 rfl 1 rfl ?_
          refine xv_get C hiX5 0 (wX0 g _) rfl 1 (by decide) (List.mem_of_getElem? (i := 1) rfl) rfl dX5_town_80 ?_
          refine xv_getN C hiX4 5 (wX5 g _) rfl 0 (by decide) (fun U H h => h.1 _ (List.mem_of_getElem? (i := 5) rfl)) rfl dX5_town_83 ?_
          obtain ⟨q3, hg, hf⟩ := dt_bind hf
          refine xc_i (xr_VN C (ci := 4) (As := [.int x5, .int (a 5 0)]) (fun l => c_X4_wayEnd g hS l n x5 (a 5 0) a q3 hg) gX5_town_X4_wayEnd_n191 rfl ⟨rfl, rfl⟩ (fun U H h => h.1 _ (List.mem_of_getElem? (i := 53) rfl)) (List.mem_of_getElem? (i := 11) rfl) (List.mem_of_getElem? (i := 27) rfl) (List.mem_of_getElem? (i := 28) rfl) hdN_X4_wayEnd ⟨Nat.le_of_ble_eq_true rfl, Nat.le_of_ble_eq_true rfl⟩ 5 rfl rfl (wX5 g _) rfl rfl (Nat.le_of_ble_eq_true rfl) dX5_town_86) ?_
          refine xv_iconst C (-1) dX5_town_89 (by decide) ?_
          refine xv_icmp_ne C 102 hf dX5_town_90 (by decide) (fun _ hf => ?_) (fun _ hf => ?_)
          · refine xv_iload C dX5_town_93 5 rfl ?_
            refine xv_iconst C 1 dX5_town_95 (by decide) ?_
            refine xv_iload C dX5_town_96 6 rfl ?_
            refine xv_ishl C dX5_town_98 ?_
            refine xv_ior C dX5_town_99 ?_
            refine xv_istore C [(4, .int (x4 ||| ((1 : Int32) <<< (x5 &&& 31)))), (6, .int q2), (0, .ref (aX g 0)), (1, .int x1), (2, .int x2), (3, .int x3), (5, .int x5)] dX5_town_100 (by decide) rfl ?_
            refine xv_iinc C [(5, .int (x5 + 1)), (4, .int (x4 ||| ((1 : Int32) <<< (x5 &&& 31)))), (6, .int q2), (0, .ref (aX g 0)), (1, .int x1), (2, .int x2), (3, .int x3)] dX5_town_102 6 rfl rfl (by decide) rfl ?_
            refine xv_goto C 22 dX5_town_105 (by decide) ?_
            refine xv_eq [3, 4, 5, 6, 1, 0] rfl ?_
            exact ih x2 x3 (x4 ||| ((1 : Int32) <<< (x5 &&& 31))) (x5 + 1) hf
          · refine xv_iinc C [(5, .int (x5 + 1)), (6, .int q2), (0, .ref (aX g 0)), (1, .int x1), (2, .int x2), (3, .int x3), (4, .int x4)] dX5_town_102 6 rfl rfl (by decide) rfl ?_
            refine xv_goto C 22 dX5_town_105 (by decide) ?_
            refine xv_eq [2, 3, 4, 5, 6, 0] rfl ?_
            exact ih x2 x3 x4 (x5 + 1) hf
        · refine xv_iload C dX5_town_50 0 rfl ?_
          obtain ⟨q4, hg, hf⟩ := dt_bind hf
          refine xc_i (xr_S C (As := [.int q2]) (fun l => c_J6_numberOfTrailingZeros_0f7a4 (sX g) hS l q2 a q4 hg) gX5_town_J6_numberOfTrailingZeros_0f7a4 rfl ⟨rfl, rfl⟩ hdS_J6_numberOfTrailingZeros_0f7a4 ⟨Nat.le_of_ble_eq_true rfl, Nat.le_of_ble_eq_true rfl⟩ rfl rfl (Nat.le_of_ble_eq_true rfl) dX5_town_52) ?_
          refine xv_iload C dX5_town_55 6 rfl ?_
          refine xv_icmp_ne C 73 hf dX5_town_57 (by decide) (fun _ hf => ?_) (fun _ hf => ?_)
          · refine xv_iinc C [(2, .int (x2 + 1)), (6, .int q2), (0, .ref (aX g 0)), (1, .int x1), (3, .int x3), (4, .int x4), (5, .int x5)] dX5_town_60 3 rfl rfl (by decide) rfl ?_
            refine xv_iload_n C dX5_town_63 rfl 4 rfl ?_
            refine xv_iload C dX5_town_64 1 rfl ?_
            obtain ⟨q6, hg, hf⟩ := dt_bind hf
            refine xc_i (xr_S C (As := [.int q2]) (fun l => c_J6_bitCount_0f7a4 (sX g) hS l q2 a q6 hg) gX5_town_J6_bitCount_0f7a4 rfl ⟨rfl, rfl⟩ hdS_J6_bitCount_0f7a4 ⟨Nat.le_of_ble_eq_true rfl, Nat.le_of_ble_eq_true rfl⟩ rfl rfl (Nat.le_of_ble_eq_true rfl) dX5_town_66) ?_
            refine xv_max C (List.mem_of_getElem? (i := 2) rfl) (List.mem_of_getElem? (i := 3) rfl) (List.mem_of_getElem? (i := 4) rfl) (List.mem_of_getElem? (i := 5) rfl) (Nat.le_of_ble_eq_true rfl) (Nat.le_of_ble_eq_true rfl) dX5_town_69 ?_
            refine xv_istore_n C [(3, .int (if x3 < q6 then q6 else x3)), (2, .int (x2 + 1)), (6, .int q2), (0, .ref (aX g 0)), (1, .int x1), (4, .int x4), (5, .int x5)] dX5_town_72 rfl (by decide) rfl ?_
            refine xv_aload_n C dX5_town_73 rfl 3 rfl ?_
            refine xv_get C hiX5 0 (wX0 g _) rfl 1 (by decide) (List.mem_of_getElem? (i := 1) rfl) rfl dX5_town_74 ?_
            refine xv_iload C dX5_town_77 6 rfl ?_
            refine xv_aload_n C dX5_town_79 rfl 3 rfl ?_
            refine xv_get C hiX5 0 (wX0 g _) rfl 1 (by decide) (List.mem_of_getElem? (i := 1) rfl) rfl dX5_town_80 ?_
            refine xv_getN C hiX4 5 (wX5 g _) rfl 0 (by decide) (fun U H h => h.1 _ (List.mem_of_getElem? (i := 5) rfl)) rfl dX5_town_83 ?_
            obtain ⟨q7, hg, hf⟩ := dt_bind hf
            refine xc_i (xr_VN C (ci := 4) (As := [.int x5, .int (a 5 0)]) (fun l => c_X4_wayEnd g hS l n x5 (a 5 0) a q7 hg) gX5_town_X4_wayEnd_n191 rfl ⟨rfl, rfl⟩ (fun U H h => h.1 _ (List.mem_of_getElem? (i := 53) rfl)) (List.mem_of_getElem? (i := 11) rfl) (List.mem_of_getElem? (i := 27) rfl) (List.mem_of_getElem? (i := 28) rfl) hdN_X4_wayEnd ⟨Nat.le_of_ble_eq_true rfl, Nat.le_of_ble_eq_true rfl⟩ 5 rfl rfl (wX5 g _) rfl rfl (Nat.le_of_ble_eq_true rfl) dX5_town_86) ?_
            refine xv_iconst C (-1) dX5_town_89 (by decide) ?_
            refine xv_icmp_ne C 102 hf dX5_town_90 (by decide) (fun _ hf => ?_) (fun _ hf => ?_)
            · refine xv_iload C dX5_town_93 5 rfl ?_
              refine xv_iconst C 1 dX5_town_95 (by decide) ?_
              refine xv_iload C dX5_town_96 6 rfl ?_
              refine xv_ishl C dX5_town_98 ?_
              refine xv_ior C dX5_town_99 ?_
              refine xv_istore C [(4, .int (x4 ||| ((1 : Int32) <<< (x5 &&& 31)))), (3, .int (if x3 < q6 then q6 else x3)), (2, .int (x2 + 1)), (6, .int q2), (0, .ref (aX g 0)), (1, .int x1), (5, .int x5)] dX5_town_100 (by decide) rfl ?_
              refine xv_iinc C [(5, .int (x5 + 1)), (4, .int (x4 ||| ((1 : Int32) <<< (x5 &&& 31)))), (3, .int (if x3 < q6 then q6 else x3)), (2, .int (x2 + 1)), (6, .int q2), (0, .ref (aX g 0)), (1, .int x1)] dX5_town_102 6 rfl rfl (by decide) rfl ?_
              refine xv_goto C 22 dX5_town_105 (by decide) ?_
              refine xv_eq [5, 6, 3, 2, 1, 0] rfl ?_
              exact ih (x2 + 1) (if x3 < q6 then q6 else x3) (x4 ||| ((1 : Int32) <<< (x5 &&& 31))) (x5 + 1) hf
            · refine xv_iinc C [(5, .int (x5 + 1)), (3, .int (if x3 < q6 then q6 else x3)), (2, .int (x2 + 1)), (6, .int q2), (0, .ref (aX g 0)), (1, .int x1), (4, .int x4)] dX5_town_102 6 rfl rfl (by decide) rfl ?_
              refine xv_goto C 22 dX5_town_105 (by decide) ?_
              refine xv_eq [4, 5, 2, 1, 6, 0] rfl ?_
              exact ih (x2 + 1) (if x3 < q6 then q6 else x3) x4 (x5 + 1) hf
          · refine xv_aload_n C dX5_town_73 rfl 1 rfl ?_
            refine xv_get C hiX5 0 (wX0 g _) rfl 1 (by decide) (List.mem_of_getElem? (i := 1) rfl) rfl dX5_town_74 ?_
            refine xv_iload C dX5_town_77 6 rfl ?_
            refine xv_aload_n C dX5_town_79 rfl 1 rfl ?_
            refine xv_get C hiX5 0 (wX0 g _) rfl 1 (by decide) (List.mem_of_getElem? (i := 1) rfl) rfl dX5_town_80 ?_
            refine xv_getN C hiX4 5 (wX5 g _) rfl 0 (by decide) (fun U H h => h.1 _ (List.mem_of_getElem? (i := 5) rfl)) rfl dX5_town_83 ?_
            obtain ⟨q5, hg, hf⟩ := dt_bind hf
            refine xc_i (xr_VN C (ci := 4) (As := [.int x5, .int (a 5 0)]) (fun l => c_X4_wayEnd g hS l n x5 (a 5 0) a q5 hg) gX5_town_X4_wayEnd_n191 rfl ⟨rfl, rfl⟩ (fun U H h => h.1 _ (List.mem_of_getElem? (i := 53) rfl)) (List.mem_of_getElem? (i := 11) rfl) (List.mem_of_getElem? (i := 27) rfl) (List.mem_of_getElem? (i := 28) rfl) hdN_X4_wayEnd ⟨Nat.le_of_ble_eq_true rfl, Nat.le_of_ble_eq_true rfl⟩ 5 rfl rfl (wX5 g _) rfl rfl (Nat.le_of_ble_eq_true rfl) dX5_town_86) ?_
            refine xv_iconst C (-1) dX5_town_89 (by decide) ?_
            refine xv_icmp_ne C 102 hf dX5_town_90 (by decide) (fun _ hf => ?_) (fun _ hf => ?_)
            · refine xv_iload C dX5_town_93 5 rfl ?_
              refine xv_iconst C 1 dX5_town_95 (by decide) ?_
              refine xv_iload C dX5_town_96 6 rfl ?_
              refine xv_ishl C dX5_town_98 ?_
              refine xv_ior C dX5_town_99 ?_
              refine xv_istore C [(4, .int (x4 ||| ((1 : Int32) <<< (x5 &&& 31)))), (6, .int q2), (0, .ref (aX g 0)), (1, .int x1), (2, .int x2), (3, .int x3), (5, .int x5)] dX5_town_100 (by decide) rfl ?_
              refine xv_iinc C [(5, .int (x5 + 1)), (4, .int (x4 ||| ((1 : Int32) <<< (x5 &&& 31)))), (6, .int q2), (0, .ref (aX g 0)), (1, .int x1), (2, .int x2), (3, .int x3)] dX5_town_102 6 rfl rfl (by decide) rfl ?_
              refine xv_goto C 22 dX5_town_105 (by decide) ?_
              refine xv_eq [3, 4, 5, 6, 1, 0] rfl ?_
              exact ih x2 x3 (x4 ||| ((1 : Int32) <<< (x5 &&& 31))) (x5 + 1) hf
            · refine xv_iinc C [(5, .int (x5 + 1)), (6, .int q2), (0, .ref (aX g 0)), (1, .int x1), (2, .int x2), (3, .int x3), (4, .int x4)] dX5_town_102 6 rfl rfl (by decide) rfl ?_
              refine xv_goto C 22 dX5_town_105 (by decide) ?_
              refine xv_eq [2, 3, 4, 5, 6, 0] rfl ?_
              exact ih x2 x3 x4 (x5 + 1) hf
  rw [f_X5_town] at hf
  show V K (sX g) 7 a [(0, .ref (aX g 0)), (1, .int x1)] 0 []
  refine xv_iload_n C dX5_town_0 rfl 1 rfl ?_
  refine xv_iconst C 0 dX5_town_1 (by decide) ?_
  refine xv_iconst C 2 dX5_town_2 (by decide) ?_
  obtain ⟨q1, hg, hf⟩ := dt_bind hf
  refine xc_i (xr_S C (As := [.int x1, .int 0, .int 2]) (fun l => c_X5_within (sX g) hS l x1 0 2 a q1 hg) gX5_town_X5_within rfl ⟨rfl, rfl⟩ hdS_X5_within ⟨Nat.le_of_ble_eq_true rfl, Nat.le_of_ble_eq_true rfl⟩ rfl rfl (Nat.le_of_ble_eq_true rfl) dX5_town_3) ?_
  refine xv_if_ne C (y := 0) 12 hf dX5_town_6 (by decide) (fun _ hf => ?_) (fun _ hf => ?_)
  · refine xv_bipush C (-3) dX5_town_9 (by decide) ?_
    exact xz_ir hret hf dX5_town_11
  · refine xv_iconst C 0 dX5_town_12 (by decide) ?_
    refine xv_istore_n C [(2, .int 0), (0, .ref (aX g 0)), (1, .int x1)] dX5_town_13 rfl (by decide) rfl ?_
    refine xv_iconst C 0 dX5_town_14 (by decide) ?_
    refine xv_istore_n C [(3, .int 0), (2, .int 0), (0, .ref (aX g 0)), (1, .int x1)] dX5_town_15 rfl (by decide) rfl ?_
    refine xv_iconst C 0 dX5_town_16 (by decide) ?_
    refine xv_istore C [(4, .int 0), (3, .int 0), (2, .int 0), (0, .ref (aX g 0)), (1, .int x1)] dX5_town_17 (by decide) rfl ?_
    refine xv_iconst C 0 dX5_town_19 (by decide) ?_
    refine xv_istore C [(5, .int 0), (4, .int 0), (3, .int 0), (2, .int 0), (0, .ref (aX g 0)), (1, .int x1)] dX5_town_20 (by decide) rfl ?_
    refine xv_eq [4, 5, 3, 2, 1, 0] rfl ?_
    exact hL22 x1 n 0 0 0 0 hf
set_option maxRecDepth 100000 in
set_option maxHeartbeats 4000000 in
theorem c_X3_add__29 (g : GX) (hS : xSide (sX g)) (l : Launch) (x1 : Int32) (x2 : Int32) (x3 : Int32) (a : St) (q : (Int32 × St)) (hf : f_X3_add 29 x1 x2 x3 a = some q) : Met l yX3_add wsX3_add rm_X3_add (xPre (sX g) [.ref (aX g 29), .int x1, .int x2, .int x3] a) (xPostI (sX g) q.1 q.2) 0 0 (sX g).2.2.1 := by
  refine xm_i (av := [.ref (aX g 29), .int x1, .int x2, .int x3]) (cc := cX3_add) (maxL := 4) (by decide) rfl (Nat.le_of_ble_eq_true rfl) hS.1 hS.2 (fun K C hret => ?_)
  have C : CC K (sX g) cX3_add 4 wsX3_add RX3 rm_X3_add := C
  have hiX3 : ∀ w ∈ u_ws RX3 TX3 4, w ∈ wsX3_add := fun w h => List.mem_cons_of_mem _ (List.mem_append_right _ h)
  rw [f_X3_add] at hf
  show V K (sX g) 4 a [(0, .ref (aX g 29)), (1, .int x1), (2, .int x2), (3, .int x3)] 0 []
  refine xv_aload_n C dX3_add_0 rfl 0 rfl ?_
  refine xv_get C hiX3 29 (wX29 g _) rfl 3 (by decide) (List.mem_of_getElem? (i := 1) rfl) rfl dX3_add_1 ?_
  refine xv_bipush C 8 dX3_add_4 (by decide) ?_
  refine xv_icmp_lt C 12 hf dX3_add_6 (by decide) (fun _ hf => ?_) (fun _ hf => ?_)
  · refine xv_aload_n C dX3_add_12 rfl 0 rfl ?_
    refine xv_get C hiX3 29 (wX29 g _) rfl 0 (by decide) (List.mem_of_getElem? (i := 2) rfl) rfl dX3_add_13 ?_
    refine xv_aload_n C dX3_add_16 rfl 0 rfl ?_
    refine xv_get C hiX3 29 (wX29 g _) rfl 3 (by decide) (List.mem_of_getElem? (i := 1) rfl) rfl dX3_add_17 ?_
    refine xv_iload_n C dX3_add_20 rfl 1 rfl ?_
    refine xv_iast C 30 0 (wX30 g _) rfl (up a 30 ((a 29 3).toNatClampNeg) x1) (pX30 g _ _ _) hf dX3_add_21 (fun hf => ?_)
    refine xv_aload_n C dX3_add_22 rfl 0 rfl ?_
    refine xv_get C hiX3 29 (wX29 g _) rfl 1 (by decide) (List.mem_of_getElem? (i := 3) rfl) rfl dX3_add_23 ?_
    refine xv_aload_n C dX3_add_26 rfl 0 rfl ?_
    refine xv_get C hiX3 29 (wX29 g _) rfl 3 (by decide) (List.mem_of_getElem? (i := 1) rfl) rfl dX3_add_27 ?_
    refine xv_iload_n C dX3_add_30 rfl 2 rfl ?_
    refine xv_iast C 31 0 (wX31 g _) rfl (up (up a 30 ((a 29 3).toNatClampNeg) x1) 31 (((up a 30 ((a 29 3).toNatClampNeg) x1) 29 3).toNatClampNeg) x2) (pX31 g _ _ _) hf dX3_add_31 (fun hf => ?_)
    refine xv_aload_n C dX3_add_32 rfl 0 rfl ?_
    refine xv_get C hiX3 29 (wX29 g _) rfl 2 (by decide) (List.mem_of_getElem? (i := 4) rfl) rfl dX3_add_33 ?_
    refine xv_aload_n C dX3_add_36 rfl 0 rfl ?_
    refine xv_get C hiX3 29 (wX29 g _) rfl 3 (by decide) (List.mem_of_getElem? (i := 1) rfl) rfl dX3_add_37 ?_
    refine xv_iload_n C dX3_add_40 rfl 3 rfl ?_
    refine xv_iast C 32 0 (wX32 g _) rfl (up (up (up a 30 ((a 29 3).toNatClampNeg) x1) 31 (((up a 30 ((a 29 3).toNatClampNeg) x1) 29 3).toNatClampNeg) x2) 32 (((up (up a 30 ((a 29 3).toNatClampNeg) x1) 31 (((up a 30 ((a 29 3).toNatClampNeg) x1) 29 3).toNatClampNeg) x2) 29 3).toNatClampNeg) x3) (pX32 g _ _ _) hf dX3_add_41 (fun hf => ?_)
    refine xv_aload_n C dX3_add_42 rfl 0 rfl ?_
    refine xv_dup C dX3_add_43 rfl ?_
    refine xv_get C hiX3 29 (wX29 g _) rfl 3 (by decide) (List.mem_of_getElem? (i := 1) rfl) rfl dX3_add_44 ?_
    refine xv_iconst C 1 dX3_add_47 (by decide) ?_
    refine xv_iadd C dX3_add_48 ?_
    refine xv_put C hiX3 tyX3 tyX3_ok nmX3 29 (wX29 g _) rfl 3 (by decide) (List.mem_of_getElem? (i := 1) rfl) rfl (tyX3_ok 3 (by decide)) rfl rfl (Nat.le_of_ble_eq_true rfl) (up (up (up (up a 30 ((a 29 3).toNatClampNeg) x1) 31 (((up a 30 ((a 29 3).toNatClampNeg) x1) 29 3).toNatClampNeg) x2) 32 (((up (up a 30 ((a 29 3).toNatClampNeg) x1) 31 (((up a 30 ((a 29 3).toNatClampNeg) x1) 29 3).toNatClampNeg) x2) 29 3).toNatClampNeg) x3) 29 3 (((up (up (up a 30 ((a 29 3).toNatClampNeg) x1) 31 (((up a 30 ((a 29 3).toNatClampNeg) x1) 29 3).toNatClampNeg) x2) 32 (((up (up a 30 ((a 29 3).toNatClampNeg) x1) 31 (((up a 30 ((a 29 3).toNatClampNeg) x1) 29 3).toNatClampNeg) x2) 29 3).toNatClampNeg) x3) 29 3) + 1)) (pX29_3 g _ _) dX3_add_49 ?_
    refine xv_aload_n C dX3_add_52 rfl 0 rfl ?_
    refine xv_get C hiX3 29 (wX29 g _) rfl 3 (by decide) (List.mem_of_getElem? (i := 1) rfl) rfl dX3_add_53 ?_
    exact xz_iw hret hf dX3_add_56
  · refine xv_bipush C (-5) dX3_add_9 (by decide) ?_
    exact xz_iw hret hf dX3_add_11
set_option maxRecDepth 100000 in
set_option maxHeartbeats 4000000 in
theorem c_X5_seen (g : GX) (hS : xSide (sX g)) (l : Launch) (x1 : Int32) (x2 : Int32) (x3 : Int32) (a : St) (q : (Int32 × St)) (hf : f_X5_seen x1 x2 x3 a = some q) : Met l yX5_seen wsX5_seen rm_X5_seen (xPre (sX g) [.ref (aX g 0), .int x1, .int x2, .int x3] a) (xPostI (sX g) q.1 q.2) 0 0 (sX g).2.2.1 := by
  refine xm_i (av := [.ref (aX g 0), .int x1, .int x2, .int x3]) (cc := cX5_seen) (maxL := 4) (by decide) rfl (Nat.le_of_ble_eq_true rfl) hS.1 hS.2 (fun K C hret => ?_)
  have C : CC K (sX g) cX5_seen 4 wsX5_seen RX5 rm_X5_seen := C
  have hiX5 : ∀ w ∈ u_ws RX5 TX5 13, w ∈ wsX5_seen := fun w h => List.mem_cons_of_mem _ (List.mem_append_left _ (List.mem_append_left _ (List.mem_append_right _ h)))
  rw [f_X5_seen] at hf
  show V K (sX g) 4 a [(0, .ref (aX g 0)), (1, .int x1), (2, .int x2), (3, .int x3)] 0 []
  refine xv_aload_n C dX5_seen_0 rfl 0 rfl ?_
  refine xv_get C hiX5 0 (wX0 g _) rfl 1 (by decide) (List.mem_of_getElem? (i := 1) rfl) rfl dX5_seen_1 ?_
  refine xv_iload_n C dX5_seen_4 rfl 1 rfl ?_
  obtain ⟨q1, hg, hf⟩ := dt_bind hf
  refine xc_i (xr_VN C (ci := 4) (As := [.int x1]) (fun l => c_X4_hasHouse g hS l x1 a q1 hg) gX5_seen_X4_hasHouse_n114 rfl ⟨rfl, rfl⟩ (fun U H h => h.1 _ (List.mem_of_getElem? (i := 45) rfl)) (List.mem_of_getElem? (i := 4) rfl) (List.mem_of_getElem? (i := 3) rfl) (List.mem_of_getElem? (i := 5) rfl) hdN_X4_hasHouse ⟨Nat.le_of_ble_eq_true rfl, Nat.le_of_ble_eq_true rfl⟩ 5 rfl rfl (wX5 g _) rfl rfl (Nat.le_of_ble_eq_true rfl) dX5_seen_5) ?_
  refine xv_if_eq C (y := 0) 19 hf dX5_seen_8 (by decide) (fun _ hf => ?_) (fun _ hf => ?_)
  · refine xv_bipush C (-2) dX5_seen_19 (by decide) ?_
    exact xz_iw hret hf dX5_seen_21
  · refine xv_aload_n C dX5_seen_11 rfl 0 rfl ?_
    refine xv_iload_n C dX5_seen_12 rfl 2 rfl ?_
    obtain ⟨q2, hg, hf⟩ := dt_bind hf
    refine xc_i (xr_V C (ci := 5) (As := [.int x2]) (fun l => c_X5_isDeedOrNone g hS l x2 a q2 hg) gX5_seen_X5_isDeedOrNone rfl ⟨rfl, rfl⟩ hdV_X5_isDeedOrNone ⟨Nat.le_of_ble_eq_true rfl, Nat.le_of_ble_eq_true rfl⟩ 0 rfl rfl (wX0 g _) rfl rfl (Nat.le_of_ble_eq_true rfl) dX5_seen_13) ?_
    refine xv_if_ne C (y := 0) 22 hf dX5_seen_16 (by decide) (fun _ hf => ?_) (fun _ hf => ?_)
    · refine xv_bipush C (-2) dX5_seen_19 (by decide) ?_
      exact xz_iw hret hf dX5_seen_21
    · refine xv_iload_n C dX5_seen_22 rfl 3 rfl ?_
      refine xv_iconst C 0 dX5_seen_23 (by decide) ?_
      refine xv_bipush C 99 dX5_seen_24 (by decide) ?_
      obtain ⟨q3, hg, hf⟩ := dt_bind hf
      refine xc_i (xr_S C (As := [.int x3, .int 0, .int 99]) (fun l => c_X5_within (sX g) hS l x3 0 99 a q3 hg) gX5_seen_X5_within rfl ⟨rfl, rfl⟩ hdS_X5_within ⟨Nat.le_of_ble_eq_true rfl, Nat.le_of_ble_eq_true rfl⟩ rfl rfl (Nat.le_of_ble_eq_true rfl) dX5_seen_26) ?_
      refine xv_if_eq C (y := 0) 45 hf dX5_seen_29 (by decide) (fun _ hf => ?_) (fun _ hf => ?_)
      · refine xv_bipush C (-3) dX5_seen_45 (by decide) ?_
        exact xz_iw hret hf dX5_seen_47
      · refine xv_aload_n C dX5_seen_32 rfl 0 rfl ?_
        refine xv_get C hiX5 0 (wX0 g _) rfl 5 (by decide) (List.mem_of_getElem? (i := 2) rfl) rfl dX5_seen_33 ?_
        refine xv_iload_n C dX5_seen_36 rfl 1 rfl ?_
        refine xv_iload_n C dX5_seen_37 rfl 2 rfl ?_
        refine xv_iload_n C dX5_seen_38 rfl 3 rfl ?_
        obtain ⟨q4, hg, hf⟩ := dt_bind hf
        refine xc_i (xr_VN C (ci := 3) (As := [.int x1, .int x2, .int x3]) (fun l => c_X3_add__29 g hS l x1 x2 x3 a q4 hg) gX5_seen_X3_add_n197 rfl ⟨rfl, rfl⟩ (fun U H h => h.1 _ (List.mem_of_getElem? (i := 55) rfl)) (List.mem_of_getElem? (i := 21) rfl) (List.mem_of_getElem? (i := 20) rfl) (List.mem_of_getElem? (i := 22) rfl) hdN_X3_add ⟨Nat.le_of_ble_eq_true rfl, Nat.le_of_ble_eq_true rfl⟩ 29 rfl rfl (wX29 g _) rfl rfl (Nat.le_of_ble_eq_true rfl) dX5_seen_39) ?_
        refine xv_goto C 47 dX5_seen_42 (by decide) ?_
        exact xz_iw hret hf dX5_seen_47
set_option maxRecDepth 100000 in
set_option maxHeartbeats 4000000 in
theorem c_X5_forget (g : GX) (hS : xSide (sX g)) (l : Launch) (a : St) (q : (Int32 × St)) (hf : f_X5_forget a = some q) : Met l yX5_forget wsX5_forget rm_X5_forget (xPre (sX g) [.ref (aX g 0)] a) (xPostI (sX g) q.1 q.2) 0 0 (sX g).2.2.1 := by
  refine xm_i (av := [.ref (aX g 0)]) (cc := cX5_forget) (maxL := 1) (by decide) rfl (Nat.le_of_ble_eq_true rfl) hS.1 hS.2 (fun K C hret => ?_)
  have C : CC K (sX g) cX5_forget 1 wsX5_forget RX5 rm_X5_forget := C
  have hiX5 : ∀ w ∈ u_ws RX5 TX5 13, w ∈ wsX5_forget := fun w h => List.mem_cons_of_mem _ (List.mem_append_left _ (List.mem_append_right _ h))
  rw [f_X5_forget] at hf
  show V K (sX g) 1 a [(0, .ref (aX g 0))] 0 []
  refine xv_aload_n C dX5_forget_0 rfl 0 rfl ?_
  refine xv_get C hiX5 0 (wX0 g _) rfl 5 (by decide) (List.mem_of_getElem? (i := 1) rfl) rfl dX5_forget_1 ?_
  obtain ⟨q1, hg, hf⟩ := dt_bind hf
  refine xc_i (xr_VN C (ci := 3) (As := []) (fun l => c_X3_clear__29 g hS l a q1 hg) gX5_forget_X3_clear_n107 rfl ⟨rfl, rfl⟩ (fun U H h => h.1 _ (List.mem_of_getElem? (i := 44) rfl)) (List.mem_of_getElem? (i := 3) rfl) (List.mem_of_getElem? (i := 2) rfl) (List.mem_of_getElem? (i := 4) rfl) hdN_X3_clear ⟨Nat.le_of_ble_eq_true rfl, Nat.le_of_ble_eq_true rfl⟩ 29 rfl rfl (wX29 g _) rfl rfl (Nat.le_of_ble_eq_true rfl) dX5_forget_4) ?_
  exact xz_iw hret hf dX5_forget_7
set_option maxRecDepth 100000 in
set_option maxHeartbeats 4000000 in
theorem c_X5_rowsThatFit__29 (g : GX) (hS : xSide (sX g)) (l : Launch) (n : Nat) (a : St) (q : (Int32 × St)) (hf : f_X5_rowsThatFit n 29 a = some q) : Met l yX5_rowsThatFit wsX5_rowsThatFit rm_X5_rowsThatFit (xPre (sX g) [.ref (aX g 0), .ref (aX g 29)] a) (xPostI (sX g) q.1 q.2) 0 0 (sX g).2.2.1 := by
  refine xm_i (av := [.ref (aX g 0), .ref (aX g 29)]) (cc := cX5_rowsThatFit) (maxL := 4) (by decide) rfl (Nat.le_of_ble_eq_true rfl) hS.1 hS.2 (fun K C hret => ?_)
  have C : CC K (sX g) cX5_rowsThatFit 4 wsX5_rowsThatFit RX5 rm_X5_rowsThatFit := C
  have hiX3 : ∀ w ∈ u_ws RX3 TX3 4, w ∈ wsX5_rowsThatFit := fun w h => List.mem_cons_of_mem _ (List.mem_append_right _ h)
  have hiX4 : ∀ w ∈ u_ws RX4 TX4 12, w ∈ wsX5_rowsThatFit := fun w h => List.mem_cons_of_mem _ (List.mem_append_left _ (List.mem_append_right _ h))
  have hiX5 : ∀ w ∈ u_ws RX5 TX5 13, w ∈ wsX5_rowsThatFit := fun w h => List.mem_cons_of_mem _ (List.mem_append_left _ (List.mem_append_left _ (List.mem_append_right _ h)))
  have hL78 : ∀  (j : Nat) (x2 : Int32) (x3 : Int32) (a : St), L_X5_rowsThatFit_78 n 29 j x2 x3 a = some q → V K (sX g) 4 a [(0, .ref (aX g 0)), (2, .int x2), (3, .int x3)] 78 [] := by
    intro j
    induction j with
    | zero =>
      intro x2 x3 a hf
      have hf : (none : Option (Int32 × St)) = some q := hf
      cases hf
    | succ j ih =>
      intro x2 x3 a hf
      rw [L_X5_rowsThatFit_78] at hf
      refine xv_iload_n C dX5_rowsThatFit_78 rfl 2 rfl ?_
      refine xv_aload_n C dX5_rowsThatFit_79 rfl 0 rfl ?_
      refine xv_get C hiX5 0 (wX0 g _) rfl 1 (by decide) (List.mem_of_getElem? (i := 1) rfl) rfl dX5_rowsThatFit_80 ?_
      refine xv_getN C hiX4 5 (wX5 g _) rfl 0 (by decide) (fun U H h => h.1 _ (List.mem_of_getElem? (i := 5) rfl)) rfl dX5_rowsThatFit_83 ?_
      refine xv_icmp_ge C 107 hf dX5_rowsThatFit_86 (by decide) (fun _ hf => ?_) (fun _ hf => ?_)
      · refine xv_iload_n C dX5_rowsThatFit_107 rfl 1 rfl ?_
        exact xz_iw hret hf dX5_rowsThatFit_108
      · refine xv_iload_n C dX5_rowsThatFit_89 rfl 1 rfl ?_
        refine xv_aload_n C dX5_rowsThatFit_90 rfl 0 rfl ?_
        refine xv_get C hiX5 0 (wX0 g _) rfl 8 (by decide) (List.mem_of_getElem? (i := 2) rfl) rfl dX5_rowsThatFit_91 ?_
        refine xv_iload_n C dX5_rowsThatFit_94 rfl 2 rfl ?_
        refine xv_iald C 35 0 (wX35 g _) rfl hf dX5_rowsThatFit_95 (fun hf => ?_)
        obtain ⟨q1, hg, hf⟩ := dt_bind hf
        refine xc_i (xr_S C (As := [.int (a 35 x3.toNatClampNeg)]) (fun l => c_J6_bitCount_0f7a4 (sX g) hS l (a 35 x3.toNatClampNeg) a q1 hg) gX5_rowsThatFit_J6_bitCount_0f7a4 rfl ⟨rfl, rfl⟩ hdS_J6_bitCount_0f7a4 ⟨Nat.le_of_ble_eq_true rfl, Nat.le_of_ble_eq_true rfl⟩ rfl rfl (Nat.le_of_ble_eq_true rfl) dX5_rowsThatFit_96) ?_
        refine xv_imul C dX5_rowsThatFit_99 ?_
        refine xv_istore_n C [(2, .int (x2 * q1)), (0, .ref (aX g 0)), (3, .int x3)] dX5_rowsThatFit_100 rfl (by decide) rfl ?_
        refine xv_iinc C [(3, .int (x3 + 1)), (2, .int (x2 * q1)), (0, .ref (aX g 0))] dX5_rowsThatFit_101 2 rfl rfl (by decide) rfl ?_
        refine xv_goto C 78 dX5_rowsThatFit_104 (by decide) ?_
        refine xv_eq [2, 1, 0] rfl ?_
        exact ih (x2 * q1) (x3 + 1) a hf
  have hB74 : ∀  (a : St), B_X5_rowsThatFit_74 n 29 a = some q → V K (sX g) 4 a [(0, .ref (aX g 0))] 74 [] := by
    intro a hf
    rw [B_X5_rowsThatFit_74] at hf
    refine xv_iconst C 1 dX5_rowsThatFit_74 (by decide) ?_
    refine xv_istore_n C [(2, .int 1), (0, .ref (aX g 0))] dX5_rowsThatFit_75 rfl (by decide) rfl ?_
    refine xv_iconst C 0 dX5_rowsThatFit_76 (by decide) ?_
    refine xv_istore_n C [(3, .int 0), (2, .int 1), (0, .ref (aX g 0))] dX5_rowsThatFit_77 rfl (by decide) rfl ?_
    refine xv_eq [2, 1, 0] rfl ?_
    exact hL78 n 1 0 a hf
  have hL38 : ∀  (j : Nat) (x2 : Int32) (a : St), L_X5_rowsThatFit_38 n 29 j x2 a = some q → V K (sX g) 4 a [(0, .ref (aX g 0)), (1, .ref (aX g 29)), (2, .int x2)] 38 [] := by
    intro j
    induction j with
    | zero =>
      intro x2 a hf
      have hf : (none : Option (Int32 × St)) = some q := hf
      cases hf
    | succ j ih =>
      intro x2 a hf
      rw [L_X5_rowsThatFit_38] at hf
      refine xv_iload_n C dX5_rowsThatFit_38 rfl 2 rfl ?_
      refine xv_aload_n C dX5_rowsThatFit_39 rfl 1 rfl ?_
      refine xv_getN C hiX3 29 (wX29 g _) rfl 3 (by decide) (fun U H h => h.1 _ (List.mem_of_getElem? (i := 28) rfl)) rfl dX5_rowsThatFit_40 ?_
      refine xv_icmp_ge C 74 hf dX5_rowsThatFit_43 (by decide) (fun _ hf => ?_) (fun _ hf => ?_)
      · refine xv_eq [0] rfl ?_
        exact hB74 a hf
      · refine xv_aload_n C dX5_rowsThatFit_46 rfl 0 rfl ?_
        refine xv_aload_n C dX5_rowsThatFit_47 rfl 1 rfl ?_
        refine xv_getN C hiX3 29 (wX29 g _) rfl 0 (by decide) (fun U H h => h.1 _ (List.mem_of_getElem? (i := 25) rfl)) rfl dX5_rowsThatFit_48 ?_
        refine xv_iload_n C dX5_rowsThatFit_51 rfl 2 rfl ?_
        refine xv_iald C 30 0 (wX30 g _) rfl hf dX5_rowsThatFit_52 (fun hf => ?_)
        refine xv_aload_n C dX5_rowsThatFit_53 rfl 1 rfl ?_
        refine xv_getN C hiX3 29 (wX29 g _) rfl 1 (by decide) (fun U H h => h.1 _ (List.mem_of_getElem? (i := 26) rfl)) rfl dX5_rowsThatFit_54 ?_
        refine xv_iload_n C dX5_rowsThatFit_57 rfl 2 rfl ?_
        refine xv_iald C 31 0 (wX31 g _) rfl hf dX5_rowsThatFit_58 (fun hf => ?_)
        refine xv_aload_n C dX5_rowsThatFit_59 rfl 1 rfl ?_
        refine xv_getN C hiX3 29 (wX29 g _) rfl 2 (by decide) (fun U H h => h.1 _ (List.mem_of_getElem? (i := 27) rfl)) rfl dX5_rowsThatFit_60 ?_
        refine xv_iload_n C dX5_rowsThatFit_63 rfl 2 rfl ?_
        refine xv_iald C 32 0 (wX32 g _) rfl hf dX5_rowsThatFit_64 (fun hf => ?_)
        obtain ⟨q2, hg, hf⟩ := dt_bind hf
        refine xc_v (xr_V C (ci := 5) (As := [.int (a 30 x2.toNatClampNeg), .int (a 31 x2.toNatClampNeg), .int (a 32 x2.toNatClampNeg)]) (fun l => c_X5_narrow g hS l n (a 30 x2.toNatClampNeg) (a 31 x2.toNatClampNeg) (a 32 x2.toNatClampNeg) a q2 hg) gX5_rowsThatFit_X5_narrow rfl ⟨rfl, rfl⟩ hdV_X5_narrow ⟨Nat.le_of_ble_eq_true rfl, Nat.le_of_ble_eq_true rfl⟩ 0 rfl rfl (wX0 g _) rfl rfl (Nat.le_of_ble_eq_true rfl) dX5_rowsThatFit_65) ?_
        refine xv_iinc C [(2, .int (x2 + 1)), (0, .ref (aX g 0)), (1, .ref (aX g 29))] dX5_rowsThatFit_68 2 rfl rfl (by decide) rfl ?_
        refine xv_goto C 38 dX5_rowsThatFit_71 (by decide) ?_
        refine xv_eq [1, 2, 0] rfl ?_
        exact ih (x2 + 1) q2 hf
  have hB36 : ∀  (a : St), B_X5_rowsThatFit_36 n 29 a = some q → V K (sX g) 4 a [(0, .ref (aX g 0)), (1, .ref (aX g 29))] 36 [] := by
    intro a hf
    rw [B_X5_rowsThatFit_36] at hf
    refine xv_iconst C 0 dX5_rowsThatFit_36 (by decide) ?_
    refine xv_istore_n C [(2, .int 0), (0, .ref (aX g 0)), (1, .ref (aX g 29))] dX5_rowsThatFit_37 rfl (by decide) rfl ?_
    refine xv_eq [1, 2, 0] rfl ?_
    exact hL38 n 0 a hf
  have hL2 : ∀  (j : Nat) (x2 : Int32) (a : St), L_X5_rowsThatFit_2 n 29 j x2 a = some q → V K (sX g) 4 a [(0, .ref (aX g 0)), (1, .ref (aX g 29)), (2, .int x2)] 2 [] := by
    intro j
    induction j with
    | zero =>
      intro x2 a hf
      have hf : (none : Option (Int32 × St)) = some q := hf
      cases hf
    | succ j ih =>
      intro x2 a hf
      rw [L_X5_rowsThatFit_2] at hf
      refine xv_iload_n C dX5_rowsThatFit_2 rfl 2 rfl ?_
      refine xv_aload_n C dX5_rowsThatFit_3 rfl 0 rfl ?_
      refine xv_get C hiX5 0 (wX0 g _) rfl 1 (by decide) (List.mem_of_getElem? (i := 1) rfl) rfl dX5_rowsThatFit_4 ?_
      refine xv_getN C hiX4 5 (wX5 g _) rfl 0 (by decide) (fun U H h => h.1 _ (List.mem_of_getElem? (i := 5) rfl)) rfl dX5_rowsThatFit_7 ?_
      refine xv_icmp_ge C 36 hf dX5_rowsThatFit_10 (by decide) (fun _ hf => ?_) (fun _ hf => ?_)
      · refine xv_eq [0, 1] rfl ?_
        exact hB36 a hf
      · refine xv_aload_n C dX5_rowsThatFit_13 rfl 0 rfl ?_
        refine xv_get C hiX5 0 (wX0 g _) rfl 8 (by decide) (List.mem_of_getElem? (i := 2) rfl) rfl dX5_rowsThatFit_14 ?_
        refine xv_iload_n C dX5_rowsThatFit_17 rfl 2 rfl ?_
        refine xv_aload_n C dX5_rowsThatFit_18 rfl 0 rfl ?_
        refine xv_get C hiX5 0 (wX0 g _) rfl 1 (by decide) (List.mem_of_getElem? (i := 1) rfl) rfl dX5_rowsThatFit_19 ?_
        refine xv_iload_n C dX5_rowsThatFit_22 rfl 2 rfl ?_
        obtain ⟨q3, hg, hf⟩ := dt_bind hf
        refine xc_i (xr_VN C (ci := 4) (As := [.int x2]) (fun l => c_X4_abilities g hS l n x2 a q3 hg) gX5_rowsThatFit_X4_abilities_n282 rfl ⟨rfl, rfl⟩ (fun U H h => h.1 _ (List.mem_of_getElem? (i := 56) rfl)) (List.mem_of_getElem? (i := 4) rfl) (List.mem_of_getElem? (i := 3) rfl) (List.mem_of_getElem? (i := 5) rfl) hdN_X4_abilities ⟨Nat.le_of_ble_eq_true rfl, Nat.le_of_ble_eq_true rfl⟩ 5 rfl rfl (wX5 g _) rfl rfl (Nat.le_of_ble_eq_true rfl) dX5_rowsThatFit_23) ?_
        refine xv_bipush C 64 dX5_rowsThatFit_26 (by decide) ?_
        refine xv_ior C dX5_rowsThatFit_28 ?_
        refine xv_iast C 35 0 (wX35 g _) rfl (up a 35 x2.toNatClampNeg (q3 ||| 64)) (pX35 g _ _ _) hf dX5_rowsThatFit_29 (fun hf => ?_)
        refine xv_iinc C [(2, .int (x2 + 1)), (0, .ref (aX g 0)), (1, .ref (aX g 29))] dX5_rowsThatFit_30 2 rfl rfl (by decide) rfl ?_
        refine xv_goto C 2 dX5_rowsThatFit_33 (by decide) ?_
        refine xv_eq [1, 2, 0] rfl ?_
        exact ih (x2 + 1) (up a 35 x2.toNatClampNeg (q3 ||| 64)) hf
  rw [f_X5_rowsThatFit] at hf
  show V K (sX g) 4 a [(0, .ref (aX g 0)), (1, .ref (aX g 29))] 0 []
  refine xv_iconst C 0 dX5_rowsThatFit_0 (by decide) ?_
  refine xv_istore_n C [(2, .int 0), (0, .ref (aX g 0)), (1, .ref (aX g 29))] dX5_rowsThatFit_1 rfl (by decide) rfl ?_
  refine xv_eq [1, 2, 0] rfl ?_
  exact hL2 n 0 a hf
set_option maxRecDepth 100000 in
set_option maxHeartbeats 4000000 in
theorem c_X5_fits (g : GX) (hS : xSide (sX g)) (l : Launch) (n : Nat) (x1 : Int32) (a : St) (q : (Int32 × St)) (hf : f_X5_fits n x1 a = some q) : Met l yX5_fits wsX5_fits rm_X5_fits (xPre (sX g) [.ref (aX g 0), .int x1] a) (xPostI (sX g) q.1 q.2) 0 0 (sX g).2.2.1 := by
  refine xm_i (av := [.ref (aX g 0), .int x1]) (cc := cX5_fits) (maxL := 3) (by decide) rfl (Nat.le_of_ble_eq_true rfl) hS.1 hS.2 (fun K C hret => ?_)
  have C : CC K (sX g) cX5_fits 3 wsX5_fits RX5 rm_X5_fits := C
  have hiX5 : ∀ w ∈ u_ws RX5 TX5 13, w ∈ wsX5_fits := fun w h => List.mem_cons_of_mem _ (List.mem_append_left _ (List.mem_append_left _ (List.mem_append_right _ h)))
  rw [f_X5_fits] at hf
  show V K (sX g) 3 a [(0, .ref (aX g 0)), (1, .int x1)] 0 []
  refine xv_iload_n C dX5_fits_0 rfl 1 rfl ?_
  refine xv_iconst C (-1) dX5_fits_1 (by decide) ?_
  refine xv_icmp_eq C 19 hf dX5_fits_2 (by decide) (fun _ hf => ?_) (fun _ hf => ?_)
  · refine xv_aload_n C dX5_fits_19 rfl 0 rfl ?_
    refine xv_aload_n C dX5_fits_20 rfl 0 rfl ?_
    refine xv_get C hiX5 0 (wX0 g _) rfl 5 (by decide) (List.mem_of_getElem? (i := 2) rfl) rfl dX5_fits_21 ?_
    obtain ⟨q1, hg, hf⟩ := dt_bind hf
    refine xc_i (xr_V C (ci := 5) (As := [.ref (aX g 29)]) (fun l => c_X5_rowsThatFit__29 g hS l n a q1 hg) gX5_fits_X5_rowsThatFit rfl ⟨rfl, rfl⟩ hdV_X5_rowsThatFit ⟨Nat.le_of_ble_eq_true rfl, Nat.le_of_ble_eq_true rfl⟩ 0 rfl rfl (wX0 g _) rfl rfl (Nat.le_of_ble_eq_true rfl) dX5_fits_24) ?_
    refine xv_istore_n C [(2, .int q1.1), (0, .ref (aX g 0)), (1, .int x1)] dX5_fits_27 rfl (by decide) rfl ?_
    refine xv_iload_n C dX5_fits_28 rfl 2 rfl ?_
    refine xv_iconst C (-1) dX5_fits_29 (by decide) ?_
    refine xv_icmp_eq C 37 hf dX5_fits_30 (by decide) (fun _ hf => ?_) (fun _ hf => ?_)
    · refine xv_iload_n C dX5_fits_37 rfl 0 rfl ?_
      refine xv_goto C 47 dX5_fits_38 (by decide) ?_
      exact xz_iw hret hf dX5_fits_47
    · refine xv_iload_n C dX5_fits_33 rfl 0 rfl ?_
      refine xv_if_ne C (y := 0) 41 hf dX5_fits_34 (by decide) (fun _ hf => ?_) (fun _ hf => ?_)
      · refine xv_iload_n C dX5_fits_37 rfl 0 rfl ?_
        refine xv_goto C 47 dX5_fits_38 (by decide) ?_
        exact xz_iw hret hf dX5_fits_47
      · refine xv_aload_n C dX5_fits_41 rfl 1 rfl ?_
        refine xv_get C hiX5 0 (wX0 g _) rfl 8 (by decide) (List.mem_of_getElem? (i := 3) rfl) rfl dX5_fits_42 ?_
        refine xv_iload_n C dX5_fits_45 rfl 2 rfl ?_
        refine xv_iald C 35 0 (wX35 g _) rfl hf dX5_fits_46 (fun hf => ?_)
        exact xz_iw hret hf dX5_fits_47
  · refine xv_aload_n C dX5_fits_5 rfl 0 rfl ?_
    refine xv_get C hiX5 0 (wX0 g _) rfl 1 (by decide) (List.mem_of_getElem? (i := 1) rfl) rfl dX5_fits_6 ?_
    refine xv_iload_n C dX5_fits_9 rfl 1 rfl ?_
    obtain ⟨q2, hg, hf⟩ := dt_bind hf
    refine xc_i (xr_VN C (ci := 4) (As := [.int x1]) (fun l => c_X4_hasHouse g hS l x1 a q2 hg) gX5_fits_X4_hasHouse_n114 rfl ⟨rfl, rfl⟩ (fun U H h => h.1 _ (List.mem_of_getElem? (i := 45) rfl)) (List.mem_of_getElem? (i := 5) rfl) (List.mem_of_getElem? (i := 4) rfl) (List.mem_of_getElem? (i := 6) rfl) hdN_X4_hasHouse ⟨Nat.le_of_ble_eq_true rfl, Nat.le_of_ble_eq_true rfl⟩ 5 rfl rfl (wX5 g _) rfl rfl (Nat.le_of_ble_eq_true rfl) dX5_fits_10) ?_
    refine xv_if_ne C (y := 0) 19 hf dX5_fits_13 (by decide) (fun _ hf => ?_) (fun _ hf => ?_)
    · refine xv_bipush C (-2) dX5_fits_16 (by decide) ?_
      exact xz_iw hret hf dX5_fits_18
    · refine xv_aload_n C dX5_fits_19 rfl 0 rfl ?_
      refine xv_aload_n C dX5_fits_20 rfl 0 rfl ?_
      refine xv_get C hiX5 0 (wX0 g _) rfl 5 (by decide) (List.mem_of_getElem? (i := 2) rfl) rfl dX5_fits_21 ?_
      obtain ⟨q3, hg, hf⟩ := dt_bind hf
      refine xc_i (xr_V C (ci := 5) (As := [.ref (aX g 29)]) (fun l => c_X5_rowsThatFit__29 g hS l n a q3 hg) gX5_fits_X5_rowsThatFit rfl ⟨rfl, rfl⟩ hdV_X5_rowsThatFit ⟨Nat.le_of_ble_eq_true rfl, Nat.le_of_ble_eq_true rfl⟩ 0 rfl rfl (wX0 g _) rfl rfl (Nat.le_of_ble_eq_true rfl) dX5_fits_24) ?_
      refine xv_istore_n C [(2, .int q3.1), (0, .ref (aX g 0)), (1, .int x1)] dX5_fits_27 rfl (by decide) rfl ?_
      refine xv_iload_n C dX5_fits_28 rfl 2 rfl ?_
      refine xv_iconst C (-1) dX5_fits_29 (by decide) ?_
      refine xv_icmp_eq C 37 hf dX5_fits_30 (by decide) (fun _ hf => ?_) (fun _ hf => ?_)
      · refine xv_iload_n C dX5_fits_37 rfl 0 rfl ?_
        refine xv_goto C 47 dX5_fits_38 (by decide) ?_
        exact xz_iw hret hf dX5_fits_47
      · refine xv_iload_n C dX5_fits_33 rfl 0 rfl ?_
        refine xv_if_ne C (y := 0) 41 hf dX5_fits_34 (by decide) (fun _ hf => ?_) (fun _ hf => ?_)
        · refine xv_iload_n C dX5_fits_37 rfl 0 rfl ?_
          refine xv_goto C 47 dX5_fits_38 (by decide) ?_
          exact xz_iw hret hf dX5_fits_47
        · refine xv_aload_n C dX5_fits_41 rfl 1 rfl ?_
          refine xv_get C hiX5 0 (wX0 g _) rfl 8 (by decide) (List.mem_of_getElem? (i := 3) rfl) rfl dX5_fits_42 ?_
          refine xv_iload_n C dX5_fits_45 rfl 2 rfl ?_
          refine xv_iald C 35 0 (wX35 g _) rfl hf dX5_fits_46 (fun hf => ?_)
          exact xz_iw hret hf dX5_fits_47
set_option maxRecDepth 100000 in
set_option maxHeartbeats 4000000 in
theorem c_X0_copy__19_15 (g : GX) (hS : xSide (sX g)) (l : Launch) (a : St) (q : St) (hf : f_X0_copy 19 15 a = some q) : Met l yX0_copy wsX0_copy rm_X0_copy (xPre (sX g) [.ref (aX g 19), .ref (aX g 15)] a) (xPostV (sX g) q) 0 0 (sX g).2.2.1 := by
  refine xm_v (av := [.ref (aX g 19), .ref (aX g 15)]) (cc := cX0_copy) (maxL := 2) (by decide) rfl (Nat.le_of_ble_eq_true rfl) hS.1 hS.2 (fun K C hret => ?_)
  have C : CC K (sX g) cX0_copy 2 wsX0_copy RX0 rm_X0_copy := C
  have hiX0 : ∀ w ∈ u_ws RX0 TX0 4, w ∈ wsX0_copy := fun w h => List.mem_cons_of_mem _ (List.mem_append_right _ h)
  rw [f_X0_copy] at hf
  show V K (sX g) 2 a [(0, .ref (aX g 19)), (1, .ref (aX g 15))] 0 []
  refine xv_aload_n C dX0_copy_0 rfl 0 rfl ?_
  refine xv_aload_n C dX0_copy_1 rfl 1 rfl ?_
  refine xv_get C hiX0 15 (wX15 g _) rfl 2 (by decide) (List.mem_of_getElem? (i := 1) rfl) rfl dX0_copy_2 ?_
  refine xv_put C hiX0 tyX0 tyX0_ok nmX0 19 (wX19 g _) rfl 2 (by decide) (List.mem_of_getElem? (i := 1) rfl) rfl (tyX0_ok 2 (by decide)) rfl rfl (Nat.le_of_ble_eq_true rfl) (up a 19 2 (a 15 2)) (pX19_2 g _ _) dX0_copy_5 ?_
  refine xv_aload_n C dX0_copy_8 rfl 1 rfl ?_
  refine xv_get C hiX0 15 (wX15 g _) rfl 0 (by decide) (List.mem_of_getElem? (i := 2) rfl) rfl dX0_copy_9 ?_
  refine xv_iconst C 0 dX0_copy_12 (by decide) ?_
  refine xv_aload_n C dX0_copy_13 rfl 0 rfl ?_
  refine xv_get C hiX0 19 (wX19 g _) rfl 0 (by decide) (List.mem_of_getElem? (i := 2) rfl) rfl dX0_copy_14 ?_
  refine xv_iconst C 0 dX0_copy_17 (by decide) ?_
  refine xv_bipush C 8 dX0_copy_18 (by decide) ?_
  refine xv_copy C (List.mem_of_getElem? (i := 3) rfl) (List.mem_of_getElem? (i := 4) rfl) (List.mem_of_getElem? (i := 5) rfl) (List.mem_of_getElem? (i := 6) rfl) 16 20 0 (wX16 g _) (wX20 g _) rfl (uprow (up a 19 2 (a 15 2)) 20 (va_cpy ((up a 19 2 (a 15 2)) 16) ((up a 19 2 (a 15 2)) 20) ((0 : Int32).toNatClampNeg) ((0 : Int32).toNatClampNeg) ((8 : Int32).toNatClampNeg))) (rX20 g _ _) hf (Nat.le_of_ble_eq_true rfl) (Nat.le_of_ble_eq_true rfl) dX0_copy_20 rfl (fun hf => ?_)
  refine xv_aload_n C dX0_copy_23 rfl 1 rfl ?_
  refine xv_get C hiX0 15 (wX15 g _) rfl 1 (by decide) (List.mem_of_getElem? (i := 7) rfl) rfl dX0_copy_24 ?_
  refine xv_iconst C 0 dX0_copy_27 (by decide) ?_
  refine xv_aload_n C dX0_copy_28 rfl 0 rfl ?_
  refine xv_get C hiX0 19 (wX19 g _) rfl 1 (by decide) (List.mem_of_getElem? (i := 7) rfl) rfl dX0_copy_29 ?_
  refine xv_iconst C 0 dX0_copy_32 (by decide) ?_
  refine xv_bipush C 8 dX0_copy_33 (by decide) ?_
  refine xv_copy C (List.mem_of_getElem? (i := 3) rfl) (List.mem_of_getElem? (i := 4) rfl) (List.mem_of_getElem? (i := 5) rfl) (List.mem_of_getElem? (i := 6) rfl) 17 21 0 (wX17 g _) (wX21 g _) rfl (uprow (uprow (up a 19 2 (a 15 2)) 20 (va_cpy ((up a 19 2 (a 15 2)) 16) ((up a 19 2 (a 15 2)) 20) ((0 : Int32).toNatClampNeg) ((0 : Int32).toNatClampNeg) ((8 : Int32).toNatClampNeg))) 21 (va_cpy ((uprow (up a 19 2 (a 15 2)) 20 (va_cpy ((up a 19 2 (a 15 2)) 16) ((up a 19 2 (a 15 2)) 20) ((0 : Int32).toNatClampNeg) ((0 : Int32).toNatClampNeg) ((8 : Int32).toNatClampNeg))) 17) ((uprow (up a 19 2 (a 15 2)) 20 (va_cpy ((up a 19 2 (a 15 2)) 16) ((up a 19 2 (a 15 2)) 20) ((0 : Int32).toNatClampNeg) ((0 : Int32).toNatClampNeg) ((8 : Int32).toNatClampNeg))) 21) ((0 : Int32).toNatClampNeg) ((0 : Int32).toNatClampNeg) ((8 : Int32).toNatClampNeg))) (rX21 g _ _) hf (Nat.le_of_ble_eq_true rfl) (Nat.le_of_ble_eq_true rfl) dX0_copy_35 rfl (fun hf => ?_)
  exact xz_v hret hf dX0_copy_38
set_option maxRecDepth 100000 in
set_option maxHeartbeats 4000000 in
theorem c_X0_copy__22_15 (g : GX) (hS : xSide (sX g)) (l : Launch) (a : St) (q : St) (hf : f_X0_copy 22 15 a = some q) : Met l yX0_copy wsX0_copy rm_X0_copy (xPre (sX g) [.ref (aX g 22), .ref (aX g 15)] a) (xPostV (sX g) q) 0 0 (sX g).2.2.1 := by
  refine xm_v (av := [.ref (aX g 22), .ref (aX g 15)]) (cc := cX0_copy) (maxL := 2) (by decide) rfl (Nat.le_of_ble_eq_true rfl) hS.1 hS.2 (fun K C hret => ?_)
  have C : CC K (sX g) cX0_copy 2 wsX0_copy RX0 rm_X0_copy := C
  have hiX0 : ∀ w ∈ u_ws RX0 TX0 4, w ∈ wsX0_copy := fun w h => List.mem_cons_of_mem _ (List.mem_append_right _ h)
  rw [f_X0_copy] at hf
  show V K (sX g) 2 a [(0, .ref (aX g 22)), (1, .ref (aX g 15))] 0 []
  refine xv_aload_n C dX0_copy_0 rfl 0 rfl ?_
  refine xv_aload_n C dX0_copy_1 rfl 1 rfl ?_
  refine xv_get C hiX0 15 (wX15 g _) rfl 2 (by decide) (List.mem_of_getElem? (i := 1) rfl) rfl dX0_copy_2 ?_
  refine xv_put C hiX0 tyX0 tyX0_ok nmX0 22 (wX22 g _) rfl 2 (by decide) (List.mem_of_getElem? (i := 1) rfl) rfl (tyX0_ok 2 (by decide)) rfl rfl (Nat.le_of_ble_eq_true rfl) (up a 22 2 (a 15 2)) (pX22_2 g _ _) dX0_copy_5 ?_
  refine xv_aload_n C dX0_copy_8 rfl 1 rfl ?_
  refine xv_get C hiX0 15 (wX15 g _) rfl 0 (by decide) (List.mem_of_getElem? (i := 2) rfl) rfl dX0_copy_9 ?_
  refine xv_iconst C 0 dX0_copy_12 (by decide) ?_
  refine xv_aload_n C dX0_copy_13 rfl 0 rfl ?_
  refine xv_get C hiX0 22 (wX22 g _) rfl 0 (by decide) (List.mem_of_getElem? (i := 2) rfl) rfl dX0_copy_14 ?_
  refine xv_iconst C 0 dX0_copy_17 (by decide) ?_
  refine xv_bipush C 8 dX0_copy_18 (by decide) ?_
  refine xv_copy C (List.mem_of_getElem? (i := 3) rfl) (List.mem_of_getElem? (i := 4) rfl) (List.mem_of_getElem? (i := 5) rfl) (List.mem_of_getElem? (i := 6) rfl) 16 23 0 (wX16 g _) (wX23 g _) rfl (uprow (up a 22 2 (a 15 2)) 23 (va_cpy ((up a 22 2 (a 15 2)) 16) ((up a 22 2 (a 15 2)) 23) ((0 : Int32).toNatClampNeg) ((0 : Int32).toNatClampNeg) ((8 : Int32).toNatClampNeg))) (rX23 g _ _) hf (Nat.le_of_ble_eq_true rfl) (Nat.le_of_ble_eq_true rfl) dX0_copy_20 rfl (fun hf => ?_)
  refine xv_aload_n C dX0_copy_23 rfl 1 rfl ?_
  refine xv_get C hiX0 15 (wX15 g _) rfl 1 (by decide) (List.mem_of_getElem? (i := 7) rfl) rfl dX0_copy_24 ?_
  refine xv_iconst C 0 dX0_copy_27 (by decide) ?_
  refine xv_aload_n C dX0_copy_28 rfl 0 rfl ?_
  refine xv_get C hiX0 22 (wX22 g _) rfl 1 (by decide) (List.mem_of_getElem? (i := 7) rfl) rfl dX0_copy_29 ?_
  refine xv_iconst C 0 dX0_copy_32 (by decide) ?_
  refine xv_bipush C 8 dX0_copy_33 (by decide) ?_
  refine xv_copy C (List.mem_of_getElem? (i := 3) rfl) (List.mem_of_getElem? (i := 4) rfl) (List.mem_of_getElem? (i := 5) rfl) (List.mem_of_getElem? (i := 6) rfl) 17 24 0 (wX17 g _) (wX24 g _) rfl (uprow (uprow (up a 22 2 (a 15 2)) 23 (va_cpy ((up a 22 2 (a 15 2)) 16) ((up a 22 2 (a 15 2)) 23) ((0 : Int32).toNatClampNeg) ((0 : Int32).toNatClampNeg) ((8 : Int32).toNatClampNeg))) 24 (va_cpy ((uprow (up a 22 2 (a 15 2)) 23 (va_cpy ((up a 22 2 (a 15 2)) 16) ((up a 22 2 (a 15 2)) 23) ((0 : Int32).toNatClampNeg) ((0 : Int32).toNatClampNeg) ((8 : Int32).toNatClampNeg))) 17) ((uprow (up a 22 2 (a 15 2)) 23 (va_cpy ((up a 22 2 (a 15 2)) 16) ((up a 22 2 (a 15 2)) 23) ((0 : Int32).toNatClampNeg) ((0 : Int32).toNatClampNeg) ((8 : Int32).toNatClampNeg))) 24) ((0 : Int32).toNatClampNeg) ((0 : Int32).toNatClampNeg) ((8 : Int32).toNatClampNeg))) (rX24 g _ _) hf (Nat.le_of_ble_eq_true rfl) (Nat.le_of_ble_eq_true rfl) dX0_copy_35 rfl (fun hf => ?_)
  exact xz_v hret hf dX0_copy_38
