/-! ===== the JDK's own methods over the class's texts: length, charAt ===== -/
abbrev vX (g : GX) (i : Nat) : Nat := g.2.2.2.2.2 i
section XS
variable {K : CTX} (g : GX) {cc : ByteArray} {nL : Nat} {Ts : List Cond} {own : String} {R0 : Room} {a : St} {lvs : List (Nat × Value)} {pc : Nat} {st : List Value}
theorem xs_value (C : CC K (sX g) cc nL Ts own R0) {i : Nat} (hi : i < 21) {index : Nat} (hlink : Cond.fieldLink own index "java/lang/String" "value" "[B" ∈ Ts) (hdg : decode cc pc = .ok (.getfield index, 3)) (kk : V K (sX g) nL a lvs (pc + 3) (.ref (vX g i) :: st)) : V K (sX g) nL a lvs pc (.ref (kX g i) :: st) := by
  obtain ⟨p, l, e, R, s, m, args, below, meth, c, Q, kc, ks⟩ := K
  obtain ⟨hx, hb, hml, hts, hown, hlo, hK, hD, hE, hE0, hR⟩ := C
  exact fun H locs ls hP hS h9 => vk_getf hx hb (hE0.2.1.1 i hi).2.2.1 hS hown (hts _ hlink) (fun _ h => h) hdg (kk H locs ls hP hS h9)
theorem xs_coder (C : CC K (sX g) cc nL Ts own R0) {i : Nat} (hi : i < 21) {index : Nat} (hlink : Cond.fieldLink own index "java/lang/String" "coder" "B" ∈ Ts) (hdg : decode cc pc = .ok (.getfield index, 3)) (kk : V K (sX g) nL a lvs (pc + 3) (.int 0 :: st)) : V K (sX g) nL a lvs pc (.ref (kX g i) :: st) := by
  obtain ⟨p, l, e, R, s, m, args, below, meth, c, Q, kc, ks⟩ := K
  obtain ⟨hx, hb, hml, hts, hown, hlo, hK, hD, hE, hE0, hR⟩ := C
  exact fun H locs ls hP hS h9 => vk_getf hx hb (hE0.2.1.1 i hi).2.1 hS hown (hts _ hlink) (fun _ h => h) hdg (kk H locs ls hP hS h9)
theorem xs_len (C : CC K (sX g) cc nL Ts own R0) {i : Nat} (hi : i < 21) (hdg : decode cc pc = .ok (.arraylength, 1)) (kk : V K (sX g) nL a lvs (pc + 1) (.int (nI (txN.getD i 0)) :: st)) : V K (sX g) nL a lvs pc (.ref (vX g i) :: st) := by
  obtain ⟨p, l, e, R, s, m, args, below, meth, c, Q, kc, ks⟩ := K
  obtain ⟨hx, hb, hml, hts, hown, hlo, hK, hD, hE, hE0, hR⟩ := C
  exact fun H locs ls hP hS h9 => va_tlen hx hb (hE0.2.1.1 i hi).2.2.2 hS rfl hdg (kk H locs ls hP hS h9)
theorem xs_byte (C : CC K (sX g) cc nL Ts own R0) {i : Nat} (hi : i < 21) {k : Int32} (hin : ¬ (k < 0 ∨ txN.getD i 0 ≤ k.toNatClampNeg)) (hdg : decode cc pc = .ok (.baload, 1)) (kk : V K (sX g) nL a lvs (pc + 1) (.int ((txB.getD i []).getD k.toNatClampNeg 0) :: st)) : V K (sX g) nL a lvs pc (.int k :: .ref (vX g i) :: st) := by
  obtain ⟨p, l, e, R, s, m, args, below, meth, c, Q, kc, ks⟩ := K
  obtain ⟨hx, hb, hml, hts, hown, hlo, hK, hD, hE, hE0, hR⟩ := C
  exact fun H locs ls hP hS h9 => va_tb hx hb (hE0.2.1.1 i hi).2.2.2 hS hin rfl hdg (kk H locs ls hP hS h9)
theorem xs_compact (C : CC K (sX g) cc nL Ts own R0) {index : Nat} (hlink : Cond.fieldLink own index "java/lang/String" "COMPACT_STRINGS" "Z" ∈ Ts) (hdg : decode cc pc = .ok (.getstatic index, 3)) (kk : V K (sX g) nL a lvs (pc + 3) (.int 1 :: st)) : V K (sX g) nL a lvs pc st := by
  obtain ⟨p, l, e, R, s, m, args, below, meth, c, Q, kc, ks⟩ := K
  obtain ⟨hx, hb, hml, hts, hown, hlo, hK, hD, hE, hE0, hR⟩ := C
  exact fun H locs ls hP hS h9 => va_gets hx hb hE0.2.2.2.1 hS hown (hts _ hlink) (fun _ h => h) hdg (kk H locs ls hP hS h9)
theorem xs_fmt (C : CC K (sX g) cc nL Ts own R0) {index : Nat} (hlink : Cond.fieldLink own index "jdk/internal/util/Preconditions" "SIOOBE_FORMATTER" "Ljava/util/function/BiFunction;" ∈ Ts) (hdg : decode cc pc = .ok (.getstatic index, 3)) (kk : ∀ v : Value, v.category = 1 → V K (sX g) nL a lvs (pc + 3) (v :: st)) : V K (sX g) nL a lvs pc st := by
  obtain ⟨p, l, e, R, s, m, args, below, meth, c, Q, kc, ks⟩ := K
  obtain ⟨hx, hb, hml, hts, hown, hlo, hK, hD, hE, hE0, hR⟩ := C
  intro H locs ls hP hS h9
  rcases hE0.2.2.2.2 with h | ⟨t, h⟩
  · exact va_gets hx hb h hS hown (hts _ hlink) (fun _ h => h) hdg (kk _ rfl H locs ls hP hS h9)
  · exact va_gets hx hb h hS hown (hts _ hlink) (fun _ h => h) hdg (kk _ rfl H locs ls hP hS h9)
end XS
abbrev rm_J0_coder_7d493 : Room := { frames := 0, cells := 0, slots := 0, locals := 0 }
abbrev rm_J0_isLatin1_aae02 : Room := { frames := 0, cells := 0, slots := 0, locals := 0 }
abbrev rm_J3_checkIndex_8e157 : Room := { frames := 0, cells := 0, slots := 0, locals := 0 }
abbrev rm_J0_checkIndex_df160 : Room := { frames := 1, cells := 0, slots := 0, locals := 22 }
abbrev rm_J1_charAt_3b067 : Room := { frames := 2, cells := 0, slots := 0, locals := 43 }
theorem hdV_J0_coder_7d493 : yJ0_coder_7d493.cls = RJ0 ∧ yJ0_coder_7d493.cls ≠ "java/lang/invoke/MethodHandle" ∧ yJ0_coder_7d493.cls ≠ "java/lang/invoke/VarHandle" ∧ (parseMethodDescriptor yJ0_coder_7d493.desc).map (fun d => d.parameters.length) = some 0 := by decide +kernel
theorem hdV_J0_isLatin1_aae02 : yJ0_isLatin1_aae02.cls = RJ0 ∧ yJ0_isLatin1_aae02.cls ≠ "java/lang/invoke/MethodHandle" ∧ yJ0_isLatin1_aae02.cls ≠ "java/lang/invoke/VarHandle" ∧ (parseMethodDescriptor yJ0_isLatin1_aae02.desc).map (fun d => d.parameters.length) = some 0 := by decide +kernel
theorem hdS_J3_checkIndex_8e157 : yJ3_checkIndex_8e157.cls ≠ "java/lang/invoke/MethodHandle" ∧ yJ3_checkIndex_8e157.cls ≠ "java/lang/invoke/VarHandle" ∧ (parseMethodDescriptor yJ3_checkIndex_8e157.desc).map (fun d => d.parameters.length) = some 3 := by decide +kernel
theorem hdS_J0_checkIndex_df160 : yJ0_checkIndex_df160.cls ≠ "java/lang/invoke/MethodHandle" ∧ yJ0_checkIndex_df160.cls ≠ "java/lang/invoke/VarHandle" ∧ (parseMethodDescriptor yJ0_checkIndex_df160.desc).map (fun d => d.parameters.length) = some 2 := by decide +kernel
theorem hdS_J1_charAt_3b067 : yJ1_charAt_3b067.cls ≠ "java/lang/invoke/MethodHandle" ∧ yJ1_charAt_3b067.cls ≠ "java/lang/invoke/VarHandle" ∧ (parseMethodDescriptor yJ1_charAt_3b067.desc).map (fun d => d.parameters.length) = some 2 := by decide +kernel
theorem c_J0_coder_7d493 (g : GX) (hS : xSide (sX g)) (l : Launch) (i : Nat) (hi : i < 21) (a : St) : Met l yJ0_coder_7d493 wsJ0_coder_7d493 rm_J0_coder_7d493 (xPre (sX g) [.ref (kX g i)] a) (xPostI (sX g) 0 a) 0 0 (sX g).2.2.1 := by
  refine xm_z (av := [.ref (kX g i)]) (cc := cJ0_coder_7d493) (maxL := 1) (by decide) rfl (Nat.le_of_ble_eq_true rfl) hS.1 hS.2 (fun K C hret => ?_)
  show V K (sX g) 1 a [(0, .ref (kX g i))] 0 []
  refine xs_compact g C (List.mem_of_getElem? (i := 1) rfl) dJ0_coder_7d493_0 ?_
  refine xv_if_eq C (y := 0) (A := (none : Option Unit)) (B := some ()) (v := ()) 13 (by decide) dJ0_coder_7d493_3 (by decide) (fun _ hf => by cases hf) (fun _ _ => ?_)
  refine xv_aload_n C dJ0_coder_7d493_6 rfl 0 rfl ?_
  refine xs_coder g C hi (List.mem_of_getElem? (i := 2) rfl) dJ0_coder_7d493_7 ?_
  refine xv_goto C 14 dJ0_coder_7d493_10 (by decide) ?_
  exact hret _ _ dJ0_coder_7d493_14 (by decide)
theorem c_J0_isLatin1_aae02 (g : GX) (hS : xSide (sX g)) (l : Launch) (i : Nat) (hi : i < 21) (a : St) : Met l yJ0_isLatin1_aae02 wsJ0_isLatin1_aae02 rm_J0_isLatin1_aae02 (xPre (sX g) [.ref (kX g i)] a) (xPostI (sX g) 1 a) 0 0 (sX g).2.2.1 := by
  refine xm_z (av := [.ref (kX g i)]) (cc := cJ0_isLatin1_aae02) (maxL := 1) (by decide) rfl (Nat.le_of_ble_eq_true rfl) hS.1 hS.2 (fun K C hret => ?_)
  show V K (sX g) 1 a [(0, .ref (kX g i))] 0 []
  refine xs_compact g C (List.mem_of_getElem? (i := 1) rfl) dJ0_isLatin1_aae02_0 ?_
  refine xv_if_eq C (y := 0) (A := (none : Option Unit)) (B := some ()) (v := ()) 17 (by decide) dJ0_isLatin1_aae02_3 (by decide) (fun _ hf => by cases hf) (fun _ _ => ?_)
  refine xv_aload_n C dJ0_isLatin1_aae02_6 rfl 0 rfl ?_
  refine xs_coder g C hi (List.mem_of_getElem? (i := 2) rfl) dJ0_isLatin1_aae02_7 ?_
  refine xv_if_ne C (y := 0) (A := some ()) (B := (none : Option Unit)) (v := ()) 17 (by decide) dJ0_isLatin1_aae02_10 (by decide) (fun _ _ => ?_) (fun _ hf => by cases hf)
  refine xv_iconst C 1 dJ0_isLatin1_aae02_13 (by decide) ?_
  refine xv_goto C 18 dJ0_isLatin1_aae02_14 (by decide) ?_
  exact hret _ _ dJ0_isLatin1_aae02_18 (by decide)
theorem c_J3_checkIndex_8e157 (g : GX) (hS : xSide (sX g)) (l : Launch) (k N : Int32) (h1 : ¬ k < 0) (h2 : k < N) (v : Value) (hv : v.category = 1) (a : St) : Met l yJ3_checkIndex_8e157 wsJ3_checkIndex_8e157 rm_J3_checkIndex_8e157 (xPre (sX g) [.int k, .int N, v] a) (xPostI (sX g) k a) 0 0 (sX g).2.2.1 := by
  refine xm_i (av := [.int k, .int N, v]) (cc := cJ3_checkIndex_8e157) (maxL := 3) (by decide) rfl (by cases v <;> first | (exact Nat.le_of_ble_eq_true rfl) | cases hv) hS.1 hS.2 (fun K C hret => ?_)
  show V K (sX g) 3 a [(0, .int k), (1, .int N), (2, v)] 0 []
  refine xv_iload_n C dJ3_checkIndex_8e157_0 rfl 0 rfl ?_
  refine xv_if_lt C (y := 0) (A := (none : Option Unit)) (B := some ()) (v := ()) 9 (if_neg h1) dJ3_checkIndex_8e157_1 (by decide) (fun _ hf => by cases hf) (fun _ _ => ?_)
  refine xv_iload_n C dJ3_checkIndex_8e157_4 rfl 0 rfl ?_
  refine xv_iload_n C dJ3_checkIndex_8e157_5 rfl 1 rfl ?_
  refine xv_icmp_lt C (A := some ()) (B := (none : Option Unit)) (v := ()) 16 (if_pos h2) dJ3_checkIndex_8e157_6 (by decide) (fun _ _ => ?_) (fun _ hf => by cases hf)
  refine xv_iload_n C dJ3_checkIndex_8e157_16 rfl 0 rfl ?_
  exact hret _ _ dJ3_checkIndex_8e157_17
theorem c_J0_checkIndex_df160 (g : GX) (hS : xSide (sX g)) (l : Launch) (k N : Int32) (h1 : ¬ k < 0) (h2 : k < N) (a : St) : Met l yJ0_checkIndex_df160 wsJ0_checkIndex_df160 rm_J0_checkIndex_df160 (xPre (sX g) [.int k, .int N] a) (xPostV (sX g) a) 0 0 (sX g).2.2.1 := by
  refine xm_v (av := [.int k, .int N]) (cc := cJ0_checkIndex_df160) (maxL := 2) (by decide) rfl (Nat.le_of_ble_eq_true rfl) hS.1 hS.2 (fun K C hret => ?_)
  show V K (sX g) 2 a [(0, .int k), (1, .int N)] 0 []
  refine xv_iload_n C dJ0_checkIndex_df160_0 rfl 0 rfl ?_
  refine xv_iload_n C dJ0_checkIndex_df160_1 rfl 1 rfl ?_
  refine xs_fmt g C (List.mem_of_getElem? (i := 1) rfl) dJ0_checkIndex_df160_2 (fun v hv => ?_)
  refine xc_i (xr_S C (As := [.int k, .int N, v]) (fun l => c_J3_checkIndex_8e157 g hS l k N h1 h2 v hv a) gJ0_checkIndex_df160_J3_checkIndex_8e157 rfl ⟨rfl, rfl⟩ hdS_J3_checkIndex_8e157 ⟨Nat.le_of_ble_eq_true rfl, Nat.le_of_ble_eq_true rfl⟩ rfl rfl (Nat.le_of_ble_eq_true rfl) dJ0_checkIndex_df160_5) ?_
  refine xv_pop C dJ0_checkIndex_df160_8 rfl ?_
  exact hret _ _ dJ0_checkIndex_df160_9
/-- each text: its length, its bytes are small -/
theorem tx_all : ∀ i, i < 21 → (txN.getD i 0 < 2 ^ 31 ∧ ∀ k, k < txN.getD i 0 → (((txB.getD i []).getD k 0 &&& 255).toUInt32 % 65536).toInt32 = (txB.getD i []).getD k 0 ∧ narrow .char (.int ((txB.getD i []).getD k 0)) = .int ((txB.getD i []).getD k 0)) := by decide +kernel
theorem tx_in {N : Nat} (hN : N < 2 ^ 31) {k : Int32} (h : ¬ (k < 0 ∨ N ≤ k.toNatClampNeg)) : ¬ k < 0 ∧ k < nI N := by
  obtain ⟨j, hj, rfl⟩ := vp_in_of h hN
  exact ⟨nI_pos (by omega), nI_lt hj hN⟩
theorem c_J1_charAt_3b067 (g : GX) (hS : xSide (sX g)) (l : Launch) (i : Nat) (hi : i < 21) (k : Int32) (hk : ¬ (k < 0 ∨ txN.getD i 0 ≤ k.toNatClampNeg)) (a : St) : Met l yJ1_charAt_3b067 wsJ1_charAt_3b067 rm_J1_charAt_3b067 (xPre (sX g) [.ref (vX g i), .int k] a) (xPostI (sX g) ((txB.getD i []).getD k.toNatClampNeg 0) a) 0 0 (sX g).2.2.1 := by
  refine xm_z (av := [.ref (vX g i), .int k]) (cc := cJ1_charAt_3b067) (maxL := 2) (by decide) rfl (Nat.le_of_ble_eq_true rfl) hS.1 hS.2 (fun K C hret => ?_)
  obtain ⟨h31, hall⟩ := tx_all i hi
  obtain ⟨h1, h2⟩ := tx_in h31 hk
  obtain ⟨e1, e2⟩ := hall k.toNatClampNeg (Nat.not_le.mp fun q => hk (Or.inr q))
  show V K (sX g) 2 a [(0, .ref (vX g i)), (1, .int k)] 0 []
  refine xv_iload_n C dJ1_charAt_3b067_0 rfl 1 rfl ?_
  refine xv_aload_n C dJ1_charAt_3b067_1 rfl 0 rfl ?_
  refine xs_len g C hi dJ1_charAt_3b067_2 ?_
  refine xc_v (xr_S C (As := [.int k, .int (nI (txN.getD i 0))]) (fun l => c_J0_checkIndex_df160 g hS l k (nI (txN.getD i 0)) h1 h2 a) gJ1_charAt_3b067_J0_checkIndex_df160 rfl ⟨rfl, rfl⟩ hdS_J0_checkIndex_df160 ⟨Nat.le_of_ble_eq_true rfl, Nat.le_of_ble_eq_true rfl⟩ rfl rfl (Nat.le_of_ble_eq_true rfl) dJ1_charAt_3b067_3) ?_
  refine xv_aload_n C dJ1_charAt_3b067_6 rfl 0 rfl ?_
  refine xv_iload_n C dJ1_charAt_3b067_7 rfl 1 rfl ?_
  refine xs_byte g C hi hk dJ1_charAt_3b067_8 ?_
  refine xv_sipush C 255 dJ1_charAt_3b067_9 (by decide) ?_
  refine xv_iand C dJ1_charAt_3b067_12 ?_
  refine xv_i2c C _ dJ1_charAt_3b067_13 e1 ?_
  exact hret _ _ dJ1_charAt_3b067_14 e2
theorem c_J0_length_8abf5 (g : GX) (hS : xSide (sX g)) (l : Launch) (i : Nat) (a : St) (q : Int32) (hf : f_J0_length_8abf5 i = some q) : Met l yJ0_length_8abf5 wsJ0_length_8abf5 rm_J0_length_8abf5 (xPre (sX g) [.ref (kX g i)] a) (xPostI (sX g) q a) 0 0 (sX g).2.2.1 := by
  have hi := sx_J0_len hf
  have eq : nI (txN.getD i 0) >>> ((0 : Int32) &&& 31) = q := by
    rw [sc_shr0 (tx_all i hi).1]
    unfold f_J0_length_8abf5 at hf
    rw [if_pos hi] at hf
    exact Option.some.inj hf
  refine xm_i (av := [.ref (kX g i)]) (cc := cJ0_length_8abf5) (maxL := 1) (by decide) rfl (Nat.le_of_ble_eq_true rfl) hS.1 hS.2 (fun K C hret => ?_)
  show V K (sX g) 1 a [(0, .ref (kX g i))] 0 []
  refine xv_aload_n C dJ0_length_8abf5_0 rfl 0 rfl ?_
  refine xs_value g C hi (List.mem_of_getElem? (i := 1) rfl) dJ0_length_8abf5_1 ?_
  refine xs_len g C hi dJ0_length_8abf5_4 ?_
  refine xv_aload_n C dJ0_length_8abf5_5 rfl 0 rfl ?_
  refine xc_i (xr_VS g C hi (As := []) (fun l => c_J0_coder_7d493 g hS l i hi a) gJ0_length_8abf5_J0_coder_7d493 rfl ⟨rfl, rfl⟩ hdV_J0_coder_7d493 ⟨Nat.le_of_ble_eq_true rfl, Nat.le_of_ble_eq_true rfl⟩ rfl rfl (Nat.le_of_ble_eq_true rfl) dJ0_length_8abf5_6) ?_
  refine xv_ishr C dJ0_length_8abf5_9 ?_
  rw [eq]
  exact hret _ _ dJ0_length_8abf5_10
theorem c_J0_charAt_5068e (g : GX) (hS : xSide (sX g)) (l : Launch) (i : Nat) (k : Int32) (a : St) (q : Int32) (hf : f_J0_charAt_5068e i k = some q) : Met l yJ0_charAt_5068e wsJ0_charAt_5068e rm_J0_charAt_5068e (xPre (sX g) [.ref (kX g i), .int k] a) (xPostI (sX g) q a) 0 0 (sX g).2.2.1 := by
  have hi := sx_J0_cha hf
  have hkq : ¬ (k < 0 ∨ txN.getD i 0 ≤ k.toNatClampNeg) ∧ (txB.getD i []).getD k.toNatClampNeg 0 = q := by
    unfold f_J0_charAt_5068e at hf
    rw [if_pos hi] at hf
    by_cases h : k < 0 ∨ txN.getD i 0 ≤ k.toNatClampNeg
    · rw [if_pos h] at hf
      cases hf
    · rw [if_neg h] at hf
      exact ⟨h, Option.some.inj hf⟩
  obtain ⟨hk, rfl⟩ := hkq
  have e2 := ((tx_all i hi).2 k.toNatClampNeg (Nat.not_le.mp fun q => hk (Or.inr q))).2
  refine xm_z (av := [.ref (kX g i), .int k]) (cc := cJ0_charAt_5068e) (maxL := 2) (by decide) rfl (Nat.le_of_ble_eq_true rfl) hS.1 hS.2 (fun K C hret => ?_)
  show V K (sX g) 2 a [(0, .ref (kX g i)), (1, .int k)] 0 []
  refine xv_aload_n C dJ0_charAt_5068e_0 rfl 0 rfl ?_
  refine xc_i (xr_VS g C hi (As := []) (fun l => c_J0_isLatin1_aae02 g hS l i hi a) gJ0_charAt_5068e_J0_isLatin1_aae02 rfl ⟨rfl, rfl⟩ hdV_J0_isLatin1_aae02 ⟨Nat.le_of_ble_eq_true rfl, Nat.le_of_ble_eq_true rfl⟩ rfl rfl (Nat.le_of_ble_eq_true rfl) dJ0_charAt_5068e_1) ?_
  refine xv_if_eq C (y := 0) (A := (none : Option Unit)) (B := some ()) (v := ()) 16 (by decide) dJ0_charAt_5068e_4 (by decide) (fun _ hf => by cases hf) (fun _ _ => ?_)
  refine xv_aload_n C dJ0_charAt_5068e_7 rfl 0 rfl ?_
  refine xs_value g C hi (List.mem_of_getElem? (i := 1) rfl) dJ0_charAt_5068e_8 ?_
  refine xv_iload_n C dJ0_charAt_5068e_11 rfl 1 rfl ?_
  refine xc_i (xr_S C (As := [.ref (vX g i), .int k]) (fun l => c_J1_charAt_3b067 g hS l i hi k hk a) gJ0_charAt_5068e_J1_charAt_3b067 rfl ⟨rfl, rfl⟩ hdS_J1_charAt_3b067 ⟨Nat.le_of_ble_eq_true rfl, Nat.le_of_ble_eq_true rfl⟩ rfl rfl (Nat.le_of_ble_eq_true rfl) dJ0_charAt_5068e_12) ?_
  exact hret _ _ dJ0_charAt_5068e_15 e2
