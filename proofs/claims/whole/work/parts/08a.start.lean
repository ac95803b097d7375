/-! ===== the law's start: what the tables and the start give; both objects made; the loop ===== -/
def tmS (i : Nat) : Term := .string "MirrorHour$Text" (txI.getD i 0)
abbrev flN : List Cond := flatC (Jvm.Cond.and given_1 narrow_1)
set_option maxRecDepth 100000 in
theorem fs_len : ∀ i, i < 21 → txN.getD i 0 < 2 ^ 31 := by decide +kernel
set_option maxRecDepth 100000 in
theorem fs_ex : ∀ i, i < 21 → Cond.exactly (tmS i) "java/lang/String" ∈ flN := by decide +kernel
set_option maxRecDepth 100000 in
theorem fs_co : ∀ i, i < 21 → Cond.eq (.field (tmS i) "java/lang/String" "coder" "B") (.int 0) ∈ flN := by decide +kernel
set_option maxRecDepth 100000 in
theorem fs_ar : ∀ i, i < 21 → Cond.arrayOf (.field (tmS i) "java/lang/String" "value" "[B") .byte ∈ flN := by decide +kernel
set_option maxRecDepth 100000 in
theorem fs_le : ∀ i, i < 21 → Cond.eq (.length (.field (tmS i) "java/lang/String" "value" "[B")) (.int (Int32.ofNat (txN.getD i 0))) ∈ flN := by decide +kernel
set_option maxRecDepth 100000 in
theorem fs_el : ∀ i, i < 21 → ∀ j, j < txN.getD i 0 → Cond.eq (.elem (.field (tmS i) "java/lang/String" "value" "[B") (.int (Int32.ofNat j))) (.int ((txB.getD i []).getD j 0)) ∈ flN := by decide +kernel
set_option maxRecDepth 100000 in
theorem fs_ne : ∀ i, i < 21 → ∀ j, j < 21 → i ≠ j → Cond.not (Cond.eq (tmS i) (tmS j)) ∈ flN ∨ Cond.not (Cond.eq (tmS j) (tmS i)) ∈ flN := by decide +kernel
set_option maxRecDepth 100000 in
theorem fs_ref : ∀ i, i < 21 → Cond.stringRef "MirrorHour$Text" (txI.getD i 0) (txS.getD i "") ∈ lw_tbl := by decide +kernel
set_option maxRecDepth 100000 in
theorem fs_nest : ∀ w ∈ nsW, w ∈ lw_tbl := by decide +kernel
set_option maxRecDepth 100000 in
theorem fs_cs : Cond.eq (.static "java/lang/String" "COMPACT_STRINGS" "Z") (.int 1) ∈ flN ∧ Cond.laysStatic "java/lang/String" "COMPACT_STRINGS" "Z" ∈ lw_tbl ∧ Cond.initialized "java/lang/String" ∈ lw_tbl := by decide +kernel
set_option maxRecDepth 100000 in
theorem fs_sf : Cond.isRef (.static "jdk/internal/util/Preconditions" "SIOOBE_FORMATTER" "Ljava/util/function/BiFunction;") ∈ flN ∧ Cond.laysStatic "jdk/internal/util/Preconditions" "SIOOBE_FORMATTER" "Ljava/util/function/BiFunction;" ∈ lw_tbl ∧ Cond.initialized "jdk/internal/util/Preconditions" ∈ lw_tbl := by decide +kernel
set_option maxRecDepth 100000 in
theorem fs_cl : Cond.arrayClass .int ∈ lw_tbl ∧ Cond.arrayClass .boolean ∈ lw_tbl ∧ Cond.arrayOver (.object "MirrorHour$Image") ∈ lw_tbl := by decide +kernel
set_option maxRecDepth 100000 in
theorem fs_in : (Cond.instantiable RX0 4 ∈ lw_tbl ∧ Cond.instantiable RX1 2 ∈ lw_tbl ∧ Cond.instantiable RX2 9 ∈ lw_tbl ∧ Cond.instantiable RX3 4 ∈ lw_tbl) ∧ Cond.instantiable RX4 12 ∈ lw_tbl ∧ Cond.instantiable RX5 13 ∈ lw_tbl ∧ Cond.instantiable RX6 26 ∈ lw_tbl := by decide +kernel
set_option maxRecDepth 100000 in
theorem fs_law : (Cond.classLink RL 7 RX5 ∈ lw_tbl ∧ Cond.classLink RL 10 RX6 ∈ lw_tbl ∧ Cond.initialized RX5 ∈ lw_tbl ∧ Cond.initialized RX6 ∈ lw_tbl) ∧ Cond.methodLink RL 9 yX5_init ∈ lw_tbl ∧ Cond.methodLink RL 12 yX6_init ∈ lw_tbl ∧ Cond.instanceMethod yX5_init ∈ lw_tbl ∧ Cond.instanceMethod yX6_init ∈ lw_tbl := by decide +kernel
/-- the texts and the two statics, as the start has them -/
theorem ws_env {args : Array Value} {s : State} (hgv : (Jvm.Cond.and given_1 narrow_1).before args s = true) (hts : ∀ w ∈ lw_tbl, w.before args s = true) : ∃ adK adV : Nat → Nat, ∀ (D : va_G) (cI cO : ClassId) (ad : Nat → Nat), EXA (D, cI, cO, ad, adK, adV) (AL s.heap.size) s s.heap := by
  have hs := flat_of_before _ hgv
  have hA : ∀ a : Nat, a < s.heap.size → ¬ AL s.heap.size a := fun a h => Nat.not_le.mpr h
  obtain ⟨adK, adV, hS, hE⟩ := vk_Sof (args := args) (s := s) (N := 21) (tm := tmS) (len := txN) (byt := txB) (A := AL s.heap.size) fs_len (fun i hi => hs _ (fs_ex i hi)) (fun i hi => hs _ (fs_co i hi)) (fun i hi => hs _ (fs_ar i hi)) (fun i hi => hs _ (fs_le i hi)) (fun i hi j hj => hs _ (fs_el i hi j hj)) (fun i j hi hj hij => (fs_ne i hi j hj hij).elim (fun h => Or.inl (hs _ h)) (fun h => Or.inr (hs _ h))) hA
  refine ⟨adK, adV, fun D cI cO ad => ⟨fun w hw => ?_, hS, fun i hi => vk_R.of (A := args) (hts _ (fs_ref i hi)) (hE i hi), ?_, ?_⟩⟩
  · have h := hts w (fs_nest w hw)
    rcases nsW_kind w hw with ⟨a, i, b, n, d, h2, rfl⟩ | ⟨a, i, x, h2, rfl⟩ <;> exact va_Nw.of rfl h
  · exact va_Zof (hts _ fs_cs.2.1) (hts _ fs_cs.2.2) (va_eqi (hs _ fs_cs.1)) hA
  · obtain ⟨v, hv, hvr⟩ := Cond.isRef_spec (hs _ fs_sf.1)
    cases v with
    | ref t => exact Or.inr ⟨t, va_Zof (hts _ fs_sf.2.1) (hts _ fs_sf.2.2) hv hA⟩
    | null => exact Or.inl (va_Zof (hts _ fs_sf.2.1) (hts _ fs_sf.2.2) hv hA)
    | _ => cases hvr
theorem ws_cls {args : Array Value} {s : State} (hts : ∀ w ∈ lw_tbl, w.before args s = true) : ∃ (D : va_G) (cI cO cZ : ClassId), va_K D vwCl [(cI, .int), (cO, .object "MirrorHour$Image"), (cZ, .boolean)] s := by
  obtain ⟨c0, i0, h0⟩ := u_known (C := RX0) (T := TX0) (N := 4) (n := 4) hts inX0 (hts _ fs_in.1.1)
  obtain ⟨c1, i1, h1⟩ := u_known (C := RX1) (T := TX1) (N := 2) (n := 2) hts inX1 (hts _ fs_in.1.2.1)
  obtain ⟨c2, i2, h2⟩ := u_known (C := RX2) (T := TX2) (N := 9) (n := 9) hts inX2 (hts _ fs_in.1.2.2.1)
  obtain ⟨c3, i3, h3⟩ := u_known (C := RX3) (T := TX3) (N := 4) (n := 4) hts inX3 (hts _ fs_in.1.2.2.2)
  obtain ⟨c4, i4, h4⟩ := u_known (C := RX4) (T := TX4) (N := 12) (n := 12) hts inX4 (hts _ fs_in.2.1)
  obtain ⟨c5, i5, h5⟩ := u_known (C := RX5) (T := TX5) (N := 13) (n := 13) hts inX5 (hts _ fs_in.2.2.1)
  obtain ⟨c6, i6, h6⟩ := u_known (C := RX6) (T := TX6) (N := 26) (n := 26) hts inX6 (hts _ fs_in.2.2.2)
  obtain ⟨cI, kI, pI, a1, a2, a3⟩ := Cond.arrayClass_spec (hts _ fs_cl.1)
  obtain ⟨cZ, kZ, pZ, z1, z2, z3⟩ := Cond.arrayClass_spec (hts _ fs_cl.2.1)
  obtain ⟨pO, cO, kO, o1, -, o3, o4, o5⟩ := Cond.arrayOver_spec (hts _ fs_cl.2.2)
  refine ⟨(fun k => match k with | 0 => c0 | 1 => c1 | 2 => c2 | 3 => c3 | 4 => c4 | 5 => c5 | _ => c6, fun k => match k with | 0 => i0 | 1 => i1 | 2 => i2 | 3 => i3 | 4 => i4 | 5 => i5 | _ => i6), cI, cO, cZ, fun c q hq => ?_, fun k q hk => ?_⟩
  · match c, hq with
    | 0, hq => cases hq; exact h0
    | 1, hq => cases hq; exact h1
    | 2, hq => cases hq; exact h2
    | 3, hq => cases hq; exact h3
    | 4, hq => cases hq; exact h4
    | 5, hq => cases hq; exact h5
    | 6, hq => cases hq; exact h6
    | c + 7, hq => simp [vwCl] at hq
  · match k, hk with
    | 0, hk => cases hk; exact ⟨fun n z => ⟨(fun k h => by cases h), kI, a2, pI, a3⟩, a1⟩
    | 1, hk => cases hk; exact ⟨fun n z => ⟨(fun k h => by cases h), kO, o3, pO, o4⟩, kO, pO, o3, o4, o1, o5⟩
    | 2, hk => cases hk; exact ⟨fun n z => ⟨(fun k h => by cases h), kZ, z2, pZ, z3⟩, z1⟩
    | k + 3, hk => simp at hk
/-- out of one world with all cells: the two sides -/
theorem ws_sides {gX : GX} {cZ : ClassId} {adM : Nat → Nat} {N0 : Nat} (hD : va_D (AL N0) (cX gX a0X ++ cM (mkM gX cZ adM) b0M)) : LW gX cZ adM N0 := by
  have hDX : va_D (AL N0) (cX gX a0X) := ⟨fun i j p q hp hq h => hD.1 i j p q (by rw [List.getElem?_append_left (List.getElem?_eq_some_iff.mp hp).1]; exact hp) (by rw [List.getElem?_append_left (List.getElem?_eq_some_iff.mp hq).1]; exact hq) h, fun k q hq => hD.2 k q (by rw [List.getElem?_append_left (List.getElem?_eq_some_iff.mp hq).1]; exact hq)⟩
  have hr : ∀ (k : Nat) (q : Nat × va_E), (cM (mkM gX cZ adM) b0M)[k]? = some q → (cX gX a0X ++ cM (mkM gX cZ adM) b0M)[(cX gX a0X).length + k]? = some q := fun k q hq => by
    rw [List.getElem?_append_right (by omega), Nat.add_sub_cancel_left]
    exact hq
  have hDM : va_D (AL N0) (cM (mkM gX cZ adM) b0M) := ⟨fun i j p q hp hq h => by
    have h1 := hD.1 _ _ p q (hr i p hp) (hr j q hq) h
    omega, fun k q hq => hD.2 _ q (hr k q hq)⟩
  refine ⟨⟨(side_X gX hDX rfl).1, EC_X gX⟩, ⟨(side_M (mkM gX cZ adM) hDM rfl).1, EC_M _⟩, (side_X gX hDX rfl).2, (side_M (mkM gX cZ adM) hDM rfl).2, fun q h1 h2 => ?_⟩
  have m1 : q ∈ (cX gX a0X).map Prod.fst := h1
  have m2 : q ∈ (cM (mkM gX cZ adM) b0M).map Prod.fst := h2
  obtain ⟨p1, hp1, e1⟩ := List.mem_map.mp m1
  obtain ⟨p2, hp2, e2⟩ := List.mem_map.mp m2
  obtain ⟨i, hi⟩ := List.mem_iff_getElem?.mp hp1
  obtain ⟨j, hj⟩ := List.mem_iff_getElem?.mp hp2
  have hl := (List.getElem?_eq_some_iff.mp hi).1
  have h3 := hD.1 i ((cX gX a0X).length + j) p1 p2 (by rw [List.getElem?_append_left hl]; exact hi) (hr j p2 hj) (e1.trans e2.symm)
  omega
theorem defX5 : ∀ j, j < 13 → defaultValue (tyX5 j) = vp_V [.null, .null, .null, .null, .null, .null, .null, .null, .null, .null, .null, .null, .null] j := by decide +kernel
theorem defX6 : ∀ j, j < 26 → defaultValue (tyX6 j) = vp_V [.null, .null, .null, .int 0, .null, .int 0, .int 0, .null, .null, .null, .null, .int 0, .int 0, .int 0, .int 0, .int 0, .int 0, .null, .null, .int 0, .null, .int 0, .int 0, .null, .null, .int 0] j := by decide +kernel
set_option maxRecDepth 100000 in
set_option maxHeartbeats 8000000 in
theorem whole_open {p : Program} {e : Env} {s : State} {m : MethodId} {below : List Frame} {meth : Method} {c : Code} (l : Launch) {b L : Nat} {xs : Nat → Int32} (n : Nat) (hfin : L_law_18 n L xs 600 0 a0X b0M = some 1) (C0 : lw_At p s m meth c b L xs) : W p l e room_1 s m #[Value.ref b] below meth c s.heap [] 0 0 (lw_Z below #[Value.ref b] s) (entryFrame m ([Value.ref b] : List Value).toArray 4) := by
  obtain ⟨hx, hb, hr, hml, hown, hts, hX, hbl, hlocks, hgv⟩ := id C0
  obtain ⟨D, cI, cO, cZ, hK⟩ := ws_cls hts
  obtain ⟨adK, adV, hEnv⟩ := ws_env hgv hts
  have hA : ∀ q : Nat, s.heap.size ≤ q → AL s.heap.size q := fun _ h => h
  have hS : va_S (AL s.heap.size) s.heap s.heap [] := va_S.rf
  have hP : va_P D vwCl [] s.heap := fun k q h => by simp at h
  have hD : va_D (AL s.heap.size) [] := ⟨fun i j p q h => by simp at h, fun k q h => by simp at h⟩
  have hl := lv_entry ([.ref b]) (n := 4) (Nat.le_of_ble_eq_true rfl)
  rw [lg_entry_eq]
  generalize (lg_sl ([.ref b]) ++ List.replicate (4 - (lg_sl ([.ref b])).length) Slot.unset).toArray = ls at hl ⊢
  have hl : lv_has ls 4 [(0, .ref b)] := hl
  refine va_new (ci := 5) (fs := [.null, .null, .null, .null, .null, .null, .null, .null, .null, .null, .null, .null, .null]) (C := RX5) (T := TX5) (N := 13) hx hb hts inX5 tyX5 tyX5_ok hown (hts _ fs_law.1.1) (hts _ fs_in.2.2.1) (hts _ fs_law.1.2.2.1) hK hP hD hS hA rfl defX5 (Nat.le_of_ble_eq_true rfl) (Nat.le_of_ble_eq_true rfl) dL_law_0 (fun q0 H hP hD hS => ?_)
  have hP : va_P D vwCl [(q0, .inr (5, [.null, .null, .null, .null, .null, .null, .null, .null, .null, .null, .null, .null, .null]))] H := hP
  have hD : va_D (AL s.heap.size) [(q0, .inr (5, [.null, .null, .null, .null, .null, .null, .null, .null, .null, .null, .null, .null, .null]))] := hD
  refine lv_dup hx hb dL_law_3 rfl ?_
  have hFc := va_free (wc := [(q0, .inr (5, [.null, .null, .null, .null, .null, .null, .null, .null, .null, .null, .null, .null, .null]))]) hD hS hA [0] rfl
  have hN0 : (∀ w ∈ nsW, va_Nw w s) ∧ va_AO "MirrorHour$Image" s := ⟨(hEnv D cI cO adK).1, va_AO.of (hts _ fs_cl.2.2)⟩
  refine va_callv (va_runI (As := []) (rest := [.ref q0]) ⟨hx, hb, hml, hown, hts⟩ (k_X5_init l D cI cO cZ adK adV q0 H.size) (cwI 0 hts lwG_X5_init rfl rfl rfl (hts _ fs_law.1.2.2.1) (hts _ fs_law.2.1) (hts _ fs_law.2.2.2.1) rfl hdN_X5_init ⟨(Nat.le_of_ble_eq_true rfl), (Nat.le_of_ble_eq_true rfl)⟩) ⟨gPre_blind gE_n _ _ _, fun U hU hW => ⟨rfl, by rw [hU], by rw [hU]; exact hP, va_K.moved hW.alike hK, gE_n.2 s U hW hN0⟩⟩ rfl rfl hl.1 rfl (lv_room (Nat.le_of_ble_eq_true rfl)) dL_law_4 ⟨(Nat.le_of_ble_eq_true rfl), (Nat.le_of_ble_eq_true rfl)⟩) hS (fun q _ h => hFc q h) hFc (fun u t H1 locs ht hvm hw hB hz1 hk1 hS => ?_)
  obtain ⟨adX, had, rfl⟩ := hw
  obtain ⟨hP1, hD1⟩ := hB
  rw [ht] at hP1
  obtain ⟨hP, hD⟩ := va_join (wr := []) (w1 := cX (D, cI, cO, adX, adK, adV) a0X) hP hD [0] [] rfl rfl (by decide) (by decide) hk1 hFc hP1 hD1
  clear hk1 hP1 hD1 hFc hz1
  rename_i H0
  clear ht hvm t
  have hP : va_P D vwCl (cX (D, cI, cO, adX, adK, adV) a0X) H1 := hP
  have hD : va_D (AL s.heap.size) (cX (D, cI, cO, adX, adK, adV) a0X) := hD
  refine lv_astore_n (lv' := [(1, .ref q0), (0, .ref b)]) hx hb dL_law_7 rfl hl (by decide) rfl (fun ls hl => ?_)
  refine va_new (ci := 6) (fs := [.null, .null, .null, .int 0, .null, .int 0, .int 0, .null, .null, .null, .null, .int 0, .int 0, .int 0, .int 0, .int 0, .int 0, .null, .null, .int 0, .null, .int 0, .int 0, .null, .null, .int 0]) (C := RX6) (T := TX6) (N := 26) hx hb hts inX6 tyX6 tyX6_ok hown (hts _ fs_law.1.2.1) (hts _ fs_in.2.2.2) (hts _ fs_law.1.2.2.2) hK hP hD hS hA rfl defX6 (Nat.le_of_ble_eq_true rfl) (Nat.le_of_ble_eq_true rfl) dL_law_8 (fun m0 H2 hP hD hS => ?_)
  refine lv_dup hx hb dL_law_11 rfl ?_
  have hPc : va_P D vwCl [(m0, .inr (6, [.null, .null, .null, .int 0, .null, .int 0, .int 0, .null, .null, .null, .null, .int 0, .int 0, .int 0, .int 0, .int 0, .int 0, .null, .null, .int 0, .null, .int 0, .int 0, .null, .null, .int 0]))] H2 := hP.sub [44] rfl
  have hFc := va_free (wc := [(m0, .inr (6, [.null, .null, .null, .int 0, .null, .int 0, .int 0, .null, .null, .null, .null, .int 0, .int 0, .int 0, .int 0, .int 0, .int 0, .null, .null, .int 0, .null, .int 0, .int 0, .null, .null, .int 0]))]) hD hS hA [44] rfl
  refine va_callv (va_runI (As := []) (rest := [.ref m0]) ⟨hx, hb, hml, hown, hts⟩ (k_X6_init l D cI cO cZ m0 H2.size) (cwI 0 hts lwG_X6_init rfl rfl rfl (hts _ fs_law.1.2.2.2) (hts _ fs_law.2.2.1) (hts _ fs_law.2.2.2.2) rfl hdN_X6_init ⟨(Nat.le_of_ble_eq_true rfl), (Nat.le_of_ble_eq_true rfl)⟩) ⟨gPre_blind gE_t _ _ _, fun U hU hW => ⟨rfl, by rw [hU], by rw [hU]; exact hPc, va_K.moved hW.alike hK, trivial⟩⟩ rfl rfl hl.1 rfl (lv_room (Nat.le_of_ble_eq_true rfl)) dL_law_12 ⟨(Nat.le_of_ble_eq_true rfl), (Nat.le_of_ble_eq_true rfl)⟩) hS (fun q _ h => hFc q h) hFc (fun u t H3 locs ht hvm hw hB hz1 hk1 hS => ?_)
  obtain ⟨adM, hadM, rfl⟩ := hw
  obtain ⟨hP1, hD1⟩ := hB
  rw [ht] at hP1
  obtain ⟨hP, hD⟩ := va_join (wr := cX (D, cI, cO, adX, adK, adV) a0X) (w1 := cM (D, cI, cZ, adM) b0M) hP hD [44] [0, 1, 2, 3, 4, 5, 6, 7, 8, 9, 10, 11, 12, 13, 14, 15, 16, 17, 18, 19, 20, 21, 22, 23, 24, 25, 26, 27, 28, 29, 30, 31, 32, 33, 34, 35, 36, 37, 38, 39, 40, 41, 42, 43] rfl rfl (by decide) (by decide) hk1 hFc hP1 hD1
  refine lv_astore_n (lv' := [(2, .ref m0), (1, .ref q0), (0, .ref b)]) hx hb dL_law_15 rfl hl (by decide) rfl (fun ls hl => ?_)
  refine lv_iconst (v := 0) hx hb dL_law_16 (by decide) ?_
  refine lv_istore_n (lv' := [(3, .int 0), (2, .ref m0), (1, .ref q0), (0, .ref b)]) hx hb dL_law_17 rfl hl (by decide) rfl (fun ls hl => ?_)
  refine W.widen (k := 600000) (n := 7302250) (Nat.le_of_ble_eq_true rfl) (Nat.le_of_ble_eq_true rfl) ?_
  subst had
  subst hadM
  have hLW : LW (D, cI, cO, adX, adK, adV) cZ adM s.heap.size := ws_sides hD
  have C : CC (p, l, e, room_1, s, m, #[Value.ref b], below, meth, c, lw_Z below #[Value.ref b] s, 600000, 7302250) (sL (D, cI, cO, adX, adK, adV) cZ adM s.heap.size) cL_law 4 lw_tbl RL room_1 := ⟨hx, hb, hml, hts, hown, ⟨hlocks, Nat.le_refl _, Nat.le_refl _⟩, hK, xl_D hLW, EC_XA _ _ _ _ _, hEnv D cI cO adX, rfl⟩
  have h := law_run C hLW (s0 := b) (L := L) (xs := xs) ⟨hX, hbl, rfl⟩ (fun c1 lvs pc hdg H locs ls hP hS h9 => va_forget (fun q hq => hS.2.2 q hq) (lw_ret hx hb hr hlocks hdg)) 600 0 a0X b0M hfin
  exact h H3 locs ls hP hS (lv_sub hl [3, 2, 1, 0] rfl)
