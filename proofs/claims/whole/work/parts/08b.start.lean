/-! THE CLAIM OUT OF ONE WALK OF THE LAW'S BODY. Your part is whole_start (and what it stands on); all else here is the same for every law, but numbers. -/
def R_law : String := "MirrorHourLaw"
def lw_P (b : Addr) (xs : List Int32) (args : Array Value) (s : State) : Prop := args = #[.ref b] ∧ s.IntsAt b xs ∧ xs.length ≤ 2560 ∧ (Jvm.Cond.and given_1 narrow_1).before args s = true
def lw_Q (_ : Array Value) (s : State) (o : Outcome) (t : State) : Prop := o = .returned (some (.int 1)) ∧ Framed s o t [] 600000 7302250
def lw_Z (below : List Frame) (a : Array Value) (s : State) : State → Prop := fun t => ∃ o, t.status = .running ∧ Ended t below o ∧ lw_Q a s o t
/-- the law's own end, with 1 on the stack, nothing written that was there before, its room as the claim has it -/
theorem lw_ret {p : Program} {l : Launch} {e : Env} {s : State} {m : MethodId} {below : List Frame} {meth : Method} {c : Code} {b : Nat} (hx : p.tables.exec = Jvm.exec) (hb : c.code = code) (hr : meth.sig.returnType = ret) (hlocks : meth.locks = false) {pc : Nat} {H : Heap} {ls : Array Slot} (hdg : decode code pc = .ok (.ireturn, 1)) : W p l e room_1 s m #[Value.ref b] below meth c H [] 600000 7302250 (lw_Z below #[Value.ref b] s) (F0 m pc ls [.int 1]) := by
  intro T hT X
  obtain ⟨fs, hret, hrun, hended, hW, hframe⟩ := X.leave (v := some (.int 1)) (hlocks := hlocks) (fun h => by rw [hr] at h; cases h)
  have hmeth' : T.vm.method? m = some meth := X.method'
  refine ⟨T.setFrames fs, ?_, .returned (some (.int 1)), hrun, hended, rfl, ⟨_, rfl⟩, hW, hframe⟩
  jvm_step X.here [X.here.top, hx, hb, hdg, hmeth', hr, ret, narrow_b1]
  (try refine ⟨rfl, ?_⟩); (try refine ⟨rfl, ?_⟩)
  first | (intro acts; rw [hret _ acts rfl rfl rfl]) | rw [hret _ _ rfl rfl rfl]
  exact Steps.refl _
/-- what holds at the law's entry: the machine, the code, the tables' words (any of lw_tbl by 'hts w (by decide +kernel)'), the script of L ints xs at the cell b, what the Statement gives of the start (any of its parts by flat_of_before) -/
def lw_At (p : Program) (s : State) (m : MethodId) (meth : Method) (c : Code) (b L : Nat) (xs : Nat → Int32) : Prop :=
  p.tables.exec = Jvm.exec ∧ c.code = code ∧ meth.sig.returnType = ret ∧ c.maxLocals = 4 ∧ s.vm.findClass R_law = some m.cls ∧ (∀ w ∈ lw_tbl, w.before #[Value.ref b] s = true) ∧ va_X b L xs s s.heap ∧ b < s.heap.size ∧ meth.locks = false ∧ (Jvm.Cond.and given_1 narrow_1).before #[Value.ref b] s = true
/-- the texts and the two statics, as the start has them -/
theorem ws_env {args : Array Value} {s : State} (hgv : (Jvm.Cond.and given_1 narrow_1).before args s = true) (hts : ∀ w ∈ lw_tbl, w.before args s = true) : ∃ adK adV : Nat → Nat, ∀ (D : va_G) (cI cO : ClassId) (ad : Nat → Nat), EXA (D, cI, cO, ad, adK, adV) (AL s.heap.size) s s.heap := by
  have hs := flat_of_before _ hgv
  have hA : ∀ a : Nat, a < s.heap.size → ¬ AL s.heap.size a := fun a h => Nat.not_le.mpr h
  obtain ⟨adK, adV, hS, hE⟩ := vk_Sof (args := args) (s := s) (N := 21) (tm := tmS) (len := txN) (byt := txB) (A := AL s.heap.size) fs_len (fun i hi => hs _ (fs_ex i hi)) (fun i hi => hs _ (fs_co i hi)) (fun i hi => hs _ (fs_ar i hi)) (fun i hi => hs _ (fs_le i hi)) (fun i hi j hj => hs _ (fs_el i hi j hj)) (fun i j hi hj hij => (fs_ne i hi j hj hij).elim (fun h => Or.inl (hs _ h)) (fun h => Or.inr (hs _ h))) hA
  refine ⟨adK, adV, fun D cI cO ad => ⟨fun w hw => ?_, hS, fun i hi => vk_R.of (A := args) (hts _ (fs_ref i hi)) (hE i hi), ?_, ?_⟩⟩
  · have h := hts w (fs_nest w hw)
    rcases nsW_kind w hw with ⟨a, i, b, n, d, h2, rfl⟩ | ⟨a, i, x, h2, rfl⟩ <;> exact va_Nw.of rfl h
  · exact va_Zof (hts _ fs_cs.2.1) (hts _ fs_cs.2.2) (va_eqi (hs _ fs_cs.1)) hA
  · obtain ⟨v, hv, hvr⟩ := Cond.isRef_spec (hs _ fs_sf.1)
    cases v with
    | ref t => exact Or.inr ⟨t, va_Zof (hts _ fs_sf.2.1) (hts _ fs_sf.2.2) hv hA⟩
    | null => exact Or.inl (va_Zof (hts _ fs_sf.2.1) (hts _ fs_sf.2.2) hv hA)
    | _ => cases hvr
theorem ws_cls {args : Array Value} {s : State} (hts : ∀ w ∈ lw_tbl, w.before args s = true) : ∃ (D : va_G) (cI cO cZ : ClassId), va_K D vwCl [(cI, .int), (cO, .object "MirrorHour$Image"), (cZ, .boolean)] s := by
  obtain ⟨c0, i0, h0⟩ := u_known (C := RX0) (T := TX0) (N := 4) (n := 4) hts inX0 (hts _ fs_in.1.1)
  obtain ⟨c1, i1, h1⟩ := u_known (C := RX1) (T := TX1) (N := 2) (n := 2) hts inX1 (hts _ fs_in.1.2.1)
  obtain ⟨c2, i2, h2⟩ := u_known (C := RX2) (T := TX2) (N := 9) (n := 9) hts inX2 (hts _ fs_in.1.2.2.1)
  obtain ⟨c3, i3, h3⟩ := u_known (C := RX3) (T := TX3) (N := 4) (n := 4) hts inX3 (hts _ fs_in.1.2.2.2)
  obtain ⟨c4, i4, h4⟩ := u_known (C := RX4) (T := TX4) (N := 12) (n := 12) hts inX4 (hts _ fs_in.2.1)
  obtain ⟨c5, i5, h5⟩ := u_known (C := RX5) (T := TX5) (N := 13) (n := 13) hts inX5 (hts _ fs_in.2.2.1)
  obtain ⟨c6, i6, h6⟩ := u_known (C := RX6) (T := TX6) (N := 26) (n := 26) hts inX6 (hts _ fs_in.2.2.2)
  obtain ⟨cI, kI, pI, a1, a2, a3⟩ := Cond.arrayClass_spec (hts _ fs_cl.1)
  obtain ⟨cZ, kZ, pZ, z1, z2, z3⟩ := Cond.arrayClass_spec (hts _ fs_cl.2.1)
  obtain ⟨pO, cO, kO, o1, -, o3, o4, o5⟩ := Cond.arrayOver_spec (hts _ fs_cl.2.2)
  refine ⟨(fun k => match k with | 0 => c0 | 1 => c1 | 2 => c2 | 3 => c3 | 4 => c4 | 5 => c5 | _ => c6, fun k => match k with | 0 => i0 | 1 => i1 | 2 => i2 | 3 => i3 | 4 => i4 | 5 => i5 | _ => i6), cI, cO, cZ, fun c q hq => ?_, fun k q hk => ?_⟩
  · match c, hq with
    | 0, hq => cases hq; exact h0
    | 1, hq => cases hq; exact h1
    | 2, hq => cases hq; exact h2
    | 3, hq => cases hq; exact h3
    | 4, hq => cases hq; exact h4
    | 5, hq => cases hq; exact h5
    | 6, hq => cases hq; exact h6
    | c + 7, hq => simp [vwCl] at hq
  · match k, hk with
    | 0, hk => cases hk; exact ⟨fun n z => ⟨(fun k h => by cases h), kI, a2, pI, a3⟩, a1⟩
    | 1, hk => cases hk; exact ⟨fun n z => ⟨(fun k h => by cases h), kO, o3, pO, o4⟩, kO, pO, o3, o4, o1, o5⟩
    | 2, hk => cases hk; exact ⟨fun n z => ⟨(fun k h => by cases h), kZ, z2, pZ, z3⟩, z1⟩
    | k + 3, hk => simp at hk
/-- out of one world with all cells: the two sides -/
theorem ws_sides {gX : GX} {cZ : ClassId} {adM : Nat → Nat} {N0 : Nat} {a0 b0 : St} (hD : va_D (AL N0) (cX gX a0 ++ cM (mkM gX cZ adM) b0)) : LW gX cZ adM N0 := by
  have hDX : va_D (AL N0) (cX gX a0) := ⟨fun i j p q hp hq h => hD.1 i j p q (by rw [List.getElem?_append_left (List.getElem?_eq_some_iff.mp hp).1]; exact hp) (by rw [List.getElem?_append_left (List.getElem?_eq_some_iff.mp hq).1]; exact hq) h, fun k q hq => hD.2 k q (by rw [List.getElem?_append_left (List.getElem?_eq_some_iff.mp hq).1]; exact hq)⟩
  have hr : ∀ (k : Nat) (q : Nat × va_E), (cM (mkM gX cZ adM) b0)[k]? = some q → (cX gX a0 ++ cM (mkM gX cZ adM) b0)[(cX gX a0).length + k]? = some q := fun k q hq => by
    rw [List.getElem?_append_right (by omega), Nat.add_sub_cancel_left]
    exact hq
  have hDM : va_D (AL N0) (cM (mkM gX cZ adM) b0) := ⟨fun i j p q hp hq h => by
    have h1 := hD.1 _ _ p q (hr i p hp) (hr j q hq) h
    omega, fun k q hq => hD.2 _ q (hr k q hq)⟩
  refine ⟨⟨(side_X gX hDX rfl).1, EC_X gX⟩, ⟨(side_M (mkM gX cZ adM) hDM rfl).1, EC_M _⟩, (side_X gX hDX rfl).2, (side_M (mkM gX cZ adM) hDM rfl).2, fun q h1 h2 => ?_⟩
  have m1 : q ∈ (cX gX a0).map Prod.fst := h1
  have m2 : q ∈ (cM (mkM gX cZ adM) b0).map Prod.fst := h2
  obtain ⟨p1, hp1, e1⟩ := List.mem_map.mp m1
  obtain ⟨p2, hp2, e2⟩ := List.mem_map.mp m2
  obtain ⟨i, hi⟩ := List.mem_iff_getElem?.mp hp1
  obtain ⟨j, hj⟩ := List.mem_iff_getElem?.mp hp2
  have hl := (List.getElem?_eq_some_iff.mp hi).1
  have h3 := hD.1 i ((cX gX a0).length + j) p1 p2 (by rw [List.getElem?_append_left hl]; exact hi) (hr j p2 hj) (e1.trans e2.symm)
  omega
theorem defX5 : ∀ j, j < 13 → defaultValue (tyX5 j) = vp_V [.null, .null, .null, .null, .null, .null, .null, .null, .null, .null, .null, .null, .null] j := by decide +kernel
theorem gj_free {A0 : Nat → Prop} {w0 : va_W} {b : Nat} {e : va_E} {H0 H : Heap} {locs : List Loc} (hD : va_D A0 (w0 ++ [(b, e)])) (hS : va_S A0 H0 H locs) (hA : ∀ q, H0.size ≤ q → A0 q) : ∀ q, va_A [(b, e)] H.size q → A0 q := by
  intro q h
  rcases h with ⟨k, e2, h⟩ | h
  · have h1 : k < 1 := (List.getElem?_eq_some_iff.mp h).1
    rw [show k = 0 by omega] at h
    cases h
    exact hD.2 (w0.length + 0) (b, e) (by rw [List.getElem?_append_right (by omega), Nat.add_sub_cancel_left]; rfl)
  · exact hA q (Nat.le_trans hS.1 h)
theorem gj_last {A0 : Nat → Prop} {D : va_G} {cl : List vw_C} {w0 w1 : va_W} {b : Nat} {e : va_E} {H H1 : Heap} (hP : va_P D cl (w0 ++ [(b, e)]) H) (hD : va_D A0 (w0 ++ [(b, e)])) (hk : ∀ q : Nat, q < H.size → ¬ va_A [(b, e)] H.size q → H1[q]? = H[q]?) (hF : ∀ q, va_A [(b, e)] H.size q → A0 q) (hP1 : va_P D cl w1 H1) (hD1 : va_D (va_A [(b, e)] H.size) w1) : va_P D cl (w0 ++ w1) H1 ∧ va_D A0 (w0 ++ w1) := by
  have left : ∀ (k : Nat) (q : Nat × va_E), w0[k]? = some q → (w0 ++ [(b, e)])[k]? = some q := fun k q hq => by
    rw [List.getElem?_append_left (List.getElem?_eq_some_iff.mp hq).1]
    exact hq
  have apart : ∀ (k : Nat) (q : Nat × va_E), w0[k]? = some q → q.1 < H.size ∧ ¬ va_A [(b, e)] H.size q.1 := by
    intro k q hq
    have hlt := (hP k q (left k q hq)).lt
    refine ⟨hlt, fun h => ?_⟩
    rcases h with ⟨k2, e2, h⟩ | h
    · have h1 : k2 < 1 := (List.getElem?_eq_some_iff.mp h).1
      rw [show k2 = 0 by omega] at h
      have h2 : (b, e) = (q.1, e2) := Option.some.inj h
      have h3 : q.1 = b := (congrArg Prod.fst h2).symm
      have h4 := hD.1 k (w0.length + 0) q (b, e) (left k q hq) (by rw [List.getElem?_append_right (by omega), Nat.add_sub_cancel_left]; rfl) h3
      have h5 := (List.getElem?_eq_some_iff.mp hq).1
      omega
    · omega
  refine ⟨va_P.app (fun k q hq => (hP k q (left k q hq)).kept (hk q.1 (apart k q hq).1 (apart k q hq).2)) hP1, va_D.app ⟨fun i j p q hp hq h => hD.1 i j p q (left i p hp) (left j q hq) h, fun k q hq => hD.2 k q (left k q hq)⟩ (hD1.weaken (fun k q _ h => hF q.1 h)) (fun i j x y hx hy hxy => (apart i x hx).2 (by rw [hxy]; exact hD1.2 j y hy))⟩
/-- both objects stand: the loop runs -/
theorem whole_C {p : Program} {e : Env} {s : State} {m : MethodId} {below : List Frame} {meth : Method} {c : Code} (l : Launch) {b L : Nat} {xs : Nat → Int32} (n : Nat) {gX : GX} {cZ : ClassId} {adM : Nat → Nat} {a0 b0 : St} {H : Heap} {locs : List Loc} {ls : Array Slot} {k0 k1 : Nat} (hk0 : k0 ≤ 600000) (hk1 : k1 ≤ 7302250) (hfin : L_law_18 n L xs 600 0 a0 b0 = some 1) (C0 : lw_At p s m meth c b L xs) (hK : va_K gX.1 vwCl [(gX.2.1, .int), (gX.2.2.1, .object "MirrorHour$Image"), (cZ, .boolean)] s) (hE : EXA gX (AL s.heap.size) s s.heap) (hP : va_P gX.1 vwCl (cX gX a0 ++ cM (mkM gX cZ adM) b0) H) (hD : va_D (AL s.heap.size) (cX gX a0 ++ cM (mkM gX cZ adM) b0)) (hS : va_S (AL s.heap.size) s.heap H locs) (hl : lv_has ls 4 [(2, .ref (aM (mkM gX cZ adM) 0)), (1, .ref (aX gX 0)), (0, .ref b)]) : W p l e room_1 s m #[Value.ref b] below meth c H locs k0 k1 (lw_Z below #[Value.ref b] s) (F0 m 16 ls []) := by
  obtain ⟨hx, hb, hr, hml, hown, hts, hX, hbl, hlocks, hgv⟩ := id C0
  refine lv_iconst (v := 0) hx hb dL_law_16 (by decide) ?_
  refine lv_istore_n (lv' := [(3, .int 0), (2, .ref (aM (mkM gX cZ adM) 0)), (1, .ref (aX gX 0)), (0, .ref b)]) hx hb dL_law_17 rfl hl (by decide) rfl (fun ls hl => ?_)
  refine W.widen (k := 600000) (n := 7302250) hk0 hk1 ?_
  have hLW : LW gX cZ adM s.heap.size := ws_sides hD
  have C : CC (p, l, e, room_1, s, m, #[Value.ref b], below, meth, c, lw_Z below #[Value.ref b] s, 600000, 7302250) (sL gX cZ adM s.heap.size) cL_law 4 lw_tbl RL room_1 := ⟨hx, hb, hml, hts, hown, ⟨hlocks, Nat.le_refl _, Nat.le_refl _⟩, hK, xl_D hLW, EC_XA _ _ _ _ _, hE, rfl⟩
  have h := law_run C hLW (s0 := b) (L := L) (xs := xs) ⟨hX, hbl, rfl⟩ (fun c1 lvs pc hdg H locs ls hP hS h9 => va_forget (fun q hq => hS.2.2 q hq) (lw_ret hx hb hr hlocks hdg)) 600 0 a0 b0 hfin
  have hP2 : va_P gX.1 vwCl (cL gX (mkM gX cZ adM) (comb a0 b0)) H := by rw [cL_comb]; exact hP
  exact h H locs ls hP2 hS (lv_sub hl [3, 2, 1, 0] rfl)
