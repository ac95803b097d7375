/-! ===== the law's loop: two worlds side by side ===== -/
def hiS (c : St) : St := fun i => c (100 + i)
def comb (a b : St) : St := fun i => bif Nat.blt i 100 then a i else b (i - 100)
abbrev mkM (gX : GX) (cZ : ClassId) (adM : Nat → Nat) : GM := (gX.1, gX.2.1, cZ, adM)
def cL (gX : GX) (gM : GM) (c : St) : va_W := cX gX c ++ cM gM (hiS c)
theorem cL_comb (gX : GX) (gM : GM) (a b : St) : cL gX gM (comb a b) = cX gX a ++ cM gM b := rfl
def AL (N0 : Nat) : Nat → Prop := fun q => N0 ≤ q
def sL (gX : GX) (cZ : ClassId) (adM : Nat → Nat) (N0 : Nat) : SID := (gX.1, [(gX.2.1, .int), (gX.2.2.1, .object "MirrorHour$Image"), (cZ, .boolean)], AL N0, cL gX (mkM gX cZ adM), EXA gX (AL N0))
/-- the two worlds are made behind the law's start, and apart -/
def LW (gX : GX) (cZ : ClassId) (adM : Nat → Nat) (N0 : Nat) : Prop := xSide (sX gX) ∧ xSide (sM (mkM gX cZ adM)) ∧ (∀ q, AX gX q → N0 ≤ q) ∧ (∀ q, AM (mkM gX cZ adM) q → N0 ≤ q) ∧ ∀ q, AX gX q → ¬ AM (mkM gX cZ adM) q
/-- the script -/
def LScr (K : CTX) (b L : Nat) (xs : Nat → Int32) (N0 : Nat) : Prop := match K with
  | (p, l, e, R, s, m, args, below, meth, c, Q, kc, ks) => va_X b L xs s s.heap ∧ b < s.heap.size ∧ N0 = s.heap.size
section XL
variable {K : CTX} {gX : GX} {cZ : ClassId} {adM : Nat → Nat} {N0 : Nat} {cc : ByteArray} {nL : Nat} {Ts : List Cond} {own : String} {R0 : Room} {a b a1 b1 : St} {lvs : List (Nat × Value)} {pc : Nat} {st : List Value}
theorem xl_D (hL : LW gX cZ adM N0) : ∀ c, va_D (sL gX cZ adM N0).2.2.1 ((sL gX cZ adM N0).2.2.2.1 c) := by
  obtain ⟨h1, h2, h3, h4, h5⟩ := hL
  intro c
  refine va_D.app ((h1.1 c).weaken (fun _ q _ h => h3 q.1 h)) ((h2.1 (hiS c)).weaken (fun _ q _ h => h4 q.1 h)) (fun i j p q hp hq e => ?_)
  exact h5 p.1 ((h1.1 c).2 i p hp) (by rw [e]; exact (h2.1 (hiS c)).2 j q hq)
theorem xl_sld {S : SID} (C : CC K S cc nL Ts own R0) {s0 L : Nat} {xs : Nat → Int32} (hS0 : S.2.2.1 = AL N0) (hLS : LScr K s0 L xs N0) {α : Type} {B : Option α} {w : α} {c : St} {i : Int32} (hf : (if i < 0 ∨ L ≤ i.toNatClampNeg then none else B) = some w) (hdg : decode cc pc = .ok (.iaload, 1)) (kk : B = some w → V K S nL c lvs (pc + 1) (.int (xs i.toNatClampNeg) :: st)) : V K S nL c lvs pc (.int i :: .ref s0 :: st) := by
  obtain ⟨p, l, e, R, s, m, args, below, meth, c, Q, kc, ks⟩ := K
  obtain ⟨hx, hb, hml, hts, hown, hlo, hK, hD, hE, hE0, hR⟩ := C
  obtain ⟨hX, hbl, hN⟩ := hLS
  intro H locs ls hP hS h9
  by_cases h : i < 0 ∨ L ≤ i.toNatClampNeg
  · cases dt_pos h hf
  · exact va_sld hx hb hX hbl (by rw [hS0, hN]; exact Nat.not_le.mpr hbl) hS h hdg (kk (dt_neg h hf) H locs ls hP hS h9)
theorem xl_slen {S : SID} (C : CC K S cc nL Ts own R0) {s0 L : Nat} {xs : Nat → Int32} (hS0 : S.2.2.1 = AL N0) (hLS : LScr K s0 L xs N0) {c : St} (hdg : decode cc pc = .ok (.arraylength, 1)) (kk : V K S nL c lvs (pc + 1) (.int (nI L) :: st)) : V K S nL c lvs pc (.ref s0 :: st) := by
  obtain ⟨p, l, e, R, s, m, args, below, meth, c, Q, kc, ks⟩ := K
  obtain ⟨hx, hb, hml, hts, hown, hlo, hK, hD, hE, hE0, hR⟩ := C
  obtain ⟨hX, hbl, hN⟩ := hLS
  exact fun H locs ls hP hS h9 => va_slen hx hb hX hbl (by rw [hS0, hN]; exact Nat.not_le.mpr hbl) hS hdg (kk H locs ls hP hS h9)
theorem xv_lshl {S : SID} {c : St} (C : CC K S cc nL Ts own R0) {x : Int64} {y : Int32} (hdg : decode cc pc = .ok (.lshl, 1)) (kk : V K S nL c lvs (pc + 1) (.long (x <<< (y.toInt64 &&& 63)) :: st)) : V K S nL c lvs pc (.int y :: .long x :: st) := by
  obtain ⟨p, l, e, R, s, m, args, below, meth, c, Q, kc, ks⟩ := K
  obtain ⟨hx, hb, -⟩ := C
  exact fun H locs ls hP hS h9 => lv_lshl hx hb hdg rfl (kk H locs ls hP hS h9)
theorem xv_lor {S : SID} {c : St} (C : CC K S cc nL Ts own R0) {x y : Int64} (hdg : decode cc pc = .ok (.lor, 1)) (kk : V K S nL c lvs (pc + 1) (.long (x ||| y) :: st)) : V K S nL c lvs pc (.long y :: .long x :: st) := by
  obtain ⟨p, l, e, R, s, m, args, below, meth, c, Q, kc, ks⟩ := K
  obtain ⟨hx, hb, -⟩ := C
  exact fun H locs ls hP hS h9 => lv_lor hx hb hdg (kk H locs ls hP hS h9)
variable {y : MethodName} {bytes : ByteArray} {maxL n index : Nat} {ret : Option FieldType} {ws ws' : List Cond} {rm : Room} {stk : List Value} {As : List Value}
theorem xl_left {w1 w2 : va_W} {D : va_G} {cl : List vw_C} {H : Heap} (h : va_P D cl (w1 ++ w2) H) : va_P D cl w1 H := fun k q hk => h k q (by rw [List.getElem?_append_left (List.getElem?_eq_some_iff.mp hk).1]; exact hk)
theorem xl_right {w1 w2 : va_W} {D : va_G} {cl : List vw_C} {H : Heap} (h : va_P D cl (w1 ++ w2) H) : va_P D cl w2 H := fun k q hk => h (w1.length + k) q (by rw [List.getElem?_append_right (by omega), Nat.add_sub_cancel_left]; exact hk)

theorem xl_Xi (C : CC K (sL gX cZ adM N0) cc nL Ts own R0) (hL : LW gX cZ adM N0) {C1 : String} {r : Int32} (hM : ∀ l : Launch, Met l y ws rm (xPre (sX gX) (.ref (aX gX 0) :: As) a) (xPostI (sX gX) r a1) 0 0 (sX gX).2.2.1) (hG : GoodIn Ts (wsV own index C1 y ws)) (hw : ws = Cond.code y bytes maxL ret :: ws') (hrm : rm.cells = 0 ∧ rm.slots = 0)
    (hd : y.cls = C1 ∧ y.cls ≠ "java/lang/invoke/MethodHandle" ∧ y.cls ≠ "java/lang/invoke/VarHandle" ∧ (parseMethodDescriptor y.desc).map (fun d => d.parameters.length) = some n) (hR : rm.frames + 1 ≤ R0.frames ∧ 8 + (maxL + 11) + rm.locals ≤ R0.locals) (hC1 : C1 = RX5) (hn : As.length = n) (hst : stk = As.reverse ++ .ref (aX gX 0) :: st) (hcat : (st.map fun v => v.category).sum ≤ 8) (hdg : decode cc pc = .ok (.invokevirtual index, 3))
    (kk : V K (sL gX cZ adM N0) nL (comb a1 b) lvs (pc + 3) (.int r :: st)) : V K (sL gX cZ adM N0) nL (comb a b) lvs pc stk := by
  obtain ⟨p, l, e, R, s, m, args, below, meth, c, Q, kc, ks⟩ := K
  obtain ⟨hx, hb, hml, hts, hown, hlo, hK, hD, hE, hE0, hRR⟩ := C
  obtain ⟨hLX, hLM, hAX, hAM, hdis⟩ := hL
  intro H locs ls hP hS h9
  subst hRR
  subst hC1
  have hPX : va_P gX.1 vwCl (cX gX a) H := xl_left (w1 := cX gX a) (w2 := cM (mkM gX cZ adM) b) hP
  have hPM : va_P gX.1 vwCl (cM (mkM gX cZ adM) b) H := xl_right (w1 := cX gX a) (w2 := cM (mkM gX cZ adM) b) hP
  have hK2 : va_K gX.1 vwCl [(gX.2.1, .int), (gX.2.2.1, .object "MirrorHour$Image")] s := hK.sub [0, 1] rfl
  have hEn : ∀ U : State, U.heap = H → s.WarmedH U.vm → EX gX U U.heap := fun U hU hW => by
    subst hU
    exact EXA_narrow hAX (hE.2.2 U _ _ hS.2.1 (hE.2.1 s U _ hW hE0))
  refine va_calli (va_runV ⟨hx, hb, hml, hown, hts⟩ (hM l) (cwV n hts hG hw hrm.1 hrm.2 hd hR) ⟨xPre_blind hLX.2 _ _, va_recv hK2 hPX (ci := 5) (q0 := 0) rfl (wX0 gX a), fun U hU hW => ⟨rfl, by subst hU; exact hPX, va_K.moved hW.alike hK2, hEn U hU hW⟩⟩ rfl hn h9.1 hst (lv_room hcat) hdg ⟨hlo.2.1, hlo.2.2⟩) hS (fun q _ h => hAX q h) (fun q h => hAX q h) (fun r2 u t H1 locs1 ht _ hw hB hz hk hS1 => ?_)
  obtain ⟨rfl, rfl⟩ := hw
  rw [ht] at hB
  exact kk H1 locs1 ls (va_P.app hB (hPM.kept (fun k x hx => hk x.1 ((hPM k x hx).lt) (fun h => hdis x.1 h ((hLM.1 b).2 k x hx))))) hS1 h9

theorem xl_Xl (C : CC K (sL gX cZ adM N0) cc nL Ts own R0) (hL : LW gX cZ adM N0) {C1 : String} {r : Int64} (hM : ∀ l : Launch, Met l y ws rm (xPre (sX gX) (.ref (aX gX 0) :: As) a) (xPostL (sX gX) r a1) 0 0 (sX gX).2.2.1) (hG : GoodIn Ts (wsV own index C1 y ws)) (hw : ws = Cond.code y bytes maxL ret :: ws') (hrm : rm.cells = 0 ∧ rm.slots = 0)
    (hd : y.cls = C1 ∧ y.cls ≠ "java/lang/invoke/MethodHandle" ∧ y.cls ≠ "java/lang/invoke/VarHandle" ∧ (parseMethodDescriptor y.desc).map (fun d => d.parameters.length) = some n) (hR : rm.frames + 1 ≤ R0.frames ∧ 8 + (maxL + 11) + rm.locals ≤ R0.locals) (hC1 : C1 = RX5) (hn : As.length = n) (hst : stk = As.reverse ++ .ref (aX gX 0) :: st) (hcat : (st.map fun v => v.category).sum ≤ 8) (hdg : decode cc pc = .ok (.invokevirtual index, 3))
    (kk : V K (sL gX cZ adM N0) nL (comb a1 b) lvs (pc + 3) (.long r :: st)) : V K (sL gX cZ adM N0) nL (comb a b) lvs pc stk := by
  obtain ⟨p, l, e, R, s, m, args, below, meth, c, Q, kc, ks⟩ := K
  obtain ⟨hx, hb, hml, hts, hown, hlo, hK, hD, hE, hE0, hRR⟩ := C
  obtain ⟨hLX, hLM, hAX, hAM, hdis⟩ := hL
  intro H locs ls hP hS h9
  subst hRR
  subst hC1
  have hPX : va_P gX.1 vwCl (cX gX a) H := xl_left (w1 := cX gX a) (w2 := cM (mkM gX cZ adM) b) hP
  have hPM : va_P gX.1 vwCl (cM (mkM gX cZ adM) b) H := xl_right (w1 := cX gX a) (w2 := cM (mkM gX cZ adM) b) hP
  have hK2 : va_K gX.1 vwCl [(gX.2.1, .int), (gX.2.2.1, .object "MirrorHour$Image")] s := hK.sub [0, 1] rfl
  have hEn : ∀ U : State, U.heap = H → s.WarmedH U.vm → EX gX U U.heap := fun U hU hW => by
    subst hU
    exact EXA_narrow hAX (hE.2.2 U _ _ hS.2.1 (hE.2.1 s U _ hW hE0))
  refine va_calll (va_runV ⟨hx, hb, hml, hown, hts⟩ (hM l) (cwV n hts hG hw hrm.1 hrm.2 hd hR) ⟨xPre_blind hLX.2 _ _, va_recv hK2 hPX (ci := 5) (q0 := 0) rfl (wX0 gX a), fun U hU hW => ⟨rfl, by subst hU; exact hPX, va_K.moved hW.alike hK2, hEn U hU hW⟩⟩ rfl hn h9.1 hst (lv_room hcat) hdg ⟨hlo.2.1, hlo.2.2⟩) hS (fun q _ h => hAX q h) (fun q h => hAX q h) (fun r2 u t H1 locs1 ht _ hw hB hz hk hS1 => ?_)
  obtain ⟨rfl, rfl⟩ := hw
  rw [ht] at hB
  exact kk H1 locs1 ls (va_P.app hB (hPM.kept (fun k x hx => hk x.1 ((hPM k x hx).lt) (fun h => hdis x.1 h ((hLM.1 b).2 k x hx))))) hS1 h9

theorem xl_Mi (C : CC K (sL gX cZ adM N0) cc nL Ts own R0) (hL : LW gX cZ adM N0) {C1 : String} {r : Int32} (hM : ∀ l : Launch, Met l y ws rm (xPre (sM (mkM gX cZ adM)) (.ref (aM (mkM gX cZ adM) 0) :: As) b) (xPostI (sM (mkM gX cZ adM)) r b1) 0 0 (sM (mkM gX cZ adM)).2.2.1) (hG : GoodIn Ts (wsV own index C1 y ws)) (hw : ws = Cond.code y bytes maxL ret :: ws') (hrm : rm.cells = 0 ∧ rm.slots = 0)
    (hd : y.cls = C1 ∧ y.cls ≠ "java/lang/invoke/MethodHandle" ∧ y.cls ≠ "java/lang/invoke/VarHandle" ∧ (parseMethodDescriptor y.desc).map (fun d => d.parameters.length) = some n) (hR : rm.frames + 1 ≤ R0.frames ∧ 8 + (maxL + 11) + rm.locals ≤ R0.locals) (hC1 : C1 = RX6) (hn : As.length = n) (hst : stk = As.reverse ++ .ref (aM (mkM gX cZ adM) 0) :: st) (hcat : (st.map fun v => v.category).sum ≤ 8) (hdg : decode cc pc = .ok (.invokevirtual index, 3))
    (kk : V K (sL gX cZ adM N0) nL (comb a b1) lvs (pc + 3) (.int r :: st)) : V K (sL gX cZ adM N0) nL (comb a b) lvs pc stk := by
  obtain ⟨p, l, e, R, s, m, args, below, meth, c, Q, kc, ks⟩ := K
  obtain ⟨hx, hb, hml, hts, hown, hlo, hK, hD, hE, hE0, hRR⟩ := C
  obtain ⟨hLX, hLM, hAX, hAM, hdis⟩ := hL
  intro H locs ls hP hS h9
  subst hRR
  subst hC1
  have hPX : va_P gX.1 vwCl (cX gX a) H := xl_left (w1 := cX gX a) (w2 := cM (mkM gX cZ adM) b) hP
  have hPM : va_P gX.1 vwCl (cM (mkM gX cZ adM) b) H := xl_right (w1 := cX gX a) (w2 := cM (mkM gX cZ adM) b) hP
  have hK2 : va_K gX.1 vwCl [(gX.2.1, .int), (cZ, .boolean)] s := hK.sub [0, 2] rfl
  refine va_calli (va_runV ⟨hx, hb, hml, hown, hts⟩ (hM l) (cwV n hts hG hw hrm.1 hrm.2 hd hR) ⟨xPre_blind hLM.2 _ _, va_recv hK2 hPM (ci := 6) (q0 := 0) rfl (wM0 (mkM gX cZ adM) b), fun U hU hW => ⟨rfl, by subst hU; exact hPM, va_K.moved hW.alike hK2, trivial⟩⟩ rfl hn h9.1 hst (lv_room hcat) hdg ⟨hlo.2.1, hlo.2.2⟩) hS (fun q _ h => hAM q h) (fun q h => hAM q h) (fun r2 u t H1 locs1 ht _ hw hB hz hk hS1 => ?_)
  obtain ⟨rfl, rfl⟩ := hw
  rw [ht] at hB
  exact kk H1 locs1 ls (va_P.app (hPX.kept (fun k x hx => hk x.1 ((hPX k x hx).lt) (fun h => hdis x.1 ((hLX.1 a).2 k x hx) h))) hB) hS1 h9

theorem xl_Ml (C : CC K (sL gX cZ adM N0) cc nL Ts own R0) (hL : LW gX cZ adM N0) {C1 : String} {r : Int64} (hM : ∀ l : Launch, Met l y ws rm (xPre (sM (mkM gX cZ adM)) (.ref (aM (mkM gX cZ adM) 0) :: As) b) (xPostL (sM (mkM gX cZ adM)) r b1) 0 0 (sM (mkM gX cZ adM)).2.2.1) (hG : GoodIn Ts (wsV own index C1 y ws)) (hw : ws = Cond.code y bytes maxL ret :: ws') (hrm : rm.cells = 0 ∧ rm.slots = 0)
    (hd : y.cls = C1 ∧ y.cls ≠ "java/lang/invoke/MethodHandle" ∧ y.cls ≠ "java/lang/invoke/VarHandle" ∧ (parseMethodDescriptor y.desc).map (fun d => d.parameters.length) = some n) (hR : rm.frames + 1 ≤ R0.frames ∧ 8 + (maxL + 11) + rm.locals ≤ R0.locals) (hC1 : C1 = RX6) (hn : As.length = n) (hst : stk = As.reverse ++ .ref (aM (mkM gX cZ adM) 0) :: st) (hcat : (st.map fun v => v.category).sum ≤ 8) (hdg : decode cc pc = .ok (.invokevirtual index, 3))
    (kk : V K (sL gX cZ adM N0) nL (comb a b1) lvs (pc + 3) (.long r :: st)) : V K (sL gX cZ adM N0) nL (comb a b) lvs pc stk := by
  obtain ⟨p, l, e, R, s, m, args, below, meth, c, Q, kc, ks⟩ := K
  obtain ⟨hx, hb, hml, hts, hown, hlo, hK, hD, hE, hE0, hRR⟩ := C
  obtain ⟨hLX, hLM, hAX, hAM, hdis⟩ := hL
  intro H locs ls hP hS h9
  subst hRR
  subst hC1
  have hPX : va_P gX.1 vwCl (cX gX a) H := xl_left (w1 := cX gX a) (w2 := cM (mkM gX cZ adM) b) hP
  have hPM : va_P gX.1 vwCl (cM (mkM gX cZ adM) b) H := xl_right (w1 := cX gX a) (w2 := cM (mkM gX cZ adM) b) hP
  have hK2 : va_K gX.1 vwCl [(gX.2.1, .int), (cZ, .boolean)] s := hK.sub [0, 2] rfl
  refine va_calll (va_runV ⟨hx, hb, hml, hown, hts⟩ (hM l) (cwV n hts hG hw hrm.1 hrm.2 hd hR) ⟨xPre_blind hLM.2 _ _, va_recv hK2 hPM (ci := 6) (q0 := 0) rfl (wM0 (mkM gX cZ adM) b), fun U hU hW => ⟨rfl, by subst hU; exact hPM, va_K.moved hW.alike hK2, trivial⟩⟩ rfl hn h9.1 hst (lv_room hcat) hdg ⟨hlo.2.1, hlo.2.2⟩) hS (fun q _ h => hAM q h) (fun q h => hAM q h) (fun r2 u t H1 locs1 ht _ hw hB hz hk hS1 => ?_)
  obtain ⟨rfl, rfl⟩ := hw
  rw [ht] at hB
  exact kk H1 locs1 ls (va_P.app (hPX.kept (fun k x hx => hk x.1 ((hPX k x hx).lt) (fun h => hdis x.1 ((hLX.1 a).2 k x hx) h))) hB) hS1 h9

end XL
theorem lwm_c2 : Cond.constantLong RL 13 4294967295 ∈ lw_tbl := List.mem_of_getElem? (i := 1102) (by decide +kernel)
theorem law_inc {K : CTX} {gX : GX} {cZ : ClassId} {adM : Nat → Nat} {N0 s0 : Nat} (C : CC K (sL gX cZ adM N0) cL_law 4 lw_tbl RL room_1) {k : Int32 → St → St → Option Int32} (hk : ∀ (x : Int32) (a b : St), k x a b = some 1 → V K (sL gX cZ adM N0) 4 (comb a b) [(0, .ref s0), (1, .ref (aX gX 0)), (2, .ref (aM (mkM gX cZ adM) 0)), (3, .int x)] 18 []) (x3 : Int32) (a b : St) (hf : k (x3 + 5) a b = some 1) : V K (sL gX cZ adM N0) 4 (comb a b) [(0, .ref s0), (1, .ref (aX gX 0)), (2, .ref (aM (mkM gX cZ adM) 0)), (3, .int x3)] 995 [] := by
  refine xv_iinc C [(3, .int (x3 + 5)), (0, .ref s0), (1, .ref (aX gX 0)), (2, .ref (aM (mkM gX cZ adM) 0))] dL_law_995 3 rfl rfl (by decide) rfl ?_
  refine xv_goto C 18 dL_law_998 (by decide) ?_
  refine xv_eq [1, 2, 3, 0] rfl ?_
  exact hk _ _ _ hf
def K_law_0 (n L : Nat) (xs : Nat → Int32) (k : Int32 → St → St → Option Int32) (x3 : Int32) (a b : St) : Option Int32 :=
  if x3 + 1 < 0 ∨ L ≤ (x3 + 1).toNatClampNeg then none else
  if x3 + 2 < 0 ∨ L ≤ (x3 + 2).toNatClampNeg then none else
  if x3 + 3 < 0 ∨ L ≤ (x3 + 3).toNatClampNeg then none else
  (f_X5_write n (((xs (x3 + 1).toNatClampNeg).toInt64 <<< ((32 : Int32).toInt64 &&& 63)) ||| ((xs (x3 + 2).toNatClampNeg).toInt64 &&& 4294967295)) (xs (x3 + 3).toNatClampNeg) a).bind fun q1 =>
  if x3 + 1 < 0 ∨ L ≤ (x3 + 1).toNatClampNeg then none else
  if x3 + 2 < 0 ∨ L ≤ (x3 + 2).toNatClampNeg then none else
  if x3 + 3 < 0 ∨ L ≤ (x3 + 3).toNatClampNeg then none else
  (f_X6_write n (((xs (x3 + 1).toNatClampNeg).toInt64 <<< ((32 : Int32).toInt64 &&& 63)) ||| ((xs (x3 + 2).toNatClampNeg).toInt64 &&& 4294967295)) (xs (x3 + 3).toNatClampNeg) b).bind fun q2 =>
  if q1.1 = q2.1 then k (x3 + 5) q1.2 q2.2
  else some 0
set_option maxRecDepth 100000 in
set_option maxHeartbeats 4000000 in
theorem k_law_0 {K : CTX} {gX : GX} {cZ : ClassId} {adM : Nat → Nat} {N0 s0 n L : Nat} {xs : Nat → Int32} (C : CC K (sL gX cZ adM N0) cL_law 4 lw_tbl RL room_1) (hL : LW gX cZ adM N0) (hLS : LScr K s0 L xs N0) {k : Int32 → St → St → Option Int32} (hk : ∀ (x : Int32) (a b : St), k x a b = some 1 → V K (sL gX cZ adM N0) 4 (comb a b) [(0, .ref s0), (1, .ref (aX gX 0)), (2, .ref (aM (mkM gX cZ adM) 0)), (3, .int x)] 18 []) (x3 : Int32) (a b : St) (hf : K_law_0 n L xs k x3 a b = some 1) : V K (sL gX cZ adM N0) 4 (comb a b) [(0, .ref s0), (1, .ref (aX gX 0)), (2, .ref (aM (mkM gX cZ adM) 0)), (3, .int x3)] 160 [] := by
  rw [K_law_0] at hf
  refine xv_aload_n C dL_law_160 rfl 1 rfl ?_
  refine xv_aload_n C dL_law_161 rfl 0 rfl ?_
  refine xv_iload_n C dL_law_162 rfl 3 rfl ?_
  refine xv_iconst C 1 dL_law_163 (by decide) ?_
  refine xv_iadd C dL_law_164 ?_
  refine xl_sld C rfl hLS hf dL_law_165 (fun hf => ?_)
  refine xv_i2l C dL_law_166 ?_
  refine xv_bipush C 32 dL_law_167 (by decide) ?_
  refine xv_lshl C dL_law_169 ?_
  refine xv_aload_n C dL_law_170 rfl 0 rfl ?_
  refine xv_iload_n C dL_law_171 rfl 3 rfl ?_
  refine xv_iconst C 2 dL_law_172 (by decide) ?_
  refine xv_iadd C dL_law_173 ?_
  refine xl_sld C rfl hLS hf dL_law_174 (fun hf => ?_)
  refine xv_i2l C dL_law_175 ?_
  refine xv_ldc2 C 4294967295 dL_law_176 lwm_c2 ?_
  refine xv_land C dL_law_179 ?_
  refine xv_lor C dL_law_180 ?_
  refine xv_aload_n C dL_law_181 rfl 0 rfl ?_
  refine xv_iload_n C dL_law_182 rfl 3 rfl ?_
  refine xv_iconst C 3 dL_law_183 (by decide) ?_
  refine xv_iadd C dL_law_184 ?_
  refine xl_sld C rfl hLS hf dL_law_185 (fun hf => ?_)
  obtain ⟨q1, hg, hf⟩ := dt_bind hf
  refine xl_Xi C hL (As := [.long (((xs (x3 + 1).toNatClampNeg).toInt64 <<< ((32 : Int32).toInt64 &&& 63)) ||| ((xs (x3 + 2).toNatClampNeg).toInt64 &&& 4294967295)), .int (xs (x3 + 3).toNatClampNeg)]) (fun l => c_X5_write gX hL.1 l n (((xs (x3 + 1).toNatClampNeg).toInt64 <<< ((32 : Int32).toInt64 &&& 63)) ||| ((xs (x3 + 2).toNatClampNeg).toInt64 &&& 4294967295)) (xs (x3 + 3).toNatClampNeg) a q1 hg) lwG_X5_write rfl ⟨rfl, rfl⟩ hdV_X5_write ⟨Nat.le_of_ble_eq_true rfl, Nat.le_of_ble_eq_true rfl⟩ rfl rfl rfl (Nat.le_of_ble_eq_true rfl) dL_law_186 ?_
  refine xv_aload_n C dL_law_189 rfl 2 rfl ?_
  refine xv_aload_n C dL_law_190 rfl 0 rfl ?_
  refine xv_iload_n C dL_law_191 rfl 3 rfl ?_
  refine xv_iconst C 1 dL_law_192 (by decide) ?_
  refine xv_iadd C dL_law_193 ?_
  refine xl_sld C rfl hLS hf dL_law_194 (fun hf => ?_)
  refine xv_i2l C dL_law_195 ?_
  refine xv_bipush C 32 dL_law_196 (by decide) ?_
  refine xv_lshl C dL_law_198 ?_
  refine xv_aload_n C dL_law_199 rfl 0 rfl ?_
  refine xv_iload_n C dL_law_200 rfl 3 rfl ?_
  refine xv_iconst C 2 dL_law_201 (by decide) ?_
  refine xv_iadd C dL_law_202 ?_
  refine xl_sld C rfl hLS hf dL_law_203 (fun hf => ?_)
  refine xv_i2l C dL_law_204 ?_
  refine xv_ldc2 C 4294967295 dL_law_205 lwm_c2 ?_
  refine xv_land C dL_law_208 ?_
  refine xv_lor C dL_law_209 ?_
  refine xv_aload_n C dL_law_210 rfl 0 rfl ?_
  refine xv_iload_n C dL_law_211 rfl 3 rfl ?_
  refine xv_iconst C 3 dL_law_212 (by decide) ?_
  refine xv_iadd C dL_law_213 ?_
  refine xl_sld C rfl hLS hf dL_law_214 (fun hf => ?_)
  obtain ⟨q2, hg, hf⟩ := dt_bind hf
  refine xl_Mi C hL (As := [.long (((xs (x3 + 1).toNatClampNeg).toInt64 <<< ((32 : Int32).toInt64 &&& 63)) ||| ((xs (x3 + 2).toNatClampNeg).toInt64 &&& 4294967295)), .int (xs (x3 + 3).toNatClampNeg)]) (fun l => c_X6_write (mkM gX cZ adM) hL.2.1 l n (((xs (x3 + 1).toNatClampNeg).toInt64 <<< ((32 : Int32).toInt64 &&& 63)) ||| ((xs (x3 + 2).toNatClampNeg).toInt64 &&& 4294967295)) (xs (x3 + 3).toNatClampNeg) b q2 hg) lwG_X6_write rfl ⟨rfl, rfl⟩ hdV_X6_write ⟨Nat.le_of_ble_eq_true rfl, Nat.le_of_ble_eq_true rfl⟩ rfl rfl rfl (Nat.le_of_ble_eq_true rfl) dL_law_215 ?_
  refine xv_icmp_eq C 995 hf dL_law_218 (by decide) (fun _ hf => ?_) (fun _ hf => absurd (Option.some.inj hf) (by decide))
  exact law_inc C hk _ _ _ hf
def K_law_1 (n L : Nat) (xs : Nat → Int32) (k : Int32 → St → St → Option Int32) (x3 : Int32) (a b : St) : Option Int32 :=
  (f_X5_erase a).bind fun q1 =>
  (f_X6_erase b).bind fun q2 =>
  if q1.1 = q2.1 then k (x3 + 5) q1.2 q2.2
  else some 0
set_option maxRecDepth 100000 in
set_option maxHeartbeats 4000000 in
theorem k_law_1 {K : CTX} {gX : GX} {cZ : ClassId} {adM : Nat → Nat} {N0 s0 n L : Nat} {xs : Nat → Int32} (C : CC K (sL gX cZ adM N0) cL_law 4 lw_tbl RL room_1) (hL : LW gX cZ adM N0) (hLS : LScr K s0 L xs N0) {k : Int32 → St → St → Option Int32} (hk : ∀ (x : Int32) (a b : St), k x a b = some 1 → V K (sL gX cZ adM N0) 4 (comb a b) [(0, .ref s0), (1, .ref (aX gX 0)), (2, .ref (aM (mkM gX cZ adM) 0)), (3, .int x)] 18 []) (x3 : Int32) (a b : St) (hf : K_law_1 n L xs k x3 a b = some 1) : V K (sL gX cZ adM N0) 4 (comb a b) [(0, .ref s0), (1, .ref (aX gX 0)), (2, .ref (aM (mkM gX cZ adM) 0)), (3, .int x3)] 223 [] := by
  rw [K_law_1] at hf
  refine xv_aload_n C dL_law_223 rfl 1 rfl ?_
  obtain ⟨q1, hg, hf⟩ := dt_bind hf
  refine xl_Xi C hL (As := []) (fun l => c_X5_erase gX hL.1 l a q1 hg) lwG_X5_erase rfl ⟨rfl, rfl⟩ hdV_X5_erase ⟨Nat.le_of_ble_eq_true rfl, Nat.le_of_ble_eq_true rfl⟩ rfl rfl rfl (Nat.le_of_ble_eq_true rfl) dL_law_224 ?_
  refine xv_aload_n C dL_law_227 rfl 2 rfl ?_
  obtain ⟨q2, hg, hf⟩ := dt_bind hf
  refine xl_Mi C hL (As := []) (fun l => c_X6_erase (mkM gX cZ adM) hL.2.1 l b q2 hg) lwG_X6_erase rfl ⟨rfl, rfl⟩ hdV_X6_erase ⟨Nat.le_of_ble_eq_true rfl, Nat.le_of_ble_eq_true rfl⟩ rfl rfl rfl (Nat.le_of_ble_eq_true rfl) dL_law_228 ?_
  refine xv_icmp_eq C 995 hf dL_law_231 (by decide) (fun _ hf => ?_) (fun _ hf => absurd (Option.some.inj hf) (by decide))
  exact law_inc C hk _ _ _ hf
def K_law_2 (n L : Nat) (xs : Nat → Int32) (k : Int32 → St → St → Option Int32) (x3 : Int32) (a b : St) : Option Int32 :=
  (f_X5_fault n a).bind fun q1 =>
  (f_X6_fault n b).bind fun q2 =>
  if q1.1 = q2.1 then k (x3 + 5) q1.2 q2.2
  else some 0
set_option maxRecDepth 100000 in
set_option maxHeartbeats 4000000 in
theorem k_law_2 {K : CTX} {gX : GX} {cZ : ClassId} {adM : Nat → Nat} {N0 s0 n L : Nat} {xs : Nat → Int32} (C : CC K (sL gX cZ adM N0) cL_law 4 lw_tbl RL room_1) (hL : LW gX cZ adM N0) (hLS : LScr K s0 L xs N0) {k : Int32 → St → St → Option Int32} (hk : ∀ (x : Int32) (a b : St), k x a b = some 1 → V K (sL gX cZ adM N0) 4 (comb a b) [(0, .ref s0), (1, .ref (aX gX 0)), (2, .ref (aM (mkM gX cZ adM) 0)), (3, .int x)] 18 []) (x3 : Int32) (a b : St) (hf : K_law_2 n L xs k x3 a b = some 1) : V K (sL gX cZ adM N0) 4 (comb a b) [(0, .ref s0), (1, .ref (aX gX 0)), (2, .ref (aM (mkM gX cZ adM) 0)), (3, .int x3)] 236 [] := by
  rw [K_law_2] at hf
  refine xv_aload_n C dL_law_236 rfl 1 rfl ?_
  obtain ⟨q1, hg, hf⟩ := dt_bind hf
  refine xl_Xi C hL (As := []) (fun l => c_X5_fault gX hL.1 l n a q1 hg) lwG_X5_fault rfl ⟨rfl, rfl⟩ hdV_X5_fault ⟨Nat.le_of_ble_eq_true rfl, Nat.le_of_ble_eq_true rfl⟩ rfl rfl rfl (Nat.le_of_ble_eq_true rfl) dL_law_237 ?_
  refine xv_aload_n C dL_law_240 rfl 2 rfl ?_
  obtain ⟨q2, hg, hf⟩ := dt_bind hf
  refine xl_Mi C hL (As := []) (fun l => c_X6_fault (mkM gX cZ adM) hL.2.1 l n b q2 hg) lwG_X6_fault rfl ⟨rfl, rfl⟩ hdV_X6_fault ⟨Nat.le_of_ble_eq_true rfl, Nat.le_of_ble_eq_true rfl⟩ rfl rfl rfl (Nat.le_of_ble_eq_true rfl) dL_law_241 ?_
  refine xv_icmp_eq C 995 hf dL_law_244 (by decide) (fun _ hf => ?_) (fun _ hf => absurd (Option.some.inj hf) (by decide))
  exact law_inc C hk _ _ _ hf
def K_law_3 (n L : Nat) (xs : Nat → Int32) (k : Int32 → St → St → Option Int32) (x3 : Int32) (a b : St) : Option Int32 :=
  (f_X5_street n a).bind fun q1 =>
  (f_X6_street n b).bind fun q2 =>
  if q1.1 = q2.1 then k (x3 + 5) q1.2 q2.2
  else some 0
set_option maxRecDepth 100000 in
set_option maxHeartbeats 4000000 in
theorem k_law_3 {K : CTX} {gX : GX} {cZ : ClassId} {adM : Nat → Nat} {N0 s0 n L : Nat} {xs : Nat → Int32} (C : CC K (sL gX cZ adM N0) cL_law 4 lw_tbl RL room_1) (hL : LW gX cZ adM N0) (hLS : LScr K s0 L xs N0) {k : Int32 → St → St → Option Int32} (hk : ∀ (x : Int32) (a b : St), k x a b = some 1 → V K (sL gX cZ adM N0) 4 (comb a b) [(0, .ref s0), (1, .ref (aX gX 0)), (2, .ref (aM (mkM gX cZ adM) 0)), (3, .int x)] 18 []) (x3 : Int32) (a b : St) (hf : K_law_3 n L xs k x3 a b = some 1) : V K (sL gX cZ adM N0) 4 (comb a b) [(0, .ref s0), (1, .ref (aX gX 0)), (2, .ref (aM (mkM gX cZ adM) 0)), (3, .int x3)] 249 [] := by
  rw [K_law_3] at hf
  refine xv_aload_n C dL_law_249 rfl 1 rfl ?_
  obtain ⟨q1, hg, hf⟩ := dt_bind hf
  refine xl_Xi C hL (As := []) (fun l => c_X5_street gX hL.1 l n a q1 hg) lwG_X5_street rfl ⟨rfl, rfl⟩ hdV_X5_street ⟨Nat.le_of_ble_eq_true rfl, Nat.le_of_ble_eq_true rfl⟩ rfl rfl rfl (Nat.le_of_ble_eq_true rfl) dL_law_250 ?_
  refine xv_aload_n C dL_law_253 rfl 2 rfl ?_
  obtain ⟨q2, hg, hf⟩ := dt_bind hf
  refine xl_Mi C hL (As := []) (fun l => c_X6_street (mkM gX cZ adM) hL.2.1 l n b q2 hg) lwG_X6_street rfl ⟨rfl, rfl⟩ hdV_X6_street ⟨Nat.le_of_ble_eq_true rfl, Nat.le_of_ble_eq_true rfl⟩ rfl rfl rfl (Nat.le_of_ble_eq_true rfl) dL_law_254 ?_
  refine xv_icmp_eq C 995 hf dL_law_257 (by decide) (fun _ hf => ?_) (fun _ hf => absurd (Option.some.inj hf) (by decide))
  exact law_inc C hk _ _ _ hf
def K_law_4 (n L : Nat) (xs : Nat → Int32) (k : Int32 → St → St → Option Int32) (x3 : Int32) (a b : St) : Option Int32 :=
  if x3 + 1 < 0 ∨ L ≤ (x3 + 1).toNatClampNeg then none else
  if x3 + 2 < 0 ∨ L ≤ (x3 + 2).toNatClampNeg then none else
  (f_X5_house (xs (x3 + 1).toNatClampNeg) (xs (x3 + 2).toNatClampNeg) a).bind fun q1 =>
  if x3 + 1 < 0 ∨ L ≤ (x3 + 1).toNatClampNeg then none else
  if x3 + 2 < 0 ∨ L ≤ (x3 + 2).toNatClampNeg then none else
  (f_X6_house (xs (x3 + 1).toNatClampNeg) (xs (x3 + 2).toNatClampNeg) b).bind fun q2 =>
  if q1 = q2 then k (x3 + 5) a b
  else some 0
set_option maxRecDepth 100000 in
set_option maxHeartbeats 4000000 in
theorem k_law_4 {K : CTX} {gX : GX} {cZ : ClassId} {adM : Nat → Nat} {N0 s0 n L : Nat} {xs : Nat → Int32} (C : CC K (sL gX cZ adM N0) cL_law 4 lw_tbl RL room_1) (hL : LW gX cZ adM N0) (hLS : LScr K s0 L xs N0) {k : Int32 → St → St → Option Int32} (hk : ∀ (x : Int32) (a b : St), k x a b = some 1 → V K (sL gX cZ adM N0) 4 (comb a b) [(0, .ref s0), (1, .ref (aX gX 0)), (2, .ref (aM (mkM gX cZ adM) 0)), (3, .int x)] 18 []) (x3 : Int32) (a b : St) (hf : K_law_4 n L xs k x3 a b = some 1) : V K (sL gX cZ adM N0) 4 (comb a b) [(0, .ref s0), (1, .ref (aX gX 0)), (2, .ref (aM (mkM gX cZ adM) 0)), (3, .int x3)] 262 [] := by
  rw [K_law_4] at hf
  refine xv_aload_n C dL_law_262 rfl 1 rfl ?_
  refine xv_aload_n C dL_law_263 rfl 0 rfl ?_
  refine xv_iload_n C dL_law_264 rfl 3 rfl ?_
  refine xv_iconst C 1 dL_law_265 (by decide) ?_
  refine xv_iadd C dL_law_266 ?_
  refine xl_sld C rfl hLS hf dL_law_267 (fun hf => ?_)
  refine xv_aload_n C dL_law_268 rfl 0 rfl ?_
  refine xv_iload_n C dL_law_269 rfl 3 rfl ?_
  refine xv_iconst C 2 dL_law_270 (by decide) ?_
  refine xv_iadd C dL_law_271 ?_
  refine xl_sld C rfl hLS hf dL_law_272 (fun hf => ?_)
  obtain ⟨q1, hg, hf⟩ := dt_bind hf
  refine xl_Xi C hL (As := [.int (xs (x3 + 1).toNatClampNeg), .int (xs (x3 + 2).toNatClampNeg)]) (fun l => c_X5_house gX hL.1 l (xs (x3 + 1).toNatClampNeg) (xs (x3 + 2).toNatClampNeg) a q1 hg) lwG_X5_house rfl ⟨rfl, rfl⟩ hdV_X5_house ⟨Nat.le_of_ble_eq_true rfl, Nat.le_of_ble_eq_true rfl⟩ rfl rfl rfl (Nat.le_of_ble_eq_true rfl) dL_law_273 ?_
  refine xv_aload_n C dL_law_276 rfl 2 rfl ?_
  refine xv_aload_n C dL_law_277 rfl 0 rfl ?_
  refine xv_iload_n C dL_law_278 rfl 3 rfl ?_
  refine xv_iconst C 1 dL_law_279 (by decide) ?_
  refine xv_iadd C dL_law_280 ?_
  refine xl_sld C rfl hLS hf dL_law_281 (fun hf => ?_)
  refine xv_aload_n C dL_law_282 rfl 0 rfl ?_
  refine xv_iload_n C dL_law_283 rfl 3 rfl ?_
  refine xv_iconst C 2 dL_law_284 (by decide) ?_
  refine xv_iadd C dL_law_285 ?_
  refine xl_sld C rfl hLS hf dL_law_286 (fun hf => ?_)
  obtain ⟨q2, hg, hf⟩ := dt_bind hf
  refine xl_Mi C hL (As := [.int (xs (x3 + 1).toNatClampNeg), .int (xs (x3 + 2).toNatClampNeg)]) (fun l => c_X6_house (mkM gX cZ adM) hL.2.1 l (xs (x3 + 1).toNatClampNeg) (xs (x3 + 2).toNatClampNeg) b q2 hg) lwG_X6_house rfl ⟨rfl, rfl⟩ hdV_X6_house ⟨Nat.le_of_ble_eq_true rfl, Nat.le_of_ble_eq_true rfl⟩ rfl rfl rfl (Nat.le_of_ble_eq_true rfl) dL_law_287 ?_
  refine xv_icmp_eq C 995 hf dL_law_290 (by decide) (fun _ hf => ?_) (fun _ hf => absurd (Option.some.inj hf) (by decide))
  exact law_inc C hk _ _ _ hf
def K_law_5 (n L : Nat) (xs : Nat → Int32) (k : Int32 → St → St → Option Int32) (x3 : Int32) (a b : St) : Option Int32 :=
  if x3 + 1 < 0 ∨ L ≤ (x3 + 1).toNatClampNeg then none else
  if x3 + 2 < 0 ∨ L ≤ (x3 + 2).toNatClampNeg then none else
  (f_X5_deed (xs (x3 + 1).toNatClampNeg) (xs (x3 + 2).toNatClampNeg) a).bind fun q1 =>
  if x3 + 1 < 0 ∨ L ≤ (x3 + 1).toNatClampNeg then none else
  if x3 + 2 < 0 ∨ L ≤ (x3 + 2).toNatClampNeg then none else
  (f_X6_deed (xs (x3 + 1).toNatClampNeg) (xs (x3 + 2).toNatClampNeg) b).bind fun q2 =>
  if q1 = q2 then k (x3 + 5) a b
  else some 0
set_option maxRecDepth 100000 in
set_option maxHeartbeats 4000000 in
theorem k_law_5 {K : CTX} {gX : GX} {cZ : ClassId} {adM : Nat → Nat} {N0 s0 n L : Nat} {xs : Nat → Int32} (C : CC K (sL gX cZ adM N0) cL_law 4 lw_tbl RL room_1) (hL : LW gX cZ adM N0) (hLS : LScr K s0 L xs N0) {k : Int32 → St → St → Option Int32} (hk : ∀ (x : Int32) (a b : St), k x a b = some 1 → V K (sL gX cZ adM N0) 4 (comb a b) [(0, .ref s0), (1, .ref (aX gX 0)), (2, .ref (aM (mkM gX cZ adM) 0)), (3, .int x)] 18 []) (x3 : Int32) (a b : St) (hf : K_law_5 n L xs k x3 a b = some 1) : V K (sL gX cZ adM N0) 4 (comb a b) [(0, .ref s0), (1, .ref (aX gX 0)), (2, .ref (aM (mkM gX cZ adM) 0)), (3, .int x3)] 295 [] := by
  rw [K_law_5] at hf
  refine xv_aload_n C dL_law_295 rfl 1 rfl ?_
  refine xv_aload_n C dL_law_296 rfl 0 rfl ?_
  refine xv_iload_n C dL_law_297 rfl 3 rfl ?_
  refine xv_iconst C 1 dL_law_298 (by decide) ?_
  refine xv_iadd C dL_law_299 ?_
  refine xl_sld C rfl hLS hf dL_law_300 (fun hf => ?_)
  refine xv_aload_n C dL_law_301 rfl 0 rfl ?_
  refine xv_iload_n C dL_law_302 rfl 3 rfl ?_
  refine xv_iconst C 2 dL_law_303 (by decide) ?_
  refine xv_iadd C dL_law_304 ?_
  refine xl_sld C rfl hLS hf dL_law_305 (fun hf => ?_)
  obtain ⟨q1, hg, hf⟩ := dt_bind hf
  refine xl_Xi C hL (As := [.int (xs (x3 + 1).toNatClampNeg), .int (xs (x3 + 2).toNatClampNeg)]) (fun l => c_X5_deed gX hL.1 l (xs (x3 + 1).toNatClampNeg) (xs (x3 + 2).toNatClampNeg) a q1 hg) lwG_X5_deed rfl ⟨rfl, rfl⟩ hdV_X5_deed ⟨Nat.le_of_ble_eq_true rfl, Nat.le_of_ble_eq_true rfl⟩ rfl rfl rfl (Nat.le_of_ble_eq_true rfl) dL_law_306 ?_
  refine xv_aload_n C dL_law_309 rfl 2 rfl ?_
  refine xv_aload_n C dL_law_310 rfl 0 rfl ?_
  refine xv_iload_n C dL_law_311 rfl 3 rfl ?_
  refine xv_iconst C 1 dL_law_312 (by decide) ?_
  refine xv_iadd C dL_law_313 ?_
  refine xl_sld C rfl hLS hf dL_law_314 (fun hf => ?_)
  refine xv_aload_n C dL_law_315 rfl 0 rfl ?_
  refine xv_iload_n C dL_law_316 rfl 3 rfl ?_
  refine xv_iconst C 2 dL_law_317 (by decide) ?_
  refine xv_iadd C dL_law_318 ?_
  refine xl_sld C rfl hLS hf dL_law_319 (fun hf => ?_)
  obtain ⟨q2, hg, hf⟩ := dt_bind hf
  refine xl_Mi C hL (As := [.int (xs (x3 + 1).toNatClampNeg), .int (xs (x3 + 2).toNatClampNeg)]) (fun l => c_X6_deed (mkM gX cZ adM) hL.2.1 l (xs (x3 + 1).toNatClampNeg) (xs (x3 + 2).toNatClampNeg) b q2 hg) lwG_X6_deed rfl ⟨rfl, rfl⟩ hdV_X6_deed ⟨Nat.le_of_ble_eq_true rfl, Nat.le_of_ble_eq_true rfl⟩ rfl rfl rfl (Nat.le_of_ble_eq_true rfl) dL_law_320 ?_
  refine xv_icmp_eq C 995 hf dL_law_323 (by decide) (fun _ hf => ?_) (fun _ hf => absurd (Option.some.inj hf) (by decide))
  exact law_inc C hk _ _ _ hf
def K_law_6 (n L : Nat) (xs : Nat → Int32) (k : Int32 → St → St → Option Int32) (x3 : Int32) (a b : St) : Option Int32 :=
  if x3 + 1 < 0 ∨ L ≤ (x3 + 1).toNatClampNeg then none else
  if x3 + 2 < 0 ∨ L ≤ (x3 + 2).toNatClampNeg then none else
  (f_X5_as n (xs (x3 + 1).toNatClampNeg) (xs (x3 + 2).toNatClampNeg) a).bind fun q1 =>
  if x3 + 1 < 0 ∨ L ≤ (x3 + 1).toNatClampNeg then none else
  if x3 + 2 < 0 ∨ L ≤ (x3 + 2).toNatClampNeg then none else
  (f_X6_as n (xs (x3 + 1).toNatClampNeg) (xs (x3 + 2).toNatClampNeg) b).bind fun q2 =>
  if q1 = q2 then k (x3 + 5) a b
  else some 0
set_option maxRecDepth 100000 in
set_option maxHeartbeats 4000000 in
theorem k_law_6 {K : CTX} {gX : GX} {cZ : ClassId} {adM : Nat → Nat} {N0 s0 n L : Nat} {xs : Nat → Int32} (C : CC K (sL gX cZ adM N0) cL_law 4 lw_tbl RL room_1) (hL : LW gX cZ adM N0) (hLS : LScr K s0 L xs N0) {k : Int32 → St → St → Option Int32} (hk : ∀ (x : Int32) (a b : St), k x a b = some 1 → V K (sL gX cZ adM N0) 4 (comb a b) [(0, .ref s0), (1, .ref (aX gX 0)), (2, .ref (aM (mkM gX cZ adM) 0)), (3, .int x)] 18 []) (x3 : Int32) (a b : St) (hf : K_law_6 n L xs k x3 a b = some 1) : V K (sL gX cZ adM N0) 4 (comb a b) [(0, .ref s0), (1, .ref (aX gX 0)), (2, .ref (aM (mkM gX cZ adM) 0)), (3, .int x3)] 328 [] := by
  rw [K_law_6] at hf
  refine xv_aload_n C dL_law_328 rfl 1 rfl ?_
  refine xv_aload_n C dL_law_329 rfl 0 rfl ?_
  refine xv_iload_n C dL_law_330 rfl 3 rfl ?_
  refine xv_iconst C 1 dL_law_331 (by decide) ?_
  refine xv_iadd C dL_law_332 ?_
  refine xl_sld C rfl hLS hf dL_law_333 (fun hf => ?_)
  refine xv_aload_n C dL_law_334 rfl 0 rfl ?_
  refine xv_iload_n C dL_law_335 rfl 3 rfl ?_
  refine xv_iconst C 2 dL_law_336 (by decide) ?_
  refine xv_iadd C dL_law_337 ?_
  refine xl_sld C rfl hLS hf dL_law_338 (fun hf => ?_)
  obtain ⟨q1, hg, hf⟩ := dt_bind hf
  refine xl_Xi C hL (As := [.int (xs (x3 + 1).toNatClampNeg), .int (xs (x3 + 2).toNatClampNeg)]) (fun l => c_X5_as gX hL.1 l n (xs (x3 + 1).toNatClampNeg) (xs (x3 + 2).toNatClampNeg) a q1 hg) lwG_X5_as rfl ⟨rfl, rfl⟩ hdV_X5_as ⟨Nat.le_of_ble_eq_true rfl, Nat.le_of_ble_eq_true rfl⟩ rfl rfl rfl (Nat.le_of_ble_eq_true rfl) dL_law_339 ?_
  refine xv_aload_n C dL_law_342 rfl 2 rfl ?_
  refine xv_aload_n C dL_law_343 rfl 0 rfl ?_
  refine xv_iload_n C dL_law_344 rfl 3 rfl ?_
  refine xv_iconst C 1 dL_law_345 (by decide) ?_
  refine xv_iadd C dL_law_346 ?_
  refine xl_sld C rfl hLS hf dL_law_347 (fun hf => ?_)
  refine xv_aload_n C dL_law_348 rfl 0 rfl ?_
  refine xv_iload_n C dL_law_349 rfl 3 rfl ?_
  refine xv_iconst C 2 dL_law_350 (by decide) ?_
  refine xv_iadd C dL_law_351 ?_
  refine xl_sld C rfl hLS hf dL_law_352 (fun hf => ?_)
  obtain ⟨q2, hg, hf⟩ := dt_bind hf
  refine xl_Mi C hL (As := [.int (xs (x3 + 1).toNatClampNeg), .int (xs (x3 + 2).toNatClampNeg)]) (fun l => c_X6_as (mkM gX cZ adM) hL.2.1 l n (xs (x3 + 1).toNatClampNeg) (xs (x3 + 2).toNatClampNeg) b q2 hg) lwG_X6_as rfl ⟨rfl, rfl⟩ hdV_X6_as ⟨Nat.le_of_ble_eq_true rfl, Nat.le_of_ble_eq_true rfl⟩ rfl rfl rfl (Nat.le_of_ble_eq_true rfl) dL_law_353 ?_
  refine xv_icmp_eq C 995 hf dL_law_356 (by decide) (fun _ hf => ?_) (fun _ hf => absurd (Option.some.inj hf) (by decide))
  exact law_inc C hk _ _ _ hf
def K_law_7 (n L : Nat) (xs : Nat → Int32) (k : Int32 → St → St → Option Int32) (x3 : Int32) (a b : St) : Option Int32 :=
  if x3 + 1 < 0 ∨ L ≤ (x3 + 1).toNatClampNeg then none else
  if x3 + 2 < 0 ∨ L ≤ (x3 + 2).toNatClampNeg then none else
  (f_X5_set (xs (x3 + 1).toNatClampNeg) (xs (x3 + 2).toNatClampNeg) a).bind fun q1 =>
  if x3 + 1 < 0 ∨ L ≤ (x3 + 1).toNatClampNeg then none else
  if x3 + 2 < 0 ∨ L ≤ (x3 + 2).toNatClampNeg then none else
  (f_X6_set n (xs (x3 + 1).toNatClampNeg) (xs (x3 + 2).toNatClampNeg) b).bind fun q2 =>
  if q1.1 = q2.1 then k (x3 + 5) q1.2 q2.2
  else some 0
set_option maxRecDepth 100000 in
set_option maxHeartbeats 4000000 in
theorem k_law_7 {K : CTX} {gX : GX} {cZ : ClassId} {adM : Nat → Nat} {N0 s0 n L : Nat} {xs : Nat → Int32} (C : CC K (sL gX cZ adM N0) cL_law 4 lw_tbl RL room_1) (hL : LW gX cZ adM N0) (hLS : LScr K s0 L xs N0) {k : Int32 → St → St → Option Int32} (hk : ∀ (x : Int32) (a b : St), k x a b = some 1 → V K (sL gX cZ adM N0) 4 (comb a b) [(0, .ref s0), (1, .ref (aX gX 0)), (2, .ref (aM (mkM gX cZ adM) 0)), (3, .int x)] 18 []) (x3 : Int32) (a b : St) (hf : K_law_7 n L xs k x3 a b = some 1) : V K (sL gX cZ adM N0) 4 (comb a b) [(0, .ref s0), (1, .ref (aX gX 0)), (2, .ref (aM (mkM gX cZ adM) 0)), (3, .int x3)] 361 [] := by
  rw [K_law_7] at hf
  refine xv_aload_n C dL_law_361 rfl 1 rfl ?_
  refine xv_aload_n C dL_law_362 rfl 0 rfl ?_
  refine xv_iload_n C dL_law_363 rfl 3 rfl ?_
  refine xv_iconst C 1 dL_law_364 (by decide) ?_
  refine xv_iadd C dL_law_365 ?_
  refine xl_sld C rfl hLS hf dL_law_366 (fun hf => ?_)
  refine xv_aload_n C dL_law_367 rfl 0 rfl ?_
  refine xv_iload_n C dL_law_368 rfl 3 rfl ?_
  refine xv_iconst C 2 dL_law_369 (by decide) ?_
  refine xv_iadd C dL_law_370 ?_
  refine xl_sld C rfl hLS hf dL_law_371 (fun hf => ?_)
  obtain ⟨q1, hg, hf⟩ := dt_bind hf
  refine xl_Xi C hL (As := [.int (xs (x3 + 1).toNatClampNeg), .int (xs (x3 + 2).toNatClampNeg)]) (fun l => c_X5_set gX hL.1 l (xs (x3 + 1).toNatClampNeg) (xs (x3 + 2).toNatClampNeg) a q1 hg) lwG_X5_set rfl ⟨rfl, rfl⟩ hdV_X5_set ⟨Nat.le_of_ble_eq_true rfl, Nat.le_of_ble_eq_true rfl⟩ rfl rfl rfl (Nat.le_of_ble_eq_true rfl) dL_law_372 ?_
  refine xv_aload_n C dL_law_375 rfl 2 rfl ?_
  refine xv_aload_n C dL_law_376 rfl 0 rfl ?_
  refine xv_iload_n C dL_law_377 rfl 3 rfl ?_
  refine xv_iconst C 1 dL_law_378 (by decide) ?_
  refine xv_iadd C dL_law_379 ?_
  refine xl_sld C rfl hLS hf dL_law_380 (fun hf => ?_)
  refine xv_aload_n C dL_law_381 rfl 0 rfl ?_
  refine xv_iload_n C dL_law_382 rfl 3 rfl ?_
  refine xv_iconst C 2 dL_law_383 (by decide) ?_
  refine xv_iadd C dL_law_384 ?_
  refine xl_sld C rfl hLS hf dL_law_385 (fun hf => ?_)
  obtain ⟨q2, hg, hf⟩ := dt_bind hf
  refine xl_Mi C hL (As := [.int (xs (x3 + 1).toNatClampNeg), .int (xs (x3 + 2).toNatClampNeg)]) (fun l => c_X6_set (mkM gX cZ adM) hL.2.1 l n (xs (x3 + 1).toNatClampNeg) (xs (x3 + 2).toNatClampNeg) b q2 hg) lwG_X6_set rfl ⟨rfl, rfl⟩ hdV_X6_set ⟨Nat.le_of_ble_eq_true rfl, Nat.le_of_ble_eq_true rfl⟩ rfl rfl rfl (Nat.le_of_ble_eq_true rfl) dL_law_386 ?_
  refine xv_icmp_eq C 995 hf dL_law_389 (by decide) (fun _ hf => ?_) (fun _ hf => absurd (Option.some.inj hf) (by decide))
  exact law_inc C hk _ _ _ hf
def K_law_8 (n L : Nat) (xs : Nat → Int32) (k : Int32 → St → St → Option Int32) (x3 : Int32) (a b : St) : Option Int32 :=
  if x3 + 1 < 0 ∨ L ≤ (x3 + 1).toNatClampNeg then none else
  (f_X5_go n (xs (x3 + 1).toNatClampNeg) a).bind fun q1 =>
  if x3 + 1 < 0 ∨ L ≤ (x3 + 1).toNatClampNeg then none else
  (f_X6_go n (xs (x3 + 1).toNatClampNeg) b).bind fun q2 =>
  if q1.1 = q2.1 then k (x3 + 5) q1.2 q2.2
  else some 0
set_option maxRecDepth 100000 in
set_option maxHeartbeats 4000000 in
theorem k_law_8 {K : CTX} {gX : GX} {cZ : ClassId} {adM : Nat → Nat} {N0 s0 n L : Nat} {xs : Nat → Int32} (C : CC K (sL gX cZ adM N0) cL_law 4 lw_tbl RL room_1) (hL : LW gX cZ adM N0) (hLS : LScr K s0 L xs N0) {k : Int32 → St → St → Option Int32} (hk : ∀ (x : Int32) (a b : St), k x a b = some 1 → V K (sL gX cZ adM N0) 4 (comb a b) [(0, .ref s0), (1, .ref (aX gX 0)), (2, .ref (aM (mkM gX cZ adM) 0)), (3, .int x)] 18 []) (x3 : Int32) (a b : St) (hf : K_law_8 n L xs k x3 a b = some 1) : V K (sL gX cZ adM N0) 4 (comb a b) [(0, .ref s0), (1, .ref (aX gX 0)), (2, .ref (aM (mkM gX cZ adM) 0)), (3, .int x3)] 394 [] := by
  rw [K_law_8] at hf
  refine xv_aload_n C dL_law_394 rfl 1 rfl ?_
  refine xv_aload_n C dL_law_395 rfl 0 rfl ?_
  refine xv_iload_n C dL_law_396 rfl 3 rfl ?_
  refine xv_iconst C 1 dL_law_397 (by decide) ?_
  refine xv_iadd C dL_law_398 ?_
  refine xl_sld C rfl hLS hf dL_law_399 (fun hf => ?_)
  obtain ⟨q1, hg, hf⟩ := dt_bind hf
  refine xl_Xi C hL (As := [.int (xs (x3 + 1).toNatClampNeg)]) (fun l => c_X5_go gX hL.1 l n (xs (x3 + 1).toNatClampNeg) a q1 hg) lwG_X5_go rfl ⟨rfl, rfl⟩ hdV_X5_go ⟨Nat.le_of_ble_eq_true rfl, Nat.le_of_ble_eq_true rfl⟩ rfl rfl rfl (Nat.le_of_ble_eq_true rfl) dL_law_400 ?_
  refine xv_aload_n C dL_law_403 rfl 2 rfl ?_
  refine xv_aload_n C dL_law_404 rfl 0 rfl ?_
  refine xv_iload_n C dL_law_405 rfl 3 rfl ?_
  refine xv_iconst C 1 dL_law_406 (by decide) ?_
  refine xv_iadd C dL_law_407 ?_
  refine xl_sld C rfl hLS hf dL_law_408 (fun hf => ?_)
  obtain ⟨q2, hg, hf⟩ := dt_bind hf
  refine xl_Mi C hL (As := [.int (xs (x3 + 1).toNatClampNeg)]) (fun l => c_X6_go (mkM gX cZ adM) hL.2.1 l n (xs (x3 + 1).toNatClampNeg) b q2 hg) lwG_X6_go rfl ⟨rfl, rfl⟩ hdV_X6_go ⟨Nat.le_of_ble_eq_true rfl, Nat.le_of_ble_eq_true rfl⟩ rfl rfl rfl (Nat.le_of_ble_eq_true rfl) dL_law_409 ?_
  refine xv_icmp_eq C 995 hf dL_law_412 (by decide) (fun _ hf => ?_) (fun _ hf => absurd (Option.some.inj hf) (by decide))
  exact law_inc C hk _ _ _ hf
def K_law_9 (n L : Nat) (xs : Nat → Int32) (k : Int32 → St → St → Option Int32) (x3 : Int32) (a b : St) : Option Int32 :=
  if x3 + 1 < 0 ∨ L ≤ (x3 + 1).toNatClampNeg then none else
  if x3 + 2 < 0 ∨ L ≤ (x3 + 2).toNatClampNeg then none else
  (f_X5_later n (xs (x3 + 1).toNatClampNeg) (xs (x3 + 2).toNatClampNeg) a).bind fun q1 =>
  if x3 + 1 < 0 ∨ L ≤ (x3 + 1).toNatClampNeg then none else
  if x3 + 2 < 0 ∨ L ≤ (x3 + 2).toNatClampNeg then none else
  (f_X6_later n (xs (x3 + 1).toNatClampNeg) (xs (x3 + 2).toNatClampNeg) b).bind fun q2 =>
  if q1.1 = q2.1 then k (x3 + 5) q1.2 q2.2
  else some 0
set_option maxRecDepth 100000 in
set_option maxHeartbeats 4000000 in
theorem k_law_9 {K : CTX} {gX : GX} {cZ : ClassId} {adM : Nat → Nat} {N0 s0 n L : Nat} {xs : Nat → Int32} (C : CC K (sL gX cZ adM N0) cL_law 4 lw_tbl RL room_1) (hL : LW gX cZ adM N0) (hLS : LScr K s0 L xs N0) {k : Int32 → St → St → Option Int32} (hk : ∀ (x : Int32) (a b : St), k x a b = some 1 → V K (sL gX cZ adM N0) 4 (comb a b) [(0, .ref s0), (1, .ref (aX gX 0)), (2, .ref (aM (mkM gX cZ adM) 0)), (3, .int x)] 18 []) (x3 : Int32) (a b : St) (hf : K_law_9 n L xs k x3 a b = some 1) : V K (sL gX cZ adM N0) 4 (comb a b) [(0, .ref s0), (1, .ref (aX gX 0)), (2, .ref (aM (mkM gX cZ adM) 0)), (3, .int x3)] 417 [] := by
  rw [K_law_9] at hf
  refine xv_aload_n C dL_law_417 rfl 1 rfl ?_
  refine xv_aload_n C dL_law_418 rfl 0 rfl ?_
  refine xv_iload_n C dL_law_419 rfl 3 rfl ?_
  refine xv_iconst C 1 dL_law_420 (by decide) ?_
  refine xv_iadd C dL_law_421 ?_
  refine xl_sld C rfl hLS hf dL_law_422 (fun hf => ?_)
  refine xv_aload_n C dL_law_423 rfl 0 rfl ?_
  refine xv_iload_n C dL_law_424 rfl 3 rfl ?_
  refine xv_iconst C 2 dL_law_425 (by decide) ?_
  refine xv_iadd C dL_law_426 ?_
  refine xl_sld C rfl hLS hf dL_law_427 (fun hf => ?_)
  obtain ⟨q1, hg, hf⟩ := dt_bind hf
  refine xl_Xi C hL (As := [.int (xs (x3 + 1).toNatClampNeg), .int (xs (x3 + 2).toNatClampNeg)]) (fun l => c_X5_later gX hL.1 l n (xs (x3 + 1).toNatClampNeg) (xs (x3 + 2).toNatClampNeg) a q1 hg) lwG_X5_later rfl ⟨rfl, rfl⟩ hdV_X5_later ⟨Nat.le_of_ble_eq_true rfl, Nat.le_of_ble_eq_true rfl⟩ rfl rfl rfl (Nat.le_of_ble_eq_true rfl) dL_law_428 ?_
  refine xv_aload_n C dL_law_431 rfl 2 rfl ?_
  refine xv_aload_n C dL_law_432 rfl 0 rfl ?_
  refine xv_iload_n C dL_law_433 rfl 3 rfl ?_
  refine xv_iconst C 1 dL_law_434 (by decide) ?_
  refine xv_iadd C dL_law_435 ?_
  refine xl_sld C rfl hLS hf dL_law_436 (fun hf => ?_)
  refine xv_aload_n C dL_law_437 rfl 0 rfl ?_
  refine xv_iload_n C dL_law_438 rfl 3 rfl ?_
  refine xv_iconst C 2 dL_law_439 (by decide) ?_
  refine xv_iadd C dL_law_440 ?_
  refine xl_sld C rfl hLS hf dL_law_441 (fun hf => ?_)
  obtain ⟨q2, hg, hf⟩ := dt_bind hf
  refine xl_Mi C hL (As := [.int (xs (x3 + 1).toNatClampNeg), .int (xs (x3 + 2).toNatClampNeg)]) (fun l => c_X6_later (mkM gX cZ adM) hL.2.1 l n (xs (x3 + 1).toNatClampNeg) (xs (x3 + 2).toNatClampNeg) b q2 hg) lwG_X6_later rfl ⟨rfl, rfl⟩ hdV_X6_later ⟨Nat.le_of_ble_eq_true rfl, Nat.le_of_ble_eq_true rfl⟩ rfl rfl rfl (Nat.le_of_ble_eq_true rfl) dL_law_442 ?_
  refine xv_icmp_eq C 995 hf dL_law_445 (by decide) (fun _ hf => ?_) (fun _ hf => absurd (Option.some.inj hf) (by decide))
  exact law_inc C hk _ _ _ hf
def K_law_10 (n L : Nat) (xs : Nat → Int32) (k : Int32 → St → St → Option Int32) (x3 : Int32) (a b : St) : Option Int32 :=
  if x3 + 1 < 0 ∨ L ≤ (x3 + 1).toNatClampNeg then none else
  (f_X5_again n (xs (x3 + 1).toNatClampNeg) a).bind fun q1 =>
  if x3 + 1 < 0 ∨ L ≤ (x3 + 1).toNatClampNeg then none else
  (f_X6_again n (xs (x3 + 1).toNatClampNeg) b).bind fun q2 =>
  if q1.1 = q2.1 then k (x3 + 5) q1.2 q2.2
  else some 0
set_option maxRecDepth 100000 in
set_option maxHeartbeats 4000000 in
theorem k_law_10 {K : CTX} {gX : GX} {cZ : ClassId} {adM : Nat → Nat} {N0 s0 n L : Nat} {xs : Nat → Int32} (C : CC K (sL gX cZ adM N0) cL_law 4 lw_tbl RL room_1) (hL : LW gX cZ adM N0) (hLS : LScr K s0 L xs N0) {k : Int32 → St → St → Option Int32} (hk : ∀ (x : Int32) (a b : St), k x a b = some 1 → V K (sL gX cZ adM N0) 4 (comb a b) [(0, .ref s0), (1, .ref (aX gX 0)), (2, .ref (aM (mkM gX cZ adM) 0)), (3, .int x)] 18 []) (x3 : Int32) (a b : St) (hf : K_law_10 n L xs k x3 a b = some 1) : V K (sL gX cZ adM N0) 4 (comb a b) [(0, .ref s0), (1, .ref (aX gX 0)), (2, .ref (aM (mkM gX cZ adM) 0)), (3, .int x3)] 450 [] := by
  rw [K_law_10] at hf
  refine xv_aload_n C dL_law_450 rfl 1 rfl ?_
  refine xv_aload_n C dL_law_451 rfl 0 rfl ?_
  refine xv_iload_n C dL_law_452 rfl 3 rfl ?_
  refine xv_iconst C 1 dL_law_453 (by decide) ?_
  refine xv_iadd C dL_law_454 ?_
  refine xl_sld C rfl hLS hf dL_law_455 (fun hf => ?_)
  obtain ⟨q1, hg, hf⟩ := dt_bind hf
  refine xl_Xi C hL (As := [.int (xs (x3 + 1).toNatClampNeg)]) (fun l => c_X5_again gX hL.1 l n (xs (x3 + 1).toNatClampNeg) a q1 hg) lwG_X5_again rfl ⟨rfl, rfl⟩ hdV_X5_again ⟨Nat.le_of_ble_eq_true rfl, Nat.le_of_ble_eq_true rfl⟩ rfl rfl rfl (Nat.le_of_ble_eq_true rfl) dL_law_456 ?_
  refine xv_aload_n C dL_law_459 rfl 2 rfl ?_
  refine xv_aload_n C dL_law_460 rfl 0 rfl ?_
  refine xv_iload_n C dL_law_461 rfl 3 rfl ?_
  refine xv_iconst C 1 dL_law_462 (by decide) ?_
  refine xv_iadd C dL_law_463 ?_
  refine xl_sld C rfl hLS hf dL_law_464 (fun hf => ?_)
  obtain ⟨q2, hg, hf⟩ := dt_bind hf
  refine xl_Mi C hL (As := [.int (xs (x3 + 1).toNatClampNeg)]) (fun l => c_X6_again (mkM gX cZ adM) hL.2.1 l n (xs (x3 + 1).toNatClampNeg) b q2 hg) lwG_X6_again rfl ⟨rfl, rfl⟩ hdV_X6_again ⟨Nat.le_of_ble_eq_true rfl, Nat.le_of_ble_eq_true rfl⟩ rfl rfl rfl (Nat.le_of_ble_eq_true rfl) dL_law_465 ?_
  refine xv_icmp_eq C 995 hf dL_law_468 (by decide) (fun _ hf => ?_) (fun _ hf => absurd (Option.some.inj hf) (by decide))
  exact law_inc C hk _ _ _ hf
def K_law_11 (n L : Nat) (xs : Nat → Int32) (k : Int32 → St → St → Option Int32) (x3 : Int32) (a b : St) : Option Int32 :=
  if x3 + 1 < 0 ∨ L ≤ (x3 + 1).toNatClampNeg then none else
  if x3 + 2 < 0 ∨ L ≤ (x3 + 2).toNatClampNeg then none else
  if x3 + 3 < 0 ∨ L ≤ (x3 + 3).toNatClampNeg then none else
  (f_X5_first n (xs (x3 + 1).toNatClampNeg) (xs (x3 + 2).toNatClampNeg) (xs (x3 + 3).toNatClampNeg) a).bind fun q1 =>
  if x3 + 1 < 0 ∨ L ≤ (x3 + 1).toNatClampNeg then none else
  if x3 + 2 < 0 ∨ L ≤ (x3 + 2).toNatClampNeg then none else
  if x3 + 3 < 0 ∨ L ≤ (x3 + 3).toNatClampNeg then none else
  (f_X6_first n (xs (x3 + 1).toNatClampNeg) (xs (x3 + 2).toNatClampNeg) (xs (x3 + 3).toNatClampNeg) b).bind fun q2 =>
  if q1 = q2 then k (x3 + 5) a b
  else some 0
set_option maxRecDepth 100000 in
set_option maxHeartbeats 4000000 in
theorem k_law_11 {K : CTX} {gX : GX} {cZ : ClassId} {adM : Nat → Nat} {N0 s0 n L : Nat} {xs : Nat → Int32} (C : CC K (sL gX cZ adM N0) cL_law 4 lw_tbl RL room_1) (hL : LW gX cZ adM N0) (hLS : LScr K s0 L xs N0) {k : Int32 → St → St → Option Int32} (hk : ∀ (x : Int32) (a b : St), k x a b = some 1 → V K (sL gX cZ adM N0) 4 (comb a b) [(0, .ref s0), (1, .ref (aX gX 0)), (2, .ref (aM (mkM gX cZ adM) 0)), (3, .int x)] 18 []) (x3 : Int32) (a b : St) (hf : K_law_11 n L xs k x3 a b = some 1) : V K (sL gX cZ adM N0) 4 (comb a b) [(0, .ref s0), (1, .ref (aX gX 0)), (2, .ref (aM (mkM gX cZ adM) 0)), (3, .int x3)] 473 [] := by
  rw [K_law_11] at hf
  refine xv_aload_n C dL_law_473 rfl 1 rfl ?_
  refine xv_aload_n C dL_law_474 rfl 0 rfl ?_
  refine xv_iload_n C dL_law_475 rfl 3 rfl ?_
  refine xv_iconst C 1 dL_law_476 (by decide) ?_
  refine xv_iadd C dL_law_477 ?_
  refine xl_sld C rfl hLS hf dL_law_478 (fun hf => ?_)
  refine xv_aload_n C dL_law_479 rfl 0 rfl ?_
  refine xv_iload_n C dL_law_480 rfl 3 rfl ?_
  refine xv_iconst C 2 dL_law_481 (by decide) ?_
  refine xv_iadd C dL_law_482 ?_
  refine xl_sld C rfl hLS hf dL_law_483 (fun hf => ?_)
  refine xv_aload_n C dL_law_484 rfl 0 rfl ?_
  refine xv_iload_n C dL_law_485 rfl 3 rfl ?_
  refine xv_iconst C 3 dL_law_486 (by decide) ?_
  refine xv_iadd C dL_law_487 ?_
  refine xl_sld C rfl hLS hf dL_law_488 (fun hf => ?_)
  obtain ⟨q1, hg, hf⟩ := dt_bind hf
  refine xl_Xi C hL (As := [.int (xs (x3 + 1).toNatClampNeg), .int (xs (x3 + 2).toNatClampNeg), .int (xs (x3 + 3).toNatClampNeg)]) (fun l => c_X5_first gX hL.1 l n (xs (x3 + 1).toNatClampNeg) (xs (x3 + 2).toNatClampNeg) (xs (x3 + 3).toNatClampNeg) a q1 hg) lwG_X5_first rfl ⟨rfl, rfl⟩ hdV_X5_first ⟨Nat.le_of_ble_eq_true rfl, Nat.le_of_ble_eq_true rfl⟩ rfl rfl rfl (Nat.le_of_ble_eq_true rfl) dL_law_489 ?_
  refine xv_aload_n C dL_law_492 rfl 2 rfl ?_
  refine xv_aload_n C dL_law_493 rfl 0 rfl ?_
  refine xv_iload_n C dL_law_494 rfl 3 rfl ?_
  refine xv_iconst C 1 dL_law_495 (by decide) ?_
  refine xv_iadd C dL_law_496 ?_
  refine xl_sld C rfl hLS hf dL_law_497 (fun hf => ?_)
  refine xv_aload_n C dL_law_498 rfl 0 rfl ?_
  refine xv_iload_n C dL_law_499 rfl 3 rfl ?_
  refine xv_iconst C 2 dL_law_500 (by decide) ?_
  refine xv_iadd C dL_law_501 ?_
  refine xl_sld C rfl hLS hf dL_law_502 (fun hf => ?_)
  refine xv_aload_n C dL_law_503 rfl 0 rfl ?_
  refine xv_iload_n C dL_law_504 rfl 3 rfl ?_
  refine xv_iconst C 3 dL_law_505 (by decide) ?_
  refine xv_iadd C dL_law_506 ?_
  refine xl_sld C rfl hLS hf dL_law_507 (fun hf => ?_)
  obtain ⟨q2, hg, hf⟩ := dt_bind hf
  refine xl_Mi C hL (As := [.int (xs (x3 + 1).toNatClampNeg), .int (xs (x3 + 2).toNatClampNeg), .int (xs (x3 + 3).toNatClampNeg)]) (fun l => c_X6_first (mkM gX cZ adM) hL.2.1 l n (xs (x3 + 1).toNatClampNeg) (xs (x3 + 2).toNatClampNeg) (xs (x3 + 3).toNatClampNeg) b q2 hg) lwG_X6_first rfl ⟨rfl, rfl⟩ hdV_X6_first ⟨Nat.le_of_ble_eq_true rfl, Nat.le_of_ble_eq_true rfl⟩ rfl rfl rfl (Nat.le_of_ble_eq_true rfl) dL_law_508 ?_
  refine xv_icmp_eq C 995 hf dL_law_511 (by decide) (fun _ hf => ?_) (fun _ hf => absurd (Option.some.inj hf) (by decide))
  exact law_inc C hk _ _ _ hf
def K_law_12 (n L : Nat) (xs : Nat → Int32) (k : Int32 → St → St → Option Int32) (x3 : Int32) (a b : St) : Option Int32 :=
  if x3 + 1 < 0 ∨ L ≤ (x3 + 1).toNatClampNeg then none else
  if x3 + 2 < 0 ∨ L ≤ (x3 + 2).toNatClampNeg then none else
  if x3 + 3 < 0 ∨ L ≤ (x3 + 3).toNatClampNeg then none else
  (f_X5_lack n (xs (x3 + 1).toNatClampNeg) (xs (x3 + 2).toNatClampNeg) (xs (x3 + 3).toNatClampNeg) a).bind fun q1 =>
  if x3 + 1 < 0 ∨ L ≤ (x3 + 1).toNatClampNeg then none else
  if x3 + 2 < 0 ∨ L ≤ (x3 + 2).toNatClampNeg then none else
  if x3 + 3 < 0 ∨ L ≤ (x3 + 3).toNatClampNeg then none else
  (f_X6_lack n (xs (x3 + 1).toNatClampNeg) (xs (x3 + 2).toNatClampNeg) (xs (x3 + 3).toNatClampNeg) b).bind fun q2 =>
  if q1 = q2 then k (x3 + 5) a b
  else some 0
set_option maxRecDepth 100000 in
set_option maxHeartbeats 4000000 in
theorem k_law_12 {K : CTX} {gX : GX} {cZ : ClassId} {adM : Nat → Nat} {N0 s0 n L : Nat} {xs : Nat → Int32} (C : CC K (sL gX cZ adM N0) cL_law 4 lw_tbl RL room_1) (hL : LW gX cZ adM N0) (hLS : LScr K s0 L xs N0) {k : Int32 → St → St → Option Int32} (hk : ∀ (x : Int32) (a b : St), k x a b = some 1 → V K (sL gX cZ adM N0) 4 (comb a b) [(0, .ref s0), (1, .ref (aX gX 0)), (2, .ref (aM (mkM gX cZ adM) 0)), (3, .int x)] 18 []) (x3 : Int32) (a b : St) (hf : K_law_12 n L xs k x3 a b = some 1) : V K (sL gX cZ adM N0) 4 (comb a b) [(0, .ref s0), (1, .ref (aX gX 0)), (2, .ref (aM (mkM gX cZ adM) 0)), (3, .int x3)] 516 [] := by
  rw [K_law_12] at hf
  refine xv_aload_n C dL_law_516 rfl 1 rfl ?_
  refine xv_aload_n C dL_law_517 rfl 0 rfl ?_
  refine xv_iload_n C dL_law_518 rfl 3 rfl ?_
  refine xv_iconst C 1 dL_law_519 (by decide) ?_
  refine xv_iadd C dL_law_520 ?_
  refine xl_sld C rfl hLS hf dL_law_521 (fun hf => ?_)
  refine xv_aload_n C dL_law_522 rfl 0 rfl ?_
  refine xv_iload_n C dL_law_523 rfl 3 rfl ?_
  refine xv_iconst C 2 dL_law_524 (by decide) ?_
  refine xv_iadd C dL_law_525 ?_
  refine xl_sld C rfl hLS hf dL_law_526 (fun hf => ?_)
  refine xv_aload_n C dL_law_527 rfl 0 rfl ?_
  refine xv_iload_n C dL_law_528 rfl 3 rfl ?_
  refine xv_iconst C 3 dL_law_529 (by decide) ?_
  refine xv_iadd C dL_law_530 ?_
  refine xl_sld C rfl hLS hf dL_law_531 (fun hf => ?_)
  obtain ⟨q1, hg, hf⟩ := dt_bind hf
  refine xl_Xi C hL (As := [.int (xs (x3 + 1).toNatClampNeg), .int (xs (x3 + 2).toNatClampNeg), .int (xs (x3 + 3).toNatClampNeg)]) (fun l => c_X5_lack gX hL.1 l n (xs (x3 + 1).toNatClampNeg) (xs (x3 + 2).toNatClampNeg) (xs (x3 + 3).toNatClampNeg) a q1 hg) lwG_X5_lack rfl ⟨rfl, rfl⟩ hdV_X5_lack ⟨Nat.le_of_ble_eq_true rfl, Nat.le_of_ble_eq_true rfl⟩ rfl rfl rfl (Nat.le_of_ble_eq_true rfl) dL_law_532 ?_
  refine xv_aload_n C dL_law_535 rfl 2 rfl ?_
  refine xv_aload_n C dL_law_536 rfl 0 rfl ?_
  refine xv_iload_n C dL_law_537 rfl 3 rfl ?_
  refine xv_iconst C 1 dL_law_538 (by decide) ?_
  refine xv_iadd C dL_law_539 ?_
  refine xl_sld C rfl hLS hf dL_law_540 (fun hf => ?_)
  refine xv_aload_n C dL_law_541 rfl 0 rfl ?_
  refine xv_iload_n C dL_law_542 rfl 3 rfl ?_
  refine xv_iconst C 2 dL_law_543 (by decide) ?_
  refine xv_iadd C dL_law_544 ?_
  refine xl_sld C rfl hLS hf dL_law_545 (fun hf => ?_)
  refine xv_aload_n C dL_law_546 rfl 0 rfl ?_
  refine xv_iload_n C dL_law_547 rfl 3 rfl ?_
  refine xv_iconst C 3 dL_law_548 (by decide) ?_
  refine xv_iadd C dL_law_549 ?_
  refine xl_sld C rfl hLS hf dL_law_550 (fun hf => ?_)
  obtain ⟨q2, hg, hf⟩ := dt_bind hf
  refine xl_Mi C hL (As := [.int (xs (x3 + 1).toNatClampNeg), .int (xs (x3 + 2).toNatClampNeg), .int (xs (x3 + 3).toNatClampNeg)]) (fun l => c_X6_lack (mkM gX cZ adM) hL.2.1 l n (xs (x3 + 1).toNatClampNeg) (xs (x3 + 2).toNatClampNeg) (xs (x3 + 3).toNatClampNeg) b q2 hg) lwG_X6_lack rfl ⟨rfl, rfl⟩ hdV_X6_lack ⟨Nat.le_of_ble_eq_true rfl, Nat.le_of_ble_eq_true rfl⟩ rfl rfl rfl (Nat.le_of_ble_eq_true rfl) dL_law_551 ?_
  refine xv_icmp_eq C 995 hf dL_law_554 (by decide) (fun _ hf => ?_) (fun _ hf => absurd (Option.some.inj hf) (by decide))
  exact law_inc C hk _ _ _ hf
def K_law_13 (n L : Nat) (xs : Nat → Int32) (k : Int32 → St → St → Option Int32) (x3 : Int32) (a b : St) : Option Int32 :=
  if x3 + 1 < 0 ∨ L ≤ (x3 + 1).toNatClampNeg then none else
  if x3 + 2 < 0 ∨ L ≤ (x3 + 2).toNatClampNeg then none else
  if x3 + 3 < 0 ∨ L ≤ (x3 + 3).toNatClampNeg then none else
  (f_X5_wish (xs (x3 + 1).toNatClampNeg) (xs (x3 + 2).toNatClampNeg) (xs (x3 + 3).toNatClampNeg) a).bind fun q1 =>
  if x3 + 1 < 0 ∨ L ≤ (x3 + 1).toNatClampNeg then none else
  if x3 + 2 < 0 ∨ L ≤ (x3 + 2).toNatClampNeg then none else
  if x3 + 3 < 0 ∨ L ≤ (x3 + 3).toNatClampNeg then none else
  (f_X6_wish (xs (x3 + 1).toNatClampNeg) (xs (x3 + 2).toNatClampNeg) (xs (x3 + 3).toNatClampNeg) b).bind fun q2 =>
  if q1.1 = q2.1 then k (x3 + 5) q1.2 q2.2
  else some 0
set_option maxRecDepth 100000 in
set_option maxHeartbeats 4000000 in
theorem k_law_13 {K : CTX} {gX : GX} {cZ : ClassId} {adM : Nat → Nat} {N0 s0 n L : Nat} {xs : Nat → Int32} (C : CC K (sL gX cZ adM N0) cL_law 4 lw_tbl RL room_1) (hL : LW gX cZ adM N0) (hLS : LScr K s0 L xs N0) {k : Int32 → St → St → Option Int32} (hk : ∀ (x : Int32) (a b : St), k x a b = some 1 → V K (sL gX cZ adM N0) 4 (comb a b) [(0, .ref s0), (1, .ref (aX gX 0)), (2, .ref (aM (mkM gX cZ adM) 0)), (3, .int x)] 18 []) (x3 : Int32) (a b : St) (hf : K_law_13 n L xs k x3 a b = some 1) : V K (sL gX cZ adM N0) 4 (comb a b) [(0, .ref s0), (1, .ref (aX gX 0)), (2, .ref (aM (mkM gX cZ adM) 0)), (3, .int x3)] 559 [] := by
  rw [K_law_13] at hf
  refine xv_aload_n C dL_law_559 rfl 1 rfl ?_
  refine xv_aload_n C dL_law_560 rfl 0 rfl ?_
  refine xv_iload_n C dL_law_561 rfl 3 rfl ?_
  refine xv_iconst C 1 dL_law_562 (by decide) ?_
  refine xv_iadd C dL_law_563 ?_
  refine xl_sld C rfl hLS hf dL_law_564 (fun hf => ?_)
  refine xv_aload_n C dL_law_565 rfl 0 rfl ?_
  refine xv_iload_n C dL_law_566 rfl 3 rfl ?_
  refine xv_iconst C 2 dL_law_567 (by decide) ?_
  refine xv_iadd C dL_law_568 ?_
  refine xl_sld C rfl hLS hf dL_law_569 (fun hf => ?_)
  refine xv_aload_n C dL_law_570 rfl 0 rfl ?_
  refine xv_iload_n C dL_law_571 rfl 3 rfl ?_
  refine xv_iconst C 3 dL_law_572 (by decide) ?_
  refine xv_iadd C dL_law_573 ?_
  refine xl_sld C rfl hLS hf dL_law_574 (fun hf => ?_)
  obtain ⟨q1, hg, hf⟩ := dt_bind hf
  refine xl_Xi C hL (As := [.int (xs (x3 + 1).toNatClampNeg), .int (xs (x3 + 2).toNatClampNeg), .int (xs (x3 + 3).toNatClampNeg)]) (fun l => c_X5_wish gX hL.1 l (xs (x3 + 1).toNatClampNeg) (xs (x3 + 2).toNatClampNeg) (xs (x3 + 3).toNatClampNeg) a q1 hg) lwG_X5_wish rfl ⟨rfl, rfl⟩ hdV_X5_wish ⟨Nat.le_of_ble_eq_true rfl, Nat.le_of_ble_eq_true rfl⟩ rfl rfl rfl (Nat.le_of_ble_eq_true rfl) dL_law_575 ?_
  refine xv_aload_n C dL_law_578 rfl 2 rfl ?_
  refine xv_aload_n C dL_law_579 rfl 0 rfl ?_
  refine xv_iload_n C dL_law_580 rfl 3 rfl ?_
  refine xv_iconst C 1 dL_law_581 (by decide) ?_
  refine xv_iadd C dL_law_582 ?_
  refine xl_sld C rfl hLS hf dL_law_583 (fun hf => ?_)
  refine xv_aload_n C dL_law_584 rfl 0 rfl ?_
  refine xv_iload_n C dL_law_585 rfl 3 rfl ?_
  refine xv_iconst C 2 dL_law_586 (by decide) ?_
  refine xv_iadd C dL_law_587 ?_
  refine xl_sld C rfl hLS hf dL_law_588 (fun hf => ?_)
  refine xv_aload_n C dL_law_589 rfl 0 rfl ?_
  refine xv_iload_n C dL_law_590 rfl 3 rfl ?_
  refine xv_iconst C 3 dL_law_591 (by decide) ?_
  refine xv_iadd C dL_law_592 ?_
  refine xl_sld C rfl hLS hf dL_law_593 (fun hf => ?_)
  obtain ⟨q2, hg, hf⟩ := dt_bind hf
  refine xl_Mi C hL (As := [.int (xs (x3 + 1).toNatClampNeg), .int (xs (x3 + 2).toNatClampNeg), .int (xs (x3 + 3).toNatClampNeg)]) (fun l => c_X6_wish (mkM gX cZ adM) hL.2.1 l (xs (x3 + 1).toNatClampNeg) (xs (x3 + 2).toNatClampNeg) (xs (x3 + 3).toNatClampNeg) b q2 hg) lwG_X6_wish rfl ⟨rfl, rfl⟩ hdV_X6_wish ⟨Nat.le_of_ble_eq_true rfl, Nat.le_of_ble_eq_true rfl⟩ rfl rfl rfl (Nat.le_of_ble_eq_true rfl) dL_law_594 ?_
  refine xv_icmp_eq C 995 hf dL_law_597 (by decide) (fun _ hf => ?_) (fun _ hf => absurd (Option.some.inj hf) (by decide))
  exact law_inc C hk _ _ _ hf
def K_law_14 (n L : Nat) (xs : Nat → Int32) (k : Int32 → St → St → Option Int32) (x3 : Int32) (a b : St) : Option Int32 :=
  (f_X5_drop a).bind fun q1 =>
  (f_X6_drop b).bind fun q2 =>
  if q1.1 = q2.1 then k (x3 + 5) q1.2 q2.2
  else some 0
set_option maxRecDepth 100000 in
set_option maxHeartbeats 4000000 in
theorem k_law_14 {K : CTX} {gX : GX} {cZ : ClassId} {adM : Nat → Nat} {N0 s0 n L : Nat} {xs : Nat → Int32} (C : CC K (sL gX cZ adM N0) cL_law 4 lw_tbl RL room_1) (hL : LW gX cZ adM N0) (hLS : LScr K s0 L xs N0) {k : Int32 → St → St → Option Int32} (hk : ∀ (x : Int32) (a b : St), k x a b = some 1 → V K (sL gX cZ adM N0) 4 (comb a b) [(0, .ref s0), (1, .ref (aX gX 0)), (2, .ref (aM (mkM gX cZ adM) 0)), (3, .int x)] 18 []) (x3 : Int32) (a b : St) (hf : K_law_14 n L xs k x3 a b = some 1) : V K (sL gX cZ adM N0) 4 (comb a b) [(0, .ref s0), (1, .ref (aX gX 0)), (2, .ref (aM (mkM gX cZ adM) 0)), (3, .int x3)] 602 [] := by
  rw [K_law_14] at hf
  refine xv_aload_n C dL_law_602 rfl 1 rfl ?_
  obtain ⟨q1, hg, hf⟩ := dt_bind hf
  refine xl_Xi C hL (As := []) (fun l => c_X5_drop gX hL.1 l a q1 hg) lwG_X5_drop rfl ⟨rfl, rfl⟩ hdV_X5_drop ⟨Nat.le_of_ble_eq_true rfl, Nat.le_of_ble_eq_true rfl⟩ rfl rfl rfl (Nat.le_of_ble_eq_true rfl) dL_law_603 ?_
  refine xv_aload_n C dL_law_606 rfl 2 rfl ?_
  obtain ⟨q2, hg, hf⟩ := dt_bind hf
  refine xl_Mi C hL (As := []) (fun l => c_X6_drop (mkM gX cZ adM) hL.2.1 l b q2 hg) lwG_X6_drop rfl ⟨rfl, rfl⟩ hdV_X6_drop ⟨Nat.le_of_ble_eq_true rfl, Nat.le_of_ble_eq_true rfl⟩ rfl rfl rfl (Nat.le_of_ble_eq_true rfl) dL_law_607 ?_
  refine xv_icmp_eq C 995 hf dL_law_610 (by decide) (fun _ hf => ?_) (fun _ hf => absurd (Option.some.inj hf) (by decide))
  exact law_inc C hk _ _ _ hf
def K_law_15 (n L : Nat) (xs : Nat → Int32) (k : Int32 → St → St → Option Int32) (x3 : Int32) (a b : St) : Option Int32 :=
  (f_X5_ways n a).bind fun q1 =>
  (f_X6_ways n b).bind fun q2 =>
  if q1.1 = q2.1 then k (x3 + 5) q1.2 q2.2
  else some 0
set_option maxRecDepth 100000 in
set_option maxHeartbeats 4000000 in
theorem k_law_15 {K : CTX} {gX : GX} {cZ : ClassId} {adM : Nat → Nat} {N0 s0 n L : Nat} {xs : Nat → Int32} (C : CC K (sL gX cZ adM N0) cL_law 4 lw_tbl RL room_1) (hL : LW gX cZ adM N0) (hLS : LScr K s0 L xs N0) {k : Int32 → St → St → Option Int32} (hk : ∀ (x : Int32) (a b : St), k x a b = some 1 → V K (sL gX cZ adM N0) 4 (comb a b) [(0, .ref s0), (1, .ref (aX gX 0)), (2, .ref (aM (mkM gX cZ adM) 0)), (3, .int x)] 18 []) (x3 : Int32) (a b : St) (hf : K_law_15 n L xs k x3 a b = some 1) : V K (sL gX cZ adM N0) 4 (comb a b) [(0, .ref s0), (1, .ref (aX gX 0)), (2, .ref (aM (mkM gX cZ adM) 0)), (3, .int x3)] 615 [] := by
  rw [K_law_15] at hf
  refine xv_aload_n C dL_law_615 rfl 1 rfl ?_
  obtain ⟨q1, hg, hf⟩ := dt_bind hf
  refine xl_Xi C hL (As := []) (fun l => c_X5_ways gX hL.1 l n a q1 hg) lwG_X5_ways rfl ⟨rfl, rfl⟩ hdV_X5_ways ⟨Nat.le_of_ble_eq_true rfl, Nat.le_of_ble_eq_true rfl⟩ rfl rfl rfl (Nat.le_of_ble_eq_true rfl) dL_law_616 ?_
  refine xv_aload_n C dL_law_619 rfl 2 rfl ?_
  obtain ⟨q2, hg, hf⟩ := dt_bind hf
  refine xl_Mi C hL (As := []) (fun l => c_X6_ways (mkM gX cZ adM) hL.2.1 l n b q2 hg) lwG_X6_ways rfl ⟨rfl, rfl⟩ hdV_X6_ways ⟨Nat.le_of_ble_eq_true rfl, Nat.le_of_ble_eq_true rfl⟩ rfl rfl rfl (Nat.le_of_ble_eq_true rfl) dL_law_620 ?_
  refine xv_icmp_eq C 995 hf dL_law_623 (by decide) (fun _ hf => ?_) (fun _ hf => absurd (Option.some.inj hf) (by decide))
  exact law_inc C hk _ _ _ hf
def K_law_16 (n L : Nat) (xs : Nat → Int32) (k : Int32 → St → St → Option Int32) (x3 : Int32) (a b : St) : Option Int32 :=
  if x3 + 1 < 0 ∨ L ≤ (x3 + 1).toNatClampNeg then none else
  if x3 + 2 < 0 ∨ L ≤ (x3 + 2).toNatClampNeg then none else
  (f_X5_sum n (xs (x3 + 1).toNatClampNeg) (xs (x3 + 2).toNatClampNeg) a).bind fun q1 =>
  if x3 + 1 < 0 ∨ L ≤ (x3 + 1).toNatClampNeg then none else
  if x3 + 2 < 0 ∨ L ≤ (x3 + 2).toNatClampNeg then none else
  (f_X6_sum n (xs (x3 + 1).toNatClampNeg) (xs (x3 + 2).toNatClampNeg) b).bind fun q2 =>
  if q1.1 = q2.1 then k (x3 + 5) q1.2 q2.2
  else some 0
set_option maxRecDepth 100000 in
set_option maxHeartbeats 4000000 in
theorem k_law_16 {K : CTX} {gX : GX} {cZ : ClassId} {adM : Nat → Nat} {N0 s0 n L : Nat} {xs : Nat → Int32} (C : CC K (sL gX cZ adM N0) cL_law 4 lw_tbl RL room_1) (hL : LW gX cZ adM N0) (hLS : LScr K s0 L xs N0) {k : Int32 → St → St → Option Int32} (hk : ∀ (x : Int32) (a b : St), k x a b = some 1 → V K (sL gX cZ adM N0) 4 (comb a b) [(0, .ref s0), (1, .ref (aX gX 0)), (2, .ref (aM (mkM gX cZ adM) 0)), (3, .int x)] 18 []) (x3 : Int32) (a b : St) (hf : K_law_16 n L xs k x3 a b = some 1) : V K (sL gX cZ adM N0) 4 (comb a b) [(0, .ref s0), (1, .ref (aX gX 0)), (2, .ref (aM (mkM gX cZ adM) 0)), (3, .int x3)] 628 [] := by
  rw [K_law_16] at hf
  refine xv_aload_n C dL_law_628 rfl 1 rfl ?_
  refine xv_aload_n C dL_law_629 rfl 0 rfl ?_
  refine xv_iload_n C dL_law_630 rfl 3 rfl ?_
  refine xv_iconst C 1 dL_law_631 (by decide) ?_
  refine xv_iadd C dL_law_632 ?_
  refine xl_sld C rfl hLS hf dL_law_633 (fun hf => ?_)
  refine xv_aload_n C dL_law_634 rfl 0 rfl ?_
  refine xv_iload_n C dL_law_635 rfl 3 rfl ?_
  refine xv_iconst C 2 dL_law_636 (by decide) ?_
  refine xv_iadd C dL_law_637 ?_
  refine xl_sld C rfl hLS hf dL_law_638 (fun hf => ?_)
  obtain ⟨q1, hg, hf⟩ := dt_bind hf
  refine xl_Xi C hL (As := [.int (xs (x3 + 1).toNatClampNeg), .int (xs (x3 + 2).toNatClampNeg)]) (fun l => c_X5_sum gX hL.1 l n (xs (x3 + 1).toNatClampNeg) (xs (x3 + 2).toNatClampNeg) a q1 hg) lwG_X5_sum rfl ⟨rfl, rfl⟩ hdV_X5_sum ⟨Nat.le_of_ble_eq_true rfl, Nat.le_of_ble_eq_true rfl⟩ rfl rfl rfl (Nat.le_of_ble_eq_true rfl) dL_law_639 ?_
  refine xv_aload_n C dL_law_642 rfl 2 rfl ?_
  refine xv_aload_n C dL_law_643 rfl 0 rfl ?_
  refine xv_iload_n C dL_law_644 rfl 3 rfl ?_
  refine xv_iconst C 1 dL_law_645 (by decide) ?_
  refine xv_iadd C dL_law_646 ?_
  refine xl_sld C rfl hLS hf dL_law_647 (fun hf => ?_)
  refine xv_aload_n C dL_law_648 rfl 0 rfl ?_
  refine xv_iload_n C dL_law_649 rfl 3 rfl ?_
  refine xv_iconst C 2 dL_law_650 (by decide) ?_
  refine xv_iadd C dL_law_651 ?_
  refine xl_sld C rfl hLS hf dL_law_652 (fun hf => ?_)
  obtain ⟨q2, hg, hf⟩ := dt_bind hf
  refine xl_Mi C hL (As := [.int (xs (x3 + 1).toNatClampNeg), .int (xs (x3 + 2).toNatClampNeg)]) (fun l => c_X6_sum (mkM gX cZ adM) hL.2.1 l n (xs (x3 + 1).toNatClampNeg) (xs (x3 + 2).toNatClampNeg) b q2 hg) lwG_X6_sum rfl ⟨rfl, rfl⟩ hdV_X6_sum ⟨Nat.le_of_ble_eq_true rfl, Nat.le_of_ble_eq_true rfl⟩ rfl rfl rfl (Nat.le_of_ble_eq_true rfl) dL_law_653 ?_
  refine xv_icmp_eq C 995 hf dL_law_656 (by decide) (fun _ hf => ?_) (fun _ hf => absurd (Option.some.inj hf) (by decide))
  exact law_inc C hk _ _ _ hf
def K_law_17 (n L : Nat) (xs : Nat → Int32) (k : Int32 → St → St → Option Int32) (x3 : Int32) (a b : St) : Option Int32 :=
  if x3 + 1 < 0 ∨ L ≤ (x3 + 1).toNatClampNeg then none else
  if x3 + 2 < 0 ∨ L ≤ (x3 + 2).toNatClampNeg then none else
  if x3 + 3 < 0 ∨ L ≤ (x3 + 3).toNatClampNeg then none else
  (f_X5_council n (xs (x3 + 1).toNatClampNeg) (xs (x3 + 2).toNatClampNeg) (xs (x3 + 3).toNatClampNeg) a).bind fun q1 =>
  if x3 + 1 < 0 ∨ L ≤ (x3 + 1).toNatClampNeg then none else
  if x3 + 2 < 0 ∨ L ≤ (x3 + 2).toNatClampNeg then none else
  if x3 + 3 < 0 ∨ L ≤ (x3 + 3).toNatClampNeg then none else
  (f_X6_council n (xs (x3 + 1).toNatClampNeg) (xs (x3 + 2).toNatClampNeg) (xs (x3 + 3).toNatClampNeg) b).bind fun q2 =>
  if q1.1 = q2.1 then k (x3 + 5) q1.2 q2.2
  else some 0
set_option maxRecDepth 100000 in
set_option maxHeartbeats 4000000 in
theorem k_law_17 {K : CTX} {gX : GX} {cZ : ClassId} {adM : Nat → Nat} {N0 s0 n L : Nat} {xs : Nat → Int32} (C : CC K (sL gX cZ adM N0) cL_law 4 lw_tbl RL room_1) (hL : LW gX cZ adM N0) (hLS : LScr K s0 L xs N0) {k : Int32 → St → St → Option Int32} (hk : ∀ (x : Int32) (a b : St), k x a b = some 1 → V K (sL gX cZ adM N0) 4 (comb a b) [(0, .ref s0), (1, .ref (aX gX 0)), (2, .ref (aM (mkM gX cZ adM) 0)), (3, .int x)] 18 []) (x3 : Int32) (a b : St) (hf : K_law_17 n L xs k x3 a b = some 1) : V K (sL gX cZ adM N0) 4 (comb a b) [(0, .ref s0), (1, .ref (aX gX 0)), (2, .ref (aM (mkM gX cZ adM) 0)), (3, .int x3)] 661 [] := by
  rw [K_law_17] at hf
  refine xv_aload_n C dL_law_661 rfl 1 rfl ?_
  refine xv_aload_n C dL_law_662 rfl 0 rfl ?_
  refine xv_iload_n C dL_law_663 rfl 3 rfl ?_
  refine xv_iconst C 1 dL_law_664 (by decide) ?_
  refine xv_iadd C dL_law_665 ?_
  refine xl_sld C rfl hLS hf dL_law_666 (fun hf => ?_)
  refine xv_aload_n C dL_law_667 rfl 0 rfl ?_
  refine xv_iload_n C dL_law_668 rfl 3 rfl ?_
  refine xv_iconst C 2 dL_law_669 (by decide) ?_
  refine xv_iadd C dL_law_670 ?_
  refine xl_sld C rfl hLS hf dL_law_671 (fun hf => ?_)
  refine xv_aload_n C dL_law_672 rfl 0 rfl ?_
  refine xv_iload_n C dL_law_673 rfl 3 rfl ?_
  refine xv_iconst C 3 dL_law_674 (by decide) ?_
  refine xv_iadd C dL_law_675 ?_
  refine xl_sld C rfl hLS hf dL_law_676 (fun hf => ?_)
  obtain ⟨q1, hg, hf⟩ := dt_bind hf
  refine xl_Xi C hL (As := [.int (xs (x3 + 1).toNatClampNeg), .int (xs (x3 + 2).toNatClampNeg), .int (xs (x3 + 3).toNatClampNeg)]) (fun l => c_X5_council gX hL.1 l n (xs (x3 + 1).toNatClampNeg) (xs (x3 + 2).toNatClampNeg) (xs (x3 + 3).toNatClampNeg) a q1 hg) lwG_X5_council rfl ⟨rfl, rfl⟩ hdV_X5_council ⟨Nat.le_of_ble_eq_true rfl, Nat.le_of_ble_eq_true rfl⟩ rfl rfl rfl (Nat.le_of_ble_eq_true rfl) dL_law_677 ?_
  refine xv_aload_n C dL_law_680 rfl 2 rfl ?_
  refine xv_aload_n C dL_law_681 rfl 0 rfl ?_
  refine xv_iload_n C dL_law_682 rfl 3 rfl ?_
  refine xv_iconst C 1 dL_law_683 (by decide) ?_
  refine xv_iadd C dL_law_684 ?_
  refine xl_sld C rfl hLS hf dL_law_685 (fun hf => ?_)
  refine xv_aload_n C dL_law_686 rfl 0 rfl ?_
  refine xv_iload_n C dL_law_687 rfl 3 rfl ?_
  refine xv_iconst C 2 dL_law_688 (by decide) ?_
  refine xv_iadd C dL_law_689 ?_
  refine xl_sld C rfl hLS hf dL_law_690 (fun hf => ?_)
  refine xv_aload_n C dL_law_691 rfl 0 rfl ?_
  refine xv_iload_n C dL_law_692 rfl 3 rfl ?_
  refine xv_iconst C 3 dL_law_693 (by decide) ?_
  refine xv_iadd C dL_law_694 ?_
  refine xl_sld C rfl hLS hf dL_law_695 (fun hf => ?_)
  obtain ⟨q2, hg, hf⟩ := dt_bind hf
  refine xl_Mi C hL (As := [.int (xs (x3 + 1).toNatClampNeg), .int (xs (x3 + 2).toNatClampNeg), .int (xs (x3 + 3).toNatClampNeg)]) (fun l => c_X6_council (mkM gX cZ adM) hL.2.1 l n (xs (x3 + 1).toNatClampNeg) (xs (x3 + 2).toNatClampNeg) (xs (x3 + 3).toNatClampNeg) b q2 hg) lwG_X6_council rfl ⟨rfl, rfl⟩ hdV_X6_council ⟨Nat.le_of_ble_eq_true rfl, Nat.le_of_ble_eq_true rfl⟩ rfl rfl rfl (Nat.le_of_ble_eq_true rfl) dL_law_696 ?_
  refine xv_icmp_eq C 995 hf dL_law_699 (by decide) (fun _ hf => ?_) (fun _ hf => absurd (Option.some.inj hf) (by decide))
  exact law_inc C hk _ _ _ hf
def K_law_18 (n L : Nat) (xs : Nat → Int32) (k : Int32 → St → St → Option Int32) (x3 : Int32) (a b : St) : Option Int32 :=
  if x3 + 1 < 0 ∨ L ≤ (x3 + 1).toNatClampNeg then none else
  if x3 + 2 < 0 ∨ L ≤ (x3 + 2).toNatClampNeg then none else
  if x3 + 3 < 0 ∨ L ≤ (x3 + 3).toNatClampNeg then none else
  (f_X5_idle n (xs (x3 + 1).toNatClampNeg) (xs (x3 + 2).toNatClampNeg) (xs (x3 + 3).toNatClampNeg) a).bind fun q1 =>
  if x3 + 1 < 0 ∨ L ≤ (x3 + 1).toNatClampNeg then none else
  if x3 + 2 < 0 ∨ L ≤ (x3 + 2).toNatClampNeg then none else
  if x3 + 3 < 0 ∨ L ≤ (x3 + 3).toNatClampNeg then none else
  (f_X6_idle n (xs (x3 + 1).toNatClampNeg) (xs (x3 + 2).toNatClampNeg) (xs (x3 + 3).toNatClampNeg) b).bind fun q2 =>
  if q1.1 = q2.1 then k (x3 + 5) q1.2 q2.2
  else some 0
set_option maxRecDepth 100000 in
set_option maxHeartbeats 4000000 in
theorem k_law_18 {K : CTX} {gX : GX} {cZ : ClassId} {adM : Nat → Nat} {N0 s0 n L : Nat} {xs : Nat → Int32} (C : CC K (sL gX cZ adM N0) cL_law 4 lw_tbl RL room_1) (hL : LW gX cZ adM N0) (hLS : LScr K s0 L xs N0) {k : Int32 → St → St → Option Int32} (hk : ∀ (x : Int32) (a b : St), k x a b = some 1 → V K (sL gX cZ adM N0) 4 (comb a b) [(0, .ref s0), (1, .ref (aX gX 0)), (2, .ref (aM (mkM gX cZ adM) 0)), (3, .int x)] 18 []) (x3 : Int32) (a b : St) (hf : K_law_18 n L xs k x3 a b = some 1) : V K (sL gX cZ adM N0) 4 (comb a b) [(0, .ref s0), (1, .ref (aX gX 0)), (2, .ref (aM (mkM gX cZ adM) 0)), (3, .int x3)] 704 [] := by
  rw [K_law_18] at hf
  refine xv_aload_n C dL_law_704 rfl 1 rfl ?_
  refine xv_aload_n C dL_law_705 rfl 0 rfl ?_
  refine xv_iload_n C dL_law_706 rfl 3 rfl ?_
  refine xv_iconst C 1 dL_law_707 (by decide) ?_
  refine xv_iadd C dL_law_708 ?_
  refine xl_sld C rfl hLS hf dL_law_709 (fun hf => ?_)
  refine xv_aload_n C dL_law_710 rfl 0 rfl ?_
  refine xv_iload_n C dL_law_711 rfl 3 rfl ?_
  refine xv_iconst C 2 dL_law_712 (by decide) ?_
  refine xv_iadd C dL_law_713 ?_
  refine xl_sld C rfl hLS hf dL_law_714 (fun hf => ?_)
  refine xv_aload_n C dL_law_715 rfl 0 rfl ?_
  refine xv_iload_n C dL_law_716 rfl 3 rfl ?_
  refine xv_iconst C 3 dL_law_717 (by decide) ?_
  refine xv_iadd C dL_law_718 ?_
  refine xl_sld C rfl hLS hf dL_law_719 (fun hf => ?_)
  obtain ⟨q1, hg, hf⟩ := dt_bind hf
  refine xl_Xi C hL (As := [.int (xs (x3 + 1).toNatClampNeg), .int (xs (x3 + 2).toNatClampNeg), .int (xs (x3 + 3).toNatClampNeg)]) (fun l => c_X5_idle gX hL.1 l n (xs (x3 + 1).toNatClampNeg) (xs (x3 + 2).toNatClampNeg) (xs (x3 + 3).toNatClampNeg) a q1 hg) lwG_X5_idle rfl ⟨rfl, rfl⟩ hdV_X5_idle ⟨Nat.le_of_ble_eq_true rfl, Nat.le_of_ble_eq_true rfl⟩ rfl rfl rfl (Nat.le_of_ble_eq_true rfl) dL_law_720 ?_
  refine xv_aload_n C dL_law_723 rfl 2 rfl ?_
  refine xv_aload_n C dL_law_724 rfl 0 rfl ?_
  refine xv_iload_n C dL_law_725 rfl 3 rfl ?_
  refine xv_iconst C 1 dL_law_726 (by decide) ?_
  refine xv_iadd C dL_law_727 ?_
  refine xl_sld C rfl hLS hf dL_law_728 (fun hf => ?_)
  refine xv_aload_n C dL_law_729 rfl 0 rfl ?_
  refine xv_iload_n C dL_law_730 rfl 3 rfl ?_
  refine xv_iconst C 2 dL_law_731 (by decide) ?_
  refine xv_iadd C dL_law_732 ?_
  refine xl_sld C rfl hLS hf dL_law_733 (fun hf => ?_)
  refine xv_aload_n C dL_law_734 rfl 0 rfl ?_
  refine xv_iload_n C dL_law_735 rfl 3 rfl ?_
  refine xv_iconst C 3 dL_law_736 (by decide) ?_
  refine xv_iadd C dL_law_737 ?_
  refine xl_sld C rfl hLS hf dL_law_738 (fun hf => ?_)
  obtain ⟨q2, hg, hf⟩ := dt_bind hf
  refine xl_Mi C hL (As := [.int (xs (x3 + 1).toNatClampNeg), .int (xs (x3 + 2).toNatClampNeg), .int (xs (x3 + 3).toNatClampNeg)]) (fun l => c_X6_idle (mkM gX cZ adM) hL.2.1 l n (xs (x3 + 1).toNatClampNeg) (xs (x3 + 2).toNatClampNeg) (xs (x3 + 3).toNatClampNeg) b q2 hg) lwG_X6_idle rfl ⟨rfl, rfl⟩ hdV_X6_idle ⟨Nat.le_of_ble_eq_true rfl, Nat.le_of_ble_eq_true rfl⟩ rfl rfl rfl (Nat.le_of_ble_eq_true rfl) dL_law_739 ?_
  refine xv_icmp_eq C 995 hf dL_law_742 (by decide) (fun _ hf => ?_) (fun _ hf => absurd (Option.some.inj hf) (by decide))
  exact law_inc C hk _ _ _ hf
def K_law_19 (n L : Nat) (xs : Nat → Int32) (k : Int32 → St → St → Option Int32) (x3 : Int32) (a b : St) : Option Int32 :=
  if x3 + 1 < 0 ∨ L ≤ (x3 + 1).toNatClampNeg then none else
  if x3 + 2 < 0 ∨ L ≤ (x3 + 2).toNatClampNeg then none else
  if x3 + 3 < 0 ∨ L ≤ (x3 + 3).toNatClampNeg then none else
  if x3 + 4 < 0 ∨ L ≤ (x3 + 4).toNatClampNeg then none else
  (f_X5_odds n (xs (x3 + 1).toNatClampNeg) (xs (x3 + 2).toNatClampNeg) (xs (x3 + 3).toNatClampNeg) (xs (x3 + 4).toNatClampNeg) a).bind fun q1 =>
  if x3 + 1 < 0 ∨ L ≤ (x3 + 1).toNatClampNeg then none else
  if x3 + 2 < 0 ∨ L ≤ (x3 + 2).toNatClampNeg then none else
  if x3 + 3 < 0 ∨ L ≤ (x3 + 3).toNatClampNeg then none else
  if x3 + 4 < 0 ∨ L ≤ (x3 + 4).toNatClampNeg then none else
  (f_X6_odds n (xs (x3 + 1).toNatClampNeg) (xs (x3 + 2).toNatClampNeg) (xs (x3 + 3).toNatClampNeg) (xs (x3 + 4).toNatClampNeg) b).bind fun q2 =>
  if lg_cmp q1.1 q2.1 = 0 then k (x3 + 5) q1.2 q2.2
  else some 0
set_option maxRecDepth 100000 in
set_option maxHeartbeats 4000000 in
theorem k_law_19 {K : CTX} {gX : GX} {cZ : ClassId} {adM : Nat → Nat} {N0 s0 n L : Nat} {xs : Nat → Int32} (C : CC K (sL gX cZ adM N0) cL_law 4 lw_tbl RL room_1) (hL : LW gX cZ adM N0) (hLS : LScr K s0 L xs N0) {k : Int32 → St → St → Option Int32} (hk : ∀ (x : Int32) (a b : St), k x a b = some 1 → V K (sL gX cZ adM N0) 4 (comb a b) [(0, .ref s0), (1, .ref (aX gX 0)), (2, .ref (aM (mkM gX cZ adM) 0)), (3, .int x)] 18 []) (x3 : Int32) (a b : St) (hf : K_law_19 n L xs k x3 a b = some 1) : V K (sL gX cZ adM N0) 4 (comb a b) [(0, .ref s0), (1, .ref (aX gX 0)), (2, .ref (aM (mkM gX cZ adM) 0)), (3, .int x3)] 747 [] := by
  rw [K_law_19] at hf
  refine xv_aload_n C dL_law_747 rfl 1 rfl ?_
  refine xv_aload_n C dL_law_748 rfl 0 rfl ?_
  refine xv_iload_n C dL_law_749 rfl 3 rfl ?_
  refine xv_iconst C 1 dL_law_750 (by decide) ?_
  refine xv_iadd C dL_law_751 ?_
  refine xl_sld C rfl hLS hf dL_law_752 (fun hf => ?_)
  refine xv_aload_n C dL_law_753 rfl 0 rfl ?_
  refine xv_iload_n C dL_law_754 rfl 3 rfl ?_
  refine xv_iconst C 2 dL_law_755 (by decide) ?_
  refine xv_iadd C dL_law_756 ?_
  refine xl_sld C rfl hLS hf dL_law_757 (fun hf => ?_)
  refine xv_aload_n C dL_law_758 rfl 0 rfl ?_
  refine xv_iload_n C dL_law_759 rfl 3 rfl ?_
  refine xv_iconst C 3 dL_law_760 (by decide) ?_
  refine xv_iadd C dL_law_761 ?_
  refine xl_sld C rfl hLS hf dL_law_762 (fun hf => ?_)
  refine xv_aload_n C dL_law_763 rfl 0 rfl ?_
  refine xv_iload_n C dL_law_764 rfl 3 rfl ?_
  refine xv_iconst C 4 dL_law_765 (by decide) ?_
  refine xv_iadd C dL_law_766 ?_
  refine xl_sld C rfl hLS hf dL_law_767 (fun hf => ?_)
  obtain ⟨q1, hg, hf⟩ := dt_bind hf
  refine xl_Xl C hL (As := [.int (xs (x3 + 1).toNatClampNeg), .int (xs (x3 + 2).toNatClampNeg), .int (xs (x3 + 3).toNatClampNeg), .int (xs (x3 + 4).toNatClampNeg)]) (fun l => c_X5_odds gX hL.1 l n (xs (x3 + 1).toNatClampNeg) (xs (x3 + 2).toNatClampNeg) (xs (x3 + 3).toNatClampNeg) (xs (x3 + 4).toNatClampNeg) a q1 hg) lwG_X5_odds rfl ⟨rfl, rfl⟩ hdV_X5_odds ⟨Nat.le_of_ble_eq_true rfl, Nat.le_of_ble_eq_true rfl⟩ rfl rfl rfl (Nat.le_of_ble_eq_true rfl) dL_law_768 ?_
  refine xv_aload_n C dL_law_771 rfl 2 rfl ?_
  refine xv_aload_n C dL_law_772 rfl 0 rfl ?_
  refine xv_iload_n C dL_law_773 rfl 3 rfl ?_
  refine xv_iconst C 1 dL_law_774 (by decide) ?_
  refine xv_iadd C dL_law_775 ?_
  refine xl_sld C rfl hLS hf dL_law_776 (fun hf => ?_)
  refine xv_aload_n C dL_law_777 rfl 0 rfl ?_
  refine xv_iload_n C dL_law_778 rfl 3 rfl ?_
  refine xv_iconst C 2 dL_law_779 (by decide) ?_
  refine xv_iadd C dL_law_780 ?_
  refine xl_sld C rfl hLS hf dL_law_781 (fun hf => ?_)
  refine xv_aload_n C dL_law_782 rfl 0 rfl ?_
  refine xv_iload_n C dL_law_783 rfl 3 rfl ?_
  refine xv_iconst C 3 dL_law_784 (by decide) ?_
  refine xv_iadd C dL_law_785 ?_
  refine xl_sld C rfl hLS hf dL_law_786 (fun hf => ?_)
  refine xv_aload_n C dL_law_787 rfl 0 rfl ?_
  refine xv_iload_n C dL_law_788 rfl 3 rfl ?_
  refine xv_iconst C 4 dL_law_789 (by decide) ?_
  refine xv_iadd C dL_law_790 ?_
  refine xl_sld C rfl hLS hf dL_law_791 (fun hf => ?_)
  obtain ⟨q2, hg, hf⟩ := dt_bind hf
  refine xl_Ml C hL (As := [.int (xs (x3 + 1).toNatClampNeg), .int (xs (x3 + 2).toNatClampNeg), .int (xs (x3 + 3).toNatClampNeg), .int (xs (x3 + 4).toNatClampNeg)]) (fun l => c_X6_odds (mkM gX cZ adM) hL.2.1 l n (xs (x3 + 1).toNatClampNeg) (xs (x3 + 2).toNatClampNeg) (xs (x3 + 3).toNatClampNeg) (xs (x3 + 4).toNatClampNeg) b q2 hg) lwG_X6_odds rfl ⟨rfl, rfl⟩ hdV_X6_odds ⟨Nat.le_of_ble_eq_true rfl, Nat.le_of_ble_eq_true rfl⟩ rfl rfl rfl (Nat.le_of_ble_eq_true rfl) dL_law_792 ?_
  refine xv_lcmp C dL_law_795 ?_
  refine xv_if_eq C (y := 0) 995 hf dL_law_796 (by decide) (fun _ hf => ?_) (fun _ hf => absurd (Option.some.inj hf) (by decide))
  exact law_inc C hk _ _ _ hf
def K_law_20 (n L : Nat) (xs : Nat → Int32) (k : Int32 → St → St → Option Int32) (x3 : Int32) (a b : St) : Option Int32 :=
  if x3 + 1 < 0 ∨ L ≤ (x3 + 1).toNatClampNeg then none else
  (f_X5_pair n (xs (x3 + 1).toNatClampNeg) a).bind fun q1 =>
  if x3 + 1 < 0 ∨ L ≤ (x3 + 1).toNatClampNeg then none else
  (f_X6_pair n (xs (x3 + 1).toNatClampNeg) b).bind fun q2 =>
  if q1.1 = q2.1 then k (x3 + 5) q1.2 q2.2
  else some 0
set_option maxRecDepth 100000 in
set_option maxHeartbeats 4000000 in
theorem k_law_20 {K : CTX} {gX : GX} {cZ : ClassId} {adM : Nat → Nat} {N0 s0 n L : Nat} {xs : Nat → Int32} (C : CC K (sL gX cZ adM N0) cL_law 4 lw_tbl RL room_1) (hL : LW gX cZ adM N0) (hLS : LScr K s0 L xs N0) {k : Int32 → St → St → Option Int32} (hk : ∀ (x : Int32) (a b : St), k x a b = some 1 → V K (sL gX cZ adM N0) 4 (comb a b) [(0, .ref s0), (1, .ref (aX gX 0)), (2, .ref (aM (mkM gX cZ adM) 0)), (3, .int x)] 18 []) (x3 : Int32) (a b : St) (hf : K_law_20 n L xs k x3 a b = some 1) : V K (sL gX cZ adM N0) 4 (comb a b) [(0, .ref s0), (1, .ref (aX gX 0)), (2, .ref (aM (mkM gX cZ adM) 0)), (3, .int x3)] 801 [] := by
  rw [K_law_20] at hf
  refine xv_aload_n C dL_law_801 rfl 1 rfl ?_
  refine xv_aload_n C dL_law_802 rfl 0 rfl ?_
  refine xv_iload_n C dL_law_803 rfl 3 rfl ?_
  refine xv_iconst C 1 dL_law_804 (by decide) ?_
  refine xv_iadd C dL_law_805 ?_
  refine xl_sld C rfl hLS hf dL_law_806 (fun hf => ?_)
  obtain ⟨q1, hg, hf⟩ := dt_bind hf
  refine xl_Xi C hL (As := [.int (xs (x3 + 1).toNatClampNeg)]) (fun l => c_X5_pair gX hL.1 l n (xs (x3 + 1).toNatClampNeg) a q1 hg) lwG_X5_pair rfl ⟨rfl, rfl⟩ hdV_X5_pair ⟨Nat.le_of_ble_eq_true rfl, Nat.le_of_ble_eq_true rfl⟩ rfl rfl rfl (Nat.le_of_ble_eq_true rfl) dL_law_807 ?_
  refine xv_aload_n C dL_law_810 rfl 2 rfl ?_
  refine xv_aload_n C dL_law_811 rfl 0 rfl ?_
  refine xv_iload_n C dL_law_812 rfl 3 rfl ?_
  refine xv_iconst C 1 dL_law_813 (by decide) ?_
  refine xv_iadd C dL_law_814 ?_
  refine xl_sld C rfl hLS hf dL_law_815 (fun hf => ?_)
  obtain ⟨q2, hg, hf⟩ := dt_bind hf
  refine xl_Mi C hL (As := [.int (xs (x3 + 1).toNatClampNeg)]) (fun l => c_X6_pair (mkM gX cZ adM) hL.2.1 l n (xs (x3 + 1).toNatClampNeg) b q2 hg) lwG_X6_pair rfl ⟨rfl, rfl⟩ hdV_X6_pair ⟨Nat.le_of_ble_eq_true rfl, Nat.le_of_ble_eq_true rfl⟩ rfl rfl rfl (Nat.le_of_ble_eq_true rfl) dL_law_816 ?_
  refine xv_icmp_eq C 995 hf dL_law_819 (by decide) (fun _ hf => ?_) (fun _ hf => absurd (Option.some.inj hf) (by decide))
  exact law_inc C hk _ _ _ hf
def K_law_21 (n L : Nat) (xs : Nat → Int32) (k : Int32 → St → St → Option Int32) (x3 : Int32) (a b : St) : Option Int32 :=
  if x3 + 1 < 0 ∨ L ≤ (x3 + 1).toNatClampNeg then none else
  (f_X5_town n (xs (x3 + 1).toNatClampNeg) a).bind fun q1 =>
  if x3 + 1 < 0 ∨ L ≤ (x3 + 1).toNatClampNeg then none else
  (f_X6_town n (xs (x3 + 1).toNatClampNeg) b).bind fun q2 =>
  if q1 = q2 then k (x3 + 5) a b
  else some 0
set_option maxRecDepth 100000 in
set_option maxHeartbeats 4000000 in
theorem k_law_21 {K : CTX} {gX : GX} {cZ : ClassId} {adM : Nat → Nat} {N0 s0 n L : Nat} {xs : Nat → Int32} (C : CC K (sL gX cZ adM N0) cL_law 4 lw_tbl RL room_1) (hL : LW gX cZ adM N0) (hLS : LScr K s0 L xs N0) {k : Int32 → St → St → Option Int32} (hk : ∀ (x : Int32) (a b : St), k x a b = some 1 → V K (sL gX cZ adM N0) 4 (comb a b) [(0, .ref s0), (1, .ref (aX gX 0)), (2, .ref (aM (mkM gX cZ adM) 0)), (3, .int x)] 18 []) (x3 : Int32) (a b : St) (hf : K_law_21 n L xs k x3 a b = some 1) : V K (sL gX cZ adM N0) 4 (comb a b) [(0, .ref s0), (1, .ref (aX gX 0)), (2, .ref (aM (mkM gX cZ adM) 0)), (3, .int x3)] 824 [] := by
  rw [K_law_21] at hf
  refine xv_aload_n C dL_law_824 rfl 1 rfl ?_
  refine xv_aload_n C dL_law_825 rfl 0 rfl ?_
  refine xv_iload_n C dL_law_826 rfl 3 rfl ?_
  refine xv_iconst C 1 dL_law_827 (by decide) ?_
  refine xv_iadd C dL_law_828 ?_
  refine xl_sld C rfl hLS hf dL_law_829 (fun hf => ?_)
  obtain ⟨q1, hg, hf⟩ := dt_bind hf
  refine xl_Xi C hL (As := [.int (xs (x3 + 1).toNatClampNeg)]) (fun l => c_X5_town gX hL.1 l n (xs (x3 + 1).toNatClampNeg) a q1 hg) lwG_X5_town rfl ⟨rfl, rfl⟩ hdV_X5_town ⟨Nat.le_of_ble_eq_true rfl, Nat.le_of_ble_eq_true rfl⟩ rfl rfl rfl (Nat.le_of_ble_eq_true rfl) dL_law_830 ?_
  refine xv_aload_n C dL_law_833 rfl 2 rfl ?_
  refine xv_aload_n C dL_law_834 rfl 0 rfl ?_
  refine xv_iload_n C dL_law_835 rfl 3 rfl ?_
  refine xv_iconst C 1 dL_law_836 (by decide) ?_
  refine xv_iadd C dL_law_837 ?_
  refine xl_sld C rfl hLS hf dL_law_838 (fun hf => ?_)
  obtain ⟨q2, hg, hf⟩ := dt_bind hf
  refine xl_Mi C hL (As := [.int (xs (x3 + 1).toNatClampNeg)]) (fun l => c_X6_town (mkM gX cZ adM) hL.2.1 l n (xs (x3 + 1).toNatClampNeg) b q2 hg) lwG_X6_town rfl ⟨rfl, rfl⟩ hdV_X6_town ⟨Nat.le_of_ble_eq_true rfl, Nat.le_of_ble_eq_true rfl⟩ rfl rfl rfl (Nat.le_of_ble_eq_true rfl) dL_law_839 ?_
  refine xv_icmp_eq C 995 hf dL_law_842 (by decide) (fun _ hf => ?_) (fun _ hf => absurd (Option.some.inj hf) (by decide))
  exact law_inc C hk _ _ _ hf
def K_law_22 (n L : Nat) (xs : Nat → Int32) (k : Int32 → St → St → Option Int32) (x3 : Int32) (a b : St) : Option Int32 :=
  if x3 + 1 < 0 ∨ L ≤ (x3 + 1).toNatClampNeg then none else
  if x3 + 2 < 0 ∨ L ≤ (x3 + 2).toNatClampNeg then none else
  if x3 + 3 < 0 ∨ L ≤ (x3 + 3).toNatClampNeg then none else
  (f_X5_seen (xs (x3 + 1).toNatClampNeg) (xs (x3 + 2).toNatClampNeg) (xs (x3 + 3).toNatClampNeg) a).bind fun q1 =>
  if x3 + 1 < 0 ∨ L ≤ (x3 + 1).toNatClampNeg then none else
  if x3 + 2 < 0 ∨ L ≤ (x3 + 2).toNatClampNeg then none else
  if x3 + 3 < 0 ∨ L ≤ (x3 + 3).toNatClampNeg then none else
  (f_X6_seen (xs (x3 + 1).toNatClampNeg) (xs (x3 + 2).toNatClampNeg) (xs (x3 + 3).toNatClampNeg) b).bind fun q2 =>
  if q1.1 = q2.1 then k (x3 + 5) q1.2 q2.2
  else some 0
set_option maxRecDepth 100000 in
set_option maxHeartbeats 4000000 in
theorem k_law_22 {K : CTX} {gX : GX} {cZ : ClassId} {adM : Nat → Nat} {N0 s0 n L : Nat} {xs : Nat → Int32} (C : CC K (sL gX cZ adM N0) cL_law 4 lw_tbl RL room_1) (hL : LW gX cZ adM N0) (hLS : LScr K s0 L xs N0) {k : Int32 → St → St → Option Int32} (hk : ∀ (x : Int32) (a b : St), k x a b = some 1 → V K (sL gX cZ adM N0) 4 (comb a b) [(0, .ref s0), (1, .ref (aX gX 0)), (2, .ref (aM (mkM gX cZ adM) 0)), (3, .int x)] 18 []) (x3 : Int32) (a b : St) (hf : K_law_22 n L xs k x3 a b = some 1) : V K (sL gX cZ adM N0) 4 (comb a b) [(0, .ref s0), (1, .ref (aX gX 0)), (2, .ref (aM (mkM gX cZ adM) 0)), (3, .int x3)] 847 [] := by
  rw [K_law_22] at hf
  refine xv_aload_n C dL_law_847 rfl 1 rfl ?_
  refine xv_aload_n C dL_law_848 rfl 0 rfl ?_
  refine xv_iload_n C dL_law_849 rfl 3 rfl ?_
  refine xv_iconst C 1 dL_law_850 (by decide) ?_
  refine xv_iadd C dL_law_851 ?_
  refine xl_sld C rfl hLS hf dL_law_852 (fun hf => ?_)
  refine xv_aload_n C dL_law_853 rfl 0 rfl ?_
  refine xv_iload_n C dL_law_854 rfl 3 rfl ?_
  refine xv_iconst C 2 dL_law_855 (by decide) ?_
  refine xv_iadd C dL_law_856 ?_
  refine xl_sld C rfl hLS hf dL_law_857 (fun hf => ?_)
  refine xv_aload_n C dL_law_858 rfl 0 rfl ?_
  refine xv_iload_n C dL_law_859 rfl 3 rfl ?_
  refine xv_iconst C 3 dL_law_860 (by decide) ?_
  refine xv_iadd C dL_law_861 ?_
  refine xl_sld C rfl hLS hf dL_law_862 (fun hf => ?_)
  obtain ⟨q1, hg, hf⟩ := dt_bind hf
  refine xl_Xi C hL (As := [.int (xs (x3 + 1).toNatClampNeg), .int (xs (x3 + 2).toNatClampNeg), .int (xs (x3 + 3).toNatClampNeg)]) (fun l => c_X5_seen gX hL.1 l (xs (x3 + 1).toNatClampNeg) (xs (x3 + 2).toNatClampNeg) (xs (x3 + 3).toNatClampNeg) a q1 hg) lwG_X5_seen rfl ⟨rfl, rfl⟩ hdV_X5_seen ⟨Nat.le_of_ble_eq_true rfl, Nat.le_of_ble_eq_true rfl⟩ rfl rfl rfl (Nat.le_of_ble_eq_true rfl) dL_law_863 ?_
  refine xv_aload_n C dL_law_866 rfl 2 rfl ?_
  refine xv_aload_n C dL_law_867 rfl 0 rfl ?_
  refine xv_iload_n C dL_law_868 rfl 3 rfl ?_
  refine xv_iconst C 1 dL_law_869 (by decide) ?_
  refine xv_iadd C dL_law_870 ?_
  refine xl_sld C rfl hLS hf dL_law_871 (fun hf => ?_)
  refine xv_aload_n C dL_law_872 rfl 0 rfl ?_
  refine xv_iload_n C dL_law_873 rfl 3 rfl ?_
  refine xv_iconst C 2 dL_law_874 (by decide) ?_
  refine xv_iadd C dL_law_875 ?_
  refine xl_sld C rfl hLS hf dL_law_876 (fun hf => ?_)
  refine xv_aload_n C dL_law_877 rfl 0 rfl ?_
  refine xv_iload_n C dL_law_878 rfl 3 rfl ?_
  refine xv_iconst C 3 dL_law_879 (by decide) ?_
  refine xv_iadd C dL_law_880 ?_
  refine xl_sld C rfl hLS hf dL_law_881 (fun hf => ?_)
  obtain ⟨q2, hg, hf⟩ := dt_bind hf
  refine xl_Mi C hL (As := [.int (xs (x3 + 1).toNatClampNeg), .int (xs (x3 + 2).toNatClampNeg), .int (xs (x3 + 3).toNatClampNeg)]) (fun l => c_X6_seen (mkM gX cZ adM) hL.2.1 l (xs (x3 + 1).toNatClampNeg) (xs (x3 + 2).toNatClampNeg) (xs (x3 + 3).toNatClampNeg) b q2 hg) lwG_X6_seen rfl ⟨rfl, rfl⟩ hdV_X6_seen ⟨Nat.le_of_ble_eq_true rfl, Nat.le_of_ble_eq_true rfl⟩ rfl rfl rfl (Nat.le_of_ble_eq_true rfl) dL_law_882 ?_
  refine xv_icmp_eq C 995 hf dL_law_885 (by decide) (fun _ hf => ?_) (fun _ hf => absurd (Option.some.inj hf) (by decide))
  exact law_inc C hk _ _ _ hf
def K_law_23 (n L : Nat) (xs : Nat → Int32) (k : Int32 → St → St → Option Int32) (x3 : Int32) (a b : St) : Option Int32 :=
  (f_X5_forget a).bind fun q1 =>
  (f_X6_forget b).bind fun q2 =>
  if q1.1 = q2.1 then k (x3 + 5) q1.2 q2.2
  else some 0
set_option maxRecDepth 100000 in
set_option maxHeartbeats 4000000 in
theorem k_law_23 {K : CTX} {gX : GX} {cZ : ClassId} {adM : Nat → Nat} {N0 s0 n L : Nat} {xs : Nat → Int32} (C : CC K (sL gX cZ adM N0) cL_law 4 lw_tbl RL room_1) (hL : LW gX cZ adM N0) (hLS : LScr K s0 L xs N0) {k : Int32 → St → St → Option Int32} (hk : ∀ (x : Int32) (a b : St), k x a b = some 1 → V K (sL gX cZ adM N0) 4 (comb a b) [(0, .ref s0), (1, .ref (aX gX 0)), (2, .ref (aM (mkM gX cZ adM) 0)), (3, .int x)] 18 []) (x3 : Int32) (a b : St) (hf : K_law_23 n L xs k x3 a b = some 1) : V K (sL gX cZ adM N0) 4 (comb a b) [(0, .ref s0), (1, .ref (aX gX 0)), (2, .ref (aM (mkM gX cZ adM) 0)), (3, .int x3)] 890 [] := by
  rw [K_law_23] at hf
  refine xv_aload_n C dL_law_890 rfl 1 rfl ?_
  obtain ⟨q1, hg, hf⟩ := dt_bind hf
  refine xl_Xi C hL (As := []) (fun l => c_X5_forget gX hL.1 l a q1 hg) lwG_X5_forget rfl ⟨rfl, rfl⟩ hdV_X5_forget ⟨Nat.le_of_ble_eq_true rfl, Nat.le_of_ble_eq_true rfl⟩ rfl rfl rfl (Nat.le_of_ble_eq_true rfl) dL_law_891 ?_
  refine xv_aload_n C dL_law_894 rfl 2 rfl ?_
  obtain ⟨q2, hg, hf⟩ := dt_bind hf
  refine xl_Mi C hL (As := []) (fun l => c_X6_forget (mkM gX cZ adM) hL.2.1 l b q2 hg) lwG_X6_forget rfl ⟨rfl, rfl⟩ hdV_X6_forget ⟨Nat.le_of_ble_eq_true rfl, Nat.le_of_ble_eq_true rfl⟩ rfl rfl rfl (Nat.le_of_ble_eq_true rfl) dL_law_895 ?_
  refine xv_icmp_eq C 995 hf dL_law_898 (by decide) (fun _ hf => ?_) (fun _ hf => absurd (Option.some.inj hf) (by decide))
  exact law_inc C hk _ _ _ hf
def K_law_24 (n L : Nat) (xs : Nat → Int32) (k : Int32 → St → St → Option Int32) (x3 : Int32) (a b : St) : Option Int32 :=
  if x3 + 1 < 0 ∨ L ≤ (x3 + 1).toNatClampNeg then none else
  (f_X5_fits n (xs (x3 + 1).toNatClampNeg) a).bind fun q1 =>
  if x3 + 1 < 0 ∨ L ≤ (x3 + 1).toNatClampNeg then none else
  (f_X6_fits n (xs (x3 + 1).toNatClampNeg) b).bind fun q2 =>
  if q1.1 = q2.1 then k (x3 + 5) q1.2 q2.2
  else some 0
set_option maxRecDepth 100000 in
set_option maxHeartbeats 4000000 in
theorem k_law_24 {K : CTX} {gX : GX} {cZ : ClassId} {adM : Nat → Nat} {N0 s0 n L : Nat} {xs : Nat → Int32} (C : CC K (sL gX cZ adM N0) cL_law 4 lw_tbl RL room_1) (hL : LW gX cZ adM N0) (hLS : LScr K s0 L xs N0) {k : Int32 → St → St → Option Int32} (hk : ∀ (x : Int32) (a b : St), k x a b = some 1 → V K (sL gX cZ adM N0) 4 (comb a b) [(0, .ref s0), (1, .ref (aX gX 0)), (2, .ref (aM (mkM gX cZ adM) 0)), (3, .int x)] 18 []) (x3 : Int32) (a b : St) (hf : K_law_24 n L xs k x3 a b = some 1) : V K (sL gX cZ adM N0) 4 (comb a b) [(0, .ref s0), (1, .ref (aX gX 0)), (2, .ref (aM (mkM gX cZ adM) 0)), (3, .int x3)] 903 [] := by
  rw [K_law_24] at hf
  refine xv_aload_n C dL_law_903 rfl 1 rfl ?_
  refine xv_aload_n C dL_law_904 rfl 0 rfl ?_
  refine xv_iload_n C dL_law_905 rfl 3 rfl ?_
  refine xv_iconst C 1 dL_law_906 (by decide) ?_
  refine xv_iadd C dL_law_907 ?_
  refine xl_sld C rfl hLS hf dL_law_908 (fun hf => ?_)
  obtain ⟨q1, hg, hf⟩ := dt_bind hf
  refine xl_Xi C hL (As := [.int (xs (x3 + 1).toNatClampNeg)]) (fun l => c_X5_fits gX hL.1 l n (xs (x3 + 1).toNatClampNeg) a q1 hg) lwG_X5_fits rfl ⟨rfl, rfl⟩ hdV_X5_fits ⟨Nat.le_of_ble_eq_true rfl, Nat.le_of_ble_eq_true rfl⟩ rfl rfl rfl (Nat.le_of_ble_eq_true rfl) dL_law_909 ?_
  refine xv_aload_n C dL_law_912 rfl 2 rfl ?_
  refine xv_aload_n C dL_law_913 rfl 0 rfl ?_
  refine xv_iload_n C dL_law_914 rfl 3 rfl ?_
  refine xv_iconst C 1 dL_law_915 (by decide) ?_
  refine xv_iadd C dL_law_916 ?_
  refine xl_sld C rfl hLS hf dL_law_917 (fun hf => ?_)
  obtain ⟨q2, hg, hf⟩ := dt_bind hf
  refine xl_Mi C hL (As := [.int (xs (x3 + 1).toNatClampNeg)]) (fun l => c_X6_fits (mkM gX cZ adM) hL.2.1 l n (xs (x3 + 1).toNatClampNeg) b q2 hg) lwG_X6_fits rfl ⟨rfl, rfl⟩ hdV_X6_fits ⟨Nat.le_of_ble_eq_true rfl, Nat.le_of_ble_eq_true rfl⟩ rfl rfl rfl (Nat.le_of_ble_eq_true rfl) dL_law_918 ?_
  refine xv_icmp_eq C 995 hf dL_law_921 (by decide) (fun _ hf => ?_) (fun _ hf => absurd (Option.some.inj hf) (by decide))
  exact law_inc C hk _ _ _ hf
def K_law_25 (n L : Nat) (xs : Nat → Int32) (k : Int32 → St → St → Option Int32) (x3 : Int32) (a b : St) : Option Int32 :=
  if x3 + 1 < 0 ∨ L ≤ (x3 + 1).toNatClampNeg then none else
  (f_X5_keep (xs (x3 + 1).toNatClampNeg) a).bind fun q1 =>
  if x3 + 1 < 0 ∨ L ≤ (x3 + 1).toNatClampNeg then none else
  (f_X6_keep n (xs (x3 + 1).toNatClampNeg) b).bind fun q2 =>
  if q1.1 = q2.1 then k (x3 + 5) q1.2 q2.2
  else some 0
set_option maxRecDepth 100000 in
set_option maxHeartbeats 4000000 in
theorem k_law_25 {K : CTX} {gX : GX} {cZ : ClassId} {adM : Nat → Nat} {N0 s0 n L : Nat} {xs : Nat → Int32} (C : CC K (sL gX cZ adM N0) cL_law 4 lw_tbl RL room_1) (hL : LW gX cZ adM N0) (hLS : LScr K s0 L xs N0) {k : Int32 → St → St → Option Int32} (hk : ∀ (x : Int32) (a b : St), k x a b = some 1 → V K (sL gX cZ adM N0) 4 (comb a b) [(0, .ref s0), (1, .ref (aX gX 0)), (2, .ref (aM (mkM gX cZ adM) 0)), (3, .int x)] 18 []) (x3 : Int32) (a b : St) (hf : K_law_25 n L xs k x3 a b = some 1) : V K (sL gX cZ adM N0) 4 (comb a b) [(0, .ref s0), (1, .ref (aX gX 0)), (2, .ref (aM (mkM gX cZ adM) 0)), (3, .int x3)] 926 [] := by
  rw [K_law_25] at hf
  refine xv_aload_n C dL_law_926 rfl 1 rfl ?_
  refine xv_aload_n C dL_law_927 rfl 0 rfl ?_
  refine xv_iload_n C dL_law_928 rfl 3 rfl ?_
  refine xv_iconst C 1 dL_law_929 (by decide) ?_
  refine xv_iadd C dL_law_930 ?_
  refine xl_sld C rfl hLS hf dL_law_931 (fun hf => ?_)
  obtain ⟨q1, hg, hf⟩ := dt_bind hf
  refine xl_Xi C hL (As := [.int (xs (x3 + 1).toNatClampNeg)]) (fun l => c_X5_keep gX hL.1 l (xs (x3 + 1).toNatClampNeg) a q1 hg) lwG_X5_keep rfl ⟨rfl, rfl⟩ hdV_X5_keep ⟨Nat.le_of_ble_eq_true rfl, Nat.le_of_ble_eq_true rfl⟩ rfl rfl rfl (Nat.le_of_ble_eq_true rfl) dL_law_932 ?_
  refine xv_aload_n C dL_law_935 rfl 2 rfl ?_
  refine xv_aload_n C dL_law_936 rfl 0 rfl ?_
  refine xv_iload_n C dL_law_937 rfl 3 rfl ?_
  refine xv_iconst C 1 dL_law_938 (by decide) ?_
  refine xv_iadd C dL_law_939 ?_
  refine xl_sld C rfl hLS hf dL_law_940 (fun hf => ?_)
  obtain ⟨q2, hg, hf⟩ := dt_bind hf
  refine xl_Mi C hL (As := [.int (xs (x3 + 1).toNatClampNeg)]) (fun l => c_X6_keep (mkM gX cZ adM) hL.2.1 l n (xs (x3 + 1).toNatClampNeg) b q2 hg) lwG_X6_keep rfl ⟨rfl, rfl⟩ hdV_X6_keep ⟨Nat.le_of_ble_eq_true rfl, Nat.le_of_ble_eq_true rfl⟩ rfl rfl rfl (Nat.le_of_ble_eq_true rfl) dL_law_941 ?_
  refine xv_icmp_eq C 995 hf dL_law_944 (by decide) (fun _ hf => ?_) (fun _ hf => absurd (Option.some.inj hf) (by decide))
  exact law_inc C hk _ _ _ hf
def K_law_26 (n L : Nat) (xs : Nat → Int32) (k : Int32 → St → St → Option Int32) (x3 : Int32) (a b : St) : Option Int32 :=
  if x3 + 1 < 0 ∨ L ≤ (x3 + 1).toNatClampNeg then none else
  (f_X5_back (xs (x3 + 1).toNatClampNeg) a).bind fun q1 =>
  if x3 + 1 < 0 ∨ L ≤ (x3 + 1).toNatClampNeg then none else
  (f_X6_back n (xs (x3 + 1).toNatClampNeg) b).bind fun q2 =>
  if q1.1 = q2.1 then k (x3 + 5) q1.2 q2.2
  else some 0
set_option maxRecDepth 100000 in
set_option maxHeartbeats 4000000 in
theorem k_law_26 {K : CTX} {gX : GX} {cZ : ClassId} {adM : Nat → Nat} {N0 s0 n L : Nat} {xs : Nat → Int32} (C : CC K (sL gX cZ adM N0) cL_law 4 lw_tbl RL room_1) (hL : LW gX cZ adM N0) (hLS : LScr K s0 L xs N0) {k : Int32 → St → St → Option Int32} (hk : ∀ (x : Int32) (a b : St), k x a b = some 1 → V K (sL gX cZ adM N0) 4 (comb a b) [(0, .ref s0), (1, .ref (aX gX 0)), (2, .ref (aM (mkM gX cZ adM) 0)), (3, .int x)] 18 []) (x3 : Int32) (a b : St) (hf : K_law_26 n L xs k x3 a b = some 1) : V K (sL gX cZ adM N0) 4 (comb a b) [(0, .ref s0), (1, .ref (aX gX 0)), (2, .ref (aM (mkM gX cZ adM) 0)), (3, .int x3)] 949 [] := by
  rw [K_law_26] at hf
  refine xv_aload_n C dL_law_949 rfl 1 rfl ?_
  refine xv_aload_n C dL_law_950 rfl 0 rfl ?_
  refine xv_iload_n C dL_law_951 rfl 3 rfl ?_
  refine xv_iconst C 1 dL_law_952 (by decide) ?_
  refine xv_iadd C dL_law_953 ?_
  refine xl_sld C rfl hLS hf dL_law_954 (fun hf => ?_)
  obtain ⟨q1, hg, hf⟩ := dt_bind hf
  refine xl_Xi C hL (As := [.int (xs (x3 + 1).toNatClampNeg)]) (fun l => c_X5_back gX hL.1 l (xs (x3 + 1).toNatClampNeg) a q1 hg) lwG_X5_back rfl ⟨rfl, rfl⟩ hdV_X5_back ⟨Nat.le_of_ble_eq_true rfl, Nat.le_of_ble_eq_true rfl⟩ rfl rfl rfl (Nat.le_of_ble_eq_true rfl) dL_law_955 ?_
  refine xv_aload_n C dL_law_958 rfl 2 rfl ?_
  refine xv_aload_n C dL_law_959 rfl 0 rfl ?_
  refine xv_iload_n C dL_law_960 rfl 3 rfl ?_
  refine xv_iconst C 1 dL_law_961 (by decide) ?_
  refine xv_iadd C dL_law_962 ?_
  refine xl_sld C rfl hLS hf dL_law_963 (fun hf => ?_)
  obtain ⟨q2, hg, hf⟩ := dt_bind hf
  refine xl_Mi C hL (As := [.int (xs (x3 + 1).toNatClampNeg)]) (fun l => c_X6_back (mkM gX cZ adM) hL.2.1 l n (xs (x3 + 1).toNatClampNeg) b q2 hg) lwG_X6_back rfl ⟨rfl, rfl⟩ hdV_X6_back ⟨Nat.le_of_ble_eq_true rfl, Nat.le_of_ble_eq_true rfl⟩ rfl rfl rfl (Nat.le_of_ble_eq_true rfl) dL_law_964 ?_
  refine xv_icmp_eq C 995 hf dL_law_967 (by decide) (fun _ hf => ?_) (fun _ hf => absurd (Option.some.inj hf) (by decide))
  exact law_inc C hk _ _ _ hf
def K_law_27 (n L : Nat) (xs : Nat → Int32) (k : Int32 → St → St → Option Int32) (x3 : Int32) (a b : St) : Option Int32 :=
  if x3 + 1 < 0 ∨ L ≤ (x3 + 1).toNatClampNeg then none else
  (f_X5_count (xs (x3 + 1).toNatClampNeg) a).bind fun q1 =>
  if x3 + 1 < 0 ∨ L ≤ (x3 + 1).toNatClampNeg then none else
  (f_X6_count (xs (x3 + 1).toNatClampNeg) b).bind fun q2 =>
  if q1 = q2 then k (x3 + 5) a b
  else some 0
set_option maxRecDepth 100000 in
set_option maxHeartbeats 4000000 in
theorem k_law_27 {K : CTX} {gX : GX} {cZ : ClassId} {adM : Nat → Nat} {N0 s0 n L : Nat} {xs : Nat → Int32} (C : CC K (sL gX cZ adM N0) cL_law 4 lw_tbl RL room_1) (hL : LW gX cZ adM N0) (hLS : LScr K s0 L xs N0) {k : Int32 → St → St → Option Int32} (hk : ∀ (x : Int32) (a b : St), k x a b = some 1 → V K (sL gX cZ adM N0) 4 (comb a b) [(0, .ref s0), (1, .ref (aX gX 0)), (2, .ref (aM (mkM gX cZ adM) 0)), (3, .int x)] 18 []) (x3 : Int32) (a b : St) (hf : K_law_27 n L xs k x3 a b = some 1) : V K (sL gX cZ adM N0) 4 (comb a b) [(0, .ref s0), (1, .ref (aX gX 0)), (2, .ref (aM (mkM gX cZ adM) 0)), (3, .int x3)] 972 [] := by
  rw [K_law_27] at hf
  refine xv_aload_n C dL_law_972 rfl 1 rfl ?_
  refine xv_aload_n C dL_law_973 rfl 0 rfl ?_
  refine xv_iload_n C dL_law_974 rfl 3 rfl ?_
  refine xv_iconst C 1 dL_law_975 (by decide) ?_
  refine xv_iadd C dL_law_976 ?_
  refine xl_sld C rfl hLS hf dL_law_977 (fun hf => ?_)
  obtain ⟨q1, hg, hf⟩ := dt_bind hf
  refine xl_Xi C hL (As := [.int (xs (x3 + 1).toNatClampNeg)]) (fun l => c_X5_count gX hL.1 l (xs (x3 + 1).toNatClampNeg) a q1 hg) lwG_X5_count rfl ⟨rfl, rfl⟩ hdV_X5_count ⟨Nat.le_of_ble_eq_true rfl, Nat.le_of_ble_eq_true rfl⟩ rfl rfl rfl (Nat.le_of_ble_eq_true rfl) dL_law_978 ?_
  refine xv_aload_n C dL_law_981 rfl 2 rfl ?_
  refine xv_aload_n C dL_law_982 rfl 0 rfl ?_
  refine xv_iload_n C dL_law_983 rfl 3 rfl ?_
  refine xv_iconst C 1 dL_law_984 (by decide) ?_
  refine xv_iadd C dL_law_985 ?_
  refine xl_sld C rfl hLS hf dL_law_986 (fun hf => ?_)
  obtain ⟨q2, hg, hf⟩ := dt_bind hf
  refine xl_Mi C hL (As := [.int (xs (x3 + 1).toNatClampNeg)]) (fun l => c_X6_count (mkM gX cZ adM) hL.2.1 l (xs (x3 + 1).toNatClampNeg) b q2 hg) lwG_X6_count rfl ⟨rfl, rfl⟩ hdV_X6_count ⟨Nat.le_of_ble_eq_true rfl, Nat.le_of_ble_eq_true rfl⟩ rfl rfl rfl (Nat.le_of_ble_eq_true rfl) dL_law_987 ?_
  refine xv_icmp_eq C 995 hf dL_law_990 (by decide) (fun _ hf => ?_) (fun _ hf => absurd (Option.some.inj hf) (by decide))
  exact law_inc C hk _ _ _ hf
def L_law_18 (n L : Nat) (xs : Nat → Int32) : Nat → Int32 → St → St → Option Int32
  | 0, _, _, _ => none
  | j + 1, x3, a, b =>
    if nI L - 5 < x3 then some 1 else
    if x3 < 0 ∨ L ≤ x3.toNatClampNeg then none else
    if (xs x3.toNatClampNeg) &&& 31 = 0 then K_law_0 n L xs (L_law_18 n L xs j) x3 a b else
    if (xs x3.toNatClampNeg) &&& 31 = 1 then K_law_1 n L xs (L_law_18 n L xs j) x3 a b else
    if (xs x3.toNatClampNeg) &&& 31 = 2 then K_law_2 n L xs (L_law_18 n L xs j) x3 a b else
    if (xs x3.toNatClampNeg) &&& 31 = 3 then K_law_3 n L xs (L_law_18 n L xs j) x3 a b else
    if (xs x3.toNatClampNeg) &&& 31 = 4 then K_law_4 n L xs (L_law_18 n L xs j) x3 a b else
    if (xs x3.toNatClampNeg) &&& 31 = 5 then K_law_5 n L xs (L_law_18 n L xs j) x3 a b else
    if (xs x3.toNatClampNeg) &&& 31 = 6 then K_law_6 n L xs (L_law_18 n L xs j) x3 a b else
    if (xs x3.toNatClampNeg) &&& 31 = 7 then K_law_7 n L xs (L_law_18 n L xs j) x3 a b else
    if (xs x3.toNatClampNeg) &&& 31 = 8 then K_law_8 n L xs (L_law_18 n L xs j) x3 a b else
    if (xs x3.toNatClampNeg) &&& 31 = 9 then K_law_9 n L xs (L_law_18 n L xs j) x3 a b else
    if (xs x3.toNatClampNeg) &&& 31 = 10 then K_law_10 n L xs (L_law_18 n L xs j) x3 a b else
    if (xs x3.toNatClampNeg) &&& 31 = 11 then K_law_11 n L xs (L_law_18 n L xs j) x3 a b else
    if (xs x3.toNatClampNeg) &&& 31 = 12 then K_law_12 n L xs (L_law_18 n L xs j) x3 a b else
    if (xs x3.toNatClampNeg) &&& 31 = 13 then K_law_13 n L xs (L_law_18 n L xs j) x3 a b else
    if (xs x3.toNatClampNeg) &&& 31 = 14 then K_law_14 n L xs (L_law_18 n L xs j) x3 a b else
    if (xs x3.toNatClampNeg) &&& 31 = 15 then K_law_15 n L xs (L_law_18 n L xs j) x3 a b else
    if (xs x3.toNatClampNeg) &&& 31 = 16 then K_law_16 n L xs (L_law_18 n L xs j) x3 a b else
    if (xs x3.toNatClampNeg) &&& 31 = 17 then K_law_17 n L xs (L_law_18 n L xs j) x3 a b else
    if (xs x3.toNatClampNeg) &&& 31 = 18 then K_law_18 n L xs (L_law_18 n L xs j) x3 a b else
    if (xs x3.toNatClampNeg) &&& 31 = 19 then K_law_19 n L xs (L_law_18 n L xs j) x3 a b else
    if (xs x3.toNatClampNeg) &&& 31 = 20 then K_law_20 n L xs (L_law_18 n L xs j) x3 a b else
    if (xs x3.toNatClampNeg) &&& 31 = 21 then K_law_21 n L xs (L_law_18 n L xs j) x3 a b else
    if (xs x3.toNatClampNeg) &&& 31 = 22 then K_law_22 n L xs (L_law_18 n L xs j) x3 a b else
    if (xs x3.toNatClampNeg) &&& 31 = 23 then K_law_23 n L xs (L_law_18 n L xs j) x3 a b else
    if (xs x3.toNatClampNeg) &&& 31 = 24 then K_law_24 n L xs (L_law_18 n L xs j) x3 a b else
    if (xs x3.toNatClampNeg) &&& 31 = 25 then K_law_25 n L xs (L_law_18 n L xs j) x3 a b else
    if (xs x3.toNatClampNeg) &&& 31 = 26 then K_law_26 n L xs (L_law_18 n L xs j) x3 a b else
    if (xs x3.toNatClampNeg) &&& 31 = 27 then K_law_27 n L xs (L_law_18 n L xs j) x3 a b else
    L_law_18 n L xs j (x3 + 5) a b
set_option maxRecDepth 100000 in
set_option maxHeartbeats 4000000 in
theorem law_run {K : CTX} {gX : GX} {cZ : ClassId} {adM : Nat → Nat} {N0 s0 n L : Nat} {xs : Nat → Int32} (C : CC K (sL gX cZ adM N0) cL_law 4 lw_tbl RL room_1) (hL : LW gX cZ adM N0) (hLS : LScr K s0 L xs N0) (hret : ∀ (c : St) (lvs : List (Nat × Value)) (pc : Nat), decode cL_law pc = .ok (.ireturn, 1) → V K (sL gX cZ adM N0) 4 c lvs pc [.int 1]) : ∀ (j : Nat) (x3 : Int32) (a b : St), L_law_18 n L xs j x3 a b = some 1 → V K (sL gX cZ adM N0) 4 (comb a b) [(0, .ref s0), (1, .ref (aX gX 0)), (2, .ref (aM (mkM gX cZ adM) 0)), (3, .int x3)] 18 [] := by
  intro j
  induction j with
  | zero =>
    intro x3 a b hf
    have hf : (none : Option Int32) = some 1 := hf
    cases hf
  | succ j ih =>
    intro x3 a b hf
    rw [L_law_18] at hf
    refine xv_iload_n C dL_law_18 rfl 3 rfl ?_
    refine xv_aload_n C dL_law_19 rfl 0 rfl ?_
    refine xl_slen C rfl hLS dL_law_20 ?_
    refine xv_iconst C 5 dL_law_21 (by decide) ?_
    refine xv_isub C dL_law_22 ?_
    refine xv_icmp_gt C 1001 hf dL_law_23 (by decide) (fun _ hf => ?_) (fun _ hf => ?_)
    · refine xv_iconst C 1 dL_law_1001 (by decide) ?_
      exact hret _ _ _ dL_law_1002
    refine xv_aload_n C dL_law_26 rfl 0 rfl ?_
    refine xv_iload_n C dL_law_27 rfl 3 rfl ?_
    refine xl_sld C rfl hLS hf dL_law_28 (fun hf => ?_)
    refine xv_bipush C 31 dL_law_29 (by decide) ?_
    refine xv_iand C dL_law_31 ?_
    by_cases hs0 : (xs x3.toNatClampNeg) &&& 31 = 0
    · refine xv_tin C (off := 128) 160 hs0 dL_law_32 (by decide) (by decide) (by decide) (by decide) ?_
      exact k_law_0 C hL hLS ih _ _ _ (dt_pos hs0 hf)
    have hf := dt_neg hs0 hf
    by_cases hs1 : (xs x3.toNatClampNeg) &&& 31 = 1
    · refine xv_tin C (off := 191) 223 hs1 dL_law_32 (by decide) (by decide) (by decide) (by decide) ?_
      exact k_law_1 C hL hLS ih _ _ _ (dt_pos hs1 hf)
    have hf := dt_neg hs1 hf
    by_cases hs2 : (xs x3.toNatClampNeg) &&& 31 = 2
    · refine xv_tin C (off := 204) 236 hs2 dL_law_32 (by decide) (by decide) (by decide) (by decide) ?_
      exact k_law_2 C hL hLS ih _ _ _ (dt_pos hs2 hf)
    have hf := dt_neg hs2 hf
    by_cases hs3 : (xs x3.toNatClampNeg) &&& 31 = 3
    · refine xv_tin C (off := 217) 249 hs3 dL_law_32 (by decide) (by decide) (by decide) (by decide) ?_
      exact k_law_3 C hL hLS ih _ _ _ (dt_pos hs3 hf)
    have hf := dt_neg hs3 hf
    by_cases hs4 : (xs x3.toNatClampNeg) &&& 31 = 4
    · refine xv_tin C (off := 230) 262 hs4 dL_law_32 (by decide) (by decide) (by decide) (by decide) ?_
      exact k_law_4 C hL hLS ih _ _ _ (dt_pos hs4 hf)
    have hf := dt_neg hs4 hf
    by_cases hs5 : (xs x3.toNatClampNeg) &&& 31 = 5
    · refine xv_tin C (off := 263) 295 hs5 dL_law_32 (by decide) (by decide) (by decide) (by decide) ?_
      exact k_law_5 C hL hLS ih _ _ _ (dt_pos hs5 hf)
    have hf := dt_neg hs5 hf
    by_cases hs6 : (xs x3.toNatClampNeg) &&& 31 = 6
    · refine xv_tin C (off := 296) 328 hs6 dL_law_32 (by decide) (by decide) (by decide) (by decide) ?_
      exact k_law_6 C hL hLS ih _ _ _ (dt_pos hs6 hf)
    have hf := dt_neg hs6 hf
    by_cases hs7 : (xs x3.toNatClampNeg) &&& 31 = 7
    · refine xv_tin C (off := 329) 361 hs7 dL_law_32 (by decide) (by decide) (by decide) (by decide) ?_
      exact k_law_7 C hL hLS ih _ _ _ (dt_pos hs7 hf)
    have hf := dt_neg hs7 hf
    by_cases hs8 : (xs x3.toNatClampNeg) &&& 31 = 8
    · refine xv_tin C (off := 362) 394 hs8 dL_law_32 (by decide) (by decide) (by decide) (by decide) ?_
      exact k_law_8 C hL hLS ih _ _ _ (dt_pos hs8 hf)
    have hf := dt_neg hs8 hf
    by_cases hs9 : (xs x3.toNatClampNeg) &&& 31 = 9
    · refine xv_tin C (off := 385) 417 hs9 dL_law_32 (by decide) (by decide) (by decide) (by decide) ?_
      exact k_law_9 C hL hLS ih _ _ _ (dt_pos hs9 hf)
    have hf := dt_neg hs9 hf
    by_cases hs10 : (xs x3.toNatClampNeg) &&& 31 = 10
    · refine xv_tin C (off := 418) 450 hs10 dL_law_32 (by decide) (by decide) (by decide) (by decide) ?_
      exact k_law_10 C hL hLS ih _ _ _ (dt_pos hs10 hf)
    have hf := dt_neg hs10 hf
    by_cases hs11 : (xs x3.toNatClampNeg) &&& 31 = 11
    · refine xv_tin C (off := 441) 473 hs11 dL_law_32 (by decide) (by decide) (by decide) (by decide) ?_
      exact k_law_11 C hL hLS ih _ _ _ (dt_pos hs11 hf)
    have hf := dt_neg hs11 hf
    by_cases hs12 : (xs x3.toNatClampNeg) &&& 31 = 12
    · refine xv_tin C (off := 484) 516 hs12 dL_law_32 (by decide) (by decide) (by decide) (by decide) ?_
      exact k_law_12 C hL hLS ih _ _ _ (dt_pos hs12 hf)
    have hf := dt_neg hs12 hf
    by_cases hs13 : (xs x3.toNatClampNeg) &&& 31 = 13
    · refine xv_tin C (off := 527) 559 hs13 dL_law_32 (by decide) (by decide) (by decide) (by decide) ?_
      exact k_law_13 C hL hLS ih _ _ _ (dt_pos hs13 hf)
    have hf := dt_neg hs13 hf
    by_cases hs14 : (xs x3.toNatClampNeg) &&& 31 = 14
    · refine xv_tin C (off := 570) 602 hs14 dL_law_32 (by decide) (by decide) (by decide) (by decide) ?_
      exact k_law_14 C hL hLS ih _ _ _ (dt_pos hs14 hf)
    have hf := dt_neg hs14 hf
    by_cases hs15 : (xs x3.toNatClampNeg) &&& 31 = 15
    · refine xv_tin C (off := 583) 615 hs15 dL_law_32 (by decide) (by decide) (by decide) (by decide) ?_
      exact k_law_15 C hL hLS ih _ _ _ (dt_pos hs15 hf)
    have hf := dt_neg hs15 hf
    by_cases hs16 : (xs x3.toNatClampNeg) &&& 31 = 16
    · refine xv_tin C (off := 596) 628 hs16 dL_law_32 (by decide) (by decide) (by decide) (by decide) ?_
      exact k_law_16 C hL hLS ih _ _ _ (dt_pos hs16 hf)
    have hf := dt_neg hs16 hf
    by_cases hs17 : (xs x3.toNatClampNeg) &&& 31 = 17
    · refine xv_tin C (off := 629) 661 hs17 dL_law_32 (by decide) (by decide) (by decide) (by decide) ?_
      exact k_law_17 C hL hLS ih _ _ _ (dt_pos hs17 hf)
    have hf := dt_neg hs17 hf
    by_cases hs18 : (xs x3.toNatClampNeg) &&& 31 = 18
    · refine xv_tin C (off := 672) 704 hs18 dL_law_32 (by decide) (by decide) (by decide) (by decide) ?_
      exact k_law_18 C hL hLS ih _ _ _ (dt_pos hs18 hf)
    have hf := dt_neg hs18 hf
    by_cases hs19 : (xs x3.toNatClampNeg) &&& 31 = 19
    · refine xv_tin C (off := 715) 747 hs19 dL_law_32 (by decide) (by decide) (by decide) (by decide) ?_
      exact k_law_19 C hL hLS ih _ _ _ (dt_pos hs19 hf)
    have hf := dt_neg hs19 hf
    by_cases hs20 : (xs x3.toNatClampNeg) &&& 31 = 20
    · refine xv_tin C (off := 769) 801 hs20 dL_law_32 (by decide) (by decide) (by decide) (by decide) ?_
      exact k_law_20 C hL hLS ih _ _ _ (dt_pos hs20 hf)
    have hf := dt_neg hs20 hf
    by_cases hs21 : (xs x3.toNatClampNeg) &&& 31 = 21
    · refine xv_tin C (off := 792) 824 hs21 dL_law_32 (by decide) (by decide) (by decide) (by decide) ?_
      exact k_law_21 C hL hLS ih _ _ _ (dt_pos hs21 hf)
    have hf := dt_neg hs21 hf
    by_cases hs22 : (xs x3.toNatClampNeg) &&& 31 = 22
    · refine xv_tin C (off := 815) 847 hs22 dL_law_32 (by decide) (by decide) (by decide) (by decide) ?_
      exact k_law_22 C hL hLS ih _ _ _ (dt_pos hs22 hf)
    have hf := dt_neg hs22 hf
    by_cases hs23 : (xs x3.toNatClampNeg) &&& 31 = 23
    · refine xv_tin C (off := 858) 890 hs23 dL_law_32 (by decide) (by decide) (by decide) (by decide) ?_
      exact k_law_23 C hL hLS ih _ _ _ (dt_pos hs23 hf)
    have hf := dt_neg hs23 hf
    by_cases hs24 : (xs x3.toNatClampNeg) &&& 31 = 24
    · refine xv_tin C (off := 871) 903 hs24 dL_law_32 (by decide) (by decide) (by decide) (by decide) ?_
      exact k_law_24 C hL hLS ih _ _ _ (dt_pos hs24 hf)
    have hf := dt_neg hs24 hf
    by_cases hs25 : (xs x3.toNatClampNeg) &&& 31 = 25
    · refine xv_tin C (off := 894) 926 hs25 dL_law_32 (by decide) (by decide) (by decide) (by decide) ?_
      exact k_law_25 C hL hLS ih _ _ _ (dt_pos hs25 hf)
    have hf := dt_neg hs25 hf
    by_cases hs26 : (xs x3.toNatClampNeg) &&& 31 = 26
    · refine xv_tin C (off := 917) 949 hs26 dL_law_32 (by decide) (by decide) (by decide) (by decide) ?_
      exact k_law_26 C hL hLS ih _ _ _ (dt_pos hs26 hf)
    have hf := dt_neg hs26 hf
    by_cases hs27 : (xs x3.toNatClampNeg) &&& 31 = 27
    · refine xv_tin C (off := 940) 972 hs27 dL_law_32 (by decide) (by decide) (by decide) (by decide) ?_
      exact k_law_27 C hL hLS ih _ _ _ (dt_pos hs27 hf)
    have hf := dt_neg hs27 hf
    have e0 := lv_neT (a := 0) hs0 (by decide)
    have e1 := lv_neT (a := 1) hs1 (by decide)
    have e2 := lv_neT (a := 2) hs2 (by decide)
    have e3 := lv_neT (a := 3) hs3 (by decide)
    have e4 := lv_neT (a := 4) hs4 (by decide)
    have e5 := lv_neT (a := 5) hs5 (by decide)
    have e6 := lv_neT (a := 6) hs6 (by decide)
    have e7 := lv_neT (a := 7) hs7 (by decide)
    have e8 := lv_neT (a := 8) hs8 (by decide)
    have e9 := lv_neT (a := 9) hs9 (by decide)
    have e10 := lv_neT (a := 10) hs10 (by decide)
    have e11 := lv_neT (a := 11) hs11 (by decide)
    have e12 := lv_neT (a := 12) hs12 (by decide)
    have e13 := lv_neT (a := 13) hs13 (by decide)
    have e14 := lv_neT (a := 14) hs14 (by decide)
    have e15 := lv_neT (a := 15) hs15 (by decide)
    have e16 := lv_neT (a := 16) hs16 (by decide)
    have e17 := lv_neT (a := 17) hs17 (by decide)
    have e18 := lv_neT (a := 18) hs18 (by decide)
    have e19 := lv_neT (a := 19) hs19 (by decide)
    have e20 := lv_neT (a := 20) hs20 (by decide)
    have e21 := lv_neT (a := 21) hs21 (by decide)
    have e22 := lv_neT (a := 22) hs22 (by decide)
    have e23 := lv_neT (a := 23) hs23 (by decide)
    have e24 := lv_neT (a := 24) hs24 (by decide)
    have e25 := lv_neT (a := 25) hs25 (by decide)
    have e26 := lv_neT (a := 26) hs26 (by decide)
    have e27 := lv_neT (a := 27) hs27 (by decide)
    refine xv_tout C 995 dL_law_32 (by omega) (by decide) ?_
    exact law_inc C ih _ _ _ hf
