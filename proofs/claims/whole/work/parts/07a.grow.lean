/-! ===== a constructor's walk: a world that grows ===== -/
def GV (K : CTX) (A : Nat → Prop) (D : va_G) (nL : Nat) (ws : va_W) (kc ks : Nat) (lvs : List (Nat × Value)) (pc : Nat) (st : List Value) : Prop := match K with
  | (p, l, e, R, s, m, args, below, meth, c, Q, _, _) => ∀ (H : Heap) (locs : List Loc) (ls : Array Slot), va_P D vwCl ws H → va_D A ws → va_S A s.heap H locs → lv_has ls nL lvs → W p l e R s m args below meth c H locs kc ks Q (F0 m pc ls st)
def GC (K : CTX) (A : Nat → Prop) (D : va_G) (tys : List (ClassId × FieldType)) (cc : ByteArray) (nL : Nat) (Ts : List Cond) (own : String) (R0 : Room) (E : State → Prop) : Prop := match K with
  | (p, l, e, R, s, m, args, below, meth, c, Q, _, _) => p.tables.exec = Jvm.exec ∧ c.code = cc ∧ c.maxLocals = nL ∧ (∀ w ∈ Ts, w.before args s = true) ∧ s.vm.findClass own = some m.cls ∧ va_K D vwCl tys s ∧ (∀ q, s.heap.size ≤ q → A q) ∧ R = R0 ∧ E s ∧ meth.name = "<init>"
section XG
variable {K : CTX} {A : Nat → Prop} {D : va_G} {tys : List (ClassId × FieldType)} {cc : ByteArray} {nL : Nat} {Ts : List Cond} {own : String} {R0 : Room} {E : State → Prop} {ws : va_W} {kc ks : Nat} {lvs : List (Nat × Value)} {pc : Nat} {st : List Value}
theorem gv_iconst (C : GC K A D tys cc nL Ts own R0 E) {n : Int} (v : Int32) (hdg : decode cc pc = .ok (.iconst n, 1)) (hv : Int32.ofInt n = v) (kk : GV K A D nL ws kc ks lvs (pc + 1) (.int v :: st)) : GV K A D nL ws kc ks lvs pc st := by
  obtain ⟨p, l, e, R, s, m, args, below, meth, c, Q, k8, k9⟩ := K
  obtain ⟨hx, hb, -⟩ := C
  exact fun H locs ls hP hD hS hl => lv_iconst hx hb hdg hv (kk H locs ls hP hD hS hl)
theorem gv_bipush (C : GC K A D tys cc nL Ts own R0 E) {n : Int} (v : Int32) (hdg : decode cc pc = .ok (.bipush n, 2)) (hv : (Int8.ofInt n).toInt32 = v) (kk : GV K A D nL ws kc ks lvs (pc + 2) (.int v :: st)) : GV K A D nL ws kc ks lvs pc st := by
  obtain ⟨p, l, e, R, s, m, args, below, meth, c, Q, k8, k9⟩ := K
  obtain ⟨hx, hb, -⟩ := C
  exact fun H locs ls hP hD hS hl => lv_bipush hx hb hdg hv (kk H locs ls hP hD hS hl)
theorem gv_sipush (C : GC K A D tys cc nL Ts own R0 E) {n : Int} (v : Int32) (hdg : decode cc pc = .ok (.sipush n, 3)) (hv : (Int16.ofInt n).toInt32 = v) (kk : GV K A D nL ws kc ks lvs (pc + 3) (.int v :: st)) : GV K A D nL ws kc ks lvs pc st := by
  obtain ⟨p, l, e, R, s, m, args, below, meth, c, Q, k8, k9⟩ := K
  obtain ⟨hx, hb, -⟩ := C
  exact fun H locs ls hP hD hS hl => lv_sipush hx hb hdg hv (kk H locs ls hP hD hS hl)
theorem gv_aload_n (C : GC K A D tys cc nL Ts own R0 E) {k : Fin 4} {i : Nat} {x : Nat} (hdg : decode cc pc = .ok (.aload_n k, 1)) (hi : (k : Nat) = i) (j : Nat) (hl : lvs[j]? = some (i, .ref x)) (kk : GV K A D nL ws kc ks lvs (pc + 1) (.ref x :: st)) : GV K A D nL ws kc ks lvs pc st := by
  obtain ⟨p, l, e, R, s, m, args, below, meth, c, Q, k8, k9⟩ := K
  obtain ⟨hx, hb, -⟩ := C
  exact fun H locs ls hP hD hS h9 => lv_aload_n hx hb hdg hi (lv_at h9 j hl) (kk H locs ls hP hD hS h9)
theorem gv_iload_n (C : GC K A D tys cc nL Ts own R0 E) {k : Fin 4} {i : Nat} {x : Int32} (hdg : decode cc pc = .ok (.iload_n k, 1)) (hi : (k : Nat) = i) (j : Nat) (hl : lvs[j]? = some (i, .int x)) (kk : GV K A D nL ws kc ks lvs (pc + 1) (.int x :: st)) : GV K A D nL ws kc ks lvs pc st := by
  obtain ⟨p, l, e, R, s, m, args, below, meth, c, Q, k8, k9⟩ := K
  obtain ⟨hx, hb, -⟩ := C
  exact fun H locs ls hP hD hS h9 => lv_iload_n hx hb hdg hi (lv_at h9 j hl) (kk H locs ls hP hD hS h9)
theorem gv_istore_n (C : GC K A D tys cc nL Ts own R0 E) {k : Fin 4} {i : Nat} {x : Int32} (lv' : List (Nat × Value)) (hdg : decode cc pc = .ok (.istore_n k, 1)) (hi : (k : Nat) = i) (hn : i < nL) (hl : (i, Value.int x) :: lvs.filter (fun q => !(q.1 == i) && !(q.1 + 1 == i && q.2.category == 2)) = lv') (kk : GV K A D nL ws kc ks lv' (pc + 1) st) : GV K A D nL ws kc ks lvs pc (.int x :: st) := by
  obtain ⟨p, l, e, R, s, m, args, below, meth, c, Q, k8, k9⟩ := K
  obtain ⟨hx, hb, -⟩ := C
  exact fun H locs ls hP hD hS h9 => lv_istore_n hx hb hdg hi h9 hn hl (fun ls h9 => kk H locs ls hP hD hS h9)
theorem gv_iinc (C : GC K A D tys cc nL Ts own R0 E) {i : Nat} {n : Int} {x v : Int32} (lv' : List (Nat × Value)) (hdg : decode cc pc = .ok (.iinc i n, 3)) (k : Nat) (hk : lvs[k]? = some (i, .int x)) (hv : x + Int32.ofInt n = v) (hn : i < nL) (hl : (i, Value.int v) :: lvs.filter (fun q => !(q.1 == i) && !(q.1 + 1 == i && q.2.category == 2)) = lv') (kk : GV K A D nL ws kc ks lv' (pc + 3) st) : GV K A D nL ws kc ks lvs pc st := by
  obtain ⟨p, l, e, R, s, m, args, below, meth, c, Q, k8, k9⟩ := K
  obtain ⟨hx, hb, -⟩ := C
  exact fun H locs ls hP hD hS h9 => lv_iinc hx hb hdg h9 hk hv hn hl (fun ls h9 => kk H locs ls hP hD hS h9)
theorem gv_dup (C : GC K A D tys cc nL Ts own R0 E) {va : Value} (hdg : decode cc pc = .ok (.dup, 1)) (hva : va.category = 1) (kk : GV K A D nL ws kc ks lvs (pc + 1) (va :: va :: st)) : GV K A D nL ws kc ks lvs pc (va :: st) := by
  obtain ⟨p, l, e, R, s, m, args, below, meth, c, Q, k8, k9⟩ := K
  obtain ⟨hx, hb, -⟩ := C
  exact fun H locs ls hP hD hS h9 => lv_dup hx hb hdg hva (kk H locs ls hP hD hS h9)
theorem gv_goto (C : GC K A D tys cc nL Ts own R0 E) {off : Int} (tgt : Nat) (hdg : decode cc pc = .ok (.goto off, 3)) (ht : (pc : Int) + off = (tgt : Int)) (kk : GV K A D nL ws kc ks lvs tgt st) : GV K A D nL ws kc ks lvs pc st := by
  obtain ⟨p, l, e, R, s, m, args, below, meth, c, Q, k8, k9⟩ := K
  obtain ⟨hx, hb, -⟩ := C
  exact fun H locs ls hP hD hS h9 => lv_goto hx hb hdg ht (kk H locs ls hP hD hS h9)
theorem gv_ge_t (C : GC K A D tys cc nL Ts own R0 E) {x y : Int32} {off : Int} (tgt : Nat) (h : y ≤ x) (hdg : decode cc pc = .ok (.if_icmp .ge off, 3)) (ht : (pc : Int) + off = (tgt : Int)) (kk : GV K A D nL ws kc ks lvs tgt st) : GV K A D nL ws kc ks lvs pc (.int y :: .int x :: st) := by
  obtain ⟨p, l, e, R, s, m, args, below, meth, c, Q, k8, k9⟩ := K
  obtain ⟨hx, hb, -⟩ := C
  exact fun H locs ls hP hD hS h9 => lv_icmp_ge hx hb hdg ht (fun _ => kk H locs ls hP hD hS h9) (fun z => absurd h z)
theorem gv_ge_f (C : GC K A D tys cc nL Ts own R0 E) {x y : Int32} {off : Int} (tgt : Nat) (h : ¬ y ≤ x) (hdg : decode cc pc = .ok (.if_icmp .ge off, 3)) (ht : (pc : Int) + off = (tgt : Int)) (kk : GV K A D nL ws kc ks lvs (pc + 3) st) : GV K A D nL ws kc ks lvs pc (.int y :: .int x :: st) := by
  obtain ⟨p, l, e, R, s, m, args, below, meth, c, Q, k8, k9⟩ := K
  obtain ⟨hx, hb, -⟩ := C
  exact fun H locs ls hP hD hS h9 => lv_icmp_ge hx hb hdg ht (fun z => absurd z h) (fun _ => kk H locs ls hP hD hS h9)
theorem gv_objInit (C : GC K A D tys cc nL Ts own R0 E) {idx : Nat} {b : Nat} (h1 : Cond.methodLink own idx objectInit ∈ Ts) (h2 : Cond.instanceMethod objectInit ∈ Ts) (h3 : Cond.code objectInit ⟨#[0xb1]⟩ 1 none ∈ Ts) (hfr : 1 ≤ R0.frames) (hlo : (st.map fun v => v.category).sum + 12 ≤ R0.locals) (hdg : decode cc pc = .ok (.invokespecial idx, 3)) (kk : GV K A D nL ws kc ks lvs (pc + 3) st) : GV K A D nL ws kc ks lvs pc (.ref b :: st) := by
  obtain ⟨p, l, e, R, s, m, args, below, meth, c, Q, k8, k9⟩ := K
  obtain ⟨hx, hb, hml, hts, hown, hK, hA, hR, hE, hin⟩ := C
  subst hR
  exact fun H locs ls hP hD hS h9 => W.objInit hx hb hown (hts _ h1) (hts _ h2) (hts _ h3) rfl (by rw [hml]; exact h9.1) rfl hdg hfr (by show 2 * 0 + _ + 12 ≤ _; omega) (kk H locs ls hP hD hS h9)
theorem gk_same {U : State} {c1 c2 : ClassId} {ty : FieldType} (hty : ∀ C, ty ≠ .object C) (h1 : va_RA U c1 ty) (h2 : va_RA U c2 ty) : c1 = c2 := by
  cases ty with
  | object C => exact absurd rfl (hty C)
  | _ => exact Option.some.inj (h1.symm.trans h2)
theorem gk_sameO {U : State} {c1 c2 : ClassId} {C : String} (h1 : va_RA U c1 (.object C)) (h2 : va_RA U c2 (.object C)) : c1 = c2 := by
  obtain ⟨_, _, _, _, _, e1⟩ := h1
  obtain ⟨_, _, _, _, _, e2⟩ := h2
  exact Option.some.inj (e1.symm.trans e2)
theorem gv_newa (C : GC K A D tys cc nL Ts own R0 E) {atype : ArrayType} (ty : FieldType) (hty : newarray.typeOf atype = ty) (hno : ∀ C, ty ≠ .object C) (harr : Cond.arrayClass ty ∈ Ts) (t0 : Nat) {cA : ClassId} (ht : tys[t0]? = some (cA, ty)) {n : Int32} (N : Nat) (a0 : vp_A) (ha : ∀ cA : ClassId, vp_cell cA a0 = arrV cA N (fun _ => defaultValue ty)) (hn : ¬ n < 0) (hN : n.toNatClampNeg = N) (hby : N * componentBytes ty ≤ 536870912) (hc : kc + 1 ≤ R0.cells) (hs : ks + N ≤ R0.slots) (hdg : decode cc pc = .ok (.newarray atype, 2)) (kk : ∀ q : Nat, GV K A D nL (ws ++ [(q, .inl (cA, a0))]) (kc + 1) (ks + N) lvs (pc + 2) (.ref q :: st)) : GV K A D nL ws kc ks lvs pc (.int n :: st) := by
  obtain ⟨p, l, e, R, s, m, args, below, meth, c, Q, k8, k9⟩ := K
  obtain ⟨hx, hb, hml, hts, hown, hK, hA, hR, hE, hin⟩ := C
  subst hR
  subst hty
  refine fun H locs ls hP hD hS h9 => va_newa hx hb (hts _ harr) rfl hK hP hD hS hA ha hn hN hby hc hs hdg (fun q c1 H1 hK1 hP1 hD1 hS1 => ?_)
  have e1 := (hK.2 t0 _ ht).2
  have e2 := (hK1.2 tys.length (c1, newarray.typeOf atype) (by simp)).2
  have e3 : c1 = cA := gk_same hno e2 e1
  subst e3
  exact kk q H1 locs ls hP1 hD1 hS1 h9
theorem gv_newq (C : GC K A D tys cc nL Ts own R0 E) {C1 : String} {index : Nat} (hcl : Cond.classLink own index C1 ∈ Ts) (hover : ∀ U : State, E U → va_AO C1 U) (t0 : Nat) {cA : ClassId} (ht : tys[t0]? = some (cA, .object C1)) {n : Int32} (N : Nat) (hn : ¬ n < 0) (hN : n.toNatClampNeg = N) (hby : N * 4 ≤ 536870912) (hc : kc + 1 ≤ R0.cells) (hs : ks + N ≤ R0.slots) (hdg : decode cc pc = .ok (.anewarray index, 3)) (kk : ∀ q : Nat, GV K A D nL (ws ++ [(q, .inl (cA, N, .inr (.inr (.inr (.inr (fun _ => none))))))]) (kc + 1) (ks + N) lvs (pc + 3) (.ref q :: st)) : GV K A D nL ws kc ks lvs pc (.int n :: st) := by
  obtain ⟨p, l, e, R, s, m, args, below, meth, c, Q, k8, k9⟩ := K
  obtain ⟨hx, hb, hml, hts, hown, hK, hA, hR, hE, hin⟩ := C
  subst hR
  have hov : va_AO C1 s := hover _ hE
  refine fun H locs ls hP hD hS h9 => va_newq hx hb hown (hts _ hcl) hov hK hP hD hS hA hn hN hby hc hs hdg (fun q c1 H1 hK1 hP1 hD1 hS1 => ?_)
  have e1 := (hK.2 t0 _ ht).2
  have e2 := (hK1.2 tys.length (c1, .object C1) (by simp)).2
  have e3 : c1 = cA := gk_sameO e2 e1
  subst e3
  exact kk q H1 locs ls hP1 hD1 hS1 h9
theorem gv_new (C : GC K A D tys cc nL Ts own R0 E) {C1 : String} {T : u_T} {N ci index : Nat} (hin1 : ∀ w ∈ u_ws C1 T N, w ∈ Ts) (ty : Nat → FieldType) (hty : ∀ k, k < N → parseFieldDescriptor (T k).2.2.1 = some (ty k)) (hcl : Cond.classLink own index C1 ∈ Ts) (hinst : Cond.instantiable C1 N ∈ Ts) (hini : Cond.initialized C1 ∈ Ts) (hc : vwCl[ci]? = some (C1, T, N)) (fs : List Value) (hfs : ∀ j, j < N → defaultValue (ty j) = vp_V fs j) (hcc : kc + 1 ≤ R0.cells) (hs : ks + N ≤ R0.slots) (hdg : decode cc pc = .ok (.new index, 3)) (kk : ∀ q : Nat, GV K A D nL (ws ++ [(q, .inr (ci, fs))]) (kc + 1) (ks + N) lvs (pc + 3) (.ref q :: st)) : GV K A D nL ws kc ks lvs pc st := by
  obtain ⟨p, l, e, R, s, m, args, below, meth, c, Q, k8, k9⟩ := K
  obtain ⟨hx, hb, hml, hts, hown, hK, hA, hR, hE, hin⟩ := C
  subst hR
  exact fun H locs ls hP hD hS h9 => va_new hx hb hts hin1 ty hty hown (hts _ hcl) (hts _ hinst) (hts _ hini) hK hP hD hS hA hc hfs hcc hs hdg (fun q H1 hP1 hD1 hS1 => kk q H1 locs ls hP1 hD1 hS1 h9)
theorem gv_putF (C : GC K A D tys cc nL Ts own R0 E) {C1 : String} {T : u_T} {N ci index : Nat} (hin : ∀ w ∈ u_ws C1 T N, w ∈ Ts) (ty0 : Nat → FieldType) (hty : ∀ k, k < N → parseFieldDescriptor (T k).2.2.1 = some (ty0 k)) (hnm : ∀ a, a < N → ∀ b, b < N → a ≠ b → (T a).2.1 ≠ (T b).2.1) (q0 : Nat) {adr : Nat} {fs : List Value} (he : ws[q0]? = some (adr, .inr (ci, fs))) (hc : vwCl[ci]? = some (C1, T, N)) (k : Nat) (hk : k < N) (hlink : Cond.fieldLink own index (T k).1 (T k).2.1 (T k).2.2.1 ∈ Ts) (hfin : (T k).2.2.2 = true) (hdecl : (T k).1 = own) {ty : FieldType} {v : Value} (hd : parseFieldDescriptor (T k).2.2.1 = some ty) (hn : narrow ty v = v) (hfit : fits ty v = true) (hl : k < fs.length) (ws1 : va_W) (hset : ws.set q0 (adr, .inr (ci, fs.set k v)) = ws1) (hdg : decode cc pc = .ok (.putfield index, 3)) (kk : GV K A D nL ws1 kc ks lvs (pc + 3) st) : GV K A D nL ws kc ks lvs pc (v :: .ref adr :: st) := by
  obtain ⟨p, l, e, R, s, m, args, below, meth, c, Q, k8, k9⟩ := K
  obtain ⟨hx, hb, hml, hts, hown, hK, hA, hR, hE, hin2⟩ := C
  subst hset
  exact fun H locs ls hP hD hS h9 => va_putF hx hb hts hin ty0 hty hnm hown hK hP hD hS q0 he hc k hk (hts _ hlink) (fun _ h => h) hfin hin2 hdecl hd hn hfit hl hdg (fun H1 locs1 hP1 hD1 hS1 => kk H1 locs1 ls hP1 hD1 hS1 h9)
theorem gv_put (C : GC K A D tys cc nL Ts own R0 E) {C1 : String} {T : u_T} {N ci index : Nat} (hin : ∀ w ∈ u_ws C1 T N, w ∈ Ts) (ty0 : Nat → FieldType) (hty : ∀ k, k < N → parseFieldDescriptor (T k).2.2.1 = some (ty0 k)) (hnm : ∀ a, a < N → ∀ b, b < N → a ≠ b → (T a).2.1 ≠ (T b).2.1) (q0 : Nat) {adr : Nat} {fs : List Value} (he : ws[q0]? = some (adr, .inr (ci, fs))) (hc : vwCl[ci]? = some (C1, T, N)) (k : Nat) (hk : k < N) (hlink : Cond.fieldLink own index (T k).1 (T k).2.1 (T k).2.2.1 ∈ Ts) (hfin : (T k).2.2.2 = false) {ty : FieldType} {v : Value} (hd : parseFieldDescriptor (T k).2.2.1 = some ty) (hn : narrow ty v = v) (hfit : fits ty v = true) (hl : k < fs.length) (ws1 : va_W) (hset : ws.set q0 (adr, .inr (ci, fs.set k v)) = ws1) (hdg : decode cc pc = .ok (.putfield index, 3)) (kk : GV K A D nL ws1 kc ks lvs (pc + 3) st) : GV K A D nL ws kc ks lvs pc (v :: .ref adr :: st) := by
  obtain ⟨p, l, e, R, s, m, args, below, meth, c, Q, k8, k9⟩ := K
  obtain ⟨hx, hb, hml, hts, hown, hK, hA, hR, hE, hin2⟩ := C
  subst hset
  exact fun H locs ls hP hD hS h9 => va_put hx hb hts hin ty0 hty hnm hown hK hP hD hS q0 he hc k hk (hts _ hlink) (fun _ h => h) hfin hd hn hfit hl hdg (fun H1 locs1 hP1 hD1 hS1 => kk H1 locs1 ls hP1 hD1 hS1 h9)
theorem gv_get (C : GC K A D tys cc nL Ts own R0 E) {C1 : String} {T : u_T} {N ci index : Nat} (hin : ∀ w ∈ u_ws C1 T N, w ∈ Ts) (q0 : Nat) {adr : Nat} {fs : List Value} (he : ws[q0]? = some (adr, .inr (ci, fs))) (hc : vwCl[ci]? = some (C1, T, N)) (k : Nat) (hk : k < N) (hlink : Cond.fieldLink own index (T k).1 (T k).2.1 (T k).2.2.1 ∈ Ts) {v : Value} (hv : fs[k]? = some v) (hdg : decode cc pc = .ok (.getfield index, 3)) (kk : GV K A D nL ws kc ks lvs (pc + 3) (v :: st)) : GV K A D nL ws kc ks lvs pc (.ref adr :: st) := by
  obtain ⟨p, l, e, R, s, m, args, below, meth, c, Q, k8, k9⟩ := K
  obtain ⟨hx, hb, hml, hts, hown, hK, hA, hR, hE, hin2⟩ := C
  exact fun H locs ls hP hD hS h9 => va_get hx hb hts hin hown hK hP q0 he hc k hk (hts _ hlink) (fun _ h => h) hv hdg (kk H locs ls hP hD hS h9)
theorem gv_iast (C : GC K A D tys cc nL Ts own R0 E) (q0 t0 : Nat) {adr : Nat} {cA : ClassId} {n : Nat} {f : Nat → Int32} (ha : ws[q0]? = some (adr, .inl (cA, n, .inl f))) (ht : tys[t0]? = some (cA, .int)) {i x : Int32} (hi : ¬ (i < 0 ∨ n ≤ i.toNatClampNeg)) (ws1 : va_W) (hset : ws.set q0 (adr, .inl (cA, n, .inl (upd f i.toNatClampNeg x))) = ws1) (hdg : decode cc pc = .ok (.iastore, 1)) (kk : GV K A D nL ws1 kc ks lvs (pc + 1) st) : GV K A D nL ws kc ks lvs pc (.int x :: .int i :: .ref adr :: st) := by
  obtain ⟨p, l, e, R, s, m, args, below, meth, c, Q, k8, k9⟩ := K
  obtain ⟨hx, hb, hml, hts, hown, hK, hA, hR, hE, hin2⟩ := C
  subst hset
  exact fun H locs ls hP hD hS h9 => va_iast hx hb hK hP hD hS q0 t0 ha ht hi hdg (fun H1 locs1 hP1 hD1 hS1 => kk H1 locs1 ls hP1 hD1 hS1 h9)
theorem gv_astq (C : GC K A D tys cc nL Ts own R0 E) (q0 t0 qk ci : Nat) {adr : Nat} {cA : ClassId} {r : vw_C} {n v : Nat} {vs : List Value} {f : Nat → Option Nat} (ha : ws[q0]? = some (adr, .inl (cA, n, .inr (.inr (.inr (.inr f)))))) (ht : tys[t0]? = some (cA, .object r.1)) (hv : ws[qk]? = some (v, .inr (ci, vs))) (hc : vwCl[ci]? = some r) {i : Int32} (hi : ¬ (i < 0 ∨ n ≤ i.toNatClampNeg)) (ws1 : va_W) (hset : ws.set q0 (adr, .inl (cA, n, .inr (.inr (.inr (.inr (va_up f i.toNatClampNeg (some v))))))) = ws1) (hdg : decode cc pc = .ok (.aastore, 1)) (kk : GV K A D nL ws1 kc ks lvs (pc + 1) st) : GV K A D nL ws kc ks lvs pc (.ref v :: .int i :: .ref adr :: st) := by
  obtain ⟨p, l, e, R, s, m, args, below, meth, c, Q, k8, k9⟩ := K
  obtain ⟨hx, hb, hml, hts, hown, hK, hA, hR, hE, hin2⟩ := C
  subst hset
  exact fun H locs ls hP hD hS h9 => va_astq hx hb hK hP hD hS q0 t0 qk ci ha ht hv hc hi hdg (fun H1 locs1 hP1 hD1 hS1 => kk H1 locs1 ls hP1 hD1 hS1 h9)
/-- a constructor: what it wants, what it makes -/
def gPre (D : va_G) (tys : List (ClassId × FieldType)) (E : State → Prop) (b : Nat) (e : va_E) (sz : Nat) : Array Value → State → Prop := va_Pc [.ref b] (fun U => U.heap.size = sz ∧ va_P D vwCl [(b, e)] U.heap ∧ va_K D vwCl tys U ∧ E U)
def gPost (D : va_G) (shape : va_W → Prop) (b : Nat) (e : va_E) (sz : Nat) : Array Value → State → Outcome → State → Prop := va_Qv (fun u : va_W => shape u) (fun u t => va_P D vwCl u t.heap ∧ va_D (va_A [(b, e)] sz) u) (va_A [(b, e)] sz)
def gE (E : State → Prop) : Prop := (∀ u U : State, U.vm = u.vm → E u → E U) ∧ (∀ s U : State, s.WarmedH U.vm → E s → E U)
theorem gPre_blind {E1 : State → Prop} (hE : gE E1) (b : Nat) (e : va_E) (sz : Nat) : FrameBlind (gPre D tys E1 b e sz) := fun v U g mk q => by
  obtain ⟨q0, q1, qP, qK, qE⟩ := q
  exact ⟨q0, q1, qP, va_K.moved (u := U) (U := U.calling g mk v) (Vm.Alike.refl U.vm) qK, hE.1 U _ rfl qE⟩
variable {y : MethodName} {bytes : ByteArray} {maxL index mc ms : Nat} {w1 w1' : List Cond} {rm : Room} {stk : List Value}
theorem gv_initN (C : GC K A D tys cc nL Ts own R0 E) {b : Nat} {e : va_E} {host : String} {E1 : State → Prop} {shape : va_W → Prop} (hgE : gE E1) (hM : ∀ (l : Launch) (sz : Nat), Met l y w1 rm (gPre D tys E1 b e sz) (gPost D shape b e sz) mc ms (va_A [(b, e)] sz)) (hG : GoodIn Ts w1) (hw : w1 = Cond.code y bytes maxL none :: w1') (hrm : rm.cells = mc ∧ rm.slots = ms)
    (hlink : ∀ U : State, E U → va_Nw (.methodLinkNest own index y host) U) (hEE : ∀ U : State, E U → E1 U) (hini : Cond.initialized y.cls ∈ Ts) (hins : Cond.instanceMethod y ∈ Ts) (hnm : y.name = "<init>")
    (hd : y.cls ≠ "java/lang/invoke/MethodHandle" ∧ y.cls ≠ "java/lang/invoke/VarHandle" ∧ (parseMethodDescriptor y.desc).map (fun d => d.parameters.length) = some 0) (hR : rm.frames + 1 ≤ R0.frames ∧ 8 + (maxL + 11) + rm.locals ≤ R0.locals)
    (isC isR : List Nat) (wr : va_W) (hC : isC.map (fun i => ws[i]?) = [(b, e)].map some) (hRr : isR.map (fun i => ws[i]?) = wr.map some) (hnd : va_nd isR = true) (hdis : ∀ i ∈ isR, i ∉ isC) (hst : stk = .ref b :: st) (hcat : (st.map fun v => v.category).sum ≤ 8) (hdg : decode cc pc = .ok (.invokespecial index, 3)) (hcells : kc + mc ≤ R0.cells ∧ ks + ms ≤ R0.slots)
    (kk : ∀ u, shape u → GV K A D nL (wr ++ u) (kc + mc) (ks + ms) lvs (pc + 3) st) : GV K A D nL ws kc ks lvs pc stk := by
  obtain ⟨p, l, e9, R, s, m, args, below, meth, c, Q, k8, k9⟩ := K
  obtain ⟨hx, hb, hml, hts, hown, hK, hA, hRR, hE, hin2⟩ := C
  subst hRR
  intro H locs ls hP hD hS h9
  have hPc : va_P D vwCl [(b, e)] H := by
    intro k q hq
    have h1 : (isC.map (fun i => ws[i]?))[k]? = some (some q) := by rw [hC, List.getElem?_map, hq]; rfl
    rw [List.getElem?_map] at h1
    cases hi : isC[k]? with
    | none => rw [hi] at h1; cases h1
    | some i => rw [hi] at h1; exact hP i q (Option.some.inj h1)
  have hFc := va_free (wc := [(b, e)]) hD hS hA isC hC
  refine va_callv (va_runIN (As := []) (rest := st) ⟨hx, hb, hml, hown, hts⟩ (hM l H.size) ⟨va_cnB 0 hts hG hw hrm.1 hrm.2 (hlink _ hE) (hts _ hini) hd hR, hnm, hts _ hins⟩ ⟨gPre_blind hgE _ _ _, fun U hU hW => ⟨rfl, by rw [hU], by rw [hU]; exact hPc, va_K.moved hW.alike hK, hgE.2 s U hW (hEE _ hE)⟩⟩ rfl rfl h9.1 hst (lv_room hcat) hdg hcells) hS (fun q _ h => hFc q h) hFc (fun u t H1 locs1 ht _ hw hB _ hk1 hS1 => ?_)
  obtain ⟨hP1, hD1⟩ := hB
  rw [ht] at hP1
  obtain ⟨hP2, hD2⟩ := va_join (wr := wr) (w1 := u) hP hD isC isR hC hRr hnd hdis hk1 hFc hP1 hD1
  exact kk u hw H1 locs1 ls hP2 hD2 hS1 h9
/-- a method of a part, over the part's own small world, which is all that there is -/
theorem gv_small (C : GC K A D tys cc nL Ts own R0 E) {S : SID} {a a1 : St} {b n : Nat} {As : List Value} {C1 : String} {q : vw_C} {ci : Nat} {fs : List Value} (hSD : S.1 = D) (is : List Nat) (hKs : is.filterMap (fun i => tys[i]?) = S.2.1) (hE1 : EC S) (hE0 : ∀ U H, S.2.2.2.2 U H) (ws1 : va_W) (hpk : va_D A ws → (∀ q, S.2.2.1 q → A q) ∧ (∀ l : Launch, Met l y w1 rm (xPre S (.ref b :: As) a) (xPostV S a1) 0 0 S.2.2.1) ∧ va_D A ws1) (hG : GoodIn Ts (wsV own index C1 y w1)) (hw : w1 = Cond.code y bytes maxL none :: w1') (hrm : rm.cells = 0 ∧ rm.slots = 0)
    (hd : y.cls = C1 ∧ y.cls ≠ "java/lang/invoke/MethodHandle" ∧ y.cls ≠ "java/lang/invoke/VarHandle" ∧ (parseMethodDescriptor y.desc).map (fun d => d.parameters.length) = some n) (hR : rm.frames + 1 ≤ R0.frames ∧ 8 + (maxL + 11) + rm.locals ≤ R0.locals)
    (hws : ws = S.2.2.2.1 a) (hws1 : S.2.2.2.1 a1 = ws1) (q0 : Nat) (hc : vwCl[ci]? = some q) (hq : q.1 = C1) (he : ws[q0]? = some (b, .inr (ci, fs))) (hn : As.length = n) (hst : stk = As.reverse ++ .ref b :: st) (hcat : (st.map fun v => v.category).sum ≤ 8) (hdg : decode cc pc = .ok (.invokevirtual index, 3)) (hcells : kc ≤ R0.cells ∧ ks ≤ R0.slots) (kk : GV K A D nL ws1 kc ks lvs (pc + 3) st) : GV K A D nL ws kc ks lvs pc stk := by
  obtain ⟨p, l, e9, R, s, m, args, below, meth, c, Q, k8, k9⟩ := K
  obtain ⟨hx, hb, hml, hts, hown, hK, hA, hRR, hE, hin2⟩ := C
  subst hRR
  subst hq
  subst hSD
  intro H locs ls hP hD hS h9
  obtain ⟨hA1, hM, hD1⟩ := hpk hD
  have hK2 : va_K S.1 vwCl S.2.1 s := hK.sub is hKs
  refine va_callv (va_runV ⟨hx, hb, hml, hown, hts⟩ (hM l) (cwV n hts hG hw hrm.1 hrm.2 hd hR) ⟨xPre_blind hE1 _ _, va_recv hK hP hc he, fun U hU hW => ⟨rfl, by subst hU; subst hws; exact hP, va_K.moved hW.alike hK2, hE0 _ _⟩⟩ rfl hn h9.1 hst (lv_room hcat) hdg hcells) hS (fun q _ h => hA1 q h) (fun q h => hA1 q h) (fun u t H1 locs1 ht _ hw hB _ _ hS1 => ?_)
  subst hw
  rw [ht] at hB
  subst hws1
  exact kk H1 locs1 ls hB hD1 hS1 h9
/-- the same cells in another order -/
theorem gv_sub (ix : List Nat) (hn : va_nd ix = true) (ws1 : va_W) (h1 : ix.filterMap (fun i => ws[i]?) = ws1) (h2 : ix.map (fun i => ws[i]?) = ws1.map some) (kk : GV K A D nL ws1 kc ks lvs pc st) : GV K A D nL ws kc ks lvs pc st := by
  obtain ⟨p, l, e9, R, s, m, args, below, meth, c, Q, k8, k9⟩ := K
  exact fun H locs ls hP hD hS h9 => kk H locs ls (hP.sub ix h1) (hD.sub ix hn h2) hS h9
/-- an array whose places hold the same -/
theorem gv_cell (q0 : Nat) {adr : Nat} {c1 : ClassId} {x : vp_A} (he : ws[q0]? = some (adr, .inl (c1, x))) (x1 : vp_A) (hx : vp_cell c1 x = vp_cell c1 x1) (ws1 : va_W) (hset : ws.set q0 (adr, .inl (c1, x1)) = ws1) (kk : GV K A D nL ws1 kc ks lvs pc st) : GV K A D nL ws kc ks lvs pc st := by
  obtain ⟨p, l, e9, R, s, m, args, below, meth, c, Q, k8, k9⟩ := K
  subst hset
  intro H locs ls hP hD hS h9
  refine kk H locs ls (fun k q hq => ?_) (hD.set he) hS h9
  rw [List.getElem?_set] at hq
  by_cases h : q0 = k
  · rw [if_pos h] at hq
    split at hq
    · cases hq
      have h1 : H[adr]? = some (vp_cell c1 x) := hP q0 _ he
      show H[adr]? = some (vp_cell c1 x1)
      rw [← hx]
      exact h1
    · cases hq
  · rw [if_neg h] at hq
    exact hP k q hq
theorem gE_t : gE (fun _ => True) := ⟨fun _ _ _ _ => trivial, fun _ _ _ _ => trivial⟩
theorem gE_n : gE (fun U => (∀ w ∈ nsW, va_Nw w U) ∧ va_AO "MirrorHour$Image" U) := by
  refine ⟨fun u U hv h0 => ⟨fun w hw => ?_, h0.2.moved (by rw [hv]; exact Vm.Alike.refl _)⟩, fun s U hW h0 => ⟨fun w hw => ?_, h0.2.moved hW.alike⟩⟩ <;> have h := h0.1
  · rcases nsW_kind w hw with ⟨a, i, b, n, d, h2, rfl⟩ | ⟨a, i, x, h2, rfl⟩ <;> exact (h _ hw).same rfl hv.symm
  · rcases nsW_kind w hw with ⟨a, i, b, n, d, h2, rfl⟩ | ⟨a, i, x, h2, rfl⟩
    · exact va_Nw.warmF hW (h _ hw)
    · exact va_Nw.warmM hW (h _ hw)
end XG
section XGM
variable {l : Launch} {y : MethodName} {ws ws' : List Cond} {rm : Room} {cc : ByteArray} {maxL : Nat} {D : va_G} {tys : List (ClassId × FieldType)} {E : State → Prop} {b : Nat} {e : va_E} {sz mc ms : Nat} {shape : va_W → Prop}
theorem gm_init (hy : plainName y.cls = true) (hnm : y.name = "<init>") (hw : ws = Cond.code y cc maxL none :: ws') (hlen : 1 ≤ maxL) (body : ∀ K : CTX, GC K (va_A [(b, e)] sz) D tys cc maxL ws y.cls rm E → (∀ (u : va_W) (lvs : List (Nat × Value)) (pc : Nat), shape u → decode cc pc = .ok (.return_, 1) → GV K (va_A [(b, e)] sz) D maxL u mc ms lvs pc []) → GV K (va_A [(b, e)] sz) D maxL [(b, e)] 0 0 [(0, .ref b)] 0 []) : Met l y ws rm (gPre D tys E b e sz) (gPost D shape b e sz) mc ms (va_A [(b, e)] sz) := by
  refine Met.ofW hy hw ?_
  intro p e9 s m args below meth c s₁ B hml hv
  obtain ⟨rfl, hsz, hP, hK, hE0⟩ := hv
  have hl := lv_entry [.ref b] (n := maxL) (by show 1 ≤ maxL; exact hlen)
  rw [lg_entry_eq]
  subst hsz
  have hD : va_D (va_A [(b, e)] s.heap.size) [(b, e)] := by
    refine ⟨fun i j p q hp hq _ => ?_, fun k q hq => va_A.in hq⟩
    have h1 : i < 1 := (List.getElem?_eq_some_iff.mp hp).1
    have h2 : j < 1 := (List.getElem?_eq_some_iff.mp hq).1
    omega
  refine body (p, l, e9, rm, s, m, [Value.ref b].toArray, below, meth, c, MQ below (gPost D shape b e s.heap.size) [Value.ref b].toArray s mc ms (va_A [(b, e)] s.heap.size), 0, 0) ⟨B.exec, B.bytes, hml, atoms_spec (ws := ws) B.pre, findClass_of_methodNamed B.named, hK, fun q h => Or.inr h, rfl, hE0, ?_⟩ (fun u lvs pc hu hdg H locs ls hP hD hS h9 => ?_) s.heap [] _ hP hD va_S.rf hl
  · have h1 := (name_of_methodNamed B.named B.method).1
    rw [h1, hnm]
  · have hlocks := B.notSynchronized
    exact W.vret B.exec B.bytes B.returns (fun t ht hW => ⟨⟨u, rfl, hu, by subst ht; exact hP, hD⟩, hS.F ht⟩) hS.2.2 hdg
end XGM
