/-! ===== base: a method's walk over ONE world of cells that never grows; the state is a table of Int32, cell by slot ===== -/
abbrev St : Type := Nat → Nat → Int32
def up (a : St) (i k : Nat) (x : Int32) : St := fun j => bif Nat.beq j i then upd (a i) k x else a j
def uprow (a : St) (i : Nat) (f : Nat → Int32) : St := fun j => bif Nat.beq j i then f else a j
abbrev CTX : Type := Program × Launch × Env × Room × State × MethodId × Array Value × List Frame × Method × Code × (State → Prop) × Nat × Nat
abbrev SID : Type := va_G × List (ClassId × FieldType) × (Nat → Prop) × (St → va_W) × (State → Heap → Prop)
def V (K : CTX) (S : SID) (nL : Nat) (a : St) (lvs : List (Nat × Value)) (pc : Nat) (st : List Value) : Prop := match K with
  | (p, l, e, R, s, m, args, below, meth, c, Q, kc, ks) => ∀ (H : Heap) (locs : List Loc) (ls : Array Slot), va_P S.1 vwCl (S.2.2.2.1 a) H → va_S S.2.2.1 s.heap H locs → lv_has ls nL lvs → W p l e R s m args below meth c H locs kc ks Q (F0 m pc ls st)
def EC (S : SID) : Prop := (∀ (u U : State) (H : Heap), U.vm = u.vm → S.2.2.2.2 u H → S.2.2.2.2 U H) ∧ (∀ (s U : State) (H : Heap), s.WarmedH U.vm → S.2.2.2.2 s H → S.2.2.2.2 U H) ∧ (∀ (U : State) (H H1 : Heap), (∀ q : Nat, q < H.size → ¬ S.2.2.1 q → H1[q]? = H[q]?) → S.2.2.2.2 U H → S.2.2.2.2 U H1)
def CC (K : CTX) (S : SID) (cc : ByteArray) (nL : Nat) (Ts : List Cond) (own : String) (R0 : Room) : Prop := match K with
  | (p, l, e, R, s, m, args, below, meth, c, Q, kc, ks) => p.tables.exec = Jvm.exec ∧ c.code = cc ∧ c.maxLocals = nL ∧ (∀ w ∈ Ts, w.before args s = true) ∧ s.vm.findClass own = some m.cls ∧ (meth.locks = false ∧ kc ≤ R.cells ∧ ks ≤ R.slots) ∧ va_K S.1 vwCl S.2.1 s ∧ (∀ a, va_D S.2.2.1 (S.2.2.2.1 a)) ∧ EC S ∧ S.2.2.2.2 s s.heap ∧ R = R0
def xPre (S : SID) (av : List Value) (a : St) : Array Value → State → Prop := va_Pc av (fun U => va_P S.1 vwCl (S.2.2.2.1 a) U.heap ∧ va_K S.1 vwCl S.2.1 U ∧ S.2.2.2.2 U U.heap)
def xPostI (S : SID) (r : Int32) (a1 : St) : Array Value → State → Outcome → State → Prop := va_Qi (fun (r2 : Int32) (a2 : St) => r2 = r ∧ a2 = a1) (fun a2 t => va_P S.1 vwCl (S.2.2.2.1 a2) t.heap) S.2.2.1
def xPostL (S : SID) (r : Int64) (a1 : St) : Array Value → State → Outcome → State → Prop := va_Ql (fun (r2 : Int64) (a2 : St) => r2 = r ∧ a2 = a1) (fun a2 t => va_P S.1 vwCl (S.2.2.2.1 a2) t.heap) S.2.2.1
def xPostV (S : SID) (a1 : St) : Array Value → State → Outcome → State → Prop := va_Qv (fun (a2 : St) => a2 = a1) (fun a2 t => va_P S.1 vwCl (S.2.2.2.1 a2) t.heap) S.2.2.1
def xPostR (S : SID) (r : Nat) (a1 : St) : Array Value → State → Outcome → State → Prop := va_Qr (fun (a2 : St) => a2 = a1) (fun a2 b t => b = r ∧ va_P S.1 vwCl (S.2.2.2.1 a2) t.heap) S.2.2.1
theorem xPre_blind {S : SID} (hE : EC S) (av : List Value) (a : St) : FrameBlind (xPre S av a) := fun v U g mk q => by
  obtain ⟨q0, qP, qK, qE⟩ := q
  exact ⟨q0, qP, va_K.moved (u := U) (U := U.calling g mk v) (Vm.Alike.refl U.vm) qK, hE.1 U _ _ rfl qE⟩
/-- a branch of a tree of answers -/
theorem dt_pos {α : Type} {c : Prop} [Decidable c] {A B v : α} (h : c) (hf : (if c then A else B) = v) : A = v := by rwa [if_pos h] at hf
theorem dt_neg {α : Type} {c : Prop} [Decidable c] {A B v : α} (h : ¬ c) (hf : (if c then A else B) = v) : B = v := by rwa [if_neg h] at hf
theorem dt_bind {α β : Type} {x : Option α} {f : α → Option β} {v : β} (hf : x.bind f = some v) : ∃ q, x = some q ∧ f q = some v := by
  cases x with
  | none => cases hf
  | some q => exact ⟨q, rfl, hf⟩
section XV
variable {K : CTX} {S : SID} {cc : ByteArray} {nL : Nat} {Ts : List Cond} {own : String} {R0 : Room} {a : St} {lvs : List (Nat × Value)} {pc : Nat} {st : List Value}
theorem xv_eq {lvs2 : List (Nat × Value)} (ix : List Nat) (h : lv_pick lvs ix = lvs2) (kk : V K S nL a lvs2 pc st) : V K S nL a lvs pc st := by
  obtain ⟨p, l, e, R, s, m, args, below, meth, c, Q, kc, ks⟩ := K
  exact fun H locs ls hP hS hl => kk H locs ls hP hS (lv_sub hl ix h)
theorem xv_iconst (C : CC K S cc nL Ts own R0) {n : Int} (v : Int32) (hdg : decode cc pc = .ok (.iconst n, 1)) (hv : Int32.ofInt n = v) (kk : V K S nL a lvs (pc + 1) (.int v :: st)) : V K S nL a lvs pc st := by
  obtain ⟨p, l, e, R, s, m, args, below, meth, c, Q, kc, ks⟩ := K
  obtain ⟨hx, hb, -⟩ := C
  exact fun H locs ls hP hS hl => lv_iconst hx hb hdg hv (kk H locs ls hP hS hl)
theorem xv_bipush (C : CC K S cc nL Ts own R0) {n : Int} (v : Int32) (hdg : decode cc pc = .ok (.bipush n, 2)) (hv : (Int8.ofInt n).toInt32 = v) (kk : V K S nL a lvs (pc + 2) (.int v :: st)) : V K S nL a lvs pc st := by
  obtain ⟨p, l, e, R, s, m, args, below, meth, c, Q, kc, ks⟩ := K
  obtain ⟨hx, hb, -⟩ := C
  exact fun H locs ls hP hS hl => lv_bipush hx hb hdg hv (kk H locs ls hP hS hl)
theorem xv_sipush (C : CC K S cc nL Ts own R0) {n : Int} (v : Int32) (hdg : decode cc pc = .ok (.sipush n, 3)) (hv : (Int16.ofInt n).toInt32 = v) (kk : V K S nL a lvs (pc + 3) (.int v :: st)) : V K S nL a lvs pc st := by
  obtain ⟨p, l, e, R, s, m, args, below, meth, c, Q, kc, ks⟩ := K
  obtain ⟨hx, hb, -⟩ := C
  exact fun H locs ls hP hS hl => lv_sipush hx hb hdg hv (kk H locs ls hP hS hl)
theorem xv_lconst (C : CC K S cc nL Ts own R0) {n : Fin 2} (v : Int64) (hdg : decode cc pc = .ok (.lconst n, 1)) (hv : Int64.ofNat (n : Nat) = v) (kk : V K S nL a lvs (pc + 1) (.long v :: st)) : V K S nL a lvs pc st := by
  obtain ⟨p, l, e, R, s, m, args, below, meth, c, Q, kc, ks⟩ := K
  obtain ⟨hx, hb, -⟩ := C
  exact fun H locs ls hP hS hl => lv_lconst hx hb hdg hv (kk H locs ls hP hS hl)
theorem xv_ldc (C : CC K S cc nL Ts own R0) {index : Nat} (v : Int32) (hdg : decode cc pc = .ok (.ldc index, 2)) (hc : Cond.constant own index v ∈ Ts) (kk : V K S nL a lvs (pc + 2) (.int v :: st)) : V K S nL a lvs pc st := by
  obtain ⟨p, l, e, R, s, m, args, below, meth, c, Q, kc, ks⟩ := K
  obtain ⟨hx, hb, -, hts, hown, -⟩ := C
  exact fun H locs ls hP hS hl => lv_ldc hx hb hown (hts _ hc) hdg (kk H locs ls hP hS hl)
theorem xv_ldcw (C : CC K S cc nL Ts own R0) {index : Nat} (v : Int32) (hdg : decode cc pc = .ok (.ldc_w index, 3)) (hc : Cond.constant own index v ∈ Ts) (kk : V K S nL a lvs (pc + 3) (.int v :: st)) : V K S nL a lvs pc st := by
  obtain ⟨p, l, e, R, s, m, args, below, meth, c, Q, kc, ks⟩ := K
  obtain ⟨hx, hb, -, hts, hown, -⟩ := C
  exact fun H locs ls hP hS hl => lv_ldcw hx hb hown (hts _ hc) hdg (kk H locs ls hP hS hl)
theorem xv_ldc2 (C : CC K S cc nL Ts own R0) {index : Nat} (v : Int64) (hdg : decode cc pc = .ok (.ldc2_w index, 3)) (hc : Cond.constantLong own index v ∈ Ts) (kk : V K S nL a lvs (pc + 3) (.long v :: st)) : V K S nL a lvs pc st := by
  obtain ⟨p, l, e, R, s, m, args, below, meth, c, Q, kc, ks⟩ := K
  obtain ⟨hx, hb, -, hts, hown, -⟩ := C
  exact fun H locs ls hP hS hl => lv_ldc2 hx hb hown (hts _ hc) hdg (kk H locs ls hP hS hl)
theorem xv_iload_n (C : CC K S cc nL Ts own R0) {k : Fin 4} {i : Nat} {x : Int32} (hdg : decode cc pc = .ok (.iload_n k, 1)) (hi : (k : Nat) = i) (j : Nat) (hl : lvs[j]? = some (i, .int x)) (kk : V K S nL a lvs (pc + 1) (.int x :: st)) : V K S nL a lvs pc st := by
  obtain ⟨p, l, e, R, s, m, args, below, meth, c, Q, kc, ks⟩ := K
  obtain ⟨hx, hb, -⟩ := C
  exact fun H locs ls hP hS h9 => lv_iload_n hx hb hdg hi (lv_at h9 j hl) (kk H locs ls hP hS h9)
theorem xv_iload (C : CC K S cc nL Ts own R0) {i : Nat} {x : Int32} (hdg : decode cc pc = .ok (.iload i, 2)) (j : Nat) (hl : lvs[j]? = some (i, .int x)) (kk : V K S nL a lvs (pc + 2) (.int x :: st)) : V K S nL a lvs pc st := by
  obtain ⟨p, l, e, R, s, m, args, below, meth, c, Q, kc, ks⟩ := K
  obtain ⟨hx, hb, -⟩ := C
  exact fun H locs ls hP hS h9 => lv_iload hx hb hdg (lv_at h9 j hl) (kk H locs ls hP hS h9)
theorem xv_lload_n (C : CC K S cc nL Ts own R0) {k : Fin 4} {i : Nat} {x : Int64} (hdg : decode cc pc = .ok (.lload_n k, 1)) (hi : (k : Nat) = i) (j : Nat) (hl : lvs[j]? = some (i, .long x)) (kk : V K S nL a lvs (pc + 1) (.long x :: st)) : V K S nL a lvs pc st := by
  obtain ⟨p, l, e, R, s, m, args, below, meth, c, Q, kc, ks⟩ := K
  obtain ⟨hx, hb, -⟩ := C
  exact fun H locs ls hP hS h9 => lv_lload_n hx hb hdg hi (lv_at h9 j hl) (kk H locs ls hP hS h9)
theorem xv_lload (C : CC K S cc nL Ts own R0) {i : Nat} {x : Int64} (hdg : decode cc pc = .ok (.lload i, 2)) (j : Nat) (hl : lvs[j]? = some (i, .long x)) (kk : V K S nL a lvs (pc + 2) (.long x :: st)) : V K S nL a lvs pc st := by
  obtain ⟨p, l, e, R, s, m, args, below, meth, c, Q, kc, ks⟩ := K
  obtain ⟨hx, hb, -⟩ := C
  exact fun H locs ls hP hS h9 => lv_lload hx hb hdg (lv_at h9 j hl) (kk H locs ls hP hS h9)
theorem xv_aload_n (C : CC K S cc nL Ts own R0) {k : Fin 4} {i : Nat} {x : Nat} (hdg : decode cc pc = .ok (.aload_n k, 1)) (hi : (k : Nat) = i) (j : Nat) (hl : lvs[j]? = some (i, .ref x)) (kk : V K S nL a lvs (pc + 1) (.ref x :: st)) : V K S nL a lvs pc st := by
  obtain ⟨p, l, e, R, s, m, args, below, meth, c, Q, kc, ks⟩ := K
  obtain ⟨hx, hb, -⟩ := C
  exact fun H locs ls hP hS h9 => lv_aload_n hx hb hdg hi (lv_at h9 j hl) (kk H locs ls hP hS h9)
theorem xv_aload (C : CC K S cc nL Ts own R0) {i : Nat} {x : Nat} (hdg : decode cc pc = .ok (.aload i, 2)) (j : Nat) (hl : lvs[j]? = some (i, .ref x)) (kk : V K S nL a lvs (pc + 2) (.ref x :: st)) : V K S nL a lvs pc st := by
  obtain ⟨p, l, e, R, s, m, args, below, meth, c, Q, kc, ks⟩ := K
  obtain ⟨hx, hb, -⟩ := C
  exact fun H locs ls hP hS h9 => lv_aload hx hb hdg (lv_at h9 j hl) (kk H locs ls hP hS h9)
theorem xv_istore_n (C : CC K S cc nL Ts own R0) {k : Fin 4} {i : Nat} {x : Int32} (lv' : List (Nat × Value)) (hdg : decode cc pc = .ok (.istore_n k, 1)) (hi : (k : Nat) = i) (hn : i < nL) (hl : (i, Value.int x) :: lvs.filter (fun q => !(q.1 == i) && !(q.1 + 1 == i && q.2.category == 2)) = lv') (kk : V K S nL a lv' (pc + 1) st) : V K S nL a lvs pc (.int x :: st) := by
  obtain ⟨p, l, e, R, s, m, args, below, meth, c, Q, kc, ks⟩ := K
  obtain ⟨hx, hb, -⟩ := C
  exact fun H locs ls hP hS h9 => lv_istore_n hx hb hdg hi h9 hn hl (fun ls h9 => kk H locs ls hP hS h9)
theorem xv_istore (C : CC K S cc nL Ts own R0) {i : Nat} {x : Int32} (lv' : List (Nat × Value)) (hdg : decode cc pc = .ok (.istore i, 2)) (hn : i < nL) (hl : (i, Value.int x) :: lvs.filter (fun q => !(q.1 == i) && !(q.1 + 1 == i && q.2.category == 2)) = lv') (kk : V K S nL a lv' (pc + 2) st) : V K S nL a lvs pc (.int x :: st) := by
  obtain ⟨p, l, e, R, s, m, args, below, meth, c, Q, kc, ks⟩ := K
  obtain ⟨hx, hb, -⟩ := C
  exact fun H locs ls hP hS h9 => lv_istore hx hb hdg h9 hn hl (fun ls h9 => kk H locs ls hP hS h9)
theorem xv_lstore_n (C : CC K S cc nL Ts own R0) {k : Fin 4} {i : Nat} {x : Int64} (lv' : List (Nat × Value)) (hdg : decode cc pc = .ok (.lstore_n k, 1)) (hi : (k : Nat) = i) (hn : i + 1 < nL) (hl : (i, Value.long x) :: lvs.filter (fun q => !(q.1 == i) && (!(q.1 == i + 1) && !(q.1 + 1 == i && q.2.category == 2))) = lv') (kk : V K S nL a lv' (pc + 1) st) : V K S nL a lvs pc (.long x :: st) := by
  obtain ⟨p, l, e, R, s, m, args, below, meth, c, Q, kc, ks⟩ := K
  obtain ⟨hx, hb, -⟩ := C
  exact fun H locs ls hP hS h9 => lv_lstore_n hx hb hdg hi h9 hn hl (fun ls h9 => kk H locs ls hP hS h9)
theorem xv_lstore (C : CC K S cc nL Ts own R0) {i : Nat} {x : Int64} (lv' : List (Nat × Value)) (hdg : decode cc pc = .ok (.lstore i, 2)) (hn : i + 1 < nL) (hl : (i, Value.long x) :: lvs.filter (fun q => !(q.1 == i) && (!(q.1 == i + 1) && !(q.1 + 1 == i && q.2.category == 2))) = lv') (kk : V K S nL a lv' (pc + 2) st) : V K S nL a lvs pc (.long x :: st) := by
  obtain ⟨p, l, e, R, s, m, args, below, meth, c, Q, kc, ks⟩ := K
  obtain ⟨hx, hb, -⟩ := C
  exact fun H locs ls hP hS h9 => lv_lstore hx hb hdg h9 hn hl (fun ls h9 => kk H locs ls hP hS h9)
theorem xv_astore_n (C : CC K S cc nL Ts own R0) {k : Fin 4} {i : Nat} {x : Nat} (lv' : List (Nat × Value)) (hdg : decode cc pc = .ok (.astore_n k, 1)) (hi : (k : Nat) = i) (hn : i < nL) (hl : (i, Value.ref x) :: lvs.filter (fun q => !(q.1 == i) && !(q.1 + 1 == i && q.2.category == 2)) = lv') (kk : V K S nL a lv' (pc + 1) st) : V K S nL a lvs pc (.ref x :: st) := by
  obtain ⟨p, l, e, R, s, m, args, below, meth, c, Q, kc, ks⟩ := K
  obtain ⟨hx, hb, -⟩ := C
  exact fun H locs ls hP hS h9 => lv_astore_n hx hb hdg hi h9 hn hl (fun ls h9 => kk H locs ls hP hS h9)
theorem xv_astore (C : CC K S cc nL Ts own R0) {i : Nat} {x : Nat} (lv' : List (Nat × Value)) (hdg : decode cc pc = .ok (.astore i, 2)) (hn : i < nL) (hl : (i, Value.ref x) :: lvs.filter (fun q => !(q.1 == i) && !(q.1 + 1 == i && q.2.category == 2)) = lv') (kk : V K S nL a lv' (pc + 2) st) : V K S nL a lvs pc (.ref x :: st) := by
  obtain ⟨p, l, e, R, s, m, args, below, meth, c, Q, kc, ks⟩ := K
  obtain ⟨hx, hb, -⟩ := C
  exact fun H locs ls hP hS h9 => lv_astore hx hb hdg h9 hn hl (fun ls h9 => kk H locs ls hP hS h9)
theorem xv_iinc (C : CC K S cc nL Ts own R0) {i : Nat} {n : Int} {x v : Int32} (lv' : List (Nat × Value)) (hdg : decode cc pc = .ok (.iinc i n, 3)) (k : Nat) (hk : lvs[k]? = some (i, .int x)) (hv : x + Int32.ofInt n = v) (hn : i < nL) (hl : (i, Value.int v) :: lvs.filter (fun q => !(q.1 == i) && !(q.1 + 1 == i && q.2.category == 2)) = lv') (kk : V K S nL a lv' (pc + 3) st) : V K S nL a lvs pc st := by
  obtain ⟨p, l, e, R, s, m, args, below, meth, c, Q, kc, ks⟩ := K
  obtain ⟨hx, hb, -⟩ := C
  exact fun H locs ls hP hS h9 => lv_iinc hx hb hdg h9 hk hv hn hl (fun ls h9 => kk H locs ls hP hS h9)
theorem xv_goto (C : CC K S cc nL Ts own R0) {off : Int} (tgt : Nat) (hdg : decode cc pc = .ok (.goto off, 3)) (ht : (pc : Int) + off = (tgt : Int)) (kk : V K S nL a lvs tgt st) : V K S nL a lvs pc st := by
  obtain ⟨p, l, e, R, s, m, args, below, meth, c, Q, kc, ks⟩ := K
  obtain ⟨hx, hb, -⟩ := C
  exact fun H locs ls hP hS h9 => lv_goto hx hb hdg ht (kk H locs ls hP hS h9)
theorem xv_iadd (C : CC K S cc nL Ts own R0) {x y : Int32} (hdg : decode cc pc = .ok (.iadd, 1)) (kk : V K S nL a lvs (pc + 1) (.int (x + y) :: st)) : V K S nL a lvs pc (.int y :: .int x :: st) := by
  obtain ⟨p, l, e, R, s, m, args, below, meth, c, Q, kc, ks⟩ := K
  obtain ⟨hx, hb, -⟩ := C
  exact fun H locs ls hP hS h9 => lv_iadd hx hb hdg (kk H locs ls hP hS h9)
theorem xv_isub (C : CC K S cc nL Ts own R0) {x y : Int32} (hdg : decode cc pc = .ok (.isub, 1)) (kk : V K S nL a lvs (pc + 1) (.int (x - y) :: st)) : V K S nL a lvs pc (.int y :: .int x :: st) := by
  obtain ⟨p, l, e, R, s, m, args, below, meth, c, Q, kc, ks⟩ := K
  obtain ⟨hx, hb, -⟩ := C
  exact fun H locs ls hP hS h9 => lv_isub hx hb hdg (kk H locs ls hP hS h9)
theorem xv_imul (C : CC K S cc nL Ts own R0) {x y : Int32} (hdg : decode cc pc = .ok (.imul, 1)) (kk : V K S nL a lvs (pc + 1) (.int (x * y) :: st)) : V K S nL a lvs pc (.int y :: .int x :: st) := by
  obtain ⟨p, l, e, R, s, m, args, below, meth, c, Q, kc, ks⟩ := K
  obtain ⟨hx, hb, -⟩ := C
  exact fun H locs ls hP hS h9 => lv_imul hx hb hdg (kk H locs ls hP hS h9)
theorem xv_iand (C : CC K S cc nL Ts own R0) {x y : Int32} (hdg : decode cc pc = .ok (.iand, 1)) (kk : V K S nL a lvs (pc + 1) (.int (x &&& y) :: st)) : V K S nL a lvs pc (.int y :: .int x :: st) := by
  obtain ⟨p, l, e, R, s, m, args, below, meth, c, Q, kc, ks⟩ := K
  obtain ⟨hx, hb, -⟩ := C
  exact fun H locs ls hP hS h9 => lv_iand hx hb hdg (kk H locs ls hP hS h9)
theorem xv_ior (C : CC K S cc nL Ts own R0) {x y : Int32} (hdg : decode cc pc = .ok (.ior, 1)) (kk : V K S nL a lvs (pc + 1) (.int (x ||| y) :: st)) : V K S nL a lvs pc (.int y :: .int x :: st) := by
  obtain ⟨p, l, e, R, s, m, args, below, meth, c, Q, kc, ks⟩ := K
  obtain ⟨hx, hb, -⟩ := C
  exact fun H locs ls hP hS h9 => lv_ior hx hb hdg (kk H locs ls hP hS h9)
theorem xv_ixor (C : CC K S cc nL Ts own R0) {x y : Int32} (hdg : decode cc pc = .ok (.ixor, 1)) (kk : V K S nL a lvs (pc + 1) (.int (x ^^^ y) :: st)) : V K S nL a lvs pc (.int y :: .int x :: st) := by
  obtain ⟨p, l, e, R, s, m, args, below, meth, c, Q, kc, ks⟩ := K
  obtain ⟨hx, hb, -⟩ := C
  exact fun H locs ls hP hS h9 => lv_ixor hx hb hdg (kk H locs ls hP hS h9)
theorem xv_ishl (C : CC K S cc nL Ts own R0) {x y : Int32} (hdg : decode cc pc = .ok (.ishl, 1)) (kk : V K S nL a lvs (pc + 1) (.int (x <<< (y &&& 31)) :: st)) : V K S nL a lvs pc (.int y :: .int x :: st) := by
  obtain ⟨p, l, e, R, s, m, args, below, meth, c, Q, kc, ks⟩ := K
  obtain ⟨hx, hb, -⟩ := C
  exact fun H locs ls hP hS h9 => lv_ishl hx hb hdg (kk H locs ls hP hS h9)
theorem xv_ishr (C : CC K S cc nL Ts own R0) {x y : Int32} (hdg : decode cc pc = .ok (.ishr, 1)) (kk : V K S nL a lvs (pc + 1) (.int (x >>> (y &&& 31)) :: st)) : V K S nL a lvs pc (.int y :: .int x :: st) := by
  obtain ⟨p, l, e, R, s, m, args, below, meth, c, Q, kc, ks⟩ := K
  obtain ⟨hx, hb, -⟩ := C
  exact fun H locs ls hP hS h9 => lv_ishr hx hb hdg (kk H locs ls hP hS h9)
theorem xv_iushr (C : CC K S cc nL Ts own R0) {x y : Int32} (hdg : decode cc pc = .ok (.iushr, 1)) (kk : V K S nL a lvs (pc + 1) (.int ((x.toUInt32 >>> (y.toUInt32 &&& Int32.toUInt32 31)).toInt32) :: st)) : V K S nL a lvs pc (.int y :: .int x :: st) := by
  obtain ⟨p, l, e, R, s, m, args, below, meth, c, Q, kc, ks⟩ := K
  obtain ⟨hx, hb, -⟩ := C
  exact fun H locs ls hP hS h9 => lv_iushr hx hb hdg rfl (kk H locs ls hP hS h9)
theorem xv_ineg (C : CC K S cc nL Ts own R0) {x : Int32} (hdg : decode cc pc = .ok (.ineg, 1)) (kk : V K S nL a lvs (pc + 1) (.int (-x) :: st)) : V K S nL a lvs pc (.int x :: st) := by
  obtain ⟨p, l, e, R, s, m, args, below, meth, c, Q, kc, ks⟩ := K
  obtain ⟨hx, hb, -⟩ := C
  exact fun H locs ls hP hS h9 => lv_ineg hx hb hdg (kk H locs ls hP hS h9)
theorem xv_lmul (C : CC K S cc nL Ts own R0) {x y : Int64} (hdg : decode cc pc = .ok (.lmul, 1)) (kk : V K S nL a lvs (pc + 1) (.long (x * y) :: st)) : V K S nL a lvs pc (.long y :: .long x :: st) := by
  obtain ⟨p, l, e, R, s, m, args, below, meth, c, Q, kc, ks⟩ := K
  obtain ⟨hx, hb, -⟩ := C
  exact fun H locs ls hP hS h9 => lv_lmul hx hb hdg (kk H locs ls hP hS h9)
theorem xv_land (C : CC K S cc nL Ts own R0) {x y : Int64} (hdg : decode cc pc = .ok (.land, 1)) (kk : V K S nL a lvs (pc + 1) (.long (x &&& y) :: st)) : V K S nL a lvs pc (.long y :: .long x :: st) := by
  obtain ⟨p, l, e, R, s, m, args, below, meth, c, Q, kc, ks⟩ := K
  obtain ⟨hx, hb, -⟩ := C
  exact fun H locs ls hP hS h9 => lv_land hx hb hdg (kk H locs ls hP hS h9)
theorem xv_lshr (C : CC K S cc nL Ts own R0) {x : Int64} {y : Int32} (hdg : decode cc pc = .ok (.lshr, 1)) (kk : V K S nL a lvs (pc + 1) (.long (x >>> (y.toInt64 &&& 63)) :: st)) : V K S nL a lvs pc (.int y :: .long x :: st) := by
  obtain ⟨p, l, e, R, s, m, args, below, meth, c, Q, kc, ks⟩ := K
  obtain ⟨hx, hb, -⟩ := C
  exact fun H locs ls hP hS h9 => lv_lshr hx hb hdg rfl (kk H locs ls hP hS h9)
theorem xv_i2l (C : CC K S cc nL Ts own R0) {x : Int32} (hdg : decode cc pc = .ok (.i2l, 1)) (kk : V K S nL a lvs (pc + 1) (.long x.toInt64 :: st)) : V K S nL a lvs pc (.int x :: st) := by
  obtain ⟨p, l, e, R, s, m, args, below, meth, c, Q, kc, ks⟩ := K
  obtain ⟨hx, hb, -⟩ := C
  exact fun H locs ls hP hS h9 => lv_i2l hx hb hdg rfl (kk H locs ls hP hS h9)
theorem xv_l2i (C : CC K S cc nL Ts own R0) {x : Int64} (hdg : decode cc pc = .ok (.l2i, 1)) (kk : V K S nL a lvs (pc + 1) (.int x.toInt32 :: st)) : V K S nL a lvs pc (.long x :: st) := by
  obtain ⟨p, l, e, R, s, m, args, below, meth, c, Q, kc, ks⟩ := K
  obtain ⟨hx, hb, -⟩ := C
  exact fun H locs ls hP hS h9 => lv_l2i hx hb hdg rfl (kk H locs ls hP hS h9)
theorem xv_lcmp (C : CC K S cc nL Ts own R0) {x y : Int64} (hdg : decode cc pc = .ok (.lcmp, 1)) (kk : V K S nL a lvs (pc + 1) (.int (lg_cmp x y) :: st)) : V K S nL a lvs pc (.long y :: .long x :: st) := by
  obtain ⟨p, l, e, R, s, m, args, below, meth, c, Q, kc, ks⟩ := K
  obtain ⟨hx, hb, -⟩ := C
  exact fun H locs ls hP hS h9 => W.lcmp hx hb hdg (kk H locs ls hP hS h9)
theorem xv_dup (C : CC K S cc nL Ts own R0) {va : Value} (hdg : decode cc pc = .ok (.dup, 1)) (hva : va.category = 1) (kk : V K S nL a lvs (pc + 1) (va :: va :: st)) : V K S nL a lvs pc (va :: st) := by
  obtain ⟨p, l, e, R, s, m, args, below, meth, c, Q, kc, ks⟩ := K
  obtain ⟨hx, hb, -⟩ := C
  exact fun H locs ls hP hS h9 => lv_dup hx hb hdg hva (kk H locs ls hP hS h9)
theorem xv_i2c (C : CC K S cc nL Ts own R0) {x : Int32} (v : Int32) (hdg : decode cc pc = .ok (.i2c, 1)) (hv : (x.toUInt32 % 65536).toInt32 = v) (kk : V K S nL a lvs (pc + 1) (.int v :: st)) : V K S nL a lvs pc (.int x :: st) := by
  obtain ⟨p, l, e, R, s, m, args, below, meth, c, Q, kc, ks⟩ := K
  obtain ⟨hx, hb, -⟩ := C
  exact fun H locs ls hP hS h9 => lv_i2c hx hb hdg hv (kk H locs ls hP hS h9)
theorem xv_pop (C : CC K S cc nL Ts own R0) {va : Value} (hdg : decode cc pc = .ok (.pop, 1)) (hva : va.category = 1) (kk : V K S nL a lvs (pc + 1) st) : V K S nL a lvs pc (va :: st) := by
  obtain ⟨p, l, e, R, s, m, args, below, meth, c, Q, kc, ks⟩ := K
  obtain ⟨hx, hb, -⟩ := C
  exact fun H locs ls hP hS h9 => lv_pop hx hb hdg hva (kk H locs ls hP hS h9)
theorem xv_dup2 (C : CC K S cc nL Ts own R0) {va vb : Value} (hdg : decode cc pc = .ok (.dup2, 1)) (hva : va.category = 1) (hvb : vb.category = 1) (kk : V K S nL a lvs (pc + 1) (va :: vb :: va :: vb :: st)) : V K S nL a lvs pc (va :: vb :: st) := by
  obtain ⟨p, l, e, R, s, m, args, below, meth, c, Q, kc, ks⟩ := K
  obtain ⟨hx, hb, -⟩ := C
  exact fun H locs ls hP hS h9 => lv_dup2_11 hx hb hdg hva hvb (kk H locs ls hP hS h9)
theorem xv_idiv (C : CC K S cc nL Ts own R0) {α : Type} {B : Option α} {v : α} {x y : Int32} (hf : (if y = 0 then none else B) = some v) (hdg : decode cc pc = .ok (.idiv, 1)) (kk : B = some v → V K S nL a lvs (pc + 1) (.int (x / y) :: st)) : V K S nL a lvs pc (.int y :: .int x :: st) := by
  obtain ⟨p, l, e, R, s, m, args, below, meth, c, Q, kc, ks⟩ := K
  obtain ⟨hx, hb, -⟩ := C
  intro H locs ls hP hS h9
  by_cases h : y = 0
  · cases dt_pos h hf
  · exact lv_idiv hx hb hdg h (kk (dt_neg h hf) H locs ls hP hS h9)
theorem xv_irem (C : CC K S cc nL Ts own R0) {α : Type} {B : Option α} {v : α} {x y : Int32} (hf : (if y = 0 then none else B) = some v) (hdg : decode cc pc = .ok (.irem, 1)) (kk : B = some v → V K S nL a lvs (pc + 1) (.int (x - x / y * y) :: st)) : V K S nL a lvs pc (.int y :: .int x :: st) := by
  obtain ⟨p, l, e, R, s, m, args, below, meth, c, Q, kc, ks⟩ := K
  obtain ⟨hx, hb, -⟩ := C
  intro H locs ls hP hS h9
  by_cases h : y = 0
  · cases dt_pos h hf
  · exact lv_irem hx hb hdg h (kk (dt_neg h hf) H locs ls hP hS h9)
theorem xv_ldiv (C : CC K S cc nL Ts own R0) {α : Type} {B : Option α} {v : α} {x y : Int64} (hf : (if y = 0 then none else B) = some v) (hdg : decode cc pc = .ok (.ldiv, 1)) (kk : B = some v → V K S nL a lvs (pc + 1) (.long (x / y) :: st)) : V K S nL a lvs pc (.long y :: .long x :: st) := by
  obtain ⟨p, l, e, R, s, m, args, below, meth, c, Q, kc, ks⟩ := K
  obtain ⟨hx, hb, -⟩ := C
  intro H locs ls hP hS h9
  by_cases h : y = 0
  · cases dt_pos h hf
  · exact lv_ldiv hx hb hdg h (kk (dt_neg h hf) H locs ls hP hS h9)
theorem xv_lrem (C : CC K S cc nL Ts own R0) {α : Type} {B : Option α} {v : α} {x y : Int64} (hf : (if y = 0 then none else B) = some v) (hdg : decode cc pc = .ok (.lrem, 1)) (kk : B = some v → V K S nL a lvs (pc + 1) (.long (x - x / y * y) :: st)) : V K S nL a lvs pc (.long y :: .long x :: st) := by
  obtain ⟨p, l, e, R, s, m, args, below, meth, c, Q, kc, ks⟩ := K
  obtain ⟨hx, hb, -⟩ := C
  intro H locs ls hP hS h9
  by_cases h : y = 0
  · cases dt_pos h hf
  · exact lv_lrem hx hb hdg h (kk (dt_neg h hf) H locs ls hP hS h9)
theorem xv_if_eq (C : CC K S cc nL Ts own R0) {α : Type} {A B : Option α} {v : α} {x y : Int32} {off : Int} (tgt : Nat) (hf : (if x = 0 then A else B) = some v) (hdg : decode cc pc = .ok (.ifCond .eq off, 3)) (ht : (pc : Int) + off = (tgt : Int)) (kt : x = 0 → A = some v → V K S nL a lvs tgt st) (kf : ¬ x = 0 → B = some v → V K S nL a lvs (pc + 3) st) : V K S nL a lvs pc (.int x :: st) := by
  obtain ⟨p, l, e, R, s, m, args, below, meth, c, Q, kc, ks⟩ := K
  obtain ⟨hx, hb, -⟩ := C
  exact fun H locs ls hP hS h9 => lv_if_eq hx hb hdg ht (fun h => kt h (dt_pos h hf) H locs ls hP hS h9) (fun h => kf h (dt_neg h hf) H locs ls hP hS h9)
theorem xv_if_ne (C : CC K S cc nL Ts own R0) {α : Type} {A B : Option α} {v : α} {x y : Int32} {off : Int} (tgt : Nat) (hf : (if x = 0 then A else B) = some v) (hdg : decode cc pc = .ok (.ifCond .ne off, 3)) (ht : (pc : Int) + off = (tgt : Int)) (kt : x = 0 → A = some v → V K S nL a lvs (pc + 3) st) (kf : ¬ x = 0 → B = some v → V K S nL a lvs tgt st) : V K S nL a lvs pc (.int x :: st) := by
  obtain ⟨p, l, e, R, s, m, args, below, meth, c, Q, kc, ks⟩ := K
  obtain ⟨hx, hb, -⟩ := C
  exact fun H locs ls hP hS h9 => lv_if_ne hx hb hdg ht (fun h => kf h (dt_neg h hf) H locs ls hP hS h9) (fun h => kt h (dt_pos h hf) H locs ls hP hS h9)
theorem xv_if_lt (C : CC K S cc nL Ts own R0) {α : Type} {A B : Option α} {v : α} {x y : Int32} {off : Int} (tgt : Nat) (hf : (if x < 0 then A else B) = some v) (hdg : decode cc pc = .ok (.ifCond .lt off, 3)) (ht : (pc : Int) + off = (tgt : Int)) (kt : x < 0 → A = some v → V K S nL a lvs tgt st) (kf : ¬ x < 0 → B = some v → V K S nL a lvs (pc + 3) st) : V K S nL a lvs pc (.int x :: st) := by
  obtain ⟨p, l, e, R, s, m, args, below, meth, c, Q, kc, ks⟩ := K
  obtain ⟨hx, hb, -⟩ := C
  exact fun H locs ls hP hS h9 => lv_if_lt hx hb hdg ht (fun h => kt h (dt_pos h hf) H locs ls hP hS h9) (fun h => kf h (dt_neg h hf) H locs ls hP hS h9)
theorem xv_if_ge (C : CC K S cc nL Ts own R0) {α : Type} {A B : Option α} {v : α} {x y : Int32} {off : Int} (tgt : Nat) (hf : (if 0 ≤ x then A else B) = some v) (hdg : decode cc pc = .ok (.ifCond .ge off, 3)) (ht : (pc : Int) + off = (tgt : Int)) (kt : 0 ≤ x → A = some v → V K S nL a lvs tgt st) (kf : ¬ 0 ≤ x → B = some v → V K S nL a lvs (pc + 3) st) : V K S nL a lvs pc (.int x :: st) := by
  obtain ⟨p, l, e, R, s, m, args, below, meth, c, Q, kc, ks⟩ := K
  obtain ⟨hx, hb, -⟩ := C
  exact fun H locs ls hP hS h9 => lv_if_ge hx hb hdg ht (fun h => kt h (dt_pos h hf) H locs ls hP hS h9) (fun h => kf h (dt_neg h hf) H locs ls hP hS h9)
theorem xv_if_gt (C : CC K S cc nL Ts own R0) {α : Type} {A B : Option α} {v : α} {x y : Int32} {off : Int} (tgt : Nat) (hf : (if 0 < x then A else B) = some v) (hdg : decode cc pc = .ok (.ifCond .gt off, 3)) (ht : (pc : Int) + off = (tgt : Int)) (kt : 0 < x → A = some v → V K S nL a lvs tgt st) (kf : ¬ 0 < x → B = some v → V K S nL a lvs (pc + 3) st) : V K S nL a lvs pc (.int x :: st) := by
  obtain ⟨p, l, e, R, s, m, args, below, meth, c, Q, kc, ks⟩ := K
  obtain ⟨hx, hb, -⟩ := C
  exact fun H locs ls hP hS h9 => lv_if_gt hx hb hdg ht (fun h => kt h (dt_pos h hf) H locs ls hP hS h9) (fun h => kf h (dt_neg h hf) H locs ls hP hS h9)
theorem xv_if_le (C : CC K S cc nL Ts own R0) {α : Type} {A B : Option α} {v : α} {x y : Int32} {off : Int} (tgt : Nat) (hf : (if x ≤ 0 then A else B) = some v) (hdg : decode cc pc = .ok (.ifCond .le off, 3)) (ht : (pc : Int) + off = (tgt : Int)) (kt : x ≤ 0 → A = some v → V K S nL a lvs tgt st) (kf : ¬ x ≤ 0 → B = some v → V K S nL a lvs (pc + 3) st) : V K S nL a lvs pc (.int x :: st) := by
  obtain ⟨p, l, e, R, s, m, args, below, meth, c, Q, kc, ks⟩ := K
  obtain ⟨hx, hb, -⟩ := C
  exact fun H locs ls hP hS h9 => lv_if_le hx hb hdg ht (fun h => kt h (dt_pos h hf) H locs ls hP hS h9) (fun h => kf h (dt_neg h hf) H locs ls hP hS h9)
theorem xv_icmp_eq (C : CC K S cc nL Ts own R0) {α : Type} {A B : Option α} {v : α} {x y : Int32} {off : Int} (tgt : Nat) (hf : (if x = y then A else B) = some v) (hdg : decode cc pc = .ok (.if_icmp .eq off, 3)) (ht : (pc : Int) + off = (tgt : Int)) (kt : x = y → A = some v → V K S nL a lvs tgt st) (kf : ¬ x = y → B = some v → V K S nL a lvs (pc + 3) st) : V K S nL a lvs pc (.int y :: .int x :: st) := by
  obtain ⟨p, l, e, R, s, m, args, below, meth, c, Q, kc, ks⟩ := K
  obtain ⟨hx, hb, -⟩ := C
  exact fun H locs ls hP hS h9 => lv_icmp_eq hx hb hdg ht (fun h => kt h (dt_pos h hf) H locs ls hP hS h9) (fun h => kf h (dt_neg h hf) H locs ls hP hS h9)
theorem xv_icmp_ne (C : CC K S cc nL Ts own R0) {α : Type} {A B : Option α} {v : α} {x y : Int32} {off : Int} (tgt : Nat) (hf : (if x = y then A else B) = some v) (hdg : decode cc pc = .ok (.if_icmp .ne off, 3)) (ht : (pc : Int) + off = (tgt : Int)) (kt : x = y → A = some v → V K S nL a lvs (pc + 3) st) (kf : ¬ x = y → B = some v → V K S nL a lvs tgt st) : V K S nL a lvs pc (.int y :: .int x :: st) := by
  obtain ⟨p, l, e, R, s, m, args, below, meth, c, Q, kc, ks⟩ := K
  obtain ⟨hx, hb, -⟩ := C
  exact fun H locs ls hP hS h9 => lv_icmp_ne hx hb hdg ht (fun h => kf h (dt_neg h hf) H locs ls hP hS h9) (fun h => kt h (dt_pos h hf) H locs ls hP hS h9)
theorem xv_icmp_lt (C : CC K S cc nL Ts own R0) {α : Type} {A B : Option α} {v : α} {x y : Int32} {off : Int} (tgt : Nat) (hf : (if x < y then A else B) = some v) (hdg : decode cc pc = .ok (.if_icmp .lt off, 3)) (ht : (pc : Int) + off = (tgt : Int)) (kt : x < y → A = some v → V K S nL a lvs tgt st) (kf : ¬ x < y → B = some v → V K S nL a lvs (pc + 3) st) : V K S nL a lvs pc (.int y :: .int x :: st) := by
  obtain ⟨p, l, e, R, s, m, args, below, meth, c, Q, kc, ks⟩ := K
  obtain ⟨hx, hb, -⟩ := C
  exact fun H locs ls hP hS h9 => lv_icmp_lt hx hb hdg ht (fun h => kt h (dt_pos h hf) H locs ls hP hS h9) (fun h => kf h (dt_neg h hf) H locs ls hP hS h9)
theorem xv_icmp_ge (C : CC K S cc nL Ts own R0) {α : Type} {A B : Option α} {v : α} {x y : Int32} {off : Int} (tgt : Nat) (hf : (if y ≤ x then A else B) = some v) (hdg : decode cc pc = .ok (.if_icmp .ge off, 3)) (ht : (pc : Int) + off = (tgt : Int)) (kt : y ≤ x → A = some v → V K S nL a lvs tgt st) (kf : ¬ y ≤ x → B = some v → V K S nL a lvs (pc + 3) st) : V K S nL a lvs pc (.int y :: .int x :: st) := by
  obtain ⟨p, l, e, R, s, m, args, below, meth, c, Q, kc, ks⟩ := K
  obtain ⟨hx, hb, -⟩ := C
  exact fun H locs ls hP hS h9 => lv_icmp_ge hx hb hdg ht (fun h => kt h (dt_pos h hf) H locs ls hP hS h9) (fun h => kf h (dt_neg h hf) H locs ls hP hS h9)
theorem xv_icmp_gt (C : CC K S cc nL Ts own R0) {α : Type} {A B : Option α} {v : α} {x y : Int32} {off : Int} (tgt : Nat) (hf : (if y < x then A else B) = some v) (hdg : decode cc pc = .ok (.if_icmp .gt off, 3)) (ht : (pc : Int) + off = (tgt : Int)) (kt : y < x → A = some v → V K S nL a lvs tgt st) (kf : ¬ y < x → B = some v → V K S nL a lvs (pc + 3) st) : V K S nL a lvs pc (.int y :: .int x :: st) := by
  obtain ⟨p, l, e, R, s, m, args, below, meth, c, Q, kc, ks⟩ := K
  obtain ⟨hx, hb, -⟩ := C
  exact fun H locs ls hP hS h9 => lv_icmp_gt hx hb hdg ht (fun h => kt h (dt_pos h hf) H locs ls hP hS h9) (fun h => kf h (dt_neg h hf) H locs ls hP hS h9)
theorem xv_icmp_le (C : CC K S cc nL Ts own R0) {α : Type} {A B : Option α} {v : α} {x y : Int32} {off : Int} (tgt : Nat) (hf : (if x ≤ y then A else B) = some v) (hdg : decode cc pc = .ok (.if_icmp .le off, 3)) (ht : (pc : Int) + off = (tgt : Int)) (kt : x ≤ y → A = some v → V K S nL a lvs tgt st) (kf : ¬ x ≤ y → B = some v → V K S nL a lvs (pc + 3) st) : V K S nL a lvs pc (.int y :: .int x :: st) := by
  obtain ⟨p, l, e, R, s, m, args, below, meth, c, Q, kc, ks⟩ := K
  obtain ⟨hx, hb, -⟩ := C
  exact fun H locs ls hP hS h9 => lv_icmp_le hx hb hdg ht (fun h => kt h (dt_pos h hf) H locs ls hP hS h9) (fun h => kf h (dt_neg h hf) H locs ls hP hS h9)
theorem xv_get (C : CC K S cc nL Ts own R0) {C1 : String} {T : u_T} {N ci index : Nat} (hin : ∀ w ∈ u_ws C1 T N, w ∈ Ts) (q0 : Nat) {adr : Nat} {fs : List Value} (he : (S.2.2.2.1 a)[q0]? = some (adr, .inr (ci, fs))) (hc : vwCl[ci]? = some (C1, T, N)) (k : Nat) (hk : k < N) (hlink : Cond.fieldLink own index (T k).1 (T k).2.1 (T k).2.2.1 ∈ Ts) {v : Value} (hv : fs[k]? = some v) (hdg : decode cc pc = .ok (.getfield index, 3)) (kk : V K S nL a lvs (pc + 3) (v :: st)) : V K S nL a lvs pc (.ref adr :: st) := by
  obtain ⟨p, l, e, R, s, m, args, below, meth, c, Q, kc, ks⟩ := K
  obtain ⟨hx, hb, hml, hts, hown, hlo, hK, hD, hE, hE0, hR⟩ := C
  exact fun H locs ls hP hS h9 => va_get hx hb hts hin hown hK hP q0 he hc k hk (hts _ hlink) (fun _ h => h) hv hdg (kk H locs ls hP hS h9)
theorem xv_getN (C : CC K S cc nL Ts own R0) {C1 host : String} {T : u_T} {N ci index : Nat} (hin : ∀ w ∈ u_ws C1 T N, w ∈ Ts) (q0 : Nat) {adr : Nat} {fs : List Value} (he : (S.2.2.2.1 a)[q0]? = some (adr, .inr (ci, fs))) (hc : vwCl[ci]? = some (C1, T, N)) (k : Nat) (hk : k < N) (hlink : ∀ (U : State) (H : Heap), S.2.2.2.2 U H → va_Nw (.fieldLinkNest own index (T k).1 (T k).2.1 (T k).2.2.1 host) U) {v : Value} (hv : fs[k]? = some v) (hdg : decode cc pc = .ok (.getfield index, 3)) (kk : V K S nL a lvs (pc + 3) (v :: st)) : V K S nL a lvs pc (.ref adr :: st) := by
  obtain ⟨p, l, e, R, s, m, args, below, meth, c, Q, kc, ks⟩ := K
  obtain ⟨hx, hb, hml, hts, hown, hlo, hK, hD, hE, hE0, hR⟩ := C
  exact fun H locs ls hP hS h9 => va_getN hx hb hts hin hown hK hP q0 he hc k hk (va_Nw.use rfl (hlink _ _ hE0)) (fun _ h => h) hv hdg (kk H locs ls hP hS h9)
theorem xv_put (C : CC K S cc nL Ts own R0) {C1 : String} {T : u_T} {N ci index : Nat} (hin : ∀ w ∈ u_ws C1 T N, w ∈ Ts) (ty0 : Nat → FieldType) (hty : ∀ k, k < N → parseFieldDescriptor (T k).2.2.1 = some (ty0 k)) (hnm : ∀ a, a < N → ∀ b, b < N → a ≠ b → (T a).2.1 ≠ (T b).2.1) (q0 : Nat) {adr : Nat} {fs : List Value} (he : (S.2.2.2.1 a)[q0]? = some (adr, .inr (ci, fs))) (hc : vwCl[ci]? = some (C1, T, N)) (k : Nat) (hk : k < N) (hlink : Cond.fieldLink own index (T k).1 (T k).2.1 (T k).2.2.1 ∈ Ts) (hfin : (T k).2.2.2 = false) {ty : FieldType} {v : Value} (hd : parseFieldDescriptor (T k).2.2.1 = some ty) (hn : narrow ty v = v) (hfit : fits ty v = true) (hl : k < fs.length) (a1 : St) (hset : (S.2.2.2.1 a).set q0 (adr, .inr (ci, fs.set k v)) = S.2.2.2.1 a1) (hdg : decode cc pc = .ok (.putfield index, 3)) (kk : V K S nL a1 lvs (pc + 3) st) : V K S nL a lvs pc (v :: .ref adr :: st) := by
  obtain ⟨p, l, e, R, s, m, args, below, meth, c, Q, kc, ks⟩ := K
  obtain ⟨hx, hb, hml, hts, hown, hlo, hK, hD, hE, hE0, hR⟩ := C
  exact fun H locs ls hP hS h9 => va_put hx hb hts hin ty0 hty hnm hown hK hP (hD a) hS q0 he hc k hk (hts _ hlink) (fun _ h => h) hfin hd hn hfit hl hdg (fun H1 locs1 hP1 _ hS1 => kk H1 locs1 ls (by rw [hset] at hP1; exact hP1) hS1 h9)
theorem xv_putN (C : CC K S cc nL Ts own R0) {C1 host : String} {T : u_T} {N ci index : Nat} (hin : ∀ w ∈ u_ws C1 T N, w ∈ Ts) (ty0 : Nat → FieldType) (hty : ∀ k, k < N → parseFieldDescriptor (T k).2.2.1 = some (ty0 k)) (hnm : ∀ a, a < N → ∀ b, b < N → a ≠ b → (T a).2.1 ≠ (T b).2.1) (q0 : Nat) {adr : Nat} {fs : List Value} (he : (S.2.2.2.1 a)[q0]? = some (adr, .inr (ci, fs))) (hc : vwCl[ci]? = some (C1, T, N)) (k : Nat) (hk : k < N) (hlink : ∀ (U : State) (H : Heap), S.2.2.2.2 U H → va_Nw (.fieldLinkNest own index (T k).1 (T k).2.1 (T k).2.2.1 host) U) (hfin : (T k).2.2.2 = false) {ty : FieldType} {v : Value} (hd : parseFieldDescriptor (T k).2.2.1 = some ty) (hn : narrow ty v = v) (hfit : fits ty v = true) (hl : k < fs.length) (a1 : St) (hset : (S.2.2.2.1 a).set q0 (adr, .inr (ci, fs.set k v)) = S.2.2.2.1 a1) (hdg : decode cc pc = .ok (.putfield index, 3)) (kk : V K S nL a1 lvs (pc + 3) st) : V K S nL a lvs pc (v :: .ref adr :: st) := by
  obtain ⟨p, l, e, R, s, m, args, below, meth, c, Q, kc, ks⟩ := K
  obtain ⟨hx, hb, hml, hts, hown, hlo, hK, hD, hE, hE0, hR⟩ := C
  exact fun H locs ls hP hS h9 => va_putN hx hb hts hin ty0 hty hnm hown hK hP (hD a) hS q0 he hc k hk (va_Nw.use rfl (hlink _ _ hE0)) (fun _ h => h) hfin hd hn hfit hl hdg (fun H1 locs1 hP1 _ hS1 => kk H1 locs1 ls (by rw [hset] at hP1; exact hP1) hS1 h9)
theorem xv_iald (C : CC K S cc nL Ts own R0) {α : Type} {B : Option α} {w : α} (q0 t0 : Nat) {adr : Nat} {cA : ClassId} {n : Nat} {f : Nat → Int32} (ha : (S.2.2.2.1 a)[q0]? = some (adr, .inl (cA, n, .inl f))) (ht : S.2.1[t0]? = some (cA, .int)) {i : Int32} (hf : (if i < 0 ∨ n ≤ i.toNatClampNeg then none else B) = some w) (hdg : decode cc pc = .ok (.iaload, 1)) (kk : B = some w → V K S nL a lvs (pc + 1) (.int (f i.toNatClampNeg) :: st)) : V K S nL a lvs pc (.int i :: .ref adr :: st) := by
  obtain ⟨p, l, e, R, s, m, args, below, meth, c, Q, kc, ks⟩ := K
  obtain ⟨hx, hb, hml, hts, hown, hlo, hK, hD, hE, hE0, hR⟩ := C
  intro H locs ls hP hS h9
  by_cases h : i < 0 ∨ n ≤ i.toNatClampNeg
  · cases dt_pos h hf
  · exact va_iald hx hb hK hP q0 t0 ha ht h hdg (kk (dt_neg h hf) H locs ls hP hS h9)
theorem xv_zald (C : CC K S cc nL Ts own R0) {α : Type} {B : Option α} {w : α} (q0 t0 : Nat) {adr : Nat} {cA : ClassId} {n : Nat} {f : Nat → Int32} (ha : (S.2.2.2.1 a)[q0]? = some (adr, .inl (cA, n, .inl f))) (ht : S.2.1[t0]? = some (cA, .boolean)) {i : Int32} (hf : (if i < 0 ∨ n ≤ i.toNatClampNeg then none else B) = some w) (hdg : decode cc pc = .ok (.baload, 1)) (kk : B = some w → V K S nL a lvs (pc + 1) (.int (f i.toNatClampNeg) :: st)) : V K S nL a lvs pc (.int i :: .ref adr :: st) := by
  obtain ⟨p, l, e, R, s, m, args, below, meth, c, Q, kc, ks⟩ := K
  obtain ⟨hx, hb, hml, hts, hown, hlo, hK, hD, hE, hE0, hR⟩ := C
  intro H locs ls hP hS h9
  by_cases h : i < 0 ∨ n ≤ i.toNatClampNeg
  · cases dt_pos h hf
  · exact va_zald hx hb hK hP q0 t0 ha ht h hdg (kk (dt_neg h hf) H locs ls hP hS h9)
theorem xv_aald (C : CC K S cc nL Ts own R0) {α : Type} {B : Option α} {w : α} (q0 t0 : Nat) {adr : Nat} {cA : ClassId} {E : String} {n : Nat} {f : Nat → Option Nat} (ha : (S.2.2.2.1 a)[q0]? = some (adr, .inl (cA, n, .inr (.inr (.inr (.inr f)))))) (ht : S.2.1[t0]? = some (cA, .object E)) {i : Int32} (hf : (if i < 0 ∨ n ≤ i.toNatClampNeg then none else B) = some w) (hdg : decode cc pc = .ok (.aaload, 1)) (kk : B = some w → V K S nL a lvs (pc + 1) (va_rf (f i.toNatClampNeg) :: st)) : V K S nL a lvs pc (.int i :: .ref adr :: st) := by
  obtain ⟨p, l, e, R, s, m, args, below, meth, c, Q, kc, ks⟩ := K
  obtain ⟨hx, hb, hml, hts, hown, hlo, hK, hD, hE, hE0, hR⟩ := C
  intro H locs ls hP hS h9
  by_cases h : i < 0 ∨ n ≤ i.toNatClampNeg
  · cases dt_pos h hf
  · exact va_aldq hx hb hK hP q0 t0 ha ht h hdg (kk (dt_neg h hf) H locs ls hP hS h9)
theorem xv_iast (C : CC K S cc nL Ts own R0) {α : Type} {B : Option α} {w : α} (q0 t0 : Nat) {adr : Nat} {cA : ClassId} {n : Nat} {f : Nat → Int32} (ha : (S.2.2.2.1 a)[q0]? = some (adr, .inl (cA, n, .inl f))) (ht : S.2.1[t0]? = some (cA, .int)) {i x : Int32} (a1 : St) (hset : (S.2.2.2.1 a).set q0 (adr, .inl (cA, n, .inl (upd f i.toNatClampNeg x))) = S.2.2.2.1 a1) (hf : (if i < 0 ∨ n ≤ i.toNatClampNeg then none else B) = some w) (hdg : decode cc pc = .ok (.iastore, 1)) (kk : B = some w → V K S nL a1 lvs (pc + 1) st) : V K S nL a lvs pc (.int x :: .int i :: .ref adr :: st) := by
  obtain ⟨p, l, e, R, s, m, args, below, meth, c, Q, kc, ks⟩ := K
  obtain ⟨hx, hb, hml, hts, hown, hlo, hK, hD, hE, hE0, hR⟩ := C
  intro H locs ls hP hS h9
  by_cases h : i < 0 ∨ n ≤ i.toNatClampNeg
  · cases dt_pos h hf
  · exact va_iast hx hb hK hP (hD a) hS q0 t0 ha ht h hdg (fun H1 locs1 hP1 _ hS1 => kk (dt_neg h hf) H1 locs1 ls (by rw [hset] at hP1; exact hP1) hS1 h9)
theorem xv_zast (C : CC K S cc nL Ts own R0) {α : Type} {B : Option α} {w : α} (q0 t0 : Nat) {adr : Nat} {cA : ClassId} {n : Nat} {f : Nat → Int32} (ha : (S.2.2.2.1 a)[q0]? = some (adr, .inl (cA, n, .inl f))) (ht : S.2.1[t0]? = some (cA, .boolean)) {i x : Int32} (hx1 : vp_nar .boolean x = x) (a1 : St) (hset : (S.2.2.2.1 a).set q0 (adr, .inl (cA, n, .inl (upd f i.toNatClampNeg x))) = S.2.2.2.1 a1) (hf : (if i < 0 ∨ n ≤ i.toNatClampNeg then none else B) = some w) (hdg : decode cc pc = .ok (.bastore, 1)) (kk : B = some w → V K S nL a1 lvs (pc + 1) st) : V K S nL a lvs pc (.int x :: .int i :: .ref adr :: st) := by
  obtain ⟨p, l, e, R, s, m, args, below, meth, c, Q, kc, ks⟩ := K
  obtain ⟨hx, hb, hml, hts, hown, hlo, hK, hD, hE, hE0, hR⟩ := C
  intro H locs ls hP hS h9
  by_cases h : i < 0 ∨ n ≤ i.toNatClampNeg
  · cases dt_pos h hf
  · exact va_zast hx hb hK hP (hD a) hS q0 t0 ha ht h hdg (fun H1 locs1 hP1 _ hS1 => kk (dt_neg h hf) H1 locs1 ls (by rw [hx1, hset] at hP1; exact hP1) hS1 h9)
theorem xv_alen (C : CC K S cc nL Ts own R0) (q0 t0 : Nat) {adr : Nat} {cA : ClassId} {x : vp_A} (ha : (S.2.2.2.1 a)[q0]? = some (adr, .inl (cA, x))) {ty : FieldType} (ht : S.2.1[t0]? = some (cA, ty)) {v : Int32} (hv : Int32.ofNat x.1 = v) (hdg : decode cc pc = .ok (.arraylength, 1)) (kk : V K S nL a lvs (pc + 1) (.int v :: st)) : V K S nL a lvs pc (.ref adr :: st) := by
  obtain ⟨p, l, e, R, s, m, args, below, meth, c, Q, kc, ks⟩ := K
  obtain ⟨hx, hb, hml, hts, hown, hlo, hK, hD, hE, hE0, hR⟩ := C
  exact fun H locs ls hP hS h9 => va_alen hx hb hK hP q0 t0 ha ht hv hdg (kk H locs ls hP hS h9)
/-- System.arraycopy between int arrays -/
theorem xv_copy (C : CC K S cc nL Ts own R0) {α : Type} {B : Option α} {w : α} {index : Nat} (hlink : Cond.methodLink own index arraycopyName ∈ Ts) (hnat : Cond.native arraycopyName ∈ Ts) (hstat : Cond.static arraycopyName ∈ Ts) (hini : Cond.initialized "java/lang/System" ∈ Ts) (q0 q1 t0 : Nat) {adr adr0 : Nat} {cA : ClassId} {n0 n1 : Nat} {f g : Nat → Int32} (ha0 : (S.2.2.2.1 a)[q0]? = some (adr0, .inl (cA, n0, .inl f))) (ha1 : (S.2.2.2.1 a)[q1]? = some (adr, .inl (cA, n1, .inl g))) (ht : S.2.1[t0]? = some (cA, .int)) {sp dp n : Int32} (a1 : St) (hset : (S.2.2.2.1 a).set q1 (adr, .inl (cA, n1, .inl (va_cpy f g sp.toNatClampNeg dp.toNatClampNeg n.toNatClampNeg))) = S.2.2.2.1 a1)
    (hf : (if sp < 0 ∨ dp < 0 ∨ n < 0 ∨ n0 < sp.toNatClampNeg + n.toNatClampNeg ∨ n1 < dp.toNatClampNeg + n.toNatClampNeg then none else B) = some w) (hfr : 1 ≤ R0.frames) (hlo : (st.map fun v => v.category).sum + (nativeFrameWords "java/lang/System" "arraycopy" 5 + 11) ≤ R0.locals) (hdg : decode cc pc = .ok (.invokestatic index, 3)) (hnl : nL = nL) (kk : B = some w → V K S nL a1 lvs (pc + 3) st) : V K S nL a lvs pc (.int n :: .int dp :: .ref adr :: .int sp :: .ref adr0 :: st) := by
  obtain ⟨p, l, e, R, s, m, args, below, meth, c, Q, kc, ks⟩ := K
  obtain ⟨hx, hb, hml, hts, hown, hlk, hK, hD, hE, hE0, hR⟩ := C
  intro H locs ls hP hS h9
  subst hR
  by_cases h : sp < 0 ∨ dp < 0 ∨ n < 0 ∨ n0 < sp.toNatClampNeg + n.toNatClampNeg ∨ n1 < dp.toNatClampNeg + n.toNatClampNeg
  · cases dt_pos h hf
  · have hk := kk (dt_neg h hf)
    obtain ⟨g1, h⟩ := not_or.mp h
    obtain ⟨g2, h⟩ := not_or.mp h
    obtain ⟨g3, h⟩ := not_or.mp h
    obtain ⟨g4, g5⟩ := not_or.mp h
    exact va_copyi hx hb (by rw [hml]; exact h9.1.symm) hown (hts _ hlink) (hts _ hnat) (hts _ hstat) (hts _ hini) hK hP (hD a) hS q0 q1 t0 t0 ha0 ha1 ht ht rfl g1 g2 g3 (Nat.not_lt.mp g4) (Nat.not_lt.mp g5) (fun _ _ => rfl) hfr hlo hdg (fun H1 locs1 hP1 _ hS1 => hk H1 locs1 ls (by rw [hset] at hP1; exact hP1) hS1 h9)
/-- a call's run, at any heap of the world -/
def XR (K : CTX) (S : SID) (nL : Nat) (a : St) (lvs : List (Nat × Value)) (pc : Nat) (stk rest : List Value) (Qa : State → Outcome → State → Prop) : Prop := match K with
  | (p, l, e, R, s, m, args, below, meth, c, Q, kc, ks) => ∀ (H : Heap) (locs : List Loc) (ls : Array Slot), va_P S.1 vwCl (S.2.2.2.1 a) H → va_S S.2.2.1 s.heap H locs → lv_has ls nL lvs → va_Run p l e R s m args below meth c H locs kc ks 0 0 (F0 m pc ls stk) rest Qa S.2.2.1
theorem xc_i {r : Int32} {a1 : St} {stk : List Value} {av : Array Value} (h : XR K S nL a lvs pc stk st (xPostI S r a1 av)) (kk : V K S nL a1 lvs (pc + 3) (.int r :: st)) : V K S nL a lvs pc stk := by
  obtain ⟨p, l, e, R, s, m, args, below, meth, c, Q, kc, ks⟩ := K
  exact fun H locs ls hP hS h9 => va_calli (h H locs ls hP hS h9) hS (fun _ _ q => q) (fun _ q => q) (fun r2 u t H1 locs1 ht _ hw hB _ _ hS1 => by
    obtain ⟨rfl, rfl⟩ := hw
    rw [ht] at hB
    exact kk H1 locs1 ls hB hS1 h9)
theorem xc_l {r : Int64} {a1 : St} {stk : List Value} {av : Array Value} (h : XR K S nL a lvs pc stk st (xPostL S r a1 av)) (kk : V K S nL a1 lvs (pc + 3) (.long r :: st)) : V K S nL a lvs pc stk := by
  obtain ⟨p, l, e, R, s, m, args, below, meth, c, Q, kc, ks⟩ := K
  exact fun H locs ls hP hS h9 => va_calll (h H locs ls hP hS h9) hS (fun _ _ q => q) (fun _ q => q) (fun r2 u t H1 locs1 ht _ hw hB _ _ hS1 => by
    obtain ⟨rfl, rfl⟩ := hw
    rw [ht] at hB
    exact kk H1 locs1 ls hB hS1 h9)
theorem xc_v {a1 : St} {stk : List Value} {av : Array Value} (h : XR K S nL a lvs pc stk st (xPostV S a1 av)) (kk : V K S nL a1 lvs (pc + 3) st) : V K S nL a lvs pc stk := by
  obtain ⟨p, l, e, R, s, m, args, below, meth, c, Q, kc, ks⟩ := K
  exact fun H locs ls hP hS h9 => va_callv (h H locs ls hP hS h9) hS (fun _ _ q => q) (fun _ q => q) (fun u t H1 locs1 ht _ hw hB _ _ hS1 => by
    subst hw
    rw [ht] at hB
    exact kk H1 locs1 ls hB hS1 h9)
theorem xc_r {r : Nat} {a1 : St} {stk : List Value} {av : Array Value} (h : XR K S nL a lvs pc stk st (xPostR S r a1 av)) (kk : V K S nL a1 lvs (pc + 3) (.ref r :: st)) : V K S nL a lvs pc stk := by
  obtain ⟨p, l, e, R, s, m, args, below, meth, c, Q, kc, ks⟩ := K
  exact fun H locs ls hP hS h9 => va_callr (h H locs ls hP hS h9) hS (fun _ _ q => q) (fun _ q => q) (fun u ra t H1 locs1 ht _ hw hB _ _ hS1 => by
    subst hw
    obtain ⟨rfl, hB⟩ := hB
    rw [ht] at hB
    exact kk H1 locs1 ls hB hS1 h9)
variable {y : MethodName} {bytes : ByteArray} {maxL n index : Nat} {ret : Option FieldType} {ws ws' : List Cond} {rm : Room} {Qc : Array Value → State → Outcome → State → Prop} {stk : List Value}
theorem xPre_at {p : Program} {l : Launch} {e : Env} {R : Room} {s : State} {m : MethodId} {args : Array Value} {below : List Frame} {meth : Method} {c : Code} {Q : State → Prop} {kc ks : Nat} (C : CC (p, l, e, R, s, m, args, below, meth, c, Q, kc, ks) S cc nL Ts own R0) {H : Heap} {locs : List Loc} (hP : va_P S.1 vwCl (S.2.2.2.1 a) H) (hS : va_S S.2.2.1 s.heap H locs) (av : List Value) : ∀ U : State, U.heap = H → s.WarmedH U.vm → xPre S av a av.toArray U := by
  obtain ⟨hx, hb, hml, hts, hown, hlo, hK, hD, hE, hE0, hR⟩ := C
  intro U hU hW
  subst hU
  exact ⟨rfl, hP, va_K.moved hW.alike hK, hE.2.2 U _ _ hS.2.1 (hE.2.1 s U _ hW hE0)⟩
theorem xr_V (C : CC K S cc nL Ts own R0) {b : Nat} {As : List Value} {C1 : String} {q : vw_C} {ci : Nat} {fs : List Value} (hM : ∀ l : Launch, Met l y ws rm (xPre S (.ref b :: As) a) Qc 0 0 S.2.2.1) (hG : GoodIn Ts (wsV own index C1 y ws)) (hw : ws = Cond.code y bytes maxL ret :: ws') (hrm : rm.cells = 0 ∧ rm.slots = 0)
    (hd : y.cls = C1 ∧ y.cls ≠ "java/lang/invoke/MethodHandle" ∧ y.cls ≠ "java/lang/invoke/VarHandle" ∧ (parseMethodDescriptor y.desc).map (fun d => d.parameters.length) = some n) (hR : rm.frames + 1 ≤ R0.frames ∧ 8 + (maxL + 11) + rm.locals ≤ R0.locals)
    (q0 : Nat) (hc : vwCl[ci]? = some q) (hq : q.1 = C1) (he : (S.2.2.2.1 a)[q0]? = some (b, .inr (ci, fs))) (hn : As.length = n) (hst : stk = As.reverse ++ .ref b :: st) (hcat : (st.map fun v => v.category).sum ≤ 8) (hdg : decode cc pc = .ok (.invokevirtual index, 3)) : XR K S nL a lvs pc stk st (Qc (Value.ref b :: As).toArray) := by
  obtain ⟨p, l, e, R, s, m, args, below, meth, c, Q, kc, ks⟩ := K
  have C0 := C
  obtain ⟨hx, hb, hml, hts, hown, hlo, hK, hD, hE, hE0, hRR⟩ := C
  intro H locs ls hP hS h9
  subst hRR
  subst hq
  exact va_runV ⟨hx, hb, hml, hown, hts⟩ (hM l) (cwV n hts hG hw hrm.1 hrm.2 hd hR) ⟨xPre_blind hE _ _, va_recv hK hP hc he, xPre_at C0 hP hS _⟩ rfl hn h9.1 hst (lv_room hcat) hdg ⟨hlo.2.1, hlo.2.2⟩
theorem xr_VN (C : CC K S cc nL Ts own R0) {b : Nat} {As : List Value} {C1 host : String} {q : vw_C} {ci : Nat} {fs : List Value} (hM : ∀ l : Launch, Met l y ws rm (xPre S (.ref b :: As) a) Qc 0 0 S.2.2.1) (hG : GoodIn Ts ws) (hw : ws = Cond.code y bytes maxL ret :: ws') (hrm : rm.cells = 0 ∧ rm.slots = 0)
    (hlink : ∀ (U : State) (H : Heap), S.2.2.2.2 U H → va_Nw (.methodLinkNest own index y host) U) (hini : Cond.initialized y.cls ∈ Ts) (hins : Cond.instanceMethod y ∈ Ts) (hsel : Cond.selects C1 y y ∈ Ts)
    (hd : y.cls ≠ "java/lang/invoke/MethodHandle" ∧ y.cls ≠ "java/lang/invoke/VarHandle" ∧ (parseMethodDescriptor y.desc).map (fun d => d.parameters.length) = some n) (hR : rm.frames + 1 ≤ R0.frames ∧ 8 + (maxL + 11) + rm.locals ≤ R0.locals)
    (q0 : Nat) (hc : vwCl[ci]? = some q) (hq : q.1 = C1) (he : (S.2.2.2.1 a)[q0]? = some (b, .inr (ci, fs))) (hn : As.length = n) (hst : stk = As.reverse ++ .ref b :: st) (hcat : (st.map fun v => v.category).sum ≤ 8) (hdg : decode cc pc = .ok (.invokevirtual index, 3)) : XR K S nL a lvs pc stk st (Qc (Value.ref b :: As).toArray) := by
  obtain ⟨p, l, e, R, s, m, args, below, meth, c, Q, kc, ks⟩ := K
  have C0 := C
  obtain ⟨hx, hb, hml, hts, hown, hlo, hK, hD, hE, hE0, hRR⟩ := C
  intro H locs ls hP hS h9
  subst hRR
  subst hq
  exact va_runVN ⟨hx, hb, hml, hown, hts⟩ (hM l) ⟨va_cnB n hts hG hw hrm.1 hrm.2 (hlink _ _ hE0) (hts _ hini) hd hR, hts _ hins, hts _ hsel⟩ ⟨xPre_blind hE _ _, va_recv hK hP hc he, xPre_at C0 hP hS _⟩ rfl hn h9.1 hst (lv_room hcat) hdg ⟨hlo.2.1, hlo.2.2⟩
theorem xr_S (C : CC K S cc nL Ts own R0) {As : List Value} (hM : ∀ l : Launch, Met l y ws rm (xPre S As a) Qc 0 0 S.2.2.1) (hG : GoodIn Ts (va_wsS own index y ws)) (hw : ws = Cond.code y bytes maxL ret :: ws') (hrm : rm.cells = 0 ∧ rm.slots = 0)
    (hd : y.cls ≠ "java/lang/invoke/MethodHandle" ∧ y.cls ≠ "java/lang/invoke/VarHandle" ∧ (parseMethodDescriptor y.desc).map (fun d => d.parameters.length) = some n) (hR : rm.frames + 1 ≤ R0.frames ∧ 8 + (maxL + 11) + rm.locals ≤ R0.locals)
    (hn : As.length = n) (hst : stk = As.reverse ++ st) (hcat : (st.map fun v => v.category).sum ≤ 8) (hdg : decode cc pc = .ok (.invokestatic index, 3)) : XR K S nL a lvs pc stk st (Qc As.toArray) := by
  obtain ⟨p, l, e, R, s, m, args, below, meth, c, Q, kc, ks⟩ := K
  have C0 := C
  obtain ⟨hx, hb, hml, hts, hown, hlo, hK, hD, hE, hE0, hRR⟩ := C
  intro H locs ls hP hS h9
  subst hRR
  exact va_runS ⟨hx, hb, hml, hown, hts⟩ (hM l) (va_cwS n hts hG hw hrm.1 hrm.2 hd hR) ⟨xPre_blind hE _ _, xPre_at C0 hP hS _⟩ rfl hn h9.1 hst (lv_room hcat) hdg ⟨hlo.2.1, hlo.2.2⟩
theorem xr_SN (C : CC K S cc nL Ts own R0) {As : List Value} {host : String} (hM : ∀ l : Launch, Met l y ws rm (xPre S As a) Qc 0 0 S.2.2.1) (hG : GoodIn Ts ws) (hw : ws = Cond.code y bytes maxL ret :: ws') (hrm : rm.cells = 0 ∧ rm.slots = 0)
    (hlink : ∀ (U : State) (H : Heap), S.2.2.2.2 U H → va_Nw (.methodLinkNest own index y host) U) (hini : Cond.initialized y.cls ∈ Ts) (hsta : Cond.static y ∈ Ts)
    (hd : y.cls ≠ "java/lang/invoke/MethodHandle" ∧ y.cls ≠ "java/lang/invoke/VarHandle" ∧ (parseMethodDescriptor y.desc).map (fun d => d.parameters.length) = some n) (hR : rm.frames + 1 ≤ R0.frames ∧ 8 + (maxL + 11) + rm.locals ≤ R0.locals)
    (hn : As.length = n) (hst : stk = As.reverse ++ st) (hcat : (st.map fun v => v.category).sum ≤ 8) (hdg : decode cc pc = .ok (.invokestatic index, 3)) : XR K S nL a lvs pc stk st (Qc As.toArray) := by
  obtain ⟨p, l, e, R, s, m, args, below, meth, c, Q, kc, ks⟩ := K
  have C0 := C
  obtain ⟨hx, hb, hml, hts, hown, hlo, hK, hD, hE, hE0, hRR⟩ := C
  intro H locs ls hP hS h9
  subst hRR
  exact va_runSN ⟨hx, hb, hml, hown, hts⟩ (hM l) ⟨va_cnB n hts hG hw hrm.1 hrm.2 (hlink _ _ hE0) (hts _ hini) hd hR, hts _ hsta, trivial⟩ ⟨xPre_blind hE _ _, xPre_at C0 hP hS _⟩ rfl hn h9.1 hst (lv_room hcat) hdg ⟨hlo.2.1, hlo.2.2⟩
end XV
/-! switches -/
section XSW
variable {K : CTX} {S : SID} {cc : ByteArray} {nL : Nat} {Ts : List Cond} {own : String} {R0 : Room} {a : St} {lvs : List (Nat × Value)} {pc : Nat} {st : List Value}
theorem xv_tin (C : CC K S cc nL Ts own R0) {dflt lo hi : Int} {offs : Array Int} {len : Nat} {x v : Int32} {off : Int} (tgt : Nat) (hx1 : x = v) (hdg : decode cc pc = .ok (.tableswitch dflt lo hi offs, len)) (h1 : ¬ v.toInt < lo) (h2 : ¬ hi < v.toInt) (ho : offs[(v.toInt - lo).toNat]? = some off) (ht : (pc : Int) + off = (tgt : Int)) (kk : V K S nL a lvs tgt st) : V K S nL a lvs pc (.int x :: st) := by
  subst hx1
  obtain ⟨p, l, e, R, s, m, args, below, meth, c, Q, kc, ks⟩ := K
  obtain ⟨hx, hb, -⟩ := C
  exact fun H locs ls hP hS h9 => lv_tableIn hx hb hdg h1 h2 ho ht (kk H locs ls hP hS h9)
theorem xv_tout (C : CC K S cc nL Ts own R0) {dflt lo hi : Int} {offs : Array Int} {len : Nat} {x : Int32} (tgt : Nat) (hdg : decode cc pc = .ok (.tableswitch dflt lo hi offs, len)) (h : x.toInt < lo ∨ hi < x.toInt) (ht : (pc : Int) + dflt = (tgt : Int)) (kk : V K S nL a lvs tgt st) : V K S nL a lvs pc (.int x :: st) := by
  obtain ⟨p, l, e, R, s, m, args, below, meth, c, Q, kc, ks⟩ := K
  obtain ⟨hx, hb, -⟩ := C
  exact fun H locs ls hP hS h9 => lv_tableOut hx hb hdg h ht (kk H locs ls hP hS h9)
theorem xv_look (C : CC K S cc nL Ts own R0) {dflt : Int} {ps : Array (Int × Int)} {len : Nat} {x : Int32} {off : Int} (tgt : Nat) (hdg : decode cc pc = .ok (.lookupswitch dflt ps, len)) (hp : (ps.toList.zip (ps.toList.drop 1)).all (fun (a, next) => a.1 < next.1) = true) (ho : Op.lookupswitch.offset ps.toList dflt x.toInt = off) (ht : (pc : Int) + off = (tgt : Int)) (kk : V K S nL a lvs tgt st) : V K S nL a lvs pc (.int x :: st) := by
  obtain ⟨p, l, e, R, s, m, args, below, meth, c, Q, kc, ks⟩ := K
  obtain ⟨hx, hb, -⟩ := C
  exact fun H locs ls hP hS h9 => lv_lookup hx hb hdg hp ho ht (kk H locs ls hP hS h9)
end XSW
/-! a method's contract out of its walk -/
section XM
variable {l : Launch} {y : MethodName} {ws ws' : List Cond} {rm : Room} {cc : ByteArray} {maxL : Nat} {S : SID} {av : List Value} {a a1 : St}
theorem xm_i {r : Int32} (hy : plainName y.cls = true) (hw : ws = Cond.code y cc maxL (some .int) :: ws') (hlen : (lg_sl av).length ≤ maxL) (hD : ∀ a, va_D S.2.2.1 (S.2.2.2.1 a)) (hE : EC S) (body : ∀ K : CTX, CC K S cc maxL ws y.cls rm → (∀ lvs pc, decode cc pc = .ok (.ireturn, 1) → V K S maxL a1 lvs pc [.int r]) → V K S maxL a (lv_args 0 av) 0 []) : Met l y ws rm (xPre S av a) (xPostI S r a1) 0 0 S.2.2.1 := by
  refine Met.ofW hy hw ?_
  intro p e s m args below meth c s₁ B hml hv
  obtain ⟨rfl, hP, hK, hE0⟩ := hv
  have hl := lv_entry av hlen
  rw [lg_entry_eq]
  refine body (p, l, e, rm, s, m, av.toArray, below, meth, c, MQ below (xPostI S r a1) av.toArray s 0 0 S.2.2.1, 0, 0) ⟨B.exec, B.bytes, hml, atoms_spec (ws := ws) B.pre, findClass_of_methodNamed B.named, ⟨B.notSynchronized, Nat.zero_le _, Nat.zero_le _⟩, hK, hD, hE, hE0, rfl⟩ (fun lvs pc hdg H locs ls hP hS h9 => ?_) s.heap [] _ hP va_S.rf hl
  have hlocks := B.notSynchronized
  exact W.iret (v := r) B.exec B.bytes B.returns (fun t ht hW => ⟨⟨r, a1, rfl, ⟨rfl, rfl⟩, by subst ht; exact hP⟩, hS.F ht⟩) hS.2.2 hdg
theorem xm_z {r : Int32} {ty : FieldType} (hy : plainName y.cls = true) (hw : ws = Cond.code y cc maxL (some ty) :: ws') (hlen : (lg_sl av).length ≤ maxL) (hD : ∀ a, va_D S.2.2.1 (S.2.2.2.1 a)) (hE : EC S) (body : ∀ K : CTX, CC K S cc maxL ws y.cls rm → (∀ lvs pc, decode cc pc = .ok (.ireturn, 1) → narrow ty (.int r) = .int r → V K S maxL a1 lvs pc [.int r]) → V K S maxL a (lv_args 0 av) 0 []) : Met l y ws rm (xPre S av a) (xPostI S r a1) 0 0 S.2.2.1 := by
  refine Met.ofW hy hw ?_
  intro p e s m args below meth c s₁ B hml hv
  obtain ⟨rfl, hP, hK, hE0⟩ := hv
  have hl := lv_entry av hlen
  rw [lg_entry_eq]
  refine body (p, l, e, rm, s, m, av.toArray, below, meth, c, MQ below (xPostI S r a1) av.toArray s 0 0 S.2.2.1, 0, 0) ⟨B.exec, B.bytes, hml, atoms_spec (ws := ws) B.pre, findClass_of_methodNamed B.named, ⟨B.notSynchronized, Nat.zero_le _, Nat.zero_le _⟩, hK, hD, hE, hE0, rfl⟩ (fun lvs pc hdg hn H locs ls hP hS h9 => ?_) s.heap [] _ hP va_S.rf hl
  have hlocks := B.notSynchronized
  exact W.zret (v := r) B.exec B.bytes B.returns hn (fun t ht hW => ⟨⟨r, a1, rfl, ⟨rfl, rfl⟩, by subst ht; exact hP⟩, hS.F ht⟩) hS.2.2 hdg
theorem xm_l {r : Int64} (hy : plainName y.cls = true) (hw : ws = Cond.code y cc maxL (some .long) :: ws') (hlen : (lg_sl av).length ≤ maxL) (hD : ∀ a, va_D S.2.2.1 (S.2.2.2.1 a)) (hE : EC S) (body : ∀ K : CTX, CC K S cc maxL ws y.cls rm → (∀ lvs pc, decode cc pc = .ok (.lreturn, 1) → V K S maxL a1 lvs pc [.long r]) → V K S maxL a (lv_args 0 av) 0 []) : Met l y ws rm (xPre S av a) (xPostL S r a1) 0 0 S.2.2.1 := by
  refine Met.ofW hy hw ?_
  intro p e s m args below meth c s₁ B hml hv
  obtain ⟨rfl, hP, hK, hE0⟩ := hv
  have hl := lv_entry av hlen
  rw [lg_entry_eq]
  refine body (p, l, e, rm, s, m, av.toArray, below, meth, c, MQ below (xPostL S r a1) av.toArray s 0 0 S.2.2.1, 0, 0) ⟨B.exec, B.bytes, hml, atoms_spec (ws := ws) B.pre, findClass_of_methodNamed B.named, ⟨B.notSynchronized, Nat.zero_le _, Nat.zero_le _⟩, hK, hD, hE, hE0, rfl⟩ (fun lvs pc hdg H locs ls hP hS h9 => ?_) s.heap [] _ hP va_S.rf hl
  have hlocks := B.notSynchronized
  exact W.lret (v := r) B.exec B.bytes B.returns (fun t ht hW => ⟨⟨r, a1, rfl, ⟨rfl, rfl⟩, by subst ht; exact hP⟩, hS.F ht⟩) hS.2.2 hdg
theorem xm_v (hy : plainName y.cls = true) (hw : ws = Cond.code y cc maxL none :: ws') (hlen : (lg_sl av).length ≤ maxL) (hD : ∀ a, va_D S.2.2.1 (S.2.2.2.1 a)) (hE : EC S) (body : ∀ K : CTX, CC K S cc maxL ws y.cls rm → (∀ lvs pc, decode cc pc = .ok (.return_, 1) → V K S maxL a1 lvs pc []) → V K S maxL a (lv_args 0 av) 0 []) : Met l y ws rm (xPre S av a) (xPostV S a1) 0 0 S.2.2.1 := by
  refine Met.ofW hy hw ?_
  intro p e s m args below meth c s₁ B hml hv
  obtain ⟨rfl, hP, hK, hE0⟩ := hv
  have hl := lv_entry av hlen
  rw [lg_entry_eq]
  refine body (p, l, e, rm, s, m, av.toArray, below, meth, c, MQ below (xPostV S a1) av.toArray s 0 0 S.2.2.1, 0, 0) ⟨B.exec, B.bytes, hml, atoms_spec (ws := ws) B.pre, findClass_of_methodNamed B.named, ⟨B.notSynchronized, Nat.zero_le _, Nat.zero_le _⟩, hK, hD, hE, hE0, rfl⟩ (fun lvs pc hdg H locs ls hP hS h9 => ?_) s.heap [] _ hP va_S.rf hl
  have hlocks := B.notSynchronized
  exact W.vret B.exec B.bytes B.returns (fun t ht hW => ⟨⟨a1, rfl, rfl, by subst ht; exact hP⟩, hS.F ht⟩) hS.2.2 hdg
theorem xm_r {r : Nat} {cN : String} (hy : plainName y.cls = true) (hw : ws = Cond.code y cc maxL (some (.object cN)) :: ws') (hlen : (lg_sl av).length ≤ maxL) (hD : ∀ a, va_D S.2.2.1 (S.2.2.2.1 a)) (hE : EC S) (body : ∀ K : CTX, CC K S cc maxL ws y.cls rm → (∀ lvs pc, decode cc pc = .ok (.areturn, 1) → V K S maxL a1 lvs pc [.ref r]) → V K S maxL a (lv_args 0 av) 0 []) : Met l y ws rm (xPre S av a) (xPostR S r a1) 0 0 S.2.2.1 := by
  refine Met.ofW hy hw ?_
  intro p e s m args below meth c s₁ B hml hv
  obtain ⟨rfl, hP, hK, hE0⟩ := hv
  have hl := lv_entry av hlen
  rw [lg_entry_eq]
  refine body (p, l, e, rm, s, m, av.toArray, below, meth, c, MQ below (xPostR S r a1) av.toArray s 0 0 S.2.2.1, 0, 0) ⟨B.exec, B.bytes, hml, atoms_spec (ws := ws) B.pre, findClass_of_methodNamed B.named, ⟨B.notSynchronized, Nat.zero_le _, Nat.zero_le _⟩, hK, hD, hE, hE0, rfl⟩ (fun lvs pc hdg H locs ls hP hS h9 => ?_) s.heap [] _ hP va_S.rf hl
  have hlocks := B.notSynchronized
  exact W.aret (v := .ref r) B.exec B.bytes B.returns (Or.inl ⟨_, rfl⟩) (Or.inr ⟨_, rfl⟩) (fun t ht hW => ⟨⟨a1, r, rfl, rfl, rfl, by subst ht; exact hP⟩, hS.F ht⟩) hS.2.2 hdg
end XM
/-! how a walk ends: the tree's answer is the contract's -/
section XZ
variable {K : CTX} {S : SID} {cc : ByteArray} {nL : Nat} {lvs : List (Nat × Value)} {pc : Nat} {b : St}
theorem xz_iw {q : Int32 × St} (hret : ∀ lvs pc, decode cc pc = .ok (.ireturn, 1) → V K S nL q.2 lvs pc [.int q.1]) {e : Int32} (hf : some (e, b) = some q) (hdg : decode cc pc = .ok (.ireturn, 1)) : V K S nL b lvs pc [.int e] := by
  cases hf
  exact hret _ _ hdg
theorem xz_ir {q : Int32} (hret : ∀ lvs pc, decode cc pc = .ok (.ireturn, 1) → V K S nL b lvs pc [.int q]) {e : Int32} (hf : some e = some q) (hdg : decode cc pc = .ok (.ireturn, 1)) : V K S nL b lvs pc [.int e] := by
  cases hf
  exact hret _ _ hdg
theorem xz_lw {q : Int64 × St} (hret : ∀ lvs pc, decode cc pc = .ok (.lreturn, 1) → V K S nL q.2 lvs pc [.long q.1]) {e : Int64} (hf : some (e, b) = some q) (hdg : decode cc pc = .ok (.lreturn, 1)) : V K S nL b lvs pc [.long e] := by
  cases hf
  exact hret _ _ hdg
theorem xz_lr {q : Int64} (hret : ∀ lvs pc, decode cc pc = .ok (.lreturn, 1) → V K S nL b lvs pc [.long q]) {e : Int64} (hf : some e = some q) (hdg : decode cc pc = .ok (.lreturn, 1)) : V K S nL b lvs pc [.long e] := by
  cases hf
  exact hret _ _ hdg
theorem xz_sr {ad : Nat → Nat} {q : Nat} (hret : ∀ lvs pc, decode cc pc = .ok (.areturn, 1) → V K S nL b lvs pc [.ref (ad q)]) {e : Nat} (hf : some e = some q) (hdg : decode cc pc = .ok (.areturn, 1)) : V K S nL b lvs pc [.ref (ad e)] := by
  cases hf
  exact hret _ _ hdg
theorem xz_v {q : St} (hret : ∀ lvs pc, decode cc pc = .ok (.return_, 1) → V K S nL q lvs pc []) (hf : some b = some q) (hdg : decode cc pc = .ok (.return_, 1)) : V K S nL b lvs pc [] := by
  cases hf
  exact hret _ _ hdg
theorem xz_zw {ty : FieldType} {q : Int32 × St} (hret : ∀ lvs pc, decode cc pc = .ok (.ireturn, 1) → narrow ty (.int q.1) = .int q.1 → V K S nL q.2 lvs pc [.int q.1]) {e : Int32} (hf : some (e, b) = some q) (hn : narrow ty (.int e) = .int e) (hdg : decode cc pc = .ok (.ireturn, 1)) : V K S nL b lvs pc [.int e] := by
  cases hf
  exact hret _ _ hdg hn
theorem xz_zr {ty : FieldType} {q : Int32} (hret : ∀ lvs pc, decode cc pc = .ok (.ireturn, 1) → narrow ty (.int q) = .int q → V K S nL b lvs pc [.int q]) {e : Int32} (hf : some e = some q) (hn : narrow ty (.int e) = .int e) (hdg : decode cc pc = .ok (.ireturn, 1)) : V K S nL b lvs pc [.int e] := by
  cases hf
  exact hret _ _ hdg hn
theorem xz_zgw {q : Int32 × St} (hret : ∀ lvs pc, decode cc pc = .ok (.ireturn, 1) → narrow .boolean (.int q.1) = .int q.1 → V K S nL q.2 lvs pc [.int q.1]) {e : Int32} (hf : (if e = 0 ∨ e = 1 then some (e, b) else none) = some q) (hdg : decode cc pc = .ok (.ireturn, 1)) : V K S nL b lvs pc [.int e] := by
  by_cases h : e = 0 ∨ e = 1
  · rw [if_pos h] at hf
    refine xz_zw hret hf ?_ hdg
    rcases h with rfl | rfl <;> rfl
  · rw [if_neg h] at hf
    cases hf
theorem xz_zgr {q : Int32} (hret : ∀ lvs pc, decode cc pc = .ok (.ireturn, 1) → narrow .boolean (.int q) = .int q → V K S nL b lvs pc [.int q]) {e : Int32} (hf : (if e = 0 ∨ e = 1 then some e else none) = some q) (hdg : decode cc pc = .ok (.ireturn, 1)) : V K S nL b lvs pc [.int e] := by
  by_cases h : e = 0 ∨ e = 1
  · rw [if_pos h] at hf
    refine xz_zr hret hf ?_ hdg
    rcases h with rfl | rfl <;> rfl
  · rw [if_neg h] at hf
    cases hf
end XZ
