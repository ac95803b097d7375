/-! ===== the small worlds of two parts, for what their constructors call ===== -/
abbrev aY (g : GM) (i : Nat) : Nat := g.2.2.2 i
def cY (g : GM) (a : St) : va_W := [(aY g 0, .inr (0, [.ref (aY g 1), .ref (aY g 2), .int (a 0 2), .int (a 0 3)])),
  (aY g 1, .inl (g.2.1, 8, .inl (a 1))),
  (aY g 2, .inl (g.2.1, 8, .inl (a 2)))]
def AY (g : GM) : Nat → Prop := fun q => q ∈ (cY g (fun _ _ => 0)).map Prod.fst
abbrev GY : Type := GM
def sY (g : GM) : SID := (g.1, [(g.2.1, .int)], AY g, cY g, fun _ _ => True)
theorem EC_Y (g : GM) : EC (sY g) := ⟨fun _ _ _ _ _ => trivial, fun _ _ _ _ _ => trivial, fun _ _ _ _ _ => trivial⟩
theorem wY0 (g : GM) (a : St) : ((sY g).2.2.2.1 a)[0]? = some (aY g 0, .inr (0, [.ref (aY g 1), .ref (aY g 2), .int (a 0 2), .int (a 0 3)])) := rfl
theorem pY0_2 (g : GM) (a : St) (x : Int32) : ((sY g).2.2.2.1 a).set 0 (aY g 0, .inr (0, ([.ref (aY g 1), .ref (aY g 2), .int (a 0 2), .int (a 0 3)] : List Value).set 2 (.int x))) = (sY g).2.2.2.1 (up a 0 2 x) := rfl
theorem pY0_3 (g : GM) (a : St) (x : Int32) : ((sY g).2.2.2.1 a).set 0 (aY g 0, .inr (0, ([.ref (aY g 1), .ref (aY g 2), .int (a 0 2), .int (a 0 3)] : List Value).set 3 (.int x))) = (sY g).2.2.2.1 (up a 0 3 x) := rfl
theorem wY1 (g : GM) (a : St) : ((sY g).2.2.2.1 a)[1]? = some (aY g 1, .inl (g.2.1, 8, .inl (a 1))) := rfl
theorem pY1 (g : GM) (a : St) (k : Nat) (x : Int32) : ((sY g).2.2.2.1 a).set 1 (aY g 1, .inl (g.2.1, 8, .inl (upd (a 1) k x))) = (sY g).2.2.2.1 (up a 1 k x) := rfl
theorem rY1 (g : GM) (a : St) (f : Nat → Int32) : ((sY g).2.2.2.1 a).set 1 (aY g 1, .inl (g.2.1, 8, .inl f)) = (sY g).2.2.2.1 (uprow a 1 f) := rfl
theorem wY2 (g : GM) (a : St) : ((sY g).2.2.2.1 a)[2]? = some (aY g 2, .inl (g.2.1, 8, .inl (a 2))) := rfl
theorem pY2 (g : GM) (a : St) (k : Nat) (x : Int32) : ((sY g).2.2.2.1 a).set 2 (aY g 2, .inl (g.2.1, 8, .inl (upd (a 2) k x))) = (sY g).2.2.2.1 (up a 2 k x) := rfl
theorem rY2 (g : GM) (a : St) (f : Nat → Int32) : ((sY g).2.2.2.1 a).set 2 (aY g 2, .inl (g.2.1, 8, .inl f)) = (sY g).2.2.2.1 (uprow a 2 f) := rfl
abbrev aZ (g : GM) (i : Nat) : Nat := g.2.2.2 i
def cZ (g : GM) (a : St) : va_W := [(aZ g 0, .inr (4, [.int (a 0 0), .int (a 0 1), .int (a 0 2), .ref (aZ g 1), .ref (aZ g 2), .ref (aZ g 3), .ref (aZ g 4), .ref (aZ g 5), .ref (aZ g 6), .ref (aZ g 7), .ref (aZ g 8), .ref (aZ g 9)])),
  (aZ g 1, .inl (g.2.1, 8, .inl (a 1))),
  (aZ g 2, .inl (g.2.1, 8, .inl (a 2))),
  (aZ g 3, .inl (g.2.1, 64, .inl (a 3))),
  (aZ g 4, .inl (g.2.1, 6, .inl (a 4))),
  (aZ g 5, .inl (g.2.1, 6, .inl (a 5))),
  (aZ g 6, .inl (g.2.1, 6, .inl (a 6))),
  (aZ g 7, .inl (g.2.1, 6, .inl (a 7))),
  (aZ g 8, .inl (g.2.1, 6, .inl (a 8))),
  (aZ g 9, .inl (g.2.1, 8, .inl (a 9)))]
def AZ (g : GM) : Nat → Prop := fun q => q ∈ (cZ g (fun _ _ => 0)).map Prod.fst
abbrev GZ : Type := GM
def sZ (g : GM) : SID := (g.1, [(g.2.1, .int)], AZ g, cZ g, fun _ _ => True)
theorem EC_Z (g : GM) : EC (sZ g) := ⟨fun _ _ _ _ _ => trivial, fun _ _ _ _ _ => trivial, fun _ _ _ _ _ => trivial⟩
theorem wZ0 (g : GM) (a : St) : ((sZ g).2.2.2.1 a)[0]? = some (aZ g 0, .inr (4, [.int (a 0 0), .int (a 0 1), .int (a 0 2), .ref (aZ g 1), .ref (aZ g 2), .ref (aZ g 3), .ref (aZ g 4), .ref (aZ g 5), .ref (aZ g 6), .ref (aZ g 7), .ref (aZ g 8), .ref (aZ g 9)])) := rfl
theorem pZ0_0 (g : GM) (a : St) (x : Int32) : ((sZ g).2.2.2.1 a).set 0 (aZ g 0, .inr (4, ([.int (a 0 0), .int (a 0 1), .int (a 0 2), .ref (aZ g 1), .ref (aZ g 2), .ref (aZ g 3), .ref (aZ g 4), .ref (aZ g 5), .ref (aZ g 6), .ref (aZ g 7), .ref (aZ g 8), .ref (aZ g 9)] : List Value).set 0 (.int x))) = (sZ g).2.2.2.1 (up a 0 0 x) := rfl
theorem pZ0_1 (g : GM) (a : St) (x : Int32) : ((sZ g).2.2.2.1 a).set 0 (aZ g 0, .inr (4, ([.int (a 0 0), .int (a 0 1), .int (a 0 2), .ref (aZ g 1), .ref (aZ g 2), .ref (aZ g 3), .ref (aZ g 4), .ref (aZ g 5), .ref (aZ g 6), .ref (aZ g 7), .ref (aZ g 8), .ref (aZ g 9)] : List Value).set 1 (.int x))) = (sZ g).2.2.2.1 (up a 0 1 x) := rfl
theorem pZ0_2 (g : GM) (a : St) (x : Int32) : ((sZ g).2.2.2.1 a).set 0 (aZ g 0, .inr (4, ([.int (a 0 0), .int (a 0 1), .int (a 0 2), .ref (aZ g 1), .ref (aZ g 2), .ref (aZ g 3), .ref (aZ g 4), .ref (aZ g 5), .ref (aZ g 6), .ref (aZ g 7), .ref (aZ g 8), .ref (aZ g 9)] : List Value).set 2 (.int x))) = (sZ g).2.2.2.1 (up a 0 2 x) := rfl
theorem wZ1 (g : GM) (a : St) : ((sZ g).2.2.2.1 a)[1]? = some (aZ g 1, .inl (g.2.1, 8, .inl (a 1))) := rfl
theorem pZ1 (g : GM) (a : St) (k : Nat) (x : Int32) : ((sZ g).2.2.2.1 a).set 1 (aZ g 1, .inl (g.2.1, 8, .inl (upd (a 1) k x))) = (sZ g).2.2.2.1 (up a 1 k x) := rfl
theorem rZ1 (g : GM) (a : St) (f : Nat → Int32) : ((sZ g).2.2.2.1 a).set 1 (aZ g 1, .inl (g.2.1, 8, .inl f)) = (sZ g).2.2.2.1 (uprow a 1 f) := rfl
theorem wZ2 (g : GM) (a : St) : ((sZ g).2.2.2.1 a)[2]? = some (aZ g 2, .inl (g.2.1, 8, .inl (a 2))) := rfl
theorem pZ2 (g : GM) (a : St) (k : Nat) (x : Int32) : ((sZ g).2.2.2.1 a).set 2 (aZ g 2, .inl (g.2.1, 8, .inl (upd (a 2) k x))) = (sZ g).2.2.2.1 (up a 2 k x) := rfl
theorem rZ2 (g : GM) (a : St) (f : Nat → Int32) : ((sZ g).2.2.2.1 a).set 2 (aZ g 2, .inl (g.2.1, 8, .inl f)) = (sZ g).2.2.2.1 (uprow a 2 f) := rfl
theorem wZ3 (g : GM) (a : St) : ((sZ g).2.2.2.1 a)[3]? = some (aZ g 3, .inl (g.2.1, 64, .inl (a 3))) := rfl
theorem pZ3 (g : GM) (a : St) (k : Nat) (x : Int32) : ((sZ g).2.2.2.1 a).set 3 (aZ g 3, .inl (g.2.1, 64, .inl (upd (a 3) k x))) = (sZ g).2.2.2.1 (up a 3 k x) := rfl
theorem rZ3 (g : GM) (a : St) (f : Nat → Int32) : ((sZ g).2.2.2.1 a).set 3 (aZ g 3, .inl (g.2.1, 64, .inl f)) = (sZ g).2.2.2.1 (uprow a 3 f) := rfl
theorem wZ4 (g : GM) (a : St) : ((sZ g).2.2.2.1 a)[4]? = some (aZ g 4, .inl (g.2.1, 6, .inl (a 4))) := rfl
theorem pZ4 (g : GM) (a : St) (k : Nat) (x : Int32) : ((sZ g).2.2.2.1 a).set 4 (aZ g 4, .inl (g.2.1, 6, .inl (upd (a 4) k x))) = (sZ g).2.2.2.1 (up a 4 k x) := rfl
theorem rZ4 (g : GM) (a : St) (f : Nat → Int32) : ((sZ g).2.2.2.1 a).set 4 (aZ g 4, .inl (g.2.1, 6, .inl f)) = (sZ g).2.2.2.1 (uprow a 4 f) := rfl
theorem wZ5 (g : GM) (a : St) : ((sZ g).2.2.2.1 a)[5]? = some (aZ g 5, .inl (g.2.1, 6, .inl (a 5))) := rfl
theorem pZ5 (g : GM) (a : St) (k : Nat) (x : Int32) : ((sZ g).2.2.2.1 a).set 5 (aZ g 5, .inl (g.2.1, 6, .inl (upd (a 5) k x))) = (sZ g).2.2.2.1 (up a 5 k x) := rfl
theorem rZ5 (g : GM) (a : St) (f : Nat → Int32) : ((sZ g).2.2.2.1 a).set 5 (aZ g 5, .inl (g.2.1, 6, .inl f)) = (sZ g).2.2.2.1 (uprow a 5 f) := rfl
theorem wZ6 (g : GM) (a : St) : ((sZ g).2.2.2.1 a)[6]? = some (aZ g 6, .inl (g.2.1, 6, .inl (a 6))) := rfl
theorem pZ6 (g : GM) (a : St) (k : Nat) (x : Int32) : ((sZ g).2.2.2.1 a).set 6 (aZ g 6, .inl (g.2.1, 6, .inl (upd (a 6) k x))) = (sZ g).2.2.2.1 (up a 6 k x) := rfl
theorem rZ6 (g : GM) (a : St) (f : Nat → Int32) : ((sZ g).2.2.2.1 a).set 6 (aZ g 6, .inl (g.2.1, 6, .inl f)) = (sZ g).2.2.2.1 (uprow a 6 f) := rfl
theorem wZ7 (g : GM) (a : St) : ((sZ g).2.2.2.1 a)[7]? = some (aZ g 7, .inl (g.2.1, 6, .inl (a 7))) := rfl
theorem pZ7 (g : GM) (a : St) (k : Nat) (x : Int32) : ((sZ g).2.2.2.1 a).set 7 (aZ g 7, .inl (g.2.1, 6, .inl (upd (a 7) k x))) = (sZ g).2.2.2.1 (up a 7 k x) := rfl
theorem rZ7 (g : GM) (a : St) (f : Nat → Int32) : ((sZ g).2.2.2.1 a).set 7 (aZ g 7, .inl (g.2.1, 6, .inl f)) = (sZ g).2.2.2.1 (uprow a 7 f) := rfl
theorem wZ8 (g : GM) (a : St) : ((sZ g).2.2.2.1 a)[8]? = some (aZ g 8, .inl (g.2.1, 6, .inl (a 8))) := rfl
theorem pZ8 (g : GM) (a : St) (k : Nat) (x : Int32) : ((sZ g).2.2.2.1 a).set 8 (aZ g 8, .inl (g.2.1, 6, .inl (upd (a 8) k x))) = (sZ g).2.2.2.1 (up a 8 k x) := rfl
theorem rZ8 (g : GM) (a : St) (f : Nat → Int32) : ((sZ g).2.2.2.1 a).set 8 (aZ g 8, .inl (g.2.1, 6, .inl f)) = (sZ g).2.2.2.1 (uprow a 8 f) := rfl
theorem wZ9 (g : GM) (a : St) : ((sZ g).2.2.2.1 a)[9]? = some (aZ g 9, .inl (g.2.1, 8, .inl (a 9))) := rfl
theorem pZ9 (g : GM) (a : St) (k : Nat) (x : Int32) : ((sZ g).2.2.2.1 a).set 9 (aZ g 9, .inl (g.2.1, 8, .inl (upd (a 9) k x))) = (sZ g).2.2.2.1 (up a 9 k x) := rfl
theorem rZ9 (g : GM) (a : St) (f : Nat → Int32) : ((sZ g).2.2.2.1 a).set 9 (aZ g 9, .inl (g.2.1, 8, .inl f)) = (sZ g).2.2.2.1 (uprow a 9 f) := rfl
theorem side_Y (g : GM) {A : Nat → Prop} {ws : va_W} (hD : va_D A ws) (e : (cY g (fun _ _ => 0)).map Prod.fst = ws.map Prod.fst) : (∀ a, va_D (AY g) (cY g a)) ∧ ∀ q, AY g q → A q := by
  refine ⟨fun a => va_D_of hD (show (cY g a).map Prod.fst = _ from e) (fun q h => ?_), fun q h => va_D_mem hD e q h⟩
  rw [← e] at h
  exact h
theorem side_Z (g : GM) {A : Nat → Prop} {ws : va_W} (hD : va_D A ws) (e : (cZ g (fun _ _ => 0)).map Prod.fst = ws.map Prod.fst) : (∀ a, va_D (AZ g) (cZ g a)) ∧ ∀ q, AZ g q → A q := by
  refine ⟨fun a => va_D_of hD (show (cZ g a).map Prod.fst = _ from e) (fun q h => ?_), fun q h => va_D_mem hD e q h⟩
  rw [← e] at h
  exact h
theorem side_X (g : GX) {A : Nat → Prop} {ws : va_W} (hD : va_D A ws) (e : (cX g (fun _ _ => 0)).map Prod.fst = ws.map Prod.fst) : (∀ a, va_D (AX g) (cX g a)) ∧ ∀ q, AX g q → A q := by
  refine ⟨fun a => va_D_of hD (show (cX g a).map Prod.fst = _ from e) (fun q h => ?_), fun q h => va_D_mem hD e q h⟩
  rw [← e] at h
  exact h
theorem side_M (g : GM) {A : Nat → Prop} {ws : va_W} (hD : va_D A ws) (e : (cM g (fun _ _ => 0)).map Prod.fst = ws.map Prod.fst) : (∀ a, va_D (AM g) (cM g a)) ∧ ∀ q, AM g q → A q := by
  refine ⟨fun a => va_D_of hD (show (cM g a).map Prod.fst = _ from e) (fun q h => ?_), fun q h => va_D_mem hD e q h⟩
  rw [← e] at h
  exact h
def L_X4_restart_Z_45 (n : Nat) : Nat → Int32 → St → Option St
  | 0, _, _ => none
  | j + 1, x2, a =>
    if (64 : Int32) ≤ x2 then
      some a
    else
      if x2 < 0 ∨ 64 ≤ x2.toNatClampNeg then none else
      L_X4_restart_Z_45 n j (x2 + 1) (up a 3 x2.toNatClampNeg 0)
def B_X4_restart_Z_43 (n : Nat) (a : St) : Option St :=
  L_X4_restart_Z_45 n n 0 a
def L_X4_restart_Z_17 (n : Nat) : Nat → Int32 → St → Option St
  | 0, _, _ => none
  | j + 1, x2, a =>
    if (8 : Int32) ≤ x2 then
      B_X4_restart_Z_43 n a
    else
      if x2 < 0 ∨ 8 ≤ x2.toNatClampNeg then none else
      if x2 < 0 ∨ 8 ≤ x2.toNatClampNeg then none else
      L_X4_restart_Z_17 n j (x2 + 1) (up (up a 1 x2.toNatClampNeg (-1)) 2 x2.toNatClampNeg 0)
def f_X4_restart_Z (n : Nat) (x1 : Int32) (a : St) : Option St :=
  L_X4_restart_Z_17 n n 0 (up (up (up a 0 0 x1) 0 1 0) 0 2 0)
set_option maxRecDepth 100000 in
set_option maxHeartbeats 4000000 in
theorem c_X0_idleAll__0 (g : GY) (hS : xSide (sY g)) (l : Launch) (n : Nat) (a : St) (q : St) (hf : f_X0_idleAll n 0 a = some q) : Met l yX0_idleAll wsX0_idleAll rm_X0_idleAll (xPre (sY g) [.ref (aY g 0)] a) (xPostV (sY g) q) 0 0 (sY g).2.2.1 := by
  refine xm_v (av := [.ref (aY g 0)]) (cc := cX0_idleAll) (maxL := 2) (by decide) rfl (Nat.le_of_ble_eq_true rfl) hS.1 hS.2 (fun K C hret => ?_)
  have C : CC K (sY g) cX0_idleAll 2 wsX0_idleAll RX0 rm_X0_idleAll := C
  have hiX0 : ∀ w ∈ u_ws RX0 TX0 4, w ∈ wsX0_idleAll := fun w h => List.mem_cons_of_mem _ (List.mem_append_right _ h)
  have hL2 : ∀  (j : Nat) (x1 : Int32) (a : St), L_X0_idleAll_2 n 0 j x1 a = some q → V K (sY g) 2 a [(0, .ref (aY g 0)), (1, .int x1)] 2 [] := by
    intro j
    induction j with
    | zero =>
      intro x1 a hf
      have hf : (none : Option St) = some q := hf
      cases hf
    | succ j ih =>
      intro x1 a hf
      rw [L_X0_idleAll_2] at hf
      refine xv_iload_n C dX0_idleAll_2 rfl 1 rfl ?_
      refine xv_bipush C 8 dX0_idleAll_3 (by decide) ?_
      refine xv_icmp_ge C 21 hf dX0_idleAll_5 (by decide) (fun _ hf => ?_) (fun _ hf => ?_)
      · exact xz_v hret hf dX0_idleAll_21
      · refine xv_aload_n C dX0_idleAll_8 rfl 0 rfl ?_
        refine xv_get C hiX0 0 (wY0 g _) rfl 0 (by decide) (List.mem_of_getElem? (i := 1) rfl) rfl dX0_idleAll_9 ?_
        refine xv_iload_n C dX0_idleAll_12 rfl 1 rfl ?_
        refine xv_iconst C (-1) dX0_idleAll_13 (by decide) ?_
        refine xv_iast C 1 0 (wY1 g _) rfl (up a 1 x1.toNatClampNeg (-1)) (pY1 g _ _ _) hf dX0_idleAll_14 (fun hf => ?_)
        refine xv_iinc C [(1, .int (x1 + 1)), (0, .ref (aY g 0))] dX0_idleAll_15 1 rfl rfl (by decide) rfl ?_
        refine xv_goto C 2 dX0_idleAll_18 (by decide) ?_
        refine xv_eq [1, 0] rfl ?_
        exact ih (x1 + 1) (up a 1 x1.toNatClampNeg (-1)) hf
  rw [f_X0_idleAll] at hf
  show V K (sY g) 2 a [(0, .ref (aY g 0))] 0 []
  refine xv_iconst C 0 dX0_idleAll_0 (by decide) ?_
  refine xv_istore_n C [(1, .int 0), (0, .ref (aY g 0))] dX0_idleAll_1 rfl (by decide) rfl ?_
  refine xv_eq [1, 0] rfl ?_
  exact hL2 n 0 a hf
set_option maxRecDepth 100000 in
set_option maxHeartbeats 4000000 in
theorem c_X4_restart_Z (g : GZ) (hS : xSide (sZ g)) (l : Launch) (n : Nat) (x1 : Int32) (a : St) (q : St) (hf : f_X4_restart_Z n x1 a = some q) : Met l yX4_restart wsX4_restart rm_X4_restart (xPre (sZ g) [.ref (aZ g 0), .int x1] a) (xPostV (sZ g) q) 0 0 (sZ g).2.2.1 := by
  refine xm_v (av := [.ref (aZ g 0), .int x1]) (cc := cX4_restart) (maxL := 3) (by decide) rfl (Nat.le_of_ble_eq_true rfl) hS.1 hS.2 (fun K C hret => ?_)
  have C : CC K (sZ g) cX4_restart 3 wsX4_restart RX4 rm_X4_restart := C
  have hiX4 : ∀ w ∈ u_ws RX4 TX4 12, w ∈ wsX4_restart := fun w h => List.mem_cons_of_mem _ (List.mem_append_right _ h)
  have hL45 : ∀  (j : Nat) (x2 : Int32) (a : St), L_X4_restart_Z_45 n j x2 a = some q → V K (sZ g) 3 a [(0, .ref (aZ g 0)), (2, .int x2)] 45 [] := by
    intro j
    induction j with
    | zero =>
      intro x2 a hf
      have hf : (none : Option St) = some q := hf
      cases hf
    | succ j ih =>
      intro x2 a hf
      rw [L_X4_restart_Z_45] at hf
      refine xv_iload_n C dX4_restart_45 rfl 1 rfl ?_
      refine xv_aload_n C dX4_restart_46 rfl 0 rfl ?_
      refine xv_get C hiX4 0 (wZ0 g _) rfl 5 (by decide) (List.mem_of_getElem? (i := 6) rfl) rfl dX4_restart_47 ?_
      refine xv_alen C 3 0 (wZ3 g _) rfl (v := 64) rfl dX4_restart_50 ?_
      refine xv_icmp_ge C 67 hf dX4_restart_51 (by decide) (fun _ hf => ?_) (fun _ hf => ?_)
      · exact xz_v hret hf dX4_restart_67
      · refine xv_aload_n C dX4_restart_54 rfl 0 rfl ?_
        refine xv_get C hiX4 0 (wZ0 g _) rfl 5 (by decide) (List.mem_of_getElem? (i := 6) rfl) rfl dX4_restart_55 ?_
        refine xv_iload_n C dX4_restart_58 rfl 1 rfl ?_
        refine xv_iconst C 0 dX4_restart_59 (by decide) ?_
        refine xv_iast C 3 0 (wZ3 g _) rfl (up a 3 x2.toNatClampNeg 0) (pZ3 g _ _ _) hf dX4_restart_60 (fun hf => ?_)
        refine xv_iinc C [(2, .int (x2 + 1)), (0, .ref (aZ g 0))] dX4_restart_61 1 rfl rfl (by decide) rfl ?_
        refine xv_goto C 45 dX4_restart_64 (by decide) ?_
        refine xv_eq [1, 0] rfl ?_
        exact ih (x2 + 1) (up a 3 x2.toNatClampNeg 0) hf
  have hB43 : ∀  (a : St), B_X4_restart_Z_43 n a = some q → V K (sZ g) 3 a [(0, .ref (aZ g 0))] 43 [] := by
    intro a hf
    rw [B_X4_restart_Z_43] at hf
    refine xv_iconst C 0 dX4_restart_43 (by decide) ?_
    refine xv_istore_n C [(2, .int 0), (0, .ref (aZ g 0))] dX4_restart_44 rfl (by decide) rfl ?_
    refine xv_eq [1, 0] rfl ?_
    exact hL45 n 0 a hf
  have hL17 : ∀  (j : Nat) (x2 : Int32) (a : St), L_X4_restart_Z_17 n j x2 a = some q → V K (sZ g) 3 a [(0, .ref (aZ g 0)), (2, .int x2)] 17 [] := by
    intro j
    induction j with
    | zero =>
      intro x2 a hf
      have hf : (none : Option St) = some q := hf
      cases hf
    | succ j ih =>
      intro x2 a hf
      rw [L_X4_restart_Z_17] at hf
      refine xv_iload_n C dX4_restart_17 rfl 1 rfl ?_
      refine xv_bipush C 8 dX4_restart_18 (by decide) ?_
      refine xv_icmp_ge C 43 hf dX4_restart_20 (by decide) (fun _ hf => ?_) (fun _ hf => ?_)
      · refine xv_eq [0] rfl ?_
        exact hB43 a hf
      · refine xv_aload_n C dX4_restart_23 rfl 0 rfl ?_
        refine xv_get C hiX4 0 (wZ0 g _) rfl 3 (by decide) (List.mem_of_getElem? (i := 4) rfl) rfl dX4_restart_24 ?_
        refine xv_iload_n C dX4_restart_27 rfl 1 rfl ?_
        refine xv_iconst C (-1) dX4_restart_28 (by decide) ?_
        refine xv_iast C 1 0 (wZ1 g _) rfl (up a 1 x2.toNatClampNeg (-1)) (pZ1 g _ _ _) hf dX4_restart_29 (fun hf => ?_)
        refine xv_aload_n C dX4_restart_30 rfl 0 rfl ?_
        refine xv_get C hiX4 0 (wZ0 g _) rfl 4 (by decide) (List.mem_of_getElem? (i := 5) rfl) rfl dX4_restart_31 ?_
        refine xv_iload_n C dX4_restart_34 rfl 1 rfl ?_
        refine xv_iconst C 0 dX4_restart_35 (by decide) ?_
        refine xv_iast C 2 0 (wZ2 g _) rfl (up (up a 1 x2.toNatClampNeg (-1)) 2 x2.toNatClampNeg 0) (pZ2 g _ _ _) hf dX4_restart_36 (fun hf => ?_)
        refine xv_iinc C [(2, .int (x2 + 1)), (0, .ref (aZ g 0))] dX4_restart_37 1 rfl rfl (by decide) rfl ?_
        refine xv_goto C 17 dX4_restart_40 (by decide) ?_
        refine xv_eq [1, 0] rfl ?_
        exact ih (x2 + 1) (up (up a 1 x2.toNatClampNeg (-1)) 2 x2.toNatClampNeg 0) hf
  rw [f_X4_restart_Z] at hf
  show V K (sZ g) 3 a [(0, .ref (aZ g 0)), (1, .int x1)] 0 []
  refine xv_aload_n C dX4_restart_0 rfl 0 rfl ?_
  refine xv_iload_n C dX4_restart_1 rfl 1 rfl ?_
  refine xv_put C hiX4 tyX4 tyX4_ok nmX4 0 (wZ0 g _) rfl 0 (by decide) (List.mem_of_getElem? (i := 1) rfl) rfl (tyX4_ok 0 (by decide)) rfl rfl (Nat.le_of_ble_eq_true rfl) (up a 0 0 x1) (pZ0_0 g _ _) dX4_restart_2 ?_
  refine xv_aload_n C dX4_restart_5 rfl 0 rfl ?_
  refine xv_iconst C 0 dX4_restart_6 (by decide) ?_
  refine xv_put C hiX4 tyX4 tyX4_ok nmX4 0 (wZ0 g _) rfl 1 (by decide) (List.mem_of_getElem? (i := 2) rfl) rfl (tyX4_ok 1 (by decide)) rfl rfl (Nat.le_of_ble_eq_true rfl) (up (up a 0 0 x1) 0 1 0) (pZ0_1 g _ _) dX4_restart_7 ?_
  refine xv_aload_n C dX4_restart_10 rfl 0 rfl ?_
  refine xv_iconst C 0 dX4_restart_11 (by decide) ?_
  refine xv_put C hiX4 tyX4 tyX4_ok nmX4 0 (wZ0 g _) rfl 2 (by decide) (List.mem_of_getElem? (i := 3) rfl) rfl (tyX4_ok 2 (by decide)) rfl rfl (Nat.le_of_ble_eq_true rfl) (up (up (up a 0 0 x1) 0 1 0) 0 2 0) (pZ0_2 g _ _) dX4_restart_12 ?_
  refine xv_iconst C 0 dX4_restart_15 (by decide) ?_
  refine xv_istore_n C [(2, .int 0), (0, .ref (aZ g 0)), (1, .int x1)] dX4_restart_16 rfl (by decide) rfl ?_
  refine xv_eq [1, 0] rfl ?_
  exact hL17 n 0 (up (up (up a 0 0 x1) 0 1 0) 0 2 0) hf
