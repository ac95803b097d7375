/-! ===== the two worlds: where the cells lie, what they hold ===== -/
abbrev GX : Type := va_G × ClassId × ClassId × (Nat → Nat) × (Nat → Nat) × (Nat → Nat)
abbrev aX (g : GX) (i : Nat) : Nat := g.2.2.2.1 i
abbrev GM : Type := va_G × ClassId × ClassId × (Nat → Nat)
abbrev aM (g : GM) (i : Nat) : Nat := g.2.2.2 i
def cX (g : GX) (a : St) : va_W := [(aX g 0, .inr (5, [.ref (aX g 1), .ref (aX g 5), .ref (aX g 15), .ref (aX g 18), .ref (aX g 25), .ref (aX g 29), .ref (aX g 33), .ref (aX g 34), .ref (aX g 35), .ref (aX g 36), .ref (aX g 37), .ref (aX g 38), .ref (aX g 41)])),
  (aX g 1, .inr (2, [.ref (aX g 2), .int (a 1 1), .int (a 1 2), .int (a 1 3), .int (a 1 4), .int (a 1 5), .ref (aX g 3), .ref (aX g 4), .int (a 1 8)])),
  (aX g 2, .inl (g.2.1, 200, .inl (a 2))),
  (aX g 3, .inl (g.2.1, 10, .inl (a 3))),
  (aX g 4, .inl (g.2.1, 40, .inl (a 4))),
  (aX g 5, .inr (4, [.int (a 5 0), .int (a 5 1), .int (a 5 2), .ref (aX g 6), .ref (aX g 7), .ref (aX g 8), .ref (aX g 9), .ref (aX g 10), .ref (aX g 11), .ref (aX g 12), .ref (aX g 13), .ref (aX g 14)])),
  (aX g 6, .inl (g.2.1, 8, .inl (a 6))),
  (aX g 7, .inl (g.2.1, 8, .inl (a 7))),
  (aX g 8, .inl (g.2.1, 64, .inl (a 8))),
  (aX g 9, .inl (g.2.1, 6, .inl (a 9))),
  (aX g 10, .inl (g.2.1, 6, .inl (a 10))),
  (aX g 11, .inl (g.2.1, 6, .inl (a 11))),
  (aX g 12, .inl (g.2.1, 6, .inl (a 12))),
  (aX g 13, .inl (g.2.1, 6, .inl (a 13))),
  (aX g 14, .inl (g.2.1, 8, .inl (a 14))),
  (aX g 15, .inr (0, [.ref (aX g 16), .ref (aX g 17), .int (a 15 2), .int (a 15 3)])),
  (aX g 16, .inl (g.2.1, 8, .inl (a 16))),
  (aX g 17, .inl (g.2.1, 8, .inl (a 17))),
  (aX g 18, .inl (g.2.2.1, 2, .inr (.inr (.inr (.inr (fun j => some (bif Nat.beq j 0 then aX g 19 else aX g 22))))))),
  (aX g 19, .inr (0, [.ref (aX g 20), .ref (aX g 21), .int (a 19 2), .int (a 19 3)])),
  (aX g 20, .inl (g.2.1, 8, .inl (a 20))),
  (aX g 21, .inl (g.2.1, 8, .inl (a 21))),
  (aX g 22, .inr (0, [.ref (aX g 23), .ref (aX g 24), .int (a 22 2), .int (a 22 3)])),
  (aX g 23, .inl (g.2.1, 8, .inl (a 23))),
  (aX g 24, .inl (g.2.1, 8, .inl (a 24))),
  (aX g 25, .inr (3, [.ref (aX g 26), .ref (aX g 27), .ref (aX g 28), .int (a 25 3)])),
  (aX g 26, .inl (g.2.1, 8, .inl (a 26))),
  (aX g 27, .inl (g.2.1, 8, .inl (a 27))),
  (aX g 28, .inl (g.2.1, 8, .inl (a 28))),
  (aX g 29, .inr (3, [.ref (aX g 30), .ref (aX g 31), .ref (aX g 32), .int (a 29 3)])),
  (aX g 30, .inl (g.2.1, 8, .inl (a 30))),
  (aX g 31, .inl (g.2.1, 8, .inl (a 31))),
  (aX g 32, .inl (g.2.1, 8, .inl (a 32))),
  (aX g 33, .inl (g.2.1, 8, .inl (a 33))),
  (aX g 34, .inl (g.2.1, 8, .inl (a 34))),
  (aX g 35, .inl (g.2.1, 8, .inl (a 35))),
  (aX g 36, .inl (g.2.1, 32, .inl (a 36))),
  (aX g 37, .inl (g.2.1, 256, .inl (a 37))),
  (aX g 38, .inr (1, [.ref (aX g 39), .ref (aX g 40)])),
  (aX g 39, .inl (g.2.1, 6, .inl (a 39))),
  (aX g 40, .inl (g.2.1, 6, .inl (a 40))),
  (aX g 41, .inr (1, [.ref (aX g 42), .ref (aX g 43)])),
  (aX g 42, .inl (g.2.1, 6, .inl (a 42))),
  (aX g 43, .inl (g.2.1, 6, .inl (a 43)))]
def AX (g : GX) : Nat → Prop := fun q => q ∈ (cX g (fun _ _ => 0)).map Prod.fst
def cM (g : GM) (a : St) : va_W := [(aM g 0, .inr (6, [.ref (aM g 1), .ref (aM g 2), .ref (aM g 3), .int (a 0 3), .ref (aM g 4), .int (a 0 5), .int (a 0 6), .ref (aM g 5), .ref (aM g 6), .ref (aM g 7), .ref (aM g 8), .int (a 0 11), .int (a 0 12), .int (a 0 13), .int (a 0 14), .int (a 0 15), .int (a 0 16), .ref (aM g 9), .ref (aM g 10), .int (a 0 19), .ref (aM g 11), .int (a 0 21), .int (a 0 22), .ref (aM g 12), .ref (aM g 13), .int (a 0 25)])),
  (aM g 1, .inl (g.2.1, 51, .inl (a 1))),
  (aM g 2, .inl (g.2.2.1, 2, .inl (a 2))),
  (aM g 3, .inl (g.2.1, 200, .inl (a 3))),
  (aM g 4, .inl (g.2.1, 50, .inl (a 4))),
  (aM g 5, .inl (g.2.1, 8, .inl (a 5))),
  (aM g 6, .inl (g.2.1, 8, .inl (a 6))),
  (aM g 7, .inl (g.2.1, 64, .inl (a 7))),
  (aM g 8, .inl (g.2.1, 36, .inl (a 8))),
  (aM g 9, .inl (g.2.1, 1600, .inl (a 9))),
  (aM g 10, .inl (g.2.1, 24, .inl (a 10))),
  (aM g 11, .inl (g.2.1, 8, .inl (a 11))),
  (aM g 12, .inl (g.2.1, 256, .inl (a 12))),
  (aM g 13, .inl (g.2.1, 24, .inl (a 13)))]
def AM (g : GM) : Nat → Prop := fun q => q ∈ (cM g (fun _ _ => 0)).map Prod.fst
/-- what nest mates may do: the tables' words -/
def nsW : List Cond := [.methodLinkNest "MirrorHour" 11 ⟨"MirrorHour$Text", "<init>", "()V"⟩ "MirrorHour",
  .fieldLinkNest "MirrorHour" 74 "MirrorHour$Text" "length" "I" "MirrorHour",
  .fieldLinkNest "MirrorHour" 260 "MirrorHour$Text" "words" "[I" "MirrorHour",
  .fieldLinkNest "MirrorHour" 98 "MirrorHour$Text" "lines" "I" "MirrorHour",
  .methodLinkNest "MirrorHour" 18 ⟨"MirrorHour$Town", "<init>", "()V"⟩ "MirrorHour",
  .fieldLinkNest "MirrorHour" 88 "MirrorHour$Town" "houses" "I" "MirrorHour",
  .fieldLinkNest "MirrorHour" 91 "MirrorHour$Town" "deeds" "I" "MirrorHour",
  .fieldLinkNest "MirrorHour" 148 "MirrorHour$Town" "forbidden" "I" "MirrorHour",
  .fieldLinkNest "MirrorHour" 118 "MirrorHour$Town" "across" "[I" "MirrorHour",
  .fieldLinkNest "MirrorHour" 121 "MirrorHour$Town" "tools" "[I" "MirrorHour",
  .fieldLinkNest "MirrorHour" 297 "MirrorHour$Town" "liking" "[I" "MirrorHour",
  .fieldLinkNest "MirrorHour" 133 "MirrorHour$Town" "kinds" "[I" "MirrorHour",
  .fieldLinkNest "MirrorHour" 136 "MirrorHour$Town" "needs" "[I" "MirrorHour",
  .fieldLinkNest "MirrorHour$Tally" 23 "MirrorHour$Town" "owners" "[I" "MirrorHour",
  .fieldLinkNest "MirrorHour" 139 "MirrorHour$Town" "owners" "[I" "MirrorHour",
  .fieldLinkNest "MirrorHour$Tally" 18 "MirrorHour$Town" "goods" "[I" "MirrorHour",
  .fieldLinkNest "MirrorHour" 142 "MirrorHour$Town" "goods" "[I" "MirrorHour",
  .fieldLinkNest "MirrorHour$Tally" 26 "MirrorHour$Town" "harms" "[I" "MirrorHour",
  .fieldLinkNest "MirrorHour" 145 "MirrorHour$Town" "harms" "[I" "MirrorHour",
  .methodLinkNest "MirrorHour" 25 ⟨"MirrorHour$Image", "<init>", "()V"⟩ "MirrorHour",
  .fieldLinkNest "MirrorHour" 124 "MirrorHour$Image" "does" "[I" "MirrorHour",
  .fieldLinkNest "MirrorHour" 127 "MirrorHour$Image" "did" "[I" "MirrorHour",
  .fieldLinkNest "MirrorHour" 168 "MirrorHour$Image" "days" "I" "MirrorHour",
  .fieldLinkNest "MirrorHour" 110 "MirrorHour$Image" "holds" "Z" "MirrorHour",
  .methodLinkNest "MirrorHour" 36 ⟨"MirrorHour$Told", "<init>", "()V"⟩ "MirrorHour",
  .fieldLinkNest "MirrorHour" 285 "MirrorHour$Told" "houses" "[I" "MirrorHour",
  .fieldLinkNest "MirrorHour" 287 "MirrorHour$Told" "deeds" "[I" "MirrorHour",
  .fieldLinkNest "MirrorHour" 289 "MirrorHour$Told" "days" "[I" "MirrorHour",
  .fieldLinkNest "MirrorHour" 254 "MirrorHour$Told" "size" "I" "MirrorHour",
  .methodLinkNest "MirrorHour" 62 ⟨"MirrorHour$Tally", "<init>", "()V"⟩ "MirrorHour",
  .fieldLinkNest "MirrorHour" 208 "MirrorHour$Tally" "good" "[I" "MirrorHour",
  .fieldLinkNest "MirrorHour" 211 "MirrorHour$Tally" "harm" "[I" "MirrorHour",
  .methodLinkNest "MirrorHour" 80 ⟨"MirrorHour$Text", "append", "(I)V"⟩ "MirrorHour",
  .methodLinkNest "MirrorHour" 84 ⟨"MirrorHour$Text", "empty", "()I"⟩ "MirrorHour",
  .methodLinkNest "MirrorHour" 94 ⟨"MirrorHour$Text", "faultPlace", "(II)I"⟩ "MirrorHour",
  .methodLinkNest "MirrorHour$Text" 73 ⟨"MirrorHour", "within", "(III)Z"⟩ "MirrorHour",
  .methodLinkNest "MirrorHour" 257 ⟨"MirrorHour$Text", "number", "(II)I"⟩ "MirrorHour",
  .methodLinkNest "MirrorHour" 263 ⟨"MirrorHour$Town", "restart", "(I)V"⟩ "MirrorHour",
  .methodLinkNest "MirrorHour" 265 ⟨"MirrorHour$Image", "idleAll", "()V"⟩ "MirrorHour",
  .methodLinkNest "MirrorHour" 165 ⟨"MirrorHour$Town", "can", "(III)Z"⟩ "MirrorHour",
  .methodLinkNest "MirrorHour$Town" 57 ⟨"MirrorHour", "has", "(II)Z"⟩ "MirrorHour",
  .methodLinkNest "MirrorHour" 268 ⟨"MirrorHour$Town", "setLiking", "(III)V"⟩ "MirrorHour",
  .methodLinkNest "MirrorHour" 272 ⟨"MirrorHour$Town", "addDeed", "(IIIII)V"⟩ "MirrorHour",
  .methodLinkNest "MirrorHour" 104 ⟨"MirrorHour$Image", "restart", "()V"⟩ "MirrorHour",
  .methodLinkNest "MirrorHour" 107 ⟨"MirrorHour$Told", "clear", "()I"⟩ "MirrorHour",
  .methodLinkNest "MirrorHour" 114 ⟨"MirrorHour$Town", "hasHouse", "(I)Z"⟩ "MirrorHour",
  .methodLinkNest "MirrorHour$Town" 53 ⟨"MirrorHour", "within", "(III)Z"⟩ "MirrorHour",
  .methodLinkNest "MirrorHour" 130 ⟨"MirrorHour$Town", "hasDeed", "(I)Z"⟩ "MirrorHour",
  .methodLinkNest "MirrorHour" 155 ⟨"MirrorHour$Town", "isOfKind", "(II)Z"⟩ "MirrorHour",
  .methodLinkNest "MirrorHour" 158 ⟨"MirrorHour$Town", "doers", "(I)I"⟩ "MirrorHour",
  .methodLinkNest "MirrorHour" 171 ⟨"MirrorHour$Image", "noteDoers", "()V"⟩ "MirrorHour",
  .methodLinkNest "MirrorHour" 174 ⟨"MirrorHour$Town", "passDay", "([II)V"⟩ "MirrorHour",
  .methodLinkNest "MirrorHour" 188 ⟨"MirrorHour$Town", "passing", "(II)I"⟩ "MirrorHour",
  .methodLinkNest "MirrorHour" 191 ⟨"MirrorHour$Town", "wayEnd", "(II)I"⟩ "MirrorHour",
  .methodLinkNest "MirrorHour" 194 ⟨"MirrorHour$Town", "lacking", "(II)I"⟩ "MirrorHour",
  .methodLinkNest "MirrorHour" 197 ⟨"MirrorHour$Told", "add", "(III)I"⟩ "MirrorHour",
  .methodLinkNest "MirrorHour" 282 ⟨"MirrorHour$Town", "abilities", "(I)I"⟩ "MirrorHour",
  .methodLinkNest "MirrorHour" 276 ⟨"MirrorHour$Tally", "clear", "()V"⟩ "MirrorHour",
  .methodLinkNest "MirrorHour" 278 ⟨"MirrorHour$Tally", "note", "(LMirrorHour$Town;II)V"⟩ "MirrorHour",
  .methodLinkNest "MirrorHour" 234 ⟨"MirrorHour$Town", "roundOf", "(I)I"⟩ "MirrorHour",
  .methodLinkNest "MirrorHour" 250 ⟨"MirrorHour$Image", "copy", "(LMirrorHour$Image;)V"⟩ "MirrorHour"]
/-- the texts of the class: place in the pool, text, bytes -/
def txI : List Nat := [92, 94, 96, 98, 100, 102, 104, 106, 108, 110, 112, 114, 116, 118, 120, 122, 124, 126, 128, 130, 132]
def txS : List String := ["plain", "tooled", "either", "craft", "street", "across", "gap", "tools", "does", "idle", "like", "forbid", "allow", "N", "AA", "A", "AS", "AD", "AAV", "D", "SAVV"]
def txN : List Nat := [5, 6, 6, 5, 6, 6, 3, 5, 4, 4, 4, 6, 5, 1, 2, 1, 2, 2, 3, 1, 4]
def txB : List (List Int32) := [[112, 108, 97, 105, 110], [116, 111, 111, 108, 101, 100], [101, 105, 116, 104, 101, 114], [99, 114, 97, 102, 116], [115, 116, 114, 101, 101, 116], [97, 99, 114, 111, 115, 115], [103, 97, 112], [116, 111, 111, 108, 115], [100, 111, 101, 115], [105, 100, 108, 101], [108, 105, 107, 101], [102, 111, 114, 98, 105, 100], [97, 108, 108, 111, 119], [78], [65, 65], [65], [65, 83], [65, 68], [65, 65, 86], [68], [83, 65, 86, 86]]
abbrev kX (g : GX) (i : Nat) : Nat := g.2.2.2.2.1 i
def EXA (g : GX) (A : Nat → Prop) : State → Heap → Prop := fun U H => (∀ w ∈ nsW, va_Nw w U) ∧ vk_S 21 txN txB g.2.2.2.2.1 g.2.2.2.2.2 A U H ∧ (∀ i, i < 21 → vk_R "MirrorHour$Text" (txI.getD i 0) (txS.getD i "") (kX g i) U) ∧ va_Z "java/lang/String" "COMPACT_STRINGS" "Z" (.int 1) A U H ∧ va_Zq "jdk/internal/util/Preconditions" "SIOOBE_FORMATTER" "Ljava/util/function/BiFunction;" A U H
def EX (g : GX) : State → Heap → Prop := EXA g (AX g)
def sX (g : GX) : SID := (g.1, [(g.2.1, .int), (g.2.2.1, .object "MirrorHour$Image")], AX g, cX g, EX g)
def sM (g : GM) : SID := (g.1, [(g.2.1, .int), (g.2.2.1, .boolean)], AM g, cM g, fun _ _ => True)
theorem va_D_of {A B : Nat → Prop} {ws ws1 : va_W} (h : va_D A ws) (e : ws1.map Prod.fst = ws.map Prod.fst) (hB : ∀ q, q ∈ ws.map Prod.fst → B q) : va_D B ws1 := by
  have at1 : ∀ (i : Nat) (p : Nat × va_E), ws1[i]? = some p → ∃ p2, ws[i]? = some p2 ∧ p2.1 = p.1 := by
    intro i p hp
    have h1 : (ws1.map Prod.fst)[i]? = some p.1 := by rw [List.getElem?_map, hp]; rfl
    rw [e, List.getElem?_map] at h1
    cases hq : ws[i]? with
    | none => rw [hq] at h1; cases h1
    | some p2 => rw [hq] at h1; exact ⟨p2, rfl, Option.some.inj h1⟩
  refine ⟨fun i j p q hp hq hpq => ?_, fun k q hk => ?_⟩
  · obtain ⟨p2, h1, e1⟩ := at1 i p hp
    obtain ⟨q2, h2, e2⟩ := at1 j q hq
    exact h.1 i j p2 q2 h1 h2 (by rw [e1, e2]; exact hpq)
  · obtain ⟨q2, h2, e2⟩ := at1 k q hk
    rw [← e2]
    exact hB _ (List.mem_map.mpr ⟨q2, List.mem_of_getElem? h2, rfl⟩)
theorem va_D_mem {A : Nat → Prop} {ws ws1 : va_W} (h : va_D A ws) (e : ws1.map Prod.fst = ws.map Prod.fst) : ∀ q, q ∈ ws1.map Prod.fst → A q := by
  intro q hq
  rw [e] at hq
  obtain ⟨p, hp, rfl⟩ := List.mem_map.mp hq
  obtain ⟨i, hi⟩ := List.mem_iff_getElem?.mp hp
  exact h.2 i p hi
def xSide (S : SID) : Prop := (∀ a, va_D S.2.2.1 (S.2.2.2.1 a)) ∧ EC S
def nsOk : Cond → Bool
  | .fieldLinkNest .. => true
  | .methodLinkNest .. => true
  | _ => false
theorem nsW_ok : nsW.all nsOk = true := by decide +kernel
theorem nsW_kind : ∀ w ∈ nsW, (∃ a i b n d h, w = Cond.fieldLinkNest a i b n d h) ∨ (∃ a i x h, w = Cond.methodLinkNest a i x h) := by
  intro w hw
  have h := List.all_eq_true.mp nsW_ok w hw
  cases w <;> first | exact Or.inl ⟨_, _, _, _, _, _, rfl⟩ | exact Or.inr ⟨_, _, _, _, rfl⟩ | cases h
theorem EC_XA (g : GX) (A : Nat → Prop) (D : va_G) (tys : List (ClassId × FieldType)) (cw : St → va_W) : EC (D, tys, A, cw, EXA g A) := by
  refine ⟨fun u U H hv h => ?_, fun s U H hW h => ?_, fun U H H1 hq h => ?_⟩
  · obtain ⟨h1, h2, h3, h4, h5⟩ := h
    have hA : u.vm.Alike U.vm := by rw [hv]; exact Vm.Alike.refl _
    refine ⟨fun w hw => ?_, h2.moved hA, fun i hi => (h3 i hi).same hv, h4.moved hA, h5.elim (fun z => Or.inl (z.moved hA)) (fun ⟨t, z⟩ => Or.inr ⟨t, z.moved hA⟩)⟩
    rcases nsW_kind w hw with ⟨a, i, b, n, d, h, rfl⟩ | ⟨a, i, x, h, rfl⟩ <;> exact (h1 _ hw).same rfl hv.symm
  · obtain ⟨h1, h2, h3, h4, h5⟩ := h
    refine ⟨fun w hw => ?_, h2.moved hW.alike, fun i hi => (h3 i hi).warm hW, h4.moved hW.alike, h5.elim (fun z => Or.inl (z.moved hW.alike)) (fun ⟨t, z⟩ => Or.inr ⟨t, z.moved hW.alike⟩)⟩
    rcases nsW_kind w hw with ⟨a, i, b, n, d, h, rfl⟩ | ⟨a, i, x, h, rfl⟩
    · exact va_Nw.warmF hW (h1 _ hw)
    · exact va_Nw.warmM hW (h1 _ hw)
  · obtain ⟨h1, h2, h3, h4, h5⟩ := h
    exact ⟨h1, h2.kept hq, h3, h4.kept hq, h5.elim (fun z => Or.inl (z.kept hq)) (fun ⟨t, z⟩ => Or.inr ⟨t, z.kept hq⟩)⟩
theorem EC_X (g : GX) : EC (sX g) := EC_XA g (AX g) _ _ _
theorem EXA_narrow {g : GX} {A B : Nat → Prop} (hAB : ∀ q, B q → A q) {U : State} {H : Heap} (h : EXA g A U H) : EXA g B U H := by
  obtain ⟨h1, h2, h3, h4, h5⟩ := h
  exact ⟨h1, h2.narrow hAB, h3, h4.narrow hAB, h5.elim (fun z => Or.inl (z.narrow hAB)) (fun ⟨t, z⟩ => Or.inr ⟨t, z.narrow hAB⟩)⟩
theorem EC_M (g : GM) : EC (sM g) := ⟨fun _ _ _ _ _ => trivial, fun _ _ _ _ _ => trivial, fun _ _ _ _ _ => trivial⟩
theorem wX0 (g : GX) (a : St) : ((sX g).2.2.2.1 a)[0]? = some (aX g 0, .inr (5, [.ref (aX g 1), .ref (aX g 5), .ref (aX g 15), .ref (aX g 18), .ref (aX g 25), .ref (aX g 29), .ref (aX g 33), .ref (aX g 34), .ref (aX g 35), .ref (aX g 36), .ref (aX g 37), .ref (aX g 38), .ref (aX g 41)])) := rfl
theorem wX1 (g : GX) (a : St) : ((sX g).2.2.2.1 a)[1]? = some (aX g 1, .inr (2, [.ref (aX g 2), .int (a 1 1), .int (a 1 2), .int (a 1 3), .int (a 1 4), .int (a 1 5), .ref (aX g 3), .ref (aX g 4), .int (a 1 8)])) := rfl
theorem pX1_1 (g : GX) (a : St) (x : Int32) : ((sX g).2.2.2.1 a).set 1 (aX g 1, .inr (2, ([.ref (aX g 2), .int (a 1 1), .int (a 1 2), .int (a 1 3), .int (a 1 4), .int (a 1 5), .ref (aX g 3), .ref (aX g 4), .int (a 1 8)] : List Value).set 1 (.int x))) = (sX g).2.2.2.1 (up a 1 1 x) := rfl
theorem pX1_2 (g : GX) (a : St) (x : Int32) : ((sX g).2.2.2.1 a).set 1 (aX g 1, .inr (2, ([.ref (aX g 2), .int (a 1 1), .int (a 1 2), .int (a 1 3), .int (a 1 4), .int (a 1 5), .ref (aX g 3), .ref (aX g 4), .int (a 1 8)] : List Value).set 2 (.int x))) = (sX g).2.2.2.1 (up a 1 2 x) := rfl
theorem pX1_3 (g : GX) (a : St) (x : Int32) : ((sX g).2.2.2.1 a).set 1 (aX g 1, .inr (2, ([.ref (aX g 2), .int (a 1 1), .int (a 1 2), .int (a 1 3), .int (a 1 4), .int (a 1 5), .ref (aX g 3), .ref (aX g 4), .int (a 1 8)] : List Value).set 3 (.int x))) = (sX g).2.2.2.1 (up a 1 3 x) := rfl
theorem pX1_4 (g : GX) (a : St) (x : Int32) : ((sX g).2.2.2.1 a).set 1 (aX g 1, .inr (2, ([.ref (aX g 2), .int (a 1 1), .int (a 1 2), .int (a 1 3), .int (a 1 4), .int (a 1 5), .ref (aX g 3), .ref (aX g 4), .int (a 1 8)] : List Value).set 4 (.int x))) = (sX g).2.2.2.1 (up a 1 4 x) := rfl
theorem pX1_5 (g : GX) (a : St) (x : Int32) : ((sX g).2.2.2.1 a).set 1 (aX g 1, .inr (2, ([.ref (aX g 2), .int (a 1 1), .int (a 1 2), .int (a 1 3), .int (a 1 4), .int (a 1 5), .ref (aX g 3), .ref (aX g 4), .int (a 1 8)] : List Value).set 5 (.int x))) = (sX g).2.2.2.1 (up a 1 5 x) := rfl
theorem pX1_8 (g : GX) (a : St) (x : Int32) : ((sX g).2.2.2.1 a).set 1 (aX g 1, .inr (2, ([.ref (aX g 2), .int (a 1 1), .int (a 1 2), .int (a 1 3), .int (a 1 4), .int (a 1 5), .ref (aX g 3), .ref (aX g 4), .int (a 1 8)] : List Value).set 8 (.int x))) = (sX g).2.2.2.1 (up a 1 8 x) := rfl
theorem wX2 (g : GX) (a : St) : ((sX g).2.2.2.1 a)[2]? = some (aX g 2, .inl (g.2.1, 200, .inl (a 2))) := rfl
theorem pX2 (g : GX) (a : St) (k : Nat) (x : Int32) : ((sX g).2.2.2.1 a).set 2 (aX g 2, .inl (g.2.1, 200, .inl (upd (a 2) k x))) = (sX g).2.2.2.1 (up a 2 k x) := rfl
theorem rX2 (g : GX) (a : St) (f : Nat → Int32) : ((sX g).2.2.2.1 a).set 2 (aX g 2, .inl (g.2.1, 200, .inl f)) = (sX g).2.2.2.1 (uprow a 2 f) := rfl
theorem wX3 (g : GX) (a : St) : ((sX g).2.2.2.1 a)[3]? = some (aX g 3, .inl (g.2.1, 10, .inl (a 3))) := rfl
theorem pX3 (g : GX) (a : St) (k : Nat) (x : Int32) : ((sX g).2.2.2.1 a).set 3 (aX g 3, .inl (g.2.1, 10, .inl (upd (a 3) k x))) = (sX g).2.2.2.1 (up a 3 k x) := rfl
theorem rX3 (g : GX) (a : St) (f : Nat → Int32) : ((sX g).2.2.2.1 a).set 3 (aX g 3, .inl (g.2.1, 10, .inl f)) = (sX g).2.2.2.1 (uprow a 3 f) := rfl
theorem wX4 (g : GX) (a : St) : ((sX g).2.2.2.1 a)[4]? = some (aX g 4, .inl (g.2.1, 40, .inl (a 4))) := rfl
theorem pX4 (g : GX) (a : St) (k : Nat) (x : Int32) : ((sX g).2.2.2.1 a).set 4 (aX g 4, .inl (g.2.1, 40, .inl (upd (a 4) k x))) = (sX g).2.2.2.1 (up a 4 k x) := rfl
theorem rX4 (g : GX) (a : St) (f : Nat → Int32) : ((sX g).2.2.2.1 a).set 4 (aX g 4, .inl (g.2.1, 40, .inl f)) = (sX g).2.2.2.1 (uprow a 4 f) := rfl
theorem wX5 (g : GX) (a : St) : ((sX g).2.2.2.1 a)[5]? = some (aX g 5, .inr (4, [.int (a 5 0), .int (a 5 1), .int (a 5 2), .ref (aX g 6), .ref (aX g 7), .ref (aX g 8), .ref (aX g 9), .ref (aX g 10), .ref (aX g 11), .ref (aX g 12), .ref (aX g 13), .ref (aX g 14)])) := rfl
theorem pX5_0 (g : GX) (a : St) (x : Int32) : ((sX g).2.2.2.1 a).set 5 (aX g 5, .inr (4, ([.int (a 5 0), .int (a 5 1), .int (a 5 2), .ref (aX g 6), .ref (aX g 7), .ref (aX g 8), .ref (aX g 9), .ref (aX g 10), .ref (aX g 11), .ref (aX g 12), .ref (aX g 13), .ref (aX g 14)] : List Value).set 0 (.int x))) = (sX g).2.2.2.1 (up a 5 0 x) := rfl
theorem pX5_1 (g : GX) (a : St) (x : Int32) : ((sX g).2.2.2.1 a).set 5 (aX g 5, .inr (4, ([.int (a 5 0), .int (a 5 1), .int (a 5 2), .ref (aX g 6), .ref (aX g 7), .ref (aX g 8), .ref (aX g 9), .ref (aX g 10), .ref (aX g 11), .ref (aX g 12), .ref (aX g 13), .ref (aX g 14)] : List Value).set 1 (.int x))) = (sX g).2.2.2.1 (up a 5 1 x) := rfl
theorem pX5_2 (g : GX) (a : St) (x : Int32) : ((sX g).2.2.2.1 a).set 5 (aX g 5, .inr (4, ([.int (a 5 0), .int (a 5 1), .int (a 5 2), .ref (aX g 6), .ref (aX g 7), .ref (aX g 8), .ref (aX g 9), .ref (aX g 10), .ref (aX g 11), .ref (aX g 12), .ref (aX g 13), .ref (aX g 14)] : List Value).set 2 (.int x))) = (sX g).2.2.2.1 (up a 5 2 x) := rfl
theorem wX6 (g : GX) (a : St) : ((sX g).2.2.2.1 a)[6]? = some (aX g 6, .inl (g.2.1, 8, .inl (a 6))) := rfl
theorem pX6 (g : GX) (a : St) (k : Nat) (x : Int32) : ((sX g).2.2.2.1 a).set 6 (aX g 6, .inl (g.2.1, 8, .inl (upd (a 6) k x))) = (sX g).2.2.2.1 (up a 6 k x) := rfl
theorem rX6 (g : GX) (a : St) (f : Nat → Int32) : ((sX g).2.2.2.1 a).set 6 (aX g 6, .inl (g.2.1, 8, .inl f)) = (sX g).2.2.2.1 (uprow a 6 f) := rfl
theorem wX7 (g : GX) (a : St) : ((sX g).2.2.2.1 a)[7]? = some (aX g 7, .inl (g.2.1, 8, .inl (a 7))) := rfl
theorem pX7 (g : GX) (a : St) (k : Nat) (x : Int32) : ((sX g).2.2.2.1 a).set 7 (aX g 7, .inl (g.2.1, 8, .inl (upd (a 7) k x))) = (sX g).2.2.2.1 (up a 7 k x) := rfl
theorem rX7 (g : GX) (a : St) (f : Nat → Int32) : ((sX g).2.2.2.1 a).set 7 (aX g 7, .inl (g.2.1, 8, .inl f)) = (sX g).2.2.2.1 (uprow a 7 f) := rfl
theorem wX8 (g : GX) (a : St) : ((sX g).2.2.2.1 a)[8]? = some (aX g 8, .inl (g.2.1, 64, .inl (a 8))) := rfl
theorem pX8 (g : GX) (a : St) (k : Nat) (x : Int32) : ((sX g).2.2.2.1 a).set 8 (aX g 8, .inl (g.2.1, 64, .inl (upd (a 8) k x))) = (sX g).2.2.2.1 (up a 8 k x) := rfl
theorem rX8 (g : GX) (a : St) (f : Nat → Int32) : ((sX g).2.2.2.1 a).set 8 (aX g 8, .inl (g.2.1, 64, .inl f)) = (sX g).2.2.2.1 (uprow a 8 f) := rfl
theorem wX9 (g : GX) (a : St) : ((sX g).2.2.2.1 a)[9]? = some (aX g 9, .inl (g.2.1, 6, .inl (a 9))) := rfl
theorem pX9 (g : GX) (a : St) (k : Nat) (x : Int32) : ((sX g).2.2.2.1 a).set 9 (aX g 9, .inl (g.2.1, 6, .inl (upd (a 9) k x))) = (sX g).2.2.2.1 (up a 9 k x) := rfl
theorem rX9 (g : GX) (a : St) (f : Nat → Int32) : ((sX g).2.2.2.1 a).set 9 (aX g 9, .inl (g.2.1, 6, .inl f)) = (sX g).2.2.2.1 (uprow a 9 f) := rfl
theorem wX10 (g : GX) (a : St) : ((sX g).2.2.2.1 a)[10]? = some (aX g 10, .inl (g.2.1, 6, .inl (a 10))) := rfl
theorem pX10 (g : GX) (a : St) (k : Nat) (x : Int32) : ((sX g).2.2.2.1 a).set 10 (aX g 10, .inl (g.2.1, 6, .inl (upd (a 10) k x))) = (sX g).2.2.2.1 (up a 10 k x) := rfl
theorem rX10 (g : GX) (a : St) (f : Nat → Int32) : ((sX g).2.2.2.1 a).set 10 (aX g 10, .inl (g.2.1, 6, .inl f)) = (sX g).2.2.2.1 (uprow a 10 f) := rfl
theorem wX11 (g : GX) (a : St) : ((sX g).2.2.2.1 a)[11]? = some (aX g 11, .inl (g.2.1, 6, .inl (a 11))) := rfl
theorem pX11 (g : GX) (a : St) (k : Nat) (x : Int32) : ((sX g).2.2.2.1 a).set 11 (aX g 11, .inl (g.2.1, 6, .inl (upd (a 11) k x))) = (sX g).2.2.2.1 (up a 11 k x) := rfl
theorem rX11 (g : GX) (a : St) (f : Nat → Int32) : ((sX g).2.2.2.1 a).set 11 (aX g 11, .inl (g.2.1, 6, .inl f)) = (sX g).2.2.2.1 (uprow a 11 f) := rfl
theorem wX12 (g : GX) (a : St) : ((sX g).2.2.2.1 a)[12]? = some (aX g 12, .inl (g.2.1, 6, .inl (a 12))) := rfl
theorem pX12 (g : GX) (a : St) (k : Nat) (x : Int32) : ((sX g).2.2.2.1 a).set 12 (aX g 12, .inl (g.2.1, 6, .inl (upd (a 12) k x))) = (sX g).2.2.2.1 (up a 12 k x) := rfl
theorem rX12 (g : GX) (a : St) (f : Nat → Int32) : ((sX g).2.2.2.1 a).set 12 (aX g 12, .inl (g.2.1, 6, .inl f)) = (sX g).2.2.2.1 (uprow a 12 f) := rfl
theorem wX13 (g : GX) (a : St) : ((sX g).2.2.2.1 a)[13]? = some (aX g 13, .inl (g.2.1, 6, .inl (a 13))) := rfl
theorem pX13 (g : GX) (a : St) (k : Nat) (x : Int32) : ((sX g).2.2.2.1 a).set 13 (aX g 13, .inl (g.2.1, 6, .inl (upd (a 13) k x))) = (sX g).2.2.2.1 (up a 13 k x) := rfl
theorem rX13 (g : GX) (a : St) (f : Nat → Int32) : ((sX g).2.2.2.1 a).set 13 (aX g 13, .inl (g.2.1, 6, .inl f)) = (sX g).2.2.2.1 (uprow a 13 f) := rfl
theorem wX14 (g : GX) (a : St) : ((sX g).2.2.2.1 a)[14]? = some (aX g 14, .inl (g.2.1, 8, .inl (a 14))) := rfl
theorem pX14 (g : GX) (a : St) (k : Nat) (x : Int32) : ((sX g).2.2.2.1 a).set 14 (aX g 14, .inl (g.2.1, 8, .inl (upd (a 14) k x))) = (sX g).2.2.2.1 (up a 14 k x) := rfl
theorem rX14 (g : GX) (a : St) (f : Nat → Int32) : ((sX g).2.2.2.1 a).set 14 (aX g 14, .inl (g.2.1, 8, .inl f)) = (sX g).2.2.2.1 (uprow a 14 f) := rfl
theorem wX15 (g : GX) (a : St) : ((sX g).2.2.2.1 a)[15]? = some (aX g 15, .inr (0, [.ref (aX g 16), .ref (aX g 17), .int (a 15 2), .int (a 15 3)])) := rfl
theorem pX15_2 (g : GX) (a : St) (x : Int32) : ((sX g).2.2.2.1 a).set 15 (aX g 15, .inr (0, ([.ref (aX g 16), .ref (aX g 17), .int (a 15 2), .int (a 15 3)] : List Value).set 2 (.int x))) = (sX g).2.2.2.1 (up a 15 2 x) := rfl
theorem pX15_3 (g : GX) (a : St) (x : Int32) : ((sX g).2.2.2.1 a).set 15 (aX g 15, .inr (0, ([.ref (aX g 16), .ref (aX g 17), .int (a 15 2), .int (a 15 3)] : List Value).set 3 (.int x))) = (sX g).2.2.2.1 (up a 15 3 x) := rfl
theorem wX16 (g : GX) (a : St) : ((sX g).2.2.2.1 a)[16]? = some (aX g 16, .inl (g.2.1, 8, .inl (a 16))) := rfl
theorem pX16 (g : GX) (a : St) (k : Nat) (x : Int32) : ((sX g).2.2.2.1 a).set 16 (aX g 16, .inl (g.2.1, 8, .inl (upd (a 16) k x))) = (sX g).2.2.2.1 (up a 16 k x) := rfl
theorem rX16 (g : GX) (a : St) (f : Nat → Int32) : ((sX g).2.2.2.1 a).set 16 (aX g 16, .inl (g.2.1, 8, .inl f)) = (sX g).2.2.2.1 (uprow a 16 f) := rfl
theorem wX17 (g : GX) (a : St) : ((sX g).2.2.2.1 a)[17]? = some (aX g 17, .inl (g.2.1, 8, .inl (a 17))) := rfl
theorem pX17 (g : GX) (a : St) (k : Nat) (x : Int32) : ((sX g).2.2.2.1 a).set 17 (aX g 17, .inl (g.2.1, 8, .inl (upd (a 17) k x))) = (sX g).2.2.2.1 (up a 17 k x) := rfl
theorem rX17 (g : GX) (a : St) (f : Nat → Int32) : ((sX g).2.2.2.1 a).set 17 (aX g 17, .inl (g.2.1, 8, .inl f)) = (sX g).2.2.2.1 (uprow a 17 f) := rfl
theorem wX18 (g : GX) (a : St) : ((sX g).2.2.2.1 a)[18]? = some (aX g 18, .inl (g.2.2.1, 2, .inr (.inr (.inr (.inr (fun j => some (bif Nat.beq j 0 then aX g 19 else aX g 22))))))) := rfl
theorem wX19 (g : GX) (a : St) : ((sX g).2.2.2.1 a)[19]? = some (aX g 19, .inr (0, [.ref (aX g 20), .ref (aX g 21), .int (a 19 2), .int (a 19 3)])) := rfl
theorem pX19_2 (g : GX) (a : St) (x : Int32) : ((sX g).2.2.2.1 a).set 19 (aX g 19, .inr (0, ([.ref (aX g 20), .ref (aX g 21), .int (a 19 2), .int (a 19 3)] : List Value).set 2 (.int x))) = (sX g).2.2.2.1 (up a 19 2 x) := rfl
theorem pX19_3 (g : GX) (a : St) (x : Int32) : ((sX g).2.2.2.1 a).set 19 (aX g 19, .inr (0, ([.ref (aX g 20), .ref (aX g 21), .int (a 19 2), .int (a 19 3)] : List Value).set 3 (.int x))) = (sX g).2.2.2.1 (up a 19 3 x) := rfl
theorem wX20 (g : GX) (a : St) : ((sX g).2.2.2.1 a)[20]? = some (aX g 20, .inl (g.2.1, 8, .inl (a 20))) := rfl
theorem pX20 (g : GX) (a : St) (k : Nat) (x : Int32) : ((sX g).2.2.2.1 a).set 20 (aX g 20, .inl (g.2.1, 8, .inl (upd (a 20) k x))) = (sX g).2.2.2.1 (up a 20 k x) := rfl
theorem rX20 (g : GX) (a : St) (f : Nat → Int32) : ((sX g).2.2.2.1 a).set 20 (aX g 20, .inl (g.2.1, 8, .inl f)) = (sX g).2.2.2.1 (uprow a 20 f) := rfl
theorem wX21 (g : GX) (a : St) : ((sX g).2.2.2.1 a)[21]? = some (aX g 21, .inl (g.2.1, 8, .inl (a 21))) := rfl
theorem pX21 (g : GX) (a : St) (k : Nat) (x : Int32) : ((sX g).2.2.2.1 a).set 21 (aX g 21, .inl (g.2.1, 8, .inl (upd (a 21) k x))) = (sX g).2.2.2.1 (up a 21 k x) := rfl
theorem rX21 (g : GX) (a : St) (f : Nat → Int32) : ((sX g).2.2.2.1 a).set 21 (aX g 21, .inl (g.2.1, 8, .inl f)) = (sX g).2.2.2.1 (uprow a 21 f) := rfl
theorem wX22 (g : GX) (a : St) : ((sX g).2.2.2.1 a)[22]? = some (aX g 22, .inr (0, [.ref (aX g 23), .ref (aX g 24), .int (a 22 2), .int (a 22 3)])) := rfl
theorem pX22_2 (g : GX) (a : St) (x : Int32) : ((sX g).2.2.2.1 a).set 22 (aX g 22, .inr (0, ([.ref (aX g 23), .ref (aX g 24), .int (a 22 2), .int (a 22 3)] : List Value).set 2 (.int x))) = (sX g).2.2.2.1 (up a 22 2 x) := rfl
theorem pX22_3 (g : GX) (a : St) (x : Int32) : ((sX g).2.2.2.1 a).set 22 (aX g 22, .inr (0, ([.ref (aX g 23), .ref (aX g 24), .int (a 22 2), .int (a 22 3)] : List Value).set 3 (.int x))) = (sX g).2.2.2.1 (up a 22 3 x) := rfl
theorem wX23 (g : GX) (a : St) : ((sX g).2.2.2.1 a)[23]? = some (aX g 23, .inl (g.2.1, 8, .inl (a 23))) := rfl
theorem pX23 (g : GX) (a : St) (k : Nat) (x : Int32) : ((sX g).2.2.2.1 a).set 23 (aX g 23, .inl (g.2.1, 8, .inl (upd (a 23) k x))) = (sX g).2.2.2.1 (up a 23 k x) := rfl
theorem rX23 (g : GX) (a : St) (f : Nat → Int32) : ((sX g).2.2.2.1 a).set 23 (aX g 23, .inl (g.2.1, 8, .inl f)) = (sX g).2.2.2.1 (uprow a 23 f) := rfl
theorem wX24 (g : GX) (a : St) : ((sX g).2.2.2.1 a)[24]? = some (aX g 24, .inl (g.2.1, 8, .inl (a 24))) := rfl
theorem pX24 (g : GX) (a : St) (k : Nat) (x : Int32) : ((sX g).2.2.2.1 a).set 24 (aX g 24, .inl (g.2.1, 8, .inl (upd (a 24) k x))) = (sX g).2.2.2.1 (up a 24 k x) := rfl
theorem rX24 (g : GX) (a : St) (f : Nat → Int32) : ((sX g).2.2.2.1 a).set 24 (aX g 24, .inl (g.2.1, 8, .inl f)) = (sX g).2.2.2.1 (uprow a 24 f) := rfl
theorem wX25 (g : GX) (a : St) : ((sX g).2.2.2.1 a)[25]? = some (aX g 25, .inr (3, [.ref (aX g 26), .ref (aX g 27), .ref (aX g 28), .int (a 25 3)])) := rfl
theorem pX25_3 (g : GX) (a : St) (x : Int32) : ((sX g).2.2.2.1 a).set 25 (aX g 25, .inr (3, ([.ref (aX g 26), .ref (aX g 27), .ref (aX g 28), .int (a 25 3)] : List Value).set 3 (.int x))) = (sX g).2.2.2.1 (up a 25 3 x) := rfl
theorem wX26 (g : GX) (a : St) : ((sX g).2.2.2.1 a)[26]? = some (aX g 26, .inl (g.2.1, 8, .inl (a 26))) := rfl
theorem pX26 (g : GX) (a : St) (k : Nat) (x : Int32) : ((sX g).2.2.2.1 a).set 26 (aX g 26, .inl (g.2.1, 8, .inl (upd (a 26) k x))) = (sX g).2.2.2.1 (up a 26 k x) := rfl
theorem rX26 (g : GX) (a : St) (f : Nat → Int32) : ((sX g).2.2.2.1 a).set 26 (aX g 26, .inl (g.2.1, 8, .inl f)) = (sX g).2.2.2.1 (uprow a 26 f) := rfl
theorem wX27 (g : GX) (a : St) : ((sX g).2.2.2.1 a)[27]? = some (aX g 27, .inl (g.2.1, 8, .inl (a 27))) := rfl
theorem pX27 (g : GX) (a : St) (k : Nat) (x : Int32) : ((sX g).2.2.2.1 a).set 27 (aX g 27, .inl (g.2.1, 8, .inl (upd (a 27) k x))) = (sX g).2.2.2.1 (up a 27 k x) := rfl
theorem rX27 (g : GX) (a : St) (f : Nat → Int32) : ((sX g).2.2.2.1 a).set 27 (aX g 27, .inl (g.2.1, 8, .inl f)) = (sX g).2.2.2.1 (uprow a 27 f) := rfl
theorem wX28 (g : GX) (a : St) : ((sX g).2.2.2.1 a)[28]? = some (aX g 28, .inl (g.2.1, 8, .inl (a 28))) := rfl
theorem pX28 (g : GX) (a : St) (k : Nat) (x : Int32) : ((sX g).2.2.2.1 a).set 28 (aX g 28, .inl (g.2.1, 8, .inl (upd (a 28) k x))) = (sX g).2.2.2.1 (up a 28 k x) := rfl
theorem rX28 (g : GX) (a : St) (f : Nat → Int32) : ((sX g).2.2.2.1 a).set 28 (aX g 28, .inl (g.2.1, 8, .inl f)) = (sX g).2.2.2.1 (uprow a 28 f) := rfl
theorem wX29 (g : GX) (a : St) : ((sX g).2.2.2.1 a)[29]? = some (aX g 29, .inr (3, [.ref (aX g 30), .ref (aX g 31), .ref (aX g 32), .int (a 29 3)])) := rfl
theorem pX29_3 (g : GX) (a : St) (x : Int32) : ((sX g).2.2.2.1 a).set 29 (aX g 29, .inr (3, ([.ref (aX g 30), .ref (aX g 31), .ref (aX g 32), .int (a 29 3)] : List Value).set 3 (.int x))) = (sX g).2.2.2.1 (up a 29 3 x) := rfl
theorem wX30 (g : GX) (a : St) : ((sX g).2.2.2.1 a)[30]? = some (aX g 30, .inl (g.2.1, 8, .inl (a 30))) := rfl
theorem pX30 (g : GX) (a : St) (k : Nat) (x : Int32) : ((sX g).2.2.2.1 a).set 30 (aX g 30, .inl (g.2.1, 8, .inl (upd (a 30) k x))) = (sX g).2.2.2.1 (up a 30 k x) := rfl
theorem rX30 (g : GX) (a : St) (f : Nat → Int32) : ((sX g).2.2.2.1 a).set 30 (aX g 30, .inl (g.2.1, 8, .inl f)) = (sX g).2.2.2.1 (uprow a 30 f) := rfl
theorem wX31 (g : GX) (a : St) : ((sX g).2.2.2.1 a)[31]? = some (aX g 31, .inl (g.2.1, 8, .inl (a 31))) := rfl
theorem pX31 (g : GX) (a : St) (k : Nat) (x : Int32) : ((sX g).2.2.2.1 a).set 31 (aX g 31, .inl (g.2.1, 8, .inl (upd (a 31) k x))) = (sX g).2.2.2.1 (up a 31 k x) := rfl
theorem rX31 (g : GX) (a : St) (f : Nat → Int32) : ((sX g).2.2.2.1 a).set 31 (aX g 31, .inl (g.2.1, 8, .inl f)) = (sX g).2.2.2.1 (uprow a 31 f) := rfl
theorem wX32 (g : GX) (a : St) : ((sX g).2.2.2.1 a)[32]? = some (aX g 32, .inl (g.2.1, 8, .inl (a 32))) := rfl
theorem pX32 (g : GX) (a : St) (k : Nat) (x : Int32) : ((sX g).2.2.2.1 a).set 32 (aX g 32, .inl (g.2.1, 8, .inl (upd (a 32) k x))) = (sX g).2.2.2.1 (up a 32 k x) := rfl
theorem rX32 (g : GX) (a : St) (f : Nat → Int32) : ((sX g).2.2.2.1 a).set 32 (aX g 32, .inl (g.2.1, 8, .inl f)) = (sX g).2.2.2.1 (uprow a 32 f) := rfl
theorem wX33 (g : GX) (a : St) : ((sX g).2.2.2.1 a)[33]? = some (aX g 33, .inl (g.2.1, 8, .inl (a 33))) := rfl
theorem pX33 (g : GX) (a : St) (k : Nat) (x : Int32) : ((sX g).2.2.2.1 a).set 33 (aX g 33, .inl (g.2.1, 8, .inl (upd (a 33) k x))) = (sX g).2.2.2.1 (up a 33 k x) := rfl
theorem rX33 (g : GX) (a : St) (f : Nat → Int32) : ((sX g).2.2.2.1 a).set 33 (aX g 33, .inl (g.2.1, 8, .inl f)) = (sX g).2.2.2.1 (uprow a 33 f) := rfl
theorem wX34 (g : GX) (a : St) : ((sX g).2.2.2.1 a)[34]? = some (aX g 34, .inl (g.2.1, 8, .inl (a 34))) := rfl
theorem pX34 (g : GX) (a : St) (k : Nat) (x : Int32) : ((sX g).2.2.2.1 a).set 34 (aX g 34, .inl (g.2.1, 8, .inl (upd (a 34) k x))) = (sX g).2.2.2.1 (up a 34 k x) := rfl
theorem rX34 (g : GX) (a : St) (f : Nat → Int32) : ((sX g).2.2.2.1 a).set 34 (aX g 34, .inl (g.2.1, 8, .inl f)) = (sX g).2.2.2.1 (uprow a 34 f) := rfl
theorem wX35 (g : GX) (a : St) : ((sX g).2.2.2.1 a)[35]? = some (aX g 35, .inl (g.2.1, 8, .inl (a 35))) := rfl
theorem pX35 (g : GX) (a : St) (k : Nat) (x : Int32) : ((sX g).2.2.2.1 a).set 35 (aX g 35, .inl (g.2.1, 8, .inl (upd (a 35) k x))) = (sX g).2.2.2.1 (up a 35 k x) := rfl
theorem rX35 (g : GX) (a : St) (f : Nat → Int32) : ((sX g).2.2.2.1 a).set 35 (aX g 35, .inl (g.2.1, 8, .inl f)) = (sX g).2.2.2.1 (uprow a 35 f) := rfl
theorem wX36 (g : GX) (a : St) : ((sX g).2.2.2.1 a)[36]? = some (aX g 36, .inl (g.2.1, 32, .inl (a 36))) := rfl
theorem pX36 (g : GX) (a : St) (k : Nat) (x : Int32) : ((sX g).2.2.2.1 a).set 36 (aX g 36, .inl (g.2.1, 32, .inl (upd (a 36) k x))) = (sX g).2.2.2.1 (up a 36 k x) := rfl
theorem rX36 (g : GX) (a : St) (f : Nat → Int32) : ((sX g).2.2.2.1 a).set 36 (aX g 36, .inl (g.2.1, 32, .inl f)) = (sX g).2.2.2.1 (uprow a 36 f) := rfl
theorem wX37 (g : GX) (a : St) : ((sX g).2.2.2.1 a)[37]? = some (aX g 37, .inl (g.2.1, 256, .inl (a 37))) := rfl
theorem pX37 (g : GX) (a : St) (k : Nat) (x : Int32) : ((sX g).2.2.2.1 a).set 37 (aX g 37, .inl (g.2.1, 256, .inl (upd (a 37) k x))) = (sX g).2.2.2.1 (up a 37 k x) := rfl
theorem rX37 (g : GX) (a : St) (f : Nat → Int32) : ((sX g).2.2.2.1 a).set 37 (aX g 37, .inl (g.2.1, 256, .inl f)) = (sX g).2.2.2.1 (uprow a 37 f) := rfl
theorem wX38 (g : GX) (a : St) : ((sX g).2.2.2.1 a)[38]? = some (aX g 38, .inr (1, [.ref (aX g 39), .ref (aX g 40)])) := rfl
theorem wX39 (g : GX) (a : St) : ((sX g).2.2.2.1 a)[39]? = some (aX g 39, .inl (g.2.1, 6, .inl (a 39))) := rfl
theorem pX39 (g : GX) (a : St) (k : Nat) (x : Int32) : ((sX g).2.2.2.1 a).set 39 (aX g 39, .inl (g.2.1, 6, .inl (upd (a 39) k x))) = (sX g).2.2.2.1 (up a 39 k x) := rfl
theorem rX39 (g : GX) (a : St) (f : Nat → Int32) : ((sX g).2.2.2.1 a).set 39 (aX g 39, .inl (g.2.1, 6, .inl f)) = (sX g).2.2.2.1 (uprow a 39 f) := rfl
theorem wX40 (g : GX) (a : St) : ((sX g).2.2.2.1 a)[40]? = some (aX g 40, .inl (g.2.1, 6, .inl (a 40))) := rfl
theorem pX40 (g : GX) (a : St) (k : Nat) (x : Int32) : ((sX g).2.2.2.1 a).set 40 (aX g 40, .inl (g.2.1, 6, .inl (upd (a 40) k x))) = (sX g).2.2.2.1 (up a 40 k x) := rfl
theorem rX40 (g : GX) (a : St) (f : Nat → Int32) : ((sX g).2.2.2.1 a).set 40 (aX g 40, .inl (g.2.1, 6, .inl f)) = (sX g).2.2.2.1 (uprow a 40 f) := rfl
theorem wX41 (g : GX) (a : St) : ((sX g).2.2.2.1 a)[41]? = some (aX g 41, .inr (1, [.ref (aX g 42), .ref (aX g 43)])) := rfl
theorem wX42 (g : GX) (a : St) : ((sX g).2.2.2.1 a)[42]? = some (aX g 42, .inl (g.2.1, 6, .inl (a 42))) := rfl
theorem pX42 (g : GX) (a : St) (k : Nat) (x : Int32) : ((sX g).2.2.2.1 a).set 42 (aX g 42, .inl (g.2.1, 6, .inl (upd (a 42) k x))) = (sX g).2.2.2.1 (up a 42 k x) := rfl
theorem rX42 (g : GX) (a : St) (f : Nat → Int32) : ((sX g).2.2.2.1 a).set 42 (aX g 42, .inl (g.2.1, 6, .inl f)) = (sX g).2.2.2.1 (uprow a 42 f) := rfl
theorem wX43 (g : GX) (a : St) : ((sX g).2.2.2.1 a)[43]? = some (aX g 43, .inl (g.2.1, 6, .inl (a 43))) := rfl
theorem pX43 (g : GX) (a : St) (k : Nat) (x : Int32) : ((sX g).2.2.2.1 a).set 43 (aX g 43, .inl (g.2.1, 6, .inl (upd (a 43) k x))) = (sX g).2.2.2.1 (up a 43 k x) := rfl
theorem rX43 (g : GX) (a : St) (f : Nat → Int32) : ((sX g).2.2.2.1 a).set 43 (aX g 43, .inl (g.2.1, 6, .inl f)) = (sX g).2.2.2.1 (uprow a 43 f) := rfl
theorem wM0 (g : GM) (a : St) : ((sM g).2.2.2.1 a)[0]? = some (aM g 0, .inr (6, [.ref (aM g 1), .ref (aM g 2), .ref (aM g 3), .int (a 0 3), .ref (aM g 4), .int (a 0 5), .int (a 0 6), .ref (aM g 5), .ref (aM g 6), .ref (aM g 7), .ref (aM g 8), .int (a 0 11), .int (a 0 12), .int (a 0 13), .int (a 0 14), .int (a 0 15), .int (a 0 16), .ref (aM g 9), .ref (aM g 10), .int (a 0 19), .ref (aM g 11), .int (a 0 21), .int (a 0 22), .ref (aM g 12), .ref (aM g 13), .int (a 0 25)])) := rfl
theorem pM0_3 (g : GM) (a : St) (x : Int32) : ((sM g).2.2.2.1 a).set 0 (aM g 0, .inr (6, ([.ref (aM g 1), .ref (aM g 2), .ref (aM g 3), .int (a 0 3), .ref (aM g 4), .int (a 0 5), .int (a 0 6), .ref (aM g 5), .ref (aM g 6), .ref (aM g 7), .ref (aM g 8), .int (a 0 11), .int (a 0 12), .int (a 0 13), .int (a 0 14), .int (a 0 15), .int (a 0 16), .ref (aM g 9), .ref (aM g 10), .int (a 0 19), .ref (aM g 11), .int (a 0 21), .int (a 0 22), .ref (aM g 12), .ref (aM g 13), .int (a 0 25)] : List Value).set 3 (.int x))) = (sM g).2.2.2.1 (up a 0 3 x) := rfl
theorem pM0_5 (g : GM) (a : St) (x : Int32) : ((sM g).2.2.2.1 a).set 0 (aM g 0, .inr (6, ([.ref (aM g 1), .ref (aM g 2), .ref (aM g 3), .int (a 0 3), .ref (aM g 4), .int (a 0 5), .int (a 0 6), .ref (aM g 5), .ref (aM g 6), .ref (aM g 7), .ref (aM g 8), .int (a 0 11), .int (a 0 12), .int (a 0 13), .int (a 0 14), .int (a 0 15), .int (a 0 16), .ref (aM g 9), .ref (aM g 10), .int (a 0 19), .ref (aM g 11), .int (a 0 21), .int (a 0 22), .ref (aM g 12), .ref (aM g 13), .int (a 0 25)] : List Value).set 5 (.int x))) = (sM g).2.2.2.1 (up a 0 5 x) := rfl
theorem pM0_6 (g : GM) (a : St) (x : Int32) : ((sM g).2.2.2.1 a).set 0 (aM g 0, .inr (6, ([.ref (aM g 1), .ref (aM g 2), .ref (aM g 3), .int (a 0 3), .ref (aM g 4), .int (a 0 5), .int (a 0 6), .ref (aM g 5), .ref (aM g 6), .ref (aM g 7), .ref (aM g 8), .int (a 0 11), .int (a 0 12), .int (a 0 13), .int (a 0 14), .int (a 0 15), .int (a 0 16), .ref (aM g 9), .ref (aM g 10), .int (a 0 19), .ref (aM g 11), .int (a 0 21), .int (a 0 22), .ref (aM g 12), .ref (aM g 13), .int (a 0 25)] : List Value).set 6 (.int x))) = (sM g).2.2.2.1 (up a 0 6 x) := rfl
theorem pM0_11 (g : GM) (a : St) (x : Int32) : ((sM g).2.2.2.1 a).set 0 (aM g 0, .inr (6, ([.ref (aM g 1), .ref (aM g 2), .ref (aM g 3), .int (a 0 3), .ref (aM g 4), .int (a 0 5), .int (a 0 6), .ref (aM g 5), .ref (aM g 6), .ref (aM g 7), .ref (aM g 8), .int (a 0 11), .int (a 0 12), .int (a 0 13), .int (a 0 14), .int (a 0 15), .int (a 0 16), .ref (aM g 9), .ref (aM g 10), .int (a 0 19), .ref (aM g 11), .int (a 0 21), .int (a 0 22), .ref (aM g 12), .ref (aM g 13), .int (a 0 25)] : List Value).set 11 (.int x))) = (sM g).2.2.2.1 (up a 0 11 x) := rfl
theorem pM0_12 (g : GM) (a : St) (x : Int32) : ((sM g).2.2.2.1 a).set 0 (aM g 0, .inr (6, ([.ref (aM g 1), .ref (aM g 2), .ref (aM g 3), .int (a 0 3), .ref (aM g 4), .int (a 0 5), .int (a 0 6), .ref (aM g 5), .ref (aM g 6), .ref (aM g 7), .ref (aM g 8), .int (a 0 11), .int (a 0 12), .int (a 0 13), .int (a 0 14), .int (a 0 15), .int (a 0 16), .ref (aM g 9), .ref (aM g 10), .int (a 0 19), .ref (aM g 11), .int (a 0 21), .int (a 0 22), .ref (aM g 12), .ref (aM g 13), .int (a 0 25)] : List Value).set 12 (.int x))) = (sM g).2.2.2.1 (up a 0 12 x) := rfl
theorem pM0_13 (g : GM) (a : St) (x : Int32) : ((sM g).2.2.2.1 a).set 0 (aM g 0, .inr (6, ([.ref (aM g 1), .ref (aM g 2), .ref (aM g 3), .int (a 0 3), .ref (aM g 4), .int (a 0 5), .int (a 0 6), .ref (aM g 5), .ref (aM g 6), .ref (aM g 7), .ref (aM g 8), .int (a 0 11), .int (a 0 12), .int (a 0 13), .int (a 0 14), .int (a 0 15), .int (a 0 16), .ref (aM g 9), .ref (aM g 10), .int (a 0 19), .ref (aM g 11), .int (a 0 21), .int (a 0 22), .ref (aM g 12), .ref (aM g 13), .int (a 0 25)] : List Value).set 13 (.int x))) = (sM g).2.2.2.1 (up a 0 13 x) := rfl
theorem pM0_14 (g : GM) (a : St) (x : Int32) : ((sM g).2.2.2.1 a).set 0 (aM g 0, .inr (6, ([.ref (aM g 1), .ref (aM g 2), .ref (aM g 3), .int (a 0 3), .ref (aM g 4), .int (a 0 5), .int (a 0 6), .ref (aM g 5), .ref (aM g 6), .ref (aM g 7), .ref (aM g 8), .int (a 0 11), .int (a 0 12), .int (a 0 13), .int (a 0 14), .int (a 0 15), .int (a 0 16), .ref (aM g 9), .ref (aM g 10), .int (a 0 19), .ref (aM g 11), .int (a 0 21), .int (a 0 22), .ref (aM g 12), .ref (aM g 13), .int (a 0 25)] : List Value).set 14 (.int x))) = (sM g).2.2.2.1 (up a 0 14 x) := rfl
theorem pM0_15 (g : GM) (a : St) (x : Int32) : ((sM g).2.2.2.1 a).set 0 (aM g 0, .inr (6, ([.ref (aM g 1), .ref (aM g 2), .ref (aM g 3), .int (a 0 3), .ref (aM g 4), .int (a 0 5), .int (a 0 6), .ref (aM g 5), .ref (aM g 6), .ref (aM g 7), .ref (aM g 8), .int (a 0 11), .int (a 0 12), .int (a 0 13), .int (a 0 14), .int (a 0 15), .int (a 0 16), .ref (aM g 9), .ref (aM g 10), .int (a 0 19), .ref (aM g 11), .int (a 0 21), .int (a 0 22), .ref (aM g 12), .ref (aM g 13), .int (a 0 25)] : List Value).set 15 (.int x))) = (sM g).2.2.2.1 (up a 0 15 x) := rfl
theorem pM0_16 (g : GM) (a : St) (x : Int32) : ((sM g).2.2.2.1 a).set 0 (aM g 0, .inr (6, ([.ref (aM g 1), .ref (aM g 2), .ref (aM g 3), .int (a 0 3), .ref (aM g 4), .int (a 0 5), .int (a 0 6), .ref (aM g 5), .ref (aM g 6), .ref (aM g 7), .ref (aM g 8), .int (a 0 11), .int (a 0 12), .int (a 0 13), .int (a 0 14), .int (a 0 15), .int (a 0 16), .ref (aM g 9), .ref (aM g 10), .int (a 0 19), .ref (aM g 11), .int (a 0 21), .int (a 0 22), .ref (aM g 12), .ref (aM g 13), .int (a 0 25)] : List Value).set 16 (.int x))) = (sM g).2.2.2.1 (up a 0 16 x) := rfl
theorem pM0_19 (g : GM) (a : St) (x : Int32) : ((sM g).2.2.2.1 a).set 0 (aM g 0, .inr (6, ([.ref (aM g 1), .ref (aM g 2), .ref (aM g 3), .int (a 0 3), .ref (aM g 4), .int (a 0 5), .int (a 0 6), .ref (aM g 5), .ref (aM g 6), .ref (aM g 7), .ref (aM g 8), .int (a 0 11), .int (a 0 12), .int (a 0 13), .int (a 0 14), .int (a 0 15), .int (a 0 16), .ref (aM g 9), .ref (aM g 10), .int (a 0 19), .ref (aM g 11), .int (a 0 21), .int (a 0 22), .ref (aM g 12), .ref (aM g 13), .int (a 0 25)] : List Value).set 19 (.int x))) = (sM g).2.2.2.1 (up a 0 19 x) := rfl
theorem pM0_21 (g : GM) (a : St) (x : Int32) : ((sM g).2.2.2.1 a).set 0 (aM g 0, .inr (6, ([.ref (aM g 1), .ref (aM g 2), .ref (aM g 3), .int (a 0 3), .ref (aM g 4), .int (a 0 5), .int (a 0 6), .ref (aM g 5), .ref (aM g 6), .ref (aM g 7), .ref (aM g 8), .int (a 0 11), .int (a 0 12), .int (a 0 13), .int (a 0 14), .int (a 0 15), .int (a 0 16), .ref (aM g 9), .ref (aM g 10), .int (a 0 19), .ref (aM g 11), .int (a 0 21), .int (a 0 22), .ref (aM g 12), .ref (aM g 13), .int (a 0 25)] : List Value).set 21 (.int x))) = (sM g).2.2.2.1 (up a 0 21 x) := rfl
theorem pM0_22 (g : GM) (a : St) (x : Int32) : ((sM g).2.2.2.1 a).set 0 (aM g 0, .inr (6, ([.ref (aM g 1), .ref (aM g 2), .ref (aM g 3), .int (a 0 3), .ref (aM g 4), .int (a 0 5), .int (a 0 6), .ref (aM g 5), .ref (aM g 6), .ref (aM g 7), .ref (aM g 8), .int (a 0 11), .int (a 0 12), .int (a 0 13), .int (a 0 14), .int (a 0 15), .int (a 0 16), .ref (aM g 9), .ref (aM g 10), .int (a 0 19), .ref (aM g 11), .int (a 0 21), .int (a 0 22), .ref (aM g 12), .ref (aM g 13), .int (a 0 25)] : List Value).set 22 (.int x))) = (sM g).2.2.2.1 (up a 0 22 x) := rfl
theorem pM0_25 (g : GM) (a : St) (x : Int32) : ((sM g).2.2.2.1 a).set 0 (aM g 0, .inr (6, ([.ref (aM g 1), .ref (aM g 2), .ref (aM g 3), .int (a 0 3), .ref (aM g 4), .int (a 0 5), .int (a 0 6), .ref (aM g 5), .ref (aM g 6), .ref (aM g 7), .ref (aM g 8), .int (a 0 11), .int (a 0 12), .int (a 0 13), .int (a 0 14), .int (a 0 15), .int (a 0 16), .ref (aM g 9), .ref (aM g 10), .int (a 0 19), .ref (aM g 11), .int (a 0 21), .int (a 0 22), .ref (aM g 12), .ref (aM g 13), .int (a 0 25)] : List Value).set 25 (.int x))) = (sM g).2.2.2.1 (up a 0 25 x) := rfl
theorem wM1 (g : GM) (a : St) : ((sM g).2.2.2.1 a)[1]? = some (aM g 1, .inl (g.2.1, 51, .inl (a 1))) := rfl
theorem pM1 (g : GM) (a : St) (k : Nat) (x : Int32) : ((sM g).2.2.2.1 a).set 1 (aM g 1, .inl (g.2.1, 51, .inl (upd (a 1) k x))) = (sM g).2.2.2.1 (up a 1 k x) := rfl
theorem rM1 (g : GM) (a : St) (f : Nat → Int32) : ((sM g).2.2.2.1 a).set 1 (aM g 1, .inl (g.2.1, 51, .inl f)) = (sM g).2.2.2.1 (uprow a 1 f) := rfl
theorem wM2 (g : GM) (a : St) : ((sM g).2.2.2.1 a)[2]? = some (aM g 2, .inl (g.2.2.1, 2, .inl (a 2))) := rfl
theorem pM2 (g : GM) (a : St) (k : Nat) (x : Int32) : ((sM g).2.2.2.1 a).set 2 (aM g 2, .inl (g.2.2.1, 2, .inl (upd (a 2) k x))) = (sM g).2.2.2.1 (up a 2 k x) := rfl
theorem wM3 (g : GM) (a : St) : ((sM g).2.2.2.1 a)[3]? = some (aM g 3, .inl (g.2.1, 200, .inl (a 3))) := rfl
theorem pM3 (g : GM) (a : St) (k : Nat) (x : Int32) : ((sM g).2.2.2.1 a).set 3 (aM g 3, .inl (g.2.1, 200, .inl (upd (a 3) k x))) = (sM g).2.2.2.1 (up a 3 k x) := rfl
theorem rM3 (g : GM) (a : St) (f : Nat → Int32) : ((sM g).2.2.2.1 a).set 3 (aM g 3, .inl (g.2.1, 200, .inl f)) = (sM g).2.2.2.1 (uprow a 3 f) := rfl
theorem wM4 (g : GM) (a : St) : ((sM g).2.2.2.1 a)[4]? = some (aM g 4, .inl (g.2.1, 50, .inl (a 4))) := rfl
theorem pM4 (g : GM) (a : St) (k : Nat) (x : Int32) : ((sM g).2.2.2.1 a).set 4 (aM g 4, .inl (g.2.1, 50, .inl (upd (a 4) k x))) = (sM g).2.2.2.1 (up a 4 k x) := rfl
theorem rM4 (g : GM) (a : St) (f : Nat → Int32) : ((sM g).2.2.2.1 a).set 4 (aM g 4, .inl (g.2.1, 50, .inl f)) = (sM g).2.2.2.1 (uprow a 4 f) := rfl
theorem wM5 (g : GM) (a : St) : ((sM g).2.2.2.1 a)[5]? = some (aM g 5, .inl (g.2.1, 8, .inl (a 5))) := rfl
theorem pM5 (g : GM) (a : St) (k : Nat) (x : Int32) : ((sM g).2.2.2.1 a).set 5 (aM g 5, .inl (g.2.1, 8, .inl (upd (a 5) k x))) = (sM g).2.2.2.1 (up a 5 k x) := rfl
theorem rM5 (g : GM) (a : St) (f : Nat → Int32) : ((sM g).2.2.2.1 a).set 5 (aM g 5, .inl (g.2.1, 8, .inl f)) = (sM g).2.2.2.1 (uprow a 5 f) := rfl
theorem wM6 (g : GM) (a : St) : ((sM g).2.2.2.1 a)[6]? = some (aM g 6, .inl (g.2.1, 8, .inl (a 6))) := rfl
theorem pM6 (g : GM) (a : St) (k : Nat) (x : Int32) : ((sM g).2.2.2.1 a).set 6 (aM g 6, .inl (g.2.1, 8, .inl (upd (a 6) k x))) = (sM g).2.2.2.1 (up a 6 k x) := rfl
theorem rM6 (g : GM) (a : St) (f : Nat → Int32) : ((sM g).2.2.2.1 a).set 6 (aM g 6, .inl (g.2.1, 8, .inl f)) = (sM g).2.2.2.1 (uprow a 6 f) := rfl
theorem wM7 (g : GM) (a : St) : ((sM g).2.2.2.1 a)[7]? = some (aM g 7, .inl (g.2.1, 64, .inl (a 7))) := rfl
theorem pM7 (g : GM) (a : St) (k : Nat) (x : Int32) : ((sM g).2.2.2.1 a).set 7 (aM g 7, .inl (g.2.1, 64, .inl (upd (a 7) k x))) = (sM g).2.2.2.1 (up a 7 k x) := rfl
theorem rM7 (g : GM) (a : St) (f : Nat → Int32) : ((sM g).2.2.2.1 a).set 7 (aM g 7, .inl (g.2.1, 64, .inl f)) = (sM g).2.2.2.1 (uprow a 7 f) := rfl
theorem wM8 (g : GM) (a : St) : ((sM g).2.2.2.1 a)[8]? = some (aM g 8, .inl (g.2.1, 36, .inl (a 8))) := rfl
theorem pM8 (g : GM) (a : St) (k : Nat) (x : Int32) : ((sM g).2.2.2.1 a).set 8 (aM g 8, .inl (g.2.1, 36, .inl (upd (a 8) k x))) = (sM g).2.2.2.1 (up a 8 k x) := rfl
theorem rM8 (g : GM) (a : St) (f : Nat → Int32) : ((sM g).2.2.2.1 a).set 8 (aM g 8, .inl (g.2.1, 36, .inl f)) = (sM g).2.2.2.1 (uprow a 8 f) := rfl
theorem wM9 (g : GM) (a : St) : ((sM g).2.2.2.1 a)[9]? = some (aM g 9, .inl (g.2.1, 1600, .inl (a 9))) := rfl
theorem pM9 (g : GM) (a : St) (k : Nat) (x : Int32) : ((sM g).2.2.2.1 a).set 9 (aM g 9, .inl (g.2.1, 1600, .inl (upd (a 9) k x))) = (sM g).2.2.2.1 (up a 9 k x) := rfl
theorem rM9 (g : GM) (a : St) (f : Nat → Int32) : ((sM g).2.2.2.1 a).set 9 (aM g 9, .inl (g.2.1, 1600, .inl f)) = (sM g).2.2.2.1 (uprow a 9 f) := rfl
theorem wM10 (g : GM) (a : St) : ((sM g).2.2.2.1 a)[10]? = some (aM g 10, .inl (g.2.1, 24, .inl (a 10))) := rfl
theorem pM10 (g : GM) (a : St) (k : Nat) (x : Int32) : ((sM g).2.2.2.1 a).set 10 (aM g 10, .inl (g.2.1, 24, .inl (upd (a 10) k x))) = (sM g).2.2.2.1 (up a 10 k x) := rfl
theorem rM10 (g : GM) (a : St) (f : Nat → Int32) : ((sM g).2.2.2.1 a).set 10 (aM g 10, .inl (g.2.1, 24, .inl f)) = (sM g).2.2.2.1 (uprow a 10 f) := rfl
theorem wM11 (g : GM) (a : St) : ((sM g).2.2.2.1 a)[11]? = some (aM g 11, .inl (g.2.1, 8, .inl (a 11))) := rfl
theorem pM11 (g : GM) (a : St) (k : Nat) (x : Int32) : ((sM g).2.2.2.1 a).set 11 (aM g 11, .inl (g.2.1, 8, .inl (upd (a 11) k x))) = (sM g).2.2.2.1 (up a 11 k x) := rfl
theorem rM11 (g : GM) (a : St) (f : Nat → Int32) : ((sM g).2.2.2.1 a).set 11 (aM g 11, .inl (g.2.1, 8, .inl f)) = (sM g).2.2.2.1 (uprow a 11 f) := rfl
theorem wM12 (g : GM) (a : St) : ((sM g).2.2.2.1 a)[12]? = some (aM g 12, .inl (g.2.1, 256, .inl (a 12))) := rfl
theorem pM12 (g : GM) (a : St) (k : Nat) (x : Int32) : ((sM g).2.2.2.1 a).set 12 (aM g 12, .inl (g.2.1, 256, .inl (upd (a 12) k x))) = (sM g).2.2.2.1 (up a 12 k x) := rfl
theorem rM12 (g : GM) (a : St) (f : Nat → Int32) : ((sM g).2.2.2.1 a).set 12 (aM g 12, .inl (g.2.1, 256, .inl f)) = (sM g).2.2.2.1 (uprow a 12 f) := rfl
theorem wM13 (g : GM) (a : St) : ((sM g).2.2.2.1 a)[13]? = some (aM g 13, .inl (g.2.1, 24, .inl (a 13))) := rfl
theorem pM13 (g : GM) (a : St) (k : Nat) (x : Int32) : ((sM g).2.2.2.1 a).set 13 (aM g 13, .inl (g.2.1, 24, .inl (upd (a 13) k x))) = (sM g).2.2.2.1 (up a 13 k x) := rfl
theorem rM13 (g : GM) (a : St) (f : Nat → Int32) : ((sM g).2.2.2.1 a).set 13 (aM g 13, .inl (g.2.1, 24, .inl f)) = (sM g).2.2.2.1 (uprow a 13 f) := rfl
section XK
variable {K : CTX} {S : SID} {cc : ByteArray} {nL : Nat} {Ts : List Cond} {own : String} {R0 : Room} {a : St} {lvs : List (Nat × Value)} {pc : Nat} {st : List Value}
/-- one of two objects out of an array -/
theorem xv_aald2 (C : CC K S cc nL Ts own R0) {α : Type} {B1 B2 : Option α} {w : α} (q0 t0 : Nat) {adr q1 q2 : Nat} {cA : ClassId} {E : String} {n : Nat} (ha : (S.2.2.2.1 a)[q0]? = some (adr, .inl (cA, n, .inr (.inr (.inr (.inr (fun j => some (bif Nat.beq j 0 then q1 else q2)))))))) (ht : S.2.1[t0]? = some (cA, .object E)) {i : Int32} (hf : (if i < 0 ∨ n ≤ i.toNatClampNeg then none else if i.toNatClampNeg = 0 then B1 else B2) = some w) (hdg : decode cc pc = .ok (.aaload, 1)) (k1 : B1 = some w → V K S nL a lvs (pc + 1) (.ref q1 :: st)) (k2 : B2 = some w → V K S nL a lvs (pc + 1) (.ref q2 :: st)) : V K S nL a lvs pc (.int i :: .ref adr :: st) := by
  refine xv_aald C q0 t0 ha ht hf hdg (fun hf => ?_)
  by_cases h : i.toNatClampNeg = 0
  · have h1 := k1 (dt_pos h hf)
    rw [h]
    exact h1
  · have h1 := k2 (dt_neg h hf)
    have e : Nat.beq i.toNatClampNeg 0 = false := by
      cases hz : i.toNatClampNeg with
      | zero => exact absurd hz h
      | succ z => rfl
    rw [e]
    exact h1
theorem xv_ldcS (g : GX) (C : CC K (sX g) cc nL Ts "MirrorHour$Text" R0) (i : Nat) (hi : i < 21) {index : Nat} (hix : txI.getD i 0 = index) (hdg : decode cc pc = .ok (.ldc index, 2)) (kk : V K (sX g) nL a lvs (pc + 2) (.ref (kX g i) :: st)) : V K (sX g) nL a lvs pc st := by
  obtain ⟨p, l, e, R, s, m, args, below, meth, c, Q, kc, ks⟩ := K
  obtain ⟨hx, hb, hml, hts, hown, hlo, hK, hD, hE, hE0, hR⟩ := C
  subst hix
  exact fun H locs ls hP hS h9 => va_ldcS hx hb hown (hE0.2.2.1 i hi) hdg (kk H locs ls hP hS h9)
theorem xv_max (C : CC K S cc nL Ts own R0) {index : Nat} {x y : Int32} (hlink : Cond.methodLink own index Lib.Math.max.name ∈ Ts) (hstat : Cond.static Lib.Math.max.name ∈ Ts) (hini : Cond.initialized "java/lang/Math" ∈ Ts) (hcode : Cond.code Lib.Math.max.name Lib.Math.max.code 2 (some .int) ∈ Ts) (hfr : 1 ≤ R0.frames) (hlo : (st.map fun v => v.category).sum + 13 ≤ R0.locals) (hdg : decode cc pc = .ok (.invokestatic index, 3)) (kk : V K S nL a lvs (pc + 3) (.int (if x < y then y else x) :: st)) : V K S nL a lvs pc (.int y :: .int x :: st) := by
  obtain ⟨p, l, e, R, s, m, args, below, meth, c, Q, kc, ks⟩ := K
  obtain ⟨hx, hb, hml, hts, hown, hlk, hK, hD, hE, hE0, hR⟩ := C
  subst hR
  exact fun H locs ls hP hS h9 => va_mmax hx hb (by rw [hml]; exact h9.1.symm) hown (hts _ hlink) (hts _ hstat) (hts _ hini) (hts _ hcode) hfr hlo hlk.2.1 hlk.2.2 hdg (kk H locs ls hP hS h9)
theorem xr_VS (g : GX) {Ts : List Cond} (C : CC K (sX g) cc nL Ts own R0) {y : MethodName} {bytes : ByteArray} {maxL n index : Nat} {ret : Option FieldType} {ws ws' : List Cond} {rm : Room} {Qc : Array Value → State → Outcome → State → Prop} {stk : List Value} {i : Nat} {As : List Value} (hi : i < 21) (hM : ∀ l : Launch, Met l y ws rm (xPre (sX g) (.ref (kX g i) :: As) a) Qc 0 0 (sX g).2.2.1) (hG : GoodIn Ts (wsV own index "java/lang/String" y ws)) (hw : ws = Cond.code y bytes maxL ret :: ws') (hrm : rm.cells = 0 ∧ rm.slots = 0)
    (hd : y.cls = "java/lang/String" ∧ y.cls ≠ "java/lang/invoke/MethodHandle" ∧ y.cls ≠ "java/lang/invoke/VarHandle" ∧ (parseMethodDescriptor y.desc).map (fun d => d.parameters.length) = some n) (hR : rm.frames + 1 ≤ R0.frames ∧ 8 + (maxL + 11) + rm.locals ≤ R0.locals)
    (hn : As.length = n) (hst : stk = As.reverse ++ .ref (kX g i) :: st) (hcat : (st.map fun v => v.category).sum ≤ 8) (hdg : decode cc pc = .ok (.invokevirtual index, 3)) : XR K (sX g) nL a lvs pc stk st (Qc (Value.ref (kX g i) :: As).toArray) := by
  obtain ⟨p, l, e, R, s, m, args, below, meth, c, Q, kc, ks⟩ := K
  have C0 := C
  obtain ⟨hx, hb, hml, hts, hown, hlo, hK, hD, hE, hE0, hRR⟩ := C
  intro H locs ls hP hS h9
  subst hRR
  exact va_runV ⟨hx, hb, hml, hown, hts⟩ (hM l) (cwV n hts hG hw hrm.1 hrm.2 hd hR) ⟨xPre_blind hE _ _, vk_recv hE0.2.1 hi hS, xPre_at C0 hP hS _⟩ rfl hn h9.1 hst (lv_room hcat) hdg ⟨hlo.2.1, hlo.2.2⟩
end XK
