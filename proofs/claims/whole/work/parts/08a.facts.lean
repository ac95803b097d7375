/-! ===== the law's start: what the tables and the start give; both objects made; the loop ===== -/
def tmS (i : Nat) : Term := .string "MirrorHour$Text" (txI.getD i 0)
abbrev flN : List Cond := flatC (Jvm.Cond.and given_1 narrow_1)
set_option maxRecDepth 100000 in
theorem fs_len : ∀ i, i < 21 → txN.getD i 0 < 2 ^ 31 := by decide +kernel
set_option maxRecDepth 100000 in
theorem fs_ex : ∀ i, i < 21 → Cond.exactly (tmS i) "java/lang/String" ∈ flN := by decide +kernel
set_option maxRecDepth 100000 in
theorem fs_co : ∀ i, i < 21 → Cond.eq (.field (tmS i) "java/lang/String" "coder" "B") (.int 0) ∈ flN := by decide +kernel
set_option maxRecDepth 100000 in
theorem fs_ar : ∀ i, i < 21 → Cond.arrayOf (.field (tmS i) "java/lang/String" "value" "[B") .byte ∈ flN := by decide +kernel
set_option maxRecDepth 100000 in
theorem fs_le : ∀ i, i < 21 → Cond.eq (.length (.field (tmS i) "java/lang/String" "value" "[B")) (.int (Int32.ofNat (txN.getD i 0))) ∈ flN := by decide +kernel
set_option maxRecDepth 100000 in
theorem fs_el : ∀ i, i < 21 → ∀ j, j < txN.getD i 0 → Cond.eq (.elem (.field (tmS i) "java/lang/String" "value" "[B") (.int (Int32.ofNat j))) (.int ((txB.getD i []).getD j 0)) ∈ flN := by decide +kernel
def neP : List (Nat × Nat × Nat) := [(28, 0, 1), (39, 0, 2), (40, 1, 2), (50, 0, 3), (51, 1, 3), (52, 2, 3), (63, 0, 4), (64, 1, 4), (65, 2, 4), (66, 3, 4), (77, 0, 5), (78, 1, 5), (79, 2, 5), (80, 3, 5), (81, 4, 5), (89, 0, 6), (90, 1, 6), (91, 2, 6), (92, 3, 6), (93, 4, 6), (94, 5, 6), (104, 0, 7), (105, 1, 7), (106, 2, 7), (107, 3, 7), (108, 4, 7), (109, 5, 7), (110, 6, 7), (119, 0, 8), (120, 1, 8), (121, 2, 8), (122, 3, 8), (123, 4, 8), (124, 5, 8), (125, 6, 8), (126, 7, 8), (135, 0, 9), (136, 1, 9), (137, 2, 9), (138, 3, 9), (139, 4, 9), (140, 5, 9), (141, 6, 9), (142, 7, 9), (143, 8, 9), (152, 0, 10), (153, 1, 10), (154, 2, 10), (155, 3, 10), (156, 4, 10), (157, 5, 10), (158, 6, 10), (159, 7, 10), (160, 8, 10), (161, 9, 10), (172, 0, 11), (173, 1, 11), (174, 2, 11), (175, 3, 11), (176, 4, 11), (177, 5, 11), (178, 6, 11), (179, 7, 11), (180, 8, 11), (181, 9, 11), (182, 10, 11), (192, 0, 12), (193, 1, 12), (194, 2, 12), (195, 3, 12), (196, 4, 12), (197, 5, 12), (198, 6, 12), (199, 7, 12), (200, 8, 12), (201, 9, 12), (202, 10, 12), (203, 11, 12), (209, 0, 13), (210, 1, 13), (211, 2, 13), (212, 3, 13), (213, 4, 13), (214, 5, 13), (215, 6, 13), (216, 7, 13), (217, 8, 13), (218, 9, 13), (219, 10, 13), (220, 11, 13), (221, 12, 13), (228, 0, 14), (229, 1, 14), (230, 2, 14), (231, 3, 14), (232, 4, 14), (233, 5, 14), (234, 6, 14), (235, 7, 14), (236, 8, 14), (237, 9, 14), (238, 10, 14), (239, 11, 14), (240, 12, 14), (241, 13, 14), (247, 0, 15), (248, 1, 15), (249, 2, 15), (250, 3, 15), (251, 4, 15), (252, 5, 15), (253, 6, 15), (254, 7, 15), (255, 8, 15), (256, 9, 15), (257, 10, 15), (258, 11, 15), (259, 12, 15), (260, 13, 15), (261, 14, 15), (268, 0, 16), (269, 1, 16), (270, 2, 16), (271, 3, 16), (272, 4, 16), (273, 5, 16), (274, 6, 16), (275, 7, 16), (276, 8, 16), (277, 9, 16), (278, 10, 16), (279, 11, 16), (280, 12, 16), (281, 13, 16), (282, 14, 16), (283, 15, 16), (290, 0, 17), (291, 1, 17), (292, 2, 17), (293, 3, 17), (294, 4, 17), (295, 5, 17), (296, 6, 17), (297, 7, 17), (298, 8, 17), (299, 9, 17), (300, 10, 17), (301, 11, 17), (302, 12, 17), (303, 13, 17), (304, 14, 17), (305, 15, 17), (306, 16, 17), (314, 0, 18), (315, 1, 18), (316, 2, 18), (317, 3, 18), (318, 4, 18), (319, 5, 18), (320, 6, 18), (321, 7, 18), (322, 8, 18), (323, 9, 18), (324, 10, 18), (325, 11, 18), (326, 12, 18), (327, 13, 18), (328, 14, 18), (329, 15, 18), (330, 16, 18), (331, 17, 18), (337, 0, 19), (338, 1, 19), (339, 2, 19), (340, 3, 19), (341, 4, 19), (342, 5, 19), (343, 6, 19), (344, 7, 19), (345, 8, 19), (346, 9, 19), (347, 10, 19), (348, 11, 19), (349, 12, 19), (350, 13, 19), (351, 14, 19), (352, 15, 19), (353, 16, 19), (354, 17, 19), (355, 18, 19), (364, 0, 20), (365, 1, 20), (366, 2, 20), (367, 3, 20), (368, 4, 20), (369, 5, 20), (370, 6, 20), (371, 7, 20), (372, 8, 20), (373, 9, 20), (374, 10, 20), (375, 11, 20), (376, 12, 20), (377, 13, 20), (378, 14, 20), (379, 15, 20), (380, 16, 20), (381, 17, 20), (382, 18, 20), (383, 19, 20)]
set_option maxRecDepth 100000 in
theorem neP_at : ∀ q ∈ neP, flN[q.1]? = some (Cond.not (Cond.eq (tmS q.2.1) (tmS q.2.2))) := by decide +kernel
set_option maxRecDepth 100000 in
theorem neP_all : ∀ i, i < 21 → ∀ j, j < 21 → i ≠ j → (neP.any (fun q => q.2.1 == i && q.2.2 == j) || neP.any (fun q => q.2.1 == j && q.2.2 == i)) = true := by decide +kernel
theorem neP_get {i j : Nat} (h : neP.any (fun q => q.2.1 == i && q.2.2 == j) = true) : Cond.not (Cond.eq (tmS i) (tmS j)) ∈ flN := by
  obtain ⟨q, hq, h2⟩ := List.any_eq_true.mp h
  simp only [Bool.and_eq_true, beq_iff_eq] at h2
  have h3 := neP_at q hq
  rw [h2.1, h2.2] at h3
  exact List.mem_of_getElem? h3
theorem fs_ne : ∀ i, i < 21 → ∀ j, j < 21 → i ≠ j → Cond.not (Cond.eq (tmS i) (tmS j)) ∈ flN ∨ Cond.not (Cond.eq (tmS j) (tmS i)) ∈ flN := by
  intro i hi j hj hij
  have h := neP_all i hi j hj hij
  rw [Bool.or_eq_true] at h
  exact h.elim (fun h => Or.inl (neP_get h)) (fun h => Or.inr (neP_get h))
set_option maxRecDepth 100000 in
theorem fs_ref : ∀ i, i < 21 → Cond.stringRef "MirrorHour$Text" (txI.getD i 0) (txS.getD i "") ∈ lw_tbl := by decide +kernel
set_option maxRecDepth 100000 in
theorem fs_nest : ∀ w ∈ nsW, w ∈ lw_tbl := by decide +kernel
set_option maxRecDepth 100000 in
theorem fs_cs : Cond.eq (.static "java/lang/String" "COMPACT_STRINGS" "Z") (.int 1) ∈ flN ∧ Cond.laysStatic "java/lang/String" "COMPACT_STRINGS" "Z" ∈ lw_tbl ∧ Cond.initialized "java/lang/String" ∈ lw_tbl := by decide +kernel
set_option maxRecDepth 100000 in
theorem fs_sf : Cond.isRef (.static "jdk/internal/util/Preconditions" "SIOOBE_FORMATTER" "Ljava/util/function/BiFunction;") ∈ flN ∧ Cond.laysStatic "jdk/internal/util/Preconditions" "SIOOBE_FORMATTER" "Ljava/util/function/BiFunction;" ∈ lw_tbl ∧ Cond.initialized "jdk/internal/util/Preconditions" ∈ lw_tbl := by decide +kernel
set_option maxRecDepth 100000 in
theorem fs_cl : Cond.arrayClass .int ∈ lw_tbl ∧ Cond.arrayClass .boolean ∈ lw_tbl ∧ Cond.arrayOver (.object "MirrorHour$Image") ∈ lw_tbl := by decide +kernel
set_option maxRecDepth 100000 in
theorem fs_in : (Cond.instantiable RX0 4 ∈ lw_tbl ∧ Cond.instantiable RX1 2 ∈ lw_tbl ∧ Cond.instantiable RX2 9 ∈ lw_tbl ∧ Cond.instantiable RX3 4 ∈ lw_tbl) ∧ Cond.instantiable RX4 12 ∈ lw_tbl ∧ Cond.instantiable RX5 13 ∈ lw_tbl ∧ Cond.instantiable RX6 26 ∈ lw_tbl := by decide +kernel
set_option maxRecDepth 100000 in
theorem fs_law : (Cond.classLink RL 7 RX5 ∈ lw_tbl ∧ Cond.classLink RL 10 RX6 ∈ lw_tbl ∧ Cond.initialized RX5 ∈ lw_tbl ∧ Cond.initialized RX6 ∈ lw_tbl) ∧ Cond.methodLink RL 9 yX5_init ∈ lw_tbl ∧ Cond.methodLink RL 12 yX6_init ∈ lw_tbl ∧ Cond.instanceMethod yX5_init ∈ lw_tbl ∧ Cond.instanceMethod yX6_init ∈ lw_tbl := by decide +kernel
