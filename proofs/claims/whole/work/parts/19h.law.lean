/-! printed by gen/g19h.py: the law's own code and its cuts -/
def lw_cx : List ox_I := [(0, .new 8, 3, [13, 153, 154, 125]), (3, .dup, 1, []), (4, .invokespecial 20, 3, [1, 1, 94, 155, 156, 125]), (7, .astore_n 1, 1, []), (8, .new 21, 3, [14, 1203, 1204, 136]), (11, .dup, 1, []), (12, .invokespecial 23, 3, [1, 1, 126, 1205, 1206, 136]), (15, .astore_n 2, 1, []), (16, .iconst 1, 1, []), (17, .newarray .long, 2, [16, 257]), (19, .astore_n 3, 1, []), (20, .iconst 0, 1, []), (21, .istore 4, 2, []), (23, .iload 4, 2, []), (25, .aload_n 0, 1, []), (26, .arraylength, 1, []), (27, .iconst 4, 1, []), (28, .isub, 1, []), (29, .if_icmp .gt 405, 3, []), (32, .aload_n 0, 1, []), (33, .iload 4, 2, []), (35, .iaload, 1, []), (36, .bipush 15, 2, []), (38, .iand, 1, []), (39, .tableswitch 389 0 9 #[53, 90, 114, 127, 183, 196, 221, 246, 283, 320], 53, []), (92, .aload_n 1, 1, []), (93, .aload_n 0, 1, []), (94, .iload 4, 2, []), (96, .iconst 1, 1, []), (97, .iadd, 1, []), (98, .iaload, 1, []), (99, .aload_n 0, 1, []), (100, .iload 4, 2, []), (102, .iconst 2, 1, []), (103, .iadd, 1, []), (104, .iaload, 1, []), (105, .invokevirtual 24, 3, [2, 3, 95, 13, 427, 428, 429, 125]), (108, .aload_n 2, 1, []), (109, .aload_n 0, 1, []), (110, .iload 4, 2, []), (112, .iconst 1, 1, []), (113, .iadd, 1, []), (114, .iaload, 1, []), (115, .aload_n 0, 1, []), (116, .iload 4, 2, []), (118, .iconst 2, 1, []), (119, .iadd, 1, []), (120, .iaload, 1, []), (121, .invokevirtual 28, 3, [2, 3, 128, 14, 1435, 1436, 1437, 136]), (124, .if_icmp .eq 304, 3, []), (127, .iconst 0, 1, []), (128, .ireturn, 1, []), (129, .aload_n 1, 1, []), (130, .invokestatic 29, 3, [0, 1, 236, 0, 0, 0]), (133, .istore 5, 2, []), (135, .aload_n 2, 1, []), (136, .invokevirtual 34, 3, [2, 1, 161, 14, 1439, 1440, 1441, 136]), (139, .aload_n 2, 1, []), (140, .invokevirtual 35, 3, [2, 1, 127, 14, 1431, 1432, 1433, 136]), (143, .iload 5, 2, []), (145, .if_icmp .eq 5, 3, []), (148, .iconst 0, 1, []), (149, .ireturn, 1, []), (150, .goto 278, 3, []), (153, .aload_n 1, 1, []), (154, .invokevirtual 39, 3, [2, 1, 97, 13, 431, 432, 433, 125]), (157, .aload_n 2, 1, []), (158, .invokevirtual 42, 3, [2, 1, 162, 14, 1565, 1566, 1567, 136]), (161, .if_icmp .eq 267, 3, []), (164, .iconst 0, 1, []), (165, .ireturn, 1, []), (166, .aload_n 1, 1, []), (167, .aload_n 0, 1, []), (168, .iload 4, 2, []), (170, .iconst 1, 1, []), (171, .iadd, 1, []), (172, .iaload, 1, []), (173, .aload_n 3, 1, []), (174, .invokestatic 43, 3, [0, 3, 237, 0, 0, 0]), (177, .istore 5, 2, []), (179, .aload_n 2, 1, []), (180, .aload_n 0, 1, []), (181, .iload 4, 2, []), (183, .iconst 1, 1, []), (184, .iadd, 1, []), (185, .iaload, 1, []), (186, .invokevirtual 46, 3, [2, 2, 204, 14, 1573, 1574, 1575, 136]), (189, .istore 6, 2, []), (191, .aload_n 2, 1, []), (192, .invokevirtual 35, 3, [2, 1, 127, 14, 1431, 1432, 1433, 136]), (195, .iload 5, 2, []), (197, .if_icmp .eq 5, 3, []), (200, .iconst 0, 1, []), (201, .ireturn, 1, []), (202, .iload 5, 2, []), (204, .ifCond .ne 15, 3, []), (207, .aload_n 3, 1, []), (208, .iconst 0, 1, []), (209, .laload, 1, []), (210, .iload 6, 2, []), (212, .i2l, 1, []), (213, .lcmp, 1, []), (214, .ifCond .eq 5, 3, []), (217, .iconst 0, 1, []), (218, .ireturn, 1, []), (219, .goto 209, 3, []), (222, .aload_n 1, 1, []), (223, .invokevirtual 47, 3, [2, 1, 99, 13, 435, 436, 437, 125]), (226, .aload_n 2, 1, []), (227, .invokevirtual 51, 3, [2, 1, 173, 14, 1569, 1570, 1571, 136]), (230, .if_icmp .eq 198, 3, []), (233, .iconst 0, 1, []), (234, .ireturn, 1, []), (235, .aload_n 1, 1, []), (236, .aload_n 0, 1, []), (237, .iload 4, 2, []), (239, .iconst 1, 1, []), (240, .iadd, 1, []), (241, .iaload, 1, []), (242, .invokevirtual 52, 3, [2, 2, 100, 13, 447, 448, 449, 125]), (245, .aload_n 2, 1, []), (246, .aload_n 0, 1, []), (247, .iload 4, 2, []), (249, .iconst 1, 1, []), (250, .iadd, 1, []), (251, .iaload, 1, []), (252, .invokevirtual 55, 3, [2, 2, 205, 14, 1743, 1744, 1745, 136]), (255, .if_icmp .eq 173, 3, []), (258, .iconst 0, 1, []), (259, .ireturn, 1, []), (260, .aload_n 1, 1, []), (261, .aload_n 0, 1, []), (262, .iload 4, 2, []), (264, .iconst 1, 1, []), (265, .iadd, 1, []), (266, .iaload, 1, []), (267, .invokevirtual 56, 3, [2, 2, 101, 13, 459, 460, 461, 125]), (270, .aload_n 2, 1, []), (271, .aload_n 0, 1, []), (272, .iload 4, 2, []), (274, .iconst 1, 1, []), (275, .iadd, 1, []), (276, .iaload, 1, []), (277, .invokevirtual 59, 3, [2, 2, 208, 14, 1747, 1748, 1749, 136]), (280, .if_icmp .eq 148, 3, []), (283, .iconst 0, 1, []), (284, .ireturn, 1, []), (285, .aload_n 1, 1, []), (286, .aload_n 0, 1, []), (287, .iload 4, 2, []), (289, .iconst 1, 1, []), (290, .iadd, 1, []), (291, .iaload, 1, []), (292, .aload_n 0, 1, []), (293, .iload 4, 2, []), (295, .iconst 2, 1, []), (296, .iadd, 1, []), (297, .iaload, 1, []), (298, .invokevirtual 60, 3, [2, 3, 102, 13, 482, 483, 484, 125]), (301, .aload_n 2, 1, []), (302, .aload_n 0, 1, []), (303, .iload 4, 2, []), (305, .iconst 1, 1, []), (306, .iadd, 1, []), (307, .iaload, 1, []), (308, .aload_n 0, 1, []), (309, .iload 4, 2, []), (311, .iconst 2, 1, []), (312, .iadd, 1, []), (313, .iaload, 1, []), (314, .invokevirtual 63, 3, [2, 3, 209, 14, 1759, 1760, 1761, 136]), (317, .if_icmp .eq 111, 3, []), (320, .iconst 0, 1, []), (321, .ireturn, 1, []), (322, .aload_n 1, 1, []), (323, .aload_n 0, 1, []), (324, .iload 4, 2, []), (326, .iconst 1, 1, []), (327, .iadd, 1, []), (328, .iaload, 1, []), (329, .aload_n 0, 1, []), (330, .iload 4, 2, []), (332, .iconst 2, 1, []), (333, .iadd, 1, []), (334, .iaload, 1, []), (335, .invokevirtual 64, 3, [2, 3, 103, 13, 490, 491, 492, 125]), (338, .aload_n 2, 1, []), (339, .aload_n 0, 1, []), (340, .iload 4, 2, []), (342, .iconst 1, 1, []), (343, .iadd, 1, []), (344, .iaload, 1, []), (345, .aload_n 0, 1, []), (346, .iload 4, 2, []), (348, .iconst 2, 1, []), (349, .iadd, 1, []), (350, .iaload, 1, []), (351, .invokevirtual 67, 3, [2, 3, 210, 14, 1763, 1764, 1765, 136]), (354, .if_icmp .eq 74, 3, []), (357, .iconst 0, 1, []), (358, .ireturn, 1, []), (359, .aload_n 1, 1, []), (360, .aload_n 0, 1, []), (361, .iload 4, 2, []), (363, .iconst 1, 1, []), (364, .iadd, 1, []), (365, .iaload, 1, []), (366, .i2l, 1, []), (367, .bipush 32, 2, []), (369, .lshl, 1, []), (370, .aload_n 0, 1, []), (371, .iload 4, 2, []), (373, .iconst 2, 1, []), (374, .iadd, 1, []), (375, .iaload, 1, []), (376, .i2l, 1, []), (377, .ldc2_w 68, 3, [1772, 4294967295]), (380, .land, 1, []), (381, .lor, 1, []), (382, .aload_n 0, 1, []), (383, .iload 4, 2, []), (385, .iconst 3, 1, []), (386, .iadd, 1, []), (387, .iaload, 1, []), (388, .invokevirtual 70, 3, [2, 3, 104, 13, 498, 499, 500, 125]), (391, .aload_n 2, 1, []), (392, .aload_n 0, 1, []), (393, .iload 4, 2, []), (395, .iconst 1, 1, []), (396, .iadd, 1, []), (397, .iaload, 1, []), (398, .i2l, 1, []), (399, .bipush 32, 2, []), (401, .lshl, 1, []), (402, .aload_n 0, 1, []), (403, .iload 4, 2, []), (405, .iconst 2, 1, []), (406, .iadd, 1, []), (407, .iaload, 1, []), (408, .i2l, 1, []), (409, .ldc2_w 68, 3, [1772, 4294967295]), (412, .land, 1, []), (413, .lor, 1, []), (414, .aload_n 0, 1, []), (415, .iload 4, 2, []), (417, .iconst 3, 1, []), (418, .iadd, 1, []), (419, .iaload, 1, []), (420, .invokevirtual 74, 3, [2, 3, 211, 14, 1767, 1768, 1769, 136]), (423, .if_icmp .eq 5, 3, []), (426, .iconst 0, 1, []), (427, .ireturn, 1, []), (428, .iinc 4 4, 3, []), (431, .goto (-408), 3, []), (434, .iconst 1, 1, []), (435, .ireturn, 1, [])]
def lw_cut : List (Nat × List Nat) := [(7, []), (15, []), (23, [5, 6]), (108, []), (124, []), (133, []), (139, []), (143, []), (157, []), (161, []), (177, []), (189, []), (195, []), (226, []), (230, []), (245, []), (255, []), (270, []), (280, []), (301, []), (317, []), (338, []), (354, []), (391, []), (423, [])]
/-! the law's own walk: its read and run are calls that catch -/
/-- law.read: OpcodeFrames.read's own end, or the number of what it throws -/
def lw_C236 (M : ox_E) (as : List ox_V) (mc ms : Nat) (S : ox_St) (Q : ox_Q) : Prop := ∃ x, as = [.inr (.inr x)] ∧ S.K x = 13 ∧ oz_seg M oz_c96 [22, 39, 57] (oz_k96 (fun r S' => r = none ∧ Q (some (.inl 0)) S') (fun E S' => (E = oz_IA ∧ Q (some (.inl 1)) S') ∨ (E = oz_IS ∧ Q (some (.inl 2)) S'))) 30 0 (ox_loc 2 [.inr (.inr x)]) [] S mc ms
def lw_C237 (M : ox_E) (as : List ox_V) (mc ms : Nat) (S : ox_St) (Q : ox_Q) : Prop := ∃ x v o n, as = [.inr (.inr x), .inl v, .inr (.inr o)] ∧ S.K x = 13 ∧ oz_seg M oz_c98 [11, 33, 45, 89] (oz_L98 M (fun r S' => ∃ w, r = some (.inl w) ∧ S'.K o = 16 ∧ 0 < S'.len o ∧ Q (some (.inl 0)) (S'.wJ o 0 w.toInt64)) (fun E S' => (E = oz_IS ∧ Q (some (.inl 1)) S') ∨ (E = oz_IA ∧ Q (some (.inl 2)) S')) n) 30 0 (ox_loc 4 [.inr (.inr x), .inl v]) [] S mc ms
def lw_E (M : ox_E) : ox_E := fun j as mc ms S Q => (j = 236 ∧ lw_C236 M as mc ms S Q) ∨ (j = 237 ∧ lw_C237 M as mc ms S Q) ∨ (j ≠ 236 ∧ j ≠ 237 ∧ M j as mc ms S Q)
theorem oz_seg_m {E : ox_E} (hE : ox_mono E) {code : List ox_I} {stop : List Nat} {k k' : ox_K} (hk : ∀ pc L st S mr sr, k pc L st S mr sr → k' pc L st S mr sr) : ∀ (n pc : Nat) (L : ox_L) (st : List ox_V) (S : ox_St) (mr sr : Nat), oz_seg E code stop k n pc L st S mr sr → oz_seg E code stop k' n pc L st S mr sr := by
  intro n
  induction n with
  | zero => intro pc L st S mr sr h; exact h
  | succ n ih =>
    intro pc L st S mr sr h
    unfold oz_seg at h ⊢
    split at h
    · rename_i q hq
      refine ox_step_m hE (fun pc L st S mr sr hz => ?_) (fun v S hz => hz) _ h
      unfold oz_at at hz ⊢
      split at hz
      · exact hk _ _ _ _ _ _ hz
      · exact ih _ _ _ _ _ _ hz
    · exact h
theorem oz_L98_m {E : ox_E} (hE : ox_mono E) {Q Q' : ox_Q} {QX QX' : String → ox_St → Prop} (hk : ∀ pc L st S mr sr, oz_k98 Q QX pc L st S mr sr → oz_k98 Q' QX' pc L st S mr sr) : ∀ n pc L st S mr sr, oz_L98 E Q QX n pc L st S mr sr → oz_L98 E Q' QX' n pc L st S mr sr := by
  intro n
  induction n with
  | zero => exact hk
  | succ n ih =>
    intro pc L st S mr sr h
    exact h.imp (hk _ _ _ _ _ _) (fun z => ⟨z.1, oz_seg_m hE ih _ _ _ _ _ _ _ z.2⟩)
theorem lw_E_mono {M : ox_E} (hM : ox_mono M) : ox_mono (lw_E M) := by
  intro j as mc ms S Q Q' hQ h
  rcases h with ⟨rfl, x, h1, h2, h3⟩ | ⟨rfl, x, v, o, n, h1, h2, h3⟩ | ⟨h1, h2, h3⟩
  · refine Or.inl ⟨rfl, x, h1, h2, oz_seg_m hM (fun pc L st S mr sr hk => ?_) _ _ _ _ _ _ _ h3⟩
    obtain ⟨e1, ⟨e2, a, b, hk⟩ | ⟨e2, a, b, hk⟩ | ⟨e2, e3, hk⟩⟩ := hk
    · exact ⟨e1, Or.inl ⟨e2, a, b, fun n' hn => (hk n' hn).imp (fun z => ⟨z.1, hQ _ _ z.2⟩) (fun z => ⟨z.1, hQ _ _ z.2⟩)⟩⟩
    · exact ⟨e1, Or.inr (Or.inl ⟨e2, a, b, fun n' hn => (hk n' hn).imp (fun z => ⟨z.1, hQ _ _ z.2⟩) (fun z => ⟨z.1, hQ _ _ z.2⟩)⟩)⟩
    · exact ⟨e1, Or.inr (Or.inr ⟨e2, e3, hQ _ _ hk⟩)⟩
  · refine Or.inr (Or.inl ⟨rfl, x, v, o, n, h1, h2, oz_seg_m hM (oz_L98_m hM (fun pc L st S mr sr hk => ?_) n) _ _ _ _ _ _ _ h3⟩)
    obtain ⟨e2, e1, a, b, hk⟩ | ⟨e2, e1, a, b, hk⟩ | ⟨e2, w, e3, w', e4, e5, e6, hk⟩ := hk
    · exact Or.inl ⟨e2, e1, a, b, fun n' hn => (hk n' hn).imp (fun z => ⟨z.1, hQ _ _ z.2⟩) (fun z => ⟨z.1, hQ _ _ z.2⟩)⟩
    · exact Or.inr (Or.inl ⟨e2, e1, a, b, fun n' hn => (hk n' hn).imp (fun z => ⟨z.1, hQ _ _ z.2⟩) (fun z => ⟨z.1, hQ _ _ z.2⟩)⟩)
    · exact Or.inr (Or.inr ⟨e2, w, e3, w', e4, e5, e6, hQ _ _ hk⟩)
  · exact Or.inr (Or.inr ⟨h1, h2, hM _ _ _ _ _ _ _ hQ h3⟩)
/-- payloads that call neither -/
def lw_okp (ps : List Nat) : Bool := match ps with
  | 4 :: _ => false
  | _ :: _ :: j :: _ => !(j == 236) && !(j == 237)
  | _ => true
theorem lw_cv_s {E E' : ox_E} {j : Nat} {as rest : List ox_V} {S : ox_St} {mr sr : Nat} {k : List ox_V → ox_St → Nat → Nat → Prop} (hE : ∀ as mc ms S Q, E j as mc ms S Q → E' j as mc ms S Q) (h : ox_cv E j as rest S mr sr k) : ox_cv E' j as rest S mr sr k := by
  obtain ⟨h1, mc, ms, g1, g2, g3⟩ := h
  exact ⟨h1, mc, ms, g1, g2, hE _ _ _ _ _ g3⟩
theorem lw_okp3 {a n j : Nat} {t : List Nat} (h : lw_okp (a :: n :: j :: t) = true) : j ≠ 236 ∧ j ≠ 237 := by
  unfold lw_okp at h
  split at h
  · cases h
  · rename_i e1 e2
    cases e2
    simpa using h
  · rename_i e1 e2
    exact absurd rfl (e2 _ _ _ _)
theorem lw_inv_s {E E' : ox_E} (hE : ∀ j, j ≠ 236 → j ≠ 237 → ∀ as mc ms S Q, E j as mc ms S Q → E' j as mc ms S Q) {ps : List Nat} {st : List ox_V} {S : ox_St} {mr sr : Nat} {k : List ox_V → ox_St → Nat → Nat → Prop} (hp : lw_okp ps = true) (h : ox_inv E ps st S mr sr k) : ox_inv E' ps st S mr sr k := by
  unfold ox_inv at h
  split at h
  · exact ⟨h.1, lw_cv_s (hE _ (lw_okp3 hp).1 (lw_okp3 hp).2) h.2⟩
  · exact ⟨h.1, h.2.1, lw_cv_s (hE _ (lw_okp3 hp).1 (lw_okp3 hp).2) h.2.2⟩
  · exact ⟨h.1, h.2.1, lw_cv_s (hE _ (lw_okp3 hp).1 (lw_okp3 hp).2) h.2.2⟩
  · exact ⟨h.1, h.2.1, lw_cv_s (hE _ (lw_okp3 hp).1 (lw_okp3 hp).2) h.2.2⟩
  · cases hp
  · exact h
  · exact h
  · exact h
  · exact h
  · exact h
  · exact h.elim
theorem lw_step_s {E E' : ox_E} (hE : ∀ j, j ≠ 236 → j ≠ 237 → ∀ as mc ms S Q, E j as mc ms S Q → E' j as mc ms S Q) {rt : Option FieldType} {i : ClassFile.Instr} {ps : List Nat} {pc : Nat} {L : ox_L} {st : List ox_V} {S : ox_St} {mr sr : Nat} {k : ox_K} {r : ox_Q} (hp : lw_okp ps = true) (h : ox_step E rt i ps pc L st S mr sr k r) : ox_step E' rt i ps pc L st S mr sr k r := by
  cases i <;> first | exact h | exact lw_inv_s hE hp h
def lw_vL (q : ox_I) : Bool := q.1 == 130 || q.1 == 174 || (ox_vL "OpcodeFramesLaw" false 7 code q && lw_okp q.2.2.2)
set_option maxRecDepth 100000 in
set_option maxHeartbeats 4000000 in
theorem lw_cx_ok : lw_cx.all lw_vL = true := by decide +kernel
theorem lw_goodIn {own : String} {ix : Nat} {y : MethodName} {w : Cond} (h1 : Cond.methodLink own ix y ∈ ox_T0) (h2 : Cond.static y ∈ ox_T0) (h3 : Cond.initialized y.cls ∈ ox_T0) (h4 : w ∈ ox_T0) : GoodIn ox_T0 (va_wsS own ix y (w :: ox_T0)) := by
  have good : ∀ w ∈ ox_T0, w ∈ ox_T0 ∧ ((w.onTables && w.keeps) = true ∨ ∃ ty, w = .arrayClass ty) := fun w hw => ⟨hw, good_of_word (List.mem_filter.mp hw).2⟩
  intro w hw
  unfold va_wsS at hw
  rcases List.mem_append.mp hw with h | h
  · rcases List.mem_cons.mp h with rfl | h
    · exact good _ h1
    · rcases List.mem_cons.mp h with rfl | h
      · exact good _ h2
      · rcases List.mem_cons.mp h with rfl | h
        · exact good _ h3
        · cases h
  · rcases List.mem_cons.mp h with rfl | h
    · exact good _ h4
    · exact good _ h
section OZX
variable {p : Program} {l : Launch} {e : Env} {R : Room} {s : State} {m : MethodId} {args : Array Value} {below : List Frame} {meth : Method} {c : Code} {Q : State → Prop} {D : va_G} {y : Nat → ClassId} {b nL : Nat} {ro : ox_St} {cc : ByteArray}
variable {pc mr sr : Nat} {L : ox_L} {st : List ox_V} {S : ox_St} {own : String} {d : Nat}
/-- a call of a static method of the law that catches -/
theorem oz_invS {rt : Option FieldType} (C : oz_Cx D y b ro p s m args meth c nL cc rt own) (hN : oz_N s) (hR : ox_Rd R d) {ix n maxL : Nat} {yy : MethodName} {bytes : ByteArray} {hh : List (Nat × Nat × Nat × Nat)} {ret : Option FieldType} (hin : GoodIn ox_T0 (va_wsS own ix yy (.codeWith yy bytes maxL ret hh :: ox_T0))) (hd0 : yy.cls ≠ "java/lang/invoke/MethodHandle" ∧ yy.cls ≠ "java/lang/invoke/VarHandle" ∧ (parseMethodDescriptor yy.desc).map (fun d => d.parameters.length) = some n) (hmx : maxL ≤ 45)
    (hd : decode cc pc = .ok (.invokestatic ix, 3)) (hn : n ≤ st.length) (hc : ((st.drop n).map ox_cat).sum ≤ 8) {mc ms : Nat} (g1 : mc ≤ mr) (g2 : ms ≤ sr) {Qq : ox_Q}
    (hM : Met l yy (.codeWith yy bytes maxL ret hh :: ox_T0) (ox_rm d mc ms) (oz_Pl D y b ro (st.take n).reverse S) (ox_Qc D y b ro Qq) mc ms (fun q => b ≤ q))
    (K1 : ∀ r S', Qq r S' → ox_X p l e R s m args below meth c Q D y b ro nL (pc + 3) L (r.toList ++ st.drop n) S' (mr - mc) (sr - ms)) : ox_X p l e R s m args below meth c Q D y b ro nL pc L st S mr sr := by
  obtain ⟨hx, hb, hml, hr, hlocks, hown, hts, hK, hZ⟩ := C
  intro H locs cells slots ls hW hS hl h1 h2
  have hrun := vx_runSW (l := l) (e := e) (below := below) (R := R) (H := H) (locs := locs) (cells := cells) (slots := slots) (g := F0 m pc ls (st.map ox_val)) (As := (st.take n).reverse.map ox_val) (rest := (st.drop n).map ox_val) (p := p) (m := m) (c := c) (cc := cc) (nL := nL) (s := s) (args := args) (own := own) (meth := meth) ⟨hx, hb, hml, hown, hts⟩ hM (vx_cwSW n hts hin rfl rfl rfl hd0 ⟨hR.1, by show 8 + (maxL + 11) + 64 * d ≤ R.locals; have := hR.2; omega⟩) ⟨oz_lblind, fun U hU hWm => ⟨⟨⟨rfl, by rw [hU]; exact hW, hK.next hWm (fun q h1 h2 => by rw [hU]; exact hS.2.1 q h1 h2)⟩, hZ.next hWm (fun q h1 h2 => by rw [hU]; exact hS.2.1 q h1 h2)⟩, va_Nc.moved hWm.alike hN.1, va_Nc.moved hWm.alike hN.2⟩⟩ rfl (by rw [List.length_map, List.length_reverse, List.length_take]; omega) hl.1 (ox_split st) (ox_room hc _ rfl) hd ⟨by omega, by omega⟩
  refine ox_callK hrun hS (fun r S' H1 locs1 hq hW1 hS1 => ?_)
  have h3 := K1 r S' hq H1 locs1 (cells + mc) (slots + ms) ls hW1 hS1 hl (by omega) (by omega)
  rw [List.map_append] at h3
  have e1 : (r.map ox_val).toList = r.toList.map ox_val := by cases r <;> rfl
  rw [e1]
  exact h3
end OZX
theorem lw_w1 : Cond.methodLink "OpcodeFramesLaw" 29 oz_yR ∈ ox_T0 := oz_in_c (by decide +kernel)
theorem lw_w2 : Cond.static oz_yR ∈ ox_T0 := oz_in_c (by decide +kernel)
theorem lw_w3 : Cond.initialized "OpcodeFramesLaw" ∈ ox_T0 := oz_in_c (by decide +kernel)
theorem lw_w4 : Cond.methodLink "OpcodeFramesLaw" 43 oz_yU ∈ ox_T0 := oz_in_c (by decide +kernel)
theorem lw_w5 : Cond.static oz_yU ∈ ox_T0 := oz_in_c (by decide +kernel)
section OZY
variable {p : Program} {l : Launch} {e : Env} {s : State} {m : MethodId} {below : List Frame} {meth : Method} {c : Code} {D : va_G} {y : Nat → ClassId} {b : Nat} {ro : ox_St} {d : Nat} {args : Array Value}
set_option maxHeartbeats 4000000 in
theorem lw_sound (C : oz_Cx D y b ro p s m args meth c 7 code (some .boolean) "OpcodeFramesLaw") (hN : oz_N s) (hlt : l.stackTraces = false) (hd5 : 5 ≤ d) {R : Room} (hR : ox_Rd R (d + 2)) {M : ox_E} (hE : ∀ j as mc ms S Q, M j as mc ms S Q → ox_Met l D y b ro d j as mc ms S Q) {r : ox_Q} {pc mr sr : Nat} {L : ox_L} {st : List ox_V} {S : ox_St}
    (h : ox_C (lw_E M) (some .boolean) lw_cx lw_cut r pc L st S mr sr) : ox_X p l e R s m args below meth c (MQ below (ox_Qc D y b ro r) args s R.cells R.slots (fun q => b ≤ q)) D y b ro 7 pc L st S mr sr := by
  have C' := C
  obtain ⟨hx, hb, hml, hr, hlocks, hown, hts, hK, hZ⟩ := C
  refine h _ ?_
  have : ∀ (n : Nat) pc L st S mr sr, ox_seg (lw_E M) (some .boolean) lw_cx lw_cut (ox_X p l e R s m args below meth c (MQ below (ox_Qc D y b ro r) args s R.cells R.slots (fun q => b ≤ q)) D y b ro 7) r n pc L st S mr sr → ox_X p l e R s m args below meth c (MQ below (ox_Qc D y b ro r) args s R.cells R.slots (fun q => b ≤ q)) D y b ro 7 pc L st S mr sr := by
    intro n
    induction n with
    | zero => intro pc L st S mr sr hs; exact hs.elim
    | succ n ihn =>
      intro pc L st S mr sr hs
      unfold ox_seg at hs
      split at hs
      · rename_i q hq
        obtain ⟨hq1, hq2⟩ := ox_look_in hq
        have hk : ∀ pc' L' st' S' mr' sr', ox_at_cut (ox_ctl lw_cut pc') (fun fs => ox_X p l e R s m args below meth c (MQ below (ox_Qc D y b ro r) args s R.cells R.slots (fun q => b ≤ q)) D y b ro 7 pc' (ox_frg L' fs) st' S' mr' sr') (ox_seg (lw_E M) (some .boolean) lw_cx lw_cut (ox_X p l e R s m args below meth c (MQ below (ox_Qc D y b ro r) args s R.cells R.slots (fun q => b ≤ q)) D y b ro 7) r n pc' L' st' S' mr' sr') → ox_X p l e R s m args below meth c (MQ below (ox_Qc D y b ro r) args s R.cells R.slots (fun q => b ≤ q)) D y b ro 7 pc' L' st' S' mr' sr' := by
          intro pc' L' st' S' mr' sr' hk'
          unfold ox_at_cut at hk'
          split at hk'
          · rename_i fs hfs
            intro H locs cells slots ls g1 g2 g3 g4 g5
            exact hk' H locs cells slots ls g1 g2 ⟨g3.1, g3.2.1, fun i v hi => g3.2.2 i v (ox_frg_get fs L' i v hi)⟩ g4 g5
          · exact ihn pc' L' st' S' mr' sr' hk'
        have hv1 := List.all_eq_true.mp lw_cx_ok q hq1
        unfold lw_vL at hv1
        simp only [Bool.or_eq_true, Bool.and_eq_true, beq_iff_eq] at hv1
        rcases hv1 with (h130 | h174) | ⟨hv1, hokp⟩
        · have hpc : pc = 130 := hq2 ▸ h130
          subst hpc
          have hqq : q = (130, .invokestatic 29, 3, [0, 1, 236, 0, 0, 0]) := Option.some.inj (hq.symm.trans (by decide +kernel))
          subst hqq
          obtain ⟨hn, hc, mc, ms, g1, g2, g3⟩ := hs
          rcases g3 with ⟨-, x, has, hKx, g3⟩ | ⟨e1, -⟩ | ⟨e1, -⟩
          · refine oz_invS (d := d + 2) (ix := 29) (n := 1) C' hN hR (lw_goodIn lw_w1 lw_w2 lw_w3 oz_wR_in) ⟨by decide, by decide, by decide +kernel⟩ (by decide) (by decide +kernel) hn hc g1 g2 (Qq := fun r_ S' => ox_at_cut (ox_ctl lw_cut 133) (fun fs => ox_X p l e R s m args below meth c (MQ below (ox_Qc D y b ro r) args s R.cells R.slots (fun q => b ≤ q)) D y b ro 7 133 (ox_frg L fs) (r_.toList ++ st.drop 1) S' (mr - mc) (sr - ms)) (ox_seg (lw_E M) (some .boolean) lw_cx lw_cut (ox_X p l e R s m args below meth c (MQ below (ox_Qc D y b ro r) args s R.cells R.slots (fun q => b ≤ q)) D y b ro 7) r n 133 L (r_.toList ++ st.drop 1) S' (mr - mc) (sr - ms))) ?_ (fun r_ S' hq => hk _ _ _ _ _ _ hq)
            rw [has]
            exact oz_m236 hKx (oz_m96 hlt hd5 hE g3)
          · cases e1
          · exact absurd rfl e1
        · have hpc : pc = 174 := hq2 ▸ h174
          subst hpc
          have hqq : q = (174, .invokestatic 43, 3, [0, 3, 237, 0, 0, 0]) := Option.some.inj (hq.symm.trans (by decide +kernel))
          subst hqq
          obtain ⟨hn, hc, mc, ms, g1, g2, g3⟩ := hs
          rcases g3 with ⟨e1, -⟩ | ⟨-, x, v, o, n9, has, hKx, g3⟩ | ⟨-, e1, -⟩
          · cases e1
          · refine oz_invS (d := d + 2) (ix := 43) (n := 3) C' hN hR (lw_goodIn lw_w4 lw_w5 lw_w3 oz_wU_in) ⟨by decide, by decide, by decide +kernel⟩ (by decide) (by decide +kernel) hn hc g1 g2 (Qq := fun r_ S' => ox_at_cut (ox_ctl lw_cut 177) (fun fs => ox_X p l e R s m args below meth c (MQ below (ox_Qc D y b ro r) args s R.cells R.slots (fun q => b ≤ q)) D y b ro 7 177 (ox_frg L fs) (r_.toList ++ st.drop 3) S' (mr - mc) (sr - ms)) (ox_seg (lw_E M) (some .boolean) lw_cx lw_cut (ox_X p l e R s m args below meth c (MQ below (ox_Qc D y b ro r) args s R.cells R.slots (fun q => b ≤ q)) D y b ro 7) r n 177 L (r_.toList ++ st.drop 3) S' (mr - mc) (sr - ms))) ?_ (fun r_ S' hq => hk _ _ _ _ _ _ hq)
            rw [has]
            exact oz_m237 hKx (oz_m98 hlt hd5 hE g3)
          · exact absurd rfl e1
        · simp only [ox_vL, Bool.and_eq_true, Bool.or_eq_true, beq_iff_eq, decide_eq_true_eq] at hv1
          obtain ⟨⟨hd, hlen⟩, hve⟩ := hv1
          rw [hq2] at hd
          exact ox_step_ok (d := d) hx hb hml hr hlocks hown hts hK ⟨by have := hR.1; omega, by have := hR.2; omega⟩ hE (fun h => by cases h) hk hve hlen hd (lw_step_s (fun j j1 j2 as mc ms S Q hq => by
            rcases hq with ⟨e1, -⟩ | ⟨e1, -⟩ | ⟨-, -, hq⟩
            · exact absurd e1 j1
            · exact absurd e1 j2
            · exact hq) hokp hs)
      · exact hs.elim
  exact fun pc L st S mr sr hs => this 400 pc L st S mr sr hs
end OZY
