def kC0 : mc_C := (yX0_init, cX0_init, 1, 0, ([(11, 0, 0), (15, 0, 1), (18, 0, 2), (21, 0, 3), (24, 0, 4), (27, 0, 5), (30, 0, 6), (33, 0, 7)], [(5, 0, 0)], []), [(0, .aload_n 0), (1, .invokespecial 5), (4, .aload_n 0), (5, .sipush 803), (8, .newarray .int), (10, .putfield 11), (13, .aload_n 0), (14, .sipush 803), (17, .newarray .int), (19, .putfield 15), (22, .aload_n 0), (23, .sipush 803), (26, .newarray .int), (28, .putfield 18), (31, .aload_n 0), (32, .sipush 803), (35, .newarray .int), (37, .putfield 21), (40, .aload_n 0), (41, .sipush 803), (44, .newarray .int), (46, .putfield 24), (49, .aload_n 0), (50, .sipush 803), (53, .newarray .int), (55, .putfield 27), (58, .aload_n 0), (59, .sipush 803), (62, .newarray .int), (64, .putfield 30), (67, .aload_n 0), (68, .sipush 803), (71, .newarray .int), (73, .putfield 33), (76, .return_)])
def kC1 : mc_C := (yX1_init, cX1_init, 2, 1, ([(9, 1, 0)], [(3, 0, 0)], []), [(0, .aload_n 0), (1, .invokespecial 3), (4, .aload_n 0), (5, .aload_n 1), (6, .putfield 9), (9, .return_)])
def kC2 : mc_C := (yX2_init, cX2_init, 1, 0, ([(9, 2, 0), (15, 2, 1), (18, 2, 2), (21, 2, 3), (24, 2, 4), (27, 2, 5), (30, 2, 6), (33, 2, 12)], [(3, 0, 0)], []), [(0, .aload_n 0), (1, .invokespecial 3), (4, .aload_n 0), (5, .sipush 700), (8, .newarray .int), (10, .putfield 9), (13, .aload_n 0), (14, .sipush 700), (17, .newarray .int), (19, .putfield 15), (22, .aload_n 0), (23, .sipush 700), (26, .newarray .int), (28, .putfield 18), (31, .aload_n 0), (32, .sipush 1500), (35, .newarray .int), (37, .putfield 21), (40, .aload_n 0), (41, .bipush 8), (43, .newarray .int), (45, .putfield 24), (48, .aload_n 0), (49, .bipush 8), (51, .newarray .int), (53, .putfield 27), (56, .aload_n 0), (57, .bipush 8), (59, .newarray .int), (61, .putfield 30), (64, .aload_n 0), (65, .iconst (-1)), (66, .putfield 33), (69, .return_)])
def kC3 : mc_C := (yX4_init, cX4_init, 3, 2, ([(15, 3, 0), (19, 3, 1), (9, 3, 4)], [(3, 0, 0)], []), [(0, .aload_n 0), (1, .invokespecial 3), (4, .aload_n 0), (5, .iconst 1), (6, .putfield 9), (9, .aload_n 0), (10, .aload_n 1), (11, .putfield 15), (14, .aload_n 0), (15, .aload_n 2), (16, .putfield 19), (19, .return_)])
def kC4 : mc_C := (yX5_init, cX5_init, 2, 1, ([(40, 4, 0), (49, 4, 1), (11, 4, 2), (15, 4, 3), (18, 4, 4), (21, 4, 5), (24, 4, 6), (28, 4, 7), (31, 4, 8), (34, 4, 9), (37, 4, 10)], [(5, 0, 0), (46, 1, 5)], [(44, 5)]), [(0, .aload_n 0), (1, .invokespecial 5), (4, .aload_n 0), (5, .sipush 158), (8, .newarray .int), (10, .putfield 11), (13, .aload_n 0), (14, .bipush 54), (16, .newarray .int), (18, .putfield 15), (21, .aload_n 0), (22, .sipush 850), (25, .newarray .int), (27, .putfield 18), (30, .aload_n 0), (31, .sipush 425), (34, .newarray .int), (36, .putfield 21), (39, .aload_n 0), (40, .sipush 425), (43, .newarray .long), (45, .putfield 24), (48, .aload_n 0), (49, .bipush 25), (51, .newarray .int), (53, .putfield 28), (56, .aload_n 0), (57, .bipush 25), (59, .newarray .int), (61, .putfield 31), (64, .aload_n 0), (65, .bipush 25), (67, .newarray .int), (69, .putfield 34), (72, .aload_n 0), (73, .sipush 300), (76, .newarray .int), (78, .putfield 37), (81, .aload_n 0), (82, .aload_n 1), (83, .putfield 40), (86, .aload_n 0), (87, .new 44), (90, .dup), (91, .aload_n 1), (92, .invokespecial 46), (95, .putfield 49), (98, .return_)])
def kC5 : mc_C := (yX7_init, cX7_init, 2, 1, ([(21, 5, 0), (11, 5, 1), (15, 5, 2), (18, 5, 3)], [(3, 0, 0)], []), [(0, .aload_n 0), (1, .invokespecial 3), (4, .aload_n 0), (5, .sipush 402), (8, .newarray .int), (10, .putfield 11), (13, .aload_n 0), (14, .sipush 402), (17, .newarray .int), (19, .putfield 15), (22, .aload_n 0), (23, .sipush 402), (26, .newarray .int), (28, .putfield 18), (31, .aload_n 0), (32, .aload_n 1), (33, .putfield 21), (36, .return_)])
def kC6 : mc_C := (yX8_init, cX8_init, 3, 2, ([(18, 6, 0), (22, 6, 1), (11, 6, 2), (15, 6, 3)], [(3, 0, 0)], []), [(0, .aload_n 0), (1, .invokespecial 3), (4, .aload_n 0), (5, .sipush 425), (8, .newarray .int), (10, .putfield 11), (13, .aload_n 0), (14, .sipush 425), (17, .newarray .int), (19, .putfield 15), (22, .aload_n 0), (23, .aload_n 1), (24, .putfield 18), (27, .aload_n 0), (28, .aload_n 2), (29, .putfield 22), (32, .return_)])
def kC7 : mc_C := (yX10_init, cX10_init, 1, 0, ([(12, 7, 0), (21, 7, 1), (28, 7, 2), (37, 7, 3), (46, 7, 4), (53, 7, 5)], [(3, 0, 0), (11, 2, 2), (18, 1, 1), (27, 2, 0), (34, 1, 4), (43, 1, 3), (52, 1, 6), (57, 3, 9)], [(9, 2), (16, 1), (25, 0), (32, 4), (41, 3), (50, 6)]), [(0, .aload_n 0), (1, .invokespecial 3), (4, .aload_n 0), (5, .new 9), (8, .dup), (9, .invokespecial 11), (12, .putfield 12), (15, .aload_n 0), (16, .new 16), (19, .dup), (20, .aload_n 0), (21, .getfield 12), (24, .invokespecial 18), (27, .putfield 21), (30, .aload_n 0), (31, .new 25), (34, .dup), (35, .invokespecial 27), (38, .putfield 28), (41, .aload_n 0), (42, .new 32), (45, .dup), (46, .aload_n 0), (47, .getfield 28), (50, .invokespecial 34), (53, .putfield 37), (56, .aload_n 0), (57, .new 41), (60, .dup), (61, .aload_n 0), (62, .getfield 12), (65, .aload_n 0), (66, .getfield 37), (69, .invokespecial 43), (72, .putfield 46), (75, .aload_n 0), (76, .new 50), (79, .dup), (80, .aload_n 0), (81, .getfield 12), (84, .aload_n 0), (85, .getfield 37), (88, .invokespecial 52), (91, .putfield 53), (94, .aload_n 0), (95, .getfield 28), (98, .iconst 0), (99, .sipush 300), (102, .invokevirtual 57), (105, .return_)])
def kC8 : mc_C := (yX11_init, cX11_init, 1, 0, ([(7, 8, 0), (13, 8, 4), (17, 8, 6), (20, 8, 8), (23, 8, 13), (27, 8, 14), (30, 8, 15), (33, 8, 16), (36, 8, 17), (39, 8, 18), (42, 8, 19), (45, 8, 21), (48, 8, 22), (51, 8, 24), (54, 8, 25), (57, 8, 26), (60, 8, 27), (63, 8, 28), (66, 8, 29), (129, 8, 35), (69, 8, 36), (72, 8, 37), (75, 8, 38), (78, 8, 39), (81, 8, 40), (84, 8, 41), (87, 8, 42), (90, 8, 44), (93, 8, 45), (96, 8, 46), (99, 8, 47), (102, 8, 49), (105, 8, 53), (108, 8, 56), (111, 8, 60), (114, 8, 61), (117, 8, 62), (120, 8, 63), (123, 8, 64), (126, 8, 65)], [(1, 0, 0)], []), [(0, .aload_n 0), (1, .invokespecial 1), (4, .aload_n 0), (5, .sipush 700), (8, .newarray .int), (10, .putfield 7), (13, .aload_n 0), (14, .iconst (-1)), (15, .putfield 13), (18, .aload_n 0), (19, .sipush 6000), (22, .newarray .int), (24, .putfield 17), (27, .aload_n 0), (28, .sipush 8000), (31, .newarray .int), (33, .putfield 20), (36, .aload_n 0), (37, .bipush 8), (39, .newarray .boolean), (41, .putfield 23), (44, .aload_n 0), (45, .bipush 8), (47, .newarray .int), (49, .putfield 27), (52, .aload_n 0), (53, .bipush 8), (55, .newarray .int), (57, .putfield 30), (60, .aload_n 0), (61, .bipush 8), (63, .newarray .int), (65, .putfield 33), (68, .aload_n 0), (69, .sipush 4000), (72, .newarray .int), (74, .putfield 36), (77, .aload_n 0), (78, .sipush 4000), (81, .newarray .int), (83, .putfield 39), (86, .aload_n 0), (87, .sipush 4000), (90, .newarray .int), (92, .putfield 42), (95, .aload_n 0), (96, .sipush 2000), (99, .newarray .int), (101, .putfield 45), (104, .aload_n 0), (105, .sipush 2000), (108, .newarray .int), (110, .putfield 48), (113, .aload_n 0), (114, .sipush 900), (117, .newarray .int), (119, .putfield 51), (122, .aload_n 0), (123, .sipush 900), (126, .newarray .int), (128, .putfield 54), (131, .aload_n 0), (132, .sipush 900), (135, .newarray .int), (137, .putfield 57), (140, .aload_n 0), (141, .sipush 900), (144, .newarray .int), (146, .putfield 60), (149, .aload_n 0), (150, .sipush 900), (153, .newarray .boolean), (155, .putfield 63), (158, .aload_n 0), (159, .sipush 900), (162, .newarray .int), (164, .putfield 66), (167, .aload_n 0), (168, .sipush 300), (171, .putfield 69), (174, .aload_n 0), (175, .bipush 8), (177, .newarray .int), (179, .putfield 72), (182, .aload_n 0), (183, .iconst 4), (184, .newarray .int), (186, .putfield 75), (189, .aload_n 0), (190, .sipush 150), (193, .newarray .int), (195, .putfield 78), (198, .aload_n 0), (199, .bipush 50), (201, .newarray .int), (203, .putfield 81), (206, .aload_n 0), (207, .bipush 25), (209, .newarray .int), (211, .putfield 84), (214, .aload_n 0), (215, .bipush 25), (217, .newarray .int), (219, .putfield 87), (222, .aload_n 0), (223, .sipush 4000), (226, .newarray .boolean), (228, .putfield 90), (231, .aload_n 0), (232, .sipush 4000), (235, .newarray .int), (237, .putfield 93), (240, .aload_n 0), (241, .sipush 4000), (244, .newarray .boolean), (246, .putfield 96), (249, .aload_n 0), (250, .sipush 4000), (253, .newarray .int), (255, .putfield 99), (258, .aload_n 0), (259, .sipush 300), (262, .newarray .int), (264, .putfield 102), (267, .aload_n 0), (268, .bipush 6), (270, .putfield 105), (273, .aload_n 0), (274, .sipush 900), (277, .newarray .int), (279, .putfield 108), (282, .aload_n 0), (283, .sipush 900), (286, .newarray .int), (288, .putfield 111), (291, .aload_n 0), (292, .sipush 900), (295, .newarray .int), (297, .putfield 114), (300, .aload_n 0), (301, .sipush 900), (304, .newarray .int), (306, .putfield 117), (309, .aload_n 0), (310, .sipush 900), (313, .newarray .int), (315, .putfield 120), (318, .aload_n 0), (319, .sipush 900), (322, .newarray .int), (324, .putfield 123), (327, .aload_n 0), (328, .sipush 900), (331, .newarray .boolean), (333, .putfield 126), (336, .aload_n 0), (337, .iconst 0), (338, .putfield 129), (341, .return_)])
def kC9 : mc_C := (yX0_furnish, cX0_furnish, 3, 2, ([(36, 0, 12), (40, 0, 13)], [], []), [(0, .aload_n 0), (1, .iload_n 1), (2, .putfield 36), (5, .aload_n 0), (6, .iload_n 2), (7, .putfield 40), (10, .return_)])
def kCs : List mc_C := [kC0, kC1, kC2, kC3, kC4, kC5, kC6, kC7, kC8, kC9]
def mc_N1 : Cond := .methodLinkNest "MapMachine" 11 ⟨"MapMachine$Program", "<init>", "()V"⟩ "MapMachine"
def mc_N2 : Cond := .methodLinkNest "MapMachine" 27 ⟨"MapMachine$Cells", "<init>", "()V"⟩ "MapMachine"
def mc_lchk (own : String) (ctors : List mc_C) : List (Nat × Nat × Nat) → List (Nat × Nat × Nat) → Bool
  | [], _ => true
  | _ :: _, [] => false
  | (i, t, c) :: r, (a, b, d) :: hs => (match t with
    | 0 => mv_mem a (.methodLink own i objectInit) && mv_mem b (.instanceMethod objectInit) && mv_mem d (.code objectInit ⟨#[0xb1]⟩ 1 none)
    | 1 => (match ctors[c]? with
      | some C => mv_mem a (.methodLink own i C.1) && decide (C.1.name = "<init>") && mv_mem b (.instanceMethod C.1)
      | none => false)
    | 2 => (match ctors[c]? with
      | some C => (decide (Cond.methodLinkNest own i C.1 "MapMachine" = mc_N1) || decide (Cond.methodLinkNest own i C.1 "MapMachine" = mc_N2)) && decide (C.1.name = "<init>") && mv_mem b (.instanceMethod C.1)
      | none => false)
    | 3 => (match ctors[c]? with
      | some C => mv_mem a (.methodLink own i C.1) && mv_mem b (.instanceMethod C.1) && mv_mem d (.selects C.1.cls C.1 C.1)
      | none => false)
    | _ => false) && mc_lchk own ctors r hs
theorem mc_lchk_of {own : String} {ctors : List mc_C} : ∀ {l hs : List (Nat × Nat × Nat)}, mc_lchk own ctors l hs = true → ∀ (i t c : Nat), (i, t, c) ∈ l → (t = 0 → Cond.methodLink own i objectInit ∈ mv_Ts ∧ Cond.instanceMethod objectInit ∈ mv_Ts ∧ Cond.code objectInit ⟨#[0xb1]⟩ 1 none ∈ mv_Ts) ∧
    ∀ C' : mc_C, ctors[c]? = some C' → (t = 1 → Cond.methodLink own i C'.1 ∈ mv_Ts ∧ C'.1.name = "<init>" ∧ Cond.instanceMethod C'.1 ∈ mv_Ts) ∧ (t = 2 → (∀ U : State, mc_N U → va_Nw (.methodLinkNest own i C'.1 "MapMachine") U) ∧ C'.1.name = "<init>" ∧ Cond.instanceMethod C'.1 ∈ mv_Ts) ∧ (t = 3 → Cond.methodLink own i C'.1 ∈ mv_Ts ∧ Cond.instanceMethod C'.1 ∈ mv_Ts ∧ Cond.selects C'.1.cls C'.1 C'.1 ∈ mv_Ts)
  | [], _, _, _, _, _, h => by cases h
  | _ :: _, [], h, _, _, _, _ => by simp [mc_lchk] at h
  | (i, t, c) :: r, (a, b, d) :: hs, q, i', t', c', hm => by
    simp only [mc_lchk, Bool.and_eq_true] at q
    rcases List.mem_cons.mp hm with e | hm
    · cases e
      obtain ⟨q1, -⟩ := q
      constructor
      · rintro rfl
        simp only [Bool.and_eq_true] at q1
        exact ⟨mv_mem_of q1.1.1, mv_mem_of q1.1.2, mv_mem_of q1.2⟩
      · intro C' hC
        refine ⟨?_, ?_, ?_⟩
        · rintro rfl
          simp only [hC, Bool.and_eq_true, decide_eq_true_eq] at q1
          exact ⟨mv_mem_of q1.1.1, q1.1.2, mv_mem_of q1.2⟩
        · rintro rfl
          simp only [hC, Bool.and_eq_true, Bool.or_eq_true, decide_eq_true_eq] at q1
          refine ⟨fun U hU => ?_, q1.1.2, mv_mem_of q1.2⟩
          rcases q1.1.1 with e | e
          · rw [e]; exact hU.1
          · rw [e]; exact hU.2
        · rintro rfl
          simp only [hC, Bool.and_eq_true] at q1
          exact ⟨mv_mem_of q1.1.1, mv_mem_of q1.1.2, mv_mem_of q1.2⟩
    · exact mc_lchk_of q.2 i' t' c' hm
def mc_nchk (df : List (List Value)) (own : String) : List (Nat × Nat) → List (Nat × Nat × Nat) → Bool
  | [], _ => true
  | _ :: _, [] => false
  | (i, ci) :: r, (a, b, d) :: hs => (match vwCl[ci]? with
    | some (Cn, T, N) => (match df[ci]? with
      | some fs => decide (ci < 9) && decide (fs.length = N) && mv_mem a (.classLink own i Cn) && mv_mem b (.instantiable Cn N) && mv_mem d (.initialized Cn) && (List.range N).all (fun j => match parseFieldDescriptor (T j).2.2.1 with
        | some t => decide (defaultValue t = vp_V fs j)
        | none => false)
      | none => false)
    | none => false) && mc_nchk df own r hs
theorem mc_nchk_of {df : List (List Value)} {own : String} : ∀ {l : List (Nat × Nat)} {hs : List (Nat × Nat × Nat)}, mc_nchk df own l hs = true → ∀ (i ci : Nat), (i, ci) ∈ l → mv_cok ci ∧ ∃ (Cn : String) (T : u_T) (N : Nat) (fs : List Value), vwCl[ci]? = some (Cn, T, N) ∧ df[ci]? = some fs ∧ fs.length = N ∧ Cond.classLink own i Cn ∈ mv_Ts ∧ Cond.instantiable Cn N ∈ mv_Ts ∧ Cond.initialized Cn ∈ mv_Ts ∧ ∀ j, j < N → ∀ t, parseFieldDescriptor (T j).2.2.1 = some t → defaultValue t = vp_V fs j
  | [], _, _, _, _, h => by cases h
  | _ :: _, [], h, _, _, _ => by simp [mc_nchk] at h
  | (i, ci) :: r, (a, b, d) :: hs, q, i', ci', hm => by
    simp only [mc_nchk, Bool.and_eq_true] at q
    rcases List.mem_cons.mp hm with e | hm
    · cases e
      obtain ⟨q1, -⟩ := q
      split at q1
      · next Cn T N hc =>
        split at q1
        · next fs hf =>
          simp only [Bool.and_eq_true, decide_eq_true_eq] at q1
          obtain ⟨⟨⟨⟨⟨a1, a2⟩, a3⟩, a4⟩, a5⟩, a6⟩ := q1
          refine ⟨okC ci a1, Cn, T, N, fs, hc, hf, a2, mv_mem_of a3, mv_mem_of a4, mv_mem_of a5, ?_⟩
          intro j hj t ht
          have h1 := List.all_eq_true.mp a6 j (List.mem_range.mpr hj)
          rw [ht] at h1
          exact of_decide_eq_true h1
        · cases q1
      · cases q1
    · exact mc_nchk_of q.2 i' ci' hm
def mc_gchk (C : mc_C) : Bool := C.2.2.2.2.1.1.all (fun q => decide (q.2.1 < 9) && (match vwCl[q.2.1]? with
  | some (_, T, _) => !(T q.2.2).2.2.2 || (decide ((T q.2.2).1 = C.1.cls) && decide (C.1.name = "<init>"))
  | none => false))
def mc_dchk (C : mc_C) : Bool := C.2.2.2.2.2.all (fun q => decide (decode C.2.1 q.1 = .ok (q.2, if q.2 = .newarray .int ∨ q.2 = .newarray .boolean ∨ q.2 = .newarray .long then 2 else match q.2 with
    | .new _ => 3
    | .invokespecial _ => 3
    | i => mv_len q.1 i)))
def mc_c2 (hc hi : Nat) (C : mc_C) : Bool := plainName C.1.cls && mv_mem hc (.code C.1 C.2.1 C.2.2.1 none) && decide (C.1.cls ≠ "java/lang/invoke/MethodHandle") && decide (C.1.cls ≠ "java/lang/invoke/VarHandle") && decide ((parseMethodDescriptor C.1.desc).map (fun d => d.parameters.length) = some C.2.2.2.1) && decide (C.2.2.1 ≤ 21) && mv_mem hi (.initialized C.1.cls)
theorem mc_cok_of {df : List (List Value)} {ctors : List mc_C} {C : mc_C} {hc hi : Nat} {h1 : List Nat} {h2 h3 : List (Nat × Nat × Nat)} (a1 : mc_c2 hc hi C = true) (a2 : mc_dchk C = true) (a3 : (mv_fchk C.1.cls C.2.2.2.2.1.1 h1 && mc_gchk C) = true) (a4 : (mc_lchk C.1.cls ctors C.2.2.2.2.1.2.1 h2 && mc_nchk df C.1.cls C.2.2.2.2.1.2.2 h3) = true) : mc_cok df ctors C := by
  simp only [mc_c2, Bool.and_eq_true, decide_eq_true_eq] at a1 a3 a4
  obtain ⟨⟨⟨⟨⟨⟨b1, b2⟩, b3⟩, b4⟩, b5⟩, b6⟩, b7⟩ := a1
  refine ⟨b1, mv_mem_of b2, ?_, ?_, mc_lchk_of a4.1, mc_nchk_of a4.2, ⟨b3, b4, b5⟩, b6, mv_mem_of b7⟩
  · intro q hq
    exact of_decide_eq_true (List.all_eq_true.mp a2 q hq)
  · intro i ci k hm
    have h9 := List.all_eq_true.mp a3.2 _ hm
    simp only [Bool.and_eq_true, decide_eq_true_eq] at h9
    refine ⟨mv_fchk_of a3.1 i ci k hm, okC ci h9.1, ?_⟩
    intro Cn T N hcl hfin
    have h8 := h9.2
    rw [hcl] at h8
    simp only [hfin, Bool.not_true, Bool.false_or, Bool.and_eq_true, decide_eq_true_eq] at h8
    exact h8
