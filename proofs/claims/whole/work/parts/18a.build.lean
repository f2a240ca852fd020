/-! the constructors: tables, and a machine of literals. Tables by wip/gen/gen18.py -/
def cdX0_init : List (Nat × Instr × Nat) := [(0, .aload_n 0, 1), (1, .invokespecial 3, 3), (4, .aload_n 0, 1), (5, .iconst 0, 1), (6, .putfield 9, 3), (9, .aload_n 0, 1), (10, .iconst 0, 1), (11, .putfield 15, 3), (14, .aload_n 0, 1), (15, .iconst 0, 1), (16, .putfield 18, 3), (19, .aload_n 0, 1), (20, .iconst 0, 1), (21, .putfield 21, 3), (24, .aload_n 0, 1), (25, .iconst 0, 1), (26, .putfield 24, 3), (29, .return_, 1)]
set_option maxRecDepth 100000 in
theorem ckX0_init : aCkm cdX0_init cX0_init = true := by decide +kernel
def cdX1_init : List (Nat × Instr × Nat) := [(0, .aload_n 0, 1), (1, .invokespecial 3, 3), (4, .aload_n 0, 1), (5, .bipush 10, 2), (7, .anewarray 9, 3), (10, .putfield 11, 3), (13, .aload_n 0, 1), (14, .iconst 3, 1), (15, .newarray .int, 2), (17, .dup, 1), (18, .iconst 0, 1), (19, .iconst (-1), 1), (20, .iastore, 1), (21, .dup, 1), (22, .iconst 1, 1), (23, .iconst (-1), 1), (24, .iastore, 1), (25, .dup, 1), (26, .iconst 2, 1), (27, .iconst (-1), 1), (28, .iastore, 1), (29, .putfield 17, 3), (32, .aload_n 0, 1), (33, .iconst 0, 1), (34, .putfield 21, 3), (37, .aload_n 0, 1), (38, .iconst 3, 1), (39, .putfield 25, 3), (42, .aload_n 0, 1), (43, .iconst 0, 1), (44, .putfield 28, 3), (47, .aload_n 0, 1), (48, .iconst 0, 1), (49, .putfield 31, 3), (52, .aload_n 0, 1), (53, .iconst 0, 1), (54, .putfield 34, 3), (57, .aload_n 0, 1), (58, .iconst 0, 1), (59, .putfield 37, 3), (62, .aload_n 0, 1), (63, .iconst 0, 1), (64, .putfield 40, 3), (67, .aload_n 0, 1), (68, .iconst 0, 1), (69, .putfield 43, 3), (72, .aload_n 0, 1), (73, .iconst 1, 1), (74, .putfield 46, 3), (77, .aload_n 0, 1), (78, .iconst 0, 1), (79, .putfield 49, 3), (82, .iconst 0, 1), (83, .istore_n 1, 1), (84, .iload_n 1, 1), (85, .aload_n 0, 1), (86, .getfield 11, 3), (89, .arraylength, 1), (90, .if_icmp .ge 22, 3), (93, .aload_n 0, 1), (94, .getfield 11, 3), (97, .iload_n 1, 1), (98, .new 9, 3), (101, .dup, 1), (102, .invokespecial 52, 3), (105, .aastore, 1), (106, .iinc 1 1, 3), (109, .goto (-25), 3), (112, .return_, 1)]
set_option maxRecDepth 100000 in
theorem ckX1_init : aCkm cdX1_init cX1_init = true := by decide +kernel
def cdX2_init : List (Nat × Instr × Nat) := [(0, .aload_n 0, 1), (1, .invokespecial 3, 3), (4, .aload_n 0, 1), (5, .bipush 96, 2), (7, .newarray .int, 2), (9, .putfield 9, 3), (12, .aload_n 0, 1), (13, .bipush 48, 2), (15, .newarray .int, 2), (17, .putfield 15, 3), (20, .aload_n 0, 1), (21, .iconst 0, 1), (22, .putfield 18, 3), (25, .aload_n 0, 1), (26, .iconst 0, 1), (27, .putfield 22, 3), (30, .aload_n 0, 1), (31, .iconst 0, 1), (32, .putfield 25, 3), (35, .return_, 1)]
set_option maxRecDepth 100000 in
theorem ckX2_init : aCkm cdX2_init cX2_init = true := by decide +kernel
def cdX3_init : List (Nat × Instr × Nat) := [(0, .aload_n 0, 1), (1, .invokespecial 3, 3), (4, .aload_n 0, 1), (5, .new 9, 3), (8, .dup, 1), (9, .invokespecial 11, 3), (12, .putfield 12, 3), (15, .aload_n 0, 1), (16, .iconst (-1), 1), (17, .putfield 18, 3), (20, .aload_n 0, 1), (21, .iconst 0, 1), (22, .putfield 22, 3), (25, .aload_n 0, 1), (26, .iconst 0, 1), (27, .putfield 25, 3), (30, .return_, 1)]
set_option maxRecDepth 100000 in
theorem ckX3_init : aCkm cdX3_init cX3_init = true := by decide +kernel
def cdX4_init : List (Nat × Instr × Nat) := [(0, .aload_n 0, 1), (1, .invokespecial 3, 3), (4, .aload_n 0, 1), (5, .bipush 24, 2), (7, .newarray .int, 2), (9, .putfield 9, 3), (12, .aload_n 0, 1), (13, .iconst (-1), 1), (14, .putfield 15, 3), (17, .aload_n 0, 1), (18, .iconst 0, 1), (19, .putfield 19, 3), (22, .return_, 1)]
set_option maxRecDepth 100000 in
theorem ckX4_init : aCkm cdX4_init cX4_init = true := by decide +kernel
def cdX5_init : List (Nat × Instr × Nat) := [(0, .aload_n 0, 1), (1, .invokespecial 3, 3), (4, .aload_n 0, 1), (5, .new 9, 3), (8, .dup, 1), (9, .invokespecial 11, 3), (12, .putfield 12, 3), (15, .aload_n 0, 1), (16, .new 18, 3), (19, .dup, 1), (20, .invokespecial 20, 3), (23, .putfield 21, 3), (26, .aload_n 0, 1), (27, .iconst 0, 1), (28, .putfield 25, 3), (31, .aload_n 0, 1), (32, .iconst 0, 1), (33, .putfield 29, 3), (36, .return_, 1)]
set_option maxRecDepth 100000 in
theorem ckX5_init : aCkm cdX5_init cX5_init = true := by decide +kernel
def cdX6_init : List (Nat × Instr × Nat) := [(0, .aload_n 0, 1), (1, .invokespecial 3, 3), (4, .aload_n 0, 1), (5, .bipush 96, 2), (7, .newarray .int, 2), (9, .putfield 9, 3), (12, .aload_n 0, 1), (13, .iconst 0, 1), (14, .putfield 15, 3), (17, .aload_n 0, 1), (18, .iconst 0, 1), (19, .putfield 19, 3), (22, .aload_n 0, 1), (23, .iconst 0, 1), (24, .putfield 22, 3), (27, .aload_n 0, 1), (28, .iconst 0, 1), (29, .putfield 25, 3), (32, .return_, 1)]
set_option maxRecDepth 100000 in
theorem ckX6_init : aCkm cdX6_init cX6_init = true := by decide +kernel
def cdX7_init : List (Nat × Instr × Nat) := [(0, .aload_n 0, 1), (1, .invokespecial 1, 3), (4, .aload_n 0, 1), (5, .new 7, 3), (8, .dup, 1), (9, .invokespecial 9, 3), (12, .putfield 10, 3), (15, .aload_n 0, 1), (16, .new 7, 3), (19, .dup, 1), (20, .invokespecial 9, 3), (23, .putfield 16, 3), (26, .aload_n 0, 1), (27, .new 7, 3), (30, .dup, 1), (31, .invokespecial 9, 3), (34, .putfield 19, 3), (37, .aload_n 0, 1), (38, .iconst 0, 1), (39, .putfield 22, 3), (42, .aload_n 0, 1), (43, .bipush 15, 2), (45, .anewarray 26, 3), (48, .putfield 28, 3), (51, .aload_n 0, 1), (52, .new 32, 3), (55, .dup, 1), (56, .invokespecial 34, 3), (59, .putfield 35, 3), (62, .aload_n 0, 1), (63, .iconst 4, 1), (64, .anewarray 39, 3), (67, .putfield 41, 3), (70, .aload_n 0, 1), (71, .iconst 5, 1), (72, .anewarray 45, 3), (75, .putfield 47, 3), (78, .aload_n 0, 1), (79, .bipush 60, 2), (81, .newarray .int, 2), (83, .putfield 51, 3), (86, .aload_n 0, 1), (87, .iconst 0, 1), (88, .putfield 55, 3), (91, .aload_n 0, 1), (92, .bipush 10, 2), (94, .newarray .int, 2), (96, .putfield 59, 3), (99, .iconst 0, 1), (100, .istore_n 1, 1), (101, .iload_n 1, 1), (102, .aload_n 0, 1), (103, .getfield 28, 3), (106, .arraylength, 1), (107, .if_icmp .ge 22, 3), (110, .aload_n 0, 1), (111, .getfield 28, 3), (114, .iload_n 1, 1), (115, .new 26, 3), (118, .dup, 1), (119, .invokespecial 62, 3), (122, .aastore, 1), (123, .iinc 1 1, 3), (126, .goto (-25), 3), (129, .iconst 0, 1), (130, .istore_n 1, 1), (131, .iload_n 1, 1), (132, .aload_n 0, 1), (133, .getfield 41, 3), (136, .arraylength, 1), (137, .if_icmp .ge 22, 3), (140, .aload_n 0, 1), (141, .getfield 41, 3), (144, .iload_n 1, 1), (145, .new 39, 3), (148, .dup, 1), (149, .invokespecial 63, 3), (152, .aastore, 1), (153, .iinc 1 1, 3), (156, .goto (-25), 3), (159, .iconst 0, 1), (160, .istore_n 1, 1), (161, .iload_n 1, 1), (162, .aload_n 0, 1), (163, .getfield 47, 3), (166, .arraylength, 1), (167, .if_icmp .ge 22, 3), (170, .aload_n 0, 1), (171, .getfield 47, 3), (174, .iload_n 1, 1), (175, .new 45, 3), (178, .dup, 1), (179, .invokespecial 64, 3), (182, .aastore, 1), (183, .iinc 1 1, 3), (186, .goto (-25), 3), (189, .return_, 1)]
set_option maxRecDepth 100000 in
theorem ckX7_init : aCkm cdX7_init cX7_init = true := by decide +kernel
def cdX8_init : List (Nat × Instr × Nat) := [(0, .aload_n 0, 1), (1, .invokespecial 1, 3), (4, .aload_n 0, 1), (5, .sipush 3060, 3), (8, .newarray .int, 2), (10, .putfield 7, 3), (13, .aload_n 0, 1), (14, .sipush 3060, 3), (17, .newarray .int, 2), (19, .putfield 13, 3), (22, .aload_n 0, 1), (23, .sipush 3060, 3), (26, .newarray .int, 2), (28, .putfield 16, 3), (31, .aload_n 0, 1), (32, .iconst 4, 1), (33, .newarray .int, 2), (35, .putfield 19, 3), (38, .aload_n 0, 1), (39, .iconst 4, 1), (40, .newarray .int, 2), (42, .putfield 22, 3), (45, .aload_n 0, 1), (46, .bipush 96, 2), (48, .newarray .int, 2), (50, .putfield 25, 3), (53, .aload_n 0, 1), (54, .iconst 5, 1), (55, .newarray .int, 2), (57, .putfield 28, 3), (60, .aload_n 0, 1), (61, .iconst 5, 1), (62, .newarray .int, 2), (64, .putfield 31, 3), (67, .aload_n 0, 1), (68, .iconst 5, 1), (69, .newarray .int, 2), (71, .putfield 34, 3), (74, .aload_n 0, 1), (75, .iconst 5, 1), (76, .newarray .int, 2), (78, .putfield 37, 3), (81, .aload_n 0, 1), (82, .bipush 120, 2), (84, .newarray .int, 2), (86, .putfield 40, 3), (89, .aload_n 0, 1), (90, .bipush 60, 2), (92, .newarray .int, 2), (94, .putfield 43, 3), (97, .aload_n 0, 1), (98, .bipush 96, 2), (100, .newarray .int, 2), (102, .putfield 46, 3), (105, .aload_n 0, 1), (106, .sipush 128, 3), (109, .newarray .int, 2), (111, .putfield 49, 3), (114, .aload_n 0, 1), (115, .bipush 100, 2), (117, .newarray .int, 2), (119, .putfield 52, 3), (122, .aload_n 0, 1), (123, .bipush 24, 2), (125, .newarray .int, 2), (127, .putfield 55, 3), (130, .aload_n 0, 1), (131, .bipush 60, 2), (133, .newarray .int, 2), (135, .putfield 58, 3), (138, .aload_n 0, 1), (139, .bipush 60, 2), (141, .newarray .int, 2), (143, .putfield 61, 3), (146, .aload_n 0, 1), (147, .getfield 7, 3), (150, .bipush 9, 2), (152, .iconst 1, 1), (153, .iastore, 1), (154, .aload_n 0, 1), (155, .getfield 7, 3), (158, .iconst 3, 1), (159, .iconst 3, 1), (160, .iastore, 1), (161, .iconst 0, 1), (162, .istore_n 1, 1), (163, .iload_n 1, 1), (164, .iconst 4, 1), (165, .if_icmp .ge 16, 3), (168, .aload_n 0, 1), (169, .getfield 19, 3), (172, .iload_n 1, 1), (173, .iconst (-1), 1), (174, .iastore, 1), (175, .iinc 1 1, 3), (178, .goto (-15), 3), (181, .return_, 1)]
set_option maxRecDepth 100000 in
theorem ckX8_init : aCkm cdX8_init cX8_init = true := by decide +kernel
def bCdL : List (List (Nat × Instr × Nat)) := [cdX0_init, cdX1_init, cdX2_init, cdX3_init, cdX4_init, cdX5_init, cdX6_init, cdX7_init, cdX8_init]
def bBytesL : List ByteArray := [cX0_init, cX1_init, cX2_init, cX3_init, cX4_init, cX5_init, cX6_init, cX7_init, cX8_init]
def bNameL : List MethodName := [yX0_init, yX1_init, yX2_init, yX3_init, yX4_init, yX5_init, yX6_init, yX7_init, yX8_init]
def bMLL : List Nat := [1, 2, 1, 1, 1, 1, 1, 2, 2]
def bNewL : List (Nat × Nat × Nat × Nat × Nat) := [(90007, 7, 77, 78, 60), (70007, 1, 85, 86, 61), (10009, 0, 91, 93, 62), (70026, 2, 174, 225, 65), (70032, 3, 176, 177, 63), (30009, 6, 182, 183, 64), (70039, 4, 221, 249, 66), (70045, 5, 223, 267, 67), (50009, 0, 272, 93, 62), (50018, 4, 274, 249, 66), (90010, 8, 907, 908, 68)]
def bArrL : List (Nat × Nat × Nat) := [(10009, 21, 91), (70026, 22, 174), (70039, 23, 221), (70045, 24, 223), (50009, 21, 272), (50018, 23, 274)]
/-- kind (0 Object(), 1 a constructor, 2 of a nest mate), class, places among the tables -/
def bInvL : List (Nat × Nat × Nat × Nat × Nat) := [(90009, 1, 7, 79, 80), (70001, 0, 0, 82, 0), (70009, 1, 1, 87, 88), (10003, 0, 0, 90, 0), (10052, 2, 0, 94, 95), (3, 0, 0, 97, 0), (70034, 2, 3, 178, 179), (30003, 0, 0, 181, 0), (30011, 2, 6, 184, 185), (60003, 0, 0, 187, 0), (70062, 2, 2, 226, 227), (20003, 0, 0, 229, 0), (70063, 2, 4, 250, 251), (40003, 0, 0, 253, 0), (70064, 2, 5, 268, 269), (50003, 0, 0, 271, 0), (50011, 2, 0, 273, 95), (50020, 2, 4, 275, 251), (90012, 1, 8, 909, 910), (80001, 0, 0, 912, 0)]
def bCodeIxL : List Nat := [96, 89, 228, 180, 252, 270, 186, 81, 911]
def bIniIxL : List Nat := [62, 61, 65, 63, 66, 67, 64, 60, 68]
theorem bObjI : aInT 83 (.instanceMethod Lib.objectInit) = true := by decide +kernel
theorem bObjC : aInT 84 (.code Lib.objectInit ⟨#[0xb1]⟩ 1 none) = true := by decide +kernel
theorem bIntC : aInT 124 (.arrayClass .int) = true := by decide +kernel
def bBytes (m : Nat) : ByteArray := bBytesL.getD m ByteArray.empty
def bName (m : Nat) : MethodName := bNameL.getD m yL_law
def bML (m : Nat) : Nat := bMLL.getD m 0
def bOwn (m : Nat) : String := aClsL.getD m ""
def bIns (m pc : Nat) : Option (Instr × Nat) := aLk (bCdL.getD m []) pc
def bNew (c i : Nat) : Option (Nat × Nat × Nat × Nat) := bif Nat.blt i 10000 then aLk bNewL (10000 * c + i) else none
def bArr (c i : Nat) : Option (Nat × Nat) := bif Nat.blt i 10000 then aLk bArrL (10000 * c + i) else none
def bInv (c i : Nat) : Option (Nat × Nat × Nat × Nat) := bif Nat.blt i 10000 then aLk bInvL (10000 * c + i) else none
/-- the class of an array's elements, by its shape: its number, its name -/
def bShI (sh : Nat) : Nat := ([0, 2, 4, 5] : List Nat).getD (sh - 21) 99
def bShC (sh : Nat) : String := aClsL.getD (bShI sh) ""
theorem bCkAll : ∀ q ∈ bCdL.zip bBytesL, aCkm q.1 q.2 = true := List.forall_mem_cons.mpr ⟨ckX0_init, List.forall_mem_cons.mpr ⟨ckX1_init, List.forall_mem_cons.mpr ⟨ckX2_init, List.forall_mem_cons.mpr ⟨ckX3_init, List.forall_mem_cons.mpr ⟨ckX4_init, List.forall_mem_cons.mpr ⟨ckX5_init, List.forall_mem_cons.mpr ⟨ckX6_init, List.forall_mem_cons.mpr ⟨ckX7_init, List.forall_mem_cons.mpr ⟨ckX8_init, fun _ h => absurd h List.not_mem_nil⟩⟩⟩⟩⟩⟩⟩⟩⟩
theorem bIns_decode {m pc : Nat} {i : Instr} {n : Nat} (hm : m < 9) (h : bIns m pc = some (i, n)) : decode (bBytes m) pc = .ok (i, n) := by
  have hq : (bCdL.getD m [], bBytesL.getD m ByteArray.empty) ∈ bCdL.zip bBytesL := by
    refine List.mem_of_getElem? (i := m) ?_
    match m, hm with
    | 0, _ => rfl
    | 1, _ => rfl
    | 2, _ => rfl
    | 3, _ => rfl
    | 4, _ => rfl
    | 5, _ => rfl
    | 6, _ => rfl
    | 7, _ => rfl
    | 8, _ => rfl
  have h1 := bCkAll _ hq
  unfold aCkm at h1
  have h2 := List.all_eq_true.mp h1 _ (aLk_mem h)
  exact of_decide_eq_true h2
def bNewCk (q : Nat × Nat × Nat × Nat × Nat) : Bool := decide (q.2.1 < 9) && aInT q.2.2.1 (.classLink (aOwn q.1) (q.1 % 10000) (aClsL.getD q.2.1 "")) && aInT q.2.2.2.1 (.instantiable (aClsL.getD q.2.1 "") (aNf q.2.1)) && aInT q.2.2.2.2 (.initialized (aClsL.getD q.2.1 ""))
set_option maxRecDepth 100000 in
theorem bNewAll : bNewL.all bNewCk = true := by decide +kernel
set_option maxRecDepth 100000 in
theorem bArrAll : bArrL.all (fun q => decide (21 ≤ q.2.1 ∧ q.2.1 ≤ 24) && aInT q.2.2 (.classLink (aOwn q.1) (q.1 % 10000) (bShC q.2.1))) = true := by decide +kernel
def bInvCk (q : Nat × Nat × Nat × Nat × Nat) : Bool := match q.2.1 with
  | 0 => aInT q.2.2.2.1 (.methodLink (aOwn q.1) (q.1 % 10000) Lib.objectInit)
  | 1 => decide (q.2.2.1 < 9) && aInT q.2.2.2.1 (.methodLink (aOwn q.1) (q.1 % 10000) (bName q.2.2.1)) && aInT q.2.2.2.2 (.instanceMethod (bName q.2.2.1))
  | _ => decide (q.2.2.1 < 9) && decide (lw_tbl[q.2.2.2.1]? = some (.methodLinkNest (aOwn q.1) (q.1 % 10000) (bName q.2.2.1) "TwelveShort")) && aInT q.2.2.2.2 (.instanceMethod (bName q.2.2.1))
set_option maxRecDepth 100000 in
theorem bInvAll : bInvL.all bInvCk = true := by decide +kernel
def bMck (m : Nat) : Bool := aInT (bCodeIxL.getD m 0) (.code (bName m) (bBytes m) (bML m) none) && aInT (bIniIxL.getD m 0) (.initialized (bName m).cls) && decide ((bName m).cls ≠ "java/lang/invoke/MethodHandle" ∧ (bName m).cls ≠ "java/lang/invoke/VarHandle") && decide ((parseMethodDescriptor (bName m).desc).map (fun d => d.parameters.length) = some 0) && plainName (bName m).cls && decide ((bName m).cls = bOwn m) && decide ((bName m).name = "<init>") && decide (1 ≤ bML m ∧ bML m ≤ 2)
set_option maxRecDepth 100000 in
theorem bMckAll : (List.range 9).all bMck = true := by decide +kernel
theorem bMck_ok {m : Nat} (h : m < 9) : Cond.code (bName m) (bBytes m) (bML m) none ∈ aTG ∧ Cond.initialized (bName m).cls ∈ aTG ∧ ((bName m).cls ≠ "java/lang/invoke/MethodHandle" ∧ (bName m).cls ≠ "java/lang/invoke/VarHandle") ∧ (parseMethodDescriptor (bName m).desc).map (fun d => d.parameters.length) = some 0 ∧ plainName (bName m).cls = true ∧ (bName m).cls = bOwn m ∧ (bName m).name = "<init>" ∧ 1 ≤ bML m ∧ bML m ≤ 2 := by
  have h1 := List.all_eq_true.mp bMckAll m (List.mem_range.mpr h)
  unfold bMck at h1
  simp only [Bool.and_eq_true, decide_eq_true_eq] at h1
  obtain ⟨⟨⟨⟨⟨⟨⟨a, b⟩, c⟩, d⟩, e⟩, f⟩, k⟩, i⟩ := h1
  exact ⟨aInT_mem a, aInT_mem b, c, d, e, f, k, i⟩
/-- a cell: an object (class, fields), ints (length, what was written), references (shape, length, what was written) -/
abbrev BE : Type := (Nat × List Value) ⊕ ((Nat × List (Nat × Int32)) ⊕ (Nat × Nat × List (Nat × Nat)))
abbrev BM : Type := List BE
/-- place, this, local 1, stack, memory -/
abbrev BS : Type := Nat × Nat × Option Int32 × List Value × BM
abbrev BT : Type := BS ⊕ ((Nat × Nat × List Value) ⊕ Unit)
def bI : List (Nat × Int32) → Nat → Int32
  | [], _ => 0
  | q :: l, j => if j = q.1 then q.2 else bI l j
def bR : List (Nat × Nat) → Nat → Option Nat
  | [], _ => none
  | q :: l, j => if j = q.1 then some q.2 else bR l j
def bSz (x : BE) : Nat := match x with
  | .inl o => o.2.length
  | .inr (.inl a) => a.1
  | .inr (.inr a) => a.2.1
def bSl (M : BM) : Nat := (M.map bSz).sum
def bDef (ci : Nat) : List Value := (List.range (aNf ci)).map (fun k => bif Nat.beq (aFc ci k) 2 then .null else .int 0)
/-- what a field takes -/
def bFit (ci k : Nat) (v : Value) : Bool := match v with
  | .int x => Nat.beq (aFc ci k) 0 || (Nat.beq (aFc ci k) 1 && (decide (x = 0) || decide (x = 1)))
  | .ref _ => Nat.beq (aFc ci k) 2
  | _ => false
def bGo (b : Bool) (t : BS) : Option BS := bif b then some t else none
def bTI (i : Instr) (n d m pc c : Nat) (lv : Option Int32) (st : List Value) (M : BM) : Option BS := match i with
  | .aload_n k => bGo (Nat.beq n 1 && Nat.beq k.val 0) ((pc + 1, c, lv, .ref c :: st, M))
  | .iload_n k => match lv with
    | some x => bGo (Nat.beq n 1 && Nat.beq k.val 1) ((pc + 1, c, lv, .int x :: st, M))
    | none => none
  | .istore_n k => match st with
    | .int x :: r => bGo (Nat.beq n 1 && (Nat.beq k.val 1 && Nat.blt 1 (bML m))) ((pc + 1, c, some x, r, M))
    | _ => none
  | .iinc k x => match lv with
    | some y => bGo (Nat.beq n 3 && (Nat.beq k 1 && Nat.blt 1 (bML m))) ((pc + 3, c, some (y + Int32.ofInt x), st, M))
    | none => none
  | .iconst k => bGo (Nat.beq n 1) ((pc + 1, c, lv, .int (Int32.ofInt k) :: st, M))
  | .bipush k => bGo (Nat.beq n 2) ((pc + 2, c, lv, .int (Int8.ofInt k).toInt32 :: st, M))
  | .sipush k => bGo (Nat.beq n 3) ((pc + 3, c, lv, .int (Int16.ofInt k).toInt32 :: st, M))
  | .dup => match st with
    | .ref x :: r => bGo (Nat.beq n 1) ((pc + 1, c, lv, .ref x :: .ref x :: r, M))
    | _ => none
  | .new x => match bNew m x with
    | some q => bGo (Nat.beq n 3) ((pc + 3, c, lv, .ref M.length :: st, M ++ [.inl (q.1, bDef q.1)]))
    | none => none
  | .newarray .int => match st with
    | .int k :: r => bGo (Nat.beq n 2 && (decide (¬ k < 0) && Nat.ble k.toNatClampNeg 4000)) ((pc + 2, c, lv, .ref M.length :: r, M ++ [.inr (.inl (k.toNatClampNeg, []))]))
    | _ => none
  | .anewarray x => match st with
    | .int k :: r => match bArr m x with
      | some q => bGo (Nat.beq n 3 && (decide (¬ k < 0) && Nat.ble k.toNatClampNeg 4000)) ((pc + 3, c, lv, .ref M.length :: r, M ++ [.inr (.inr (q.1, k.toNatClampNeg, []))]))
      | none => none
    | _ => none
  | .putfield x => match st with
    | v :: .ref a :: r => match aFld m x with
      | some f => match M[a]? with
        | some (.inl o) => bGo (Nat.beq n 3 && (Nat.beq f.1 o.1 && (Nat.beq f.1 m && (bFit f.1 f.2.1 v && Nat.blt f.2.1 o.2.length)))) ((pc + 3, c, lv, r, M.set a (.inl (o.1, o.2.set f.2.1 v))))
        | _ => none
      | none => none
    | _ => none
  | .getfield x => match st with
    | .ref a :: r => match aFld m x with
      | some f => match M[a]? with
        | some (.inl o) => match o.2[f.2.1]? with
          | some v => bGo (Nat.beq n 3 && Nat.beq f.1 o.1) ((pc + 3, c, lv, v :: r, M))
          | none => none
        | _ => none
      | none => none
    | _ => none
  | .arraylength => match st with
    | .ref a :: r => match M[a]? with
      | some (.inr (.inl q)) => bGo (Nat.beq n 1) ((pc + 1, c, lv, .int (nI q.1) :: r, M))
      | some (.inr (.inr q)) => bGo (Nat.beq n 1 && (Nat.ble 21 q.1 && Nat.ble q.1 24)) ((pc + 1, c, lv, .int (nI q.2.1) :: r, M))
      | _ => none
    | _ => none
  | .iastore => match st with
    | .int v :: .int j :: .ref a :: r => match M[a]? with
      | some (.inr (.inl q)) => bGo (Nat.beq n 1 && (decide (¬ j < 0) && Nat.blt j.toNatClampNeg q.1)) ((pc + 1, c, lv, r, M.set a (.inr (.inl (q.1, (j.toNatClampNeg, v) :: q.2)))))
      | _ => none
    | _ => none
  | .aastore => match st with
    | .ref v :: .int j :: .ref a :: r => match M[a]? with
      | some (.inr (.inr q)) => match M[v]? with
        | some (.inl o) => bGo (Nat.beq n 1 && (decide (¬ j < 0) && (Nat.blt j.toNatClampNeg q.2.1 && (Nat.ble 21 q.1 && (Nat.ble q.1 24 && Nat.beq (bShI q.1) o.1))))) ((pc + 1, c, lv, r, M.set a (.inr (.inr (q.1, q.2.1, (j.toNatClampNeg, v) :: q.2.2)))))
        | _ => none
      | _ => none
    | _ => none
  | .if_icmp .ge o => match st with
    | .int y :: .int x :: r => bGo (Nat.beq n 3 && decide (0 ≤ (pc : Int) + o)) ((if y ≤ x then aTg pc o else pc + 3, c, lv, r, M))
    | _ => none
  | .goto o => bGo (Nat.beq n 3 && decide (0 ≤ (pc : Int) + o)) ((aTg pc o, c, lv, st, M))
  | _ => none
def bCal (x n d m pc c : Nat) (lv : Option Int32) (st : List Value) (M : BM) : Option BT := match st with
  | .ref a :: r => match bInv m x with
    | some q => bif Nat.beq n 3 && (Nat.ble 1 d && Nat.ble (aCat r) 8) then some (bif Nat.beq q.1 0 then .inl (pc + 3, c, lv, r, M) else .inr (.inl (q.2.1, a, r))) else none
    | none => none
  | _ => none
def bStep (d m : Nat) (s : BS) : Option BT := match bIns m s.1 with
  | some (.invokespecial x, n) => bCal x n d m s.1 s.2.1 s.2.2.1 s.2.2.2.1 s.2.2.2.2
  | some (.return_, n) => match s.2.2.2.1 with
    | [] => bif Nat.beq n 1 then some (.inr (.inr ())) else none
    | _ => none
  | some (i, n) => (bTI i n d m s.1 s.2.1 s.2.2.1 s.2.2.2.1 s.2.2.2.2).map .inl
  | none => none
def bRun : Nat → Nat → Nat → BS → Option BM
  | 0, _, _, _ => none
  | f + 1, d, m, s => match bStep d m s with
    | some (.inl s') => bRun f d m s'
    | some (.inr (.inl q)) => match bRun f (d - 1) q.1 (0, q.2.1, none, [], s.2.2.2.2) with
      | some M1 => bRun f d m (s.1 + 3, s.2.1, s.2.2.1, q.2.2, M1)
      | none => none
    | some (.inr (.inr _)) => some s.2.2.2.2
    | none => none
