/-! WHAT THE TABLES SAY OF THE MACHINE: every entry decodes, every link is a word of the statement's tables. -/
def lw_G : List Cond := lw_tbl.filter goodWord
theorem lw_memG {w : Cond} (i : Nat) (h : lw_tbl[i]? = some w) (hg : goodWord w = true) : w ∈ lw_G := List.mem_filter.mpr ⟨List.mem_of_getElem? h, hg⟩
def nmM : Nat := nm - 1
def OkM (k : Nat) : Prop := Cond.code (mt k).1 (mt k).2.1 (mt k).2.2.1 (mt k).2.2.2.1 ∈ lw_G ∧ Cond.initialized (mt k).1.cls ∈ lw_G ∧ (mt k).1.cls = cnm (mt k).2.2.2.2.2.2 ∧ (plainName (mt k).1.cls = true ∧ (mt k).1.cls ≠ "java/lang/invoke/MethodHandle" ∧ (mt k).1.cls ≠ "java/lang/invoke/VarHandle") ∧ (parseMethodDescriptor (mt k).1.desc).map (fun d => d.parameters.length) = some (mt k).2.2.2.2.1 ∧ (mt k).2.2.1 ≤ 40 ∧
  (((mt k).2.2.2.2.2.1 = 0 ∧ Cond.instanceMethod (mt k).1 ∈ lw_G ∧ Cond.selects (mt k).1.cls (mt k).1 (mt k).1 ∈ lw_G) ∨ ((mt k).2.2.2.2.2.1 = 1 ∧ Cond.static (mt k).1 ∈ lw_G) ∨ ((mt k).2.2.2.2.2.1 = 2 ∧ (mt k).1.name = "<init>" ∧ (mt k).2.2.2.1 = none ∧ Cond.instanceMethod (mt k).1 ∈ lw_G))
def stnl : List (String × String) := [("", ""), ("SudokuGrader$Subsets", "KIND"), ("SudokuGrader$Subsets", "SIZE"), ("SudokuGrader$Trace", "WEIGHTS")]
def stn (a : Nat) : String × String := stnl.getD a ("", "")
def kndF (c : Nat) (t : Option FieldType) : Bool := match c % 4, t with
  | 0, some .int => true
  | 1, some .boolean => true
  | 2, some (.object _) => true
  | 2, some (.array _) => true
  | _, _ => false
def OkL (w : Nat) : Prop := match lkl[w]? with
  | none => False
  | some (o, x, kd, a, b, c) => (match kd with
    | 0 => ∃ (C : String) (T : u_T) (N : Nat), vwCl[a]? = some (C, T, N) ∧ b < N ∧ Cond.fieldLink (cnm o) x (T b).1 (T b).2.1 (T b).2.2.1 ∈ lw_G ∧ kndF c (parseFieldDescriptor (T b).2.2.1) = true ∧ (T b).2.2.2 = decide (4 ≤ c) ∧ (T b).1 = C
    | 1 => a < nmM ∧ (mt a).2.2.2.2.1 = b ∧ (mt a).2.2.2.2.2.1 = 0 ∧ Cond.methodLink (cnm o) x (mt a).1 ∈ lw_G ∧ ∃ q, vwCl[(mt a).2.2.2.2.2.2]? = some q ∧ q.1 = (mt a).1.cls
    | 2 => a < nmM ∧ (mt a).2.2.2.2.1 = b ∧ (mt a).2.2.2.2.2.1 = 1 ∧ ((c = 0 ∧ Cond.methodLink (cnm o) x (mt a).1 ∈ lw_G) ∨ (c = 1 ∧ Cond.methodLinkNest (cnm o) x (mt a).1 "SudokuGrader" ∈ nests))
    | 3 => a < nmM ∧ (mt a).2.2.2.2.1 = b ∧ (mt a).2.2.2.2.2.1 = 2 ∧ ((c = 0 ∧ Cond.methodLink (cnm o) x (mt a).1 ∈ lw_G) ∨ (c = 1 ∧ Cond.methodLinkNest (cnm o) x (mt a).1 "SudokuGrader" ∈ nests))
    | 4 => ∃ (C : String) (T : u_T), vwCl[a]? = some (C, T, b) ∧ Cond.classLink (cnm o) x C ∈ lw_G
    | 5 => Cond.constant (cnm o) x (Int32.ofNat a) ∈ lw_G
    | 6 => 1 ≤ a ∧ a < EXN ∧ Cond.fieldLink (cnm o) x (stn a).1 (stn a).2 "[I" ∈ lw_G
    | 7 => Cond.methodLink (cnm o) x objectInit ∈ lw_G
    | 8 => Cond.methodLink (cnm o) x Lib.Math.max.name ∈ lw_G ∧ Cond.static Lib.Math.max.name ∈ lw_G ∧ Cond.initialized "java/lang/Math" ∈ lw_G ∧ Cond.code Lib.Math.max.name Lib.Math.max.code 2 (some .int) ∈ lw_G
    | _ => False)
def lnI (i : Jvm.ClassFile.Instr) : Option Nat := match i with
  | .aload_n _ | .iload_n _ | .istore_n _ | .astore_n _ | .iconst _ | .lconst _ | .iadd | .isub | .imul | .iand | .ior | .ixor | .ishl | .ishr | .iushr | .idiv | .irem | .ineg | .land | .lor | .lshl | .lshr | .lcmp | .dup | .dup2 | .iaload | .laload | .iastore | .lastore | .arraylength | .ireturn | .return_ => some 1
  | .aload _ | .iload _ | .istore _ | .astore _ | .bipush _ | .ldc _ | .newarray _ => some 2
  | .iinc _ _ | .sipush _ | .ldc_w _ | .if_icmp _ _ | .ifCond _ _ | .goto _ | .getfield _ | .putfield _ | .new _ | .getstatic _ | .invokespecial _ | .invokestatic _ | .invokevirtual _ => some 3
  | _ => none
def lkI (i : Jvm.ClassFile.Instr) (a : Nat) : Option (Nat × Nat) := match i with
  | .getfield x => some (x, 0)
  | .putfield x => some (x, 0)
  | .invokevirtual x => some (x, 1)
  | .invokestatic x => some (x, if a = 9998 then 8 else 2)
  | .invokespecial x => some (x, if a = 9999 then 7 else 3)
  | .new x => some (x, 4)
  | .ldc x => some (x, 5)
  | .ldc_w x => some (x, 5)
  | .getstatic x => some (x, 6)
  | _ => none
def chkE (k pc : Nat) (e : EN) : Bool := decide (decode (mt k).2.1 pc = .ok (e.1, e.2.1)) && (match lnI e.1 with
    | some n => decide (e.2.1 = n)
    | none => true) && (match lkI e.1 e.2.2.1 with
    | some (x, kd) => decide (lkl[e.2.2.2.2.2]? = some ((mt k).2.2.2.2.2.2, x, kd, e.2.2.1, e.2.2.2.1, e.2.2.2.2.1))
    | none => true)
def chkK (k : Nat) : Bool := ((edl.getD k []).zipIdx).all (fun q => match q.1 with
  | none => true
  | some e => chkE k q.2 e)
theorem ds_0 : (parseMethodDescriptor "()I").map (fun d => d.parameters.length) = some 0 := by decide +kernel
theorem ds_1 : (parseMethodDescriptor "()V").map (fun d => d.parameters.length) = some 0 := by decide +kernel
theorem ds_2 : (parseMethodDescriptor "()Z").map (fun d => d.parameters.length) = some 0 := by decide +kernel
theorem ds_3 : (parseMethodDescriptor "(I)I").map (fun d => d.parameters.length) = some 1 := by decide +kernel
theorem ds_4 : (parseMethodDescriptor "(I)V").map (fun d => d.parameters.length) = some 1 := by decide +kernel
theorem ds_5 : (parseMethodDescriptor "(I)Z").map (fun d => d.parameters.length) = some 1 := by decide +kernel
theorem ds_6 : (parseMethodDescriptor "(II)I").map (fun d => d.parameters.length) = some 2 := by decide +kernel
theorem ds_7 : (parseMethodDescriptor "(II)V").map (fun d => d.parameters.length) = some 2 := by decide +kernel
theorem ds_8 : (parseMethodDescriptor "(II)Z").map (fun d => d.parameters.length) = some 2 := by decide +kernel
theorem ds_9 : (parseMethodDescriptor "(III)I").map (fun d => d.parameters.length) = some 3 := by decide +kernel
theorem ds_10 : (parseMethodDescriptor "(III)Z").map (fun d => d.parameters.length) = some 3 := by decide +kernel
theorem ds_11 : (parseMethodDescriptor "(IIII)V").map (fun d => d.parameters.length) = some 4 := by decide +kernel
theorem ds_12 : (parseMethodDescriptor "(IIIII)I").map (fun d => d.parameters.length) = some 5 := by decide +kernel
theorem ds_13 : (parseMethodDescriptor "(IIIII)V").map (fun d => d.parameters.length) = some 5 := by decide +kernel
theorem ds_14 : (parseMethodDescriptor "(LSudokuGrader$Board;)I").map (fun d => d.parameters.length) = some 1 := by decide +kernel
theorem ds_15 : (parseMethodDescriptor "(LSudokuGrader$Board;)V").map (fun d => d.parameters.length) = some 1 := by decide +kernel
theorem ds_16 : (parseMethodDescriptor "(LSudokuGrader$Board;I)I").map (fun d => d.parameters.length) = some 2 := by decide +kernel
theorem ds_17 : (parseMethodDescriptor "(LSudokuGrader$Board;I)V").map (fun d => d.parameters.length) = some 2 := by decide +kernel
theorem ds_18 : (parseMethodDescriptor "(LSudokuGrader$Board;II)I").map (fun d => d.parameters.length) = some 3 := by decide +kernel
theorem ds_19 : (parseMethodDescriptor "(LSudokuGrader$Board;II)V").map (fun d => d.parameters.length) = some 3 := by decide +kernel
theorem ds_20 : (parseMethodDescriptor "(LSudokuGrader$Board;II)Z").map (fun d => d.parameters.length) = some 3 := by decide +kernel
theorem ds_21 : (parseMethodDescriptor "(LSudokuGrader$Board;III)I").map (fun d => d.parameters.length) = some 4 := by decide +kernel
theorem ds_22 : (parseMethodDescriptor "(LSudokuGrader$Board;III)V").map (fun d => d.parameters.length) = some 4 := by decide +kernel
theorem ds_23 : (parseMethodDescriptor "(LSudokuGrader$Board;IIII)V").map (fun d => d.parameters.length) = some 5 := by decide +kernel
theorem ds_24 : (parseMethodDescriptor "(LSudokuGrader$Board;[III)I").map (fun d => d.parameters.length) = some 4 := by decide +kernel
theorem ds_25 : (parseMethodDescriptor "(LSudokuGrader$Shape;)V").map (fun d => d.parameters.length) = some 1 := by decide +kernel
theorem ds_26 : (parseMethodDescriptor "(LSudokuGrader$Shape;LSudokuGrader$Going;)V").map (fun d => d.parameters.length) = some 2 := by decide +kernel
theorem ds_27 : (parseMethodDescriptor "([I)I").map (fun d => d.parameters.length) = some 1 := by decide +kernel
theorem ds_28 : (parseMethodDescriptor "([I)V").map (fun d => d.parameters.length) = some 1 := by decide +kernel
theorem ds_29 : (parseMethodDescriptor "([II)V").map (fun d => d.parameters.length) = some 2 := by decide +kernel
theorem ds_30 : (parseMethodDescriptor "([II)Z").map (fun d => d.parameters.length) = some 2 := by decide +kernel
theorem ds_31 : (parseMethodDescriptor "([III)I").map (fun d => d.parameters.length) = some 3 := by decide +kernel
theorem ds_32 : (parseMethodDescriptor "([III)V").map (fun d => d.parameters.length) = some 3 := by decide +kernel
theorem ds_33 : (parseMethodDescriptor "([III)Z").map (fun d => d.parameters.length) = some 3 := by decide +kernel
theorem ds_34 : (parseMethodDescriptor "([IIII)I").map (fun d => d.parameters.length) = some 4 := by decide +kernel
theorem ds_35 : (parseMethodDescriptor "([IIII)Z").map (fun d => d.parameters.length) = some 4 := by decide +kernel
theorem ds_36 : (parseMethodDescriptor "([I[III)I").map (fun d => d.parameters.length) = some 4 := by decide +kernel
theorem ds_37 : (parseMethodDescriptor "([JII)V").map (fun d => d.parameters.length) = some 3 := by decide +kernel
theorem ds_38 : (parseMethodDescriptor "([JII)Z").map (fun d => d.parameters.length) = some 3 := by decide +kernel
theorem ds_39 : (parseMethodDescriptor "([JI[J[JI)V").map (fun d => d.parameters.length) = some 5 := by decide +kernel
theorem pn_8 : plainName "SudokuGrader" = true ∧ "SudokuGrader" ≠ "java/lang/invoke/MethodHandle" ∧ "SudokuGrader" ≠ "java/lang/invoke/VarHandle" := by decide +kernel
theorem pn_0 : plainName "SudokuGrader$Board" = true ∧ "SudokuGrader$Board" ≠ "java/lang/invoke/MethodHandle" ∧ "SudokuGrader$Board" ≠ "java/lang/invoke/VarHandle" := by decide +kernel
theorem pn_1 : plainName "SudokuGrader$Chains" = true ∧ "SudokuGrader$Chains" ≠ "java/lang/invoke/MethodHandle" ∧ "SudokuGrader$Chains" ≠ "java/lang/invoke/VarHandle" := by decide +kernel
theorem pn_2 : plainName "SudokuGrader$Going" = true ∧ "SudokuGrader$Going" ≠ "java/lang/invoke/MethodHandle" ∧ "SudokuGrader$Going" ≠ "java/lang/invoke/VarHandle" := by decide +kernel
theorem pn_3 : plainName "SudokuGrader$Rules" = true ∧ "SudokuGrader$Rules" ≠ "java/lang/invoke/MethodHandle" ∧ "SudokuGrader$Rules" ≠ "java/lang/invoke/VarHandle" := by decide +kernel
theorem pn_4 : plainName "SudokuGrader$Shape" = true ∧ "SudokuGrader$Shape" ≠ "java/lang/invoke/MethodHandle" ∧ "SudokuGrader$Shape" ≠ "java/lang/invoke/VarHandle" := by decide +kernel
theorem pn_5 : plainName "SudokuGrader$Solver" = true ∧ "SudokuGrader$Solver" ≠ "java/lang/invoke/MethodHandle" ∧ "SudokuGrader$Solver" ≠ "java/lang/invoke/VarHandle" := by decide +kernel
theorem pn_6 : plainName "SudokuGrader$Subsets" = true ∧ "SudokuGrader$Subsets" ≠ "java/lang/invoke/MethodHandle" ∧ "SudokuGrader$Subsets" ≠ "java/lang/invoke/VarHandle" := by decide +kernel
theorem pn_7 : plainName "SudokuGrader$Trace" = true ∧ "SudokuGrader$Trace" ≠ "java/lang/invoke/MethodHandle" ∧ "SudokuGrader$Trace" ≠ "java/lang/invoke/VarHandle" := by decide +kernel
theorem pn_9 : plainName "SudokuGraderModel" = true ∧ "SudokuGraderModel" ≠ "java/lang/invoke/MethodHandle" ∧ "SudokuGraderModel" ≠ "java/lang/invoke/VarHandle" := by decide +kernel
theorem pn_10 : plainName "java/lang/Integer" = true ∧ "java/lang/Integer" ≠ "java/lang/invoke/MethodHandle" ∧ "java/lang/Integer" ≠ "java/lang/invoke/VarHandle" := by decide +kernel
theorem pn_12 : plainName "java/util/Arrays" = true ∧ "java/util/Arrays" ≠ "java/lang/invoke/MethodHandle" ∧ "java/util/Arrays" ≠ "java/lang/invoke/VarHandle" := by decide +kernel
set_option maxRecDepth 20000 in
theorem okM_0 : OkM 0 := ⟨lw_memG 581 rfl rfl, lw_memG 68 rfl rfl, rfl, pn_0, ds_4, by decide, Or.inl ⟨rfl, lw_memG 579 rfl rfl, lw_memG 580 rfl rfl⟩⟩
set_option maxRecDepth 20000 in
theorem okM_1 : OkM 1 := ⟨lw_memG 412 rfl rfl, lw_memG 68 rfl rfl, rfl, pn_0, ds_4, by decide, Or.inl ⟨rfl, lw_memG 411 rfl rfl, lw_memG 3 rfl rfl⟩⟩
set_option maxRecDepth 20000 in
theorem okM_2 : OkM 2 := ⟨lw_memG 585 rfl rfl, lw_memG 68 rfl rfl, rfl, pn_0, ds_5, by decide, Or.inl ⟨rfl, lw_memG 583 rfl rfl, lw_memG 584 rfl rfl⟩⟩
set_option maxRecDepth 20000 in
theorem okM_3 : OkM 3 := ⟨lw_memG 136 rfl rfl, lw_memG 68 rfl rfl, rfl, pn_0, ds_25, by decide, Or.inr (Or.inr ⟨rfl, rfl, rfl, lw_memG 135 rfl rfl⟩)⟩
set_option maxRecDepth 20000 in
theorem okM_4 : OkM 4 := ⟨lw_memG 672 rfl rfl, lw_memG 68 rfl rfl, rfl, pn_0, ds_3, by decide, Or.inl ⟨rfl, lw_memG 670 rfl rfl, lw_memG 671 rfl rfl⟩⟩
set_option maxRecDepth 20000 in
theorem okM_5 : OkM 5 := ⟨lw_memG 402 rfl rfl, lw_memG 68 rfl rfl, rfl, pn_0, ds_28, by decide, Or.inl ⟨rfl, lw_memG 400 rfl rfl, lw_memG 401 rfl rfl⟩⟩
set_option maxRecDepth 20000 in
theorem okM_6 : OkM 6 := ⟨lw_memG 759 rfl rfl, lw_memG 68 rfl rfl, rfl, pn_0, ds_4, by decide, Or.inl ⟨rfl, lw_memG 757 rfl rfl, lw_memG 758 rfl rfl⟩⟩
set_option maxRecDepth 20000 in
theorem okM_7 : OkM 7 := ⟨lw_memG 624 rfl rfl, lw_memG 72 rfl rfl, rfl, pn_1, ds_4, by decide, Or.inl ⟨rfl, lw_memG 623 rfl rfl, lw_memG 22 rfl rfl⟩⟩
set_option maxRecDepth 20000 in
theorem okM_8 : OkM 8 := ⟨lw_memG 604 rfl rfl, lw_memG 72 rfl rfl, rfl, pn_1, ds_7, by decide, Or.inl ⟨rfl, lw_memG 603 rfl rfl, lw_memG 17 rfl rfl⟩⟩
set_option maxRecDepth 20000 in
theorem okM_9 : OkM 9 := ⟨lw_memG 600 rfl rfl, lw_memG 72 rfl rfl, rfl, pn_1, ds_7, by decide, Or.inl ⟨rfl, lw_memG 599 rfl rfl, lw_memG 16 rfl rfl⟩⟩
set_option maxRecDepth 20000 in
theorem okM_10 : OkM 10 := ⟨lw_memG 616 rfl rfl, lw_memG 72 rfl rfl, rfl, pn_1, ds_7, by decide, Or.inl ⟨rfl, lw_memG 615 rfl rfl, lw_memG 20 rfl rfl⟩⟩
set_option maxRecDepth 20000 in
theorem okM_11 : OkM 11 := ⟨lw_memG 636 rfl rfl, lw_memG 72 rfl rfl, rfl, pn_1, ds_20, by decide, Or.inl ⟨rfl, lw_memG 635 rfl rfl, lw_memG 24 rfl rfl⟩⟩
set_option maxRecDepth 20000 in
theorem okM_12 : OkM 12 := ⟨lw_memG 640 rfl rfl, lw_memG 72 rfl rfl, rfl, pn_1, ds_20, by decide, Or.inl ⟨rfl, lw_memG 639 rfl rfl, lw_memG 25 rfl rfl⟩⟩
set_option maxRecDepth 20000 in
theorem okM_13 : OkM 13 := ⟨lw_memG 230 rfl rfl, lw_memG 72 rfl rfl, rfl, pn_1, ds_26, by decide, Or.inr (Or.inr ⟨rfl, rfl, rfl, lw_memG 229 rfl rfl⟩)⟩
set_option maxRecDepth 20000 in
theorem okM_14 : OkM 14 := ⟨lw_memG 593 rfl rfl, lw_memG 72 rfl rfl, rfl, pn_1, ds_15, by decide, Or.inl ⟨rfl, lw_memG 592 rfl rfl, lw_memG 15 rfl rfl⟩⟩
set_option maxRecDepth 20000 in
theorem okM_15 : OkM 15 := ⟨lw_memG 612 rfl rfl, lw_memG 72 rfl rfl, rfl, pn_1, ds_17, by decide, Or.inl ⟨rfl, lw_memG 611 rfl rfl, lw_memG 19 rfl rfl⟩⟩
set_option maxRecDepth 20000 in
theorem okM_16 : OkM 16 := ⟨lw_memG 632 rfl rfl, lw_memG 72 rfl rfl, rfl, pn_1, ds_24, by decide, Or.inl ⟨rfl, lw_memG 630 rfl rfl, lw_memG 631 rfl rfl⟩⟩
set_option maxRecDepth 20000 in
theorem okM_17 : OkM 17 := ⟨lw_memG 589 rfl rfl, lw_memG 72 rfl rfl, rfl, pn_1, ds_14, by decide, Or.inl ⟨rfl, lw_memG 587 rfl rfl, lw_memG 588 rfl rfl⟩⟩
set_option maxRecDepth 20000 in
theorem okM_18 : OkM 18 := ⟨lw_memG 620 rfl rfl, lw_memG 72 rfl rfl, rfl, pn_1, ds_2, by decide, Or.inl ⟨rfl, lw_memG 619 rfl rfl, lw_memG 21 rfl rfl⟩⟩
set_option maxRecDepth 20000 in
theorem okM_19 : OkM 19 := ⟨lw_memG 608 rfl rfl, lw_memG 72 rfl rfl, rfl, pn_1, ds_18, by decide, Or.inl ⟨rfl, lw_memG 607 rfl rfl, lw_memG 18 rfl rfl⟩⟩
set_option maxRecDepth 20000 in
theorem okM_20 : OkM 20 := ⟨lw_memG 628 rfl rfl, lw_memG 72 rfl rfl, rfl, pn_1, ds_4, by decide, Or.inl ⟨rfl, lw_memG 627 rfl rfl, lw_memG 23 rfl rfl⟩⟩
set_option maxRecDepth 20000 in
theorem okM_21 : OkM 21 := ⟨lw_memG 526 rfl rfl, lw_memG 69 rfl rfl, rfl, pn_2, ds_19, by decide, Or.inl ⟨rfl, lw_memG 524 rfl rfl, lw_memG 525 rfl rfl⟩⟩
set_option maxRecDepth 20000 in
theorem okM_22 : OkM 22 := ⟨lw_memG 531 rfl rfl, lw_memG 69 rfl rfl, rfl, pn_2, ds_22, by decide, Or.inl ⟨rfl, lw_memG 529 rfl rfl, lw_memG 530 rfl rfl⟩⟩
set_option maxRecDepth 20000 in
theorem okM_23 : OkM 23 := ⟨lw_memG 171 rfl rfl, lw_memG 69 rfl rfl, rfl, pn_2, ds_25, by decide, Or.inr (Or.inr ⟨rfl, rfl, rfl, lw_memG 170 rfl rfl⟩)⟩
set_option maxRecDepth 20000 in
theorem okM_24 : OkM 24 := ⟨lw_memG 577 rfl rfl, lw_memG 69 rfl rfl, rfl, pn_2, ds_15, by decide, Or.inl ⟨rfl, lw_memG 575 rfl rfl, lw_memG 576 rfl rfl⟩⟩
set_option maxRecDepth 20000 in
theorem okM_25 : OkM 25 := ⟨lw_memG 190 rfl rfl, lw_memG 70 rfl rfl, rfl, pn_3, ds_26, by decide, Or.inr (Or.inr ⟨rfl, rfl, rfl, lw_memG 189 rfl rfl⟩)⟩
set_option maxRecDepth 20000 in
theorem okM_26 : OkM 26 := ⟨lw_memG 535 rfl rfl, lw_memG 70 rfl rfl, rfl, pn_3, ds_21, by decide, Or.inl ⟨rfl, lw_memG 533 rfl rfl, lw_memG 534 rfl rfl⟩⟩
set_option maxRecDepth 20000 in
theorem okM_27 : OkM 27 := ⟨lw_memG 564 rfl rfl, lw_memG 70 rfl rfl, rfl, pn_3, ds_22, by decide, Or.inl ⟨rfl, lw_memG 563 rfl rfl, lw_memG 14 rfl rfl⟩⟩
set_option maxRecDepth 20000 in
theorem okM_28 : OkM 28 := ⟨lw_memG 560 rfl rfl, lw_memG 70 rfl rfl, rfl, pn_3, ds_19, by decide, Or.inl ⟨rfl, lw_memG 559 rfl rfl, lw_memG 13 rfl rfl⟩⟩
set_option maxRecDepth 20000 in
theorem okM_29 : OkM 29 := ⟨lw_memG 478 rfl rfl, lw_memG 70 rfl rfl, rfl, pn_3, ds_16, by decide, Or.inl ⟨rfl, lw_memG 476 rfl rfl, lw_memG 477 rfl rfl⟩⟩
set_option maxRecDepth 20000 in
theorem okM_30 : OkM 30 := ⟨lw_memG 482 rfl rfl, lw_memG 70 rfl rfl, rfl, pn_3, ds_16, by decide, Or.inl ⟨rfl, lw_memG 481 rfl rfl, lw_memG 5 rfl rfl⟩⟩
set_option maxRecDepth 20000 in
theorem okM_31 : OkM 31 := ⟨lw_memG 544 rfl rfl, lw_memG 70 rfl rfl, rfl, pn_3, ds_19, by decide, Or.inl ⟨rfl, lw_memG 543 rfl rfl, lw_memG 11 rfl rfl⟩⟩
set_option maxRecDepth 20000 in
theorem okM_32 : OkM 32 := ⟨lw_memG 556 rfl rfl, lw_memG 70 rfl rfl, rfl, pn_3, ds_19, by decide, Or.inl ⟨rfl, lw_memG 555 rfl rfl, lw_memG 12 rfl rfl⟩⟩
set_option maxRecDepth 20000 in
theorem okM_33 : OkM 33 := ⟨lw_memG 539 rfl rfl, lw_memG 70 rfl rfl, rfl, pn_3, ds_19, by decide, Or.inl ⟨rfl, lw_memG 538 rfl rfl, lw_memG 10 rfl rfl⟩⟩
set_option maxRecDepth 20000 in
theorem okM_34 : OkM 34 := ⟨lw_memG 96 rfl rfl, lw_memG 67 rfl rfl, rfl, pn_4, ds_11, by decide, Or.inl ⟨rfl, lw_memG 95 rfl rfl, lw_memG 0 rfl rfl⟩⟩
set_option maxRecDepth 20000 in
theorem okM_35 : OkM 35 := ⟨lw_memG 91 rfl rfl, lw_memG 67 rfl rfl, rfl, pn_4, ds_1, by decide, Or.inr (Or.inr ⟨rfl, rfl, rfl, lw_memG 90 rfl rfl⟩)⟩
set_option maxRecDepth 20000 in
theorem okM_36 : OkM 36 := ⟨lw_memG 100 rfl rfl, lw_memG 67 rfl rfl, rfl, pn_4, ds_4, by decide, Or.inl ⟨rfl, lw_memG 99 rfl rfl, lw_memG 1 rfl rfl⟩⟩
set_option maxRecDepth 20000 in
theorem okM_37 : OkM 37 := ⟨lw_memG 104 rfl rfl, lw_memG 67 rfl rfl, rfl, pn_4, ds_8, by decide, Or.inl ⟨rfl, lw_memG 102 rfl rfl, lw_memG 103 rfl rfl⟩⟩
set_option maxRecDepth 20000 in
theorem okM_38 : OkM 38 := ⟨lw_memG 710 rfl rfl, lw_memG 74 rfl rfl, rfl, pn_5, ds_28, by decide, Or.inl ⟨rfl, lw_memG 708 rfl rfl, lw_memG 709 rfl rfl⟩⟩
set_option maxRecDepth 20000 in
theorem okM_39 : OkM 39 := ⟨lw_memG 720 rfl rfl, lw_memG 74 rfl rfl, rfl, pn_5, ds_1, by decide, Or.inl ⟨rfl, lw_memG 719 rfl rfl, lw_memG 29 rfl rfl⟩⟩
set_option maxRecDepth 20000 in
theorem okM_40 : OkM 40 := ⟨lw_memG 724 rfl rfl, lw_memG 74 rfl rfl, rfl, pn_5, ds_4, by decide, Or.inl ⟨rfl, lw_memG 723 rfl rfl, lw_memG 30 rfl rfl⟩⟩
set_option maxRecDepth 20000 in
theorem okM_41 : OkM 41 := ⟨lw_memG 734 rfl rfl, lw_memG 74 rfl rfl, rfl, pn_5, ds_4, by decide, Or.inl ⟨rfl, lw_memG 733 rfl rfl, lw_memG 32 rfl rfl⟩⟩
set_option maxRecDepth 20000 in
theorem okM_42 : OkM 42 := ⟨lw_memG 746 rfl rfl, lw_memG 74 rfl rfl, rfl, pn_5, ds_0, by decide, Or.inl ⟨rfl, lw_memG 745 rfl rfl, lw_memG 35 rfl rfl⟩⟩
set_option maxRecDepth 20000 in
theorem okM_43 : OkM 43 := ⟨lw_memG 420 rfl rfl, lw_memG 74 rfl rfl, rfl, pn_5, ds_1, by decide, Or.inl ⟨rfl, lw_memG 418 rfl rfl, lw_memG 419 rfl rfl⟩⟩
set_option maxRecDepth 20000 in
theorem okM_44 : OkM 44 := ⟨lw_memG 344 rfl rfl, lw_memG 74 rfl rfl, rfl, pn_5, ds_25, by decide, Or.inr (Or.inr ⟨rfl, rfl, rfl, lw_memG 343 rfl rfl⟩)⟩
set_option maxRecDepth 20000 in
theorem okM_45 : OkM 45 := ⟨lw_memG 738 rfl rfl, lw_memG 74 rfl rfl, rfl, pn_5, ds_7, by decide, Or.inl ⟨rfl, lw_memG 737 rfl rfl, lw_memG 33 rfl rfl⟩⟩
set_option maxRecDepth 20000 in
theorem okM_46 : OkM 46 := ⟨lw_memG 751 rfl rfl, lw_memG 74 rfl rfl, rfl, pn_5, ds_1, by decide, Or.inl ⟨rfl, lw_memG 750 rfl rfl, lw_memG 36 rfl rfl⟩⟩
set_option maxRecDepth 20000 in
theorem okM_47 : OkM 47 := ⟨lw_memG 715 rfl rfl, lw_memG 74 rfl rfl, rfl, pn_5, ds_7, by decide, Or.inl ⟨rfl, lw_memG 714 rfl rfl, lw_memG 28 rfl rfl⟩⟩
set_option maxRecDepth 20000 in
theorem okM_48 : OkM 48 := ⟨lw_memG 729 rfl rfl, lw_memG 74 rfl rfl, rfl, pn_5, ds_7, by decide, Or.inl ⟨rfl, lw_memG 728 rfl rfl, lw_memG 31 rfl rfl⟩⟩
set_option maxRecDepth 20000 in
theorem okM_49 : OkM 49 := ⟨lw_memG 742 rfl rfl, lw_memG 74 rfl rfl, rfl, pn_5, ds_1, by decide, Or.inl ⟨rfl, lw_memG 741 rfl rfl, lw_memG 34 rfl rfl⟩⟩
set_option maxRecDepth 20000 in
theorem okM_50 : OkM 50 := ⟨lw_memG 755 rfl rfl, lw_memG 74 rfl rfl, rfl, pn_5, ds_1, by decide, Or.inl ⟨rfl, lw_memG 753 rfl rfl, lw_memG 754 rfl rfl⟩⟩
set_option maxRecDepth 20000 in
theorem okM_51 : OkM 51 := ⟨lw_memG 498 rfl rfl, lw_memG 71 rfl rfl, rfl, pn_6, ds_6, by decide, Or.inr (Or.inl ⟨rfl, lw_memG 497 rfl rfl⟩)⟩
set_option maxRecDepth 20000 in
theorem okM_52 : OkM 52 := ⟨lw_memG 486 rfl rfl, lw_memG 71 rfl rfl, rfl, pn_6, ds_18, by decide, Or.inl ⟨rfl, lw_memG 484 rfl rfl, lw_memG 485 rfl rfl⟩⟩
set_option maxRecDepth 20000 in
theorem okM_53 : OkM 53 := ⟨lw_memG 495 rfl rfl, lw_memG 71 rfl rfl, rfl, pn_6, ds_3, by decide, Or.inr (Or.inl ⟨rfl, lw_memG 494 rfl rfl⟩)⟩
set_option maxRecDepth 20000 in
theorem okM_54 : OkM 54 := ⟨lw_memG 196 rfl rfl, lw_memG 71 rfl rfl, rfl, pn_6, ds_26, by decide, Or.inr (Or.inr ⟨rfl, rfl, rfl, lw_memG 195 rfl rfl⟩)⟩
set_option maxRecDepth 20000 in
theorem okM_55 : OkM 55 := ⟨lw_memG 490 rfl rfl, lw_memG 71 rfl rfl, rfl, pn_6, ds_20, by decide, Or.inl ⟨rfl, lw_memG 489 rfl rfl, lw_memG 6 rfl rfl⟩⟩
set_option maxRecDepth 20000 in
theorem okM_56 : OkM 56 := ⟨lw_memG 518 rfl rfl, lw_memG 71 rfl rfl, rfl, pn_6, ds_21, by decide, Or.inl ⟨rfl, lw_memG 516 rfl rfl, lw_memG 517 rfl rfl⟩⟩
set_option maxRecDepth 20000 in
theorem okM_57 : OkM 57 := ⟨lw_memG 522 rfl rfl, lw_memG 71 rfl rfl, rfl, pn_6, ds_23, by decide, Or.inl ⟨rfl, lw_memG 521 rfl rfl, lw_memG 9 rfl rfl⟩⟩
set_option maxRecDepth 20000 in
theorem okM_58 : OkM 58 := ⟨lw_memG 504 rfl rfl, lw_memG 71 rfl rfl, rfl, pn_6, ds_12, by decide, Or.inl ⟨rfl, lw_memG 503 rfl rfl, lw_memG 7 rfl rfl⟩⟩
set_option maxRecDepth 20000 in
theorem okM_59 : OkM 59 := ⟨lw_memG 514 rfl rfl, lw_memG 71 rfl rfl, rfl, pn_6, ds_8, by decide, Or.inl ⟨rfl, lw_memG 513 rfl rfl, lw_memG 8 rfl rfl⟩⟩
set_option maxRecDepth 20000 in
theorem okM_60 : OkM 60 := ⟨lw_memG 416 rfl rfl, lw_memG 73 rfl rfl, rfl, pn_7, ds_1, by decide, Or.inl ⟨rfl, lw_memG 414 rfl rfl, lw_memG 415 rfl rfl⟩⟩
set_option maxRecDepth 20000 in
theorem okM_61 : OkM 61 := ⟨lw_memG 664 rfl rfl, lw_memG 73 rfl rfl, rfl, pn_7, ds_5, by decide, Or.inl ⟨rfl, lw_memG 662 rfl rfl, lw_memG 663 rfl rfl⟩⟩
set_option maxRecDepth 20000 in
theorem okM_62 : OkM 62 := ⟨lw_memG 290 rfl rfl, lw_memG 73 rfl rfl, rfl, pn_7, ds_1, by decide, Or.inr (Or.inr ⟨rfl, rfl, rfl, lw_memG 289 rfl rfl⟩)⟩
set_option maxRecDepth 20000 in
theorem okM_63 : OkM 63 := ⟨lw_memG 680 rfl rfl, lw_memG 73 rfl rfl, rfl, pn_7, ds_3, by decide, Or.inl ⟨rfl, lw_memG 678 rfl rfl, lw_memG 679 rfl rfl⟩⟩
set_option maxRecDepth 20000 in
theorem okM_64 : OkM 64 := ⟨lw_memG 568 rfl rfl, lw_memG 73 rfl rfl, rfl, pn_7, ds_13, by decide, Or.inl ⟨rfl, lw_memG 566 rfl rfl, lw_memG 567 rfl rfl⟩⟩
set_option maxRecDepth 20000 in
theorem okM_65 : OkM 65 := ⟨lw_memG 647 rfl rfl, lw_memG 73 rfl rfl, rfl, pn_7, ds_29, by decide, Or.inl ⟨rfl, lw_memG 645 rfl rfl, lw_memG 646 rfl rfl⟩⟩
set_option maxRecDepth 20000 in
theorem okM_66 : OkM 66 := ⟨lw_memG 408 rfl rfl, lw_memG 66 rfl rfl, rfl, pn_8, ds_3, by decide, Or.inr (Or.inl ⟨rfl, lw_memG 407 rfl rfl⟩)⟩
set_option maxRecDepth 20000 in
theorem okM_67 : OkM 67 := ⟨lw_memG 651 rfl rfl, lw_memG 66 rfl rfl, rfl, pn_8, ds_6, by decide, Or.inl ⟨rfl, lw_memG 649 rfl rfl, lw_memG 650 rfl rfl⟩⟩
set_option maxRecDepth 20000 in
theorem okM_68 : OkM 68 := ⟨lw_memG 688 rfl rfl, lw_memG 66 rfl rfl, rfl, pn_8, ds_9, by decide, Or.inl ⟨rfl, lw_memG 686 rfl rfl, lw_memG 687 rfl rfl⟩⟩
set_option maxRecDepth 20000 in
theorem okM_69 : OkM 69 := ⟨lw_memG 702 rfl rfl, lw_memG 66 rfl rfl, rfl, pn_8, ds_3, by decide, Or.inl ⟨rfl, lw_memG 701 rfl rfl, lw_memG 27 rfl rfl⟩⟩
set_option maxRecDepth 20000 in
theorem okM_70 : OkM 70 := ⟨lw_memG 458 rfl rfl, lw_memG 66 rfl rfl, rfl, pn_8, ds_8, by decide, Or.inl ⟨rfl, lw_memG 456 rfl rfl, lw_memG 457 rfl rfl⟩⟩
set_option maxRecDepth 20000 in
theorem okM_71 : OkM 71 := ⟨lw_memG 668 rfl rfl, lw_memG 66 rfl rfl, rfl, pn_8, ds_6, by decide, Or.inl ⟨rfl, lw_memG 666 rfl rfl, lw_memG 667 rfl rfl⟩⟩
set_option maxRecDepth 20000 in
theorem okM_72 : OkM 72 := ⟨lw_memG 470 rfl rfl, lw_memG 66 rfl rfl, rfl, pn_8, ds_3, by decide, Or.inl ⟨rfl, lw_memG 468 rfl rfl, lw_memG 469 rfl rfl⟩⟩
set_option maxRecDepth 20000 in
theorem okM_73 : OkM 73 := ⟨lw_memG 83 rfl rfl, lw_memG 66 rfl rfl, rfl, pn_8, ds_1, by decide, Or.inr (Or.inr ⟨rfl, rfl, rfl, lw_memG 82 rfl rfl⟩)⟩
set_option maxRecDepth 20000 in
theorem okM_74 : OkM 74 := ⟨lw_memG 461 rfl rfl, lw_memG 66 rfl rfl, rfl, pn_8, ds_5, by decide, Or.inr (Or.inl ⟨rfl, lw_memG 460 rfl rfl⟩)⟩
set_option maxRecDepth 20000 in
theorem okM_75 : OkM 75 := ⟨lw_memG 547 rfl rfl, lw_memG 66 rfl rfl, rfl, pn_8, ds_5, by decide, Or.inr (Or.inl ⟨rfl, lw_memG 546 rfl rfl⟩)⟩
set_option maxRecDepth 20000 in
theorem okM_76 : OkM 76 := ⟨lw_memG 676 rfl rfl, lw_memG 66 rfl rfl, rfl, pn_8, ds_6, by decide, Or.inl ⟨rfl, lw_memG 674 rfl rfl, lw_memG 675 rfl rfl⟩⟩
set_option maxRecDepth 20000 in
theorem okM_77 : OkM 77 := ⟨lw_memG 684 rfl rfl, lw_memG 66 rfl rfl, rfl, pn_8, ds_3, by decide, Or.inl ⟨rfl, lw_memG 682 rfl rfl, lw_memG 683 rfl rfl⟩⟩
set_option maxRecDepth 20000 in
theorem okM_78 : OkM 78 := ⟨lw_memG 550 rfl rfl, lw_memG 66 rfl rfl, rfl, pn_8, ds_3, by decide, Or.inr (Or.inl ⟨rfl, lw_memG 549 rfl rfl⟩)⟩
set_option maxRecDepth 20000 in
theorem okM_79 : OkM 79 := ⟨lw_memG 698 rfl rfl, lw_memG 66 rfl rfl, rfl, pn_8, ds_3, by decide, Or.inl ⟨rfl, lw_memG 696 rfl rfl, lw_memG 697 rfl rfl⟩⟩
set_option maxRecDepth 20000 in
theorem okM_80 : OkM 80 := ⟨lw_memG 465 rfl rfl, lw_memG 66 rfl rfl, rfl, pn_8, ds_8, by decide, Or.inl ⟨rfl, lw_memG 463 rfl rfl, lw_memG 464 rfl rfl⟩⟩
set_option maxRecDepth 20000 in
theorem okM_81 : OkM 81 := ⟨lw_memG 706 rfl rfl, lw_memG 66 rfl rfl, rfl, pn_8, ds_3, by decide, Or.inl ⟨rfl, lw_memG 704 rfl rfl, lw_memG 705 rfl rfl⟩⟩
set_option maxRecDepth 20000 in
theorem okM_82 : OkM 82 := ⟨lw_memG 763 rfl rfl, lw_memG 66 rfl rfl, rfl, pn_8, ds_3, by decide, Or.inl ⟨rfl, lw_memG 761 rfl rfl, lw_memG 762 rfl rfl⟩⟩
set_option maxRecDepth 20000 in
theorem okM_83 : OkM 83 := ⟨lw_memG 767 rfl rfl, lw_memG 66 rfl rfl, rfl, pn_8, ds_6, by decide, Or.inl ⟨rfl, lw_memG 765 rfl rfl, lw_memG 766 rfl rfl⟩⟩
set_option maxRecDepth 20000 in
theorem okM_84 : OkM 84 := ⟨lw_memG 398 rfl rfl, lw_memG 66 rfl rfl, rfl, pn_8, ds_1, by decide, Or.inl ⟨rfl, lw_memG 397 rfl rfl, lw_memG 2 rfl rfl⟩⟩
set_option maxRecDepth 20000 in
theorem okM_85 : OkM 85 := ⟨lw_memG 660 rfl rfl, lw_memG 66 rfl rfl, rfl, pn_8, ds_6, by decide, Or.inl ⟨rfl, lw_memG 658 rfl rfl, lw_memG 659 rfl rfl⟩⟩
set_option maxRecDepth 20000 in
theorem okM_86 : OkM 86 := ⟨lw_memG 474 rfl rfl, lw_memG 66 rfl rfl, rfl, pn_8, ds_2, by decide, Or.inl ⟨rfl, lw_memG 473 rfl rfl, lw_memG 4 rfl rfl⟩⟩
set_option maxRecDepth 20000 in
theorem okM_87 : OkM 87 := ⟨lw_memG 693 rfl rfl, lw_memG 66 rfl rfl, rfl, pn_8, ds_3, by decide, Or.inl ⟨rfl, lw_memG 692 rfl rfl, lw_memG 26 rfl rfl⟩⟩
set_option maxRecDepth 20000 in
theorem okM_88 : OkM 88 := ⟨lw_memG 656 rfl rfl, lw_memG 66 rfl rfl, rfl, pn_8, ds_3, by decide, Or.inl ⟨rfl, lw_memG 654 rfl rfl, lw_memG 655 rfl rfl⟩⟩
set_option maxRecDepth 20000 in
theorem okM_89 : OkM 89 := ⟨lw_memG 1030 rfl rfl, lw_memG 76 rfl rfl, rfl, pn_9, ds_37, by decide, Or.inr (Or.inl ⟨rfl, lw_memG 1029 rfl rfl⟩)⟩
set_option maxRecDepth 20000 in
theorem okM_90 : OkM 90 := ⟨lw_memG 948 rfl rfl, lw_memG 76 rfl rfl, rfl, pn_9, ds_8, by decide, Or.inr (Or.inl ⟨rfl, lw_memG 947 rfl rfl⟩)⟩
set_option maxRecDepth 20000 in
theorem okM_91 : OkM 91 := ⟨lw_memG 777 rfl rfl, lw_memG 76 rfl rfl, rfl, pn_9, ds_1, by decide, Or.inl ⟨rfl, lw_memG 776 rfl rfl, lw_memG 37 rfl rfl⟩⟩
set_option maxRecDepth 20000 in
theorem okM_92 : OkM 92 := ⟨lw_memG 964 rfl rfl, lw_memG 76 rfl rfl, rfl, pn_9, ds_3, by decide, Or.inr (Or.inl ⟨rfl, lw_memG 963 rfl rfl⟩)⟩
set_option maxRecDepth 20000 in
theorem okM_93 : OkM 93 := ⟨lw_memG 1052 rfl rfl, lw_memG 76 rfl rfl, rfl, pn_9, ds_36, by decide, Or.inl ⟨rfl, lw_memG 1051 rfl rfl, lw_memG 60 rfl rfl⟩⟩
set_option maxRecDepth 20000 in
theorem okM_94 : OkM 94 := ⟨lw_memG 1056 rfl rfl, lw_memG 76 rfl rfl, rfl, pn_9, ds_6, by decide, Or.inl ⟨rfl, lw_memG 1054 rfl rfl, lw_memG 1055 rfl rfl⟩⟩
set_option maxRecDepth 20000 in
theorem okM_95 : OkM 95 := ⟨lw_memG 961 rfl rfl, lw_memG 76 rfl rfl, rfl, pn_9, ds_6, by decide, Or.inr (Or.inl ⟨rfl, lw_memG 960 rfl rfl⟩)⟩
set_option maxRecDepth 20000 in
theorem okM_96 : OkM 96 := ⟨lw_memG 1013 rfl rfl, lw_memG 76 rfl rfl, rfl, pn_9, ds_27, by decide, Or.inl ⟨rfl, lw_memG 1012 rfl rfl, lw_memG 54 rfl rfl⟩⟩
set_option maxRecDepth 20000 in
theorem okM_97 : OkM 97 := ⟨lw_memG 1080 rfl rfl, lw_memG 76 rfl rfl, rfl, pn_9, ds_9, by decide, Or.inl ⟨rfl, lw_memG 1078 rfl rfl, lw_memG 1079 rfl rfl⟩⟩
set_option maxRecDepth 20000 in
theorem okM_98 : OkM 98 := ⟨lw_memG 975 rfl rfl, lw_memG 76 rfl rfl, rfl, pn_9, ds_33, by decide, Or.inl ⟨rfl, lw_memG 974 rfl rfl, lw_memG 46 rfl rfl⟩⟩
set_option maxRecDepth 20000 in
theorem okM_99 : OkM 99 := ⟨lw_memG 941 rfl rfl, lw_memG 76 rfl rfl, rfl, pn_9, ds_1, by decide, Or.inl ⟨rfl, lw_memG 940 rfl rfl, lw_memG 42 rfl rfl⟩⟩
set_option maxRecDepth 20000 in
theorem okM_100 : OkM 100 := ⟨lw_memG 1096 rfl rfl, lw_memG 76 rfl rfl, rfl, pn_9, ds_1, by decide, Or.inl ⟨rfl, lw_memG 1095 rfl rfl, lw_memG 62 rfl rfl⟩⟩
set_option maxRecDepth 20000 in
theorem okM_101 : OkM 101 := ⟨lw_memG 929 rfl rfl, lw_memG 76 rfl rfl, rfl, pn_9, ds_30, by decide, Or.inl ⟨rfl, lw_memG 928 rfl rfl, lw_memG 39 rfl rfl⟩⟩
set_option maxRecDepth 20000 in
theorem okM_102 : OkM 102 := ⟨lw_memG 998 rfl rfl, lw_memG 76 rfl rfl, rfl, pn_9, ds_30, by decide, Or.inl ⟨rfl, lw_memG 997 rfl rfl, lw_memG 51 rfl rfl⟩⟩
set_option maxRecDepth 20000 in
theorem okM_103 : OkM 103 := ⟨lw_memG 990 rfl rfl, lw_memG 76 rfl rfl, rfl, pn_9, ds_35, by decide, Or.inl ⟨rfl, lw_memG 989 rfl rfl, lw_memG 49 rfl rfl⟩⟩
set_option maxRecDepth 20000 in
theorem okM_104 : OkM 104 := ⟨lw_memG 933 rfl rfl, lw_memG 76 rfl rfl, rfl, pn_9, ds_35, by decide, Or.inl ⟨rfl, lw_memG 932 rfl rfl, lw_memG 40 rfl rfl⟩⟩
set_option maxRecDepth 20000 in
theorem okM_105 : OkM 105 := ⟨lw_memG 909 rfl rfl, lw_memG 76 rfl rfl, rfl, pn_9, ds_8, by decide, Or.inl ⟨rfl, lw_memG 907 rfl rfl, lw_memG 908 rfl rfl⟩⟩
set_option maxRecDepth 20000 in
theorem okM_106 : OkM 106 := ⟨lw_memG 1006 rfl rfl, lw_memG 76 rfl rfl, rfl, pn_9, ds_28, by decide, Or.inl ⟨rfl, lw_memG 1005 rfl rfl, lw_memG 53 rfl rfl⟩⟩
set_option maxRecDepth 20000 in
theorem okM_107 : OkM 107 := ⟨lw_memG 1037 rfl rfl, lw_memG 76 rfl rfl, rfl, pn_9, ds_8, by decide, Or.inl ⟨rfl, lw_memG 1036 rfl rfl, lw_memG 57 rfl rfl⟩⟩
set_option maxRecDepth 20000 in
theorem okM_108 : OkM 108 := ⟨lw_memG 1068 rfl rfl, lw_memG 76 rfl rfl, rfl, pn_9, ds_6, by decide, Or.inl ⟨rfl, lw_memG 1066 rfl rfl, lw_memG 1067 rfl rfl⟩⟩
set_option maxRecDepth 20000 in
theorem okM_109 : OkM 109 := ⟨lw_memG 921 rfl rfl, lw_memG 76 rfl rfl, rfl, pn_9, ds_3, by decide, Or.inl ⟨rfl, lw_memG 919 rfl rfl, lw_memG 920 rfl rfl⟩⟩
set_option maxRecDepth 20000 in
theorem okM_110 : OkM 110 := ⟨lw_memG 1044 rfl rfl, lw_memG 76 rfl rfl, rfl, pn_9, ds_38, by decide, Or.inr (Or.inl ⟨rfl, lw_memG 1043 rfl rfl⟩)⟩
set_option maxRecDepth 20000 in
theorem okM_111 : OkM 111 := ⟨lw_memG 986 rfl rfl, lw_memG 76 rfl rfl, rfl, pn_9, ds_35, by decide, Or.inl ⟨rfl, lw_memG 985 rfl rfl, lw_memG 48 rfl rfl⟩⟩
set_option maxRecDepth 20000 in
theorem okM_112 : OkM 112 := ⟨lw_memG 955 rfl rfl, lw_memG 76 rfl rfl, rfl, pn_9, ds_33, by decide, Or.inl ⟨rfl, lw_memG 954 rfl rfl, lw_memG 44 rfl rfl⟩⟩
set_option maxRecDepth 20000 in
theorem okM_113 : OkM 113 := ⟨lw_memG 951 rfl rfl, lw_memG 76 rfl rfl, rfl, pn_9, ds_6, by decide, Or.inr (Or.inl ⟨rfl, lw_memG 950 rfl rfl⟩)⟩
set_option maxRecDepth 20000 in
theorem okM_114 : OkM 114 := ⟨lw_memG 1041 rfl rfl, lw_memG 76 rfl rfl, rfl, pn_9, ds_39, by decide, Or.inl ⟨rfl, lw_memG 1040 rfl rfl, lw_memG 58 rfl rfl⟩⟩
set_option maxRecDepth 20000 in
theorem okM_115 : OkM 115 := ⟨lw_memG 912 rfl rfl, lw_memG 76 rfl rfl, rfl, pn_9, ds_10, by decide, Or.inr (Or.inl ⟨rfl, lw_memG 911 rfl rfl⟩)⟩
set_option maxRecDepth 20000 in
theorem okM_116 : OkM 116 := ⟨lw_memG 772 rfl rfl, lw_memG 76 rfl rfl, rfl, pn_9, ds_1, by decide, Or.inr (Or.inr ⟨rfl, rfl, rfl, lw_memG 771 rfl rfl⟩)⟩
set_option maxRecDepth 20000 in
theorem okM_117 : OkM 117 := ⟨lw_memG 937 rfl rfl, lw_memG 76 rfl rfl, rfl, pn_9, ds_34, by decide, Or.inl ⟨rfl, lw_memG 936 rfl rfl, lw_memG 41 rfl rfl⟩⟩
set_option maxRecDepth 20000 in
theorem okM_118 : OkM 118 := ⟨lw_memG 1100 rfl rfl, lw_memG 76 rfl rfl, rfl, pn_9, ds_2, by decide, Or.inl ⟨rfl, lw_memG 1099 rfl rfl, lw_memG 63 rfl rfl⟩⟩
set_option maxRecDepth 20000 in
theorem okM_119 : OkM 119 := ⟨lw_memG 971 rfl rfl, lw_memG 76 rfl rfl, rfl, pn_9, ds_8, by decide, Or.inr (Or.inl ⟨rfl, lw_memG 970 rfl rfl⟩)⟩
set_option maxRecDepth 20000 in
theorem okM_120 : OkM 120 := ⟨lw_memG 1033 rfl rfl, lw_memG 76 rfl rfl, rfl, pn_9, ds_33, by decide, Or.inr (Or.inl ⟨rfl, lw_memG 1032 rfl rfl⟩)⟩
set_option maxRecDepth 20000 in
theorem okM_121 : OkM 121 := ⟨lw_memG 1020 rfl rfl, lw_memG 76 rfl rfl, rfl, pn_9, ds_30, by decide, Or.inr (Or.inl ⟨rfl, lw_memG 1019 rfl rfl⟩)⟩
set_option maxRecDepth 20000 in
theorem okM_122 : OkM 122 := ⟨lw_memG 1027 rfl rfl, lw_memG 76 rfl rfl, rfl, pn_9, ds_33, by decide, Or.inr (Or.inl ⟨rfl, lw_memG 1026 rfl rfl⟩)⟩
set_option maxRecDepth 20000 in
theorem okM_123 : OkM 123 := ⟨lw_memG 1104 rfl rfl, lw_memG 76 rfl rfl, rfl, pn_9, ds_1, by decide, Or.inl ⟨rfl, lw_memG 1103 rfl rfl, lw_memG 64 rfl rfl⟩⟩
set_option maxRecDepth 20000 in
theorem okM_124 : OkM 124 := ⟨lw_memG 1024 rfl rfl, lw_memG 76 rfl rfl, rfl, pn_9, ds_32, by decide, Or.inl ⟨rfl, lw_memG 1023 rfl rfl, lw_memG 56 rfl rfl⟩⟩
set_option maxRecDepth 20000 in
theorem okM_125 : OkM 125 := ⟨lw_memG 1072 rfl rfl, lw_memG 76 rfl rfl, rfl, pn_9, ds_6, by decide, Or.inl ⟨rfl, lw_memG 1070 rfl rfl, lw_memG 1071 rfl rfl⟩⟩
set_option maxRecDepth 20000 in
theorem okM_126 : OkM 126 := ⟨lw_memG 1017 rfl rfl, lw_memG 76 rfl rfl, rfl, pn_9, ds_28, by decide, Or.inl ⟨rfl, lw_memG 1016 rfl rfl, lw_memG 55 rfl rfl⟩⟩
set_option maxRecDepth 20000 in
theorem okM_127 : OkM 127 := ⟨lw_memG 1092 rfl rfl, lw_memG 76 rfl rfl, rfl, pn_9, ds_1, by decide, Or.inl ⟨rfl, lw_memG 1091 rfl rfl, lw_memG 61 rfl rfl⟩⟩
set_option maxRecDepth 20000 in
theorem okM_128 : OkM 128 := ⟨lw_memG 982 rfl rfl, lw_memG 76 rfl rfl, rfl, pn_9, ds_35, by decide, Or.inl ⟨rfl, lw_memG 981 rfl rfl, lw_memG 47 rfl rfl⟩⟩
set_option maxRecDepth 20000 in
theorem okM_129 : OkM 129 := ⟨lw_memG 1076 rfl rfl, lw_memG 76 rfl rfl, rfl, pn_9, ds_3, by decide, Or.inl ⟨rfl, lw_memG 1074 rfl rfl, lw_memG 1075 rfl rfl⟩⟩
set_option maxRecDepth 20000 in
theorem okM_130 : OkM 130 := ⟨lw_memG 958 rfl rfl, lw_memG 76 rfl rfl, rfl, pn_9, ds_31, by decide, Or.inr (Or.inl ⟨rfl, lw_memG 957 rfl rfl⟩)⟩
set_option maxRecDepth 20000 in
theorem okM_131 : OkM 131 := ⟨lw_memG 968 rfl rfl, lw_memG 76 rfl rfl, rfl, pn_9, ds_33, by decide, Or.inl ⟨rfl, lw_memG 967 rfl rfl, lw_memG 45 rfl rfl⟩⟩
set_option maxRecDepth 20000 in
theorem okM_132 : OkM 132 := ⟨lw_memG 1084 rfl rfl, lw_memG 76 rfl rfl, rfl, pn_9, ds_3, by decide, Or.inl ⟨rfl, lw_memG 1082 rfl rfl, lw_memG 1083 rfl rfl⟩⟩
set_option maxRecDepth 20000 in
theorem okM_133 : OkM 133 := ⟨lw_memG 916 rfl rfl, lw_memG 76 rfl rfl, rfl, pn_9, ds_8, by decide, Or.inl ⟨rfl, lw_memG 914 rfl rfl, lw_memG 915 rfl rfl⟩⟩
set_option maxRecDepth 20000 in
theorem okM_134 : OkM 134 := ⟨lw_memG 1048 rfl rfl, lw_memG 76 rfl rfl, rfl, pn_9, ds_7, by decide, Or.inl ⟨rfl, lw_memG 1047 rfl rfl, lw_memG 59 rfl rfl⟩⟩
set_option maxRecDepth 20000 in
theorem okM_135 : OkM 135 := ⟨lw_memG 1088 rfl rfl, lw_memG 76 rfl rfl, rfl, pn_9, ds_3, by decide, Or.inl ⟨rfl, lw_memG 1086 rfl rfl, lw_memG 1087 rfl rfl⟩⟩
set_option maxRecDepth 20000 in
theorem okM_136 : OkM 136 := ⟨lw_memG 1108 rfl rfl, lw_memG 76 rfl rfl, rfl, pn_9, ds_3, by decide, Or.inl ⟨rfl, lw_memG 1106 rfl rfl, lw_memG 1107 rfl rfl⟩⟩
set_option maxRecDepth 20000 in
theorem okM_137 : OkM 137 := ⟨lw_memG 945 rfl rfl, lw_memG 76 rfl rfl, rfl, pn_9, ds_33, by decide, Or.inl ⟨rfl, lw_memG 944 rfl rfl, lw_memG 43 rfl rfl⟩⟩
set_option maxRecDepth 20000 in
theorem okM_138 : OkM 138 := ⟨lw_memG 978 rfl rfl, lw_memG 76 rfl rfl, rfl, pn_9, ds_3, by decide, Or.inr (Or.inl ⟨rfl, lw_memG 977 rfl rfl⟩)⟩
set_option maxRecDepth 20000 in
theorem okM_139 : OkM 139 := ⟨lw_memG 1112 rfl rfl, lw_memG 76 rfl rfl, rfl, pn_9, ds_6, by decide, Or.inl ⟨rfl, lw_memG 1110 rfl rfl, lw_memG 1111 rfl rfl⟩⟩
set_option maxRecDepth 20000 in
theorem okM_140 : OkM 140 := ⟨lw_memG 1064 rfl rfl, lw_memG 76 rfl rfl, rfl, pn_9, ds_6, by decide, Or.inl ⟨rfl, lw_memG 1062 rfl rfl, lw_memG 1063 rfl rfl⟩⟩
set_option maxRecDepth 20000 in
theorem okM_141 : OkM 141 := ⟨lw_memG 925 rfl rfl, lw_memG 76 rfl rfl, rfl, pn_9, ds_2, by decide, Or.inl ⟨rfl, lw_memG 924 rfl rfl, lw_memG 38 rfl rfl⟩⟩
set_option maxRecDepth 20000 in
theorem okM_142 : OkM 142 := ⟨lw_memG 1002 rfl rfl, lw_memG 76 rfl rfl, rfl, pn_9, ds_7, by decide, Or.inl ⟨rfl, lw_memG 1001 rfl rfl, lw_memG 52 rfl rfl⟩⟩
set_option maxRecDepth 20000 in
theorem okM_143 : OkM 143 := ⟨lw_memG 994 rfl rfl, lw_memG 76 rfl rfl, rfl, pn_9, ds_27, by decide, Or.inl ⟨rfl, lw_memG 993 rfl rfl, lw_memG 50 rfl rfl⟩⟩
set_option maxRecDepth 20000 in
theorem okM_144 : OkM 144 := ⟨lw_memG 1060 rfl rfl, lw_memG 76 rfl rfl, rfl, pn_9, ds_3, by decide, Or.inl ⟨rfl, lw_memG 1058 rfl rfl, lw_memG 1059 rfl rfl⟩⟩
set_option maxRecDepth 20000 in
theorem okM_145 : OkM 145 := ⟨lw_memG 1009 rfl rfl, lw_memG 76 rfl rfl, rfl, pn_9, ds_3, by decide, Or.inr (Or.inl ⟨rfl, lw_memG 1008 rfl rfl⟩)⟩
set_option maxRecDepth 20000 in
theorem okM_146 : OkM 146 := ⟨lw_memG 507 rfl rfl, lw_memG 77 rfl rfl, rfl, pn_10, ds_3, by decide, Or.inr (Or.inl ⟨rfl, lw_memG 506 rfl rfl⟩)⟩
set_option maxRecDepth 20000 in
theorem okM_147 : OkM 147 := ⟨lw_memG 405 rfl rfl, lw_memG 75 rfl rfl, rfl, pn_12, ds_29, by decide, Or.inr (Or.inl ⟨rfl, lw_memG 404 rfl rfl⟩)⟩
theorem okM_all : ∀ k, k < nmM → OkM k := by
  intro k hk
  match k, hk with
  | 0, _ => exact okM_0
  | 1, _ => exact okM_1
  | 2, _ => exact okM_2
  | 3, _ => exact okM_3
  | 4, _ => exact okM_4
  | 5, _ => exact okM_5
  | 6, _ => exact okM_6
  | 7, _ => exact okM_7
  | 8, _ => exact okM_8
  | 9, _ => exact okM_9
  | 10, _ => exact okM_10
  | 11, _ => exact okM_11
  | 12, _ => exact okM_12
  | 13, _ => exact okM_13
  | 14, _ => exact okM_14
  | 15, _ => exact okM_15
  | 16, _ => exact okM_16
  | 17, _ => exact okM_17
  | 18, _ => exact okM_18
  | 19, _ => exact okM_19
  | 20, _ => exact okM_20
  | 21, _ => exact okM_21
  | 22, _ => exact okM_22
  | 23, _ => exact okM_23
  | 24, _ => exact okM_24
  | 25, _ => exact okM_25
  | 26, _ => exact okM_26
  | 27, _ => exact okM_27
  | 28, _ => exact okM_28
  | 29, _ => exact okM_29
  | 30, _ => exact okM_30
  | 31, _ => exact okM_31
  | 32, _ => exact okM_32
  | 33, _ => exact okM_33
  | 34, _ => exact okM_34
  | 35, _ => exact okM_35
  | 36, _ => exact okM_36
  | 37, _ => exact okM_37
  | 38, _ => exact okM_38
  | 39, _ => exact okM_39
  | 40, _ => exact okM_40
  | 41, _ => exact okM_41
  | 42, _ => exact okM_42
  | 43, _ => exact okM_43
  | 44, _ => exact okM_44
  | 45, _ => exact okM_45
  | 46, _ => exact okM_46
  | 47, _ => exact okM_47
  | 48, _ => exact okM_48
  | 49, _ => exact okM_49
  | 50, _ => exact okM_50
  | 51, _ => exact okM_51
  | 52, _ => exact okM_52
  | 53, _ => exact okM_53
  | 54, _ => exact okM_54
  | 55, _ => exact okM_55
  | 56, _ => exact okM_56
  | 57, _ => exact okM_57
  | 58, _ => exact okM_58
  | 59, _ => exact okM_59
  | 60, _ => exact okM_60
  | 61, _ => exact okM_61
  | 62, _ => exact okM_62
  | 63, _ => exact okM_63
  | 64, _ => exact okM_64
  | 65, _ => exact okM_65
  | 66, _ => exact okM_66
  | 67, _ => exact okM_67
  | 68, _ => exact okM_68
  | 69, _ => exact okM_69
  | 70, _ => exact okM_70
  | 71, _ => exact okM_71
  | 72, _ => exact okM_72
  | 73, _ => exact okM_73
  | 74, _ => exact okM_74
  | 75, _ => exact okM_75
  | 76, _ => exact okM_76
  | 77, _ => exact okM_77
  | 78, _ => exact okM_78
  | 79, _ => exact okM_79
  | 80, _ => exact okM_80
  | 81, _ => exact okM_81
  | 82, _ => exact okM_82
  | 83, _ => exact okM_83
  | 84, _ => exact okM_84
  | 85, _ => exact okM_85
  | 86, _ => exact okM_86
  | 87, _ => exact okM_87
  | 88, _ => exact okM_88
  | 89, _ => exact okM_89
  | 90, _ => exact okM_90
  | 91, _ => exact okM_91
  | 92, _ => exact okM_92
  | 93, _ => exact okM_93
  | 94, _ => exact okM_94
  | 95, _ => exact okM_95
  | 96, _ => exact okM_96
  | 97, _ => exact okM_97
  | 98, _ => exact okM_98
  | 99, _ => exact okM_99
  | 100, _ => exact okM_100
  | 101, _ => exact okM_101
  | 102, _ => exact okM_102
  | 103, _ => exact okM_103
  | 104, _ => exact okM_104
  | 105, _ => exact okM_105
  | 106, _ => exact okM_106
  | 107, _ => exact okM_107
  | 108, _ => exact okM_108
  | 109, _ => exact okM_109
  | 110, _ => exact okM_110
  | 111, _ => exact okM_111
  | 112, _ => exact okM_112
  | 113, _ => exact okM_113
  | 114, _ => exact okM_114
  | 115, _ => exact okM_115
  | 116, _ => exact okM_116
  | 117, _ => exact okM_117
  | 118, _ => exact okM_118
  | 119, _ => exact okM_119
  | 120, _ => exact okM_120
  | 121, _ => exact okM_121
  | 122, _ => exact okM_122
  | 123, _ => exact okM_123
  | 124, _ => exact okM_124
  | 125, _ => exact okM_125
  | 126, _ => exact okM_126
  | 127, _ => exact okM_127
  | 128, _ => exact okM_128
  | 129, _ => exact okM_129
  | 130, _ => exact okM_130
  | 131, _ => exact okM_131
  | 132, _ => exact okM_132
  | 133, _ => exact okM_133
  | 134, _ => exact okM_134
  | 135, _ => exact okM_135
  | 136, _ => exact okM_136
  | 137, _ => exact okM_137
  | 138, _ => exact okM_138
  | 139, _ => exact okM_139
  | 140, _ => exact okM_140
  | 141, _ => exact okM_141
  | 142, _ => exact okM_142
  | 143, _ => exact okM_143
  | 144, _ => exact okM_144
  | 145, _ => exact okM_145
  | 146, _ => exact okM_146
  | 147, _ => exact okM_147
  | k + 148, hk => exact absurd hk (by simp [nmM, nm])
set_option maxRecDepth 20000 in
theorem okL_0 : OkL 0 := ⟨by decide, rfl, rfl, lw_memG 582 rfl rfl, ⟨_, rfl, rfl⟩⟩
set_option maxRecDepth 20000 in
theorem okL_1 : OkL 1 := ⟨_, _, _, rfl, by decide, lw_memG 153 rfl rfl, rfl, rfl, by decide⟩
set_option maxRecDepth 20000 in
theorem okL_2 : OkL 2 := ⟨by decide, rfl, rfl, lw_memG 409 rfl rfl, ⟨_, rfl, rfl⟩⟩
set_option maxRecDepth 20000 in
theorem okL_3 : OkL 3 := ⟨_, _, _, rfl, by decide, lw_memG 152 rfl rfl, rfl, rfl, by decide⟩
set_option maxRecDepth 20000 in
theorem okL_4 : OkL 4 := ⟨_, _, _, rfl, by decide, lw_memG 139 rfl rfl, rfl, rfl, by decide⟩
set_option maxRecDepth 20000 in
theorem okL_5 : OkL 5 := ⟨_, _, _, rfl, by decide, lw_memG 138 rfl rfl, rfl, rfl, by decide⟩
set_option maxRecDepth 20000 in
theorem okL_6 : OkL 6 := ⟨_, _, _, rfl, by decide, lw_memG 113 rfl rfl, rfl, rfl, by decide⟩
set_option maxRecDepth 20000 in
theorem okL_7 : OkL 7 := ⟨_, _, _, rfl, by decide, lw_memG 146 rfl rfl, rfl, rfl, by decide⟩
set_option maxRecDepth 20000 in
theorem okL_8 : OkL 8 := ⟨_, _, _, rfl, by decide, lw_memG 118 rfl rfl, rfl, rfl, by decide⟩
set_option maxRecDepth 20000 in
theorem okL_9 : OkL 9 := lw_memG 137 rfl rfl
set_option maxRecDepth 20000 in
theorem okL_10 : OkL 10 := ⟨by decide, rfl, rfl, Or.inl ⟨rfl, lw_memG 403 rfl rfl⟩⟩
set_option maxRecDepth 20000 in
theorem okL_11 : OkL 11 := ⟨by decide, rfl, rfl, Or.inr ⟨rfl, List.mem_of_getElem? (i := 0) rfl⟩⟩
set_option maxRecDepth 20000 in
theorem okL_12 : OkL 12 := ⟨_, _, _, rfl, by decide, lw_memG 237 rfl rfl, rfl, rfl, by decide⟩
set_option maxRecDepth 20000 in
theorem okL_13 : OkL 13 := ⟨_, _, _, rfl, by decide, lw_memG 236 rfl rfl, rfl, rfl, by decide⟩
set_option maxRecDepth 20000 in
theorem okL_14 : OkL 14 := ⟨_, _, _, rfl, by decide, lw_memG 239 rfl rfl, rfl, rfl, by decide⟩
set_option maxRecDepth 20000 in
theorem okL_15 : OkL 15 := ⟨_, _, _, rfl, by decide, lw_memG 246 rfl rfl, rfl, rfl, by decide⟩
set_option maxRecDepth 20000 in
theorem okL_16 : OkL 16 := ⟨_, _, _, rfl, by decide, lw_memG 241 rfl rfl, rfl, rfl, by decide⟩
set_option maxRecDepth 20000 in
theorem okL_17 : OkL 17 := ⟨_, _, _, rfl, by decide, lw_memG 243 rfl rfl, rfl, rfl, by decide⟩
set_option maxRecDepth 20000 in
theorem okL_18 : OkL 18 := ⟨by decide, rfl, rfl, lw_memG 613 rfl rfl, ⟨_, rfl, rfl⟩⟩
set_option maxRecDepth 20000 in
theorem okL_19 : OkL 19 := ⟨_, _, _, rfl, by decide, lw_memG 235 rfl rfl, rfl, rfl, by decide⟩
set_option maxRecDepth 20000 in
theorem okL_20 : OkL 20 := ⟨_, _, _, rfl, by decide, lw_memG 234 rfl rfl, rfl, rfl, by decide⟩
set_option maxRecDepth 20000 in
theorem okL_21 : OkL 21 := ⟨by decide, rfl, rfl, lw_memG 601 rfl rfl, ⟨_, rfl, rfl⟩⟩
set_option maxRecDepth 20000 in
theorem okL_22 : OkL 22 := ⟨_, _, _, rfl, by decide, lw_memG 240 rfl rfl, rfl, rfl, by decide⟩
set_option maxRecDepth 20000 in
theorem okL_23 : OkL 23 := ⟨_, _, _, rfl, by decide, lw_memG 245 rfl rfl, rfl, rfl, by decide⟩
set_option maxRecDepth 20000 in
theorem okL_24 : OkL 24 := ⟨_, _, _, rfl, by decide, lw_memG 242 rfl rfl, rfl, rfl, by decide⟩
set_option maxRecDepth 20000 in
theorem okL_25 : OkL 25 := ⟨_, _, _, rfl, by decide, lw_memG 244 rfl rfl, rfl, rfl, by decide⟩
set_option maxRecDepth 20000 in
theorem okL_26 : OkL 26 := ⟨by decide, rfl, rfl, lw_memG 637 rfl rfl, ⟨_, rfl, rfl⟩⟩
set_option maxRecDepth 20000 in
theorem okL_27 : OkL 27 := ⟨_, _, _, rfl, by decide, lw_memG 145 rfl rfl, rfl, rfl, by decide⟩
set_option maxRecDepth 20000 in
theorem okL_28 : OkL 28 := ⟨by decide, rfl, rfl, Or.inl ⟨rfl, lw_memG 595 rfl rfl⟩⟩
set_option maxRecDepth 20000 in
theorem okL_29 : OkL 29 := ⟨_, _, _, rfl, by decide, lw_memG 232 rfl rfl, rfl, rfl, by decide⟩
set_option maxRecDepth 20000 in
theorem okL_30 : OkL 30 := ⟨_, _, _, rfl, by decide, lw_memG 115 rfl rfl, rfl, rfl, by decide⟩
set_option maxRecDepth 20000 in
theorem okL_31 : OkL 31 := ⟨_, _, _, rfl, by decide, lw_memG 151 rfl rfl, rfl, rfl, by decide⟩
set_option maxRecDepth 20000 in
theorem okL_32 : OkL 32 := ⟨by decide, rfl, rfl, lw_memG 641 rfl rfl, ⟨_, rfl, rfl⟩⟩
set_option maxRecDepth 20000 in
theorem okL_33 : OkL 33 := ⟨by decide, rfl, rfl, lw_memG 642 rfl rfl, ⟨_, rfl, rfl⟩⟩
set_option maxRecDepth 20000 in
theorem okL_34 : OkL 34 := lw_memG 231 rfl rfl
set_option maxRecDepth 20000 in
theorem okL_35 : OkL 35 := ⟨_, _, _, rfl, by decide, lw_memG 238 rfl rfl, rfl, rfl, by decide⟩
set_option maxRecDepth 20000 in
theorem okL_36 : OkL 36 := ⟨_, _, _, rfl, by decide, lw_memG 247 rfl rfl, rfl, rfl, by decide⟩
set_option maxRecDepth 20000 in
theorem okL_37 : OkL 37 := ⟨_, _, _, rfl, by decide, lw_memG 233 rfl rfl, rfl, rfl, by decide⟩
set_option maxRecDepth 20000 in
theorem okL_38 : OkL 38 := ⟨by decide, rfl, rfl, Or.inl ⟨rfl, lw_memG 594 rfl rfl⟩⟩
set_option maxRecDepth 20000 in
theorem okL_39 : OkL 39 := ⟨by decide, rfl, rfl, Or.inr ⟨rfl, List.mem_of_getElem? (i := 1) rfl⟩⟩
set_option maxRecDepth 20000 in
theorem okL_40 : OkL 40 := ⟨by decide, rfl, rfl, lw_memG 597 rfl rfl, ⟨_, rfl, rfl⟩⟩
set_option maxRecDepth 20000 in
theorem okL_41 : OkL 41 := ⟨_, _, _, rfl, by decide, lw_memG 110 rfl rfl, rfl, rfl, by decide⟩
set_option maxRecDepth 20000 in
theorem okL_42 : OkL 42 := ⟨_, _, _, rfl, by decide, lw_memG 121 rfl rfl, rfl, rfl, by decide⟩
set_option maxRecDepth 20000 in
theorem okL_43 : OkL 43 := ⟨by decide, rfl, rfl, lw_memG 633 rfl rfl, ⟨_, rfl, rfl⟩⟩
set_option maxRecDepth 20000 in
theorem okL_44 : OkL 44 := ⟨by decide, rfl, rfl, lw_memG 609 rfl rfl, ⟨_, rfl, rfl⟩⟩
set_option maxRecDepth 20000 in
theorem okL_45 : OkL 45 := ⟨by decide, rfl, rfl, lw_memG 643 rfl rfl, ⟨_, rfl, rfl⟩⟩
set_option maxRecDepth 20000 in
theorem okL_46 : OkL 46 := ⟨_, _, _, rfl, by decide, lw_memG 176 rfl rfl, rfl, rfl, by decide⟩
set_option maxRecDepth 20000 in
theorem okL_47 : OkL 47 := ⟨by decide, rfl, rfl, lw_memG 590 rfl rfl, ⟨_, rfl, rfl⟩⟩
set_option maxRecDepth 20000 in
theorem okL_48 : OkL 48 := ⟨by decide, rfl, rfl, lw_memG 605 rfl rfl, ⟨_, rfl, rfl⟩⟩
set_option maxRecDepth 20000 in
theorem okL_49 : OkL 49 := ⟨by decide, rfl, rfl, lw_memG 625 rfl rfl, ⟨_, rfl, rfl⟩⟩
set_option maxRecDepth 20000 in
theorem okL_50 : OkL 50 := ⟨_, _, _, rfl, by decide, lw_memG 249 rfl rfl, rfl, rfl, by decide⟩
set_option maxRecDepth 20000 in
theorem okL_51 : OkL 51 := ⟨by decide, rfl, rfl, lw_memG 629 rfl rfl, ⟨_, rfl, rfl⟩⟩
set_option maxRecDepth 20000 in
theorem okL_52 : OkL 52 := ⟨by decide, rfl, rfl, lw_memG 617 rfl rfl, ⟨_, rfl, rfl⟩⟩
set_option maxRecDepth 20000 in
theorem okL_53 : OkL 53 := ⟨by decide, rfl, rfl, lw_memG 621 rfl rfl, ⟨_, rfl, rfl⟩⟩
set_option maxRecDepth 20000 in
theorem okL_54 : OkL 54 := ⟨_, _, _, rfl, by decide, lw_memG 140 rfl rfl, rfl, rfl, by decide⟩
set_option maxRecDepth 20000 in
theorem okL_55 : OkL 55 := ⟨_, _, _, rfl, by decide, lw_memG 174 rfl rfl, rfl, rfl, by decide⟩
set_option maxRecDepth 20000 in
theorem okL_56 : OkL 56 := ⟨_, _, _, rfl, by decide, lw_memG 175 rfl rfl, rfl, rfl, by decide⟩
set_option maxRecDepth 20000 in
theorem okL_57 : OkL 57 := ⟨by decide, rfl, rfl, Or.inl ⟨rfl, lw_memG 527 rfl rfl⟩⟩
set_option maxRecDepth 20000 in
theorem okL_58 : OkL 58 := ⟨_, _, _, rfl, by decide, lw_memG 147 rfl rfl, rfl, rfl, by decide⟩
set_option maxRecDepth 20000 in
theorem okL_59 : OkL 59 := ⟨_, _, _, rfl, by decide, lw_memG 173 rfl rfl, rfl, rfl, by decide⟩
set_option maxRecDepth 20000 in
theorem okL_60 : OkL 60 := ⟨_, _, _, rfl, by decide, lw_memG 106 rfl rfl, rfl, rfl, by decide⟩
set_option maxRecDepth 20000 in
theorem okL_61 : OkL 61 := lw_memG 172 rfl rfl
set_option maxRecDepth 20000 in
theorem okL_62 : OkL 62 := ⟨by decide, rfl, rfl, lw_memG 578 rfl rfl, ⟨_, rfl, rfl⟩⟩
set_option maxRecDepth 20000 in
theorem okL_63 : OkL 63 := lw_memG 191 rfl rfl
set_option maxRecDepth 20000 in
theorem okL_64 : OkL 64 := ⟨_, _, _, rfl, by decide, lw_memG 208 rfl rfl, rfl, rfl, by decide⟩
set_option maxRecDepth 20000 in
theorem okL_65 : OkL 65 := ⟨_, _, _, rfl, by decide, lw_memG 209 rfl rfl, rfl, rfl, by decide⟩
set_option maxRecDepth 20000 in
theorem okL_66 : OkL 66 := ⟨_, _, rfl, lw_memG 192 rfl rfl⟩
set_option maxRecDepth 20000 in
theorem okL_67 : OkL 67 := ⟨by decide, rfl, rfl, Or.inl ⟨rfl, lw_memG 194 rfl rfl⟩⟩
set_option maxRecDepth 20000 in
theorem okL_68 : OkL 68 := ⟨_, _, _, rfl, by decide, lw_memG 210 rfl rfl, rfl, rfl, by decide⟩
set_option maxRecDepth 20000 in
theorem okL_69 : OkL 69 := ⟨by decide, rfl, rfl, lw_memG 515 rfl rfl, ⟨_, rfl, rfl⟩⟩
set_option maxRecDepth 20000 in
theorem okL_70 : OkL 70 := ⟨by decide, rfl, rfl, lw_memG 536 rfl rfl, ⟨_, rfl, rfl⟩⟩
set_option maxRecDepth 20000 in
theorem okL_71 : OkL 71 := ⟨by decide, rfl, rfl, lw_memG 541 rfl rfl, ⟨_, rfl, rfl⟩⟩
set_option maxRecDepth 20000 in
theorem okL_72 : OkL 72 := ⟨by decide, rfl, rfl, lw_memG 553 rfl rfl, ⟨_, rfl, rfl⟩⟩
set_option maxRecDepth 20000 in
theorem okL_73 : OkL 73 := ⟨by decide, rfl, rfl, lw_memG 557 rfl rfl, ⟨_, rfl, rfl⟩⟩
set_option maxRecDepth 20000 in
theorem okL_74 : OkL 74 := ⟨_, _, _, rfl, by decide, lw_memG 178 rfl rfl, rfl, rfl, by decide⟩
set_option maxRecDepth 20000 in
theorem okL_75 : OkL 75 := ⟨by decide, rfl, rfl, lw_memG 540 rfl rfl, ⟨_, rfl, rfl⟩⟩
set_option maxRecDepth 20000 in
theorem okL_76 : OkL 76 := ⟨_, _, _, rfl, by decide, lw_memG 150 rfl rfl, rfl, rfl, by decide⟩
set_option maxRecDepth 20000 in
theorem okL_77 : OkL 77 := ⟨by decide, rfl, rfl, lw_memG 561 rfl rfl, ⟨_, rfl, rfl⟩⟩
set_option maxRecDepth 20000 in
theorem okL_78 : OkL 78 := ⟨by decide, rfl, rfl, lw_memG 479 rfl rfl, ⟨_, rfl, rfl⟩⟩
set_option maxRecDepth 20000 in
theorem okL_79 : OkL 79 := ⟨by decide, rfl, rfl, lw_memG 532 rfl rfl, ⟨_, rfl, rfl⟩⟩
set_option maxRecDepth 20000 in
theorem okL_80 : OkL 80 := ⟨_, _, _, rfl, by decide, lw_memG 211 rfl rfl, rfl, rfl, by decide⟩
set_option maxRecDepth 20000 in
theorem okL_81 : OkL 81 := ⟨_, _, _, rfl, by decide, lw_memG 213 rfl rfl, rfl, rfl, by decide⟩
set_option maxRecDepth 20000 in
theorem okL_82 : OkL 82 := ⟨by decide, rfl, rfl, lw_memG 483 rfl rfl, ⟨_, rfl, rfl⟩⟩
set_option maxRecDepth 20000 in
theorem okL_83 : OkL 83 := ⟨by decide, rfl, rfl, Or.inr ⟨rfl, List.mem_of_getElem? (i := 2) rfl⟩⟩
set_option maxRecDepth 20000 in
theorem okL_84 : OkL 84 := ⟨_, _, _, rfl, by decide, lw_memG 108 rfl rfl, rfl, rfl, by decide⟩
set_option maxRecDepth 20000 in
theorem okL_85 : OkL 85 := ⟨by decide, rfl, rfl, Or.inr ⟨rfl, List.mem_of_getElem? (i := 3) rfl⟩⟩
set_option maxRecDepth 20000 in
theorem okL_86 : OkL 86 := ⟨by decide, rfl, rfl, lw_memG 552 rfl rfl, ⟨_, rfl, rfl⟩⟩
set_option maxRecDepth 20000 in
theorem okL_87 : OkL 87 := ⟨_, _, _, rfl, by decide, lw_memG 142 rfl rfl, rfl, rfl, by decide⟩
set_option maxRecDepth 20000 in
theorem okL_88 : OkL 88 := ⟨_, _, _, rfl, by decide, lw_memG 112 rfl rfl, rfl, rfl, by decide⟩
set_option maxRecDepth 20000 in
theorem okL_89 : OkL 89 := ⟨_, _, _, rfl, by decide, lw_memG 117 rfl rfl, rfl, rfl, by decide⟩
set_option maxRecDepth 20000 in
theorem okL_90 : OkL 90 := ⟨_, _, _, rfl, by decide, lw_memG 105 rfl rfl, rfl, rfl, by decide⟩
set_option maxRecDepth 20000 in
theorem okL_91 : OkL 91 := ⟨_, _, _, rfl, by decide, lw_memG 111 rfl rfl, rfl, rfl, by decide⟩
set_option maxRecDepth 20000 in
theorem okL_92 : OkL 92 := ⟨_, _, _, rfl, by decide, lw_memG 116 rfl rfl, rfl, rfl, by decide⟩
set_option maxRecDepth 20000 in
theorem okL_93 : OkL 93 := lw_memG 92 rfl rfl
set_option maxRecDepth 20000 in
theorem okL_94 : OkL 94 := ⟨_, _, _, rfl, by decide, lw_memG 119 rfl rfl, rfl, rfl, by decide⟩
set_option maxRecDepth 20000 in
theorem okL_95 : OkL 95 := ⟨by decide, rfl, rfl, lw_memG 93 rfl rfl, ⟨_, rfl, rfl⟩⟩
set_option maxRecDepth 20000 in
theorem okL_96 : OkL 96 := ⟨by decide, rfl, rfl, lw_memG 97 rfl rfl, ⟨_, rfl, rfl⟩⟩
set_option maxRecDepth 20000 in
theorem okL_97 : OkL 97 := ⟨by decide, rfl, rfl, lw_memG 101 rfl rfl, ⟨_, rfl, rfl⟩⟩
set_option maxRecDepth 20000 in
theorem okL_98 : OkL 98 := ⟨_, _, _, rfl, by decide, lw_memG 357 rfl rfl, rfl, rfl, by decide⟩
set_option maxRecDepth 20000 in
theorem okL_99 : OkL 99 := ⟨_, _, _, rfl, by decide, lw_memG 349 rfl rfl, rfl, rfl, by decide⟩
set_option maxRecDepth 20000 in
theorem okL_100 : OkL 100 := ⟨by decide, rfl, rfl, lw_memG 711 rfl rfl, ⟨_, rfl, rfl⟩⟩
set_option maxRecDepth 20000 in
theorem okL_101 : OkL 101 := ⟨_, _, _, rfl, by decide, lw_memG 352 rfl rfl, rfl, rfl, by decide⟩
set_option maxRecDepth 20000 in
theorem okL_102 : OkL 102 := ⟨_, _, _, rfl, by decide, lw_memG 351 rfl rfl, rfl, rfl, by decide⟩
set_option maxRecDepth 20000 in
theorem okL_103 : OkL 103 := ⟨_, _, _, rfl, by decide, lw_memG 141 rfl rfl, rfl, rfl, by decide⟩
set_option maxRecDepth 20000 in
theorem okL_104 : OkL 104 := ⟨by decide, rfl, rfl, lw_memG 712 rfl rfl, ⟨_, rfl, rfl⟩⟩
set_option maxRecDepth 20000 in
theorem okL_105 : OkL 105 := ⟨_, _, _, rfl, by decide, lw_memG 148 rfl rfl, rfl, rfl, by decide⟩
set_option maxRecDepth 20000 in
theorem okL_106 : OkL 106 := ⟨by decide, rfl, rfl, lw_memG 717 rfl rfl, ⟨_, rfl, rfl⟩⟩
set_option maxRecDepth 20000 in
theorem okL_107 : OkL 107 := ⟨by decide, rfl, rfl, lw_memG 739 rfl rfl, ⟨_, rfl, rfl⟩⟩
set_option maxRecDepth 20000 in
theorem okL_108 : OkL 108 := ⟨_, _, _, rfl, by decide, lw_memG 350 rfl rfl, rfl, rfl, by decide⟩
set_option maxRecDepth 20000 in
theorem okL_109 : OkL 109 := ⟨by decide, rfl, rfl, lw_memG 721 rfl rfl, ⟨_, rfl, rfl⟩⟩
set_option maxRecDepth 20000 in
theorem okL_110 : OkL 110 := ⟨by decide, rfl, rfl, lw_memG 731 rfl rfl, ⟨_, rfl, rfl⟩⟩
set_option maxRecDepth 20000 in
theorem okL_111 : OkL 111 := ⟨by decide, rfl, rfl, Or.inr ⟨rfl, List.mem_of_getElem? (i := 4) rfl⟩⟩
set_option maxRecDepth 20000 in
theorem okL_112 : OkL 112 := ⟨by decide, rfl, rfl, Or.inr ⟨rfl, List.mem_of_getElem? (i := 5) rfl⟩⟩
set_option maxRecDepth 20000 in
theorem okL_113 : OkL 113 := ⟨_, _, _, rfl, by decide, lw_memG 348 rfl rfl, rfl, rfl, by decide⟩
set_option maxRecDepth 20000 in
theorem okL_114 : OkL 114 := ⟨_, _, _, rfl, by decide, lw_memG 120 rfl rfl, rfl, rfl, by decide⟩
set_option maxRecDepth 20000 in
theorem okL_115 : OkL 115 := ⟨by decide, rfl, rfl, lw_memG 726 rfl rfl, ⟨_, rfl, rfl⟩⟩
set_option maxRecDepth 20000 in
theorem okL_116 : OkL 116 := ⟨_, _, _, rfl, by decide, lw_memG 109 rfl rfl, rfl, rfl, by decide⟩
set_option maxRecDepth 20000 in
theorem okL_117 : OkL 117 := ⟨by decide, rfl, rfl, lw_memG 735 rfl rfl, ⟨_, rfl, rfl⟩⟩
set_option maxRecDepth 20000 in
theorem okL_118 : OkL 118 := ⟨by decide, rfl, rfl, Or.inl ⟨rfl, lw_memG 747 rfl rfl⟩⟩
set_option maxRecDepth 20000 in
theorem okL_119 : OkL 119 := ⟨_, _, _, rfl, by decide, lw_memG 358 rfl rfl, rfl, rfl, by decide⟩
set_option maxRecDepth 20000 in
theorem okL_120 : OkL 120 := ⟨_, _, _, rfl, by decide, lw_memG 360 rfl rfl, rfl, rfl, by decide⟩
set_option maxRecDepth 20000 in
theorem okL_121 : OkL 121 := ⟨_, _, _, rfl, by decide, lw_memG 362 rfl rfl, rfl, rfl, by decide⟩
set_option maxRecDepth 20000 in
theorem okL_122 : OkL 122 := ⟨_, _, _, rfl, by decide, lw_memG 356 rfl rfl, rfl, rfl, by decide⟩
set_option maxRecDepth 20000 in
theorem okL_123 : OkL 123 := lw_memG 345 rfl rfl
set_option maxRecDepth 20000 in
theorem okL_124 : OkL 124 := ⟨_, _, _, rfl, by decide, lw_memG 353 rfl rfl, rfl, rfl, by decide⟩
set_option maxRecDepth 20000 in
theorem okL_125 : OkL 125 := ⟨_, _, _, rfl, by decide, lw_memG 354 rfl rfl, rfl, rfl, by decide⟩
set_option maxRecDepth 20000 in
theorem okL_126 : OkL 126 := ⟨_, _, _, rfl, by decide, lw_memG 355 rfl rfl, rfl, rfl, by decide⟩
set_option maxRecDepth 20000 in
theorem okL_127 : OkL 127 := ⟨_, _, _, rfl, by decide, lw_memG 364 rfl rfl, rfl, rfl, by decide⟩
set_option maxRecDepth 20000 in
theorem okL_128 : OkL 128 := ⟨_, _, rfl, lw_memG 346 rfl rfl⟩
set_option maxRecDepth 20000 in
theorem okL_129 : OkL 129 := ⟨by decide, rfl, rfl, Or.inl ⟨rfl, lw_memG 347 rfl rfl⟩⟩
set_option maxRecDepth 20000 in
theorem okL_130 : OkL 130 := ⟨by decide, rfl, rfl, lw_memG 730 rfl rfl, ⟨_, rfl, rfl⟩⟩
set_option maxRecDepth 20000 in
theorem okL_131 : OkL 131 := ⟨_, _, _, rfl, by decide, lw_memG 114 rfl rfl, rfl, rfl, by decide⟩
set_option maxRecDepth 20000 in
theorem okL_132 : OkL 132 := ⟨by decide, rfl, rfl, lw_memG 743 rfl rfl, ⟨_, rfl, rfl⟩⟩
set_option maxRecDepth 20000 in
theorem okL_133 : OkL 133 := ⟨by decide, rfl, rfl, lw_memG 748 rfl rfl, ⟨_, rfl, rfl⟩⟩
set_option maxRecDepth 20000 in
theorem okL_134 : OkL 134 := ⟨_, _, _, rfl, by decide, lw_memG 155 rfl rfl, rfl, rfl, by decide⟩
set_option maxRecDepth 20000 in
theorem okL_135 : OkL 135 := ⟨by decide, rfl, rfl, lw_memG 756 rfl rfl, ⟨_, rfl, rfl⟩⟩
set_option maxRecDepth 20000 in
theorem okL_136 : OkL 136 := ⟨by decide, rfl, rfl, lw_memG 487 rfl rfl, ⟨_, rfl, rfl⟩⟩
set_option maxRecDepth 20000 in
theorem okL_137 : OkL 137 := ⟨by decide, by decide, lw_memG 499 rfl rfl⟩
set_option maxRecDepth 20000 in
theorem okL_138 : OkL 138 := ⟨by decide, rfl, rfl, lw_memG 501 rfl rfl, ⟨_, rfl, rfl⟩⟩
set_option maxRecDepth 20000 in
theorem okL_139 : OkL 139 := lw_memG 197 rfl rfl
set_option maxRecDepth 20000 in
theorem okL_140 : OkL 140 := ⟨_, _, _, rfl, by decide, lw_memG 200 rfl rfl, rfl, rfl, by decide⟩
set_option maxRecDepth 20000 in
theorem okL_141 : OkL 141 := ⟨_, _, _, rfl, by decide, lw_memG 198 rfl rfl, rfl, rfl, by decide⟩
set_option maxRecDepth 20000 in
theorem okL_142 : OkL 142 := ⟨_, _, _, rfl, by decide, lw_memG 199 rfl rfl, rfl, rfl, by decide⟩
set_option maxRecDepth 20000 in
theorem okL_143 : OkL 143 := ⟨by decide, by decide, lw_memG 491 rfl rfl⟩
set_option maxRecDepth 20000 in
theorem okL_144 : OkL 144 := ⟨by decide, rfl, rfl, Or.inl ⟨rfl, lw_memG 493 rfl rfl⟩⟩
set_option maxRecDepth 20000 in
theorem okL_145 : OkL 145 := ⟨_, _, _, rfl, by decide, lw_memG 144 rfl rfl, rfl, rfl, by decide⟩
set_option maxRecDepth 20000 in
theorem okL_146 : OkL 146 := ⟨_, _, _, rfl, by decide, lw_memG 107 rfl rfl, rfl, rfl, by decide⟩
set_option maxRecDepth 20000 in
theorem okL_147 : OkL 147 := ⟨_, _, _, rfl, by decide, lw_memG 149 rfl rfl, rfl, rfl, by decide⟩
set_option maxRecDepth 20000 in
theorem okL_148 : OkL 148 := ⟨by decide, rfl, rfl, Or.inl ⟨rfl, lw_memG 496 rfl rfl⟩⟩
set_option maxRecDepth 20000 in
theorem okL_149 : OkL 149 := ⟨by decide, rfl, rfl, Or.inl ⟨rfl, lw_memG 505 rfl rfl⟩⟩
set_option maxRecDepth 20000 in
theorem okL_150 : OkL 150 := ⟨by decide, rfl, rfl, lw_memG 519 rfl rfl, ⟨_, rfl, rfl⟩⟩
set_option maxRecDepth 20000 in
theorem okL_151 : OkL 151 := ⟨_, _, _, rfl, by decide, lw_memG 177 rfl rfl, rfl, rfl, by decide⟩
set_option maxRecDepth 20000 in
theorem okL_152 : OkL 152 := ⟨by decide, rfl, rfl, lw_memG 523 rfl rfl, ⟨_, rfl, rfl⟩⟩
set_option maxRecDepth 20000 in
theorem okL_153 : OkL 153 := ⟨by decide, rfl, rfl, lw_memG 528 rfl rfl, ⟨_, rfl, rfl⟩⟩
set_option maxRecDepth 20000 in
theorem okL_154 : OkL 154 := ⟨by decide, rfl, rfl, lw_memG 511 rfl rfl, ⟨_, rfl, rfl⟩⟩
set_option maxRecDepth 20000 in
theorem okL_155 : OkL 155 := ⟨_, _, _, rfl, by decide, lw_memG 309 rfl rfl, rfl, rfl, by decide⟩
set_option maxRecDepth 20000 in
theorem okL_156 : OkL 156 := ⟨_, _, _, rfl, by decide, lw_memG 311 rfl rfl, rfl, rfl, by decide⟩
set_option maxRecDepth 20000 in
theorem okL_157 : OkL 157 := ⟨_, _, _, rfl, by decide, lw_memG 313 rfl rfl, rfl, rfl, by decide⟩
set_option maxRecDepth 20000 in
theorem okL_158 : OkL 158 := ⟨_, _, _, rfl, by decide, lw_memG 308 rfl rfl, rfl, rfl, by decide⟩
set_option maxRecDepth 20000 in
theorem okL_159 : OkL 159 := lw_memG 291 rfl rfl
set_option maxRecDepth 20000 in
theorem okL_160 : OkL 160 := ⟨_, _, _, rfl, by decide, lw_memG 292 rfl rfl, rfl, rfl, by decide⟩
set_option maxRecDepth 20000 in
theorem okL_161 : OkL 161 := ⟨_, _, _, rfl, by decide, lw_memG 294 rfl rfl, rfl, rfl, by decide⟩
set_option maxRecDepth 20000 in
theorem okL_162 : OkL 162 := ⟨_, _, _, rfl, by decide, lw_memG 296 rfl rfl, rfl, rfl, by decide⟩
set_option maxRecDepth 20000 in
theorem okL_163 : OkL 163 := ⟨_, _, _, rfl, by decide, lw_memG 298 rfl rfl, rfl, rfl, by decide⟩
set_option maxRecDepth 20000 in
theorem okL_164 : OkL 164 := ⟨_, _, _, rfl, by decide, lw_memG 300 rfl rfl, rfl, rfl, by decide⟩
set_option maxRecDepth 20000 in
theorem okL_165 : OkL 165 := ⟨_, _, _, rfl, by decide, lw_memG 302 rfl rfl, rfl, rfl, by decide⟩
set_option maxRecDepth 20000 in
theorem okL_166 : OkL 166 := ⟨_, _, _, rfl, by decide, lw_memG 304 rfl rfl, rfl, rfl, by decide⟩
set_option maxRecDepth 20000 in
theorem okL_167 : OkL 167 := ⟨_, _, _, rfl, by decide, lw_memG 306 rfl rfl, rfl, rfl, by decide⟩
set_option maxRecDepth 20000 in
theorem okL_168 : OkL 168 := ⟨by decide, by decide, lw_memG 569 rfl rfl⟩
set_option maxRecDepth 20000 in
theorem okL_169 : OkL 169 := ⟨lw_memG 571 rfl rfl, lw_memG 572 rfl rfl, lw_memG 78 rfl rfl, lw_memG 573 rfl rfl⟩
set_option maxRecDepth 20000 in
theorem okL_170 : OkL 170 := ⟨by decide, rfl, rfl, Or.inl ⟨rfl, lw_memG 459 rfl rfl⟩⟩
set_option maxRecDepth 20000 in
theorem okL_171 : OkL 171 := ⟨_, _, _, rfl, by decide, lw_memG 422 rfl rfl, rfl, rfl, by decide⟩
set_option maxRecDepth 20000 in
theorem okL_172 : OkL 172 := ⟨_, _, _, rfl, by decide, lw_memG 143 rfl rfl, rfl, rfl, by decide⟩
set_option maxRecDepth 20000 in
theorem okL_173 : OkL 173 := ⟨_, _, _, rfl, by decide, lw_memG 423 rfl rfl, rfl, rfl, by decide⟩
set_option maxRecDepth 20000 in
theorem okL_174 : OkL 174 := ⟨_, _, _, rfl, by decide, lw_memG 421 rfl rfl, rfl, rfl, by decide⟩
set_option maxRecDepth 20000 in
theorem okL_175 : OkL 175 := ⟨by decide, rfl, rfl, Or.inl ⟨rfl, lw_memG 652 rfl rfl⟩⟩
set_option maxRecDepth 20000 in
theorem okL_176 : OkL 176 := ⟨_, _, _, rfl, by decide, lw_memG 425 rfl rfl, rfl, rfl, by decide⟩
set_option maxRecDepth 20000 in
theorem okL_177 : OkL 177 := ⟨by decide, rfl, rfl, lw_memG 689 rfl rfl, ⟨_, rfl, rfl⟩⟩
set_option maxRecDepth 20000 in
theorem okL_178 : OkL 178 := ⟨by decide, rfl, rfl, lw_memG 690 rfl rfl, ⟨_, rfl, rfl⟩⟩
set_option maxRecDepth 20000 in
theorem okL_179 : OkL 179 := ⟨_, _, _, rfl, by decide, lw_memG 426 rfl rfl, rfl, rfl, by decide⟩
set_option maxRecDepth 20000 in
theorem okL_180 : OkL 180 := ⟨_, _, _, rfl, by decide, lw_memG 429 rfl rfl, rfl, rfl, by decide⟩
set_option maxRecDepth 20000 in
theorem okL_181 : OkL 181 := ⟨_, _, _, rfl, by decide, lw_memG 430 rfl rfl, rfl, rfl, by decide⟩
set_option maxRecDepth 20000 in
theorem okL_182 : OkL 182 := ⟨by decide, rfl, rfl, lw_memG 694 rfl rfl, ⟨_, rfl, rfl⟩⟩
set_option maxRecDepth 20000 in
theorem okL_183 : OkL 183 := ⟨_, _, _, rfl, by decide, lw_memG 427 rfl rfl, rfl, rfl, by decide⟩
set_option maxRecDepth 20000 in
theorem okL_184 : OkL 184 := ⟨_, _, _, rfl, by decide, lw_memG 293 rfl rfl, rfl, rfl, by decide⟩
set_option maxRecDepth 20000 in
theorem okL_185 : OkL 185 := ⟨_, _, _, rfl, by decide, lw_memG 307 rfl rfl, rfl, rfl, by decide⟩
set_option maxRecDepth 20000 in
theorem okL_186 : OkL 186 := ⟨_, _, _, rfl, by decide, lw_memG 303 rfl rfl, rfl, rfl, by decide⟩
set_option maxRecDepth 20000 in
theorem okL_187 : OkL 187 := ⟨_, _, _, rfl, by decide, lw_memG 305 rfl rfl, rfl, rfl, by decide⟩
set_option maxRecDepth 20000 in
theorem okL_188 : OkL 188 := ⟨_, _, _, rfl, by decide, lw_memG 295 rfl rfl, rfl, rfl, by decide⟩
set_option maxRecDepth 20000 in
theorem okL_189 : OkL 189 := ⟨_, _, _, rfl, by decide, lw_memG 297 rfl rfl, rfl, rfl, by decide⟩
set_option maxRecDepth 20000 in
theorem okL_190 : OkL 190 := ⟨by decide, rfl, rfl, lw_memG 395 rfl rfl, ⟨_, rfl, rfl⟩⟩
set_option maxRecDepth 20000 in
theorem okL_191 : OkL 191 := ⟨by decide, rfl, rfl, lw_memG 661 rfl rfl, ⟨_, rfl, rfl⟩⟩
set_option maxRecDepth 20000 in
theorem okL_192 : OkL 192 := ⟨_, _, _, rfl, by decide, lw_memG 301 rfl rfl, rfl, rfl, by decide⟩
set_option maxRecDepth 20000 in
theorem okL_193 : OkL 193 := ⟨_, _, _, rfl, by decide, lw_memG 299 rfl rfl, rfl, rfl, by decide⟩
set_option maxRecDepth 20000 in
theorem okL_194 : OkL 194 := ⟨by decide, rfl, rfl, lw_memG 669 rfl rfl, ⟨_, rfl, rfl⟩⟩
set_option maxRecDepth 20000 in
theorem okL_195 : OkL 195 := ⟨_, _, _, rfl, by decide, lw_memG 431 rfl rfl, rfl, rfl, by decide⟩
set_option maxRecDepth 20000 in
theorem okL_196 : OkL 196 := ⟨by decide, rfl, rfl, lw_memG 471 rfl rfl, ⟨_, rfl, rfl⟩⟩
set_option maxRecDepth 20000 in
theorem okL_197 : OkL 197 := lw_memG 84 rfl rfl
set_option maxRecDepth 20000 in
theorem okL_198 : OkL 198 := ⟨_, _, rfl, lw_memG 87 rfl rfl⟩
set_option maxRecDepth 20000 in
theorem okL_199 : OkL 199 := ⟨by decide, rfl, rfl, Or.inl ⟨rfl, lw_memG 89 rfl rfl⟩⟩
set_option maxRecDepth 20000 in
theorem okL_200 : OkL 200 := ⟨_, _, rfl, lw_memG 132 rfl rfl⟩
set_option maxRecDepth 20000 in
theorem okL_201 : OkL 201 := ⟨by decide, rfl, rfl, Or.inl ⟨rfl, lw_memG 134 rfl rfl⟩⟩
set_option maxRecDepth 20000 in
theorem okL_202 : OkL 202 := ⟨_, _, rfl, lw_memG 167 rfl rfl⟩
set_option maxRecDepth 20000 in
theorem okL_203 : OkL 203 := ⟨by decide, rfl, rfl, Or.inl ⟨rfl, lw_memG 169 rfl rfl⟩⟩
set_option maxRecDepth 20000 in
theorem okL_204 : OkL 204 := ⟨_, _, _, rfl, by decide, lw_memG 424 rfl rfl, rfl, rfl, by decide⟩
set_option maxRecDepth 20000 in
theorem okL_205 : OkL 205 := ⟨_, _, rfl, lw_memG 186 rfl rfl⟩
set_option maxRecDepth 20000 in
theorem okL_206 : OkL 206 := ⟨by decide, rfl, rfl, Or.inl ⟨rfl, lw_memG 188 rfl rfl⟩⟩
set_option maxRecDepth 20000 in
theorem okL_207 : OkL 207 := ⟨_, _, rfl, lw_memG 226 rfl rfl⟩
set_option maxRecDepth 20000 in
theorem okL_208 : OkL 208 := ⟨by decide, rfl, rfl, Or.inl ⟨rfl, lw_memG 228 rfl rfl⟩⟩
set_option maxRecDepth 20000 in
theorem okL_209 : OkL 209 := ⟨_, _, rfl, lw_memG 286 rfl rfl⟩
set_option maxRecDepth 20000 in
theorem okL_210 : OkL 210 := ⟨by decide, rfl, rfl, Or.inr ⟨rfl, List.mem_of_getElem? (i := 6) rfl⟩⟩
set_option maxRecDepth 20000 in
theorem okL_211 : OkL 211 := ⟨_, _, rfl, lw_memG 340 rfl rfl⟩
set_option maxRecDepth 20000 in
theorem okL_212 : OkL 212 := ⟨by decide, rfl, rfl, Or.inl ⟨rfl, lw_memG 342 rfl rfl⟩⟩
set_option maxRecDepth 20000 in
theorem okL_213 : OkL 213 := ⟨_, _, _, rfl, by decide, lw_memG 428 rfl rfl, rfl, rfl, by decide⟩
set_option maxRecDepth 20000 in
theorem okL_214 : OkL 214 := ⟨by decide, rfl, rfl, lw_memG 677 rfl rfl, ⟨_, rfl, rfl⟩⟩
set_option maxRecDepth 20000 in
theorem okL_215 : OkL 215 := ⟨by decide, rfl, rfl, Or.inl ⟨rfl, lw_memG 551 rfl rfl⟩⟩
set_option maxRecDepth 20000 in
theorem okL_216 : OkL 216 := ⟨_, _, _, rfl, by decide, lw_memG 310 rfl rfl, rfl, rfl, by decide⟩
set_option maxRecDepth 20000 in
theorem okL_217 : OkL 217 := ⟨by decide, rfl, rfl, lw_memG 699 rfl rfl, ⟨_, rfl, rfl⟩⟩
set_option maxRecDepth 20000 in
theorem okL_218 : OkL 218 := lw_memG 466 rfl rfl
set_option maxRecDepth 20000 in
theorem okL_219 : OkL 219 := ⟨by decide, rfl, rfl, lw_memG 707 rfl rfl, ⟨_, rfl, rfl⟩⟩
set_option maxRecDepth 20000 in
theorem okL_220 : OkL 220 := ⟨_, _, _, rfl, by decide, lw_memG 359 rfl rfl, rfl, rfl, by decide⟩
set_option maxRecDepth 20000 in
theorem okL_221 : OkL 221 := ⟨by decide, rfl, rfl, lw_memG 752 rfl rfl, ⟨_, rfl, rfl⟩⟩
set_option maxRecDepth 20000 in
theorem okL_222 : OkL 222 := ⟨_, _, _, rfl, by decide, lw_memG 363 rfl rfl, rfl, rfl, by decide⟩
set_option maxRecDepth 20000 in
theorem okL_223 : OkL 223 := ⟨_, _, _, rfl, by decide, lw_memG 361 rfl rfl, rfl, rfl, by decide⟩
set_option maxRecDepth 20000 in
theorem okL_224 : OkL 224 := ⟨_, _, _, rfl, by decide, lw_memG 365 rfl rfl, rfl, rfl, by decide⟩
set_option maxRecDepth 20000 in
theorem okL_225 : OkL 225 := ⟨by decide, rfl, rfl, lw_memG 399 rfl rfl, ⟨_, rfl, rfl⟩⟩
set_option maxRecDepth 20000 in
theorem okL_226 : OkL 226 := ⟨by decide, rfl, rfl, lw_memG 413 rfl rfl, ⟨_, rfl, rfl⟩⟩
set_option maxRecDepth 20000 in
theorem okL_227 : OkL 227 := ⟨by decide, rfl, rfl, lw_memG 417 rfl rfl, ⟨_, rfl, rfl⟩⟩
set_option maxRecDepth 20000 in
theorem okL_228 : OkL 228 := ⟨by decide, rfl, rfl, lw_memG 475 rfl rfl, ⟨_, rfl, rfl⟩⟩
set_option maxRecDepth 20000 in
theorem okL_229 : OkL 229 := ⟨_, _, _, rfl, by decide, lw_memG 212 rfl rfl, rfl, rfl, by decide⟩
set_option maxRecDepth 20000 in
theorem okL_230 : OkL 230 := ⟨_, _, _, rfl, by decide, lw_memG 214 rfl rfl, rfl, rfl, by decide⟩
set_option maxRecDepth 20000 in
theorem okL_231 : OkL 231 := ⟨_, _, _, rfl, by decide, lw_memG 154 rfl rfl, rfl, rfl, by decide⟩
set_option maxRecDepth 20000 in
theorem okL_232 : OkL 232 := ⟨by decide, rfl, rfl, lw_memG 565 rfl rfl, ⟨_, rfl, rfl⟩⟩
set_option maxRecDepth 20000 in
theorem okL_233 : OkL 233 := ⟨by decide, rfl, rfl, lw_memG 574 rfl rfl, ⟨_, rfl, rfl⟩⟩
set_option maxRecDepth 20000 in
theorem okL_234 : OkL 234 := ⟨by decide, rfl, rfl, lw_memG 586 rfl rfl, ⟨_, rfl, rfl⟩⟩
set_option maxRecDepth 20000 in
theorem okL_235 : OkL 235 := ⟨_, _, _, rfl, by decide, lw_memG 250 rfl rfl, rfl, rfl, by decide⟩
set_option maxRecDepth 20000 in
theorem okL_236 : OkL 236 := ⟨_, _, _, rfl, by decide, lw_memG 248 rfl rfl, rfl, rfl, by decide⟩
set_option maxRecDepth 20000 in
theorem okL_237 : OkL 237 := ⟨by decide, rfl, rfl, lw_memG 644 rfl rfl, ⟨_, rfl, rfl⟩⟩
set_option maxRecDepth 20000 in
theorem okL_238 : OkL 238 := ⟨_, _, _, rfl, by decide, lw_memG 312 rfl rfl, rfl, rfl, by decide⟩
set_option maxRecDepth 20000 in
theorem okL_239 : OkL 239 := ⟨_, _, _, rfl, by decide, lw_memG 314 rfl rfl, rfl, rfl, by decide⟩
set_option maxRecDepth 20000 in
theorem okL_240 : OkL 240 := ⟨by decide, rfl, rfl, Or.inl ⟨rfl, lw_memG 949 rfl rfl⟩⟩
set_option maxRecDepth 20000 in
theorem okL_241 : OkL 241 := ⟨_, _, _, rfl, by decide, lw_memG 779 rfl rfl, rfl, rfl, by decide⟩
set_option maxRecDepth 20000 in
theorem okL_242 : OkL 242 := ⟨_, _, _, rfl, by decide, lw_memG 778 rfl rfl, rfl, rfl, by decide⟩
set_option maxRecDepth 20000 in
theorem okL_243 : OkL 243 := ⟨_, _, _, rfl, by decide, lw_memG 780 rfl rfl, rfl, rfl, by decide⟩
set_option maxRecDepth 20000 in
theorem okL_244 : OkL 244 := ⟨_, _, _, rfl, by decide, lw_memG 781 rfl rfl, rfl, rfl, by decide⟩
set_option maxRecDepth 20000 in
theorem okL_245 : OkL 245 := ⟨_, _, _, rfl, by decide, lw_memG 800 rfl rfl, rfl, rfl, by decide⟩
set_option maxRecDepth 20000 in
theorem okL_246 : OkL 246 := ⟨_, _, _, rfl, by decide, lw_memG 801 rfl rfl, rfl, rfl, by decide⟩
set_option maxRecDepth 20000 in
theorem okL_247 : OkL 247 := ⟨_, _, _, rfl, by decide, lw_memG 802 rfl rfl, rfl, rfl, by decide⟩
set_option maxRecDepth 20000 in
theorem okL_248 : OkL 248 := ⟨_, _, _, rfl, by decide, lw_memG 803 rfl rfl, rfl, rfl, by decide⟩
set_option maxRecDepth 20000 in
theorem okL_249 : OkL 249 := ⟨_, _, _, rfl, by decide, lw_memG 804 rfl rfl, rfl, rfl, by decide⟩
set_option maxRecDepth 20000 in
theorem okL_250 : OkL 250 := ⟨_, _, _, rfl, by decide, lw_memG 809 rfl rfl, rfl, rfl, by decide⟩
set_option maxRecDepth 20000 in
theorem okL_251 : OkL 251 := ⟨_, _, _, rfl, by decide, lw_memG 815 rfl rfl, rfl, rfl, by decide⟩
set_option maxRecDepth 20000 in
theorem okL_252 : OkL 252 := ⟨_, _, _, rfl, by decide, lw_memG 816 rfl rfl, rfl, rfl, by decide⟩
set_option maxRecDepth 20000 in
theorem okL_253 : OkL 253 := ⟨_, _, _, rfl, by decide, lw_memG 818 rfl rfl, rfl, rfl, by decide⟩
set_option maxRecDepth 20000 in
theorem okL_254 : OkL 254 := ⟨_, _, _, rfl, by decide, lw_memG 819 rfl rfl, rfl, rfl, by decide⟩
set_option maxRecDepth 20000 in
theorem okL_255 : OkL 255 := ⟨_, _, _, rfl, by decide, lw_memG 817 rfl rfl, rfl, rfl, by decide⟩
set_option maxRecDepth 20000 in
theorem okL_256 : OkL 256 := ⟨by decide, rfl, rfl, lw_memG 938 rfl rfl, ⟨_, rfl, rfl⟩⟩
set_option maxRecDepth 20000 in
theorem okL_257 : OkL 257 := ⟨by decide, rfl, rfl, Or.inl ⟨rfl, lw_memG 1031 rfl rfl⟩⟩
set_option maxRecDepth 20000 in
theorem okL_258 : OkL 258 := ⟨by decide, rfl, rfl, Or.inl ⟨rfl, lw_memG 1025 rfl rfl⟩⟩
set_option maxRecDepth 20000 in
theorem okL_259 : OkL 259 := ⟨_, _, _, rfl, by decide, lw_memG 782 rfl rfl, rfl, rfl, by decide⟩
set_option maxRecDepth 20000 in
theorem okL_260 : OkL 260 := ⟨by decide, rfl, rfl, lw_memG 991 rfl rfl, ⟨_, rfl, rfl⟩⟩
set_option maxRecDepth 20000 in
theorem okL_261 : OkL 261 := ⟨by decide, rfl, rfl, Or.inl ⟨rfl, lw_memG 910 rfl rfl⟩⟩
set_option maxRecDepth 20000 in
theorem okL_262 : OkL 262 := ⟨by decide, rfl, rfl, lw_memG 1014 rfl rfl, ⟨_, rfl, rfl⟩⟩
set_option maxRecDepth 20000 in
theorem okL_263 : OkL 263 := ⟨_, _, _, rfl, by decide, lw_memG 786 rfl rfl, rfl, rfl, by decide⟩
set_option maxRecDepth 20000 in
theorem okL_264 : OkL 264 := ⟨_, _, _, rfl, by decide, lw_memG 785 rfl rfl, rfl, rfl, by decide⟩
set_option maxRecDepth 20000 in
theorem okL_265 : OkL 265 := ⟨_, _, _, rfl, by decide, lw_memG 787 rfl rfl, rfl, rfl, by decide⟩
set_option maxRecDepth 20000 in
theorem okL_266 : OkL 266 := ⟨by decide, rfl, rfl, lw_memG 1034 rfl rfl, ⟨_, rfl, rfl⟩⟩
set_option maxRecDepth 20000 in
theorem okL_267 : OkL 267 := ⟨by decide, rfl, rfl, Or.inl ⟨rfl, lw_memG 1028 rfl rfl⟩⟩
set_option maxRecDepth 20000 in
theorem okL_268 : OkL 268 := ⟨_, _, _, rfl, by decide, lw_memG 788 rfl rfl, rfl, rfl, by decide⟩
set_option maxRecDepth 20000 in
theorem okL_269 : OkL 269 := ⟨_, _, _, rfl, by decide, lw_memG 783 rfl rfl, rfl, rfl, by decide⟩
set_option maxRecDepth 20000 in
theorem okL_270 : OkL 270 := ⟨by decide, rfl, rfl, lw_memG 1038 rfl rfl, ⟨_, rfl, rfl⟩⟩
set_option maxRecDepth 20000 in
theorem okL_271 : OkL 271 := ⟨_, _, _, rfl, by decide, lw_memG 784 rfl rfl, rfl, rfl, by decide⟩
set_option maxRecDepth 20000 in
theorem okL_272 : OkL 272 := ⟨by decide, rfl, rfl, Or.inl ⟨rfl, lw_memG 1042 rfl rfl⟩⟩
set_option maxRecDepth 20000 in
theorem okL_273 : OkL 273 := ⟨by decide, rfl, rfl, lw_memG 1045 rfl rfl, ⟨_, rfl, rfl⟩⟩
set_option maxRecDepth 20000 in
theorem okL_274 : OkL 274 := ⟨_, _, _, rfl, by decide, lw_memG 808 rfl rfl, rfl, rfl, by decide⟩
set_option maxRecDepth 20000 in
theorem okL_275 : OkL 275 := ⟨by decide, rfl, rfl, lw_memG 1049 rfl rfl, ⟨_, rfl, rfl⟩⟩
set_option maxRecDepth 20000 in
theorem okL_276 : OkL 276 := ⟨by decide, rfl, rfl, lw_memG 934 rfl rfl, ⟨_, rfl, rfl⟩⟩
set_option maxRecDepth 20000 in
theorem okL_277 : OkL 277 := ⟨by decide, rfl, rfl, lw_memG 1003 rfl rfl, ⟨_, rfl, rfl⟩⟩
set_option maxRecDepth 20000 in
theorem okL_278 : OkL 278 := ⟨by decide, rfl, rfl, Or.inl ⟨rfl, lw_memG 956 rfl rfl⟩⟩
set_option maxRecDepth 20000 in
theorem okL_279 : OkL 279 := ⟨by decide, rfl, rfl, Or.inl ⟨rfl, lw_memG 959 rfl rfl⟩⟩
set_option maxRecDepth 20000 in
theorem okL_280 : OkL 280 := ⟨by decide, rfl, rfl, Or.inl ⟨rfl, lw_memG 969 rfl rfl⟩⟩
set_option maxRecDepth 20000 in
theorem okL_281 : OkL 281 := ⟨_, _, _, rfl, by decide, lw_memG 813 rfl rfl, rfl, rfl, by decide⟩
set_option maxRecDepth 20000 in
theorem okL_282 : OkL 282 := ⟨by decide, rfl, rfl, lw_memG 930 rfl rfl, ⟨_, rfl, rfl⟩⟩
set_option maxRecDepth 20000 in
theorem okL_283 : OkL 283 := ⟨by decide, rfl, rfl, Or.inl ⟨rfl, lw_memG 976 rfl rfl⟩⟩
set_option maxRecDepth 20000 in
theorem okL_284 : OkL 284 := ⟨by decide, rfl, rfl, Or.inl ⟨rfl, lw_memG 962 rfl rfl⟩⟩
set_option maxRecDepth 20000 in
theorem okL_285 : OkL 285 := ⟨_, _, _, rfl, by decide, lw_memG 805 rfl rfl, rfl, rfl, by decide⟩
set_option maxRecDepth 20000 in
theorem okL_286 : OkL 286 := ⟨_, _, _, rfl, by decide, lw_memG 806 rfl rfl, rfl, rfl, by decide⟩
set_option maxRecDepth 20000 in
theorem okL_287 : OkL 287 := ⟨_, _, _, rfl, by decide, lw_memG 807 rfl rfl, rfl, rfl, by decide⟩
set_option maxRecDepth 20000 in
theorem okL_288 : OkL 288 := ⟨by decide, rfl, rfl, lw_memG 774 rfl rfl, ⟨_, rfl, rfl⟩⟩
set_option maxRecDepth 20000 in
theorem okL_289 : OkL 289 := ⟨_, _, _, rfl, by decide, lw_memG 795 rfl rfl, rfl, rfl, by decide⟩
set_option maxRecDepth 20000 in
theorem okL_290 : OkL 290 := ⟨_, _, _, rfl, by decide, lw_memG 798 rfl rfl, rfl, rfl, by decide⟩
set_option maxRecDepth 20000 in
theorem okL_291 : OkL 291 := ⟨_, _, _, rfl, by decide, lw_memG 796 rfl rfl, rfl, rfl, by decide⟩
set_option maxRecDepth 20000 in
theorem okL_292 : OkL 292 := ⟨by decide, rfl, rfl, lw_memG 922 rfl rfl, ⟨_, rfl, rfl⟩⟩
set_option maxRecDepth 20000 in
theorem okL_293 : OkL 293 := ⟨_, _, _, rfl, by decide, lw_memG 789 rfl rfl, rfl, rfl, by decide⟩
set_option maxRecDepth 20000 in
theorem okL_294 : OkL 294 := lw_memG 773 rfl rfl
set_option maxRecDepth 20000 in
theorem okL_295 : OkL 295 := ⟨_, _, _, rfl, by decide, lw_memG 790 rfl rfl, rfl, rfl, by decide⟩
set_option maxRecDepth 20000 in
theorem okL_296 : OkL 296 := ⟨_, _, _, rfl, by decide, lw_memG 791 rfl rfl, rfl, rfl, by decide⟩
set_option maxRecDepth 20000 in
theorem okL_297 : OkL 297 := ⟨_, _, _, rfl, by decide, lw_memG 792 rfl rfl, rfl, rfl, by decide⟩
set_option maxRecDepth 20000 in
theorem okL_298 : OkL 298 := ⟨_, _, _, rfl, by decide, lw_memG 793 rfl rfl, rfl, rfl, by decide⟩
set_option maxRecDepth 20000 in
theorem okL_299 : OkL 299 := ⟨_, _, _, rfl, by decide, lw_memG 794 rfl rfl, rfl, rfl, by decide⟩
set_option maxRecDepth 20000 in
theorem okL_300 : OkL 300 := ⟨_, _, _, rfl, by decide, lw_memG 797 rfl rfl, rfl, rfl, by decide⟩
set_option maxRecDepth 20000 in
theorem okL_301 : OkL 301 := ⟨_, _, _, rfl, by decide, lw_memG 799 rfl rfl, rfl, rfl, by decide⟩
set_option maxRecDepth 20000 in
theorem okL_302 : OkL 302 := ⟨_, _, _, rfl, by decide, lw_memG 810 rfl rfl, rfl, rfl, by decide⟩
set_option maxRecDepth 20000 in
theorem okL_303 : OkL 303 := ⟨_, _, _, rfl, by decide, lw_memG 811 rfl rfl, rfl, rfl, by decide⟩
set_option maxRecDepth 20000 in
theorem okL_304 : OkL 304 := ⟨_, _, _, rfl, by decide, lw_memG 812 rfl rfl, rfl, rfl, by decide⟩
set_option maxRecDepth 20000 in
theorem okL_305 : OkL 305 := ⟨_, _, _, rfl, by decide, lw_memG 814 rfl rfl, rfl, rfl, by decide⟩
set_option maxRecDepth 20000 in
theorem okL_306 : OkL 306 := ⟨by decide, rfl, rfl, lw_memG 942 rfl rfl, ⟨_, rfl, rfl⟩⟩
set_option maxRecDepth 20000 in
theorem okL_307 : OkL 307 := ⟨by decide, rfl, rfl, lw_memG 952 rfl rfl, ⟨_, rfl, rfl⟩⟩
set_option maxRecDepth 20000 in
theorem okL_308 : OkL 308 := ⟨by decide, rfl, rfl, lw_memG 965 rfl rfl, ⟨_, rfl, rfl⟩⟩
set_option maxRecDepth 20000 in
theorem okL_309 : OkL 309 := ⟨by decide, rfl, rfl, lw_memG 972 rfl rfl, ⟨_, rfl, rfl⟩⟩
set_option maxRecDepth 20000 in
theorem okL_310 : OkL 310 := ⟨by decide, rfl, rfl, lw_memG 979 rfl rfl, ⟨_, rfl, rfl⟩⟩
set_option maxRecDepth 20000 in
theorem okL_311 : OkL 311 := ⟨by decide, rfl, rfl, lw_memG 983 rfl rfl, ⟨_, rfl, rfl⟩⟩
set_option maxRecDepth 20000 in
theorem okL_312 : OkL 312 := ⟨by decide, rfl, rfl, lw_memG 987 rfl rfl, ⟨_, rfl, rfl⟩⟩
set_option maxRecDepth 20000 in
theorem okL_313 : OkL 313 := ⟨by decide, rfl, rfl, Or.inl ⟨rfl, lw_memG 1018 rfl rfl⟩⟩
set_option maxRecDepth 20000 in
theorem okL_314 : OkL 314 := ⟨by decide, rfl, rfl, Or.inl ⟨rfl, lw_memG 946 rfl rfl⟩⟩
set_option maxRecDepth 20000 in
theorem okL_315 : OkL 315 := ⟨by decide, rfl, rfl, lw_memG 1021 rfl rfl, ⟨_, rfl, rfl⟩⟩
set_option maxRecDepth 20000 in
theorem okL_316 : OkL 316 := ⟨by decide, rfl, rfl, lw_memG 1093 rfl rfl, ⟨_, rfl, rfl⟩⟩
set_option maxRecDepth 20000 in
theorem okL_317 : OkL 317 := ⟨by decide, rfl, rfl, lw_memG 1097 rfl rfl, ⟨_, rfl, rfl⟩⟩
set_option maxRecDepth 20000 in
theorem okL_318 : OkL 318 := lw_memG 917 rfl rfl
set_option maxRecDepth 20000 in
theorem okL_319 : OkL 319 := ⟨by decide, rfl, rfl, lw_memG 1089 rfl rfl, ⟨_, rfl, rfl⟩⟩
set_option maxRecDepth 20000 in
theorem okL_320 : OkL 320 := ⟨by decide, rfl, rfl, lw_memG 1101 rfl rfl, ⟨_, rfl, rfl⟩⟩
set_option maxRecDepth 20000 in
theorem okL_321 : OkL 321 := ⟨by decide, rfl, rfl, lw_memG 926 rfl rfl, ⟨_, rfl, rfl⟩⟩
set_option maxRecDepth 20000 in
theorem okL_322 : OkL 322 := ⟨by decide, rfl, rfl, lw_memG 995 rfl rfl, ⟨_, rfl, rfl⟩⟩
set_option maxRecDepth 20000 in
theorem okL_323 : OkL 323 := ⟨by decide, rfl, rfl, lw_memG 999 rfl rfl, ⟨_, rfl, rfl⟩⟩
set_option maxRecDepth 20000 in
theorem okL_324 : OkL 324 := ⟨by decide, rfl, rfl, lw_memG 1010 rfl rfl, ⟨_, rfl, rfl⟩⟩
set_option maxRecDepth 20000 in
theorem okL_325 : OkL 325 := ⟨by decide, rfl, rfl, Or.inl ⟨rfl, lw_memG 1007 rfl rfl⟩⟩
set_option maxRecDepth 20000 in
theorem okL_326 : OkL 326 := lw_memG 508 rfl rfl
set_option maxRecDepth 20000 in
theorem okL_327 : OkL 327 := lw_memG 509 rfl rfl
set_option maxRecDepth 20000 in
theorem okL_328 : OkL 328 := lw_memG 510 rfl rfl
set_option maxRecDepth 20000 in
theorem okL_329 : OkL 329 := ⟨_, _, rfl, lw_memG 79 rfl rfl⟩
set_option maxRecDepth 20000 in
theorem okL_330 : OkL 330 := ⟨by decide, rfl, rfl, Or.inl ⟨rfl, lw_memG 81 rfl rfl⟩⟩
set_option maxRecDepth 20000 in
theorem okL_331 : OkL 331 := ⟨_, _, rfl, lw_memG 768 rfl rfl⟩
set_option maxRecDepth 20000 in
theorem okL_332 : OkL 332 := ⟨by decide, rfl, rfl, Or.inl ⟨rfl, lw_memG 770 rfl rfl⟩⟩
set_option maxRecDepth 20000 in
theorem okL_333 : OkL 333 := ⟨by decide, rfl, rfl, lw_memG 455 rfl rfl, ⟨_, rfl, rfl⟩⟩
set_option maxRecDepth 20000 in
theorem okL_334 : OkL 334 := ⟨by decide, rfl, rfl, lw_memG 906 rfl rfl, ⟨_, rfl, rfl⟩⟩
set_option maxRecDepth 20000 in
theorem okL_335 : OkL 335 := ⟨by decide, rfl, rfl, lw_memG 462 rfl rfl, ⟨_, rfl, rfl⟩⟩
set_option maxRecDepth 20000 in
theorem okL_336 : OkL 336 := ⟨by decide, rfl, rfl, lw_memG 913 rfl rfl, ⟨_, rfl, rfl⟩⟩
set_option maxRecDepth 20000 in
theorem okL_337 : OkL 337 := ⟨by decide, rfl, rfl, lw_memG 467 rfl rfl, ⟨_, rfl, rfl⟩⟩
set_option maxRecDepth 20000 in
theorem okL_338 : OkL 338 := ⟨by decide, rfl, rfl, lw_memG 918 rfl rfl, ⟨_, rfl, rfl⟩⟩
set_option maxRecDepth 20000 in
theorem okL_339 : OkL 339 := ⟨by decide, rfl, rfl, lw_memG 648 rfl rfl, ⟨_, rfl, rfl⟩⟩
set_option maxRecDepth 20000 in
theorem okL_340 : OkL 340 := ⟨by decide, rfl, rfl, lw_memG 1053 rfl rfl, ⟨_, rfl, rfl⟩⟩
set_option maxRecDepth 20000 in
theorem okL_341 : OkL 341 := ⟨by decide, rfl, rfl, lw_memG 653 rfl rfl, ⟨_, rfl, rfl⟩⟩
set_option maxRecDepth 20000 in
theorem okL_342 : OkL 342 := ⟨by decide, rfl, rfl, lw_memG 1057 rfl rfl, ⟨_, rfl, rfl⟩⟩
set_option maxRecDepth 20000 in
theorem okL_343 : OkL 343 := ⟨by decide, rfl, rfl, lw_memG 657 rfl rfl, ⟨_, rfl, rfl⟩⟩
set_option maxRecDepth 20000 in
theorem okL_344 : OkL 344 := ⟨by decide, rfl, rfl, lw_memG 1061 rfl rfl, ⟨_, rfl, rfl⟩⟩
set_option maxRecDepth 20000 in
theorem okL_345 : OkL 345 := ⟨by decide, rfl, rfl, lw_memG 665 rfl rfl, ⟨_, rfl, rfl⟩⟩
set_option maxRecDepth 20000 in
theorem okL_346 : OkL 346 := ⟨by decide, rfl, rfl, lw_memG 1065 rfl rfl, ⟨_, rfl, rfl⟩⟩
set_option maxRecDepth 20000 in
theorem okL_347 : OkL 347 := ⟨by decide, rfl, rfl, lw_memG 673 rfl rfl, ⟨_, rfl, rfl⟩⟩
set_option maxRecDepth 20000 in
theorem okL_348 : OkL 348 := ⟨by decide, rfl, rfl, lw_memG 1069 rfl rfl, ⟨_, rfl, rfl⟩⟩
set_option maxRecDepth 20000 in
theorem okL_349 : OkL 349 := ⟨by decide, rfl, rfl, lw_memG 681 rfl rfl, ⟨_, rfl, rfl⟩⟩
set_option maxRecDepth 20000 in
theorem okL_350 : OkL 350 := ⟨by decide, rfl, rfl, lw_memG 1073 rfl rfl, ⟨_, rfl, rfl⟩⟩
set_option maxRecDepth 20000 in
theorem okL_351 : OkL 351 := ⟨by decide, rfl, rfl, lw_memG 685 rfl rfl, ⟨_, rfl, rfl⟩⟩
set_option maxRecDepth 20000 in
theorem okL_352 : OkL 352 := ⟨by decide, rfl, rfl, lw_memG 1077 rfl rfl, ⟨_, rfl, rfl⟩⟩
set_option maxRecDepth 20000 in
theorem okL_353 : OkL 353 := ⟨by decide, rfl, rfl, lw_memG 695 rfl rfl, ⟨_, rfl, rfl⟩⟩
set_option maxRecDepth 20000 in
theorem okL_354 : OkL 354 := ⟨by decide, rfl, rfl, lw_memG 1081 rfl rfl, ⟨_, rfl, rfl⟩⟩
set_option maxRecDepth 20000 in
theorem okL_355 : OkL 355 := ⟨by decide, rfl, rfl, lw_memG 703 rfl rfl, ⟨_, rfl, rfl⟩⟩
set_option maxRecDepth 20000 in
theorem okL_356 : OkL 356 := ⟨by decide, rfl, rfl, lw_memG 1085 rfl rfl, ⟨_, rfl, rfl⟩⟩
set_option maxRecDepth 20000 in
theorem okL_357 : OkL 357 := ⟨by decide, rfl, rfl, lw_memG 760 rfl rfl, ⟨_, rfl, rfl⟩⟩
set_option maxRecDepth 20000 in
theorem okL_358 : OkL 358 := ⟨by decide, rfl, rfl, lw_memG 1105 rfl rfl, ⟨_, rfl, rfl⟩⟩
set_option maxRecDepth 20000 in
theorem okL_359 : OkL 359 := ⟨by decide, rfl, rfl, lw_memG 764 rfl rfl, ⟨_, rfl, rfl⟩⟩
set_option maxRecDepth 20000 in
theorem okL_360 : OkL 360 := ⟨by decide, rfl, rfl, lw_memG 1109 rfl rfl, ⟨_, rfl, rfl⟩⟩
theorem okL_all : ∀ w, w < 361 → OkL w := by
  intro w hw
  match w, hw with
  | 0, _ => exact okL_0
  | 1, _ => exact okL_1
  | 2, _ => exact okL_2
  | 3, _ => exact okL_3
  | 4, _ => exact okL_4
  | 5, _ => exact okL_5
  | 6, _ => exact okL_6
  | 7, _ => exact okL_7
  | 8, _ => exact okL_8
  | 9, _ => exact okL_9
  | 10, _ => exact okL_10
  | 11, _ => exact okL_11
  | 12, _ => exact okL_12
  | 13, _ => exact okL_13
  | 14, _ => exact okL_14
  | 15, _ => exact okL_15
  | 16, _ => exact okL_16
  | 17, _ => exact okL_17
  | 18, _ => exact okL_18
  | 19, _ => exact okL_19
  | 20, _ => exact okL_20
  | 21, _ => exact okL_21
  | 22, _ => exact okL_22
  | 23, _ => exact okL_23
  | 24, _ => exact okL_24
  | 25, _ => exact okL_25
  | 26, _ => exact okL_26
  | 27, _ => exact okL_27
  | 28, _ => exact okL_28
  | 29, _ => exact okL_29
  | 30, _ => exact okL_30
  | 31, _ => exact okL_31
  | 32, _ => exact okL_32
  | 33, _ => exact okL_33
  | 34, _ => exact okL_34
  | 35, _ => exact okL_35
  | 36, _ => exact okL_36
  | 37, _ => exact okL_37
  | 38, _ => exact okL_38
  | 39, _ => exact okL_39
  | 40, _ => exact okL_40
  | 41, _ => exact okL_41
  | 42, _ => exact okL_42
  | 43, _ => exact okL_43
  | 44, _ => exact okL_44
  | 45, _ => exact okL_45
  | 46, _ => exact okL_46
  | 47, _ => exact okL_47
  | 48, _ => exact okL_48
  | 49, _ => exact okL_49
  | 50, _ => exact okL_50
  | 51, _ => exact okL_51
  | 52, _ => exact okL_52
  | 53, _ => exact okL_53
  | 54, _ => exact okL_54
  | 55, _ => exact okL_55
  | 56, _ => exact okL_56
  | 57, _ => exact okL_57
  | 58, _ => exact okL_58
  | 59, _ => exact okL_59
  | 60, _ => exact okL_60
  | 61, _ => exact okL_61
  | 62, _ => exact okL_62
  | 63, _ => exact okL_63
  | 64, _ => exact okL_64
  | 65, _ => exact okL_65
  | 66, _ => exact okL_66
  | 67, _ => exact okL_67
  | 68, _ => exact okL_68
  | 69, _ => exact okL_69
  | 70, _ => exact okL_70
  | 71, _ => exact okL_71
  | 72, _ => exact okL_72
  | 73, _ => exact okL_73
  | 74, _ => exact okL_74
  | 75, _ => exact okL_75
  | 76, _ => exact okL_76
  | 77, _ => exact okL_77
  | 78, _ => exact okL_78
  | 79, _ => exact okL_79
  | 80, _ => exact okL_80
  | 81, _ => exact okL_81
  | 82, _ => exact okL_82
  | 83, _ => exact okL_83
  | 84, _ => exact okL_84
  | 85, _ => exact okL_85
  | 86, _ => exact okL_86
  | 87, _ => exact okL_87
  | 88, _ => exact okL_88
  | 89, _ => exact okL_89
  | 90, _ => exact okL_90
  | 91, _ => exact okL_91
  | 92, _ => exact okL_92
  | 93, _ => exact okL_93
  | 94, _ => exact okL_94
  | 95, _ => exact okL_95
  | 96, _ => exact okL_96
  | 97, _ => exact okL_97
  | 98, _ => exact okL_98
  | 99, _ => exact okL_99
  | 100, _ => exact okL_100
  | 101, _ => exact okL_101
  | 102, _ => exact okL_102
  | 103, _ => exact okL_103
  | 104, _ => exact okL_104
  | 105, _ => exact okL_105
  | 106, _ => exact okL_106
  | 107, _ => exact okL_107
  | 108, _ => exact okL_108
  | 109, _ => exact okL_109
  | 110, _ => exact okL_110
  | 111, _ => exact okL_111
  | 112, _ => exact okL_112
  | 113, _ => exact okL_113
  | 114, _ => exact okL_114
  | 115, _ => exact okL_115
  | 116, _ => exact okL_116
  | 117, _ => exact okL_117
  | 118, _ => exact okL_118
  | 119, _ => exact okL_119
  | 120, _ => exact okL_120
  | 121, _ => exact okL_121
  | 122, _ => exact okL_122
  | 123, _ => exact okL_123
  | 124, _ => exact okL_124
  | 125, _ => exact okL_125
  | 126, _ => exact okL_126
  | 127, _ => exact okL_127
  | 128, _ => exact okL_128
  | 129, _ => exact okL_129
  | 130, _ => exact okL_130
  | 131, _ => exact okL_131
  | 132, _ => exact okL_132
  | 133, _ => exact okL_133
  | 134, _ => exact okL_134
  | 135, _ => exact okL_135
  | 136, _ => exact okL_136
  | 137, _ => exact okL_137
  | 138, _ => exact okL_138
  | 139, _ => exact okL_139
  | 140, _ => exact okL_140
  | 141, _ => exact okL_141
  | 142, _ => exact okL_142
  | 143, _ => exact okL_143
  | 144, _ => exact okL_144
  | 145, _ => exact okL_145
  | 146, _ => exact okL_146
  | 147, _ => exact okL_147
  | 148, _ => exact okL_148
  | 149, _ => exact okL_149
  | 150, _ => exact okL_150
  | 151, _ => exact okL_151
  | 152, _ => exact okL_152
  | 153, _ => exact okL_153
  | 154, _ => exact okL_154
  | 155, _ => exact okL_155
  | 156, _ => exact okL_156
  | 157, _ => exact okL_157
  | 158, _ => exact okL_158
  | 159, _ => exact okL_159
  | 160, _ => exact okL_160
  | 161, _ => exact okL_161
  | 162, _ => exact okL_162
  | 163, _ => exact okL_163
  | 164, _ => exact okL_164
  | 165, _ => exact okL_165
  | 166, _ => exact okL_166
  | 167, _ => exact okL_167
  | 168, _ => exact okL_168
  | 169, _ => exact okL_169
  | 170, _ => exact okL_170
  | 171, _ => exact okL_171
  | 172, _ => exact okL_172
  | 173, _ => exact okL_173
  | 174, _ => exact okL_174
  | 175, _ => exact okL_175
  | 176, _ => exact okL_176
  | 177, _ => exact okL_177
  | 178, _ => exact okL_178
  | 179, _ => exact okL_179
  | 180, _ => exact okL_180
  | 181, _ => exact okL_181
  | 182, _ => exact okL_182
  | 183, _ => exact okL_183
  | 184, _ => exact okL_184
  | 185, _ => exact okL_185
  | 186, _ => exact okL_186
  | 187, _ => exact okL_187
  | 188, _ => exact okL_188
  | 189, _ => exact okL_189
  | 190, _ => exact okL_190
  | 191, _ => exact okL_191
  | 192, _ => exact okL_192
  | 193, _ => exact okL_193
  | 194, _ => exact okL_194
  | 195, _ => exact okL_195
  | 196, _ => exact okL_196
  | 197, _ => exact okL_197
  | 198, _ => exact okL_198
  | 199, _ => exact okL_199
  | 200, _ => exact okL_200
  | 201, _ => exact okL_201
  | 202, _ => exact okL_202
  | 203, _ => exact okL_203
  | 204, _ => exact okL_204
  | 205, _ => exact okL_205
  | 206, _ => exact okL_206
  | 207, _ => exact okL_207
  | 208, _ => exact okL_208
  | 209, _ => exact okL_209
  | 210, _ => exact okL_210
  | 211, _ => exact okL_211
  | 212, _ => exact okL_212
  | 213, _ => exact okL_213
  | 214, _ => exact okL_214
  | 215, _ => exact okL_215
  | 216, _ => exact okL_216
  | 217, _ => exact okL_217
  | 218, _ => exact okL_218
  | 219, _ => exact okL_219
  | 220, _ => exact okL_220
  | 221, _ => exact okL_221
  | 222, _ => exact okL_222
  | 223, _ => exact okL_223
  | 224, _ => exact okL_224
  | 225, _ => exact okL_225
  | 226, _ => exact okL_226
  | 227, _ => exact okL_227
  | 228, _ => exact okL_228
  | 229, _ => exact okL_229
  | 230, _ => exact okL_230
  | 231, _ => exact okL_231
  | 232, _ => exact okL_232
  | 233, _ => exact okL_233
  | 234, _ => exact okL_234
  | 235, _ => exact okL_235
  | 236, _ => exact okL_236
  | 237, _ => exact okL_237
  | 238, _ => exact okL_238
  | 239, _ => exact okL_239
  | 240, _ => exact okL_240
  | 241, _ => exact okL_241
  | 242, _ => exact okL_242
  | 243, _ => exact okL_243
  | 244, _ => exact okL_244
  | 245, _ => exact okL_245
  | 246, _ => exact okL_246
  | 247, _ => exact okL_247
  | 248, _ => exact okL_248
  | 249, _ => exact okL_249
  | 250, _ => exact okL_250
  | 251, _ => exact okL_251
  | 252, _ => exact okL_252
  | 253, _ => exact okL_253
  | 254, _ => exact okL_254
  | 255, _ => exact okL_255
  | 256, _ => exact okL_256
  | 257, _ => exact okL_257
  | 258, _ => exact okL_258
  | 259, _ => exact okL_259
  | 260, _ => exact okL_260
  | 261, _ => exact okL_261
  | 262, _ => exact okL_262
  | 263, _ => exact okL_263
  | 264, _ => exact okL_264
  | 265, _ => exact okL_265
  | 266, _ => exact okL_266
  | 267, _ => exact okL_267
  | 268, _ => exact okL_268
  | 269, _ => exact okL_269
  | 270, _ => exact okL_270
  | 271, _ => exact okL_271
  | 272, _ => exact okL_272
  | 273, _ => exact okL_273
  | 274, _ => exact okL_274
  | 275, _ => exact okL_275
  | 276, _ => exact okL_276
  | 277, _ => exact okL_277
  | 278, _ => exact okL_278
  | 279, _ => exact okL_279
  | 280, _ => exact okL_280
  | 281, _ => exact okL_281
  | 282, _ => exact okL_282
  | 283, _ => exact okL_283
  | 284, _ => exact okL_284
  | 285, _ => exact okL_285
  | 286, _ => exact okL_286
  | 287, _ => exact okL_287
  | 288, _ => exact okL_288
  | 289, _ => exact okL_289
  | 290, _ => exact okL_290
  | 291, _ => exact okL_291
  | 292, _ => exact okL_292
  | 293, _ => exact okL_293
  | 294, _ => exact okL_294
  | 295, _ => exact okL_295
  | 296, _ => exact okL_296
  | 297, _ => exact okL_297
  | 298, _ => exact okL_298
  | 299, _ => exact okL_299
  | 300, _ => exact okL_300
  | 301, _ => exact okL_301
  | 302, _ => exact okL_302
  | 303, _ => exact okL_303
  | 304, _ => exact okL_304
  | 305, _ => exact okL_305
  | 306, _ => exact okL_306
  | 307, _ => exact okL_307
  | 308, _ => exact okL_308
  | 309, _ => exact okL_309
  | 310, _ => exact okL_310
  | 311, _ => exact okL_311
  | 312, _ => exact okL_312
  | 313, _ => exact okL_313
  | 314, _ => exact okL_314
  | 315, _ => exact okL_315
  | 316, _ => exact okL_316
  | 317, _ => exact okL_317
  | 318, _ => exact okL_318
  | 319, _ => exact okL_319
  | 320, _ => exact okL_320
  | 321, _ => exact okL_321
  | 322, _ => exact okL_322
  | 323, _ => exact okL_323
  | 324, _ => exact okL_324
  | 325, _ => exact okL_325
  | 326, _ => exact okL_326
  | 327, _ => exact okL_327
  | 328, _ => exact okL_328
  | 329, _ => exact okL_329
  | 330, _ => exact okL_330
  | 331, _ => exact okL_331
  | 332, _ => exact okL_332
  | 333, _ => exact okL_333
  | 334, _ => exact okL_334
  | 335, _ => exact okL_335
  | 336, _ => exact okL_336
  | 337, _ => exact okL_337
  | 338, _ => exact okL_338
  | 339, _ => exact okL_339
  | 340, _ => exact okL_340
  | 341, _ => exact okL_341
  | 342, _ => exact okL_342
  | 343, _ => exact okL_343
  | 344, _ => exact okL_344
  | 345, _ => exact okL_345
  | 346, _ => exact okL_346
  | 347, _ => exact okL_347
  | 348, _ => exact okL_348
  | 349, _ => exact okL_349
  | 350, _ => exact okL_350
  | 351, _ => exact okL_351
  | 352, _ => exact okL_352
  | 353, _ => exact okL_353
  | 354, _ => exact okL_354
  | 355, _ => exact okL_355
  | 356, _ => exact okL_356
  | 357, _ => exact okL_357
  | 358, _ => exact okL_358
  | 359, _ => exact okL_359
  | 360, _ => exact okL_360
  | w + 361, hw => exact absurd hw (by omega)
theorem lkl_len : lkl.length = 361 := by decide +kernel
set_option maxRecDepth 100000 in
set_option maxHeartbeats 4000000 in
theorem chkK_0 : (List.range 10).all (fun k => chkK (k + 0)) = true := by decide +kernel
set_option maxRecDepth 100000 in
set_option maxHeartbeats 4000000 in
theorem chkK_1 : (List.range 10).all (fun k => chkK (k + 10)) = true := by decide +kernel
set_option maxRecDepth 100000 in
set_option maxHeartbeats 4000000 in
theorem chkK_2 : (List.range 10).all (fun k => chkK (k + 20)) = true := by decide +kernel
set_option maxRecDepth 100000 in
set_option maxHeartbeats 4000000 in
theorem chkK_3 : (List.range 10).all (fun k => chkK (k + 30)) = true := by decide +kernel
set_option maxRecDepth 100000 in
set_option maxHeartbeats 4000000 in
theorem chkK_4 : (List.range 10).all (fun k => chkK (k + 40)) = true := by decide +kernel
set_option maxRecDepth 100000 in
set_option maxHeartbeats 4000000 in
theorem chkK_5 : (List.range 10).all (fun k => chkK (k + 50)) = true := by decide +kernel
set_option maxRecDepth 100000 in
set_option maxHeartbeats 4000000 in
theorem chkK_6 : (List.range 10).all (fun k => chkK (k + 60)) = true := by decide +kernel
set_option maxRecDepth 100000 in
set_option maxHeartbeats 4000000 in
theorem chkK_7 : (List.range 10).all (fun k => chkK (k + 70)) = true := by decide +kernel
set_option maxRecDepth 100000 in
set_option maxHeartbeats 4000000 in
theorem chkK_8 : (List.range 10).all (fun k => chkK (k + 80)) = true := by decide +kernel
set_option maxRecDepth 100000 in
set_option maxHeartbeats 4000000 in
theorem chkK_9 : (List.range 10).all (fun k => chkK (k + 90)) = true := by decide +kernel
set_option maxRecDepth 100000 in
set_option maxHeartbeats 4000000 in
theorem chkK_10 : (List.range 10).all (fun k => chkK (k + 100)) = true := by decide +kernel
set_option maxRecDepth 100000 in
set_option maxHeartbeats 4000000 in
theorem chkK_11 : (List.range 10).all (fun k => chkK (k + 110)) = true := by decide +kernel
set_option maxRecDepth 100000 in
set_option maxHeartbeats 4000000 in
theorem chkK_12 : (List.range 10).all (fun k => chkK (k + 120)) = true := by decide +kernel
set_option maxRecDepth 100000 in
set_option maxHeartbeats 4000000 in
theorem chkK_13 : (List.range 10).all (fun k => chkK (k + 130)) = true := by decide +kernel
set_option maxRecDepth 100000 in
set_option maxHeartbeats 4000000 in
theorem chkK_14 : (List.range 9).all (fun k => chkK (k + 140)) = true := by decide +kernel
theorem chkK_all {k : Nat} (hk : k < nm) : chkK k = true := by
  have hn : k < 149 := hk
  by_cases h0 : k < 10
  · have := List.all_eq_true.mp chkK_0 (k - 0) (List.mem_range.mpr (by omega))
    rwa [show k - 0 + 0 = k by omega] at this
  by_cases h1 : k < 20
  · have := List.all_eq_true.mp chkK_1 (k - 10) (List.mem_range.mpr (by omega))
    rwa [show k - 10 + 10 = k by omega] at this
  by_cases h2 : k < 30
  · have := List.all_eq_true.mp chkK_2 (k - 20) (List.mem_range.mpr (by omega))
    rwa [show k - 20 + 20 = k by omega] at this
  by_cases h3 : k < 40
  · have := List.all_eq_true.mp chkK_3 (k - 30) (List.mem_range.mpr (by omega))
    rwa [show k - 30 + 30 = k by omega] at this
  by_cases h4 : k < 50
  · have := List.all_eq_true.mp chkK_4 (k - 40) (List.mem_range.mpr (by omega))
    rwa [show k - 40 + 40 = k by omega] at this
  by_cases h5 : k < 60
  · have := List.all_eq_true.mp chkK_5 (k - 50) (List.mem_range.mpr (by omega))
    rwa [show k - 50 + 50 = k by omega] at this
  by_cases h6 : k < 70
  · have := List.all_eq_true.mp chkK_6 (k - 60) (List.mem_range.mpr (by omega))
    rwa [show k - 60 + 60 = k by omega] at this
  by_cases h7 : k < 80
  · have := List.all_eq_true.mp chkK_7 (k - 70) (List.mem_range.mpr (by omega))
    rwa [show k - 70 + 70 = k by omega] at this
  by_cases h8 : k < 90
  · have := List.all_eq_true.mp chkK_8 (k - 80) (List.mem_range.mpr (by omega))
    rwa [show k - 80 + 80 = k by omega] at this
  by_cases h9 : k < 100
  · have := List.all_eq_true.mp chkK_9 (k - 90) (List.mem_range.mpr (by omega))
    rwa [show k - 90 + 90 = k by omega] at this
  by_cases h10 : k < 110
  · have := List.all_eq_true.mp chkK_10 (k - 100) (List.mem_range.mpr (by omega))
    rwa [show k - 100 + 100 = k by omega] at this
  by_cases h11 : k < 120
  · have := List.all_eq_true.mp chkK_11 (k - 110) (List.mem_range.mpr (by omega))
    rwa [show k - 110 + 110 = k by omega] at this
  by_cases h12 : k < 130
  · have := List.all_eq_true.mp chkK_12 (k - 120) (List.mem_range.mpr (by omega))
    rwa [show k - 120 + 120 = k by omega] at this
  by_cases h13 : k < 140
  · have := List.all_eq_true.mp chkK_13 (k - 130) (List.mem_range.mpr (by omega))
    rwa [show k - 130 + 130 = k by omega] at this
  by_cases h14 : k < 149
  · have := List.all_eq_true.mp chkK_14 (k - 140) (List.mem_range.mpr (by omega))
    rwa [show k - 140 + 140 = k by omega] at this
  omega
