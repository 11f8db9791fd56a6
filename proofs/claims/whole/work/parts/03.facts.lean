/-! WHAT THE TABLES SAY OF THE MACHINE: every entry decodes, every link is a word of the statement's tables. -/
def lw_G : List Cond := lw_tbl.filter goodWord
theorem lw_memG {w : Cond} (i : Nat) (h : lw_tbl[i]? = some w) (hg : goodWord w = true) : w ∈ lw_G := List.mem_filter.mpr ⟨List.mem_of_getElem? h, hg⟩
theorem lw_mT {w : Cond} (h : w ∈ tables_1) (hg : goodWord w = true) : w ∈ lw_G := List.mem_filter.mpr ⟨List.mem_append_right _ h, hg⟩
theorem lw_m1 {w : Cond} (i : Nat) (h : tables_1_1[i]? = some w) (hg : goodWord w = true) : w ∈ lw_G := lw_mT (List.mem_append_left _ (List.mem_of_getElem? h)) hg
theorem lw_m2 {w : Cond} (i : Nat) (h : tables_1_2[i]? = some w) (hg : goodWord w = true) : w ∈ lw_G := lw_mT (List.mem_append_right _ (List.mem_append_left _ (List.mem_of_getElem? h))) hg
theorem lw_m3 {w : Cond} (i : Nat) (h : tables_1_3[i]? = some w) (hg : goodWord w = true) : w ∈ lw_G := lw_mT (List.mem_append_right _ (List.mem_append_right _ (List.mem_append_left _ (List.mem_of_getElem? h)))) hg
theorem lw_m4 {w : Cond} (i : Nat) (h : tables_1_4[i]? = some w) (hg : goodWord w = true) : w ∈ lw_G := lw_mT (List.mem_append_right _ (List.mem_append_right _ (List.mem_append_right _ (List.mem_append_left _ (List.mem_of_getElem? h))))) hg
theorem lw_m5 {w : Cond} (i : Nat) (h : tables_1_5[i]? = some w) (hg : goodWord w = true) : w ∈ lw_G := lw_mT (List.mem_append_right _ (List.mem_append_right _ (List.mem_append_right _ (List.mem_append_right _ (List.mem_of_getElem? h))))) hg
def nmM : Nat := nm - 1
def OkM (k : Nat) : Prop := Cond.code (mt k).1 (mt k).2.1 (mt k).2.2.1 (mt k).2.2.2.1 ∈ lw_G ∧ Cond.initialized (mt k).1.cls ∈ lw_G ∧ (mt k).1.cls = cnm (mt k).2.2.2.2.2.2 ∧ (plainName (mt k).1.cls = true ∧ (mt k).1.cls ≠ "java/lang/invoke/MethodHandle" ∧ (mt k).1.cls ≠ "java/lang/invoke/VarHandle") ∧ (parseMethodDescriptor (mt k).1.desc).map (fun d => d.parameters.length) = some (mt k).2.2.2.2.1 ∧ (mt k).2.2.1 ≤ 40 ∧
  (((mt k).2.2.2.2.2.1 = 0 ∧ Cond.instanceMethod (mt k).1 ∈ lw_G ∧ Cond.selects (mt k).1.cls (mt k).1 (mt k).1 ∈ lw_G) ∨ ((mt k).2.2.2.2.2.1 = 1 ∧ Cond.static (mt k).1 ∈ lw_G) ∨ ((mt k).2.2.2.2.2.1 = 2 ∧ (mt k).1.name = "<init>" ∧ (mt k).2.2.2.1 = none ∧ Cond.instanceMethod (mt k).1 ∈ lw_G))
def stnl : List (String × String) := [("", ""), ("SudokuGrader$Subsets", "KIND"), ("SudokuGrader$Subsets", "SIZE"), ("SudokuGrader$Trace", "WEIGHTS")]
def stn (a : Nat) : String × String := stnl.getD a ("", "")
def kndF (c : Nat) (t : Option FieldType) : Bool := match c % 4, t with
  | 0, some .int => true
  | 1, some .boolean => true
  | 2, some (.object _) => true
  | 2, some (.array _) => true
  | _, _ => false
def OkL (w : Nat) : Prop := match lkl[w]? with
  | none => False
  | some (o, x, kd, a, b, c) => (match kd with
    | 0 => ∃ (C : String) (T : u_T) (N : Nat), vwCl[a]? = some (C, T, N) ∧ b < N ∧ Cond.fieldLink (cnm o) x (T b).1 (T b).2.1 (T b).2.2.1 ∈ lw_G ∧ kndF c (parseFieldDescriptor (T b).2.2.1) = true ∧ (T b).2.2.2 = decide (4 ≤ c) ∧ (T b).1 = C
    | 1 => a < nmM ∧ (mt a).2.2.2.2.1 = b ∧ (mt a).2.2.2.2.2.1 = 0 ∧ Cond.methodLink (cnm o) x (mt a).1 ∈ lw_G ∧ ∃ q, vwCl[(mt a).2.2.2.2.2.2]? = some q ∧ q.1 = (mt a).1.cls
    | 2 => a < nmM ∧ (mt a).2.2.2.2.1 = b ∧ (mt a).2.2.2.2.2.1 = 1 ∧ ((c = 0 ∧ Cond.methodLink (cnm o) x (mt a).1 ∈ lw_G) ∨ (c = 1 ∧ Cond.methodLinkNest (cnm o) x (mt a).1 "SudokuGrader" ∈ nests))
    | 3 => a < nmM ∧ (mt a).2.2.2.2.1 = b ∧ (mt a).2.2.2.2.2.1 = 2 ∧ ((c = 0 ∧ Cond.methodLink (cnm o) x (mt a).1 ∈ lw_G) ∨ (c = 1 ∧ Cond.methodLinkNest (cnm o) x (mt a).1 "SudokuGrader" ∈ nests))
    | 4 => ∃ (C : String) (T : u_T), vwCl[a]? = some (C, T, b) ∧ Cond.classLink (cnm o) x C ∈ lw_G
    | 5 => Cond.constant (cnm o) x (Int32.ofNat a) ∈ lw_G
    | 6 => 1 ≤ a ∧ a < EXN ∧ Cond.fieldLink (cnm o) x (stn a).1 (stn a).2 "[I" ∈ lw_G
    | 7 => Cond.methodLink (cnm o) x objectInit ∈ lw_G
    | 8 => Cond.methodLink (cnm o) x Lib.Math.max.name ∈ lw_G ∧ Cond.static Lib.Math.max.name ∈ lw_G ∧ Cond.initialized "java/lang/Math" ∈ lw_G ∧ Cond.code Lib.Math.max.name Lib.Math.max.code 2 (some .int) ∈ lw_G
    | _ => False)
def lnI (i : Jvm.ClassFile.Instr) : Option Nat := match i with
  | .aload_n _ | .iload_n _ | .istore_n _ | .astore_n _ | .iconst _ | .lconst _ | .iadd | .isub | .imul | .iand | .ior | .ixor | .ishl | .ishr | .iushr | .idiv | .irem | .ineg | .land | .lor | .lshl | .lshr | .lcmp | .dup | .dup2 | .iaload | .laload | .iastore | .lastore | .arraylength | .ireturn | .return_ => some 1
  | .aload _ | .iload _ | .istore _ | .astore _ | .bipush _ | .ldc _ | .newarray _ => some 2
  | .iinc _ _ | .sipush _ | .ldc_w _ | .if_icmp _ _ | .ifCond _ _ | .goto _ | .getfield _ | .putfield _ | .new _ | .getstatic _ | .invokespecial _ | .invokestatic _ | .invokevirtual _ => some 3
  | _ => none
def lkI (i : Jvm.ClassFile.Instr) (a : Nat) : Option (Nat × Nat) := match i with
  | .getfield x => some (x, 0)
  | .putfield x => some (x, 0)
  | .invokevirtual x => some (x, 1)
  | .invokestatic x => some (x, if a = 9998 then 8 else 2)
  | .invokespecial x => some (x, if a = 9999 then 7 else 3)
  | .new x => some (x, 4)
  | .ldc x => some (x, 5)
  | .ldc_w x => some (x, 5)
  | .getstatic x => some (x, 6)
  | _ => none
def chkE (k pc : Nat) (e : EN) : Bool := decide (decode (mt k).2.1 pc = .ok (e.1, e.2.1)) && (match lnI e.1 with
    | some n => decide (e.2.1 = n)
    | none => true) && (match lkI e.1 e.2.2.1 with
    | some (x, kd) => decide (lkl[e.2.2.2.2.2]? = some ((mt k).2.2.2.2.2.2, x, kd, e.2.2.1, e.2.2.2.1, e.2.2.2.2.1))
    | none => true)
def chkK (k : Nat) : Bool := ((edl.getD k []).zipIdx).all (fun q => match q.1 with
  | none => true
  | some e => chkE k q.2 e)
theorem ds_0 : (parseMethodDescriptor "()I").map (fun d => d.parameters.length) = some 0 := by decide +kernel
theorem ds_1 : (parseMethodDescriptor "()V").map (fun d => d.parameters.length) = some 0 := by decide +kernel
theorem ds_2 : (parseMethodDescriptor "()Z").map (fun d => d.parameters.length) = some 0 := by decide +kernel
theorem ds_3 : (parseMethodDescriptor "(I)I").map (fun d => d.parameters.length) = some 1 := by decide +kernel
theorem ds_4 : (parseMethodDescriptor "(I)V").map (fun d => d.parameters.length) = some 1 := by decide +kernel
theorem ds_5 : (parseMethodDescriptor "(I)Z").map (fun d => d.parameters.length) = some 1 := by decide +kernel
theorem ds_6 : (parseMethodDescriptor "(II)I").map (fun d => d.parameters.length) = some 2 := by decide +kernel
theorem ds_7 : (parseMethodDescriptor "(II)V").map (fun d => d.parameters.length) = some 2 := by decide +kernel
theorem ds_8 : (parseMethodDescriptor "(II)Z").map (fun d => d.parameters.length) = some 2 := by decide +kernel
theorem ds_9 : (parseMethodDescriptor "(III)I").map (fun d => d.parameters.length) = some 3 := by decide +kernel
theorem ds_10 : (parseMethodDescriptor "(III)Z").map (fun d => d.parameters.length) = some 3 := by decide +kernel
theorem ds_11 : (parseMethodDescriptor "(IIII)V").map (fun d => d.parameters.length) = some 4 := by decide +kernel
theorem ds_12 : (parseMethodDescriptor "(IIIII)V").map (fun d => d.parameters.length) = some 5 := by decide +kernel
theorem ds_13 : (parseMethodDescriptor "(LSudokuGrader$Board;)I").map (fun d => d.parameters.length) = some 1 := by decide +kernel
theorem ds_14 : (parseMethodDescriptor "(LSudokuGrader$Board;)V").map (fun d => d.parameters.length) = some 1 := by decide +kernel
theorem ds_15 : (parseMethodDescriptor "(LSudokuGrader$Board;I)I").map (fun d => d.parameters.length) = some 2 := by decide +kernel
theorem ds_16 : (parseMethodDescriptor "(LSudokuGrader$Board;I)V").map (fun d => d.parameters.length) = some 2 := by decide +kernel
theorem ds_17 : (parseMethodDescriptor "(LSudokuGrader$Board;II)I").map (fun d => d.parameters.length) = some 3 := by decide +kernel
theorem ds_18 : (parseMethodDescriptor "(LSudokuGrader$Board;II)V").map (fun d => d.parameters.length) = some 3 := by decide +kernel
theorem ds_19 : (parseMethodDescriptor "(LSudokuGrader$Board;II)Z").map (fun d => d.parameters.length) = some 3 := by decide +kernel
theorem ds_20 : (parseMethodDescriptor "(LSudokuGrader$Board;III)I").map (fun d => d.parameters.length) = some 4 := by decide +kernel
theorem ds_21 : (parseMethodDescriptor "(LSudokuGrader$Board;III)V").map (fun d => d.parameters.length) = some 4 := by decide +kernel
theorem ds_22 : (parseMethodDescriptor "(LSudokuGrader$Board;IIII)V").map (fun d => d.parameters.length) = some 5 := by decide +kernel
theorem ds_23 : (parseMethodDescriptor "(LSudokuGrader$Board;[III)I").map (fun d => d.parameters.length) = some 4 := by decide +kernel
theorem ds_24 : (parseMethodDescriptor "(LSudokuGrader$Shape;)V").map (fun d => d.parameters.length) = some 1 := by decide +kernel
theorem ds_25 : (parseMethodDescriptor "(LSudokuGrader$Shape;LSudokuGrader$Going;)V").map (fun d => d.parameters.length) = some 2 := by decide +kernel
theorem ds_26 : (parseMethodDescriptor "([I)I").map (fun d => d.parameters.length) = some 1 := by decide +kernel
theorem ds_27 : (parseMethodDescriptor "([I)V").map (fun d => d.parameters.length) = some 1 := by decide +kernel
theorem ds_28 : (parseMethodDescriptor "([II)V").map (fun d => d.parameters.length) = some 2 := by decide +kernel
theorem ds_29 : (parseMethodDescriptor "([II)Z").map (fun d => d.parameters.length) = some 2 := by decide +kernel
theorem ds_30 : (parseMethodDescriptor "([III)I").map (fun d => d.parameters.length) = some 3 := by decide +kernel
theorem ds_31 : (parseMethodDescriptor "([III)V").map (fun d => d.parameters.length) = some 3 := by decide +kernel
theorem ds_32 : (parseMethodDescriptor "([III)Z").map (fun d => d.parameters.length) = some 3 := by decide +kernel
theorem ds_33 : (parseMethodDescriptor "([IIII)I").map (fun d => d.parameters.length) = some 4 := by decide +kernel
theorem ds_34 : (parseMethodDescriptor "([IIII)Z").map (fun d => d.parameters.length) = some 4 := by decide +kernel
theorem ds_35 : (parseMethodDescriptor "([IIIIII)I").map (fun d => d.parameters.length) = some 6 := by decide +kernel
theorem ds_36 : (parseMethodDescriptor "([I[III)I").map (fun d => d.parameters.length) = some 4 := by decide +kernel
theorem ds_37 : (parseMethodDescriptor "([JII)V").map (fun d => d.parameters.length) = some 3 := by decide +kernel
theorem ds_38 : (parseMethodDescriptor "([JII)Z").map (fun d => d.parameters.length) = some 3 := by decide +kernel
theorem ds_39 : (parseMethodDescriptor "([JI[J[JI)V").map (fun d => d.parameters.length) = some 5 := by decide +kernel
theorem pn_8 : plainName "SudokuGrader" = true ∧ "SudokuGrader" ≠ "java/lang/invoke/MethodHandle" ∧ "SudokuGrader" ≠ "java/lang/invoke/VarHandle" := by decide +kernel
theorem pn_0 : plainName "SudokuGrader$Board" = true ∧ "SudokuGrader$Board" ≠ "java/lang/invoke/MethodHandle" ∧ "SudokuGrader$Board" ≠ "java/lang/invoke/VarHandle" := by decide +kernel
theorem pn_1 : plainName "SudokuGrader$Chains" = true ∧ "SudokuGrader$Chains" ≠ "java/lang/invoke/MethodHandle" ∧ "SudokuGrader$Chains" ≠ "java/lang/invoke/VarHandle" := by decide +kernel
theorem pn_2 : plainName "SudokuGrader$Going" = true ∧ "SudokuGrader$Going" ≠ "java/lang/invoke/MethodHandle" ∧ "SudokuGrader$Going" ≠ "java/lang/invoke/VarHandle" := by decide +kernel
theorem pn_3 : plainName "SudokuGrader$Rules" = true ∧ "SudokuGrader$Rules" ≠ "java/lang/invoke/MethodHandle" ∧ "SudokuGrader$Rules" ≠ "java/lang/invoke/VarHandle" := by decide +kernel
theorem pn_4 : plainName "SudokuGrader$Shape" = true ∧ "SudokuGrader$Shape" ≠ "java/lang/invoke/MethodHandle" ∧ "SudokuGrader$Shape" ≠ "java/lang/invoke/VarHandle" := by decide +kernel
theorem pn_5 : plainName "SudokuGrader$Solver" = true ∧ "SudokuGrader$Solver" ≠ "java/lang/invoke/MethodHandle" ∧ "SudokuGrader$Solver" ≠ "java/lang/invoke/VarHandle" := by decide +kernel
theorem pn_6 : plainName "SudokuGrader$Subsets" = true ∧ "SudokuGrader$Subsets" ≠ "java/lang/invoke/MethodHandle" ∧ "SudokuGrader$Subsets" ≠ "java/lang/invoke/VarHandle" := by decide +kernel
theorem pn_7 : plainName "SudokuGrader$Trace" = true ∧ "SudokuGrader$Trace" ≠ "java/lang/invoke/MethodHandle" ∧ "SudokuGrader$Trace" ≠ "java/lang/invoke/VarHandle" := by decide +kernel
theorem pn_9 : plainName "SudokuGraderModel" = true ∧ "SudokuGraderModel" ≠ "java/lang/invoke/MethodHandle" ∧ "SudokuGraderModel" ≠ "java/lang/invoke/VarHandle" := by decide +kernel
theorem pn_10 : plainName "java/lang/Integer" = true ∧ "java/lang/Integer" ≠ "java/lang/invoke/MethodHandle" ∧ "java/lang/Integer" ≠ "java/lang/invoke/VarHandle" := by decide +kernel
theorem pn_12 : plainName "java/util/Arrays" = true ∧ "java/util/Arrays" ≠ "java/lang/invoke/MethodHandle" ∧ "java/util/Arrays" ≠ "java/lang/invoke/VarHandle" := by decide +kernel
set_option maxRecDepth 20000 in
theorem okM_0 : OkM 0 := ⟨lw_m3 34 rfl rfl, lw_m1 3 rfl rfl, rfl, pn_0, ds_4, by decide, Or.inl ⟨rfl, lw_m3 32 rfl rfl, lw_m3 33 rfl rfl⟩⟩
set_option maxRecDepth 20000 in
theorem okM_1 : OkM 1 := ⟨lw_m2 107 rfl rfl, lw_m1 3 rfl rfl, rfl, pn_0, ds_4, by decide, Or.inl ⟨rfl, lw_m2 106 rfl rfl, lw_memG 3 rfl rfl⟩⟩
set_option maxRecDepth 20000 in
theorem okM_2 : OkM 2 := ⟨lw_m3 38 rfl rfl, lw_m1 3 rfl rfl, rfl, pn_0, ds_5, by decide, Or.inl ⟨rfl, lw_m3 36 rfl rfl, lw_m3 37 rfl rfl⟩⟩
set_option maxRecDepth 20000 in
theorem okM_3 : OkM 3 := ⟨lw_m1 71 rfl rfl, lw_m1 3 rfl rfl, rfl, pn_0, ds_24, by decide, Or.inr (Or.inr ⟨rfl, rfl, rfl, lw_m1 70 rfl rfl⟩)⟩
set_option maxRecDepth 20000 in
theorem okM_4 : OkM 4 := ⟨lw_m3 125 rfl rfl, lw_m1 3 rfl rfl, rfl, pn_0, ds_3, by decide, Or.inl ⟨rfl, lw_m3 123 rfl rfl, lw_m3 124 rfl rfl⟩⟩
set_option maxRecDepth 20000 in
theorem okM_5 : OkM 5 := ⟨lw_m2 97 rfl rfl, lw_m1 3 rfl rfl, rfl, pn_0, ds_27, by decide, Or.inl ⟨rfl, lw_m2 95 rfl rfl, lw_m2 96 rfl rfl⟩⟩
set_option maxRecDepth 20000 in
theorem okM_6 : OkM 6 := ⟨lw_m3 212 rfl rfl, lw_m1 3 rfl rfl, rfl, pn_0, ds_4, by decide, Or.inl ⟨rfl, lw_m3 210 rfl rfl, lw_m3 211 rfl rfl⟩⟩
set_option maxRecDepth 20000 in
theorem okM_7 : OkM 7 := ⟨lw_m3 77 rfl rfl, lw_m1 7 rfl rfl, rfl, pn_1, ds_4, by decide, Or.inl ⟨rfl, lw_m3 76 rfl rfl, lw_memG 20 rfl rfl⟩⟩
set_option maxRecDepth 20000 in
theorem okM_8 : OkM 8 := ⟨lw_m3 57 rfl rfl, lw_m1 7 rfl rfl, rfl, pn_1, ds_7, by decide, Or.inl ⟨rfl, lw_m3 56 rfl rfl, lw_memG 15 rfl rfl⟩⟩
set_option maxRecDepth 20000 in
theorem okM_9 : OkM 9 := ⟨lw_m3 53 rfl rfl, lw_m1 7 rfl rfl, rfl, pn_1, ds_7, by decide, Or.inl ⟨rfl, lw_m3 52 rfl rfl, lw_memG 14 rfl rfl⟩⟩
set_option maxRecDepth 20000 in
theorem okM_10 : OkM 10 := ⟨lw_m3 69 rfl rfl, lw_m1 7 rfl rfl, rfl, pn_1, ds_7, by decide, Or.inl ⟨rfl, lw_m3 68 rfl rfl, lw_memG 18 rfl rfl⟩⟩
set_option maxRecDepth 20000 in
theorem okM_11 : OkM 11 := ⟨lw_m3 89 rfl rfl, lw_m1 7 rfl rfl, rfl, pn_1, ds_19, by decide, Or.inl ⟨rfl, lw_m3 88 rfl rfl, lw_memG 22 rfl rfl⟩⟩
set_option maxRecDepth 20000 in
theorem okM_12 : OkM 12 := ⟨lw_m3 93 rfl rfl, lw_m1 7 rfl rfl, rfl, pn_1, ds_19, by decide, Or.inl ⟨rfl, lw_m3 92 rfl rfl, lw_memG 23 rfl rfl⟩⟩
set_option maxRecDepth 20000 in
theorem okM_13 : OkM 13 := ⟨lw_m1 165 rfl rfl, lw_m1 7 rfl rfl, rfl, pn_1, ds_25, by decide, Or.inr (Or.inr ⟨rfl, rfl, rfl, lw_m1 164 rfl rfl⟩)⟩
set_option maxRecDepth 20000 in
theorem okM_14 : OkM 14 := ⟨lw_m3 46 rfl rfl, lw_m1 7 rfl rfl, rfl, pn_1, ds_14, by decide, Or.inl ⟨rfl, lw_m3 45 rfl rfl, lw_memG 13 rfl rfl⟩⟩
set_option maxRecDepth 20000 in
theorem okM_15 : OkM 15 := ⟨lw_m3 65 rfl rfl, lw_m1 7 rfl rfl, rfl, pn_1, ds_16, by decide, Or.inl ⟨rfl, lw_m3 64 rfl rfl, lw_memG 17 rfl rfl⟩⟩
set_option maxRecDepth 20000 in
theorem okM_16 : OkM 16 := ⟨lw_m3 85 rfl rfl, lw_m1 7 rfl rfl, rfl, pn_1, ds_23, by decide, Or.inl ⟨rfl, lw_m3 83 rfl rfl, lw_m3 84 rfl rfl⟩⟩
set_option maxRecDepth 20000 in
theorem okM_17 : OkM 17 := ⟨lw_m3 42 rfl rfl, lw_m1 7 rfl rfl, rfl, pn_1, ds_13, by decide, Or.inl ⟨rfl, lw_m3 40 rfl rfl, lw_m3 41 rfl rfl⟩⟩
set_option maxRecDepth 20000 in
theorem okM_18 : OkM 18 := ⟨lw_m3 73 rfl rfl, lw_m1 7 rfl rfl, rfl, pn_1, ds_2, by decide, Or.inl ⟨rfl, lw_m3 72 rfl rfl, lw_memG 19 rfl rfl⟩⟩
set_option maxRecDepth 20000 in
theorem okM_19 : OkM 19 := ⟨lw_m3 61 rfl rfl, lw_m1 7 rfl rfl, rfl, pn_1, ds_17, by decide, Or.inl ⟨rfl, lw_m3 60 rfl rfl, lw_memG 16 rfl rfl⟩⟩
set_option maxRecDepth 20000 in
theorem okM_20 : OkM 20 := ⟨lw_m3 81 rfl rfl, lw_m1 7 rfl rfl, rfl, pn_1, ds_4, by decide, Or.inl ⟨rfl, lw_m3 80 rfl rfl, lw_memG 21 rfl rfl⟩⟩
set_option maxRecDepth 20000 in
theorem okM_21 : OkM 21 := ⟨lw_m2 219 rfl rfl, lw_m1 4 rfl rfl, rfl, pn_2, ds_18, by decide, Or.inl ⟨rfl, lw_m2 217 rfl rfl, lw_m2 218 rfl rfl⟩⟩
set_option maxRecDepth 20000 in
theorem okM_22 : OkM 22 := ⟨lw_m2 224 rfl rfl, lw_m1 4 rfl rfl, rfl, pn_2, ds_21, by decide, Or.inl ⟨rfl, lw_m2 222 rfl rfl, lw_m2 223 rfl rfl⟩⟩
set_option maxRecDepth 20000 in
theorem okM_23 : OkM 23 := ⟨lw_m1 106 rfl rfl, lw_m1 4 rfl rfl, rfl, pn_2, ds_24, by decide, Or.inr (Or.inr ⟨rfl, rfl, rfl, lw_m1 105 rfl rfl⟩)⟩
set_option maxRecDepth 20000 in
theorem okM_24 : OkM 24 := ⟨lw_m3 30 rfl rfl, lw_m1 4 rfl rfl, rfl, pn_2, ds_14, by decide, Or.inl ⟨rfl, lw_m3 28 rfl rfl, lw_m3 29 rfl rfl⟩⟩
set_option maxRecDepth 20000 in
theorem okM_25 : OkM 25 := ⟨lw_m1 125 rfl rfl, lw_m1 5 rfl rfl, rfl, pn_3, ds_25, by decide, Or.inr (Or.inr ⟨rfl, rfl, rfl, lw_m1 124 rfl rfl⟩)⟩
set_option maxRecDepth 20000 in
theorem okM_26 : OkM 26 := ⟨lw_m2 228 rfl rfl, lw_m1 5 rfl rfl, rfl, pn_3, ds_20, by decide, Or.inl ⟨rfl, lw_m2 226 rfl rfl, lw_m2 227 rfl rfl⟩⟩
set_option maxRecDepth 20000 in
theorem okM_27 : OkM 27 := ⟨lw_m3 17 rfl rfl, lw_m1 5 rfl rfl, rfl, pn_3, ds_21, by decide, Or.inl ⟨rfl, lw_m3 16 rfl rfl, lw_memG 12 rfl rfl⟩⟩
set_option maxRecDepth 20000 in
theorem okM_28 : OkM 28 := ⟨lw_m3 13 rfl rfl, lw_m1 5 rfl rfl, rfl, pn_3, ds_18, by decide, Or.inl ⟨rfl, lw_m3 12 rfl rfl, lw_memG 11 rfl rfl⟩⟩
set_option maxRecDepth 20000 in
theorem okM_29 : OkM 29 := ⟨lw_m2 173 rfl rfl, lw_m1 5 rfl rfl, rfl, pn_3, ds_15, by decide, Or.inl ⟨rfl, lw_m2 171 rfl rfl, lw_m2 172 rfl rfl⟩⟩
set_option maxRecDepth 20000 in
theorem okM_30 : OkM 30 := ⟨lw_m2 177 rfl rfl, lw_m1 5 rfl rfl, rfl, pn_3, ds_15, by decide, Or.inl ⟨rfl, lw_m2 176 rfl rfl, lw_memG 5 rfl rfl⟩⟩
set_option maxRecDepth 20000 in
theorem okM_31 : OkM 31 := ⟨lw_m2 237 rfl rfl, lw_m1 5 rfl rfl, rfl, pn_3, ds_18, by decide, Or.inl ⟨rfl, lw_m2 236 rfl rfl, lw_memG 9 rfl rfl⟩⟩
set_option maxRecDepth 20000 in
theorem okM_32 : OkM 32 := ⟨lw_m3 9 rfl rfl, lw_m1 5 rfl rfl, rfl, pn_3, ds_18, by decide, Or.inl ⟨rfl, lw_m3 8 rfl rfl, lw_memG 10 rfl rfl⟩⟩
set_option maxRecDepth 20000 in
theorem okM_33 : OkM 33 := ⟨lw_m2 232 rfl rfl, lw_m1 5 rfl rfl, rfl, pn_3, ds_18, by decide, Or.inl ⟨rfl, lw_m2 231 rfl rfl, lw_memG 8 rfl rfl⟩⟩
set_option maxRecDepth 20000 in
theorem okM_34 : OkM 34 := ⟨lw_m1 31 rfl rfl, lw_m1 2 rfl rfl, rfl, pn_4, ds_11, by decide, Or.inl ⟨rfl, lw_m1 30 rfl rfl, lw_memG 0 rfl rfl⟩⟩
set_option maxRecDepth 20000 in
theorem okM_35 : OkM 35 := ⟨lw_m1 26 rfl rfl, lw_m1 2 rfl rfl, rfl, pn_4, ds_1, by decide, Or.inr (Or.inr ⟨rfl, rfl, rfl, lw_m1 25 rfl rfl⟩)⟩
set_option maxRecDepth 20000 in
theorem okM_36 : OkM 36 := ⟨lw_m1 35 rfl rfl, lw_m1 2 rfl rfl, rfl, pn_4, ds_4, by decide, Or.inl ⟨rfl, lw_m1 34 rfl rfl, lw_memG 1 rfl rfl⟩⟩
set_option maxRecDepth 20000 in
theorem okM_37 : OkM 37 := ⟨lw_m1 39 rfl rfl, lw_m1 2 rfl rfl, rfl, pn_4, ds_8, by decide, Or.inl ⟨rfl, lw_m1 37 rfl rfl, lw_m1 38 rfl rfl⟩⟩
set_option maxRecDepth 20000 in
theorem okM_38 : OkM 38 := ⟨lw_m3 163 rfl rfl, lw_m1 9 rfl rfl, rfl, pn_5, ds_27, by decide, Or.inl ⟨rfl, lw_m3 161 rfl rfl, lw_m3 162 rfl rfl⟩⟩
set_option maxRecDepth 20000 in
theorem okM_39 : OkM 39 := ⟨lw_m3 173 rfl rfl, lw_m1 9 rfl rfl, rfl, pn_5, ds_1, by decide, Or.inl ⟨rfl, lw_m3 172 rfl rfl, lw_memG 27 rfl rfl⟩⟩
set_option maxRecDepth 20000 in
theorem okM_40 : OkM 40 := ⟨lw_m3 177 rfl rfl, lw_m1 9 rfl rfl, rfl, pn_5, ds_4, by decide, Or.inl ⟨rfl, lw_m3 176 rfl rfl, lw_memG 28 rfl rfl⟩⟩
set_option maxRecDepth 20000 in
theorem okM_41 : OkM 41 := ⟨lw_m3 187 rfl rfl, lw_m1 9 rfl rfl, rfl, pn_5, ds_4, by decide, Or.inl ⟨rfl, lw_m3 186 rfl rfl, lw_memG 30 rfl rfl⟩⟩
set_option maxRecDepth 20000 in
theorem okM_42 : OkM 42 := ⟨lw_m3 199 rfl rfl, lw_m1 9 rfl rfl, rfl, pn_5, ds_0, by decide, Or.inl ⟨rfl, lw_m3 198 rfl rfl, lw_memG 33 rfl rfl⟩⟩
set_option maxRecDepth 20000 in
theorem okM_43 : OkM 43 := ⟨lw_m2 115 rfl rfl, lw_m1 9 rfl rfl, rfl, pn_5, ds_1, by decide, Or.inl ⟨rfl, lw_m2 113 rfl rfl, lw_m2 114 rfl rfl⟩⟩
set_option maxRecDepth 20000 in
theorem okM_44 : OkM 44 := ⟨lw_m2 39 rfl rfl, lw_m1 9 rfl rfl, rfl, pn_5, ds_24, by decide, Or.inr (Or.inr ⟨rfl, rfl, rfl, lw_m2 38 rfl rfl⟩)⟩
set_option maxRecDepth 20000 in
theorem okM_45 : OkM 45 := ⟨lw_m3 191 rfl rfl, lw_m1 9 rfl rfl, rfl, pn_5, ds_7, by decide, Or.inl ⟨rfl, lw_m3 190 rfl rfl, lw_memG 31 rfl rfl⟩⟩
set_option maxRecDepth 20000 in
theorem okM_46 : OkM 46 := ⟨lw_m3 204 rfl rfl, lw_m1 9 rfl rfl, rfl, pn_5, ds_1, by decide, Or.inl ⟨rfl, lw_m3 203 rfl rfl, lw_memG 34 rfl rfl⟩⟩
set_option maxRecDepth 20000 in
theorem okM_47 : OkM 47 := ⟨lw_m3 168 rfl rfl, lw_m1 9 rfl rfl, rfl, pn_5, ds_7, by decide, Or.inl ⟨rfl, lw_m3 167 rfl rfl, lw_memG 26 rfl rfl⟩⟩
set_option maxRecDepth 20000 in
theorem okM_48 : OkM 48 := ⟨lw_m3 182 rfl rfl, lw_m1 9 rfl rfl, rfl, pn_5, ds_7, by decide, Or.inl ⟨rfl, lw_m3 181 rfl rfl, lw_memG 29 rfl rfl⟩⟩
set_option maxRecDepth 20000 in
theorem okM_49 : OkM 49 := ⟨lw_m3 195 rfl rfl, lw_m1 9 rfl rfl, rfl, pn_5, ds_1, by decide, Or.inl ⟨rfl, lw_m3 194 rfl rfl, lw_memG 32 rfl rfl⟩⟩
set_option maxRecDepth 20000 in
theorem okM_50 : OkM 50 := ⟨lw_m3 208 rfl rfl, lw_m1 9 rfl rfl, rfl, pn_5, ds_1, by decide, Or.inl ⟨rfl, lw_m3 206 rfl rfl, lw_m3 207 rfl rfl⟩⟩
set_option maxRecDepth 20000 in
theorem okM_51 : OkM 51 := ⟨lw_m2 193 rfl rfl, lw_m1 6 rfl rfl, rfl, pn_6, ds_6, by decide, Or.inr (Or.inl ⟨rfl, lw_m2 192 rfl rfl⟩)⟩
set_option maxRecDepth 20000 in
theorem okM_52 : OkM 52 := ⟨lw_m2 181 rfl rfl, lw_m1 6 rfl rfl, rfl, pn_6, ds_17, by decide, Or.inl ⟨rfl, lw_m2 179 rfl rfl, lw_m2 180 rfl rfl⟩⟩
set_option maxRecDepth 20000 in
theorem okM_53 : OkM 53 := ⟨lw_m2 190 rfl rfl, lw_m1 6 rfl rfl, rfl, pn_6, ds_3, by decide, Or.inr (Or.inl ⟨rfl, lw_m2 189 rfl rfl⟩)⟩
set_option maxRecDepth 20000 in
theorem okM_54 : OkM 54 := ⟨lw_m1 131 rfl rfl, lw_m1 6 rfl rfl, rfl, pn_6, ds_25, by decide, Or.inr (Or.inr ⟨rfl, rfl, rfl, lw_m1 130 rfl rfl⟩)⟩
set_option maxRecDepth 20000 in
theorem okM_55 : OkM 55 := ⟨lw_m2 185 rfl rfl, lw_m1 6 rfl rfl, rfl, pn_6, ds_19, by decide, Or.inl ⟨rfl, lw_m2 184 rfl rfl, lw_memG 6 rfl rfl⟩⟩
set_option maxRecDepth 20000 in
theorem okM_56 : OkM 56 := ⟨lw_m2 211 rfl rfl, lw_m1 6 rfl rfl, rfl, pn_6, ds_20, by decide, Or.inl ⟨rfl, lw_m2 209 rfl rfl, lw_m2 210 rfl rfl⟩⟩
set_option maxRecDepth 20000 in
theorem okM_57 : OkM 57 := ⟨lw_m2 215 rfl rfl, lw_m1 6 rfl rfl, rfl, pn_6, ds_22, by decide, Or.inl ⟨rfl, lw_m2 214 rfl rfl, lw_memG 7 rfl rfl⟩⟩
set_option maxRecDepth 20000 in
theorem okM_58 : OkM 58 := ⟨lw_m2 198 rfl rfl, lw_m1 6 rfl rfl, rfl, pn_6, ds_35, by decide, Or.inr (Or.inl ⟨rfl, lw_m2 197 rfl rfl⟩)⟩
set_option maxRecDepth 20000 in
theorem okM_59 : OkM 59 := ⟨lw_m2 207 rfl rfl, lw_m1 6 rfl rfl, rfl, pn_6, ds_32, by decide, Or.inr (Or.inl ⟨rfl, lw_m2 206 rfl rfl⟩)⟩
set_option maxRecDepth 20000 in
theorem okM_60 : OkM 60 := ⟨lw_m2 111 rfl rfl, lw_m1 8 rfl rfl, rfl, pn_7, ds_1, by decide, Or.inl ⟨rfl, lw_m2 109 rfl rfl, lw_m2 110 rfl rfl⟩⟩
set_option maxRecDepth 20000 in
theorem okM_61 : OkM 61 := ⟨lw_m3 117 rfl rfl, lw_m1 8 rfl rfl, rfl, pn_7, ds_5, by decide, Or.inl ⟨rfl, lw_m3 115 rfl rfl, lw_m3 116 rfl rfl⟩⟩
set_option maxRecDepth 20000 in
theorem okM_62 : OkM 62 := ⟨lw_m1 225 rfl rfl, lw_m1 8 rfl rfl, rfl, pn_7, ds_1, by decide, Or.inr (Or.inr ⟨rfl, rfl, rfl, lw_m1 224 rfl rfl⟩)⟩
set_option maxRecDepth 20000 in
theorem okM_63 : OkM 63 := ⟨lw_m3 133 rfl rfl, lw_m1 8 rfl rfl, rfl, pn_7, ds_3, by decide, Or.inl ⟨rfl, lw_m3 131 rfl rfl, lw_m3 132 rfl rfl⟩⟩
set_option maxRecDepth 20000 in
theorem okM_64 : OkM 64 := ⟨lw_m3 21 rfl rfl, lw_m1 8 rfl rfl, rfl, pn_7, ds_12, by decide, Or.inl ⟨rfl, lw_m3 19 rfl rfl, lw_m3 20 rfl rfl⟩⟩
set_option maxRecDepth 20000 in
theorem okM_65 : OkM 65 := ⟨lw_m3 100 rfl rfl, lw_m1 8 rfl rfl, rfl, pn_7, ds_28, by decide, Or.inl ⟨rfl, lw_m3 98 rfl rfl, lw_m3 99 rfl rfl⟩⟩
set_option maxRecDepth 20000 in
theorem okM_66 : OkM 66 := ⟨lw_m2 103 rfl rfl, lw_m1 1 rfl rfl, rfl, pn_8, ds_3, by decide, Or.inr (Or.inl ⟨rfl, lw_m2 102 rfl rfl⟩)⟩
set_option maxRecDepth 20000 in
theorem okM_67 : OkM 67 := ⟨lw_m3 104 rfl rfl, lw_m1 1 rfl rfl, rfl, pn_8, ds_6, by decide, Or.inl ⟨rfl, lw_m3 102 rfl rfl, lw_m3 103 rfl rfl⟩⟩
set_option maxRecDepth 20000 in
theorem okM_68 : OkM 68 := ⟨lw_m3 141 rfl rfl, lw_m1 1 rfl rfl, rfl, pn_8, ds_9, by decide, Or.inl ⟨rfl, lw_m3 139 rfl rfl, lw_m3 140 rfl rfl⟩⟩
set_option maxRecDepth 20000 in
theorem okM_69 : OkM 69 := ⟨lw_m3 155 rfl rfl, lw_m1 1 rfl rfl, rfl, pn_8, ds_3, by decide, Or.inl ⟨rfl, lw_m3 154 rfl rfl, lw_memG 25 rfl rfl⟩⟩
set_option maxRecDepth 20000 in
theorem okM_70 : OkM 70 := ⟨lw_m2 153 rfl rfl, lw_m1 1 rfl rfl, rfl, pn_8, ds_8, by decide, Or.inl ⟨rfl, lw_m2 151 rfl rfl, lw_m2 152 rfl rfl⟩⟩
set_option maxRecDepth 20000 in
theorem okM_71 : OkM 71 := ⟨lw_m3 121 rfl rfl, lw_m1 1 rfl rfl, rfl, pn_8, ds_6, by decide, Or.inl ⟨rfl, lw_m3 119 rfl rfl, lw_m3 120 rfl rfl⟩⟩
set_option maxRecDepth 20000 in
theorem okM_72 : OkM 72 := ⟨lw_m2 165 rfl rfl, lw_m1 1 rfl rfl, rfl, pn_8, ds_3, by decide, Or.inl ⟨rfl, lw_m2 163 rfl rfl, lw_m2 164 rfl rfl⟩⟩
set_option maxRecDepth 20000 in
theorem okM_73 : OkM 73 := ⟨lw_m1 18 rfl rfl, lw_m1 1 rfl rfl, rfl, pn_8, ds_1, by decide, Or.inr (Or.inr ⟨rfl, rfl, rfl, lw_m1 17 rfl rfl⟩)⟩
set_option maxRecDepth 20000 in
theorem okM_74 : OkM 74 := ⟨lw_m2 156 rfl rfl, lw_m1 1 rfl rfl, rfl, pn_8, ds_5, by decide, Or.inr (Or.inl ⟨rfl, lw_m2 155 rfl rfl⟩)⟩
set_option maxRecDepth 20000 in
theorem okM_75 : OkM 75 := ⟨lw_m3 0 rfl rfl, lw_m1 1 rfl rfl, rfl, pn_8, ds_5, by decide, Or.inr (Or.inl ⟨rfl, lw_m2 239 rfl rfl⟩)⟩
set_option maxRecDepth 20000 in
theorem okM_76 : OkM 76 := ⟨lw_m3 129 rfl rfl, lw_m1 1 rfl rfl, rfl, pn_8, ds_6, by decide, Or.inl ⟨rfl, lw_m3 127 rfl rfl, lw_m3 128 rfl rfl⟩⟩
set_option maxRecDepth 20000 in
theorem okM_77 : OkM 77 := ⟨lw_m3 137 rfl rfl, lw_m1 1 rfl rfl, rfl, pn_8, ds_3, by decide, Or.inl ⟨rfl, lw_m3 135 rfl rfl, lw_m3 136 rfl rfl⟩⟩
set_option maxRecDepth 20000 in
theorem okM_78 : OkM 78 := ⟨lw_m3 3 rfl rfl, lw_m1 1 rfl rfl, rfl, pn_8, ds_3, by decide, Or.inr (Or.inl ⟨rfl, lw_m3 2 rfl rfl⟩)⟩
set_option maxRecDepth 20000 in
theorem okM_79 : OkM 79 := ⟨lw_m3 151 rfl rfl, lw_m1 1 rfl rfl, rfl, pn_8, ds_3, by decide, Or.inl ⟨rfl, lw_m3 149 rfl rfl, lw_m3 150 rfl rfl⟩⟩
set_option maxRecDepth 20000 in
theorem okM_80 : OkM 80 := ⟨lw_m2 160 rfl rfl, lw_m1 1 rfl rfl, rfl, pn_8, ds_8, by decide, Or.inl ⟨rfl, lw_m2 158 rfl rfl, lw_m2 159 rfl rfl⟩⟩
set_option maxRecDepth 20000 in
theorem okM_81 : OkM 81 := ⟨lw_m3 159 rfl rfl, lw_m1 1 rfl rfl, rfl, pn_8, ds_3, by decide, Or.inl ⟨rfl, lw_m3 157 rfl rfl, lw_m3 158 rfl rfl⟩⟩
set_option maxRecDepth 20000 in
theorem okM_82 : OkM 82 := ⟨lw_m3 216 rfl rfl, lw_m1 1 rfl rfl, rfl, pn_8, ds_3, by decide, Or.inl ⟨rfl, lw_m3 214 rfl rfl, lw_m3 215 rfl rfl⟩⟩
set_option maxRecDepth 20000 in
theorem okM_83 : OkM 83 := ⟨lw_m3 220 rfl rfl, lw_m1 1 rfl rfl, rfl, pn_8, ds_6, by decide, Or.inl ⟨rfl, lw_m3 218 rfl rfl, lw_m3 219 rfl rfl⟩⟩
set_option maxRecDepth 20000 in
theorem okM_84 : OkM 84 := ⟨lw_m2 93 rfl rfl, lw_m1 1 rfl rfl, rfl, pn_8, ds_1, by decide, Or.inl ⟨rfl, lw_m2 92 rfl rfl, lw_memG 2 rfl rfl⟩⟩
set_option maxRecDepth 20000 in
theorem okM_85 : OkM 85 := ⟨lw_m3 113 rfl rfl, lw_m1 1 rfl rfl, rfl, pn_8, ds_6, by decide, Or.inl ⟨rfl, lw_m3 111 rfl rfl, lw_m3 112 rfl rfl⟩⟩
set_option maxRecDepth 20000 in
theorem okM_86 : OkM 86 := ⟨lw_m2 169 rfl rfl, lw_m1 1 rfl rfl, rfl, pn_8, ds_2, by decide, Or.inl ⟨rfl, lw_m2 168 rfl rfl, lw_memG 4 rfl rfl⟩⟩
set_option maxRecDepth 20000 in
theorem okM_87 : OkM 87 := ⟨lw_m3 146 rfl rfl, lw_m1 1 rfl rfl, rfl, pn_8, ds_3, by decide, Or.inl ⟨rfl, lw_m3 145 rfl rfl, lw_memG 24 rfl rfl⟩⟩
set_option maxRecDepth 20000 in
theorem okM_88 : OkM 88 := ⟨lw_m3 109 rfl rfl, lw_m1 1 rfl rfl, rfl, pn_8, ds_3, by decide, Or.inl ⟨rfl, lw_m3 107 rfl rfl, lw_m3 108 rfl rfl⟩⟩
set_option maxRecDepth 20000 in
theorem okM_89 : OkM 89 := ⟨lw_m5 3 rfl rfl, lw_m1 11 rfl rfl, rfl, pn_9, ds_37, by decide, Or.inr (Or.inl ⟨rfl, lw_m5 2 rfl rfl⟩)⟩
set_option maxRecDepth 20000 in
theorem okM_90 : OkM 90 := ⟨lw_m4 161 rfl rfl, lw_m1 11 rfl rfl, rfl, pn_9, ds_8, by decide, Or.inr (Or.inl ⟨rfl, lw_m4 160 rfl rfl⟩)⟩
set_option maxRecDepth 20000 in
theorem okM_91 : OkM 91 := ⟨lw_m3 230 rfl rfl, lw_m1 11 rfl rfl, rfl, pn_9, ds_1, by decide, Or.inl ⟨rfl, lw_m3 229 rfl rfl, lw_memG 35 rfl rfl⟩⟩
set_option maxRecDepth 20000 in
theorem okM_92 : OkM 92 := ⟨lw_m4 177 rfl rfl, lw_m1 11 rfl rfl, rfl, pn_9, ds_3, by decide, Or.inr (Or.inl ⟨rfl, lw_m4 176 rfl rfl⟩)⟩
set_option maxRecDepth 20000 in
theorem okM_93 : OkM 93 := ⟨lw_m5 25 rfl rfl, lw_m1 11 rfl rfl, rfl, pn_9, ds_36, by decide, Or.inl ⟨rfl, lw_m5 24 rfl rfl, lw_memG 58 rfl rfl⟩⟩
set_option maxRecDepth 20000 in
theorem okM_94 : OkM 94 := ⟨lw_m5 29 rfl rfl, lw_m1 11 rfl rfl, rfl, pn_9, ds_6, by decide, Or.inl ⟨rfl, lw_m5 27 rfl rfl, lw_m5 28 rfl rfl⟩⟩
set_option maxRecDepth 20000 in
theorem okM_95 : OkM 95 := ⟨lw_m4 174 rfl rfl, lw_m1 11 rfl rfl, rfl, pn_9, ds_6, by decide, Or.inr (Or.inl ⟨rfl, lw_m4 173 rfl rfl⟩)⟩
set_option maxRecDepth 20000 in
theorem okM_96 : OkM 96 := ⟨lw_m4 226 rfl rfl, lw_m1 11 rfl rfl, rfl, pn_9, ds_26, by decide, Or.inl ⟨rfl, lw_m4 225 rfl rfl, lw_memG 52 rfl rfl⟩⟩
set_option maxRecDepth 20000 in
theorem okM_97 : OkM 97 := ⟨lw_m5 53 rfl rfl, lw_m1 11 rfl rfl, rfl, pn_9, ds_9, by decide, Or.inl ⟨rfl, lw_m5 51 rfl rfl, lw_m5 52 rfl rfl⟩⟩
set_option maxRecDepth 20000 in
theorem okM_98 : OkM 98 := ⟨lw_m4 188 rfl rfl, lw_m1 11 rfl rfl, rfl, pn_9, ds_32, by decide, Or.inl ⟨rfl, lw_m4 187 rfl rfl, lw_memG 44 rfl rfl⟩⟩
set_option maxRecDepth 20000 in
theorem okM_99 : OkM 99 := ⟨lw_m4 154 rfl rfl, lw_m1 11 rfl rfl, rfl, pn_9, ds_1, by decide, Or.inl ⟨rfl, lw_m4 153 rfl rfl, lw_memG 40 rfl rfl⟩⟩
set_option maxRecDepth 20000 in
theorem okM_100 : OkM 100 := ⟨lw_m5 69 rfl rfl, lw_m1 11 rfl rfl, rfl, pn_9, ds_1, by decide, Or.inl ⟨rfl, lw_m5 68 rfl rfl, lw_memG 60 rfl rfl⟩⟩
set_option maxRecDepth 20000 in
theorem okM_101 : OkM 101 := ⟨lw_m4 142 rfl rfl, lw_m1 11 rfl rfl, rfl, pn_9, ds_29, by decide, Or.inl ⟨rfl, lw_m4 141 rfl rfl, lw_memG 37 rfl rfl⟩⟩
set_option maxRecDepth 20000 in
theorem okM_102 : OkM 102 := ⟨lw_m4 211 rfl rfl, lw_m1 11 rfl rfl, rfl, pn_9, ds_29, by decide, Or.inl ⟨rfl, lw_m4 210 rfl rfl, lw_memG 49 rfl rfl⟩⟩
set_option maxRecDepth 20000 in
theorem okM_103 : OkM 103 := ⟨lw_m4 203 rfl rfl, lw_m1 11 rfl rfl, rfl, pn_9, ds_34, by decide, Or.inl ⟨rfl, lw_m4 202 rfl rfl, lw_memG 47 rfl rfl⟩⟩
set_option maxRecDepth 20000 in
theorem okM_104 : OkM 104 := ⟨lw_m4 146 rfl rfl, lw_m1 11 rfl rfl, rfl, pn_9, ds_34, by decide, Or.inl ⟨rfl, lw_m4 145 rfl rfl, lw_memG 38 rfl rfl⟩⟩
set_option maxRecDepth 20000 in
theorem okM_105 : OkM 105 := ⟨lw_m4 122 rfl rfl, lw_m1 11 rfl rfl, rfl, pn_9, ds_8, by decide, Or.inl ⟨rfl, lw_m4 120 rfl rfl, lw_m4 121 rfl rfl⟩⟩
set_option maxRecDepth 20000 in
theorem okM_106 : OkM 106 := ⟨lw_m4 219 rfl rfl, lw_m1 11 rfl rfl, rfl, pn_9, ds_27, by decide, Or.inl ⟨rfl, lw_m4 218 rfl rfl, lw_memG 51 rfl rfl⟩⟩
set_option maxRecDepth 20000 in
theorem okM_107 : OkM 107 := ⟨lw_m5 10 rfl rfl, lw_m1 11 rfl rfl, rfl, pn_9, ds_8, by decide, Or.inl ⟨rfl, lw_m5 9 rfl rfl, lw_memG 55 rfl rfl⟩⟩
set_option maxRecDepth 20000 in
theorem okM_108 : OkM 108 := ⟨lw_m5 41 rfl rfl, lw_m1 11 rfl rfl, rfl, pn_9, ds_6, by decide, Or.inl ⟨rfl, lw_m5 39 rfl rfl, lw_m5 40 rfl rfl⟩⟩
set_option maxRecDepth 20000 in
theorem okM_109 : OkM 109 := ⟨lw_m4 134 rfl rfl, lw_m1 11 rfl rfl, rfl, pn_9, ds_3, by decide, Or.inl ⟨rfl, lw_m4 132 rfl rfl, lw_m4 133 rfl rfl⟩⟩
set_option maxRecDepth 20000 in
theorem okM_110 : OkM 110 := ⟨lw_m5 17 rfl rfl, lw_m1 11 rfl rfl, rfl, pn_9, ds_38, by decide, Or.inr (Or.inl ⟨rfl, lw_m5 16 rfl rfl⟩)⟩
set_option maxRecDepth 20000 in
theorem okM_111 : OkM 111 := ⟨lw_m4 199 rfl rfl, lw_m1 11 rfl rfl, rfl, pn_9, ds_34, by decide, Or.inl ⟨rfl, lw_m4 198 rfl rfl, lw_memG 46 rfl rfl⟩⟩
set_option maxRecDepth 20000 in
theorem okM_112 : OkM 112 := ⟨lw_m4 168 rfl rfl, lw_m1 11 rfl rfl, rfl, pn_9, ds_32, by decide, Or.inl ⟨rfl, lw_m4 167 rfl rfl, lw_memG 42 rfl rfl⟩⟩
set_option maxRecDepth 20000 in
theorem okM_113 : OkM 113 := ⟨lw_m4 164 rfl rfl, lw_m1 11 rfl rfl, rfl, pn_9, ds_6, by decide, Or.inr (Or.inl ⟨rfl, lw_m4 163 rfl rfl⟩)⟩
set_option maxRecDepth 20000 in
theorem okM_114 : OkM 114 := ⟨lw_m5 14 rfl rfl, lw_m1 11 rfl rfl, rfl, pn_9, ds_39, by decide, Or.inl ⟨rfl, lw_m5 13 rfl rfl, lw_memG 56 rfl rfl⟩⟩
set_option maxRecDepth 20000 in
theorem okM_115 : OkM 115 := ⟨lw_m4 125 rfl rfl, lw_m1 11 rfl rfl, rfl, pn_9, ds_10, by decide, Or.inr (Or.inl ⟨rfl, lw_m4 124 rfl rfl⟩)⟩
set_option maxRecDepth 20000 in
theorem okM_116 : OkM 116 := ⟨lw_m3 225 rfl rfl, lw_m1 11 rfl rfl, rfl, pn_9, ds_1, by decide, Or.inr (Or.inr ⟨rfl, rfl, rfl, lw_m3 224 rfl rfl⟩)⟩
set_option maxRecDepth 20000 in
theorem okM_117 : OkM 117 := ⟨lw_m4 150 rfl rfl, lw_m1 11 rfl rfl, rfl, pn_9, ds_33, by decide, Or.inl ⟨rfl, lw_m4 149 rfl rfl, lw_memG 39 rfl rfl⟩⟩
set_option maxRecDepth 20000 in
theorem okM_118 : OkM 118 := ⟨lw_m5 73 rfl rfl, lw_m1 11 rfl rfl, rfl, pn_9, ds_2, by decide, Or.inl ⟨rfl, lw_m5 72 rfl rfl, lw_memG 61 rfl rfl⟩⟩
set_option maxRecDepth 20000 in
theorem okM_119 : OkM 119 := ⟨lw_m4 184 rfl rfl, lw_m1 11 rfl rfl, rfl, pn_9, ds_8, by decide, Or.inr (Or.inl ⟨rfl, lw_m4 183 rfl rfl⟩)⟩
set_option maxRecDepth 20000 in
theorem okM_120 : OkM 120 := ⟨lw_m5 6 rfl rfl, lw_m1 11 rfl rfl, rfl, pn_9, ds_32, by decide, Or.inr (Or.inl ⟨rfl, lw_m5 5 rfl rfl⟩)⟩
set_option maxRecDepth 20000 in
theorem okM_121 : OkM 121 := ⟨lw_m4 233 rfl rfl, lw_m1 11 rfl rfl, rfl, pn_9, ds_29, by decide, Or.inr (Or.inl ⟨rfl, lw_m4 232 rfl rfl⟩)⟩
set_option maxRecDepth 20000 in
theorem okM_122 : OkM 122 := ⟨lw_m5 0 rfl rfl, lw_m1 11 rfl rfl, rfl, pn_9, ds_32, by decide, Or.inr (Or.inl ⟨rfl, lw_m4 239 rfl rfl⟩)⟩
set_option maxRecDepth 20000 in
theorem okM_123 : OkM 123 := ⟨lw_m5 77 rfl rfl, lw_m1 11 rfl rfl, rfl, pn_9, ds_1, by decide, Or.inl ⟨rfl, lw_m5 76 rfl rfl, lw_memG 62 rfl rfl⟩⟩
set_option maxRecDepth 20000 in
theorem okM_124 : OkM 124 := ⟨lw_m4 237 rfl rfl, lw_m1 11 rfl rfl, rfl, pn_9, ds_31, by decide, Or.inl ⟨rfl, lw_m4 236 rfl rfl, lw_memG 54 rfl rfl⟩⟩
set_option maxRecDepth 20000 in
theorem okM_125 : OkM 125 := ⟨lw_m5 45 rfl rfl, lw_m1 11 rfl rfl, rfl, pn_9, ds_6, by decide, Or.inl ⟨rfl, lw_m5 43 rfl rfl, lw_m5 44 rfl rfl⟩⟩
set_option maxRecDepth 20000 in
theorem okM_126 : OkM 126 := ⟨lw_m4 230 rfl rfl, lw_m1 11 rfl rfl, rfl, pn_9, ds_27, by decide, Or.inl ⟨rfl, lw_m4 229 rfl rfl, lw_memG 53 rfl rfl⟩⟩
set_option maxRecDepth 20000 in
theorem okM_127 : OkM 127 := ⟨lw_m5 65 rfl rfl, lw_m1 11 rfl rfl, rfl, pn_9, ds_1, by decide, Or.inl ⟨rfl, lw_m5 64 rfl rfl, lw_memG 59 rfl rfl⟩⟩
set_option maxRecDepth 20000 in
theorem okM_128 : OkM 128 := ⟨lw_m4 195 rfl rfl, lw_m1 11 rfl rfl, rfl, pn_9, ds_34, by decide, Or.inl ⟨rfl, lw_m4 194 rfl rfl, lw_memG 45 rfl rfl⟩⟩
set_option maxRecDepth 20000 in
theorem okM_129 : OkM 129 := ⟨lw_m5 49 rfl rfl, lw_m1 11 rfl rfl, rfl, pn_9, ds_3, by decide, Or.inl ⟨rfl, lw_m5 47 rfl rfl, lw_m5 48 rfl rfl⟩⟩
set_option maxRecDepth 20000 in
theorem okM_130 : OkM 130 := ⟨lw_m4 171 rfl rfl, lw_m1 11 rfl rfl, rfl, pn_9, ds_30, by decide, Or.inr (Or.inl ⟨rfl, lw_m4 170 rfl rfl⟩)⟩
set_option maxRecDepth 20000 in
theorem okM_131 : OkM 131 := ⟨lw_m4 181 rfl rfl, lw_m1 11 rfl rfl, rfl, pn_9, ds_32, by decide, Or.inl ⟨rfl, lw_m4 180 rfl rfl, lw_memG 43 rfl rfl⟩⟩
set_option maxRecDepth 20000 in
theorem okM_132 : OkM 132 := ⟨lw_m5 57 rfl rfl, lw_m1 11 rfl rfl, rfl, pn_9, ds_3, by decide, Or.inl ⟨rfl, lw_m5 55 rfl rfl, lw_m5 56 rfl rfl⟩⟩
set_option maxRecDepth 20000 in
theorem okM_133 : OkM 133 := ⟨lw_m4 129 rfl rfl, lw_m1 11 rfl rfl, rfl, pn_9, ds_8, by decide, Or.inl ⟨rfl, lw_m4 127 rfl rfl, lw_m4 128 rfl rfl⟩⟩
set_option maxRecDepth 20000 in
theorem okM_134 : OkM 134 := ⟨lw_m5 21 rfl rfl, lw_m1 11 rfl rfl, rfl, pn_9, ds_7, by decide, Or.inl ⟨rfl, lw_m5 20 rfl rfl, lw_memG 57 rfl rfl⟩⟩
set_option maxRecDepth 20000 in
theorem okM_135 : OkM 135 := ⟨lw_m5 61 rfl rfl, lw_m1 11 rfl rfl, rfl, pn_9, ds_3, by decide, Or.inl ⟨rfl, lw_m5 59 rfl rfl, lw_m5 60 rfl rfl⟩⟩
set_option maxRecDepth 20000 in
theorem okM_136 : OkM 136 := ⟨lw_m5 81 rfl rfl, lw_m1 11 rfl rfl, rfl, pn_9, ds_3, by decide, Or.inl ⟨rfl, lw_m5 79 rfl rfl, lw_m5 80 rfl rfl⟩⟩
set_option maxRecDepth 20000 in
theorem okM_137 : OkM 137 := ⟨lw_m4 158 rfl rfl, lw_m1 11 rfl rfl, rfl, pn_9, ds_32, by decide, Or.inl ⟨rfl, lw_m4 157 rfl rfl, lw_memG 41 rfl rfl⟩⟩
set_option maxRecDepth 20000 in
theorem okM_138 : OkM 138 := ⟨lw_m4 191 rfl rfl, lw_m1 11 rfl rfl, rfl, pn_9, ds_3, by decide, Or.inr (Or.inl ⟨rfl, lw_m4 190 rfl rfl⟩)⟩
set_option maxRecDepth 20000 in
theorem okM_139 : OkM 139 := ⟨lw_m5 85 rfl rfl, lw_m1 11 rfl rfl, rfl, pn_9, ds_6, by decide, Or.inl ⟨rfl, lw_m5 83 rfl rfl, lw_m5 84 rfl rfl⟩⟩
set_option maxRecDepth 20000 in
theorem okM_140 : OkM 140 := ⟨lw_m5 37 rfl rfl, lw_m1 11 rfl rfl, rfl, pn_9, ds_6, by decide, Or.inl ⟨rfl, lw_m5 35 rfl rfl, lw_m5 36 rfl rfl⟩⟩
set_option maxRecDepth 20000 in
theorem okM_141 : OkM 141 := ⟨lw_m4 138 rfl rfl, lw_m1 11 rfl rfl, rfl, pn_9, ds_2, by decide, Or.inl ⟨rfl, lw_m4 137 rfl rfl, lw_memG 36 rfl rfl⟩⟩
set_option maxRecDepth 20000 in
theorem okM_142 : OkM 142 := ⟨lw_m4 215 rfl rfl, lw_m1 11 rfl rfl, rfl, pn_9, ds_7, by decide, Or.inl ⟨rfl, lw_m4 214 rfl rfl, lw_memG 50 rfl rfl⟩⟩
set_option maxRecDepth 20000 in
theorem okM_143 : OkM 143 := ⟨lw_m4 207 rfl rfl, lw_m1 11 rfl rfl, rfl, pn_9, ds_26, by decide, Or.inl ⟨rfl, lw_m4 206 rfl rfl, lw_memG 48 rfl rfl⟩⟩
set_option maxRecDepth 20000 in
theorem okM_144 : OkM 144 := ⟨lw_m5 33 rfl rfl, lw_m1 11 rfl rfl, rfl, pn_9, ds_3, by decide, Or.inl ⟨rfl, lw_m5 31 rfl rfl, lw_m5 32 rfl rfl⟩⟩
set_option maxRecDepth 20000 in
theorem okM_145 : OkM 145 := ⟨lw_m4 222 rfl rfl, lw_m1 11 rfl rfl, rfl, pn_9, ds_3, by decide, Or.inr (Or.inl ⟨rfl, lw_m4 221 rfl rfl⟩)⟩
set_option maxRecDepth 20000 in
theorem okM_146 : OkM 146 := ⟨lw_m2 201 rfl rfl, lw_m1 12 rfl rfl, rfl, pn_10, ds_3, by decide, Or.inr (Or.inl ⟨rfl, lw_m2 200 rfl rfl⟩)⟩
set_option maxRecDepth 20000 in
theorem okM_147 : OkM 147 := ⟨lw_m2 100 rfl rfl, lw_m1 10 rfl rfl, rfl, pn_12, ds_28, by decide, Or.inr (Or.inl ⟨rfl, lw_m2 99 rfl rfl⟩)⟩
theorem okM_all : ∀ k, k < nmM → OkM k := by
  intro k hk
  match k, hk with
  | 0, _ => exact okM_0
  | 1, _ => exact okM_1
  | 2, _ => exact okM_2
  | 3, _ => exact okM_3
  | 4, _ => exact okM_4
  | 5, _ => exact okM_5
  | 6, _ => exact okM_6
  | 7, _ => exact okM_7
  | 8, _ => exact okM_8
  | 9, _ => exact okM_9
  | 10, _ => exact okM_10
  | 11, _ => exact okM_11
  | 12, _ => exact okM_12
  | 13, _ => exact okM_13
  | 14, _ => exact okM_14
  | 15, _ => exact okM_15
  | 16, _ => exact okM_16
  | 17, _ => exact okM_17
  | 18, _ => exact okM_18
  | 19, _ => exact okM_19
  | 20, _ => exact okM_20
  | 21, _ => exact okM_21
  | 22, _ => exact okM_22
  | 23, _ => exact okM_23
  | 24, _ => exact okM_24
  | 25, _ => exact okM_25
  | 26, _ => exact okM_26
  | 27, _ => exact okM_27
  | 28, _ => exact okM_28
  | 29, _ => exact okM_29
  | 30, _ => exact okM_30
  | 31, _ => exact okM_31
  | 32, _ => exact okM_32
  | 33, _ => exact okM_33
  | 34, _ => exact okM_34
  | 35, _ => exact okM_35
  | 36, _ => exact okM_36
  | 37, _ => exact okM_37
  | 38, _ => exact okM_38
  | 39, _ => exact okM_39
  | 40, _ => exact okM_40
  | 41, _ => exact okM_41
  | 42, _ => exact okM_42
  | 43, _ => exact okM_43
  | 44, _ => exact okM_44
  | 45, _ => exact okM_45
  | 46, _ => exact okM_46
  | 47, _ => exact okM_47
  | 48, _ => exact okM_48
  | 49, _ => exact okM_49
  | 50, _ => exact okM_50
  | 51, _ => exact okM_51
  | 52, _ => exact okM_52
  | 53, _ => exact okM_53
  | 54, _ => exact okM_54
  | 55, _ => exact okM_55
  | 56, _ => exact okM_56
  | 57, _ => exact okM_57
  | 58, _ => exact okM_58
  | 59, _ => exact okM_59
  | 60, _ => exact okM_60
  | 61, _ => exact okM_61
  | 62, _ => exact okM_62
  | 63, _ => exact okM_63
  | 64, _ => exact okM_64
  | 65, _ => exact okM_65
  | 66, _ => exact okM_66
  | 67, _ => exact okM_67
  | 68, _ => exact okM_68
  | 69, _ => exact okM_69
  | 70, _ => exact okM_70
  | 71, _ => exact okM_71
  | 72, _ => exact okM_72
  | 73, _ => exact okM_73
  | 74, _ => exact okM_74
  | 75, _ => exact okM_75
  | 76, _ => exact okM_76
  | 77, _ => exact okM_77
  | 78, _ => exact okM_78
  | 79, _ => exact okM_79
  | 80, _ => exact okM_80
  | 81, _ => exact okM_81
  | 82, _ => exact okM_82
  | 83, _ => exact okM_83
  | 84, _ => exact okM_84
  | 85, _ => exact okM_85
  | 86, _ => exact okM_86
  | 87, _ => exact okM_87
  | 88, _ => exact okM_88
  | 89, _ => exact okM_89
  | 90, _ => exact okM_90
  | 91, _ => exact okM_91
  | 92, _ => exact okM_92
  | 93, _ => exact okM_93
  | 94, _ => exact okM_94
  | 95, _ => exact okM_95
  | 96, _ => exact okM_96
  | 97, _ => exact okM_97
  | 98, _ => exact okM_98
  | 99, _ => exact okM_99
  | 100, _ => exact okM_100
  | 101, _ => exact okM_101
  | 102, _ => exact okM_102
  | 103, _ => exact okM_103
  | 104, _ => exact okM_104
  | 105, _ => exact okM_105
  | 106, _ => exact okM_106
  | 107, _ => exact okM_107
  | 108, _ => exact okM_108
  | 109, _ => exact okM_109
  | 110, _ => exact okM_110
  | 111, _ => exact okM_111
  | 112, _ => exact okM_112
  | 113, _ => exact okM_113
  | 114, _ => exact okM_114
  | 115, _ => exact okM_115
  | 116, _ => exact okM_116
  | 117, _ => exact okM_117
  | 118, _ => exact okM_118
  | 119, _ => exact okM_119
  | 120, _ => exact okM_120
  | 121, _ => exact okM_121
  | 122, _ => exact okM_122
  | 123, _ => exact okM_123
  | 124, _ => exact okM_124
  | 125, _ => exact okM_125
  | 126, _ => exact okM_126
  | 127, _ => exact okM_127
  | 128, _ => exact okM_128
  | 129, _ => exact okM_129
  | 130, _ => exact okM_130
  | 131, _ => exact okM_131
  | 132, _ => exact okM_132
  | 133, _ => exact okM_133
  | 134, _ => exact okM_134
  | 135, _ => exact okM_135
  | 136, _ => exact okM_136
  | 137, _ => exact okM_137
  | 138, _ => exact okM_138
  | 139, _ => exact okM_139
  | 140, _ => exact okM_140
  | 141, _ => exact okM_141
  | 142, _ => exact okM_142
  | 143, _ => exact okM_143
  | 144, _ => exact okM_144
  | 145, _ => exact okM_145
  | 146, _ => exact okM_146
  | 147, _ => exact okM_147
  | k + 148, hk => exact absurd hk (by simp [nmM, nm])
set_option maxRecDepth 20000 in
theorem okL_0 : OkL 0 := ⟨by decide, rfl, rfl, lw_m3 35 rfl rfl, ⟨_, rfl, rfl⟩⟩
set_option maxRecDepth 20000 in
theorem okL_1 : OkL 1 := ⟨_, _, _, rfl, by decide, lw_m1 88 rfl rfl, rfl, rfl, by decide⟩
set_option maxRecDepth 20000 in
theorem okL_2 : OkL 2 := ⟨by decide, rfl, rfl, lw_m2 104 rfl rfl, ⟨_, rfl, rfl⟩⟩
set_option maxRecDepth 20000 in
theorem okL_3 : OkL 3 := ⟨_, _, _, rfl, by decide, lw_m1 87 rfl rfl, rfl, rfl, by decide⟩
set_option maxRecDepth 20000 in
theorem okL_4 : OkL 4 := ⟨_, _, _, rfl, by decide, lw_m1 74 rfl rfl, rfl, rfl, by decide⟩
set_option maxRecDepth 20000 in
theorem okL_5 : OkL 5 := ⟨_, _, _, rfl, by decide, lw_m1 73 rfl rfl, rfl, rfl, by decide⟩
set_option maxRecDepth 20000 in
theorem okL_6 : OkL 6 := ⟨_, _, _, rfl, by decide, lw_m1 48 rfl rfl, rfl, rfl, by decide⟩
set_option maxRecDepth 20000 in
theorem okL_7 : OkL 7 := ⟨_, _, _, rfl, by decide, lw_m1 81 rfl rfl, rfl, rfl, by decide⟩
set_option maxRecDepth 20000 in
theorem okL_8 : OkL 8 := ⟨_, _, _, rfl, by decide, lw_m1 53 rfl rfl, rfl, rfl, by decide⟩
set_option maxRecDepth 20000 in
theorem okL_9 : OkL 9 := lw_m1 72 rfl rfl
set_option maxRecDepth 20000 in
theorem okL_10 : OkL 10 := ⟨by decide, rfl, rfl, Or.inl ⟨rfl, lw_m2 98 rfl rfl⟩⟩
set_option maxRecDepth 20000 in
theorem okL_11 : OkL 11 := ⟨by decide, rfl, rfl, Or.inr ⟨rfl, List.mem_of_getElem? (i := 0) rfl⟩⟩
set_option maxRecDepth 20000 in
theorem okL_12 : OkL 12 := ⟨_, _, _, rfl, by decide, lw_m1 172 rfl rfl, rfl, rfl, by decide⟩
set_option maxRecDepth 20000 in
theorem okL_13 : OkL 13 := ⟨_, _, _, rfl, by decide, lw_m1 171 rfl rfl, rfl, rfl, by decide⟩
set_option maxRecDepth 20000 in
theorem okL_14 : OkL 14 := ⟨_, _, _, rfl, by decide, lw_m1 174 rfl rfl, rfl, rfl, by decide⟩
set_option maxRecDepth 20000 in
theorem okL_15 : OkL 15 := ⟨_, _, _, rfl, by decide, lw_m1 181 rfl rfl, rfl, rfl, by decide⟩
set_option maxRecDepth 20000 in
theorem okL_16 : OkL 16 := ⟨_, _, _, rfl, by decide, lw_m1 176 rfl rfl, rfl, rfl, by decide⟩
set_option maxRecDepth 20000 in
theorem okL_17 : OkL 17 := ⟨_, _, _, rfl, by decide, lw_m1 178 rfl rfl, rfl, rfl, by decide⟩
set_option maxRecDepth 20000 in
theorem okL_18 : OkL 18 := ⟨by decide, rfl, rfl, lw_m3 66 rfl rfl, ⟨_, rfl, rfl⟩⟩
set_option maxRecDepth 20000 in
theorem okL_19 : OkL 19 := ⟨_, _, _, rfl, by decide, lw_m1 170 rfl rfl, rfl, rfl, by decide⟩
set_option maxRecDepth 20000 in
theorem okL_20 : OkL 20 := ⟨_, _, _, rfl, by decide, lw_m1 169 rfl rfl, rfl, rfl, by decide⟩
set_option maxRecDepth 20000 in
theorem okL_21 : OkL 21 := ⟨by decide, rfl, rfl, lw_m3 54 rfl rfl, ⟨_, rfl, rfl⟩⟩
set_option maxRecDepth 20000 in
theorem okL_22 : OkL 22 := ⟨_, _, _, rfl, by decide, lw_m1 175 rfl rfl, rfl, rfl, by decide⟩
set_option maxRecDepth 20000 in
theorem okL_23 : OkL 23 := ⟨_, _, _, rfl, by decide, lw_m1 180 rfl rfl, rfl, rfl, by decide⟩
set_option maxRecDepth 20000 in
theorem okL_24 : OkL 24 := ⟨_, _, _, rfl, by decide, lw_m1 177 rfl rfl, rfl, rfl, by decide⟩
set_option maxRecDepth 20000 in
theorem okL_25 : OkL 25 := ⟨_, _, _, rfl, by decide, lw_m1 179 rfl rfl, rfl, rfl, by decide⟩
set_option maxRecDepth 20000 in
theorem okL_26 : OkL 26 := ⟨by decide, rfl, rfl, lw_m3 90 rfl rfl, ⟨_, rfl, rfl⟩⟩
set_option maxRecDepth 20000 in
theorem okL_27 : OkL 27 := ⟨_, _, _, rfl, by decide, lw_m1 80 rfl rfl, rfl, rfl, by decide⟩
set_option maxRecDepth 20000 in
theorem okL_28 : OkL 28 := ⟨by decide, rfl, rfl, Or.inl ⟨rfl, lw_m3 48 rfl rfl⟩⟩
set_option maxRecDepth 20000 in
theorem okL_29 : OkL 29 := ⟨_, _, _, rfl, by decide, lw_m1 167 rfl rfl, rfl, rfl, by decide⟩
set_option maxRecDepth 20000 in
theorem okL_30 : OkL 30 := ⟨_, _, _, rfl, by decide, lw_m1 50 rfl rfl, rfl, rfl, by decide⟩
set_option maxRecDepth 20000 in
theorem okL_31 : OkL 31 := ⟨_, _, _, rfl, by decide, lw_m1 86 rfl rfl, rfl, rfl, by decide⟩
set_option maxRecDepth 20000 in
theorem okL_32 : OkL 32 := ⟨by decide, rfl, rfl, lw_m3 94 rfl rfl, ⟨_, rfl, rfl⟩⟩
set_option maxRecDepth 20000 in
theorem okL_33 : OkL 33 := ⟨by decide, rfl, rfl, lw_m3 95 rfl rfl, ⟨_, rfl, rfl⟩⟩
set_option maxRecDepth 20000 in
theorem okL_34 : OkL 34 := lw_m1 166 rfl rfl
set_option maxRecDepth 20000 in
theorem okL_35 : OkL 35 := ⟨_, _, _, rfl, by decide, lw_m1 173 rfl rfl, rfl, rfl, by decide⟩
set_option maxRecDepth 20000 in
theorem okL_36 : OkL 36 := ⟨_, _, _, rfl, by decide, lw_m1 182 rfl rfl, rfl, rfl, by decide⟩
set_option maxRecDepth 20000 in
theorem okL_37 : OkL 37 := ⟨_, _, _, rfl, by decide, lw_m1 168 rfl rfl, rfl, rfl, by decide⟩
set_option maxRecDepth 20000 in
theorem okL_38 : OkL 38 := ⟨by decide, rfl, rfl, Or.inl ⟨rfl, lw_m3 47 rfl rfl⟩⟩
set_option maxRecDepth 20000 in
theorem okL_39 : OkL 39 := ⟨by decide, rfl, rfl, Or.inr ⟨rfl, List.mem_of_getElem? (i := 1) rfl⟩⟩
set_option maxRecDepth 20000 in
theorem okL_40 : OkL 40 := ⟨by decide, rfl, rfl, lw_m3 50 rfl rfl, ⟨_, rfl, rfl⟩⟩
set_option maxRecDepth 20000 in
theorem okL_41 : OkL 41 := ⟨_, _, _, rfl, by decide, lw_m1 45 rfl rfl, rfl, rfl, by decide⟩
set_option maxRecDepth 20000 in
theorem okL_42 : OkL 42 := ⟨_, _, _, rfl, by decide, lw_m1 56 rfl rfl, rfl, rfl, by decide⟩
set_option maxRecDepth 20000 in
theorem okL_43 : OkL 43 := ⟨by decide, rfl, rfl, lw_m3 86 rfl rfl, ⟨_, rfl, rfl⟩⟩
set_option maxRecDepth 20000 in
theorem okL_44 : OkL 44 := ⟨by decide, rfl, rfl, lw_m3 62 rfl rfl, ⟨_, rfl, rfl⟩⟩
set_option maxRecDepth 20000 in
theorem okL_45 : OkL 45 := ⟨by decide, rfl, rfl, lw_m3 96 rfl rfl, ⟨_, rfl, rfl⟩⟩
set_option maxRecDepth 20000 in
theorem okL_46 : OkL 46 := ⟨_, _, _, rfl, by decide, lw_m1 111 rfl rfl, rfl, rfl, by decide⟩
set_option maxRecDepth 20000 in
theorem okL_47 : OkL 47 := ⟨by decide, rfl, rfl, lw_m3 43 rfl rfl, ⟨_, rfl, rfl⟩⟩
set_option maxRecDepth 20000 in
theorem okL_48 : OkL 48 := ⟨by decide, rfl, rfl, lw_m3 58 rfl rfl, ⟨_, rfl, rfl⟩⟩
set_option maxRecDepth 20000 in
theorem okL_49 : OkL 49 := ⟨by decide, rfl, rfl, lw_m3 78 rfl rfl, ⟨_, rfl, rfl⟩⟩
set_option maxRecDepth 20000 in
theorem okL_50 : OkL 50 := ⟨_, _, _, rfl, by decide, lw_m1 184 rfl rfl, rfl, rfl, by decide⟩
set_option maxRecDepth 20000 in
theorem okL_51 : OkL 51 := ⟨by decide, rfl, rfl, lw_m3 82 rfl rfl, ⟨_, rfl, rfl⟩⟩
set_option maxRecDepth 20000 in
theorem okL_52 : OkL 52 := ⟨by decide, rfl, rfl, lw_m3 70 rfl rfl, ⟨_, rfl, rfl⟩⟩
set_option maxRecDepth 20000 in
theorem okL_53 : OkL 53 := ⟨by decide, rfl, rfl, lw_m3 74 rfl rfl, ⟨_, rfl, rfl⟩⟩
set_option maxRecDepth 20000 in
theorem okL_54 : OkL 54 := ⟨_, _, _, rfl, by decide, lw_m1 75 rfl rfl, rfl, rfl, by decide⟩
set_option maxRecDepth 20000 in
theorem okL_55 : OkL 55 := ⟨_, _, _, rfl, by decide, lw_m1 109 rfl rfl, rfl, rfl, by decide⟩
set_option maxRecDepth 20000 in
theorem okL_56 : OkL 56 := ⟨_, _, _, rfl, by decide, lw_m1 110 rfl rfl, rfl, rfl, by decide⟩
set_option maxRecDepth 20000 in
theorem okL_57 : OkL 57 := ⟨by decide, rfl, rfl, Or.inl ⟨rfl, lw_m2 220 rfl rfl⟩⟩
set_option maxRecDepth 20000 in
theorem okL_58 : OkL 58 := ⟨_, _, _, rfl, by decide, lw_m1 82 rfl rfl, rfl, rfl, by decide⟩
set_option maxRecDepth 20000 in
theorem okL_59 : OkL 59 := ⟨_, _, _, rfl, by decide, lw_m1 108 rfl rfl, rfl, rfl, by decide⟩
set_option maxRecDepth 20000 in
theorem okL_60 : OkL 60 := ⟨_, _, _, rfl, by decide, lw_m1 41 rfl rfl, rfl, rfl, by decide⟩
set_option maxRecDepth 20000 in
theorem okL_61 : OkL 61 := lw_m1 107 rfl rfl
set_option maxRecDepth 20000 in
theorem okL_62 : OkL 62 := ⟨by decide, rfl, rfl, lw_m3 31 rfl rfl, ⟨_, rfl, rfl⟩⟩
set_option maxRecDepth 20000 in
theorem okL_63 : OkL 63 := lw_m1 126 rfl rfl
set_option maxRecDepth 20000 in
theorem okL_64 : OkL 64 := ⟨_, _, _, rfl, by decide, lw_m1 143 rfl rfl, rfl, rfl, by decide⟩
set_option maxRecDepth 20000 in
theorem okL_65 : OkL 65 := ⟨_, _, _, rfl, by decide, lw_m1 144 rfl rfl, rfl, rfl, by decide⟩
set_option maxRecDepth 20000 in
theorem okL_66 : OkL 66 := ⟨_, _, rfl, lw_m1 127 rfl rfl⟩
set_option maxRecDepth 20000 in
theorem okL_67 : OkL 67 := ⟨by decide, rfl, rfl, Or.inl ⟨rfl, lw_m1 129 rfl rfl⟩⟩
set_option maxRecDepth 20000 in
theorem okL_68 : OkL 68 := ⟨_, _, _, rfl, by decide, lw_m1 145 rfl rfl, rfl, rfl, by decide⟩
set_option maxRecDepth 20000 in
theorem okL_69 : OkL 69 := ⟨by decide, rfl, rfl, lw_m2 208 rfl rfl, ⟨_, rfl, rfl⟩⟩
set_option maxRecDepth 20000 in
theorem okL_70 : OkL 70 := ⟨by decide, rfl, rfl, lw_m2 229 rfl rfl, ⟨_, rfl, rfl⟩⟩
set_option maxRecDepth 20000 in
theorem okL_71 : OkL 71 := ⟨by decide, rfl, rfl, lw_m2 234 rfl rfl, ⟨_, rfl, rfl⟩⟩
set_option maxRecDepth 20000 in
theorem okL_72 : OkL 72 := ⟨by decide, rfl, rfl, lw_m3 6 rfl rfl, ⟨_, rfl, rfl⟩⟩
set_option maxRecDepth 20000 in
theorem okL_73 : OkL 73 := ⟨by decide, rfl, rfl, lw_m3 10 rfl rfl, ⟨_, rfl, rfl⟩⟩
set_option maxRecDepth 20000 in
theorem okL_74 : OkL 74 := ⟨_, _, _, rfl, by decide, lw_m1 113 rfl rfl, rfl, rfl, by decide⟩
set_option maxRecDepth 20000 in
theorem okL_75 : OkL 75 := ⟨by decide, rfl, rfl, lw_m2 233 rfl rfl, ⟨_, rfl, rfl⟩⟩
set_option maxRecDepth 20000 in
theorem okL_76 : OkL 76 := ⟨_, _, _, rfl, by decide, lw_m1 85 rfl rfl, rfl, rfl, by decide⟩
set_option maxRecDepth 20000 in
theorem okL_77 : OkL 77 := ⟨by decide, rfl, rfl, lw_m3 14 rfl rfl, ⟨_, rfl, rfl⟩⟩
set_option maxRecDepth 20000 in
theorem okL_78 : OkL 78 := ⟨by decide, rfl, rfl, lw_m2 174 rfl rfl, ⟨_, rfl, rfl⟩⟩
set_option maxRecDepth 20000 in
theorem okL_79 : OkL 79 := ⟨by decide, rfl, rfl, lw_m2 225 rfl rfl, ⟨_, rfl, rfl⟩⟩
set_option maxRecDepth 20000 in
theorem okL_80 : OkL 80 := ⟨_, _, _, rfl, by decide, lw_m1 146 rfl rfl, rfl, rfl, by decide⟩
set_option maxRecDepth 20000 in
theorem okL_81 : OkL 81 := ⟨_, _, _, rfl, by decide, lw_m1 148 rfl rfl, rfl, rfl, by decide⟩
set_option maxRecDepth 20000 in
theorem okL_82 : OkL 82 := ⟨by decide, rfl, rfl, lw_m2 178 rfl rfl, ⟨_, rfl, rfl⟩⟩
set_option maxRecDepth 20000 in
theorem okL_83 : OkL 83 := ⟨by decide, rfl, rfl, Or.inr ⟨rfl, List.mem_of_getElem? (i := 2) rfl⟩⟩
set_option maxRecDepth 20000 in
theorem okL_84 : OkL 84 := ⟨_, _, _, rfl, by decide, lw_m1 43 rfl rfl, rfl, rfl, by decide⟩
set_option maxRecDepth 20000 in
theorem okL_85 : OkL 85 := ⟨by decide, rfl, rfl, Or.inr ⟨rfl, List.mem_of_getElem? (i := 3) rfl⟩⟩
set_option maxRecDepth 20000 in
theorem okL_86 : OkL 86 := ⟨by decide, rfl, rfl, lw_m3 5 rfl rfl, ⟨_, rfl, rfl⟩⟩
set_option maxRecDepth 20000 in
theorem okL_87 : OkL 87 := ⟨_, _, _, rfl, by decide, lw_m1 77 rfl rfl, rfl, rfl, by decide⟩
set_option maxRecDepth 20000 in
theorem okL_88 : OkL 88 := ⟨_, _, _, rfl, by decide, lw_m1 47 rfl rfl, rfl, rfl, by decide⟩
set_option maxRecDepth 20000 in
theorem okL_89 : OkL 89 := ⟨_, _, _, rfl, by decide, lw_m1 52 rfl rfl, rfl, rfl, by decide⟩
set_option maxRecDepth 20000 in
theorem okL_90 : OkL 90 := ⟨_, _, _, rfl, by decide, lw_m1 40 rfl rfl, rfl, rfl, by decide⟩
set_option maxRecDepth 20000 in
theorem okL_91 : OkL 91 := ⟨_, _, _, rfl, by decide, lw_m1 46 rfl rfl, rfl, rfl, by decide⟩
set_option maxRecDepth 20000 in
theorem okL_92 : OkL 92 := ⟨_, _, _, rfl, by decide, lw_m1 51 rfl rfl, rfl, rfl, by decide⟩
set_option maxRecDepth 20000 in
theorem okL_93 : OkL 93 := lw_m1 27 rfl rfl
set_option maxRecDepth 20000 in
theorem okL_94 : OkL 94 := ⟨_, _, _, rfl, by decide, lw_m1 54 rfl rfl, rfl, rfl, by decide⟩
set_option maxRecDepth 20000 in
theorem okL_95 : OkL 95 := ⟨by decide, rfl, rfl, lw_m1 28 rfl rfl, ⟨_, rfl, rfl⟩⟩
set_option maxRecDepth 20000 in
theorem okL_96 : OkL 96 := ⟨by decide, rfl, rfl, lw_m1 32 rfl rfl, ⟨_, rfl, rfl⟩⟩
set_option maxRecDepth 20000 in
theorem okL_97 : OkL 97 := ⟨by decide, rfl, rfl, lw_m1 36 rfl rfl, ⟨_, rfl, rfl⟩⟩
set_option maxRecDepth 20000 in
theorem okL_98 : OkL 98 := ⟨_, _, _, rfl, by decide, lw_m2 52 rfl rfl, rfl, rfl, by decide⟩
set_option maxRecDepth 20000 in
theorem okL_99 : OkL 99 := ⟨_, _, _, rfl, by decide, lw_m2 44 rfl rfl, rfl, rfl, by decide⟩
set_option maxRecDepth 20000 in
theorem okL_100 : OkL 100 := ⟨by decide, rfl, rfl, lw_m3 164 rfl rfl, ⟨_, rfl, rfl⟩⟩
set_option maxRecDepth 20000 in
theorem okL_101 : OkL 101 := ⟨_, _, _, rfl, by decide, lw_m2 47 rfl rfl, rfl, rfl, by decide⟩
set_option maxRecDepth 20000 in
theorem okL_102 : OkL 102 := ⟨_, _, _, rfl, by decide, lw_m2 46 rfl rfl, rfl, rfl, by decide⟩
set_option maxRecDepth 20000 in
theorem okL_103 : OkL 103 := ⟨_, _, _, rfl, by decide, lw_m1 76 rfl rfl, rfl, rfl, by decide⟩
set_option maxRecDepth 20000 in
theorem okL_104 : OkL 104 := ⟨by decide, rfl, rfl, lw_m3 165 rfl rfl, ⟨_, rfl, rfl⟩⟩
set_option maxRecDepth 20000 in
theorem okL_105 : OkL 105 := ⟨_, _, _, rfl, by decide, lw_m1 83 rfl rfl, rfl, rfl, by decide⟩
set_option maxRecDepth 20000 in
theorem okL_106 : OkL 106 := ⟨by decide, rfl, rfl, lw_m3 170 rfl rfl, ⟨_, rfl, rfl⟩⟩
set_option maxRecDepth 20000 in
theorem okL_107 : OkL 107 := ⟨by decide, rfl, rfl, lw_m3 192 rfl rfl, ⟨_, rfl, rfl⟩⟩
set_option maxRecDepth 20000 in
theorem okL_108 : OkL 108 := ⟨_, _, _, rfl, by decide, lw_m2 45 rfl rfl, rfl, rfl, by decide⟩
set_option maxRecDepth 20000 in
theorem okL_109 : OkL 109 := ⟨by decide, rfl, rfl, lw_m3 174 rfl rfl, ⟨_, rfl, rfl⟩⟩
set_option maxRecDepth 20000 in
theorem okL_110 : OkL 110 := ⟨by decide, rfl, rfl, lw_m3 184 rfl rfl, ⟨_, rfl, rfl⟩⟩
set_option maxRecDepth 20000 in
theorem okL_111 : OkL 111 := ⟨by decide, rfl, rfl, Or.inr ⟨rfl, List.mem_of_getElem? (i := 4) rfl⟩⟩
set_option maxRecDepth 20000 in
theorem okL_112 : OkL 112 := ⟨by decide, rfl, rfl, Or.inr ⟨rfl, List.mem_of_getElem? (i := 5) rfl⟩⟩
set_option maxRecDepth 20000 in
theorem okL_113 : OkL 113 := ⟨_, _, _, rfl, by decide, lw_m2 43 rfl rfl, rfl, rfl, by decide⟩
set_option maxRecDepth 20000 in
theorem okL_114 : OkL 114 := ⟨_, _, _, rfl, by decide, lw_m1 55 rfl rfl, rfl, rfl, by decide⟩
set_option maxRecDepth 20000 in
theorem okL_115 : OkL 115 := ⟨by decide, rfl, rfl, lw_m3 179 rfl rfl, ⟨_, rfl, rfl⟩⟩
set_option maxRecDepth 20000 in
theorem okL_116 : OkL 116 := ⟨_, _, _, rfl, by decide, lw_m1 44 rfl rfl, rfl, rfl, by decide⟩
set_option maxRecDepth 20000 in
theorem okL_117 : OkL 117 := ⟨by decide, rfl, rfl, lw_m3 188 rfl rfl, ⟨_, rfl, rfl⟩⟩
set_option maxRecDepth 20000 in
theorem okL_118 : OkL 118 := ⟨by decide, rfl, rfl, Or.inl ⟨rfl, lw_m3 200 rfl rfl⟩⟩
set_option maxRecDepth 20000 in
theorem okL_119 : OkL 119 := ⟨_, _, _, rfl, by decide, lw_m2 53 rfl rfl, rfl, rfl, by decide⟩
set_option maxRecDepth 20000 in
theorem okL_120 : OkL 120 := ⟨_, _, _, rfl, by decide, lw_m2 55 rfl rfl, rfl, rfl, by decide⟩
set_option maxRecDepth 20000 in
theorem okL_121 : OkL 121 := ⟨_, _, _, rfl, by decide, lw_m2 57 rfl rfl, rfl, rfl, by decide⟩
set_option maxRecDepth 20000 in
theorem okL_122 : OkL 122 := ⟨_, _, _, rfl, by decide, lw_m2 51 rfl rfl, rfl, rfl, by decide⟩
set_option maxRecDepth 20000 in
theorem okL_123 : OkL 123 := lw_m2 40 rfl rfl
set_option maxRecDepth 20000 in
theorem okL_124 : OkL 124 := ⟨_, _, _, rfl, by decide, lw_m2 48 rfl rfl, rfl, rfl, by decide⟩
set_option maxRecDepth 20000 in
theorem okL_125 : OkL 125 := ⟨_, _, _, rfl, by decide, lw_m2 49 rfl rfl, rfl, rfl, by decide⟩
set_option maxRecDepth 20000 in
theorem okL_126 : OkL 126 := ⟨_, _, _, rfl, by decide, lw_m2 50 rfl rfl, rfl, rfl, by decide⟩
set_option maxRecDepth 20000 in
theorem okL_127 : OkL 127 := ⟨_, _, _, rfl, by decide, lw_m2 59 rfl rfl, rfl, rfl, by decide⟩
set_option maxRecDepth 20000 in
theorem okL_128 : OkL 128 := ⟨_, _, rfl, lw_m2 41 rfl rfl⟩
set_option maxRecDepth 20000 in
theorem okL_129 : OkL 129 := ⟨by decide, rfl, rfl, Or.inl ⟨rfl, lw_m2 42 rfl rfl⟩⟩
set_option maxRecDepth 20000 in
theorem okL_130 : OkL 130 := ⟨by decide, rfl, rfl, lw_m3 183 rfl rfl, ⟨_, rfl, rfl⟩⟩
set_option maxRecDepth 20000 in
theorem okL_131 : OkL 131 := ⟨_, _, _, rfl, by decide, lw_m1 49 rfl rfl, rfl, rfl, by decide⟩
set_option maxRecDepth 20000 in
theorem okL_132 : OkL 132 := ⟨by decide, rfl, rfl, lw_m3 196 rfl rfl, ⟨_, rfl, rfl⟩⟩
set_option maxRecDepth 20000 in
theorem okL_133 : OkL 133 := ⟨by decide, rfl, rfl, lw_m3 201 rfl rfl, ⟨_, rfl, rfl⟩⟩
set_option maxRecDepth 20000 in
theorem okL_134 : OkL 134 := ⟨_, _, _, rfl, by decide, lw_m1 90 rfl rfl, rfl, rfl, by decide⟩
set_option maxRecDepth 20000 in
theorem okL_135 : OkL 135 := ⟨by decide, rfl, rfl, lw_m3 209 rfl rfl, ⟨_, rfl, rfl⟩⟩
set_option maxRecDepth 20000 in
theorem okL_136 : OkL 136 := ⟨by decide, rfl, rfl, lw_m2 182 rfl rfl, ⟨_, rfl, rfl⟩⟩
set_option maxRecDepth 20000 in
theorem okL_137 : OkL 137 := ⟨_, _, _, rfl, by decide, lw_m1 135 rfl rfl, rfl, rfl, by decide⟩
set_option maxRecDepth 20000 in
theorem okL_138 : OkL 138 := ⟨by decide, by decide, lw_m2 194 rfl rfl⟩
set_option maxRecDepth 20000 in
theorem okL_139 : OkL 139 := ⟨by decide, rfl, rfl, Or.inl ⟨rfl, lw_m2 196 rfl rfl⟩⟩
set_option maxRecDepth 20000 in
theorem okL_140 : OkL 140 := lw_m1 132 rfl rfl
set_option maxRecDepth 20000 in
theorem okL_141 : OkL 141 := ⟨_, _, _, rfl, by decide, lw_m1 133 rfl rfl, rfl, rfl, by decide⟩
set_option maxRecDepth 20000 in
theorem okL_142 : OkL 142 := ⟨_, _, _, rfl, by decide, lw_m1 134 rfl rfl, rfl, rfl, by decide⟩
set_option maxRecDepth 20000 in
theorem okL_143 : OkL 143 := ⟨by decide, by decide, lw_m2 186 rfl rfl⟩
set_option maxRecDepth 20000 in
theorem okL_144 : OkL 144 := ⟨by decide, rfl, rfl, Or.inl ⟨rfl, lw_m2 188 rfl rfl⟩⟩
set_option maxRecDepth 20000 in
theorem okL_145 : OkL 145 := ⟨_, _, _, rfl, by decide, lw_m1 79 rfl rfl, rfl, rfl, by decide⟩
set_option maxRecDepth 20000 in
theorem okL_146 : OkL 146 := ⟨_, _, _, rfl, by decide, lw_m1 42 rfl rfl, rfl, rfl, by decide⟩
set_option maxRecDepth 20000 in
theorem okL_147 : OkL 147 := ⟨_, _, _, rfl, by decide, lw_m1 84 rfl rfl, rfl, rfl, by decide⟩
set_option maxRecDepth 20000 in
theorem okL_148 : OkL 148 := ⟨by decide, rfl, rfl, Or.inl ⟨rfl, lw_m2 191 rfl rfl⟩⟩
set_option maxRecDepth 20000 in
theorem okL_149 : OkL 149 := ⟨by decide, rfl, rfl, Or.inl ⟨rfl, lw_m2 199 rfl rfl⟩⟩
set_option maxRecDepth 20000 in
theorem okL_150 : OkL 150 := ⟨by decide, rfl, rfl, lw_m2 212 rfl rfl, ⟨_, rfl, rfl⟩⟩
set_option maxRecDepth 20000 in
theorem okL_151 : OkL 151 := ⟨_, _, _, rfl, by decide, lw_m1 112 rfl rfl, rfl, rfl, by decide⟩
set_option maxRecDepth 20000 in
theorem okL_152 : OkL 152 := ⟨by decide, rfl, rfl, lw_m2 216 rfl rfl, ⟨_, rfl, rfl⟩⟩
set_option maxRecDepth 20000 in
theorem okL_153 : OkL 153 := ⟨by decide, rfl, rfl, lw_m2 221 rfl rfl, ⟨_, rfl, rfl⟩⟩
set_option maxRecDepth 20000 in
theorem okL_154 : OkL 154 := ⟨by decide, rfl, rfl, Or.inl ⟨rfl, lw_m2 205 rfl rfl⟩⟩
set_option maxRecDepth 20000 in
theorem okL_155 : OkL 155 := ⟨_, _, _, rfl, by decide, lw_m2 4 rfl rfl, rfl, rfl, by decide⟩
set_option maxRecDepth 20000 in
theorem okL_156 : OkL 156 := ⟨_, _, _, rfl, by decide, lw_m2 6 rfl rfl, rfl, rfl, by decide⟩
set_option maxRecDepth 20000 in
theorem okL_157 : OkL 157 := ⟨_, _, _, rfl, by decide, lw_m2 8 rfl rfl, rfl, rfl, by decide⟩
set_option maxRecDepth 20000 in
theorem okL_158 : OkL 158 := ⟨_, _, _, rfl, by decide, lw_m2 3 rfl rfl, rfl, rfl, by decide⟩
set_option maxRecDepth 20000 in
theorem okL_159 : OkL 159 := lw_m1 226 rfl rfl
set_option maxRecDepth 20000 in
theorem okL_160 : OkL 160 := ⟨_, _, _, rfl, by decide, lw_m1 227 rfl rfl, rfl, rfl, by decide⟩
set_option maxRecDepth 20000 in
theorem okL_161 : OkL 161 := ⟨_, _, _, rfl, by decide, lw_m1 229 rfl rfl, rfl, rfl, by decide⟩
set_option maxRecDepth 20000 in
theorem okL_162 : OkL 162 := ⟨_, _, _, rfl, by decide, lw_m1 231 rfl rfl, rfl, rfl, by decide⟩
set_option maxRecDepth 20000 in
theorem okL_163 : OkL 163 := ⟨_, _, _, rfl, by decide, lw_m1 233 rfl rfl, rfl, rfl, by decide⟩
set_option maxRecDepth 20000 in
theorem okL_164 : OkL 164 := ⟨_, _, _, rfl, by decide, lw_m1 235 rfl rfl, rfl, rfl, by decide⟩
set_option maxRecDepth 20000 in
theorem okL_165 : OkL 165 := ⟨_, _, _, rfl, by decide, lw_m1 237 rfl rfl, rfl, rfl, by decide⟩
set_option maxRecDepth 20000 in
theorem okL_166 : OkL 166 := ⟨_, _, _, rfl, by decide, lw_m1 239 rfl rfl, rfl, rfl, by decide⟩
set_option maxRecDepth 20000 in
theorem okL_167 : OkL 167 := ⟨_, _, _, rfl, by decide, lw_m2 1 rfl rfl, rfl, rfl, by decide⟩
set_option maxRecDepth 20000 in
theorem okL_168 : OkL 168 := ⟨by decide, by decide, lw_m3 22 rfl rfl⟩
set_option maxRecDepth 20000 in
theorem okL_169 : OkL 169 := ⟨lw_m3 24 rfl rfl, lw_m3 25 rfl rfl, lw_m1 13 rfl rfl, lw_m3 26 rfl rfl⟩
set_option maxRecDepth 20000 in
theorem okL_170 : OkL 170 := ⟨by decide, rfl, rfl, Or.inl ⟨rfl, lw_m2 154 rfl rfl⟩⟩
set_option maxRecDepth 20000 in
theorem okL_171 : OkL 171 := ⟨_, _, _, rfl, by decide, lw_m2 117 rfl rfl, rfl, rfl, by decide⟩
set_option maxRecDepth 20000 in
theorem okL_172 : OkL 172 := ⟨_, _, _, rfl, by decide, lw_m1 78 rfl rfl, rfl, rfl, by decide⟩
set_option maxRecDepth 20000 in
theorem okL_173 : OkL 173 := ⟨_, _, _, rfl, by decide, lw_m2 118 rfl rfl, rfl, rfl, by decide⟩
set_option maxRecDepth 20000 in
theorem okL_174 : OkL 174 := ⟨_, _, _, rfl, by decide, lw_m2 116 rfl rfl, rfl, rfl, by decide⟩
set_option maxRecDepth 20000 in
theorem okL_175 : OkL 175 := ⟨by decide, rfl, rfl, Or.inl ⟨rfl, lw_m3 105 rfl rfl⟩⟩
set_option maxRecDepth 20000 in
theorem okL_176 : OkL 176 := ⟨_, _, _, rfl, by decide, lw_m2 120 rfl rfl, rfl, rfl, by decide⟩
set_option maxRecDepth 20000 in
theorem okL_177 : OkL 177 := ⟨by decide, rfl, rfl, lw_m3 142 rfl rfl, ⟨_, rfl, rfl⟩⟩
set_option maxRecDepth 20000 in
theorem okL_178 : OkL 178 := ⟨by decide, rfl, rfl, lw_m3 143 rfl rfl, ⟨_, rfl, rfl⟩⟩
set_option maxRecDepth 20000 in
theorem okL_179 : OkL 179 := ⟨_, _, _, rfl, by decide, lw_m2 121 rfl rfl, rfl, rfl, by decide⟩
set_option maxRecDepth 20000 in
theorem okL_180 : OkL 180 := ⟨_, _, _, rfl, by decide, lw_m2 124 rfl rfl, rfl, rfl, by decide⟩
set_option maxRecDepth 20000 in
theorem okL_181 : OkL 181 := ⟨_, _, _, rfl, by decide, lw_m2 125 rfl rfl, rfl, rfl, by decide⟩
set_option maxRecDepth 20000 in
theorem okL_182 : OkL 182 := ⟨by decide, rfl, rfl, lw_m3 147 rfl rfl, ⟨_, rfl, rfl⟩⟩
set_option maxRecDepth 20000 in
theorem okL_183 : OkL 183 := ⟨_, _, _, rfl, by decide, lw_m2 122 rfl rfl, rfl, rfl, by decide⟩
set_option maxRecDepth 20000 in
theorem okL_184 : OkL 184 := ⟨_, _, _, rfl, by decide, lw_m1 228 rfl rfl, rfl, rfl, by decide⟩
set_option maxRecDepth 20000 in
theorem okL_185 : OkL 185 := ⟨_, _, _, rfl, by decide, lw_m2 2 rfl rfl, rfl, rfl, by decide⟩
set_option maxRecDepth 20000 in
theorem okL_186 : OkL 186 := ⟨_, _, _, rfl, by decide, lw_m1 238 rfl rfl, rfl, rfl, by decide⟩
set_option maxRecDepth 20000 in
theorem okL_187 : OkL 187 := ⟨_, _, _, rfl, by decide, lw_m2 0 rfl rfl, rfl, rfl, by decide⟩
set_option maxRecDepth 20000 in
theorem okL_188 : OkL 188 := ⟨_, _, _, rfl, by decide, lw_m1 230 rfl rfl, rfl, rfl, by decide⟩
set_option maxRecDepth 20000 in
theorem okL_189 : OkL 189 := ⟨_, _, _, rfl, by decide, lw_m1 232 rfl rfl, rfl, rfl, by decide⟩
set_option maxRecDepth 20000 in
theorem okL_190 : OkL 190 := ⟨by decide, rfl, rfl, lw_m2 90 rfl rfl, ⟨_, rfl, rfl⟩⟩
set_option maxRecDepth 20000 in
theorem okL_191 : OkL 191 := ⟨by decide, rfl, rfl, lw_m3 114 rfl rfl, ⟨_, rfl, rfl⟩⟩
set_option maxRecDepth 20000 in
theorem okL_192 : OkL 192 := ⟨_, _, _, rfl, by decide, lw_m1 236 rfl rfl, rfl, rfl, by decide⟩
set_option maxRecDepth 20000 in
theorem okL_193 : OkL 193 := ⟨_, _, _, rfl, by decide, lw_m1 234 rfl rfl, rfl, rfl, by decide⟩
set_option maxRecDepth 20000 in
theorem okL_194 : OkL 194 := ⟨by decide, rfl, rfl, lw_m3 122 rfl rfl, ⟨_, rfl, rfl⟩⟩
set_option maxRecDepth 20000 in
theorem okL_195 : OkL 195 := ⟨_, _, _, rfl, by decide, lw_m2 126 rfl rfl, rfl, rfl, by decide⟩
set_option maxRecDepth 20000 in
theorem okL_196 : OkL 196 := ⟨by decide, rfl, rfl, lw_m2 166 rfl rfl, ⟨_, rfl, rfl⟩⟩
set_option maxRecDepth 20000 in
theorem okL_197 : OkL 197 := lw_m1 19 rfl rfl
set_option maxRecDepth 20000 in
theorem okL_198 : OkL 198 := ⟨_, _, rfl, lw_m1 22 rfl rfl⟩
set_option maxRecDepth 20000 in
theorem okL_199 : OkL 199 := ⟨by decide, rfl, rfl, Or.inl ⟨rfl, lw_m1 24 rfl rfl⟩⟩
set_option maxRecDepth 20000 in
theorem okL_200 : OkL 200 := ⟨_, _, rfl, lw_m1 67 rfl rfl⟩
set_option maxRecDepth 20000 in
theorem okL_201 : OkL 201 := ⟨by decide, rfl, rfl, Or.inl ⟨rfl, lw_m1 69 rfl rfl⟩⟩
set_option maxRecDepth 20000 in
theorem okL_202 : OkL 202 := ⟨_, _, rfl, lw_m1 102 rfl rfl⟩
set_option maxRecDepth 20000 in
theorem okL_203 : OkL 203 := ⟨by decide, rfl, rfl, Or.inl ⟨rfl, lw_m1 104 rfl rfl⟩⟩
set_option maxRecDepth 20000 in
theorem okL_204 : OkL 204 := ⟨_, _, _, rfl, by decide, lw_m2 119 rfl rfl, rfl, rfl, by decide⟩
set_option maxRecDepth 20000 in
theorem okL_205 : OkL 205 := ⟨_, _, rfl, lw_m1 121 rfl rfl⟩
set_option maxRecDepth 20000 in
theorem okL_206 : OkL 206 := ⟨by decide, rfl, rfl, Or.inl ⟨rfl, lw_m1 123 rfl rfl⟩⟩
set_option maxRecDepth 20000 in
theorem okL_207 : OkL 207 := ⟨_, _, rfl, lw_m1 161 rfl rfl⟩
set_option maxRecDepth 20000 in
theorem okL_208 : OkL 208 := ⟨by decide, rfl, rfl, Or.inl ⟨rfl, lw_m1 163 rfl rfl⟩⟩
set_option maxRecDepth 20000 in
theorem okL_209 : OkL 209 := ⟨_, _, rfl, lw_m1 221 rfl rfl⟩
set_option maxRecDepth 20000 in
theorem okL_210 : OkL 210 := ⟨by decide, rfl, rfl, Or.inr ⟨rfl, List.mem_of_getElem? (i := 6) rfl⟩⟩
set_option maxRecDepth 20000 in
theorem okL_211 : OkL 211 := ⟨_, _, rfl, lw_m2 35 rfl rfl⟩
set_option maxRecDepth 20000 in
theorem okL_212 : OkL 212 := ⟨by decide, rfl, rfl, Or.inl ⟨rfl, lw_m2 37 rfl rfl⟩⟩
set_option maxRecDepth 20000 in
theorem okL_213 : OkL 213 := ⟨_, _, _, rfl, by decide, lw_m2 123 rfl rfl, rfl, rfl, by decide⟩
set_option maxRecDepth 20000 in
theorem okL_214 : OkL 214 := ⟨by decide, rfl, rfl, lw_m3 130 rfl rfl, ⟨_, rfl, rfl⟩⟩
set_option maxRecDepth 20000 in
theorem okL_215 : OkL 215 := ⟨by decide, rfl, rfl, Or.inl ⟨rfl, lw_m3 4 rfl rfl⟩⟩
set_option maxRecDepth 20000 in
theorem okL_216 : OkL 216 := ⟨_, _, _, rfl, by decide, lw_m2 5 rfl rfl, rfl, rfl, by decide⟩
set_option maxRecDepth 20000 in
theorem okL_217 : OkL 217 := ⟨by decide, rfl, rfl, lw_m3 152 rfl rfl, ⟨_, rfl, rfl⟩⟩
set_option maxRecDepth 20000 in
theorem okL_218 : OkL 218 := lw_m2 161 rfl rfl
set_option maxRecDepth 20000 in
theorem okL_219 : OkL 219 := ⟨by decide, rfl, rfl, lw_m3 160 rfl rfl, ⟨_, rfl, rfl⟩⟩
set_option maxRecDepth 20000 in
theorem okL_220 : OkL 220 := ⟨_, _, _, rfl, by decide, lw_m2 54 rfl rfl, rfl, rfl, by decide⟩
set_option maxRecDepth 20000 in
theorem okL_221 : OkL 221 := ⟨by decide, rfl, rfl, lw_m3 205 rfl rfl, ⟨_, rfl, rfl⟩⟩
set_option maxRecDepth 20000 in
theorem okL_222 : OkL 222 := ⟨_, _, _, rfl, by decide, lw_m2 58 rfl rfl, rfl, rfl, by decide⟩
set_option maxRecDepth 20000 in
theorem okL_223 : OkL 223 := ⟨_, _, _, rfl, by decide, lw_m2 56 rfl rfl, rfl, rfl, by decide⟩
set_option maxRecDepth 20000 in
theorem okL_224 : OkL 224 := ⟨_, _, _, rfl, by decide, lw_m2 60 rfl rfl, rfl, rfl, by decide⟩
set_option maxRecDepth 20000 in
theorem okL_225 : OkL 225 := ⟨by decide, rfl, rfl, lw_m2 94 rfl rfl, ⟨_, rfl, rfl⟩⟩
set_option maxRecDepth 20000 in
theorem okL_226 : OkL 226 := ⟨by decide, rfl, rfl, lw_m2 108 rfl rfl, ⟨_, rfl, rfl⟩⟩
set_option maxRecDepth 20000 in
theorem okL_227 : OkL 227 := ⟨by decide, rfl, rfl, lw_m2 112 rfl rfl, ⟨_, rfl, rfl⟩⟩
set_option maxRecDepth 20000 in
theorem okL_228 : OkL 228 := ⟨by decide, rfl, rfl, lw_m2 170 rfl rfl, ⟨_, rfl, rfl⟩⟩
set_option maxRecDepth 20000 in
theorem okL_229 : OkL 229 := ⟨_, _, _, rfl, by decide, lw_m1 147 rfl rfl, rfl, rfl, by decide⟩
set_option maxRecDepth 20000 in
theorem okL_230 : OkL 230 := ⟨_, _, _, rfl, by decide, lw_m1 149 rfl rfl, rfl, rfl, by decide⟩
set_option maxRecDepth 20000 in
theorem okL_231 : OkL 231 := ⟨_, _, _, rfl, by decide, lw_m1 89 rfl rfl, rfl, rfl, by decide⟩
set_option maxRecDepth 20000 in
theorem okL_232 : OkL 232 := ⟨by decide, rfl, rfl, lw_m3 18 rfl rfl, ⟨_, rfl, rfl⟩⟩
set_option maxRecDepth 20000 in
theorem okL_233 : OkL 233 := ⟨by decide, rfl, rfl, lw_m3 27 rfl rfl, ⟨_, rfl, rfl⟩⟩
set_option maxRecDepth 20000 in
theorem okL_234 : OkL 234 := ⟨by decide, rfl, rfl, lw_m3 39 rfl rfl, ⟨_, rfl, rfl⟩⟩
set_option maxRecDepth 20000 in
theorem okL_235 : OkL 235 := ⟨_, _, _, rfl, by decide, lw_m1 185 rfl rfl, rfl, rfl, by decide⟩
set_option maxRecDepth 20000 in
theorem okL_236 : OkL 236 := ⟨_, _, _, rfl, by decide, lw_m1 183 rfl rfl, rfl, rfl, by decide⟩
set_option maxRecDepth 20000 in
theorem okL_237 : OkL 237 := ⟨by decide, rfl, rfl, lw_m3 97 rfl rfl, ⟨_, rfl, rfl⟩⟩
set_option maxRecDepth 20000 in
theorem okL_238 : OkL 238 := ⟨_, _, _, rfl, by decide, lw_m2 7 rfl rfl, rfl, rfl, by decide⟩
set_option maxRecDepth 20000 in
theorem okL_239 : OkL 239 := ⟨_, _, _, rfl, by decide, lw_m2 9 rfl rfl, rfl, rfl, by decide⟩
set_option maxRecDepth 20000 in
theorem okL_240 : OkL 240 := ⟨by decide, rfl, rfl, Or.inl ⟨rfl, lw_m4 162 rfl rfl⟩⟩
set_option maxRecDepth 20000 in
theorem okL_241 : OkL 241 := ⟨_, _, _, rfl, by decide, lw_m3 232 rfl rfl, rfl, rfl, by decide⟩
set_option maxRecDepth 20000 in
theorem okL_242 : OkL 242 := ⟨_, _, _, rfl, by decide, lw_m3 231 rfl rfl, rfl, rfl, by decide⟩
set_option maxRecDepth 20000 in
theorem okL_243 : OkL 243 := ⟨_, _, _, rfl, by decide, lw_m3 233 rfl rfl, rfl, rfl, by decide⟩
set_option maxRecDepth 20000 in
theorem okL_244 : OkL 244 := ⟨_, _, _, rfl, by decide, lw_m3 234 rfl rfl, rfl, rfl, by decide⟩
set_option maxRecDepth 20000 in
theorem okL_245 : OkL 245 := ⟨_, _, _, rfl, by decide, lw_m4 13 rfl rfl, rfl, rfl, by decide⟩
set_option maxRecDepth 20000 in
theorem okL_246 : OkL 246 := ⟨_, _, _, rfl, by decide, lw_m4 14 rfl rfl, rfl, rfl, by decide⟩
set_option maxRecDepth 20000 in
theorem okL_247 : OkL 247 := ⟨_, _, _, rfl, by decide, lw_m4 15 rfl rfl, rfl, rfl, by decide⟩
set_option maxRecDepth 20000 in
theorem okL_248 : OkL 248 := ⟨_, _, _, rfl, by decide, lw_m4 16 rfl rfl, rfl, rfl, by decide⟩
set_option maxRecDepth 20000 in
theorem okL_249 : OkL 249 := ⟨_, _, _, rfl, by decide, lw_m4 17 rfl rfl, rfl, rfl, by decide⟩
set_option maxRecDepth 20000 in
theorem okL_250 : OkL 250 := ⟨_, _, _, rfl, by decide, lw_m4 22 rfl rfl, rfl, rfl, by decide⟩
set_option maxRecDepth 20000 in
theorem okL_251 : OkL 251 := ⟨_, _, _, rfl, by decide, lw_m4 28 rfl rfl, rfl, rfl, by decide⟩
set_option maxRecDepth 20000 in
theorem okL_252 : OkL 252 := ⟨_, _, _, rfl, by decide, lw_m4 29 rfl rfl, rfl, rfl, by decide⟩
set_option maxRecDepth 20000 in
theorem okL_253 : OkL 253 := ⟨_, _, _, rfl, by decide, lw_m4 31 rfl rfl, rfl, rfl, by decide⟩
set_option maxRecDepth 20000 in
theorem okL_254 : OkL 254 := ⟨_, _, _, rfl, by decide, lw_m4 32 rfl rfl, rfl, rfl, by decide⟩
set_option maxRecDepth 20000 in
theorem okL_255 : OkL 255 := ⟨_, _, _, rfl, by decide, lw_m4 30 rfl rfl, rfl, rfl, by decide⟩
set_option maxRecDepth 20000 in
theorem okL_256 : OkL 256 := ⟨by decide, rfl, rfl, lw_m4 151 rfl rfl, ⟨_, rfl, rfl⟩⟩
set_option maxRecDepth 20000 in
theorem okL_257 : OkL 257 := ⟨by decide, rfl, rfl, Or.inl ⟨rfl, lw_m5 4 rfl rfl⟩⟩
set_option maxRecDepth 20000 in
theorem okL_258 : OkL 258 := ⟨by decide, rfl, rfl, Or.inl ⟨rfl, lw_m4 238 rfl rfl⟩⟩
set_option maxRecDepth 20000 in
theorem okL_259 : OkL 259 := ⟨_, _, _, rfl, by decide, lw_m3 235 rfl rfl, rfl, rfl, by decide⟩
set_option maxRecDepth 20000 in
theorem okL_260 : OkL 260 := ⟨by decide, rfl, rfl, lw_m4 204 rfl rfl, ⟨_, rfl, rfl⟩⟩
set_option maxRecDepth 20000 in
theorem okL_261 : OkL 261 := ⟨by decide, rfl, rfl, Or.inl ⟨rfl, lw_m4 123 rfl rfl⟩⟩
set_option maxRecDepth 20000 in
theorem okL_262 : OkL 262 := ⟨by decide, rfl, rfl, lw_m4 227 rfl rfl, ⟨_, rfl, rfl⟩⟩
set_option maxRecDepth 20000 in
theorem okL_263 : OkL 263 := ⟨_, _, _, rfl, by decide, lw_m3 239 rfl rfl, rfl, rfl, by decide⟩
set_option maxRecDepth 20000 in
theorem okL_264 : OkL 264 := ⟨_, _, _, rfl, by decide, lw_m3 238 rfl rfl, rfl, rfl, by decide⟩
set_option maxRecDepth 20000 in
theorem okL_265 : OkL 265 := ⟨_, _, _, rfl, by decide, lw_m4 0 rfl rfl, rfl, rfl, by decide⟩
set_option maxRecDepth 20000 in
theorem okL_266 : OkL 266 := ⟨by decide, rfl, rfl, lw_m5 7 rfl rfl, ⟨_, rfl, rfl⟩⟩
set_option maxRecDepth 20000 in
theorem okL_267 : OkL 267 := ⟨by decide, rfl, rfl, Or.inl ⟨rfl, lw_m5 1 rfl rfl⟩⟩
set_option maxRecDepth 20000 in
theorem okL_268 : OkL 268 := ⟨_, _, _, rfl, by decide, lw_m4 1 rfl rfl, rfl, rfl, by decide⟩
set_option maxRecDepth 20000 in
theorem okL_269 : OkL 269 := ⟨_, _, _, rfl, by decide, lw_m3 236 rfl rfl, rfl, rfl, by decide⟩
set_option maxRecDepth 20000 in
theorem okL_270 : OkL 270 := ⟨by decide, rfl, rfl, lw_m5 11 rfl rfl, ⟨_, rfl, rfl⟩⟩
set_option maxRecDepth 20000 in
theorem okL_271 : OkL 271 := ⟨_, _, _, rfl, by decide, lw_m3 237 rfl rfl, rfl, rfl, by decide⟩
set_option maxRecDepth 20000 in
theorem okL_272 : OkL 272 := ⟨by decide, rfl, rfl, Or.inl ⟨rfl, lw_m5 15 rfl rfl⟩⟩
set_option maxRecDepth 20000 in
theorem okL_273 : OkL 273 := ⟨by decide, rfl, rfl, lw_m5 18 rfl rfl, ⟨_, rfl, rfl⟩⟩
set_option maxRecDepth 20000 in
theorem okL_274 : OkL 274 := ⟨_, _, _, rfl, by decide, lw_m4 21 rfl rfl, rfl, rfl, by decide⟩
set_option maxRecDepth 20000 in
theorem okL_275 : OkL 275 := ⟨by decide, rfl, rfl, lw_m5 22 rfl rfl, ⟨_, rfl, rfl⟩⟩
set_option maxRecDepth 20000 in
theorem okL_276 : OkL 276 := ⟨by decide, rfl, rfl, lw_m4 147 rfl rfl, ⟨_, rfl, rfl⟩⟩
set_option maxRecDepth 20000 in
theorem okL_277 : OkL 277 := ⟨by decide, rfl, rfl, lw_m4 216 rfl rfl, ⟨_, rfl, rfl⟩⟩
set_option maxRecDepth 20000 in
theorem okL_278 : OkL 278 := ⟨by decide, rfl, rfl, Or.inl ⟨rfl, lw_m4 169 rfl rfl⟩⟩
set_option maxRecDepth 20000 in
theorem okL_279 : OkL 279 := ⟨by decide, rfl, rfl, Or.inl ⟨rfl, lw_m4 172 rfl rfl⟩⟩
set_option maxRecDepth 20000 in
theorem okL_280 : OkL 280 := ⟨by decide, rfl, rfl, Or.inl ⟨rfl, lw_m4 182 rfl rfl⟩⟩
set_option maxRecDepth 20000 in
theorem okL_281 : OkL 281 := ⟨_, _, _, rfl, by decide, lw_m4 26 rfl rfl, rfl, rfl, by decide⟩
set_option maxRecDepth 20000 in
theorem okL_282 : OkL 282 := ⟨by decide, rfl, rfl, lw_m4 143 rfl rfl, ⟨_, rfl, rfl⟩⟩
set_option maxRecDepth 20000 in
theorem okL_283 : OkL 283 := ⟨by decide, rfl, rfl, Or.inl ⟨rfl, lw_m4 189 rfl rfl⟩⟩
set_option maxRecDepth 20000 in
theorem okL_284 : OkL 284 := ⟨by decide, rfl, rfl, Or.inl ⟨rfl, lw_m4 175 rfl rfl⟩⟩
set_option maxRecDepth 20000 in
theorem okL_285 : OkL 285 := ⟨_, _, _, rfl, by decide, lw_m4 18 rfl rfl, rfl, rfl, by decide⟩
set_option maxRecDepth 20000 in
theorem okL_286 : OkL 286 := ⟨_, _, _, rfl, by decide, lw_m4 19 rfl rfl, rfl, rfl, by decide⟩
set_option maxRecDepth 20000 in
theorem okL_287 : OkL 287 := ⟨_, _, _, rfl, by decide, lw_m4 20 rfl rfl, rfl, rfl, by decide⟩
set_option maxRecDepth 20000 in
theorem okL_288 : OkL 288 := ⟨by decide, rfl, rfl, lw_m3 227 rfl rfl, ⟨_, rfl, rfl⟩⟩
set_option maxRecDepth 20000 in
theorem okL_289 : OkL 289 := ⟨_, _, _, rfl, by decide, lw_m4 8 rfl rfl, rfl, rfl, by decide⟩
set_option maxRecDepth 20000 in
theorem okL_290 : OkL 290 := ⟨_, _, _, rfl, by decide, lw_m4 11 rfl rfl, rfl, rfl, by decide⟩
set_option maxRecDepth 20000 in
theorem okL_291 : OkL 291 := ⟨_, _, _, rfl, by decide, lw_m4 9 rfl rfl, rfl, rfl, by decide⟩
set_option maxRecDepth 20000 in
theorem okL_292 : OkL 292 := ⟨by decide, rfl, rfl, lw_m4 135 rfl rfl, ⟨_, rfl, rfl⟩⟩
set_option maxRecDepth 20000 in
theorem okL_293 : OkL 293 := ⟨_, _, _, rfl, by decide, lw_m4 2 rfl rfl, rfl, rfl, by decide⟩
set_option maxRecDepth 20000 in
theorem okL_294 : OkL 294 := lw_m3 226 rfl rfl
set_option maxRecDepth 20000 in
theorem okL_295 : OkL 295 := ⟨_, _, _, rfl, by decide, lw_m4 3 rfl rfl, rfl, rfl, by decide⟩
set_option maxRecDepth 20000 in
theorem okL_296 : OkL 296 := ⟨_, _, _, rfl, by decide, lw_m4 4 rfl rfl, rfl, rfl, by decide⟩
set_option maxRecDepth 20000 in
theorem okL_297 : OkL 297 := ⟨_, _, _, rfl, by decide, lw_m4 5 rfl rfl, rfl, rfl, by decide⟩
set_option maxRecDepth 20000 in
theorem okL_298 : OkL 298 := ⟨_, _, _, rfl, by decide, lw_m4 6 rfl rfl, rfl, rfl, by decide⟩
set_option maxRecDepth 20000 in
theorem okL_299 : OkL 299 := ⟨_, _, _, rfl, by decide, lw_m4 7 rfl rfl, rfl, rfl, by decide⟩
set_option maxRecDepth 20000 in
theorem okL_300 : OkL 300 := ⟨_, _, _, rfl, by decide, lw_m4 10 rfl rfl, rfl, rfl, by decide⟩
set_option maxRecDepth 20000 in
theorem okL_301 : OkL 301 := ⟨_, _, _, rfl, by decide, lw_m4 12 rfl rfl, rfl, rfl, by decide⟩
set_option maxRecDepth 20000 in
theorem okL_302 : OkL 302 := ⟨_, _, _, rfl, by decide, lw_m4 23 rfl rfl, rfl, rfl, by decide⟩
set_option maxRecDepth 20000 in
theorem okL_303 : OkL 303 := ⟨_, _, _, rfl, by decide, lw_m4 24 rfl rfl, rfl, rfl, by decide⟩
set_option maxRecDepth 20000 in
theorem okL_304 : OkL 304 := ⟨_, _, _, rfl, by decide, lw_m4 25 rfl rfl, rfl, rfl, by decide⟩
set_option maxRecDepth 20000 in
theorem okL_305 : OkL 305 := ⟨_, _, _, rfl, by decide, lw_m4 27 rfl rfl, rfl, rfl, by decide⟩
set_option maxRecDepth 20000 in
theorem okL_306 : OkL 306 := ⟨by decide, rfl, rfl, lw_m4 155 rfl rfl, ⟨_, rfl, rfl⟩⟩
set_option maxRecDepth 20000 in
theorem okL_307 : OkL 307 := ⟨by decide, rfl, rfl, lw_m4 165 rfl rfl, ⟨_, rfl, rfl⟩⟩
set_option maxRecDepth 20000 in
theorem okL_308 : OkL 308 := ⟨by decide, rfl, rfl, lw_m4 178 rfl rfl, ⟨_, rfl, rfl⟩⟩
set_option maxRecDepth 20000 in
theorem okL_309 : OkL 309 := ⟨by decide, rfl, rfl, lw_m4 185 rfl rfl, ⟨_, rfl, rfl⟩⟩
set_option maxRecDepth 20000 in
theorem okL_310 : OkL 310 := ⟨by decide, rfl, rfl, lw_m4 192 rfl rfl, ⟨_, rfl, rfl⟩⟩
set_option maxRecDepth 20000 in
theorem okL_311 : OkL 311 := ⟨by decide, rfl, rfl, lw_m4 196 rfl rfl, ⟨_, rfl, rfl⟩⟩
set_option maxRecDepth 20000 in
theorem okL_312 : OkL 312 := ⟨by decide, rfl, rfl, lw_m4 200 rfl rfl, ⟨_, rfl, rfl⟩⟩
set_option maxRecDepth 20000 in
theorem okL_313 : OkL 313 := ⟨by decide, rfl, rfl, Or.inl ⟨rfl, lw_m4 231 rfl rfl⟩⟩
set_option maxRecDepth 20000 in
theorem okL_314 : OkL 314 := ⟨by decide, rfl, rfl, Or.inl ⟨rfl, lw_m4 159 rfl rfl⟩⟩
set_option maxRecDepth 20000 in
theorem okL_315 : OkL 315 := ⟨by decide, rfl, rfl, lw_m4 234 rfl rfl, ⟨_, rfl, rfl⟩⟩
set_option maxRecDepth 20000 in
theorem okL_316 : OkL 316 := ⟨by decide, rfl, rfl, lw_m5 66 rfl rfl, ⟨_, rfl, rfl⟩⟩
set_option maxRecDepth 20000 in
theorem okL_317 : OkL 317 := ⟨by decide, rfl, rfl, lw_m5 70 rfl rfl, ⟨_, rfl, rfl⟩⟩
set_option maxRecDepth 20000 in
theorem okL_318 : OkL 318 := lw_m4 130 rfl rfl
set_option maxRecDepth 20000 in
theorem okL_319 : OkL 319 := ⟨by decide, rfl, rfl, lw_m5 62 rfl rfl, ⟨_, rfl, rfl⟩⟩
set_option maxRecDepth 20000 in
theorem okL_320 : OkL 320 := ⟨by decide, rfl, rfl, lw_m5 74 rfl rfl, ⟨_, rfl, rfl⟩⟩
set_option maxRecDepth 20000 in
theorem okL_321 : OkL 321 := ⟨by decide, rfl, rfl, lw_m4 139 rfl rfl, ⟨_, rfl, rfl⟩⟩
set_option maxRecDepth 20000 in
theorem okL_322 : OkL 322 := ⟨by decide, rfl, rfl, lw_m4 208 rfl rfl, ⟨_, rfl, rfl⟩⟩
set_option maxRecDepth 20000 in
theorem okL_323 : OkL 323 := ⟨by decide, rfl, rfl, lw_m4 212 rfl rfl, ⟨_, rfl, rfl⟩⟩
set_option maxRecDepth 20000 in
theorem okL_324 : OkL 324 := ⟨by decide, rfl, rfl, lw_m4 223 rfl rfl, ⟨_, rfl, rfl⟩⟩
set_option maxRecDepth 20000 in
theorem okL_325 : OkL 325 := ⟨by decide, rfl, rfl, Or.inl ⟨rfl, lw_m4 220 rfl rfl⟩⟩
set_option maxRecDepth 20000 in
theorem okL_326 : OkL 326 := lw_m2 202 rfl rfl
set_option maxRecDepth 20000 in
theorem okL_327 : OkL 327 := lw_m2 203 rfl rfl
set_option maxRecDepth 20000 in
theorem okL_328 : OkL 328 := lw_m2 204 rfl rfl
set_option maxRecDepth 20000 in
theorem okL_329 : OkL 329 := ⟨_, _, rfl, lw_m1 14 rfl rfl⟩
set_option maxRecDepth 20000 in
theorem okL_330 : OkL 330 := ⟨by decide, rfl, rfl, Or.inl ⟨rfl, lw_m1 16 rfl rfl⟩⟩
set_option maxRecDepth 20000 in
theorem okL_331 : OkL 331 := ⟨_, _, rfl, lw_m3 221 rfl rfl⟩
set_option maxRecDepth 20000 in
theorem okL_332 : OkL 332 := ⟨by decide, rfl, rfl, Or.inl ⟨rfl, lw_m3 223 rfl rfl⟩⟩
set_option maxRecDepth 20000 in
theorem okL_333 : OkL 333 := ⟨by decide, rfl, rfl, lw_m2 150 rfl rfl, ⟨_, rfl, rfl⟩⟩
set_option maxRecDepth 20000 in
theorem okL_334 : OkL 334 := ⟨by decide, rfl, rfl, lw_m4 119 rfl rfl, ⟨_, rfl, rfl⟩⟩
set_option maxRecDepth 20000 in
theorem okL_335 : OkL 335 := ⟨by decide, rfl, rfl, lw_m2 157 rfl rfl, ⟨_, rfl, rfl⟩⟩
set_option maxRecDepth 20000 in
theorem okL_336 : OkL 336 := ⟨by decide, rfl, rfl, lw_m4 126 rfl rfl, ⟨_, rfl, rfl⟩⟩
set_option maxRecDepth 20000 in
theorem okL_337 : OkL 337 := ⟨by decide, rfl, rfl, lw_m2 162 rfl rfl, ⟨_, rfl, rfl⟩⟩
set_option maxRecDepth 20000 in
theorem okL_338 : OkL 338 := ⟨by decide, rfl, rfl, lw_m4 131 rfl rfl, ⟨_, rfl, rfl⟩⟩
set_option maxRecDepth 20000 in
theorem okL_339 : OkL 339 := ⟨by decide, rfl, rfl, lw_m3 101 rfl rfl, ⟨_, rfl, rfl⟩⟩
set_option maxRecDepth 20000 in
theorem okL_340 : OkL 340 := ⟨by decide, rfl, rfl, lw_m5 26 rfl rfl, ⟨_, rfl, rfl⟩⟩
set_option maxRecDepth 20000 in
theorem okL_341 : OkL 341 := ⟨by decide, rfl, rfl, lw_m3 106 rfl rfl, ⟨_, rfl, rfl⟩⟩
set_option maxRecDepth 20000 in
theorem okL_342 : OkL 342 := ⟨by decide, rfl, rfl, lw_m5 30 rfl rfl, ⟨_, rfl, rfl⟩⟩
set_option maxRecDepth 20000 in
theorem okL_343 : OkL 343 := ⟨by decide, rfl, rfl, lw_m3 110 rfl rfl, ⟨_, rfl, rfl⟩⟩
set_option maxRecDepth 20000 in
theorem okL_344 : OkL 344 := ⟨by decide, rfl, rfl, lw_m5 34 rfl rfl, ⟨_, rfl, rfl⟩⟩
set_option maxRecDepth 20000 in
theorem okL_345 : OkL 345 := ⟨by decide, rfl, rfl, lw_m3 118 rfl rfl, ⟨_, rfl, rfl⟩⟩
set_option maxRecDepth 20000 in
theorem okL_346 : OkL 346 := ⟨by decide, rfl, rfl, lw_m5 38 rfl rfl, ⟨_, rfl, rfl⟩⟩
set_option maxRecDepth 20000 in
theorem okL_347 : OkL 347 := ⟨by decide, rfl, rfl, lw_m3 126 rfl rfl, ⟨_, rfl, rfl⟩⟩
set_option maxRecDepth 20000 in
theorem okL_348 : OkL 348 := ⟨by decide, rfl, rfl, lw_m5 42 rfl rfl, ⟨_, rfl, rfl⟩⟩
set_option maxRecDepth 20000 in
theorem okL_349 : OkL 349 := ⟨by decide, rfl, rfl, lw_m3 134 rfl rfl, ⟨_, rfl, rfl⟩⟩
set_option maxRecDepth 20000 in
theorem okL_350 : OkL 350 := ⟨by decide, rfl, rfl, lw_m5 46 rfl rfl, ⟨_, rfl, rfl⟩⟩
set_option maxRecDepth 20000 in
theorem okL_351 : OkL 351 := ⟨by decide, rfl, rfl, lw_m3 138 rfl rfl, ⟨_, rfl, rfl⟩⟩
set_option maxRecDepth 20000 in
theorem okL_352 : OkL 352 := ⟨by decide, rfl, rfl, lw_m5 50 rfl rfl, ⟨_, rfl, rfl⟩⟩
set_option maxRecDepth 20000 in
theorem okL_353 : OkL 353 := ⟨by decide, rfl, rfl, lw_m3 148 rfl rfl, ⟨_, rfl, rfl⟩⟩
set_option maxRecDepth 20000 in
theorem okL_354 : OkL 354 := ⟨by decide, rfl, rfl, lw_m5 54 rfl rfl, ⟨_, rfl, rfl⟩⟩
set_option maxRecDepth 20000 in
theorem okL_355 : OkL 355 := ⟨by decide, rfl, rfl, lw_m3 156 rfl rfl, ⟨_, rfl, rfl⟩⟩
set_option maxRecDepth 20000 in
theorem okL_356 : OkL 356 := ⟨by decide, rfl, rfl, lw_m5 58 rfl rfl, ⟨_, rfl, rfl⟩⟩
set_option maxRecDepth 20000 in
theorem okL_357 : OkL 357 := ⟨by decide, rfl, rfl, lw_m3 213 rfl rfl, ⟨_, rfl, rfl⟩⟩
set_option maxRecDepth 20000 in
theorem okL_358 : OkL 358 := ⟨by decide, rfl, rfl, lw_m5 78 rfl rfl, ⟨_, rfl, rfl⟩⟩
set_option maxRecDepth 20000 in
theorem okL_359 : OkL 359 := ⟨by decide, rfl, rfl, lw_m3 217 rfl rfl, ⟨_, rfl, rfl⟩⟩
set_option maxRecDepth 20000 in
theorem okL_360 : OkL 360 := ⟨by decide, rfl, rfl, lw_m5 82 rfl rfl, ⟨_, rfl, rfl⟩⟩
theorem okL_all : ∀ w, w < 361 → OkL w := by
  intro w hw
  match w, hw with
  | 0, _ => exact okL_0
  | 1, _ => exact okL_1
  | 2, _ => exact okL_2
  | 3, _ => exact okL_3
  | 4, _ => exact okL_4
  | 5, _ => exact okL_5
  | 6, _ => exact okL_6
  | 7, _ => exact okL_7
  | 8, _ => exact okL_8
  | 9, _ => exact okL_9
  | 10, _ => exact okL_10
  | 11, _ => exact okL_11
  | 12, _ => exact okL_12
  | 13, _ => exact okL_13
  | 14, _ => exact okL_14
  | 15, _ => exact okL_15
  | 16, _ => exact okL_16
  | 17, _ => exact okL_17
  | 18, _ => exact okL_18
  | 19, _ => exact okL_19
  | 20, _ => exact okL_20
  | 21, _ => exact okL_21
  | 22, _ => exact okL_22
  | 23, _ => exact okL_23
  | 24, _ => exact okL_24
  | 25, _ => exact okL_25
  | 26, _ => exact okL_26
  | 27, _ => exact okL_27
  | 28, _ => exact okL_28
  | 29, _ => exact okL_29
  | 30, _ => exact okL_30
  | 31, _ => exact okL_31
  | 32, _ => exact okL_32
  | 33, _ => exact okL_33
  | 34, _ => exact okL_34
  | 35, _ => exact okL_35
  | 36, _ => exact okL_36
  | 37, _ => exact okL_37
  | 38, _ => exact okL_38
  | 39, _ => exact okL_39
  | 40, _ => exact okL_40
  | 41, _ => exact okL_41
  | 42, _ => exact okL_42
  | 43, _ => exact okL_43
  | 44, _ => exact okL_44
  | 45, _ => exact okL_45
  | 46, _ => exact okL_46
  | 47, _ => exact okL_47
  | 48, _ => exact okL_48
  | 49, _ => exact okL_49
  | 50, _ => exact okL_50
  | 51, _ => exact okL_51
  | 52, _ => exact okL_52
  | 53, _ => exact okL_53
  | 54, _ => exact okL_54
  | 55, _ => exact okL_55
  | 56, _ => exact okL_56
  | 57, _ => exact okL_57
  | 58, _ => exact okL_58
  | 59, _ => exact okL_59
  | 60, _ => exact okL_60
  | 61, _ => exact okL_61
  | 62, _ => exact okL_62
  | 63, _ => exact okL_63
  | 64, _ => exact okL_64
  | 65, _ => exact okL_65
  | 66, _ => exact okL_66
  | 67, _ => exact okL_67
  | 68, _ => exact okL_68
  | 69, _ => exact okL_69
  | 70, _ => exact okL_70
  | 71, _ => exact okL_71
  | 72, _ => exact okL_72
  | 73, _ => exact okL_73
  | 74, _ => exact okL_74
  | 75, _ => exact okL_75
  | 76, _ => exact okL_76
  | 77, _ => exact okL_77
  | 78, _ => exact okL_78
  | 79, _ => exact okL_79
  | 80, _ => exact okL_80
  | 81, _ => exact okL_81
  | 82, _ => exact okL_82
  | 83, _ => exact okL_83
  | 84, _ => exact okL_84
  | 85, _ => exact okL_85
  | 86, _ => exact okL_86
  | 87, _ => exact okL_87
  | 88, _ => exact okL_88
  | 89, _ => exact okL_89
  | 90, _ => exact okL_90
  | 91, _ => exact okL_91
  | 92, _ => exact okL_92
  | 93, _ => exact okL_93
  | 94, _ => exact okL_94
  | 95, _ => exact okL_95
  | 96, _ => exact okL_96
  | 97, _ => exact okL_97
  | 98, _ => exact okL_98
  | 99, _ => exact okL_99
  | 100, _ => exact okL_100
  | 101, _ => exact okL_101
  | 102, _ => exact okL_102
  | 103, _ => exact okL_103
  | 104, _ => exact okL_104
  | 105, _ => exact okL_105
  | 106, _ => exact okL_106
  | 107, _ => exact okL_107
  | 108, _ => exact okL_108
  | 109, _ => exact okL_109
  | 110, _ => exact okL_110
  | 111, _ => exact okL_111
  | 112, _ => exact okL_112
  | 113, _ => exact okL_113
  | 114, _ => exact okL_114
  | 115, _ => exact okL_115
  | 116, _ => exact okL_116
  | 117, _ => exact okL_117
  | 118, _ => exact okL_118
  | 119, _ => exact okL_119
  | 120, _ => exact okL_120
  | 121, _ => exact okL_121
  | 122, _ => exact okL_122
  | 123, _ => exact okL_123
  | 124, _ => exact okL_124
  | 125, _ => exact okL_125
  | 126, _ => exact okL_126
  | 127, _ => exact okL_127
  | 128, _ => exact okL_128
  | 129, _ => exact okL_129
  | 130, _ => exact okL_130
  | 131, _ => exact okL_131
  | 132, _ => exact okL_132
  | 133, _ => exact okL_133
  | 134, _ => exact okL_134
  | 135, _ => exact okL_135
  | 136, _ => exact okL_136
  | 137, _ => exact okL_137
  | 138, _ => exact okL_138
  | 139, _ => exact okL_139
  | 140, _ => exact okL_140
  | 141, _ => exact okL_141
  | 142, _ => exact okL_142
  | 143, _ => exact okL_143
  | 144, _ => exact okL_144
  | 145, _ => exact okL_145
  | 146, _ => exact okL_146
  | 147, _ => exact okL_147
  | 148, _ => exact okL_148
  | 149, _ => exact okL_149
  | 150, _ => exact okL_150
  | 151, _ => exact okL_151
  | 152, _ => exact okL_152
  | 153, _ => exact okL_153
  | 154, _ => exact okL_154
  | 155, _ => exact okL_155
  | 156, _ => exact okL_156
  | 157, _ => exact okL_157
  | 158, _ => exact okL_158
  | 159, _ => exact okL_159
  | 160, _ => exact okL_160
  | 161, _ => exact okL_161
  | 162, _ => exact okL_162
  | 163, _ => exact okL_163
  | 164, _ => exact okL_164
  | 165, _ => exact okL_165
  | 166, _ => exact okL_166
  | 167, _ => exact okL_167
  | 168, _ => exact okL_168
  | 169, _ => exact okL_169
  | 170, _ => exact okL_170
  | 171, _ => exact okL_171
  | 172, _ => exact okL_172
  | 173, _ => exact okL_173
  | 174, _ => exact okL_174
  | 175, _ => exact okL_175
  | 176, _ => exact okL_176
  | 177, _ => exact okL_177
  | 178, _ => exact okL_178
  | 179, _ => exact okL_179
  | 180, _ => exact okL_180
  | 181, _ => exact okL_181
  | 182, _ => exact okL_182
  | 183, _ => exact okL_183
  | 184, _ => exact okL_184
  | 185, _ => exact okL_185
  | 186, _ => exact okL_186
  | 187, _ => exact okL_187
  | 188, _ => exact okL_188
  | 189, _ => exact okL_189
  | 190, _ => exact okL_190
  | 191, _ => exact okL_191
  | 192, _ => exact okL_192
  | 193, _ => exact okL_193
  | 194, _ => exact okL_194
  | 195, _ => exact okL_195
  | 196, _ => exact okL_196
  | 197, _ => exact okL_197
  | 198, _ => exact okL_198
  | 199, _ => exact okL_199
  | 200, _ => exact okL_200
  | 201, _ => exact okL_201
  | 202, _ => exact okL_202
  | 203, _ => exact okL_203
  | 204, _ => exact okL_204
  | 205, _ => exact okL_205
  | 206, _ => exact okL_206
  | 207, _ => exact okL_207
  | 208, _ => exact okL_208
  | 209, _ => exact okL_209
  | 210, _ => exact okL_210
  | 211, _ => exact okL_211
  | 212, _ => exact okL_212
  | 213, _ => exact okL_213
  | 214, _ => exact okL_214
  | 215, _ => exact okL_215
  | 216, _ => exact okL_216
  | 217, _ => exact okL_217
  | 218, _ => exact okL_218
  | 219, _ => exact okL_219
  | 220, _ => exact okL_220
  | 221, _ => exact okL_221
  | 222, _ => exact okL_222
  | 223, _ => exact okL_223
  | 224, _ => exact okL_224
  | 225, _ => exact okL_225
  | 226, _ => exact okL_226
  | 227, _ => exact okL_227
  | 228, _ => exact okL_228
  | 229, _ => exact okL_229
  | 230, _ => exact okL_230
  | 231, _ => exact okL_231
  | 232, _ => exact okL_232
  | 233, _ => exact okL_233
  | 234, _ => exact okL_234
  | 235, _ => exact okL_235
  | 236, _ => exact okL_236
  | 237, _ => exact okL_237
  | 238, _ => exact okL_238
  | 239, _ => exact okL_239
  | 240, _ => exact okL_240
  | 241, _ => exact okL_241
  | 242, _ => exact okL_242
  | 243, _ => exact okL_243
  | 244, _ => exact okL_244
  | 245, _ => exact okL_245
  | 246, _ => exact okL_246
  | 247, _ => exact okL_247
  | 248, _ => exact okL_248
  | 249, _ => exact okL_249
  | 250, _ => exact okL_250
  | 251, _ => exact okL_251
  | 252, _ => exact okL_252
  | 253, _ => exact okL_253
  | 254, _ => exact okL_254
  | 255, _ => exact okL_255
  | 256, _ => exact okL_256
  | 257, _ => exact okL_257
  | 258, _ => exact okL_258
  | 259, _ => exact okL_259
  | 260, _ => exact okL_260
  | 261, _ => exact okL_261
  | 262, _ => exact okL_262
  | 263, _ => exact okL_263
  | 264, _ => exact okL_264
  | 265, _ => exact okL_265
  | 266, _ => exact okL_266
  | 267, _ => exact okL_267
  | 268, _ => exact okL_268
  | 269, _ => exact okL_269
  | 270, _ => exact okL_270
  | 271, _ => exact okL_271
  | 272, _ => exact okL_272
  | 273, _ => exact okL_273
  | 274, _ => exact okL_274
  | 275, _ => exact okL_275
  | 276, _ => exact okL_276
  | 277, _ => exact okL_277
  | 278, _ => exact okL_278
  | 279, _ => exact okL_279
  | 280, _ => exact okL_280
  | 281, _ => exact okL_281
  | 282, _ => exact okL_282
  | 283, _ => exact okL_283
  | 284, _ => exact okL_284
  | 285, _ => exact okL_285
  | 286, _ => exact okL_286
  | 287, _ => exact okL_287
  | 288, _ => exact okL_288
  | 289, _ => exact okL_289
  | 290, _ => exact okL_290
  | 291, _ => exact okL_291
  | 292, _ => exact okL_292
  | 293, _ => exact okL_293
  | 294, _ => exact okL_294
  | 295, _ => exact okL_295
  | 296, _ => exact okL_296
  | 297, _ => exact okL_297
  | 298, _ => exact okL_298
  | 299, _ => exact okL_299
  | 300, _ => exact okL_300
  | 301, _ => exact okL_301
  | 302, _ => exact okL_302
  | 303, _ => exact okL_303
  | 304, _ => exact okL_304
  | 305, _ => exact okL_305
  | 306, _ => exact okL_306
  | 307, _ => exact okL_307
  | 308, _ => exact okL_308
  | 309, _ => exact okL_309
  | 310, _ => exact okL_310
  | 311, _ => exact okL_311
  | 312, _ => exact okL_312
  | 313, _ => exact okL_313
  | 314, _ => exact okL_314
  | 315, _ => exact okL_315
  | 316, _ => exact okL_316
  | 317, _ => exact okL_317
  | 318, _ => exact okL_318
  | 319, _ => exact okL_319
  | 320, _ => exact okL_320
  | 321, _ => exact okL_321
  | 322, _ => exact okL_322
  | 323, _ => exact okL_323
  | 324, _ => exact okL_324
  | 325, _ => exact okL_325
  | 326, _ => exact okL_326
  | 327, _ => exact okL_327
  | 328, _ => exact okL_328
  | 329, _ => exact okL_329
  | 330, _ => exact okL_330
  | 331, _ => exact okL_331
  | 332, _ => exact okL_332
  | 333, _ => exact okL_333
  | 334, _ => exact okL_334
  | 335, _ => exact okL_335
  | 336, _ => exact okL_336
  | 337, _ => exact okL_337
  | 338, _ => exact okL_338
  | 339, _ => exact okL_339
  | 340, _ => exact okL_340
  | 341, _ => exact okL_341
  | 342, _ => exact okL_342
  | 343, _ => exact okL_343
  | 344, _ => exact okL_344
  | 345, _ => exact okL_345
  | 346, _ => exact okL_346
  | 347, _ => exact okL_347
  | 348, _ => exact okL_348
  | 349, _ => exact okL_349
  | 350, _ => exact okL_350
  | 351, _ => exact okL_351
  | 352, _ => exact okL_352
  | 353, _ => exact okL_353
  | 354, _ => exact okL_354
  | 355, _ => exact okL_355
  | 356, _ => exact okL_356
  | 357, _ => exact okL_357
  | 358, _ => exact okL_358
  | 359, _ => exact okL_359
  | 360, _ => exact okL_360
  | w + 361, hw => exact absurd hw (by omega)
theorem lkl_len : lkl.length = 361 := by decide +kernel
set_option maxRecDepth 100000 in
set_option maxHeartbeats 4000000 in
theorem chkK_0 : (List.range 10).all (fun k => chkK (k + 0)) = true := by decide +kernel
set_option maxRecDepth 100000 in
set_option maxHeartbeats 4000000 in
theorem chkK_1 : (List.range 10).all (fun k => chkK (k + 10)) = true := by decide +kernel
set_option maxRecDepth 100000 in
set_option maxHeartbeats 4000000 in
theorem chkK_2 : (List.range 10).all (fun k => chkK (k + 20)) = true := by decide +kernel
set_option maxRecDepth 100000 in
set_option maxHeartbeats 4000000 in
theorem chkK_3 : (List.range 10).all (fun k => chkK (k + 30)) = true := by decide +kernel
set_option maxRecDepth 100000 in
set_option maxHeartbeats 4000000 in
theorem chkK_4 : (List.range 10).all (fun k => chkK (k + 40)) = true := by decide +kernel
set_option maxRecDepth 100000 in
set_option maxHeartbeats 4000000 in
theorem chkK_5 : (List.range 10).all (fun k => chkK (k + 50)) = true := by decide +kernel
set_option maxRecDepth 100000 in
set_option maxHeartbeats 4000000 in
theorem chkK_6 : (List.range 10).all (fun k => chkK (k + 60)) = true := by decide +kernel
set_option maxRecDepth 100000 in
set_option maxHeartbeats 4000000 in
theorem chkK_7 : (List.range 10).all (fun k => chkK (k + 70)) = true := by decide +kernel
set_option maxRecDepth 100000 in
set_option maxHeartbeats 4000000 in
theorem chkK_8 : (List.range 10).all (fun k => chkK (k + 80)) = true := by decide +kernel
set_option maxRecDepth 100000 in
set_option maxHeartbeats 4000000 in
theorem chkK_9 : (List.range 10).all (fun k => chkK (k + 90)) = true := by decide +kernel
set_option maxRecDepth 100000 in
set_option maxHeartbeats 4000000 in
theorem chkK_10 : (List.range 10).all (fun k => chkK (k + 100)) = true := by decide +kernel
set_option maxRecDepth 100000 in
set_option maxHeartbeats 4000000 in
theorem chkK_11 : (List.range 10).all (fun k => chkK (k + 110)) = true := by decide +kernel
set_option maxRecDepth 100000 in
set_option maxHeartbeats 4000000 in
theorem chkK_12 : (List.range 10).all (fun k => chkK (k + 120)) = true := by decide +kernel
set_option maxRecDepth 100000 in
set_option maxHeartbeats 4000000 in
theorem chkK_13 : (List.range 10).all (fun k => chkK (k + 130)) = true := by decide +kernel
set_option maxRecDepth 100000 in
set_option maxHeartbeats 4000000 in
theorem chkK_14 : (List.range 9).all (fun k => chkK (k + 140)) = true := by decide +kernel
theorem chkK_all {k : Nat} (hk : k < nm) : chkK k = true := by
  have hn : k < 149 := hk
  by_cases h0 : k < 10
  · have := List.all_eq_true.mp chkK_0 (k - 0) (List.mem_range.mpr (by omega))
    rwa [show k - 0 + 0 = k by omega] at this
  by_cases h1 : k < 20
  · have := List.all_eq_true.mp chkK_1 (k - 10) (List.mem_range.mpr (by omega))
    rwa [show k - 10 + 10 = k by omega] at this
  by_cases h2 : k < 30
  · have := List.all_eq_true.mp chkK_2 (k - 20) (List.mem_range.mpr (by omega))
    rwa [show k - 20 + 20 = k by omega] at this
  by_cases h3 : k < 40
  · have := List.all_eq_true.mp chkK_3 (k - 30) (List.mem_range.mpr (by omega))
    rwa [show k - 30 + 30 = k by omega] at this
  by_cases h4 : k < 50
  · have := List.all_eq_true.mp chkK_4 (k - 40) (List.mem_range.mpr (by omega))
    rwa [show k - 40 + 40 = k by omega] at this
  by_cases h5 : k < 60
  · have := List.all_eq_true.mp chkK_5 (k - 50) (List.mem_range.mpr (by omega))
    rwa [show k - 50 + 50 = k by omega] at this
  by_cases h6 : k < 70
  · have := List.all_eq_true.mp chkK_6 (k - 60) (List.mem_range.mpr (by omega))
    rwa [show k - 60 + 60 = k by omega] at this
  by_cases h7 : k < 80
  · have := List.all_eq_true.mp chkK_7 (k - 70) (List.mem_range.mpr (by omega))
    rwa [show k - 70 + 70 = k by omega] at this
  by_cases h8 : k < 90
  · have := List.all_eq_true.mp chkK_8 (k - 80) (List.mem_range.mpr (by omega))
    rwa [show k - 80 + 80 = k by omega] at this
  by_cases h9 : k < 100
  · have := List.all_eq_true.mp chkK_9 (k - 90) (List.mem_range.mpr (by omega))
    rwa [show k - 90 + 90 = k by omega] at this
  by_cases h10 : k < 110
  · have := List.all_eq_true.mp chkK_10 (k - 100) (List.mem_range.mpr (by omega))
    rwa [show k - 100 + 100 = k by omega] at this
  by_cases h11 : k < 120
  · have := List.all_eq_true.mp chkK_11 (k - 110) (List.mem_range.mpr (by omega))
    rwa [show k - 110 + 110 = k by omega] at this
  by_cases h12 : k < 130
  · have := List.all_eq_true.mp chkK_12 (k - 120) (List.mem_range.mpr (by omega))
    rwa [show k - 120 + 120 = k by omega] at this
  by_cases h13 : k < 140
  · have := List.all_eq_true.mp chkK_13 (k - 130) (List.mem_range.mpr (by omega))
    rwa [show k - 130 + 130 = k by omega] at this
  by_cases h14 : k < 149
  · have := List.all_eq_true.mp chkK_14 (k - 140) (List.mem_range.mpr (by omega))
    rwa [show k - 140 + 140 = k by omega] at this
  omega
