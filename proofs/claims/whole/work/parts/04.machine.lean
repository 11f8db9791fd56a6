/-! THE ABSTRACT MACHINE: ints are Int (read modulo 2^32), a heap is (cells, slots made, what each cell is, what its numbers are); the first EXN cells are arrays that were there before. -/
abbrev AV : Type := (Int ⊕ Int) ⊕ Option Nat
abbrev vI (i : Int) : AV := .inl (.inl i)
abbrev vL (i : Int) : AV := .inl (.inr i)
abbrev vR (k : Nat) : AV := .inr (some k)
def w32 (z : Int) : Int := (Int32.ofInt z).toInt
def w64 (z : Int) : Int := (Int64.ofInt z).toInt
def b32 (f : Int32 → Int32 → Int32) (x y : Int) : Int := (f (Int32.ofInt x) (Int32.ofInt y)).toInt
def b64 (f : Int64 → Int64 → Int64) (x y : Int) : Int := (f (Int64.ofInt x) (Int64.ofInt y)).toInt
def c64 (f : Int64 → Int64 → Int64) (x y : Int) : Int := (f (Int64.ofInt x) ((Int32.ofInt y).toInt64 &&& 63)).toInt
abbrev LK : Type := (Bool × Nat) ⊕ (Nat × List (Option (Option Nat)))
abbrev HP : Type := Nat × Nat × (Nat → LK) × (Nat → Int → Int)
abbrev LoA : Type := List (Option AV)
abbrev SA : Type := Nat × LoA × List AV × HP
def up2 (M : Nat → Int → Int) (k : Nat) (i v : Int) : Nat → Int → Int := fun a j => if a = k ∧ j = i then v else M a j
def upM (M : Nat → Int → Int) (k : Nat) : Nat → Int → Int := fun a j => if a = k then 0 else M a j
def upT (T : Nat → LK) (k : Nat) (c : LK) : Nat → LK := fun a => if a = k then c else T a
def opI2 (st : List AV) (f : Int → Int → Int) : Option (List AV) := match st with
  | .inl (.inl y) :: .inl (.inl x) :: t => some (vI (f x y) :: t)
  | _ => none
def opL2 (st : List AV) (f : Int → Int → Int) : Option (List AV) := match st with
  | .inl (.inr y) :: .inl (.inr x) :: t => some (vL (f x y) :: t)
  | _ => none
def opLI (st : List AV) (f : Int → Int → Int) : Option (List AV) := match st with
  | .inl (.inl y) :: .inl (.inr x) :: t => some (vL (f x y) :: t)
  | _ => none
def goA (pc : Nat) (ls : LoA) (h : HP) (o : Option (List AV)) : Option SA := match o with
  | some st => some (pc, ls, st, h)
  | none => none
def ldI (ls : LoA) (i : Nat) (st : List AV) : Option (List AV) := match ls[i]? with
  | some (some (.inl (.inl x))) => some (vI x :: st)
  | _ => none
def ldR (ls : LoA) (i : Nat) (st : List AV) : Option (List AV) := match ls[i]? with
  | some (some (.inr (some k))) => some (vR k :: st)
  | _ => none
def stI (pc : Nat) (ls : LoA) (i : Nat) (st : List AV) (h : HP) : Option SA := match st with
  | .inl (.inl x) :: t => if i < ls.length then some (pc, ls.set i (some (vI x)), t, h) else none
  | _ => none
def stR (pc : Nat) (ls : LoA) (i : Nat) (st : List AV) (h : HP) : Option SA := match st with
  | .inr (some k) :: t => if i < ls.length then some (pc, ls.set i (some (vR k)), t, h) else none
  | _ => none
def jmpA (pc : Nat) (off : Int) (ls : LoA) (st : List AV) (h : HP) : Option SA := if 0 ≤ (pc : Int) + off then some (((pc : Int) + off).toNat, ls, st, h) else none
def brA (q : Bool) (pc : Nat) (off : Int) (ls : LoA) (st : List AV) (h : HP) : Option SA := if 0 ≤ (pc : Int) + off then (if q = true then some (((pc : Int) + off).toNat, ls, st, h) else some (pc + 3, ls, st, h)) else none
def cmpA (c : Jvm.ClassFile.Cond) (x y : Int) : Bool := match c with
  | .eq => decide (x = y)
  | .ne => decide (x ≠ y)
  | .lt => decide (x < y)
  | .ge => decide (y ≤ x)
  | .gt => decide (y < x)
  | .le => decide (x ≤ y)
def aldA (lg : Bool) (pc : Nat) (ls : LoA) (st : List AV) (h : HP) : Option SA := match st with
  | .inl (.inl i) :: .inr (some k) :: t => if k < h.1 then (match h.2.2.1 k with
    | .inl (l, n) => if l = lg ∧ 0 ≤ i ∧ i < n ∧ n ≤ 2147483647 then some (pc, ls, (if lg then vL (h.2.2.2 k i) else vI (h.2.2.2 k i)) :: t, h) else none
    | _ => none) else none
  | _ => none
def astA (pc : Nat) (ls : LoA) (st : List AV) (h : HP) (lg : Bool) : Option SA := match st with
  | .inl v :: .inl (.inl i) :: .inr (some k) :: t => if EXN ≤ k ∧ k < h.1 then (match h.2.2.1 k, v with
    | .inl (false, n), .inl x => if lg = false ∧ 0 ≤ i ∧ i < n ∧ n ≤ 2147483647 then some (pc, ls, t, (h.1, h.2.1, h.2.2.1, up2 h.2.2.2 k i x)) else none
    | .inl (true, n), .inr x => if lg = true ∧ 0 ≤ i ∧ i < n ∧ n ≤ 2147483647 then some (pc, ls, t, (h.1, h.2.1, h.2.2.1, up2 h.2.2.2 k i x)) else none
    | _, _ => none) else none
  | _ => none
def alenA (pc : Nat) (ls : LoA) (st : List AV) (h : HP) : Option SA := match st with
  | .inr (some k) :: t => if k < h.1 then (match h.2.2.1 k with
    | .inl (_, n) => if n ≤ 2147483647 then some (pc, ls, vI n :: t, h) else none
    | _ => none) else none
  | _ => none
def getA (a b pc : Nat) (ls : LoA) (st : List AV) (h : HP) : Option SA := match st with
  | .inr (some k) :: t => if EXN ≤ k ∧ k < h.1 then (match h.2.2.1 k with
    | .inr (ci, fs) => if ci = a then (match fs[b]? with
      | some none => some (pc, ls, vI (h.2.2.2 k b) :: t, h)
      | some (some r) => some (pc, ls, .inr r :: t, h)
      | none => none) else none
    | _ => none) else none
  | _ => none
def putA (ini : Bool) (a b c pc : Nat) (ls : LoA) (st : List AV) (h : HP) : Option SA := match st with
  | v :: .inr (some k) :: t => if EXN ≤ k ∧ k < h.1 ∧ (4 ≤ c → ini = true) then (match h.2.2.1 k with
    | .inr (ci, fs) => if ci = a then (match fs[b]?, v with
      | some none, .inl (.inl x) => if c % 4 = 0 ∨ (c % 4 = 1 ∧ (x = 0 ∨ x = 1)) then some (pc, ls, t, (h.1, h.2.1, h.2.2.1, up2 h.2.2.2 k b x)) else none
      | some (some _), .inr r => if c % 4 = 2 then some (pc, ls, t, (h.1, h.2.1, upT h.2.2.1 k (.inr (ci, fs.set b (some r))), h.2.2.2)) else none
      | _, _ => none) else none
    | _ => none) else none
  | _ => none
def newA (pc : Nat) (ls : LoA) (st : List AV) (h : HP) (c : LK) (z : Nat) : Option SA :=
  some (pc, ls, vR h.1 :: st, (h.1 + 1, h.2.1 + z, upT h.2.2.1 h.1 c, upM h.2.2.2 h.1))
def simpA (dp ini : Bool) (i : Jvm.ClassFile.Instr) (a b c pc : Nat) (ls : LoA) (st : List AV) (h : HP) : Option SA := match i with
  | .aload_n j => goA (pc + 1) ls h (ldR ls j.val st)
  | .aload j => goA (pc + 2) ls h (ldR ls j st)
  | .iload_n j => goA (pc + 1) ls h (ldI ls j.val st)
  | .iload j => goA (pc + 2) ls h (ldI ls j st)
  | .istore_n j => stI (pc + 1) ls j.val st h
  | .istore j => stI (pc + 2) ls j st h
  | .astore_n j => stR (pc + 1) ls j.val st h
  | .astore j => stR (pc + 2) ls j st h
  | .iinc j d => (match ls[j]? with
    | some (some (.inl (.inl x))) => some (pc + 3, ls.set j (some (vI (w32 (x + d)))), st, h)
    | _ => none)
  | .iconst d => some (pc + 1, ls, vI d :: st, h)
  | .bipush d => if -128 ≤ d ∧ d < 128 then some (pc + 2, ls, vI d :: st, h) else none
  | .sipush d => if -32768 ≤ d ∧ d < 32768 then some (pc + 3, ls, vI d :: st, h) else none
  | .ldc _ => some (pc + 2, ls, vI a :: st, h)
  | .ldc_w _ => some (pc + 3, ls, vI a :: st, h)
  | .lconst j => some (pc + 1, ls, vL j.val :: st, h)
  | .iadd => goA (pc + 1) ls h (opI2 st (fun x y => w32 (x + y)))
  | .isub => goA (pc + 1) ls h (opI2 st (fun x y => w32 (x - y)))
  | .imul => goA (pc + 1) ls h (opI2 st (fun x y => w32 (x * y)))
  | .iand => goA (pc + 1) ls h (opI2 st (b32 (fun x y => x &&& y)))
  | .ior => goA (pc + 1) ls h (opI2 st (b32 (fun x y => x ||| y)))
  | .ixor => goA (pc + 1) ls h (opI2 st (b32 (fun x y => x ^^^ y)))
  | .ishl => goA (pc + 1) ls h (opI2 st (b32 (fun x y => x <<< (y &&& 31))))
  | .ishr => goA (pc + 1) ls h (opI2 st (b32 (fun x y => x >>> (y &&& 31))))
  | .iushr => goA (pc + 1) ls h (opI2 st (b32 (fun x y => (x.toUInt32 >>> (y.toUInt32 &&& Int32.toUInt32 31)).toInt32)))
  | .idiv => (match st with
    | .inl (.inl y) :: .inl (.inl x) :: t => if w32 y = 0 then none else some (pc + 1, ls, vI (b32 (fun x y => x / y) x y) :: t, h)
    | _ => none)
  | .irem => (match st with
    | .inl (.inl y) :: .inl (.inl x) :: t => if w32 y = 0 then none else some (pc + 1, ls, vI (b32 (fun x y => x - x / y * y) x y) :: t, h)
    | _ => none)
  | .ineg => (match st with
    | .inl (.inl x) :: t => some (pc + 1, ls, vI (w32 (-x)) :: t, h)
    | _ => none)
  | .land => goA (pc + 1) ls h (opL2 st (b64 (fun x y => x &&& y)))
  | .lor => goA (pc + 1) ls h (opL2 st (b64 (fun x y => x ||| y)))
  | .lshl => goA (pc + 1) ls h (opLI st (c64 (fun x y => x <<< y)))
  | .lshr => goA (pc + 1) ls h (opLI st (c64 (fun x y => x >>> y)))
  | .lcmp => (match st with
    | .inl (.inr y) :: .inl (.inr x) :: t => some (pc + 1, ls, vI (if w64 x < w64 y then -1 else if w64 x = w64 y then 0 else 1) :: t, h)
    | _ => none)
  | .dup => (match st with
    | .inl (.inl x) :: t => some (pc + 1, ls, vI x :: vI x :: t, h)
    | .inr x :: t => some (pc + 1, ls, .inr x :: .inr x :: t, h)
    | _ => none)
  | .dup2 => (match st with
    | .inl (.inl x) :: .inr y :: t => some (pc + 1, ls, vI x :: .inr y :: vI x :: .inr y :: t, h)
    | _ => none)
  | .if_icmp cc off => (match st with
    | .inl (.inl y) :: .inl (.inl x) :: t => brA (cmpA cc (w32 x) (w32 y)) pc off ls t h
    | _ => none)
  | .ifCond cc off => (match st with
    | .inl (.inl x) :: t => brA (cmpA cc (w32 x) 0) pc off ls t h
    | _ => none)
  | .goto off => jmpA pc off ls st h
  | .tableswitch d lo hi offs => (match st with
    | .inl (.inl x) :: t => if w32 x < lo ∨ hi < w32 x then jmpA pc d ls t h else (match offs[(w32 x - lo).toNat]? with
      | some off => jmpA pc off ls t h
      | none => none)
    | _ => none)
  | .getfield _ => getA a b (pc + 3) ls st h
  | .putfield _ => putA ini a b c (pc + 3) ls st h
  | .iaload => aldA false (pc + 1) ls st h
  | .laload => aldA true (pc + 1) ls st h
  | .iastore => astA (pc + 1) ls st h false
  | .lastore => astA (pc + 1) ls st h true
  | .arraylength => alenA (pc + 1) ls st h
  | .newarray t => (match st with
    | .inl (.inl x) :: r => if 0 ≤ x ∧ x ≤ 67108864 then (match t with
      | .int => newA (pc + 2) ls r h (.inl (false, x.toNat)) x.toNat
      | .long => newA (pc + 2) ls r h (.inl (true, x.toNat)) x.toNat
      | _ => none) else none
    | _ => none)
  | .new _ => newA (pc + 3) ls st h (.inr (a, nfl.getD a [])) b
  | .getstatic _ => some (pc + 3, ls, vR a :: st, h)
  | .invokespecial _ => if a = 9999 ∧ dp = true then (match st with
    | .inr (some _) :: t => if t.length ≤ 4 then some (pc + 3, ls, t, h) else none
    | _ => none) else none
  | .invokestatic _ => if a = 9998 ∧ dp = true then (match st with
    | .inl (.inl y) :: .inl (.inl x) :: t => if t.length ≤ 4 then some (pc + 3, ls, vI (if w32 x < w32 y then y else x) :: t, h) else none
    | _ => none) else none
  | _ => none
def callA (i : Jvm.ClassFile.Instr) (a b : Nat) (st : List AV) (h : HP) : Option (Nat × List AV × List AV) := match i with
  | .invokevirtual _ => (match st.drop b with
    | .inr (some r) :: rest => if (st.take b).length = b ∧ rest.length ≤ 4 ∧ EXN ≤ r ∧ r < h.1 then (match h.2.2.1 r with
      | .inr (ci, _) => if ci = (mt a).2.2.2.2.2.2 then some (a, vR r :: (st.take b).reverse, rest) else none
      | _ => none) else none
    | _ => none)
  | .invokestatic _ => if a = 9998 then none else if (st.take b).length = b ∧ (st.drop b).length ≤ 4 then some (a, (st.take b).reverse, st.drop b) else none
  | .invokespecial _ => if a = 9999 then none else (match st.drop b with
    | .inr (some r) :: rest => if (st.take b).length = b ∧ rest.length ≤ 4 then some (a, vR r :: (st.take b).reverse, rest) else none
    | _ => none)
  | _ => none
def retA (rt : Option FieldType) (i : Jvm.ClassFile.Instr) (st : List AV) : Option (Option AV) := match i, st with
  | .ireturn, [.inl (.inl x)] => (match rt with
    | some .int => some (some (vI x))
    | some .boolean => if x = 0 ∨ x = 1 then some (some (vI x)) else none
    | _ => none)
  | .return_, [] => (match rt with
    | none => some none
    | _ => none)
  | _, _ => none
def stepA (d k pc : Nat) (ls : LoA) (st : List AV) (h : HP) : Option (SA ⊕ ((Nat × List AV × List AV) ⊕ Option AV)) := match cd k pc with
  | none => none
  | some (i, _, a, b, c, _) => (match retA (mt k).2.2.2.1 i st with
    | some r => some (.inr (.inr r))
    | none => (match callA i a b st h with
      | some q => some (.inr (.inl q))
      | none => (match simpA (decide (0 < d)) (decide ((mt k).2.2.2.2.2.1 = 2 ∧ (mt k).2.2.2.2.2.2 = a)) i a b c pc ls st h with
        | some q => some (.inl q)
        | none => none)))
def entA (k : Nat) (as : List AV) : LoA := as.map some ++ List.replicate ((mt k).2.2.1 - as.length) none
def nLg : AV → Bool
  | .inl (.inr _) => false
  | _ => true
def runA : Nat → Nat → Nat → Nat → LoA → List AV → HP → Option (Option AV × HP)
  | 0, _, _, _, _, _, _ => none
  | f + 1, d, k, pc, ls, st, h => (match stepA d k pc ls st h with
    | none => none
    | some (.inl (pc', ls', st', h')) => runA f d k pc' ls' st' h'
    | some (.inr (.inr r)) => some (r, h)
    | some (.inr (.inl (k', as, rest))) => (match d with
      | 0 => none
      | d' + 1 => (match (if as.all nLg = true ∧ as.length ≤ (mt k').2.2.1 then runA f d' k' 0 (entA k' as) [] h else none) with
        | none => none
        | some (r, h') => runA f (d' + 1) k (pc + 3) ls (r.toList ++ rest) h')))
