/-! bits of natural numbers, as the machine has them -/
theorem bn_and (a b : Nat) : nI a &&& nI b = nI (a &&& b) := by
  apply Int32.toBitVec_inj.1
  show BitVec.ofNat 32 a &&& BitVec.ofNat 32 b = BitVec.ofNat 32 (a &&& b)
  apply BitVec.eq_of_getLsbD_eq
  intro i hi
  simp [hi, Nat.testBit_and]
theorem bn_or (a b : Nat) : nI a ||| nI b = nI (a ||| b) := by
  apply Int32.toBitVec_inj.1
  show BitVec.ofNat 32 a ||| BitVec.ofNat 32 b = BitVec.ofNat 32 (a ||| b)
  apply BitVec.eq_of_getLsbD_eq
  intro i hi
  simp [hi, Nat.testBit_or]
theorem bn_xor (a b : Nat) : nI a ^^^ nI b = nI (a ^^^ b) := by
  apply Int32.toBitVec_inj.1
  show BitVec.ofNat 32 a ^^^ BitVec.ofNat 32 b = BitVec.ofNat 32 (a ^^^ b)
  apply BitVec.eq_of_getLsbD_eq
  intro i hi
  simp [hi, Nat.testBit_xor]
/-- the bits of m that n doesn't have -/
def andN (m n : Nat) : Nat := m ^^^ (m &&& n)
theorem andN_bit (m n i : Nat) : (andN m n).testBit i = (m.testBit i && !n.testBit i) := by
  unfold andN
  rw [Nat.testBit_xor, Nat.testBit_and]
  cases m.testBit i <;> cases n.testBit i <;> rfl
theorem lt_of_bits {a n : Nat} (h : ∀ i, n ≤ i → a.testBit i = false) : a < 2 ^ n := Nat.lt_pow_two_of_testBit a (fun i hi => h i hi)
theorem bit_out {a n i : Nat} (h : a < 2 ^ n) (hi : n ≤ i) : a.testBit i = false := Nat.testBit_lt_two_pow (Nat.lt_of_lt_of_le h (Nat.pow_le_pow_right (by decide) hi))
theorem andN_lt {m n k : Nat} (h : m < 2 ^ k) : andN m n < 2 ^ k := lt_of_bits (fun i hi => by rw [andN_bit, bit_out h hi]; rfl)
theorem and_lt2 {m n k : Nat} (h : m < 2 ^ k) : m &&& n < 2 ^ k := lt_of_bits (fun i hi => by rw [Nat.testBit_and, bit_out h hi]; rfl)
theorem or_lt2 {m n k : Nat} (h : m < 2 ^ k) (h2 : n < 2 ^ k) : m ||| n < 2 ^ k := lt_of_bits (fun i hi => by rw [Nat.testBit_or, bit_out h hi, bit_out h2 hi]; rfl)
theorem xor_lt2 {m n k : Nat} (h : m < 2 ^ k) (h2 : n < 2 ^ k) : m ^^^ n < 2 ^ k := lt_of_bits (fun i hi => by rw [Nat.testBit_xor, bit_out h hi, bit_out h2 hi]; rfl)
theorem bn_not (n : Nat) : Int32.ofInt (-1 - (n : Int)) = nI n ^^^ (-1) := by
  have e : Int32.ofInt (-1 - (n : Int)) = -1 - nI n := by rw [Int32.ofInt_sub]; rfl
  rw [e]
  apply Int32.toBitVec_inj.1
  show BitVec.ofInt 32 (-1) - BitVec.ofNat 32 n = BitVec.ofNat 32 n ^^^ BitVec.ofInt 32 (-1)
  have h1 : BitVec.ofInt 32 (-1) = BitVec.allOnes 32 := by decide
  rw [h1, BitVec.xor_allOnes, BitVec.allOnes_sub_eq_not]
theorem bn_andN (m n : Nat) : nI m &&& (nI n ^^^ (-1)) = nI (andN m n) := by
  rw [show nI (andN m n) = nI m ^^^ (nI m &&& nI n) from by rw [bn_and, bn_xor]; rfl]
  generalize nI m = u
  generalize nI n = v
  apply Int32.toBitVec_inj.1
  show u.toBitVec &&& (v.toBitVec ^^^ BitVec.ofInt 32 (-1)) = u.toBitVec ^^^ (u.toBitVec &&& v.toBitVec)
  have h1 : BitVec.ofInt 32 (-1) = BitVec.allOnes 32 := by decide
  rw [h1, BitVec.xor_allOnes]
  generalize u.toBitVec = p
  generalize v.toBitVec = q
  apply BitVec.eq_of_getLsbD_eq
  intro i hi
  simp [hi]
  cases p[i] <;> cases q[i] <;> rfl
theorem shl_c : ∀ n, n < 32 → ((nI n &&& 31).toBitVec.smod 32).toNat = n := by decide +kernel
section WB
variable {d k pc pc' a b c w : Nat} {ls ls' : LoA} {st st' : List AV} {G : GT} {M M' : MT} {Q Q' : Option AV → MT → Prop}
theorem wq_and {m n : Nat} (pc' : Nat) (hp : pc + 1 = pc') (hc : cd k pc = some (.iand, 1, a, b, c, w)) (hm : m < 2147483648) (h : Wq d k pc' ls (vI ((m &&& n : Nat) : Int) :: st) G M Q) : Wq d k pc ls (vI (n : Int) :: vI (m : Int) :: st) G M Q := by
  subst hp
  refine wq_s _ (stp_of hc rfl rfl ?_) h
  show some (pc + 1, ls, vI (b32 (fun x y => x &&& y) m n) :: st, _) = _
  rw [show b32 (fun x y => x &&& y) (m : Int) (n : Int) = ((m &&& n : Nat) : Int) from by
    show (nI m &&& nI n).toInt = _
    rw [bn_and, nI_toInt (and_lt2 (k := 31) hm)]]
theorem wq_or {m n : Nat} (pc' : Nat) (hp : pc + 1 = pc') (hc : cd k pc = some (.ior, 1, a, b, c, w)) (hm : m < 2147483648) (hn : n < 2147483648) (h : Wq d k pc' ls (vI ((m ||| n : Nat) : Int) :: st) G M Q) : Wq d k pc ls (vI (n : Int) :: vI (m : Int) :: st) G M Q := by
  subst hp
  refine wq_s _ (stp_of hc rfl rfl ?_) h
  show some (pc + 1, ls, vI (b32 (fun x y => x ||| y) m n) :: st, _) = _
  rw [show b32 (fun x y => x ||| y) (m : Int) (n : Int) = ((m ||| n : Nat) : Int) from by
    show (nI m ||| nI n).toInt = _
    rw [bn_or, nI_toInt (or_lt2 (k := 31) hm hn)]]
theorem wq_xor {m n : Nat} (pc' : Nat) (hp : pc + 1 = pc') (hc : cd k pc = some (.ixor, 1, a, b, c, w)) (hm : m < 2147483648) (hn : n < 2147483648) (h : Wq d k pc' ls (vI ((m ^^^ n : Nat) : Int) :: st) G M Q) : Wq d k pc ls (vI (n : Int) :: vI (m : Int) :: st) G M Q := by
  subst hp
  refine wq_s _ (stp_of hc rfl rfl ?_) h
  show some (pc + 1, ls, vI (b32 (fun x y => x ^^^ y) m n) :: st, _) = _
  rw [show b32 (fun x y => x ^^^ y) (m : Int) (n : Int) = ((m ^^^ n : Nat) : Int) from by
    show (nI m ^^^ nI n).toInt = _
    rw [bn_xor, nI_toInt (xor_lt2 (k := 31) hm hn)]]
theorem wq_not {n : Nat} (pc' : Nat) (hp : pc + 1 = pc') (hc : cd k pc = some (.ixor, 1, a, b, c, w)) (hn : n < 2147483648) (h : Wq d k pc' ls (vI (-1 - (n : Int)) :: st) G M Q) : Wq d k pc ls (vI (-1) :: vI (n : Int) :: st) G M Q := by
  subst hp
  refine wq_s _ (stp_of hc rfl rfl ?_) h
  show some (pc + 1, ls, vI (b32 (fun x y => x ^^^ y) n (-1)) :: st, _) = _
  rw [show b32 (fun x y => x ^^^ y) (n : Int) (-1) = -1 - (n : Int) from by
    show (nI n ^^^ (-1)).toInt = _
    rw [← bn_not]
    exact w32_id ⟨by omega, by omega⟩]
theorem wq_andn {m n : Nat} (pc' : Nat) (hp : pc + 1 = pc') (hc : cd k pc = some (.iand, 1, a, b, c, w)) (hm : m < 2147483648) (h : Wq d k pc' ls (vI ((andN m n : Nat) : Int) :: st) G M Q) : Wq d k pc ls (vI (-1 - (n : Int)) :: vI (m : Int) :: st) G M Q := by
  subst hp
  refine wq_s _ (stp_of hc rfl rfl ?_) h
  show some (pc + 1, ls, vI (b32 (fun x y => x &&& y) m (-1 - (n : Int))) :: st, _) = _
  rw [show b32 (fun x y => x &&& y) (m : Int) (-1 - (n : Int)) = ((andN m n : Nat) : Int) from by
    unfold b32
    dsimp only
    rw [bn_not]
    show (nI m &&& (nI n ^^^ (-1))).toInt = _
    rw [bn_andN, nI_toInt (andN_lt (k := 31) hm)]]
theorem wq_shl {m n : Nat} (pc' : Nat) (hp : pc + 1 = pc') (hc : cd k pc = some (.ishl, 1, a, b, c, w)) (hn : n < 32) (hm : m * 2 ^ n < 2147483648) (h : Wq d k pc' ls (vI ((m * 2 ^ n : Nat) : Int) :: st) G M Q) : Wq d k pc ls (vI (n : Int) :: vI (m : Int) :: st) G M Q := by
  subst hp
  refine wq_s _ (stp_of hc rfl rfl ?_) h
  show some (pc + 1, ls, vI (b32 (fun x y => x <<< (y &&& 31)) m n) :: st, _) = _
  rw [show b32 (fun x y => x <<< (y &&& 31)) (m : Int) (n : Int) = ((m * 2 ^ n : Nat) : Int) from by
    show (nI m <<< (nI n &&& 31)).toInt = _
    rw [pk_shlN _ n (shl_c n hn) (by omega), nI_toInt hm]]
theorem wq_shr {m n : Nat} (pc' : Nat) (hp : pc + 1 = pc') (hc : cd k pc = some (.ishr, 1, a, b, c, w)) (hn : n < 32) (hm : m < 2147483648) (h : Wq d k pc' ls (vI ((m / 2 ^ n : Nat) : Int) :: st) G M Q) : Wq d k pc ls (vI (n : Int) :: vI (m : Int) :: st) G M Q := by
  subst hp
  refine wq_s _ (stp_of hc rfl rfl ?_) h
  show some (pc + 1, ls, vI (b32 (fun x y => x >>> (y &&& 31)) m n) :: st, _) = _
  rw [show b32 (fun x y => x >>> (y &&& 31)) (m : Int) (n : Int) = ((m / 2 ^ n : Nat) : Int) from by
    show (nI m >>> (nI n &&& 31)).toInt = _
    rw [pk_shrN hm _ n (shl_c n hn), nI_toInt (Nat.lt_of_le_of_lt (Nat.div_le_self _ _) hm)]]
end WB
