/-! rows with the result named; rows for longs -/
section WE
variable {d k pc pc' a b c w : Nat} {ls ls' : LoA} {st st' : List AV} {G : GT} {M M' : MT} {Q Q' : Option AV → MT → Prop}
theorem we_add {u v : Int} (z : Int) (pc' : Nat) (hp : pc + 1 = pc') (hc : cd k pc = some (.iadd, 1, a, b, c, w)) (hz : u + v = z) (hr : R32 z) (h : Wq d k pc' ls (vI z :: st) G M Q) : Wq d k pc ls (vI v :: vI u :: st) G M Q := by
  subst hz
  exact wq_add pc' hp hc hr h
theorem we_sub {u v : Int} (z : Int) (pc' : Nat) (hp : pc + 1 = pc') (hc : cd k pc = some (.isub, 1, a, b, c, w)) (hz : u - v = z) (hr : R32 z) (h : Wq d k pc' ls (vI z :: st) G M Q) : Wq d k pc ls (vI v :: vI u :: st) G M Q := by
  subst hz
  exact wq_sub pc' hp hc hr h
theorem we_mul {u v : Int} (z : Int) (pc' : Nat) (hp : pc + 1 = pc') (hc : cd k pc = some (.imul, 1, a, b, c, w)) (hz : u * v = z) (hr : R32 z) (h : Wq d k pc' ls (vI z :: st) G M Q) : Wq d k pc ls (vI v :: vI u :: st) G M Q := by
  subst hz
  exact wq_mul pc' hp hc hr h
theorem we_div {u v : Int} (z : Int) (pc' : Nat) (hp : pc + 1 = pc') (hc : cd k pc = some (.idiv, 1, a, b, c, w)) (hu : 0 ≤ u ∧ u < 2147483648) (hv : 0 < v ∧ v < 2147483648) (hz : u / v = z) (h : Wq d k pc' ls (vI z :: st) G M Q) : Wq d k pc ls (vI v :: vI u :: st) G M Q := by
  subst hz
  exact wq_div pc' hp hc hu.1 hu.2 hv.1 hv.2 h
theorem we_rem {u v : Int} (z : Int) (pc' : Nat) (hp : pc + 1 = pc') (hc : cd k pc = some (.irem, 1, a, b, c, w)) (hu : 0 ≤ u ∧ u < 2147483648) (hv : 0 < v ∧ v < 2147483648) (hz : u % v = z) (h : Wq d k pc' ls (vI z :: st) G M Q) : Wq d k pc ls (vI v :: vI u :: st) G M Q := by
  subst hz
  exact wq_rem pc' hp hc hu.1 hu.2 hv.1 hv.2 h
theorem we_inc {u : Int} (j : Nat) (n : Int) (z : Int) (pc' : Nat) (ls' : LoA) (hp : pc + 3 = pc') (hc : cd k pc = some (.iinc j n, 3, a, b, c, w)) (hl : ls[j]? = some (some (vI u))) (hz : u + n = z) (hr : R32 z) (hs : ls.set j (some (vI z)) = ls') (h : Wq d k pc' ls' st G M Q) : Wq d k pc ls st G M Q := by
  subst hz
  exact wq_inc pc' ls' hp hc hl hr hs h
theorem we_and {u v : Int} (m n z : Nat) (pc' : Nat) (hp : pc + 1 = pc') (hc : cd k pc = some (.iand, 1, a, b, c, w)) (hu : u = (m : Int)) (hv : v = (n : Int)) (hm : m < 2147483648) (hz : m &&& n = z) (h : Wq d k pc' ls (vI (z : Int) :: st) G M Q) : Wq d k pc ls (vI v :: vI u :: st) G M Q := by
  subst hz hu hv
  exact wq_and pc' hp hc hm h
theorem we_or {u v : Int} (m n z : Nat) (pc' : Nat) (hp : pc + 1 = pc') (hc : cd k pc = some (.ior, 1, a, b, c, w)) (hu : u = (m : Int)) (hv : v = (n : Int)) (hm : m < 2147483648) (hn : n < 2147483648) (hz : m ||| n = z) (h : Wq d k pc' ls (vI (z : Int) :: st) G M Q) : Wq d k pc ls (vI v :: vI u :: st) G M Q := by
  subst hz hu hv
  exact wq_or pc' hp hc hm hn h
theorem we_xor {u v : Int} (m n z : Nat) (pc' : Nat) (hp : pc + 1 = pc') (hc : cd k pc = some (.ixor, 1, a, b, c, w)) (hu : u = (m : Int)) (hv : v = (n : Int)) (hm : m < 2147483648) (hn : n < 2147483648) (hz : m ^^^ n = z) (h : Wq d k pc' ls (vI (z : Int) :: st) G M Q) : Wq d k pc ls (vI v :: vI u :: st) G M Q := by
  subst hz hu hv
  exact wq_xor pc' hp hc hm hn h
theorem we_not {u : Int} (n : Nat) (pc' : Nat) (hp : pc + 1 = pc') (hc : cd k pc = some (.ixor, 1, a, b, c, w)) (hu : u = (n : Int)) (hn : n < 2147483648) (h : Wq d k pc' ls (vI (-1 - (n : Int)) :: st) G M Q) : Wq d k pc ls (vI (-1) :: vI u :: st) G M Q := by
  subst hu
  exact wq_not pc' hp hc hn h
theorem we_andn {u : Int} (m n z : Nat) (pc' : Nat) (hp : pc + 1 = pc') (hc : cd k pc = some (.iand, 1, a, b, c, w)) (hu : u = (m : Int)) (hm : m < 2147483648) (hz : andN m n = z) (h : Wq d k pc' ls (vI (z : Int) :: st) G M Q) : Wq d k pc ls (vI (-1 - (n : Int)) :: vI u :: st) G M Q := by
  subst hz hu
  exact wq_andn pc' hp hc hm h
theorem we_shl {u v : Int} (m n z : Nat) (pc' : Nat) (hp : pc + 1 = pc') (hc : cd k pc = some (.ishl, 1, a, b, c, w)) (hu : u = (m : Int)) (hv : v = (n : Int)) (hn : n < 32) (hz : m * 2 ^ n = z) (hm : z < 2147483648) (h : Wq d k pc' ls (vI (z : Int) :: st) G M Q) : Wq d k pc ls (vI v :: vI u :: st) G M Q := by
  subst hz hu hv
  exact wq_shl pc' hp hc hn hm h
theorem we_shr {u v : Int} (m n z : Nat) (pc' : Nat) (hp : pc + 1 = pc') (hc : cd k pc = some (.ishr, 1, a, b, c, w)) (hu : u = (m : Int)) (hv : v = (n : Int)) (hn : n < 32) (hm : m < 2147483648) (hz : m / 2 ^ n = z) (h : Wq d k pc' ls (vI (z : Int) :: st) G M Q) : Wq d k pc ls (vI v :: vI u :: st) G M Q := by
  subst hz hu hv
  exact wq_shr pc' hp hc hn hm h
theorem wq_lald {q n : Nat} {i v : Int} (pc' : Nat) (hp : pc + 1 = pc') (hc : cd k pc = some (.laload, 1, a, b, c, w)) (hq : q < G.1) (hT : G.2.2 q = .inl (true, n)) (h0 : 0 ≤ i) (h1 : i < n) (h2 : n ≤ 2147483647) (hv : M q i = v) (h : Wq d k pc' ls (vL v :: st) G M Q) : Wq d k pc ls (vI i :: vR q :: st) G M Q := by
  subst hp
  subst hv
  refine wq_s _ (stp_of hc rfl rfl ?_) h
  show aldA true (pc + 1) ls (vI i :: vR q :: st) (G.1, G.2.1, G.2.2, M) = _
  unfold aldA
  dsimp only
  rw [if_pos hq, hT]
  dsimp only
  rw [if_pos ⟨rfl, h0, h1, h2⟩, if_pos rfl]
theorem wq_last {q n : Nat} {i v : Int} (pc' : Nat) (hp : pc + 1 = pc') (hc : cd k pc = some (.lastore, 1, a, b, c, w)) (hq : EXN ≤ q ∧ q < G.1) (hT : G.2.2 q = .inl (true, n)) (h0 : 0 ≤ i) (h1 : i < n) (h2 : n ≤ 2147483647) (h : Wq d k pc' ls st G (up2 M q i v) Q) : Wq d k pc ls (vL v :: vI i :: vR q :: st) G M Q := by
  subst hp
  refine wq_s _ (stp_of hc rfl rfl ?_) h
  show astA (pc + 1) ls (vL v :: vI i :: vR q :: st) (G.1, G.2.1, G.2.2, M) true = _
  unfold astA
  dsimp only
  rw [if_pos hq, hT]
  dsimp only
  rw [if_pos ⟨rfl, h0, h1, h2⟩]
end WE
/-- a bit of a long -/
def lbit (z : Int) (j : Nat) : Bool := (Int64.ofInt z).toBitVec.getLsbD j
theorem lb_ofInt (x : Int64) : Int64.ofInt x.toInt = x := Int64.ofInt_toInt x
theorem lbit_or (u v : Int) (j : Nat) : lbit (b64 (fun x y => x ||| y) u v) j = (lbit u j || lbit v j) := by
  unfold lbit b64
  dsimp only
  rw [lb_ofInt]
  show ((Int64.ofInt u).toBitVec ||| (Int64.ofInt v).toBitVec).getLsbD j = _
  rw [BitVec.getLsbD_or]
theorem lbit_and (u v : Int) (j : Nat) : lbit (b64 (fun x y => x &&& y) u v) j = (lbit u j && lbit v j) := by
  unfold lbit b64
  dsimp only
  rw [lb_ofInt]
  show ((Int64.ofInt u).toBitVec &&& (Int64.ofInt v).toBitVec).getLsbD j = _
  rw [BitVec.getLsbD_and]
theorem lbit_0 (j : Nat) : lbit 0 j = false := by
  unfold lbit
  show (BitVec.ofInt 64 0).getLsbD j = false
  have h : BitVec.ofInt 64 0 = 0#64 := by decide
  rw [h, BitVec.getLsbD_zero]
theorem sh64 : ∀ n : Fin 64, (((Int32.ofInt ((n.val : Nat) : Int)).toInt64 &&& 63).toBitVec.smod 64).toNat = n.val := by decide +kernel
theorem lbit_shl1 {n : Nat} (hn : n < 64) (j : Nat) : lbit (c64 (fun x y => x <<< y) 1 (n : Int)) j = decide (j = n) := by
  unfold lbit c64
  dsimp only
  rw [lb_ofInt]
  show ((Int64.ofInt 1).toBitVec <<< ((((Int32.ofInt (n : Int)).toInt64 &&& 63)).toBitVec.smod 64)).getLsbD j = _
  rw [show (Int64.ofInt 1).toBitVec = 1#64 from by decide]
  rw [BitVec.shiftLeft_eq', sh64 ⟨n, hn⟩]
  rw [BitVec.getLsbD_shiftLeft, BitVec.getLsbD_one]
  by_cases h : j = n
  · subst h
    simp [hn]
  · rw [decide_eq_false h]
    simp
    intro h1 h2
    omega
theorem lbit_test {u : Int} {n : Nat} (hn : n < 64) : w64 (b64 (fun x y => x &&& y) (c64 (fun x y => x >>> y) u (n : Int)) 1) = if lbit u n = true then 1 else 0 := by
  unfold lbit w64 b64 c64
  dsimp only
  rw [lb_ofInt, lb_ofInt]
  have e : ((Int64.ofInt u >>> ((Int32.ofInt (n : Int)).toInt64 &&& 63)) &&& Int64.ofInt 1).toBitVec = if (Int64.ofInt u).toBitVec.getLsbD n = true then 1#64 else 0#64 := by
    show ((Int64.ofInt u).toBitVec.sshiftRight ((((Int32.ofInt (n : Int)).toInt64 &&& 63)).toBitVec.smod 64).toNat) &&& (Int64.ofInt 1).toBitVec = _
    rw [show (Int64.ofInt 1).toBitVec = 1#64 from by decide, sh64 ⟨n, hn⟩]
    generalize (Int64.ofInt u).toBitVec = x
    apply BitVec.eq_of_getLsbD_eq
    intro i hi
    rw [BitVec.getLsbD_and, BitVec.getLsbD_one, BitVec.getLsbD_sshiftRight]
    by_cases h0 : i = 0
    · subst h0
      simp [hn]
      split <;> simp_all
    · simp [h0]
      split <;> simp [h0]
  generalize hz : (Int64.ofInt u >>> ((Int32.ofInt (n : Int)).toInt64 &&& 63)) &&& Int64.ofInt 1 = z at e ⊢
  by_cases h : (Int64.ofInt u).toBitVec.getLsbD n = true
  · rw [if_pos h] at e ⊢
    rw [show z = Int64.ofInt 1 from Int64.toBitVec_inj.1 (e.trans (by decide))]
    decide
  · rw [if_neg h] at e ⊢
    rw [show z = Int64.ofInt 0 from Int64.toBitVec_inj.1 (e.trans (by decide))]
    decide
theorem lbit_zero {u : Int} (h : ∀ j, j < 64 → lbit u j = false) : w64 u = 0 := by
  unfold w64
  have e : (Int64.ofInt u).toBitVec = 0#64 := by
    apply BitVec.eq_of_getLsbD_eq
    intro i hi
    rw [BitVec.getLsbD_zero]
    exact h i hi
  rw [show Int64.ofInt u = Int64.ofInt 0 from Int64.toBitVec_inj.1 (e.trans (by decide))]
  decide
theorem lbit_nz {u : Int} {j : Nat} (h : lbit u j = true) : w64 u ≠ 0 := by
  unfold w64
  intro h0
  have e : Int64.ofInt u = Int64.ofInt 0 := by
    rw [← lb_ofInt (Int64.ofInt u), h0]
  unfold lbit at h
  rw [e] at h
  have h1 := lbit_0 j
  unfold lbit at h1
  rw [h1] at h
  cases h
section WL
variable {d k pc pc' a b c w : Nat} {ls ls' : LoA} {st st' : List AV} {G : GT} {M M' : MT} {Q Q' : Option AV → MT → Prop}
theorem wq_lconst {j : Fin 2} (z : Int) (pc' : Nat) (hp : pc + 1 = pc') (hc : cd k pc = some (.lconst j, 1, a, b, c, w)) (hz : ((j.val : Nat) : Int) = z) (h : Wq d k pc' ls (vL z :: st) G M Q) : Wq d k pc ls st G M Q := by
  subst hp
  subst hz
  exact wq_s _ (stp_of hc rfl rfl rfl) h
theorem wq_lcmp {u v : Int} (z : Int) (pc' : Nat) (hp : pc + 1 = pc') (hc : cd k pc = some (.lcmp, 1, a, b, c, w)) (hz : (if w64 u < w64 v then -1 else if w64 u = w64 v then 0 else 1) = z) (h : Wq d k pc' ls (vI z :: st) G M Q) : Wq d k pc ls (vL v :: vL u :: st) G M Q := by
  subst hp
  subst hz
  exact wq_s _ (stp_of hc rfl rfl rfl) h
end WL
theorem up2_at {M : MT} {q : Nat} {i v : Int} : up2 M q i v q i = v := if_pos ⟨rfl, rfl⟩
theorem up2_eq {M : MT} {q a : Nat} {i j v : Int} (ha : a = q) (hj : j = i) : up2 M q i v a j = v := if_pos ⟨ha, hj⟩
theorem up2_ne {M : MT} {q a : Nat} {i j v : Int} (h : a ≠ q ∨ j ≠ i) : up2 M q i v a j = M a j := if_neg (fun z => h.elim (fun y => y z.1) (fun y => y z.2))
theorem up2_row {M : MT} {q a : Nat} {i v : Int} (h : a ≠ q) : up2 M q i v a = M a := funext fun _ => up2_ne (Or.inl h)
section WG
variable {d k pc pc' a b c w : Nat} {ls ls' : LoA} {st st' : List AV} {G : GT} {M M' : MT} {Q Q' : Option AV → MT → Prop}
theorem wq_getE {q x0 : Nat} {fs : List (Option (Option Nat))} {v : Int} (bi : Int) (pc' : Nat) (hp : pc + 3 = pc') (hc : cd k pc = some (.getfield x0, 3, a, b, c, w)) (hq : EXN ≤ q ∧ q < G.1) (hT : G.2.2 q = .inr (a, fs)) (hf : fs[b]? = some none) (hb : ((b : Nat) : Int) = bi) (hv : M q bi = v) (h : Wq d k pc' ls (vI v :: st) G M Q) : Wq d k pc ls (vR q :: st) G M Q := by
  subst hb
  exact wq_getN pc' hp hc hq hT hf hv h
theorem wq_putE {q x0 : Nat} {fs : List (Option (Option Nat))} {v : Int} (bi : Int) (pc' : Nat) (hp : pc + 3 = pc') (hc : cd k pc = some (.putfield x0, 3, a, b, c, w)) (hq : EXN ≤ q ∧ q < G.1) (hT : G.2.2 q = .inr (a, fs)) (hf : fs[b]? = some none) (h4 : c < 4) (hk : c % 4 = 0 ∨ (c % 4 = 1 ∧ (v = 0 ∨ v = 1))) (hb : ((b : Nat) : Int) = bi) (h : Wq d k pc' ls st G (up2 M q bi v) Q) : Wq d k pc ls (vI v :: vR q :: st) G M Q := by
  subst hb
  exact wq_putN pc' hp hc hq hT hf h4 hk h
end WG
