/-- one row is f, all else as it was -/
def rowA (M : MT) (q : Nat) (f : Int → Int) : MT := fun a i => if a = q then f i else M a i
def upI (f : Int → Int) (k v : Int) : Int → Int := fun i => if i = k then v else f i
theorem rowA_0 (M : MT) (q : Nat) : rowA M q (M q) = M := by
  funext a i
  unfold rowA
  by_cases h : a = q
  · rw [if_pos h, h]
  · rw [if_neg h]
theorem rowA_up {M : MT} {q : Nat} {f : Int → Int} {k v : Int} : up2 (rowA M q f) q k v = rowA M q (upI f k v) := by
  funext a i
  unfold up2 rowA upI
  by_cases h : a = q
  · by_cases h2 : i = k
    · rw [if_pos ⟨h, h2⟩, if_pos h, if_pos h2]
    · rw [if_neg (fun z => h2 z.2), if_pos h, if_pos h, if_neg h2]
  · rw [if_neg (fun z => h z.1), if_neg h, if_neg h]
theorem rowA_ne {M : MT} {q a : Nat} {f : Int → Int} (h : a ≠ q) : rowA M q f a = M a := funext fun i => if_neg h
theorem rowA_at {M : MT} {q : Nat} {f : Int → Int} : rowA M q f q = f := funext fun i => if_pos rfl
/-- a house's cells are written, those of which c holds -/
def gsF (h : Int) (c : Nat → Bool) (v : Int) (Y : Int → Int) : Nat → (Int → Int)
  | 0 => Y
  | k + 1 => if c k = true then upI (gsF h c v Y k) (cellF h k) v else gsF h c v Y k
theorem gsF_t {h : Int} {c : Nat → Bool} {v : Int} {Y : Int → Int} {k : Nat} (hc : c k = true) : gsF h c v Y (k + 1) = upI (gsF h c v Y k) (cellF h k) v := if_pos hc
theorem gsF_f {h : Int} {c : Nat → Bool} {v : Int} {Y : Int → Int} {k : Nat} (hc : c k = false) : gsF h c v Y (k + 1) = gsF h c v Y k := if_neg (by rw [hc]; decide)
def bitB (m k : Nat) : Bool := decide (m / 2 ^ k % 2 = 1)
def hid1C (X : Nat → Nat) (p v : Int) : Prop := (0 ≤ p ∧ p ≤ 26) ∧ (1 ≤ v ∧ v ≤ 9) ∧ pop9 (plN X p (v - 1).toNat 9) = 1
def hid1G (X : Nat → Nat) (p v : Int) (Y : Int → Int) : Int → Int := gsF p (bitB (plN X p (v - 1).toNat 9)) ((andN 511 (2 ^ (v - 1).toNat) : Nat) : Int) Y 9
theorem c_X9_hiddenOne {d : Nat} {G : GT} {M : MT} {o q : Nat} {X : Nat → Nat} {p v : Int} (hG : RefG G o) (hq : q < G.1) (hT : G.2.2 q = .inl (false, 81)) (hX : AtB M q X) (hp : R32 p) (hv : R32 v) : Mq (d + 2) k_X9_hiddenOne [vR o, vR q, vI p, vI v] G M (fun r M' => (r = some (vI 1) ∧ hid1C X p v ∧ M' = rowA M (o + 5) (hid1G X p v (M (o + 5)))) ∨ (r = some (vI 0) ∧ ¬ hid1C X p v ∧ M' = M)) := by
  have L_44 : ∀ (f k : Nat), hid1C X p v → 9 - k < f → k ≤ 9 → Wq (d + 2) k_X9_hiddenOne 44 [some (vR o), some (vR q), some (vI p), some (vI v), some (vI (plN X p (v - 1).toNat 9 : Nat)), some (vI (k : Int))] [] G (rowA M (o + 5) (gsF p (bitB (plN X p (v - 1).toNat 9)) ((andN 511 (2 ^ (v - 1).toNat) : Nat) : Int) (M (o + 5)) k)) (fun r M' => (r = some (vI 1) ∧ hid1C X p v ∧ M' = rowA M (o + 5) (hid1G X p v (M (o + 5)))) ∨ (r = some (vI 0) ∧ ¬ hid1C X p v ∧ M' = M)) := by
    intro f
    induction f with
    | zero => intro k _ h; exact absurd h (by omega)
    | succ f ih =>
      intro k hs hf hk
      obtain ⟨⟨s1, s2⟩, ⟨s3, s4⟩, s5⟩ := id hs
      have hpl := plN_lt X p (v - 1).toNat 9
      refine wq_s 46 rfl ?_
      refine wq_s 48 rfl ?_
      refine wq_icmp 90 rfl rfl (by omega) (by omega) (fun c_48 => ?_) (fun c_48 => ?_)
      · have c_48 := of_decide_eq_true c_48
        have e9 : k = 9 := by omega
        subst e9
        refine wq_s 91 rfl ?_
        exact wq_ret rfl (Or.inl ⟨rfl, hs, rfl⟩)
      · have c_48 := of_decide_eq_false c_48
        have hcr := cellF_rng (h := p) (k := (k : Int)) (by omega) (by omega) (by omega) (by omega)
        have hpw : 2 ^ (v - 1).toNat ≤ 2 ^ 8 := Nat.pow_le_pow_right (by decide) (by omega)
        refine wq_s 53 rfl ?_
        refine wq_s 55 rfl ?_
        refine wq_shr 56 rfl rfl (by omega) (by omega) ?_
        refine wq_s 57 rfl ?_
        refine wq_and (n := 1) 58 rfl rfl (Nat.lt_of_le_of_lt (Nat.div_le_self _ _) (by omega)) ?_
        rw [and_1]
        refine wq_s 59 rfl ?_
        refine wq_icmp 84 rfl rfl (by omega) (by omega) (fun c_59 => ?_) (fun c_59 => ?_)
        · have c_59 := of_decide_eq_true c_59
          rw [← gsF_f (k := k) (show bitB (plN X p (v - 1).toNat 9) k = false from decide_eq_false (by omega))]
          refine wq_inc 87 _ rfl rfl rfl (by omega) rfl ?_
          refine wq_s 44 rfl ?_
          exact ih (k + 1) hs (by omega) (by omega)
        · have c_59 := of_decide_eq_false c_59
          refine wq_s 63 rfl ?_
          refine wq_getR 66 rfl rfl hG.ob hG.2.2.1 rfl ?_
          refine wq_s 67 rfl ?_
          refine wq_s 69 rfl ?_
          refine wq_st2 72 rfl rfl (by decide) (Nat.le_of_ble_eq_true rfl) rfl (Nat.le_of_ble_eq_true rfl) (c_X9_cellOf (by omega) (by omega) (by omega) (by omega)) (fun r M1 hr => ?_)
          obtain ⟨rfl, hM1⟩ := hr
          subst M1
          dsimp only [Option.toList, List.cons_append, List.nil_append]
          refine wq_s 75 rfl ?_
          refine wq_s 76 rfl ?_
          refine wq_s 77 rfl ?_
          refine wq_s 78 rfl ?_
          refine wq_sub 79 rfl rfl (by omega) ?_
          rw [show v - 1 = (((v - 1).toNat : Nat) : Int) by omega]
          refine wq_shl (m := 1) 80 rfl rfl (by omega) (by omega) ?_
          refine wq_s 81 rfl ?_
          refine wq_not 82 rfl rfl (by omega) ?_
          refine wq_andn (m := 511) 83 rfl rfl (by omega) ?_
          refine wq_iast 84 rfl rfl hG.a_gone.1 hG.a_gone.2 (by omega) (by omega) (by omega) ?_
          rw [rowA_up, Nat.one_mul, Int.toNat_natCast, ← gsF_t (k := k) (show bitB (plN X p (v - 1).toNat 9) k = true from decide_eq_true (by omega))]
          refine wq_inc 87 _ rfl rfl rfl (by omega) rfl ?_
          refine wq_s 44 rfl ?_
          exact ih (k + 1) hs (by omega) (by omega)
  refine wq_s 1 rfl ?_
  refine wq_s 2 rfl ?_
  refine wq_s 4 rfl ?_
  refine wq_st3 7 rfl rfl (by decide) (Nat.le_of_ble_eq_true rfl) rfl (Nat.le_of_ble_eq_true rfl) (c_X9_in (by omega) (by omega) (by omega)) (fun r M1 hr => ?_)
  obtain ⟨rfl, hM1⟩ := hr
  subst M1
  dsimp only [Option.toList, List.cons_append, List.nil_append]
  refine wq_if 20 rfl rfl iteR (fun c_7 => ?_) (fun c_7 => ?_)
  · have c_7 := of_decide_eq_true c_7
    have c_7 := ite0.mp c_7
    refine wq_s 21 rfl ?_
    exact wq_ret rfl (Or.inr ⟨rfl, fun z => c_7 z.1, rfl⟩)
  · have c_7 := of_decide_eq_false c_7
    have c_7 := ite1.mp c_7
    refine wq_s 11 rfl ?_
    refine wq_s 12 rfl ?_
    refine wq_s 14 rfl ?_
    refine wq_st3 17 rfl rfl (by decide) (Nat.le_of_ble_eq_true rfl) rfl (Nat.le_of_ble_eq_true rfl) (c_X9_in (by omega) (by omega) (by omega)) (fun r M1 hr => ?_)
    obtain ⟨rfl, hM1⟩ := hr
    subst M1
    dsimp only [Option.toList, List.cons_append, List.nil_append]
    refine wq_if 22 rfl rfl iteR (fun c_17 => ?_) (fun c_17 => ?_)
    · have c_17 := of_decide_eq_true c_17
      have c_17 := ite1.mp c_17
      have hpl := plN_lt X p (v - 1).toNat 9
      refine wq_s 23 rfl ?_
      refine wq_s 24 rfl ?_
      refine wq_s 25 rfl ?_
      have hcp := c_X9_placesOf (d := d) (M := M) (h := p) (e := (v - 1).toNat) (by omega) (by omega) (by omega) hq hT hX
      rw [show (((v - 1).toNat : Nat) : Int) + 1 = v by omega] at hcp
      refine wq_st3 28 rfl rfl (by decide) (Nat.le_of_ble_eq_true rfl) rfl (Nat.le_of_ble_eq_true rfl) hcp (fun r M1 hr => ?_)
      obtain ⟨rfl, hM1⟩ := hr
      subst M1
      dsimp only [Option.toList, List.cons_append, List.nil_append]
      refine wq_s 30 rfl ?_
      refine wq_s 32 rfl ?_
      refine wq_st1 35 rfl rfl (by decide) (Nat.le_of_ble_eq_true rfl) rfl (Nat.le_of_ble_eq_true rfl) (c_X9_bits hpl) (fun r M1 hr => ?_)
      obtain ⟨rfl, hM1⟩ := hr
      subst M1
      dsimp only [Option.toList, List.cons_append, List.nil_append]
      have hpp := pop9_le (plN X p (v - 1).toNat 9)
      refine wq_s 36 rfl ?_
      refine wq_icmp 41 rfl rfl (by omega) (by omega) (fun c_36 => ?_) (fun c_36 => ?_)
      · have c_36 := of_decide_eq_true c_36
        refine wq_s 42 rfl ?_
        refine wq_s 44 rfl ?_
        have hs : hid1C X p v := ⟨c_7, c_17, by omega⟩
        have h := L_44 10 0 hs (by omega) (by omega)
        rw [show gsF p (bitB (plN X p (v - 1).toNat 9)) ((andN 511 (2 ^ (v - 1).toNat) : Nat) : Int) (M (o + 5)) 0 = M (o + 5) from rfl, rowA_0] at h
        exact h
      · have c_36 := of_decide_eq_false c_36
        refine wq_s 40 rfl ?_
        exact wq_ret rfl (Or.inr ⟨rfl, fun z => c_36 (by rw [z.2.2]; rfl), rfl⟩)
    · have c_17 := of_decide_eq_false c_17
      have c_17 := iteN.mp c_17
      refine wq_s 21 rfl ?_
      exact wq_ret rfl (Or.inr ⟨rfl, fun z => c_17 z.2.1, rfl⟩)
