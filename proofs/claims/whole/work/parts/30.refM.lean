def thN (pl : Nat) : Nat → Int
  | 0 => -1
  | k + 1 => if pl ≠ 0 ∧ andN pl (7 * 2 ^ (3 * k)) = 0 then (k : Int) else thN pl k
theorem thN_rng (pl : Nat) : ∀ k, -1 ≤ thN pl k ∧ thN pl k < k ∨ (k = 0 ∧ thN pl k = -1) := by
  intro k
  induction k with
  | zero => exact Or.inr ⟨rfl, rfl⟩
  | succ k ih =>
    refine Or.inl ?_
    unfold thN
    split
    · omega
    · omega
def outB (b p : Int) (k : Nat) : Bool := decide (isInF (cellF b k) p = 0)
theorem isInF_01 (c h : Int) : isInF c h = 0 ∨ isInF c h = 1 := by
  unfold isInF
  split
  · exact Or.inr rfl
  · exact Or.inl rfl
def clmT (X : Nat → Nat) (p v : Int) : Int := thN (plN X p (v - 1).toNat 9) 3
def clmB (X : Nat → Nat) (p v : Int) : Int := houseF (cellF p (3 * clmT X p v)) 2
def clmC (X : Nat → Nat) (p v : Int) : Prop := (0 ≤ p ∧ p ≤ 17) ∧ (1 ≤ v ∧ v ≤ 9) ∧ 0 ≤ clmT X p v
def clmG (X : Nat → Nat) (p v : Int) (Y : Int → Int) : Int → Int := gsF (clmB X p v) (outB (clmB X p v) p) ((2 ^ (v - 1).toNat : Nat) : Int) Y 9
theorem c_X9_claiming {d : Nat} {G : GT} {M : MT} {o q : Nat} {X : Nat → Nat} {p v : Int} (hG : RefG G o) (hq : q < G.1) (hT : G.2.2 q = .inl (false, 81)) (hX : AtB M q X) (hp : R32 p) (hv : R32 v) : Mq (d + 2) k_X9_claiming [vR o, vR q, vI p, vI v] G M (fun r M' => (r = some (vI 1) ∧ clmC X p v ∧ M' = rowA M (o + 5) (clmG X p v (M (o + 5)))) ∨ (r = some (vI 0) ∧ ¬ clmC X p v ∧ M' = M)) := by
  have hpl := plN_lt X p (v - 1).toNat 9
  have L_96 : ∀ (f k : Nat), clmC X p v → 9 - k < f → k ≤ 9 → Wq (d + 2) k_X9_claiming 96 [some (vR o), some (vR q), some (vI p), some (vI v), some (vI (plN X p (v - 1).toNat 9 : Nat)), some (vI (clmT X p v)), some (vI (clmB X p v)), some (vI (k : Int))] [] G (rowA M (o + 5) (gsF (clmB X p v) (outB (clmB X p v) p) ((2 ^ (v - 1).toNat : Nat) : Int) (M (o + 5)) k)) (fun r M' => (r = some (vI 1) ∧ clmC X p v ∧ M' = rowA M (o + 5) (clmG X p v (M (o + 5)))) ∨ (r = some (vI 0) ∧ ¬ clmC X p v ∧ M' = M)) := by
    intro f
    induction f with
    | zero => intro k _ h; exact absurd h (by omega)
    | succ f ih =>
      intro k hs hf hk
      obtain ⟨⟨s1, s2⟩, ⟨s3, s4⟩, s5⟩ := id hs
      have htr : clmT X p v < 3 := by
        have h9 := thN_rng (plN X p (v - 1).toNat 9) 3
        unfold clmT
        omega
      have hcc := cellF_rng (h := p) (k := 3 * clmT X p v) (by omega) (by omega) (by omega) (by omega)
      have hB : 0 ≤ clmB X p v ∧ clmB X p v < 27 := houseF_rng (c := cellF p (3 * clmT X p v)) (s := 2) hcc.1 hcc.2
      have hpw : 2 ^ (v - 1).toNat ≤ 2 ^ 8 := Nat.pow_le_pow_right (by decide) (by omega)
      refine wq_s 98 rfl ?_
      refine wq_s 100 rfl ?_
      refine wq_icmp 140 rfl rfl (by omega) (by omega) (fun c_100 => ?_) (fun c_100 => ?_)
      · have c_100 := of_decide_eq_true c_100
        have e9 : k = 9 := by omega
        subst e9
        refine wq_s 141 rfl ?_
        exact wq_ret rfl (Or.inl ⟨rfl, hs, rfl⟩)
      · have c_100 := of_decide_eq_false c_100
        have hcr := cellF_rng (h := clmB X p v) (k := (k : Int)) hB.1 hB.2 (by omega) (by omega)
        have hin := isInF_01 (cellF (clmB X p v) k) p
        refine wq_s 105 rfl ?_
        refine wq_s 107 rfl ?_
        refine wq_st2 110 rfl rfl (by decide) (Nat.le_of_ble_eq_true rfl) rfl (Nat.le_of_ble_eq_true rfl) (c_X9_cellOf hB.1 hB.2 (by omega) (by omega)) (fun r M1 hr => ?_)
        obtain ⟨rfl, hM1⟩ := hr
        subst M1
        dsimp only [Option.toList, List.cons_append, List.nil_append]
        refine wq_s 111 rfl ?_
        refine wq_st2 114 rfl rfl (by decide) (Nat.le_of_ble_eq_true rfl) rfl (Nat.le_of_ble_eq_true rfl) (c_X9_isIn hcr.1 hcr.2 (by omega) (by omega)) (fun r M1 hr => ?_)
        obtain ⟨rfl, hM1⟩ := hr
        subst M1
        dsimp only [Option.toList, List.cons_append, List.nil_append]
        refine wq_if 134 rfl rfl (by omega) (fun c_114 => ?_) (fun c_114 => ?_)
        · have c_114 := of_decide_eq_true c_114
          rw [← gsF_f (c := outB (clmB X p v) p) (k := k) (decide_eq_false c_114)]
          refine wq_inc 137 _ rfl rfl rfl (by omega) rfl ?_
          refine wq_s 96 rfl ?_
          exact ih (k + 1) hs (by omega) (by omega)
        · have c_114 := of_decide_eq_false c_114
          refine wq_s 118 rfl ?_
          refine wq_getR 121 rfl rfl hG.ob hG.2.2.1 rfl ?_
          refine wq_s 123 rfl ?_
          refine wq_s 125 rfl ?_
          refine wq_st2 128 rfl rfl (by decide) (Nat.le_of_ble_eq_true rfl) rfl (Nat.le_of_ble_eq_true rfl) (c_X9_cellOf hB.1 hB.2 (by omega) (by omega)) (fun r M1 hr => ?_)
          obtain ⟨rfl, hM1⟩ := hr
          subst M1
          dsimp only [Option.toList, List.cons_append, List.nil_append]
          refine wq_s 129 rfl ?_
          refine wq_s 130 rfl ?_
          refine wq_s 131 rfl ?_
          refine wq_sub 132 rfl rfl (by omega) ?_
          rw [show v - 1 = (((v - 1).toNat : Nat) : Int) by omega]
          refine wq_shl (m := 1) 133 rfl rfl (by omega) (by omega) ?_
          refine wq_iast 134 rfl rfl hG.a_gone.1 hG.a_gone.2 hcr.1 (by omega) (by omega) ?_
          rw [rowA_up, Nat.one_mul, Int.toNat_natCast, ← gsF_t (c := outB (clmB X p v) p) (k := k) (decide_eq_true (by omega))]
          refine wq_inc 137 _ rfl rfl rfl (by omega) rfl ?_
          refine wq_s 96 rfl ?_
          exact ih (k + 1) hs (by omega) (by omega)
  have L_36 : (0 ≤ p ∧ p ≤ 17) → (1 ≤ v ∧ v ≤ 9) → ∀ (f k : Nat), 3 - k < f → k ≤ 3 → Wq (d + 2) k_X9_claiming 36 [some (vR o), some (vR q), some (vI p), some (vI v), some (vI (plN X p (v - 1).toNat 9 : Nat)), some (vI (thN (plN X p (v - 1).toNat 9) k)), some (vI (k : Int)), none] [] G M (fun r M' => (r = some (vI 1) ∧ clmC X p v ∧ M' = rowA M (o + 5) (clmG X p v (M (o + 5)))) ∨ (r = some (vI 0) ∧ ¬ clmC X p v ∧ M' = M)) := by
    intro hp0 hv0 f
    induction f with
    | zero => intro k h; exact absurd h (by omega)
    | succ f ih =>
      intro k hf hk
      refine wq_s 38 rfl ?_
      refine wq_s 39 rfl ?_
      refine wq_icmp 72 rfl rfl (by omega) (by omega) (fun c_39 => ?_) (fun c_39 => ?_)
      · have c_39 := of_decide_eq_true c_39
        have e9 : k = 3 := by omega
        subst e9
        have htr := thN_rng (plN X p (v - 1).toNat 9) 3
        refine wq_s 74 rfl ?_
        refine wq_if 79 rfl rfl (by omega) (fun c_74 => ?_) (fun c_74 => ?_)
        · have c_74 := of_decide_eq_true c_74
          refine wq_s 80 rfl ?_
          refine wq_s 81 rfl ?_
          refine wq_s 83 rfl ?_
          refine wq_mul 84 rfl rfl (by omega) ?_
          have hcc := cellF_rng (h := p) (k := 3 * thN (plN X p (v - 1).toNat 9) 3) hp0.1 (by omega) (by omega) (by omega)
          refine wq_st2 87 rfl rfl (by decide) (Nat.le_of_ble_eq_true rfl) rfl (Nat.le_of_ble_eq_true rfl) (c_X9_cellOf hp0.1 (by omega) (by omega) (by omega)) (fun r M1 hr => ?_)
          obtain ⟨rfl, hM1⟩ := hr
          subst M1
          dsimp only [Option.toList, List.cons_append, List.nil_append]
          refine wq_s 88 rfl ?_
          refine wq_st2 91 rfl rfl (by decide) (Nat.le_of_ble_eq_true rfl) rfl (Nat.le_of_ble_eq_true rfl) (c_X9_houseOf hcc.1 hcc.2 (by decide)) (fun r M1 hr => ?_)
          obtain ⟨rfl, hM1⟩ := hr
          subst M1
          dsimp only [Option.toList, List.cons_append, List.nil_append]
          refine wq_s 93 rfl ?_
          refine wq_s 94 rfl ?_
          refine wq_s 96 rfl ?_
          have hs : clmC X p v := ⟨hp0, hv0, c_74⟩
          have h := L_96 10 0 hs (by omega) (by omega)
          rw [show gsF (clmB X p v) (outB (clmB X p v) p) ((2 ^ (v - 1).toNat : Nat) : Int) (M (o + 5)) 0 = M (o + 5) from rfl, rowA_0] at h
          exact h
        · have c_74 := of_decide_eq_false c_74
          refine wq_s 78 rfl ?_
          exact wq_ret rfl (Or.inr ⟨rfl, fun z => (by have := z.2.2; unfold clmT at this; omega), rfl⟩)
      · have c_39 := of_decide_eq_false c_39
        have hpw : 2 ^ (3 * k) ≤ 2 ^ 6 := Nat.pow_le_pow_right (by decide) (by omega)
        have hal := andN_lt (n := 7 * 2 ^ (3 * k)) hpl
        refine wq_s 44 rfl ?_
        refine wq_if 66 rfl rfl (by omega) (fun c_44 => ?_) (fun c_44 => ?_)
        · have c_44 := of_decide_eq_true c_44
          rw [← show thN (plN X p (v - 1).toNat 9) (k + 1) = thN (plN X p (v - 1).toNat 9) k from if_neg (fun z => z.1 (by omega))]
          refine wq_inc 69 _ rfl rfl rfl (by omega) rfl ?_
          refine wq_s 36 rfl ?_
          exact ih (k + 1) (by omega) (by omega)
        · have c_44 := of_decide_eq_false c_44
          refine wq_s 49 rfl ?_
          refine wq_s 51 rfl ?_
          refine wq_s 52 rfl ?_
          refine wq_s 54 rfl ?_
          refine wq_mul 55 rfl rfl (by omega) ?_
          rw [show (3 : Int) * (k : Int) = ((3 * k : Nat) : Int) by omega]
          refine wq_shl (m := 7) 56 rfl rfl (by omega) (by omega) ?_
          refine wq_s 57 rfl ?_
          refine wq_not 58 rfl rfl (by omega) ?_
          refine wq_andn 59 rfl rfl (by omega) ?_
          refine wq_if 66 rfl rfl (by omega) (fun c_59 => ?_) (fun c_59 => ?_)
          · have c_59 := of_decide_eq_true c_59
            rw [← show thN (plN X p (v - 1).toNat 9) (k + 1) = thN (plN X p (v - 1).toNat 9) k from if_neg (fun z => c_59 (by rw [z.2]; rfl))]
            refine wq_inc 69 _ rfl rfl rfl (by omega) rfl ?_
            refine wq_s 36 rfl ?_
            exact ih (k + 1) (by omega) (by omega)
          · have c_59 := of_decide_eq_false c_59
            have e59 : thN (plN X p (v - 1).toNat 9) (k + 1) = (k : Int) := if_pos ⟨by omega, by omega⟩
            refine wq_s 64 rfl ?_
            refine wq_s 66 rfl ?_
            refine wq_inc 69 _ rfl rfl rfl (by omega) rfl ?_
            refine wq_s 36 rfl ?_
            have h9 := ih (k + 1) (by omega) (by omega)
            rw [e59] at h9
            exact h9
  refine wq_s 1 rfl ?_
  refine wq_s 2 rfl ?_
  refine wq_s 4 rfl ?_
  refine wq_st3 7 rfl rfl (by decide) (Nat.le_of_ble_eq_true rfl) rfl (Nat.le_of_ble_eq_true rfl) (c_X9_in (by omega) (by omega) (by omega)) (fun r M1 hr => ?_)
  obtain ⟨rfl, hM1⟩ := hr
  subst M1
  dsimp only [Option.toList, List.cons_append, List.nil_append]
  refine wq_if 20 rfl rfl iteR (fun c_7 => ?_) (fun c_7 => ?_)
  · have c_7 := of_decide_eq_true c_7
    have c_7 := ite0.mp c_7
    refine wq_s 21 rfl ?_
    exact wq_ret rfl (Or.inr ⟨rfl, fun z => c_7 z.1, rfl⟩)
  · have c_7 := of_decide_eq_false c_7
    have c_7 := ite1.mp c_7
    refine wq_s 11 rfl ?_
    refine wq_s 12 rfl ?_
    refine wq_s 14 rfl ?_
    refine wq_st3 17 rfl rfl (by decide) (Nat.le_of_ble_eq_true rfl) rfl (Nat.le_of_ble_eq_true rfl) (c_X9_in (by omega) (by omega) (by omega)) (fun r M1 hr => ?_)
    obtain ⟨rfl, hM1⟩ := hr
    subst M1
    dsimp only [Option.toList, List.cons_append, List.nil_append]
    refine wq_if 22 rfl rfl iteR (fun c_17 => ?_) (fun c_17 => ?_)
    · have c_17 := of_decide_eq_true c_17
      have c_17 := ite1.mp c_17
      refine wq_s 23 rfl ?_
      refine wq_s 24 rfl ?_
      refine wq_s 25 rfl ?_
      have hcp := c_X9_placesOf (d := d) (M := M) (h := p) (e := (v - 1).toNat) (by omega) (by omega) (by omega) hq hT hX
      rw [show (((v - 1).toNat : Nat) : Int) + 1 = v by omega] at hcp
      refine wq_st3 28 rfl rfl (by decide) (Nat.le_of_ble_eq_true rfl) rfl (Nat.le_of_ble_eq_true rfl) hcp (fun r M1 hr => ?_)
      obtain ⟨rfl, hM1⟩ := hr
      subst M1
      dsimp only [Option.toList, List.cons_append, List.nil_append]
      refine wq_s 30 rfl ?_
      refine wq_s 31 rfl ?_
      refine wq_s 33 rfl ?_
      refine wq_s 34 rfl ?_
      refine wq_s 36 rfl ?_
      exact L_36 c_7 c_17 4 0 (by omega) (by omega)
    · have c_17 := of_decide_eq_false c_17
      have c_17 := iteN.mp c_17
      refine wq_s 21 rfl ?_
      exact wq_ret rfl (Or.inr ⟨rfl, fun z => c_17 z.2.1, rfl⟩)
