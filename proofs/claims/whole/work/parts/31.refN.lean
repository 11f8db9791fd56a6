def lnC (pl : Nat) (p : Int) : Nat → Int
  | 0 => -1
  | j + 1 => if andN pl (73 * 2 ^ (2 - j)) = 0 then houseF (cellF p (2 - (j : Int))) 1 else lnC pl p j
def lnR (pl : Nat) (p : Int) : Nat → Int
  | 0 => lnC pl p 3
  | j + 1 => if andN pl (7 * 2 ^ (3 * (2 - j))) = 0 then houseF (cellF p (3 * (2 - (j : Int)))) 0 else lnR pl p j
theorem lnC_rng {pl : Nat} {p : Int} (h0 : 0 ≤ p) (h1 : p < 27) : ∀ j, j ≤ 3 → -1 ≤ lnC pl p j ∧ lnC pl p j < 27 := by
  intro j
  induction j with
  | zero => intro _; exact ⟨Int.le_refl _, show (-1 : Int) < 27 by decide⟩
  | succ j ih =>
    intro hj
    have h2 := cellF_rng (h := p) (k := 2 - (j : Int)) h0 h1 (by omega) (by omega)
    have h3 := houseF_rng (c := cellF p (2 - (j : Int))) (s := 1) h2.1 h2.2
    have h4 := ih (by omega)
    unfold lnC
    split
    · omega
    · exact h4
theorem lnR_rng {pl : Nat} {p : Int} (h0 : 0 ≤ p) (h1 : p < 27) : ∀ j, j ≤ 3 → -1 ≤ lnR pl p j ∧ lnR pl p j < 27 := by
  intro j
  induction j with
  | zero => intro _; exact lnC_rng h0 h1 3 (Nat.le_refl _)
  | succ j ih =>
    intro hj
    have h2 := cellF_rng (h := p) (k := 3 * (2 - (j : Int))) h0 h1 (by omega) (by omega)
    have h3 := houseF_rng (c := cellF p (3 * (2 - (j : Int)))) (s := 0) h2.1 h2.2
    have h4 := ih (by omega)
    unfold lnR
    split
    · omega
    · exact h4
def ptL (X : Nat → Nat) (p v : Int) : Int := lnR (plN X p (v - 1).toNat 9) p 3
def ptC (X : Nat → Nat) (p v : Int) : Prop := (18 ≤ p ∧ p ≤ 26) ∧ (1 ≤ v ∧ v ≤ 9) ∧ plN X p (v - 1).toNat 9 ≠ 0 ∧ 0 ≤ ptL X p v
def ptG (X : Nat → Nat) (p v : Int) (Y : Int → Int) : Int → Int := gsF (ptL X p v) (outB (ptL X p v) p) ((2 ^ (v - 1).toNat : Nat) : Int) Y 9
theorem c_X9_pointing {d : Nat} {G : GT} {M : MT} {o q : Nat} {X : Nat → Nat} {p v : Int} (hG : RefG G o) (hq : q < G.1) (hT : G.2.2 q = .inl (false, 81)) (hX : AtB M q X) (hp : R32 p) (hv : R32 v) : Mq (d + 2) k_X9_pointing [vR o, vR q, vI p, vI v] G M (fun r M' => (r = some (vI 1) ∧ ptC X p v ∧ M' = rowA M (o + 5) (ptG X p v (M (o + 5)))) ∨ (r = some (vI 0) ∧ ¬ ptC X p v ∧ M' = M)) := by
  have hpl := plN_lt X p (v - 1).toNat 9
  have L_133 : ∀ (f k : Nat), ptC X p v → 9 - k < f → k ≤ 9 → Wq (d + 2) k_X9_pointing 133 [some (vR o), some (vR q), some (vI p), some (vI v), some (vI (plN X p (v - 1).toNat 9 : Nat)), some (vI (ptL X p v)), some (vI (k : Int))] [] G (rowA M (o + 5) (gsF (ptL X p v) (outB (ptL X p v) p) ((2 ^ (v - 1).toNat : Nat) : Int) (M (o + 5)) k)) (fun r M' => (r = some (vI 1) ∧ ptC X p v ∧ M' = rowA M (o + 5) (ptG X p v (M (o + 5)))) ∨ (r = some (vI 0) ∧ ¬ ptC X p v ∧ M' = M)) := by
    intro f
    induction f with
    | zero => intro k _ h; exact absurd h (by omega)
    | succ f ih =>
      intro k hs hf hk
      obtain ⟨⟨s1, s2⟩, ⟨s3, s4⟩, s5, s6⟩ := id hs
      have hB : -1 ≤ ptL X p v ∧ ptL X p v < 27 := lnR_rng (by omega) (by omega) 3 (Nat.le_refl _)
      have hpw : 2 ^ (v - 1).toNat ≤ 2 ^ 8 := Nat.pow_le_pow_right (by decide) (by omega)
      refine wq_s 135 rfl ?_
      refine wq_s 137 rfl ?_
      refine wq_icmp 177 rfl rfl (by omega) (by omega) (fun c_137 => ?_) (fun c_137 => ?_)
      · have c_137 := of_decide_eq_true c_137
        have e9 : k = 9 := by omega
        subst e9
        refine wq_s 178 rfl ?_
        exact wq_ret rfl (Or.inl ⟨rfl, hs, rfl⟩)
      · have c_137 := of_decide_eq_false c_137
        have hcr := cellF_rng (h := ptL X p v) (k := (k : Int)) s6 hB.2 (by omega) (by omega)
        have hin := isInF_01 (cellF (ptL X p v) k) p
        refine wq_s 142 rfl ?_
        refine wq_s 144 rfl ?_
        refine wq_st2 147 rfl rfl (by decide) (Nat.le_of_ble_eq_true rfl) rfl (Nat.le_of_ble_eq_true rfl) (c_X9_cellOf s6 hB.2 (by omega) (by omega)) (fun r M1 hr => ?_)
        obtain ⟨rfl, hM1⟩ := hr
        subst M1
        dsimp only [Option.toList, List.cons_append, List.nil_append]
        refine wq_s 148 rfl ?_
        refine wq_st2 151 rfl rfl (by decide) (Nat.le_of_ble_eq_true rfl) rfl (Nat.le_of_ble_eq_true rfl) (c_X9_isIn hcr.1 hcr.2 (by omega) (by omega)) (fun r M1 hr => ?_)
        obtain ⟨rfl, hM1⟩ := hr
        subst M1
        dsimp only [Option.toList, List.cons_append, List.nil_append]
        refine wq_if 171 rfl rfl (by omega) (fun c_151 => ?_) (fun c_151 => ?_)
        · have c_151 := of_decide_eq_true c_151
          rw [← gsF_f (c := outB (ptL X p v) p) (k := k) (decide_eq_false c_151)]
          refine wq_inc 174 _ rfl rfl rfl (by omega) rfl ?_
          refine wq_s 133 rfl ?_
          exact ih (k + 1) hs (by omega) (by omega)
        · have c_151 := of_decide_eq_false c_151
          refine wq_s 155 rfl ?_
          refine wq_getR 158 rfl rfl hG.ob hG.2.2.1 rfl ?_
          refine wq_s 160 rfl ?_
          refine wq_s 162 rfl ?_
          refine wq_st2 165 rfl rfl (by decide) (Nat.le_of_ble_eq_true rfl) rfl (Nat.le_of_ble_eq_true rfl) (c_X9_cellOf s6 hB.2 (by omega) (by omega)) (fun r M1 hr => ?_)
          obtain ⟨rfl, hM1⟩ := hr
          subst M1
          dsimp only [Option.toList, List.cons_append, List.nil_append]
          refine wq_s 166 rfl ?_
          refine wq_s 167 rfl ?_
          refine wq_s 168 rfl ?_
          refine wq_sub 169 rfl rfl (by omega) ?_
          rw [show v - 1 = (((v - 1).toNat : Nat) : Int) by omega]
          refine wq_shl (m := 1) 170 rfl rfl (by omega) (by omega) ?_
          refine wq_iast 171 rfl rfl hG.a_gone.1 hG.a_gone.2 hcr.1 (by omega) (by omega) ?_
          rw [rowA_up, Nat.one_mul, Int.toNat_natCast, ← gsF_t (c := outB (ptL X p v) p) (k := k) (decide_eq_true (by omega))]
          refine wq_inc 174 _ rfl rfl rfl (by omega) rfl ?_
          refine wq_s 133 rfl ?_
          exact ih (k + 1) hs (by omega) (by omega)
  have L_83 : (18 ≤ p ∧ p ≤ 26) → (1 ≤ v ∧ v ≤ 9) → plN X p (v - 1).toNat 9 ≠ 0 → ∀ (f j : Nat), 3 - j < f → j ≤ 3 → Wq (d + 2) k_X9_pointing 83 [some (vR o), some (vR q), some (vI p), some (vI v), some (vI (plN X p (v - 1).toNat 9 : Nat)), some (vI (lnR (plN X p (v - 1).toNat 9) p j)), some (vI (2 - (j : Int)))] [] G M (fun r M' => (r = some (vI 1) ∧ ptC X p v ∧ M' = rowA M (o + 5) (ptG X p v (M (o + 5)))) ∨ (r = some (vI 0) ∧ ¬ ptC X p v ∧ M' = M)) := by
    intro hp0 hv0 hpn f
    induction f with
    | zero => intro j h; exact absurd h (by omega)
    | succ f ih =>
      intro j hf hj
      refine wq_s 85 rfl ?_
      refine wq_if 123 rfl rfl (by omega) (fun c_85 => ?_) (fun c_85 => ?_)
      · have c_85 := of_decide_eq_true c_85
        have e9 : j = 3 := by omega
        subst e9
        have hB := lnR_rng (pl := (plN X p (v - 1).toNat 9)) (p := p) (by omega) (by omega) 3 (Nat.le_refl _)
        refine wq_s 125 rfl ?_
        refine wq_if 130 rfl rfl (by omega) (fun c_125 => ?_) (fun c_125 => ?_)
        · have c_125 := of_decide_eq_true c_125
          refine wq_s 131 rfl ?_
          refine wq_s 133 rfl ?_
          have hs : ptC X p v := ⟨hp0, hv0, hpn, c_125⟩
          have h := L_133 10 0 hs (by omega) (by omega)
          rw [show gsF (ptL X p v) (outB (ptL X p v) p) ((2 ^ (v - 1).toNat : Nat) : Int) (M (o + 5)) 0 = M (o + 5) from rfl, rowA_0] at h
          exact h
        · have c_125 := of_decide_eq_false c_125
          refine wq_s 129 rfl ?_
          exact wq_ret rfl (Or.inr ⟨rfl, fun z => (by have := z.2.2.2; unfold ptL at this; omega), rfl⟩)
      · have c_85 := of_decide_eq_false c_85
        have hcc := cellF_rng (h := p) (k := 3 * (2 - (j : Int))) (by omega) (by omega) (by omega) (by omega)
        have hpw : 2 ^ (3 * (2 - j)) ≤ 2 ^ 6 := Nat.pow_le_pow_right (by decide) (by omega)
        have hal := andN_lt (n := 7 * 2 ^ (3 * (2 - j))) hpl
        refine wq_s 90 rfl ?_
        refine wq_s 92 rfl ?_
        refine wq_s 93 rfl ?_
        refine wq_s 95 rfl ?_
        refine wq_mul 96 rfl rfl (by omega) ?_
        rw [show 3 * (2 - (j : Int)) = (((3 * (2 - j)) : Nat) : Int) by omega]
        refine wq_shl (m := 7) 97 rfl rfl (by omega) (by omega) ?_
        refine wq_s 98 rfl ?_
        refine wq_not 99 rfl rfl (by omega) ?_
        refine wq_andn 100 rfl rfl (by omega) ?_
        refine wq_if 117 rfl rfl (by omega) (fun c_100 => ?_) (fun c_100 => ?_)
        · have c_100 := of_decide_eq_true c_100
          rw [← show lnR (plN X p (v - 1).toNat 9) p (j + 1) = lnR (plN X p (v - 1).toNat 9) p j from if_neg (fun z => c_100 (by rw [z]; rfl))]
          refine wq_inc 120 _ rfl rfl rfl (by omega) rfl ?_
          refine wq_s 83 rfl ?_
          have h9 := ih (j + 1) (by omega) (by omega)
          rw [show (2 : Int) - ((j + 1 : Nat) : Int) = 2 - (j : Int) + -1 by omega] at h9
          exact h9
        · have c_100 := of_decide_eq_false c_100
          have e59 : lnR (plN X p (v - 1).toNat 9) p (j + 1) = houseF (cellF p (3 * (2 - (j : Int)))) 0 := if_pos (by omega)
          refine wq_s 104 rfl ?_
          refine wq_s 105 rfl ?_
          refine wq_s 107 rfl ?_
          refine wq_mul 108 rfl rfl (by omega) ?_
          refine wq_st2 111 rfl rfl (by decide) (Nat.le_of_ble_eq_true rfl) rfl (Nat.le_of_ble_eq_true rfl) (c_X9_cellOf (by omega) (by omega) (by omega) (by omega)) (fun r M1 hr => ?_)
          obtain ⟨rfl, hM1⟩ := hr
          subst M1
          dsimp only [Option.toList, List.cons_append, List.nil_append]
          refine wq_s 112 rfl ?_
          refine wq_st2 115 rfl rfl (by decide) (Nat.le_of_ble_eq_true rfl) rfl (Nat.le_of_ble_eq_true rfl) (c_X9_houseOf hcc.1 hcc.2 (by decide)) (fun r M1 hr => ?_)
          obtain ⟨rfl, hM1⟩ := hr
          subst M1
          dsimp only [Option.toList, List.cons_append, List.nil_append]
          refine wq_s 117 rfl ?_
          refine wq_inc 120 _ rfl rfl rfl (by omega) rfl ?_
          refine wq_s 83 rfl ?_
          have h9 := ih (j + 1) (by omega) (by omega)
          rw [show (2 : Int) - ((j + 1 : Nat) : Int) = 2 - (j : Int) + -1 by omega, e59] at h9
          exact h9
  have L_44 : (18 ≤ p ∧ p ≤ 26) → (1 ≤ v ∧ v ≤ 9) → plN X p (v - 1).toNat 9 ≠ 0 → ∀ (f j : Nat), 3 - j < f → j ≤ 3 → Wq (d + 2) k_X9_pointing 44 [some (vR o), some (vR q), some (vI p), some (vI v), some (vI (plN X p (v - 1).toNat 9 : Nat)), some (vI (lnC (plN X p (v - 1).toNat 9) p j)), some (vI (2 - (j : Int)))] [] G M (fun r M' => (r = some (vI 1) ∧ ptC X p v ∧ M' = rowA M (o + 5) (ptG X p v (M (o + 5)))) ∨ (r = some (vI 0) ∧ ¬ ptC X p v ∧ M' = M)) := by
    intro hp0 hv0 hpn f
    induction f with
    | zero => intro j h; exact absurd h (by omega)
    | succ f ih =>
      intro j hf hj
      refine wq_s 46 rfl ?_
      refine wq_if 80 rfl rfl (by omega) (fun c_46 => ?_) (fun c_46 => ?_)
      · have c_46 := of_decide_eq_true c_46
        have e9 : j = 3 := by omega
        subst e9
        refine wq_s 81 rfl ?_
        refine wq_s 83 rfl ?_
        exact L_83 hp0 hv0 hpn 4 0 (by omega) (by omega)
      · have c_46 := of_decide_eq_false c_46
        have hcc := cellF_rng (h := p) (k := 2 - (j : Int)) (by omega) (by omega) (by omega) (by omega)
        have hpw : 2 ^ (2 - j) ≤ 2 ^ 6 := Nat.pow_le_pow_right (by decide) (by omega)
        have hal := andN_lt (n := 73 * 2 ^ (2 - j)) hpl
        refine wq_s 51 rfl ?_
        refine wq_s 53 rfl ?_
        refine wq_s 55 rfl ?_
        rw [show 2 - (j : Int) = (((2 - j) : Nat) : Int) by omega]
        refine wq_shl (m := 73) 56 rfl rfl (by omega) (by omega) ?_
        rw [← show 2 - (j : Int) = (((2 - j) : Nat) : Int) by omega]
        refine wq_s 57 rfl ?_
        refine wq_not 58 rfl rfl (by omega) ?_
        refine wq_andn 59 rfl rfl (by omega) ?_
        refine wq_if 74 rfl rfl (by omega) (fun c_59 => ?_) (fun c_59 => ?_)
        · have c_59 := of_decide_eq_true c_59
          rw [← show lnC (plN X p (v - 1).toNat 9) p (j + 1) = lnC (plN X p (v - 1).toNat 9) p j from if_neg (fun z => c_59 (by rw [z]; rfl))]
          refine wq_inc 77 _ rfl rfl rfl (by omega) rfl ?_
          refine wq_s 44 rfl ?_
          have h9 := ih (j + 1) (by omega) (by omega)
          rw [show (2 : Int) - ((j + 1 : Nat) : Int) = 2 - (j : Int) + -1 by omega] at h9
          exact h9
        · have c_59 := of_decide_eq_false c_59
          have e59 : lnC (plN X p (v - 1).toNat 9) p (j + 1) = houseF (cellF p (2 - (j : Int))) 1 := if_pos (by omega)
          refine wq_s 63 rfl ?_
          refine wq_s 65 rfl ?_
          refine wq_st2 68 rfl rfl (by decide) (Nat.le_of_ble_eq_true rfl) rfl (Nat.le_of_ble_eq_true rfl) (c_X9_cellOf (by omega) (by omega) (by omega) (by omega)) (fun r M1 hr => ?_)
          obtain ⟨rfl, hM1⟩ := hr
          subst M1
          dsimp only [Option.toList, List.cons_append, List.nil_append]
          refine wq_s 69 rfl ?_
          refine wq_st2 72 rfl rfl (by decide) (Nat.le_of_ble_eq_true rfl) rfl (Nat.le_of_ble_eq_true rfl) (c_X9_houseOf hcc.1 hcc.2 (by decide)) (fun r M1 hr => ?_)
          obtain ⟨rfl, hM1⟩ := hr
          subst M1
          dsimp only [Option.toList, List.cons_append, List.nil_append]
          refine wq_s 74 rfl ?_
          refine wq_inc 77 _ rfl rfl rfl (by omega) rfl ?_
          refine wq_s 44 rfl ?_
          have h9 := ih (j + 1) (by omega) (by omega)
          rw [show (2 : Int) - ((j + 1 : Nat) : Int) = 2 - (j : Int) + -1 by omega, e59] at h9
          exact h9
  refine wq_s 1 rfl ?_
  refine wq_s 3 rfl ?_
  refine wq_s 5 rfl ?_
  refine wq_st3 8 rfl rfl (by decide) (Nat.le_of_ble_eq_true rfl) rfl (Nat.le_of_ble_eq_true rfl) (c_X9_in (by omega) (by omega) (by omega)) (fun r M1 hr => ?_)
  obtain ⟨rfl, hM1⟩ := hr
  subst M1
  dsimp only [Option.toList, List.cons_append, List.nil_append]
  refine wq_if 21 rfl rfl iteR (fun c_8 => ?_) (fun c_8 => ?_)
  · have c_8 := of_decide_eq_true c_8
    have c_8 := ite0.mp c_8
    refine wq_s 22 rfl ?_
    exact wq_ret rfl (Or.inr ⟨rfl, fun z => c_8 z.1, rfl⟩)
  · have c_8 := of_decide_eq_false c_8
    have c_8 := ite1.mp c_8
    refine wq_s 12 rfl ?_
    refine wq_s 13 rfl ?_
    refine wq_s 15 rfl ?_
    refine wq_st3 18 rfl rfl (by decide) (Nat.le_of_ble_eq_true rfl) rfl (Nat.le_of_ble_eq_true rfl) (c_X9_in (by omega) (by omega) (by omega)) (fun r M1 hr => ?_)
    obtain ⟨rfl, hM1⟩ := hr
    subst M1
    dsimp only [Option.toList, List.cons_append, List.nil_append]
    refine wq_if 23 rfl rfl iteR (fun c_18 => ?_) (fun c_18 => ?_)
    · have c_18 := of_decide_eq_true c_18
      have c_18 := ite1.mp c_18
      refine wq_s 24 rfl ?_
      refine wq_s 25 rfl ?_
      refine wq_s 26 rfl ?_
      have hcp := c_X9_placesOf (d := d) (M := M) (h := p) (e := (v - 1).toNat) (by omega) (by omega) (by omega) hq hT hX
      rw [show (((v - 1).toNat : Nat) : Int) + 1 = v by omega] at hcp
      refine wq_st3 29 rfl rfl (by decide) (Nat.le_of_ble_eq_true rfl) rfl (Nat.le_of_ble_eq_true rfl) hcp (fun r M1 hr => ?_)
      obtain ⟨rfl, hM1⟩ := hr
      subst M1
      dsimp only [Option.toList, List.cons_append, List.nil_append]
      refine wq_s 31 rfl ?_
      refine wq_s 33 rfl ?_
      refine wq_if 38 rfl rfl (by omega) (fun c_33 => ?_) (fun c_33 => ?_)
      · have c_33 := of_decide_eq_true c_33
        refine wq_s 39 rfl ?_
        refine wq_s 41 rfl ?_
        refine wq_s 42 rfl ?_
        refine wq_s 44 rfl ?_
        exact L_44 c_8 c_18 (by omega) 4 0 (by omega) (by omega)
      · have c_33 := of_decide_eq_false c_33
        refine wq_s 37 rfl ?_
        exact wq_ret rfl (Or.inr ⟨rfl, fun z => z.2.2.1 (by omega), rfl⟩)
    · have c_18 := of_decide_eq_false c_18
      have c_18 := iteN.mp c_18
      refine wq_s 22 rfl ?_
      exact wq_ret rfl (Or.inr ⟨rfl, fun z => c_18 z.2.1, rfl⟩)
