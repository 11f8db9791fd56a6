def hitB (X : Nat → Nat) (p : Int) (n : Nat) (k : Nat) : Bool := decide (X (cellF p k).toNat &&& n ≠ 0)
def cnN (X : Nat → Nat) (p : Int) (n : Nat) : Nat → Nat
  | 0 => 0
  | k + 1 => if hitB X p n k = true then cnN X p n k + 1 else cnN X p n k
theorem cnN_le {X : Nat → Nat} {p : Int} {n : Nat} : ∀ k, cnN X p n k ≤ k := by
  intro k
  induction k with
  | zero => exact Nat.le_refl _
  | succ k ih =>
    unfold cnN
    split <;> omega
def hidC (X : Nat → Nat) (p v m : Int) : Prop := (0 ≤ p ∧ p ≤ 26) ∧ (0 ≤ v ∧ v ≤ 511) ∧ (pop9 v.toNat : Int) = m ∧ (cnN X p v.toNat 9 : Int) = m
def hidG (X : Nat → Nat) (p v : Int) (Y : Int → Int) : Int → Int := gsF p (hitB X p v.toNat) ((andN 511 v.toNat : Nat) : Int) Y 9
theorem c_X9_hiddenN {d : Nat} {G : GT} {M : MT} {o q n : Nat} {X : Nat → Nat} {p m : Int} (hG : RefG G o) (hq : q < G.1) (hT : G.2.2 q = .inl (false, 81)) (hne : q ≠ o + 5) (hX : AtB M q X) (hp : R32 p) (hn : n < 512) (hm0 : R32 m) : Mq (d + 2) k_X9_hidden [vR o, vR q, vI p, vI (n : Int), vI m] G M (fun r M' => (r = some (vI 1) ∧ hidC X p (n : Int) m ∧ M' = rowA M (o + 5) (hidG X p (n : Int) (M (o + 5)))) ∨ (r = some (vI 0) ∧ ¬ hidC X p (n : Int) m ∧ M' = M)) := by
  have L_86 : ∀ (f k : Nat), hidC X p (n : Int) m → 9 - k < f → k ≤ 9 → Wq (d + 2) k_X9_hidden 86 [some (vR o), some (vR q), some (vI p), some (vI (n : Int)), some (vI m), some (vI (cnN X p n 9 : Nat)), some (vI (k : Int))] [] G (rowA M (o + 5) (gsF p (hitB X p n) ((andN 511 n : Nat) : Int) (M (o + 5)) k)) (fun r M' => (r = some (vI 1) ∧ hidC X p (n : Int) m ∧ M' = rowA M (o + 5) (hidG X p (n : Int) (M (o + 5)))) ∨ (r = some (vI 0) ∧ ¬ hidC X p (n : Int) m ∧ M' = M)) := by
    intro f
    induction f with
    | zero => intro k _ h; exact absurd h (by omega)
    | succ f ih =>
      intro k hs hf hk
      obtain ⟨⟨s1, s2⟩, -, -, -⟩ := id hs
      refine wq_s 88 rfl ?_
      refine wq_s 90 rfl ?_
      refine wq_icmp 130 rfl rfl (by omega) (by omega) (fun c_90 => ?_) (fun c_90 => ?_)
      · have c_90 := of_decide_eq_true c_90
        have e9 : k = 9 := by omega
        subst e9
        refine wq_s 131 rfl ?_
        exact wq_ret rfl (Or.inl ⟨rfl, hs, rfl⟩)
      · have c_90 := of_decide_eq_false c_90
        have hcr := cellF_rng (h := p) (k := (k : Int)) (by omega) (by omega) (by omega) (by omega)
        have hx := hX.at hcr.1 hcr.2
        have hxa := and_lt2 (k := 9) (n := n) hx.2
        refine wq_s 94 rfl ?_
        refine wq_s 95 rfl ?_
        refine wq_s 97 rfl ?_
        refine wq_st2 100 rfl rfl (by decide) (Nat.le_of_ble_eq_true rfl) rfl (Nat.le_of_ble_eq_true rfl) (c_X9_cellOf (by omega) (by omega) (by omega) (by omega)) (fun r M1 hr => ?_)
        obtain ⟨rfl, hM1⟩ := hr
        subst M1
        dsimp only [Option.toList, List.cons_append, List.nil_append]
        refine wq_iald 101 rfl rfl hq hT hcr.1 (by omega) (by omega) ((congrFun (rowA_ne hne) _).trans hx.1) ?_
        refine wq_s 102 rfl ?_
        refine wq_and 103 rfl rfl (by omega) ?_
        refine wq_if 124 rfl rfl (by omega) (fun c_103 => ?_) (fun c_103 => ?_)
        · have c_103 := of_decide_eq_true c_103
          rw [← gsF_f (c := hitB X p n) (k := k) (decide_eq_false (by omega))]
          refine wq_inc 127 _ rfl rfl rfl (by omega) rfl ?_
          refine wq_s 86 rfl ?_
          exact ih (k + 1) hs (by omega) (by omega)
        · have c_103 := of_decide_eq_false c_103
          refine wq_s 107 rfl ?_
          refine wq_getR 110 rfl rfl hG.ob hG.2.2.1 rfl ?_
          refine wq_s 111 rfl ?_
          refine wq_s 113 rfl ?_
          refine wq_st2 116 rfl rfl (by decide) (Nat.le_of_ble_eq_true rfl) rfl (Nat.le_of_ble_eq_true rfl) (c_X9_cellOf (by omega) (by omega) (by omega) (by omega)) (fun r M1 hr => ?_)
          obtain ⟨rfl, hM1⟩ := hr
          subst M1
          dsimp only [Option.toList, List.cons_append, List.nil_append]
          refine wq_s 119 rfl ?_
          refine wq_s 120 rfl ?_
          refine wq_s 121 rfl ?_
          refine wq_not 122 rfl rfl (by omega) ?_
          refine wq_andn (m := 511) 123 rfl rfl (by omega) ?_
          refine wq_iast 124 rfl rfl hG.a_gone.1 hG.a_gone.2 (by omega) (by omega) (by omega) ?_
          rw [rowA_up, ← gsF_t (c := hitB X p n) (k := k) (decide_eq_true (by omega))]
          refine wq_inc 127 _ rfl rfl rfl (by omega) rfl ?_
          refine wq_s 86 rfl ?_
          exact ih (k + 1) hs (by omega) (by omega)
  have L_38 : (0 ≤ p ∧ p ≤ 26) → (pop9 n : Int) = m → ∀ (f k : Nat), 9 - k < f → k ≤ 9 → Wq (d + 2) k_X9_hidden 38 [some (vR o), some (vR q), some (vI p), some (vI (n : Int)), some (vI m), some (vI (cnN X p n k : Nat)), some (vI (k : Int))] [] G M (fun r M' => (r = some (vI 1) ∧ hidC X p (n : Int) m ∧ M' = rowA M (o + 5) (hidG X p (n : Int) (M (o + 5)))) ∨ (r = some (vI 0) ∧ ¬ hidC X p (n : Int) m ∧ M' = M)) := by
    intro hp0 hm f
    induction f with
    | zero => intro k h; exact absurd h (by omega)
    | succ f ih =>
      intro k hf hk
      refine wq_s 40 rfl ?_
      refine wq_s 42 rfl ?_
      refine wq_icmp 74 rfl rfl (by omega) (by omega) (fun c_42 => ?_) (fun c_42 => ?_)
      · have c_42 := of_decide_eq_true c_42
        have e9 : k = 9 := by omega
        subst e9
        have hcn := cnN_le (X := X) (p := p) (n := n) 9
        refine wq_s 76 rfl ?_
        refine wq_s 78 rfl ?_
        refine wq_icmp 83 rfl rfl (by omega) (by omega) (fun c_78 => ?_) (fun c_78 => ?_)
        · have c_78 := of_decide_eq_true c_78
          refine wq_s 84 rfl ?_
          refine wq_s 86 rfl ?_
          have hs : hidC X p (n : Int) m := ⟨hp0, ⟨by omega, by omega⟩, hm, c_78⟩
          have h := L_86 10 0 hs (by omega) (by omega)
          rw [show gsF p (hitB X p n) ((andN 511 n : Nat) : Int) (M (o + 5)) 0 = M (o + 5) from rfl, rowA_0] at h
          exact h
        · have c_78 := of_decide_eq_false c_78
          refine wq_s 82 rfl ?_
          exact wq_ret rfl (Or.inr ⟨rfl, fun z => c_78 z.2.2.2, rfl⟩)
      · have c_42 := of_decide_eq_false c_42
        have hcr := cellF_rng (h := p) (k := (k : Int)) (by omega) (by omega) (by omega) (by omega)
        have hx := hX.at hcr.1 hcr.2
        have hxa := and_lt2 (k := 9) (n := n) hx.2
        have hcn := cnN_le (X := X) (p := p) (n := n) k
        refine wq_s 47 rfl ?_
        refine wq_s 48 rfl ?_
        refine wq_s 49 rfl ?_
        refine wq_s 51 rfl ?_
        refine wq_st2 54 rfl rfl (by decide) (Nat.le_of_ble_eq_true rfl) rfl (Nat.le_of_ble_eq_true rfl) (c_X9_cellOf (by omega) (by omega) (by omega) (by omega)) (fun r M1 hr => ?_)
        obtain ⟨rfl, hM1⟩ := hr
        subst M1
        dsimp only [Option.toList, List.cons_append, List.nil_append]
        refine wq_iald 55 rfl rfl hq hT hcr.1 (by omega) (by omega) hx.1 ?_
        refine wq_s 56 rfl ?_
        refine wq_and 57 rfl rfl (by omega) ?_
        refine wq_if 64 rfl rfl (by omega) (fun c_57 => ?_) (fun c_57 => ?_)
        · have c_57 := of_decide_eq_true c_57
          refine wq_s 65 rfl ?_
          refine wq_add 66 rfl rfl (by omega) ?_
          rw [show ((cnN X p n k : Nat) : Int) + 0 = ((cnN X p n (k + 1) : Nat) : Int) from by rw [show cnN X p n (k + 1) = cnN X p n k from if_neg (by rw [show hitB X p n k = false from decide_eq_false (by omega)]; decide)]; omega]
          refine wq_s 68 rfl ?_
          refine wq_inc 71 _ rfl rfl rfl (by omega) rfl ?_
          refine wq_s 38 rfl ?_
          exact ih (k + 1) (by omega) (by omega)
        · have c_57 := of_decide_eq_false c_57
          refine wq_s 61 rfl ?_
          refine wq_s 65 rfl ?_
          refine wq_add 66 rfl rfl (by omega) ?_
          rw [show ((cnN X p n k : Nat) : Int) + 1 = ((cnN X p n (k + 1) : Nat) : Int) from by rw [show cnN X p n (k + 1) = cnN X p n k + 1 from if_pos (show hitB X p n k = true from decide_eq_true (by omega))]; omega]
          refine wq_s 68 rfl ?_
          refine wq_inc 71 _ rfl rfl rfl (by omega) rfl ?_
          refine wq_s 38 rfl ?_
          exact ih (k + 1) (by omega) (by omega)
  refine wq_s 1 rfl ?_
  refine wq_s 2 rfl ?_
  refine wq_s 4 rfl ?_
  refine wq_st3 7 rfl rfl (by decide) (Nat.le_of_ble_eq_true rfl) rfl (Nat.le_of_ble_eq_true rfl) (c_X9_in (by omega) (by omega) (by omega)) (fun r M1 hr => ?_)
  obtain ⟨rfl, hM1⟩ := hr
  subst M1
  dsimp only [Option.toList, List.cons_append, List.nil_append]
  refine wq_if 30 rfl rfl iteR (fun c_7 => ?_) (fun c_7 => ?_)
  · have c_7 := of_decide_eq_true c_7
    have c_7 := ite0.mp c_7
    refine wq_s 31 rfl ?_
    exact wq_ret rfl (Or.inr ⟨rfl, fun z => c_7 z.1, rfl⟩)
  · have c_7 := of_decide_eq_false c_7
    have c_7 := ite1.mp c_7
    refine wq_s 11 rfl ?_
    refine wq_s 12 rfl ?_
    refine wq_s 15 rfl ?_
    refine wq_st3 18 rfl rfl (by decide) (Nat.le_of_ble_eq_true rfl) rfl (Nat.le_of_ble_eq_true rfl) (c_X9_in (by omega) (by omega) (by omega)) (fun r M1 hr => ?_)
    obtain ⟨rfl, hM1⟩ := hr
    subst M1
    dsimp only [Option.toList, List.cons_append, List.nil_append]
    refine wq_if 30 rfl rfl iteR (fun c_18 => ?_) (fun c_18 => ?_)
    · have c_18 := of_decide_eq_true c_18
      have c_18 := ite0.mp c_18
      refine wq_s 31 rfl ?_
      exact wq_ret rfl (Or.inr ⟨rfl, fun z => c_18 z.2.1, rfl⟩)
    · have c_18 := of_decide_eq_false c_18
      have c_18 := ite1.mp c_18
      refine wq_s 22 rfl ?_
      refine wq_st1 25 rfl rfl (by decide) (Nat.le_of_ble_eq_true rfl) rfl (Nat.le_of_ble_eq_true rfl) (c_X9_bits (by omega)) (fun r M1 hr => ?_)
      obtain ⟨rfl, hM1⟩ := hr
      subst M1
      dsimp only [Option.toList, List.cons_append, List.nil_append]
      have hpp := pop9_le n
      refine wq_s 27 rfl ?_
      refine wq_icmp 32 rfl rfl (by omega) (by omega) (fun c_27 => ?_) (fun c_27 => ?_)
      · have c_27 := of_decide_eq_true c_27
        refine wq_s 33 rfl ?_
        refine wq_s 35 rfl ?_
        refine wq_s 36 rfl ?_
        refine wq_s 38 rfl ?_
        exact L_38 c_7 c_27 10 0 (by omega) (by omega)
      · have c_27 := of_decide_eq_false c_27
        refine wq_s 31 rfl ?_
        exact wq_ret rfl (Or.inr ⟨rfl, fun z => c_27 z.2.2.1, rfl⟩)
