def unN (X : Nat → Nat) (p : Int) (q : Nat) : Nat → Nat
  | 0 => 0
  | k + 1 => if bitB q k = true then unN X p q k ||| X (cellF p k).toNat else unN X p q k
theorem unN_lt {X : Nat → Nat} {p : Int} {q : Nat} (hX : ∀ c, c < 81 → X c < 512) (h0 : 0 ≤ p) (h1 : p < 27) : ∀ k, k ≤ 9 → unN X p q k < 512 := by
  intro k
  induction k with
  | zero => intro _; exact Nat.zero_lt_succ _
  | succ k ih =>
    intro hk
    have hr := cellF_rng (h := p) (k := (k : Int)) h0 h1 (by omega) (by omega)
    unfold unN
    split
    · exact or_lt2 (k := 9) (ih (by omega)) (hX _ (by omega))
    · exact ih (by omega)
def nakC (X : Nat → Nat) (p v m : Int) : Prop := (0 ≤ p ∧ p ≤ 26) ∧ (0 ≤ v ∧ v ≤ 511) ∧ (pop9 v.toNat : Int) = m ∧ (pop9 (unN X p v.toNat 9) : Int) = m
def nakG (X : Nat → Nat) (p v : Int) (Y : Int → Int) : Int → Int := gsF p (fun k => !bitB v.toNat k) ((unN X p v.toNat 9 : Nat) : Int) Y 9
theorem c_X9_nakedN {d : Nat} {G : GT} {M : MT} {o q n : Nat} {X : Nat → Nat} {p m : Int} (hG : RefG G o) (hq : q < G.1) (hT : G.2.2 q = .inl (false, 81)) (hX : AtB M q X) (hp : R32 p) (hn : n < 512) (hm0 : R32 m) : Mq (d + 2) k_X9_naked [vR o, vR q, vI p, vI (n : Int), vI m] G M (fun r M' => (r = some (vI 1) ∧ nakC X p (n : Int) m ∧ M' = rowA M (o + 5) (nakG X p (n : Int) (M (o + 5)))) ∨ (r = some (vI 0) ∧ ¬ nakC X p (n : Int) m ∧ M' = M)) := by
  have L_89 : ∀ (f k : Nat), nakC X p (n : Int) m → 9 - k < f → k ≤ 9 → Wq (d + 2) k_X9_naked 89 [some (vR o), some (vR q), some (vI p), some (vI (n : Int)), some (vI m), some (vI (unN X p n 9 : Nat)), some (vI (k : Int))] [] G (rowA M (o + 5) (gsF p (fun k => !bitB n k) ((unN X p n 9 : Nat) : Int) (M (o + 5)) k)) (fun r M' => (r = some (vI 1) ∧ nakC X p (n : Int) m ∧ M' = rowA M (o + 5) (nakG X p (n : Int) (M (o + 5)))) ∨ (r = some (vI 0) ∧ ¬ nakC X p (n : Int) m ∧ M' = M)) := by
    intro f
    induction f with
    | zero => intro k _ h; exact absurd h (by omega)
    | succ f ih =>
      intro k hs hf hk
      obtain ⟨⟨s1, s2⟩, -, -, -⟩ := id hs
      refine wq_s 91 rfl ?_
      refine wq_s 93 rfl ?_
      refine wq_icmp 124 rfl rfl (by omega) (by omega) (fun c_93 => ?_) (fun c_93 => ?_)
      · have c_93 := of_decide_eq_true c_93
        have e9 : k = 9 := by omega
        subst e9
        refine wq_s 125 rfl ?_
        exact wq_ret rfl (Or.inl ⟨rfl, hs, rfl⟩)
      · have c_93 := of_decide_eq_false c_93
        have hcr := cellF_rng (h := p) (k := (k : Int)) (by omega) (by omega) (by omega) (by omega)
        refine wq_s 97 rfl ?_
        refine wq_s 99 rfl ?_
        refine wq_shr 100 rfl rfl (by omega) (by omega) ?_
        refine wq_s 101 rfl ?_
        refine wq_and (n := 1) 102 rfl rfl (Nat.lt_of_le_of_lt (Nat.div_le_self _ _) (by omega)) ?_
        rw [and_1]
        refine wq_if 118 rfl rfl (by omega) (fun c_102 => ?_) (fun c_102 => ?_)
        · have c_102 := of_decide_eq_true c_102
          rw [← gsF_f (c := fun k => !bitB n k) (k := k) (show (!bitB n k) = false from by rw [show bitB n k = true from decide_eq_true (by omega)]; rfl)]
          refine wq_inc 121 _ rfl rfl rfl (by omega) rfl ?_
          refine wq_s 89 rfl ?_
          exact ih (k + 1) hs (by omega) (by omega)
        · have c_102 := of_decide_eq_false c_102
          refine wq_s 106 rfl ?_
          refine wq_getR 109 rfl rfl hG.ob hG.2.2.1 rfl ?_
          refine wq_s 110 rfl ?_
          refine wq_s 112 rfl ?_
          refine wq_st2 115 rfl rfl (by decide) (Nat.le_of_ble_eq_true rfl) rfl (Nat.le_of_ble_eq_true rfl) (c_X9_cellOf (by omega) (by omega) (by omega) (by omega)) (fun r M1 hr => ?_)
          obtain ⟨rfl, hM1⟩ := hr
          subst M1
          dsimp only [Option.toList, List.cons_append, List.nil_append]
          refine wq_s 117 rfl ?_
          refine wq_iast 118 rfl rfl hG.a_gone.1 hG.a_gone.2 (by omega) (by omega) (by omega) ?_
          rw [rowA_up, ← gsF_t (c := fun k => !bitB n k) (k := k) (show (!bitB n k) = true from by rw [show bitB n k = false from decide_eq_false (by omega)]; rfl)]
          refine wq_inc 121 _ rfl rfl rfl (by omega) rfl ?_
          refine wq_s 89 rfl ?_
          exact ih (k + 1) hs (by omega) (by omega)
  have L_38 : (0 ≤ p ∧ p ≤ 26) → (pop9 n : Int) = m → ∀ (f k : Nat), 9 - k < f → k ≤ 9 → Wq (d + 2) k_X9_naked 38 [some (vR o), some (vR q), some (vI p), some (vI (n : Int)), some (vI m), some (vI (unN X p n k : Nat)), some (vI (k : Int))] [] G M (fun r M' => (r = some (vI 1) ∧ nakC X p (n : Int) m ∧ M' = rowA M (o + 5) (nakG X p (n : Int) (M (o + 5)))) ∨ (r = some (vI 0) ∧ ¬ nakC X p (n : Int) m ∧ M' = M)) := by
    intro hp0 hm f
    induction f with
    | zero => intro k h; exact absurd h (by omega)
    | succ f ih =>
      intro k hf hk
      refine wq_s 40 rfl ?_
      refine wq_s 42 rfl ?_
      refine wq_icmp 74 rfl rfl (by omega) (by omega) (fun c_42 => ?_) (fun c_42 => ?_)
      · have c_42 := of_decide_eq_true c_42
        have e9 : k = 9 := by omega
        subst e9
        have hun := unN_lt (q := n) (fun c hc => (hX c hc).2) hp0.1 (by omega) 9 (by omega)
        have hpp := pop9_le (unN X p n 9)
        refine wq_s 76 rfl ?_
        refine wq_st1 79 rfl rfl (by decide) (Nat.le_of_ble_eq_true rfl) rfl (Nat.le_of_ble_eq_true rfl) (c_X9_bits hun) (fun r M1 hr => ?_)
        obtain ⟨rfl, hM1⟩ := hr
        subst M1
        dsimp only [Option.toList, List.cons_append, List.nil_append]
        refine wq_s 81 rfl ?_
        refine wq_icmp 86 rfl rfl (by omega) (by omega) (fun c_81 => ?_) (fun c_81 => ?_)
        · have c_81 := of_decide_eq_true c_81
          refine wq_s 87 rfl ?_
          refine wq_s 89 rfl ?_
          have hs : nakC X p (n : Int) m := ⟨hp0, ⟨by omega, by omega⟩, hm, c_81⟩
          have h := L_89 10 0 hs (by omega) (by omega)
          rw [show gsF p (fun k => !bitB n k) ((unN X p n 9 : Nat) : Int) (M (o + 5)) 0 = M (o + 5) from rfl, rowA_0] at h
          exact h
        · have c_81 := of_decide_eq_false c_81
          refine wq_s 85 rfl ?_
          exact wq_ret rfl (Or.inr ⟨rfl, fun z => c_81 z.2.2.2, rfl⟩)
      · have c_42 := of_decide_eq_false c_42
        have hcr := cellF_rng (h := p) (k := (k : Int)) (by omega) (by omega) (by omega) (by omega)
        have hx := hX.at hcr.1 hcr.2
        have hun := unN_lt (q := n) (fun c hc => (hX c hc).2) hp0.1 (by omega) k (by omega)
        refine wq_s 46 rfl ?_
        refine wq_s 48 rfl ?_
        refine wq_shr 49 rfl rfl (by omega) (by omega) ?_
        refine wq_s 50 rfl ?_
        refine wq_and (n := 1) 51 rfl rfl (Nat.lt_of_le_of_lt (Nat.div_le_self _ _) (by omega)) ?_
        rw [and_1]
        refine wq_s 52 rfl ?_
        refine wq_icmp 68 rfl rfl (by omega) (by omega) (fun c_52 => ?_) (fun c_52 => ?_)
        · have c_52 := of_decide_eq_true c_52
          rw [← show unN X p n (k + 1) = unN X p n k from if_neg (by rw [show bitB n k = false from decide_eq_false (by omega)]; decide)]
          refine wq_inc 71 _ rfl rfl rfl (by omega) rfl ?_
          refine wq_s 38 rfl ?_
          exact ih (k + 1) (by omega) (by omega)
        · have c_52 := of_decide_eq_false c_52
          refine wq_s 57 rfl ?_
          refine wq_s 58 rfl ?_
          refine wq_s 59 rfl ?_
          refine wq_s 61 rfl ?_
          refine wq_st2 64 rfl rfl (by decide) (Nat.le_of_ble_eq_true rfl) rfl (Nat.le_of_ble_eq_true rfl) (c_X9_cellOf (by omega) (by omega) (by omega) (by omega)) (fun r M1 hr => ?_)
          obtain ⟨rfl, hM1⟩ := hr
          subst M1
          dsimp only [Option.toList, List.cons_append, List.nil_append]
          refine wq_iald 65 rfl rfl hq hT hcr.1 (by omega) (by omega) hx.1 ?_
          refine wq_or 66 rfl rfl (by omega) (by omega) ?_
          rw [← show unN X p n (k + 1) = unN X p n k ||| X (cellF p k).toNat from if_pos (show bitB n k = true from decide_eq_true (by omega))]
          refine wq_s 68 rfl ?_
          refine wq_inc 71 _ rfl rfl rfl (by omega) rfl ?_
          refine wq_s 38 rfl ?_
          exact ih (k + 1) (by omega) (by omega)
  refine wq_s 1 rfl ?_
  refine wq_s 2 rfl ?_
  refine wq_s 4 rfl ?_
  refine wq_st3 7 rfl rfl (by decide) (Nat.le_of_ble_eq_true rfl) rfl (Nat.le_of_ble_eq_true rfl) (c_X9_in (by omega) (by omega) (by omega)) (fun r M1 hr => ?_)
  obtain ⟨rfl, hM1⟩ := hr
  subst M1
  dsimp only [Option.toList, List.cons_append, List.nil_append]
  refine wq_if 30 rfl rfl iteR (fun c_7 => ?_) (fun c_7 => ?_)
  · have c_7 := of_decide_eq_true c_7
    have c_7 := ite0.mp c_7
    refine wq_s 31 rfl ?_
    exact wq_ret rfl (Or.inr ⟨rfl, fun z => c_7 z.1, rfl⟩)
  · have c_7 := of_decide_eq_false c_7
    have c_7 := ite1.mp c_7
    refine wq_s 11 rfl ?_
    refine wq_s 12 rfl ?_
    refine wq_s 15 rfl ?_
    refine wq_st3 18 rfl rfl (by decide) (Nat.le_of_ble_eq_true rfl) rfl (Nat.le_of_ble_eq_true rfl) (c_X9_in (by omega) (by omega) (by omega)) (fun r M1 hr => ?_)
    obtain ⟨rfl, hM1⟩ := hr
    subst M1
    dsimp only [Option.toList, List.cons_append, List.nil_append]
    refine wq_if 30 rfl rfl iteR (fun c_18 => ?_) (fun c_18 => ?_)
    · have c_18 := of_decide_eq_true c_18
      have c_18 := ite0.mp c_18
      refine wq_s 31 rfl ?_
      exact wq_ret rfl (Or.inr ⟨rfl, fun z => c_18 z.2.1, rfl⟩)
    · have c_18 := of_decide_eq_false c_18
      have c_18 := ite1.mp c_18
      refine wq_s 22 rfl ?_
      refine wq_st1 25 rfl rfl (by decide) (Nat.le_of_ble_eq_true rfl) rfl (Nat.le_of_ble_eq_true rfl) (c_X9_bits (by omega)) (fun r M1 hr => ?_)
      obtain ⟨rfl, hM1⟩ := hr
      subst M1
      dsimp only [Option.toList, List.cons_append, List.nil_append]
      have hpp := pop9_le n
      refine wq_s 27 rfl ?_
      refine wq_icmp 32 rfl rfl (by omega) (by omega) (fun c_27 => ?_) (fun c_27 => ?_)
      · have c_27 := of_decide_eq_true c_27
        refine wq_s 33 rfl ?_
        refine wq_s 35 rfl ?_
        refine wq_s 36 rfl ?_
        refine wq_s 38 rfl ?_
        exact L_38 c_7 c_27 10 0 (by omega) (by omega)
      · have c_27 := of_decide_eq_false c_27
        refine wq_s 31 rfl ?_
        exact wq_ret rfl (Or.inr ⟨rfl, fun z => c_27 z.2.2.1, rfl⟩)
