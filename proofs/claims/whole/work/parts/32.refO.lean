theorem c_X9_naked {d : Nat} {G : GT} {M : MT} {o q : Nat} {X : Nat → Nat} {p v m : Int} (hG : RefG G o) (hq : q < G.1) (hT : G.2.2 q = .inl (false, 81)) (hX : AtB M q X) (hp : R32 p) (hv : R32 v) (hm0 : R32 m) : Mq (d + 2) k_X9_naked [vR o, vR q, vI p, vI v, vI m] G M (fun r M' => (r = some (vI 1) ∧ nakC X p v m ∧ M' = rowA M (o + 5) (nakG X p v (M (o + 5)))) ∨ (r = some (vI 0) ∧ ¬ nakC X p v m ∧ M' = M)) := by
  by_cases hb : 0 ≤ v ∧ v ≤ 511
  · obtain ⟨n, rfl⟩ := Int.eq_ofNat_of_zero_le hb.1
    exact c_X9_nakedN hG hq hT hX hp (by omega) hm0
  · skip
    refine wq_s 1 rfl ?_
    refine wq_s 2 rfl ?_
    refine wq_s 4 rfl ?_
    refine wq_st3 7 rfl rfl (by decide) (Nat.le_of_ble_eq_true rfl) rfl (Nat.le_of_ble_eq_true rfl) (c_X9_in (by omega) (by omega) (by omega)) (fun r M1 hr => ?_)
    obtain ⟨rfl, hM1⟩ := hr
    subst M1
    dsimp only [Option.toList, List.cons_append, List.nil_append]
    refine wq_if 30 rfl rfl iteR (fun c_7 => ?_) (fun c_7 => ?_)
    · have c_7 := of_decide_eq_true c_7
      have c_7 := ite0.mp c_7
      refine wq_s 31 rfl ?_
      exact wq_ret rfl (Or.inr ⟨rfl, fun z => c_7 z.1, rfl⟩)
    · have c_7 := of_decide_eq_false c_7
      have c_7 := ite1.mp c_7
      refine wq_s 11 rfl ?_
      refine wq_s 12 rfl ?_
      refine wq_s 15 rfl ?_
      refine wq_st3 18 rfl rfl (by decide) (Nat.le_of_ble_eq_true rfl) rfl (Nat.le_of_ble_eq_true rfl) (c_X9_in (by omega) (by omega) (by omega)) (fun r M1 hr => ?_)
      obtain ⟨rfl, hM1⟩ := hr
      subst M1
      dsimp only [Option.toList, List.cons_append, List.nil_append]
      refine wq_if 30 rfl rfl iteR (fun c_18 => ?_) (fun c_18 => ?_)
      · have c_18 := of_decide_eq_true c_18
        have c_18 := ite0.mp c_18
        refine wq_s 31 rfl ?_
        exact wq_ret rfl (Or.inr ⟨rfl, fun z => c_18 z.2.1, rfl⟩)
      · have c_18 := of_decide_eq_false c_18
        have c_18 := ite1.mp c_18
        exact absurd c_18 hb
theorem c_X9_hidden {d : Nat} {G : GT} {M : MT} {o q : Nat} {X : Nat → Nat} {p v m : Int} (hG : RefG G o) (hq : q < G.1) (hT : G.2.2 q = .inl (false, 81)) (hne : q ≠ o + 5) (hX : AtB M q X) (hp : R32 p) (hv : R32 v) (hm0 : R32 m) : Mq (d + 2) k_X9_hidden [vR o, vR q, vI p, vI v, vI m] G M (fun r M' => (r = some (vI 1) ∧ hidC X p v m ∧ M' = rowA M (o + 5) (hidG X p v (M (o + 5)))) ∨ (r = some (vI 0) ∧ ¬ hidC X p v m ∧ M' = M)) := by
  by_cases hb : 0 ≤ v ∧ v ≤ 511
  · obtain ⟨n, rfl⟩ := Int.eq_ofNat_of_zero_le hb.1
    exact c_X9_hiddenN hG hq hT hne hX hp (by omega) hm0
  · skip
    refine wq_s 1 rfl ?_
    refine wq_s 2 rfl ?_
    refine wq_s 4 rfl ?_
    refine wq_st3 7 rfl rfl (by decide) (Nat.le_of_ble_eq_true rfl) rfl (Nat.le_of_ble_eq_true rfl) (c_X9_in (by omega) (by omega) (by omega)) (fun r M1 hr => ?_)
    obtain ⟨rfl, hM1⟩ := hr
    subst M1
    dsimp only [Option.toList, List.cons_append, List.nil_append]
    refine wq_if 30 rfl rfl iteR (fun c_7 => ?_) (fun c_7 => ?_)
    · have c_7 := of_decide_eq_true c_7
      have c_7 := ite0.mp c_7
      refine wq_s 31 rfl ?_
      exact wq_ret rfl (Or.inr ⟨rfl, fun z => c_7 z.1, rfl⟩)
    · have c_7 := of_decide_eq_false c_7
      have c_7 := ite1.mp c_7
      refine wq_s 11 rfl ?_
      refine wq_s 12 rfl ?_
      refine wq_s 15 rfl ?_
      refine wq_st3 18 rfl rfl (by decide) (Nat.le_of_ble_eq_true rfl) rfl (Nat.le_of_ble_eq_true rfl) (c_X9_in (by omega) (by omega) (by omega)) (fun r M1 hr => ?_)
      obtain ⟨rfl, hM1⟩ := hr
      subst M1
      dsimp only [Option.toList, List.cons_append, List.nil_append]
      refine wq_if 30 rfl rfl iteR (fun c_18 => ?_) (fun c_18 => ?_)
      · have c_18 := of_decide_eq_true c_18
        have c_18 := ite0.mp c_18
        refine wq_s 31 rfl ?_
        exact wq_ret rfl (Or.inr ⟨rfl, fun z => c_18 z.2.1, rfl⟩)
      · have c_18 := of_decide_eq_false c_18
        have c_18 := ite1.mp c_18
        exact absurd c_18 hb
