/-- two nodes are weak -/
def weakC (X : Nat → Nat) (u v : Nat) : Prop := u ≠ v ∧ hasN X u = 1 ∧ hasN X v = 1 ∧ (u / 9 = v / 9 ∨ (u % 9 = v % 9 ∧ peersF ((u : Int) / 9) ((v : Int) / 9) = 1))
theorem hasN_01 (X : Nat → Nat) (n : Nat) : hasN X n < 2 := Nat.mod_lt _ (by decide)
theorem c_X9_isWeak {d : Nat} {G : GT} {M : MT} {q u v : Nat} {X : Nat → Nat} (hu : u < 729) (hv : v < 729) (hq : q < G.1) (hT : G.2.2 q = .inl (false, 81)) (hX : AtB M q X) : Mq (d + 2) k_X9_isWeak [vR q, vI (u : Int), vI (v : Int)] G M (fun r M' => (r = some (vI 1) ∧ weakC X u v ∧ M' = M) ∨ (r = some (vI 0) ∧ ¬ weakC X u v ∧ M' = M)) := by
  have h1 := hasN_01 X u
  have h2 := hasN_01 X v
  refine wq_s 1 rfl ?_
  refine wq_s 2 rfl ?_
  refine wq_icmp 21 rfl rfl (by omega) (by omega) (fun c_2 => ?_) (fun c_2 => ?_)
  · have c_2 := of_decide_eq_true c_2
    refine wq_s 22 rfl ?_
    exact wq_ret rfl (Or.inr ⟨rfl, fun z => z.1 (by omega), rfl⟩)
  · have c_2 := of_decide_eq_false c_2
    refine wq_s 6 rfl ?_
    refine wq_s 7 rfl ?_
    refine wq_st2 10 rfl rfl (by decide) (Nat.le_of_ble_eq_true rfl) rfl (Nat.le_of_ble_eq_true rfl) (c_X9_isThere hu hq hT hX) (fun r M1 hr => ?_)
    obtain ⟨rfl, hM1⟩ := hr
    subst M1
    dsimp only [Option.toList, List.cons_append, List.nil_append]
    refine wq_if 21 rfl rfl (by omega) (fun c_10 => ?_) (fun c_10 => ?_)
    · have c_10 := of_decide_eq_true c_10
      refine wq_s 22 rfl ?_
      exact wq_ret rfl (Or.inr ⟨rfl, fun z => (by have := z.2.1; omega), rfl⟩)
    · have c_10 := of_decide_eq_false c_10
      refine wq_s 14 rfl ?_
      refine wq_s 15 rfl ?_
      refine wq_st2 18 rfl rfl (by decide) (Nat.le_of_ble_eq_true rfl) rfl (Nat.le_of_ble_eq_true rfl) (c_X9_isThere hv hq hT hX) (fun r M1 hr => ?_)
      obtain ⟨rfl, hM1⟩ := hr
      subst M1
      dsimp only [Option.toList, List.cons_append, List.nil_append]
      refine wq_if 23 rfl rfl (by omega) (fun c_18 => ?_) (fun c_18 => ?_)
      · have c_18 := of_decide_eq_true c_18
        refine wq_s 24 rfl ?_
        refine wq_s 26 rfl ?_
        refine wq_div 27 rfl rfl (by omega) (by omega) (by omega) (by omega) ?_
        refine wq_s 28 rfl ?_
        refine wq_s 30 rfl ?_
        refine wq_div 31 rfl rfl (by omega) (by omega) (by omega) (by omega) ?_
        refine wq_icmp 59 rfl rfl (by omega) (by omega) (fun c_31 => ?_) (fun c_31 => ?_)
        · have c_31 := of_decide_eq_true c_31
          refine wq_s 60 rfl ?_
          refine wq_s 64 rfl ?_
          exact wq_ret rfl (Or.inl ⟨rfl, ⟨by omega, by omega, by omega, Or.inl (by omega)⟩, rfl⟩)
        · have c_31 := of_decide_eq_false c_31
          refine wq_s 35 rfl ?_
          refine wq_s 37 rfl ?_
          refine wq_rem 38 rfl rfl (by omega) (by omega) (by omega) (by omega) ?_
          refine wq_s 39 rfl ?_
          refine wq_s 41 rfl ?_
          refine wq_rem 42 rfl rfl (by omega) (by omega) (by omega) (by omega) ?_
          refine wq_icmp 63 rfl rfl (by omega) (by omega) (fun c_42 => ?_) (fun c_42 => ?_)
          · have c_42 := of_decide_eq_true c_42
            refine wq_s 64 rfl ?_
            exact wq_ret rfl (Or.inr ⟨rfl, fun z => (by rcases z.2.2.2 with y | y; omega; have := y.1; omega), rfl⟩)
          · have c_42 := of_decide_eq_false c_42
            refine wq_s 46 rfl ?_
            refine wq_s 48 rfl ?_
            refine wq_div 49 rfl rfl (by omega) (by omega) (by omega) (by omega) ?_
            refine wq_s 50 rfl ?_
            refine wq_s 52 rfl ?_
            refine wq_div 53 rfl rfl (by omega) (by omega) (by omega) (by omega) ?_
            refine wq_st2 56 rfl rfl (by decide) (Nat.le_of_ble_eq_true rfl) rfl (Nat.le_of_ble_eq_true rfl) (c_X9_arePeers (by omega) (by omega) (by omega) (by omega)) (fun r M1 hr => ?_)
            obtain ⟨rfl, hM1⟩ := hr
            subst M1
            dsimp only [Option.toList, List.cons_append, List.nil_append]
            have hpr := peersF_01 ((u : Int) / 9) ((v : Int) / 9)
            refine wq_if 63 rfl rfl (by omega) (fun c_56 => ?_) (fun c_56 => ?_)
            · have c_56 := of_decide_eq_true c_56
              refine wq_s 64 rfl ?_
              exact wq_ret rfl (Or.inr ⟨rfl, fun z => (by rcases z.2.2.2 with y | y; omega; have := y.2; omega), rfl⟩)
            · have c_56 := of_decide_eq_false c_56
              refine wq_s 60 rfl ?_
              refine wq_s 64 rfl ?_
              exact wq_ret rfl (Or.inl ⟨rfl, ⟨by omega, by omega, by omega, Or.inr ⟨by omega, by omega⟩⟩, rfl⟩)
      · have c_18 := of_decide_eq_false c_18
        refine wq_s 22 rfl ?_
        exact wq_ret rfl (Or.inr ⟨rfl, fun z => (by have := z.2.2.1; omega), rfl⟩)
