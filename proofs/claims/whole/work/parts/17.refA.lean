/-! the reference: small functions of numbers -/
theorem c_X9_in {d : Nat} {G : GT} {M : MT} {v x y : Int} (hv : R32 v) (hx : R32 x) (hy : R32 y) : Mq d k_X9_in [vI v, vI x, vI y] G M (fun r M' => r = some (vI (if x ≤ v ∧ v ≤ y then 1 else 0)) ∧ M' = M) := by
  refine wq_s 1 rfl ?_
  refine wq_s 2 rfl ?_
  refine wq_icmp 14 rfl rfl (by omega) (by omega) (fun c_2 => ?_) (fun c_2 => ?_)
  · have c_2 := of_decide_eq_true c_2
    refine wq_s 15 rfl ?_
    exact wq_ret rfl ⟨congrArg (fun z => some (vI z)) (by (repeat' split) <;> omega), rfl⟩
  · have c_2 := of_decide_eq_false c_2
    refine wq_s 6 rfl ?_
    refine wq_s 7 rfl ?_
    refine wq_icmp 14 rfl rfl (by omega) (by omega) (fun c_7 => ?_) (fun c_7 => ?_)
    · have c_7 := of_decide_eq_true c_7
      refine wq_s 15 rfl ?_
      exact wq_ret rfl ⟨congrArg (fun z => some (vI z)) (by (repeat' split) <;> omega), rfl⟩
    · have c_7 := of_decide_eq_false c_7
      refine wq_s 11 rfl ?_
      refine wq_s 15 rfl ?_
      exact wq_ret rfl ⟨congrArg (fun z => some (vI z)) (by (repeat' split) <;> omega), rfl⟩
def cellF (h k : Int) : Int := if h < 9 then 9 * h + k else if h < 18 then 9 * k + h - 9 else 9 * (3 * ((h - 18) / 3) + k / 3) + 3 * ((h - 18) % 3) + k % 3
theorem c_X9_cellOf {d : Nat} {G : GT} {M : MT} {h k : Int} (h0 : 0 ≤ h) (h1 : h < 27) (k0 : 0 ≤ k) (k1 : k < 9) : Mq d k_X9_cellOf [vI h, vI k] G M (fun r M' => r = some (vI (cellF h k)) ∧ M' = M) := by
  refine wq_s 1 rfl ?_
  refine wq_s 3 rfl ?_
  refine wq_icmp 13 rfl rfl (by omega) (by omega) (fun c_3 => ?_) (fun c_3 => ?_)
  · have c_3 := of_decide_eq_true c_3
    refine wq_s 14 rfl ?_
    refine wq_s 16 rfl ?_
    refine wq_icmp 29 rfl rfl (by omega) (by omega) (fun c_16 => ?_) (fun c_16 => ?_)
    · have c_16 := of_decide_eq_true c_16
      refine wq_s 30 rfl ?_
      refine wq_s 32 rfl ?_
      refine wq_sub 33 rfl rfl (by omega) ?_
      refine wq_s 34 rfl ?_
      refine wq_s 36 rfl ?_
      refine wq_s 37 rfl ?_
      refine wq_s 38 rfl ?_
      refine wq_s 39 rfl ?_
      refine wq_div 40 rfl rfl (by omega) (by omega) (by omega) (by omega) ?_
      refine wq_mul 41 rfl rfl (by omega) ?_
      refine wq_s 42 rfl ?_
      refine wq_s 43 rfl ?_
      refine wq_div 44 rfl rfl (by omega) (by omega) (by omega) (by omega) ?_
      refine wq_add 45 rfl rfl (by omega) ?_
      refine wq_mul 46 rfl rfl (by omega) ?_
      refine wq_s 47 rfl ?_
      refine wq_s 48 rfl ?_
      refine wq_s 49 rfl ?_
      refine wq_rem 50 rfl rfl (by omega) (by omega) (by omega) (by omega) ?_
      refine wq_mul 51 rfl rfl (by omega) ?_
      refine wq_add 52 rfl rfl (by omega) ?_
      refine wq_s 53 rfl ?_
      refine wq_s 54 rfl ?_
      refine wq_rem 55 rfl rfl (by omega) (by omega) (by omega) (by omega) ?_
      refine wq_add 56 rfl rfl (by omega) ?_
      exact wq_ret rfl ⟨congrArg (fun z => some (vI z)) (by unfold cellF; (repeat' split) <;> omega), rfl⟩
    · have c_16 := of_decide_eq_false c_16
      refine wq_s 21 rfl ?_
      refine wq_s 22 rfl ?_
      refine wq_mul 23 rfl rfl (by omega) ?_
      refine wq_s 24 rfl ?_
      refine wq_add 25 rfl rfl (by omega) ?_
      refine wq_s 27 rfl ?_
      refine wq_sub 28 rfl rfl (by omega) ?_
      exact wq_ret rfl ⟨congrArg (fun z => some (vI z)) (by unfold cellF; (repeat' split) <;> omega), rfl⟩
  · have c_3 := of_decide_eq_false c_3
    refine wq_s 8 rfl ?_
    refine wq_s 9 rfl ?_
    refine wq_mul 10 rfl rfl (by omega) ?_
    refine wq_s 11 rfl ?_
    refine wq_add 12 rfl rfl (by omega) ?_
    exact wq_ret rfl ⟨congrArg (fun z => some (vI z)) (by unfold cellF; (repeat' split) <;> omega), rfl⟩
def houseF (c s : Int) : Int := if s = 0 then c / 9 else if s = 1 then 9 + c % 9 else 18 + 3 * (c / 9 / 3) + c % 9 / 3
theorem c_X9_houseOf {d : Nat} {G : GT} {M : MT} {c s : Int} (h0 : 0 ≤ c) (h1 : c < 81) (k0 : R32 s) : Mq d k_X9_houseOf [vI c, vI s] G M (fun r M' => r = some (vI (houseF c s)) ∧ M' = M) := by
  refine wq_s 1 rfl ?_
  refine wq_s 3 rfl ?_
  refine wq_div 4 rfl rfl (by omega) (by omega) (by omega) (by omega) ?_
  refine wq_s 5 rfl ?_
  refine wq_s 6 rfl ?_
  refine wq_s 8 rfl ?_
  refine wq_rem 9 rfl rfl (by omega) (by omega) (by omega) (by omega) ?_
  refine wq_s 10 rfl ?_
  refine wq_s 11 rfl ?_
  refine wq_if 18 rfl rfl (by omega) (fun c_11 => ?_) (fun c_11 => ?_)
  · have c_11 := of_decide_eq_true c_11
    refine wq_s 19 rfl ?_
    refine wq_s 20 rfl ?_
    refine wq_icmp 30 rfl rfl (by omega) (by omega) (fun c_20 => ?_) (fun c_20 => ?_)
    · have c_20 := of_decide_eq_true c_20
      refine wq_s 32 rfl ?_
      refine wq_s 33 rfl ?_
      refine wq_s 34 rfl ?_
      refine wq_s 35 rfl ?_
      refine wq_div 36 rfl rfl (by omega) (by omega) (by omega) (by omega) ?_
      refine wq_mul 37 rfl rfl (by omega) ?_
      refine wq_add 38 rfl rfl (by omega) ?_
      refine wq_s 39 rfl ?_
      refine wq_s 40 rfl ?_
      refine wq_div 41 rfl rfl (by omega) (by omega) (by omega) (by omega) ?_
      refine wq_add 42 rfl rfl (by omega) ?_
      exact wq_ret rfl ⟨congrArg (fun z => some (vI z)) (by unfold houseF; (repeat' split) <;> omega), rfl⟩
    · have c_20 := of_decide_eq_false c_20
      refine wq_s 25 rfl ?_
      refine wq_s 26 rfl ?_
      refine wq_add 27 rfl rfl (by omega) ?_
      refine wq_s 42 rfl ?_
      exact wq_ret rfl ⟨congrArg (fun z => some (vI z)) (by unfold houseF; (repeat' split) <;> omega), rfl⟩
  · have c_11 := of_decide_eq_false c_11
    refine wq_s 15 rfl ?_
    refine wq_s 42 rfl ?_
    exact wq_ret rfl ⟨congrArg (fun z => some (vI z)) (by unfold houseF; (repeat' split) <;> omega), rfl⟩
