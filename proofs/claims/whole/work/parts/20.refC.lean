theorem c_X9_isIn {d : Nat} {G : GT} {M : MT} {c h : Int} (h0 : 0 ≤ c) (h1 : c < 81) (k0 : 0 ≤ h) (k1 : h < 27) : Mq (d + 1) k_X9_isIn [vI c, vI h] G M (fun r M' => r = some (vI (isInF c h)) ∧ M' = M) := by
  refine wq_s 1 rfl ?_
  refine wq_s 2 rfl ?_
  refine wq_s 4 rfl ?_
  refine wq_icmp 11 rfl rfl (by omega) (by omega) (fun c_4 => ?_) (fun c_4 => ?_)
  · have c_4 := of_decide_eq_true c_4
    refine wq_s 12 rfl ?_
    refine wq_s 14 rfl ?_
    refine wq_icmp 21 rfl rfl (by omega) (by omega) (fun c_14 => ?_) (fun c_14 => ?_)
    · have c_14 := of_decide_eq_true c_14
      refine wq_s 22 rfl ?_
      refine wq_st2 25 rfl rfl (by decide) (Nat.le_of_ble_eq_true rfl) rfl (Nat.le_of_ble_eq_true rfl) (c_X9_houseOf h0 h1 (by decide)) (fun r M1 hr => ?_)
      obtain ⟨rfl, rfl⟩ := hr
      dsimp only [Option.toList, List.cons_append, List.nil_append]
      have hh := houseF_rng (c := c) (s := 0) h0 h1
      have hh1 := houseF_rng (c := c) (s := 1) h0 h1
      have hh2 := houseF_rng (c := c) (s := 2) h0 h1
      refine wq_s 26 rfl ?_
      refine wq_icmp 33 rfl rfl (by omega) (by omega) (fun c_26 => ?_) (fun c_26 => ?_)
      · have c_26 := of_decide_eq_true c_26
        refine wq_s 34 rfl ?_
        exact wq_ret rfl ⟨congrArg (fun z => some (vI z)) (by unfold isInF sortF; (repeat' split) <;> first | omega | rfl), rfl⟩
      · have c_26 := of_decide_eq_false c_26
        refine wq_s 30 rfl ?_
        refine wq_s 34 rfl ?_
        exact wq_ret rfl ⟨congrArg (fun z => some (vI z)) (by unfold isInF sortF; (repeat' split) <;> first | omega | rfl), rfl⟩
    · have c_14 := of_decide_eq_false c_14
      refine wq_s 18 rfl ?_
      refine wq_s 22 rfl ?_
      refine wq_st2 25 rfl rfl (by decide) (Nat.le_of_ble_eq_true rfl) rfl (Nat.le_of_ble_eq_true rfl) (c_X9_houseOf h0 h1 (by decide)) (fun r M1 hr => ?_)
      obtain ⟨rfl, rfl⟩ := hr
      dsimp only [Option.toList, List.cons_append, List.nil_append]
      have hh := houseF_rng (c := c) (s := 0) h0 h1
      have hh1 := houseF_rng (c := c) (s := 1) h0 h1
      have hh2 := houseF_rng (c := c) (s := 2) h0 h1
      refine wq_s 26 rfl ?_
      refine wq_icmp 33 rfl rfl (by omega) (by omega) (fun c_26 => ?_) (fun c_26 => ?_)
      · have c_26 := of_decide_eq_true c_26
        refine wq_s 34 rfl ?_
        exact wq_ret rfl ⟨congrArg (fun z => some (vI z)) (by unfold isInF sortF; (repeat' split) <;> first | omega | rfl), rfl⟩
      · have c_26 := of_decide_eq_false c_26
        refine wq_s 30 rfl ?_
        refine wq_s 34 rfl ?_
        exact wq_ret rfl ⟨congrArg (fun z => some (vI z)) (by unfold isInF sortF; (repeat' split) <;> first | omega | rfl), rfl⟩
  · have c_4 := of_decide_eq_false c_4
    refine wq_s 8 rfl ?_
    refine wq_s 22 rfl ?_
    refine wq_st2 25 rfl rfl (by decide) (Nat.le_of_ble_eq_true rfl) rfl (Nat.le_of_ble_eq_true rfl) (c_X9_houseOf h0 h1 (by decide)) (fun r M1 hr => ?_)
    obtain ⟨rfl, rfl⟩ := hr
    dsimp only [Option.toList, List.cons_append, List.nil_append]
    have hh := houseF_rng (c := c) (s := 0) h0 h1
    have hh1 := houseF_rng (c := c) (s := 1) h0 h1
    have hh2 := houseF_rng (c := c) (s := 2) h0 h1
    refine wq_s 26 rfl ?_
    refine wq_icmp 33 rfl rfl (by omega) (by omega) (fun c_26 => ?_) (fun c_26 => ?_)
    · have c_26 := of_decide_eq_true c_26
      refine wq_s 34 rfl ?_
      exact wq_ret rfl ⟨congrArg (fun z => some (vI z)) (by unfold isInF sortF; (repeat' split) <;> first | omega | rfl), rfl⟩
    · have c_26 := of_decide_eq_false c_26
      refine wq_s 30 rfl ?_
      refine wq_s 34 rfl ?_
      exact wq_ret rfl ⟨congrArg (fun z => some (vI z)) (by unfold isInF sortF; (repeat' split) <;> first | omega | rfl), rfl⟩
theorem c_X9_arePeers {d : Nat} {G : GT} {M : MT} {c e : Int} (h0 : 0 ≤ c) (h1 : c < 81) (k0 : 0 ≤ e) (k1 : e < 81) : Mq (d + 1) k_X9_arePeers [vI c, vI e] G M (fun r M' => r = some (vI (peersF c e)) ∧ M' = M) := by
  have a0 := houseF_rng (c := c) (s := 0) h0 h1
  have b0 := houseF_rng (c := e) (s := 0) k0 k1
  have a1 := houseF_rng (c := c) (s := 1) h0 h1
  have b1 := houseF_rng (c := e) (s := 1) k0 k1
  have a2 := houseF_rng (c := c) (s := 2) h0 h1
  have b2 := houseF_rng (c := e) (s := 2) k0 k1
  refine wq_s 1 rfl ?_
  refine wq_s 2 rfl ?_
  refine wq_icmp 48 rfl rfl (by omega) (by omega) (fun c_2 => ?_) (fun c_2 => ?_)
  · have c_2 := of_decide_eq_true c_2
    refine wq_s 49 rfl ?_
    exact wq_ret rfl ⟨congrArg (fun z => some (vI z)) (by unfold peersF; (repeat' split) <;> omega), rfl⟩
  · have c_2 := of_decide_eq_false c_2
    refine wq_s 6 rfl ?_
    refine wq_s 7 rfl ?_
    refine wq_st2 10 rfl rfl (by decide) (Nat.le_of_ble_eq_true rfl) rfl (Nat.le_of_ble_eq_true rfl) (c_X9_houseOf (by omega) (by omega) (by decide)) (fun r M1 hr => ?_)
    obtain ⟨rfl, rfl⟩ := hr
    dsimp only [Option.toList, List.cons_append, List.nil_append]
    refine wq_s 11 rfl ?_
    refine wq_s 12 rfl ?_
    refine wq_st2 15 rfl rfl (by decide) (Nat.le_of_ble_eq_true rfl) rfl (Nat.le_of_ble_eq_true rfl) (c_X9_houseOf (by omega) (by omega) (by decide)) (fun r M1 hr => ?_)
    obtain ⟨rfl, rfl⟩ := hr
    dsimp only [Option.toList, List.cons_append, List.nil_append]
    refine wq_icmp 44 rfl rfl (by omega) (by omega) (fun c_15 => ?_) (fun c_15 => ?_)
    · have c_15 := of_decide_eq_true c_15
      refine wq_s 45 rfl ?_
      refine wq_s 49 rfl ?_
      exact wq_ret rfl ⟨congrArg (fun z => some (vI z)) (by unfold peersF; (repeat' split) <;> omega), rfl⟩
    · have c_15 := of_decide_eq_false c_15
      refine wq_s 19 rfl ?_
      refine wq_s 20 rfl ?_
      refine wq_st2 23 rfl rfl (by decide) (Nat.le_of_ble_eq_true rfl) rfl (Nat.le_of_ble_eq_true rfl) (c_X9_houseOf (by omega) (by omega) (by decide)) (fun r M1 hr => ?_)
      obtain ⟨rfl, rfl⟩ := hr
      dsimp only [Option.toList, List.cons_append, List.nil_append]
      refine wq_s 24 rfl ?_
      refine wq_s 25 rfl ?_
      refine wq_st2 28 rfl rfl (by decide) (Nat.le_of_ble_eq_true rfl) rfl (Nat.le_of_ble_eq_true rfl) (c_X9_houseOf (by omega) (by omega) (by decide)) (fun r M1 hr => ?_)
      obtain ⟨rfl, rfl⟩ := hr
      dsimp only [Option.toList, List.cons_append, List.nil_append]
      refine wq_icmp 44 rfl rfl (by omega) (by omega) (fun c_28 => ?_) (fun c_28 => ?_)
      · have c_28 := of_decide_eq_true c_28
        refine wq_s 45 rfl ?_
        refine wq_s 49 rfl ?_
        exact wq_ret rfl ⟨congrArg (fun z => some (vI z)) (by unfold peersF; (repeat' split) <;> omega), rfl⟩
      · have c_28 := of_decide_eq_false c_28
        refine wq_s 32 rfl ?_
        refine wq_s 33 rfl ?_
        refine wq_st2 36 rfl rfl (by decide) (Nat.le_of_ble_eq_true rfl) rfl (Nat.le_of_ble_eq_true rfl) (c_X9_houseOf (by omega) (by omega) (by decide)) (fun r M1 hr => ?_)
        obtain ⟨rfl, rfl⟩ := hr
        dsimp only [Option.toList, List.cons_append, List.nil_append]
        refine wq_s 37 rfl ?_
        refine wq_s 38 rfl ?_
        refine wq_st2 41 rfl rfl (by decide) (Nat.le_of_ble_eq_true rfl) rfl (Nat.le_of_ble_eq_true rfl) (c_X9_houseOf (by omega) (by omega) (by decide)) (fun r M1 hr => ?_)
        obtain ⟨rfl, rfl⟩ := hr
        dsimp only [Option.toList, List.cons_append, List.nil_append]
        refine wq_icmp 48 rfl rfl (by omega) (by omega) (fun c_41 => ?_) (fun c_41 => ?_)
        · have c_41 := of_decide_eq_true c_41
          refine wq_s 49 rfl ?_
          exact wq_ret rfl ⟨congrArg (fun z => some (vI z)) (by unfold peersF; (repeat' split) <;> omega), rfl⟩
        · have c_41 := of_decide_eq_false c_41
          refine wq_s 45 rfl ?_
          refine wq_s 49 rfl ?_
          exact wq_ret rfl ⟨congrArg (fun z => some (vI z)) (by unfold peersF; (repeat' split) <;> omega), rfl⟩
