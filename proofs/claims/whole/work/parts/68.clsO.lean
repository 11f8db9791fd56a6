/-! chains in the class: areWeak, areStrong -/
theorem div9 (u : Nat) : (u : Int) / 9 = ((u / 9 : Nat) : Int) := by omega
theorem weak_sh {X : Nat → Nat} {u v : Nat} (hu : u < 729) (hv : v < 729) : weakC X u v ↔ (u ≠ v ∧ hasN X u = 1 ∧ hasN X v = 1 ∧ (u / 9 = v / 9 ∨ (u % 9 = v % 9 ∧ shB (u / 9) (v / 9) = true))) := by
  unfold weakC
  rw [div9, div9]
  have h := peers_ho (c := u / 9) (n := v / 9) (by omega) (by omega)
  constructor
  · rintro ⟨h1, h2, h3, h4 | ⟨h4, h5⟩⟩
    · exact ⟨h1, h2, h3, Or.inl h4⟩
    · exact ⟨h1, h2, h3, Or.inr ⟨h4, (h.1 h5).2⟩⟩
  · rintro ⟨h1, h2, h3, h4⟩
    by_cases hc : u / 9 = v / 9
    · exact ⟨h1, h2, h3, Or.inl hc⟩
    · rcases h4 with h4 | ⟨h4, h5⟩
      · exact absurd h4 hc
      · exact ⟨h1, h2, h3, Or.inr ⟨h4, h.2 ⟨hc, h5⟩⟩⟩
theorem str_ho {X : Nat → Nat} {u v s : Nat} (hu : u < 729) (hv : v < 729) : strH X u v s ↔ (hoN (u / 9) s = hoN (v / 9) s ∧ pop9 (plH X (hoN (u / 9) s) (u % 9)) = 2) := by
  unfold strH
  rw [div9, div9, hoF (u / 9) s (by omega), hoF (v / 9) s (by omega), plF]
  exact ⟨fun z => ⟨by omega, z.2⟩, fun z => ⟨by omega, z.2⟩⟩
theorem c_areWeak {d : Nat} {G : GT} {M : MT} {b u v : Nat} {X : Nat → Nat} (hC : ClsG G) (hb : IsBd b) (hS : ShpAt M) (hB : BdC M b X) (hu : u < 729) (hv : v < 729) : Mq (d + 1) k_X1_areWeak [vR 24, vR b, vI (u : Int), vI (v : Int)] G M (fun z M' => (z = some (vI 1) ∧ weakC X u v ∧ M' = M) ∨ (z = some (vI 0) ∧ ¬ weakC X u v ∧ M' = M)) := by
  rw [weak_sh hu hv]
  refine wq_s 1 rfl ?_
  refine wq_s 2 rfl ?_
  refine wq_icmp 21 rfl rfl (by omega) (by omega) (fun c_2 => ?_) (fun c_2 => ?_)
  · have c_2 := of_decide_eq_true c_2
    refine wq_s 22 rfl ?_
    exact wq_ret rfl (Or.inr ⟨rfl, fun z => z.1 (by omega), rfl⟩)
  · have c_2 := of_decide_eq_false c_2
    refine wq_s 6 rfl ?_
    refine wq_s 7 rfl ?_
    refine wq_vt1 10 rfl rfl (Nat.le_of_ble_eq_true rfl) (hC.lt (by omega)) (hC.bd hb).1 rfl (Nat.le_of_ble_eq_true rfl) (c_X0_has hC hb hB.1 hu) (fun r M1 hr => ?_)
    rcases hr with ⟨rfl, b_7, hM1⟩ | ⟨rfl, b_7, hM1⟩
    · subst M1
      dsimp only [Option.toList, List.cons_append, List.nil_append]
      refine wq_s 13 rfl ?_
      refine wq_s 14 rfl ?_
      refine wq_s 15 rfl ?_
      refine wq_vt1 18 rfl rfl (Nat.le_of_ble_eq_true rfl) (hC.lt (by omega)) (hC.bd hb).1 rfl (Nat.le_of_ble_eq_true rfl) (c_X0_has hC hb hB.1 hv) (fun r M1 hr => ?_)
      rcases hr with ⟨rfl, b_15, hM1⟩ | ⟨rfl, b_15, hM1⟩
      · subst M1
        dsimp only [Option.toList, List.cons_append, List.nil_append]
        refine wq_s 23 rfl ?_
        refine wq_s 24 rfl ?_
        refine wq_s 26 rfl ?_
        refine we_div ((u / 9 : Nat) : Int) 27 rfl rfl (by omega) (by omega) (by omega) ?_
        refine wq_s 28 rfl ?_
        refine wq_s 30 rfl ?_
        refine we_div ((v / 9 : Nat) : Int) 31 rfl rfl (by omega) (by omega) (by omega) ?_
        refine wq_icmp 63 rfl rfl (by omega) (by omega) (fun c_31 => ?_) (fun c_31 => ?_)
        · have c_31 := of_decide_eq_true c_31
          refine wq_s 64 rfl ?_
          refine wq_s 68 rfl ?_
          exact wq_ret rfl (Or.inl ⟨rfl, ⟨by omega, b_7, b_15, Or.inl (by omega)⟩, rfl⟩)
        · have c_31 := of_decide_eq_false c_31
          refine wq_s 35 rfl ?_
          refine wq_s 37 rfl ?_
          refine we_rem ((u % 9 : Nat) : Int) 38 rfl rfl (by omega) (by omega) (by omega) ?_
          refine wq_s 39 rfl ?_
          refine wq_s 41 rfl ?_
          refine we_rem ((v % 9 : Nat) : Int) 42 rfl rfl (by omega) (by omega) (by omega) ?_
          refine wq_icmp 67 rfl rfl (by omega) (by omega) (fun c_42 => ?_) (fun c_42 => ?_)
          · have c_42 := of_decide_eq_true c_42
            refine wq_s 68 rfl ?_
            exact wq_ret rfl (Or.inr ⟨rfl, fun z => (by rcases z.2.2.2 with y | y; omega; have := y.1; omega), rfl⟩)
          · have c_42 := of_decide_eq_false c_42
            refine wq_s 46 rfl ?_
            refine wq_getR 49 rfl rfl (hC.lt (by omega)) (hC.ty 20 _ rfl) rfl ?_
            refine wq_s 50 rfl ?_
            refine wq_s 52 rfl ?_
            refine we_div ((u / 9 : Nat) : Int) 53 rfl rfl (by omega) (by omega) (by omega) ?_
            refine wq_s 54 rfl ?_
            refine wq_s 56 rfl ?_
            refine we_div ((v / 9 : Nat) : Int) 57 rfl rfl (by omega) (by omega) (by omega) ?_
            refine wq_vt2 60 rfl rfl (Nat.le_of_ble_eq_true rfl) (hC.lt (by omega)) (hC.ty 1 _ rfl) rfl (Nat.le_of_ble_eq_true rfl) (c_shareHouse (u := u / 9) (v := v / 9) hC hS (by omega) (by omega)) (fun r M1 hr => ?_)
            rcases hr with ⟨rfl, b_57, hM1⟩ | ⟨rfl, b_57, hM1⟩
            · subst M1
              dsimp only [Option.toList, List.cons_append, List.nil_append]
              refine wq_s 63 rfl ?_
              refine wq_s 64 rfl ?_
              refine wq_s 68 rfl ?_
              exact wq_ret rfl (Or.inl ⟨rfl, ⟨by omega, b_7, b_15, Or.inr ⟨by omega, b_57⟩⟩, rfl⟩)
            · subst M1
              dsimp only [Option.toList, List.cons_append, List.nil_append]
              refine wq_s 67 rfl ?_
              refine wq_s 68 rfl ?_
              exact wq_ret rfl (Or.inr ⟨rfl, fun z => (by rcases z.2.2.2 with y | y; omega; exact b_57 y.2), rfl⟩)
      · subst M1
        dsimp only [Option.toList, List.cons_append, List.nil_append]
        refine wq_s 21 rfl ?_
        refine wq_s 22 rfl ?_
        exact wq_ret rfl (Or.inr ⟨rfl, fun z => b_15 z.2.2.1, rfl⟩)
    · subst M1
      dsimp only [Option.toList, List.cons_append, List.nil_append]
      refine wq_s 21 rfl ?_
      refine wq_s 22 rfl ?_
      exact wq_ret rfl (Or.inr ⟨rfl, fun z => b_7 z.2.1, rfl⟩)
theorem c_areStrong {d : Nat} {G : GT} {M : MT} {b u v : Nat} {X : Nat → Nat} (hC : ClsG G) (hb : IsBd b) (hS : ShpAt M) (hB : BdC M b X) (hu : u < 729) (hv : v < 729) : Mq (d + 2) k_X1_areStrong [vR 24, vR b, vI (u : Int), vI (v : Int)] G M (fun z M' => (z = some (vI 1) ∧ strongC X u v ∧ M' = M) ∨ (z = some (vI 0) ∧ ¬ strongC X u v ∧ M' = M)) := by
  have hxu := (hB.1 (u / 9) (by omega)).2
  have L_54 : weakC X u v → u / 9 ≠ v / 9 → ∀ (f s : Nat) (y7 : Option AV) (y8 : Option AV), 3 - s < f → s ≤ 3 → (∀ s1, s1 < s → ¬ (hoN (u / 9) s1 = hoN (v / 9) s1 ∧ pop9 (plH X (hoN (u / 9) s1) (u % 9)) = 2)) → Wq (d + 2) k_X1_areStrong 54 [some (vR 24), some (vR b), some (vI ((u : Nat) : Int)), some (vI ((v : Nat) : Int)), some (vI ((u / 9 : Nat) : Int)), some (vI ((v / 9 : Nat) : Int)), some (vI ((s : Nat) : Int)), y7, y8] [] G M (fun z M' => (z = some (vI 1) ∧ strongC X u v ∧ M' = M) ∨ (z = some (vI 0) ∧ ¬ strongC X u v ∧ M' = M)) := by
    intro hw hcc f
    induction f with
    | zero => intro s y7 y8 h; exact absurd h (by omega)
    | succ f ih_s =>
      intro s y7 y8 hf_s hk_s hno
      refine wq_s 56 rfl ?_
      refine wq_s 57 rfl ?_
      refine wq_icmp 139 rfl rfl (by omega) (by omega) (fun c_57 => ?_) (fun c_57 => ?_)
      · have c_57 := of_decide_eq_true c_57
        refine wq_s 140 rfl ?_
        exact wq_ret rfl (Or.inr ⟨rfl, fun z => (by rcases z.2 with y | ⟨-, s1, y1, y2⟩; exact hcc y.1; exact hno s1 (by omega) ((str_ho hu hv).1 y2)), rfl⟩)
      · have c_57 := of_decide_eq_false c_57
        have ho := ho_ok (c := u / 9) (s := s) (by omega) (by omega)
        have ho2 := ho_ok (c := v / 9) (s := s) (by omega) (by omega)
        have ho3 := ho.2.2.1
        have ho4 := ho2.2.2.1
        have hpl := plH_lt X (hoN (u / 9) s) (u % 9)
        refine wq_s 61 rfl ?_
        refine wq_getR 64 rfl rfl (hC.lt (by omega)) (hC.ty 20 _ rfl) rfl ?_
        refine wq_getR 67 rfl rfl (hC.lt (by omega)) (hC.ty 1 _ rfl) rfl ?_
        refine wq_s 68 rfl ?_
        refine wq_s 70 rfl ?_
        refine we_mul ((3 * (u / 9) : Nat) : Int) 71 rfl rfl (by omega) (by omega) ?_
        refine wq_s 73 rfl ?_
        refine we_add (((3 * (u / 9)) + s : Nat) : Int) 74 rfl rfl (by omega) (by omega) ?_
        refine wq_iald (v := ((hoN (u / 9) s : Nat) : Int)) 75 rfl rfl (hC.lt (by omega)).2 (hC.ty 3 _ rfl) (by omega) (by omega) (by omega) (hS.2.1 (u / 9) s (by omega) (by omega)).1 ?_
        refine wq_s 77 rfl ?_
        refine wq_s 79 rfl ?_
        refine wq_s 80 rfl ?_
        refine wq_getR 83 rfl rfl (hC.lt (by omega)) (hC.ty 20 _ rfl) rfl ?_
        refine wq_getR 86 rfl rfl (hC.lt (by omega)) (hC.ty 1 _ rfl) rfl ?_
        refine wq_s 87 rfl ?_
        refine wq_s 89 rfl ?_
        refine we_mul ((3 * (v / 9) : Nat) : Int) 90 rfl rfl (by omega) (by omega) ?_
        refine wq_s 92 rfl ?_
        refine we_add (((3 * (v / 9)) + s : Nat) : Int) 93 rfl rfl (by omega) (by omega) ?_
        refine wq_iald (v := ((hoN (v / 9) s : Nat) : Int)) 94 rfl rfl (hC.lt (by omega)).2 (hC.ty 3 _ rfl) (by omega) (by omega) (by omega) (hS.2.1 (v / 9) s (by omega) (by omega)).1 ?_
        refine wq_icmp 101 rfl rfl (by omega) (by omega) (fun c_94 => ?_) (fun c_94 => ?_)
        · have c_94 := of_decide_eq_true c_94
          refine wq_s 102 rfl ?_
          refine wq_s 104 rfl ?_
          refine wq_s 106 rfl ?_
          refine wq_s 133 rfl ?_
          refine we_inc 6 1 ((s + 1 : Nat) : Int) 136 _ rfl rfl rfl (by omega) (by omega) rfl ?_
          refine wq_s 54 rfl ?_
          refine ih_s (s + 1) _ _ (by omega) (by omega) (fun s1 h1 z => ?_)
          by_cases hs1 : s1 = s
          · subst hs1
            have := z.1; omega
          · exact hno s1 (by omega) z
        · have c_94 := of_decide_eq_false c_94
          refine wq_s 98 rfl ?_
          refine wq_s 102 rfl ?_
          refine wq_s 104 rfl ?_
          refine wq_s 106 rfl ?_
          refine wq_s 109 rfl ?_
          refine wq_s 110 rfl ?_
          refine wq_getR 113 rfl rfl (hC.lt (by omega)) (hC.bd hb).1 rfl ?_
          refine wq_s 115 rfl ?_
          refine wq_s 117 rfl ?_
          refine we_mul ((9 * (hoN (u / 9) s) : Nat) : Int) 118 rfl rfl (by omega) (by omega) ?_
          refine wq_s 119 rfl ?_
          refine wq_s 121 rfl ?_
          refine we_rem ((u % 9 : Nat) : Int) 122 rfl rfl (by omega) (by omega) (by omega) ?_
          refine we_add (((9 * (hoN (u / 9) s)) + (u % 9) : Nat) : Int) 123 rfl rfl (by omega) (by omega) ?_
          refine wq_iald (v := ((plH X (hoN (u / 9) s) (u % 9) : Nat) : Int)) 124 rfl rfl (hC.lt (by omega)).2 (hC.bd hb).2.2.1 (by omega) (by omega) (by omega) (hB.2 _ _ ho.2.2.1 (by omega)) ?_
          refine wq_st1 127 rfl rfl (by decide) (Nat.le_of_ble_eq_true rfl) rfl (Nat.le_of_ble_eq_true rfl) (c_bitCount (n := plH X (hoN (u / 9) s) (u % 9)) hpl) (fun r M1 hr => ?_)
          obtain ⟨rfl, hM1⟩ := hr
          subst M1
          dsimp only [Option.toList, List.cons_append, List.nil_append]
          have hpp_124 := pop9_le (plH X (hoN (u / 9) s) (u % 9))
          refine wq_s 128 rfl ?_
          refine wq_icmp 133 rfl rfl (by omega) (by omega) (fun c_128 => ?_) (fun c_128 => ?_)
          · have c_128 := of_decide_eq_true c_128
            refine we_inc 6 1 ((s + 1 : Nat) : Int) 136 _ rfl rfl rfl (by omega) (by omega) rfl ?_
            refine wq_s 54 rfl ?_
            refine ih_s (s + 1) _ _ (by omega) (by omega) (fun s1 h1 z => ?_)
            by_cases hs1 : s1 = s
            · subst hs1
              have := z.2; omega
            · exact hno s1 (by omega) z
          · have c_128 := of_decide_eq_false c_128
            refine wq_s 132 rfl ?_
            exact wq_ret rfl (Or.inl ⟨rfl, ⟨hw, Or.inr ⟨hcc, s, by omega, (str_ho hu hv).2 ⟨by omega, by omega⟩⟩⟩, rfl⟩)
  refine wq_s 1 rfl ?_
  refine wq_s 2 rfl ?_
  refine wq_s 3 rfl ?_
  refine wq_s 4 rfl ?_
  refine wq_vt3 7 rfl rfl (Nat.le_of_ble_eq_true rfl) (hC.lt (by omega)) (hC.ty 20 _ rfl) rfl (Nat.le_of_ble_eq_true rfl) (c_areWeak hC hb hS hB hu hv) (fun r M1 hr => ?_)
  rcases hr with ⟨rfl, b_4, hM1⟩ | ⟨rfl, b_4, hM1⟩
  · subst M1
    dsimp only [Option.toList, List.cons_append, List.nil_append]
    refine wq_s 12 rfl ?_
    refine wq_s 13 rfl ?_
    refine wq_s 15 rfl ?_
    refine we_div ((u / 9 : Nat) : Int) 16 rfl rfl (by omega) (by omega) (by omega) ?_
    refine wq_s 18 rfl ?_
    refine wq_s 19 rfl ?_
    refine wq_s 21 rfl ?_
    refine we_div ((v / 9 : Nat) : Int) 22 rfl rfl (by omega) (by omega) (by omega) ?_
    refine wq_s 24 rfl ?_
    refine wq_s 26 rfl ?_
    refine wq_s 28 rfl ?_
    refine wq_icmp 51 rfl rfl (by omega) (by omega) (fun c_28 => ?_) (fun c_28 => ?_)
    · have c_28 := of_decide_eq_true c_28
      refine wq_s 52 rfl ?_
      refine wq_s 54 rfl ?_
      exact L_54 b_4 (by omega) 4 0 _ _ (by omega) (by omega) (fun s1 h => absurd h (Nat.not_lt_zero _))
    · have c_28 := of_decide_eq_false c_28
      refine wq_s 32 rfl ?_
      refine wq_getR 35 rfl rfl (hC.lt (by omega)) (hC.bd hb).1 rfl ?_
      refine wq_s 37 rfl ?_
      refine wq_iald (v := ((X (u / 9) : Nat) : Int)) 38 rfl rfl (hC.lt (by omega)).2 (hC.bd hb).2.1 (by omega) (by omega) (by omega) (hB.1 (u / 9) (by omega)).1 ?_
      refine wq_st1 41 rfl rfl (by decide) (Nat.le_of_ble_eq_true rfl) rfl (Nat.le_of_ble_eq_true rfl) (c_bitCount (n := X (u / 9)) hxu) (fun r M1 hr => ?_)
      obtain ⟨rfl, hM1⟩ := hr
      subst M1
      dsimp only [Option.toList, List.cons_append, List.nil_append]
      have hpp_38 := pop9_le (X (u / 9))
      refine wq_s 42 rfl ?_
      refine wq_icmp 49 rfl rfl (by omega) (by omega) (fun c_42 => ?_) (fun c_42 => ?_)
      · have c_42 := of_decide_eq_true c_42
        refine wq_s 50 rfl ?_
        exact wq_ret rfl (Or.inr ⟨rfl, fun z => (by rcases z.2 with y | y; have := y.2; omega; exact y.1 (by omega)), rfl⟩)
      · have c_42 := of_decide_eq_false c_42
        refine wq_s 46 rfl ?_
        refine wq_s 50 rfl ?_
        exact wq_ret rfl (Or.inl ⟨rfl, ⟨b_4, Or.inl ⟨by omega, by omega⟩⟩, rfl⟩)
  · subst M1
    dsimp only [Option.toList, List.cons_append, List.nil_append]
    refine wq_s 10 rfl ?_
    refine wq_s 11 rfl ?_
    exact wq_ret rfl (Or.inr ⟨rfl, fun z => b_4 z.1, rfl⟩)
