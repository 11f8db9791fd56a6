/-- a house that both have tells it -/
def strH (X : Nat → Nat) (u v : Nat) (s : Nat) : Prop := houseF ((u : Int) / 9) s = houseF ((v : Int) / 9) s ∧ pop9 (plN X (houseF ((u : Int) / 9) s) (u % 9) 9) = 2
def strongC (X : Nat → Nat) (u v : Nat) : Prop := weakC X u v ∧ ((u / 9 = v / 9 ∧ pop9 (X (u / 9)) = 2) ∨ (u / 9 ≠ v / 9 ∧ ∃ s, s < 3 ∧ strH X u v s))
theorem c_X9_isStrong {d : Nat} {G : GT} {M : MT} {q u v : Nat} {X : Nat → Nat} (hu : u < 729) (hv : v < 729) (hq : q < G.1) (hT : G.2.2 q = .inl (false, 81)) (hX : AtB M q X) : Mq (d + 3) k_X9_isStrong [vR q, vI (u : Int), vI (v : Int)] G M (fun r M' => (r = some (vI 1) ∧ strongC X u v ∧ M' = M) ∨ (r = some (vI 0) ∧ ¬ strongC X u v ∧ M' = M)) := by
  have L_43 : weakC X u v → ¬ u / 9 = v / 9 → ∀ (f k : Nat) (l4 : Option AV), 3 - k < f → k ≤ 3 → (∀ s, s < k → ¬ strH X u v s) → Wq (d + 3) k_X9_isStrong 43 [some (vR q), some (vI (u : Int)), some (vI (v : Int)), some (vI (k : Int)), l4] [] G M (fun r M' => (r = some (vI 1) ∧ strongC X u v ∧ M' = M) ∨ (r = some (vI 0) ∧ ¬ strongC X u v ∧ M' = M)) := by
    intro hw hd9 f
    induction f with
    | zero => intro k _ h; exact absurd h (by omega)
    | succ f ih =>
      intro k l4 hf hk hno
      refine wq_s 44 rfl ?_
      refine wq_s 45 rfl ?_
      refine wq_icmp 98 rfl rfl (by omega) (by omega) (fun c_45 => ?_) (fun c_45 => ?_)
      · have c_45 := of_decide_eq_true c_45
        refine wq_s 99 rfl ?_
        exact wq_ret rfl (Or.inr ⟨rfl, fun z => (by rcases z.2 with y | y; exact hd9 y.1; obtain ⟨s, y1, y2⟩ := y.2; exact hno s (by omega) y2), rfl⟩)
      · have c_45 := of_decide_eq_false c_45
        have a1 := houseF_rng (c := (u : Int) / 9) (s := (k : Int)) (by omega) (by omega)
        have a2 := houseF_rng (c := (v : Int) / 9) (s := (k : Int)) (by omega) (by omega)
        have hpl := plN_lt X (houseF ((u : Int) / 9) k) (u % 9) 9
        have hpp := pop9_le (plN X (houseF ((u : Int) / 9) k) (u % 9) 9)
        refine wq_s 49 rfl ?_
        refine wq_s 51 rfl ?_
        refine wq_div 52 rfl rfl (by omega) (by omega) (by omega) (by omega) ?_
        refine wq_s 53 rfl ?_
        refine wq_st2 56 rfl rfl (by decide) (Nat.le_of_ble_eq_true rfl) rfl (Nat.le_of_ble_eq_true rfl) (c_X9_houseOf (by omega) (by omega) (by omega)) (fun r M1 hr => ?_)
        obtain ⟨rfl, hM1⟩ := hr
        subst M1
        dsimp only [Option.toList, List.cons_append, List.nil_append]
        refine wq_s 58 rfl ?_
        refine wq_s 60 rfl ?_
        refine wq_s 61 rfl ?_
        refine wq_s 63 rfl ?_
        refine wq_div 64 rfl rfl (by omega) (by omega) (by omega) (by omega) ?_
        refine wq_s 65 rfl ?_
        refine wq_st2 68 rfl rfl (by decide) (Nat.le_of_ble_eq_true rfl) rfl (Nat.le_of_ble_eq_true rfl) (c_X9_houseOf (by omega) (by omega) (by omega)) (fun r M1 hr => ?_)
        obtain ⟨rfl, hM1⟩ := hr
        subst M1
        dsimp only [Option.toList, List.cons_append, List.nil_append]
        refine wq_icmp 92 rfl rfl (by omega) (by omega) (fun c_68 => ?_) (fun c_68 => ?_)
        · have c_68 := of_decide_eq_true c_68
          refine wq_inc 95 _ rfl rfl rfl (by omega) rfl ?_
          refine wq_s 43 rfl ?_
          exact ih (k + 1) _ (by omega) (by omega) (fun s hs => by rcases Nat.lt_or_eq_of_le (Nat.le_of_lt_succ hs) with z | z; exact hno s z; rw [z]; exact fun y => c_68 y.1)
        · have c_68 := of_decide_eq_false c_68
          refine wq_s 72 rfl ?_
          refine wq_s 74 rfl ?_
          refine wq_s 75 rfl ?_
          refine wq_s 77 rfl ?_
          refine wq_rem 78 rfl rfl (by omega) (by omega) (by omega) (by omega) ?_
          refine wq_s 79 rfl ?_
          refine wq_add 80 rfl rfl (by omega) ?_
          refine wq_st3 83 rfl rfl (by decide) (Nat.le_of_ble_eq_true rfl) rfl (Nat.le_of_ble_eq_true rfl) (c_X9_placesOf (e := u % 9) a1.1 a1.2 (by omega) hq hT hX) (fun r M1 hr => ?_)
          obtain ⟨rfl, hM1⟩ := hr
          subst M1
          dsimp only [Option.toList, List.cons_append, List.nil_append]
          refine wq_st1 86 rfl rfl (by decide) (Nat.le_of_ble_eq_true rfl) rfl (Nat.le_of_ble_eq_true rfl) (c_X9_bits hpl) (fun r M1 hr => ?_)
          obtain ⟨rfl, hM1⟩ := hr
          subst M1
          dsimp only [Option.toList, List.cons_append, List.nil_append]
          refine wq_s 87 rfl ?_
          refine wq_icmp 92 rfl rfl (by omega) (by omega) (fun c_87 => ?_) (fun c_87 => ?_)
          · have c_87 := of_decide_eq_true c_87
            refine wq_inc 95 _ rfl rfl rfl (by omega) rfl ?_
            refine wq_s 43 rfl ?_
            exact ih (k + 1) _ (by omega) (by omega) (fun s hs => by rcases Nat.lt_or_eq_of_le (Nat.le_of_lt_succ hs) with z | z; exact hno s z; rw [z]; exact fun y => c_87 (by have := y.2; omega))
          · have c_87 := of_decide_eq_false c_87
            refine wq_s 91 rfl ?_
            exact wq_ret rfl (Or.inl ⟨rfl, ⟨hw, Or.inr ⟨hd9, k, by omega, ⟨by omega, by omega⟩⟩⟩, rfl⟩)
  refine wq_s 1 rfl ?_
  refine wq_s 2 rfl ?_
  refine wq_s 3 rfl ?_
  refine wq_st3 6 rfl rfl (by decide) (Nat.le_of_ble_eq_true rfl) rfl (Nat.le_of_ble_eq_true rfl) (c_X9_isWeak hu hv hq hT hX) (fun r M1 hr => ?_)
  rcases hr with ⟨rfl, hw, hM1⟩ | ⟨rfl, hw, hM1⟩
  · subst M1
    dsimp only [Option.toList, List.cons_append, List.nil_append]
    refine wq_if 11 rfl rfl (by decide) (fun c_6 => ?_) (fun c_6 => absurd c_6 (by decide))
    · clear c_6
      refine wq_s 12 rfl ?_
      refine wq_s 14 rfl ?_
      refine wq_div 15 rfl rfl (by omega) (by omega) (by omega) (by omega) ?_
      refine wq_s 16 rfl ?_
      refine wq_s 18 rfl ?_
      refine wq_div 19 rfl rfl (by omega) (by omega) (by omega) (by omega) ?_
      refine wq_icmp 41 rfl rfl (by omega) (by omega) (fun c_19 => ?_) (fun c_19 => ?_)
      · have c_19 := of_decide_eq_true c_19
        refine wq_s 42 rfl ?_
        refine wq_s 43 rfl ?_
        exact L_43 hw (by omega) 4 0 _ (by omega) (by omega) (fun s hs => absurd hs (Nat.not_lt_zero s))
      · have c_19 := of_decide_eq_false c_19
        refine wq_s 23 rfl ?_
        refine wq_s 24 rfl ?_
        refine wq_s 26 rfl ?_
        refine wq_div 27 rfl rfl (by omega) (by omega) (by omega) (by omega) ?_
        have hx := hX (u / 9) (by omega)
        have hpp := pop9_le (X (u / 9))
        refine wq_iald (v := ((X (u / 9) : Nat) : Int)) 28 rfl rfl hq hT (by omega) (by omega) (by omega) hx.1 ?_
        refine wq_st1 31 rfl rfl (by decide) (Nat.le_of_ble_eq_true rfl) rfl (Nat.le_of_ble_eq_true rfl) (c_X9_bits hx.2) (fun r M1 hr => ?_)
        obtain ⟨rfl, hM1⟩ := hr
        subst M1
        dsimp only [Option.toList, List.cons_append, List.nil_append]
        refine wq_s 32 rfl ?_
        refine wq_icmp 39 rfl rfl (by omega) (by omega) (fun c_32 => ?_) (fun c_32 => ?_)
        · have c_32 := of_decide_eq_true c_32
          refine wq_s 40 rfl ?_
          exact wq_ret rfl (Or.inr ⟨rfl, fun z => (by rcases z.2 with y | y; have := y.2; omega; exact y.1 (by omega)), rfl⟩)
        · have c_32 := of_decide_eq_false c_32
          refine wq_s 36 rfl ?_
          refine wq_s 40 rfl ?_
          exact wq_ret rfl (Or.inl ⟨rfl, ⟨hw, Or.inl ⟨by omega, by omega⟩⟩, rfl⟩)
  · subst M1
    dsimp only [Option.toList, List.cons_append, List.nil_append]
    refine wq_if 11 rfl rfl (by decide) (fun c_6 => absurd c_6 (by decide)) (fun c_6 => ?_)
    · clear c_6
      refine wq_s 10 rfl ?_
      exact wq_ret rfl (Or.inr ⟨rfl, fun z => hw z.1, rfl⟩)
