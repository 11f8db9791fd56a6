/-! the class: where its cells lie; small functions -/
def clT : List LK := [.inr (8, [some (some 10), some (some 11), some (some 15), some (some 19), some (some 21), some (some 24), some (some 36), some (some 45), some (some 55), none, none]), .inr (4, [some (some 6), some (some 7), some (some 8), some (some 9)]), .inl (false, 243), .inl (false, 243), .inl (false, 243), .inl (false, 1701), .inl (false, 81), .inr (0, [some (some 5), some (some 12), some (some 13), some (some 14), none]), .inl (false, 81), .inl (false, 243), .inl (false, 729), .inr (0, [some (some 5), some (some 16), some (some 17), some (some 18), none]), .inl (false, 81), .inl (false, 243), .inl (false, 729), .inr (2, [some (some 5), some (some 20), none]), .inl (false, 81), .inr (3, [some (some 5), some (some 19), some (some 22), none, none]), .inr (6, [some (some 5), some (some 19), some (some 23)]), .inl (false, 9), .inr (1, [some (some 5), some (some 19), some (some 25), some (some 26), some (some 27), none, some (some 28), some (some 29), some (some 30), some (some 31), some (some 32), some (some 33), some (some 34), none, none, some (some 35), none]), .inl (false, 2916), .inl (false, 729), .inl (false, 28), .inl (false, 729), .inl (false, 729), .inl (false, 729), .inl (false, 729), .inl (false, 729), .inl (false, 729), .inl (false, 729), .inl (false, 24), .inr (7, [some (some 37), some (some 38), some (some 39), some (some 40), some (some 41), some (some 42), some (some 43), some (some 44), none, none, none, none]), .inl (false, 729), .inl (false, 729), .inl (false, 729), .inl (false, 729), .inl (false, 729), .inl (false, 729), .inl (false, 729), .inl (false, 17496), .inr (5, [some (some 5), some (some 51), some (some 46), none, none, some (some 47), some (some 48), some (some 49), none, none, none, none, none, some (some 50)]), .inl (false, 324), .inl (false, 81), .inl (false, 81), .inl (false, 81), .inl (false, 162), .inr (0, [some (some 5), some (some 52), some (some 53), some (some 54), none]), .inl (false, 81), .inl (false, 243), .inl (false, 729), .inl (false, 24)]
def ClsG (G : GT) : Prop := 56 ≤ G.1 ∧ (∀ (i : Nat) (c : LK), clT[i]? = some c → G.2.2 (4 + i) = c) ∧ G.2.2 1 = .inl (false, 13) ∧ G.2.2 2 = .inl (false, 13) ∧ G.2.2 3 = .inl (false, 14)
theorem ClsG.lt {G : GT} (h : ClsG G) {q : Nat} (hq : 4 ≤ q ∧ q < 56) : EXN ≤ q ∧ q < G.1 := ⟨hq.1, by have := h.1; omega⟩
theorem ClsG.ty {G : GT} (h : ClsG G) (i : Nat) (c : LK) (hi : clT[i]? = some c) : G.2.2 (4 + i) = c := h.2.1 i c hi
abbrev IsBd (b : Nat) : Prop := b = 11 ∨ b = 15 ∨ b = 51
theorem ClsG.bd {G : GT} (h : ClsG G) {b : Nat} (hb : IsBd b) : G.2.2 b = .inr (0, [some (some 5), some (some (b + 1)), some (some (b + 2)), some (some (b + 3)), none]) ∧ G.2.2 (b + 1) = .inl (false, 81) ∧ G.2.2 (b + 2) = .inl (false, 243) ∧ G.2.2 (b + 3) = .inl (false, 729) := by
  rcases hb with rfl | rfl | rfl
  · exact ⟨h.ty 7 _ rfl, h.ty 8 _ rfl, h.ty 9 _ rfl, h.ty 10 _ rfl⟩
  · exact ⟨h.ty 11 _ rfl, h.ty 12 _ rfl, h.ty 13 _ rfl, h.ty 14 _ rfl⟩
  · exact ⟨h.ty 47 _ rfl, h.ty 48 _ rfl, h.ty 49 _ rfl, h.ty 50 _ rfl⟩
theorem cmp_ltN {n : Nat} : ¬ cmpA .lt (n : Int) 0 = true := by
  unfold cmpA
  dsimp only
  rw [decide_eq_true_iff]
  omega
theorem cmp_geN {n : Nat} : ¬ cmpA .ge (n : Int) 0 = false := by
  unfold cmpA
  dsimp only
  rw [decide_eq_false_iff_not]
  omega
def bcF (x : Int) : Int :=
  let a := w32 (x - b32 (fun x y => x &&& y) (b32 (fun x y => (x.toUInt32 >>> (y.toUInt32 &&& Int32.toUInt32 31)).toInt32) x 1) 1431655765)
  let b := w32 (b32 (fun x y => x &&& y) a 858993459 + b32 (fun x y => x &&& y) (b32 (fun x y => (x.toUInt32 >>> (y.toUInt32 &&& Int32.toUInt32 31)).toInt32) a 2) 858993459)
  let c := b32 (fun x y => x &&& y) (w32 (b + b32 (fun x y => (x.toUInt32 >>> (y.toUInt32 &&& Int32.toUInt32 31)).toInt32) b 4)) 252645135
  let e := w32 (c + b32 (fun x y => (x.toUInt32 >>> (y.toUInt32 &&& Int32.toUInt32 31)).toInt32) c 8)
  b32 (fun x y => x &&& y) (w32 (e + b32 (fun x y => (x.toUInt32 >>> (y.toUInt32 &&& Int32.toUInt32 31)).toInt32) e 16)) 63
theorem bcF_pop : ∀ n : Fin 512, bcF ((n.val : Nat) : Int) = ((pop9 n.val : Nat) : Int) := by decide +kernel
theorem c_bitCount {d : Nat} {G : GT} {M : MT} {n : Nat} (hn : n < 512) : Mq d k_J6_bitCount_0f7a4 [vI (n : Int)] G M (fun r M' => r = some (vI (pop9 n : Nat)) ∧ M' = M) := by
  have h : Mq d k_J6_bitCount_0f7a4 [vI (n : Int)] G M (fun r M' => r = some (vI (bcF (n : Int))) ∧ M' = M) := by
    refine wq_s 1 rfl ?_
    refine wq_s 2 rfl ?_
    refine wq_s 3 rfl ?_
    refine wq_s 4 rfl ?_
    refine wq_s 7 rfl ?_
    refine wq_s 8 rfl ?_
    refine wq_s 9 rfl ?_
    refine wq_s 10 rfl ?_
    refine wq_s 11 rfl ?_
    refine wq_s 14 rfl ?_
    refine wq_s 15 rfl ?_
    refine wq_s 16 rfl ?_
    refine wq_s 17 rfl ?_
    refine wq_s 18 rfl ?_
    refine wq_s 21 rfl ?_
    refine wq_s 22 rfl ?_
    refine wq_s 23 rfl ?_
    refine wq_s 24 rfl ?_
    refine wq_s 25 rfl ?_
    refine wq_s 26 rfl ?_
    refine wq_s 27 rfl ?_
    refine wq_s 28 rfl ?_
    refine wq_s 29 rfl ?_
    refine wq_s 32 rfl ?_
    refine wq_s 33 rfl ?_
    refine wq_s 34 rfl ?_
    refine wq_s 35 rfl ?_
    refine wq_s 36 rfl ?_
    refine wq_s 38 rfl ?_
    refine wq_s 39 rfl ?_
    refine wq_s 40 rfl ?_
    refine wq_s 41 rfl ?_
    refine wq_s 42 rfl ?_
    refine wq_s 43 rfl ?_
    refine wq_s 45 rfl ?_
    refine wq_s 46 rfl ?_
    refine wq_s 47 rfl ?_
    refine wq_s 48 rfl ?_
    refine wq_s 49 rfl ?_
    refine wq_s 51 rfl ?_
    refine wq_s 52 rfl ?_
    exact wq_ret rfl ⟨rfl, rfl⟩
  refine h.mono (fun r M' z => ?_)
  rw [bcF_pop ⟨n, hn⟩] at z
  exact z
theorem one_and : ∀ n : Fin 512, n.val ≠ 0 → ((n.val &&& (n.val - 1)) = 0 ↔ pop9 n.val = 1) := by decide +kernel
theorem c_isOneBit {d : Nat} {G : GT} {M : MT} {n : Nat} (hn : n < 512) : Mq d k_X8_isOneBit [vI (n : Int)] G M (fun r M' => (r = some (vI 1) ∧ pop9 n = 1 ∧ M' = M) ∨ (r = some (vI 0) ∧ ¬ pop9 n = 1 ∧ M' = M)) := by
  refine wq_s 1 rfl ?_
  refine wq_if 16 rfl rfl (by omega) (fun c_1 => ?_) (fun c_1 => ?_)
  · have c_1 := of_decide_eq_true c_1
    refine wq_s 17 rfl ?_
    exact wq_ret rfl (Or.inr ⟨rfl, fun z => absurd z (by rw [show n = 0 by omega]; decide), rfl⟩)
  · have c_1 := of_decide_eq_false c_1
    have h1 := one_and ⟨n, hn⟩ (by dsimp only; omega)
    dsimp only at h1
    refine wq_s 5 rfl ?_
    refine wq_s 6 rfl ?_
    refine wq_s 7 rfl ?_
    refine we_sub ((n - 1 : Nat) : Int) 8 rfl rfl (by omega) (by omega) ?_
    refine we_and n (n - 1) (n &&& (n - 1)) 9 rfl rfl rfl rfl (by omega) rfl ?_
    have hal := and_lt2 (n := n - 1) (k := 9) hn
    refine wq_if 16 rfl rfl (by omega) (fun c_9 => ?_) (fun c_9 => ?_)
    · have c_9 := of_decide_eq_true c_9
      refine wq_s 17 rfl ?_
      exact wq_ret rfl (Or.inr ⟨rfl, fun z => c_9 (by have := h1.2 z; omega), rfl⟩)
    · have c_9 := of_decide_eq_false c_9
      refine wq_s 13 rfl ?_
      refine wq_s 17 rfl ?_
      exact wq_ret rfl (Or.inl ⟨rfl, h1.1 (by omega), rfl⟩)
theorem c_placeOf {d : Nat} {G : GT} {M : MT} {e : Nat} (he : e < 9) : Mq (d + 1) k_X8_placeOf [vI ((2 ^ e : Nat) : Int)] G M (fun r M' => r = some (vI (e : Nat)) ∧ M' = M) := by
  have hp : ∀ e : Fin 9, pop9 (2 ^ e.val - 1) = e.val := by decide +kernel
  have hpw : 2 ^ e ≤ 2 ^ 8 := Nat.pow_le_pow_right (by decide) (by omega)
  have hpos := Nat.two_pow_pos e
  refine wq_s 1 rfl ?_
  refine wq_s 2 rfl ?_
  refine we_sub ((2 ^ e - 1 : Nat) : Int) 3 rfl rfl (by omega) (by omega) ?_
  refine wq_st1 6 rfl rfl (by decide) (Nat.le_of_ble_eq_true rfl) rfl (Nat.le_of_ble_eq_true rfl) (c_bitCount (by omega)) (fun r M1 hr => ?_)
  obtain ⟨rfl, hM1⟩ := hr
  subst M1
  dsimp only [Option.toList, List.cons_append, List.nil_append]
  exact wq_ret rfl ⟨by rw [hp ⟨e, he⟩], rfl⟩
def atF (g : Nat) : Nat := if 1 ≤ g ∧ g ≤ 9 then 2 ^ (g - 1) else 511
theorem c_atFirst {d : Nat} {G : GT} {M : MT} {n : Nat} (hn : n ≤ 9) : Mq d k_X8_atFirst [vI (n : Int)] G M (fun r M' => r = some (vI (atF n : Nat)) ∧ M' = M) := by
  have hpw : 2 ^ (n - 1) ≤ 2 ^ 8 := Nat.pow_le_pow_right (by decide) (by omega)
  refine wq_s 1 rfl ?_
  refine wq_s 2 rfl ?_
  refine wq_icmp 19 rfl rfl (by omega) (by omega) (fun c_2 => ?_) (fun c_2 => ?_)
  · have c_2 := of_decide_eq_true c_2
    refine wq_s 22 rfl ?_
    exact wq_ret rfl ⟨by rw [show atF n = 511 from if_neg (by omega)]; rfl, rfl⟩
  · have c_2 := of_decide_eq_false c_2
    refine wq_s 6 rfl ?_
    refine wq_s 8 rfl ?_
    refine wq_icmp 19 rfl rfl (by omega) (by omega) (fun c_8 => ?_) (fun c_8 => ?_)
    · have c_8 := of_decide_eq_true c_8
      refine wq_s 22 rfl ?_
      exact wq_ret rfl ⟨by rw [show atF n = 511 from if_neg (by omega)]; rfl, rfl⟩
    · have c_8 := of_decide_eq_false c_8
      refine wq_s 12 rfl ?_
      refine wq_s 13 rfl ?_
      refine wq_s 14 rfl ?_
      refine we_sub ((n - 1 : Nat) : Int) 15 rfl rfl (by omega) (by omega) ?_
      refine we_shl 1 (n - 1) (2 ^ (n - 1)) 16 rfl rfl rfl rfl (by omega) (Nat.one_mul _) (by omega) ?_
      refine wq_s 22 rfl ?_
      exact wq_ret rfl ⟨by rw [show atF n = 2 ^ (n - 1) from if_pos (by omega)], rfl⟩
theorem atF_fst (gv : Nat → Nat) (c : Nat) (h : gv c ≤ 9) : atF (gv c) = fstF gv c := by
  unfold atF fstF
  by_cases h0 : gv c = 0
  · rw [if_pos h0, if_neg (by omega)]
  · rw [if_neg h0, if_pos (by omega)]
theorem c_isCell {d : Nat} {G : GT} {M : MT} {c : Int} (hc : R32 c) : Mq d k_X8_isCell [vI c] G M (fun r M' => (r = some (vI 1) ∧ (0 ≤ c ∧ c ≤ 80) ∧ M' = M) ∨ (r = some (vI 0) ∧ ¬ (0 ≤ c ∧ c ≤ 80) ∧ M' = M)) := by
  refine wq_s 1 rfl ?_
  refine wq_if 14 rfl rfl (by omega) (fun c_1 => ?_) (fun c_1 => ?_)
  · have c_1 := of_decide_eq_true c_1
    refine wq_s 15 rfl ?_
    exact wq_ret rfl (Or.inr ⟨rfl, by omega, rfl⟩)
  · have c_1 := of_decide_eq_false c_1
    refine wq_s 5 rfl ?_
    refine wq_s 7 rfl ?_
    refine wq_icmp 14 rfl rfl (by omega) (by omega) (fun c_7 => ?_) (fun c_7 => ?_)
    · have c_7 := of_decide_eq_true c_7
      refine wq_s 15 rfl ?_
      exact wq_ret rfl (Or.inr ⟨rfl, by omega, rfl⟩)
    · have c_7 := of_decide_eq_false c_7
      refine wq_s 11 rfl ?_
      refine wq_s 15 rfl ?_
      exact wq_ret rfl (Or.inl ⟨rfl, by omega, rfl⟩)
theorem c_fill0 {d : Nat} {G : GT} {M : MT} {q N : Nat} (hq : EXN ≤ q ∧ q < G.1) (hT : G.2.2 q = .inl (false, N)) (hN : N < 100000) : Mq d k_J7_fill_53178 [vR q, vI 0] G M (fun r M' => r = none ∧ M' = setA M q N (fun _ => 0)) := by
  have L_5 : ∀ (f k : Nat), N - k < f → k ≤ N → Wq (d) k_J7_fill_53178 5 [some (vR q), some (vI 0), some (vI ((k : Nat) : Int)), some (vI ((N : Nat) : Int))] [] G (setA M q k (fun _ => 0)) (fun r M' => r = none ∧ M' = setA M q N (fun _ => 0)) := by
    intro f
    induction f with
    | zero => intro k h; exact absurd h (by omega)
    | succ f ih_k =>
      intro k hf_k hk_k
      refine wq_s 6 rfl ?_
      refine wq_s 7 rfl ?_
      refine wq_icmp 20 rfl rfl (by omega) (by omega) (fun c_7 => ?_) (fun c_7 => ?_)
      · have c_7 := of_decide_eq_true c_7
        have e9 : k = N := by omega
        subst e9
        exact wq_ret rfl ⟨rfl, rfl⟩
      · have c_7 := of_decide_eq_false c_7
        refine wq_s 11 rfl ?_
        refine wq_s 12 rfl ?_
        refine wq_s 13 rfl ?_
        refine wq_iast 14 rfl rfl hq hT (by omega) (by omega) (by omega) ?_
        rw [setA_up (by omega) rfl]
        refine we_inc 2 1 ((k + 1 : Nat) : Int) 17 _ rfl rfl rfl (by omega) (by omega) rfl ?_
        refine wq_s 5 rfl ?_
        exact ih_k (k + 1) (by omega) (by omega)
  refine wq_s 1 rfl ?_
  refine wq_s 2 rfl ?_
  refine wq_s 3 rfl ?_
  refine wq_s 4 (st' := [vI (N : Int)]) (ls' := [some (vR q), some (vI 0), some (vI 0), none]) (M' := M) (stp_of (q := (4, [some (vR q), some (vI 0), some (vI 0), none], [vI (N : Int)], (G.1, G.2.1, G.2.2, M))) rfl rfl rfl (by
    show alenA 4 [some (vR q), some (vI 0), some (vI 0), none] [vR q] (G.1, G.2.1, G.2.2, M) = _
    unfold alenA
    dsimp only
    rw [if_pos hq.2, hT]
    dsimp only
    rw [if_pos (by omega)])) ?_
  refine wq_s 5 rfl ?_
  have h := L_5 (N + 1) 0 (by omega) (by omega)
  rw [show ((0 : Nat) : Int) = 0 from rfl, setA_0] at h
  exact h
