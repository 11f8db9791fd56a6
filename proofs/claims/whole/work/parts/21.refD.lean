theorem c_X9_bits {d : Nat} {G : GT} {M : MT} {n : Nat} (hn : n < 512) : Mq d k_X9_bits [vI (n : Int)] G M (fun r M' => r = some (vI (pop9 n : Nat)) ∧ M' = M) := by
  have L_4 : ∀ (f a c : Nat), a < f → a < 512 → c + pop9 a = pop9 n → c + a < 1024 → Wq d k_X9_bits 4 [some (vI (n : Int)), some (vI (c : Int)), some (vI (a : Int))] [] G M (fun r M' => r = some (vI (pop9 n : Nat)) ∧ M' = M) := by
    intro f
    induction f with
    | zero => intro a c h; exact absurd h (by omega)
    | succ f ih =>
      intro a c hf ha hc hc2
      refine wq_s 5 rfl ?_
      refine wq_if 20 rfl rfl (by omega) (fun c_5 => ?_) (fun c_5 => ?_)
      · have c_5 := of_decide_eq_true c_5
        have e0 : a = 0 := by omega
        subst e0
        refine wq_s 21 rfl ?_
        have e : pop9 0 = 0 := rfl
        exact wq_ret rfl ⟨congrArg (fun z => some (vI z)) (by omega), rfl⟩
      · have c_5 := of_decide_eq_false c_5
        have hp := pop_low ⟨a, ha⟩ (by dsimp only; omega)
        dsimp only at hp
        refine wq_inc 11 _ rfl rfl rfl (by omega) rfl ?_
        refine wq_s 12 rfl ?_
        refine wq_s 13 rfl ?_
        refine wq_s 14 rfl ?_
        refine wq_sub 15 rfl rfl (by omega) ?_
        rw [show ((a : Int) - 1) = ((a - 1 : Nat) : Int) by omega]
        refine wq_and 16 rfl rfl (by omega) ?_
        refine wq_s 17 rfl ?_
        refine wq_s 4 rfl ?_
        exact ih (a &&& (a - 1)) (c + 1) (by omega) (by omega) (by omega) (by omega)
  refine wq_s 1 rfl ?_
  refine wq_s 2 rfl ?_
  refine wq_s 3 rfl ?_
  refine wq_s 4 rfl ?_
  exact L_4 512 n 0 (by omega) hn (by omega) (by omega)
theorem and_1 (m : Nat) : m &&& 1 = m % 2 := Nat.and_one_is_mod m
def hasN (X : Nat → Nat) (n : Nat) : Nat := X (n / 9) / 2 ^ (n % 9) % 2
theorem c_X9_isThere {d : Nat} {G : GT} {M : MT} {q : Nat} {X : Nat → Nat} {n : Nat} (hn : n < 729) (hq : q < G.1) (hT : G.2.2 q = .inl (false, 81)) (hX : AtB M q X) : Mq d k_X9_isThere [vR q, vI (n : Int)] G M (fun r M' => r = some (vI (hasN X n : Nat)) ∧ M' = M) := by
  have hv := hX (n / 9) (by omega)
  have h9 : 2 ^ (n % 9) > 0 := Nat.two_pow_pos _
  refine wq_s 1 rfl ?_
  refine wq_s 2 rfl ?_
  refine wq_s 4 rfl ?_
  refine wq_div 5 rfl rfl (by omega) (by omega) (by omega) (by omega) ?_
  refine wq_iald (v := ((X (n / 9) : Nat) : Int)) 6 rfl rfl hq hT (by omega) (by omega) (by omega) hv.1 ?_
  refine wq_s 7 rfl ?_
  refine wq_s 9 rfl ?_
  refine wq_rem 10 rfl rfl (by omega) (by omega) (by omega) (by omega) ?_
  refine wq_shr (n := n % 9) 11 rfl rfl (by omega) (by omega) ?_
  refine wq_s 12 rfl ?_
  refine wq_and (n := 1) 13 rfl rfl (Nat.lt_of_le_of_lt (Nat.div_le_self _ _) (by omega)) ?_
  rw [and_1]
  refine wq_s 14 rfl ?_
  refine wq_icmp 21 rfl rfl (by omega) (by omega) (fun c_14 => ?_) (fun c_14 => ?_)
  · have c_14 := of_decide_eq_true c_14
    refine wq_s 22 rfl ?_
    exact wq_ret rfl ⟨congrArg (fun z => some (vI z)) (by unfold hasN; omega), rfl⟩
  · have c_14 := of_decide_eq_false c_14
    refine wq_s 18 rfl ?_
    refine wq_s 22 rfl ?_
    exact wq_ret rfl ⟨congrArg (fun z => some (vI z)) (by unfold hasN; omega), rfl⟩
theorem plN_lt (X : Nat → Nat) (h : Int) (e : Nat) : ∀ k, plN X h e k < 2 ^ k := by
  intro k
  induction k with
  | zero => exact Nat.zero_lt_one
  | succ k ih =>
    unfold plN
    have h1 : X (cellF h k).toNat / 2 ^ e % 2 < 2 := Nat.mod_lt _ (by decide)
    have h2 : (X (cellF h k).toNat / 2 ^ e % 2) * 2 ^ k < 2 ^ (k + 1) := by
      rw [Nat.pow_succ, Nat.mul_comm (2 ^ k) 2]
      exact Nat.mul_lt_mul_of_pos_right h1 (Nat.two_pow_pos k)
    exact or_lt2 (Nat.lt_of_lt_of_le ih (Nat.pow_le_pow_right (by decide) (Nat.le_succ k))) h2
theorem c_X9_placesOf {d : Nat} {G : GT} {M : MT} {q : Nat} {X : Nat → Nat} {h : Int} {e : Nat} (h0 : 0 ≤ h) (h1 : h < 27) (he : e < 9) (hq : q < G.1) (hT : G.2.2 q = .inl (false, 81)) (hX : AtB M q X) : Mq (d + 1) k_X9_placesOf [vR q, vI h, vI ((e : Int) + 1)] G M (fun r M' => r = some (vI (plN X h e 9 : Nat)) ∧ M' = M) := by
  have L_5 : ∀ (f k : Nat), 9 - k < f → k ≤ 9 → Wq (d + 1) k_X9_placesOf 5 [some (vR q), some (vI h), some (vI ((e : Int) + 1)), some (vI (plN X h e k : Nat)), some (vI (k : Int))] [] G M (fun r M' => r = some (vI (plN X h e 9 : Nat)) ∧ M' = M) := by
    intro f
    induction f with
    | zero => intro k h; exact absurd h (by omega)
    | succ f ih =>
      intro k hf hk
      refine wq_s 7 rfl ?_
      refine wq_s 9 rfl ?_
      refine wq_icmp 38 rfl rfl (by omega) (by omega) (fun c_9 => ?_) (fun c_9 => ?_)
      · have c_9 := of_decide_eq_true c_9
        have e9 : k = 9 := by omega
        subst e9
        refine wq_s 39 rfl ?_
        exact wq_ret rfl ⟨rfl, rfl⟩
      · have c_9 := of_decide_eq_false c_9
        have hr := cellF_rng (h := h) (k := (k : Int)) h0 h1 (by omega) (by omega)
        have hv := hX.at hr.1 hr.2
        have hpl := plN_lt X h e k
        have h29 : 2 ^ k ≤ 2 ^ 8 := Nat.pow_le_pow_right (by decide) (by omega)
        have hb : X (cellF h k).toNat / 2 ^ e % 2 < 2 := Nat.mod_lt _ (by decide)
        have hbk : (X (cellF h k).toNat / 2 ^ e % 2) * 2 ^ k ≤ 1 * 2 ^ 8 := Nat.mul_le_mul (by omega) h29
        refine wq_s 13 rfl ?_
        refine wq_s 14 rfl ?_
        refine wq_s 15 rfl ?_
        refine wq_s 17 rfl ?_
        refine wq_st2 20 rfl rfl (by decide) (Nat.le_of_ble_eq_true rfl) rfl (Nat.le_of_ble_eq_true rfl) (c_X9_cellOf h0 h1 (by omega) (by omega)) (fun r M1 hr => ?_)
        obtain ⟨rfl, rfl⟩ := hr
        dsimp only [Option.toList, List.cons_append, List.nil_append]
        refine wq_iald 21 rfl rfl hq hT hr.1 (by omega) (by omega) hv.1 ?_
        refine wq_s 22 rfl ?_
        refine wq_s 23 rfl ?_
        refine wq_sub 24 rfl rfl (by omega) ?_
        rw [show ((e : Int) + 1 - 1) = (e : Int) by omega]
        refine wq_shr 25 rfl rfl (by omega) (by omega) ?_
        refine wq_s 26 rfl ?_
        refine wq_and (n := 1) 27 rfl rfl (Nat.lt_of_le_of_lt (Nat.div_le_self _ _) (by omega)) ?_
        rw [and_1]
        refine wq_s 29 rfl ?_
        refine wq_shl 30 rfl rfl (by omega) (by omega) ?_
        refine wq_or 31 rfl rfl (by omega) (by omega) ?_
        refine wq_s 32 rfl ?_
        refine wq_inc 35 _ rfl rfl rfl (by omega) rfl ?_
        refine wq_s 5 rfl ?_
        exact ih (k + 1) (by omega) (by omega)
  refine wq_s 1 rfl ?_
  refine wq_s 2 rfl ?_
  refine wq_s 3 rfl ?_
  refine wq_s 5 rfl ?_
  exact L_5 10 0 (by omega) (by omega)
