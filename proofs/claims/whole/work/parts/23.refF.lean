/-! the reference: the rules, one by one -/
theorem ite0 {p : Prop} [Decidable p] : (if p then (1 : Int) else 0) = 0 ↔ ¬ p := by
  by_cases h : p
  · rw [if_pos h]; exact ⟨fun z => absurd z (by decide), fun z => absurd h z⟩
  · rw [if_neg h]; exact ⟨fun _ => h, fun _ => rfl⟩
theorem ite1 {p : Prop} [Decidable p] : ¬ (if p then (1 : Int) else 0) = 0 ↔ p := by
  by_cases h : p
  · rw [if_pos h]; exact ⟨fun _ => h, fun _ => by decide⟩
  · rw [if_neg h]; exact ⟨fun z => absurd rfl z, fun z => absurd z h⟩
theorem iteN {p : Prop} [Decidable p] : ¬ ¬ (if p then (1 : Int) else 0) = 0 ↔ ¬ p := by
  rw [ite1]
theorem iteR {p : Prop} [Decidable p] : R32 (if p then (1 : Int) else 0) := by
  by_cases h : p
  · rw [if_pos h]; decide
  · rw [if_neg h]; decide
theorem setA_skip {M : MT} {q : Nat} {k : Int} {f : Int → Int} (hv : M q k = f k) : setA M q k f = setA M q (k + 1) f := by
  funext a i
  unfold setA
  by_cases h : a = q ∧ 0 ≤ i ∧ i < k
  · rw [if_pos h, if_pos ⟨h.1, h.2.1, by omega⟩]
  · rw [if_neg h]
    by_cases h2 : a = q ∧ 0 ≤ i ∧ i < k + 1
    · have e : i = k := by
        have := h2.2
        by_cases hi : i < k
        · exact absurd ⟨h2.1, h2.2.1, hi⟩ h
        · omega
      rw [if_pos h2, h2.1, e, hv]
    · rw [if_neg h2]
def singleC (X : Nat → Nat) (p v : Int) : Prop := (0 ≤ p ∧ p ≤ 80) ∧ (1 ≤ v ∧ v ≤ 9) ∧ X p.toNat = 2 ^ (v - 1).toNat
def singleG (X Y : Nat → Nat) (p : Int) : Int → Int := fun c => if peersF p c = 1 then (X p.toNat : Int) else (Y c.toNat : Int)
theorem peersF_01 (c e : Int) : peersF c e = 0 ∨ peersF c e = 1 := by
  unfold peersF
  split
  · exact Or.inr rfl
  · exact Or.inl rfl
theorem c_X9_single {d : Nat} {G : GT} {M : MT} {o q : Nat} {X Y : Nat → Nat} {p v : Int} (hG : RefG G o) (hq : q < G.1) (hT : G.2.2 q = .inl (false, 81)) (hne : q ≠ o + 5) (hX : AtB M q X) (hY : AtB M (o + 5) Y) (hp : R32 p) (hv : R32 v) : Mq (d + 2) k_X9_single [vR o, vR q, vI p, vI v] G M (fun r M' => (r = some (vI 1) ∧ singleC X p v ∧ M' = setA M (o + 5) 81 (singleG X Y p)) ∨ (r = some (vI 0) ∧ ¬ singleC X p v ∧ M' = M)) := by
  have L_36 : ∀ (f k : Nat), singleC X p v → 81 - k < f → k ≤ 81 → Wq (d + 2) k_X9_single 36 [some (vR o), some (vR q), some (vI p), some (vI v), some (vI (k : Int))] [] G (setA M (o + 5) k (singleG X Y p)) (fun r M' => (r = some (vI 1) ∧ singleC X p v ∧ M' = setA M (o + 5) 81 (singleG X Y p)) ∨ (r = some (vI 0) ∧ ¬ singleC X p v ∧ M' = M)) := by
    intro f
    induction f with
    | zero => intro k _ h; exact absurd h (by omega)
    | succ f ih =>
      intro k hs hf hk
      have hs1 := hs.1
      refine wq_s 38 rfl ?_
      refine wq_s 40 rfl ?_
      refine wq_icmp 68 rfl rfl (by omega) (by omega) (fun c_40 => ?_) (fun c_40 => ?_)
      · have c_40 := of_decide_eq_true c_40
        have e9 : k = 81 := by omega
        subst e9
        refine wq_s 69 rfl ?_
        exact wq_ret rfl (Or.inl ⟨rfl, hs, rfl⟩)
      · have c_40 := of_decide_eq_false c_40
        refine wq_s 44 rfl ?_
        refine wq_s 46 rfl ?_
        refine wq_st2 49 rfl rfl (by decide) (Nat.le_of_ble_eq_true rfl) rfl (Nat.le_of_ble_eq_true rfl) (c_X9_arePeers (by omega) (by omega) (by omega) (by omega)) (fun r M1 hr => ?_)
        obtain ⟨rfl, rfl⟩ := hr
        dsimp only [Option.toList, List.cons_append, List.nil_append]
        have hpr := peersF_01 p k
        have hy := hY k (by omega)
        have hx := hX.at (i := p) hs.1.1 (by have := hs.1.2; omega)
        refine wq_if 62 rfl rfl (by omega) (fun c_49 => ?_) (fun c_49 => ?_)
        · have c_49 := of_decide_eq_true c_49
          rw [setA_skip (k := (k : Int)) (by unfold singleG; rw [if_neg (by omega), Int.toNat_natCast]; exact hy.1)]
          refine wq_inc 65 _ rfl rfl rfl (by omega) rfl ?_
          refine wq_s 36 rfl ?_
          exact ih (k + 1) hs (by omega) (by omega)
        · have c_49 := of_decide_eq_false c_49
          refine wq_s 53 rfl ?_
          refine wq_getR 56 rfl rfl hG.ob hG.2.2.1 rfl ?_
          refine wq_s 58 rfl ?_
          refine wq_s 59 rfl ?_
          refine wq_s 60 rfl ?_
          refine wq_iald 61 rfl rfl hq hT hs.1.1 (by have := hs.1.2; omega) (by omega) ((congrFun (setA_ne hne) _).trans hx.1) ?_
          refine wq_iast 62 rfl rfl hG.a_gone.1 hG.a_gone.2 (by omega) (by omega) (by omega) ?_
          rw [setA_up (by omega) (by unfold singleG; rw [if_pos (by omega)])]
          refine wq_inc 65 _ rfl rfl rfl (by omega) rfl ?_
          refine wq_s 36 rfl ?_
          exact ih (k + 1) hs (by omega) (by omega)
  refine wq_s 1 rfl ?_
  refine wq_s 2 rfl ?_
  refine wq_s 4 rfl ?_
  refine wq_st3 7 rfl rfl (by decide) (Nat.le_of_ble_eq_true rfl) rfl (Nat.le_of_ble_eq_true rfl) (c_X9_in (by omega) (by omega) (by omega)) (fun r M1 hr => ?_)
  obtain ⟨rfl, rfl⟩ := hr
  dsimp only [Option.toList, List.cons_append, List.nil_append]
  refine wq_if 31 rfl rfl iteR (fun c_7 => ?_) (fun c_7 => ?_)
  · have c_7 := of_decide_eq_true c_7
    have c_7 := ite0.mp c_7
    refine wq_s 32 rfl ?_
    exact wq_ret rfl (Or.inr ⟨rfl, fun z => c_7 z.1, rfl⟩)
  · have c_7 := of_decide_eq_false c_7
    have c_7 := ite1.mp c_7
    refine wq_s 11 rfl ?_
    refine wq_s 12 rfl ?_
    refine wq_s 14 rfl ?_
    refine wq_st3 17 rfl rfl (by decide) (Nat.le_of_ble_eq_true rfl) rfl (Nat.le_of_ble_eq_true rfl) (c_X9_in (by omega) (by omega) (by omega)) (fun r M1 hr => ?_)
    obtain ⟨rfl, rfl⟩ := hr
    dsimp only [Option.toList, List.cons_append, List.nil_append]
    refine wq_if 31 rfl rfl iteR (fun c_17 => ?_) (fun c_17 => ?_)
    · have c_17 := of_decide_eq_true c_17
      have c_17 := ite0.mp c_17
      refine wq_s 32 rfl ?_
      exact wq_ret rfl (Or.inr ⟨rfl, fun z => c_17 z.2.1, rfl⟩)
    · have c_17 := of_decide_eq_false c_17
      have c_17 := ite1.mp c_17
      refine wq_s 21 rfl ?_
      refine wq_s 22 rfl ?_
      have hx := hX.at (i := p) c_7.1 (by omega)
      have hpw : 2 ^ (v - 1).toNat ≤ 2 ^ 8 := Nat.pow_le_pow_right (by decide) (by omega)
      refine wq_iald 23 rfl rfl hq hT (by omega) (by omega) (by omega) hx.1 ?_
      refine wq_s 24 rfl ?_
      refine wq_s 25 rfl ?_
      refine wq_s 26 rfl ?_
      refine wq_sub 27 rfl rfl (by omega) ?_
      rw [show v - 1 = (((v - 1).toNat : Nat) : Int) by omega]
      refine wq_shl (m := 1) 28 rfl rfl (by omega) (by omega) ?_
      refine wq_icmp 33 rfl rfl (by omega) (by omega) (fun c_28 => ?_) (fun c_28 => ?_)
      · have c_28 := of_decide_eq_true c_28
        refine wq_s 34 rfl ?_
        refine wq_s 36 rfl ?_
        have hs : singleC X p v := ⟨c_7, c_17, by omega⟩
        have h := L_36 82 0 hs (by omega) (by omega)
        rw [show ((0 : Nat) : Int) = 0 from rfl, setA_0] at h
        exact h
      · have c_28 := of_decide_eq_false c_28
        refine wq_s 32 rfl ?_
        exact wq_ret rfl (Or.inr ⟨rfl, fun z => c_28 (by rw [z.2.2, Nat.one_mul]), rfl⟩)
