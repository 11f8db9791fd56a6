/-! sets of nodes in longs: has, add, goesBy, link -/
def SetAt (M : MT) (q u : Nat) (S : Nat → Prop) : Prop := ∀ n, n < 768 → (lbit (M q ((u + n / 64 : Nat) : Int)) (n % 64) = true ↔ S n)
/-- all but twelve words of a row is as it was -/
abbrev FrW (M M' : MT) (q u : Nat) : Prop := ∀ (a : Nat) (i : Int), (a ≠ q ∨ i < u ∨ (u : Int) + 12 ≤ i) → M' a i = M a i
theorem SetAt.fr {M M' : MT} {q u : Nat} {S : Nat → Prop} (h : SetAt M q u S) (he : ∀ w : Nat, w < 12 → M' q ((u + w : Nat) : Int) = M q ((u + w : Nat) : Int)) : SetAt M' q u S := fun n hn => by
  rw [he (n / 64) (by omega)]
  exact h n hn
theorem SetAt.ext {M : MT} {q u : Nat} {S S' : Nat → Prop} (h : SetAt M q u S) (he : ∀ n, n < 768 → (S n ↔ S' n)) : SetAt M q u S' := fun n hn => (h n hn).trans (he n hn)
theorem SetAt.fw {M M' : MT} {q u q2 u2 : Nat} {S : Nat → Prop} (h : SetAt M q u S) (hF : FrW M M' q2 u2) (hd : q ≠ q2 ∨ u + 12 ≤ u2 ∨ u2 + 12 ≤ u) : SetAt M' q u S := h.fr (fun w hw => hF _ _ (by omega))
theorem c_X9_has {d : Nat} {G : GT} {M : MT} {q u n N : Nat} {S : Nat → Prop} (hn : n < 768) (hu : u + 12 ≤ N) (hN : N < 100000) (hq : q < G.1) (hT : G.2.2 q = .inl (true, N)) (hS : SetAt M q u S) : Mq d k_X9_has [vR q, vI (u : Int), vI (n : Int)] G M (fun r M' => (r = some (vI 1) ∧ S n ∧ M' = M) ∨ (r = some (vI 0) ∧ ¬ S n ∧ M' = M)) := by
  refine wq_s 1 rfl ?_
  refine wq_s 2 rfl ?_
  refine wq_s 3 rfl ?_
  refine wq_s 5 rfl ?_
  refine we_div ((n / 64 : Nat) : Int) 6 rfl rfl (by omega) (by omega) (by omega) ?_
  refine we_add ((u + (n / 64) : Nat) : Int) 7 rfl rfl (by omega) (by omega) ?_
  refine wq_lald (v := M q ((u + (n / 64) : Nat) : Int)) 8 rfl rfl (And.intro (Nat.zero_le 0) hq).2 hT (by omega) (by omega) (by omega) rfl ?_
  refine wq_s 9 rfl ?_
  refine wq_s 11 rfl ?_
  refine we_rem ((n % 64 : Nat) : Int) 12 rfl rfl (by omega) (by omega) (by omega) ?_
  refine wq_s 13 rfl ?_
  refine wq_lconst 1 14 rfl rfl rfl ?_
  refine wq_s 15 rfl ?_
  refine wq_lconst 1 16 rfl rfl rfl ?_
  have ht := lbit_test (u := M q ((u + n / 64 : Nat) : Int)) (n := n % 64) (by omega)
  by_cases hb : lbit (M q ((u + n / 64 : Nat) : Int)) (n % 64) = true
  · rw [if_pos hb] at ht
    refine wq_lcmp 0 17 rfl rfl (by rw [ht]; decide) ?_
    refine wq_s 20 rfl ?_
    refine wq_s 21 rfl ?_
    refine wq_s 25 rfl ?_
    exact wq_ret rfl (Or.inl ⟨rfl, (hS n hn).1 hb, rfl⟩)
  · rw [if_neg hb] at ht
    refine wq_lcmp (-1) 17 rfl rfl (by rw [ht]; decide) ?_
    refine wq_s 24 rfl ?_
    refine wq_s 25 rfl ?_
    exact wq_ret rfl (Or.inr ⟨rfl, fun z => hb ((hS n hn).2 z), rfl⟩)
theorem c_X9_add {d : Nat} {G : GT} {M : MT} {q u n N : Nat} {S : Nat → Prop} (hn : n < 768) (hu : u + 12 ≤ N) (hN : N < 100000) (hq : EXN ≤ q ∧ q < G.1) (hT : G.2.2 q = .inl (true, N)) (hS : SetAt M q u S) : Mq d k_X9_add [vR q, vI (u : Int), vI (n : Int)] G M (fun r M' => r = none ∧ SetAt M' q u (fun j => S j ∨ j = n) ∧ FrW M M' q u) := by
  refine wq_s 1 rfl ?_
  refine wq_s 2 rfl ?_
  refine wq_s 3 rfl ?_
  refine wq_s 5 rfl ?_
  refine we_div ((n / 64 : Nat) : Int) 6 rfl rfl (by omega) (by omega) (by omega) ?_
  refine we_add ((u + (n / 64) : Nat) : Int) 7 rfl rfl (by omega) (by omega) ?_
  refine wq_s 8 rfl ?_
  refine wq_lald (v := M q ((u + (n / 64) : Nat) : Int)) 9 rfl rfl hq.2 hT (by omega) (by omega) (by omega) rfl ?_
  refine wq_lconst 1 10 rfl rfl rfl ?_
  refine wq_s 11 rfl ?_
  refine wq_s 13 rfl ?_
  refine we_rem ((n % 64 : Nat) : Int) 14 rfl rfl (by omega) (by omega) (by omega) ?_
  refine wq_s 15 rfl ?_
  refine wq_s 16 rfl ?_
  refine wq_last 17 rfl rfl hq hT (by omega) (by omega) (by omega) ?_
  refine wq_ret rfl ⟨rfl, fun j hj => ?_, fun a i hai => ?_⟩
  · by_cases hw : j / 64 = n / 64
    · rw [show up2 M q ((u + n / 64 : Nat) : Int) (b64 (fun x y => x ||| y) (M q ((u + n / 64 : Nat) : Int)) (c64 (fun x y => x <<< y) 1 ((n % 64 : Nat) : Int))) q ((u + j / 64 : Nat) : Int) = b64 (fun x y => x ||| y) (M q ((u + n / 64 : Nat) : Int)) (c64 (fun x y => x <<< y) 1 ((n % 64 : Nat) : Int)) from if_pos ⟨rfl, by omega⟩, lbit_or, lbit_shl1 (by omega)]
      have h1 := hS j hj
      rw [hw] at h1
      rw [Bool.or_eq_true, h1, decide_eq_true_iff]
      constructor
      · rintro (h2 | h2)
        · exact Or.inl h2
        · exact Or.inr (by omega)
      · rintro (h2 | h2)
        · exact Or.inl h2
        · exact Or.inr (by omega)
    · rw [show up2 M q ((u + n / 64 : Nat) : Int) (b64 (fun x y => x ||| y) (M q ((u + n / 64 : Nat) : Int)) (c64 (fun x y => x <<< y) 1 ((n % 64 : Nat) : Int))) q ((u + j / 64 : Nat) : Int) = M q ((u + j / 64 : Nat) : Int) from if_neg (fun z => by omega)]
      constructor
      · intro h2
        exact Or.inl ((hS j hj).1 h2)
      · rintro (h2 | h2)
        · exact (hS j hj).2 h2
        · subst h2
          exact absurd rfl hw
  · exact if_neg (fun z => by omega)
/-- every node's set of the others, at row q -/
def RelAt (M : MT) (q : Nat) (A : Nat → Nat → Prop) : Prop := ∀ a, a < 729 → SetAt M q (12 * a) (A a)
theorem c_X9_goesBy {d : Nat} {G : GT} {M : MT} {o u z : Nat} {A : Nat → Nat → Prop} (hG : RefG G o) (hu : u < 729) (hz : z < 729) (hA : RelAt M (o + 6) A) : Mq d k_X9_goesBy [vR o, vI (u : Int), vI (z : Int)] G M (fun r M' => (r = some (vI 1) ∧ (∃ n, n < 768 ∧ A u n ∧ A z n) ∧ M' = M) ∨ (r = some (vI 0) ∧ ¬ (∃ n, n < 768 ∧ A u n ∧ A z n) ∧ M' = M)) := by
  have L_e : (∃ n, n < 768 ∧ A u n ∧ A z n) → ∀ k : Nat, k ≤ 12 → Wq d k_X9_goesBy 5 [some (vR o), some (vI (u : Int)), some (vI (z : Int)), some (vI 1), some (vI (k : Int))] [] G M (fun r M' => (r = some (vI 1) ∧ (∃ n, n < 768 ∧ A u n ∧ A z n) ∧ M' = M) ∨ (r = some (vI 0) ∧ ¬ (∃ n, n < 768 ∧ A u n ∧ A z n) ∧ M' = M)) := by
    intro hex k hk
    refine wq_s 7 rfl ?_
    refine wq_s 9 rfl ?_
    refine wq_icmp 58 rfl rfl (by omega) (by omega) (fun c_9 => ?_) (fun c_9 => ?_)
    · refine wq_s 59 rfl ?_
      exact wq_ret rfl (Or.inl ⟨rfl, hex, rfl⟩)
    · refine wq_s 13 rfl ?_
      refine wq_s 58 rfl ?_
      refine wq_s 59 rfl ?_
      exact wq_ret rfl (Or.inl ⟨rfl, hex, rfl⟩)
  have L_5 : ∀ (f k : Nat), 12 - k < f → k ≤ 12 → (∀ n, n < 64 * k → A u n → ¬ A z n) → Wq (d) k_X9_goesBy 5 [some (vR o), some (vI ((u : Nat) : Int)), some (vI ((z : Nat) : Int)), some (vI 0), some (vI ((k : Nat) : Int))] [] G M (fun r M' => (r = some (vI 1) ∧ (∃ n, n < 768 ∧ A u n ∧ A z n) ∧ M' = M) ∨ (r = some (vI 0) ∧ ¬ (∃ n, n < 768 ∧ A u n ∧ A z n) ∧ M' = M)) := by
    intro f
    induction f with
    | zero => intro k h _ _; exact absurd h (by omega)
    | succ f ih_k =>
      intro k hf_k hk_k hno
      refine wq_s 7 rfl ?_
      refine wq_s 9 rfl ?_
      refine wq_icmp 58 rfl rfl (by omega) (by omega) (fun c_9 => ?_) (fun c_9 => ?_)
      · have c_9 := of_decide_eq_true c_9
        have e9 : k = 12 := by omega
        subst e9
        refine wq_s 59 rfl ?_
        exact wq_ret rfl (Or.inr ⟨rfl, fun z => (by obtain ⟨n, h0, h1, h2⟩ := z; exact hno n (by omega) h1 h2), rfl⟩)
      · have c_9 := of_decide_eq_false c_9
        refine wq_s 13 rfl ?_
        refine wq_s 16 rfl ?_
        refine wq_s 17 rfl ?_
        refine wq_getR 20 rfl rfl hG.ob hG.2.2.1 rfl ?_
        refine wq_s 22 rfl ?_
        refine wq_s 23 rfl ?_
        refine we_mul ((12 * u : Nat) : Int) 24 rfl rfl (by omega) (by omega) ?_
        refine wq_s 26 rfl ?_
        refine we_add (((12 * u) + k : Nat) : Int) 27 rfl rfl (by omega) (by omega) ?_
        refine wq_lald (v := M (o + 6) (((12 * u) + k : Nat) : Int)) 28 rfl rfl hG.a_weak.1.2 hG.a_weak.2 (by omega) (by omega) (by omega) rfl ?_
        refine wq_s 29 rfl ?_
        refine wq_getR 32 rfl rfl hG.ob hG.2.2.1 rfl ?_
        refine wq_s 34 rfl ?_
        refine wq_s 35 rfl ?_
        refine we_mul ((12 * z : Nat) : Int) 36 rfl rfl (by omega) (by omega) ?_
        refine wq_s 38 rfl ?_
        refine we_add (((12 * z) + k : Nat) : Int) 39 rfl rfl (by omega) (by omega) ?_
        refine wq_lald (v := M (o + 6) (((12 * z) + k : Nat) : Int)) 40 rfl rfl hG.a_weak.1.2 hG.a_weak.2 (by omega) (by omega) (by omega) rfl ?_
        refine wq_s 41 rfl ?_
        refine wq_lconst 0 42 rfl rfl rfl ?_
        by_cases hb : ∃ j, j < 64 ∧ (lbit (M (o + 6) ((12 * u + k : Nat) : Int)) j && lbit (M (o + 6) ((12 * z + k : Nat) : Int)) j) = true
        · obtain ⟨j, hj, hb⟩ := hb
          have hnz := lbit_nz ((lbit_and (M (o + 6) ((12 * u + k : Nat) : Int)) (M (o + 6) ((12 * z + k : Nat) : Int)) j).trans hb)
          rw [Bool.and_eq_true] at hb
          have hex : ∃ n, n < 768 ∧ A u n ∧ A z n := by
            refine ⟨64 * k + j, by omega, ?_, ?_⟩
            · have h1 := hA u hu (64 * k + j) (by omega)
              rw [show (64 * k + j) / 64 = k by omega, show (64 * k + j) % 64 = j by omega] at h1
              exact h1.1 hb.1
            · have h1 := hA z hz (64 * k + j) (by omega)
              rw [show (64 * k + j) / 64 = k by omega, show (64 * k + j) % 64 = j by omega] at h1
              exact h1.1 hb.2
          refine wq_lcmp (if w64 (b64 (fun x y => x &&& y) (M (o + 6) ((12 * u + k : Nat) : Int)) (M (o + 6) ((12 * z + k : Nat) : Int))) < w64 0 then -1 else if w64 (b64 (fun x y => x &&& y) (M (o + 6) ((12 * u + k : Nat) : Int)) (M (o + 6) ((12 * z + k : Nat) : Int))) = w64 0 then 0 else 1) 43 rfl rfl rfl ?_
          refine wq_if 50 rfl rfl (by (repeat' split) <;> decide) (fun c_43 => ?_) (fun c_43 => ?_)
          · have c_43 := of_decide_eq_true c_43
            rw [show w64 0 = 0 from by decide] at c_43
            exfalso
            revert c_43
            (repeat' split) <;> omega
          · refine wq_s 47 rfl ?_
            refine wq_s 51 rfl ?_
            refine wq_s 52 rfl ?_
            refine we_inc 4 1 ((k + 1 : Nat) : Int) 55 _ rfl rfl rfl (by omega) (by omega) rfl ?_
            refine wq_s 5 rfl ?_
            exact L_e hex (k + 1) (by omega)
        · have hz0 := lbit_zero (u := b64 (fun x y => x &&& y) (M (o + 6) ((12 * u + k : Nat) : Int)) (M (o + 6) ((12 * z + k : Nat) : Int))) (fun j hj => by
            rw [lbit_and]
            exact Bool.eq_false_iff.2 (fun h => hb ⟨j, hj, h⟩))
          refine wq_lcmp 0 43 rfl rfl (by rw [hz0]; decide) ?_
          refine wq_s 50 rfl ?_
          refine wq_s 51 rfl ?_
          refine wq_s 52 rfl ?_
          refine we_inc 4 1 ((k + 1 : Nat) : Int) 55 _ rfl rfl rfl (by omega) (by omega) rfl ?_
          refine wq_s 5 rfl ?_
          refine ih_k (k + 1) (by omega) (by omega) (fun n hn h1 h2 => ?_)
          by_cases hnk : n / 64 = k
          · refine hb ⟨n % 64, by omega, ?_⟩
            have e1 := (hA u hu n (by omega)).2 h1
            have e2 := (hA z hz n (by omega)).2 h2
            rw [hnk] at e1 e2
            rw [e1, e2]
            rfl
          · exact hno n (by omega) h1 h2
  refine wq_s 1 rfl ?_
  refine wq_s 2 rfl ?_
  refine wq_s 3 rfl ?_
  refine wq_s 5 rfl ?_
  exact L_5 13 0 (by omega) (by omega) (fun n hn => absurd hn (by omega))
/-- the pair u, v is new in the relation -/
def adP (A : Nat → Nat → Prop) (c : Prop) (u v : Nat) : Nat → Nat → Prop := fun x y => A x y ∨ (c ∧ ((x = u ∧ y = v) ∨ (x = v ∧ y = u)))
theorem RelAt.add {M M' : MT} {q u v : Nat} {A : Nat → Nat → Prop} (hA : RelAt M q A) (hS : SetAt M' q (12 * u) (fun j => A u j ∨ j = v)) (hF : FrW M M' q (12 * u)) : RelAt M' q (fun x y => A x y ∨ (x = u ∧ y = v)) := fun x hx => by
  by_cases h : x = u
  · subst h
    exact hS.ext (fun n _ => ⟨fun z => z.elim Or.inl (fun z => Or.inr ⟨rfl, z⟩), fun z => z.elim Or.inl (fun z => Or.inr z.2)⟩)
  · exact ((hA x hx).fw hF (by omega)).ext (fun n _ => ⟨Or.inl, fun z => z.elim id (fun z => absurd z.1 h)⟩)
theorem RelAt.fw {M M' : MT} {q q2 u2 : Nat} {A : Nat → Nat → Prop} (h : RelAt M q A) (hF : FrW M M' q2 u2) (hd : q ≠ q2) : RelAt M' q A := fun x hx => (h x hx).fw hF (Or.inl hd)
theorem RelAt.ext {M : MT} {q : Nat} {A A' : Nat → Nat → Prop} (h : RelAt M q A) (he : ∀ x y, A x y ↔ A' x y) : RelAt M q A' := fun x hx => (h x hx).ext (fun n _ => he x n)
theorem RelAt.fr {M M' : MT} {q : Nat} {A : Nat → Nat → Prop} (h : RelAt M q A) (he : M' q = M q) : RelAt M' q A := fun x hx n hn => by
  rw [he]
  exact h x hx n hn
theorem c_X9_link_1 {d : Nat} {G : GT} {M : MT} {o q u v : Nat} {X : Nat → Nat} {A B : Nat → Nat → Prop} (hG : RefG G o) (hu : u < 729) (hv : v < 729) (hq : q < G.1) (hT : G.2.2 q = .inl (false, 81)) (hX : AtB M q X) (hqn : q ≠ o + 6 ∧ q ≠ o + 7) (hA : RelAt M (o + 6) A) (hB : RelAt M (o + 7) B) : Mq (d + 4) k_X9_link [vR o, vR q, vI (u : Int), vI (v : Int)] G M (fun r M' => r = none ∧ RelAt M' (o + 6) (adP A (weakC X u v) u v) ∧ RelAt M' (o + 7) (adP B (strongC X u v) u v) ∧ ∀ a, a ≠ o + 6 → a ≠ o + 7 → M' a = M a) := by
  have hX0 := hX
  have hA0 := hA
  have hB0 := hB
  have hO0 : ∀ a, a ≠ o + 6 → a ≠ o + 7 → M a = M a := fun _ _ _ => rfl
  refine wq_s 1 rfl ?_
  refine wq_s 2 rfl ?_
  refine wq_s 3 rfl ?_
  refine wq_st3 6 rfl rfl (by decide) (Nat.le_of_ble_eq_true rfl) rfl (Nat.le_of_ble_eq_true rfl) (c_X9_isWeak hu hv hq hT hX0) (fun r M1 hr => ?_)
  rcases hr with ⟨rfl, b_3, hM1⟩ | ⟨rfl, b_3, hM1⟩
  · subst M1
    dsimp only [Option.toList, List.cons_append, List.nil_append]
    refine wq_s 10 rfl ?_
    refine wq_s 11 rfl ?_
    refine wq_getR 14 rfl rfl hG.ob hG.2.2.1 rfl ?_
    refine wq_s 16 rfl ?_
    refine wq_s 17 rfl ?_
    refine we_mul ((12 * u : Nat) : Int) 18 rfl rfl (by omega) (by omega) ?_
    refine wq_s 19 rfl ?_
    refine wq_st3 22 rfl rfl (by decide) (Nat.le_of_ble_eq_true rfl) rfl (Nat.le_of_ble_eq_true rfl) (c_X9_add (by omega) (by omega) (by omega) hG.a_weak.1 hG.a_weak.2 (hA0 u hu)) (fun r M1 hr => ?_)
    obtain ⟨rfl, hS1, hF1⟩ := hr
    dsimp only [Option.toList, List.cons_append, List.nil_append]
    have hA1 := hA0.add hS1 hF1
    have hB1 := hB0.fw hF1 (by omega)
    have hX1 : AtB M1 q X := hX0.fr (funext fun i => hF1 q i (Or.inl (by omega)))
    have hO1 : ∀ a, a ≠ o + 6 → a ≠ o + 7 → M1 a = M a := fun a h6 h7 => (funext fun i => hF1 a i (Or.inl (by omega))).trans (hO0 a h6 h7)
    refine wq_s 23 rfl ?_
    refine wq_getR 26 rfl rfl hG.ob hG.2.2.1 rfl ?_
    refine wq_s 28 rfl ?_
    refine wq_s 29 rfl ?_
    refine we_mul ((12 * v : Nat) : Int) 30 rfl rfl (by omega) (by omega) ?_
    refine wq_s 31 rfl ?_
    refine wq_st3 34 rfl rfl (by decide) (Nat.le_of_ble_eq_true rfl) rfl (Nat.le_of_ble_eq_true rfl) (c_X9_add (by omega) (by omega) (by omega) hG.a_weak.1 hG.a_weak.2 (hA1 v hv)) (fun r M2 hr => ?_)
    obtain ⟨rfl, hS2, hF2⟩ := hr
    dsimp only [Option.toList, List.cons_append, List.nil_append]
    have hA2 := hA1.add hS2 hF2
    have hB2 := hB1.fw hF2 (by omega)
    have hX2 : AtB M2 q X := hX1.fr (funext fun i => hF2 q i (Or.inl (by omega)))
    have hO2 : ∀ a, a ≠ o + 6 → a ≠ o + 7 → M2 a = M a := fun a h6 h7 => (funext fun i => hF2 a i (Or.inl (by omega))).trans (hO1 a h6 h7)
    refine wq_s 35 rfl ?_
    refine wq_s 36 rfl ?_
    refine wq_s 37 rfl ?_
    refine wq_st3 40 rfl rfl (by decide) (Nat.le_of_ble_eq_true rfl) rfl (Nat.le_of_ble_eq_true rfl) (c_X9_isStrong hu hv hq hT hX2) (fun r M1 hr => ?_)
    rcases hr with ⟨rfl, b_37, hM1⟩ | ⟨rfl, b_37, hM1⟩
    · subst M1
      dsimp only [Option.toList, List.cons_append, List.nil_append]
      refine wq_s 44 rfl ?_
      refine wq_s 45 rfl ?_
      refine wq_getR 48 rfl rfl hG.ob hG.2.2.1 rfl ?_
      refine wq_s 50 rfl ?_
      refine wq_s 51 rfl ?_
      refine we_mul ((12 * u : Nat) : Int) 52 rfl rfl (by omega) (by omega) ?_
      refine wq_s 53 rfl ?_
      refine wq_st3 56 rfl rfl (by decide) (Nat.le_of_ble_eq_true rfl) rfl (Nat.le_of_ble_eq_true rfl) (c_X9_add (by omega) (by omega) (by omega) hG.a_strong.1 hG.a_strong.2 (hB2 u hu)) (fun r M3 hr => ?_)
      obtain ⟨rfl, hS3, hF3⟩ := hr
      dsimp only [Option.toList, List.cons_append, List.nil_append]
      have hB3 := hB2.add hS3 hF3
      have hA3 := hA2.fw hF3 (by omega)
      have hX3 : AtB M3 q X := hX2.fr (funext fun i => hF3 q i (Or.inl (by omega)))
      have hO3 : ∀ a, a ≠ o + 6 → a ≠ o + 7 → M3 a = M a := fun a h6 h7 => (funext fun i => hF3 a i (Or.inl (by omega))).trans (hO2 a h6 h7)
      refine wq_s 57 rfl ?_
      refine wq_getR 60 rfl rfl hG.ob hG.2.2.1 rfl ?_
      refine wq_s 62 rfl ?_
      refine wq_s 63 rfl ?_
      refine we_mul ((12 * v : Nat) : Int) 64 rfl rfl (by omega) (by omega) ?_
      refine wq_s 65 rfl ?_
      refine wq_st3 68 rfl rfl (by decide) (Nat.le_of_ble_eq_true rfl) rfl (Nat.le_of_ble_eq_true rfl) (c_X9_add (by omega) (by omega) (by omega) hG.a_strong.1 hG.a_strong.2 (hB3 v hv)) (fun r M4 hr => ?_)
      obtain ⟨rfl, hS4, hF4⟩ := hr
      dsimp only [Option.toList, List.cons_append, List.nil_append]
      have hB4 := hB3.add hS4 hF4
      have hA4 := hA3.fw hF4 (by omega)
      have hX4 : AtB M4 q X := hX3.fr (funext fun i => hF4 q i (Or.inl (by omega)))
      have hO4 : ∀ a, a ≠ o + 6 → a ≠ o + 7 → M4 a = M a := fun a h6 h7 => (funext fun i => hF4 a i (Or.inl (by omega))).trans (hO3 a h6 h7)
      exact wq_ret rfl ⟨rfl, hA4.ext (fun x y => ⟨fun z => z.elim (fun z => z.elim Or.inl (fun z => Or.inr ⟨b_3, Or.inl z⟩)) (fun z => Or.inr ⟨b_3, Or.inr z⟩), fun z => z.elim (fun z => Or.inl (Or.inl z)) (fun z => z.2.elim (fun z => Or.inl (Or.inr z)) Or.inr)⟩), hB4.ext (fun x y => ⟨fun z => z.elim (fun z => z.elim Or.inl (fun z => Or.inr ⟨b_37, Or.inl z⟩)) (fun z => Or.inr ⟨b_37, Or.inr z⟩), fun z => z.elim (fun z => Or.inl (Or.inl z)) (fun z => z.2.elim (fun z => Or.inl (Or.inr z)) Or.inr)⟩), hO4⟩
    · subst M1
      dsimp only [Option.toList, List.cons_append, List.nil_append]
      refine wq_s 43 rfl ?_
      exact wq_ret rfl ⟨rfl, hA2.ext (fun x y => ⟨fun z => z.elim (fun z => z.elim Or.inl (fun z => Or.inr ⟨b_3, Or.inl z⟩)) (fun z => Or.inr ⟨b_3, Or.inr z⟩), fun z => z.elim (fun z => Or.inl (Or.inl z)) (fun z => z.2.elim (fun z => Or.inl (Or.inr z)) Or.inr)⟩), hB2.ext (fun x y => ⟨Or.inl, fun z => z.elim id (fun z => absurd z.1 b_37)⟩), hO2⟩
  · subst M1
    dsimp only [Option.toList, List.cons_append, List.nil_append]
    refine wq_s 9 rfl ?_
    exact wq_ret rfl ⟨rfl, hA0.ext (fun x y => ⟨Or.inl, fun z => z.elim id (fun z => absurd z.1 b_3)⟩), hB0.ext (fun x y => ⟨Or.inl, fun z => z.elim id (fun z => absurd z.1.1 b_3)⟩), hO0⟩
