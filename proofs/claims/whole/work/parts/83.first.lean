/-! writeChain, markFirst -/
theorem c_writeChain {d : Nat} {G : GT} {M : MT} {m : Nat} {rv : Nat → Nat} (hC : ClsG G) (hm : 1 ≤ m ∧ m ≤ 12) (hr : ∀ s, s < 2 * m → rv s < 729) (hK : BkAt M m rv) : Mq d k_X1_writeChain [vR 24, vI ((rv (2 * m - 1) : Nat) : Int)] G M (fun z M' => z = none ∧ M' 24 16 = ((2 * m : Nat) : Int) ∧ (∀ s : Nat, s < 2 * m → M' 35 (s : Int) = ((rv s : Nat) : Int)) ∧ (∀ c, c ≠ 24 → c ≠ 35 → M' c = M c) ∧ ∀ j : Int, j ≠ 16 → M' 24 j = M 24 j) := by
  have L_21 : ∀ (k : Nat) (M2 : MT) (tl : Int), (k ≤ m) → (1 ≤ k → tl = ((rv (2 * k - 1) : Nat) : Int)) → (M2 24 16 = ((2 * m : Nat) : Int)) → (∀ s : Nat, 2 * k ≤ s → s < 2 * m → M2 35 (s : Int) = ((rv s : Nat) : Int)) → (∀ c, c ≠ 24 → c ≠ 35 → M2 c = M c) → (∀ j : Int, j ≠ 16 → M2 24 j = M 24 j) → Wq d k_X1_writeChain 21 [some (vR 24), some (vI ((rv (2 * m - 1) : Nat) : Int)), some (vI tl), some (vI (((2 * k : Nat) : Int) - 2))] [] G M2 (fun z M' => z = none ∧ M' 24 16 = ((2 * m : Nat) : Int) ∧ (∀ s : Nat, s < 2 * m → M' 35 (s : Int) = ((rv s : Nat) : Int)) ∧ (∀ c, c ≠ 24 → c ≠ 35 → M' c = M c) ∧ ∀ j : Int, j ≠ 16 → M' 24 j = M 24 j) := by
    intro k
    induction k with
    | zero =>
      intro M2 tl h1 h2 a1 a2 a3 a4
      rw [show (((2 * 0 : Nat) : Int) - 2) = (-2 : Int) from rfl]
      refine wq_s 22 rfl ?_
      refine wq_s 72 rfl ?_
      exact wq_ret rfl ⟨rfl, a1, fun s hs => a2 s (by omega) hs, a3, a4⟩
    | succ k ih =>
      intro M2 tl h1 h2 a1 a2 a3 a4
      have h2 := h2 (by omega)
      rw [show 2 * (k + 1) - 1 = 2 * k + 1 by omega] at h2
      subst h2
      rw [show (((2 * (k + 1) : Nat) : Int) - 2) = ((2 * k : Nat) : Int) by omega]
      have r1 := hr (2 * k + 1) (by omega)
      have r2 := hr (2 * k) (by omega)
      refine wq_s 22 rfl ?_
      refine wq_if 72 rfl rfl (by omega) (fun c_22 => absurd c_22 cmp_ltN) (fun _ => ?_)
      refine wq_s 26 rfl ?_
      refine wq_s 27 rfl ?_
      refine we_add (((2 * k) + 1 : Nat) : Int) 28 rfl rfl (by omega) (by omega) ?_
      refine wq_s 30 rfl ?_
      refine wq_icmp 72 rfl rfl (by omega) (by omega) (fun c_30 => ?_) (fun c_30 => ?_)
      · have c_30 := of_decide_eq_true c_30
        exact absurd c_30 (by omega)
      · have c_30 := of_decide_eq_false c_30
        refine wq_s 34 rfl ?_
        refine wq_getR 37 rfl rfl (hC.lt (by omega)) (hC.ty 20 _ rfl) rfl ?_
        refine wq_s 38 rfl ?_
        refine wq_s 39 rfl ?_
        refine we_add (((2 * k) + 1 : Nat) : Int) 40 rfl rfl (by omega) (by omega) ?_
        refine wq_s 41 rfl ?_
        refine wq_iast 42 rfl rfl (hC.lt (by omega)) (hC.ty 31 _ rfl) (by omega) (by omega) (by omega) ?_
        refine wq_s 43 rfl ?_
        refine wq_getR 46 rfl rfl (hC.lt (by omega)) (hC.ty 20 _ rfl) rfl ?_
        refine wq_s 47 rfl ?_
        refine wq_s 48 rfl ?_
        refine wq_getR 51 rfl rfl (hC.lt (by omega)) (hC.ty 20 _ rfl) rfl ?_
        refine wq_s 52 rfl ?_
        refine wq_iald (v := ((rv (2 * k) : Nat) : Int)) 53 rfl rfl (hC.lt (by omega)).2 (hC.ty 28 _ rfl) (by omega) (by omega) (by omega) (by rw [up2_row (by decide), a3 _ (by decide) (by decide)]; exact hK.2.1 k (by omega)) ?_
        refine wq_iast 54 rfl rfl (hC.lt (by omega)) (hC.ty 31 _ rfl) (by omega) (by omega) (by omega) ?_
        refine wq_s 55 rfl ?_
        refine wq_getR 58 rfl rfl (hC.lt (by omega)) (hC.ty 20 _ rfl) rfl ?_
        refine wq_s 59 rfl ?_
        refine wq_getR 62 rfl rfl (hC.lt (by omega)) (hC.ty 20 _ rfl) rfl ?_
        refine wq_s 63 rfl ?_
        refine wq_iald (v := ((rv (2 * k) : Nat) : Int)) 64 rfl rfl (hC.lt (by omega)).2 (hC.ty 31 _ rfl) (by omega) (by omega) (by omega) up2_at ?_
        refine wq_iald (v := M 31 ((rv (2 * k) : Nat) : Int)) 65 rfl rfl (hC.lt (by omega)).2 (hC.ty 27 _ rfl) (by omega) (by omega) (by omega) (by rw [up2_row (by decide), up2_row (by decide), a3 _ (by decide) (by decide)]) ?_
        refine wq_s 66 rfl ?_
        refine we_inc 3 (-2) (((2 * k : Nat) : Int) - 2) 69 _ rfl rfl rfl (by omega) (by omega) rfl ?_
        refine wq_s 21 rfl ?_
        refine ih _ _ (by omega) (fun hk => hK.2.2 k hk (by omega)) (by rw [up2_row (by decide), up2_row (by decide)]; exact a1) (fun s s1 s2 => ?_) (fun c h1 h2 => by rw [up2_row h2, up2_row h2]; exact a3 c h1 h2) (fun j hj => by rw [up2_row (by decide), up2_row (by decide)]; exact a4 j hj)
        by_cases e1 : s = 2 * k
        · rw [e1, up2_at]
        · rw [up2_ne (Or.inr (by omega))]
          by_cases e2 : s = 2 * k + 1
          · rw [e2, up2_at]
          · rw [up2_ne (Or.inr (by omega))]
            exact a2 s (by omega) s2
  have r0 := hr (2 * m - 1) (by omega)
  refine wq_s 1 rfl ?_
  refine wq_s 2 rfl ?_
  refine wq_s 3 rfl ?_
  refine wq_s 4 rfl ?_
  refine wq_s 5 rfl ?_
  refine wq_getR 8 rfl rfl (hC.lt (by omega)) (hC.ty 20 _ rfl) rfl ?_
  refine wq_s 9 rfl ?_
  refine wq_iald (v := ((m : Nat) : Int)) 10 rfl rfl (hC.lt (by omega)).2 (hC.ty 29 _ rfl) (by omega) (by omega) (by omega) hK.1 ?_
  refine we_mul ((2 * m : Nat) : Int) 11 rfl rfl (by omega) (by omega) ?_
  refine wq_putE 16 14 rfl rfl (hC.lt (by omega)) (hC.ty 20 _ rfl) rfl (by decide) (Or.inl rfl) rfl ?_
  refine wq_s 15 rfl ?_
  refine wq_getE (v := ((2 * m : Nat) : Int)) 16 18 rfl rfl (hC.lt (by omega)) (hC.ty 20 _ rfl) rfl rfl up2_at ?_
  refine wq_s 19 rfl ?_
  refine we_sub (((2 * m : Nat) : Int) - 2) 20 rfl rfl (by omega) (by omega) ?_
  refine wq_s 21 rfl ?_
  exact L_21 m _ _ (Nat.le_refl _) (fun _ => rfl) up2_at (fun s h1 h2 => absurd h1 (by omega)) (fun c h1 _ => up2_row h1) (fun j hj => up2_ne (Or.inr hj))
/-- the starts below i: the least pairs, then the least start -/
def MfI (X : Nat → Nat) (i bst : Nat) (M : MT) : Prop := (bst = 13 ∧ ∀ a', a' < i → ∀ m', 1 ≤ m' → m' ≤ 12 → ¬ layJ X a' (2 * m' - 1) a') ∨ ∃ a rv, ((1 ≤ bst ∧ bst ≤ 12) ∧ a < i) ∧ IsRow X a bst rv ∧ layJ X a (2 * bst - 1) a ∧ (∀ s, s < 2 * bst → rv s < 729) ∧ (∀ a', a' < i → ∀ m', 1 ≤ m' → m' < bst → ¬ layJ X a' (2 * m' - 1) a') ∧ (∀ a', a' < a → ¬ layJ X a' (2 * bst - 1) a') ∧ M 24 16 = ((2 * bst : Nat) : Int) ∧ ∀ s : Nat, s < 2 * bst → M 35 (s : Int) = ((rv s : Nat) : Int)
theorem MfI.bd {X : Nat → Nat} {i bst : Nat} {M : MT} (h : MfI X i bst M) : 1 ≤ bst ∧ bst ≤ 13 := by
  rcases h with h | ⟨a, rv, h, -⟩
  · omega
  · omega
theorem MfI.skip {X : Nat → Nat} {i bst : Nat} {M M' : MT} (h : MfI X i bst M) (h1 : M' 24 16 = M 24 16) (h2 : M' 35 = M 35) (hn : ∀ m, 1 ≤ m → m < bst → ¬ layJ X i (2 * m - 1) i) : MfI X (i + 1) bst M' := by
  rcases h with h | ⟨a, rv, h, g1, g2, g3, g4, g5, g6, g7⟩
  · refine Or.inl ⟨h.1, fun a' ha m' m1 m2 => ?_⟩
    by_cases e : a' = i
    · rw [e]
      exact hn m' m1 (by omega)
    · exact h.2 a' (by omega) m' m1 m2
  · refine Or.inr ⟨a, rv, ⟨h.1, by omega⟩, g1, g2, g3, fun a' ha m' m1 m2 => ?_, g5, by rw [h1]; exact g6, by rw [h2]; exact g7⟩
    by_cases e : a' = i
    · rw [e]
      exact hn m' m1 m2
    · exact g4 a' (by omega) m' m1 m2
theorem MfI.old {X : Nat → Nat} {i bst : Nat} {M : MT} (h : MfI X i bst M) {a' m' : Nat} (ha : a' < i) (m1 : 1 ≤ m') (m2 : m' < bst) : ¬ layJ X a' (2 * m' - 1) a' := by
  rcases h with h | ⟨a, rv, h, g1, g2, g3, g4, g5, g6, g7⟩
  · exact h.2 a' ha m' m1 (by omega)
  · exact g4 a' ha m' m1 m2
theorem MfI.new {X : Nat → Nat} {i bst m : Nat} {M M' : MT} {rv : Nat → Nat} (h : MfI X i bst M) (hm : 1 ≤ m ∧ m < bst) (hs : StF X i m rv) (h1 : M' 24 16 = ((2 * m : Nat) : Int)) (h2 : ∀ s : Nat, s < 2 * m → M' 35 (s : Int) = ((rv s : Nat) : Int)) : MfI X (i + 1) m M' := by
  have hb := h.bd
  refine Or.inr ⟨i, rv, ⟨by omega, by omega⟩, hs.2.1, hs.2.2.1, hs.2.2.2, fun a' ha m' m1 m2 => ?_, fun a' ha => h.old ha hm.1 hm.2, h1, h2⟩
  by_cases e : a' = i
  · rw [e]
    exact hs.1 m' m1 m2
  · exact h.old (by omega) m1 (by omega)
theorem MfI.fr {X : Nat → Nat} {i bst : Nat} {M M' : MT} (h : MfI X i bst M) (h1 : M' 24 16 = M 24 16) (h2 : M' 35 = M 35) : MfI X i bst M' := by
  rcases h with h | ⟨a, rv, h, g1, g2, g3, g4, g5, g6, g7⟩
  · exact Or.inl h
  · exact Or.inr ⟨a, rv, h, g1, g2, g3, g4, g5, by rw [h1]; exact g6, by rw [h2]; exact g7⟩
theorem lay_strong {X : Nat → Nat} {a m : Nat} (hm : 1 ≤ m) (h : layJ X a (2 * m - 1) a) : 0 < (sgL X a).length := by
  obtain ⟨r, rfl⟩ : ∃ r, m = r + 1 := ⟨m - 1, by omega⟩
  rw [show 2 * (r + 1) - 1 = 2 * r + 1 by omega] at h
  obtain ⟨x', h3, h4⟩ := h
  have h4 := sgR_sym ((rkR_o (by omega)).1 h4)
  obtain ⟨j, j1, j2⟩ := (flP_mem (strongC X a) 729 x').2 ⟨h4.2.1, h4.2.2⟩
  exact Nat.lt_of_le_of_lt (Nat.zero_le _) j1
theorem c_X1_markFirst {d : Nat} {G : GT} {M : MT} {b t : Nat} {X : Nat → Nat} (hC : ClsG G) (hb : IsBd b) (hS : ShpAt M) (hB : BdC M b X) (hK : ChsAt M t) (hH : GoAt M (fun _ => 0)) (htb : t + 730 < 2147483648) : Mq (d + 4) k_X1_markFirst [vR 24, vR b] G M (fun z M' => (∃ t', t ≤ t' ∧ t' ≤ t + 729 ∧ ChsAt M' t') ∧ (∀ c, (c < 19 ∨ 35 < c ∨ 20 < c ∧ c < 24) → M' c = M c) ∧ ((z = some (vI 0) ∧ ChN X ∧ GoAt M' (fun _ => 0)) ∨ ∃ m a rv, z = some (vI ((byN X rv (2 * m) : Nat) : Int)) ∧ ChF X m a rv ∧ (∀ s, s < 2 * m → rv s < 729) ∧ GoAt M' (byY X rv (2 * m)) ∧ M' 24 16 = ((2 * m : Nat) : Int) ∧ ∀ s : Nat, s < 2 * m → M' 35 (s : Int) = ((rv s : Nat) : Int))) := by
  have L_10 : ∀ (f i : Nat) (bst : Nat) (M2 : MT) (y4 : Option AV), 729 - i < f → i ≤ 729 → (SgAt M2 (strongC X)) → (MfI X i bst M2) → (∃ u, (t ≤ u ∧ u ≤ t + i) ∧ ChsAt M2 u) → ((∀ c, (c < 19 ∨ 35 < c ∨ 20 < c ∧ c < 24) → M2 c = M c)) → (GoAt M2 (fun _ => 0)) → Wq (d + 4) k_X1_markFirst 10 [some (vR 24), some (vR b), some (vI ((bst : Nat) : Int)), some (vI ((i : Nat) : Int)), y4] [] G M2 (fun z M' => (∃ t', t ≤ t' ∧ t' ≤ t + 729 ∧ ChsAt M' t') ∧ (∀ c, (c < 19 ∨ 35 < c ∨ 20 < c ∧ c < 24) → M' c = M c) ∧ ((z = some (vI 0) ∧ ChN X ∧ GoAt M' (fun _ => 0)) ∨ ∃ m a rv, z = some (vI ((byN X rv (2 * m) : Nat) : Int)) ∧ ChF X m a rv ∧ (∀ s, s < 2 * m → rv s < 729) ∧ GoAt M' (byY X rv (2 * m)) ∧ M' 24 16 = ((2 * m : Nat) : Int) ∧ ∀ s : Nat, s < 2 * m → M' 35 (s : Int) = ((rv s : Nat) : Int))) := by
    intro f
    induction f with
    | zero => intro i bst M2 y4 h; exact absurd h (by omega)
    | succ f ih_i =>
      intro i bst M2 y4 hf_i hk_i a1 a2 a3 a4 a5
      have hb9 := a2.bd
      refine wq_s 11 rfl ?_
      refine wq_s 14 rfl ?_
      refine wq_icmp 68 rfl rfl (by omega) (by omega) (fun c_14 => ?_) (fun c_14 => ?_)
      · have c_14 := of_decide_eq_true c_14
        refine wq_s 69 rfl ?_
        refine wq_s 71 rfl ?_
        refine wq_icmp 78 rfl rfl (by omega) (by omega) (fun c_71 => ?_) (fun c_71 => ?_)
        · have c_71 := of_decide_eq_true c_71
          obtain ⟨a, rv, w0, w1, w2, w3, w4, w5, w6, w7⟩ : ∃ a rv, ((1 ≤ bst ∧ bst ≤ 12) ∧ a < i) ∧ IsRow X a bst rv ∧ layJ X a (2 * bst - 1) a ∧ (∀ s, s < 2 * bst → rv s < 729) ∧ (∀ a', a' < i → ∀ m', 1 ≤ m' → m' < bst → ¬ layJ X a' (2 * m' - 1) a') ∧ (∀ a', a' < a → ¬ layJ X a' (2 * bst - 1) a') ∧ M2 24 16 = ((2 * bst : Nat) : Int) ∧ ∀ s : Nat, s < 2 * bst → M2 35 (s : Int) = ((rv s : Nat) : Int) := by
            rcases a2 with ⟨a2, _⟩ | a2
            · omega
            · exact a2
          refine wq_s 79 rfl ?_
          refine wq_s 80 rfl ?_
          refine wq_s 81 rfl ?_
          refine wq_getR 84 rfl rfl (hC.lt (by omega)) (hC.ty 20 _ rfl) rfl ?_
          refine wq_s 85 rfl ?_
          refine wq_s 86 rfl ?_
          refine wq_getE (v := ((2 * bst : Nat) : Int)) 16 89 rfl rfl (hC.lt (by omega)) (hC.ty 20 _ rfl) rfl rfl w6 ?_
          refine wq_vt4 92 rfl rfl (Nat.le_of_ble_eq_true rfl) (hC.lt (by omega)) (hC.ty 20 _ rfl) rfl (Nat.le_of_ble_eq_true rfl) (c_X1_mark (qn := 35) (u := 0) (w := 2 * bst) (Nn := 24) (rv := rv) hC hb (hS.fr (a4 _ (by decide)) (a4 _ (by decide)) (a4 _ (by decide)) (a4 _ (by decide))) (hB.fr (a4 _ (by omega)) (a4 _ (by omega))) a5 ⟨(hC.lt (by omega)).2, hC.ty 31 _ rfl, by omega, by decide⟩ (by decide) (by omega) (fun s hs => ⟨by rw [Nat.zero_add]; exact w7 s hs, w3 s hs⟩)) (fun z M3 hz => ?_)
          obtain ⟨rfl, z1, z2, z3⟩ := hz
          dsimp only [Option.toList, List.cons_append, List.nil_append]
          exact wq_ret rfl ⟨(by obtain ⟨u, u1, u2⟩ := a3; exact ⟨u, by omega, by omega, by rw [z3 _ (by decide)]; exact u2.1, fun m hm => by rw [z2 28 (by decide) (by decide) (by decide) (by decide), z2 29 (by decide) (by decide) (by decide) (by decide), z2 30 (by decide) (by decide) (by decide) (by decide)]; exact u2.2 m hm⟩), (fun c hc => by rw [z2 c (by omega) (by omega) (by omega) (by omega)]; exact a4 c hc), Or.inr ⟨bst, a, rv, rfl, ⟨w0.1, w2, (fun m' m1 m2 a' z => (by have hal := layJ_lt z; exact w4 a' (by omega) m' m1 m2 z)), w5, w1⟩, w3, z1, (by rw [z3 _ (by decide)]; exact w6), (by rw [z2 35 (by decide) (by decide) (by decide) (by decide)]; exact w7)⟩⟩
        · have c_71 := of_decide_eq_false c_71
          refine wq_s 75 rfl ?_
          refine wq_s 92 rfl ?_
          exact wq_ret rfl ⟨(by obtain ⟨u, u1, u2⟩ := a3; exact ⟨u, by omega, by omega, u2⟩), a4, Or.inl ⟨rfl, fun m m1 m2 a z => (by have hal := layJ_lt z; rcases a2 with ⟨_, a2⟩ | ⟨a', rv, w1, _⟩; exact a2 a (by omega) m m1 m2 z; omega), a5⟩⟩
      · have c_14 := of_decide_eq_false c_14
        refine wq_s 18 rfl ?_
        refine wq_s 19 rfl ?_
        refine wq_icmp 68 rfl rfl (by omega) (by omega) (fun c_19 => ?_) (fun c_19 => ?_)
        · have c_19 := of_decide_eq_true c_19
          refine wq_s 69 rfl ?_
          refine wq_s 71 rfl ?_
          refine wq_icmp 78 rfl rfl (by omega) (by omega) (fun c_71 => ?_) (fun c_71 => ?_)
          · have c_71 := of_decide_eq_true c_71
            obtain ⟨a, rv, w0, w1, w2, w3, w4, w5, w6, w7⟩ : ∃ a rv, ((1 ≤ bst ∧ bst ≤ 12) ∧ a < i) ∧ IsRow X a bst rv ∧ layJ X a (2 * bst - 1) a ∧ (∀ s, s < 2 * bst → rv s < 729) ∧ (∀ a', a' < i → ∀ m', 1 ≤ m' → m' < bst → ¬ layJ X a' (2 * m' - 1) a') ∧ (∀ a', a' < a → ¬ layJ X a' (2 * bst - 1) a') ∧ M2 24 16 = ((2 * bst : Nat) : Int) ∧ ∀ s : Nat, s < 2 * bst → M2 35 (s : Int) = ((rv s : Nat) : Int) := by
              rcases a2 with ⟨a2, _⟩ | a2
              · omega
              · exact a2
            refine wq_s 79 rfl ?_
            refine wq_s 80 rfl ?_
            refine wq_s 81 rfl ?_
            refine wq_getR 84 rfl rfl (hC.lt (by omega)) (hC.ty 20 _ rfl) rfl ?_
            refine wq_s 85 rfl ?_
            refine wq_s 86 rfl ?_
            refine wq_getE (v := ((2 * bst : Nat) : Int)) 16 89 rfl rfl (hC.lt (by omega)) (hC.ty 20 _ rfl) rfl rfl w6 ?_
            refine wq_vt4 92 rfl rfl (Nat.le_of_ble_eq_true rfl) (hC.lt (by omega)) (hC.ty 20 _ rfl) rfl (Nat.le_of_ble_eq_true rfl) (c_X1_mark (qn := 35) (u := 0) (w := 2 * bst) (Nn := 24) (rv := rv) hC hb (hS.fr (a4 _ (by decide)) (a4 _ (by decide)) (a4 _ (by decide)) (a4 _ (by decide))) (hB.fr (a4 _ (by omega)) (a4 _ (by omega))) a5 ⟨(hC.lt (by omega)).2, hC.ty 31 _ rfl, by omega, by decide⟩ (by decide) (by omega) (fun s hs => ⟨by rw [Nat.zero_add]; exact w7 s hs, w3 s hs⟩)) (fun z M3 hz => ?_)
            obtain ⟨rfl, z1, z2, z3⟩ := hz
            dsimp only [Option.toList, List.cons_append, List.nil_append]
            exact wq_ret rfl ⟨(by obtain ⟨u, u1, u2⟩ := a3; exact ⟨u, by omega, by omega, by rw [z3 _ (by decide)]; exact u2.1, fun m hm => by rw [z2 28 (by decide) (by decide) (by decide) (by decide), z2 29 (by decide) (by decide) (by decide) (by decide), z2 30 (by decide) (by decide) (by decide) (by decide)]; exact u2.2 m hm⟩), (fun c hc => by rw [z2 c (by omega) (by omega) (by omega) (by omega)]; exact a4 c hc), Or.inr ⟨bst, a, rv, rfl, ⟨w0.1, w2, (fun m' m1 m2 a' z => (by have hal := layJ_lt z; exact w4 a' (by omega) m' m1 m2 z)), w5, w1⟩, w3, z1, (by rw [z3 _ (by decide)]; exact w6), (by rw [z2 35 (by decide) (by decide) (by decide) (by decide)]; exact w7)⟩⟩
          · have c_71 := of_decide_eq_false c_71
            refine wq_s 75 rfl ?_
            refine wq_s 92 rfl ?_
            exact wq_ret rfl ⟨(by obtain ⟨u, u1, u2⟩ := a3; exact ⟨u, by omega, by omega, u2⟩), a4, Or.inl ⟨rfl, fun m m1 m2 a z => (by have hal := layJ_lt z; rcases a2 with ⟨_, a2⟩ | ⟨a', rv, w1, _⟩; exact a2 a (by omega) m m1 m2 z; omega), a5⟩⟩
        · have c_19 := of_decide_eq_false c_19
          have hl4 : (sgL X i).length ≤ 4 := (a1 i (by omega)).2.1
          refine wq_s 23 rfl ?_
          refine wq_getR 26 rfl rfl (hC.lt (by omega)) (hC.ty 20 _ rfl) rfl ?_
          refine wq_s 27 rfl ?_
          refine wq_iald (v := (((sgL X i).length : Nat) : Int)) 28 rfl rfl (hC.lt (by omega)).2 (hC.ty 22 _ rfl) (by omega) (by omega) (by omega) (a1 i (by omega)).1 ?_
          refine wq_if 62 rfl rfl (by omega) (fun c_28 => ?_) (fun c_28 => ?_)
          · have c_28 := of_decide_eq_true c_28
            refine we_inc 3 1 ((i + 1 : Nat) : Int) 65 _ rfl rfl rfl (by omega) (by omega) rfl ?_
            refine wq_s 10 rfl ?_
            exact ih_i (i + 1) _ _ _ (by omega) (by omega) a1 (a2.skip rfl rfl (fun m m1 _ z => by have := lay_strong m1 z; omega)) (by obtain ⟨u, u1, u2⟩ := a3; exact ⟨u, by omega, u2⟩) a4 a5
          · have c_28 := of_decide_eq_false c_28
            refine wq_s 32 rfl ?_
            refine wq_s 33 rfl ?_
            refine wq_s 34 rfl ?_
            refine wq_s 35 rfl ?_
            refine wq_s 36 rfl ?_
            refine we_sub ((bst - 1 : Nat) : Int) 37 rfl rfl (by omega) (by omega) ?_
            have hh9 : hasN X i = 1 := (flP_at (P := strongC X i) (n := 729) (j := 0) (show 0 < (sgL X i).length by omega)).2.1.2.1
            obtain ⟨u, u1, hu⟩ := a3
            refine wq_vt3 40 rfl rfl (Nat.le_of_ble_eq_true rfl) (hC.lt (by omega)) (hC.ty 20 _ rfl) rfl (Nat.le_of_ble_eq_true rfl) (c_reach (a := i) (most := bst - 1) (t := u) hC hb (hS.fr (a4 _ (by decide)) (a4 _ (by decide)) (a4 _ (by decide)) (a4 _ (by decide))) (hB.fr (a4 _ (by omega)) (a4 _ (by omega))) a1 hu (by omega) (by omega) hh9 ⟨by omega, by omega⟩) (fun z M3 hz => ?_)
            obtain ⟨e1, e2, e3, hz⟩ := hz
            have s3 : SgAt M3 (strongC X) := a1.fr (e2 _ (by decide) (by decide)) (e2 _ (by decide) (by decide))
            have f3 : (∀ c, (c < 19 ∨ 35 < c ∨ 20 < c ∧ c < 24) → M3 c = M c) := fun c hc => by rw [e2 c (by omega) (by omega)]; exact a4 c hc
            have g3 : GoAt M3 (fun _ => 0) := a5.fr (e2 _ (by decide) (by decide)) (e2 _ (by decide) (by decide))
            rcases hz with ⟨rfl, k1⟩ | ⟨m, rv, rfl, k2, k3, k4⟩
            · dsimp only [Option.toList, List.cons_append, List.nil_append]
              refine wq_s 42 rfl ?_
              refine wq_s 44 rfl ?_
              refine wq_s 45 rfl ?_
              refine wq_s 62 rfl ?_
              refine we_inc 3 1 ((i + 1 : Nat) : Int) 65 _ rfl rfl rfl (by omega) (by omega) rfl ?_
              refine wq_s 10 rfl ?_
              exact ih_i (i + 1) _ _ _ (by omega) (by omega) s3 (a2.skip (e3 _ (by decide) (by decide) (by decide)) (e2 _ (by decide) (by decide)) (fun m m1 m2 => k1 m m1 (by omega))) ⟨u + 1, by omega, e1⟩ f3 g3
            · have r9 := k3.2.2.2 (2 * m - 1) (by omega)
              dsimp only [Option.toList, List.cons_append, List.nil_append]
              obtain ⟨e, he⟩ : ∃ e : Int, e = ((rv (2 * m - 1) : Nat) : Int) := ⟨_, rfl⟩
              rw [← he]
              refine wq_s 42 rfl ?_
              refine wq_s 44 rfl ?_
              refine wq_s 45 rfl ?_
              refine wq_icmp 62 rfl rfl (by omega) (by omega) (fun c_45 => ?_) (fun c_45 => ?_)
              · have c_45 := of_decide_eq_true c_45
                exact absurd c_45 (by omega)
              · have c_45 := of_decide_eq_false c_45
                subst he
                refine wq_s 49 rfl ?_
                refine wq_getR 52 rfl rfl (hC.lt (by omega)) (hC.ty 20 _ rfl) rfl ?_
                refine wq_s 54 rfl ?_
                refine wq_iald (v := ((m : Nat) : Int)) 55 rfl rfl (hC.lt (by omega)).2 (hC.ty 29 _ rfl) (by omega) (by omega) (by omega) k4.1 ?_
                refine wq_s 56 rfl ?_
                refine wq_s 57 rfl ?_
                refine wq_s 59 rfl ?_
                refine wq_vt1 62 rfl rfl (Nat.le_of_ble_eq_true rfl) (hC.lt (by omega)) (hC.ty 20 _ rfl) rfl (Nat.le_of_ble_eq_true rfl) (c_writeChain (m := m) (rv := rv) hC ⟨k2.1, by omega⟩ k3.2.2.2 k4) (fun z M4 hz => ?_)
                obtain ⟨rfl, w1, w2, w3, w4⟩ := hz
                dsimp only [Option.toList, List.cons_append, List.nil_append]
                refine we_inc 3 1 ((i + 1 : Nat) : Int) 65 _ rfl rfl rfl (by omega) (by omega) rfl ?_
                refine wq_s 10 rfl ?_
                exact ih_i (i + 1) m M4 _ (by omega) (by omega) (s3.fr (w3 _ (by decide) (by decide)) (w3 _ (by decide) (by decide))) (a2.new (by omega) k3 w1 w2) ⟨u + 1, by omega, by rw [w4 _ (by decide)]; exact e1.1, fun m hm => by rw [w3 28 (by decide) (by decide), w3 29 (by decide) (by decide), w3 30 (by decide) (by decide)]; exact e1.2 m hm⟩ (fun c hc => by rw [w3 c (by omega) (by omega)]; exact f3 c hc) (g3.fr (w3 _ (by decide) (by decide)) (w3 _ (by decide) (by decide)))
  refine wq_s 1 rfl ?_
  refine wq_s 2 rfl ?_
  refine wq_vt1 5 rfl rfl (Nat.le_of_ble_eq_true rfl) (hC.lt (by omega)) (hC.ty 20 _ rfl) rfl (Nat.le_of_ble_eq_true rfl) (c_listAllStrong hC hb hS hB) (fun z M3 hz => ?_)
  obtain ⟨rfl, g1, g2⟩ := hz
  dsimp only [Option.toList, List.cons_append, List.nil_append]
  refine wq_s 7 rfl ?_
  refine wq_s 8 rfl ?_
  refine wq_s 9 rfl ?_
  refine wq_s 10 rfl ?_
  exact L_10 730 0 13 M3 _ (by omega) (by omega) g1 (Or.inl ⟨rfl, fun a ha => absurd ha (Nat.not_lt_zero _)⟩) ⟨t, by omega, by rw [g2 _ (by decide) (by decide)]; exact hK.1, fun m hm => by rw [g2 28 (by decide) (by decide), g2 29 (by decide) (by decide), g2 30 (by decide) (by decide)]; exact hK.2 m hm⟩ (fun c hc => g2 c (by omega) (by omega)) (hH.fr (g2 _ (by decide) (by decide)) (g2 _ (by decide) (by decide)))
