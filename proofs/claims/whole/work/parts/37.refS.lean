/-! the image of a set by a relation -/
/-- the nodes that are there, in a list -/
def ThAt (M : MT) (o : Nat) (l : List Nat) : Prop := M o 8 = (l.length : Int) ∧ l.length ≤ 729 ∧ ∀ j, j < l.length → M (o + 8) (j : Int) = ((l.getD j 0 : Nat) : Int) ∧ l.getD j 0 < 729
theorem ThAt.fr {M M' : MT} {o : Nat} {l : List Nat} (h : ThAt M o l) (h1 : M' o = M o) (h2 : M' (o + 8) = M (o + 8)) : ThAt M' o l := by
  obtain ⟨a1, a2, a3⟩ := h
  refine ⟨by rw [h1]; exact a1, a2, fun j hj => ?_⟩
  rw [h2]
  exact a3 j hj
/-- what a set's nodes among l lead to -/
def imS (l : List Nat) (S : Nat → Prop) (B : Nat → Nat → Prop) (i : Nat) (n : Nat) : Prop := ∃ j, j < i ∧ S (l.getD j 0) ∧ B (l.getD j 0) n
theorem c_X9_image {d : Nat} {G : GT} {M : MT} {o qf ua qb qt uw Nf Nt : Nat} {l : List Nat} {S : Nat → Prop} {B : Nat → Nat → Prop} (hG : RefG G o) (hL : ThAt M o l) (hS : SetAt M qf ua S) (hB : RelAt M qb B)
    (hf : qf < G.1 ∧ G.2.2 qf = .inl (true, Nf) ∧ ua + 12 ≤ Nf ∧ Nf < 100000) (hb : qb < G.1 ∧ G.2.2 qb = .inl (true, 8748)) (ht : (EXN ≤ qt ∧ qt < G.1) ∧ G.2.2 qt = .inl (true, Nt) ∧ uw + 12 ≤ Nt ∧ Nt < 100000) (hne : qf ≠ o + 11 ∧ qb ≠ o + 11 ∧ qt ≠ o + 11) : Mq (d + 1) k_X9_image [vR o, vR qf, vI (ua : Int), vR qb, vR qt, vI (uw : Int)] G M (fun r M' => r = none ∧ SetAt M' qt uw (imS l S B l.length) ∧ ∀ (a : Nat) (i : Int), a ≠ o + 11 → (a ≠ qt ∨ i < uw ∨ (uw : Int) + 12 ≤ i) → M' a i = M a i) := by
  obtain ⟨l1, l2, l3⟩ := id hL
  have L_103 : ∀ (f k : Nat) (M2 : MT) (y7 : Option AV) (y8 : Option AV), 12 - k < f → k ≤ 12 → (SetAt M2 (o + 11) 0 (imS l S B l.length)) → (∀ (a : Nat) (i : Int), a ≠ o + 11 → (a ≠ qt ∨ i < uw ∨ (uw : Int) + 12 ≤ i) → M2 a i = M a i) → (∀ w : Nat, w < k → M2 qt ((uw + w : Nat) : Int) = M2 (o + 11) (w : Int)) → Wq (d + 1) k_X9_image 103 [some (vR o), some (vR qf), some (vI ((ua : Nat) : Int)), some (vR qb), some (vR qt), some (vI ((uw : Nat) : Int)), some (vI ((k : Nat) : Int)), y7, y8] [] G M2 (fun r M' => r = none ∧ SetAt M' qt uw (imS l S B l.length) ∧ ∀ (a : Nat) (i : Int), a ≠ o + 11 → (a ≠ qt ∨ i < uw ∨ (uw : Int) + 12 ≤ i) → M' a i = M a i) := by
    intro f
    induction f with
    | zero => intro k M2 y7 y8 h; exact absurd h (by omega)
    | succ f ih_k =>
      intro k M2 y7 y8 hf_k hk_k hP hFr hW
      refine wq_s 105 rfl ?_
      refine wq_s 107 rfl ?_
      refine wq_icmp 131 rfl rfl (by omega) (by omega) (fun c_107 => ?_) (fun c_107 => ?_)
      · have c_107 := of_decide_eq_true c_107
        have e9 : k = 12 := by omega
        subst e9
        exact wq_ret rfl ⟨rfl, (fun n hn => by
            rw [hW (n / 64) (by omega)]
            have h1 := hP n hn
            rw [Nat.zero_add] at h1
            exact h1), hFr⟩
      · have c_107 := of_decide_eq_false c_107
        refine wq_s 112 rfl ?_
        refine wq_s 114 rfl ?_
        refine wq_s 116 rfl ?_
        refine we_add ((uw + k : Nat) : Int) 117 rfl rfl (by omega) (by omega) ?_
        refine wq_s 118 rfl ?_
        refine wq_getR 121 rfl rfl hG.ob hG.2.2.1 rfl ?_
        refine wq_s 123 rfl ?_
        refine wq_lald (v := M2 (o + 11) ((k : Nat) : Int)) 124 rfl rfl hG.a_some.1.2 hG.a_some.2 (by omega) (by omega) (by omega) rfl ?_
        refine wq_last 125 rfl rfl ht.1 ht.2.1 (by omega) (by omega) (by omega) ?_
        refine we_inc 6 1 ((k + 1 : Nat) : Int) 128 _ rfl rfl rfl (by omega) (by omega) rfl ?_
        refine wq_s 103 rfl ?_
        refine ih_k (k + 1) _ _ _ (by omega) (by omega) ?_ ?_ ?_
        · exact hP.fr (fun w hw => up2_ne (Or.inl (by omega)))
        · intro a i ha hi
          exact (up2_ne (by omega)).trans (hFr a i ha hi)
        · intro w hw
          by_cases hwk : w = k
          · subst hwk
            exact up2_at.trans (up2_ne (Or.inl (by omega))).symm
          · exact (up2_ne (Or.inr (by omega))).trans ((hW w (by omega)).trans (up2_ne (Or.inl (by omega))).symm)
  have L_27 : ∀ (f i : Nat) (M2 : MT) (y7 : Option AV) (y8 : Option AV), l.length - i < f → i ≤ l.length → (SetAt M2 (o + 11) 0 (imS l S B i)) → (∀ (a : Nat) (i : Int), a ≠ o + 11 → M2 a i = M a i) → Wq (d + 1) k_X9_image 27 [some (vR o), some (vR qf), some (vI ((ua : Nat) : Int)), some (vR qb), some (vR qt), some (vI ((uw : Nat) : Int)), some (vI ((i : Nat) : Int)), y7, y8] [] G M2 (fun r M' => r = none ∧ SetAt M' qt uw (imS l S B l.length) ∧ ∀ (a : Nat) (i : Int), a ≠ o + 11 → (a ≠ qt ∨ i < uw ∨ (uw : Int) + 12 ≤ i) → M' a i = M a i) := by
    intro f
    induction f with
    | zero => intro i M2 y7 y8 h; exact absurd h (by omega)
    | succ f ih_i =>
      intro i M2 y7 y8 hf_i hk_i hP hFr
      refine wq_s 29 rfl ?_
      refine wq_s 30 rfl ?_
      refine wq_getE (v := ((l.length : Nat) : Int)) 8 33 rfl rfl hG.ob hG.2.2.1 rfl rfl ((hFr o 8 (by omega)).trans l1) ?_
      refine wq_icmp 100 rfl rfl (by omega) (by omega) (fun c_33 => ?_) (fun c_33 => ?_)
      · have c_33 := of_decide_eq_true c_33
        have e9 : i = l.length := by omega
        subst e9
        refine wq_s 101 rfl ?_
        refine wq_s 103 rfl ?_
        refine L_103 13 0 _ _ _ (by omega) (by omega) hP (fun a i ha _ => hFr a i ha) (fun w hw => absurd hw (by omega))
      · have c_33 := of_decide_eq_false c_33
        refine wq_s 37 rfl ?_
        refine wq_getR 40 rfl rfl hG.ob hG.2.2.1 rfl ?_
        refine wq_s 42 rfl ?_
        refine wq_iald (v := ((l.getD i 0 : Nat) : Int)) 43 rfl rfl hG.a_there.1.2 hG.a_there.2 (by omega) (by omega) (by omega) ((hFr (o + 8) _ (by omega)).trans (l3 i (by omega)).1) ?_
        refine wq_s 45 rfl ?_
        have hl9 := (l3 i (by omega)).2
        refine wq_s 46 rfl ?_
        refine wq_s 47 rfl ?_
        refine wq_s 49 rfl ?_
        refine wq_st3 52 rfl rfl (by decide) (Nat.le_of_ble_eq_true rfl) rfl (Nat.le_of_ble_eq_true rfl) (c_X9_has (S := S) (by have := (l3 i (by omega)).2; omega) hf.2.2.1 hf.2.2.2 hf.1 hf.2.1 (hS.fr (fun w hw => hFr qf _ (by omega)))) (fun r M1 hr => ?_)
        rcases hr with ⟨rfl, b_49, hM1⟩ | ⟨rfl, b_49, hM1⟩
        · subst M1
          dsimp only [Option.toList, List.cons_append, List.nil_append]
          have L_61 : ∀ (f2 k : Nat) (M2 : MT), 12 - k < f2 → k ≤ 12 → (∀ n, n < 768 → (lbit (M2 (o + 11) ((n / 64 : Nat) : Int)) (n % 64) = true ↔ (imS l S B i n ∨ (n / 64 < k ∧ B (l.getD i 0) n)))) → (∀ (a : Nat) (i : Int), a ≠ o + 11 → M2 a i = M a i) → Wq (d + 1) k_X9_image 61 [some (vR o), some (vR qf), some (vI ((ua : Nat) : Int)), some (vR qb), some (vR qt), some (vI ((uw : Nat) : Int)), some (vI ((i : Nat) : Int)), some (vI ((l.getD i 0 : Nat) : Int)), some (vI ((k : Nat) : Int))] [] G M2 (fun r M' => r = none ∧ SetAt M' qt uw (imS l S B l.length) ∧ ∀ (a : Nat) (i : Int), a ≠ o + 11 → (a ≠ qt ∨ i < uw ∨ (uw : Int) + 12 ≤ i) → M' a i = M a i) := by
            intro f2
            induction f2 with
            | zero => intro k M2 h; exact absurd h (by omega)
            | succ f2 ih_k =>
              intro k M2 hf_k hk_k hI hFr
              refine wq_s 63 rfl ?_
              refine wq_s 65 rfl ?_
              refine wq_icmp 94 rfl rfl (by omega) (by omega) (fun c_65 => ?_) (fun c_65 => ?_)
              · have c_65 := of_decide_eq_true c_65
                have e9 : k = 12 := by omega
                subst e9
                refine we_inc 6 1 ((i + 1 : Nat) : Int) 97 _ rfl rfl rfl (by omega) (by omega) rfl ?_
                refine wq_s 27 rfl ?_
                refine ih_i (i + 1) _ _ _ (by omega) (by omega) ?_ hFr
                intro n hn
                rw [Nat.zero_add, hI n hn]
                constructor
                · rintro (⟨j, h1, h2⟩ | h3)
                  · exact ⟨j, by omega, h2⟩
                  · exact ⟨i, by omega, b_49, h3.2⟩
                · rintro ⟨j, h1, h2⟩
                  by_cases hji : j = i
                  · subst hji
                    exact Or.inr ⟨by omega, h2.2⟩
                  · exact Or.inl ⟨j, by omega, h2⟩
              · have c_65 := of_decide_eq_false c_65
                refine wq_s 69 rfl ?_
                refine wq_getR 72 rfl rfl hG.ob hG.2.2.1 rfl ?_
                refine wq_s 74 rfl ?_
                refine wq_s 75 rfl ?_
                refine wq_lald (v := M2 (o + 11) ((k : Nat) : Int)) 76 rfl rfl hG.a_some.1.2 hG.a_some.2 (by omega) (by omega) (by omega) rfl ?_
                refine wq_s 77 rfl ?_
                refine wq_s 79 rfl ?_
                refine wq_s 81 rfl ?_
                refine we_mul ((12 * (l.getD i 0) : Nat) : Int) 82 rfl rfl (by omega) (by omega) ?_
                refine wq_s 84 rfl ?_
                refine we_add (((12 * (l.getD i 0)) + k : Nat) : Int) 85 rfl rfl (by omega) (by omega) ?_
                refine wq_lald (v := M2 qb (((12 * (l.getD i 0)) + k : Nat) : Int)) 86 rfl rfl (And.intro (Nat.zero_le 0) hb.1).2 hb.2 (by omega) (by omega) (by omega) rfl ?_
                refine wq_s 87 rfl ?_
                refine wq_last 88 rfl rfl hG.a_some.1 hG.a_some.2 (by omega) (by omega) (by omega) ?_
                refine we_inc 8 1 ((k + 1 : Nat) : Int) 91 _ rfl rfl rfl (by omega) (by omega) rfl ?_
                refine wq_s 61 rfl ?_
                refine ih_k (k + 1) _ (by omega) (by omega) ?_ ?_
                · intro n hn
                  by_cases hnk : n / 64 = k
                  · rw [up2_eq rfl (by omega), lbit_or, Bool.or_eq_true]
                    have h1 := hI n hn
                    rw [hnk] at h1
                    have h2 := hB (l.getD i 0) (l3 i (by omega)).2 n hn
                    rw [hnk] at h2
                    rw [h1, hFr qb _ (by omega), h2]
                    constructor
                    · rintro ((h3 | h3) | h3)
                      · exact Or.inl h3
                      · exact absurd h3.1 (by omega)
                      · exact Or.inr ⟨by omega, h3⟩
                    · rintro (h3 | h3)
                      · exact Or.inl (Or.inl h3)
                      · exact Or.inr h3.2
                  · rw [up2_ne (Or.inr (by omega)), hI n hn]
                    constructor
                    · rintro (h3 | h3)
                      · exact Or.inl h3
                      · exact Or.inr ⟨by omega, h3.2⟩
                    · rintro (h3 | h3)
                      · exact Or.inl h3
                      · exact Or.inr ⟨by omega, h3.2⟩
                · intro a j ha
                  exact (up2_ne (Or.inl ha)).trans (hFr a j ha)
          refine wq_s 58 rfl ?_
          refine wq_s 59 rfl ?_
          refine wq_s 61 rfl ?_
          refine L_61 13 0 _ (by omega) (by omega) ?_ hFr
          intro n hn
          have h1 := hP n hn
          rw [Nat.zero_add] at h1
          rw [h1]
          constructor
          · exact Or.inl
          · rintro (h3 | h3)
            · exact h3
            · exact absurd h3.1 (by omega)
        · subst M1
          dsimp only [Option.toList, List.cons_append, List.nil_append]
          refine wq_s 55 rfl ?_
          refine wq_s 94 rfl ?_
          refine we_inc 6 1 ((i + 1 : Nat) : Int) 97 _ rfl rfl rfl (by omega) (by omega) rfl ?_
          refine wq_s 27 rfl ?_
          refine ih_i (i + 1) _ _ _ (by omega) (by omega) ?_ hFr
          refine hP.ext (fun n hn => ?_)
          constructor
          · rintro ⟨j, h1, h2⟩
            exact ⟨j, by omega, h2⟩
          · rintro ⟨j, h1, h2⟩
            by_cases hji : j = i
            · subst hji
              exact absurd h2.1 b_49
            · exact ⟨j, by omega, h2⟩
  have L_3 : ∀ (f k : Nat) (M2 : MT), 12 - k < f → k ≤ 12 → (∀ w : Nat, w < k → M2 (o + 11) (w : Int) = 0) → (∀ (a : Nat) (i : Int), a ≠ o + 11 → M2 a i = M a i) → Wq (d + 1) k_X9_image 3 [some (vR o), some (vR qf), some (vI ((ua : Nat) : Int)), some (vR qb), some (vR qt), some (vI ((uw : Nat) : Int)), some (vI ((k : Nat) : Int)), none, none] [] G M2 (fun r M' => r = none ∧ SetAt M' qt uw (imS l S B l.length) ∧ ∀ (a : Nat) (i : Int), a ≠ o + 11 → (a ≠ qt ∨ i < uw ∨ (uw : Int) + 12 ≤ i) → M' a i = M a i) := by
    intro f
    induction f with
    | zero => intro k M2 h; exact absurd h (by omega)
    | succ f ih_k =>
      intro k M2 hf_k hk_k hZ hFr
      refine wq_s 5 rfl ?_
      refine wq_s 7 rfl ?_
      refine wq_icmp 24 rfl rfl (by omega) (by omega) (fun c_7 => ?_) (fun c_7 => ?_)
      · have c_7 := of_decide_eq_true c_7
        have e9 : k = 12 := by omega
        subst e9
        refine wq_s 25 rfl ?_
        refine wq_s 27 rfl ?_
        refine L_27 (l.length + 1) 0 _ _ _ (by omega) (by omega) ?_ hFr
        intro n hn
        rw [Nat.zero_add, hZ (n / 64) (by omega), lbit_0]
        constructor
        · intro h; cases h
        · rintro ⟨j, h1, h2⟩
          exact absurd h1 (by omega)
      · have c_7 := of_decide_eq_false c_7
        refine wq_s 11 rfl ?_
        refine wq_getR 14 rfl rfl hG.ob hG.2.2.1 rfl ?_
        refine wq_s 16 rfl ?_
        refine wq_lconst 0 17 rfl rfl rfl ?_
        refine wq_last 18 rfl rfl hG.a_some.1 hG.a_some.2 (by omega) (by omega) (by omega) ?_
        refine we_inc 6 1 ((k + 1 : Nat) : Int) 21 _ rfl rfl rfl (by omega) (by omega) rfl ?_
        refine wq_s 3 rfl ?_
        refine ih_k (k + 1) _ (by omega) (by omega) ?_ ?_
        · intro w hw
          by_cases hwk : w = k
          · subst hwk
            exact up2_at
          · exact (up2_ne (Or.inr (by omega))).trans (hZ w (by omega))
        · intro a i ha
          exact (up2_ne (Or.inl ha)).trans (hFr a i ha)
  refine wq_s 1 rfl ?_
  refine wq_s 3 rfl ?_
  exact L_3 13 0 M (by omega) (by omega) (fun w hw => absurd hw (by omega)) (fun _ _ _ => rfl)
