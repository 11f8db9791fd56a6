/-! the search for chains: what was seen; meetsFirst, addTails -/
/-- row q marks the nodes of S with the stamp t -/
def SnAt (M : MT) (q t : Nat) (S : Nat → Prop) : Prop := ∀ m : Nat, m < 729 → (0 ≤ M q (m : Int) ∧ M q (m : Int) ≤ (t : Int)) ∧ (M q (m : Int) = (t : Int) ↔ S m)
theorem SnAt.fr {M M' : MT} {q t : Nat} {S : Nat → Prop} (h : SnAt M q t S) (he : M' q = M q) : SnAt M' q t S := fun m hm => by
  rw [he]
  exact h m hm
theorem SnAt.ext {M : MT} {q t : Nat} {S S' : Nat → Prop} (h : SnAt M q t S) (he : ∀ m, m < 729 → (S m ↔ S' m)) : SnAt M q t S' := fun m hm => ⟨(h m hm).1, (h m hm).2.trans (he m hm)⟩
theorem SnAt.add {M : MT} {q t n : Nat} {S : Nat → Prop} (h : SnAt M q t S) : SnAt (up2 M q (n : Int) (t : Int)) q t (fun m => S m ∨ m = n) := fun m hm => by
  by_cases hmn : m = n
  · subst hmn
    rw [up2_at]
    exact ⟨⟨by omega, Int.le_refl _⟩, ⟨fun _ => Or.inr rfl, fun _ => rfl⟩⟩
  · rw [up2_ne (Or.inr (by omega))]
    exact ⟨(h m hm).1, (h m hm).2.trans ⟨Or.inl, fun z => z.elim id (fun z => absurd z hmn)⟩⟩
theorem c_meetsFirst {d : Nat} {G : GT} {M : MT} {l : List Nat} {t : Nat} {S : Nat → Prop} (hC : ClsG G) (hL : WlAt M l) (hl : l.length ≤ 28) (hl2 : ∀ i, i < l.length → l.getD i 0 < 729) (ht : M 24 14 = (t : Int)) (htb : t < 2147483648) (hS : SnAt M 28 t S) : Mq d k_X1_meetsFirst [vR 24] G M (fun z M' => (z = some (vI 1) ∧ (∃ i, i < l.length ∧ S (l.getD i 0)) ∧ M' = M) ∨ (z = some (vI 0) ∧ ¬ (∃ i, i < l.length ∧ S (l.getD i 0)) ∧ M' = M)) := by
  have L_2 : ∀ (f i : Nat), l.length - i < f → i ≤ l.length → (∀ j, j < i → ¬ S (l.getD j 0)) → Wq (d) k_X1_meetsFirst 2 [some (vR 24), some (vI ((i : Nat) : Int))] [] G M (fun z M' => (z = some (vI 1) ∧ (∃ i, i < l.length ∧ S (l.getD i 0)) ∧ M' = M) ∨ (z = some (vI 0) ∧ ¬ (∃ i, i < l.length ∧ S (l.getD i 0)) ∧ M' = M)) := by
    intro f
    induction f with
    | zero => intro i h; exact absurd h (by omega)
    | succ f ih_i =>
      intro i hf_i hk_i hno
      refine wq_s 3 rfl ?_
      refine wq_s 4 rfl ?_
      refine wq_getE (v := ((l.length : Nat) : Int)) 5 7 rfl rfl (hC.lt (by omega)) (hC.ty 20 _ rfl) rfl rfl hL.1 ?_
      refine wq_icmp 36 rfl rfl (by omega) (by omega) (fun c_7 => ?_) (fun c_7 => ?_)
      · have c_7 := of_decide_eq_true c_7
        refine wq_s 37 rfl ?_
        exact wq_ret rfl (Or.inr ⟨rfl, fun ⟨j, h1, h2⟩ => hno j (by omega) h2, rfl⟩)
      · have c_7 := of_decide_eq_false c_7
        have h729 := hl2 i (by omega)
        have hs := hS _ h729
        have hs1 := hs.1
        refine wq_s 11 rfl ?_
        refine wq_getR 14 rfl rfl (hC.lt (by omega)) (hC.ty 20 _ rfl) rfl ?_
        refine wq_s 15 rfl ?_
        refine wq_getR 18 rfl rfl (hC.lt (by omega)) (hC.ty 20 _ rfl) rfl ?_
        refine wq_s 19 rfl ?_
        refine wq_iald (v := ((l.getD i 0 : Nat) : Int)) 20 rfl rfl (hC.lt (by omega)).2 (hC.ty 23 _ rfl) (by omega) (by omega) (by omega) (hL.2 i (by omega)) ?_
        refine wq_iald (v := M 28 ((l.getD i 0 : Nat) : Int)) 21 rfl rfl (hC.lt (by omega)).2 (hC.ty 24 _ rfl) (by omega) (by omega) (by omega) rfl ?_
        refine wq_s 22 rfl ?_
        refine wq_getE (v := ((t : Nat) : Int)) 14 25 rfl rfl (hC.lt (by omega)) (hC.ty 20 _ rfl) rfl rfl ht ?_
        refine wq_icmp 30 rfl rfl (by omega) (by omega) (fun c_25 => ?_) (fun c_25 => ?_)
        · have c_25 := of_decide_eq_true c_25
          refine we_inc 1 1 ((i + 1 : Nat) : Int) 33 _ rfl rfl rfl (by omega) (by omega) rfl ?_
          refine wq_s 2 rfl ?_
          refine ih_i (i + 1) (by omega) (by omega) (fun j hj z => ?_)
          by_cases hji : j = i
          · subst hji
            have := hs.2.2 z
            omega
          · exact hno j (by omega) z
        · have c_25 := of_decide_eq_false c_25
          refine wq_s 29 rfl ?_
          exact wq_ret rfl (Or.inl ⟨rfl, ⟨i, by omega, hs.2.1 (by omega)⟩, rfl⟩)
  refine wq_s 1 rfl ?_
  refine wq_s 2 rfl ?_
  exact L_2 (l.length + 1) 0 (by omega) (by omega) (fun j hj => absurd hj (Nat.not_lt_zero _))
/-- a list without repetition of numbers below n -/
def Dst (l : List Nat) : Prop := ∀ i j, i < l.length → j < l.length → l.getD i 0 = l.getD j 0 → i = j
theorem sumN_0' {f : Nat → Nat} : ∀ n, (∀ k, k < n → f k = 0) → sumN f n = 0 := by
  intro n h
  rw [sumN_ext (g := fun _ => 0) n h]
  exact sumN_0 n
theorem dst_len : ∀ (n : Nat) (l : List Nat), Dst l → (∀ i, i < l.length → l.getD i 0 < n) → l.length ≤ n := by
  intro n
  induction n with
  | zero =>
    intro l _ h
    by_cases hl : l.length = 0
    · omega
    · exact absurd (h 0 (by omega)) (Nat.not_lt_zero _)
  | succ n ih =>
    intro l hd h
    by_cases hn : ∃ k, k < l.length ∧ l.getD k 0 = n
    · obtain ⟨k, k1, k2⟩ := hn
      have hlen : (l.eraseIdx k).length = l.length - 1 := List.length_eraseIdx_of_lt k1
      have hget : ∀ i, (l.eraseIdx k).getD i 0 = if i < k then l.getD i 0 else l.getD (i + 1) 0 := fun i => by
        rw [List.getD_eq_getElem?_getD, List.getElem?_eraseIdx]
        split
        · rw [List.getD_eq_getElem?_getD]
        · rw [List.getD_eq_getElem?_getD]
      have h1 := ih (l.eraseIdx k) (fun i j hi hj hij => by
        rw [hlen] at hi hj
        rw [hget, hget] at hij
        by_cases hik : i < k
        · rw [if_pos hik] at hij
          by_cases hjk : j < k
          · rw [if_pos hjk] at hij
            exact hd i j (by omega) (by omega) hij
          · rw [if_neg hjk] at hij
            have := hd i (j + 1) (by omega) (by omega) hij
            omega
        · rw [if_neg hik] at hij
          by_cases hjk : j < k
          · rw [if_pos hjk] at hij
            have := hd (i + 1) j (by omega) (by omega) hij
            omega
          · rw [if_neg hjk] at hij
            have := hd (i + 1) (j + 1) (by omega) (by omega) hij
            omega) (fun i hi => by
        rw [hlen] at hi
        rw [hget]
        by_cases hik : i < k
        · rw [if_pos hik]
          have g1 := h i (by omega)
          have g2 : l.getD i 0 ≠ n := fun z => by
            have := hd i k (by omega) k1 (z.trans k2.symm)
            omega
          omega
        · rw [if_neg hik]
          have g1 := h (i + 1) (by omega)
          have g2 : l.getD (i + 1) 0 ≠ n := fun z => by
            have := hd (i + 1) k (by omega) k1 (z.trans k2.symm)
            omega
          omega)
      omega
    · refine Nat.le_succ_of_le (ih l hd (fun i hi => ?_))
      have g1 := h i hi
      have g2 : l.getD i 0 ≠ n := fun z => hn ⟨i, hi, z⟩
      omega
