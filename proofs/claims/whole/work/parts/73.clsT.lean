/-! the strong rows of the class: addStrong -/
theorem flP_split {P : Nat → Prop} {y : Nat} (hy : ¬ P y) : ∀ N, y < N → ∃ r, flP P N = flP P y ++ r ∧ flP (fun m => P m ∨ m = y) N = flP P y ++ (y :: r) ∧ ∀ z, z ∈ r → y < z := by
  have h0 : ∀ m, m ≤ y → flP (fun m => P m ∨ m = y) m = flP P m := by
    intro m
    induction m with
    | zero => intro _; rfl
    | succ m ih =>
      intro hm
      have e := ih (by omega)
      by_cases h : P m
      · rw [flP_t (P := fun m => P m ∨ m = y) (Or.inl h), flP_t h, e]
      · rw [flP_f (P := fun m => P m ∨ m = y) (fun z => z.elim h (fun z => by omega)), flP_f h, e]
  intro N
  induction N with
  | zero => intro h; exact absurd h (Nat.not_lt_zero _)
  | succ N ih =>
    intro hN
    by_cases hyN : y = N
    · refine ⟨[], ?_, ?_, fun z hz => absurd hz (by simp)⟩
      · rw [← hyN, flP_f hy, List.append_nil]
      · rw [flP_t (P := fun m => P m ∨ m = y) (Or.inr hyN.symm), ← hyN, h0 y (Nat.le_refl _)]
    · obtain ⟨r, h1, h2, h3⟩ := ih (by omega)
      by_cases h : P N
      · refine ⟨r ++ [N], ?_, ?_, fun z hz => ?_⟩
        · rw [flP_t h, h1, List.append_assoc]
        · rw [flP_t (P := fun m => P m ∨ m = y) (Or.inl h), h2, List.append_assoc]
          rfl
        · rcases List.mem_append.1 hz with hz | hz
          · exact h3 z hz
          · rw [List.mem_singleton.1 hz]
            omega
      · refine ⟨r, ?_, ?_, h3⟩
        · rw [flP_f h, h1]
        · rw [flP_f (P := fun m => P m ∨ m = y) (fun z => z.elim h (fun z => hyN z.symm)), h2]
theorem gD_l {a b : List Nat} {i : Nat} (h : i < a.length) : (a ++ b).getD i 0 = a.getD i 0 := by
  rw [List.getD_eq_getElem?_getD, List.getD_eq_getElem?_getD, List.getElem?_append_left h]
theorem gD_r {a b : List Nat} {i : Nat} (h : a.length ≤ i) : (a ++ b).getD i 0 = b.getD (i - a.length) 0 := by
  rw [List.getD_eq_getElem?_getD, List.getD_eq_getElem?_getD, List.getElem?_append_right h]
/-- a node's row in the class is l -/
def SlAt (M : MT) (n : Nat) (l : List Nat) : Prop := M 26 (n : Int) = (l.length : Int) ∧ l.length ≤ 4 ∧ ∀ i, i < l.length → M 25 ((4 * n + i : Nat) : Int) = ((l.getD i 0 : Nat) : Int) ∧ l.getD i 0 < 729
/-- only the row of n is new -/
abbrev FrN (M M' : MT) (n : Nat) : Prop := (∀ a, a ≠ 25 → a ≠ 26 → M' a = M a) ∧ (∀ j : Int, (j < 4 * n ∨ 4 * (n : Int) + 4 ≤ j) → M' 25 j = M 25 j) ∧ ∀ j : Int, j ≠ n → M' 26 j = M 26 j
theorem c_addStrong_in {d : Nat} {G : GT} {M : MT} {n y : Nat} {l : List Nat} (hC : ClsG G) (hn : n < 729) (hy : y < 729) (hL : SlAt M n l) (hi : ∃ i, i < l.length ∧ l.getD i 0 = y) : Mq d k_X1_addStrong [vR 24, vI (n : Int), vI (y : Int)] G M (fun z M' => z = none ∧ M' = M) := by
  obtain ⟨l1, l2, l3⟩ := id hL
  have L_15 : ∀ (f i : Nat), l.length - i < f → i ≤ l.length → (∀ j, j < i → l.getD j 0 ≠ y) → Wq (d) k_X1_addStrong 15 [some (vR 24), some (vI ((n : Nat) : Int)), some (vI ((y : Nat) : Int)), some (vI ((4 * n : Nat) : Int)), some (vI ((l.length : Nat) : Int)), some (vI ((i : Nat) : Int))] [] G M (fun z M' => z = none ∧ M' = M) := by
    intro f
    induction f with
    | zero => intro i h; exact absurd h (by omega)
    | succ f ih_i =>
      intro i hf_i hk_i hno
      refine wq_s 17 rfl ?_
      refine wq_s 19 rfl ?_
      refine wq_icmp 42 rfl rfl (by omega) (by omega) (fun c_19 => ?_) (fun c_19 => ?_)
      · have c_19 := of_decide_eq_true c_19
        exfalso
        obtain ⟨j, j1, j2⟩ := hi
        exact hno j (by omega) j2
      · have c_19 := of_decide_eq_false c_19
        have hl9 := (l3 i (by omega)).2
        refine wq_s 23 rfl ?_
        refine wq_getR 26 rfl rfl (hC.lt (by omega)) (hC.ty 20 _ rfl) rfl ?_
        refine wq_s 27 rfl ?_
        refine wq_s 29 rfl ?_
        refine we_add (((4 * n) + i : Nat) : Int) 30 rfl rfl (by omega) (by omega) ?_
        refine wq_iald (v := ((l.getD i 0 : Nat) : Int)) 31 rfl rfl (hC.lt (by omega)).2 (hC.ty 21 _ rfl) (by omega) (by omega) (by omega) (l3 i (by omega)).1 ?_
        refine wq_s 32 rfl ?_
        refine wq_icmp 36 rfl rfl (by omega) (by omega) (fun c_32 => ?_) (fun c_32 => ?_)
        · have c_32 := of_decide_eq_true c_32
          refine we_inc 5 1 ((i + 1 : Nat) : Int) 39 _ rfl rfl rfl (by omega) (by omega) rfl ?_
          refine wq_s 15 rfl ?_
          refine ih_i (i + 1) (by omega) (by omega) (fun j hj => ?_)
          by_cases hji : j = i
          · subst hji
            omega
          · exact hno j (by omega)
        · have c_32 := of_decide_eq_false c_32
          exact wq_ret rfl ⟨rfl, rfl⟩
  refine wq_s 1 rfl ?_
  refine wq_s 2 rfl ?_
  refine we_mul ((4 * n : Nat) : Int) 3 rfl rfl (by omega) (by omega) ?_
  refine wq_s 4 rfl ?_
  refine wq_s 5 rfl ?_
  refine wq_getR 8 rfl rfl (hC.lt (by omega)) (hC.ty 20 _ rfl) rfl ?_
  refine wq_s 9 rfl ?_
  refine wq_iald (v := ((l.length : Nat) : Int)) 10 rfl rfl (hC.lt (by omega)).2 (hC.ty 22 _ rfl) (by omega) (by omega) (by omega) l1 ?_
  refine wq_s 12 rfl ?_
  refine wq_s 13 rfl ?_
  refine wq_s 15 rfl ?_
  exact L_15 (l.length + 1) 0 (by omega) (by omega) (fun j hj => absurd hj (Nat.not_lt_zero _))
theorem c_addStrong_new {d : Nat} {G : GT} {M : MT} {n y : Nat} {l A r : List Nat} (hC : ClsG G) (hn : n < 729) (hy : y < 729) (hL : SlAt M n l) (hl : l = A ++ r) (hA : ∀ i, i < A.length → A.getD i 0 < y) (hr : ∀ i, i < r.length → y < r.getD i 0) (h4 : l.length < 4) : Mq d k_X1_addStrong [vR 24, vI (n : Int), vI (y : Int)] G M (fun z M' => z = none ∧ SlAt M' n (A ++ (y :: r)) ∧ FrN M M' n) := by
  obtain ⟨l1, l2, l3⟩ := id hL
  have hlen : l.length = A.length + r.length := by rw [hl, List.length_append]
  have hlA : ∀ i, i < A.length → l.getD i 0 = A.getD i 0 := fun i hi => by rw [hl, gD_l hi]
  have hlr : ∀ i, A.length ≤ i → l.getD i 0 = r.getD (i - A.length) 0 := fun i hi => by rw [hl, gD_r hi]
  have L_53 : ∀ (f i : Nat) (M2 : MT), i < f → A.length ≤ i → i ≤ l.length → (∀ j, j < i → M2 25 ((4 * n + j : Nat) : Int) = ((l.getD j 0 : Nat) : Int)) → (∀ j, i < j → j ≤ l.length → M2 25 ((4 * n + j : Nat) : Int) = ((l.getD (j - 1) 0 : Nat) : Int)) → FrN M M2 n → Wq d k_X1_addStrong 53 [some (vR 24), some (vI ((n : Nat) : Int)), some (vI ((y : Nat) : Int)), some (vI ((4 * n : Nat) : Int)), some (vI ((l.length : Nat) : Int)), some (vI ((i : Nat) : Int))] [] G M2 (fun z M' => z = none ∧ SlAt M' n (A ++ (y :: r)) ∧ FrN M M' n) := by
    intro f
    induction f with
    | zero => intro i M2 h; exact absurd h (by omega)
    | succ f ih =>
      intro i M2 hf hi1 hi2 a1 a2 a3
      refine wq_s 55 rfl ?_
      refine wq_if 99 rfl rfl (by omega) (fun c_55 => ?_) (fun c_55 => ?_)
      · have c_55 := of_decide_eq_true c_55
        have ea : i = A.length := by omega
        refine wq_s 100 rfl ?_
        refine wq_getR 103 rfl rfl (hC.lt (by omega)) (hC.ty 20 _ rfl) rfl ?_
        refine wq_s 104 rfl ?_
        refine wq_s 106 rfl ?_
        refine we_add ((4 * n + i : Nat) : Int) 107 rfl rfl (by omega) (by omega) ?_
        refine wq_s 108 rfl ?_
        refine wq_iast 109 rfl rfl (hC.lt (by omega)) (hC.ty 21 _ rfl) (by omega) (by omega) (by omega) ?_
        refine wq_s 110 rfl ?_
        refine wq_getR 113 rfl rfl (hC.lt (by omega)) (hC.ty 20 _ rfl) rfl ?_
        refine wq_s 114 rfl ?_
        refine wq_s 116 rfl ?_
        refine wq_s 117 rfl ?_
        refine we_add ((l.length + 1 : Nat) : Int) 118 rfl rfl (by omega) (by omega) ?_
        refine wq_iast 119 rfl rfl (hC.lt (by omega)) (hC.ty 22 _ rfl) (by omega) (by omega) (by omega) ?_
        have hln : (A ++ (y :: r)).length = l.length + 1 := by
          rw [List.length_append, hlen]
          show A.length + (r.length + 1) = _
          omega
        refine wq_ret rfl ⟨rfl, ⟨?_, by omega, fun j hj => ?_⟩, fun a h1 h2 => ?_, fun j hj => ?_, fun j hj => ?_⟩
        · rw [up2_at, hln]
        · rw [hln] at hj
          rw [up2_row (by decide)]
          by_cases hjA : j < A.length
          · rw [gD_l hjA, up2_ne (Or.inr (by omega)), a1 j (by omega), hlA j hjA]
            have h9 := (l3 j (by omega)).2
            rw [hlA j hjA] at h9
            exact ⟨rfl, h9⟩
          · rw [gD_r (by omega)]
            by_cases hjE : j = A.length
            · rw [up2_eq rfl (by omega), hjE, Nat.sub_self]
              exact ⟨rfl, hy⟩
            · rw [up2_ne (Or.inr (by omega)), a2 j (by omega) (by omega), hlr (j - 1) (by omega), show j - A.length = j - 1 - A.length + 1 by omega]
              have h9 := (l3 (j - 1) (by omega)).2
              rw [hlr (j - 1) (by omega)] at h9
              exact ⟨rfl, h9⟩
        · rw [up2_row h2, up2_row h1]
          exact a3.1 a h1 h2
        · rw [up2_row (by decide), up2_ne (Or.inr (by omega))]
          exact a3.2.1 j hj
        · rw [up2_ne (Or.inr hj), up2_row (by decide)]
          exact a3.2.2 j hj
      · have c_55 := of_decide_eq_false c_55
        have hl9 := (l3 (i - 1) (by omega)).2
        refine wq_s 59 rfl ?_
        refine wq_getR 62 rfl rfl (hC.lt (by omega)) (hC.ty 20 _ rfl) rfl ?_
        refine wq_s 63 rfl ?_
        refine wq_s 65 rfl ?_
        refine we_add (((4 * n) + i : Nat) : Int) 66 rfl rfl (by omega) (by omega) ?_
        refine wq_s 67 rfl ?_
        refine we_sub ((4 * n + i - 1 : Nat) : Int) 68 rfl rfl (by omega) (by omega) ?_
        refine wq_iald (v := ((l.getD (i - 1) 0 : Nat) : Int)) 69 rfl rfl (hC.lt (by omega)).2 (hC.ty 21 _ rfl) (by omega) (by omega) (by omega) (by rw [show 4 * n + i - 1 = 4 * n + (i - 1) by omega]; exact a1 (i - 1) (by omega)) ?_
        refine wq_s 70 rfl ?_
        refine wq_icmp 99 rfl rfl (by omega) (by omega) (fun c_70 => ?_) (fun c_70 => ?_)
        · have c_70 := of_decide_eq_true c_70
          have ea : i = A.length := by
            by_cases hia : i = A.length
            · exact hia
            · have h1 := hr (i - 1 - A.length) (by omega)
              rw [← hlr (i - 1) (by omega)] at h1
              omega
          refine wq_s 100 rfl ?_
          refine wq_getR 103 rfl rfl (hC.lt (by omega)) (hC.ty 20 _ rfl) rfl ?_
          refine wq_s 104 rfl ?_
          refine wq_s 106 rfl ?_
          refine we_add ((4 * n + i : Nat) : Int) 107 rfl rfl (by omega) (by omega) ?_
          refine wq_s 108 rfl ?_
          refine wq_iast 109 rfl rfl (hC.lt (by omega)) (hC.ty 21 _ rfl) (by omega) (by omega) (by omega) ?_
          refine wq_s 110 rfl ?_
          refine wq_getR 113 rfl rfl (hC.lt (by omega)) (hC.ty 20 _ rfl) rfl ?_
          refine wq_s 114 rfl ?_
          refine wq_s 116 rfl ?_
          refine wq_s 117 rfl ?_
          refine we_add ((l.length + 1 : Nat) : Int) 118 rfl rfl (by omega) (by omega) ?_
          refine wq_iast 119 rfl rfl (hC.lt (by omega)) (hC.ty 22 _ rfl) (by omega) (by omega) (by omega) ?_
          have hln : (A ++ (y :: r)).length = l.length + 1 := by
            rw [List.length_append, hlen]
            show A.length + (r.length + 1) = _
            omega
          refine wq_ret rfl ⟨rfl, ⟨?_, by omega, fun j hj => ?_⟩, fun a h1 h2 => ?_, fun j hj => ?_, fun j hj => ?_⟩
          · rw [up2_at, hln]
          · rw [hln] at hj
            rw [up2_row (by decide)]
            by_cases hjA : j < A.length
            · rw [gD_l hjA, up2_ne (Or.inr (by omega)), a1 j (by omega), hlA j hjA]
              have h9 := (l3 j (by omega)).2
              rw [hlA j hjA] at h9
              exact ⟨rfl, h9⟩
            · rw [gD_r (by omega)]
              by_cases hjE : j = A.length
              · rw [up2_eq rfl (by omega), hjE, Nat.sub_self]
                exact ⟨rfl, hy⟩
              · rw [up2_ne (Or.inr (by omega)), a2 j (by omega) (by omega), hlr (j - 1) (by omega), show j - A.length = j - 1 - A.length + 1 by omega]
                have h9 := (l3 (j - 1) (by omega)).2
                rw [hlr (j - 1) (by omega)] at h9
                exact ⟨rfl, h9⟩
          · rw [up2_row h2, up2_row h1]
            exact a3.1 a h1 h2
          · rw [up2_row (by decide), up2_ne (Or.inr (by omega))]
            exact a3.2.1 j hj
          · rw [up2_ne (Or.inr hj), up2_row (by decide)]
            exact a3.2.2 j hj
        · have c_70 := of_decide_eq_false c_70
          have hia : A.length < i := by
            by_cases hia : A.length < i
            · exact hia
            · have h1 := hA (i - 1) (by omega)
              rw [← hlA (i - 1) (by omega)] at h1
              omega
          refine wq_s 74 rfl ?_
          refine wq_getR 77 rfl rfl (hC.lt (by omega)) (hC.ty 20 _ rfl) rfl ?_
          refine wq_s 78 rfl ?_
          refine wq_s 80 rfl ?_
          refine we_add (((4 * n) + i : Nat) : Int) 81 rfl rfl (by omega) (by omega) ?_
          refine wq_s 82 rfl ?_
          refine wq_getR 85 rfl rfl (hC.lt (by omega)) (hC.ty 20 _ rfl) rfl ?_
          refine wq_s 86 rfl ?_
          refine wq_s 88 rfl ?_
          refine we_add (((4 * n) + i : Nat) : Int) 89 rfl rfl (by omega) (by omega) ?_
          refine wq_s 90 rfl ?_
          refine we_sub ((4 * n + i - 1 : Nat) : Int) 91 rfl rfl (by omega) (by omega) ?_
          refine wq_iald (v := ((l.getD (i - 1) 0 : Nat) : Int)) 92 rfl rfl (hC.lt (by omega)).2 (hC.ty 21 _ rfl) (by omega) (by omega) (by omega) (by rw [show 4 * n + i - 1 = 4 * n + (i - 1) by omega]; exact a1 (i - 1) (by omega)) ?_
          refine wq_iast 93 rfl rfl (hC.lt (by omega)) (hC.ty 21 _ rfl) (by omega) (by omega) (by omega) ?_
          refine we_inc 5 (-1) ((i - 1 : Nat) : Int) 96 _ rfl rfl rfl (by omega) (by omega) rfl ?_
          refine wq_s 53 rfl ?_
          refine ih (i - 1) _ (by omega) (by omega) (by omega) (fun j hj => (up2_ne (Or.inr (by omega))).trans (a1 j (by omega))) (fun j h1 h2 => ?_) ⟨fun a h1 h2 => (up2_row h1).trans (a3.1 a h1 h2), fun j hj => (up2_ne (Or.inr (by omega))).trans (a3.2.1 j hj), fun j hj => (up2_ne (Or.inl (by decide))).trans (a3.2.2 j hj)⟩
          by_cases hji : j = i
          · subst hji
            exact up2_at
          · exact (up2_ne (Or.inr (by omega))).trans (a2 j (by omega) h2)
  have L_15 : ∀ (f i : Nat), l.length - i < f → i ≤ l.length → Wq (d) k_X1_addStrong 15 [some (vR 24), some (vI ((n : Nat) : Int)), some (vI ((y : Nat) : Int)), some (vI ((4 * n : Nat) : Int)), some (vI ((l.length : Nat) : Int)), some (vI ((i : Nat) : Int))] [] G M (fun z M' => z = none ∧ SlAt M' n (A ++ (y :: r)) ∧ FrN M M' n) := by
    intro f
    induction f with
    | zero => intro i h; exact absurd h (by omega)
    | succ f ih_i =>
      intro i hf_i hk_i 
      refine wq_s 17 rfl ?_
      refine wq_s 19 rfl ?_
      refine wq_icmp 42 rfl rfl (by omega) (by omega) (fun c_19 => ?_) (fun c_19 => ?_)
      · have c_19 := of_decide_eq_true c_19
        refine wq_s 44 rfl ?_
        refine wq_s 45 rfl ?_
        refine wq_icmp 49 rfl rfl (by omega) (by omega) (fun c_45 => ?_) (fun c_45 => ?_)
        · have c_45 := of_decide_eq_true c_45
          refine wq_s 51 rfl ?_
          refine wq_s 53 rfl ?_
          exact L_53 (l.length + 1) l.length M (by omega) (by omega) (by omega) (fun j hj => (l3 j hj).1) (fun j h1 h2 => absurd h1 (by omega)) ⟨fun _ _ _ => rfl, fun _ _ => rfl, fun _ _ => rfl⟩
        · have c_45 := of_decide_eq_false c_45
          exact absurd c_45 (by omega)
      · have c_19 := of_decide_eq_false c_19
        have hl9 := (l3 i (by omega)).2
        refine wq_s 23 rfl ?_
        refine wq_getR 26 rfl rfl (hC.lt (by omega)) (hC.ty 20 _ rfl) rfl ?_
        refine wq_s 27 rfl ?_
        refine wq_s 29 rfl ?_
        refine we_add (((4 * n) + i : Nat) : Int) 30 rfl rfl (by omega) (by omega) ?_
        refine wq_iald (v := ((l.getD i 0 : Nat) : Int)) 31 rfl rfl (hC.lt (by omega)).2 (hC.ty 21 _ rfl) (by omega) (by omega) (by omega) (l3 i (by omega)).1 ?_
        refine wq_s 32 rfl ?_
        refine wq_icmp 36 rfl rfl (by omega) (by omega) (fun c_32 => ?_) (fun c_32 => ?_)
        · have c_32 := of_decide_eq_true c_32
          refine we_inc 5 1 ((i + 1 : Nat) : Int) 39 _ rfl rfl rfl (by omega) (by omega) rfl ?_
          refine wq_s 15 rfl ?_
          exact ih_i (i + 1) (by omega) (by omega)
        · have c_32 := of_decide_eq_false c_32
          exfalso
          by_cases hia : i < A.length
          · have h1 := hA i hia
            rw [← hlA i hia] at h1
            omega
          · have h1 := hr (i - A.length) (by omega)
            rw [← hlr i (by omega)] at h1
            omega
  refine wq_s 1 rfl ?_
  refine wq_s 2 rfl ?_
  refine we_mul ((4 * n : Nat) : Int) 3 rfl rfl (by omega) (by omega) ?_
  refine wq_s 4 rfl ?_
  refine wq_s 5 rfl ?_
  refine wq_getR 8 rfl rfl (hC.lt (by omega)) (hC.ty 20 _ rfl) rfl ?_
  refine wq_s 9 rfl ?_
  refine wq_iald (v := ((l.length : Nat) : Int)) 10 rfl rfl (hC.lt (by omega)).2 (hC.ty 22 _ rfl) (by omega) (by omega) (by omega) l1 ?_
  refine wq_s 12 rfl ?_
  refine wq_s 13 rfl ?_
  refine wq_s 15 rfl ?_
  exact L_15 (l.length + 1) 0 (by omega) (by omega)
