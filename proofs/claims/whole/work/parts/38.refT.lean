/-! links: the nodes that are there, and how they are linked -/
def thL (X : Nat → Nat) : Nat → List Nat
  | 0 => []
  | n + 1 => if hasN X n = 1 then thL X n ++ [n] else thL X n
theorem thL_t {X : Nat → Nat} {n : Nat} (h : hasN X n = 1) : thL X (n + 1) = thL X n ++ [n] := if_pos h
theorem thL_f {X : Nat → Nat} {n : Nat} (h : ¬ hasN X n = 1) : thL X (n + 1) = thL X n := if_neg h
theorem thL_len (X : Nat → Nat) : ∀ n, (thL X n).length ≤ n := by
  intro n
  induction n with
  | zero => exact Nat.le_refl _
  | succ n ih =>
    by_cases h : hasN X n = 1
    · rw [thL_t h, List.length_append]
      exact Nat.succ_le_succ ih
    · rw [thL_f h]
      exact Nat.le_succ_of_le ih
theorem getD_app1 {l : List Nat} {x j : Nat} (h : j < l.length) : (l ++ [x]).getD j 0 = l.getD j 0 := by
  rw [List.getD_eq_getElem?_getD, List.getD_eq_getElem?_getD, List.getElem?_append_left h]
theorem getD_app2 {l : List Nat} {x : Nat} : (l ++ [x]).getD l.length 0 = x := by
  rw [List.getD_eq_getElem?_getD, List.getElem?_append_right (Nat.le_refl _), Nat.sub_self]
  rfl
theorem thL_mem (X : Nat → Nat) : ∀ n y, (∃ j, j < (thL X n).length ∧ (thL X n).getD j 0 = y) ↔ (y < n ∧ hasN X y = 1) := by
  intro n
  induction n with
  | zero =>
    intro y
    constructor
    · rintro ⟨j, h, -⟩
      exact absurd h (Nat.not_lt_zero _)
    · rintro ⟨h, -⟩
      exact absurd h (Nat.not_lt_zero _)
  | succ n ih =>
    intro y
    by_cases h : hasN X n = 1
    · rw [thL_t h, List.length_append]
      constructor
      · rintro ⟨j, h1, h2⟩
        by_cases hj : j < (thL X n).length
        · rw [getD_app1 hj] at h2
          have h3 := (ih y).1 ⟨j, hj, h2⟩
          exact ⟨by omega, h3.2⟩
        · have e : j = (thL X n).length := by
            have : ([n] : List Nat).length = 1 := rfl
            omega
          rw [e, getD_app2] at h2
          subst h2
          exact ⟨by omega, h⟩
      · rintro ⟨h1, h2⟩
        by_cases hy : y = n
        · subst hy
          exact ⟨(thL X y).length, Nat.lt_add_of_pos_right (Nat.zero_lt_one), getD_app2⟩
        · obtain ⟨j, h3, h4⟩ := (ih y).2 ⟨by omega, h2⟩
          exact ⟨j, Nat.lt_add_right _ h3, (getD_app1 h3).trans h4⟩
    · rw [thL_f h]
      constructor
      · intro h1
        have h3 := (ih y).1 h1
        exact ⟨by omega, h3.2⟩
      · rintro ⟨h1, h2⟩
        refine (ih y).2 ⟨?_, h2⟩
        by_cases hy : y = n
        · subst hy
          exact absurd h2 h
        · omega
theorem thL_at {X : Nat → Nat} {n j : Nat} (h : j < (thL X n).length) : (thL X n).getD j 0 < n ∧ hasN X ((thL X n).getD j 0) = 1 := (thL_mem X n _).1 ⟨j, h, rfl⟩
theorem thL_mono (X : Nat → Nat) : ∀ n i j, i < j → j < (thL X n).length → (thL X n).getD i 0 < (thL X n).getD j 0 := by
  intro n
  induction n with
  | zero => intro i j _ h; exact absurd h (Nat.not_lt_zero _)
  | succ n ih =>
    intro i j hij hj
    by_cases h : hasN X n = 1
    · rw [thL_t h] at hj ⊢
      rw [List.length_append] at hj
      have e1 : ([n] : List Nat).length = 1 := rfl
      by_cases hj2 : j < (thL X n).length
      · rw [getD_app1 hj2, getD_app1 (by omega)]
        exact ih i j hij hj2
      · have e : j = (thL X n).length := by omega
        rw [e, getD_app2, getD_app1 (by omega)]
        exact (thL_at (by omega)).1
    · rw [thL_f h] at hj ⊢
      exact ih i j hij hj
theorem peersF_sym (c e : Int) : peersF c e = peersF e c := by
  unfold peersF
  by_cases h : c ≠ e ∧ (houseF c 0 = houseF e 0 ∨ houseF c 1 = houseF e 1 ∨ houseF c 2 = houseF e 2)
  · rw [if_pos h, if_pos ⟨h.1.symm, h.2.elim (fun z => Or.inl z.symm) (fun z => Or.inr (z.elim (fun z => Or.inl z.symm) (fun z => Or.inr z.symm)))⟩]
  · rw [if_neg h, if_neg (fun z => h ⟨z.1.symm, z.2.elim (fun z => Or.inl z.symm) (fun z => Or.inr (z.elim (fun z => Or.inl z.symm) (fun z => Or.inr z.symm)))⟩)]
theorem weakC_sym {X : Nat → Nat} {u v : Nat} (h : weakC X u v) : weakC X v u := ⟨h.1.symm, h.2.2.1, h.2.1, h.2.2.2.elim (fun z => Or.inl z.symm) (fun z => Or.inr ⟨z.1.symm, by rw [peersF_sym]; exact z.2⟩)⟩
theorem strongC_sym {X : Nat → Nat} {u v : Nat} (h : strongC X u v) : strongC X v u := by
  refine ⟨weakC_sym h.1, h.2.elim (fun z => Or.inl ⟨z.1.symm, by rw [← z.1]; exact z.2⟩) (fun z => Or.inr ⟨Ne.symm z.1, ?_⟩)⟩
  obtain ⟨s, hs, h1, h2⟩ := z.2
  refine ⟨s, hs, h1.symm, ?_⟩
  have hd : u % 9 = v % 9 := h.1.2.2.2.elim (fun y => absurd y z.1) (fun y => y.1)
  rw [← h1, ← hd]
  exact h2
/-- links among nodes -/
def wkR (X : Nat → Nat) (x y : Nat) : Prop := x < 729 ∧ y < 729 ∧ weakC X x y
def sgR (X : Nat → Nat) (x y : Nat) : Prop := x < 729 ∧ y < 729 ∧ strongC X x y
/-- the pairs that were looked at -/
def prK (l : List Nat) (C : Nat → Nat → Prop) (i k : Nat) (x y : Nat) : Prop := ∃ s t, ((s < i ∧ t < s) ∨ (s = i ∧ t < k)) ∧ ((x = l.getD s 0 ∧ y = l.getD t 0) ∨ (x = l.getD t 0 ∧ y = l.getD s 0)) ∧ C (l.getD s 0) (l.getD t 0)
theorem prK_suc {l : List Nat} {C : Nat → Nat → Prop} {i k x y : Nat} : adP (prK l C i k) (C (l.getD i 0) (l.getD k 0)) (l.getD i 0) (l.getD k 0) x y ↔ prK l C i (k + 1) x y := by
  constructor
  · rintro (⟨s, t, h1, h2⟩ | ⟨h1, h2⟩)
    · exact ⟨s, t, by omega, h2⟩
    · exact ⟨i, k, Or.inr ⟨rfl, by omega⟩, h2, h1⟩
  · rintro ⟨s, t, h1, h2, h3⟩
    by_cases h : s = i ∧ t = k
    · obtain ⟨rfl, rfl⟩ := h
      exact Or.inr ⟨h3, h2⟩
    · exact Or.inl ⟨s, t, by omega, h2, h3⟩
theorem prK_row {l : List Nat} {C : Nat → Nat → Prop} {i x y : Nat} : prK l C i i x y ↔ prK l C (i + 1) 0 x y := by
  constructor
  · rintro ⟨s, t, h1, h2⟩
    exact ⟨s, t, by omega, h2⟩
  · rintro ⟨s, t, h1, h2⟩
    exact ⟨s, t, by omega, h2⟩
theorem prK_full {X : Nat → Nat} {C : Nat → Nat → Prop} {x y : Nat} (hC : ∀ u v, C u v → C v u) (hW : ∀ u v, C u v → u ≠ v ∧ hasN X u = 1 ∧ hasN X v = 1) : prK (thL X 729) C (thL X 729).length 0 x y ↔ (x < 729 ∧ y < 729 ∧ C x y) := by
  constructor
  · rintro ⟨s, t, h1, h2, h3⟩
    have hs := thL_at (X := X) (n := 729) (j := s) (by omega)
    have ht := thL_at (X := X) (n := 729) (j := t) (by omega)
    rcases h2 with ⟨rfl, rfl⟩ | ⟨rfl, rfl⟩
    · exact ⟨hs.1, ht.1, h3⟩
    · exact ⟨ht.1, hs.1, hC _ _ h3⟩
  · rintro ⟨hx, hy, h⟩
    obtain ⟨h0, h1, h2⟩ := hW _ _ h
    obtain ⟨s, s1, s2⟩ := (thL_mem X 729 x).2 ⟨hx, h1⟩
    obtain ⟨u, u1, u2⟩ := (thL_mem X 729 y).2 ⟨hy, h2⟩
    by_cases hsu : u < s
    · exact ⟨s, u, Or.inl ⟨s1, hsu⟩, Or.inl ⟨s2.symm, u2.symm⟩, by rw [s2, u2]; exact h⟩
    · have hne : u ≠ s := fun z => h0 (by rw [← s2, ← u2, z])
      exact ⟨u, s, Or.inl ⟨u1, by omega⟩, Or.inr ⟨s2.symm, u2.symm⟩, by rw [s2, u2]; exact hC _ _ h⟩
theorem c_X9_links {d : Nat} {G : GT} {M : MT} {o q : Nat} {X : Nat → Nat} (hG : RefG G o) (hq : q < G.1) (hT : G.2.2 q = .inl (false, 81)) (hX : AtB M q X) (hqn : q ≠ o ∧ q ≠ o + 6 ∧ q ≠ o + 7 ∧ q ≠ o + 8) : Mq (d + 5) k_X9_links [vR o, vR q] G M (fun r M' => r = none ∧ ThAt M' o (thL X 729) ∧ RelAt M' (o + 6) (wkR X) ∧ RelAt M' (o + 7) (sgR X) ∧ (∀ a, a ≠ o → a ≠ o + 6 → a ≠ o + 7 → a ≠ o + 8 → M' a = M a) ∧ ∀ i : Int, i ≠ 8 → M' o i = M o i) := by
  have L_82 : ∀ (f i : Nat) (M2 : MT) (y3 : Option AV), (thL X 729).length - i < f → i ≤ (thL X 729).length → (ThAt M2 o (thL X 729)) → (RelAt M2 (o + 6) (prK (thL X 729) (weakC X) i 0)) → (RelAt M2 (o + 7) (prK (thL X 729) (strongC X) i 0)) → (∀ a, a ≠ o → a ≠ o + 6 → a ≠ o + 7 → a ≠ o + 8 → M2 a = M a) → (∀ i : Int, i ≠ 8 → M2 o i = M o i) → Wq (d + 5) k_X9_links 82 [some (vR o), some (vR q), some (vI ((i : Nat) : Int)), y3] [] G M2 (fun r M' => r = none ∧ ThAt M' o (thL X 729) ∧ RelAt M' (o + 6) (wkR X) ∧ RelAt M' (o + 7) (sgR X) ∧ (∀ a, a ≠ o → a ≠ o + 6 → a ≠ o + 7 → a ≠ o + 8 → M' a = M a) ∧ ∀ i : Int, i ≠ 8 → M' o i = M o i) := by
    intro f
    induction f with
    | zero => intro i M2 y3 h; exact absurd h (by omega)
    | succ f ih_i =>
      intro i M2 y3 hf_i hk_i hL hA hB hFr hFo
      have hln := thL_len X 729
      refine wq_s 83 rfl ?_
      refine wq_s 84 rfl ?_
      refine wq_getE (v := (((thL X 729).length : Nat) : Int)) 8 87 rfl rfl hG.ob hG.2.2.1 rfl rfl hL.1 ?_
      refine wq_icmp 126 rfl rfl (by omega) (by omega) (fun c_87 => ?_) (fun c_87 => ?_)
      · have c_87 := of_decide_eq_true c_87
        have e9 : i = (thL X 729).length := by omega
        subst e9
        exact wq_ret rfl ⟨rfl, hL, hA.ext (fun _ _ => prK_full (fun _ _ h => weakC_sym h) (fun _ _ h => ⟨h.1, h.2.1, h.2.2.1⟩)), hB.ext (fun _ _ => prK_full (fun _ _ h => strongC_sym h) (fun _ _ h => ⟨h.1.1, h.1.2.1, h.1.2.2.1⟩)), hFr, hFo⟩
      · have c_87 := of_decide_eq_false c_87
        have L_92 : ∀ (f2 k : Nat) (M2 : MT), i - k < f2 → k ≤ i → (ThAt M2 o (thL X 729)) → (RelAt M2 (o + 6) (prK (thL X 729) (weakC X) i k)) → (RelAt M2 (o + 7) (prK (thL X 729) (strongC X) i k)) → (∀ a, a ≠ o → a ≠ o + 6 → a ≠ o + 7 → a ≠ o + 8 → M2 a = M a) → (∀ i : Int, i ≠ 8 → M2 o i = M o i) → Wq (d + 5) k_X9_links 92 [some (vR o), some (vR q), some (vI ((i : Nat) : Int)), some (vI ((k : Nat) : Int))] [] G M2 (fun r M' => r = none ∧ ThAt M' o (thL X 729) ∧ RelAt M' (o + 6) (wkR X) ∧ RelAt M' (o + 7) (sgR X) ∧ (∀ a, a ≠ o → a ≠ o + 6 → a ≠ o + 7 → a ≠ o + 8 → M' a = M a) ∧ ∀ i : Int, i ≠ 8 → M' o i = M o i) := by
          intro f2
          induction f2 with
          | zero => intro k M2 h; exact absurd h (by omega)
          | succ f2 ih_k =>
            intro k M2 hf_k hk_k hL hA hB hFr hFo
            refine wq_s 93 rfl ?_
            refine wq_s 94 rfl ?_
            refine wq_icmp 120 rfl rfl (by omega) (by omega) (fun c_94 => ?_) (fun c_94 => ?_)
            · have c_94 := of_decide_eq_true c_94
              have e9 : i = k := by omega
              subst e9
              refine we_inc 2 1 ((i + 1 : Nat) : Int) 123 _ rfl rfl rfl (by omega) (by omega) rfl ?_
              refine wq_s 82 rfl ?_
              refine ih_i (i + 1) _ _ (by omega) (by omega) hL (hA.ext (fun _ _ => prK_row)) (hB.ext (fun _ _ => prK_row)) hFr hFo
            · have c_94 := of_decide_eq_false c_94
              refine wq_s 98 rfl ?_
              refine wq_s 99 rfl ?_
              refine wq_s 100 rfl ?_
              refine wq_getR 103 rfl rfl hG.ob hG.2.2.1 rfl ?_
              refine wq_s 104 rfl ?_
              refine wq_iald (v := (((thL X 729).getD i 0 : Nat) : Int)) 105 rfl rfl hG.a_there.1.2 hG.a_there.2 (by omega) (by omega) (by omega) (hL.2.2 i (by omega)).1 ?_
              refine wq_s 106 rfl ?_
              refine wq_getR 109 rfl rfl hG.ob hG.2.2.1 rfl ?_
              refine wq_s 110 rfl ?_
              refine wq_iald (v := (((thL X 729).getD k 0 : Nat) : Int)) 111 rfl rfl hG.a_there.1.2 hG.a_there.2 (by omega) (by omega) (by omega) (hL.2.2 k (by omega)).1 ?_
              refine wq_vt3 114 rfl rfl (Nat.le_of_ble_eq_true rfl) hG.ob hG.2.2.1 rfl (Nat.le_of_ble_eq_true rfl) (c_X9_link_1 hG (hL.2.2 i (by omega)).2 (hL.2.2 k (by omega)).2 hq hT (hX.fr (hFr q hqn.1 hqn.2.1 hqn.2.2.1 hqn.2.2.2)) ⟨hqn.2.1, hqn.2.2.1⟩ hA hB) (fun r M3 hr => ?_)
              obtain ⟨rfl, hA3, hB3, hO3⟩ := hr
              dsimp only [Option.toList, List.cons_append, List.nil_append]
              refine we_inc 3 1 ((k + 1 : Nat) : Int) 117 _ rfl rfl rfl (by omega) (by omega) rfl ?_
              refine wq_s 92 rfl ?_
              refine ih_k (k + 1) _ (by omega) (by omega) ?_ (hA3.ext (fun _ _ => prK_suc)) (hB3.ext (fun _ _ => prK_suc)) ?_ ?_
              · exact hL.fr (hO3 o (by omega) (by omega)) (hO3 (o + 8) (by omega) (by omega))
              · intro a h0 h6 h7 h8
                exact (hO3 a h6 h7).trans (hFr a h0 h6 h7 h8)
              · intro j hj
                rw [hO3 o (by omega) (by omega)]
                exact hFo j hj
        refine wq_s 91 rfl ?_
        refine wq_s 92 rfl ?_
        exact L_92 (i + 1) 0 _ (by omega) (by omega) hL hA hB hFr hFo
  have L_36 : ∀ (f n : Nat) (M2 : MT), 729 - n < f → n ≤ 729 → (ThAt M2 o (thL X n)) → (RelAt M2 (o + 6) (fun _ _ => False)) → (RelAt M2 (o + 7) (fun _ _ => False)) → (∀ a, a ≠ o → a ≠ o + 6 → a ≠ o + 7 → a ≠ o + 8 → M2 a = M a) → (∀ i : Int, i ≠ 8 → M2 o i = M o i) → Wq (d + 5) k_X9_links 36 [some (vR o), some (vR q), some (vI ((n : Nat) : Int)), none] [] G M2 (fun r M' => r = none ∧ ThAt M' o (thL X 729) ∧ RelAt M' (o + 6) (wkR X) ∧ RelAt M' (o + 7) (sgR X) ∧ (∀ a, a ≠ o → a ≠ o + 6 → a ≠ o + 7 → a ≠ o + 8 → M' a = M a) ∧ ∀ i : Int, i ≠ 8 → M' o i = M o i) := by
    intro f
    induction f with
    | zero => intro n M2 h; exact absurd h (by omega)
    | succ f ih_n =>
      intro n M2 hf_n hk_n hL hA hB hFr hFo
      have hln := thL_len X n
      refine wq_s 37 rfl ?_
      refine wq_s 40 rfl ?_
      refine wq_icmp 80 rfl rfl (by omega) (by omega) (fun c_40 => ?_) (fun c_40 => ?_)
      · have c_40 := of_decide_eq_true c_40
        have e9 : n = 729 := by omega
        subst e9
        refine wq_s 81 rfl ?_
        refine wq_s 82 rfl ?_
        refine L_82 (thL X 729).length.succ 0 _ _ (by omega) (by omega) hL (hA.ext (fun x y => ⟨fun z => z.elim, fun z => ?_⟩)) (hB.ext (fun x y => ⟨fun z => z.elim, fun z => ?_⟩)) hFr hFo
        · obtain ⟨s, t, h1, -⟩ := z
          omega
        · obtain ⟨s, t, h1, -⟩ := z
          omega
      · have c_40 := of_decide_eq_false c_40
        refine wq_s 44 rfl ?_
        refine wq_s 45 rfl ?_
        refine wq_st2 48 rfl rfl (by decide) (Nat.le_of_ble_eq_true rfl) rfl (Nat.le_of_ble_eq_true rfl) (c_X9_isThere (by omega) hq hT (hX.fr (hFr q hqn.1 hqn.2.1 hqn.2.2.1 hqn.2.2.2))) (fun r M1 hr => ?_)
        obtain ⟨rfl, hM1⟩ := hr
        subst M1
        dsimp only [Option.toList, List.cons_append, List.nil_append]
        have hh0 := hasN_01 X n
        refine wq_if 54 rfl rfl (by omega) (fun c_48 => ?_) (fun c_48 => ?_)
        · have c_48 := of_decide_eq_true c_48
          have hh1 : hasN X n = 1 := by omega
          refine wq_s 55 rfl ?_
          refine wq_getR 58 rfl rfl hG.ob hG.2.2.1 rfl ?_
          refine wq_s 59 rfl ?_
          refine wq_getE (v := (((thL X n).length : Nat) : Int)) 8 62 rfl rfl hG.ob hG.2.2.1 rfl rfl hL.1 ?_
          refine wq_s 63 rfl ?_
          refine wq_iast 64 rfl rfl hG.a_there.1 hG.a_there.2 (by omega) (by omega) (by omega) ?_
          refine wq_s 65 rfl ?_
          refine wq_s 66 rfl ?_
          refine wq_getE (v := (((thL X n).length : Nat) : Int)) 8 69 rfl rfl hG.ob hG.2.2.1 rfl rfl ((up2_ne (Or.inl (by omega))).trans hL.1) ?_
          refine wq_s 70 rfl ?_
          refine we_add (((thL X n).length + 1 : Nat) : Int) 71 rfl rfl (by omega) (by omega) ?_
          refine wq_putE 8 74 rfl rfl hG.ob hG.2.2.1 rfl (by decide) (Or.inl rfl) rfl ?_
          refine we_inc 2 1 ((n + 1 : Nat) : Int) 77 _ rfl rfl rfl (by omega) (by omega) rfl ?_
          refine wq_s 36 rfl ?_
          have hth := thL_t hh1
          refine ih_n (n + 1) _ (by omega) (by omega) ?_ (hA.fr ?_) (hB.fr ?_) ?_ ?_
          · rw [hth]
            refine ⟨?_, ?_, fun j hj => ?_⟩
            · rw [List.length_append]
              exact up2_eq rfl rfl
            · rw [List.length_append]
              exact (by omega : (thL X n).length + 1 ≤ 729)
            · rw [List.length_append] at hj
              have hj : j < (thL X n).length + 1 := hj
              by_cases hj2 : j < (thL X n).length
              · rw [getD_app1 hj2, up2_ne (Or.inl (by omega)), up2_ne (Or.inr (by omega))]
                exact hL.2.2 j hj2
              · have e : j = (thL X n).length := by omega
                rw [e, getD_app2, up2_ne (Or.inl (by omega)), up2_eq rfl rfl]
                exact ⟨rfl, by omega⟩
          · rw [up2_row (by omega), up2_row (by omega)]
          · rw [up2_row (by omega), up2_row (by omega)]
          · intro a h0 h6 h7 h8
            rw [up2_row h0, up2_row h8]
            exact hFr a h0 h6 h7 h8
          · intro j hj
            rw [up2_ne (Or.inr hj), up2_ne (Or.inl (by omega))]
            exact hFo j hj
        · have c_48 := of_decide_eq_false c_48
          have hh1 : ¬ hasN X n = 1 := by omega
          refine wq_s 74 rfl ?_
          refine we_inc 2 1 ((n + 1 : Nat) : Int) 77 _ rfl rfl rfl (by omega) (by omega) rfl ?_
          refine wq_s 36 rfl ?_
          rw [← thL_f (X := X) (n := n) (by omega)] at hL
          exact ih_n (n + 1) _ (by omega) (by omega) hL hA hB hFr hFo
  have L_2 : ∀ (f k : Nat) (M2 : MT), 8748 - k < f → k ≤ 8748 → (∀ j : Nat, j < k → M2 (o + 6) (j : Int) = 0 ∧ M2 (o + 7) (j : Int) = 0) → (∀ a, a ≠ o + 6 → a ≠ o + 7 → M2 a = M a) → Wq (d + 5) k_X9_links 2 [some (vR o), some (vR q), some (vI ((k : Nat) : Int)), none] [] G M2 (fun r M' => r = none ∧ ThAt M' o (thL X 729) ∧ RelAt M' (o + 6) (wkR X) ∧ RelAt M' (o + 7) (sgR X) ∧ (∀ a, a ≠ o → a ≠ o + 6 → a ≠ o + 7 → a ≠ o + 8 → M' a = M a) ∧ ∀ i : Int, i ≠ 8 → M' o i = M o i) := by
    intro f
    induction f with
    | zero => intro k M2 h; exact absurd h (by omega)
    | succ f ih_k =>
      intro k M2 hf_k hk_k hZ hFr
      refine wq_s 3 rfl ?_
      refine wq_s 6 rfl ?_
      refine wq_icmp 29 rfl rfl (by omega) (by omega) (fun c_6 => ?_) (fun c_6 => ?_)
      · have c_6 := of_decide_eq_true c_6
        have e9 : k = 8748 := by omega
        subst e9
        refine wq_s 30 rfl ?_
        refine wq_s 31 rfl ?_
        refine wq_putE 8 34 rfl rfl hG.ob hG.2.2.1 rfl (by decide) (Or.inl rfl) rfl ?_
        refine wq_s 35 rfl ?_
        refine wq_s 36 rfl ?_
        refine L_36 730 0 _ (by omega) (by omega) ⟨up2_at, Nat.zero_le _, fun j hj => absurd hj (Nat.not_lt_zero _)⟩ ?_ ?_ ?_ ?_
        · intro x hx n hn
          rw [up2_ne (Or.inl (by omega)), (hZ (12 * x + n / 64) (by omega)).1, lbit_0]
          exact ⟨fun h => (by cases h), fun h => h.elim⟩
        · intro x hx n hn
          rw [up2_ne (Or.inl (by omega)), (hZ (12 * x + n / 64) (by omega)).2, lbit_0]
          exact ⟨fun h => (by cases h), fun h => h.elim⟩
        · intro a h0 h6 h7 _
          rw [up2_row h0]
          exact hFr a h6 h7
        · intro j hj
          rw [up2_ne (Or.inr hj), hFr o (by omega) (by omega)]
      · have c_6 := of_decide_eq_false c_6
        refine wq_s 10 rfl ?_
        refine wq_getR 13 rfl rfl hG.ob hG.2.2.1 rfl ?_
        refine wq_s 14 rfl ?_
        refine wq_lconst 0 15 rfl rfl rfl ?_
        refine wq_last 16 rfl rfl hG.a_weak.1 hG.a_weak.2 (by omega) (by omega) (by omega) ?_
        refine wq_s 17 rfl ?_
        refine wq_getR 20 rfl rfl hG.ob hG.2.2.1 rfl ?_
        refine wq_s 21 rfl ?_
        refine wq_lconst 0 22 rfl rfl rfl ?_
        refine wq_last 23 rfl rfl hG.a_strong.1 hG.a_strong.2 (by omega) (by omega) (by omega) ?_
        refine we_inc 2 1 ((k + 1 : Nat) : Int) 26 _ rfl rfl rfl (by omega) (by omega) rfl ?_
        refine wq_s 2 rfl ?_
        refine ih_k (k + 1) _ (by omega) (by omega) ?_ ?_
        · intro j hj
          by_cases hjk : j = k
          · subst hjk
            exact ⟨(up2_ne (Or.inl (by omega))).trans up2_at, up2_at⟩
          · have h1 := hZ j (by omega)
            exact ⟨(up2_ne (Or.inl (by omega))).trans ((up2_ne (Or.inr (by omega))).trans h1.1), (up2_ne (Or.inr (by omega))).trans ((up2_ne (Or.inl (by omega))).trans h1.2)⟩
        · intro a h6 h7
          rw [up2_row h7, up2_row h6]
          exact hFr a h6 h7
  refine wq_s 1 rfl ?_
  refine wq_s 2 rfl ?_
  exact L_2 8749 0 M (by omega) (by omega) (fun j hj => absurd hj (by omega)) (fun _ _ _ => rfl)
