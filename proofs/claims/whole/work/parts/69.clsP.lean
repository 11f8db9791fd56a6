/-! listWeak -/
noncomputable def flP (P : Nat → Prop) : Nat → List Nat
  | 0 => []
  | m + 1 => cI (P m) (flP P m ++ [m]) (flP P m)
theorem flP_t {P : Nat → Prop} {m : Nat} (h : P m) : flP P (m + 1) = flP P m ++ [m] := cI_t h
theorem flP_f {P : Nat → Prop} {m : Nat} (h : ¬ P m) : flP P (m + 1) = flP P m := cI_f h
theorem flP_skip {P : Nat → Prop} {a b : Nat} (hab : a ≤ b) (h : ∀ m, a ≤ m → m < b → ¬ P m) : flP P b = flP P a := by
  induction hab with
  | refl => rfl
  | step hab ih =>
    rename_i b
    rw [flP_f (h b hab (Nat.lt_succ_self _))]
    exact ih (fun m h1 h2 => h m h1 (by omega))
theorem flP_mem (P : Nat → Prop) : ∀ n y, (∃ j, j < (flP P n).length ∧ (flP P n).getD j 0 = y) ↔ (y < n ∧ P y) := by
  intro n
  induction n with
  | zero =>
    intro y
    constructor
    · rintro ⟨j, h, -⟩
      exact absurd h (Nat.not_lt_zero _)
    · rintro ⟨h, -⟩
      exact absurd h (Nat.not_lt_zero _)
  | succ n ih =>
    intro y
    by_cases h : P n
    · rw [flP_t h, List.length_append]
      constructor
      · rintro ⟨j, h1, h2⟩
        by_cases hj : j < (flP P n).length
        · rw [getD_app1 hj] at h2
          have h3 := (ih y).1 ⟨j, hj, h2⟩
          exact ⟨by omega, h3.2⟩
        · have e : j = (flP P n).length := by
            have : ([n] : List Nat).length = 1 := rfl
            omega
          rw [e, getD_app2] at h2
          subst h2
          exact ⟨by omega, h⟩
      · rintro ⟨h1, h2⟩
        by_cases hy : y = n
        · subst hy
          exact ⟨(flP P y).length, Nat.lt_add_of_pos_right (Nat.zero_lt_one), getD_app2⟩
        · obtain ⟨j, h3, h4⟩ := (ih y).2 ⟨by omega, h2⟩
          exact ⟨j, Nat.lt_add_right _ h3, (getD_app1 h3).trans h4⟩
    · rw [flP_f h]
      constructor
      · intro h1
        have h3 := (ih y).1 h1
        exact ⟨by omega, h3.2⟩
      · rintro ⟨h1, h2⟩
        refine (ih y).2 ⟨?_, h2⟩
        by_cases hy : y = n
        · subst hy
          exact absurd h2 h
        · omega
theorem flP_at {P : Nat → Prop} {n j : Nat} (h : j < (flP P n).length) : (flP P n).getD j 0 < n ∧ P ((flP P n).getD j 0) := (flP_mem P n _).1 ⟨j, h, rfl⟩
theorem flP_mono (P : Nat → Prop) : ∀ n i j, i < j → j < (flP P n).length → (flP P n).getD i 0 < (flP P n).getD j 0 := by
  intro n
  induction n with
  | zero => intro i j _ h; exact absurd h (Nat.not_lt_zero _)
  | succ n ih =>
    intro i j hij hj
    by_cases h : P n
    · rw [flP_t h] at hj ⊢
      rw [List.length_append] at hj
      have e1 : ([n] : List Nat).length = 1 := rfl
      by_cases hj2 : j < (flP P n).length
      · rw [getD_app1 hj2, getD_app1 (by omega)]
        exact ih i j hij hj2
      · have e : j = (flP P n).length := by omega
        rw [e, getD_app2, getD_app1 (by omega)]
        exact (flP_at (by omega)).1
    · rw [flP_f h] at hj ⊢
      exact ih i j hij hj
theorem flP_len {P : Nat → Prop} {m n : Nat} (h : m ≤ n) : (flP P m).length ≤ (flP P n).length := by
  induction h with
  | refl => exact Nat.le_refl _
  | step _ ih =>
    rename_i b _
    by_cases h : P b
    · rw [flP_t h, List.length_append]
      exact Nat.le_trans ih (Nat.le_add_right _ _)
    · rw [flP_f h]
      exact ih
theorem nr_fl (c : Nat) : ∀ n, nrL c n = flP (fun m => shB c m = true) n := by
  intro n
  induction n with
  | zero => rfl
  | succ n ih =>
    show (if shB c n = true then nrL c n ++ [n] else nrL c n) = _
    by_cases h : shB c n = true
    · rw [if_pos h, flP_t (P := fun m => shB c m = true) h, ih]
    · rw [if_neg h, flP_f (P := fun m => shB c m = true) h, ih]
/-- the i-th cell near c -/
def nrN (c i : Nat) : Nat := (nrL c 81).getD i 0
theorem nr_ok {c i : Nat} (hc : c < 81) (hi : i < 21) : nrN c i < 81 ∧ shB c (nrN c i) = true := by
  have h := nr_len ⟨c, hc⟩
  dsimp only at h
  unfold nrN
  rw [nr_fl] at h ⊢
  exact flP_at (by omega)
theorem nr_mono {c i j : Nat} (hc : c < 81) (hij : i < j) (hj : j < 21) : nrN c i < nrN c j := by
  have h := nr_len ⟨c, hc⟩
  dsimp only at h
  unfold nrN
  rw [nr_fl] at h ⊢
  exact flP_mono _ 81 i j hij (by omega)
theorem nr_ex {c m : Nat} (hc : c < 81) (hm : m < 81) (h : shB c m = true) : ∃ i, i < 21 ∧ nrN c i = m := by
  have h2 := nr_len ⟨c, hc⟩
  dsimp only at h2
  unfold nrN
  rw [nr_fl] at h2 ⊢
  obtain ⟨i, h3, h4⟩ := (flP_mem (fun m => shB c m = true) 81 m).2 ⟨hm, h⟩
  exact ⟨i, by omega, h4⟩
theorem shB_sym (c n : Nat) : shB c n = true ↔ shB n c = true := by
  rw [sh_ex, sh_ex]
  exact ⟨fun ⟨s, h1, h2⟩ => ⟨s, h1, h2.symm⟩, fun ⟨s, h1, h2⟩ => ⟨s, h1, h2.symm⟩⟩
/-- a node that is weak to n -/
def wkP (X : Nat → Nat) (n m : Nat) : Prop := weakC X m n
def bN (X : Nat → Nat) (n o : Nat) : Nat := if o = n / 9 then andN (X o) (2 ^ (n % 9)) else X o &&& 2 ^ (n % 9)
theorem bN_tb {X : Nat → Nat} {n o e : Nat} (hn : n < 729) (hh : hasN X n = 1) (ho : o < 81) (hs : shB (n / 9) o = true) (he : e < 9) : (bN X n o).testBit e = true ↔ wkP X n (9 * o + e) := by
  unfold wkP
  rw [weak_sh (by omega) hn, hasN_tb X (9 * o + e), show (9 * o + e) / 9 = o by omega, show (9 * o + e) % 9 = e by omega]
  unfold bN
  by_cases hc : o = n / 9
  · rw [if_pos hc, andN_tb, pow_tb]
    exact ⟨fun z => ⟨fun y => z.2 (by omega), z.1, hh, Or.inl hc⟩, fun z => ⟨z.2.1, fun y => z.1 (by omega)⟩⟩
  · rw [if_neg hc, and_tb, pow_tb]
    constructor
    · rintro ⟨z1, z2⟩
      exact ⟨fun y => hc (by omega), z1, hh, Or.inr ⟨z2, (shB_sym _ _).1 hs⟩⟩
    · rintro ⟨z1, z2, z3, z4 | z4⟩
      · exact absurd z4 hc
      · exact ⟨z2, z4.1⟩
theorem wkP_near {X : Nat → Nat} {n m : Nat} (hn : n < 729) (hm : m < 729) (h : wkP X n m) : shB (n / 9) (m / 9) = true := by
  obtain ⟨h1, h2, h3, h4⟩ := (weak_sh hm hn).1 h
  rw [shB_sym]
  rcases h4 with h4 | h4
  · rw [h4, sh_ex]
    exact ⟨0, by decide, rfl⟩
  · exact h4.2
theorem wl_0 {X : Nat → Nat} {n : Nat} (hn : n < 729) : flP (wkP X n) (9 * nrN (n / 9) 0) = [] := by
  have h0 := nr_ok (c := n / 9) (i := 0) (by omega) (by decide)
  refine (flP_skip (a := 0) (Nat.zero_le _) (fun m _ h2 z => ?_)).trans rfl
  obtain ⟨i, h3, h4⟩ := nr_ex (c := n / 9) (by omega) (show m / 9 < 81 by omega) (wkP_near hn (by omega) z)
  by_cases hi : i = 0
  · subst hi
    omega
  · have := nr_mono (c := n / 9) (by omega) (show 0 < i by omega) h3
    omega
theorem wl_n {X : Nat → Nat} {n i : Nat} (hn : n < 729) (hi : i + 1 < 21) : flP (wkP X n) (9 * nrN (n / 9) (i + 1)) = flP (wkP X n) (9 * nrN (n / 9) i + 9) := by
  have h0 := nr_ok (c := n / 9) (i := i + 1) (by omega) hi
  have h1 := nr_mono (c := n / 9) (by omega) (show i < i + 1 by omega) hi
  refine flP_skip (by omega) (fun m h2 h3 z => ?_)
  obtain ⟨j, h4, h5⟩ := nr_ex (c := n / 9) (by omega) (show m / 9 < 81 by omega) (wkP_near hn (by omega) z)
  rcases Nat.lt_trichotomy j i with h6 | h6 | h6
  · have := nr_mono (c := n / 9) (by omega) h6 (by omega)
    omega
  · subst h6
    omega
  · by_cases h7 : j = i + 1
    · subst h7
      omega
    · have := nr_mono (c := n / 9) (by omega) (show i + 1 < j by omega) h4
      omega
theorem wl_e {X : Nat → Nat} {n : Nat} (hn : n < 729) : flP (wkP X n) 729 = flP (wkP X n) (9 * nrN (n / 9) 20 + 9) := by
  have h0 := nr_ok (c := n / 9) (i := 20) (by omega) (by decide)
  refine flP_skip (by omega) (fun m h2 h3 z => ?_)
  obtain ⟨j, h4, h5⟩ := nr_ex (c := n / 9) (by omega) (show m / 9 < 81 by omega) (wkP_near hn h3 z)
  by_cases h7 : j = 20
  · subst h7
    omega
  · have := nr_mono (c := n / 9) (by omega) (show j < 20 by omega) (by decide)
    omega
def wcN (c o : Nat) : Nat := if o = c then 8 else if shB c o = true then 1 else 0
theorem wc_sum : ∀ c : Fin 81, sumN (wcN c.val) 81 = 28 := by decide +kernel
theorem flP_l1 {P : Nat → Prop} {m : Nat} : (flP P (m + 1)).length ≤ (flP P m).length + 1 := by
  by_cases h : P m
  · rw [flP_t h, List.length_append]
    exact Nat.le_refl _
  · rw [flP_f h]
    exact Nat.le_succ _
theorem wl_cell {X : Nat → Nat} {n o : Nat} (hn : n < 729) (ho : o < 81) : (flP (wkP X n) (9 * o + 9)).length ≤ (flP (wkP X n) (9 * o)).length + wcN (n / 9) o := by
  have hno : ∀ e, e < 9 → (o = n / 9 → e = n % 9 → ¬ wkP X n (9 * o + e)) ∧ (o ≠ n / 9 → e ≠ n % 9 → ¬ wkP X n (9 * o + e)) := fun e he => by
    refine ⟨fun h1 h2 z => z.1 (by omega), fun h1 h2 z => ?_⟩
    obtain ⟨z1, z2, z3, z4⟩ := (weak_sh (by omega) hn).1 z
    omega
  unfold wcN
  by_cases hc : o = n / 9
  · rw [if_pos hc]
    have h : ∀ j, j ≤ 9 → (flP (wkP X n) (9 * o + j)).length ≤ (flP (wkP X n) (9 * o)).length + (if n % 9 < j then j - 1 else j) := by
      intro j
      induction j with
      | zero => intro _; exact Nat.le_add_right _ _
      | succ j ih =>
        intro hj
        have h1 := ih (by omega)
        by_cases hd : j = n % 9
        · rw [show 9 * o + (j + 1) = 9 * o + j + 1 by omega, flP_f ((hno j (by omega)).1 hc hd), if_pos (by omega)]
          rw [if_neg (by omega)] at h1
          omega
        · have h2 := flP_l1 (P := wkP X n) (m := 9 * o + j)
          by_cases hl : n % 9 < j
          · rw [if_pos hl] at h1
            rw [if_pos (by omega), show 9 * o + (j + 1) = 9 * o + j + 1 by omega]
            omega
          · rw [if_neg hl] at h1
            rw [if_neg (by omega), show 9 * o + (j + 1) = 9 * o + j + 1 by omega]
            omega
    have h9 := h 9 (Nat.le_refl _)
    rw [if_pos (by omega)] at h9
    exact h9
  · rw [if_neg hc]
    by_cases hs : shB (n / 9) o = true
    · rw [if_pos hs]
      have h : ∀ j, j ≤ 9 → (flP (wkP X n) (9 * o + j)).length ≤ (flP (wkP X n) (9 * o)).length + (if n % 9 < j then 1 else 0) := by
        intro j
        induction j with
        | zero => intro _; exact Nat.le_add_right _ _
        | succ j ih =>
          intro hj
          have h1 := ih (by omega)
          by_cases hd : j = n % 9
          · have h2 := flP_l1 (P := wkP X n) (m := 9 * o + j)
            rw [if_neg (by omega)] at h1
            rw [if_pos (by omega), show 9 * o + (j + 1) = 9 * o + j + 1 by omega]
            omega
          · rw [show 9 * o + (j + 1) = 9 * o + j + 1 by omega, flP_f ((hno j (by omega)).2 hc hd)]
            by_cases hl : n % 9 < j
            · rw [if_pos hl] at h1
              rw [if_pos (by omega)]
              exact h1
            · rw [if_neg hl] at h1
              rw [if_neg (by omega)]
              exact h1
      have h9 := h 9 (Nat.le_refl _)
      rw [if_pos (by omega)] at h9
      exact h9
    · rw [if_neg hs, Nat.add_zero, flP_skip (a := 9 * o) (by omega) (fun m h1 h2 z => hs (by
        have := wkP_near hn (by omega) z
        rw [show m / 9 = o by omega] at this
        exact this))]
      exact Nat.le_refl _
theorem wl_28 {X : Nat → Nat} {n : Nat} (hn : n < 729) : (flP (wkP X n) 729).length ≤ 28 := by
  have h : ∀ k, k ≤ 81 → (flP (wkP X n) (9 * k)).length ≤ sumN (wcN (n / 9)) k := by
    intro k
    induction k with
    | zero => intro _; exact Nat.le_refl _
    | succ k ih =>
      intro hk
      have h1 := ih (by omega)
      have h2 := wl_cell (X := X) hn (show k < 81 by omega)
      rw [sumN_succ, show 9 * (k + 1) = 9 * k + 9 by omega]
      omega
  have h9 := h 81 (Nat.le_refl _)
  rw [wc_sum ⟨n / 9, by omega⟩] at h9
  exact h9
noncomputable def wkL (X : Nat → Nat) (n : Nat) : List Nat := flP (wkP X n) 729
/-- the weak row of the class -/
def WlAt (M : MT) (l : List Nat) : Prop := M 24 5 = (l.length : Int) ∧ ∀ i, i < l.length → M 27 (i : Int) = ((l.getD i 0 : Nat) : Int)
theorem c_listWeak {d : Nat} {G : GT} {M : MT} {b n : Nat} {X : Nat → Nat} (hC : ClsG G) (hb : IsBd b) (hS : ShpAt M) (hB : BdC M b X) (hn : n < 729) (hh : hasN X n = 1) : Mq d k_X1_listWeak [vR 24, vR b, vI (n : Int)] G M (fun z M' => z = none ∧ WlAt M' (wkL X n) ∧ (∀ a, a ≠ 24 → a ≠ 27 → M' a = M a) ∧ ∀ i : Int, i ≠ 5 → M' 24 i = M 24 i) := by
  have hpw := pw9 n
  have h28 := wl_28 (X := X) hn
  have L_19 : ∀ (f i : Nat) (M2 : MT) (y6 : Option AV) (y7 : Option AV) (y8 : Option AV), 21 - i < f → i ≤ 21 → (WlAt M2 (if i < 21 then flP (wkP X n) (9 * nrN (n / 9) i) else flP (wkP X n) 729)) → (∀ a, a ≠ 24 → a ≠ 27 → M2 a = M a) → (∀ j : Int, j ≠ 5 → M2 24 j = M 24 j) → Wq (d) k_X1_listWeak 19 [some (vR 24), some (vR b), some (vI ((n : Nat) : Int)), some (vI ((n / 9 : Nat) : Int)), some (vI ((n % 9 : Nat) : Int)), some (vI ((i : Nat) : Int)), y6, y7, y8] [] G M2 (fun z M' => z = none ∧ WlAt M' (wkL X n) ∧ (∀ a, a ≠ 24 → a ≠ 27 → M' a = M a) ∧ ∀ i : Int, i ≠ 5 → M' 24 i = M 24 i) := by
    intro f
    induction f with
    | zero => intro i M2 y6 y7 y8 h; exact absurd h (by omega)
    | succ f ih_i =>
      intro i M2 y6 y7 y8 hf_i hk_i a1 a2 a3
      refine wq_s 21 rfl ?_
      refine wq_s 23 rfl ?_
      refine wq_icmp 155 rfl rfl (by omega) (by omega) (fun c_23 => ?_) (fun c_23 => ?_)
      · have c_23 := of_decide_eq_true c_23
        exact wq_ret rfl ⟨rfl, (by rw [if_neg (by omega)] at a1; exact a1), a2, a3⟩
      · have c_23 := of_decide_eq_false c_23
        have hnr := nr_ok (c := n / 9) (i := i) (by omega) (by omega)
        have hnr1 := hnr.1
        have hxo := (hB.1 _ hnr.1).2
        have hxc := (hB.1 (n / 9) (by omega)).2
        have hbn : bN X n (nrN (n / 9) i) < 512 := by
          unfold bN
          split
          · exact andN_lt (k := 9) hxo
          · exact and_lt2 (k := 9) hxo
        have L_82 : ∀ (f2 e : Nat) (M2 : MT), 9 - e < f2 → e ≤ 9 → (WlAt M2 (flP (wkP X n) (9 * nrN (n / 9) i + e))) → (∀ a, a ≠ 24 → a ≠ 27 → M2 a = M a) → (∀ j : Int, j ≠ 5 → M2 24 j = M 24 j) → Wq (d) k_X1_listWeak 82 [some (vR 24), some (vR b), some (vI ((n : Nat) : Int)), some (vI ((n / 9 : Nat) : Int)), some (vI ((n % 9 : Nat) : Int)), some (vI ((i : Nat) : Int)), some (vI ((nrN (n / 9) i : Nat) : Int)), some (vI ((bN X n (nrN (n / 9) i) : Nat) : Int)), some (vI ((e : Nat) : Int))] [] G M2 (fun z M' => z = none ∧ WlAt M' (wkL X n) ∧ (∀ a, a ≠ 24 → a ≠ 27 → M' a = M a) ∧ ∀ i : Int, i ≠ 5 → M' 24 i = M 24 i) := by
          intro f2
          induction f2 with
          | zero => intro e M2 h; exact absurd h (by omega)
          | succ f2 ih_e =>
            intro e M2 hf_e hk_e a1 a2 a3
            refine wq_s 84 rfl ?_
            refine wq_s 86 rfl ?_
            refine wq_icmp 149 rfl rfl (by omega) (by omega) (fun c_86 => ?_) (fun c_86 => ?_)
            · have c_86 := of_decide_eq_true c_86
              refine we_inc 5 1 ((i + 1 : Nat) : Int) 152 _ rfl rfl rfl (by omega) (by omega) rfl ?_
              refine wq_s 19 rfl ?_
              have e9 : e = 9 := by omega
              rw [e9] at a1
              exact ih_i (i + 1) _ _ _ _ (by omega) (by omega) (by
                by_cases hi : i + 1 < 21
                · rw [if_pos hi, wl_n hn hi]
                  exact a1
                · rw [if_neg hi, wl_e hn, show (20 : Nat) = i by omega]
                  exact a1) a2 a3
            · have c_86 := of_decide_eq_false c_86
              obtain ⟨x, hx⟩ : ∃ x, x = bN X n (nrN (n / 9) i) / 2 ^ e := ⟨_, rfl⟩
              have hx9 : x < 512 := by
                rw [hx]
                exact Nat.lt_of_le_of_lt (Nat.div_le_self _ _) hbn
              have hle := flP_len (P := wkP X n) (show 9 * nrN (n / 9) i + e + 1 ≤ 729 by omega)
              have hle2 := flP_len (P := wkP X n) (show 9 * nrN (n / 9) i + e ≤ 9 * nrN (n / 9) i + e + 1 by omega)
              refine wq_s 91 rfl ?_
              refine wq_s 93 rfl ?_
              refine we_shr (bN X n (nrN (n / 9) i)) e x 94 rfl rfl rfl rfl (by omega) (by omega) hx.symm ?_
              refine wq_if 149 rfl rfl (by omega) (fun c_94 => ?_) (fun c_94 => ?_)
              · have c_94 := of_decide_eq_true c_94
                refine we_inc 5 1 ((i + 1 : Nat) : Int) 152 _ rfl rfl rfl (by omega) (by omega) rfl ?_
                refine wq_s 19 rfl ?_
                have hsk : flP (wkP X n) (9 * nrN (n / 9) i + 9) = flP (wkP X n) (9 * nrN (n / 9) i + e) := flP_skip (by omega) (fun m h1 h2 z => by
                  have h9 := (bN_tb (e := m - 9 * nrN (n / 9) i) hn hh hnr.1 hnr.2 (by omega)).2 (by rw [show 9 * nrN (n / 9) i + (m - 9 * nrN (n / 9) i) = m by omega]; exact z)
                  rw [tb_div] at h9
                  have h8 : 2 ^ e ≤ 2 ^ (m - 9 * nrN (n / 9) i) := Nat.pow_le_pow_right (by decide) (by omega)
                  have h7 : bN X n (nrN (n / 9) i) < 2 ^ e := (Nat.div_eq_zero_iff_lt (Nat.two_pow_pos e)).1 (by rw [← hx]; omega)
                  rw [Nat.div_eq_of_lt (Nat.lt_of_lt_of_le h7 h8)] at h9
                  cases h9)
                rw [← hsk] at a1
                exact ih_i (i + 1) _ _ _ _ (by omega) (by omega) (by
                  by_cases hi : i + 1 < 21
                  · rw [if_pos hi, wl_n hn hi]
                    exact a1
                  · rw [if_neg hi, wl_e hn, show (20 : Nat) = i by omega]
                    exact a1) a2 a3
              · have c_94 := of_decide_eq_false c_94
                refine wq_s 99 rfl ?_
                refine wq_s 101 rfl ?_
                refine we_shr (bN X n (nrN (n / 9) i)) e ((bN X n (nrN (n / 9) i)) / 2 ^ e) 102 rfl rfl rfl rfl (by omega) (by omega) rfl ?_
                refine wq_s 103 rfl ?_
                refine we_and ((bN X n (nrN (n / 9) i)) / 2 ^ e) 1 (((bN X n (nrN (n / 9) i)) / 2 ^ e) % 2) 104 rfl rfl rfl rfl (Nat.lt_of_le_of_lt (Nat.div_le_self _ _) (by omega)) (and_1 _) ?_
                refine wq_if 143 rfl rfl (by omega) (fun c_104 => ?_) (fun c_104 => ?_)
                · have c_104 := of_decide_eq_true c_104
                  refine we_inc 8 1 ((e + 1 : Nat) : Int) 146 _ rfl rfl rfl (by omega) (by omega) rfl ?_
                  refine wq_s 82 rfl ?_
                  have hnP : ¬ wkP X n (9 * nrN (n / 9) i + e) := fun z => by
                    have := (tb_div _ _).1 ((bN_tb hn hh hnr.1 hnr.2 (by omega)).2 z)
                    omega
                  exact ih_e (e + 1) _ (by omega) (by omega) (by rw [show 9 * nrN (n / 9) i + (e + 1) = 9 * nrN (n / 9) i + e + 1 by omega, flP_f hnP]; exact a1) a2 a3
                · have c_104 := of_decide_eq_false c_104
                  refine wq_s 108 rfl ?_
                  refine wq_getE (v := (((flP (wkP X n) (9 * nrN (n / 9) i + e)).length : Nat) : Int)) 5 111 rfl rfl (hC.lt (by omega)) (hC.ty 20 _ rfl) rfl rfl a1.1 ?_
                  refine wq_s 113 rfl ?_
                  refine wq_icmp 143 rfl rfl (by omega) (by omega) (fun c_113 => ?_) (fun c_113 => ?_)
                  · have c_113 := of_decide_eq_true c_113
                    exfalso
                    have hP : wkP X n (9 * nrN (n / 9) i + e) := (bN_tb hn hh hnr.1 hnr.2 (by omega)).1 ((tb_div _ _).2 (by omega))
                    rw [flP_t hP, List.length_append] at hle
                    have hle : (flP (wkP X n) (9 * nrN (n / 9) i + e)).length + 1 ≤ (flP (wkP X n) 729).length := hle
                    omega
                  · have c_113 := of_decide_eq_false c_113
                    have hP1 : wkP X n (9 * nrN (n / 9) i + e) := (bN_tb hn hh hnr.1 hnr.2 (by omega)).1 ((tb_div _ _).2 (by omega))
                    refine wq_s 117 rfl ?_
                    refine wq_getR 120 rfl rfl (hC.lt (by omega)) (hC.ty 20 _ rfl) rfl ?_
                    refine wq_s 121 rfl ?_
                    refine wq_getE (v := (((flP (wkP X n) (9 * nrN (n / 9) i + e)).length : Nat) : Int)) 5 124 rfl rfl (hC.lt (by omega)) (hC.ty 20 _ rfl) rfl rfl a1.1 ?_
                    refine wq_s 126 rfl ?_
                    refine wq_s 128 rfl ?_
                    refine we_mul ((9 * (nrN (n / 9) i) : Nat) : Int) 129 rfl rfl (by omega) (by omega) ?_
                    refine wq_s 131 rfl ?_
                    refine we_add (((9 * (nrN (n / 9) i)) + e : Nat) : Int) 132 rfl rfl (by omega) (by omega) ?_
                    have hP : wkP X n (9 * nrN (n / 9) i + e) := (bN_tb hn hh hnr.1 hnr.2 (by omega)).1 ((tb_div _ _).2 (by omega))
                    have hfl := flP_t hP
                    have hl9 : (flP (wkP X n) (9 * nrN (n / 9) i + e + 1)).length = (flP (wkP X n) (9 * nrN (n / 9) i + e)).length + 1 := by rw [hfl, List.length_append]; rfl
                    refine wq_iast 133 rfl rfl (hC.lt (by omega)) (hC.ty 23 _ rfl) (by omega) (by omega) (by omega) ?_
                    refine wq_s 134 rfl ?_
                    refine wq_s 135 rfl ?_
                    refine wq_getE (v := (((flP (wkP X n) (9 * nrN (n / 9) i + e)).length : Nat) : Int)) 5 138 rfl rfl (hC.lt (by omega)) (hC.ty 20 _ rfl) rfl rfl ((up2_ne (Or.inl (by decide))).trans a1.1) ?_
                    refine wq_s 139 rfl ?_
                    refine we_add (((flP (wkP X n) (9 * nrN (n / 9) i + e)).length + 1 : Nat) : Int) 140 rfl rfl (by omega) (by omega) ?_
                    refine wq_putE 5 143 rfl rfl (hC.lt (by omega)) (hC.ty 20 _ rfl) rfl (by decide) (Or.inl rfl) rfl ?_
                    refine we_inc 8 1 ((e + 1 : Nat) : Int) 146 _ rfl rfl rfl (by omega) (by omega) rfl ?_
                    refine wq_s 82 rfl ?_
                    refine ih_e (e + 1) _ (by omega) (by omega) ⟨?_, fun j hj => ?_⟩ ?_ ?_
                    · rw [up2_at]
                      exact congrArg (fun z : Nat => (z : Int)) hl9.symm
                    · have hj : j < (flP (wkP X n) (9 * nrN (n / 9) i + e + 1)).length := hj
                      show _ = (((flP (wkP X n) (9 * nrN (n / 9) i + e + 1)).getD j 0 : Nat) : Int)
                      rw [hl9] at hj
                      rw [hfl, up2_row (by decide)]
                      by_cases hj2 : j < (flP (wkP X n) (9 * nrN (n / 9) i + e)).length
                      · rw [getD_app1 hj2, up2_ne (Or.inr (by omega))]
                        exact a1.2 j hj2
                      · have ej : j = (flP (wkP X n) (9 * nrN (n / 9) i + e)).length := by omega
                        rw [ej, getD_app2, up2_at]
                    · intro a h1 h2
                      rw [up2_row h1, up2_row h2]
                      exact a2 a h1 h2
                    · intro j hj
                      rw [up2_ne (Or.inr hj), up2_row (by decide)]
                      exact a3 j hj
        refine wq_s 27 rfl ?_
        refine wq_getR 30 rfl rfl (hC.lt (by omega)) (hC.ty 20 _ rfl) rfl ?_
        refine wq_getR 33 rfl rfl (hC.lt (by omega)) (hC.ty 1 _ rfl) rfl ?_
        refine wq_s 35 rfl ?_
        refine wq_s 36 rfl ?_
        refine we_mul ((21 * (n / 9) : Nat) : Int) 37 rfl rfl (by omega) (by omega) ?_
        refine wq_s 39 rfl ?_
        refine we_add (((21 * (n / 9)) + i : Nat) : Int) 40 rfl rfl (by omega) (by omega) ?_
        refine wq_iald (v := ((nrN (n / 9) i : Nat) : Int)) 41 rfl rfl (hC.lt (by omega)).2 (hC.ty 5 _ rfl) (by omega) (by omega) (by omega) (by rw [a2 _ (by decide) (by decide)]; exact hS.2.2 (n / 9) i (by omega) (by omega)) ?_
        refine wq_s 43 rfl ?_
        refine wq_s 45 rfl ?_
        refine wq_s 46 rfl ?_
        refine wq_icmp 65 rfl rfl (by omega) (by omega) (fun c_46 => ?_) (fun c_46 => ?_)
        · have c_46 := of_decide_eq_true c_46
          refine wq_s 66 rfl ?_
          refine wq_getR 69 rfl rfl (hC.lt (by omega)) (hC.bd hb).1 rfl ?_
          refine wq_s 71 rfl ?_
          refine wq_iald (v := ((X (nrN (n / 9) i) : Nat) : Int)) 72 rfl rfl (hC.lt (by omega)).2 (hC.bd hb).2.1 (by omega) (by omega) (by omega) (by rw [a2 _ (by omega) (by omega)]; exact (hB.1 _ hnr.1).1) ?_
          refine wq_s 73 rfl ?_
          refine wq_s 75 rfl ?_
          refine we_shl 1 (n % 9) (2 ^ (n % 9)) 76 rfl rfl rfl rfl (by omega) (Nat.one_mul _) (by omega) ?_
          refine we_and (X (nrN (n / 9) i)) (2 ^ (n % 9)) (bN X n (nrN (n / 9) i)) 77 rfl rfl rfl rfl (by omega) ((if_neg (show ¬ nrN (n / 9) i = n / 9 by omega)).symm) ?_
          refine wq_s 79 rfl ?_
          refine wq_s 80 rfl ?_
          refine wq_s 82 rfl ?_
          exact L_82 10 0 _ (by omega) (by omega) (by rw [if_pos (by omega)] at a1; exact a1) a2 a3
        · have c_46 := of_decide_eq_false c_46
          refine wq_s 50 rfl ?_
          refine wq_getR 53 rfl rfl (hC.lt (by omega)) (hC.bd hb).1 rfl ?_
          refine wq_s 54 rfl ?_
          refine wq_iald (v := ((X (n / 9) : Nat) : Int)) 55 rfl rfl (hC.lt (by omega)).2 (hC.bd hb).2.1 (by omega) (by omega) (by omega) (by rw [a2 _ (by omega) (by omega)]; exact (hB.1 (n / 9) (by omega)).1) ?_
          refine wq_s 56 rfl ?_
          refine wq_s 58 rfl ?_
          refine we_shl 1 (n % 9) (2 ^ (n % 9)) 59 rfl rfl rfl rfl (by omega) (Nat.one_mul _) (by omega) ?_
          refine wq_s 60 rfl ?_
          refine we_not (2 ^ (n % 9)) 61 rfl rfl rfl (by omega) ?_
          refine we_andn (X (n / 9)) (2 ^ (n % 9)) (bN X n (nrN (n / 9) i)) 62 rfl rfl rfl (by omega) (by rw [show nrN (n / 9) i = n / 9 by omega]; exact (if_pos rfl).symm) ?_
          refine wq_s 77 rfl ?_
          refine wq_s 79 rfl ?_
          refine wq_s 80 rfl ?_
          refine wq_s 82 rfl ?_
          exact L_82 10 0 _ (by omega) (by omega) (by rw [if_pos (by omega)] at a1; exact a1) a2 a3
  refine wq_s 1 rfl ?_
  refine wq_s 3 rfl ?_
  refine we_div ((n / 9 : Nat) : Int) 4 rfl rfl (by omega) (by omega) (by omega) ?_
  refine wq_s 5 rfl ?_
  refine wq_s 6 rfl ?_
  refine wq_s 8 rfl ?_
  refine we_rem ((n % 9 : Nat) : Int) 9 rfl rfl (by omega) (by omega) (by omega) ?_
  refine wq_s 11 rfl ?_
  refine wq_s 12 rfl ?_
  refine wq_s 13 rfl ?_
  refine wq_putE 5 16 rfl rfl (hC.lt (by omega)) (hC.ty 20 _ rfl) rfl (by decide) (Or.inl rfl) rfl ?_
  refine wq_s 17 rfl ?_
  refine wq_s 19 rfl ?_
  exact L_19 22 0 _ _ _ _ (by omega) (by omega) (by rw [if_pos (by decide), wl_0 hn]; exact ⟨up2_at, fun i hi => absurd hi (Nat.not_lt_zero _)⟩) (fun a h1 _ => up2_row h1) (fun j hj => up2_ne (Or.inr hj))
