/-! a node has at most four that are strong to it; addStrongPair -/
theorem flP_sub {P P' : Nat → Prop} (h : ∀ m, P m → P' m) : ∀ n, (flP P n).length ≤ (flP P' n).length := by
  intro n
  induction n with
  | zero => exact Nat.le_refl _
  | succ n ih =>
    by_cases h1 : P n
    · rw [flP_t h1, flP_t (h n h1), List.length_append, List.length_append]
      exact Nat.add_le_add_right ih _
    · rw [flP_f h1]
      exact Nat.le_trans ih (flP_len (Nat.le_succ _))
theorem flP_or {P P' : Nat → Prop} : ∀ n, (flP (fun m => P m ∨ P' m) n).length ≤ (flP P n).length + (flP P' n).length := by
  intro n
  induction n with
  | zero => exact Nat.le_refl _
  | succ n ih =>
    have l1 := flP_len (P := P) (Nat.le_add_right n 1)
    have l2 := flP_len (P := P') (Nat.le_add_right n 1)
    by_cases h1 : P n
    · rw [flP_t (P := fun m => P m ∨ P' m) (Or.inl h1), flP_t h1, List.length_append, List.length_append]
      have e : ([n] : List Nat).length = 1 := rfl
      omega
    · by_cases h2 : P' n
      · rw [flP_t (P := fun m => P m ∨ P' m) (Or.inr h2), flP_t h2, List.length_append, List.length_append]
        have e : ([n] : List Nat).length = 1 := rfl
        omega
      · rw [flP_f (P := fun m => P m ∨ P' m) (fun z => z.elim h1 h2)]
        omega
theorem flP_one {P : Nat → Prop} (h : ∀ m m', P m → P m' → m = m') (n : Nat) : (flP P n).length ≤ 1 := by
  by_cases hl : (flP P n).length ≤ 1
  · exact hl
  · have h1 := flP_mono P n 0 1 (by decide) (by omega)
    have h2 := flP_at (P := P) (n := n) (j := 0) (by omega)
    have h3 := flP_at (P := P) (n := n) (j := 1) (by omega)
    have := h _ _ h2.2 h3.2
    omega
theorem pop2 : ∀ n : Fin 512, pop9 n.val = 2 → ∃ a : Fin 9, ∃ b : Fin 9, a.val < b.val ∧ n.val = 2 ^ a.val ||| 2 ^ b.val := by decide +kernel
theorem two_tb {v a b c : Nat} (hv : v < 512) (h2 : pop9 v = 2) (ha : v.testBit a = true) (hb : v.testBit b = true) (hc : v.testBit c = true) (hab : a ≠ b) (hac : a ≠ c) : b = c := by
  obtain ⟨x, y, h1, h3⟩ := pop2 ⟨v, hv⟩ h2
  dsimp only at h3
  rw [h3] at ha hb hc
  rw [Nat.testBit_or, Bool.or_eq_true, pow_tb, pow_tb] at ha hb hc
  omega
theorem sg_4 {X : Nat → Nat} {n : Nat} (hX : ∀ c, c < 81 → X c < 512) (hn : n < 729) : (flP (fun m => m < 729 ∧ strongC X n m) 729).length ≤ 4 := by
  have key : ∀ s, s < 3 → (flP (fun m => m < 729 ∧ weakC X n m ∧ n / 9 ≠ m / 9 ∧ strH X n m s) 729).length ≤ 1 := fun s hs => flP_one (fun m m' h h' => by
    obtain ⟨m1, m2, m3, m4⟩ := h
    obtain ⟨q1, q2, q3, q4⟩ := h'
    rw [str_ho hn m1] at m4
    rw [str_ho hn q1] at q4
    have d1 : n % 9 = m % 9 := by
      rcases m2.2.2.2 with y | y
      · exact absurd y m3
      · exact y.1
    have d2 : n % 9 = m' % 9 := by
      rcases q2.2.2.2 with y | y
      · exact absurd y q3
      · exact y.1
    have hpos : ∀ z, z < 729 → hasN X z = 1 → z % 9 = n % 9 → hoN (n / 9) s = hoN (z / 9) s → (plH X (hoN (n / 9) s) (n % 9)).testBit (poN (z / 9) s) = true := fun z z1 z2 z3 z4 => by
      have ho := ho_ok (c := z / 9) (s := s) (by omega) hs
      rw [plH_tb, z4, ho.1, ← z3]
      exact ⟨ho.2.2.2, (hasN_tb X z).1 z2⟩
    have hinj : ∀ z z', z < 729 → z' < 729 → z % 9 = z' % 9 → hoN (z / 9) s = hoN (z' / 9) s → poN (z / 9) s = poN (z' / 9) s → z = z' := fun z z' z1 z2 z3 z4 z5 => by
      have e1 := (ho_ok (c := z / 9) (s := s) (by omega) hs).1
      have e2 := (ho_ok (c := z' / 9) (s := s) (by omega) hs).1
      rw [z4, z5, e2] at e1
      omega
    have hp := two_tb (plH_lt X _ _) m4.2 (hpos n hn m2.2.1 rfl rfl) (hpos m m1 m2.2.2.1 d1.symm m4.1) (hpos m' q1 q2.2.2.1 d2.symm q4.1) (fun z => m2.1 (hinj n m hn m1 d1 m4.1 z)) (fun z => q2.1 (hinj n m' hn q1 d2 q4.1 z))
    exact hinj m m' m1 q1 (by omega) (by rw [← m4.1, ← q4.1]) hp) 729
  have key0 : (flP (fun m => m < 729 ∧ weakC X n m ∧ n / 9 = m / 9 ∧ pop9 (X (n / 9)) = 2) 729).length ≤ 1 := flP_one (fun m m' h h' => by
    obtain ⟨m1, m2, m3, m4⟩ := h
    obtain ⟨q1, q2, q3, -⟩ := h'
    have t1 := (hasN_tb X n).1 m2.2.1
    have t2 := (hasN_tb X m).1 m2.2.2.1
    have t3 := (hasN_tb X m').1 q2.2.2.1
    rw [← m3] at t2
    rw [← q3] at t3
    have h1 := m2.1
    have h2 := q2.1
    have := two_tb (hX _ (by omega)) m4 t1 t2 t3 (by omega) (by omega)
    omega) 729
  have h := flP_sub (P := fun m => m < 729 ∧ strongC X n m) (P' := fun m => ((m < 729 ∧ weakC X n m ∧ n / 9 = m / 9 ∧ pop9 (X (n / 9)) = 2) ∨ (m < 729 ∧ weakC X n m ∧ n / 9 ≠ m / 9 ∧ strH X n m 0)) ∨ ((m < 729 ∧ weakC X n m ∧ n / 9 ≠ m / 9 ∧ strH X n m 1) ∨ (m < 729 ∧ weakC X n m ∧ n / 9 ≠ m / 9 ∧ strH X n m 2))) (fun m hm => by
    obtain ⟨m1, m2, m3⟩ := hm
    rcases m3 with ⟨y1, y2⟩ | ⟨y1, s, y2, y3⟩
    · exact Or.inl (Or.inl ⟨m1, m2, y1, y2⟩)
    · rcases (show s = 0 ∨ s = 1 ∨ s = 2 by omega) with rfl | rfl | rfl
      · exact Or.inl (Or.inr ⟨m1, m2, y1, y3⟩)
      · exact Or.inr (Or.inl ⟨m1, m2, y1, y3⟩)
      · exact Or.inr (Or.inr ⟨m1, m2, y1, y3⟩)) 729
  have h1 := flP_or (P := fun m => (m < 729 ∧ weakC X n m ∧ n / 9 = m / 9 ∧ pop9 (X (n / 9)) = 2) ∨ (m < 729 ∧ weakC X n m ∧ n / 9 ≠ m / 9 ∧ strH X n m 0)) (P' := fun m => (m < 729 ∧ weakC X n m ∧ n / 9 ≠ m / 9 ∧ strH X n m 1) ∨ (m < 729 ∧ weakC X n m ∧ n / 9 ≠ m / 9 ∧ strH X n m 2)) 729
  have h2 := flP_or (P := fun m => m < 729 ∧ weakC X n m ∧ n / 9 = m / 9 ∧ pop9 (X (n / 9)) = 2) (P' := fun m => m < 729 ∧ weakC X n m ∧ n / 9 ≠ m / 9 ∧ strH X n m 0) 729
  have h3 := flP_or (P := fun m => m < 729 ∧ weakC X n m ∧ n / 9 ≠ m / 9 ∧ strH X n m 1) (P' := fun m => m < 729 ∧ weakC X n m ∧ n / 9 ≠ m / 9 ∧ strH X n m 2) 729
  have k0 := key 0 (by decide)
  have k1 := key 1 (by decide)
  have k2 := key 2 (by decide)
  exact Nat.le_trans h (Nat.le_trans h1 (Nat.le_trans (Nat.add_le_add h2 h3) (by omega)))
/-- every node's strong row, of a relation -/
def SgAt (M : MT) (A : Nat → Nat → Prop) : Prop := ∀ n, n < 729 → SlAt M n (flP (A n) 729)
theorem flP_ext {P P' : Nat → Prop} : ∀ n, (∀ m, m < n → (P m ↔ P' m)) → flP P n = flP P' n := by
  intro n
  induction n with
  | zero => intro _; rfl
  | succ n ih =>
    intro h
    have e := ih (fun m hm => h m (by omega))
    by_cases h1 : P n
    · rw [flP_t h1, flP_t ((h n (Nat.lt_succ_self _)).1 h1), e]
    · rw [flP_f h1, flP_f (fun z => h1 ((h n (Nat.lt_succ_self _)).2 z)), e]
theorem SgAt.ext {M : MT} {A A' : Nat → Nat → Prop} (h : SgAt M A) (he : ∀ n m, n < 729 → m < 729 → (A n m ↔ A' n m)) : SgAt M A' := fun n hn => by
  rw [← flP_ext (P := A n) (P' := A' n) 729 (fun m hm => he n m hn hm)]
  exact h n hn
theorem SlAt.fr {M M' : MT} {n k : Nat} {l : List Nat} (h : SlAt M n l) (hF : FrN M M' k) (hnk : n ≠ k) : SlAt M' n l := by
  obtain ⟨e1, e2, e3⟩ := h
  refine ⟨(hF.2.2 _ (by omega)).trans e1, e2, fun i hi => ?_⟩
  rw [hF.2.1 _ (by omega)]
  exact e3 i hi
theorem SgAt.fr {M M' : MT} {A : Nat → Nat → Prop} (h : SgAt M A) (h1 : M' 25 = M 25) (h2 : M' 26 = M 26) : SgAt M' A := fun n hn => by
  unfold SlAt
  rw [h1, h2]
  exact h n hn
theorem c_addStrong {d : Nat} {G : GT} {M : MT} {n y : Nat} {A : Nat → Nat → Prop} (hC : ClsG G) (hn : n < 729) (hy : y < 729) (hS : SgAt M A) (h4 : (flP (fun m => A n m ∨ m = y) 729).length ≤ 4) : Mq d k_X1_addStrong [vR 24, vI (n : Int), vI (y : Int)] G M (fun z M' => z = none ∧ SgAt M' (fun u m => A u m ∨ (u = n ∧ m = y)) ∧ ∀ a, a ≠ 25 → a ≠ 26 → M' a = M a) := by
  by_cases hA : A n y
  · obtain ⟨i, i1, i2⟩ := (flP_mem (A n) 729 y).2 ⟨hy, hA⟩
    refine (c_addStrong_in hC hn hy (hS n hn) ⟨i, i1, i2⟩).mono (fun z M' hz => ?_)
    obtain ⟨rfl, rfl⟩ := hz
    refine ⟨rfl, hS.ext (fun u m hu hm => ⟨Or.inl, fun w => w.elim id (fun w => by rw [w.1, w.2]; exact hA)⟩), fun _ _ _ => rfl⟩
  · obtain ⟨r, r1, r2, r3⟩ := flP_split (P := A n) (y := y) hA 729 hy
    rw [r2] at h4
    have hl : (flP (A n) 729).length < 4 := by
      rw [r1, List.length_append]
      rw [List.length_append] at h4
      have h4 : (flP (A n) y).length + (r.length + 1) ≤ 4 := h4
      omega
    refine (c_addStrong_new (A := flP (A n) y) (r := r) hC hn hy (hS n hn) r1 (fun i hi => (flP_at hi).1) (fun i hi => r3 _ ?_) hl).mono (fun z M' hz => ?_)
    · rw [List.getD_eq_getElem?_getD, List.getElem?_eq_getElem hi]
      exact List.getElem_mem hi
    · obtain ⟨rfl, h1, h2⟩ := hz
      refine ⟨rfl, fun u hu => ?_, h2.1⟩
      by_cases hun : u = n
      · subst hun
        rw [← r2] at h1
        rw [flP_ext (P := fun m => A u m ∨ (u = u ∧ m = y)) (P' := fun m => A u m ∨ m = y) 729 (fun m _ => ⟨fun w => w.elim Or.inl (fun w => Or.inr w.2), fun w => w.elim Or.inl (fun w => Or.inr ⟨rfl, w⟩)⟩)]
        exact h1
      · rw [flP_ext (P := fun m => A u m ∨ (u = n ∧ m = y)) (P' := A u) 729 (fun m _ => ⟨fun w => w.elim id (fun w => absurd w.1 hun), Or.inl⟩)]
        exact (hS u hu).fr h2 hun
theorem c_addStrongPair {d : Nat} {G : GT} {M : MT} {u v : Nat} {X : Nat → Nat} {A : Nat → Nat → Prop} (hC : ClsG G) (hX : ∀ c, c < 81 → X c < 512) (hu : u < 729) (hv : v < 729) (hS : SgAt M A) (hA : ∀ n m, n < 729 → m < 729 → A n m → strongC X n m) (hs : strongC X u v) : Mq (d + 1) k_X1_addStrongPair [vR 24, vI (u : Int), vI (v : Int)] G M (fun z M' => z = none ∧ SgAt M' (fun n m => A n m ∨ (n = u ∧ m = v) ∨ (n = v ∧ m = u)) ∧ ∀ a, a ≠ 25 → a ≠ 26 → M' a = M a) := by
  have hb : ∀ (n : Nat) (P : Nat → Prop), n < 729 → (∀ m, m < 729 → P m → strongC X n m) → (flP P 729).length ≤ 4 := fun n P hn hP => by
    rw [flP_ext (P := P) (P' := fun m => m < 729 ∧ P m) 729 (fun m hm => ⟨fun w => ⟨hm, w⟩, fun w => w.2⟩)]
    exact Nat.le_trans (flP_sub (fun m hm => ⟨hm.1, hP m hm.1 hm.2⟩) 729) (sg_4 hX hn)
  refine wq_s 1 rfl ?_
  refine wq_s 2 rfl ?_
  refine wq_s 3 rfl ?_
  refine wq_vt2 6 rfl rfl (Nat.le_of_ble_eq_true rfl) (hC.lt (by omega)) (hC.ty 20 _ rfl) rfl (Nat.le_of_ble_eq_true rfl) (c_addStrong hC hu hv hS (hb u _ hu (fun m hm w => w.elim (hA u m hu hm) (fun w => by rw [w]; exact hs)))) (fun z M1 hz => ?_)
  obtain ⟨rfl, hS1, hF1⟩ := hz
  dsimp only [Option.toList, List.cons_append, List.nil_append]
  refine wq_s 7 rfl ?_
  refine wq_s 8 rfl ?_
  refine wq_s 9 rfl ?_
  refine wq_vt2 12 rfl rfl (Nat.le_of_ble_eq_true rfl) (hC.lt (by omega)) (hC.ty 20 _ rfl) rfl (Nat.le_of_ble_eq_true rfl) (c_addStrong hC hv hu hS1 (hb v _ hv (fun m hm w => by
    rcases w with (w | ⟨w1, w2⟩) | w
    · exact hA v m hv hm w
    · rw [w1, w2]
      exact absurd w1 (fun e => hs.1.1 e.symm)
    · rw [w]
      exact strongC_sym hs))) (fun z M2 hz => ?_)
  obtain ⟨rfl, hS2, hF2⟩ := hz
  dsimp only [Option.toList, List.cons_append, List.nil_append]
  refine wq_ret rfl ⟨rfl, hS2.ext (fun n m _ _ => ⟨fun w => ?_, fun w => ?_⟩), fun a h1 h2 => (hF2 a h1 h2).trans (hF1 a h1 h2)⟩
  · rcases w with (w | w) | w
    · exact Or.inl w
    · exact Or.inr (Or.inl w)
    · exact Or.inr (Or.inr w)
  · rcases w with w | w | w
    · exact Or.inl (Or.inl w)
    · exact Or.inl (Or.inr w)
    · exact Or.inr w
