/-! the reference's calls that change it: begin, give, row, node, claim -/
theorem GvAt.fr {M M' : MT} {q : Nat} {gv : Nat → Nat} (h : GvAt M q gv) (he : M' q = M q) : GvAt M' q gv := fun c hc => by
  rw [he]
  exact h c hc
theorem NdAt.fr {M M' : MT} {o : Nat} {nd : List Nat} (h : NdAt M o nd) (h1 : M' o 31 = M o 31) (h2 : M' (o + 22) = M (o + 22)) : NdAt M' o nd := by
  obtain ⟨e1, e2, e3⟩ := h
  refine ⟨h1.trans e1, e2, fun k hk => ?_⟩
  rw [h2]
  exact e3 k hk
theorem RefSr.fr {M M' : MT} {o : Nat} {S : SrS} (h : RefSr M o S) (h1 : ∀ i : Int, 37 ≤ i → i ≤ 41 → M' o i = M o i) (h2 : ∀ a, o + 23 ≤ a → a ≤ o + 25 → M' a = M a) (h3 : M' (o + 27) = M (o + 27)) : RefSr M' o S := by
  obtain ⟨e1, e2, e3, e4, e5, e6, e7⟩ := h
  refine ⟨(h1 _ (by decide) (by decide)).trans e1, (h1 _ (by decide) (by decide)).trans e2, (h1 _ (by decide) (by decide)).trans e3, (h1 _ (by decide) (by decide)).trans e4, (h1 _ (by decide) (by decide)).trans e5, fun i hi => ?_, fun k hk c hc => ?_⟩
  · rw [h2 _ (by omega) (by omega), h2 _ (by omega) (by omega), h2 _ (by omega) (by omega)]
    exact e6 i hi
  · rw [h3]
    exact e7 k hk c hc
/-- rows and numbers that a state is made of are as they were -/
theorem RefSt.fr {M M' : MT} {o : Nat} {gv X C : Nat → Nat} {T : List GSt} {en : Nat} {nd : List Nat} {S : SrS} (h : RefSt M o gv X C T en nd S) (h1 : ∀ i : Int, 22 ≤ i → (i ≤ 26 ∨ 30 ≤ i) → M' o i = M o i) (h2 : ∀ a, ((o + 1 ≤ a ∧ a ≤ o + 4) ∨ (o + 14 ≤ a ∧ a ≠ o + 26)) → a ≤ o + 27 → M' a = M a) : RefSt M' o gv X C T en nd S := by
  obtain ⟨s1, s2, s3, s4, s5, s6, s7, s8⟩ := h
  exact ⟨s1.fr (h2 _ (by omega) (by omega)), s2.fr (h2 _ (by omega) (by omega)), s3.fr (h2 _ (by omega) (by omega)), s4.fr (h2 _ (by omega) (by omega)), s5.fr (fun i i1 i2 => h1 i (by omega) (by omega)) (fun a a1 a2 => h2 a (by omega) (by omega)), (h1 _ (by decide) (by decide)).trans s6, s7.fr (h1 _ (by decide) (by decide)) (h2 _ (by omega) (by omega)), s8.fr (fun i i1 i2 => h1 i (by omega) (by omega)) (fun a a1 a2 => h2 a (by omega) (by omega)) (h2 _ (by omega) (by omega))⟩
/-- the checker's board is new -/
theorem RefSt.chk {M M' : MT} {o : Nat} {gv X C C' : Nat → Nat} {T : List GSt} {en : Nat} {nd : List Nat} {S : SrS} (h : RefSt M o gv X C T en nd S) (hC : AtB M' (o + 4) C') (h1 : ∀ i : Int, 22 ≤ i → (i ≤ 26 ∨ 30 ≤ i) → M' o i = M o i) (h2 : ∀ a, ((o + 1 ≤ a ∧ a ≤ o + 3) ∨ (o + 14 ≤ a ∧ a ≠ o + 26)) → a ≤ o + 27 → M' a = M a) : RefSt M' o gv X C' T en nd S := by
  obtain ⟨s1, s2, s3, s4, s5, s6, s7, s8⟩ := h
  exact ⟨s1.fr (h2 _ (by omega) (by omega)), s2.fr (h2 _ (by omega) (by omega)), s3.fr (h2 _ (by omega) (by omega)), hC, s5.fr (fun i i1 i2 => h1 i (by omega) (by omega)) (fun a a1 a2 => h2 a (by omega) (by omega)), (h1 _ (by decide) (by decide)).trans s6, s7.fr (h1 _ (by decide) (by decide)) (h2 _ (by omega) (by omega)), s8.fr (fun i i1 i2 => h1 i (by omega) (by omega)) (fun a a1 a2 => h2 a (by omega) (by omega)) (h2 _ (by omega) (by omega))⟩
/-- the nodes that were put are gone -/
theorem RefSt.nod0 {M : MT} {o : Nat} {gv X C : Nat → Nat} {T : List GSt} {en : Nat} {nd : List Nat} {S : SrS} (h : RefSt M o gv X C T en nd S) : RefSt (up2 M o 31 0) o gv X C T en [] S := by
  obtain ⟨s1, s2, s3, s4, s5, s6, s7, s8⟩ := h
  exact ⟨s1.fr (up2_row (by omega)), s2.fr (up2_row (by omega)), s3.fr (up2_row (by omega)), s4.fr (up2_row (by omega)), s5.fr (fun i i1 i2 => up2_ne (Or.inr (by omega))) (fun a a1 a2 => up2_row (by omega)), (up2_ne (Or.inr (by decide))).trans s6, ⟨up2_at, Nat.zero_le _, fun k hk => absurd hk (Nat.not_lt_zero _)⟩, s8.fr (fun i i1 i2 => up2_ne (Or.inr (by omega))) (fun a a1 a2 => up2_row (by omega)) (up2_row (by omega))⟩
theorem c_X9_begin {d : Nat} {G : GT} {M : MT} {o : Nat} {gv : Nat → Nat} {F : Nat → (Nat → Nat) × Nat × Nat} {Sv : Nat → Nat → Nat} (hG : RefG G o) (hgv : GvAt M (o + 1) gv) : Mq d k_X9_begin [vR o] G M (fun z M' => z = none ∧ RefSt M' o gv (fstF gv) (fstF gv) [] 0 [] (0, 0, 0, 0, 0, F, Sv) ∧ FrO M M' o) := by
  have L_2 : ∀ (f k : Nat) (M2 : MT), 81 - k < f → k ≤ 81 → (∀ c, c < k → M2 (o + 2) (c : Int) = ((fstF gv c : Nat) : Int) ∧ M2 (o + 3) (c : Int) = ((fstF gv c : Nat) : Int) ∧ M2 (o + 4) (c : Int) = ((fstF gv c : Nat) : Int)) → (∀ a, (a < o + 2 ∨ o + 4 < a) → M2 a = M a) → Wq (d) k_X9_begin 2 [some (vR o), some (vI ((k : Nat) : Int))] [] G M2 (fun z M' => z = none ∧ RefSt M' o gv (fstF gv) (fstF gv) [] 0 [] (0, 0, 0, 0, 0, F, Sv) ∧ FrO M M' o) := by
    intro f
    induction f with
    | zero => intro k M2 h; exact absurd h (by omega)
    | succ f ih_k =>
      intro k M2 hf_k hk_k hA hFr
      refine wq_s 3 rfl ?_
      refine wq_s 5 rfl ?_
      refine wq_icmp 69 rfl rfl (by omega) (by omega) (fun c_5 => ?_) (fun c_5 => ?_)
      · have c_5 := of_decide_eq_true c_5
        have e9 : k = 81 := by omega
        subst e9
        refine wq_s 70 rfl ?_
        refine wq_s 71 rfl ?_
        refine wq_putE 22 74 rfl rfl hG.ob hG.2.2.1 rfl (by decide) (by decide) rfl ?_
        refine wq_s 75 rfl ?_
        refine wq_s 76 rfl ?_
        refine wq_putE 23 79 rfl rfl hG.ob hG.2.2.1 rfl (by decide) (by decide) rfl ?_
        refine wq_s 80 rfl ?_
        refine wq_s 81 rfl ?_
        refine wq_putE 24 84 rfl rfl hG.ob hG.2.2.1 rfl (by decide) (by decide) rfl ?_
        refine wq_s 85 rfl ?_
        refine wq_s 86 rfl ?_
        refine wq_putE 25 89 rfl rfl hG.ob hG.2.2.1 rfl (by decide) (by decide) rfl ?_
        refine wq_s 90 rfl ?_
        refine wq_s 91 rfl ?_
        refine wq_putE 26 94 rfl rfl hG.ob hG.2.2.1 rfl (by decide) (by decide) rfl ?_
        refine wq_s 95 rfl ?_
        refine wq_s 96 rfl ?_
        refine wq_putE 31 99 rfl rfl hG.ob hG.2.2.1 rfl (by decide) (by decide) rfl ?_
        refine wq_s 100 rfl ?_
        refine wq_s 101 rfl ?_
        refine wq_putE 37 104 rfl rfl hG.ob hG.2.2.1 rfl (by decide) (by decide) rfl ?_
        refine wq_s 105 rfl ?_
        refine wq_s 106 rfl ?_
        refine wq_putE 38 109 rfl rfl hG.ob hG.2.2.1 rfl (by decide) (by decide) rfl ?_
        refine wq_s 110 rfl ?_
        refine wq_s 111 rfl ?_
        refine wq_putE 40 114 rfl rfl hG.ob hG.2.2.1 rfl (by decide) (by decide) rfl ?_
        refine wq_s 115 rfl ?_
        refine wq_s 116 rfl ?_
        refine wq_putE 41 119 rfl rfl hG.ob hG.2.2.1 rfl (by decide) (by decide) rfl ?_
        refine wq_s 120 rfl ?_
        refine wq_s 121 rfl ?_
        refine wq_putE 39 124 rfl rfl hG.ob hG.2.2.1 rfl (by decide) (by decide) rfl ?_
        refine wq_ret rfl ⟨rfl, ⟨hgv.fr ?_, ?_, ?_, ?_, ⟨?_, ?_, ?_, ?_, fun i hi => absurd hi (Nat.not_lt_zero _)⟩, ?_, ⟨?_, Nat.zero_le _, fun k hk => absurd hk (Nat.not_lt_zero _)⟩, ⟨?_, ?_, ?_, ?_, ?_, fun i hi => absurd hi (Nat.not_lt_zero _), fun i hi => absurd hi (Nat.not_lt_zero _)⟩⟩, fun a ha => ?_⟩
        · rw [up2_row (by omega), up2_row (by omega), up2_row (by omega), up2_row (by omega), up2_row (by omega), up2_row (by omega), up2_row (by omega), up2_row (by omega), up2_row (by omega), up2_row (by omega), up2_row (by omega)]; exact hFr _ (by omega)
        · intro c hc; rw [up2_row (by omega), up2_row (by omega), up2_row (by omega), up2_row (by omega), up2_row (by omega), up2_row (by omega), up2_row (by omega), up2_row (by omega), up2_row (by omega), up2_row (by omega), up2_row (by omega)]; exact ⟨(hA c hc).1, fstF_lt (hgv c hc).2⟩
        · intro c hc; rw [up2_row (by omega), up2_row (by omega), up2_row (by omega), up2_row (by omega), up2_row (by omega), up2_row (by omega), up2_row (by omega), up2_row (by omega), up2_row (by omega), up2_row (by omega), up2_row (by omega)]; exact ⟨(hA c hc).2.1, fstF_lt (hgv c hc).2⟩
        · intro c hc; rw [up2_row (by omega), up2_row (by omega), up2_row (by omega), up2_row (by omega), up2_row (by omega), up2_row (by omega), up2_row (by omega), up2_row (by omega), up2_row (by omega), up2_row (by omega), up2_row (by omega)]; exact ⟨(hA c hc).2.2, fstF_lt (hgv c hc).2⟩
        · first | (rw [up2_ne (Or.inr (by decide)), up2_ne (Or.inr (by decide)), up2_ne (Or.inr (by decide)), up2_ne (Or.inr (by decide)), up2_ne (Or.inr (by decide)), up2_ne (Or.inr (by decide)), up2_ne (Or.inr (by decide)), up2_ne (Or.inr (by decide)), up2_ne (Or.inr (by decide)), up2_ne (Or.inr (by decide)), up2_at]; done) | (rw [up2_ne (Or.inr (by decide)), up2_ne (Or.inr (by decide)), up2_ne (Or.inr (by decide)), up2_ne (Or.inr (by decide)), up2_ne (Or.inr (by decide)), up2_ne (Or.inr (by decide)), up2_ne (Or.inr (by decide)), up2_ne (Or.inr (by decide)), up2_ne (Or.inr (by decide)), up2_ne (Or.inr (by decide)), up2_at]; rfl)
        · first | (rw [up2_ne (Or.inr (by decide)), up2_ne (Or.inr (by decide)), up2_ne (Or.inr (by decide)), up2_ne (Or.inr (by decide)), up2_ne (Or.inr (by decide)), up2_ne (Or.inr (by decide)), up2_ne (Or.inr (by decide)), up2_ne (Or.inr (by decide)), up2_ne (Or.inr (by decide)), up2_at]; done) | (rw [up2_ne (Or.inr (by decide)), up2_ne (Or.inr (by decide)), up2_ne (Or.inr (by decide)), up2_ne (Or.inr (by decide)), up2_ne (Or.inr (by decide)), up2_ne (Or.inr (by decide)), up2_ne (Or.inr (by decide)), up2_ne (Or.inr (by decide)), up2_ne (Or.inr (by decide)), up2_at]; rfl)
        · first | (rw [up2_ne (Or.inr (by decide)), up2_ne (Or.inr (by decide)), up2_ne (Or.inr (by decide)), up2_ne (Or.inr (by decide)), up2_ne (Or.inr (by decide)), up2_ne (Or.inr (by decide)), up2_ne (Or.inr (by decide)), up2_ne (Or.inr (by decide)), up2_at]; done) | (rw [up2_ne (Or.inr (by decide)), up2_ne (Or.inr (by decide)), up2_ne (Or.inr (by decide)), up2_ne (Or.inr (by decide)), up2_ne (Or.inr (by decide)), up2_ne (Or.inr (by decide)), up2_ne (Or.inr (by decide)), up2_ne (Or.inr (by decide)), up2_at]; rfl)
        · first | (rw [up2_ne (Or.inr (by decide)), up2_ne (Or.inr (by decide)), up2_ne (Or.inr (by decide)), up2_ne (Or.inr (by decide)), up2_ne (Or.inr (by decide)), up2_ne (Or.inr (by decide)), up2_ne (Or.inr (by decide)), up2_at]; done) | (rw [up2_ne (Or.inr (by decide)), up2_ne (Or.inr (by decide)), up2_ne (Or.inr (by decide)), up2_ne (Or.inr (by decide)), up2_ne (Or.inr (by decide)), up2_ne (Or.inr (by decide)), up2_ne (Or.inr (by decide)), up2_at]; rfl)
        · first | (rw [up2_ne (Or.inr (by decide)), up2_ne (Or.inr (by decide)), up2_ne (Or.inr (by decide)), up2_ne (Or.inr (by decide)), up2_ne (Or.inr (by decide)), up2_ne (Or.inr (by decide)), up2_at]; done) | (rw [up2_ne (Or.inr (by decide)), up2_ne (Or.inr (by decide)), up2_ne (Or.inr (by decide)), up2_ne (Or.inr (by decide)), up2_ne (Or.inr (by decide)), up2_ne (Or.inr (by decide)), up2_at]; rfl)
        · first | (rw [up2_ne (Or.inr (by decide)), up2_ne (Or.inr (by decide)), up2_ne (Or.inr (by decide)), up2_ne (Or.inr (by decide)), up2_ne (Or.inr (by decide)), up2_at]; done) | (rw [up2_ne (Or.inr (by decide)), up2_ne (Or.inr (by decide)), up2_ne (Or.inr (by decide)), up2_ne (Or.inr (by decide)), up2_ne (Or.inr (by decide)), up2_at]; rfl)
        · first | (rw [up2_ne (Or.inr (by decide)), up2_ne (Or.inr (by decide)), up2_at]; done) | (rw [up2_ne (Or.inr (by decide)), up2_ne (Or.inr (by decide)), up2_at]; rfl)
        · first | (rw [up2_ne (Or.inr (by decide)), up2_at]; done) | (rw [up2_ne (Or.inr (by decide)), up2_at]; rfl)
        · first | (rw [up2_ne (Or.inr (by decide)), up2_ne (Or.inr (by decide)), up2_ne (Or.inr (by decide)), up2_at]; done) | (rw [up2_ne (Or.inr (by decide)), up2_ne (Or.inr (by decide)), up2_ne (Or.inr (by decide)), up2_at]; rfl)
        · first | (rw [up2_at]; done) | (rw [up2_at]; rfl)
        · first | (rw [up2_ne (Or.inr (by decide)), up2_ne (Or.inr (by decide)), up2_ne (Or.inr (by decide)), up2_ne (Or.inr (by decide)), up2_at]; done) | (rw [up2_ne (Or.inr (by decide)), up2_ne (Or.inr (by decide)), up2_ne (Or.inr (by decide)), up2_ne (Or.inr (by decide)), up2_at]; rfl)
        · rw [up2_row (by omega), up2_row (by omega), up2_row (by omega), up2_row (by omega), up2_row (by omega), up2_row (by omega), up2_row (by omega), up2_row (by omega), up2_row (by omega), up2_row (by omega), up2_row (by omega)]; exact hFr a (by omega)
      · have c_5 := of_decide_eq_false c_5
        have hg9 := (hgv k (by omega)).2
        have hflt := fstF_lt hg9
        have hpw : 2 ^ (gv k - 1) ≤ 2 ^ 8 := Nat.pow_le_pow_right (by decide) (by omega)
        refine wq_s 9 rfl ?_
        refine wq_getR 12 rfl rfl hG.ob hG.2.2.1 rfl ?_
        refine wq_s 13 rfl ?_
        refine wq_s 14 rfl ?_
        refine wq_getR 17 rfl rfl hG.ob hG.2.2.1 rfl ?_
        refine wq_s 18 rfl ?_
        refine wq_iald (v := ((gv k : Nat) : Int)) 19 rfl rfl hG.a_given.1.2 hG.a_given.2 (by omega) (by omega) (by omega) (by rw [hFr _ (by omega)]; exact (hgv k (by omega)).1) ?_
        refine wq_if 28 rfl rfl (by omega) (fun c_19 => ?_) (fun c_19 => ?_)
        · have c_19 := of_decide_eq_true c_19
          refine wq_s 29 rfl ?_
          refine wq_s 30 rfl ?_
          refine wq_getR 33 rfl rfl hG.ob hG.2.2.1 rfl ?_
          refine wq_s 34 rfl ?_
          refine wq_iald (v := ((gv k : Nat) : Int)) 35 rfl rfl hG.a_given.1.2 hG.a_given.2 (by omega) (by omega) (by omega) (by rw [hFr _ (by omega)]; exact (hgv k (by omega)).1) ?_
          refine wq_s 36 rfl ?_
          refine we_sub ((gv k - 1 : Nat) : Int) 37 rfl rfl (by omega) (by omega) ?_
          refine we_shl 1 (gv k - 1) (fstF gv k) 38 rfl rfl rfl rfl (by omega) (by rw [Nat.one_mul]; exact (if_neg (by omega)).symm) (by omega) ?_
          refine wq_iast 39 rfl rfl hG.a_first.1 hG.a_first.2 (by omega) (by omega) (by omega) ?_
          refine wq_s 40 rfl ?_
          refine wq_getR 43 rfl rfl hG.ob hG.2.2.1 rfl ?_
          refine wq_s 44 rfl ?_
          refine wq_s 45 rfl ?_
          refine wq_getR 48 rfl rfl hG.ob hG.2.2.1 rfl ?_
          refine wq_s 49 rfl ?_
          refine wq_iald (v := ((fstF gv k : Nat) : Int)) 50 rfl rfl hG.a_first.1.2 hG.a_first.2 (by omega) (by omega) (by omega) up2_at ?_
          refine wq_iast 51 rfl rfl hG.a_now.1 hG.a_now.2 (by omega) (by omega) (by omega) ?_
          refine wq_s 52 rfl ?_
          refine wq_getR 55 rfl rfl hG.ob hG.2.2.1 rfl ?_
          refine wq_s 56 rfl ?_
          refine wq_s 57 rfl ?_
          refine wq_getR 60 rfl rfl hG.ob hG.2.2.1 rfl ?_
          refine wq_s 61 rfl ?_
          refine wq_iald (v := ((fstF gv k : Nat) : Int)) 62 rfl rfl hG.a_first.1.2 hG.a_first.2 (by omega) (by omega) (by omega) (by rw [up2_row (by omega)]; exact up2_at) ?_
          refine wq_iast 63 rfl rfl hG.a_checker.1 hG.a_checker.2 (by omega) (by omega) (by omega) ?_
          refine we_inc 1 1 ((k + 1 : Nat) : Int) 66 _ rfl rfl rfl (by omega) (by omega) rfl ?_
          refine wq_s 2 rfl ?_
          refine ih_k (k + 1) _ (by omega) (by omega) ?_ ?_
          · intro c hc
            by_cases hck : c = k
            · subst hck
              exact ⟨by rw [up2_row (by omega), up2_row (by omega), up2_at], by rw [up2_row (by omega), up2_at], up2_at⟩
            · have h9 := hA c (by omega)
              exact ⟨by rw [up2_row (by omega), up2_row (by omega), up2_ne (Or.inr (by omega))]; exact h9.1, by rw [up2_row (by omega), up2_ne (Or.inr (by omega)), up2_row (by omega)]; exact h9.2.1, by rw [up2_ne (Or.inr (by omega)), up2_row (by omega), up2_row (by omega)]; exact h9.2.2⟩
          · intro a ha
            rw [up2_row (by omega), up2_row (by omega), up2_row (by omega)]
            exact hFr a ha
        · have c_19 := of_decide_eq_false c_19
          refine wq_s 25 rfl ?_
          rw [show (511 : Int) = ((fstF gv k : Nat) : Int) from (by rw [show fstF gv k = 511 from if_pos (by omega)]; rfl)]
          refine wq_s 38 rfl ?_
          refine wq_iast 39 rfl rfl hG.a_first.1 hG.a_first.2 (by omega) (by omega) (by omega) ?_
          refine wq_s 40 rfl ?_
          refine wq_getR 43 rfl rfl hG.ob hG.2.2.1 rfl ?_
          refine wq_s 44 rfl ?_
          refine wq_s 45 rfl ?_
          refine wq_getR 48 rfl rfl hG.ob hG.2.2.1 rfl ?_
          refine wq_s 49 rfl ?_
          refine wq_iald (v := ((fstF gv k : Nat) : Int)) 50 rfl rfl hG.a_first.1.2 hG.a_first.2 (by omega) (by omega) (by omega) up2_at ?_
          refine wq_iast 51 rfl rfl hG.a_now.1 hG.a_now.2 (by omega) (by omega) (by omega) ?_
          refine wq_s 52 rfl ?_
          refine wq_getR 55 rfl rfl hG.ob hG.2.2.1 rfl ?_
          refine wq_s 56 rfl ?_
          refine wq_s 57 rfl ?_
          refine wq_getR 60 rfl rfl hG.ob hG.2.2.1 rfl ?_
          refine wq_s 61 rfl ?_
          refine wq_iald (v := ((fstF gv k : Nat) : Int)) 62 rfl rfl hG.a_first.1.2 hG.a_first.2 (by omega) (by omega) (by omega) (by rw [up2_row (by omega)]; exact up2_at) ?_
          refine wq_iast 63 rfl rfl hG.a_checker.1 hG.a_checker.2 (by omega) (by omega) (by omega) ?_
          refine we_inc 1 1 ((k + 1 : Nat) : Int) 66 _ rfl rfl rfl (by omega) (by omega) rfl ?_
          refine wq_s 2 rfl ?_
          refine ih_k (k + 1) _ (by omega) (by omega) ?_ ?_
          · intro c hc
            by_cases hck : c = k
            · subst hck
              exact ⟨by rw [up2_row (by omega), up2_row (by omega), up2_at], by rw [up2_row (by omega), up2_at], up2_at⟩
            · have h9 := hA c (by omega)
              exact ⟨by rw [up2_row (by omega), up2_row (by omega), up2_ne (Or.inr (by omega))]; exact h9.1, by rw [up2_row (by omega), up2_ne (Or.inr (by omega)), up2_row (by omega)]; exact h9.2.1, by rw [up2_ne (Or.inr (by omega)), up2_row (by omega), up2_row (by omega)]; exact h9.2.2⟩
          · intro a ha
            rw [up2_row (by omega), up2_row (by omega), up2_row (by omega)]
            exact hFr a ha
  refine wq_s 1 rfl ?_
  refine wq_s 2 rfl ?_
  exact L_2 82 0 M (by omega) (by omega) (fun c hc => absurd hc (Nat.not_lt_zero _)) (fun _ _ => rfl)
def gvU (gv : Nat → Nat) (c v : Nat) : Nat → Nat := fun x => if x = c then v else gv x
def gvR (gv : Nat → Nat) (r v : Nat) : Nat → Nat := fun x => if x / 9 = r then v / 10 ^ (8 - x % 9) % 10 else gv x
theorem c_X9_give {d : Nat} {G : GT} {M : MT} {o : Nat} {gv X C : Nat → Nat} {T : List GSt} {en : Nat} {nd : List Nat} {S : SrS} (hG : RefG G o) (hS : RefSt M o gv X C T en nd S) (hO : AbOk X C T en S) {c v : Int} (hc : R32 c) (hv : R32 v) : Mq (d + 1) k_X9_give [vR o, vI c, vI v] G M (fun z M' => (z = some (vI 1) ∧ ((0 ≤ c ∧ c ≤ 80) ∧ 0 ≤ v ∧ v ≤ 9) ∧ RefSt M' o (gvU gv c.toNat v.toNat) (fstF (gvU gv c.toNat v.toNat)) (fstF (gvU gv c.toNat v.toNat)) [] 0 [] (0, 0, 0, 0, 0, S.2.2.2.2.2.1, S.2.2.2.2.2.2) ∧ FrO M M' o) ∨ (z = some (vI 0) ∧ ¬ ((0 ≤ c ∧ c ≤ 80) ∧ 0 ≤ v ∧ v ≤ 9) ∧ M' = M)) := by
  refine wq_s 1 rfl ?_
  refine wq_s 2 rfl ?_
  refine wq_s 4 rfl ?_
  refine wq_st3 7 rfl rfl (by decide) (Nat.le_of_ble_eq_true rfl) rfl (Nat.le_of_ble_eq_true rfl) (c_X9_in (by omega) (by omega) (by omega)) (fun r M1 hr => ?_)
  obtain ⟨rfl, hM1⟩ := hr
  subst M1
  dsimp only [Option.toList, List.cons_append, List.nil_append]
  refine wq_if 20 rfl rfl iteR (fun c_7 => ?_) (fun c_7 => ?_)
  · have c_7 := of_decide_eq_true c_7
    have c_7 := ite0.mp c_7
    refine wq_s 21 rfl ?_
    exact wq_ret rfl (Or.inr ⟨rfl, fun z => c_7 z.1, rfl⟩)
  · have c_7 := of_decide_eq_false c_7
    have c_7 := ite1.mp c_7
    refine wq_s 11 rfl ?_
    refine wq_s 12 rfl ?_
    refine wq_s 14 rfl ?_
    refine wq_st3 17 rfl rfl (by decide) (Nat.le_of_ble_eq_true rfl) rfl (Nat.le_of_ble_eq_true rfl) (c_X9_in (by omega) (by omega) (by omega)) (fun r M1 hr => ?_)
    obtain ⟨rfl, hM1⟩ := hr
    subst M1
    dsimp only [Option.toList, List.cons_append, List.nil_append]
    refine wq_if 22 rfl rfl iteR (fun c_17 => ?_) (fun c_17 => ?_)
    · have c_17 := of_decide_eq_true c_17
      have c_17 := ite1.mp c_17
      refine wq_s 23 rfl ?_
      refine wq_getR 26 rfl rfl hG.ob hG.2.2.1 rfl ?_
      refine wq_s 27 rfl ?_
      refine wq_s 28 rfl ?_
      refine wq_iast 29 rfl rfl hG.a_given.1 hG.a_given.2 (by omega) (by omega) (by omega) ?_
      have hgv : GvAt (up2 M (o + 1) c v) (o + 1) (gvU gv c.toNat v.toNat) := fun x hx => by
        unfold gvU
        by_cases hxc : x = c.toNat
        · rw [if_pos hxc, up2_eq rfl (by omega)]
          omega
        · rw [if_neg hxc, up2_ne (Or.inr (by omega))]
          exact hS.1 x hx
      refine wq_s 30 rfl ?_
      refine wq_vt0 33 rfl rfl (Nat.le_of_ble_eq_true rfl) hG.ob hG.2.2.1 rfl (Nat.le_of_ble_eq_true rfl) (c_X9_begin (gv := gvU gv c.toNat v.toNat) (F := S.2.2.2.2.2.1) (Sv := S.2.2.2.2.2.2) hG hgv) (fun z M3 hz => ?_)
      obtain ⟨rfl, hS3, hF3⟩ := hz
      dsimp only [Option.toList, List.cons_append, List.nil_append]
      refine wq_s 34 rfl ?_
      exact wq_ret rfl (Or.inl ⟨rfl, ⟨c_7, c_17⟩, hS3, fun a ha => (hF3 a ha).trans (up2_row (by omega))⟩)
    · have c_17 := of_decide_eq_false c_17
      have c_17 := iteN.mp c_17
      refine wq_s 21 rfl ?_
      exact wq_ret rfl (Or.inr ⟨rfl, fun z => c_17 z.2, rfl⟩)
theorem c_X9_row {d : Nat} {G : GT} {M : MT} {o : Nat} {gv X C : Nat → Nat} {T : List GSt} {en : Nat} {nd : List Nat} {S : SrS} (hG : RefG G o) (hS : RefSt M o gv X C T en nd S) (hO : AbOk X C T en S) {r v : Int} (hr : R32 r) (hv : R32 v) : Mq (d + 1) k_X9_row [vR o, vI r, vI v] G M (fun z M' => (z = some (vI 1) ∧ ((0 ≤ r ∧ r ≤ 8) ∧ 0 ≤ v ∧ v ≤ 999999999) ∧ RefSt M' o (gvR gv r.toNat v.toNat) (fstF (gvR gv r.toNat v.toNat)) (fstF (gvR gv r.toNat v.toNat)) [] 0 [] (0, 0, 0, 0, 0, S.2.2.2.2.2.1, S.2.2.2.2.2.2) ∧ FrO M M' o) ∨ (z = some (vI 0) ∧ ¬ ((0 ≤ r ∧ r ≤ 8) ∧ 0 ≤ v ∧ v ≤ 999999999) ∧ M' = M)) := by
  refine wq_s 1 rfl ?_
  refine wq_s 2 rfl ?_
  refine wq_s 4 rfl ?_
  refine wq_st3 7 rfl rfl (by decide) (Nat.le_of_ble_eq_true rfl) rfl (Nat.le_of_ble_eq_true rfl) (c_X9_in (by omega) (by omega) (by omega)) (fun r M1 hr => ?_)
  obtain ⟨rfl, hM1⟩ := hr
  subst M1
  dsimp only [Option.toList, List.cons_append, List.nil_append]
  refine wq_if 20 rfl rfl iteR (fun c_7 => ?_) (fun c_7 => ?_)
  · have c_7 := of_decide_eq_true c_7
    have c_7 := ite0.mp c_7
    refine wq_s 21 rfl ?_
    exact wq_ret rfl (Or.inr ⟨rfl, fun z => c_7 z.1, rfl⟩)
  · have c_7 := of_decide_eq_false c_7
    have c_7 := ite1.mp c_7
    refine wq_s 11 rfl ?_
    refine wq_s 12 rfl ?_
    refine wq_s 14 rfl ?_
    refine wq_st3 17 rfl rfl (by decide) (Nat.le_of_ble_eq_true rfl) rfl (Nat.le_of_ble_eq_true rfl) (c_X9_in (by omega) (by omega) (by omega)) (fun r M1 hr => ?_)
    obtain ⟨rfl, hM1⟩ := hr
    subst M1
    dsimp only [Option.toList, List.cons_append, List.nil_append]
    refine wq_if 22 rfl rfl iteR (fun c_17 => ?_) (fun c_17 => ?_)
    · have c_17 := of_decide_eq_true c_17
      have c_17 := ite1.mp c_17
      obtain ⟨n, e_n⟩ := Int.eq_ofNat_of_zero_le c_7.1
      subst e_n
      obtain ⟨w, e_w⟩ := Int.eq_ofNat_of_zero_le c_17.1
      subst e_w
      have L_28 : ∀ (f j : Nat) (M2 : MT), 9 - j < f → j ≤ 9 → (∀ s, s < j → M2 (o + 1) ((9 * n + (8 - s) : Nat) : Int) = ((w / 10 ^ s % 10 : Nat) : Int)) → (∀ (a : Nat) (i : Int), (a ≠ o + 1 ∨ i < 9 * n ∨ 9 * (n : Int) + 8 < i) → M2 a i = M a i) → Wq (d + 1) k_X9_row 28 [some (vR o), some (vI ((n : Nat) : Int)), some (vI ((w : Nat) : Int)), some (vI ((w / 10 ^ j : Nat) : Int)), some (vI (8 - ((j : Nat) : Int)))] [] G M2 (fun z M' => (z = some (vI 1) ∧ ((0 ≤ (n : Int) ∧ (n : Int) ≤ 8) ∧ 0 ≤ (w : Int) ∧ (w : Int) ≤ 999999999) ∧ RefSt M' o (gvR gv ((n : Nat) : Int).toNat ((w : Nat) : Int).toNat) (fstF (gvR gv ((n : Nat) : Int).toNat ((w : Nat) : Int).toNat)) (fstF (gvR gv ((n : Nat) : Int).toNat ((w : Nat) : Int).toNat)) [] 0 [] (0, 0, 0, 0, 0, S.2.2.2.2.2.1, S.2.2.2.2.2.2) ∧ FrO M M' o) ∨ (z = some (vI 0) ∧ ¬ ((0 ≤ (n : Int) ∧ (n : Int) ≤ 8) ∧ 0 ≤ (w : Int) ∧ (w : Int) ≤ 999999999) ∧ M' = M)) := by
        intro f
        induction f with
        | zero => intro j M2 h; exact absurd h (by omega)
        | succ f ih_j =>
          intro j M2 hf_j hk_j hA hFr
          refine wq_s 30 rfl ?_
          refine wq_if 60 rfl rfl (by omega) (fun c_30 => ?_) (fun c_30 => ?_)
          · have c_30 := of_decide_eq_true c_30
            have e9 : j = 9 := by omega
            subst e9
            refine wq_s 61 rfl ?_
            have hgv : GvAt M2 (o + 1) (gvR gv n w) := fun x hx => by
              unfold gvR
              by_cases hxn : x / 9 = n
              · rw [if_pos hxn]
                have h9 := hA (8 - x % 9) (by omega)
                rw [show 9 * n + (8 - (8 - x % 9)) = x by omega] at h9
                exact ⟨h9, by omega⟩
              · rw [if_neg hxn, hFr (o + 1) (x : Int) (by omega)]
                exact hS.1 x hx
            refine wq_vt0 64 rfl rfl (Nat.le_of_ble_eq_true rfl) hG.ob hG.2.2.1 rfl (Nat.le_of_ble_eq_true rfl) (c_X9_begin (gv := gvR gv n w) (F := S.2.2.2.2.2.1) (Sv := S.2.2.2.2.2.2) hG hgv) (fun z M3 hz => ?_)
            obtain ⟨rfl, hS3, hF3⟩ := hz
            dsimp only [Option.toList, List.cons_append, List.nil_append]
            refine wq_s 65 rfl ?_
            exact wq_ret rfl (Or.inl ⟨rfl, ⟨c_7, c_17⟩, hS3, fun a ha => (hF3 a ha).trans (funext fun i => hFr a i (Or.inl (by omega)))⟩)
          · have c_30 := of_decide_eq_false c_30
            have hdl2 : w / 10 ^ j < 2147483648 := Nat.lt_of_le_of_lt (Nat.div_le_self _ _) (show w < 2147483648 by omega)
            have hdl3 : ((w / 10 ^ j : Nat) : Int) < ((2147483648 : Nat) : Int) := Int.ofNat_lt.2 hdl2
            refine wq_s 34 rfl ?_
            refine wq_getR 37 rfl rfl hG.ob hG.2.2.1 rfl ?_
            refine wq_s 39 rfl ?_
            refine wq_s 40 rfl ?_
            refine we_mul ((9 * n : Nat) : Int) 41 rfl rfl (by omega) (by omega) ?_
            refine wq_s 43 rfl ?_
            refine we_add ((9 * n + (8 - j) : Nat) : Int) 44 rfl rfl (by omega) (by omega) ?_
            refine wq_s 45 rfl ?_
            refine wq_s 47 rfl ?_
            refine we_rem ((w / 10 ^ j % 10 : Nat) : Int) 48 rfl rfl ⟨Int.natCast_nonneg _, hdl3⟩ (by decide) rfl ?_
            refine wq_iast 49 rfl rfl hG.a_given.1 hG.a_given.2 (by omega) (by omega) (by omega) ?_
            refine wq_s 50 rfl ?_
            refine wq_s 52 rfl ?_
            refine we_div ((w / 10 ^ (j + 1) : Nat) : Int) 53 rfl rfl ⟨Int.natCast_nonneg _, hdl3⟩ (by decide) (by rw [Nat.pow_succ, ← Nat.div_div_eq_div_mul]; rfl) ?_
            refine wq_s 54 rfl ?_
            refine we_inc 4 (-1) (8 - ((j + 1 : Nat) : Int)) 57 _ rfl rfl rfl (by omega) (by omega) rfl ?_
            refine wq_s 28 rfl ?_
            refine ih_j (j + 1) _ (by omega) (by omega) ?_ ?_
            · intro s hs
              by_cases hsj : s = j
              · subst hsj
                exact up2_eq rfl (by omega)
              · exact (up2_ne (Or.inr (by omega))).trans (hA s (by omega))
            · intro a i hai
              exact (up2_ne (by omega)).trans (hFr a i hai)
      refine wq_s 23 rfl ?_
      refine wq_s 24 rfl ?_
      refine wq_s 26 rfl ?_
      refine wq_s 28 rfl ?_
      have h9 := L_28 10 0 M (by omega) (by omega) (fun s hs => absurd hs (Nat.not_lt_zero _)) (fun _ _ _ => rfl)
      rw [Nat.pow_zero, Nat.div_one] at h9
      exact h9
    · have c_17 := of_decide_eq_false c_17
      have c_17 := iteN.mp c_17
      refine wq_s 21 rfl ?_
      exact wq_ret rfl (Or.inr ⟨rfl, fun z => c_17 z.2, rfl⟩)
theorem c_X9_node {d : Nat} {G : GT} {M : MT} {o : Nat} {gv X C : Nat → Nat} {T : List GSt} {en : Nat} {nd : List Nat} {S : SrS} (hG : RefG G o) (hS : RefSt M o gv X C T en nd S) (hO : AbOk X C T en S) {n : Int} (hn : R32 n) : Mq (d + 1) k_X9_node [vR o, vI n] G M (fun z M' => (z = some (vI ((nd.length + 1 : Nat) : Int)) ∧ ((0 ≤ n ∧ n ≤ 728) ∧ nd.length ≠ 24) ∧ RefSt M' o gv X C T en (nd ++ [n.toNat]) S ∧ FrO M M' o) ∨ (z = some (vI (-1)) ∧ ¬ ((0 ≤ n ∧ n ≤ 728) ∧ nd.length ≠ 24) ∧ M' = M)) := by
  obtain ⟨s1, s2, s3, s4, s5, s6, s7, s8⟩ := id hS
  have hl := s7.2.1
  refine wq_s 1 rfl ?_
  refine wq_s 2 rfl ?_
  refine wq_s 5 rfl ?_
  refine wq_st3 8 rfl rfl (by decide) (Nat.le_of_ble_eq_true rfl) rfl (Nat.le_of_ble_eq_true rfl) (c_X9_in (by omega) (by omega) (by omega)) (fun r M1 hr => ?_)
  obtain ⟨rfl, hM1⟩ := hr
  subst M1
  dsimp only [Option.toList, List.cons_append, List.nil_append]
  refine wq_if 20 rfl rfl iteR (fun c_8 => ?_) (fun c_8 => ?_)
  · have c_8 := of_decide_eq_true c_8
    have c_8 := ite0.mp c_8
    refine wq_s 21 rfl ?_
    exact wq_ret rfl (Or.inr ⟨rfl, fun z => c_8 z.1, rfl⟩)
  · have c_8 := of_decide_eq_false c_8
    have c_8 := ite1.mp c_8
    refine wq_s 12 rfl ?_
    refine wq_getE (v := ((nd.length : Nat) : Int)) 31 15 rfl rfl hG.ob hG.2.2.1 rfl rfl s7.1 ?_
    refine wq_s 17 rfl ?_
    refine wq_icmp 22 rfl rfl (by omega) (by omega) (fun c_17 => ?_) (fun c_17 => ?_)
    · have c_17 := of_decide_eq_true c_17
      refine wq_s 23 rfl ?_
      refine wq_getR 26 rfl rfl hG.ob hG.2.2.1 rfl ?_
      refine wq_s 27 rfl ?_
      refine wq_getE (v := ((nd.length : Nat) : Int)) 31 30 rfl rfl hG.ob hG.2.2.1 rfl rfl s7.1 ?_
      refine wq_s 31 rfl ?_
      refine wq_iast 32 rfl rfl hG.a_nodes.1 hG.a_nodes.2 (by omega) (by omega) (by omega) ?_
      refine wq_s 33 rfl ?_
      refine wq_s 34 rfl ?_
      refine wq_getE (v := ((nd.length : Nat) : Int)) 31 37 rfl rfl hG.ob hG.2.2.1 rfl rfl ((up2_ne (Or.inl (by omega))).trans s7.1) ?_
      refine wq_s 38 rfl ?_
      refine we_add ((nd.length + 1 : Nat) : Int) 39 rfl rfl (by omega) (by omega) ?_
      refine wq_putE 31 42 rfl rfl hG.ob hG.2.2.1 rfl (by decide) (Or.inl rfl) rfl ?_
      refine wq_s 43 rfl ?_
      refine wq_getE (v := ((nd.length + 1 : Nat) : Int)) 31 46 rfl rfl hG.ob hG.2.2.1 rfl rfl up2_at ?_
      exact wq_ret rfl (Or.inl ⟨rfl, ⟨c_8, by omega⟩, ⟨s1.fr (by rw [up2_row (by omega), up2_row (by omega)]), s2.fr (by rw [up2_row (by omega), up2_row (by omega)]), s3.fr (by rw [up2_row (by omega), up2_row (by omega)]), s4.fr (by rw [up2_row (by omega), up2_row (by omega)]), s5.fr (fun i i1 i2 => by rw [up2_ne (Or.inr (by omega)), up2_ne (Or.inl (by omega))]) (fun a a1 a2 => by rw [up2_row (by omega), up2_row (by omega)]), (by rw [up2_ne (Or.inr (by decide)), up2_ne (Or.inl (by omega))]; exact s6), ⟨(by rw [up2_at, List.length_append]; rfl), (by rw [List.length_append]; show nd.length + 1 ≤ 24; omega), fun k hk => (by
          rw [List.length_append] at hk
          have hk : k < nd.length + 1 := hk
          rw [up2_row (by omega)]
          by_cases hk2 : k < nd.length
          · rw [getD_app1 hk2, up2_ne (Or.inr (by omega))]
            exact s7.2.2 k hk2
          · have e : k = nd.length := by omega
            rw [e, getD_app2, up2_at]
            omega)⟩, s8.fr (fun i i1 i2 => by rw [up2_ne (Or.inr (by omega)), up2_ne (Or.inl (by omega))]) (fun a a1 a2 => by rw [up2_row (by omega), up2_row (by omega)]) (by rw [up2_row (by omega), up2_row (by omega)])⟩, fun a ha => by rw [up2_row (by omega), up2_row (by omega)]⟩)
    · have c_17 := of_decide_eq_false c_17
      refine wq_s 21 rfl ?_
      exact wq_ret rfl (Or.inr ⟨rfl, fun z => z.2 (by omega), rfl⟩)
noncomputable def clN (C : Nat → Nat) (nd : List Nat) (r p v : Int) : Nat := if r = 13 then byN C (fun k => nd.getD k 0) nd.length else insN C r p v
noncomputable def clY (C : Nat → Nat) (nd : List Nat) (r p v : Int) : Nat → Nat := if r = 13 then byY C (fun k => nd.getD k 0) nd.length else insY C r p v
theorem byN_le (X rv : Nat → Nat) (w : Nat) : byN X rv w ≤ 729 := sumN_le (B := 9) (fun c => pop9_le _) 81
theorem c_X9_claim {d : Nat} {G : GT} {M : MT} {o : Nat} {gv X C : Nat → Nat} {T : List GSt} {en : Nat} {nd : List Nat} {S : SrS} (hG : RefG G o) (hS : RefSt M o gv X C T en nd S) (hO : AbOk X C T en S) {r p v : Int} (hr : R32 r) (hp : R32 p) (hv : R32 v) : Mq (d + 5) k_X9_claim [vR o, vI r, vI p, vI v] G M (fun z M' => ((z = some (vI ((clN C nd r p v : Nat) : Int)) ∧ 0 < clN C nd r p v ∧ RefSt M' o gv X (fun c => andN (C c) (clY C nd r p v c)) T en (if r = 13 then [] else nd) S) ∨ (z = some (vI (-1)) ∧ clN C nd r p v = 0 ∧ RefSt M' o gv X C T en (if r = 13 then [] else nd) S)) ∧ FrO M M' o) := by
  obtain ⟨s1, s2, s3, s4, s5, s6, s7, s8⟩ := id hS
  have hl := s7.2.1
  refine wq_s 1 rfl ?_
  refine wq_s 3 rfl ?_
  refine wq_icmp 33 rfl rfl (by omega) (by omega) (fun c_3 => ?_) (fun c_3 => ?_)
  · have c_3 := of_decide_eq_true c_3
    refine wq_s 34 rfl ?_
    refine wq_s 35 rfl ?_
    refine wq_getR 38 rfl rfl hG.ob hG.2.2.1 rfl ?_
    refine wq_s 39 rfl ?_
    refine wq_s 40 rfl ?_
    refine wq_s 41 rfl ?_
    refine wq_vt4 44 rfl rfl (Nat.le_of_ble_eq_true rfl) hG.ob hG.2.2.1 rfl (Nat.le_of_ble_eq_true rfl) (c_X9_instance (X := C) hG hG.a_checker.1.2 hG.a_checker.2 (by omega) s4 hr hp hv) (fun z M3 hz => ?_)
    obtain ⟨rfl, hY, hF⟩ := hz
    dsimp only [Option.toList, List.cons_append, List.nil_append]
    have hnn : clN C nd r p v = insN C r p v := if_neg (by omega)
    have hyy : clY C nd r p v = insY C r p v := if_neg (by omega)
    have hle := insN_le C r p v
    have hnd : (if r = 13 then [] else nd) = nd := if_neg (by omega)
    rw [← hnn] at hle ⊢
    rw [← hyy] at hY
    have hS4 : RefSt M3 o gv X C T en (if r = 13 then [] else nd) S := by
      rw [hnd]
      exact hS.fr (fun i i1 i2 => by rw [hF _ (by omega)]) (fun a a1 a2 => hF a (by omega))
    have hF4 : ∀ a, a ≠ o → a ≠ o + 5 → M3 a = M a := fun a h1 h2 => hF a h2
    have hY4 : AtB M3 (o + 5) (clY C nd r p v) := hY
    refine wq_s 46 rfl ?_
    refine wq_s 48 rfl ?_
    refine wq_if 53 rfl rfl (by omega) (fun c_48 => ?_) (fun c_48 => ?_)
    · have c_48 := of_decide_eq_true c_48
      refine wq_s 54 rfl ?_
      refine wq_s 55 rfl ?_
      refine wq_getR 58 rfl rfl hG.ob hG.2.2.1 rfl ?_
      refine wq_vt1 61 rfl rfl (Nat.le_of_ble_eq_true rfl) hG.ob hG.2.2.1 rfl (Nat.le_of_ble_eq_true rfl) (c_X9_goes (X := C) (Y := clY C nd r p v) hG hG.a_checker.1 hG.a_checker.2 (by omega) hS4.2.2.2.1 hY4) (fun z M5 hz => ?_)
      obtain ⟨rfl, hM5⟩ := hz
      dsimp only [Option.toList, List.cons_append, List.nil_append]
      have hC5 : AtB M5 (o + 4) (fun c => andN (C c) (clY C nd r p v c)) := fun c hc => by
        rw [hM5, setA_lo (by omega) (by omega), Int.toNat_natCast]
        exact ⟨rfl, andN_lt (k := 9) (s4 c hc).2⟩
      have hF5 : ∀ a, a ≠ o + 4 → M5 a = M3 a := fun a ha => by rw [hM5, setA_ne ha]
      refine wq_s 63 rfl ?_
      exact wq_ret rfl ⟨Or.inl ⟨rfl, by omega, hS4.chk hC5 (fun i i1 i2 => by rw [hF5 o (by omega)]) (fun a a1 a2 => hF5 a (by omega))⟩, fun a ha => (hF5 a (by omega)).trans (hF4 a (by omega) (by omega))⟩
    · have c_48 := of_decide_eq_false c_48
      refine wq_s 52 rfl ?_
      exact wq_ret rfl ⟨Or.inr ⟨rfl, by omega, hS4⟩, fun a ha => hF4 a (by omega) (by omega)⟩
  · have c_3 := of_decide_eq_false c_3
    refine wq_s 7 rfl ?_
    refine wq_s 8 rfl ?_
    refine wq_getR 11 rfl rfl hG.ob hG.2.2.1 rfl ?_
    refine wq_s 12 rfl ?_
    refine wq_getR 15 rfl rfl hG.ob hG.2.2.1 rfl ?_
    refine wq_s 16 rfl ?_
    refine wq_s 17 rfl ?_
    refine wq_getE (v := ((nd.length : Nat) : Int)) 31 20 rfl rfl hG.ob hG.2.2.1 rfl rfl s7.1 ?_
    refine wq_vt4 23 rfl rfl (Nat.le_of_ble_eq_true rfl) hG.ob hG.2.2.1 rfl (Nat.le_of_ble_eq_true rfl) (c_X9_byRow (u := 0) (w := nd.length) (Nn := 24) (X := C) (rv := fun k => nd.getD k 0) hG hG.a_checker.1.2 hG.a_checker.2 (by omega) s4 ⟨hG.a_nodes.1.2, hG.a_nodes.2, by omega, by omega⟩ (by omega) (by omega) (fun s hs => by rw [Nat.zero_add]; exact s7.2.2 s hs)) (fun z M3 hz => ?_)
    obtain ⟨rfl, hY, hF⟩ := hz
    dsimp only [Option.toList, List.cons_append, List.nil_append]
    have hnn : clN C nd r p v = byN C (fun k => nd.getD k 0) nd.length := if_pos (by omega)
    have hyy : clY C nd r p v = byY C (fun k => nd.getD k 0) nd.length := if_pos (by omega)
    have hle := byN_le C (fun k => nd.getD k 0) nd.length
    have hnd : (if r = 13 then [] else nd) = [] := if_pos (by omega)
    rw [← hnn] at hle ⊢
    rw [← hyy] at hY
    have hS4 : RefSt (up2 M3 o 31 0) o gv X C T en (if r = 13 then [] else nd) S := by
      rw [hnd]
      exact (hS.fr (M' := M3) (fun i i1 i2 => by rw [hF _ (by omega)]) (fun a a1 a2 => hF a (by omega))).nod0
    have hF4 : ∀ a, a ≠ o → a ≠ o + 5 → up2 M3 o 31 0 a = M a := fun a h1 h2 => (up2_row h1).trans (hF a h2)
    have hY4 : AtB (up2 M3 o 31 0) (o + 5) (clY C nd r p v) := hY.fr (up2_row (by omega))
    refine wq_s 25 rfl ?_
    refine wq_s 26 rfl ?_
    refine wq_s 27 rfl ?_
    refine wq_putE 31 30 rfl rfl hG.ob hG.2.2.1 rfl (by decide) (Or.inl rfl) rfl ?_
    refine wq_s 46 rfl ?_
    refine wq_s 48 rfl ?_
    refine wq_if 53 rfl rfl (by omega) (fun c_48 => ?_) (fun c_48 => ?_)
    · have c_48 := of_decide_eq_true c_48
      refine wq_s 54 rfl ?_
      refine wq_s 55 rfl ?_
      refine wq_getR 58 rfl rfl hG.ob hG.2.2.1 rfl ?_
      refine wq_vt1 61 rfl rfl (Nat.le_of_ble_eq_true rfl) hG.ob hG.2.2.1 rfl (Nat.le_of_ble_eq_true rfl) (c_X9_goes (X := C) (Y := clY C nd r p v) hG hG.a_checker.1 hG.a_checker.2 (by omega) hS4.2.2.2.1 hY4) (fun z M5 hz => ?_)
      obtain ⟨rfl, hM5⟩ := hz
      dsimp only [Option.toList, List.cons_append, List.nil_append]
      have hC5 : AtB M5 (o + 4) (fun c => andN (C c) (clY C nd r p v c)) := fun c hc => by
        rw [hM5, setA_lo (by omega) (by omega), Int.toNat_natCast]
        exact ⟨rfl, andN_lt (k := 9) (s4 c hc).2⟩
      have hF5 : ∀ a, a ≠ o + 4 → M5 a = (up2 M3 o 31 0) a := fun a ha => by rw [hM5, setA_ne ha]
      refine wq_s 63 rfl ?_
      exact wq_ret rfl ⟨Or.inl ⟨rfl, by omega, hS4.chk hC5 (fun i i1 i2 => by rw [hF5 o (by omega)]) (fun a a1 a2 => hF5 a (by omega))⟩, fun a ha => (hF5 a (by omega)).trans (hF4 a (by omega) (by omega))⟩
    · have c_48 := of_decide_eq_false c_48
      refine wq_s 52 rfl ?_
      exact wq_ret rfl ⟨Or.inr ⟨rfl, by omega, hS4⟩, fun a ha => hF4 a (by omega) (by omega)⟩
