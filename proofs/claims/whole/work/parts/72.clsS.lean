/-! the trace's links -/
theorem cmp_lt1N {n : Nat} : ¬ cmpA .lt ((n + 1 : Nat) : Int) 1 = true := by
  unfold cmpA
  dsimp only
  rw [decide_eq_true_iff]
  omega
theorem c_X7_writeLinks {d : Nat} {G : GT} {M : MT} {T : List GSt} {r p q : Nat} {gl ls : List Nat} (hC : ClsG G) (hTr : ClsTr M (T ++ [(r, p, q, gl, [])])) (hl : T.length < 729) (hls : ls.length ≤ 24) (hlt : lTot T ≤ 24 * T.length) (hn : ∀ s, s < ls.length → M 35 (s : Int) = ((ls.getD s 0 : Nat) : Int)) : Mq d k_X7_writeLinks [vR 36, vR 35, vI (ls.length : Int)] G M (fun z M' => z = none ∧ ClsTr M' (T ++ [(r, p, q, gl, ls)]) ∧ ∀ a, a ≠ 36 → a ≠ 43 → a ≠ 44 → M' a = M a) := by
  obtain ⟨t9, t10, t11, t8, tS⟩ := id hTr
  rw [List.length_append] at t9
  have t9 : M 36 9 = ((T.length + 1 : Nat) : Int) := t9
  have t8 : M 36 8 = ((lTot T : Nat) : Int) := by
    rw [t8, lTot_app]
    rfl
  have L_31 : ∀ (f i : Nat) (M2 : MT), ls.length - i < f → i ≤ ls.length → (∀ s, s < i → M2 44 ((lTot T + s : Nat) : Int) = ((ls.getD s 0 : Nat) : Int)) → (∀ j : Int, j < lTot T → M2 44 j = M 44 j) → (∀ a, a ≠ 44 → M2 a = M a) → Wq (d) k_X7_writeLinks 31 [some (vR 36), some (vR 35), some (vI ((ls.length : Nat) : Int)), some (vI ((i : Nat) : Int))] [] G M2 (fun z M' => z = none ∧ ClsTr M' (T ++ [(r, p, q, gl, ls)]) ∧ ∀ a, a ≠ 36 → a ≠ 43 → a ≠ 44 → M' a = M a) := by
    intro f
    induction f with
    | zero => intro i M2 h; exact absurd h (by omega)
    | succ f ih_i =>
      intro i M2 hf_i hk_i a1 a2 a3
      refine wq_s 32 rfl ?_
      refine wq_s 33 rfl ?_
      refine wq_icmp 56 rfl rfl (by omega) (by omega) (fun c_33 => ?_) (fun c_33 => ?_)
      · have c_33 := of_decide_eq_true c_33
        have e9 : i = ls.length := by omega
        subst e9
        refine wq_s 57 rfl ?_
        refine wq_getR 60 rfl rfl (hC.lt (by omega)) (hC.ty 32 _ rfl) rfl ?_
        refine wq_s 61 rfl ?_
        refine wq_getE (v := ((T.length + 1 : Nat) : Int)) 9 64 rfl rfl (hC.lt (by omega)) (hC.ty 32 _ rfl) rfl rfl (by rw [a3 _ (by decide)]; exact t9) ?_
        refine wq_s 65 rfl ?_
        refine we_sub ((T.length : Nat) : Int) 66 rfl rfl (by omega) (by omega) ?_
        refine wq_s 67 rfl ?_
        refine wq_iast 68 rfl rfl (hC.lt (by omega)) (hC.ty 39 _ rfl) (by omega) (by omega) (by omega) ?_
        refine wq_s 69 rfl ?_
        refine wq_s 70 rfl ?_
        refine wq_getE (v := ((lTot T : Nat) : Int)) 8 73 rfl rfl (hC.lt (by omega)) (hC.ty 32 _ rfl) rfl rfl (by rw [up2_ne (Or.inl (by decide)), a3 _ (by decide)]; exact t8) ?_
        refine wq_s 74 rfl ?_
        refine we_add ((lTot T + ls.length : Nat) : Int) 75 rfl rfl (by omega) (by omega) ?_
        refine wq_putE 8 78 rfl rfl (hC.lt (by omega)) (hC.ty 32 _ rfl) rfl (by decide) (Or.inl rfl) rfl ?_
        refine wq_ret rfl ⟨rfl, ⟨?_, ?_, ?_, ?_, fun j hj => ?_⟩, fun a h1 h2 h3 => (up2_row h1).trans ((up2_row h2).trans (a3 a h3))⟩
        · rw [up2_ne (Or.inr (by decide)), up2_row (by decide), a3 _ (by decide), t9, List.length_append]
          rfl
        · rw [up2_ne (Or.inr (by decide)), up2_row (by decide), a3 _ (by decide), t10, scT_app, scT_app]
          rfl
        · rw [up2_ne (Or.inr (by decide)), up2_row (by decide), a3 _ (by decide), t11]
          unfold lvT
          rw [lvF_app, lvF_app]
        · rw [up2_at, lTot_app]
          rfl
        · rw [List.length_append] at hj
          have hj : j < T.length + 1 := hj
          have h9 := tS j (by rw [List.length_append]; exact hj)
          unfold ClsS1 at h9 ⊢
          rw [up2_row (a := 37) (by decide), up2_row (a := 37) (by decide), a3 37 (by decide), up2_row (a := 38) (by decide), up2_row (a := 38) (by decide), a3 38 (by decide), up2_row (a := 39) (by decide), up2_row (a := 39) (by decide), a3 39 (by decide), up2_row (a := 40) (by decide), up2_row (a := 40) (by decide), a3 40 (by decide), up2_row (a := 41) (by decide), up2_row (a := 41) (by decide), a3 41 (by decide), up2_row (a := 42) (by decide), up2_row (a := 42) (by decide), a3 42 (by decide), up2_row (a := 43) (by decide), up2_row (a := 44) (by decide), up2_row (a := 44) (by decide)]
          by_cases hjT : j < T.length
          · rw [sgetD1 hjT, stake (by omega)] at h9 ⊢
            have hla := lTot_at T j hjT
            rw [up2_ne (Or.inr (by omega)), a3 43 (by decide)]
            obtain ⟨e1, e2, e3, e4, e5, e6, e7, e8⟩ := h9
            exact ⟨e1, e2, e3, e4, e5, e6, e7, fun k hk => (a2 _ (by omega)).trans (e8 k hk)⟩
          · have ej : j = T.length := by omega
            subst ej
            rw [sgetD2, stake (Nat.le_refl _), List.take_length] at h9 ⊢
            rw [up2_eq rfl (by omega)]
            obtain ⟨e1, e2, e3, e4, e5, e6, e7, e8⟩ := h9
            exact ⟨e1, e2, e3, e4, e5, e6, rfl, fun k hk => a1 k hk⟩
      · have c_33 := of_decide_eq_false c_33
        refine wq_s 37 rfl ?_
        refine wq_getR 40 rfl rfl (hC.lt (by omega)) (hC.ty 32 _ rfl) rfl ?_
        refine wq_s 41 rfl ?_
        refine wq_getE (v := ((lTot T : Nat) : Int)) 8 44 rfl rfl (hC.lt (by omega)) (hC.ty 32 _ rfl) rfl rfl (by rw [a3 _ (by decide)]; exact t8) ?_
        refine wq_s 45 rfl ?_
        refine we_add (((lTot T) + i : Nat) : Int) 46 rfl rfl (by omega) (by omega) ?_
        refine wq_s 47 rfl ?_
        refine wq_s 48 rfl ?_
        refine wq_iald (v := ((ls.getD i 0 : Nat) : Int)) 49 rfl rfl (hC.lt (by omega)).2 (hC.ty 31 _ rfl) (by omega) (by omega) (by omega) (by rw [a3 _ (by decide)]; exact hn i (by omega)) ?_
        refine wq_iast 50 rfl rfl (hC.lt (by omega)) (hC.ty 40 _ rfl) (by omega) (by omega) (by omega) ?_
        refine we_inc 3 1 ((i + 1 : Nat) : Int) 53 _ rfl rfl rfl (by omega) (by omega) rfl ?_
        refine wq_s 31 rfl ?_
        refine ih_i (i + 1) _ (by omega) (by omega) (fun s hs => ?_) (fun j hj => (up2_ne (Or.inr (by omega))).trans (a2 j hj)) (fun a ha => (up2_row ha).trans (a3 a ha))
        by_cases hsi : s = i
        · subst hsi
          exact up2_at
        · exact (up2_ne (Or.inr (by omega))).trans (a1 s (by omega))
  refine wq_s 1 rfl ?_
  refine wq_getE (v := ((T.length + 1 : Nat) : Int)) 9 4 rfl rfl (hC.lt (by omega)) (hC.ty 32 _ rfl) rfl rfl t9 ?_
  refine wq_s 5 rfl ?_
  refine wq_icmp 28 rfl rfl (by omega) (by omega) (fun c_5 => absurd c_5 cmp_lt1N) (fun _ => ?_)
  refine wq_s 9 rfl ?_
  refine wq_s 10 rfl ?_
  refine wq_alen 11 rfl rfl (hC.lt (by omega)).2 (hC.ty 31 _ rfl) (by omega) ?_
  refine wq_icmp 28 rfl rfl (by omega) (by omega) (fun c_11 => ?_) (fun c_11 => ?_)
  · have c_11 := of_decide_eq_true c_11
    exact absurd c_11 (by omega)
  · have c_11 := of_decide_eq_false c_11
    refine wq_s 15 rfl ?_
    refine wq_s 16 rfl ?_
    refine wq_getR 19 rfl rfl (hC.lt (by omega)) (hC.ty 32 _ rfl) rfl ?_
    refine wq_alen 20 rfl rfl (hC.lt (by omega)).2 (hC.ty 40 _ rfl) (by omega) ?_
    refine wq_s 21 rfl ?_
    refine wq_getE (v := ((lTot T : Nat) : Int)) 8 24 rfl rfl (hC.lt (by omega)) (hC.ty 32 _ rfl) rfl rfl t8 ?_
    refine we_sub (((17496 : Nat) : Int) - ((lTot T : Nat) : Int)) 25 rfl rfl (by omega) (by omega) ?_
    refine wq_icmp 29 rfl rfl (by omega) (by omega) (fun c_25 => ?_) (fun c_25 => ?_)
    · have c_25 := of_decide_eq_true c_25
      refine wq_s 30 rfl ?_
      refine wq_s 31 rfl ?_
      exact L_31 (ls.length + 1) 0 M (by omega) (by omega) (fun s hs => absurd hs (Nat.not_lt_zero _)) (fun _ _ => rfl) (fun _ _ => rfl)
    · have c_25 := of_decide_eq_false c_25
      exact absurd c_25 (by omega)
