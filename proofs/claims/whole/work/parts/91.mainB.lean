/-! the class: node, startAnew, give, row -/
theorem ClsSt.set4 {M M' : MT} {gv X C : Nat → Nat} {T : List GSt} {en en' : Nat} {nd nd' : List Nat} {S : SrS} {t : Nat} (h : ClsSt M gv X C T en nd S t) (h1 : ∀ a, 1 ≤ a → a ≤ 54 → a ≠ 4 → M' a = M a) (h4 : M' 4 10 = (en' : Int)) (hn : CNd M' nd') : ClsSt M' gv X C T en' nd' S t := by
  obtain ⟨⟨a1, a2⟩, a3, a4, ⟨lc, a5, a6⟩, a7, a8, a9, b1, b2, b3⟩ := h
  refine ⟨⟨a1.fr (h1 _ (by decide) (by decide) (by decide)) (h1 _ (by decide) (by decide) (by decide)) (h1 _ (by decide) (by decide) (by decide)) (h1 _ (by decide) (by decide) (by decide)), a2.fr (h1 _ (by decide) (by decide) (by decide)) (h1 _ (by decide) (by decide) (by decide)) (h1 _ (by decide) (by decide) (by decide))⟩, a3.fr (h1 _ (by decide) (by decide) (by decide)), a4.fr (fun a g1 g2 => h1 a (by omega) (by omega) (by omega)), ⟨lc, a5.fr (fun a g1 g2 => h1 a (by omega) (by omega) (by omega)), a6⟩, a7.fr (h1 _ (by decide) (by decide) (by decide)) (h1 _ (by decide) (by decide) (by decide)), a8.fr (by rw [h1 24 (by decide) (by decide) (by decide)]) (h1 _ (by decide) (by decide) (by decide)) (h1 _ (by decide) (by decide) (by decide)) (h1 _ (by decide) (by decide) (by decide)), a9.fr (fun a g1 g2 => h1 a (by omega) (by omega) (by omega)), h4, hn, b3.fr (fun a g1 g2 => h1 a (by omega) (by omega) (by omega))⟩
theorem c_X8_node {d : Nat} {G : GT} {M : MT} {gv X C : Nat → Nat} {T : List GSt} {en : Nat} {nd : List Nat} {S : SrS} {t : Nat} (hC : ClsG G) (hS : ClsSt M gv X C T en nd S t) (hO : AbOk X C T en S) {n : Int} (hn : R32 n) : Mq (d + 1) k_X8_node [vR 4, vI n] G M (fun z M' => (z = some (vI ((nd.length + 1 : Nat) : Int)) ∧ ((0 ≤ n ∧ n ≤ 728) ∧ nd.length ≠ 24) ∧ ClsSt M' gv X C T en (nd ++ [n.toNat]) S t ∧ FrK M M') ∨ (z = some (vI (-1)) ∧ ¬ ((0 ≤ n ∧ n ≤ 728) ∧ nd.length ≠ 24) ∧ M' = M)) := by
  obtain ⟨⟨s1, s2⟩, s3, s4, ⟨lc, s5, s6⟩, s7, s8, s9, s10, s11, s12⟩ := id hS
  obtain ⟨t9, t10, t11, t8, tS⟩ := id s9
  obtain ⟨b1, b2, b3, b4, b5, b6⟩ := id hO
  obtain ⟨⟨n9, n10, n11, n8, n12⟩, hAn, hXo, -⟩ := id s12
  have hlen := TrOk.len b1.2
  have hgt := b1.1
  have hn24 := s11.2.1
  refine wq_s 1 rfl ?_
  refine wq_if 20 rfl rfl (by omega) (fun c_1 => ?_) (fun c_1 => ?_)
  · have c_1 := of_decide_eq_true c_1
    refine wq_s 21 rfl ?_
    exact wq_ret rfl (Or.inr ⟨rfl, by omega, rfl⟩)
  · have c_1 := of_decide_eq_false c_1
    obtain ⟨m, e_m⟩ := Int.eq_ofNat_of_zero_le (show 0 ≤ n by omega)
    subst e_m
    refine wq_s 5 rfl ?_
    refine wq_s 8 rfl ?_
    refine wq_icmp 20 rfl rfl (by omega) (by omega) (fun c_8 => ?_) (fun c_8 => ?_)
    · have c_8 := of_decide_eq_true c_8
      refine wq_s 21 rfl ?_
      exact wq_ret rfl (Or.inr ⟨rfl, by omega, rfl⟩)
    · have c_8 := of_decide_eq_false c_8
      refine wq_s 12 rfl ?_
      refine wq_getE (v := ((nd.length : Nat) : Int)) 9 15 rfl rfl (hC.lt (by omega)) (hC.ty 0 _ rfl) rfl rfl s11.1 ?_
      refine wq_s 17 rfl ?_
      refine wq_icmp 22 rfl rfl (by omega) (by omega) (fun c_17 => ?_) (fun c_17 => ?_)
      · have c_17 := of_decide_eq_true c_17
        refine wq_s 23 rfl ?_
        refine wq_getR 26 rfl rfl (hC.lt (by omega)) (hC.ty 0 _ rfl) rfl ?_
        refine wq_s 27 rfl ?_
        refine wq_getE (v := ((nd.length : Nat) : Int)) 9 30 rfl rfl (hC.lt (by omega)) (hC.ty 0 _ rfl) rfl rfl s11.1 ?_
        refine wq_s 31 rfl ?_
        refine wq_iast 32 rfl rfl (hC.lt (by omega)) (hC.ty 51 _ rfl) (by omega) (by omega) (by omega) ?_
        refine wq_s 33 rfl ?_
        refine wq_s 34 rfl ?_
        refine wq_getE (v := ((nd.length : Nat) : Int)) 9 37 rfl rfl (hC.lt (by omega)) (hC.ty 0 _ rfl) rfl rfl (by rw [up2_row (by decide)]; exact s11.1) ?_
        refine wq_s 38 rfl ?_
        refine we_add ((nd.length + 1 : Nat) : Int) 39 rfl rfl (by omega) (by omega) ?_
        refine wq_putE 9 42 rfl rfl (hC.lt (by omega)) (hC.ty 0 _ rfl) rfl (by decide) (Or.inl rfl) rfl ?_
        refine wq_s 43 rfl ?_
        refine wq_getE (v := ((nd.length + 1 : Nat) : Int)) 9 46 rfl rfl (hC.lt (by omega)) (hC.ty 0 _ rfl) rfl rfl up2_at ?_
        exact wq_ret rfl (Or.inl ⟨rfl, ⟨by omega, by omega⟩, hS.set4 (fun a h1 h2 h3 => by rw [up2_row h3, up2_row (by omega)]) (by rw [up2_ne (Or.inr (by decide)), up2_row (by decide)]; exact s10) ⟨(by rw [up2_at, List.length_append]; rfl), (by rw [List.length_append]; show nd.length + 1 ≤ 24; omega), fun k hk => (by
            rw [List.length_append] at hk
            have hk : k < nd.length + 1 := hk
            rw [up2_row (by decide), Int.toNat_natCast]
            by_cases hk2 : k < nd.length
            · rw [gD_l hk2, up2_ne (Or.inr (by omega))]
              exact s11.2.2 k hk2
            · have hk3 : k = nd.length := by omega
              rw [hk3, gD_x, up2_at]
              exact ⟨rfl, by omega⟩)⟩, fun a ha => by rw [up2_row (by omega), up2_row (by omega)]⟩)
      · have c_17 := of_decide_eq_false c_17
        refine wq_s 21 rfl ?_
        exact wq_ret rfl (Or.inr ⟨rfl, by omega, rfl⟩)
def PreSt (M : MT) (gv : Nat → Nat) (t : Nat) : Prop := (ShpAt M ∧ TbAt M) ∧ GvAt M 10 gv ∧ (∃ X0, AtB M 12 X0) ∧ (∃ X0, AtB M 16 X0) ∧ (∃ X0, AtB M 52 X0) ∧ GoAt M (fun _ => 0) ∧ ChsAt M t
theorem c_X8_startAnew {d : Nat} {G : GT} {M : MT} {gv : Nat → Nat} {t : Nat} (hC : ClsG G) (hP : PreSt M gv t) : Mq (d + 2) k_X8_startAnew [vR 4] G M (fun z M' => z = none ∧ (∀ F Sv, ClsSt M' gv (fstF gv) (fstF gv) [] 0 [] (0, 0, 0, 0, 0, F, Sv) t) ∧ FrK M M') := by
  obtain ⟨⟨s1, s2⟩, s3, ⟨X1, x1⟩, ⟨X2, x2⟩, ⟨X3, x3⟩, s7, s8⟩ := hP
  refine wq_s 1 rfl ?_
  refine wq_getR 4 rfl rfl (hC.lt (by omega)) (hC.ty 0 _ rfl) rfl ?_
  refine wq_s 5 rfl ?_
  refine wq_getR 8 rfl rfl (hC.lt (by omega)) (hC.ty 0 _ rfl) rfl ?_
  refine wq_vt1 11 rfl rfl (Nat.le_of_ble_eq_true rfl) (hC.lt (by omega)) (hC.ty 7 _ rfl) rfl (Nat.le_of_ble_eq_true rfl) (c_X0_start (d := d) (b := 11) (q := 10) (Xo := X1) (gv := gv) hC hb11 s1 x1 (hC.lt (by omega)).2 (hC.ty 6 _ rfl) (by decide) s3) (fun r M1 hr => ?_)
  obtain ⟨rfl, hB1, hF1⟩ := hr
  dsimp only [Option.toList, List.cons_append, List.nil_append]
  refine wq_s 12 rfl ?_
  refine wq_getR 15 rfl rfl (hC.lt (by omega)) (hC.ty 0 _ rfl) rfl ?_
  refine wq_s 16 rfl ?_
  refine wq_getR 19 rfl rfl (hC.lt (by omega)) (hC.ty 0 _ rfl) rfl ?_
  refine wq_vt1 22 rfl rfl (Nat.le_of_ble_eq_true rfl) (hC.lt (by omega)) (hC.ty 11 _ rfl) rfl (Nat.le_of_ble_eq_true rfl) (c_X0_start (d := d) (b := 15) (q := 10) (Xo := X2) (gv := gv) hC hb15 (s1.fr (hF1 _ (by decide)) (hF1 _ (by decide)) (hF1 _ (by decide)) (hF1 _ (by decide))) (x2.fr (hF1 _ (by decide))) (hC.lt (by omega)).2 (hC.ty 6 _ rfl) (by decide) (s3.fr (hF1 _ (by decide)))) (fun r M2 hr => ?_)
  obtain ⟨rfl, hB2, hF2⟩ := hr
  have f2 : ∀ a, (a < 11 ∨ 18 < a) → M2 a = M a := fun a ha => (hF2 a (by omega)).trans (hF1 a (by omega))
  dsimp only [Option.toList, List.cons_append, List.nil_append]
  refine wq_s 23 rfl ?_
  refine wq_getR 26 rfl rfl (hC.lt (by omega)) (hC.ty 0 _ rfl) rfl ?_
  refine wq_vt0 29 rfl rfl (Nat.le_of_ble_eq_true rfl) (hC.lt (by omega)) (hC.ty 32 _ rfl) rfl (Nat.le_of_ble_eq_true rfl) (c_X7_forget (M := M2) hC) (fun r M3 hr => ?_)
  obtain ⟨rfl, hT3, hF3⟩ := hr
  dsimp only [Option.toList, List.cons_append, List.nil_append]
  refine wq_s 30 rfl ?_
  refine wq_getR 33 rfl rfl (hC.lt (by omega)) (hC.ty 0 _ rfl) rfl ?_
  refine wq_vt0 36 rfl rfl (Nat.le_of_ble_eq_true rfl) (hC.lt (by omega)) (hC.ty 41 _ rfl) rfl (Nat.le_of_ble_eq_true rfl) (c_X5_forget (M := M3) (Xo := X3) hC (x3.fr ((hF3 _ (by decide)).trans (f2 _ (by decide))))) (fun r M4 hr => ?_)
  obtain ⟨rfl, hS4, hF4⟩ := hr
  have f4 : ∀ a, a ≠ 45 → a ≠ 36 → (a < 11 ∨ 18 < a) → M4 a = M a := fun a h1 h2 h3 => (hF4 a h1).trans ((hF3 a h2).trans (f2 a h3))
  have f6 : ∀ a, a ≠ 4 → up2 (up2 M4 4 9 0) 4 10 0 a = M4 a := fun a h => (up2_row h).trans (up2_row h)
  dsimp only [Option.toList, List.cons_append, List.nil_append]
  refine wq_s 37 rfl ?_
  refine wq_s 38 rfl ?_
  refine wq_putE 9 41 rfl rfl (hC.lt (by omega)) (hC.ty 0 _ rfl) rfl (by decide) (Or.inl rfl) rfl ?_
  refine wq_s 42 rfl ?_
  refine wq_s 43 rfl ?_
  refine wq_putE 10 46 rfl rfl (hC.lt (by omega)) (hC.ty 0 _ rfl) rfl (by decide) (by decide) rfl ?_
  exact wq_ret rfl ⟨rfl, fun F Sv => ⟨⟨s1.fr ((f6 _ (by decide)).trans (f4 _ (by decide) (by decide) (by decide))) ((f6 _ (by decide)).trans (f4 _ (by decide) (by decide) (by decide))) ((f6 _ (by decide)).trans (f4 _ (by decide) (by decide) (by decide))) ((f6 _ (by decide)).trans (f4 _ (by decide) (by decide) (by decide))), s2.fr ((f6 _ (by decide)).trans (f4 _ (by decide) (by decide) (by decide))) ((f6 _ (by decide)).trans (f4 _ (by decide) (by decide) (by decide))) ((f6 _ (by decide)).trans (f4 _ (by decide) (by decide) (by decide)))⟩, s3.fr ((f6 _ (by decide)).trans (f4 _ (by decide) (by decide) (by decide))), (hB1.fr (fun a h1 h2 => by rw [f6 a (by omega), hF4 a (by omega), hF3 a (by omega), hF2 a (by omega)])), ⟨[], hB2.fr (fun a h1 h2 => by rw [f6 a (by omega), hF4 a (by omega), hF3 a (by omega)]), by have := cntX_le (fstF gv); show 0 + cntX (fstF gv) ≤ 729; omega⟩, s7.fr ((f6 _ (by decide)).trans (f4 _ (by decide) (by decide) (by decide))) ((f6 _ (by decide)).trans (f4 _ (by decide) (by decide) (by decide))), s8.fr (by rw [f6 24 (by decide), f4 24 (by decide) (by decide) (by decide)]) ((f6 _ (by decide)).trans (f4 _ (by decide) (by decide) (by decide))) ((f6 _ (by decide)).trans (f4 _ (by decide) (by decide) (by decide))) ((f6 _ (by decide)).trans (f4 _ (by decide) (by decide) (by decide))), hT3.fr (fun a h1 h2 => by rw [f6 a (by omega), hF4 a (by omega)]), up2_at, ⟨(by rw [up2_ne (Or.inr (by decide)), up2_at]; rfl), Nat.zero_le _, fun k hk => absurd hk (Nat.not_lt_zero _)⟩, (hS4 gv F Sv).fr (fun a h1 h2 => f6 a (by omega))⟩, fun a ha => by rw [f6 a (by omega), f4 a (by omega) (by omega) (by omega)]⟩
theorem ClsSt.pre {M M' : MT} {gv gv' X C : Nat → Nat} {T : List GSt} {en : Nat} {nd : List Nat} {S : SrS} {t : Nat} (h : ClsSt M gv X C T en nd S t) (h1 : ∀ a, a ≠ 10 → M' a = M a) (hg : GvAt M' 10 gv') : PreSt M' gv' t := by
  obtain ⟨⟨a1, a2⟩, a3, a4, ⟨lc, a5, a6⟩, a7, a8, a9, b1, b2, b3⟩ := h
  obtain ⟨Xo, hXo⟩ := b3.2.2.1
  exact ⟨⟨a1.fr (h1 _ (by decide)) (h1 _ (by decide)) (h1 _ (by decide)) (h1 _ (by decide)), a2.fr (h1 _ (by decide)) (h1 _ (by decide)) (h1 _ (by decide))⟩, hg, ⟨X, a4.1.1.fr (h1 _ (by decide))⟩, ⟨C, a5.1.1.fr (h1 _ (by decide))⟩, ⟨Xo, hXo.fr (h1 _ (by decide))⟩, a7.fr (h1 _ (by decide)) (h1 _ (by decide)), a8.fr (by rw [h1 24 (by decide)]) (h1 _ (by decide)) (h1 _ (by decide)) (h1 _ (by decide))⟩
theorem c_X8_give {d : Nat} {G : GT} {M : MT} {gv X C : Nat → Nat} {T : List GSt} {en : Nat} {nd : List Nat} {S : SrS} {t : Nat} (hC : ClsG G) (hS : ClsSt M gv X C T en nd S t) (hO : AbOk X C T en S) {c v : Int} (hc : R32 c) (hv : R32 v) : Mq (d + 3) k_X8_give [vR 4, vI c, vI v] G M (fun z M' => (z = some (vI 1) ∧ ((0 ≤ c ∧ c ≤ 80) ∧ 0 ≤ v ∧ v ≤ 9) ∧ ClsSt M' (gvU gv c.toNat v.toNat) (fstF (gvU gv c.toNat v.toNat)) (fstF (gvU gv c.toNat v.toNat)) [] 0 [] (0, 0, 0, 0, 0, S.2.2.2.2.2.1, S.2.2.2.2.2.2) t ∧ FrK M M') ∨ (z = some (vI 0) ∧ ¬ ((0 ≤ c ∧ c ≤ 80) ∧ 0 ≤ v ∧ v ≤ 9) ∧ M' = M)) := by
  obtain ⟨⟨s1, s2⟩, s3, s4, ⟨lc, s5, s6⟩, s7, s8, s9, s10, s11, s12⟩ := id hS
  obtain ⟨t9, t10, t11, t8, tS⟩ := id s9
  obtain ⟨b1, b2, b3, b4, b5, b6⟩ := id hO
  obtain ⟨⟨n9, n10, n11, n8, n12⟩, hAn, hXo, -⟩ := id s12
  have hlen := TrOk.len b1.2
  have hgt := b1.1
  refine wq_s 1 rfl ?_
  refine wq_st1 4 rfl rfl (by decide) (Nat.le_of_ble_eq_true rfl) rfl (Nat.le_of_ble_eq_true rfl) (c_isCell hc) (fun r M1 hr => ?_)
  rcases hr with ⟨rfl, b_1, hM1⟩ | ⟨rfl, b_1, hM1⟩
  · subst M1
    dsimp only [Option.toList, List.cons_append, List.nil_append]
    obtain ⟨n, e_n⟩ := Int.eq_ofNat_of_zero_le b_1.1
    subst e_n
    refine wq_s 7 rfl ?_
    refine wq_s 8 rfl ?_
    refine wq_if 17 rfl rfl (by omega) (fun c_8 => ?_) (fun c_8 => ?_)
    · have c_8 := of_decide_eq_true c_8
      refine wq_s 18 rfl ?_
      exact wq_ret rfl (Or.inr ⟨rfl, fun z => by omega, rfl⟩)
    · have c_8 := of_decide_eq_false c_8
      obtain ⟨m, e_m⟩ := Int.eq_ofNat_of_zero_le (show 0 ≤ v by omega)
      subst e_m
      refine wq_s 12 rfl ?_
      refine wq_s 14 rfl ?_
      refine wq_icmp 19 rfl rfl (by omega) (by omega) (fun c_14 => ?_) (fun c_14 => ?_)
      · have c_14 := of_decide_eq_true c_14
        refine wq_s 20 rfl ?_
        refine wq_getR 23 rfl rfl (hC.lt (by omega)) (hC.ty 0 _ rfl) rfl ?_
        refine wq_s 24 rfl ?_
        refine wq_s 25 rfl ?_
        refine wq_iast 26 rfl rfl (hC.lt (by omega)) (hC.ty 6 _ rfl) (by omega) (by omega) (by omega) ?_
        refine wq_s 27 rfl ?_
        have hgv : GvAt (up2 M 10 (n : Int) (m : Int)) 10 (gvU gv n m) := fun x hx => by
          unfold gvU
          by_cases hxn : x = n
          · rw [if_pos hxn, hxn, up2_at]
            exact ⟨rfl, by omega⟩
          · rw [if_neg hxn, up2_ne (Or.inr (by omega))]
            exact s3 x hx
        refine wq_vt0 30 rfl rfl (Nat.le_of_ble_eq_true rfl) (hC.lt (by omega)) (hC.ty 0 _ rfl) rfl (Nat.le_of_ble_eq_true rfl) (c_X8_startAnew (d := d) hC (hS.pre (fun a ha => up2_row ha) hgv)) (fun r M3 hr => ?_)
        obtain ⟨rfl, hS3, hF3⟩ := hr
        dsimp only [Option.toList, List.cons_append, List.nil_append]
        refine wq_s 31 rfl ?_
        exact wq_ret rfl (Or.inl ⟨rfl, ⟨b_1, by omega, by omega⟩, hS3 _ _, fun a ha => (hF3 a ha).trans (up2_row (by omega))⟩)
      · have c_14 := of_decide_eq_false c_14
        refine wq_s 18 rfl ?_
        exact wq_ret rfl (Or.inr ⟨rfl, fun z => by omega, rfl⟩)
  · subst M1
    dsimp only [Option.toList, List.cons_append, List.nil_append]
    refine wq_s 17 rfl ?_
    refine wq_s 18 rfl ?_
    exact wq_ret rfl (Or.inr ⟨rfl, fun z => b_1 z.1, rfl⟩)
theorem c_X8_row {d : Nat} {G : GT} {M : MT} {gv X C : Nat → Nat} {T : List GSt} {en : Nat} {nd : List Nat} {S : SrS} {t : Nat} (hC : ClsG G) (hS : ClsSt M gv X C T en nd S t) (hO : AbOk X C T en S) {r v : Int} (hr : R32 r) (hv : R32 v) : Mq (d + 3) k_X8_row [vR 4, vI r, vI v] G M (fun z M' => (z = some (vI 1) ∧ ((0 ≤ r ∧ r ≤ 8) ∧ 0 ≤ v ∧ v ≤ 999999999) ∧ ClsSt M' (gvR gv r.toNat v.toNat) (fstF (gvR gv r.toNat v.toNat)) (fstF (gvR gv r.toNat v.toNat)) [] 0 [] (0, 0, 0, 0, 0, S.2.2.2.2.2.1, S.2.2.2.2.2.2) t ∧ FrK M M') ∨ (z = some (vI 0) ∧ ¬ ((0 ≤ r ∧ r ≤ 8) ∧ 0 ≤ v ∧ v ≤ 999999999) ∧ M' = M)) := by
  obtain ⟨⟨s1, s2⟩, s3, s4, ⟨lc, s5, s6⟩, s7, s8, s9, s10, s11, s12⟩ := id hS
  obtain ⟨t9, t10, t11, t8, tS⟩ := id s9
  obtain ⟨b1, b2, b3, b4, b5, b6⟩ := id hO
  obtain ⟨⟨n9, n10, n11, n8, n12⟩, hAn, hXo, -⟩ := id s12
  have hlen := TrOk.len b1.2
  have hgt := b1.1
  refine wq_s 1 rfl ?_
  refine wq_if 20 rfl rfl (by omega) (fun c_1 => ?_) (fun c_1 => ?_)
  · have c_1 := of_decide_eq_true c_1
    refine wq_s 21 rfl ?_
    exact wq_ret rfl (Or.inr ⟨rfl, fun z => by omega, rfl⟩)
  · have c_1 := of_decide_eq_false c_1
    obtain ⟨n, e_n⟩ := Int.eq_ofNat_of_zero_le (show 0 ≤ r by omega)
    subst e_n
    refine wq_s 5 rfl ?_
    refine wq_s 7 rfl ?_
    refine wq_icmp 20 rfl rfl (by omega) (by omega) (fun c_7 => ?_) (fun c_7 => ?_)
    · have c_7 := of_decide_eq_true c_7
      refine wq_s 21 rfl ?_
      exact wq_ret rfl (Or.inr ⟨rfl, fun z => by omega, rfl⟩)
    · have c_7 := of_decide_eq_false c_7
      refine wq_s 11 rfl ?_
      refine wq_if 20 rfl rfl (by omega) (fun c_11 => ?_) (fun c_11 => ?_)
      · have c_11 := of_decide_eq_true c_11
        refine wq_s 21 rfl ?_
        exact wq_ret rfl (Or.inr ⟨rfl, fun z => by omega, rfl⟩)
      · have c_11 := of_decide_eq_false c_11
        obtain ⟨w, e_w⟩ := Int.eq_ofNat_of_zero_le (show 0 ≤ v by omega)
        subst e_w
        refine wq_s 15 rfl ?_
        refine wq_s 17 rfl ?_
        refine wq_icmp 22 rfl rfl (by omega) (by omega) (fun c_17 => ?_) (fun c_17 => ?_)
        · have c_17 := of_decide_eq_true c_17
          have L_28 : ∀ (f j : Nat) (M2 : MT), 9 - j < f → j ≤ 9 → (∀ s, s < j → M2 10 ((9 * n + (8 - s) : Nat) : Int) = ((w / 10 ^ s % 10 : Nat) : Int)) → (∀ (a : Nat) (i : Int), (a ≠ 10 ∨ i < 9 * n ∨ 9 * (n : Int) + 8 < i) → M2 a i = M a i) → Wq (d + 3) k_X8_row 28 [some (vR 4), some (vI ((n : Nat) : Int)), some (vI ((w : Nat) : Int)), some (vI ((w / 10 ^ j : Nat) : Int)), some (vI (8 - ((j : Nat) : Int)))] [] G M2 (fun z M' => (z = some (vI 1) ∧ ((0 ≤ (n : Int) ∧ (n : Int) ≤ 8) ∧ 0 ≤ (w : Int) ∧ (w : Int) ≤ 999999999) ∧ ClsSt M' (gvR gv ((n : Nat) : Int).toNat ((w : Nat) : Int).toNat) (fstF (gvR gv ((n : Nat) : Int).toNat ((w : Nat) : Int).toNat)) (fstF (gvR gv ((n : Nat) : Int).toNat ((w : Nat) : Int).toNat)) [] 0 [] (0, 0, 0, 0, 0, S.2.2.2.2.2.1, S.2.2.2.2.2.2) t ∧ FrK M M') ∨ (z = some (vI 0) ∧ ¬ ((0 ≤ (n : Int) ∧ (n : Int) ≤ 8) ∧ 0 ≤ (w : Int) ∧ (w : Int) ≤ 999999999) ∧ M' = M)) := by
            intro f
            induction f with
            | zero => intro j M2 h; exact absurd h (by omega)
            | succ f ih_j =>
              intro j M2 hf_j hk_j hA hFr
              refine wq_s 30 rfl ?_
              refine wq_if 60 rfl rfl (by omega) (fun c_30 => ?_) (fun c_30 => ?_)
              · have c_30 := of_decide_eq_true c_30
                have e9 : j = 9 := by omega
                subst e9
                refine wq_s 61 rfl ?_
                have hgv : GvAt M2 10 (gvR gv n w) := fun x hx => by
                  unfold gvR
                  by_cases hxn : x / 9 = n
                  · rw [if_pos hxn]
                    have h9 := hA (8 - x % 9) (by omega)
                    rw [show 9 * n + (8 - (8 - x % 9)) = x by omega] at h9
                    exact ⟨h9, by omega⟩
                  · rw [if_neg hxn, hFr 10 (x : Int) (by omega)]
                    exact s3 x hx
                refine wq_vt0 64 rfl rfl (Nat.le_of_ble_eq_true rfl) (hC.lt (by omega)) (hC.ty 0 _ rfl) rfl (Nat.le_of_ble_eq_true rfl) (c_X8_startAnew (d := d) hC (hS.pre (fun a ha => funext fun i => hFr a i (Or.inl ha)) hgv)) (fun r M3 hr => ?_)
                obtain ⟨rfl, hS3, hF3⟩ := hr
                dsimp only [Option.toList, List.cons_append, List.nil_append]
                refine wq_s 65 rfl ?_
                exact wq_ret rfl (Or.inl ⟨rfl, ⟨⟨by omega, by omega⟩, by omega, by omega⟩, hS3 _ _, fun a ha => (hF3 a ha).trans (funext fun i => hFr a i (Or.inl (by omega)))⟩)
              · have c_30 := of_decide_eq_false c_30
                have hdl2 : w / 10 ^ j < 2147483648 := Nat.lt_of_le_of_lt (Nat.div_le_self _ _) (show w < 2147483648 by omega)
                have hdl3 : ((w / 10 ^ j : Nat) : Int) < ((2147483648 : Nat) : Int) := Int.ofNat_lt.2 hdl2
                refine wq_s 34 rfl ?_
                refine wq_getR 37 rfl rfl (hC.lt (by omega)) (hC.ty 0 _ rfl) rfl ?_
                refine wq_s 39 rfl ?_
                refine wq_s 40 rfl ?_
                refine we_mul ((9 * n : Nat) : Int) 41 rfl rfl (by omega) (by omega) ?_
                refine wq_s 43 rfl ?_
                refine we_add ((9 * n + (8 - j) : Nat) : Int) 44 rfl rfl (by omega) (by omega) ?_
                refine wq_s 45 rfl ?_
                refine wq_s 47 rfl ?_
                refine we_rem ((w / 10 ^ j % 10 : Nat) : Int) 48 rfl rfl ⟨Int.natCast_nonneg _, hdl3⟩ (by decide) rfl ?_
                refine wq_iast 49 rfl rfl (hC.lt (by omega)) (hC.ty 6 _ rfl) (by omega) (by omega) (by omega) ?_
                refine wq_s 50 rfl ?_
                refine wq_s 52 rfl ?_
                refine we_div ((w / 10 ^ (j + 1) : Nat) : Int) 53 rfl rfl ⟨Int.natCast_nonneg _, hdl3⟩ (by decide) (by rw [Nat.pow_succ, ← Nat.div_div_eq_div_mul]; rfl) ?_
                refine wq_s 54 rfl ?_
                refine we_inc 4 (-1) (8 - ((j + 1 : Nat) : Int)) 57 _ rfl rfl rfl (by omega) (by omega) rfl ?_
                refine wq_s 28 rfl ?_
                refine ih_j (j + 1) _ (by omega) (by omega) ?_ ?_
                · intro s hs
                  by_cases hsj : s = j
                  · subst hsj
                    exact up2_eq rfl (by omega)
                  · exact (up2_ne (Or.inr (by omega))).trans (hA s (by omega))
                · intro a i hai
                  exact (up2_ne (by omega)).trans (hFr a i hai)
          refine wq_s 23 rfl ?_
          refine wq_s 24 rfl ?_
          refine wq_s 26 rfl ?_
          refine wq_s 28 rfl ?_
          have h28 := L_28 10 0 M (by omega) (by omega) (fun s hs => absurd hs (Nat.not_lt_zero _)) (fun _ _ _ => rfl)
          rw [Nat.pow_zero, Nat.div_one] at h28
          exact h28
        · have c_17 := of_decide_eq_false c_17
          refine wq_s 21 rfl ?_
          exact wq_ret rfl (Or.inr ⟨rfl, fun z => by omega, rfl⟩)
