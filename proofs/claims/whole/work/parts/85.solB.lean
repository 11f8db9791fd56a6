/-! the solver: noteCount, remove, keepAlone -/
theorem hb51 : IsBd 51 := Or.inr (Or.inr rfl)
def EvAt (M : MT) (EL : List Nat) (dd : Nat) : Prop := M 45 3 = (EL.length : Int) ∧ M 45 4 = (dd : Int) ∧ ∀ j, j < EL.length → M 46 (j : Int) = ((EL.getD j 0 : Nat) : Int)
theorem EvAt.fr {M M' : MT} {EL : List Nat} {dd : Nat} (h : EvAt M EL dd) (h1 : M' 45 = M 45) (h2 : M' 46 = M 46) : EvAt M' EL dd := by
  unfold EvAt
  rw [h1, h2]
  exact h
def FrC (M M' : MT) : Prop := (∀ a, a ≠ 45 → a ≠ 46 → (a < 51 ∨ 54 < a) → M' a = M a) ∧ ∀ i : Int, i ≠ 3 → i ≠ 4 → M' 45 i = M 45 i
theorem FrC.refl (M : MT) : FrC M M := ⟨fun _ _ _ _ => rfl, fun _ _ _ => rfl⟩
theorem FrC.trans {M M1 M2 : MT} (h1 : FrC M M1) (h2 : FrC M1 M2) : FrC M M2 := ⟨fun a g1 g2 g3 => (h2.1 a g1 g2 g3).trans (h1.1 a g1 g2 g3), fun i g1 g2 => (h2.2 i g1 g2).trans (h1.2 i g1 g2)⟩
theorem FrC.shp {M M' : MT} (h : FrC M M') (hS : ShpAt M) : ShpAt M' := hS.fr (h.1 _ (by decide) (by decide) (by decide)) (h.1 _ (by decide) (by decide) (by decide)) (h.1 _ (by decide) (by decide) (by decide)) (h.1 _ (by decide) (by decide) (by decide))
def SvC (M : MT) (Y : Nat → Nat) (lg EL : List Nat) (dd : Nat) : Prop := BdAt M 51 (drF Y lg) lg ∧ HsL Y lg ∧ EvAt M EL dd
theorem ntL_1 {v ev : Nat} {EL : List Nat} (h : pop9 v = 1) : ntL v EL ev = EL ++ [ev] := if_pos h
theorem ntL_n {v ev : Nat} {EL : List Nat} (h : ¬ pop9 v = 1) : ntL v EL ev = EL := if_neg h
theorem ntL_pre (v ev : Nat) (EL : List Nat) : ∃ R, ntL v EL ev = EL ++ R := by
  by_cases h : pop9 v = 1
  · exact ⟨[ev], ntL_1 h⟩
  · exact ⟨[], by rw [ntL_n h, List.append_nil]⟩
theorem c_noteCount {d : Nat} {G : GT} {M : MT} {v ev dd : Nat} {EL : List Nat} (hC : ClsG G) (hE : EvAt M EL dd) (hv : v < 512) (hev : ev < 324) (hl : pop9 v = 1 → EL.length < 324) : Mq (d + 1) k_X5_noteCount [vR 45, vI (v : Int), vI (ev : Int)] G M (fun z M' => z = none ∧ EvAt M' (ntL v EL ev) (ntD v dd) ∧ (∀ a, a ≠ 45 → a ≠ 46 → M' a = M a) ∧ ∀ i : Int, i ≠ 3 → i ≠ 4 → M' 45 i = M 45 i) := by
  obtain ⟨e1, e2, e3⟩ := id hE
  refine wq_s 1 rfl ?_
  refine wq_if 12 rfl rfl (by omega) (fun c_1 => ?_) (fun c_1 => ?_)
  · have c_1 := of_decide_eq_true c_1
    refine wq_s 13 rfl ?_
    refine wq_st1 16 rfl rfl (by decide) (Nat.le_of_ble_eq_true rfl) rfl (Nat.le_of_ble_eq_true rfl) (c_isOneBit hv) (fun r M1 hr => ?_)
    rcases hr with ⟨rfl, b_13, hM1⟩ | ⟨rfl, b_13, hM1⟩
    · subst M1
      dsimp only [Option.toList, List.cons_append, List.nil_append]
      refine wq_s 19 rfl ?_
      refine wq_s 20 rfl ?_
      refine wq_getE (v := ((EL.length : Nat) : Int)) 3 23 rfl rfl (hC.lt (by omega)) (hC.ty 41 _ rfl) rfl rfl e1 ?_
      refine wq_s 26 rfl ?_
      refine wq_icmp 49 rfl rfl (by omega) (by omega) (fun c_26 => ?_) (fun c_26 => ?_)
      · have c_26 := of_decide_eq_true c_26
        exact absurd c_26 (by have := hl b_13; omega)
      · have c_26 := of_decide_eq_false c_26
        refine wq_s 30 rfl ?_
        refine wq_getR 33 rfl rfl (hC.lt (by omega)) (hC.ty 41 _ rfl) rfl ?_
        refine wq_s 34 rfl ?_
        refine wq_getE (v := ((EL.length : Nat) : Int)) 3 37 rfl rfl (hC.lt (by omega)) (hC.ty 41 _ rfl) rfl rfl e1 ?_
        refine wq_s 38 rfl ?_
        refine wq_iast 39 rfl rfl (hC.lt (by omega)) (hC.ty 42 _ rfl) (by omega) (by omega) (by omega) ?_
        refine wq_s 40 rfl ?_
        refine wq_s 41 rfl ?_
        refine wq_getE (v := ((EL.length : Nat) : Int)) 3 44 rfl rfl (hC.lt (by omega)) (hC.ty 41 _ rfl) rfl rfl (by rw [up2_row (by decide)]; exact e1) ?_
        refine wq_s 45 rfl ?_
        refine we_add ((EL.length + 1 : Nat) : Int) 46 rfl rfl (by omega) (by omega) ?_
        refine wq_putE 3 49 rfl rfl (hC.lt (by omega)) (hC.ty 41 _ rfl) rfl (by decide) (Or.inl rfl) rfl ?_
        exact wq_ret rfl ⟨rfl, (by
              rw [ntL_1 b_13, show ntD v dd = dd from if_neg (by omega)]
              refine ⟨by rw [up2_at, List.length_append]; rfl, by rw [up2_ne (Or.inr (by decide)), up2_row (by decide)]; exact e2, fun j hj => ?_⟩
              rw [List.length_append] at hj
              have hj : j < EL.length + 1 := hj
              rw [up2_row (by decide)]
              by_cases h5 : j < EL.length
              · rw [gD_l h5, up2_ne (Or.inr (by omega))]
                exact e3 j h5
              · have h6 : j = EL.length := by omega
                rw [h6, gD_x, up2_at]), fun a h1 h2 => by rw [up2_row h1, up2_row h2], fun j h3 _ => by rw [up2_ne (Or.inr h3), up2_row (by decide)]⟩
    · subst M1
      dsimp only [Option.toList, List.cons_append, List.nil_append]
      refine wq_s 49 rfl ?_
      exact wq_ret rfl ⟨rfl, (by
            rw [ntL_n b_13, show ntD v dd = dd from if_neg (by omega)]
            exact hE), fun _ _ _ => rfl, fun _ _ _ => rfl⟩
  · have c_1 := of_decide_eq_false c_1
    refine wq_s 5 rfl ?_
    refine wq_s 6 rfl ?_
    refine wq_putE 4 9 rfl rfl (hC.lt (by omega)) (hC.ty 41 _ rfl) rfl (by decide) (by decide) rfl ?_
    refine wq_s 49 rfl ?_
    exact wq_ret rfl ⟨rfl, (by
          have h0 : v = 0 := by omega
          subst h0
          rw [ntL_n (by decide)]
          refine ⟨by rw [up2_ne (Or.inr (by decide))]; exact e1, up2_at, fun j hj => by rw [up2_row (by decide)]; exact e3 j hj⟩), fun a h1 _ => up2_row h1, fun j _ h4 => up2_ne (Or.inr h4)⟩
theorem c_remove {d : Nat} {G : GT} {M : MT} {Y W : Nat → Nat} {lg EL : List Nat} {i c e : Nat} (hC : ClsG G) (hS : ShpAt M) (hY : ∀ c, c < 81 → Y c < 512) (hV : SvC M Y lg EL 0) (hI : ClI W (drF Y lg) EL i 0) (hi : i ≤ EL.length) (hc : c < 81) (he : e < 9) (hb : (drF Y lg c).testBit e = true) (hk : ∀ Z, ClosedI Z → Undead Z → SubB Z W → ¬ (Z c).testBit e = true) : Mq (d + 2) k_X5_remove [vR 45, vI (c : Int), vI (e : Int)] G M (fun z M' => z = none ∧ (∃ EL' dd', SvC M' Y (lg ++ [9 * c + e]) EL' dd' ∧ ClI W (drF Y (lg ++ [9 * c + e])) EL' i dd' ∧ ∃ R, EL' = EL ++ R) ∧ FrC M M') := by
  obtain ⟨n, hn⟩ : ∃ n, n = 9 * c + e := ⟨_, rfl⟩
  have n9 : n / 9 = c := by omega
  have m9 : n % 9 = e := by omega
  have hn7 : n < 729 := by omega
  have hX := (hV.2.1.all hY).2
  have hh : hasN (drF Y lg) n = 1 := (hasN_tb _ _).2 (by rw [n9, m9]; exact hb)
  have hcn := (hV.2.1.all hY).1
  have hcx := xo_cnt hX hn7 hh
  have hcl := cntX_le Y
  have hdr := hI.drop hX hn7 hh (by rw [n9, m9]; exact hk)
  have hH2 := hV.2.1.app hn7 hh
  have hXl : ∀ c, c < 81 → drF Y (lg ++ [n]) c < 512 := by rw [drF_app]; exact xo_lt hX
  rw [← drF_app] at hdr
  rw [← hn]
  have L_29 : ∀ (f s : Nat) (EL2 : List Nat) (dd2 : Nat) (M2 : MT) (y4 : Option AV), 3 - s < f → s ≤ 3 → (EvAt M2 EL2 dd2) → (NtI (drF Y (lg ++ [n])) EL2 (fun x => ∃ t, s + 1 ≤ t ∧ t < 4 ∧ x = evN n t) i dd2) → (∃ R, EL2 = EL ++ R) → (BdAt M2 51 (drF Y (lg ++ [n])) (lg ++ [n])) → (FrC M M2) → Wq (d + 2) k_X5_remove 29 [some (vR 45), some (vI ((c : Nat) : Int)), some (vI ((e : Nat) : Int)), some (vI ((s : Nat) : Int)), y4] [] G M2 (fun z M' => z = none ∧ (∃ EL' dd', SvC M' Y (lg ++ [n]) EL' dd' ∧ ClI W (drF Y (lg ++ [n])) EL' i dd' ∧ ∃ R, EL' = EL ++ R) ∧ FrC M M') := by
    intro f
    induction f with
    | zero => intro s EL2 dd2 M2 y4 h; exact absurd h (by omega)
    | succ f ih_s =>
      intro s EL2 dd2 M2 y4 hf_s hk_s a1 a2 a3 a4 a5
      refine wq_s 30 rfl ?_
      refine wq_s 31 rfl ?_
      refine wq_icmp 79 rfl rfl (by omega) (by omega) (fun c_31 => ?_) (fun c_31 => ?_)
      · have c_31 := of_decide_eq_true c_31
        have e9 : s = 3 := by omega
        subst e9
        exact wq_ret rfl ⟨rfl, ⟨EL2, dd2, ⟨a4, hH2, a1⟩, a2.fin hdr.1 (fun x hx ⟨t, t1, t2, _⟩ => by omega), a3⟩, a5⟩
      · have c_31 := of_decide_eq_false c_31
        have ho3 := (ho_ok hc (show s < 3 by omega)).2.2.1
        refine wq_s 36 rfl ?_
        refine wq_s 37 rfl ?_
        refine wq_getR 40 rfl rfl (hC.lt (by omega)) (hC.ty 41 _ rfl) rfl ?_
        refine wq_getR 43 rfl rfl (hC.lt (by omega)) (hC.ty 1 _ rfl) rfl ?_
        refine wq_s 44 rfl ?_
        refine wq_s 45 rfl ?_
        refine we_mul ((3 * c : Nat) : Int) 46 rfl rfl (by omega) (by omega) ?_
        refine wq_s 47 rfl ?_
        refine we_add (((3 * c) + s : Nat) : Int) 48 rfl rfl (by omega) (by omega) ?_
        refine wq_iald (v := ((hoN c s : Nat) : Int)) 49 rfl rfl (hC.lt (by omega)).2 (hC.ty 3 _ rfl) (by omega) (by omega) (by omega) ((a5.shp hS).2.1 c s hc (by omega)).1 ?_
        refine we_mul ((9 * (hoN c s) : Nat) : Int) 50 rfl rfl (by omega) (by omega) ?_
        refine wq_s 51 rfl ?_
        refine we_add (((9 * (hoN c s)) + e : Nat) : Int) 52 rfl rfl (by omega) (by omega) ?_
        refine wq_s 54 rfl ?_
        refine wq_s 55 rfl ?_
        refine wq_s 56 rfl ?_
        refine wq_getR 59 rfl rfl (hC.lt (by omega)) (hC.ty 41 _ rfl) rfl ?_
        refine wq_getR 62 rfl rfl (hC.lt (by omega)) (hC.ty 47 _ rfl) rfl ?_
        refine wq_s 64 rfl ?_
        refine wq_iald (v := ((plH (drF Y (lg ++ [n])) (hoN c s) e : Nat) : Int)) 65 rfl rfl (hC.lt (by omega)).2 (hC.ty 49 _ rfl) (by omega) (by omega) (by omega) (a4.1.2 (hoN c s) e ho3 he) ?_
        refine wq_s 67 rfl ?_
        refine wq_s 69 rfl ?_
        refine we_add ((81 + ((9 * (hoN c s)) + e) : Nat) : Int) 70 rfl rfl (by omega) (by omega) ?_
        have evs : evN n (s + 1) = 81 + (9 * hoN c s + e) := by rw [evN_s, n9, m9]
        have ebs : evB (drF Y (lg ++ [n])) (81 + (9 * hoN c s + e)) = plH (drF Y (lg ++ [n])) (hoN c s) e := evB_p he
        have hpl := plH_lt (drF Y (lg ++ [n])) (hoN c s) e
        refine wq_vt2 73 rfl rfl (Nat.le_of_ble_eq_true rfl) (hC.lt (by omega)) (hC.ty 41 _ rfl) rfl (Nat.le_of_ble_eq_true rfl) (c_noteCount (v := plH (drF Y (lg ++ [n])) (hoN c s) e) (ev := 81 + (9 * hoN c s + e)) hC a1 hpl (by omega) (fun z => a2.lt ⟨s + 1, Nat.le_refl _, by omega, evs.symm⟩ (by omega) (by rw [ebs]; exact z))) (fun r M3 hr => ?_)
        obtain ⟨rfl, g1, g2, g3⟩ := hr
        dsimp only [Option.toList, List.cons_append, List.nil_append]
        have hN1 := a2.note (L' := fun x => ∃ t, s + 1 + 1 ≤ t ∧ t < 4 ∧ x = evN n t) (by obtain ⟨R, hR⟩ := a3; rw [hR, List.length_append]; omega) ⟨s + 1, Nat.le_refl _, by omega, evs.symm⟩ (by omega : 81 + (9 * hoN c s + e) < 324) (fun x hx => ⟨fun ⟨t, t1, t2, t3⟩ => ⟨⟨t, by omega, t2, t3⟩, fun z => by have := evN_inj hn7 t2 (by omega) (t3.symm.trans (z.trans evs.symm)); omega⟩, fun ⟨⟨t, t1, t2, t3⟩, t4⟩ => ⟨t, by
          by_cases h5 : t = s + 1
          · subst h5
            exact absurd (t3.trans evs) t4
          · omega, t2, t3⟩⟩)
        rw [ebs] at hN1
        refine we_inc 3 1 ((s + 1 : Nat) : Int) 76 _ rfl rfl rfl (by omega) (by omega) rfl ?_
        refine wq_s 29 rfl ?_
        exact ih_s (s + 1) _ _ _ _ (by omega) (by omega) g1 hN1 (by obtain ⟨R, hR⟩ := a3; obtain ⟨R', hR'⟩ := ntL_pre (plH (drF Y (lg ++ [n])) (hoN c s) e) (81 + (9 * hoN c s + e)) EL2; exact ⟨R ++ R', by rw [hR', hR, List.append_assoc]⟩) (a4.fr (fun a h1 h2 => g2 a (by omega) (by omega))) (a5.trans ⟨fun a h1 h2 _ => g2 a h1 h2, g3⟩)
  refine wq_s 1 rfl ?_
  refine wq_getR 4 rfl rfl (hC.lt (by omega)) (hC.ty 41 _ rfl) rfl ?_
  refine wq_s 6 rfl ?_
  refine wq_s 7 rfl ?_
  refine we_mul ((9 * c : Nat) : Int) 8 rfl rfl (by omega) (by omega) ?_
  refine wq_s 9 rfl ?_
  refine we_add (((9 * c) + e : Nat) : Int) 10 rfl rfl (by omega) (by omega) ?_
  refine wq_vt1 13 rfl rfl (Nat.le_of_ble_eq_true rfl) (hC.lt (by omega)) (hC.ty 47 _ rfl) rfl (Nat.le_of_ble_eq_true rfl) (by rw [← hn]; exact c_X0_drop hC hb51 hS hV.1 hn7 hh (by omega)) (fun r M1 hr => ?_)
  obtain ⟨rfl, hB1, hF1⟩ := hr
  rw [← drF_app] at hB1
  dsimp only [Option.toList, List.cons_append, List.nil_append]
  have hx1 := hXl c hc
  refine wq_s 14 rfl ?_
  refine wq_s 15 rfl ?_
  refine wq_getR 18 rfl rfl (hC.lt (by omega)) (hC.ty 41 _ rfl) rfl ?_
  refine wq_getR 21 rfl rfl (hC.lt (by omega)) (hC.ty 47 _ rfl) rfl ?_
  refine wq_s 22 rfl ?_
  refine wq_iald (v := ((drF Y (lg ++ [n]) c : Nat) : Int)) 23 rfl rfl (hC.lt (by omega)).2 (hC.ty 48 _ rfl) (by omega) (by omega) (by omega) (hB1.1.1 c hc).1 ?_
  refine wq_s 24 rfl ?_
  have hE1 : EvAt M1 EL 0 := hV.2.2.fr (hF1 _ (by decide)) (hF1 _ (by decide))
  have ev0 : evN n 0 = c := n9
  have eb0 : evB (drF Y (lg ++ [n])) c = drF Y (lg ++ [n]) c := evB_c hc
  refine wq_vt2 27 rfl rfl (Nat.le_of_ble_eq_true rfl) (hC.lt (by omega)) (hC.ty 41 _ rfl) rfl (Nat.le_of_ble_eq_true rfl) (c_noteCount (v := drF Y (lg ++ [n]) c) (ev := c) hC hE1 hx1 (by omega) (fun z => hdr.2.lt ⟨0, by decide, ev0.symm⟩ (by omega) (by rw [eb0]; exact z))) (fun r M3 hr => ?_)
  obtain ⟨rfl, g1, g2, g3⟩ := hr
  dsimp only [Option.toList, List.cons_append, List.nil_append]
  have hN1 := hdr.2.note (L' := fun x => ∃ t, 0 + 1 ≤ t ∧ t < 4 ∧ x = evN n t) hi ⟨0, by decide, ev0.symm⟩ (by omega : c < 324) (fun x hx => ⟨fun ⟨t, t1, t2, t3⟩ => ⟨⟨t, t2, t3⟩, fun z => by have := evN_inj hn7 t2 (by decide) (t3.symm.trans (z.trans ev0.symm)); omega⟩, fun ⟨⟨t, t2, t3⟩, t4⟩ => ⟨t, by
    cases t with
    | zero => exact absurd (t3.trans ev0) t4
    | succ t => omega, t2, t3⟩⟩)
  rw [eb0] at hN1
  have hF3 : FrC M M3 := ⟨fun a h1 h2 h3 => (g2 a h1 h2).trans (hF1 a h3), fun j h1 h2 => (g3 j h1 h2).trans (congrFun (hF1 _ (by decide)) j)⟩
  have hB3 : BdAt M3 51 (drF Y (lg ++ [n])) (lg ++ [n]) := hB1.fr (fun a h1 h2 => g2 a (by omega) (by omega))
  refine wq_s 28 rfl ?_
  refine wq_s 29 rfl ?_
  exact L_29 4 0 _ _ M3 _ (by omega) (by omega) g1 hN1 (ntL_pre _ _ _) hB3 hF3
