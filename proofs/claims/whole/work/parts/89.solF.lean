/-! the solver: begin, forget -/
theorem c_X5_forget {d : Nat} {G : GT} {M : MT} {Xo : Nat → Nat} (hC : ClsG G) (hX : AtB M 52 Xo) : Mq d k_X5_forget [vR 45] G M (fun z M' => z = none ∧ (∀ (gv : Nat → Nat) (F : Nat → (Nat → Nat) × Nat × Nat) (Sv : Nat → Nat → Nat), ClsSr M' gv (0, 0, 0, 0, 0, F, Sv)) ∧ ∀ a, a ≠ 45 → M' a = M a) := by
  refine wq_s 1 rfl ?_
  refine wq_s 2 rfl ?_
  refine wq_putE 9 5 rfl rfl (hC.lt (by omega)) (hC.ty 41 _ rfl) rfl (by decide) (by decide) rfl ?_
  refine wq_s 6 rfl ?_
  refine wq_s 7 rfl ?_
  refine wq_putE 10 10 rfl rfl (hC.lt (by omega)) (hC.ty 41 _ rfl) rfl (by decide) (by decide) rfl ?_
  refine wq_s 11 rfl ?_
  refine wq_s 12 rfl ?_
  refine wq_putE 11 15 rfl rfl (hC.lt (by omega)) (hC.ty 41 _ rfl) rfl (by decide) (Or.inl rfl) rfl ?_
  refine wq_s 16 rfl ?_
  refine wq_s 17 rfl ?_
  refine wq_putE 12 20 rfl rfl (hC.lt (by omega)) (hC.ty 41 _ rfl) rfl (by decide) (Or.inl rfl) rfl ?_
  refine wq_s 21 rfl ?_
  refine wq_s 22 rfl ?_
  refine wq_putE 8 25 rfl rfl (hC.lt (by omega)) (hC.ty 41 _ rfl) rfl (by decide) (Or.inl rfl) rfl ?_
  exact wq_ret rfl ⟨rfl, fun gv F Sv => ⟨⟨(by rw [up2_ne (Or.inr (by decide)), up2_ne (Or.inr (by decide)), up2_ne (Or.inr (by decide)), up2_ne (Or.inr (by decide)), up2_at]; rfl), (by rw [up2_ne (Or.inr (by decide)), up2_ne (Or.inr (by decide)), up2_ne (Or.inr (by decide)), up2_at]; rfl), (by rw [up2_ne (Or.inr (by decide)), up2_ne (Or.inr (by decide)), up2_at]; rfl), (by rw [up2_at]; rfl), (by rw [up2_ne (Or.inr (by decide)), up2_at]; rfl)⟩, fun k hk => absurd hk (Nat.not_lt_zero _), ⟨Xo, hX.fr (by rw [up2_row (by decide), up2_row (by decide), up2_row (by decide), up2_row (by decide), up2_row (by decide)])⟩, fun z => absurd z (show ¬ (0 : Nat) = 1 by decide)⟩, fun a ha => by rw [up2_row ha, up2_row ha, up2_row ha, up2_row ha, up2_row ha]⟩
theorem c_X5_begin {d : Nat} {G : GT} {M : MT} {gv : Nat → Nat} {S : SrS} (hC : ClsG G) (hS : ShpAt M) (hg : GvAt M 10 gv) (hR : ClsSr M gv S) (hI : SrI S) : Mq (d + 6) k_X5_begin [vR 45, vR 10] G M (fun z M' => z = none ∧ ClsSr M' gv (begF gv S) ∧ ∀ a, (a < 45 ∨ 54 < a) → M' a = M a) := by
  have hY : ∀ c, c < 81 → fstF gv c < 512 := fun c hc => fstF_lt (hg c hc).2
  have hb1 := hI.1.1
  refine wq_s 1 rfl ?_
  refine wq_getE (v := ((S.1 : Nat) : Int)) 9 4 rfl rfl (hC.lt (by omega)) (hC.ty 41 _ rfl) rfl rfl hR.1.1 ?_
  refine wq_if 8 rfl rfl (by omega) (fun c_4 => ?_) (fun c_4 => ?_)
  · have c_4 := of_decide_eq_true c_4
    have hb0 : S.1 = 0 := by omega
    have hz2 := hI.2.1 hb0
    refine wq_s 9 rfl ?_
    refine wq_s 10 rfl ?_
    refine wq_putE 9 13 rfl rfl (hC.lt (by omega)) (hC.ty 41 _ rfl) rfl (by decide) (by decide) rfl ?_
    refine wq_s 14 rfl ?_
    refine wq_getR 17 rfl rfl (hC.lt (by omega)) (hC.ty 41 _ rfl) rfl ?_
    refine wq_s 18 rfl ?_
    obtain ⟨Xo, hXo⟩ := hR.2.2.1
    refine wq_vt1 21 rfl rfl (Nat.le_of_ble_eq_true rfl) (hC.lt (by omega)) (hC.ty 47 _ rfl) rfl (Nat.le_of_ble_eq_true rfl) (c_X0_start (d := d + 4) (b := 51) (q := 10) (Xo := Xo) (gv := gv) hC hb51 (hS.fr (up2_row (by decide)) (up2_row (by decide)) (up2_row (by decide)) (up2_row (by decide))) (hXo.fr (up2_row (by decide))) (hC.lt (by omega)).2 (hC.ty 6 _ rfl) (by decide) (hg.fr (up2_row (by decide)))) (fun r M0 hr => ?_)
    obtain ⟨rfl, hB0, hF0⟩ := hr
    dsimp only [Option.toList, List.cons_append, List.nil_append]
    refine wq_s 22 rfl ?_
    refine wq_s 23 rfl ?_
    refine wq_putE 4 26 rfl rfl (hC.lt (by omega)) (hC.ty 41 _ rfl) rfl (by decide) (by decide) rfl ?_
    refine wq_s 27 rfl ?_
    refine wq_s 28 rfl ?_
    refine wq_putE 3 31 rfl rfl (hC.lt (by omega)) (hC.ty 41 _ rfl) rfl (by decide) (Or.inl rfl) rfl ?_
    obtain ⟨M1, hM1⟩ : ∃ M1 : MT, M1 = up2 (up2 M0 45 4 0) 45 3 0 := ⟨_, rfl⟩
    have f1 : ∀ a, (a < 45 ∨ 54 < a) → M1 a = M a := fun a ha => by rw [hM1, up2_row (by omega), up2_row (by omega), hF0 a (by omega), up2_row (by omega)]
    have hS1 : ShpAt M1 := hS.fr (f1 _ (by decide)) (f1 _ (by decide)) (f1 _ (by decide)) (f1 _ (by decide))
    have hB1 : BdAt M1 51 (fstF gv) [] := hB0.fr (fun a h1 h2 => by rw [hM1, up2_row (by omega), up2_row (by omega)])
    have hE1 : EvAt M1 [] 0 := ⟨by rw [hM1, up2_at]; rfl, by rw [hM1, up2_ne (Or.inr (by decide)), up2_at]; rfl, fun j hj => absurd hj (Nat.not_lt_zero _)⟩
    have g45 : ∀ i : Int, i ≠ 3 → i ≠ 4 → i ≠ 9 → M1 45 i = M 45 i := fun i h1 h2 h3 => by rw [hM1, up2_ne (Or.inr h1), up2_ne (Or.inr h2), hF0 _ (by decide), up2_ne (Or.inr h3)]
    have hNm1 : NmAt M1 (1, S.2) := by
      obtain ⟨⟨n9, n10, n11, n8, n12⟩, -⟩ := id hR
      refine ⟨?_, ?_, ?_, ?_, ?_⟩
      · rw [hM1, up2_ne (Or.inr (by decide)), up2_ne (Or.inr (by decide)), hF0 _ (by decide), up2_at]; rfl
      · rw [g45 _ (by decide) (by decide) (by decide)]; exact n10
      · rw [g45 _ (by decide) (by decide) (by decide)]; exact n11
      · rw [g45 _ (by decide) (by decide) (by decide)]; exact n8
      · rw [g45 _ (by decide) (by decide) (by decide)]; exact n12
    rw [← hM1]
    refine wq_s 32 rfl ?_
    refine wq_s 33 rfl ?_
    have L_61 : ∀ (f k : Nat) (EL2 : List Nat) (dd2 : Nat) (M2 : MT), 243 - k < f → k ≤ 243 → (EvAt M2 EL2 dd2) → (NtI (fstF gv) EL2 (fun e => 81 + k ≤ e) 0 dd2) → (BdAt M2 51 (fstF gv) []) → (FrC M1 M2) → Wq (d + 6) k_X5_begin 61 [some (vR 45), some (vR 10), some (vI ((k : Nat) : Int))] [] G M2 (fun z M' => z = none ∧ ClsSr M' gv (begF gv S) ∧ ∀ a, (a < 45 ∨ 54 < a) → M' a = M a) := by
      intro f
      induction f with
      | zero => intro k EL2 dd2 M2 h; exact absurd h (by omega)
      | succ f ih_k =>
        intro k EL2 dd2 M2 hf_k hk_k a1 a2 a3 a4
        refine wq_s 62 rfl ?_
        refine wq_s 65 rfl ?_
        refine wq_icmp 91 rfl rfl (by omega) (by omega) (fun c_65 => ?_) (fun c_65 => ?_)
        · have c_65 := of_decide_eq_true c_65
          have e9 : k = 243 := by omega
          subst e9
          refine wq_s 92 rfl ?_
          have hCl : ClI (fstF gv) (drF (fstF gv) []) EL2 0 dd2 := a2.fin (fun Z _ _ h c hc i hi => h c hc i hi) (fun e he => by omega)
          have hV2 : SvC M2 (fstF gv) [] EL2 dd2 := ⟨a3, HsL.nil _, a1⟩
          refine wq_vt0 95 rfl rfl (Nat.le_of_ble_eq_true rfl) (hC.lt (by omega)) (hC.ty 41 _ rfl) rfl (Nat.le_of_ble_eq_true rfl) (c_close (d := d) (W := fstF gv) hC (a4.shp hS1) hY hV2 hCl) (fun r M7 hr => ?_)
          obtain ⟨rfl, ⟨lg3, EL3, dd3, i3', p1, p2, p3⟩, p5⟩ := hr
          rw [List.nil_append] at p1 p2
          have hF7 : FrC M1 M7 := a4.trans p5
          have hXf := (p1.2.1.all hY).2
          have hNm : NmAt M7 (1, S.2) := hNm1.fr (fun i hi => hF7.2 i (by omega) (by omega))
          have hAn : AnAt M7 S.2.2.2.2.1 S.2.2.2.2.2.2 := fun k hk => absurd hk (by omega)
          have hSt : StkAt M7 (fstF gv) lg3 S.2.2.2.1 S.2.2.2.2.2.1 := ⟨fun _ => 0, fun i hi => absurd hi (by omega), fun i j _ hj => absurd hj (by omega)⟩
          dsimp only [Option.toList, List.cons_append, List.nil_append]
          refine wq_s 96 rfl ?_
          refine wq_vt0 99 rfl rfl (Nat.le_of_ble_eq_true rfl) (hC.lt (by omega)) (hC.ty 41 _ rfl) rfl (Nat.le_of_ble_eq_true rfl) (c_settle (d := d + 2) (W := fstF gv) (S := (1, S.2)) hC hY p1 hNm hAn hSt ⟨Nat.le_refl _, hI.1.2⟩ (by show S.2.2.2.2.1 ≤ 1; omega) p2.1 (by
            rcases p2.2.2 with z | z
            · exact Or.inl z
            · have h0 := z.1
              subst h0
              have h1 := p2.clo hXf (p3 rfl)
              exact Or.inr ⟨rfl, h1.1, h1.2, by have h9 := p1.2.1; rw [← List.nil_append lg3] at h9 ⊢; exact h9.sub2⟩) (fun _ _ => by show S.2.2.2.1 ≤ 80; omega)) (fun r M8 hr => ?_)
          obtain ⟨rfl, s1, s2⟩ := hr
          dsimp only [Option.toList, List.cons_append, List.nil_append]
          exact wq_ret rfl ⟨rfl, (by rw [show begF gv S = leaveF (meetF (fstF gv) (1, S.2)) from if_pos hb0]; exact s1), fun a ha => by rw [s2 a ha, hF7.1 a (by omega) (by omega) (by omega)]; exact f1 a ha⟩
        · have c_65 := of_decide_eq_false c_65
          refine wq_s 69 rfl ?_
          refine wq_s 70 rfl ?_
          refine wq_getR 73 rfl rfl (hC.lt (by omega)) (hC.ty 41 _ rfl) rfl ?_
          refine wq_getR 76 rfl rfl (hC.lt (by omega)) (hC.ty 47 _ rfl) rfl ?_
          refine wq_s 77 rfl ?_
          refine wq_iald (v := ((plH (fstF gv) (k / 9) (k % 9) : Nat) : Int)) 78 rfl rfl (hC.lt (by omega)).2 (hC.ty 49 _ rfl) (by omega) (by omega) (by omega) (by have := a3.1.2 (k / 9) (k % 9) (by omega) (by omega); rw [show 9 * (k / 9) + k % 9 = k by omega] at this; exact this) ?_
          refine wq_s 80 rfl ?_
          refine wq_s 81 rfl ?_
          refine we_add ((81 + k : Nat) : Int) 82 rfl rfl (by omega) (by omega) ?_
          have ebs : evB (fstF gv) (81 + k) = plH (fstF gv) (k / 9) (k % 9) := by have := evB_p (X := fstF gv) (h := k / 9) (e := k % 9) (by omega); rw [show 9 * (k / 9) + k % 9 = k by omega] at this; exact this
          have hpl := plH_lt (fstF gv) (k / 9) (k % 9)
          refine wq_vt2 85 rfl rfl (Nat.le_of_ble_eq_true rfl) (hC.lt (by omega)) (hC.ty 41 _ rfl) rfl (Nat.le_of_ble_eq_true rfl) (c_noteCount (d := d + 4) (v := plH (fstF gv) (k / 9) (k % 9)) (ev := 81 + k) hC a1 hpl (by omega) (fun z => a2.lt (ev := 81 + k) (Nat.le_refl _) (by omega) (by rw [ebs]; exact z))) (fun r M3 hr => ?_)
          obtain ⟨rfl, g1, g2, g3⟩ := hr
          dsimp only [Option.toList, List.cons_append, List.nil_append]
          have hN1 := a2.note (L' := fun e => 81 + k + 1 ≤ e) (Nat.zero_le _) (Nat.le_refl _) (by omega : 81 + k < 324) (fun x hx => ⟨fun z => ⟨by omega, by omega⟩, fun z => by omega⟩)
          rw [ebs] at hN1
          refine we_inc 2 1 ((k + 1 : Nat) : Int) 88 _ rfl rfl rfl (by omega) (by omega) rfl ?_
          refine wq_s 61 rfl ?_
          exact ih_k (k + 1) _ _ M3 (by omega) (by omega) g1 hN1 (a3.fr (fun a h1 h2 => g2 a (by omega) (by omega))) (a4.trans ⟨fun a h1 h2 _ => g2 a h1 h2, g3⟩)
    have L_33 : ∀ (f k : Nat) (EL2 : List Nat) (dd2 : Nat) (M2 : MT), 81 - k < f → k ≤ 81 → (EvAt M2 EL2 dd2) → (NtI (fstF gv) EL2 (fun e => k ≤ e) 0 dd2) → (BdAt M2 51 (fstF gv) []) → (FrC M1 M2) → Wq (d + 6) k_X5_begin 33 [some (vR 45), some (vR 10), some (vI ((k : Nat) : Int))] [] G M2 (fun z M' => z = none ∧ ClsSr M' gv (begF gv S) ∧ ∀ a, (a < 45 ∨ 54 < a) → M' a = M a) := by
      intro f
      induction f with
      | zero => intro k EL2 dd2 M2 h; exact absurd h (by omega)
      | succ f ih_k =>
        intro k EL2 dd2 M2 hf_k hk_k a1 a2 a3 a4
        refine wq_s 34 rfl ?_
        refine wq_s 36 rfl ?_
        refine wq_icmp 59 rfl rfl (by omega) (by omega) (fun c_36 => ?_) (fun c_36 => ?_)
        · have c_36 := of_decide_eq_true c_36
          have e9 : k = 81 := by omega
          subst e9
          refine wq_s 60 rfl ?_
          refine wq_s 61 rfl ?_
          exact L_61 244 0 _ _ M2 (by omega) (by omega) a1 a2 a3 a4
        · have c_36 := of_decide_eq_false c_36
          refine wq_s 40 rfl ?_
          refine wq_s 41 rfl ?_
          refine wq_getR 44 rfl rfl (hC.lt (by omega)) (hC.ty 41 _ rfl) rfl ?_
          refine wq_getR 47 rfl rfl (hC.lt (by omega)) (hC.ty 47 _ rfl) rfl ?_
          refine wq_s 48 rfl ?_
          refine wq_iald (v := ((fstF gv k : Nat) : Int)) 49 rfl rfl (hC.lt (by omega)).2 (hC.ty 48 _ rfl) (by omega) (by omega) (by omega) (a3.1.1 k (by omega)).1 ?_
          refine wq_s 50 rfl ?_
          have ebs : evB (fstF gv) k = fstF gv k := evB_c (by omega)
          have hpl := hY k (by omega)
          refine wq_vt2 53 rfl rfl (Nat.le_of_ble_eq_true rfl) (hC.lt (by omega)) (hC.ty 41 _ rfl) rfl (Nat.le_of_ble_eq_true rfl) (c_noteCount (d := d + 4) (v := fstF gv k) (ev := k) hC a1 hpl (by omega) (fun z => a2.lt (ev := k) (Nat.le_refl _) (by omega) (by rw [ebs]; exact z))) (fun r M3 hr => ?_)
          obtain ⟨rfl, g1, g2, g3⟩ := hr
          dsimp only [Option.toList, List.cons_append, List.nil_append]
          have hN1 := a2.note (L' := fun e => k + 1 ≤ e) (Nat.zero_le _) (Nat.le_refl _) (by omega : k < 324) (fun x hx => ⟨fun z => ⟨by omega, by omega⟩, fun z => by omega⟩)
          rw [ebs] at hN1
          refine we_inc 2 1 ((k + 1 : Nat) : Int) 56 _ rfl rfl rfl (by omega) (by omega) rfl ?_
          refine wq_s 33 rfl ?_
          exact ih_k (k + 1) _ _ M3 (by omega) (by omega) g1 hN1 (a3.fr (fun a h1 h2 => g2 a (by omega) (by omega))) (a4.trans ⟨fun a h1 h2 _ => g2 a h1 h2, g3⟩)
    exact L_33 82 0 [] 0 M1 (by omega) (by omega) hE1 (ClI.beg _) hB1 (FrC.refl _)
  · have c_4 := of_decide_eq_false c_4
    exact wq_ret rfl ⟨rfl, (by rw [show begF gv S = S from if_neg (by omega)]; exact hR), fun _ _ => rfl⟩
