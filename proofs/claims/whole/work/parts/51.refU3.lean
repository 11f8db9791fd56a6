/-! meets -/
theorem c_X9_meets {d : Nat} {G : GT} {M : MT} {o : Nat} {W : Nat → Nat} {S : SrS} (hG : RefG G o) (hW : AtB M (o + 26) W) (hS : RefSr M o S) (hd : S.2.2.2.1 ≤ 81) (hns : S.2.2.2.2.1 ≤ 1) : Mq (d + 5) k_X9_meets [vR o] G M (fun z M' => z = none ∧ RefSr M' o (meetF W S) ∧ FrM M M' o) := by
  refine wq_s 1 rfl ?_
  refine wq_vt0 4 rfl rfl (Nat.le_of_ble_eq_true rfl) hG.ob hG.2.2.1 rfl (Nat.le_of_ble_eq_true rfl) (c_X9_closes hG hW) (fun z M1 hz => ?_)
  obtain ⟨rfl, ⟨R1, hB1, hCI, hCl⟩, hF1⟩ := hz
  dsimp only [Option.toList, List.cons_append, List.nil_append]
  have hS1 : RefSr M1 o S := hS.fr (fun i _ _ => by rw [hF1 o (by omega) (by omega)]) (fun a _ _ => hF1 a (by omega) (by omega)) (hF1 _ (by omega) (by omega))
  have hFM1 : FrM M M1 o := ⟨fun a h1 h2 h3 => hF1 a h2 (by omega), fun i _ => by rw [hF1 o (by omega) (by omega)]⟩
  refine wq_s 5 rfl ?_
  refine wq_vt0 8 rfl rfl (Nat.le_of_ble_eq_true rfl) hG.ob hG.2.2.1 rfl (Nat.le_of_ble_eq_true rfl) (c_X9_isDead hG hB1) (fun z M2 hz => ?_)
  rcases hz with ⟨rfl, hdead, hM2⟩ | ⟨rfl, hdead, hM2⟩
  · subst M2
    dsimp only [Option.toList, List.cons_append, List.nil_append]
    refine wq_s 11 rfl ?_
    exact wq_ret rfl ⟨rfl, (by rw [meetF_n (closeF_f hCI hdead)]; exact hS1), hFM1⟩
  subst M2
  dsimp only [Option.toList, List.cons_append, List.nil_append]
  obtain ⟨R, hcf, hcu, heq⟩ := closeF_t (W := W) (R := R1) ⟨hdead, hCl, hCI.1, hCI.2.1, hCI.2.2⟩
  have hB : AtB M1 (o + 26) R := hB1.ext heq
  obtain ⟨e1, e2, e3, e4, e5, e6, e7⟩ := id hS1
  have hlt : ∀ c, c < 81 → R c < 512 := fun c hc => (hB c hc).2
  have hnz : ∀ c, c < 81 → R c ≠ 0 := hcu.1.1
  have L_133 : ∀ (f c : Nat) (M2 : MT) (y3 : Option AV), 81 - c < f → c ≤ 81 → (0 ≤ fwN R 81) → (∀ c1, c1 < c → M2 (o + 23) ((81 * S.2.2.2.1 + c1 : Nat) : Int) = ((R c1 : Nat) : Int)) → (∀ j : Int, j < 81 * S.2.2.2.1 → M2 (o + 23) j = M1 (o + 23) j) → (∀ a, a ≠ o + 23 → M2 a = M1 a) → Wq (d + 5) k_X9_meets 133 [some (vR o), some (vI (fwN R 81)), some (vI ((c : Nat) : Int)), y3] [] G M2 (fun z M' => z = none ∧ RefSr M' o (meetF W S) ∧ FrM M M' o) := by
    intro f
    induction f with
    | zero => intro c M2 y3 h; exact absurd h (by omega)
    | succ f ih_c =>
      intro c M2 y3 hf_c hk_c hfw a1 a2 a3
      refine wq_s 134 rfl ?_
      refine wq_s 136 rfl ?_
      refine wq_icmp 165 rfl rfl (by omega) (by omega) (fun c_136 => ?_) (fun c_136 => ?_)
      · have c_136 := of_decide_eq_true c_136
        have e9 : c = 81 := by omega
        subst e9
        refine wq_s 166 rfl ?_
        refine wq_getR 169 rfl rfl hG.ob hG.2.2.1 rfl ?_
        refine wq_s 170 rfl ?_
        refine wq_getE (v := ((S.2.2.2.1 : Nat) : Int)) 39 173 rfl rfl hG.ob hG.2.2.1 rfl rfl (by rw [a3 _ (by omega)]; exact e4) ?_
        refine wq_s 174 rfl ?_
        have hrg := fwN_rng R 81
        refine wq_iast 175 rfl rfl hG.a_cellAt.1 hG.a_cellAt.2 (by omega) (by omega) (by omega) ?_
        refine wq_s 176 rfl ?_
        refine wq_getR 179 rfl rfl hG.ob hG.2.2.1 rfl ?_
        refine wq_s 180 rfl ?_
        refine wq_getE (v := ((S.2.2.2.1 : Nat) : Int)) 39 183 rfl rfl hG.ob hG.2.2.1 rfl rfl (by rw [up2_ne (Or.inl (by omega)), a3 _ (by omega)]; exact e4) ?_
        refine wq_s 184 rfl ?_
        refine wq_iast 185 rfl rfl hG.a_triedAt.1 hG.a_triedAt.2 (by omega) (by omega) (by omega) ?_
        refine wq_s 186 rfl ?_
        refine wq_s 187 rfl ?_
        refine wq_getE (v := ((S.2.2.2.1 : Nat) : Int)) 39 190 rfl rfl hG.ob hG.2.2.1 rfl rfl (by rw [up2_ne (Or.inl (by omega)), up2_ne (Or.inl (by omega)), a3 _ (by omega)]; exact e4) ?_
        refine wq_s 191 rfl ?_
        refine we_add ((S.2.2.2.1 + 1 : Nat) : Int) 192 rfl rfl (by omega) (by omega) ?_
        refine wq_putE 39 195 rfl rfl hG.ob hG.2.2.1 rfl (by decide) (Or.inl rfl) rfl ?_
        refine wq_ret rfl ⟨rfl, ?_, ?_⟩
        · rw [meetF_p hcf (by omega)]
          refine ⟨?_, ?_, ?_, up2_at, ?_, fun i hi => ?_, fun k hk c hc => ?_⟩
          · rw [up2_ne (Or.inr (by decide)), up2_ne (Or.inl (by omega)), up2_ne (Or.inl (by omega)), a3 _ (by omega)]; exact e1
          · rw [up2_ne (Or.inr (by decide)), up2_ne (Or.inl (by omega)), up2_ne (Or.inl (by omega)), a3 _ (by omega)]; exact e2
          · rw [up2_ne (Or.inr (by decide)), up2_ne (Or.inl (by omega)), up2_ne (Or.inl (by omega)), a3 _ (by omega)]; exact e3
          · rw [up2_ne (Or.inr (by decide)), up2_ne (Or.inl (by omega)), up2_ne (Or.inl (by omega)), a3 _ (by omega)]; exact e5
          · have hi : i < S.2.2.2.1 + 1 := hi
            dsimp only
            refine ⟨fun c hc => ?_, ?_, ?_⟩
            · rw [up2_row (by omega), up2_row (by omega), up2_row (by omega)]
              by_cases hid : i = S.2.2.2.1
              · subst hid
                rw [if_pos rfl]
                exact a1 c hc
              · rw [if_neg hid, a2 _ (by omega)]
                exact (e6 i (by omega)).1 c hc
            · rw [up2_row (by omega), up2_row (by omega)]
              by_cases hid : i = S.2.2.2.1
              · subst hid
                rw [if_pos rfl, up2_at]
                show fwN R 81 = ((fwN R 81).toNat : Int)
                omega
              · rw [if_neg hid, up2_ne (Or.inr (by omega)), a3 _ (by omega)]
                exact (e6 i (by omega)).2.1
            · rw [up2_row (by omega)]
              by_cases hid : i = S.2.2.2.1
              · subst hid
                rw [if_pos rfl, up2_at]
                rfl
              · rw [if_neg hid, up2_ne (Or.inr (by omega)), up2_row (by omega), a3 _ (by omega)]
                exact (e6 i (by omega)).2.2
          · rw [up2_row (by omega), up2_row (by omega), up2_row (by omega), a3 _ (by omega)]
            exact e7 k hk c hc
        · refine ⟨fun a h1 h2 h3 => ?_, fun i hi => ?_⟩
          · rw [up2_row h1, up2_row (by omega), up2_row (by omega), a3 a (by omega)]
            exact hFM1.1 a h1 h2 h3
          · rw [up2_ne (Or.inr (by omega)), up2_ne (Or.inl (by omega)), up2_ne (Or.inl (by omega)), a3 o (by omega)]
            exact hFM1.2 i hi
      · have c_136 := of_decide_eq_false c_136
        refine wq_s 140 rfl ?_
        refine wq_getR 143 rfl rfl hG.ob hG.2.2.1 rfl ?_
        refine wq_s 145 rfl ?_
        refine wq_s 146 rfl ?_
        refine wq_getE (v := ((S.2.2.2.1 : Nat) : Int)) 39 149 rfl rfl hG.ob hG.2.2.1 rfl rfl (by rw [a3 _ (by omega)]; exact e4) ?_
        refine we_mul ((81 * S.2.2.2.1 : Nat) : Int) 150 rfl rfl (by omega) (by omega) ?_
        refine wq_s 151 rfl ?_
        refine we_add (((81 * S.2.2.2.1) + c : Nat) : Int) 152 rfl rfl (by omega) (by omega) ?_
        refine wq_s 153 rfl ?_
        refine wq_getR 156 rfl rfl hG.ob hG.2.2.1 rfl ?_
        refine wq_s 157 rfl ?_
        refine wq_iald (v := ((R c : Nat) : Int)) 158 rfl rfl hG.a_work.1.2 hG.a_work.2 (by omega) (by omega) (by omega) (by rw [a3 _ (by omega)]; exact (hB c (by omega)).1) ?_
        refine wq_iast 159 rfl rfl hG.a_level1.1 hG.a_level1.2 (by omega) (by omega) (by omega) ?_
        refine we_inc 2 1 ((c + 1 : Nat) : Int) 162 _ rfl rfl rfl (by omega) (by omega) rfl ?_
        refine wq_s 133 rfl ?_
        refine ih_c (c + 1) _ _ (by omega) (by omega) hfw ?_ ?_ ?_
        · intro c1 g1
          by_cases hc1 : c1 = c
          · subst hc1
            exact up2_at
          · exact (up2_ne (Or.inr (by omega))).trans (a1 c1 (by omega))
        · intro j g1
          exact (up2_ne (Or.inr (by omega))).trans (a2 j g1)
        · intro a ha
          exact (up2_row ha).trans (a3 a ha)
  have L_74 : ∀ (f c : Nat) (M2 : MT) (y3 : Option AV), 81 - c < f → c ≤ 81 → (fwN R 81 < 0) → (∀ c1, c1 < c → M2 (o + 27) ((81 * S.2.2.2.2.1 + c1 : Nat) : Int) = ((dgF (R c1) : Nat) : Int)) → (∀ j : Int, j < 81 * S.2.2.2.2.1 → M2 (o + 27) j = M1 (o + 27) j) → (∀ a, a ≠ o + 27 → M2 a = M1 a) → Wq (d + 5) k_X9_meets 74 [some (vR o), some (vI (fwN R 81)), some (vI ((c : Nat) : Int)), y3] [] G M2 (fun z M' => z = none ∧ RefSr M' o (meetF W S) ∧ FrM M M' o) := by
    intro f
    induction f with
    | zero => intro c M2 y3 h; exact absurd h (by omega)
    | succ f ih_c =>
      intro c M2 y3 hf_c hk_c hfw a1 a2 a3
      refine wq_s 75 rfl ?_
      refine wq_s 77 rfl ?_
      refine wq_icmp 120 rfl rfl (by omega) (by omega) (fun c_77 => ?_) (fun c_77 => ?_)
      · have c_77 := of_decide_eq_true c_77
        have e9 : c = 81 := by omega
        subst e9
        refine wq_s 121 rfl ?_
        refine wq_s 122 rfl ?_
        refine wq_getE (v := ((S.2.2.2.2.1 : Nat) : Int)) 37 125 rfl rfl hG.ob hG.2.2.1 rfl rfl (by rw [a3 _ (by omega)]; exact e5) ?_
        refine wq_s 126 rfl ?_
        refine we_add ((S.2.2.2.2.1 + 1 : Nat) : Int) 127 rfl rfl (by omega) (by omega) ?_
        refine wq_putE 37 130 rfl rfl hG.ob hG.2.2.1 rfl (by decide) (Or.inl rfl) rfl ?_
        refine wq_ret rfl ⟨rfl, ?_, ?_⟩
        · rw [meetF_s hcf (by omega)]
          refine ⟨?_, ?_, ?_, ?_, up2_at, fun i hi => ?_, fun k hk c hc => ?_⟩
          · rw [up2_ne (Or.inr (by decide)), a3 _ (by omega)]; exact e1
          · rw [up2_ne (Or.inr (by decide)), a3 _ (by omega)]; exact e2
          · rw [up2_ne (Or.inr (by decide)), a3 _ (by omega)]; exact e3
          · rw [up2_ne (Or.inr (by decide)), a3 _ (by omega)]; exact e4
          · rw [up2_row (by omega), up2_row (by omega), up2_row (by omega), a3 _ (by omega), a3 _ (by omega), a3 _ (by omega)]
            exact e6 i hi
          · have hk : k < S.2.2.2.2.1 + 1 := hk
            dsimp only
            rw [up2_row (by omega)]
            by_cases hkn : k = S.2.2.2.2.1
            · subst hkn
              rw [if_pos rfl]
              exact a1 c hc
            · rw [if_neg hkn, a2 _ (by omega)]
              exact e7 k (by omega) c hc
        · refine ⟨fun a h1 h2 h3 => ?_, fun i hi => ?_⟩
          · rw [up2_row h1, a3 a (by omega)]
            exact hFM1.1 a h1 h2 h3
          · rw [up2_ne (Or.inr (by omega)), a3 o (by omega)]
            exact hFM1.2 i hi
      · have c_77 := of_decide_eq_false c_77
        have hrc := hlt c (by omega)
        have hrz := hnz c (by omega)
        have hdg : dgF (R c) ≤ 9 := (dg_0 hrz).1 (Nat.div_eq_of_lt hrc)
        have L_82 : ∀ (f2 e : Nat), 9 - e < f2 → e ≤ 9 → (1 ≤ e) → (e ≤ dgF (R c)) → Wq (d + 5) k_X9_meets 82 [some (vR o), some (vI (fwN R 81)), some (vI ((c : Nat) : Int)), some (vI ((e : Nat) : Int))] [] G M2 (fun z M' => z = none ∧ RefSr M' o (meetF W S) ∧ FrM M M' o) := by
          intro f2
          induction f2 with
          | zero => intro e h; exact absurd h (by omega)
          | succ f2 ih_e =>
            intro e hf_e hk_e he1 he2
            obtain ⟨w, hw⟩ : ∃ w, w = R c / 2 ^ e := ⟨_, rfl⟩
            have hw9 : w < 512 := by
              rw [hw]
              exact Nat.lt_of_le_of_lt (Nat.div_le_self _ _) hrc
            refine wq_s 83 rfl ?_
            refine wq_getR 86 rfl rfl hG.ob hG.2.2.1 rfl ?_
            refine wq_s 87 rfl ?_
            refine wq_iald (v := ((R c : Nat) : Int)) 88 rfl rfl hG.a_work.1.2 hG.a_work.2 (by omega) (by omega) (by omega) (by rw [a3 _ (by omega)]; exact (hB c (by omega)).1) ?_
            refine wq_s 89 rfl ?_
            refine we_shr (R c) e w 90 rfl rfl rfl rfl (by omega) (by omega) hw.symm ?_
            refine wq_if 99 rfl rfl (by omega) (fun c_90 => ?_) (fun c_90 => ?_)
            · have c_90 := of_decide_eq_true c_90
              have hed : dgF (R c) ≤ e := (dg_0 hrz).1 (by rw [← hw]; omega)
              refine wq_s 100 rfl ?_
              refine wq_getR 103 rfl rfl hG.ob hG.2.2.1 rfl ?_
              refine wq_s 105 rfl ?_
              refine wq_s 106 rfl ?_
              refine wq_getE (v := ((S.2.2.2.2.1 : Nat) : Int)) 37 109 rfl rfl hG.ob hG.2.2.1 rfl rfl (by rw [a3 _ (by omega)]; exact e5) ?_
              refine we_mul ((81 * S.2.2.2.2.1 : Nat) : Int) 110 rfl rfl (by omega) (by omega) ?_
              refine wq_s 111 rfl ?_
              refine we_add (((81 * S.2.2.2.2.1) + c : Nat) : Int) 112 rfl rfl (by omega) (by omega) ?_
              refine wq_s 113 rfl ?_
              refine wq_iast 114 rfl rfl hG.a_solved.1 hG.a_solved.2 (by omega) (by omega) (by omega) ?_
              refine we_inc 2 1 ((c + 1 : Nat) : Int) 117 _ rfl rfl rfl (by omega) (by omega) rfl ?_
              refine wq_s 74 rfl ?_
              refine ih_c (c + 1) _ _ (by omega) (by omega) hfw ?_ ?_ ?_
              · intro c1 g1
                by_cases hc1 : c1 = c
                · subst hc1
                  rw [up2_at, show e = dgF (R c1) by omega]
                · exact (up2_ne (Or.inr (by omega))).trans (a1 c1 (by omega))
              · intro j g1
                exact (up2_ne (Or.inr (by omega))).trans (a2 j g1)
              · intro a ha
                exact (up2_row ha).trans (a3 a ha)
            · have c_90 := of_decide_eq_false c_90
              have hed : ¬ dgF (R c) ≤ e := fun z => by
                have := (dg_0 hrz).2 z
                rw [← hw] at this
                omega
              refine we_inc 3 1 ((e + 1 : Nat) : Int) 96 _ rfl rfl rfl (by omega) (by omega) rfl ?_
              refine wq_s 82 rfl ?_
              exact ih_e (e + 1) (by omega) (by omega) (by omega) (by omega)
        refine wq_s 81 rfl ?_
        refine wq_s 82 rfl ?_
        exact L_82 9 1 (by omega) (by omega) (by omega) (by unfold dgF; omega)
  have L_16 : ∀ (f c : Nat), 81 - c < f → c ≤ 81 → Wq (d + 5) k_X9_meets 16 [some (vR o), some (vI (fwN R c)), some (vI ((c : Nat) : Int)), none] [] G M1 (fun z M' => z = none ∧ RefSr M' o (meetF W S) ∧ FrM M M' o) := by
    intro f
    induction f with
    | zero => intro c h; exact absurd h (by omega)
    | succ f ih_c =>
      intro c hf_c hk_c 
      have hrg := fwN_rng R c
      refine wq_s 17 rfl ?_
      refine wq_s 19 rfl ?_
      refine wq_icmp 68 rfl rfl (by omega) (by omega) (fun c_19 => ?_) (fun c_19 => ?_)
      · have c_19 := of_decide_eq_true c_19
        have e9 : c = 81 := by omega
        subst e9
        refine wq_s 69 rfl ?_
        refine wq_if 131 rfl rfl (by omega) (fun c_69 => ?_) (fun c_69 => ?_)
        · have c_69 := of_decide_eq_true c_69
          refine wq_s 132 rfl ?_
          refine wq_s 133 rfl ?_
          exact L_133 82 0 _ _ (by omega) (by omega) (by omega) (fun c1 g1 => absurd g1 (Nat.not_lt_zero _)) (fun _ _ => rfl) (fun _ _ => rfl)
        · have c_69 := of_decide_eq_false c_69
          refine wq_s 73 rfl ?_
          refine wq_s 74 rfl ?_
          exact L_74 82 0 _ _ (by omega) (by omega) (by omega) (fun c1 g1 => absurd g1 (Nat.not_lt_zero _)) (fun _ _ => rfl) (fun _ _ => rfl)
      · have c_19 := of_decide_eq_false c_19
        have hrc := hlt c (by omega)
        refine wq_s 23 rfl ?_
        refine wq_getR 26 rfl rfl hG.ob hG.2.2.1 rfl ?_
        refine wq_s 27 rfl ?_
        refine wq_iald (v := ((R c : Nat) : Int)) 28 rfl rfl hG.a_work.1.2 hG.a_work.2 (by omega) (by omega) (by omega) (hB c (by omega)).1 ?_
        refine wq_st1 31 rfl rfl (by decide) (Nat.le_of_ble_eq_true rfl) rfl (Nat.le_of_ble_eq_true rfl) (c_X9_bits (by omega)) (fun r M1 hr => ?_)
        obtain ⟨rfl, hM1⟩ := hr
        subst M1
        dsimp only [Option.toList, List.cons_append, List.nil_append]
        have hpp_28 := pop9_le (R c)
        refine wq_s 32 rfl ?_
        refine wq_icmp 62 rfl rfl (by omega) (by omega) (fun c_32 => ?_) (fun c_32 => ?_)
        · have c_32 := of_decide_eq_true c_32
          refine we_inc 2 1 ((c + 1 : Nat) : Int) 65 _ rfl rfl rfl (by omega) (by omega) rfl ?_
          refine wq_s 16 rfl ?_
          have ee : fwN R (c + 1) = fwN R c := if_neg (fun z => by have := z.1; omega)
          have h9 := ih_c (c + 1) (by omega) (by omega)
          rw [ee] at h9
          exact h9
        · have c_32 := of_decide_eq_false c_32
          refine wq_s 36 rfl ?_
          refine wq_if 60 rfl rfl (by omega) (fun c_36 => ?_) (fun c_36 => ?_)
          · have c_36 := of_decide_eq_true c_36
            refine wq_s 61 rfl ?_
            refine wq_s 62 rfl ?_
            refine we_inc 2 1 ((c + 1 : Nat) : Int) 65 _ rfl rfl rfl (by omega) (by omega) rfl ?_
            refine wq_s 16 rfl ?_
            have ee : fwN R (c + 1) = (c : Int) := if_pos ⟨by omega, Or.inl (by omega)⟩
            have h9 := ih_c (c + 1) (by omega) (by omega)
            rw [ee] at h9
            exact h9
          · have c_36 := of_decide_eq_false c_36
            have hr9 := hlt (fwN R c).toNat (by omega)
            refine wq_s 40 rfl ?_
            refine wq_getR 43 rfl rfl hG.ob hG.2.2.1 rfl ?_
            refine wq_s 44 rfl ?_
            refine wq_iald (v := ((R c : Nat) : Int)) 45 rfl rfl hG.a_work.1.2 hG.a_work.2 (by omega) (by omega) (by omega) (hB c (by omega)).1 ?_
            refine wq_st1 48 rfl rfl (by decide) (Nat.le_of_ble_eq_true rfl) rfl (Nat.le_of_ble_eq_true rfl) (c_X9_bits (by omega)) (fun r M1 hr => ?_)
            obtain ⟨rfl, hM1⟩ := hr
            subst M1
            dsimp only [Option.toList, List.cons_append, List.nil_append]
            have hpp_45 := pop9_le (R c)
            refine wq_s 49 rfl ?_
            refine wq_getR 52 rfl rfl hG.ob hG.2.2.1 rfl ?_
            refine wq_s 53 rfl ?_
            refine wq_iald (v := ((R (fwN R c).toNat : Nat) : Int)) 54 rfl rfl hG.a_work.1.2 hG.a_work.2 (by omega) (by omega) (by omega) (hB.at (by omega) (by omega)).1 ?_
            refine wq_st1 57 rfl rfl (by decide) (Nat.le_of_ble_eq_true rfl) rfl (Nat.le_of_ble_eq_true rfl) (c_X9_bits (by omega)) (fun r M1 hr => ?_)
            obtain ⟨rfl, hM1⟩ := hr
            subst M1
            dsimp only [Option.toList, List.cons_append, List.nil_append]
            have hpp_54 := pop9_le (R (fwN R c).toNat)
            refine wq_icmp 62 rfl rfl (by omega) (by omega) (fun c_57 => ?_) (fun c_57 => ?_)
            · have c_57 := of_decide_eq_true c_57
              refine we_inc 2 1 ((c + 1 : Nat) : Int) 65 _ rfl rfl rfl (by omega) (by omega) rfl ?_
              refine wq_s 16 rfl ?_
              have ee : fwN R (c + 1) = fwN R c := if_neg (fun z => by rcases z.2 with y | y; omega; omega)
              have h9 := ih_c (c + 1) (by omega) (by omega)
              rw [ee] at h9
              exact h9
            · have c_57 := of_decide_eq_false c_57
              refine wq_s 61 rfl ?_
              refine wq_s 62 rfl ?_
              refine we_inc 2 1 ((c + 1 : Nat) : Int) 65 _ rfl rfl rfl (by omega) (by omega) rfl ?_
              refine wq_s 16 rfl ?_
              have ee : fwN R (c + 1) = (c : Int) := if_pos ⟨by omega, Or.inr (by omega)⟩
              have h9 := ih_c (c + 1) (by omega) (by omega)
              rw [ee] at h9
              exact h9
  refine wq_s 12 rfl ?_
  refine wq_s 13 rfl ?_
  refine wq_s 14 rfl ?_
  refine wq_s 15 rfl ?_
  refine wq_s 16 rfl ?_
  exact L_16 82 0 (by omega) (by omega)
