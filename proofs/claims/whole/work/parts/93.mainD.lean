/-! the class: takeFirstStep, grade, search -/
theorem ClsSt.stp {M M' : MT} {gv X X' C : Nat → Nat} {T T' : List GSt} {en : Nat} {nd : List Nat} {S : SrS} {t t' : Nat} (h : ClsSt M gv X C T en nd S t) (hB : BdAt M' 11 X' (goL T')) (hG : GoAt M' (fun _ => 0)) (hK : ChsAt M' t') (hT : ClsTr M' T') (hd : ∀ a, 1 ≤ a → a ≤ 55 → (a < 11 ∨ (14 < a ∧ a < 19) ∨ 44 < a) → M' a = M a) : ClsSt M' gv X' C T' en nd S t' := by
  obtain ⟨⟨a1, a2⟩, a3, a4, ⟨lc, a5, a6⟩, a7, a8, a9, b1, b2, b3⟩ := h
  refine ⟨⟨a1.fr (hd _ (by decide) (by decide) (by decide)) (hd _ (by decide) (by decide) (by decide)) (hd _ (by decide) (by decide) (by decide)) (hd _ (by decide) (by decide) (by decide)), a2.fr (hd _ (by decide) (by decide) (by decide)) (hd _ (by decide) (by decide) (by decide)) (hd _ (by decide) (by decide) (by decide))⟩, a3.fr (hd _ (by decide) (by decide) (by decide)), hB, ⟨lc, a5.fr (fun a g1 g2 => hd a (by omega) (by omega) (by omega)), a6⟩, hG, hK, hT, ?_, b2.fr ?_ (hd _ (by decide) (by decide) (by decide)), b3.fr (fun a g1 g2 => hd a (by omega) (by omega) (by omega))⟩
  · rw [hd 4 (by decide) (by decide) (by decide)]; exact b1
  · rw [hd 4 (by decide) (by decide) (by decide)]
theorem ClsSt.sr {M M' : MT} {gv X C : Nat → Nat} {T : List GSt} {en : Nat} {nd : List Nat} {S S' : SrS} {t : Nat} (h : ClsSt M gv X C T en nd S t) (hS : ClsSr M' gv S') (he : ∀ a, (a < 45 ∨ 54 < a) → M' a = M a) : ClsSt M' gv X C T en nd S' t := by
  obtain ⟨⟨a1, a2⟩, a3, a4, ⟨lc, a5, a6⟩, a7, a8, a9, b1, b2, b3⟩ := h
  have hd : ∀ a, 1 ≤ a → a ≤ 55 → (a < 45 ∨ 54 < a) → M' a = M a := fun a _ _ h => he a h
  refine ⟨⟨a1.fr (hd _ (by decide) (by decide) (by decide)) (hd _ (by decide) (by decide) (by decide)) (hd _ (by decide) (by decide) (by decide)) (hd _ (by decide) (by decide) (by decide)), a2.fr (hd _ (by decide) (by decide) (by decide)) (hd _ (by decide) (by decide) (by decide)) (hd _ (by decide) (by decide) (by decide))⟩, a3.fr (hd _ (by decide) (by decide) (by decide)), a4.fr (fun a g1 g2 => hd a (by omega) (by omega) (by omega)), ⟨lc, a5.fr (fun a g1 g2 => hd a (by omega) (by omega) (by omega)), a6⟩, a7.fr (hd _ (by decide) (by decide) (by decide)) (hd _ (by decide) (by decide) (by decide)), a8.fr ?_ (hd _ (by decide) (by decide) (by decide)) (hd _ (by decide) (by decide) (by decide)) (hd _ (by decide) (by decide) (by decide)), a9.fr (fun a g1 g2 => hd a (by omega) (by omega) (by omega)), ?_, b2.fr ?_ (hd _ (by decide) (by decide) (by decide)), hS⟩
  · rw [hd 24 (by decide) (by decide) (by decide)]
  · rw [hd 4 (by decide) (by decide) (by decide)]; exact b1
  · rw [hd 4 (by decide) (by decide) (by decide)]
theorem c_takeFirstStep {d : Nat} {G : GT} {M : MT} {gv X C : Nat → Nat} {T : List GSt} {en : Nat} {nd : List Nat} {S : SrS} {t : Nat} (hC : ClsG G) (hS : ClsSt M gv X C T en nd S t) (hO : AbOk X C T en S) (ht : t + 730 < 2147483648) : Mq (d + 9) k_X8_takeFirstStep [vR 4] G M (fun z M' => ((z = some (vI 1) ∧ ∃ s Y t', StepR X s Y ∧ ClsSt M' gv (fun c => andN (X c) (Y c)) C (T ++ [s]) en nd S t' ∧ t' ≤ t + 729) ∨ (z = some (vI 0) ∧ NoStep X ∧ ∃ t', ClsSt M' gv X C T en nd S t' ∧ t' ≤ t + 729)) ∧ FrK M M') := by
  obtain ⟨b1, b2, b3, b4, b5, b6⟩ := id hO
  have hlen := TrOk.len b1.2
  have hgt := b1.1
  have L_2 : ∀ (f r : Nat) (M2 : MT) (y2 : Option AV), 13 - r < f → r ≤ 13 → (ClsSt M2 gv X C T en nd S t) → (∀ r', r' < r → fstP (pP X r') (pairsL r') = none) → (FrK M M2) → Wq (d + 9) k_X8_takeFirstStep 2 [some (vR 4), some (vI ((r : Nat) : Int)), y2] [] G M2 (fun z M' => ((z = some (vI 1) ∧ ∃ s Y t', StepR X s Y ∧ ClsSt M' gv (fun c => andN (X c) (Y c)) C (T ++ [s]) en nd S t' ∧ t' ≤ t + 729) ∨ (z = some (vI 0) ∧ NoStep X ∧ ∃ t', ClsSt M' gv X C T en nd S t' ∧ t' ≤ t + 729)) ∧ FrK M M') := by
    intro f
    induction f with
    | zero => intro r M2 y2 h; exact absurd h (by omega)
    | succ f ih_r =>
      intro r M2 y2 hf_r hk_r a1 a2 a3
      obtain ⟨⟨s1, s2⟩, s3, s4, ⟨lc, s5, s6⟩, s7, s8, s9, s10, s11, s12⟩ := id a1
      refine wq_s 3 rfl ?_
      refine wq_s 5 rfl ?_
      refine wq_icmp 74 rfl rfl (by omega) (by omega) (fun c_5 => ?_) (fun c_5 => ?_)
      · have c_5 := of_decide_eq_true c_5
        refine wq_s 75 rfl ?_
        refine wq_getR 78 rfl rfl (hC.lt (by omega)) (hC.ty 0 _ rfl) rfl ?_
        refine wq_s 79 rfl ?_
        refine wq_getR 82 rfl rfl (hC.lt (by omega)) (hC.ty 0 _ rfl) rfl ?_
        refine wq_vt1 85 rfl rfl (Nat.le_of_ble_eq_true rfl) (hC.lt (by omega)) (hC.ty 20 _ rfl) rfl (Nat.le_of_ble_eq_true rfl) (c_X1_markFirst (d := d + 4) (b := 11) (t := t) (X := X) hC hb11 s1 s4.1 s8 s7 ht) (fun z M3 hz => ?_)
        obtain ⟨⟨t', t1, t2, hK3⟩, f3, hz⟩ := hz
        rcases hz with ⟨rfl, k1, k2⟩ | ⟨m, x, rv, rfl, k12, k13, k14, k16, k17⟩
        · dsimp only [Option.toList, List.cons_append, List.nil_append]
          refine wq_s 86 rfl ?_
          refine wq_s 87 rfl ?_
          refine wq_s 90 rfl ?_
          refine wq_s 91 rfl ?_
          exact wq_ret rfl ⟨Or.inr ⟨rfl, ⟨fun r' hr' => a2 r' (by omega), k1⟩, t', a1.stp (s4.fr (fun a h1 h2 => f3 a (by omega))) k2 hK3 (s9.fr (fun a h1 h2 => f3 a (by omega))) (fun a h1 h2 h3 => f3 a (by omega)), by omega⟩, fun a ha => (f3 a (by omega)).trans (a3 a ha)⟩
        · dsimp only [Option.toList, List.cons_append, List.nil_append]
          have hlc : byN X rv (2 * m) = (thL (byY X rv (2 * m)) 729).length := (thL_cntX (byY X rv (2 * m))).symm
          have hcx : (thL (byY X rv (2 * m)) 729).length = cntX (byY X rv (2 * m)) := thL_cntX _
          have hsp := cnt_split X (byY X rv (2 * m)) (fun c _ => byY_sub _ _ _ _)
          have hcl := cntX_le X
          have hgo := k12.goes
          have hm12 := k12.1
          have hrv0 : rv 0 = x := k12.2.2.2.2.1
          rw [hlc]
          refine wq_s 86 rfl ?_
          refine wq_s 87 rfl ?_
          refine wq_if 92 rfl rfl (by omega) (fun c_87 => ?_) (fun c_87 => ?_)
          · have c_87 := of_decide_eq_true c_87
            refine wq_s 93 rfl ?_
            refine wq_getR 96 rfl rfl (hC.lt (by omega)) (hC.ty 0 _ rfl) rfl ?_
            refine wq_s 98 rfl ?_
            refine wq_s 99 rfl ?_
            refine wq_getR 102 rfl rfl (hC.lt (by omega)) (hC.ty 0 _ rfl) rfl ?_
            refine wq_getE (v := ((2 * m : Nat) : Int)) 16 105 rfl rfl (hC.lt (by omega)) (hC.ty 20 _ rfl) rfl rfl k16 ?_
            refine wq_s 106 rfl ?_
            refine we_div ((m : Nat) : Int) 107 rfl rfl (by omega) (by omega) (by omega) ?_
            refine wq_s 108 rfl ?_
            refine wq_getR 111 rfl rfl (hC.lt (by omega)) (hC.ty 0 _ rfl) rfl ?_
            refine wq_getR 114 rfl rfl (hC.lt (by omega)) (hC.ty 20 _ rfl) rfl ?_
            refine wq_s 115 rfl ?_
            refine wq_iald (v := ((x : Nat) : Int)) 116 rfl rfl (hC.lt (by omega)).2 (hC.ty 31 _ rfl) (by omega) (by omega) (by omega) (by have := k17 0 (by omega); rw [hrv0] at this; exact this) ?_
            refine wq_s 117 rfl ?_
            refine wq_getR 120 rfl rfl (hC.lt (by omega)) (hC.ty 0 _ rfl) rfl ?_
            refine wq_getE (v := ((gTot T : Nat) : Int)) 4 123 rfl rfl (hC.lt (by omega)) (hC.ty 7 _ rfl) rfl rfl (by rw [f3 11 (by decide), ← goL_len]; exact s4.2.1) ?_
            refine wq_s 124 rfl ?_
            refine wq_vt5 127 rfl rfl (Nat.le_of_ble_eq_true rfl) (hC.lt (by omega)) (hC.ty 32 _ rfl) rfl (Nat.le_of_ble_eq_true rfl) (c_X7_write (d := d + 7) (T := T) (r := 13) (p := m) (q := x) (gl := thL (byY X rv (2 * m)) 729) hC (s2.fr (f3 _ (by decide)) (f3 _ (by decide)) (f3 _ (by decide))) (s9.fr (fun a h1 h2 => f3 a (by omega))) b1 (by omega) (by omega)) (fun z M4 hz => ?_)
            obtain ⟨rfl, w1, w2⟩ := hz
            dsimp only [Option.toList, List.cons_append, List.nil_append]
            refine wq_s 128 rfl ?_
            refine wq_getR 131 rfl rfl (hC.lt (by omega)) (hC.ty 0 _ rfl) rfl ?_
            refine wq_s 132 rfl ?_
            refine wq_getR 135 rfl rfl (hC.lt (by omega)) (hC.ty 0 _ rfl) rfl ?_
            refine wq_getR 138 rfl rfl (hC.lt (by omega)) (hC.ty 20 _ rfl) rfl ?_
            refine wq_s 139 rfl ?_
            refine wq_getR 142 rfl rfl (hC.lt (by omega)) (hC.ty 0 _ rfl) rfl ?_
            refine wq_getE (v := ((2 * m : Nat) : Int)) 16 145 rfl rfl (hC.lt (by omega)) (hC.ty 20 _ rfl) rfl rfl (by rw [w2 24 (by decide)]; exact k16) ?_
            have hll : ((List.range (2 * m)).map rv).length = 2 * m := by rw [List.length_map, List.length_range]
            have hlt := lTot_le T b1.2
            refine wq_vt2 148 rfl rfl (Nat.le_of_ble_eq_true rfl) (hC.lt (by omega)) (hC.ty 32 _ rfl) rfl (Nat.le_of_ble_eq_true rfl) (by have h9 := c_X7_writeLinks (d := d + 8) (G := G) (M := M4) (T := T) (r := 13) (p := m) (q := x) (gl := thL (byY X rv (2 * m)) 729) (ls := (List.range (2 * m)).map rv) hC w1 (by omega) (by omega) hlt (fun s hs => by rw [w2 35 (by decide), k17 s (by omega), getD_map (by omega)]); rw [hll] at h9; exact h9) (fun z M6 hz => ?_)
            obtain ⟨rfl, v1, v2⟩ := hz
            have f6 : ∀ a, (a < 19 ∨ 44 < a) → M6 a = M2 a := fun a ha => (v2 a (by omega) (by omega) (by omega)).trans ((w2 a (by omega)).trans (f3 a (by omega)))
            dsimp only [Option.toList, List.cons_append, List.nil_append]
            refine wq_s 149 rfl ?_
            refine wq_getR 152 rfl rfl (hC.lt (by omega)) (hC.ty 0 _ rfl) rfl ?_
            refine wq_s 153 rfl ?_
            refine wq_getR 156 rfl rfl (hC.lt (by omega)) (hC.ty 0 _ rfl) rfl ?_
            refine wq_vt1 159 rfl rfl (Nat.le_of_ble_eq_true rfl) (hC.lt (by omega)) (hC.ty 15 _ rfl) rfl (Nat.le_of_ble_eq_true rfl) (c_X2_leave (d := d + 6) (b := 11) (X := X) (Hd := byY X rv (2 * m)) (lg := goL T) hC hb11 (s1.fr (f6 _ (by decide)) (f6 _ (by decide)) (f6 _ (by decide)) (f6 _ (by decide))) (s4.fr (fun a h1 h2 => f6 a (by omega))) (k14.fr ((v2 _ (by decide) (by decide) (by decide)).trans (w2 _ (by decide))) ((v2 _ (by decide) (by decide) (by decide)).trans (w2 _ (by decide)))) (fun c i _ _ hb => sub_bits (fun c => byY_sub _ _ _ c) c i hb) (by rw [goL_len]; omega)) (fun z M7 hz => ?_)
            obtain ⟨rfl, e1, e2, e3⟩ := hz
            dsimp only [Option.toList, List.cons_append, List.nil_append]
            refine wq_s 160 rfl ?_
            exact wq_ret rfl ⟨Or.inl ⟨rfl, _, _, t', Or.inr ⟨fun r' hr' => a2 r' (by omega), m, x, rv, k12, rfl, rfl⟩, a1.stp (by rw [goL_one]; exact e1) e2 (hK3.fr (by rw [e3 24 (by decide) (by decide) (by decide), v2 24 (by decide) (by decide) (by decide), w2 24 (by decide)]) (by rw [e3 28 (by decide) (by decide) (by decide), v2 28 (by decide) (by decide) (by decide), w2 28 (by decide)]) (by rw [e3 29 (by decide) (by decide) (by decide), v2 29 (by decide) (by decide) (by decide), w2 29 (by decide)]) (by rw [e3 30 (by decide) (by decide) (by decide), v2 30 (by decide) (by decide) (by decide), w2 30 (by decide)])) (v1.fr (fun a h1 h2 => e3 a (by omega) (by omega) (by omega))) (fun a h1 h2 h3 => by rw [e3 a (by omega) (by omega) (by omega), f6 a (by omega)]), by omega⟩, fun a ha => by rw [e3 a (by omega) (by omega) (by omega), f6 a (by omega)]; exact a3 a ha⟩
          · have c_87 := of_decide_eq_false c_87
            exact absurd c_87 (by omega)
      · have c_5 := of_decide_eq_false c_5
        refine wq_s 9 rfl ?_
        refine wq_getR 12 rfl rfl (hC.lt (by omega)) (hC.ty 0 _ rfl) rfl ?_
        refine wq_s 13 rfl ?_
        refine wq_getR 16 rfl rfl (hC.lt (by omega)) (hC.ty 0 _ rfl) rfl ?_
        refine wq_s 17 rfl ?_
        refine wq_vt2 20 rfl rfl (Nat.le_of_ble_eq_true rfl) (hC.lt (by omega)) (hC.ty 17 _ rfl) rfl (Nat.le_of_ble_eq_true rfl) (c_markFirst (d := d) (b := 11) (r := r) (X := X) hC hb11 s1 s4.1 s2 s7 b3 (by omega)) (fun z M3 hz => ?_)
        obtain ⟨hz, f3⟩ := hz
        rcases hz with ⟨p, v, g1, rfl, g2, g3, g4, g5⟩ | ⟨g1, rfl, g2⟩
        · dsimp only [Option.toList, List.cons_append, List.nil_append]
          have hlc : insN X (r : Int) (p : Int) (v : Int) = (thL (insY X (r : Int) (p : Int) (v : Int)) 729).length := (thL_cntX (insY X (r : Int) (p : Int) (v : Int))).symm
          have hcx : (thL (insY X (r : Int) (p : Int) (v : Int)) 729).length = cntX (insY X (r : Int) (p : Int) (v : Int)) := thL_cntX _
          have hsp := cnt_split X (insY X (r : Int) (p : Int) (v : Int)) (fun c _ => insY_sub _ _ _ _ _)
          have hcl := cntX_le X
          rw [hlc] at g2
          rw [hlc]
          refine wq_s 21 rfl ?_
          refine wq_s 22 rfl ?_
          refine wq_if 68 rfl rfl (by omega) (fun c_22 => ?_) (fun c_22 => ?_)
          · have c_22 := of_decide_eq_true c_22
            exact absurd c_22 (by omega)
          · have c_22 := of_decide_eq_false c_22
            refine wq_s 26 rfl ?_
            refine wq_getR 29 rfl rfl (hC.lt (by omega)) (hC.ty 0 _ rfl) rfl ?_
            refine wq_s 30 rfl ?_
            refine wq_s 31 rfl ?_
            refine wq_getR 34 rfl rfl (hC.lt (by omega)) (hC.ty 0 _ rfl) rfl ?_
            refine wq_getE (v := ((p : Nat) : Int)) 3 37 rfl rfl (hC.lt (by omega)) (hC.ty 17 _ rfl) rfl rfl g3 ?_
            refine wq_s 38 rfl ?_
            refine wq_getR 41 rfl rfl (hC.lt (by omega)) (hC.ty 0 _ rfl) rfl ?_
            refine wq_getE (v := ((v : Nat) : Int)) 4 44 rfl rfl (hC.lt (by omega)) (hC.ty 17 _ rfl) rfl rfl g4 ?_
            refine wq_s 45 rfl ?_
            refine wq_getR 48 rfl rfl (hC.lt (by omega)) (hC.ty 0 _ rfl) rfl ?_
            refine wq_getE (v := ((gTot T : Nat) : Int)) 4 51 rfl rfl (hC.lt (by omega)) (hC.ty 7 _ rfl) rfl rfl (by rw [f3 11 (by decide) (by decide) (by decide) (by decide), ← goL_len]; exact s4.2.1) ?_
            refine wq_s 52 rfl ?_
            refine wq_vt5 55 rfl rfl (Nat.le_of_ble_eq_true rfl) (hC.lt (by omega)) (hC.ty 32 _ rfl) rfl (Nat.le_of_ble_eq_true rfl) (c_X7_write (d := d + 7) (T := T) (r := r) (p := p) (q := v) (gl := thL (insY X (r : Int) (p : Int) (v : Int)) 729) hC (s2.fr (f3 _ (by decide) (by decide) (by decide) (by decide)) (f3 _ (by decide) (by decide) (by decide) (by decide)) (f3 _ (by decide) (by decide) (by decide) (by decide))) (s9.fr (fun a h1 h2 => f3 a (by omega) (by omega) (by omega) (by omega))) b1 (by omega) (by omega)) (fun z M4 hz => ?_)
            obtain ⟨rfl, w1, w2⟩ := hz
            dsimp only [Option.toList, List.cons_append, List.nil_append]
            refine wq_s 56 rfl ?_
            refine wq_getR 59 rfl rfl (hC.lt (by omega)) (hC.ty 0 _ rfl) rfl ?_
            refine wq_s 60 rfl ?_
            refine wq_getR 63 rfl rfl (hC.lt (by omega)) (hC.ty 0 _ rfl) rfl ?_
            refine wq_vt1 66 rfl rfl (Nat.le_of_ble_eq_true rfl) (hC.lt (by omega)) (hC.ty 15 _ rfl) rfl (Nat.le_of_ble_eq_true rfl) (c_X2_leave (d := d + 6) (b := 11) (X := X) (Hd := insY X (r : Int) (p : Int) (v : Int)) (lg := goL T) hC hb11 (s1.fr ((w2 _ (by decide)).trans (f3 _ (by decide) (by decide) (by decide) (by decide))) ((w2 _ (by decide)).trans (f3 _ (by decide) (by decide) (by decide) (by decide))) ((w2 _ (by decide)).trans (f3 _ (by decide) (by decide) (by decide) (by decide))) ((w2 _ (by decide)).trans (f3 _ (by decide) (by decide) (by decide) (by decide)))) (s4.fr (fun a h1 h2 => (w2 a (by omega)).trans (f3 a (by omega) (by omega) (by omega) (by omega)))) (g5.fr (w2 _ (by decide)) (w2 _ (by decide))) (fun c i _ _ hb => sub_bits (fun c => insY_sub _ _ _ _ c) c i hb) (by rw [goL_len]; omega)) (fun z M5 hz => ?_)
            obtain ⟨rfl, e1, e2, e3⟩ := hz
            dsimp only [Option.toList, List.cons_append, List.nil_append]
            refine wq_s 67 rfl ?_
            exact wq_ret rfl ⟨Or.inl ⟨rfl, _, _, t, Or.inl ⟨r, p, v, by omega, a2, g1, rfl, rfl⟩, a1.stp (by rw [goL_one]; exact e1) e2 (s8.fr (by rw [e3 24 (by decide) (by decide) (by decide), w2 24 (by decide), f3 24 (by decide) (by decide) (by decide) (by decide)]) (by rw [e3 28 (by decide) (by decide) (by decide), w2 28 (by decide), f3 28 (by decide) (by decide) (by decide) (by decide)]) (by rw [e3 29 (by decide) (by decide) (by decide), w2 29 (by decide), f3 29 (by decide) (by decide) (by decide) (by decide)]) (by rw [e3 30 (by decide) (by decide) (by decide), w2 30 (by decide), f3 30 (by decide) (by decide) (by decide) (by decide)])) (w1.fr (fun a h1 h2 => e3 a (by omega) (by omega) (by omega))) (fun a h1 h2 h3 => by rw [e3 a (by omega) (by omega) (by omega), w2 a (by omega), f3 a (by omega) (by omega) (by omega) (by omega)]), by omega⟩, fun a ha => by rw [e3 a (by omega) (by omega) (by omega), w2 a (by omega), f3 a (by omega) (by omega) (by omega) (by omega)]; exact a3 a ha⟩
        · dsimp only [Option.toList, List.cons_append, List.nil_append]
          refine wq_s 21 rfl ?_
          refine wq_s 22 rfl ?_
          refine wq_s 68 rfl ?_
          refine we_inc 1 1 ((r + 1 : Nat) : Int) 71 _ rfl rfl rfl (by omega) (by omega) rfl ?_
          refine wq_s 2 rfl ?_
          refine ih_r (r + 1) M3 _ (by omega) (by omega) (a1.stp (s4.fr (fun a h1 h2 => f3 a (by omega) (by omega) (by omega) (by omega))) g2 (s8.fr (by rw [f3 24 (by decide) (by decide) (by decide) (by decide)]) (f3 _ (by decide) (by decide) (by decide) (by decide)) (f3 _ (by decide) (by decide) (by decide) (by decide)) (f3 _ (by decide) (by decide) (by decide) (by decide))) (s9.fr (fun a h1 h2 => f3 a (by omega) (by omega) (by omega) (by omega))) (fun a h1 h2 h3 => f3 a (by omega) (by omega) (by omega) (by omega))) (fun r' hr' => ?_) (fun a ha => (f3 a (by omega) (by omega) (by omega) (by omega)).trans (a3 a ha))
          by_cases hrr : r' = r
          · rw [hrr]; exact g1
          · exact a2 r' (by omega)
  refine wq_s 1 rfl ?_
  refine wq_s 2 rfl ?_
  exact L_2 14 0 M _ (by omega) (by omega) hS (fun r' h => absurd h (Nat.not_lt_zero _)) (fun _ _ => rfl)
