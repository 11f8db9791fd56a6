/-! reach: the first chain of a start -/
def ChsAt (M : MT) (t : Nat) : Prop := M 24 14 = (t : Int) ∧ ∀ m : Nat, m < 729 → (0 ≤ M 28 (m : Int) ∧ M 28 (m : Int) ≤ (t : Int)) ∧ (0 ≤ M 29 (m : Int) ∧ M 29 (m : Int) ≤ (t : Int)) ∧ (0 ≤ M 30 (m : Int) ∧ M 30 (m : Int) ≤ (t : Int))
theorem SnAt.new {M : MT} {q t : Nat} (h : ∀ m : Nat, m < 729 → 0 ≤ M q (m : Int) ∧ M q (m : Int) ≤ (t : Int)) : SnAt M q (t + 1) (fun _ => False) := fun m hm => by
  have := h m hm
  exact ⟨⟨this.1, by omega⟩, ⟨fun z => absurd z (by omega), fun z => z.elim⟩⟩
theorem QuAt.fr {M M' : MT} {t : Nat} {Q : List Ent} (h : QuAt M t Q) (h0 : M' 24 13 = M 24 13) (h1 : M' 30 = M 30) (h2 : M' 32 = M 32) (h3 : M' 33 = M 33) (h4 : M' 34 = M 34) : QuAt M' t Q := ⟨h0.trans h.1, h.2.1.fr h1, fun j hj => by rw [h2, h3, h4]; exact h.2.2.1 j hj, h.2.2.2⟩
def BkAt (M : MT) (m : Nat) (rv : Nat → Nat) : Prop := M 33 ((rv (2 * m - 1) : Nat) : Int) = (m : Int) ∧ (∀ k, k < m → M 32 ((rv (2 * k + 1) : Nat) : Int) = ((rv (2 * k) : Nat) : Int)) ∧ ∀ k, 1 ≤ k → k < m → M 31 ((rv (2 * k) : Nat) : Int) = ((rv (2 * k - 1) : Nat) : Int)
/-- the start a begins m pairs, by rv, and no fewer -/
def StF (X : Nat → Nat) (a m : Nat) (rv : Nat → Nat) : Prop := (∀ m', 1 ≤ m' → m' < m → ¬ layJ X a (2 * m' - 1) a) ∧ IsRow X a m rv ∧ layJ X a (2 * m - 1) a ∧ ∀ s, s < 2 * m → rv s < 729
theorem LpI.has {X : Nat → Nat} {a most i : Nat} {Q : List Ent} {H : List Hed} (h : LpI X a most Q H i) {j : Nat} (hj : j < Q.length) : hasN X (qx Q j) = 1 ∧ qx Q j < 729 := by
  obtain ⟨h1, h2, h3, i0, h4, h5, h6, h7⟩ := h
  obtain ⟨w, g1, g2, g3⟩ := h7.2.2 j hj
  have := g2.lt
  exact ⟨this.2.2.2.2.2.1.2.2.1, this.2.1⟩
theorem gd_iff {X : Nat → Nat} {a y : Nat} (hy : y < 729) : (∃ i, i < (wkL X y).length ∧ wkR X a ((wkL X y).getD i 0)) ↔ gdR X a y := by
  constructor
  · rintro ⟨i, h1, h2⟩
    have h6 := flP_at (P := wkP X y) (n := 729) (j := i) h1
    exact ⟨_, h2, hy, h6.1, weakC_sym h6.2⟩
  · rintro ⟨z, h1, h2⟩
    obtain ⟨i, i1, i2⟩ := (flP_mem (wkP X y) 729 z).2 ⟨h2.2.1, weakC_sym h2.2.2⟩
    exact ⟨i, i1, by rw [show (wkL X y).getD i 0 = z from i2]; exact h1⟩
theorem c_reach {d : Nat} {G : GT} {M : MT} {b a most t : Nat} {X : Nat → Nat} (hC : ClsG G) (hb : IsBd b) (hS : ShpAt M) (hB : BdC M b X) (hSg : SgAt M (strongC X)) (hK : ChsAt M t) (htb : t + 1 < 2147483648) (ha : a < 729) (hh : hasN X a = 1) (hm : 1 ≤ most ∧ most ≤ 12) : Mq (d + 2) k_X1_reach [vR 24, vR b, vI (a : Int), vI (most : Int)] G M (fun z M' => ChsAt M' (t + 1) ∧ (∀ c, c ≠ 24 → (c < 27 ∨ 34 < c) → M' c = M c) ∧ (∀ j : Int, j ≠ 5 → j ≠ 13 → j ≠ 14 → M' 24 j = M 24 j) ∧ ((z = some (vI (-1)) ∧ ∀ m, 1 ≤ m → m ≤ most → ¬ layJ X a (2 * m - 1) a) ∨ ∃ m rv, z = some (vI ((rv (2 * m - 1) : Nat) : Int)) ∧ (1 ≤ m ∧ m ≤ most) ∧ StF X a m rv ∧ BkAt M' m rv)) := by
  have L_74 : ∀ (f i : Nat) (Q : List Ent) (H : List Hed) (M2 : MT) (y5 : Option AV), 729 - i < f → i ≤ 729 → (QuAt M2 (t + 1) Q) → (HdAt M2 (t + 1) a H) → (LpI X a most Q H i) → (SnAt M2 28 (t + 1) (wkR X a)) → ((∀ c, c ≠ 24 → (c < 27 ∨ 34 < c) → M2 c = M c)) → ((∀ j : Int, j ≠ 5 → j ≠ 13 → j ≠ 14 → M2 24 j = M 24 j)) → (M2 24 14 = ((t + 1 : Nat) : Int)) → Wq (d + 2) k_X1_reach 74 [some (vR 24), some (vR b), some (vI ((a : Nat) : Int)), some (vI ((most : Nat) : Int)), some (vI ((i : Nat) : Int)), y5] [] G M2 (fun z M' => ChsAt M' (t + 1) ∧ (∀ c, c ≠ 24 → (c < 27 ∨ 34 < c) → M' c = M c) ∧ (∀ j : Int, j ≠ 5 → j ≠ 13 → j ≠ 14 → M' 24 j = M 24 j) ∧ ((z = some (vI (-1)) ∧ ∀ m, 1 ≤ m → m ≤ most → ¬ layJ X a (2 * m - 1) a) ∨ ∃ m rv, z = some (vI ((rv (2 * m - 1) : Nat) : Int)) ∧ (1 ≤ m ∧ m ≤ most) ∧ StF X a m rv ∧ BkAt M' m rv)) := by
    intro f
    induction f with
    | zero => intro i Q H M2 y5 h; exact absurd h (by omega)
    | succ f ih_i =>
      intro i Q H M2 y5 hf_i hk_i a1 b1 b2 c1 a2 a3 a4
      have hq9 := a1.2.2.2.len
      refine wq_s 76 rfl ?_
      refine wq_s 77 rfl ?_
      refine wq_getE (v := ((Q.length : Nat) : Int)) 13 80 rfl rfl (hC.lt (by omega)) (hC.ty 20 _ rfl) rfl rfl a1.1 ?_
      refine wq_icmp 140 rfl rfl (by omega) (by omega) (fun c_80 => ?_) (fun c_80 => ?_)
      · have c_80 := of_decide_eq_true c_80
        refine wq_s 141 rfl ?_
        exact wq_ret rfl ⟨⟨a4, fun m hm => ⟨(c1 m hm).1, (b1.1 m hm).1, (a1.2.1 m hm).1⟩⟩, a2, a3, Or.inl ⟨rfl, b2.fin (by omega)⟩⟩
      · have c_80 := of_decide_eq_false c_80
        refine wq_s 85 rfl ?_
        refine wq_s 88 rfl ?_
        refine wq_icmp 140 rfl rfl (by omega) (by omega) (fun c_88 => ?_) (fun c_88 => ?_)
        · have c_88 := of_decide_eq_true c_88
          exact absurd a1.2.2.2.len (by omega)
        · have c_88 := of_decide_eq_false c_88
          refine wq_s 92 rfl ?_
          refine wq_getR 95 rfl rfl (hC.lt (by omega)) (hC.ty 20 _ rfl) rfl ?_
          refine wq_s 97 rfl ?_
          refine wq_iald (v := ((qx Q i : Nat) : Int)) 98 rfl rfl (hC.lt (by omega)).2 (hC.ty 30 _ rfl) (by omega) (by omega) (by omega) (a1.2.2.1 i (by omega)).1 ?_
          refine wq_s 100 rfl ?_
          refine wq_s 101 rfl ?_
          refine wq_s 102 rfl ?_
          refine wq_s 104 rfl ?_
          obtain ⟨hh9, hx9⟩ := b2.has (j := i) (by omega)
          refine wq_vt2 107 rfl rfl (Nat.le_of_ble_eq_true rfl) (hC.lt (by omega)) (hC.ty 20 _ rfl) rfl (Nat.le_of_ble_eq_true rfl) (c_listWeak (n := qx Q i) hC hb (hS.fr (a2 _ (by decide) (by decide)) (a2 _ (by decide) (by decide)) (a2 _ (by decide) (by decide)) (a2 _ (by decide) (by decide))) (hB.fr (a2 _ (by omega) (by omega)) (a2 _ (by omega) (by omega))) hx9 hh9) (fun z M3 hz => ?_)
          obtain ⟨rfl, g1, g2, g3⟩ := hz
          dsimp only [Option.toList, List.cons_append, List.nil_append]
          refine wq_s 108 rfl ?_
          refine wq_vt0 111 rfl rfl (Nat.le_of_ble_eq_true rfl) (hC.lt (by omega)) (hC.ty 20 _ rfl) rfl (Nat.le_of_ble_eq_true rfl) (c_meetsFirst (t := t + 1) (S := wkR X a) hC g1 (wl_28 hx9) (fun j hj => (flP_at (P := wkP X (qx Q i)) hj).1) (by rw [g3 _ (by decide)]; exact a4) htb (c1.fr (g2 _ (by decide) (by decide)))) (fun z M4 hz => ?_)
          have k1 : ChsAt M3 (t + 1) := ⟨by rw [g3 _ (by decide)]; exact a4, fun m hm => by rw [g2 28 (by decide) (by decide), g2 29 (by decide) (by decide), g2 30 (by decide) (by decide)]; exact ⟨(c1 m hm).1, (b1.1 m hm).1, (a1.2.1 m hm).1⟩⟩
          have k2 : (∀ c, c ≠ 24 → (c < 27 ∨ 34 < c) → M3 c = M c) := fun c h1 h2 => by rw [g2 c h1 (by omega)]; exact a2 c h1 h2
          have k3 : (∀ j : Int, j ≠ 5 → j ≠ 13 → j ≠ 14 → M3 24 j = M 24 j) := fun j h1 h2 h3 => by rw [g3 j h1]; exact a3 j h1 h2 h3
          have q1 : QuAt M3 (t + 1) Q := a1.fr (g3 _ (by decide)) (g2 _ (by decide) (by decide)) (g2 _ (by decide) (by decide)) (g2 _ (by decide) (by decide)) (g2 _ (by decide) (by decide))
          have q2 : HdAt M3 (t + 1) a H := b1.fr (g2 _ (by decide) (by decide)) (g2 _ (by decide) (by decide))
          rcases hz with ⟨rfl, b_108, hM4⟩ | ⟨rfl, b_108, hM4⟩
          · subst M4
            dsimp only [Option.toList, List.cons_append, List.nil_append]
            rw [gd_iff hx9] at b_108
            refine wq_s 114 rfl ?_
            obtain ⟨z1, z2, rv, r1, r2, r3, r4, r5, r6⟩ := b2.good (by omega) b_108 hm.1
            refine wq_s 116 rfl ?_
            exact wq_ret rfl ⟨k1, k2, k3, Or.inr ⟨qp Q i, rv, (by rw [r4]), z1, ⟨z2, r1, r2, r3⟩, (by rw [r4]; exact (q1.2.2.1 i (by omega)).2.2), fun k hk => (by obtain ⟨j, j1, j2, j3⟩ := r5 k hk; rw [← j2, ← j3]; exact (q1.2.2.1 j j1).2.1), fun k h1 h2 => (by obtain ⟨e, e1, e2⟩ := r6 k h1 h2; have h9 := (q2.2 e e1).1; rw [e2] at h9; exact h9)⟩⟩
          · subst M4
            dsimp only [Option.toList, List.cons_append, List.nil_append]
            rw [gd_iff hx9] at b_108
            refine wq_s 117 rfl ?_
            have hp9 : qp Q i ≤ 13 := (a1.2.2.2.2 i (by omega)).2.2
            refine wq_s 118 rfl ?_
            refine wq_getR 121 rfl rfl (hC.lt (by omega)) (hC.ty 20 _ rfl) rfl ?_
            refine wq_s 123 rfl ?_
            refine wq_iald (v := ((qp Q i : Nat) : Int)) 124 rfl rfl (hC.lt (by omega)).2 (hC.ty 29 _ rfl) (by omega) (by omega) (by omega) (by rw [g2 33 (by decide) (by decide)]; exact (a1.2.2.1 i (by omega)).2.2) ?_
            refine wq_s 125 rfl ?_
            refine wq_icmp 134 rfl rfl (by omega) (by omega) (fun c_125 => ?_) (fun c_125 => ?_)
            · have c_125 := of_decide_eq_true c_125
              refine we_inc 4 1 ((i + 1 : Nat) : Int) 137 _ rfl rfl rfl (by omega) (by omega) rfl ?_
              refine wq_s 74 rfl ?_
              exact ih_i (i + 1) _ _ _ _ (by omega) (by omega) q1 q2 (b2.skip (by omega) b_108 (by omega)) (c1.fr (g2 _ (by decide) (by decide))) k2 k3 k1.1
            · have c_125 := of_decide_eq_false c_125
              have c74 := b2.go (show i < Q.length by omega) b_108 (show qp Q i < most by omega) hm.2
              refine wq_s 129 rfl ?_
              refine wq_s 131 rfl ?_
              refine wq_vt1 134 rfl rfl (Nat.le_of_ble_eq_true rfl) (hC.lt (by omega)) (hC.ty 20 _ rfl) rfl (Nat.le_of_ble_eq_true rfl) (c_addHeads (X := X) (y := qx Q i) (p := qp Q i) (jy := i) hC q1 q2 k1.1 htb g1 (wl_28 hx9) (fun j hj => (flP_at (P := wkP X (qx Q i)) hj).1) (hSg.fr (k2 _ (by decide) (by decide)) (k2 _ (by decide) (by decide))) (by omega) hx9 ⟨by omega, rfl, rfl⟩) (fun z M5 hz => ?_)
              obtain ⟨rfl, e1, e2, e3, e4⟩ := hz
              dsimp only [Option.toList, List.cons_append, List.nil_append]
              refine we_inc 4 1 ((i + 1 : Nat) : Int) 137 _ rfl rfl rfl (by omega) (by omega) rfl ?_
              refine wq_s 74 rfl ?_
              exact ih_i (i + 1) _ _ _ _ (by have := c74.2.1; omega) (by have := c74.2.1; omega) e1 e2 c74 ((c1.fr (g2 _ (by decide) (by decide))).fr (e3 _ (by decide) (by decide))) (fun c h1 h2 => by rw [e3 c h1 (by omega)]; exact k2 c h1 h2) (fun j h1 h2 h3 => by rw [e4 j h2]; exact k3 j h1 h2 h3) (by rw [e4 _ (by decide)]; exact k1.1)
  have hl9 : (wkL X a).length ≤ 28 := wl_28 ha
  have L_19 : ∀ (f i : Nat) (M2 : MT) (y5 : Option AV), (wkL X a).length - i < f → i ≤ (wkL X a).length → (WlAt M2 (wkL X a)) → (SnAt M2 28 (t + 1) (fun m => ∃ j, j < i ∧ (wkL X a).getD j 0 = m)) → (∀ c, c ≠ 24 → c ≠ 27 → c ≠ 28 → M2 c = M c) → (∀ j : Int, j ≠ 5 → j ≠ 14 → M2 24 j = M 24 j) → (M2 24 14 = ((t + 1 : Nat) : Int)) → Wq (d + 2) k_X1_reach 19 [some (vR 24), some (vR b), some (vI ((a : Nat) : Int)), some (vI ((most : Nat) : Int)), some (vI ((i : Nat) : Int)), y5] [] G M2 (fun z M' => ChsAt M' (t + 1) ∧ (∀ c, c ≠ 24 → (c < 27 ∨ 34 < c) → M' c = M c) ∧ (∀ j : Int, j ≠ 5 → j ≠ 13 → j ≠ 14 → M' 24 j = M 24 j) ∧ ((z = some (vI (-1)) ∧ ∀ m, 1 ≤ m → m ≤ most → ¬ layJ X a (2 * m - 1) a) ∨ ∃ m rv, z = some (vI ((rv (2 * m - 1) : Nat) : Int)) ∧ (1 ≤ m ∧ m ≤ most) ∧ StF X a m rv ∧ BkAt M' m rv)) := by
    intro f
    induction f with
    | zero => intro i M2 y5 h; exact absurd h (by omega)
    | succ f ih_i =>
      intro i M2 y5 hf_i hk_i a1 a5 a2 a3 a4
      refine wq_s 21 rfl ?_
      refine wq_s 22 rfl ?_
      refine wq_getE (v := (((wkL X a).length : Nat) : Int)) 5 25 rfl rfl (hC.lt (by omega)) (hC.ty 20 _ rfl) rfl rfl a1.1 ?_
      refine wq_icmp 50 rfl rfl (by omega) (by omega) (fun c_25 => ?_) (fun c_25 => ?_)
      · have c_25 := of_decide_eq_true c_25
        have e9 : (wkL X a).length = i := by omega
        refine wq_s 51 rfl ?_
        refine wq_s 52 rfl ?_
        refine wq_putE 13 55 rfl rfl (hC.lt (by omega)) (hC.ty 20 _ rfl) rfl (by decide) (Or.inl rfl) rfl ?_
        obtain ⟨M6, hM6⟩ : ∃ M6 : MT, M6 = up2 M2 24 13 0 := ⟨_, rfl⟩
        rw [← hM6]
        have f6 : ∀ j : Int, j ≠ 13 → M6 24 j = M2 24 j := fun j hj => by rw [hM6, up2_ne (Or.inr hj)]
        have f6r : ∀ c, c ≠ 24 → M6 c = M2 c := fun c hc => by rw [hM6, up2_row hc]
        refine wq_s 56 rfl ?_
        refine wq_getR 59 rfl rfl (hC.lt (by omega)) (hC.ty 20 _ rfl) rfl ?_
        refine wq_s 60 rfl ?_
        refine wq_s 61 rfl ?_
        refine wq_getE (v := ((t + 1 : Nat) : Int)) 14 64 rfl rfl (hC.lt (by omega)) (hC.ty 20 _ rfl) rfl rfl (by rw [f6 _ (by decide)]; exact a4) ?_
        refine wq_iast 65 rfl rfl (hC.lt (by omega)) (hC.ty 25 _ rfl) (by omega) (by omega) (by omega) ?_
        obtain ⟨M7, hM7⟩ : ∃ M7 : MT, M7 = up2 M6 29 (a : Int) ((t + 1 : Nat) : Int) := ⟨_, rfl⟩
        rw [← hM7]
        have f7 : ∀ c, c ≠ 29 → M7 c = M6 c := fun c hc => by rw [hM7, up2_row hc]
        refine wq_s 66 rfl ?_
        refine wq_s 67 rfl ?_
        refine wq_s 68 rfl ?_
        have q7 : QuAt M7 (t + 1) [] := by
          refine ⟨by rw [f7 _ (by decide), hM6, up2_at]; rfl, ((SnAt.new (fun m hm => (hK.2 m hm).2.2)).fr (by rw [f7 _ (by decide), f6r _ (by decide), a2 _ (by decide) (by decide) (by decide)])).ext (fun m _ => ⟨fun z => z.elim, fun ⟨j, h1, _⟩ => absurd h1 (Nat.not_lt_zero _)⟩), fun j hj => absurd hj (Nat.not_lt_zero _), fun i j hi => absurd hi (Nat.not_lt_zero _), fun j hj => absurd hj (Nat.not_lt_zero _)⟩
        have h7 : HdAt M7 (t + 1) a [] := by
          have z1 : SnAt M6 29 (t + 1) (fun _ => False) := (SnAt.new (fun m hm => (hK.2 m hm).2.1)).fr (by rw [f6r _ (by decide), a2 _ (by decide) (by decide) (by decide)])
          have z2 := z1.add (n := a)
          rw [← hM7] at z2
          exact ⟨z2.ext (fun m _ => ⟨fun z => z.elim (fun z => z.elim) Or.inl, fun z => z.elim Or.inr (fun ⟨j, h1, _⟩ => absurd h1 (Nat.not_lt_zero _))⟩), fun j hj => absurd hj (Nat.not_lt_zero _)⟩
        have s7 : SgAt M7 (strongC X) := hSg.fr (by rw [f7 _ (by decide), f6r _ (by decide), a2 _ (by decide) (by decide) (by decide)]) (by rw [f7 _ (by decide), f6r _ (by decide), a2 _ (by decide) (by decide) (by decide)])
        have t7 : M7 24 14 = ((t + 1 : Nat) : Int) := by rw [f7 _ (by decide), f6 _ (by decide)]; exact a4
        refine wq_vt2 71 rfl rfl (Nat.le_of_ble_eq_true rfl) (hC.lt (by omega)) (hC.ty 20 _ rfl) rfl (Nat.le_of_ble_eq_true rfl) (c_addTails (t := t + 1) (Q := []) (h := a) (p := 1) hC q7 t7 htb (s7 a ha) ha (by decide)) (fun z M8 hz => ?_)
        obtain ⟨rfl, e1, e2, e3⟩ := hz
        dsimp only [Option.toList, List.cons_append, List.nil_append]
        refine wq_s 72 rfl ?_
        refine wq_s 74 rfl ?_
        refine L_74 730 0 _ _ M8 _ (by omega) (by omega) e1 (h7.fr (e2 _ (by decide) (by decide) (by decide)) (e2 _ (by decide) (by decide) (by decide))) (LpI.beg ha) ((a5.ext (fun m hm => ?_)).fr (by rw [e2 _ (by decide) (by decide) (by decide), f7 _ (by decide), f6r _ (by decide)])) (fun c h1 h2 => ?_) (fun j h1 h2 h3 => ?_) (by rw [e3 _ (by decide)]; exact t7)
        · subst e9
          refine Iff.trans (flP_mem (wkP X a) 729 m) ?_
          exact ⟨fun z => ⟨ha, z.1, weakC_sym z.2⟩, fun z => ⟨z.2.1, weakC_sym z.2.2⟩⟩
        · rw [e2 c h1 (by omega) (by omega), f7 c (by omega), f6r c h1]
          exact a2 c h1 (by omega) (by omega)
        · rw [e3 j h2, f7 _ (by decide), f6 j h2]
          exact a3 j h1 h3
      · have c_25 := of_decide_eq_false c_25
        have h729 : (wkL X a).getD i 0 < 729 := (flP_at (P := wkP X a) (n := 729) (j := i) (show i < (wkL X a).length by omega)).1
        refine wq_s 29 rfl ?_
        refine wq_getR 32 rfl rfl (hC.lt (by omega)) (hC.ty 20 _ rfl) rfl ?_
        refine wq_s 33 rfl ?_
        refine wq_getR 36 rfl rfl (hC.lt (by omega)) (hC.ty 20 _ rfl) rfl ?_
        refine wq_s 38 rfl ?_
        refine wq_iald (v := (((wkL X a).getD i 0 : Nat) : Int)) 39 rfl rfl (hC.lt (by omega)).2 (hC.ty 23 _ rfl) (by omega) (by omega) (by omega) (a1.2 i (by omega)) ?_
        refine wq_s 40 rfl ?_
        refine wq_getE (v := ((t + 1 : Nat) : Int)) 14 43 rfl rfl (hC.lt (by omega)) (hC.ty 20 _ rfl) rfl rfl a4 ?_
        refine wq_iast 44 rfl rfl (hC.lt (by omega)) (hC.ty 24 _ rfl) (by omega) (by omega) (by omega) ?_
        refine we_inc 4 1 ((i + 1 : Nat) : Int) 47 _ rfl rfl rfl (by omega) (by omega) rfl ?_
        refine wq_s 19 rfl ?_
        exact ih_i (i + 1) _ _ (by omega) (by omega) ⟨(by rw [up2_row (by decide)]; exact a1.1), (fun j hj => by rw [up2_row (by decide)]; exact a1.2 j hj)⟩ ((a5.add (n := (wkL X a).getD i 0)).ext (fun m _ => ⟨fun z => z.elim (fun ⟨j, h1, h2⟩ => ⟨j, by omega, h2⟩) (fun z => ⟨i, by omega, z.symm⟩), fun ⟨j, h1, h2⟩ => (by by_cases hji : j = i; exact Or.inr (by rw [← h2, hji]); exact Or.inl ⟨j, by omega, h2⟩)⟩)) (fun c h1 h2 h3 => by rw [up2_row h3]; exact a2 c h1 h2 h3) (fun j h1 h2 => by rw [up2_row (by decide)]; exact a3 j h1 h2) (by rw [up2_row (by decide)]; exact a4)
  refine wq_s 1 rfl ?_
  refine wq_s 2 rfl ?_
  refine wq_getE (v := ((t : Nat) : Int)) 14 5 rfl rfl (hC.lt (by omega)) (hC.ty 20 _ rfl) rfl rfl hK.1 ?_
  refine wq_s 6 rfl ?_
  refine we_add ((t + 1 : Nat) : Int) 7 rfl rfl (by omega) (by omega) ?_
  refine wq_putE 14 10 rfl rfl (hC.lt (by omega)) (hC.ty 20 _ rfl) rfl (by decide) (Or.inl rfl) rfl ?_
  obtain ⟨M1, hM1⟩ : ∃ M1 : MT, M1 = up2 M 24 14 ((t + 1 : Nat) : Int) := ⟨_, rfl⟩
  rw [← hM1]
  have f1 : ∀ c, c ≠ 24 → M1 c = M c := fun c hc => by rw [hM1, up2_row hc]
  refine wq_s 11 rfl ?_
  refine wq_s 12 rfl ?_
  refine wq_s 13 rfl ?_
  refine wq_vt2 16 rfl rfl (Nat.le_of_ble_eq_true rfl) (hC.lt (by omega)) (hC.ty 20 _ rfl) rfl (Nat.le_of_ble_eq_true rfl) (c_listWeak (n := a) hC hb (hS.fr (f1 _ (by decide)) (f1 _ (by decide)) (f1 _ (by decide)) (f1 _ (by decide))) (hB.fr (f1 _ (by omega)) (f1 _ (by omega))) ha hh) (fun z M3 hz => ?_)
  obtain ⟨rfl, g1, g2, g3⟩ := hz
  dsimp only [Option.toList, List.cons_append, List.nil_append]
  refine wq_s 17 rfl ?_
  refine wq_s 19 rfl ?_
  exact L_19 ((wkL X a).length + 1) 0 M3 _ (by omega) (by omega) g1 (((SnAt.new (fun m hm => (hK.2 m hm).1)).fr (by rw [g2 _ (by decide) (by decide), f1 _ (by decide)])).ext (fun m _ => ⟨fun z => z.elim, fun ⟨j, h1, _⟩ => absurd h1 (Nat.not_lt_zero _)⟩)) (fun c h1 h2 h3 => by rw [g2 c h1 h2]; exact f1 c h1) (fun j h1 h2 => by rw [g3 j h1, hM1, up2_ne (Or.inr h2)]) (by rw [g3 _ (by decide), hM1, up2_at])
