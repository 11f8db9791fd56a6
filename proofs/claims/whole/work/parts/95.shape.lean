/-! the shape as it is made -/
def shT : List LK := [.inl (false, 0), .inr (4, [some (some 6), some (some 7), some (some 8), some (some 9)]), .inl (false, 243), .inl (false, 243), .inl (false, 243), .inl (false, 1701)]
def ShG (G : GT) : Prop := 10 ≤ G.1 ∧ ∀ (i : Nat) (c : LK), i ≠ 0 → shT[i]? = some c → G.2.2 (4 + i) = c
theorem ShG.lt {G : GT} (h : ShG G) {q : Nat} (hq : 4 ≤ q ∧ q < 10) : EXN ≤ q ∧ q < G.1 := ⟨hq.1, by have := h.1; omega⟩
theorem ShG.ty {G : GT} (h : ShG G) (i : Nat) (c : LK) (hi : shT[i]? = some c) (hne : i ≠ 0 := by decide) : G.2.2 (4 + i) = c := h.2 i c hne hi
def HoAt (M : MT) (k : Nat) : Prop := ∀ c s : Nat, c < 81 → s < 3 → 3 * c + s < k → M 6 ((9 * hoN c s + poN c s : Nat) : Int) = (c : Int) ∧ M 7 ((3 * c + s : Nat) : Int) = ((hoN c s : Nat) : Int) ∧ M 8 ((3 * c + s : Nat) : Int) = ((poN c s : Nat) : Int)
theorem ho_val : ∀ c : Fin 81, (hoN c.val 0 = c.val / 9 ∧ poN c.val 0 = c.val % 9) ∧ (hoN c.val 1 = 9 + c.val % 9 ∧ poN c.val 1 = c.val / 9) ∧ (hoN c.val 2 = 18 + 3 * (c.val / 9 / 3) + c.val % 9 / 3 ∧ poN c.val 2 = 3 * (c.val / 9 % 3) + c.val % 9 % 3) := by decide +kernel
theorem c_enter {d : Nat} {G : GT} {M : MT} {c s h p : Nat} (hC : ShG G) (hI : HoAt M (3 * c + s)) (hc : c < 81) (hs : s < 3) (hh : hoN c s = h) (hp : poN c s = p) : Mq d k_X4_enter [vR 5, vI (c : Int), vI (s : Int), vI (h : Int), vI (p : Int)] G M (fun z M' => z = none ∧ HoAt M' (3 * c + s + 1) ∧ ∀ a, (a < 6 ∨ 8 < a) → M' a = M a) := by
  have ho := ho_ok hc hs
  have h27 : h < 27 := by rw [← hh]; exact ho.2.2.1
  have p9 : p < 9 := by rw [← hp]; exact ho.2.2.2
  refine wq_s 1 rfl ?_
  refine wq_getR 4 rfl rfl (hC.lt (by omega)) (hC.ty 1 _ rfl) rfl ?_
  refine wq_s 6 rfl ?_
  refine wq_s 7 rfl ?_
  refine we_mul ((9 * h : Nat) : Int) 8 rfl rfl (by omega) (by omega) ?_
  refine wq_s 10 rfl ?_
  refine we_add (((9 * h) + p : Nat) : Int) 11 rfl rfl (by omega) (by omega) ?_
  refine wq_s 12 rfl ?_
  refine wq_iast 13 rfl rfl (hC.lt (by omega)) (hC.ty 2 _ rfl) (by omega) (by omega) (by omega) ?_
  refine wq_s 14 rfl ?_
  refine wq_getR 17 rfl rfl (hC.lt (by omega)) (hC.ty 1 _ rfl) rfl ?_
  refine wq_s 18 rfl ?_
  refine wq_s 19 rfl ?_
  refine we_mul ((3 * c : Nat) : Int) 20 rfl rfl (by omega) (by omega) ?_
  refine wq_s 21 rfl ?_
  refine we_add (((3 * c) + s : Nat) : Int) 22 rfl rfl (by omega) (by omega) ?_
  refine wq_s 23 rfl ?_
  refine wq_iast 24 rfl rfl (hC.lt (by omega)) (hC.ty 3 _ rfl) (by omega) (by omega) (by omega) ?_
  refine wq_s 25 rfl ?_
  refine wq_getR 28 rfl rfl (hC.lt (by omega)) (hC.ty 1 _ rfl) rfl ?_
  refine wq_s 29 rfl ?_
  refine wq_s 30 rfl ?_
  refine we_mul ((3 * c : Nat) : Int) 31 rfl rfl (by omega) (by omega) ?_
  refine wq_s 32 rfl ?_
  refine we_add (((3 * c) + s : Nat) : Int) 33 rfl rfl (by omega) (by omega) ?_
  refine wq_s 35 rfl ?_
  refine wq_iast 36 rfl rfl (hC.lt (by omega)) (hC.ty 4 _ rfl) (by omega) (by omega) (by omega) ?_
  exact wq_ret rfl ⟨rfl, (fun c' s' hc' hs' hk => by
      rw [up2_row (a := 6) (by decide), up2_row (a := 6) (by decide), up2_row (a := 7) (by decide)]
      by_cases he : 3 * c' + s' = 3 * c + s
      · have e1 : c' = c := by omega
        have e2 : s' = s := by omega
        subst e1 e2
        rw [hh, hp]
        refine ⟨up2_at, ?_, up2_at⟩
        exact up2_at
      · have h1 := hI c' s' hc' hs' (by omega)
        have ho' := ho_ok hc' hs'
        refine ⟨?_, ?_, ?_⟩
        · by_cases h9 : 9 * hoN c' s' + poN c' s' = 9 * h + p
          · exfalso
            have g1 : hoN c' s' = h := by omega
            have g2 : poN c' s' = p := by omega
            have g3 := ho'.1
            have g4 := ho'.2.1
            rw [g1, g2, ← hh, ← hp, ho.1] at g3
            rw [g1, ← hh, ho.2.1] at g4
            omega
          · rw [up2_ne (Or.inr (by omega))]
            exact h1.1
        · rw [up2_ne (Or.inr (by omega)), up2_row (by decide)]
          exact h1.2.1
        · rw [up2_ne (Or.inr (by omega)), up2_row (by decide), up2_row (by decide)]
          exact h1.2.2), fun a ha => by rw [up2_row (by omega), up2_row (by omega), up2_row (by omega)]⟩
theorem c_share2 {d : Nat} {G : GT} {M : MT} {u v : Nat} (hC : ShG G) (hS : HoAt M 243) (hu : u < 81) (hv : v < 81) : Mq d k_X4_shareHouse [vR 5, vI (u : Int), vI (v : Int)] G M (fun r M' => (r = some (vI 1) ∧ shB u v = true ∧ M' = M) ∨ (r = some (vI 0) ∧ ¬ shB u v = true ∧ M' = M)) := by
  have u0 := (ho_ok (c := u) (s := 0) hu (by decide)).2.2.1
  have u1 := (ho_ok (c := u) (s := 1) hu (by decide)).2.2.1
  have u2 := (ho_ok (c := u) (s := 2) hu (by decide)).2.2.1
  have v0 := (ho_ok (c := v) (s := 0) hv (by decide)).2.2.1
  have v1 := (ho_ok (c := v) (s := 1) hv (by decide)).2.2.1
  have v2 := (ho_ok (c := v) (s := 2) hv (by decide)).2.2.1
  refine wq_s 1 rfl ?_
  refine wq_getR 4 rfl rfl (hC.lt (by omega)) (hC.ty 1 _ rfl) rfl ?_
  refine wq_s 5 rfl ?_
  refine wq_s 6 rfl ?_
  refine we_mul ((3 * u : Nat) : Int) 7 rfl rfl (by omega) (by omega) ?_
  refine wq_iald (v := ((hoN u 0 : Nat) : Int)) 8 rfl rfl (hC.lt (by omega)).2 (hC.ty 3 _ rfl) (by omega) (by omega) (by omega) (hS u 0 (by omega) (by decide) (by omega)).2.1 ?_
  refine wq_s 9 rfl ?_
  refine wq_getR 12 rfl rfl (hC.lt (by omega)) (hC.ty 1 _ rfl) rfl ?_
  refine wq_s 13 rfl ?_
  refine wq_s 14 rfl ?_
  refine we_mul ((3 * v : Nat) : Int) 15 rfl rfl (by omega) (by omega) ?_
  refine wq_iald (v := ((hoN v 0 : Nat) : Int)) 16 rfl rfl (hC.lt (by omega)).2 (hC.ty 3 _ rfl) (by omega) (by omega) (by omega) (hS v 0 (by omega) (by decide) (by omega)).2.1 ?_
  refine wq_icmp 65 rfl rfl (by omega) (by omega) (fun c_16 => ?_) (fun c_16 => ?_)
  · have c_16 := of_decide_eq_true c_16
    refine wq_s 66 rfl ?_
    refine wq_s 70 rfl ?_
    exact wq_ret rfl (Or.inl ⟨rfl, decide_eq_true (by omega), rfl⟩)
  · have c_16 := of_decide_eq_false c_16
    refine wq_s 20 rfl ?_
    refine wq_getR 23 rfl rfl (hC.lt (by omega)) (hC.ty 1 _ rfl) rfl ?_
    refine wq_s 24 rfl ?_
    refine wq_s 25 rfl ?_
    refine we_mul ((3 * u : Nat) : Int) 26 rfl rfl (by omega) (by omega) ?_
    refine wq_s 27 rfl ?_
    refine we_add (((3 * u) + 1 : Nat) : Int) 28 rfl rfl (by omega) (by omega) ?_
    refine wq_iald (v := ((hoN u 1 : Nat) : Int)) 29 rfl rfl (hC.lt (by omega)).2 (hC.ty 3 _ rfl) (by omega) (by omega) (by omega) (hS u 1 (by omega) (by decide) (by omega)).2.1 ?_
    refine wq_s 30 rfl ?_
    refine wq_getR 33 rfl rfl (hC.lt (by omega)) (hC.ty 1 _ rfl) rfl ?_
    refine wq_s 34 rfl ?_
    refine wq_s 35 rfl ?_
    refine we_mul ((3 * v : Nat) : Int) 36 rfl rfl (by omega) (by omega) ?_
    refine wq_s 37 rfl ?_
    refine we_add (((3 * v) + 1 : Nat) : Int) 38 rfl rfl (by omega) (by omega) ?_
    refine wq_iald (v := ((hoN v 1 : Nat) : Int)) 39 rfl rfl (hC.lt (by omega)).2 (hC.ty 3 _ rfl) (by omega) (by omega) (by omega) (hS v 1 (by omega) (by decide) (by omega)).2.1 ?_
    refine wq_icmp 65 rfl rfl (by omega) (by omega) (fun c_39 => ?_) (fun c_39 => ?_)
    · have c_39 := of_decide_eq_true c_39
      refine wq_s 66 rfl ?_
      refine wq_s 70 rfl ?_
      exact wq_ret rfl (Or.inl ⟨rfl, decide_eq_true (by omega), rfl⟩)
    · have c_39 := of_decide_eq_false c_39
      refine wq_s 43 rfl ?_
      refine wq_getR 46 rfl rfl (hC.lt (by omega)) (hC.ty 1 _ rfl) rfl ?_
      refine wq_s 47 rfl ?_
      refine wq_s 48 rfl ?_
      refine we_mul ((3 * u : Nat) : Int) 49 rfl rfl (by omega) (by omega) ?_
      refine wq_s 50 rfl ?_
      refine we_add (((3 * u) + 2 : Nat) : Int) 51 rfl rfl (by omega) (by omega) ?_
      refine wq_iald (v := ((hoN u 2 : Nat) : Int)) 52 rfl rfl (hC.lt (by omega)).2 (hC.ty 3 _ rfl) (by omega) (by omega) (by omega) (hS u 2 (by omega) (by decide) (by omega)).2.1 ?_
      refine wq_s 53 rfl ?_
      refine wq_getR 56 rfl rfl (hC.lt (by omega)) (hC.ty 1 _ rfl) rfl ?_
      refine wq_s 57 rfl ?_
      refine wq_s 58 rfl ?_
      refine we_mul ((3 * v : Nat) : Int) 59 rfl rfl (by omega) (by omega) ?_
      refine wq_s 60 rfl ?_
      refine we_add (((3 * v) + 2 : Nat) : Int) 61 rfl rfl (by omega) (by omega) ?_
      refine wq_iald (v := ((hoN v 2 : Nat) : Int)) 62 rfl rfl (hC.lt (by omega)).2 (hC.ty 3 _ rfl) (by omega) (by omega) (by omega) (hS v 2 (by omega) (by decide) (by omega)).2.1 ?_
      refine wq_icmp 69 rfl rfl (by omega) (by omega) (fun c_62 => ?_) (fun c_62 => ?_)
      · have c_62 := of_decide_eq_true c_62
        refine wq_s 70 rfl ?_
        exact wq_ret rfl (Or.inr ⟨rfl, fun z => (by have := of_decide_eq_true z; omega), rfl⟩)
      · have c_62 := of_decide_eq_false c_62
        refine wq_s 66 rfl ?_
        refine wq_s 70 rfl ?_
        exact wq_ret rfl (Or.inl ⟨rfl, decide_eq_true (by omega), rfl⟩)
theorem nrL_t {c n : Nat} (h : shB c n = true) : nrL c (n + 1) = nrL c n ++ [n] := if_pos h
theorem nrL_f {c n : Nat} (h : ¬ shB c n = true) : nrL c (n + 1) = nrL c n := if_neg h
theorem nrL_pre {c : Nat} : ∀ n r i, i < (nrL c n).length → i < (nrL c (n + r)).length ∧ (nrL c (n + r)).getD i 0 = (nrL c n).getD i 0 := by
  intro n r i hi
  induction r with
  | zero => exact ⟨hi, rfl⟩
  | succ r ih =>
    by_cases h : shB c (n + r) = true
    · rw [show n + (r + 1) = n + r + 1 from rfl, nrL_t h, List.length_append, gD_l ih.1]
      exact ⟨by omega, ih.2⟩
    · rw [show n + (r + 1) = n + r + 1 from rfl, nrL_f h]
      exact ih
theorem nrL_le {c n : Nat} (hc : c < 81) (hn : n ≤ 81) : (nrL c n).length ≤ 21 := by
  have h1 := nr_len ⟨c, hc⟩
  dsimp only at h1
  by_cases h2 : (nrL c n).length ≤ 21
  · exact h2
  · have h3 := nrL_pre (c := c) n (81 - n) 21 (by omega)
    rw [show n + (81 - n) = 81 by omega] at h3
    omega
theorem c_listNear {d : Nat} {G : GT} {M : MT} {c : Nat} (hC : ShG G) (hS : HoAt M 243) (hc : c < 81) : Mq (d + 1) k_X4_listNear [vR 5, vI (c : Int)] G M (fun z M' => z = none ∧ (∀ i : Nat, i < 21 → M' 9 ((21 * c + i : Nat) : Int) = ((nrN c i : Nat) : Int)) ∧ (∀ j : Int, (j < 21 * c ∨ 21 * (c : Int) + 21 ≤ j) → M' 9 j = M 9 j) ∧ ∀ a, a ≠ 9 → M' a = M a) := by
  have hl21 : (nrL c 81).length = 21 := nr_len ⟨c, hc⟩
  have L_4 : ∀ (f n : Nat) (M2 : MT), 81 - n < f → n ≤ 81 → (∀ i : Nat, i < (nrL c n).length → M2 9 ((21 * c + i : Nat) : Int) = (((nrL c n).getD i 0 : Nat) : Int)) → (∀ j : Int, (j < 21 * c ∨ 21 * (c : Int) + 21 ≤ j) → M2 9 j = M 9 j) → (∀ a, a ≠ 9 → M2 a = M a) → Wq (d + 1) k_X4_listNear 4 [some (vR 5), some (vI ((c : Nat) : Int)), some (vI (((nrL c n).length : Nat) : Int)), some (vI ((n : Nat) : Int))] [] G M2 (fun z M' => z = none ∧ (∀ i : Nat, i < 21 → M' 9 ((21 * c + i : Nat) : Int) = ((nrN c i : Nat) : Int)) ∧ (∀ j : Int, (j < 21 * c ∨ 21 * (c : Int) + 21 ≤ j) → M' 9 j = M 9 j) ∧ ∀ a, a ≠ 9 → M' a = M a) := by
    intro f
    induction f with
    | zero => intro n M2 h; exact absurd h (by omega)
    | succ f ih_n =>
      intro n M2 hf_n hk_n a1 a2 a3
      have hn21 := nrL_le hc hk_n
      refine wq_s 5 rfl ?_
      refine wq_s 7 rfl ?_
      refine wq_icmp 46 rfl rfl (by omega) (by omega) (fun c_7 => ?_) (fun c_7 => ?_)
      · have c_7 := of_decide_eq_true c_7
        have e9 : n = 81 := by omega
        have e8 : (nrL c n).length = 21 := by rw [e9]; exact hl21
        exact wq_ret rfl ⟨rfl, (fun i hi => by
            have h1 := nrL_pre (c := c) n (81 - n) i (by omega)
            rw [show n + (81 - n) = 81 by omega] at h1
            rw [a1 i (by omega)]
            unfold nrN
            rw [h1.2]), a2, a3⟩
      · have c_7 := of_decide_eq_false c_7
        refine wq_s 11 rfl ?_
        refine wq_s 13 rfl ?_
        refine wq_icmp 46 rfl rfl (by omega) (by omega) (fun c_13 => ?_) (fun c_13 => ?_)
        · have c_13 := of_decide_eq_true c_13
          have e8 : (nrL c n).length = 21 := by omega
          exact wq_ret rfl ⟨rfl, (fun i hi => by
              have h1 := nrL_pre (c := c) n (81 - n) i (by omega)
              rw [show n + (81 - n) = 81 by omega] at h1
              rw [a1 i (by omega)]
              unfold nrN
              rw [h1.2]), a2, a3⟩
        · have c_13 := of_decide_eq_false c_13
          refine wq_s 17 rfl ?_
          refine wq_s 18 rfl ?_
          refine wq_s 19 rfl ?_
          refine wq_vt2 22 rfl rfl (Nat.le_of_ble_eq_true rfl) (hC.lt (by omega)) (hC.ty 1 _ rfl) rfl (Nat.le_of_ble_eq_true rfl) (c_share2 (u := c) (v := n) hC (fun x s hx hs hk => by rw [a3 6 (by decide), a3 7 (by decide), a3 8 (by decide)]; exact hS x s hx hs hk) hc (by omega)) (fun r M1 hr => ?_)
          rcases hr with ⟨rfl, b_19, hM1⟩ | ⟨rfl, b_19, hM1⟩
          · subst M1
            dsimp only [Option.toList, List.cons_append, List.nil_append]
            refine wq_s 25 rfl ?_
            refine wq_s 26 rfl ?_
            refine wq_getR 29 rfl rfl (hC.lt (by omega)) (hC.ty 1 _ rfl) rfl ?_
            refine wq_s 31 rfl ?_
            refine wq_s 32 rfl ?_
            refine we_mul ((21 * c : Nat) : Int) 33 rfl rfl (by omega) (by omega) ?_
            refine wq_s 34 rfl ?_
            refine we_add (((21 * c) + ((nrL c n).length) : Nat) : Int) 35 rfl rfl (by omega) (by omega) ?_
            refine wq_s 36 rfl ?_
            refine wq_iast 37 rfl rfl (hC.lt (by omega)) (hC.ty 5 _ rfl) (by omega) (by omega) (by omega) ?_
            refine we_inc 2 1 (((nrL c n).length + 1 : Nat) : Int) 40 _ rfl rfl rfl (by omega) (by omega) rfl ?_
            refine we_inc 3 1 ((n + 1 : Nat) : Int) 43 _ rfl rfl rfl (by omega) (by omega) rfl ?_
            refine wq_s 4 rfl ?_
            have ee := nrL_t b_19
            have ih := ih_n (n + 1) (up2 M2 9 ((21 * c + (nrL c n).length : Nat) : Int) (n : Int)) (by omega) (by omega) (fun i hi => ?_) (fun j hj => by rw [up2_ne (Or.inr (by omega))]; exact a2 j hj) (fun a ha => by rw [up2_row ha]; exact a3 a ha)
            · rw [ee, List.length_append] at ih
              exact ih
            · rw [ee, List.length_append] at hi
              have hi : i < (nrL c n).length + 1 := hi
              rw [ee]
              by_cases h2 : i < (nrL c n).length
              · rw [gD_l h2, up2_ne (Or.inr (by omega))]
                exact a1 i h2
              · rw [show i = (nrL c n).length by omega, gD_x, up2_at]
          · subst M1
            dsimp only [Option.toList, List.cons_append, List.nil_append]
            refine wq_s 40 rfl ?_
            refine we_inc 3 1 ((n + 1 : Nat) : Int) 43 _ rfl rfl rfl (by omega) (by omega) rfl ?_
            refine wq_s 4 rfl ?_
            have ee := nrL_f b_19
            have ih := ih_n (n + 1) M2 (by omega) (by omega) (by rw [ee]; exact a1) a2 a3
            rw [ee] at ih
            exact ih
  refine wq_s 1 rfl ?_
  refine wq_s 2 rfl ?_
  refine wq_s 3 rfl ?_
  refine wq_s 4 rfl ?_
  exact L_4 82 0 M (by omega) (by omega) (fun i hi => absurd hi (Nat.not_lt_zero _)) (fun _ _ => rfl) (fun _ _ => rfl)
theorem sh_40 {d : Nat} {G : GT} {M : MT} (hC : ShG G) : Wq (d + 2) k_X4_init 40 [some (vR 5), none, none, none] [] G M (fun z M' => z = none ∧ ShpAt M' ∧ ∀ a, (a < 6 ∨ 9 < a) → M' a = M a) := by
  have L_112 : ∀ (f c : Nat) (M2 : MT) (y2 : Option AV) (y3 : Option AV), 81 - c < f → c ≤ 81 → (HoAt M2 243) → (∀ c' i : Nat, c' < c → i < 21 → M2 9 ((21 * c' + i : Nat) : Int) = ((nrN c' i : Nat) : Int)) → (∀ a, (a < 6 ∨ 9 < a) → M2 a = M a) → Wq (d + 2) k_X4_init 112 [some (vR 5), some (vI ((c : Nat) : Int)), y2, y3] [] G M2 (fun z M' => z = none ∧ ShpAt M' ∧ ∀ a, (a < 6 ∨ 9 < a) → M' a = M a) := by
    intro f
    induction f with
    | zero => intro c M2 y2 y3 h; exact absurd h (by omega)
    | succ f ih_c =>
      intro c M2 y2 y3 hf_c hk_c a1 a2 a3
      refine wq_s 113 rfl ?_
      refine wq_s 115 rfl ?_
      refine wq_icmp 129 rfl rfl (by omega) (by omega) (fun c_115 => ?_) (fun c_115 => ?_)
      · have c_115 := of_decide_eq_true c_115
        have e9 : c = 81 := by omega
        subst e9
        exact wq_ret rfl ⟨rfl, ⟨(fun h k hh hk => by
            have h1 := ce_ok hh hk
            have h2 := (a1 (ceN h k) (srN h) h1.2.2 (srN_lt h) (by have := srN_lt h; omega)).1
            rw [h1.1, h1.2.1] at h2
            exact h2), (fun c s hc hs => (a1 c s hc hs (by omega)).2), (fun c i hc hi => a2 c i (by omega) hi)⟩, a3⟩
      · have c_115 := of_decide_eq_false c_115
        refine wq_s 119 rfl ?_
        refine wq_s 120 rfl ?_
        refine wq_vt1 123 rfl rfl (Nat.le_of_ble_eq_true rfl) (hC.lt (by omega)) (hC.ty 1 _ rfl) rfl (Nat.le_of_ble_eq_true rfl) (c_listNear (c := c) hC a1 (by omega)) (fun r M3 hr => ?_)
        obtain ⟨rfl, g1, g2, g3⟩ := hr
        dsimp only [Option.toList, List.cons_append, List.nil_append]
        refine we_inc 1 1 ((c + 1 : Nat) : Int) 126 _ rfl rfl rfl (by omega) (by omega) rfl ?_
        refine wq_s 112 rfl ?_
        refine ih_c (c + 1) M3 _ _ (by omega) (by omega) (fun x s hx hs hk => by rw [g3 6 (by decide), g3 7 (by decide), g3 8 (by decide)]; exact a1 x s hx hs hk) (fun c' i hc' hi => ?_) (fun a ha => (g3 a (by omega)).trans (a3 a ha))
        by_cases hcc : c' = c
        · subst hcc
          exact g1 i hi
        · rw [g2 _ (by omega)]
          exact a2 c' i (by omega) hi
  have L_42 : ∀ (f c : Nat) (M2 : MT) (y2 : Option AV) (y3 : Option AV), 81 - c < f → c ≤ 81 → (HoAt M2 (3 * c)) → (∀ a, (a < 6 ∨ 8 < a) → M2 a = M a) → Wq (d + 2) k_X4_init 42 [some (vR 5), some (vI ((c : Nat) : Int)), y2, y3] [] G M2 (fun z M' => z = none ∧ ShpAt M' ∧ ∀ a, (a < 6 ∨ 9 < a) → M' a = M a) := by
    intro f
    induction f with
    | zero => intro c M2 y2 y3 h; exact absurd h (by omega)
    | succ f ih_c =>
      intro c M2 y2 y3 hf_c hk_c a1 a3
      refine wq_s 43 rfl ?_
      refine wq_s 45 rfl ?_
      refine wq_icmp 110 rfl rfl (by omega) (by omega) (fun c_45 => ?_) (fun c_45 => ?_)
      · have c_45 := of_decide_eq_true c_45
        have e9 : c = 81 := by omega
        subst e9
        refine wq_s 111 rfl ?_
        refine wq_s 112 rfl ?_
        exact L_112 82 0 M2 _ _ (by omega) (by omega) a1 (fun c' i h => absurd h (Nat.not_lt_zero _)) (fun a ha => a3 a (by omega))
      · have c_45 := of_decide_eq_false c_45
        have hv := ho_val ⟨c, by omega⟩
        dsimp only at hv
        refine wq_s 49 rfl ?_
        refine wq_s 51 rfl ?_
        refine we_div ((c / 9 : Nat) : Int) 52 rfl rfl (by omega) (by omega) (by omega) ?_
        refine wq_s 53 rfl ?_
        refine wq_s 54 rfl ?_
        refine wq_s 56 rfl ?_
        refine we_rem ((c % 9 : Nat) : Int) 57 rfl rfl (by omega) (by omega) (by omega) ?_
        refine wq_s 58 rfl ?_
        refine wq_s 59 rfl ?_
        refine wq_s 60 rfl ?_
        refine wq_s 61 rfl ?_
        refine wq_s 62 rfl ?_
        refine wq_s 63 rfl ?_
        refine wq_vt4 66 rfl rfl (Nat.le_of_ble_eq_true rfl) (hC.lt (by omega)) (hC.ty 1 _ rfl) rfl (Nat.le_of_ble_eq_true rfl) (c_enter (d := d + 1) (c := c) (s := 0) hC (by rw [Nat.add_zero]; exact a1) (by omega) (by decide) hv.1.1 hv.1.2) (fun r N1 hr => ?_)
        obtain ⟨rfl, u1, v1⟩ := hr
        dsimp only [Option.toList, List.cons_append, List.nil_append]
        refine wq_s 67 rfl ?_
        refine wq_s 68 rfl ?_
        refine wq_s 69 rfl ?_
        refine wq_s 71 rfl ?_
        refine wq_s 72 rfl ?_
        refine we_add ((9 + (c % 9) : Nat) : Int) 73 rfl rfl (by omega) (by omega) ?_
        refine wq_s 74 rfl ?_
        refine wq_vt4 77 rfl rfl (Nat.le_of_ble_eq_true rfl) (hC.lt (by omega)) (hC.ty 1 _ rfl) rfl (Nat.le_of_ble_eq_true rfl) (c_enter (d := d + 1) (c := c) (s := 1) hC u1 (by omega) (by decide) hv.2.1.1 hv.2.1.2) (fun r N2 hr => ?_)
        obtain ⟨rfl, u2, v2⟩ := hr
        dsimp only [Option.toList, List.cons_append, List.nil_append]
        refine wq_s 78 rfl ?_
        refine wq_s 79 rfl ?_
        refine wq_s 80 rfl ?_
        refine wq_s 82 rfl ?_
        refine wq_s 83 rfl ?_
        refine wq_s 84 rfl ?_
        refine wq_s 85 rfl ?_
        refine we_div (((c / 9) / 3 : Nat) : Int) 86 rfl rfl (by omega) (by omega) (by omega) ?_
        refine we_mul ((3 * ((c / 9) / 3) : Nat) : Int) 87 rfl rfl (by omega) (by omega) ?_
        refine we_add ((18 + 3 * (c / 9 / 3) : Nat) : Int) 88 rfl rfl (by omega) (by omega) ?_
        refine wq_s 89 rfl ?_
        refine wq_s 90 rfl ?_
        refine we_div (((c % 9) / 3 : Nat) : Int) 91 rfl rfl (by omega) (by omega) (by omega) ?_
        refine we_add ((18 + 3 * (c / 9 / 3) + c % 9 / 3 : Nat) : Int) 92 rfl rfl (by omega) (by omega) ?_
        refine wq_s 93 rfl ?_
        refine wq_s 94 rfl ?_
        refine wq_s 95 rfl ?_
        refine we_rem (((c / 9) % 3 : Nat) : Int) 96 rfl rfl (by omega) (by omega) (by omega) ?_
        refine we_mul ((3 * ((c / 9) % 3) : Nat) : Int) 97 rfl rfl (by omega) (by omega) ?_
        refine wq_s 98 rfl ?_
        refine wq_s 99 rfl ?_
        refine we_rem (((c % 9) % 3 : Nat) : Int) 100 rfl rfl (by omega) (by omega) (by omega) ?_
        refine we_add ((3 * (c / 9 % 3) + c % 9 % 3 : Nat) : Int) 101 rfl rfl (by omega) (by omega) ?_
        refine wq_vt4 104 rfl rfl (Nat.le_of_ble_eq_true rfl) (hC.lt (by omega)) (hC.ty 1 _ rfl) rfl (Nat.le_of_ble_eq_true rfl) (c_enter (d := d + 1) (c := c) (s := 2) hC u2 (by omega) (by decide) hv.2.2.1 hv.2.2.2) (fun r N3 hr => ?_)
        obtain ⟨rfl, u3, v3⟩ := hr
        dsimp only [Option.toList, List.cons_append, List.nil_append]
        refine we_inc 1 1 ((c + 1 : Nat) : Int) 107 _ rfl rfl rfl (by omega) (by omega) rfl ?_
        refine wq_s 42 rfl ?_
        exact ih_c (c + 1) N3 _ _ (by omega) (by omega) (by rw [show 3 * (c + 1) = 3 * c + 2 + 1 by omega]; exact u3) (fun a ha => by rw [v3 a ha, v2 a ha, v1 a ha]; exact a3 a ha)
  refine wq_s 41 rfl ?_
  refine wq_s 42 rfl ?_
  exact L_42 82 0 M _ _ (by omega) (by omega) (fun c s _ _ h => absurd h (by omega)) (fun _ _ => rfl)
