/-! leave: what is held goes from a board -/
def rmF (X Hd : Nat → Nat) : Nat → (Nat → Nat)
  | 0 => X
  | n + 1 => if hasN Hd n = 1 then xoA (rmF X Hd n) n else rmF X Hd n
theorem rmF_tb {X Hd : Nat → Nat} (hs : ∀ c i, c < 81 → i < 9 → (Hd c).testBit i = true → (X c).testBit i = true) : ∀ n, n ≤ 729 → ∀ c e, (rmF X Hd n c).testBit e = true ↔ ((X c).testBit e = true ∧ ¬ (e < 9 ∧ 9 * c + e < n ∧ (Hd c).testBit e = true)) := by
  intro n
  induction n with
  | zero =>
    intro _ c e
    exact ⟨fun z => ⟨z, fun y => absurd y.2.1 (Nat.not_lt_zero _)⟩, fun z => z.1⟩
  | succ n ih =>
    intro hn c e
    have ih := ih (by omega) c e
    show ((if hasN Hd n = 1 then xoA (rmF X Hd n) n else rmF X Hd n) c).testBit e = true ↔ _
    by_cases hb : hasN Hd n = 1
    · rw [if_pos hb, xoA_tb, ih]
      have hb2 := (hasN_tb Hd n).1 hb
      by_cases hce : c = n / 9 ∧ e = n % 9
      · obtain ⟨rfl, rfl⟩ := hce
        have hx := hs (n / 9) (n % 9) (by omega) (by omega) hb2
        constructor
        · rintro (⟨-, g⟩ | ⟨g, -⟩)
          · exact absurd ⟨rfl, rfl⟩ g
          · exact absurd ⟨hx, fun z => by omega⟩ g
        · rintro ⟨-, g⟩
          exact absurd ⟨by omega, by omega, hb2⟩ g
      · constructor
        · rintro (⟨⟨g1, g2⟩, -⟩ | ⟨-, g⟩)
          · refine ⟨g1, fun z => g2 ⟨z.1, ?_, z.2.2⟩⟩
            have := z.2.1
            omega
          · exact absurd g hce
        · rintro ⟨g1, g2⟩
          exact Or.inl ⟨⟨g1, fun z => g2 ⟨z.1, by omega, z.2.2⟩⟩, hce⟩
    · rw [if_neg hb, ih]
      constructor
      · rintro ⟨g1, g2⟩
        refine ⟨g1, fun z => g2 ⟨z.1, ?_, z.2.2⟩⟩
        by_cases hcn : 9 * c + e = n
        · exfalso
          apply hb
          rw [hasN_tb, show n / 9 = c by omega, show n % 9 = e by omega]
          exact z.2.2
        · omega
      · rintro ⟨g1, g2⟩
        exact ⟨g1, fun z => g2 ⟨z.1, by omega, z.2.2⟩⟩
theorem rmF_all {X Hd : Nat → Nat} (hs : ∀ c i, c < 81 → i < 9 → (Hd c).testBit i = true → (X c).testBit i = true) (hH : ∀ c, c < 81 → Hd c < 512) {c : Nat} (hc : c < 81) : rmF X Hd 729 c = andN (X c) (Hd c) := tb_ext fun e => by
  rw [rmF_tb hs 729 (Nat.le_refl _), andN_tb]
  constructor
  · rintro ⟨g1, g2⟩
    exact ⟨g1, fun z => g2 ⟨tb_lt9 (hH c hc) z, by have := tb_lt9 (hH c hc) z; omega, z⟩⟩
  · rintro ⟨g1, g2⟩
    exact ⟨g1, fun z => g2 z.2.2⟩
theorem rm_stop {X Hd : Nat → Nat} {c e : Nat} (hz : Hd c / 2 ^ e = 0) : ∀ j, e + j ≤ 9 → rmF X Hd (9 * c + e + j) = rmF X Hd (9 * c + e) ∧ thL Hd (9 * c + e + j) = thL Hd (9 * c + e) := by
  intro j
  induction j with
  | zero => intro _; exact ⟨rfl, rfl⟩
  | succ j ih =>
    intro hj
    obtain ⟨i1, i2⟩ := ih (by omega)
    have hn : ¬ hasN Hd (9 * c + e + j) = 1 := by
      rw [hasN_tb, show (9 * c + e + j) / 9 = c by omega, show (9 * c + e + j) % 9 = e + j by omega, tb_div]
      have h1 : 2 ^ e ≤ 2 ^ (e + j) := Nat.pow_le_pow_right (by decide) (by omega)
      have h2 : Hd c < 2 ^ e := (Nat.div_eq_zero_iff_lt (Nat.two_pow_pos e)).1 hz
      rw [Nat.div_eq_of_lt (show Hd c < 2 ^ (e + j) by omega)]
      decide
    exact ⟨(if_neg hn).trans i1, (thL_f hn).trans i2⟩
theorem BdC.ext {M : MT} {b : Nat} {X X' : Nat → Nat} (h : BdC M b X) (he : ∀ c, c < 81 → X c = X' c) : BdC M b X' := ⟨h.1.ext he, fun x e hx h2 => by rw [h.2 x e hx h2, plH_congr hx he]⟩
theorem c_X2_leave {d : Nat} {G : GT} {M : MT} {b : Nat} {X Hd : Nat → Nat} {lg : List Nat} (hC : ClsG G) (hb : IsBd b) (hS : ShpAt M) (hB : BdAt M b X lg) (hH : GoAt M Hd) (hs : ∀ c i, c < 81 → i < 9 → (Hd c).testBit i = true → (X c).testBit i = true) (hfit : lg.length + (thL Hd 729).length ≤ 729) : Mq (d + 2) k_X2_leave [vR 19, vR b] G M (fun r M' => r = none ∧ BdAt M' b (fun c => andN (X c) (Hd c)) (lg ++ thL Hd 729) ∧ GoAt M' (fun _ => 0) ∧ ∀ a, a ≠ 19 → a ≠ 20 → (a < b ∨ b + 3 < a) → M' a = M a) := by
  have hlt : ∀ c, c < 81 → Hd c < 512 := fun c hc => (hH.1 c hc).2
  have L_2 : ∀ (f c : Nat) (M2 : MT) (y3 : Option AV) (y4 : Option AV), 81 - c < f → c ≤ 81 → (BdAt M2 b (rmF X Hd (9 * c)) (lg ++ thL Hd (9 * c))) → (AtB M2 20 (fun y => if y < c then 0 else Hd y)) → (∀ a, a ≠ 20 → (a < b ∨ b + 3 < a) → M2 a = M a) → Wq (d + 2) k_X2_leave 2 [some (vR 19), some (vR b), some (vI ((c : Nat) : Int)), y3, y4] [] G M2 (fun r M' => r = none ∧ BdAt M' b (fun c => andN (X c) (Hd c)) (lg ++ thL Hd 729) ∧ GoAt M' (fun _ => 0) ∧ ∀ a, a ≠ 19 → a ≠ 20 → (a < b ∨ b + 3 < a) → M' a = M a) := by
    intro f
    induction f with
    | zero => intro c M2 y3 y4 h; exact absurd h (by omega)
    | succ f ih_c =>
      intro c M2 y3 y4 hf_c hk_c a1 a2 a3
      refine wq_s 3 rfl ?_
      refine wq_s 5 rfl ?_
      refine wq_icmp 71 rfl rfl (by omega) (by omega) (fun c_5 => ?_) (fun c_5 => ?_)
      · have c_5 := of_decide_eq_true c_5
        have e9 : c = 81 := by omega
        subst e9
        refine wq_s 72 rfl ?_
        refine wq_s 73 rfl ?_
        refine wq_putE 2 76 rfl rfl (hC.lt (by omega)) (hC.ty 15 _ rfl) rfl (by decide) (Or.inl rfl) rfl ?_
        refine wq_ret rfl ⟨rfl, ⟨(a1.1.ext (fun c hc => rmF_all hs hlt hc)).fr (up2_row (by omega)) (up2_row (by omega)), a1.2.fr (up2_row (by omega)) (up2_row (by omega))⟩, ⟨fun y hy => ?_, ?_⟩, fun a h1 h2 h3 => ?_⟩
        · have h9 := a2 y hy
          dsimp only at h9 ⊢
          rw [if_pos hy] at h9
          rw [up2_row (by decide)]
          exact h9
        · rw [up2_at]
          exact congrArg (fun z : Nat => (z : Int)) (show 0 = cntX (fun _ => 0) from (sumN_0 81).symm)
        · rw [up2_row h1]
          exact a3 a h2 h3
      · have c_5 := of_decide_eq_false c_5
        have hHc := hlt c (by omega)
        have L_18 : ∀ (f2 e : Nat) (M2 : MT), 9 - e < f2 → e ≤ 9 → (BdAt M2 b (rmF X Hd (9 * c + e)) (lg ++ thL Hd (9 * c + e))) → (AtB M2 20 (fun y => if y < c then 0 else Hd y)) → (∀ a, a ≠ 20 → (a < b ∨ b + 3 < a) → M2 a = M a) → Wq (d + 2) k_X2_leave 18 [some (vR 19), some (vR b), some (vI ((c : Nat) : Int)), some (vI ((Hd c : Nat) : Int)), some (vI ((e : Nat) : Int))] [] G M2 (fun r M' => r = none ∧ BdAt M' b (fun c => andN (X c) (Hd c)) (lg ++ thL Hd 729) ∧ GoAt M' (fun _ => 0) ∧ ∀ a, a ≠ 19 → a ≠ 20 → (a < b ∨ b + 3 < a) → M' a = M a) := by
          intro f2
          induction f2 with
          | zero => intro e M2 h; exact absurd h (by omega)
          | succ f2 ih_e =>
            intro e M2 hf_e hk_e a1 a2 a3
            refine wq_s 20 rfl ?_
            refine wq_s 22 rfl ?_
            refine wq_icmp 58 rfl rfl (by omega) (by omega) (fun c_22 => ?_) (fun c_22 => ?_)
            · have c_22 := of_decide_eq_true c_22
              have a1 : BdAt M2 b (rmF X Hd (9 * (c + 1))) (lg ++ thL Hd (9 * (c + 1))) := by
                rw [show 9 * (c + 1) = 9 * c + e by omega]
                exact a1
              refine wq_s 59 rfl ?_
              refine wq_getR 62 rfl rfl (hC.lt (by omega)) (hC.ty 15 _ rfl) rfl ?_
              refine wq_s 63 rfl ?_
              refine wq_s 64 rfl ?_
              refine wq_iast 65 rfl rfl (hC.lt (by omega)) (hC.ty 16 _ rfl) (by omega) (by omega) (by omega) ?_
              refine we_inc 2 1 ((c + 1 : Nat) : Int) 68 _ rfl rfl rfl (by omega) (by omega) rfl ?_
              refine wq_s 2 rfl ?_
              refine ih_c (c + 1) _ _ _ (by omega) (by omega) (a1.fr (fun a h1 h2 => up2_row (by omega))) (fun y hy => ?_) (fun a h1 h2 => (up2_row h1).trans (a3 a h1 h2))
              dsimp only
              by_cases hyc : y = c
              · rw [if_pos (by omega), up2_eq rfl (by omega)]
                exact ⟨rfl, by decide⟩
              · have h9 := a2 y hy
                dsimp only at h9
                rw [up2_ne (Or.inr (by omega))]
                by_cases hy2 : y < c
                · rw [if_pos hy2] at h9
                  rw [if_pos (by omega)]
                  exact h9
                · rw [if_neg hy2] at h9
                  rw [if_neg (by omega)]
                  exact h9
            · have c_22 := of_decide_eq_false c_22
              obtain ⟨x, hx⟩ : ∃ x, x = Hd c / 2 ^ e := ⟨_, rfl⟩
              have hx9 : x < 512 := by
                rw [hx]
                exact Nat.lt_of_le_of_lt (Nat.div_le_self _ _) hHc
              refine wq_s 26 rfl ?_
              refine wq_s 28 rfl ?_
              refine we_shr (Hd c) e x 29 rfl rfl rfl rfl (by omega) (by omega) hx.symm ?_
              refine wq_if 58 rfl rfl (by omega) (fun c_29 => ?_) (fun c_29 => ?_)
              · have c_29 := of_decide_eq_true c_29
                have a1 : BdAt M2 b (rmF X Hd (9 * (c + 1))) (lg ++ thL Hd (9 * (c + 1))) := by
                  have hst := rm_stop (X := X) (Hd := Hd) (c := c) (e := e) (by rw [← hx]; omega) (9 - e) (by omega)
                  rw [show 9 * c + e + (9 - e) = 9 * (c + 1) by omega] at hst
                  rw [hst.1, hst.2]
                  exact a1
                refine wq_s 59 rfl ?_
                refine wq_getR 62 rfl rfl (hC.lt (by omega)) (hC.ty 15 _ rfl) rfl ?_
                refine wq_s 63 rfl ?_
                refine wq_s 64 rfl ?_
                refine wq_iast 65 rfl rfl (hC.lt (by omega)) (hC.ty 16 _ rfl) (by omega) (by omega) (by omega) ?_
                refine we_inc 2 1 ((c + 1 : Nat) : Int) 68 _ rfl rfl rfl (by omega) (by omega) rfl ?_
                refine wq_s 2 rfl ?_
                refine ih_c (c + 1) _ _ _ (by omega) (by omega) (a1.fr (fun a h1 h2 => up2_row (by omega))) (fun y hy => ?_) (fun a h1 h2 => (up2_row h1).trans (a3 a h1 h2))
                dsimp only
                by_cases hyc : y = c
                · rw [if_pos (by omega), up2_eq rfl (by omega)]
                  exact ⟨rfl, by decide⟩
                · have h9 := a2 y hy
                  dsimp only at h9
                  rw [up2_ne (Or.inr (by omega))]
                  by_cases hy2 : y < c
                  · rw [if_pos hy2] at h9
                    rw [if_pos (by omega)]
                    exact h9
                  · rw [if_neg hy2] at h9
                    rw [if_neg (by omega)]
                    exact h9
              · have c_29 := of_decide_eq_false c_29
                refine wq_s 33 rfl ?_
                refine wq_s 35 rfl ?_
                refine we_shr (Hd c) e ((Hd c) / 2 ^ e) 36 rfl rfl rfl rfl (by omega) (by omega) rfl ?_
                refine wq_s 37 rfl ?_
                refine we_and ((Hd c) / 2 ^ e) 1 (((Hd c) / 2 ^ e) % 2) 38 rfl rfl rfl rfl (Nat.lt_of_le_of_lt (Nat.div_le_self _ _) (by omega)) (and_1 _) ?_
                refine wq_if 52 rfl rfl (by omega) (fun c_38 => ?_) (fun c_38 => ?_)
                · have c_38 := of_decide_eq_true c_38
                  refine we_inc 4 1 ((e + 1 : Nat) : Int) 55 _ rfl rfl rfl (by omega) (by omega) rfl ?_
                  refine wq_s 18 rfl ?_
                  have hn1 : ¬ hasN Hd (9 * c + e) = 1 := by rw [hasN_ce Hd c e (by omega)]; omega
                  have er : rmF X Hd (9 * c + e + 1) = rmF X Hd (9 * c + e) := if_neg hn1
                  exact ih_e (e + 1) _ (by omega) (by omega) (by rw [show 9 * c + (e + 1) = 9 * c + e + 1 by omega, er, thL_f hn1]; exact a1) a2 a3
                · have c_38 := of_decide_eq_false c_38
                  refine wq_s 42 rfl ?_
                  refine wq_s 44 rfl ?_
                  refine wq_s 45 rfl ?_
                  refine we_mul ((9 * c : Nat) : Int) 46 rfl rfl (by omega) (by omega) ?_
                  refine wq_s 48 rfl ?_
                  refine we_add (((9 * c) + e : Nat) : Int) 49 rfl rfl (by omega) (by omega) ?_
                  have hn1 : hasN Hd (9 * c + e) = 1 := by rw [hasN_ce Hd c e (by omega)]; omega
                  have hn2 : hasN (rmF X Hd (9 * c + e)) (9 * c + e) = 1 := by
                    rw [hasN_tb, rmF_tb hs _ (by omega), show (9 * c + e) / 9 = c by omega, show (9 * c + e) % 9 = e by omega]
                    have h2 := (tb_div (Hd c) e).2 (by omega)
                    exact ⟨hs c e (by omega) (by omega) h2, fun z => by omega⟩
                  have hth := thL_t hn1
                  have hlm := thL_lenmono Hd (show 9 * c + e + 1 ≤ 729 by omega)
                  have hl9 : (thL Hd (9 * c + e + 1)).length = (thL Hd (9 * c + e)).length + 1 := by rw [hth, List.length_append]; rfl
                  refine wq_vt1 52 rfl rfl (Nat.le_of_ble_eq_true rfl) (hC.lt (by omega)) (hC.bd hb).1 rfl (Nat.le_of_ble_eq_true rfl) (c_X0_drop (n := 9 * c + e) hC hb (hS.fr (a3 _ (by decide) (by omega)) (a3 _ (by decide) (by omega)) (a3 _ (by decide) (by omega)) (a3 _ (by decide) (by omega))) a1 (by omega) hn2 (by rw [List.length_append]; omega)) (fun r M3 hr => ?_)
                  obtain ⟨rfl, hB3, hF⟩ := hr
                  dsimp only [Option.toList, List.cons_append, List.nil_append]
                  have er : rmF X Hd (9 * c + e + 1) = xoA (rmF X Hd (9 * c + e)) (9 * c + e) := if_pos hn1
                  rw [← er, List.append_assoc, ← hth] at hB3
                  refine we_inc 4 1 ((e + 1 : Nat) : Int) 55 _ rfl rfl rfl (by omega) (by omega) rfl ?_
                  refine wq_s 18 rfl ?_
                  exact ih_e (e + 1) _ (by omega) (by omega) hB3 (a2.fr (hF _ (by omega))) (fun a h1 h2 => (hF a h2).trans (a3 a h1 h2))
        refine wq_s 9 rfl ?_
        refine wq_getR 12 rfl rfl (hC.lt (by omega)) (hC.ty 15 _ rfl) rfl ?_
        refine wq_s 13 rfl ?_
        refine wq_iald (v := ((Hd c : Nat) : Int)) 14 rfl rfl (hC.lt (by omega)).2 (hC.ty 16 _ rfl) (by omega) (by omega) (by omega) (by have h9 := (a2 c (by omega)).1; dsimp only at h9; rw [if_neg (Nat.lt_irrefl _)] at h9; exact h9) ?_
        refine wq_s 15 rfl ?_
        refine wq_s 16 rfl ?_
        refine wq_s 18 rfl ?_
        exact L_18 10 0 _ (by omega) (by omega) a1 a2 a3
  refine wq_s 1 rfl ?_
  refine wq_s 2 rfl ?_
  refine L_2 82 0 M _ _ (by omega) (by omega) (by rw [show thL Hd (9 * 0) = [] from rfl, List.append_nil]; exact hB) (fun y hy => ?_) (fun _ _ _ => rfl)
  dsimp only
  rw [if_neg (Nat.not_lt_zero _)]
  exact hH.1 y hy
