/-! boards: has, drop, undo, start, logAt; shareHouse -/
theorem c_X0_has {d : Nat} {G : GT} {M : MT} {b n : Nat} {X : Nat → Nat} (hC : ClsG G) (hb : IsBd b) (hX : AtB M (b + 1) X) (hn : n < 729) : Mq d k_X0_has [vR b, vI (n : Int)] G M (fun r M' => (r = some (vI 1) ∧ hasN X n = 1 ∧ M' = M) ∨ (r = some (vI 0) ∧ ¬ hasN X n = 1 ∧ M' = M)) := by
  have hxc := (hX (n / 9) (by omega)).2
  refine wq_s 1 rfl ?_
  refine wq_if 34 rfl rfl (by omega) (fun c_1 => absurd c_1 cmp_ltN) (fun _ => ?_)
  refine wq_s 5 rfl ?_
  refine wq_s 8 rfl ?_
  refine wq_icmp 34 rfl rfl (by omega) (by omega) (fun c_8 => ?_) (fun c_8 => ?_)
  · have c_8 := of_decide_eq_true c_8
    exact absurd c_8 (by omega)
  · have c_8 := of_decide_eq_false c_8
    refine wq_s 12 rfl ?_
    refine wq_getR 15 rfl rfl (hC.lt (by omega)) (hC.bd hb).1 rfl ?_
    refine wq_s 16 rfl ?_
    refine wq_s 18 rfl ?_
    refine we_div ((n / 9 : Nat) : Int) 19 rfl rfl (by omega) (by omega) (by omega) ?_
    refine wq_iald (v := ((X (n / 9) : Nat) : Int)) 20 rfl rfl (hC.lt (by omega)).2 (hC.bd hb).2.1 (by omega) (by omega) (by omega) (hX (n / 9) (by omega)).1 ?_
    refine wq_s 21 rfl ?_
    refine wq_s 23 rfl ?_
    refine we_rem ((n % 9 : Nat) : Int) 24 rfl rfl (by omega) (by omega) (by omega) ?_
    refine we_shr (X (n / 9)) (n % 9) ((X (n / 9)) / 2 ^ (n % 9)) 25 rfl rfl rfl rfl (by omega) (by omega) rfl ?_
    refine wq_s 26 rfl ?_
    refine we_and ((X (n / 9)) / 2 ^ (n % 9)) 1 (((X (n / 9)) / 2 ^ (n % 9)) % 2) 27 rfl rfl rfl rfl (Nat.lt_of_le_of_lt (Nat.div_le_self _ _) (by omega)) (and_1 _) ?_
    refine wq_if 34 rfl rfl (by omega) (fun c_27 => ?_) (fun c_27 => ?_)
    · have c_27 := of_decide_eq_true c_27
      refine wq_s 35 rfl ?_
      exact wq_ret rfl (Or.inr ⟨rfl, by unfold hasN; omega, rfl⟩)
    · have c_27 := of_decide_eq_false c_27
      refine wq_s 31 rfl ?_
      refine wq_s 35 rfl ?_
      exact wq_ret rfl (Or.inl ⟨rfl, by unfold hasN; omega, rfl⟩)
theorem c_X0_drop {d : Nat} {G : GT} {M : MT} {b n : Nat} {X : Nat → Nat} {lg : List Nat} (hC : ClsG G) (hb : IsBd b) (hS : ShpAt M) (hB : BdAt M b X lg) (hn : n < 729) (hh : hasN X n = 1) (hl : lg.length < 729) : Mq (d + 1) k_X0_drop [vR b, vI (n : Int)] G M (fun r M' => r = none ∧ BdAt M' b (xoA X n) (lg ++ [n]) ∧ ∀ a, (a < b ∨ b + 3 < a) → M' a = M a) := by
  obtain ⟨hB1, l1, l2, l3⟩ := id hB
  refine wq_s 1 rfl ?_
  refine wq_s 2 rfl ?_
  refine wq_vt1 5 rfl rfl (Nat.le_of_ble_eq_true rfl) (hC.lt (by omega)) (hC.bd hb).1 rfl (Nat.le_of_ble_eq_true rfl) (c_X0_has hC hb hB1.1 hn) (fun r M1 hr => ?_)
  rcases hr with ⟨rfl, b_2, hM1⟩ | ⟨rfl, b_2, hM1⟩
  · subst M1
    dsimp only [Option.toList, List.cons_append, List.nil_append]
    refine wq_s 8 rfl ?_
    refine wq_s 9 rfl ?_
    refine wq_getE (v := ((lg.length : Nat) : Int)) 4 12 rfl rfl (hC.lt (by omega)) (hC.bd hb).1 rfl rfl l1 ?_
    refine wq_s 15 rfl ?_
    refine wq_icmp 43 rfl rfl (by omega) (by omega) (fun c_15 => ?_) (fun c_15 => ?_)
    · have c_15 := of_decide_eq_true c_15
      exact absurd c_15 (by omega)
    · have c_15 := of_decide_eq_false c_15
      refine wq_s 19 rfl ?_
      refine wq_s 20 rfl ?_
      refine wq_vt1 23 rfl rfl (Nat.le_of_ble_eq_true rfl) (hC.lt (by omega)) (hC.bd hb).1 rfl (Nat.le_of_ble_eq_true rfl) (c_X0_flip hC hb hS hB1 hn) (fun r M1 hr => ?_)
      obtain ⟨rfl, hB2, hF⟩ := hr
      dsimp only [Option.toList, List.cons_append, List.nil_append]
      refine wq_s 24 rfl ?_
      refine wq_getR 27 rfl rfl (hC.lt (by omega)) (hC.bd hb).1 rfl ?_
      refine wq_s 28 rfl ?_
      refine wq_getE (v := ((lg.length : Nat) : Int)) 4 31 rfl rfl (hC.lt (by omega)) (hC.bd hb).1 rfl rfl (by rw [hF b (by omega) (by omega)]; exact l1) ?_
      refine wq_s 32 rfl ?_
      refine wq_iast 33 rfl rfl (hC.lt (by omega)) (hC.bd hb).2.2.2 (by omega) (by omega) (by omega) ?_
      refine wq_s 34 rfl ?_
      refine wq_s 35 rfl ?_
      refine wq_getE (v := ((lg.length : Nat) : Int)) 4 38 rfl rfl (hC.lt (by omega)) (hC.bd hb).1 rfl rfl (by rw [up2_ne (Or.inl (by omega)), hF b (by omega) (by omega)]; exact l1) ?_
      refine wq_s 39 rfl ?_
      refine we_add ((lg.length + 1 : Nat) : Int) 40 rfl rfl (by omega) (by omega) ?_
      refine wq_putE 4 43 rfl rfl (hC.lt (by omega)) (hC.bd hb).1 rfl (by decide) (Or.inl rfl) rfl ?_
      exact wq_ret rfl ⟨rfl, ⟨hB2.fr (by rw [up2_row (by omega), up2_row (by omega)]) (by rw [up2_row (by omega), up2_row (by omega)]), ⟨(by rw [up2_at, List.length_append]; rfl), (by rw [List.length_append]; show lg.length + 1 ≤ 729; omega), fun i hi => (by
          rw [List.length_append] at hi
          have hi : i < lg.length + 1 := hi
          rw [up2_row (by omega)]
          by_cases hi2 : i < lg.length
          · rw [getD_app1 hi2, up2_ne (Or.inr (by omega)), hF _ (by omega) (by omega)]
            exact l3 i hi2
          · have e : i = lg.length := by omega
            rw [e, getD_app2, up2_at]
            exact ⟨rfl, hn⟩)⟩⟩, fun a ha => by rw [up2_row (by omega), up2_row (by omega), hF a (by omega) (by omega)]⟩
  · exact absurd hh b_2
def undJ (X : Nat → Nat) (lg : List Nat) : Nat → (Nat → Nat)
  | 0 => X
  | j + 1 => xoA (undJ X lg j) (lg.getD (lg.length - 1 - j) 0)
theorem getD_take {l : List Nat} {k i : Nat} (h : i < k) : (l.take k).getD i 0 = l.getD i 0 := by
  rw [List.getD_eq_getElem?_getD, List.getD_eq_getElem?_getD, List.getElem?_take, if_pos h]
theorem c_X0_undo {d : Nat} {G : GT} {M : MT} {b m : Nat} {X : Nat → Nat} {lg : List Nat} (hC : ClsG G) (hb : IsBd b) (hS : ShpAt M) (hB : BdAt M b X lg) (hm : m ≤ lg.length) : Mq (d + 1) k_X0_undo [vR b, vI (m : Int)] G M (fun r M' => r = none ∧ BdAt M' b (undJ X lg (lg.length - m)) (lg.take m) ∧ ∀ a, (a < b ∨ b + 3 < a) → M' a = M a) := by
  obtain ⟨hB1, l1, l2, l3⟩ := id hB
  have L_7 : ∀ (f j : Nat) (M2 : MT), (lg.length - m) - j < f → j ≤ (lg.length - m) → (BdC M2 b (undJ X lg j)) → (M2 b 4 = (lg.length : Int) - (j : Int)) → (∀ a, (a < b ∨ b + 3 < a) → M2 a = M a) → (M2 (b + 3) = M (b + 3)) → Wq (d + 1) k_X0_undo 7 [some (vR b), some (vI ((m : Nat) : Int)), some (vI ((lg.length : Int) - 1 - ((j : Nat) : Int)))] [] G M2 (fun r M' => r = none ∧ BdAt M' b (undJ X lg (lg.length - m)) (lg.take m) ∧ ∀ a, (a < b ∨ b + 3 < a) → M' a = M a) := by
    intro f
    induction f with
    | zero => intro j M2 h; exact absurd h (by omega)
    | succ f ih_j =>
      intro j M2 hf_j hk_j a1 a2 a3 a4
      refine wq_s 8 rfl ?_
      refine wq_s 9 rfl ?_
      refine wq_icmp 37 rfl rfl (by omega) (by omega) (fun c_9 => ?_) (fun c_9 => ?_)
      · have c_9 := of_decide_eq_true c_9
        exact wq_ret rfl ⟨rfl, ⟨(by rw [show lg.length - m = j by omega]; exact a1), ⟨(by rw [a2, List.length_take]; omega), (by rw [List.length_take]; omega), fun i hi => (by
            rw [List.length_take] at hi
            rw [getD_take (by omega), a4]
            exact l3 i (by omega))⟩⟩, a3⟩
      · have c_9 := of_decide_eq_false c_9
        refine wq_s 13 rfl ?_
        refine wq_if 37 rfl rfl (by omega) (fun c_13 => ?_) (fun c_13 => ?_)
        · have c_13 := of_decide_eq_true c_13
          exact absurd c_13 (by omega)
        · have c_13 := of_decide_eq_false c_13
          refine wq_s 17 rfl ?_
          refine wq_s 18 rfl ?_
          refine wq_getR 21 rfl rfl (hC.lt (by omega)) (hC.bd hb).1 rfl ?_
          refine wq_s 22 rfl ?_
          refine wq_iald (v := ((lg.getD (lg.length - 1 - j) 0 : Nat) : Int)) 23 rfl rfl (hC.lt (by omega)).2 (hC.bd hb).2.2.2 (by omega) (by omega) (by omega) (by rw [a4, show (lg.length : Int) - 1 - ((j : Nat) : Int) = ((lg.length - 1 - j : Nat) : Int) by omega]; exact (l3 _ (by omega)).1) ?_
          refine wq_vt1 26 rfl rfl (Nat.le_of_ble_eq_true rfl) (hC.lt (by omega)) (hC.bd hb).1 rfl (Nat.le_of_ble_eq_true rfl) (c_X0_flip (n := lg.getD (lg.length - 1 - j) 0) hC hb (hS.fr (a3 _ (by omega)) (a3 _ (by omega)) (a3 _ (by omega)) (a3 _ (by omega))) a1 (l3 _ (by omega)).2) (fun r M3 hr => ?_)
          obtain ⟨rfl, hB3, hF⟩ := hr
          dsimp only [Option.toList, List.cons_append, List.nil_append]
          refine wq_s 27 rfl ?_
          refine wq_s 28 rfl ?_
          refine wq_putE 4 31 rfl rfl (hC.lt (by omega)) (hC.bd hb).1 rfl (by decide) (Or.inl rfl) rfl ?_
          refine we_inc 2 (-1) ((lg.length : Int) - 1 - ((j + 1 : Nat) : Int)) 34 _ rfl rfl rfl (by omega) (by omega) rfl ?_
          refine wq_s 7 rfl ?_
          refine ih_j (j + 1) _ (by omega) (by omega) (hB3.fr (up2_row (by omega)) (up2_row (by omega))) (up2_at.trans (by omega)) ?_ ?_
          · intro a ha
            rw [up2_row (by omega), hF a (by omega) (by omega)]
            exact a3 a ha
          · rw [up2_row (by omega), hF _ (by omega) (by omega)]
            exact a4
  refine wq_s 1 rfl ?_
  refine wq_getE (v := ((lg.length : Nat) : Int)) 4 4 rfl rfl (hC.lt (by omega)) (hC.bd hb).1 rfl rfl l1 ?_
  refine wq_s 5 rfl ?_
  refine we_sub ((lg.length : Int) - 1 - ((0 : Nat) : Int)) 6 rfl rfl (by omega) (by omega) ?_
  refine wq_s 7 rfl ?_
  exact L_7 (lg.length + 1) 0 M (by omega) (by omega) hB1 (by rw [l1]; omega) (fun _ _ => rfl) rfl
def stX (Xo gv : Nat → Nat) (c e : Nat) : Nat → Nat := fun y => if y < c then fstF gv y else if y = c then fstF gv c % 2 ^ e else Xo y
theorem mod_tb (v e i : Nat) : (v % 2 ^ e).testBit i = true ↔ (i < e ∧ v.testBit i = true) := by
  rw [Nat.testBit_mod_two_pow, Bool.and_eq_true, decide_eq_true_iff]
theorem stX_t {Xo gv : Nat → Nat} {c e : Nat} (he : e < 9) (hb : fstF gv c / 2 ^ e % 2 = 1) : xoA (stX Xo gv c e) (9 * c + e) = stX Xo gv c (e + 1) := by
  funext y
  unfold xoA stX
  rw [show (9 * c + e) / 9 = c by omega, show (9 * c + e) % 9 = e by omega]
  by_cases hy : y = c
  · rw [if_pos hy, if_neg (by omega), if_pos hy, if_neg (by omega), if_pos hy]
    apply tb_ext
    intro i
    have hb := (tb_div _ _).2 hb
    rw [xo_tb, mod_tb, mod_tb]
    constructor
    · rintro (⟨⟨g1, g2⟩, g3⟩ | ⟨g1, g2⟩)
      · exact ⟨by omega, g2⟩
      · exact ⟨by omega, by rw [g2]; exact hb⟩
    · rintro ⟨g1, g2⟩
      by_cases hie : i = e
      · exact Or.inr ⟨fun z => by omega, hie⟩
      · exact Or.inl ⟨⟨by omega, g2⟩, hie⟩
  · rw [if_neg hy, if_neg hy, if_neg hy]
theorem stX_f {Xo gv : Nat → Nat} {c e : Nat} (hb : ¬ fstF gv c / 2 ^ e % 2 = 1) : stX Xo gv c e = stX Xo gv c (e + 1) := by
  funext y
  unfold stX
  by_cases hy : y < c
  · rw [if_pos hy, if_pos hy]
  · rw [if_neg hy, if_neg hy]
    by_cases hyc : y = c
    · rw [if_pos hyc, if_pos hyc]
      apply tb_ext
      intro i
      rw [mod_tb, mod_tb]
      constructor
      · rintro ⟨g1, g2⟩
        exact ⟨by omega, g2⟩
      · rintro ⟨g1, g2⟩
        by_cases hie : i = e
        · rw [hie] at g2
          exact absurd ((tb_div _ _).1 g2) hb
        · exact ⟨by omega, g2⟩
    · rw [if_neg hyc, if_neg hyc]
theorem stX_n {Xo gv : Nat → Nat} {c : Nat} (h : fstF gv c < 512) (hn : Xo (c + 1) = 0) : stX Xo gv c 9 = stX Xo gv (c + 1) 0 := by
  funext y
  unfold stX
  by_cases hy : y < c
  · rw [if_pos hy, if_pos (by omega)]
  · rw [if_neg hy]
    by_cases hyc : y = c
    · rw [if_pos hyc, if_pos (by omega), hyc]
      exact Nat.mod_eq_of_lt h
    · rw [if_neg hyc, if_neg (by omega)]
      by_cases hy1 : y = c + 1
      · rw [if_pos hy1, hy1, hn]
        exact (Nat.mod_one _).symm
      · rw [if_neg hy1]
theorem plH_0 (h e : Nat) : plH (fun _ => 0) h e = 0 := tb_ext fun i => by
  rw [plH_tb, Nat.zero_testBit, Nat.zero_testBit]
  exact ⟨fun z => z.2, fun z => (by cases z)⟩
theorem plH_congr {X X' : Nat → Nat} {h e : Nat} (hh : h < 27) (hx : ∀ c, c < 81 → X c = X' c) : plH X h e = plH X' h e := tb_ext fun i => by
  rw [plH_tb, plH_tb]
  constructor
  · rintro ⟨g1, g2⟩
    exact ⟨g1, by rw [← hx _ (ce_ok hh g1).2.2]; exact g2⟩
  · rintro ⟨g1, g2⟩
    exact ⟨g1, by rw [hx _ (ce_ok hh g1).2.2]; exact g2⟩
def srX (Xo gv : Nat → Nat) (c : Nat) : Nat → Nat := fun y => if y < c then fstF gv y else Xo y
theorem c_X0_start {d : Nat} {G : GT} {M : MT} {b q : Nat} {Xo gv : Nat → Nat} (hC : ClsG G) (hb : IsBd b) (hS : ShpAt M) (hX : AtB M (b + 1) Xo) (hq : q < G.1) (hT : G.2.2 q = .inl (false, 81)) (hqb : q < b ∨ b + 3 < q) (hgv : GvAt M q gv) : Mq (d + 1) k_X0_start [vR b, vR q] G M (fun r M' => r = none ∧ BdAt M' b (fstF gv) [] ∧ ∀ a, (a < b ∨ b + 3 < a) → M' a = M a) := by
  have L_15 : ∀ (f c : Nat) (M2 : MT) (y3 : Option AV) (y4 : Option AV), 81 - c < f → c ≤ 81 → (AtB M2 (b + 1) (srX Xo gv c)) → (∀ h e : Nat, h < 27 → e < 9 → M2 (b + 2) ((9 * h + e : Nat) : Int) = ((plH (stX (fun _ => 0) gv c 0) h e : Nat) : Int)) → (M2 b 4 = 0) → (∀ a, (a < b ∨ b + 3 < a) → M2 a = M a) → Wq (d + 1) k_X0_start 15 [some (vR b), some (vR q), some (vI ((c : Nat) : Int)), y3, y4] [] G M2 (fun r M' => r = none ∧ BdAt M' b (fstF gv) [] ∧ ∀ a, (a < b ∨ b + 3 < a) → M' a = M a) := by
    intro f
    induction f with
    | zero => intro c M2 y3 y4 h; exact absurd h (by omega)
    | succ f ih_c =>
      intro c M2 y3 y4 hf_c hk_c a0 a1 a2 a3
      refine wq_s 16 rfl ?_
      refine wq_s 18 rfl ?_
      refine wq_icmp 77 rfl rfl (by omega) (by omega) (fun c_18 => ?_) (fun c_18 => ?_)
      · have c_18 := of_decide_eq_true c_18
        have e9 : c = 81 := by omega
        subst e9
        exact wq_ret rfl ⟨rfl, ⟨⟨(fun y hy => by
            have h9 := a0 y hy
            unfold srX at h9
            rw [if_pos hy] at h9
            exact h9), fun h e hh he => (by
            rw [a1 h e hh he]
            exact congrArg (fun z : Nat => (z : Int)) (plH_congr hh (fun y hy => if_pos hy)))⟩, ⟨a2, Nat.zero_le _, fun i hi => absurd hi (Nat.not_lt_zero _)⟩⟩, a3⟩
      · have c_18 := of_decide_eq_false c_18
        have hg9 := (hgv c (by omega)).2
        have hfl := fstF_lt hg9
        have L_38 : ∀ (f2 e : Nat) (M2 : MT), 9 - e < f2 → e ≤ 9 → (BdP M2 b (stX Xo gv c e) (stX (fun _ => 0) gv c e)) → (M2 b 4 = 0) → (∀ a, (a < b ∨ b + 3 < a) → M2 a = M a) → Wq (d + 1) k_X0_start 38 [some (vR b), some (vR q), some (vI ((c : Nat) : Int)), some (vI ((fstF gv c : Nat) : Int)), some (vI ((e : Nat) : Int))] [] G M2 (fun r M' => r = none ∧ BdAt M' b (fstF gv) [] ∧ ∀ a, (a < b ∨ b + 3 < a) → M' a = M a) := by
          intro f2
          induction f2 with
          | zero => intro e M2 h; exact absurd h (by omega)
          | succ f2 ih_e =>
            intro e M2 hf_e hk_e a1 a2 a3
            refine wq_s 40 rfl ?_
            refine wq_s 42 rfl ?_
            refine wq_icmp 71 rfl rfl (by omega) (by omega) (fun c_42 => ?_) (fun c_42 => ?_)
            · have c_42 := of_decide_eq_true c_42
              have e9 : e = 9 := by omega
              subst e9
              refine we_inc 2 1 ((c + 1 : Nat) : Int) 74 _ rfl rfl rfl (by omega) (by omega) rfl ?_
              refine wq_s 15 rfl ?_
              refine ih_c (c + 1) _ _ _ (by omega) (by omega) ?_ ?_ a2 a3
              · intro y hy
                have h9 := a1.1 y hy
                unfold stX at h9
                unfold srX
                by_cases hyc : y < c
                · rw [if_pos hyc] at h9
                  rw [if_pos (by omega)]
                  exact h9
                · rw [if_neg hyc] at h9
                  by_cases hy2 : y = c
                  · rw [if_pos hy2, Nat.mod_eq_of_lt hfl] at h9
                    rw [if_pos (by omega), hy2]
                    rw [hy2] at h9
                    exact h9
                  · rw [if_neg hy2] at h9
                    rw [if_neg (by omega)]
                    exact h9
              · rw [stX_n (Xo := fun _ => 0) hfl rfl] at a1
                exact a1.2
            · have c_42 := of_decide_eq_false c_42
              refine wq_s 46 rfl ?_
              refine wq_s 48 rfl ?_
              refine we_shr (fstF gv c) e ((fstF gv c) / 2 ^ e) 49 rfl rfl rfl rfl (by omega) (by omega) rfl ?_
              refine wq_s 50 rfl ?_
              refine we_and ((fstF gv c) / 2 ^ e) 1 (((fstF gv c) / 2 ^ e) % 2) 51 rfl rfl rfl rfl (Nat.lt_of_le_of_lt (Nat.div_le_self _ _) (by omega)) (and_1 _) ?_
              refine wq_if 65 rfl rfl (by omega) (fun c_51 => ?_) (fun c_51 => ?_)
              · have c_51 := of_decide_eq_true c_51
                have c_51 : ¬ fstF gv c / 2 ^ e % 2 = 1 := by omega
                refine we_inc 4 1 ((e + 1 : Nat) : Int) 68 _ rfl rfl rfl (by omega) (by omega) rfl ?_
                refine wq_s 38 rfl ?_
                rw [stX_f (Xo := Xo) c_51, stX_f (Xo := fun _ => 0) c_51] at a1
                exact ih_e (e + 1) _ (by omega) (by omega) a1 a2 a3
              · have c_51 := of_decide_eq_false c_51
                refine wq_s 55 rfl ?_
                refine wq_s 57 rfl ?_
                refine wq_s 58 rfl ?_
                refine we_mul ((9 * c : Nat) : Int) 59 rfl rfl (by omega) (by omega) ?_
                refine wq_s 61 rfl ?_
                refine we_add (((9 * c) + e : Nat) : Int) 62 rfl rfl (by omega) (by omega) ?_
                refine wq_vt1 65 rfl rfl (Nat.le_of_ble_eq_true rfl) (hC.lt (by omega)) (hC.bd hb).1 rfl (Nat.le_of_ble_eq_true rfl) (c_X0_flipP (n := 9 * c + e) hC hb (hS.fr (a3 _ (by omega)) (a3 _ (by omega)) (a3 _ (by omega)) (a3 _ (by omega))) a1 (by omega)) (fun r M3 hr => ?_)
                obtain ⟨rfl, hB3, hF⟩ := hr
                dsimp only [Option.toList, List.cons_append, List.nil_append]
                rw [stX_t (by omega) (by omega), stX_t (by omega) (by omega)] at hB3
                refine we_inc 4 1 ((e + 1 : Nat) : Int) 68 _ rfl rfl rfl (by omega) (by omega) rfl ?_
                refine wq_s 38 rfl ?_
                exact ih_e (e + 1) _ (by omega) (by omega) hB3 (by rw [hF b (by omega) (by omega)]; exact a2) (fun a ha => (hF a (by omega) (by omega)).trans (a3 a ha))
        refine wq_s 22 rfl ?_
        refine wq_getR 25 rfl rfl (hC.lt (by omega)) (hC.bd hb).1 rfl ?_
        refine wq_s 26 rfl ?_
        refine wq_s 27 rfl ?_
        refine wq_iast 28 rfl rfl (hC.lt (by omega)) (hC.bd hb).2.1 (by omega) (by omega) (by omega) ?_
        refine wq_s 29 rfl ?_
        refine wq_s 30 rfl ?_
        refine wq_iald (v := ((gv c : Nat) : Int)) 31 rfl rfl (And.intro (Nat.zero_le 0) hq).2 hT (by omega) (by omega) (by omega) (by rw [up2_row (by omega), a3 _ hqb]; exact (hgv c (by omega)).1) ?_
        refine wq_st1 34 rfl rfl (by decide) (Nat.le_of_ble_eq_true rfl) rfl (Nat.le_of_ble_eq_true rfl) (c_atFirst hg9) (fun r M1 hr => ?_)
        obtain ⟨rfl, hM1⟩ := hr
        subst M1
        dsimp only [Option.toList, List.cons_append, List.nil_append]
        rw [atF_fst gv c hg9]
        refine wq_s 35 rfl ?_
        refine wq_s 36 rfl ?_
        refine wq_s 38 rfl ?_
        refine L_38 10 0 _ (by omega) (by omega) ⟨fun y hy => ?_, fun h e hh he => ?_⟩ ((up2_ne (Or.inl (by omega))).trans a2) (fun a ha => (up2_row (by omega)).trans (a3 a ha))
        · have h9 := a0 y hy
          unfold srX at h9
          unfold stX
          by_cases hyc : y < c
          · rw [if_pos hyc] at h9 ⊢
            rw [up2_ne (Or.inr (by omega))]
            exact h9
          · rw [if_neg hyc] at h9 ⊢
            by_cases hy2 : y = c
            · rw [if_pos hy2, up2_eq rfl (by omega), Nat.pow_zero, Nat.mod_one]
              exact ⟨rfl, by decide⟩
            · rw [if_neg hy2, up2_ne (Or.inr (by omega))]
              exact h9
        · rw [up2_row (by omega)]
          exact a1 h e hh he
  refine wq_s 1 rfl ?_
  refine wq_s 2 rfl ?_
  refine wq_putE 4 5 rfl rfl (hC.lt (by omega)) (hC.bd hb).1 rfl (by decide) (Or.inl rfl) rfl ?_
  refine wq_s 6 rfl ?_
  refine wq_getR 9 rfl rfl (hC.lt (by omega)) (hC.bd hb).1 rfl ?_
  refine wq_s 10 rfl ?_
  refine wq_st2 13 rfl rfl (by decide) (Nat.le_of_ble_eq_true rfl) rfl (Nat.le_of_ble_eq_true rfl) (c_fill0 (hC.lt (by omega)) (hC.bd hb).2.2.1 (by omega)) (fun r M1 hr => ?_)
  obtain ⟨rfl, hM1⟩ := hr
  dsimp only [Option.toList, List.cons_append, List.nil_append]
  refine wq_s 14 rfl ?_
  refine wq_s 15 rfl ?_
  refine L_15 82 0 M1 _ _ (by omega) (by omega) ?_ ?_ ?_ ?_
  · rw [show srX Xo gv 0 = Xo from funext fun y => if_neg (Nat.not_lt_zero _)]
    exact hX.fr (by rw [hM1, setA_ne (by omega), up2_row (by omega)])
  · intro h e hh he
    rw [hM1, setA_lo (by omega) (by omega), show stX (fun _ => 0) gv 0 0 = fun _ => 0 from funext fun y => by
      unfold stX
      rw [if_neg (Nat.not_lt_zero _)]
      split
      · exact Nat.mod_one _
      · rfl, plH_0]
    rfl
  · rw [hM1, setA_ne (by omega), up2_at]
  · intro a ha
    rw [hM1, setA_ne (by omega), up2_row (by omega)]
theorem c_X0_logAt {d : Nat} {G : GT} {M : MT} {b i : Nat} {lg : List Nat} (hC : ClsG G) (hb : IsBd b) (hL : LgAt M b lg) (hi : i < lg.length) : Mq d k_X0_logAt [vR b, vI (i : Int)] G M (fun r M' => r = some (vI ((lg.getD i 0 : Nat) : Int)) ∧ M' = M) := by
  obtain ⟨l1, l2, l3⟩ := hL
  refine wq_s 1 rfl ?_
  refine wq_if 28 rfl rfl (by omega) (fun c_1 => absurd c_1 cmp_ltN) (fun _ => ?_)
  refine wq_s 5 rfl ?_
  refine wq_s 6 rfl ?_
  refine wq_getE (v := ((lg.length : Nat) : Int)) 4 9 rfl rfl (hC.lt (by omega)) (hC.bd hb).1 rfl rfl l1 ?_
  refine wq_icmp 28 rfl rfl (by omega) (by omega) (fun c_9 => ?_) (fun c_9 => ?_)
  · have c_9 := of_decide_eq_true c_9
    exact absurd c_9 (by omega)
  · have c_9 := of_decide_eq_false c_9
    refine wq_s 13 rfl ?_
    refine wq_s 16 rfl ?_
    refine wq_icmp 28 rfl rfl (by omega) (by omega) (fun c_16 => ?_) (fun c_16 => ?_)
    · have c_16 := of_decide_eq_true c_16
      exact absurd c_16 (by omega)
    · have c_16 := of_decide_eq_false c_16
      refine wq_s 20 rfl ?_
      refine wq_getR 23 rfl rfl (hC.lt (by omega)) (hC.bd hb).1 rfl ?_
      refine wq_s 24 rfl ?_
      refine wq_iald (v := ((lg.getD i 0 : Nat) : Int)) 25 rfl rfl (hC.lt (by omega)).2 (hC.bd hb).2.2.2 (by omega) (by omega) (by omega) (l3 i hi).1 ?_
      refine wq_s 29 rfl ?_
      exact wq_ret rfl ⟨rfl, rfl⟩
theorem c_shareHouse {d : Nat} {G : GT} {M : MT} {u v : Nat} (hC : ClsG G) (hS : ShpAt M) (hu : u < 81) (hv : v < 81) : Mq d k_X4_shareHouse [vR 5, vI (u : Int), vI (v : Int)] G M (fun r M' => (r = some (vI 1) ∧ shB u v = true ∧ M' = M) ∨ (r = some (vI 0) ∧ ¬ shB u v = true ∧ M' = M)) := by
  have u0 := (ho_ok (c := u) (s := 0) hu (by decide)).2.2.1
  have u1 := (ho_ok (c := u) (s := 1) hu (by decide)).2.2.1
  have u2 := (ho_ok (c := u) (s := 2) hu (by decide)).2.2.1
  have v0 := (ho_ok (c := v) (s := 0) hv (by decide)).2.2.1
  have v1 := (ho_ok (c := v) (s := 1) hv (by decide)).2.2.1
  have v2 := (ho_ok (c := v) (s := 2) hv (by decide)).2.2.1
  refine wq_s 1 rfl ?_
  refine wq_getR 4 rfl rfl (hC.lt (by omega)) (hC.ty 1 _ rfl) rfl ?_
  refine wq_s 5 rfl ?_
  refine wq_s 6 rfl ?_
  refine we_mul ((3 * u : Nat) : Int) 7 rfl rfl (by omega) (by omega) ?_
  refine wq_iald (v := ((hoN u 0 : Nat) : Int)) 8 rfl rfl (hC.lt (by omega)).2 (hC.ty 3 _ rfl) (by omega) (by omega) (by omega) (hS.2.1 u 0 (by omega) (by decide)).1 ?_
  refine wq_s 9 rfl ?_
  refine wq_getR 12 rfl rfl (hC.lt (by omega)) (hC.ty 1 _ rfl) rfl ?_
  refine wq_s 13 rfl ?_
  refine wq_s 14 rfl ?_
  refine we_mul ((3 * v : Nat) : Int) 15 rfl rfl (by omega) (by omega) ?_
  refine wq_iald (v := ((hoN v 0 : Nat) : Int)) 16 rfl rfl (hC.lt (by omega)).2 (hC.ty 3 _ rfl) (by omega) (by omega) (by omega) (hS.2.1 v 0 (by omega) (by decide)).1 ?_
  refine wq_icmp 65 rfl rfl (by omega) (by omega) (fun c_16 => ?_) (fun c_16 => ?_)
  · have c_16 := of_decide_eq_true c_16
    refine wq_s 66 rfl ?_
    refine wq_s 70 rfl ?_
    exact wq_ret rfl (Or.inl ⟨rfl, decide_eq_true (by omega), rfl⟩)
  · have c_16 := of_decide_eq_false c_16
    refine wq_s 20 rfl ?_
    refine wq_getR 23 rfl rfl (hC.lt (by omega)) (hC.ty 1 _ rfl) rfl ?_
    refine wq_s 24 rfl ?_
    refine wq_s 25 rfl ?_
    refine we_mul ((3 * u : Nat) : Int) 26 rfl rfl (by omega) (by omega) ?_
    refine wq_s 27 rfl ?_
    refine we_add (((3 * u) + 1 : Nat) : Int) 28 rfl rfl (by omega) (by omega) ?_
    refine wq_iald (v := ((hoN u 1 : Nat) : Int)) 29 rfl rfl (hC.lt (by omega)).2 (hC.ty 3 _ rfl) (by omega) (by omega) (by omega) (hS.2.1 u 1 (by omega) (by decide)).1 ?_
    refine wq_s 30 rfl ?_
    refine wq_getR 33 rfl rfl (hC.lt (by omega)) (hC.ty 1 _ rfl) rfl ?_
    refine wq_s 34 rfl ?_
    refine wq_s 35 rfl ?_
    refine we_mul ((3 * v : Nat) : Int) 36 rfl rfl (by omega) (by omega) ?_
    refine wq_s 37 rfl ?_
    refine we_add (((3 * v) + 1 : Nat) : Int) 38 rfl rfl (by omega) (by omega) ?_
    refine wq_iald (v := ((hoN v 1 : Nat) : Int)) 39 rfl rfl (hC.lt (by omega)).2 (hC.ty 3 _ rfl) (by omega) (by omega) (by omega) (hS.2.1 v 1 (by omega) (by decide)).1 ?_
    refine wq_icmp 65 rfl rfl (by omega) (by omega) (fun c_39 => ?_) (fun c_39 => ?_)
    · have c_39 := of_decide_eq_true c_39
      refine wq_s 66 rfl ?_
      refine wq_s 70 rfl ?_
      exact wq_ret rfl (Or.inl ⟨rfl, decide_eq_true (by omega), rfl⟩)
    · have c_39 := of_decide_eq_false c_39
      refine wq_s 43 rfl ?_
      refine wq_getR 46 rfl rfl (hC.lt (by omega)) (hC.ty 1 _ rfl) rfl ?_
      refine wq_s 47 rfl ?_
      refine wq_s 48 rfl ?_
      refine we_mul ((3 * u : Nat) : Int) 49 rfl rfl (by omega) (by omega) ?_
      refine wq_s 50 rfl ?_
      refine we_add (((3 * u) + 2 : Nat) : Int) 51 rfl rfl (by omega) (by omega) ?_
      refine wq_iald (v := ((hoN u 2 : Nat) : Int)) 52 rfl rfl (hC.lt (by omega)).2 (hC.ty 3 _ rfl) (by omega) (by omega) (by omega) (hS.2.1 u 2 (by omega) (by decide)).1 ?_
      refine wq_s 53 rfl ?_
      refine wq_getR 56 rfl rfl (hC.lt (by omega)) (hC.ty 1 _ rfl) rfl ?_
      refine wq_s 57 rfl ?_
      refine wq_s 58 rfl ?_
      refine we_mul ((3 * v : Nat) : Int) 59 rfl rfl (by omega) (by omega) ?_
      refine wq_s 60 rfl ?_
      refine we_add (((3 * v) + 2 : Nat) : Int) 61 rfl rfl (by omega) (by omega) ?_
      refine wq_iald (v := ((hoN v 2 : Nat) : Int)) 62 rfl rfl (hC.lt (by omega)).2 (hC.ty 3 _ rfl) (by omega) (by omega) (by omega) (hS.2.1 v 2 (by omega) (by decide)).1 ?_
      refine wq_icmp 69 rfl rfl (by omega) (by omega) (fun c_62 => ?_) (fun c_62 => ?_)
      · have c_62 := of_decide_eq_true c_62
        refine wq_s 70 rfl ?_
        exact wq_ret rfl (Or.inr ⟨rfl, fun z => (by have := of_decide_eq_true z; omega), rfl⟩)
      · have c_62 := of_decide_eq_false c_62
        refine wq_s 66 rfl ?_
        refine wq_s 70 rfl ?_
        exact wq_ret rfl (Or.inl ⟨rfl, decide_eq_true (by omega), rfl⟩)
