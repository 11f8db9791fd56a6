/-! subsets: mark, walked -/
def mfF (X : Nat → Nat) (r p i bt : Nat) (Hd : Nat → Nat) : Nat → Nat := if kdN r = 1 then hdU Hd (ceN p i) (X (ceN p i) &&& bt) else if kdN r = 2 then hpF Hd p i (plH X p i &&& bt) 9 else hpF Hd (blN p i) (dgN p - 1) (plH X (blN p i) (dgN p - 1) &&& bt) 9
def smF (X : Nat → Nat) (r p q u : Nat) : Nat → (Nat → Nat)
  | 0 => fun _ => 0
  | i + 1 => if q / 2 ^ i % 2 = 1 then smF X r p q u i else mfF X r p i (mkN X r p i &&& u) (smF X r p q u i)
theorem c_markFrom {d : Nat} {G : GT} {M : MT} {b r p i bt : Nat} {X Hd : Nat → Nat} (hC : ClsG G) (hb : IsBd b) (hS : ShpAt M) (hB : BdC M b X) (hH : GoAt M Hd) (hL : LdC r p) (hi : i < 9) (hbt : bt < 512) : Mq (d + 2) k_X6_markFrom [vR 22, vR b, vI ((kdN r : Nat) : Int), vI (p : Int), vI (i : Int), vI (bt : Int)] G M (fun z M' => z = none ∧ GoAt M' (mfF X r p i bt Hd) ∧ ∀ a, a ≠ 19 → a ≠ 20 → M' a = M a) := by
  obtain ⟨hr, hp, hf⟩ := id hL
  obtain ⟨k1, k2, k3, k4, k5⟩ := kd_all ⟨r, hr.2⟩ hr.1
  dsimp only at k1 k2 k3 k4 k5
  have hce := (ce_ok hp hi).2.2
  have hdg : dgN p < 27 := by unfold dgN; split <;> omega
  refine wq_s 1 rfl ?_
  refine wq_s 2 rfl ?_
  refine wq_icmp 33 rfl rfl (by omega) (by omega) (fun c_2 => ?_) (fun c_2 => ?_)
  · have c_2 := of_decide_eq_true c_2
    refine wq_s 34 rfl ?_
    refine wq_s 35 rfl ?_
    refine wq_icmp 54 rfl rfl (by omega) (by omega) (fun c_35 => ?_) (fun c_35 => ?_)
    · have c_35 := of_decide_eq_true c_35
      refine wq_s 55 rfl ?_
      refine wq_getR 58 rfl rfl (hC.lt (by omega)) (hC.ty 18 _ rfl) rfl ?_
      refine wq_s 59 rfl ?_
      refine wq_s 60 rfl ?_
      refine wq_s 62 rfl ?_
      refine wq_st2 65 rfl rfl (by decide) (Nat.le_of_ble_eq_true rfl) rfl (Nat.le_of_ble_eq_true rfl) (c_baseLine hp hi) (fun r M1 hr => ?_)
      obtain ⟨rfl, hM1⟩ := hr
      subst M1
      dsimp only [Option.toList, List.cons_append, List.nil_append]
      have hbl : blN p i < 27 := by unfold blN; split <;> omega
      refine wq_s 66 rfl ?_
      have hf9 := hf (by omega)
      refine wq_st1 69 rfl rfl (by decide) (Nat.le_of_ble_eq_true rfl) rfl (Nat.le_of_ble_eq_true rfl) (c_fishDigit hp) (fun r9 M1 hr9 => ?_)
      obtain ⟨rfl, hM1⟩ := hr9
      subst M1
      dsimp only [Option.toList, List.cons_append, List.nil_append]
      rw [show ((dgN p : Nat) : Int) - 1 = ((dgN p - 1 : Nat) : Int) by omega]
      refine wq_s 71 rfl ?_
      refine wq_vt4 74 rfl rfl (Nat.le_of_ble_eq_true rfl) (hC.lt (by omega)) (hC.ty 15 _ rfl) rfl (Nat.le_of_ble_eq_true rfl) (c_addPlN (h := blN p i) (e := dgN p - 1) (m := bt) hC hb hS hB hH hbl (by omega) (by omega)) (fun z M3 hz => ?_)
      obtain ⟨rfl, hG3, hF3⟩ := hz
      dsimp only [Option.toList, List.cons_append, List.nil_append]
      exact wq_ret rfl ⟨rfl, (by rw [show mfF X r p i bt Hd = _ from (if_neg (by omega)).trans (if_neg (by omega))]; exact hG3), hF3⟩
    · have c_35 := of_decide_eq_false c_35
      refine wq_s 39 rfl ?_
      refine wq_getR 42 rfl rfl (hC.lt (by omega)) (hC.ty 18 _ rfl) rfl ?_
      refine wq_s 43 rfl ?_
      refine wq_s 44 rfl ?_
      refine wq_s 46 rfl ?_
      refine wq_s 48 rfl ?_
      refine wq_vt4 51 rfl rfl (Nat.le_of_ble_eq_true rfl) (hC.lt (by omega)) (hC.ty 15 _ rfl) rfl (Nat.le_of_ble_eq_true rfl) (c_addPlN (h := p) (e := i) (m := bt) hC hb hS hB hH hp hi (by omega)) (fun z M3 hz => ?_)
      obtain ⟨rfl, hG3, hF3⟩ := hz
      dsimp only [Option.toList, List.cons_append, List.nil_append]
      refine wq_s 74 rfl ?_
      exact wq_ret rfl ⟨rfl, (by rw [show mfF X r p i bt Hd = _ from (if_neg (by omega)).trans (if_pos (by omega))]; exact hG3), hF3⟩
  · have c_2 := of_decide_eq_false c_2
    refine wq_s 6 rfl ?_
    refine wq_getR 9 rfl rfl (hC.lt (by omega)) (hC.ty 18 _ rfl) rfl ?_
    refine wq_s 10 rfl ?_
    refine wq_s 11 rfl ?_
    refine wq_getR 14 rfl rfl (hC.lt (by omega)) (hC.ty 18 _ rfl) rfl ?_
    refine wq_getR 17 rfl rfl (hC.lt (by omega)) (hC.ty 1 _ rfl) rfl ?_
    refine wq_s 19 rfl ?_
    refine wq_s 20 rfl ?_
    refine we_mul ((9 * p : Nat) : Int) 21 rfl rfl (by omega) (by omega) ?_
    refine wq_s 23 rfl ?_
    refine we_add (((9 * p) + i : Nat) : Int) 24 rfl rfl (by omega) (by omega) ?_
    refine wq_iald (v := ((ceN p i : Nat) : Int)) 25 rfl rfl (hC.lt (by omega)).2 (hC.ty 2 _ rfl) (by omega) (by omega) (by omega) (hS.1 p i hp hi) ?_
    refine wq_s 27 rfl ?_
    refine wq_vt3 30 rfl rfl (Nat.le_of_ble_eq_true rfl) (hC.lt (by omega)) (hC.ty 15 _ rfl) rfl (Nat.le_of_ble_eq_true rfl) (c_X2_add (cl := ceN p i) (bt := bt) hC hb hB.1 hH hce hbt) (fun z M3 hz => ?_)
    obtain ⟨rfl, hG3, hF3⟩ := hz
    dsimp only [Option.toList, List.cons_append, List.nil_append]
    refine wq_s 74 rfl ?_
    exact wq_ret rfl ⟨rfl, (by rw [show mfF X r p i bt Hd = _ from if_pos (by omega)]; exact hG3), hF3⟩
theorem mark_23 {d : Nat} {G : GT} {M M1 : MT} {b r p v : Nat} {X : Nat → Nat} (hC : ClsG G) (hb : IsBd b) (hS : ShpAt M) (hB : BdC M b X) (hT : TbAt M) (hH : GoAt M (fun _ => 0)) (hv : v < 512) (hL : LdC r p) (hM : MkAt M1 (mkN X r p)) (hF : ∀ a, a ≠ 23 → M1 a = M a) : Wq (d + 3) k_X6_mark 23 [some (vR 22), some (vR b), some (vI (r : Int)), some (vI (p : Int)), some (vI (v : Int)), none, none] [] G M1 (fun z M' => (LdC r p ∧ pop9 v = sizeN r ∧ pop9 (uN (mkN X r p) v 9) = sizeN r ∧ z = some (vI ((cntX (smF X r p v (uN (mkN X r p) v 9) 9) : Nat) : Int)) ∧ GoAt M' (smF X r p v (uN (mkN X r p) v 9) 9) ∧ ∀ a, a ≠ 19 → a ≠ 20 → a ≠ 23 → M' a = M a) ∨ (¬ (LdC r p ∧ pop9 v = sizeN r ∧ pop9 (uN (mkN X r p) v 9) = sizeN r) ∧ z = some (vI 0) ∧ ∀ a, a ≠ 23 → M' a = M a)) := by
  obtain ⟨hr, hp, hf⟩ := id hL
  have hml : ∀ i, i < 9 → mkN X r p i < 512 := fun i hi => (hM i hi).2
  have hsz : 2 ≤ sizeN r ∧ sizeN r ≤ 4 := by unfold sizeN; (repeat' split) <;> omega
  obtain ⟨k1, k2, k3, k4, k5⟩ := kd_all ⟨r, hr.2⟩ hr.1
  dsimp only at k1 k2 k3 k4 k5
  have hu9 := uN_lt (v := v) hml 9 (Nat.le_refl _)
  have L_97 : pop9 v = sizeN r → pop9 (uN (mkN X r p) v 9) = sizeN r → ∀ (f i : Nat) (M2 : MT), 9 - i < f → i ≤ 9 → (GoAt M2 (smF X r p v (uN (mkN X r p) v 9) i)) → (∀ a, a ≠ 19 → a ≠ 20 → a ≠ 23 → M2 a = M a) → (MkAt M2 (mkN X r p)) → Wq (d + 3) k_X6_mark 97 [some (vR 22), some (vR b), some (vI ((r : Nat) : Int)), some (vI ((p : Nat) : Int)), some (vI ((v : Nat) : Int)), some (vI ((uN (mkN X r p) v 9 : Nat) : Int)), some (vI ((i : Nat) : Int))] [] G M2 (fun z M' => (LdC r p ∧ pop9 v = sizeN r ∧ pop9 (uN (mkN X r p) v 9) = sizeN r ∧ z = some (vI ((cntX (smF X r p v (uN (mkN X r p) v 9) 9) : Nat) : Int)) ∧ GoAt M' (smF X r p v (uN (mkN X r p) v 9) 9) ∧ ∀ a, a ≠ 19 → a ≠ 20 → a ≠ 23 → M' a = M a) ∨ (¬ (LdC r p ∧ pop9 v = sizeN r ∧ pop9 (uN (mkN X r p) v 9) = sizeN r) ∧ z = some (vI 0) ∧ ∀ a, a ≠ 23 → M' a = M a)) := by
    intro hq1 hq2 f
    induction f with
    | zero => intro i M2 h; exact absurd h (by omega)
    | succ f ih_i =>
      intro i M2 hf_i hk_i a1 a2 a3
      refine wq_s 99 rfl ?_
      refine wq_s 101 rfl ?_
      refine wq_icmp 143 rfl rfl (by omega) (by omega) (fun c_101 => ?_) (fun c_101 => ?_)
      · have c_101 := of_decide_eq_true c_101
        have e9 : i = 9 := by omega
        subst e9
        refine wq_s 144 rfl ?_
        refine wq_getR 147 rfl rfl (hC.lt (by omega)) (hC.ty 18 _ rfl) rfl ?_
        refine wq_getE (v := ((cntX (smF X r p v (uN (mkN X r p) v 9) 9) : Nat) : Int)) 2 150 rfl rfl (hC.lt (by omega)) (hC.ty 15 _ rfl) rfl rfl a1.2 ?_
        exact wq_ret rfl (Or.inl ⟨hL, hq1, hq2, rfl, a1, a2⟩)
      · have c_101 := of_decide_eq_false c_101
        have hmi := hml i (by omega)
        have hand := and_lt2 (n := uN (mkN X r p) v 9) (k := 9) hmi
        refine wq_s 106 rfl ?_
        refine wq_s 108 rfl ?_
        refine we_shr v i (v / 2 ^ i) 109 rfl rfl rfl rfl (by omega) (by omega) rfl ?_
        refine wq_s 110 rfl ?_
        refine we_and (v / 2 ^ i) 1 ((v / 2 ^ i) % 2) 111 rfl rfl rfl rfl (Nat.lt_of_le_of_lt (Nat.div_le_self _ _) (by omega)) (and_1 _) ?_
        refine wq_if 137 rfl rfl (by omega) (fun c_111 => ?_) (fun c_111 => ?_)
        · have c_111 := of_decide_eq_true c_111
          refine we_inc 6 1 ((i + 1 : Nat) : Int) 140 _ rfl rfl rfl (by omega) (by omega) rfl ?_
          refine wq_s 97 rfl ?_
          have ee : smF X r p v (uN (mkN X r p) v 9) (i + 1) = smF X r p v (uN (mkN X r p) v 9) i := if_pos (by omega)
          exact ih_i (i + 1) _ (by omega) (by omega) (by rw [ee]; exact a1) a2 a3
        · have c_111 := of_decide_eq_false c_111
          refine wq_s 115 rfl ?_
          refine wq_s 116 rfl ?_
          refine wq_s 119 rfl ?_
          refine wq_s 120 rfl ?_
          refine wq_iald (v := ((kdN r : Nat) : Int)) 121 rfl rfl (And.intro (Nat.zero_le 0) (show 1 < G.1 by have := hC.1; omega)).2 hC.2.2.1 (by omega) (by omega) (by omega) (by rw [a2 _ (by decide) (by decide) (by decide)]; exact (hT.1 r hr.2).1) ?_
          refine wq_s 122 rfl ?_
          refine wq_s 124 rfl ?_
          refine wq_s 125 rfl ?_
          refine wq_getR 128 rfl rfl (hC.lt (by omega)) (hC.ty 18 _ rfl) rfl ?_
          refine wq_s 130 rfl ?_
          refine wq_iald (v := ((mkN X r p i : Nat) : Int)) 131 rfl rfl (hC.lt (by omega)).2 (hC.ty 19 _ rfl) (by omega) (by omega) (by omega) (a3 i (by omega)).1 ?_
          refine wq_s 133 rfl ?_
          refine we_and (mkN X r p i) (uN (mkN X r p) v 9) ((mkN X r p i) &&& (uN (mkN X r p) v 9)) 134 rfl rfl rfl rfl (by omega) rfl ?_
          refine wq_vt5 137 rfl rfl (Nat.le_of_ble_eq_true rfl) (hC.lt (by omega)) (hC.ty 18 _ rfl) rfl (Nat.le_of_ble_eq_true rfl) (c_markFrom (bt := mkN X r p i &&& uN (mkN X r p) v 9) (Hd := smF X r p v (uN (mkN X r p) v 9) i) hC hb (hS.fr (a2 _ (by decide) (by decide) (by decide)) (a2 _ (by decide) (by decide) (by decide)) (a2 _ (by decide) (by decide) (by decide)) (a2 _ (by decide) (by decide) (by decide))) (hB.fr (a2 _ (by omega) (by omega) (by omega)) (a2 _ (by omega) (by omega) (by omega))) a1 hL (by omega) hand) (fun z M3 hz => ?_)
          obtain ⟨rfl, hG3, hF3⟩ := hz
          dsimp only [Option.toList, List.cons_append, List.nil_append]
          refine we_inc 6 1 ((i + 1 : Nat) : Int) 140 _ rfl rfl rfl (by omega) (by omega) rfl ?_
          refine wq_s 97 rfl ?_
          have ee : smF X r p v (uN (mkN X r p) v 9) (i + 1) = mfF X r p i (mkN X r p i &&& uN (mkN X r p) v 9) (smF X r p v (uN (mkN X r p) v 9) i) := if_neg (by omega)
          exact ih_i (i + 1) _ (by omega) (by omega) (by rw [ee]; exact hG3) (fun a h1 h2 h3 => (hF3 a h1 h2).trans (a2 a h1 h2 h3)) (a3.fr (hF3 _ (by decide) (by decide)))
  have L_44 : pop9 v = sizeN r → ∀ (f i : Nat), 9 - i < f → i ≤ 9 → Wq (d + 3) k_X6_mark 44 [some (vR 22), some (vR b), some (vI ((r : Nat) : Int)), some (vI ((p : Nat) : Int)), some (vI ((v : Nat) : Int)), some (vI ((uN (mkN X r p) v i : Nat) : Int)), some (vI ((i : Nat) : Int))] [] G M1 (fun z M' => (LdC r p ∧ pop9 v = sizeN r ∧ pop9 (uN (mkN X r p) v 9) = sizeN r ∧ z = some (vI ((cntX (smF X r p v (uN (mkN X r p) v 9) 9) : Nat) : Int)) ∧ GoAt M' (smF X r p v (uN (mkN X r p) v 9) 9) ∧ ∀ a, a ≠ 19 → a ≠ 20 → a ≠ 23 → M' a = M a) ∨ (¬ (LdC r p ∧ pop9 v = sizeN r ∧ pop9 (uN (mkN X r p) v 9) = sizeN r) ∧ z = some (vI 0) ∧ ∀ a, a ≠ 23 → M' a = M a)) := by
    intro hq1 f
    induction f with
    | zero => intro i h; exact absurd h (by omega)
    | succ f ih_i =>
      intro i hf_i hk_i 
      refine wq_s 46 rfl ?_
      refine wq_s 48 rfl ?_
      refine wq_icmp 79 rfl rfl (by omega) (by omega) (fun c_48 => ?_) (fun c_48 => ?_)
      · have c_48 := of_decide_eq_true c_48
        have e9 : i = 9 := by omega
        subst e9
        refine wq_s 81 rfl ?_
        refine wq_st1 84 rfl rfl (by decide) (Nat.le_of_ble_eq_true rfl) rfl (Nat.le_of_ble_eq_true rfl) (c_bitCount (n := uN (mkN X r p) v 9) hu9) (fun z M9 hz => ?_)
        obtain ⟨rfl, hM9⟩ := hz
        subst M9
        dsimp only [Option.toList, List.cons_append, List.nil_append]
        have hpp_81 := pop9_le (uN (mkN X r p) v 9)
        refine wq_s 87 rfl ?_
        refine wq_s 88 rfl ?_
        refine wq_iald (v := ((sizeN r : Nat) : Int)) 89 rfl rfl (And.intro (Nat.zero_le 0) (show 2 < G.1 by have := hC.1; omega)).2 hC.2.2.2.1 (by omega) (by omega) (by omega) (by rw [hF _ (by decide), (hT.1 r hr.2).2, if_neg (by omega)]) ?_
        refine wq_icmp 94 rfl rfl (by omega) (by omega) (fun c_89 => ?_) (fun c_89 => ?_)
        · have c_89 := of_decide_eq_true c_89
          refine wq_s 95 rfl ?_
          refine wq_s 97 rfl ?_
          exact L_97 hq1 (by omega) 10 0 M1 (by omega) (by omega) (hH.fr (hF _ (by decide)) (hF _ (by decide))) (fun a _ _ h3 => hF a h3) hM
        · have c_89 := of_decide_eq_false c_89
          refine wq_s 93 rfl ?_
          exact wq_ret rfl (Or.inr ⟨fun z => (by have := z.2.2; omega), rfl, hF⟩)
      · have c_48 := of_decide_eq_false c_48
        have hul := uN_lt (v := v) hml i (by omega)
        have hmi := hml i (by omega)
        refine wq_s 53 rfl ?_
        refine wq_s 55 rfl ?_
        refine we_shr v i (v / 2 ^ i) 56 rfl rfl rfl rfl (by omega) (by omega) rfl ?_
        refine wq_s 57 rfl ?_
        refine we_and (v / 2 ^ i) 1 ((v / 2 ^ i) % 2) 58 rfl rfl rfl rfl (Nat.lt_of_le_of_lt (Nat.div_le_self _ _) (by omega)) (and_1 _) ?_
        refine wq_if 73 rfl rfl (by omega) (fun c_58 => ?_) (fun c_58 => ?_)
        · have c_58 := of_decide_eq_true c_58
          refine we_inc 6 1 ((i + 1 : Nat) : Int) 76 _ rfl rfl rfl (by omega) (by omega) rfl ?_
          refine wq_s 44 rfl ?_
          have ee : uN (mkN X r p) v (i + 1) = uN (mkN X r p) v i := if_neg (by omega)
          have h9 := ih_i (i + 1) (by omega) (by omega)
          rw [ee] at h9
          exact h9
        · have c_58 := of_decide_eq_false c_58
          refine wq_s 63 rfl ?_
          refine wq_s 64 rfl ?_
          refine wq_getR 67 rfl rfl (hC.lt (by omega)) (hC.ty 18 _ rfl) rfl ?_
          refine wq_s 69 rfl ?_
          refine wq_iald (v := ((mkN X r p i : Nat) : Int)) 70 rfl rfl (hC.lt (by omega)).2 (hC.ty 19 _ rfl) (by omega) (by omega) (by omega) (hM i (by omega)).1 ?_
          refine we_or (uN (mkN X r p) v i) (mkN X r p i) (uN (mkN X r p) v (i + 1)) 71 rfl rfl rfl rfl (by omega) (by omega) ((if_pos (show v / 2 ^ i % 2 = 1 by omega)).symm) ?_
          refine wq_s 73 rfl ?_
          refine we_inc 6 1 ((i + 1 : Nat) : Int) 76 _ rfl rfl rfl (by omega) (by omega) rfl ?_
          refine wq_s 44 rfl ?_
          exact ih_i (i + 1) (by omega) (by omega)
  refine wq_s 25 rfl ?_
  refine wq_st1 28 rfl rfl (by decide) (Nat.le_of_ble_eq_true rfl) rfl (Nat.le_of_ble_eq_true rfl) (c_bitCount (n := v) hv) (fun z M9 hz => ?_)
  obtain ⟨rfl, hM9⟩ := hz
  subst M9
  dsimp only [Option.toList, List.cons_append, List.nil_append]
  have hpp_25 := pop9_le v
  refine wq_s 31 rfl ?_
  refine wq_s 32 rfl ?_
  refine wq_iald (v := ((sizeN r : Nat) : Int)) 33 rfl rfl (And.intro (Nat.zero_le 0) (show 2 < G.1 by have := hC.1; omega)).2 hC.2.2.2.1 (by omega) (by omega) (by omega) (by rw [hF _ (by decide), (hT.1 r hr.2).2, if_neg (by omega)]) ?_
  refine wq_icmp 38 rfl rfl (by omega) (by omega) (fun c_33 => ?_) (fun c_33 => ?_)
  · have c_33 := of_decide_eq_true c_33
    refine wq_s 39 rfl ?_
    refine wq_s 41 rfl ?_
    refine wq_s 42 rfl ?_
    refine wq_s 44 rfl ?_
    exact L_44 (by omega) 10 0 (by omega) (by omega)
  · have c_33 := of_decide_eq_false c_33
    refine wq_s 37 rfl ?_
    exact wq_ret rfl (Or.inr ⟨fun z => (by have := z.2.1; omega), rfl, hF⟩)
