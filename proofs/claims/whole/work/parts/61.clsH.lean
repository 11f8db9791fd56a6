/-! subsets: load, touchesOthers, pick, first -/
def kdN (r : Nat) : Nat := (tb_K.getD r 0).toNat
def TbAt (M : MT) : Prop := (∀ r : Nat, r < 13 → M 1 (r : Int) = ((kdN r : Nat) : Int) ∧ M 2 (r : Int) = ((if r < 4 then 0 else sizeN r : Nat) : Int)) ∧ ∀ r : Nat, r < 14 → M 3 (r : Int) = ((wtN r : Nat) : Int)
theorem TbAt.fr {M M' : MT} (h : TbAt M) (h1 : M' 1 = M 1) (h2 : M' 2 = M 2) (h3 : M' 3 = M 3) : TbAt M' := by
  unfold TbAt
  rw [h1, h2, h3]
  exact h
theorem kd_all : ∀ r : Fin 13, 4 ≤ r.val → (kdN r.val = 1 ↔ (r.val = 4 ∨ r.val = 6 ∨ r.val = 9)) ∧ (kdN r.val = 2 ↔ (r.val = 5 ∨ r.val = 7 ∨ r.val = 10)) ∧ (kdN r.val = 3 ↔ (r.val = 8 ∨ r.val = 11 ∨ r.val = 12)) ∧ 1 ≤ kdN r.val ∧ kdN r.val ≤ 3 := by decide +kernel
def dgN (p : Nat) : Nat := if p < 16 then p else p - 16
def blN (p i : Nat) : Nat := if p < 16 then i else 9 + i
/-- the nine masks that a rule looks at -/
def mkN (X : Nat → Nat) (r p i : Nat) : Nat := if kdN r = 1 then X (ceN p i) else if kdN r = 2 then plH X p i else plH X (blN p i) (dgN p - 1)
def LdC (r p : Nat) : Prop := (4 ≤ r ∧ r < 13) ∧ p < 27 ∧ (kdN r = 3 → 1 ≤ dgN p ∧ dgN p ≤ 9)
def MkAt (M : MT) (mk : Nat → Nat) : Prop := ∀ i : Nat, i < 9 → M 23 (i : Int) = ((mk i : Nat) : Int) ∧ mk i < 512
theorem MkAt.fr {M M' : MT} {mk : Nat → Nat} (h : MkAt M mk) (he : M' 23 = M 23) : MkAt M' mk := fun i hi => by
  rw [he]
  exact h i hi
theorem c_fishDigit {d : Nat} {G : GT} {M : MT} {p : Nat} (hp : p < 27) : Mq d k_X6_fishDigit [vI (p : Int)] G M (fun r M' => r = some (vI ((dgN p : Nat) - 1 : Int)) ∧ M' = M) := by
  refine wq_s 1 rfl ?_
  refine wq_s 3 rfl ?_
  refine wq_icmp 10 rfl rfl (by omega) (by omega) (fun c_3 => ?_) (fun c_3 => ?_)
  · have c_3 := of_decide_eq_true c_3
    refine wq_s 11 rfl ?_
    refine wq_s 13 rfl ?_
    refine we_sub ((p - 16 : Nat) : Int) 14 rfl rfl (by omega) (by omega) ?_
    refine wq_s 15 rfl ?_
    refine we_sub ((((p - 16) : Nat) : Int) - 1) 16 rfl rfl (by omega) (by omega) ?_
    exact wq_ret rfl ⟨by rw [show dgN p = p - 16 from if_neg (by omega)], rfl⟩
  · have c_3 := of_decide_eq_false c_3
    refine wq_s 7 rfl ?_
    refine wq_s 14 rfl ?_
    refine wq_s 15 rfl ?_
    refine we_sub (((p : Nat) : Int) - 1) 16 rfl rfl (by omega) (by omega) ?_
    exact wq_ret rfl ⟨by rw [show dgN p = p from if_pos (by omega)], rfl⟩
theorem c_baseLine {d : Nat} {G : GT} {M : MT} {p i : Nat} (hp : p < 27) (hi : i < 9) : Mq d k_X6_baseLine [vI (p : Int), vI (i : Int)] G M (fun r M' => r = some (vI ((blN p i : Nat) : Int)) ∧ M' = M) := by
  refine wq_s 1 rfl ?_
  refine wq_s 3 rfl ?_
  refine wq_icmp 10 rfl rfl (by omega) (by omega) (fun c_3 => ?_) (fun c_3 => ?_)
  · have c_3 := of_decide_eq_true c_3
    refine wq_s 12 rfl ?_
    refine wq_s 13 rfl ?_
    refine we_add ((9 + i : Nat) : Int) 14 rfl rfl (by omega) (by omega) ?_
    exact wq_ret rfl ⟨by rw [show blN p i = 9 + i from if_neg (by omega)], rfl⟩
  · have c_3 := of_decide_eq_false c_3
    refine wq_s 7 rfl ?_
    refine wq_s 14 rfl ?_
    exact wq_ret rfl ⟨by rw [show blN p i = i from if_pos (by omega)], rfl⟩
theorem load_23 {d : Nat} {G : GT} {M : MT} {b r p : Nat} {X : Nat → Nat} (hC : ClsG G) (hb : IsBd b) (hS : ShpAt M) (hB : BdC M b X) (hT : TbAt M) (hr : 4 ≤ r ∧ r < 13) (hp : p < 27) : Wq (d + 1) k_X6_load 23 [some (vR 22), some (vR b), some (vI (r : Int)), some (vI (p : Int)), none, none] [] G M (fun z M' => (z = some (vI 1) ∧ LdC r p ∧ (0 ≤ (r : Int) ∧ 0 ≤ (p : Int)) ∧ MkAt M' (mkN X r p) ∧ ∀ a, a ≠ 23 → M' a = M a) ∨ (z = some (vI 0) ∧ ¬ (LdC r p ∧ 0 ≤ (r : Int) ∧ 0 ≤ (p : Int)) ∧ M' = M)) := by
  obtain ⟨k1, k2, k3, k4, k5⟩ := kd_all ⟨r, hr.2⟩ hr.1
  dsimp only at k1 k2 k3 k4 k5
  have hdg : dgN p < 27 := by unfold dgN; split <;> omega
  have L_57 : LdC r p → ∀ (f i : Nat) (M2 : MT), 9 - i < f → i ≤ 9 → (∀ j : Nat, j < i → M2 23 (j : Int) = ((mkN X r p j : Nat) : Int) ∧ mkN X r p j < 512) → (∀ a, a ≠ 23 → M2 a = M a) → Wq (d + 1) k_X6_load 57 [some (vR 22), some (vR b), some (vI ((r : Nat) : Int)), some (vI ((p : Nat) : Int)), some (vI ((kdN r : Nat) : Int)), some (vI ((i : Nat) : Int))] [] G M2 (fun z M' => (z = some (vI 1) ∧ LdC r p ∧ (0 ≤ (r : Int) ∧ 0 ≤ (p : Int)) ∧ MkAt M' (mkN X r p) ∧ ∀ a, a ≠ 23 → M' a = M a) ∨ (z = some (vI 0) ∧ ¬ (LdC r p ∧ 0 ≤ (r : Int) ∧ 0 ≤ (p : Int)) ∧ M' = M)) := by
    intro hL f
    induction f with
    | zero => intro i M2 h; exact absurd h (by omega)
    | succ f ih_i =>
      intro i M2 hf_i hk_i a1 a2
      refine wq_s 59 rfl ?_
      refine wq_s 61 rfl ?_
      refine wq_icmp 160 rfl rfl (by omega) (by omega) (fun c_61 => ?_) (fun c_61 => ?_)
      · have c_61 := of_decide_eq_true c_61
        have e9 : i = 9 := by omega
        subst e9
        refine wq_s 161 rfl ?_
        exact wq_ret rfl (Or.inl ⟨rfl, hL, ⟨by omega, by omega⟩, (fun j hj => a1 j (by omega)), a2⟩)
      · have c_61 := of_decide_eq_false c_61
        have hce := (ce_ok hp (show i < 9 by omega)).2.2
        have hL3 := hL.2.2
        refine wq_s 66 rfl ?_
        refine wq_s 67 rfl ?_
        refine wq_icmp 100 rfl rfl (by omega) (by omega) (fun c_67 => ?_) (fun c_67 => ?_)
        · have c_67 := of_decide_eq_true c_67
          refine wq_s 102 rfl ?_
          refine wq_s 103 rfl ?_
          refine wq_icmp 128 rfl rfl (by omega) (by omega) (fun c_103 => ?_) (fun c_103 => ?_)
          · have c_103 := of_decide_eq_true c_103
            refine wq_s 129 rfl ?_
            refine wq_getR 132 rfl rfl (hC.lt (by omega)) (hC.ty 18 _ rfl) rfl ?_
            refine wq_s 134 rfl ?_
            refine wq_s 135 rfl ?_
            refine wq_getR 138 rfl rfl (hC.lt (by omega)) (hC.bd hb).1 rfl ?_
            refine wq_s 140 rfl ?_
            refine wq_s 141 rfl ?_
            refine wq_s 143 rfl ?_
            refine wq_st2 146 rfl rfl (by decide) (Nat.le_of_ble_eq_true rfl) rfl (Nat.le_of_ble_eq_true rfl) (c_baseLine hp (by omega)) (fun r M1 hr => ?_)
            obtain ⟨rfl, hM1⟩ := hr
            subst M1
            dsimp only [Option.toList, List.cons_append, List.nil_append]
            have hbl : blN p i < 27 := by unfold blN; split <;> omega
            refine we_mul ((9 * (blN p i) : Nat) : Int) 147 rfl rfl (by omega) (by omega) ?_
            refine wq_s 148 rfl ?_
            refine wq_st1 151 rfl rfl (by decide) (Nat.le_of_ble_eq_true rfl) rfl (Nat.le_of_ble_eq_true rfl) (c_fishDigit hp) (fun r M1 hr => ?_)
            obtain ⟨rfl, hM1⟩ := hr
            subst M1
            dsimp only [Option.toList, List.cons_append, List.nil_append]
            refine we_add ((9 * blN p i + (dgN p - 1) : Nat) : Int) 152 rfl rfl (by omega) (by omega) ?_
            refine wq_iald (v := ((plH X (blN p i) (dgN p - 1) : Nat) : Int)) 153 rfl rfl (hC.lt (by omega)).2 (hC.bd hb).2.2.1 (by omega) (by omega) (by omega) (by rw [a2 _ (by omega)]; exact hB.2 _ _ (by omega) (by omega)) ?_
            refine wq_iast 154 rfl rfl (hC.lt (by omega)) (hC.ty 19 _ rfl) (by omega) (by omega) (by omega) ?_
            have hmk : mkN X r p i = plH X (blN p i) (dgN p - 1) := (if_neg (by omega)).trans (if_neg (by omega))
            have hmb : mkN X r p i < 512 := by rw [hmk]; exact plH_lt _ _ _
            rw [← hmk]
            refine we_inc 5 1 ((i + 1 : Nat) : Int) 157 _ rfl rfl rfl (by omega) (by omega) rfl ?_
            refine wq_s 57 rfl ?_
            refine ih_i (i + 1) _ (by omega) (by omega) (fun j hj => ?_) (fun a ha => (up2_row ha).trans (a2 a ha))
            by_cases hji : j = i
            · rw [hji, up2_at]
              exact ⟨rfl, hmb⟩
            · rw [up2_ne (Or.inr (by omega))]
              exact a1 j (by omega)
          · have c_103 := of_decide_eq_false c_103
            refine wq_s 107 rfl ?_
            refine wq_getR 110 rfl rfl (hC.lt (by omega)) (hC.ty 18 _ rfl) rfl ?_
            refine wq_s 112 rfl ?_
            refine wq_s 113 rfl ?_
            refine wq_getR 116 rfl rfl (hC.lt (by omega)) (hC.bd hb).1 rfl ?_
            refine wq_s 118 rfl ?_
            refine wq_s 119 rfl ?_
            refine we_mul ((9 * p : Nat) : Int) 120 rfl rfl (by omega) (by omega) ?_
            refine wq_s 122 rfl ?_
            refine we_add (((9 * p) + i : Nat) : Int) 123 rfl rfl (by omega) (by omega) ?_
            refine wq_iald (v := ((plH X p i : Nat) : Int)) 124 rfl rfl (hC.lt (by omega)).2 (hC.bd hb).2.2.1 (by omega) (by omega) (by omega) (by rw [a2 _ (by omega)]; exact hB.2 p i hp (by omega)) ?_
            refine wq_iast 125 rfl rfl (hC.lt (by omega)) (hC.ty 19 _ rfl) (by omega) (by omega) (by omega) ?_
            have hmk : mkN X r p i = plH X p i := (if_neg (by omega)).trans (if_pos (by omega))
            have hmb : mkN X r p i < 512 := by rw [hmk]; exact plH_lt _ _ _
            rw [← hmk]
            refine wq_s 154 rfl ?_
            refine we_inc 5 1 ((i + 1 : Nat) : Int) 157 _ rfl rfl rfl (by omega) (by omega) rfl ?_
            refine wq_s 57 rfl ?_
            refine ih_i (i + 1) _ (by omega) (by omega) (fun j hj => ?_) (fun a ha => (up2_row ha).trans (a2 a ha))
            by_cases hji : j = i
            · rw [hji, up2_at]
              exact ⟨rfl, hmb⟩
            · rw [up2_ne (Or.inr (by omega))]
              exact a1 j (by omega)
        · have c_67 := of_decide_eq_false c_67
          refine wq_s 71 rfl ?_
          refine wq_getR 74 rfl rfl (hC.lt (by omega)) (hC.ty 18 _ rfl) rfl ?_
          refine wq_s 76 rfl ?_
          refine wq_s 77 rfl ?_
          refine wq_getR 80 rfl rfl (hC.lt (by omega)) (hC.bd hb).1 rfl ?_
          refine wq_s 81 rfl ?_
          refine wq_getR 84 rfl rfl (hC.lt (by omega)) (hC.ty 18 _ rfl) rfl ?_
          refine wq_getR 87 rfl rfl (hC.lt (by omega)) (hC.ty 1 _ rfl) rfl ?_
          refine wq_s 89 rfl ?_
          refine wq_s 90 rfl ?_
          refine we_mul ((9 * p : Nat) : Int) 91 rfl rfl (by omega) (by omega) ?_
          refine wq_s 93 rfl ?_
          refine we_add (((9 * p) + i : Nat) : Int) 94 rfl rfl (by omega) (by omega) ?_
          refine wq_iald (v := ((ceN p i : Nat) : Int)) 95 rfl rfl (hC.lt (by omega)).2 (hC.ty 2 _ rfl) (by omega) (by omega) (by omega) (by rw [a2 _ (by decide)]; exact hS.1 p i hp (by omega)) ?_
          refine wq_iald (v := ((X (ceN p i) : Nat) : Int)) 96 rfl rfl (hC.lt (by omega)).2 (hC.bd hb).2.1 (by omega) (by omega) (by omega) (by rw [a2 _ (by omega)]; exact (hB.1 _ hce).1) ?_
          refine wq_iast 97 rfl rfl (hC.lt (by omega)) (hC.ty 19 _ rfl) (by omega) (by omega) (by omega) ?_
          have hmk : mkN X r p i = X (ceN p i) := if_pos (by omega)
          have hmb : mkN X r p i < 512 := by rw [hmk]; exact (hB.1 _ hce).2
          rw [← hmk]
          refine wq_s 154 rfl ?_
          refine we_inc 5 1 ((i + 1 : Nat) : Int) 157 _ rfl rfl rfl (by omega) (by omega) rfl ?_
          refine wq_s 57 rfl ?_
          refine ih_i (i + 1) _ (by omega) (by omega) (fun j hj => ?_) (fun a ha => (up2_row ha).trans (a2 a ha))
          by_cases hji : j = i
          · rw [hji, up2_at]
            exact ⟨rfl, hmb⟩
          · rw [up2_ne (Or.inr (by omega))]
            exact a1 j (by omega)
  refine wq_s 26 rfl ?_
  refine wq_s 27 rfl ?_
  refine wq_iald (v := ((kdN r : Nat) : Int)) 28 rfl rfl (And.intro (Nat.zero_le 0) (show 1 < G.1 by have := hC.1; omega)).2 hC.2.2.1 (by omega) (by omega) (by omega) (hT.1 r hr.2).1 ?_
  refine wq_s 30 rfl ?_
  refine wq_s 32 rfl ?_
  refine wq_s 33 rfl ?_
  refine wq_icmp 54 rfl rfl (by omega) (by omega) (fun c_33 => ?_) (fun c_33 => ?_)
  · have c_33 := of_decide_eq_true c_33
    refine wq_s 55 rfl ?_
    refine wq_s 57 rfl ?_
    exact L_57 ⟨hr, hp, fun z => absurd z (by omega)⟩ 10 0 M (by omega) (by omega) (fun j hj => absurd hj (Nat.not_lt_zero _)) (fun _ _ => rfl)
  · have c_33 := of_decide_eq_false c_33
    refine wq_s 37 rfl ?_
    refine wq_st1 40 rfl rfl (by decide) (Nat.le_of_ble_eq_true rfl) rfl (Nat.le_of_ble_eq_true rfl) (c_fishDigit hp) (fun r M1 hr => ?_)
    obtain ⟨rfl, hM1⟩ := hr
    subst M1
    dsimp only [Option.toList, List.cons_append, List.nil_append]
    refine wq_if 52 rfl rfl (by omega) (fun c_40 => ?_) (fun c_40 => ?_)
    · have c_40 := of_decide_eq_true c_40
      refine wq_s 53 rfl ?_
      exact wq_ret rfl (Or.inr ⟨rfl, fun z => (by have := z.1.2.2 (by omega); omega), rfl⟩)
    · have c_40 := of_decide_eq_false c_40
      refine wq_s 44 rfl ?_
      refine wq_st1 47 rfl rfl (by decide) (Nat.le_of_ble_eq_true rfl) rfl (Nat.le_of_ble_eq_true rfl) (c_fishDigit hp) (fun r M1 hr => ?_)
      obtain ⟨rfl, hM1⟩ := hr
      subst M1
      dsimp only [Option.toList, List.cons_append, List.nil_append]
      refine wq_s 49 rfl ?_
      refine wq_icmp 54 rfl rfl (by omega) (by omega) (fun c_49 => ?_) (fun c_49 => ?_)
      · have c_49 := of_decide_eq_true c_49
        refine wq_s 55 rfl ?_
        refine wq_s 57 rfl ?_
        exact L_57 ⟨hr, hp, fun _ => ⟨by omega, by omega⟩⟩ 10 0 M (by omega) (by omega) (fun j hj => absurd hj (Nat.not_lt_zero _)) (fun _ _ => rfl)
      · have c_49 := of_decide_eq_false c_49
        refine wq_s 53 rfl ?_
        exact wq_ret rfl (Or.inr ⟨rfl, fun z => (by have := z.1.2.2 (by omega); omega), rfl⟩)
theorem c_load {d : Nat} {G : GT} {M : MT} {b : Nat} {r p : Int} {X : Nat → Nat} (hC : ClsG G) (hb : IsBd b) (hS : ShpAt M) (hB : BdC M b X) (hT : TbAt M) (hr : R32 r) (hp : R32 p) : Mq (d + 1) k_X6_load [vR 22, vR b, vI r, vI p] G M (fun z M' => (z = some (vI 1) ∧ LdC r.toNat p.toNat ∧ (0 ≤ r ∧ 0 ≤ p) ∧ MkAt M' (mkN X r.toNat p.toNat) ∧ ∀ a, a ≠ 23 → M' a = M a) ∨ (z = some (vI 0) ∧ ¬ (LdC r.toNat p.toNat ∧ 0 ≤ r ∧ 0 ≤ p) ∧ M' = M)) := by
  refine wq_s 1 rfl ?_
  refine wq_s 2 rfl ?_
  refine wq_icmp 21 rfl rfl (by omega) (by omega) (fun c_2 => ?_) (fun c_2 => ?_)
  · have c_2 := of_decide_eq_true c_2
    refine wq_s 22 rfl ?_
    exact wq_ret rfl (Or.inr ⟨rfl, fun z => (by obtain ⟨⟨z1, z2, -⟩, z4, z5⟩ := z; omega), rfl⟩)
  · have c_2 := of_decide_eq_false c_2
    refine wq_s 6 rfl ?_
    refine wq_s 8 rfl ?_
    refine wq_icmp 21 rfl rfl (by omega) (by omega) (fun c_8 => ?_) (fun c_8 => ?_)
    · have c_8 := of_decide_eq_true c_8
      refine wq_s 22 rfl ?_
      exact wq_ret rfl (Or.inr ⟨rfl, fun z => (by obtain ⟨⟨z1, z2, -⟩, z4, z5⟩ := z; omega), rfl⟩)
    · have c_8 := of_decide_eq_false c_8
      refine wq_s 12 rfl ?_
      refine wq_if 21 rfl rfl (by omega) (fun c_12 => ?_) (fun c_12 => ?_)
      · have c_12 := of_decide_eq_true c_12
        refine wq_s 22 rfl ?_
        exact wq_ret rfl (Or.inr ⟨rfl, fun z => (by obtain ⟨⟨z1, z2, -⟩, z4, z5⟩ := z; omega), rfl⟩)
      · have c_12 := of_decide_eq_false c_12
        refine wq_s 16 rfl ?_
        refine wq_s 18 rfl ?_
        refine wq_icmp 23 rfl rfl (by omega) (by omega) (fun c_18 => ?_) (fun c_18 => ?_)
        · have c_18 := of_decide_eq_true c_18
          obtain ⟨rn, e_r⟩ := Int.eq_ofNat_of_zero_le (show 0 ≤ r by omega)
          subst e_r
          obtain ⟨pn, e_p⟩ := Int.eq_ofNat_of_zero_le (show 0 ≤ p by omega)
          subst e_p
          exact load_23 hC hb hS hB hT (by omega) (by omega)
        · have c_18 := of_decide_eq_false c_18
          refine wq_s 22 rfl ?_
          exact wq_ret rfl (Or.inr ⟨rfl, fun z => (by obtain ⟨⟨z1, z2, -⟩, z4, z5⟩ := z; omega), rfl⟩)
def TcO (mk : Nat → Nat) (s u : Nat) : Prop := ∃ i, i < 9 ∧ ¬ s / 2 ^ i % 2 = 1 ∧ mk i &&& u ≠ 0
theorem c_touches {d : Nat} {G : GT} {M : MT} {s u : Nat} {mk : Nat → Nat} (hC : ClsG G) (hM : MkAt M mk) (hs : s < 512) (hu : u < 512) : Mq d k_X6_touchesOthers [vR 23, vI (s : Int), vI (u : Int)] G M (fun z M' => (z = some (vI 1) ∧ TcO mk s u ∧ M' = M) ∨ (z = some (vI 0) ∧ ¬ TcO mk s u ∧ M' = M)) := by
  have L_2 : ∀ (f i : Nat), 9 - i < f → i ≤ 9 → (∀ j, j < i → ¬ (¬ s / 2 ^ j % 2 = 1 ∧ mk j &&& u ≠ 0)) → Wq (d) k_X6_touchesOthers 2 [some (vR 23), some (vI ((s : Nat) : Int)), some (vI ((u : Nat) : Int)), some (vI ((i : Nat) : Int))] [] G M (fun z M' => (z = some (vI 1) ∧ TcO mk s u ∧ M' = M) ∨ (z = some (vI 0) ∧ ¬ TcO mk s u ∧ M' = M)) := by
    intro f
    induction f with
    | zero => intro i h; exact absurd h (by omega)
    | succ f ih_i =>
      intro i hf_i hk_i hno
      refine wq_s 3 rfl ?_
      refine wq_s 5 rfl ?_
      refine wq_icmp 32 rfl rfl (by omega) (by omega) (fun c_5 => ?_) (fun c_5 => ?_)
      · have c_5 := of_decide_eq_true c_5
        refine wq_s 33 rfl ?_
        exact wq_ret rfl (Or.inr ⟨rfl, fun ⟨j, h1, h2⟩ => hno j (by omega) h2, rfl⟩)
      · have c_5 := of_decide_eq_false c_5
        have hmi := (hM i (by omega)).2
        have han := and_lt2 (n := u) (k := 9) hmi
        refine wq_s 9 rfl ?_
        refine wq_s 10 rfl ?_
        refine we_shr s i (s / 2 ^ i) 11 rfl rfl rfl rfl (by omega) (by omega) rfl ?_
        refine wq_s 12 rfl ?_
        refine we_and (s / 2 ^ i) 1 ((s / 2 ^ i) % 2) 13 rfl rfl rfl rfl (Nat.lt_of_le_of_lt (Nat.div_le_self _ _) (by omega)) (and_1 _) ?_
        refine wq_if 26 rfl rfl (by omega) (fun c_13 => ?_) (fun c_13 => ?_)
        · have c_13 := of_decide_eq_true c_13
          refine we_inc 3 1 ((i + 1 : Nat) : Int) 29 _ rfl rfl rfl (by omega) (by omega) rfl ?_
          refine wq_s 2 rfl ?_
          refine ih_i (i + 1) (by omega) (by omega) (fun j hj z => ?_)
          by_cases hji : j = i
          · subst hji
            omega
          · exact hno j (by omega) z
        · have c_13 := of_decide_eq_false c_13
          refine wq_s 17 rfl ?_
          refine wq_s 18 rfl ?_
          refine wq_iald (v := ((mk i : Nat) : Int)) 19 rfl rfl (hC.lt (by omega)).2 (hC.ty 19 _ rfl) (by omega) (by omega) (by omega) (hM i (by omega)).1 ?_
          refine wq_s 20 rfl ?_
          refine we_and (mk i) u ((mk i) &&& u) 21 rfl rfl rfl rfl (by omega) rfl ?_
          refine wq_if 26 rfl rfl (by omega) (fun c_21 => ?_) (fun c_21 => ?_)
          · have c_21 := of_decide_eq_true c_21
            refine we_inc 3 1 ((i + 1 : Nat) : Int) 29 _ rfl rfl rfl (by omega) (by omega) rfl ?_
            refine wq_s 2 rfl ?_
            refine ih_i (i + 1) (by omega) (by omega) (fun j hj z => ?_)
            by_cases hji : j = i
            · subst hji
              omega
            · exact hno j (by omega) z
          · have c_21 := of_decide_eq_false c_21
            refine wq_s 25 rfl ?_
            exact wq_ret rfl (Or.inl ⟨rfl, ⟨i, by omega, by omega, by omega⟩, rfl⟩)
  refine wq_s 1 rfl ?_
  refine wq_s 2 rfl ?_
  exact L_2 10 0 (by omega) (by omega) (fun j hj => absurd hj (Nat.not_lt_zero _))
