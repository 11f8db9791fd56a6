/-! rules 2 and 3 in the class -/
theorem line_ins {X : Nat → Nat} {L e m : Nat} {P : Int} (hL : L < 27) (hm : ∀ j, j < 9 → outB (L : Int) P j = !m.testBit j) (c : Nat) : hpF (fun _ => 0) L e (andN (plH X L e) m) 9 c = (gsF (L : Int) (outB (L : Int) P) ((2 ^ e : Nat) : Int) zrF 9 (c : Int)).toNat &&& X c := by
  apply tb_ext
  intro i
  rw [hpF_tb, Nat.testBit_and, Bool.and_eq_true]
  by_cases hp : ∃ j : Nat, j < 9 ∧ outB (L : Int) P j = true ∧ (c : Int) = cellF (L : Int) (j : Int)
  · rw [gsF_hit 9 hp, Int.toNat_natCast, pow_tb]
    obtain ⟨j, h1, h2, h3⟩ := hp
    have h4 : c = ceN L j := by
      rw [ceF hL h1] at h3
      omega
    rw [hm j h1, Bool.not_eq_true', ← Bool.not_eq_true] at h2
    constructor
    · rintro (z | ⟨z1, k, z2, z3, z4⟩)
      · rw [Nat.zero_testBit] at z
        cases z
      · rw [andN_tb, plH_tb] at z3
        exact ⟨z1, by rw [z1, z4]; exact z3.1.2⟩
    · rintro ⟨z1, z2⟩
      refine Or.inr ⟨z1, j, h1, ?_, h4⟩
      rw [andN_tb, plH_tb]
      exact ⟨⟨h1, by rw [← h4, ← z1]; exact z2⟩, h2⟩
  · rw [gsF_mis 9 hp]
    constructor
    · rintro (z | ⟨z1, k, z2, z3, z4⟩)
      · rw [Nat.zero_testBit] at z
        cases z
      · exfalso
        rw [andN_tb] at z3
        refine hp ⟨k, z2, ?_, by rw [z4, ceF hL z2]⟩
        rw [hm k z2, Bool.not_eq_true', ← Bool.not_eq_true]
        exact z3.2
    · rintro ⟨z, -⟩
      have z : (0 : Nat).testBit i = true := z
      rw [Nat.zero_testBit] at z
      cases z
theorem pt_row : ∀ (x : Fin 9) (k : Fin 3), houseF (cellF ((x.val + 18 : Nat) : Int) (3 * ((k.val : Nat) : Int))) 0 = ((3 * (x.val / 3) + k.val : Nat) : Int) ∧ ∀ j : Fin 9, outB ((3 * (x.val / 3) + k.val : Nat) : Int) ((x.val + 18 : Nat) : Int) j.val = !(7 * 2 ^ (3 * (x.val % 3))).testBit j.val := by decide +kernel
theorem pt_col : ∀ (x : Fin 9) (k : Fin 3), houseF (cellF ((x.val + 18 : Nat) : Int) ((k.val : Nat) : Int)) 1 = ((9 + 3 * (x.val % 3) + k.val : Nat) : Int) ∧ ∀ j : Fin 9, outB ((9 + 3 * (x.val % 3) + k.val : Nat) : Int) ((x.val + 18 : Nat) : Int) j.val = !(7 * 2 ^ (3 * (x.val / 3))).testBit j.val := by decide +kernel
theorem cl_row : ∀ (x : Fin 9) (k : Fin 3), houseF (cellF ((x.val : Nat) : Int) (3 * ((k.val : Nat) : Int))) 2 = ((18 + 3 * (x.val / 3) + k.val : Nat) : Int) ∧ ∀ j : Fin 9, outB ((18 + 3 * (x.val / 3) + k.val : Nat) : Int) ((x.val : Nat) : Int) j.val = !(7 * 2 ^ (3 * (x.val % 3))).testBit j.val := by decide +kernel
theorem cl_col : ∀ (x : Fin 9) (k : Fin 3), houseF (cellF ((x.val + 9 : Nat) : Int) (3 * ((k.val : Nat) : Int))) 2 = ((18 + 3 * k.val + x.val / 3 : Nat) : Int) ∧ ∀ j : Fin 9, outB ((18 + 3 * k.val + x.val / 3 : Nat) : Int) ((x.val + 9 : Nat) : Int) j.val = !(73 * 2 ^ (x.val % 3)).testBit j.val := by decide +kernel
theorem cl_uni : ∀ (n : Fin 512) (i k : Fin 3), n.val ≠ 0 → andN n.val (7 * 2 ^ (3 * i.val)) = 0 → andN n.val (7 * 2 ^ (3 * k.val)) = 0 → i = k := by decide +kernel
theorem lnR_u (pl : Nat) (p : Int) : lnR pl p 3 = (if andN pl (7 * 2 ^ (3 * 0)) = 0 then houseF (cellF p (3 * ((0 : Nat) : Int))) 0 else if andN pl (7 * 2 ^ (3 * 1)) = 0 then houseF (cellF p (3 * ((1 : Nat) : Int))) 0 else if andN pl (7 * 2 ^ (3 * 2)) = 0 then houseF (cellF p (3 * ((2 : Nat) : Int))) 0 else if andN pl (73 * 2 ^ 0) = 0 then houseF (cellF p ((0 : Nat) : Int)) 1 else if andN pl (73 * 2 ^ 1) = 0 then houseF (cellF p ((1 : Nat) : Int)) 1 else if andN pl (73 * 2 ^ 2) = 0 then houseF (cellF p ((2 : Nat) : Int)) 1 else -1) := rfl
theorem lnR_at {pl i : Nat} {p : Int} (hi : i < 3) (hn : ∀ k, k < i → andN pl (7 * 2 ^ (3 * k)) ≠ 0) (h : andN pl (7 * 2 ^ (3 * i)) = 0) : lnR pl p 3 = houseF (cellF p (3 * (i : Int))) 0 := by
  rw [lnR_u]
  rcases (show i = 0 ∨ i = 1 ∨ i = 2 by omega) with rfl | rfl | rfl
  · rw [if_pos h]
  · rw [if_neg (hn 0 (by decide)), if_pos h]
  · rw [if_neg (hn 0 (by decide)), if_neg (hn 1 (by decide)), if_pos h]
theorem lnC_at {pl i : Nat} {p : Int} (hr : ∀ k, k < 3 → andN pl (7 * 2 ^ (3 * k)) ≠ 0) (hi : i < 3) (hn : ∀ k, k < i → andN pl (73 * 2 ^ k) ≠ 0) (h : andN pl (73 * 2 ^ i) = 0) : lnR pl p 3 = houseF (cellF p (i : Int)) 1 := by
  rw [lnR_u, if_neg (hr 0 (by decide)), if_neg (hr 1 (by decide)), if_neg (hr 2 (by decide))]
  rcases (show i = 0 ∨ i = 1 ∨ i = 2 by omega) with rfl | rfl | rfl
  · rw [if_pos h]
  · rw [if_neg (hn 0 (by decide)), if_pos h]
  · rw [if_neg (hn 0 (by decide)), if_neg (hn 1 (by decide)), if_pos h]
theorem ln_non {pl : Nat} {p : Int} (hr : ∀ k, k < 3 → andN pl (7 * 2 ^ (3 * k)) ≠ 0) (hc : ∀ k, k < 3 → andN pl (73 * 2 ^ k) ≠ 0) : lnR pl p 3 = -1 := by
  rw [lnR_u, if_neg (hr 0 (by decide)), if_neg (hr 1 (by decide)), if_neg (hr 2 (by decide)), if_neg (hc 0 (by decide)), if_neg (hc 1 (by decide)), if_neg (hc 2 (by decide))]
theorem pt_ins {X : Nat → Nat} {p e L m : Nat} (hp : 18 ≤ p ∧ p < 27) (he : e < 9) (hz : plH X p e ≠ 0) (hL : L < 27) (hl : lnR (plH X p e) (p : Int) 3 = (L : Int)) (hm : ∀ j, j < 9 → outB (L : Int) (p : Int) j = !m.testBit j) (c : Nat) : hpF (fun _ => 0) L e (andN (plH X L e) m) 9 c = insY X 2 (p : Int) ((e + 1 : Nat) : Int) c := by
  have hpt : ptL X (p : Int) ((e + 1 : Nat) : Int) = (L : Int) := by
    unfold ptL
    rw [v1N, plF]
    exact hl
  have hC : insC X 2 (p : Int) ((e + 1 : Nat) : Int) := Or.inr (Or.inr (Or.inl ⟨rfl, ⟨by omega, by omega⟩, ⟨by omega, by omega⟩, by rw [v1N, plF]; exact hz, by rw [hpt]; omega⟩))
  unfold insY
  rw [cI_t hC, line_ins hL hm, show insG X 2 (p : Int) ((e + 1 : Nat) : Int) = ptG X (p : Int) ((e + 1 : Nat) : Int) zrF from rfl]
  unfold ptG
  rw [hpt, v1N]
theorem cl_ins {X : Nat → Nat} {p e k L m : Nat} (hp : p < 18) (he : e < 9) (hk : k < 3) (hz : plH X p e ≠ 0) (ha : andN (plH X p e) (7 * 2 ^ (3 * k)) = 0) (hL : L < 27) (hl : houseF (cellF (p : Int) (3 * (k : Int))) 2 = (L : Int)) (hm : ∀ j, j < 9 → outB (L : Int) (p : Int) j = !m.testBit j) (c : Nat) : hpF (fun _ => 0) L e (andN (plH X L e) m) 9 c = insY X 3 (p : Int) ((e + 1 : Nat) : Int) c := by
  have hlt := plH_lt X p e
  have hn : ∀ i, i < 3 → i ≠ k → ¬ (plH X p e ≠ 0 ∧ andN (plH X p e) (7 * 2 ^ (3 * i)) = 0) := fun i hi hik z => hik (congrArg (fun w : Fin 3 => w.val) (cl_uni ⟨_, hlt⟩ ⟨i, hi⟩ ⟨k, hk⟩ hz z.2 ha))
  have hth : thN (plH X p e) 3 = (k : Int) := by
    have u : thN (plH X p e) 3 = (if plH X p e ≠ 0 ∧ andN (plH X p e) (7 * 2 ^ (3 * 2)) = 0 then ((2 : Nat) : Int) else if plH X p e ≠ 0 ∧ andN (plH X p e) (7 * 2 ^ (3 * 1)) = 0 then ((1 : Nat) : Int) else if plH X p e ≠ 0 ∧ andN (plH X p e) (7 * 2 ^ (3 * 0)) = 0 then ((0 : Nat) : Int) else -1) := rfl
    rw [u]
    rcases (show k = 0 ∨ k = 1 ∨ k = 2 by omega) with rfl | rfl | rfl
    · rw [if_neg (hn 2 (by decide) (by decide)), if_neg (hn 1 (by decide) (by decide)), if_pos ⟨hz, ha⟩]
    · rw [if_neg (hn 2 (by decide) (by decide)), if_pos ⟨hz, ha⟩]
    · rw [if_pos ⟨hz, ha⟩]
  have hT : clmT X (p : Int) ((e + 1 : Nat) : Int) = (k : Int) := by
    unfold clmT
    rw [v1N, plF]
    exact hth
  have hB : clmB X (p : Int) ((e + 1 : Nat) : Int) = (L : Int) := by
    unfold clmB
    rw [hT]
    exact hl
  have hC : insC X 3 (p : Int) ((e + 1 : Nat) : Int) := Or.inr (Or.inr (Or.inr (Or.inl ⟨rfl, ⟨by omega, by omega⟩, ⟨by omega, by omega⟩, by rw [hT]; omega⟩)))
  unfold insY
  rw [cI_t hC, line_ins hL hm, show insG X 3 (p : Int) ((e + 1 : Nat) : Int) = clmG X (p : Int) ((e + 1 : Nat) : Int) zrF from rfl]
  unfold clmG
  rw [hB, v1N]
theorem th_non {pl : Nat} (hn : ∀ k, k < 3 → andN pl (7 * 2 ^ (3 * k)) ≠ 0) : thN pl 3 = -1 := by
  have u : thN pl 3 = (if pl ≠ 0 ∧ andN pl (7 * 2 ^ (3 * 2)) = 0 then ((2 : Nat) : Int) else if pl ≠ 0 ∧ andN pl (7 * 2 ^ (3 * 1)) = 0 then ((1 : Nat) : Int) else if pl ≠ 0 ∧ andN pl (7 * 2 ^ (3 * 0)) = 0 then ((0 : Nat) : Int) else -1) := rfl
  rw [u, if_neg (fun z => hn 2 (by decide) z.2), if_neg (fun z => hn 1 (by decide) z.2), if_neg (fun z => hn 0 (by decide) z.2)]
theorem c_markPointing {d : Nat} {G : GT} {M : MT} {b p e : Nat} {X : Nat → Nat} (hC : ClsG G) (hb : IsBd b) (hS : ShpAt M) (hB : BdC M b X) (hH : GoAt M (fun _ => 0)) (he : e < 9) (hp : 18 ≤ p ∧ p < 27) : Mq (d + 1) k_X3_markPointing [vR 21, vR b, vI (p : Int), vI (e : Int)] G M (fun z M' => z = none ∧ GoAt M' (insY X 2 (p : Int) ((e + 1 : Nat) : Int)) ∧ ∀ a, a ≠ 19 → a ≠ 20 → M' a = M a) := by
  have hpl := plH_lt X p e
  have L_94 : plH X p e ≠ 0 → (∀ k, k < 3 → andN (plH X p e) (7 * 2 ^ (3 * k)) ≠ 0) → ∀ (f i : Nat), 3 - i < f → i ≤ 3 → (∀ k, k < i → andN (plH X p e) (73 * 2 ^ k) ≠ 0) → Wq (d + 1) k_X3_markPointing 94 [some (vR 21), some (vR b), some (vI ((p : Nat) : Int)), some (vI ((e : Nat) : Int)), some (vI ((plH X p e : Nat) : Int)), some (vI (((p - 18) / 3 : Nat) : Int)), some (vI (((p - 18) % 3 : Nat) : Int)), some (vI ((i : Nat) : Int))] [] G M (fun z M' => z = none ∧ GoAt M' (insY X 2 (p : Int) ((e + 1 : Nat) : Int)) ∧ ∀ a, a ≠ 19 → a ≠ 20 → M' a = M a) := by
    intro hz hro f
    induction f with
    | zero => intro i h; exact absurd h (by omega)
    | succ f ih_i =>
      intro i hf_i hk_i hno
      refine wq_s 96 rfl ?_
      refine wq_s 97 rfl ?_
      refine wq_icmp 148 rfl rfl (by omega) (by omega) (fun c_97 => ?_) (fun c_97 => ?_)
      · have c_97 := of_decide_eq_true c_97
        exact wq_ret rfl ⟨rfl, hH.ext (fun c _ => (insY_f (fun z => by rcases z with z | z | z | z | z | z | z <;> first | exact absurd z.1 (by decide) | (have h9 := z.2.2.2.2; unfold ptL at h9; rw [v1N, plF, ln_non hro (fun k hk => hno k (by omega))] at h9; exact absurd h9 (by decide))) c).symm), fun _ _ _ => rfl⟩
      · have c_97 := of_decide_eq_false c_97
        have hpw : 2 ^ (3 * i) ≤ 2 ^ 6 := Nat.pow_le_pow_right (by decide) (by omega)
        have hpc : 2 ^ (3 * ((p - 18) % 3)) ≤ 2 ^ 6 := Nat.pow_le_pow_right (by decide) (by omega)
        have hpr : 2 ^ (3 * ((p - 18) / 3)) ≤ 2 ^ 6 := Nat.pow_le_pow_right (by decide) (by omega)
        have hp2 : 2 ^ i ≤ 2 ^ 2 := Nat.pow_le_pow_right (by decide) (by omega)
        obtain ⟨x, hx⟩ : ∃ x, x = andN (plH X p e) (73 * 2 ^ i) := ⟨_, rfl⟩
        have hx9 : x < 512 := by
          rw [hx]
          exact andN_lt (k := 9) hpl
        refine wq_s 102 rfl ?_
        refine wq_s 104 rfl ?_
        refine wq_s 106 rfl ?_
        refine we_shl 73 i (73 * 2 ^ i) 107 rfl rfl rfl rfl (by omega) rfl (by omega) ?_
        refine wq_s 108 rfl ?_
        refine we_not (73 * 2 ^ i) 109 rfl rfl rfl (by omega) ?_
        refine we_andn (plH X p e) (73 * 2 ^ i) x 110 rfl rfl rfl (by omega) hx.symm ?_
        refine wq_if 142 rfl rfl (by omega) (fun c_110 => ?_) (fun c_110 => ?_)
        · have c_110 := of_decide_eq_true c_110
          refine we_inc 7 1 ((i + 1 : Nat) : Int) 145 _ rfl rfl rfl (by omega) (by omega) rfl ?_
          refine wq_s 94 rfl ?_
          exact ih_i (i + 1) (by omega) (by omega) (fun k hk => by
            by_cases hki : k = i
            · rw [hki]
              omega
            · exact hno k (by omega))
        · have c_110 := of_decide_eq_false c_110
          refine wq_s 114 rfl ?_
          refine wq_getR 117 rfl rfl (hC.lt (by omega)) (hC.ty 17 _ rfl) rfl ?_
          refine wq_s 118 rfl ?_
          refine wq_s 120 rfl ?_
          refine wq_s 121 rfl ?_
          refine wq_s 123 rfl ?_
          refine we_mul ((3 * ((p - 18) % 3) : Nat) : Int) 124 rfl rfl (by omega) (by omega) ?_
          refine we_add ((9 + (3 * ((p - 18) % 3)) : Nat) : Int) 125 rfl rfl (by omega) (by omega) ?_
          refine wq_s 127 rfl ?_
          refine we_add (((9 + (3 * ((p - 18) % 3))) + i : Nat) : Int) 128 rfl rfl (by omega) (by omega) ?_
          refine wq_s 129 rfl ?_
          refine wq_s 131 rfl ?_
          refine wq_s 132 rfl ?_
          refine wq_s 134 rfl ?_
          refine we_mul ((3 * ((p - 18) / 3) : Nat) : Int) 135 rfl rfl (by omega) (by omega) ?_
          refine we_shl 7 (3 * ((p - 18) / 3)) (7 * 2 ^ (3 * ((p - 18) / 3))) 136 rfl rfl rfl rfl (by omega) rfl (by omega) ?_
          refine wq_s 137 rfl ?_
          refine we_not (7 * 2 ^ (3 * ((p - 18) / 3))) 138 rfl rfl rfl (by omega) ?_
          have hq := pt_col ⟨p - 18, by omega⟩ ⟨i, by omega⟩
          dsimp only at hq
          rw [show p - 18 + 18 = p by omega] at hq
          have hl := (lnC_at (p := (p : Int)) hro (show i < 3 by omega) hno (by omega)).trans hq.1
          refine wq_vt4 141 rfl rfl (Nat.le_of_ble_eq_true rfl) (hC.lt (by omega)) (hC.ty 15 _ rfl) rfl (Nat.le_of_ble_eq_true rfl) (c_addPlM (h := (9 + (3 * ((p - 18) % 3))) + i) (m := (7 * 2 ^ (3 * ((p - 18) / 3)))) hC hb hS hB hH (by omega) he (by omega)) (fun r M3 hr => ?_)
          obtain ⟨rfl, hG3, hF3⟩ := hr
          dsimp only [Option.toList, List.cons_append, List.nil_append]
          exact wq_ret rfl ⟨rfl, hG3.ext (fun c _ => pt_ins hp he hz (by omega) hl (fun j hj => hq.2 ⟨j, hj⟩) c), hF3⟩
  have L_38 : plH X p e ≠ 0 → ∀ (f i : Nat), 3 - i < f → i ≤ 3 → (∀ k, k < i → andN (plH X p e) (7 * 2 ^ (3 * k)) ≠ 0) → Wq (d + 1) k_X3_markPointing 38 [some (vR 21), some (vR b), some (vI ((p : Nat) : Int)), some (vI ((e : Nat) : Int)), some (vI ((plH X p e : Nat) : Int)), some (vI (((p - 18) / 3 : Nat) : Int)), some (vI (((p - 18) % 3 : Nat) : Int)), some (vI ((i : Nat) : Int))] [] G M (fun z M' => z = none ∧ GoAt M' (insY X 2 (p : Int) ((e + 1 : Nat) : Int)) ∧ ∀ a, a ≠ 19 → a ≠ 20 → M' a = M a) := by
    intro hz f
    induction f with
    | zero => intro i h; exact absurd h (by omega)
    | succ f ih_i =>
      intro i hf_i hk_i hno
      refine wq_s 40 rfl ?_
      refine wq_s 41 rfl ?_
      refine wq_icmp 91 rfl rfl (by omega) (by omega) (fun c_41 => ?_) (fun c_41 => ?_)
      · have c_41 := of_decide_eq_true c_41
        refine wq_s 92 rfl ?_
        refine wq_s 94 rfl ?_
        exact L_94 hz (fun k hk => hno k (by omega)) 4 0 (by omega) (by omega) (fun k hk => absurd hk (Nat.not_lt_zero _))
      · have c_41 := of_decide_eq_false c_41
        have hpw : 2 ^ (3 * i) ≤ 2 ^ 6 := Nat.pow_le_pow_right (by decide) (by omega)
        have hpc : 2 ^ (3 * ((p - 18) % 3)) ≤ 2 ^ 6 := Nat.pow_le_pow_right (by decide) (by omega)
        have hpr : 2 ^ (3 * ((p - 18) / 3)) ≤ 2 ^ 6 := Nat.pow_le_pow_right (by decide) (by omega)
        have hp2 : 2 ^ i ≤ 2 ^ 2 := Nat.pow_le_pow_right (by decide) (by omega)
        obtain ⟨x, hx⟩ : ∃ x, x = andN (plH X p e) (7 * 2 ^ (3 * i)) := ⟨_, rfl⟩
        have hx9 : x < 512 := by
          rw [hx]
          exact andN_lt (k := 9) hpl
        refine wq_s 46 rfl ?_
        refine wq_s 48 rfl ?_
        refine wq_s 49 rfl ?_
        refine wq_s 51 rfl ?_
        refine we_mul ((3 * i : Nat) : Int) 52 rfl rfl (by omega) (by omega) ?_
        refine we_shl 7 (3 * i) (7 * 2 ^ (3 * i)) 53 rfl rfl rfl rfl (by omega) rfl (by omega) ?_
        refine wq_s 54 rfl ?_
        refine we_not (7 * 2 ^ (3 * i)) 55 rfl rfl rfl (by omega) ?_
        refine we_andn (plH X p e) (7 * 2 ^ (3 * i)) x 56 rfl rfl rfl (by omega) hx.symm ?_
        refine wq_if 85 rfl rfl (by omega) (fun c_56 => ?_) (fun c_56 => ?_)
        · have c_56 := of_decide_eq_true c_56
          refine we_inc 7 1 ((i + 1 : Nat) : Int) 88 _ rfl rfl rfl (by omega) (by omega) rfl ?_
          refine wq_s 38 rfl ?_
          exact ih_i (i + 1) (by omega) (by omega) (fun k hk => by
            by_cases hki : k = i
            · rw [hki]
              omega
            · exact hno k (by omega))
        · have c_56 := of_decide_eq_false c_56
          refine wq_s 60 rfl ?_
          refine wq_getR 63 rfl rfl (hC.lt (by omega)) (hC.ty 17 _ rfl) rfl ?_
          refine wq_s 64 rfl ?_
          refine wq_s 65 rfl ?_
          refine wq_s 67 rfl ?_
          refine we_mul ((3 * ((p - 18) / 3) : Nat) : Int) 68 rfl rfl (by omega) (by omega) ?_
          refine wq_s 70 rfl ?_
          refine we_add (((3 * ((p - 18) / 3)) + i : Nat) : Int) 71 rfl rfl (by omega) (by omega) ?_
          refine wq_s 72 rfl ?_
          refine wq_s 74 rfl ?_
          refine wq_s 75 rfl ?_
          refine wq_s 77 rfl ?_
          refine we_mul ((3 * ((p - 18) % 3) : Nat) : Int) 78 rfl rfl (by omega) (by omega) ?_
          refine we_shl 7 (3 * ((p - 18) % 3)) (7 * 2 ^ (3 * ((p - 18) % 3))) 79 rfl rfl rfl rfl (by omega) rfl (by omega) ?_
          refine wq_s 80 rfl ?_
          refine we_not (7 * 2 ^ (3 * ((p - 18) % 3))) 81 rfl rfl rfl (by omega) ?_
          have hq := pt_row ⟨p - 18, by omega⟩ ⟨i, by omega⟩
          dsimp only at hq
          rw [show p - 18 + 18 = p by omega] at hq
          have hl := (lnR_at (p := (p : Int)) (show i < 3 by omega) hno (by omega)).trans hq.1
          refine wq_vt4 84 rfl rfl (Nat.le_of_ble_eq_true rfl) (hC.lt (by omega)) (hC.ty 15 _ rfl) rfl (Nat.le_of_ble_eq_true rfl) (c_addPlM (h := (3 * ((p - 18) / 3)) + i) (m := (7 * 2 ^ (3 * ((p - 18) % 3)))) hC hb hS hB hH (by omega) he (by omega)) (fun r M3 hr => ?_)
          obtain ⟨rfl, hG3, hF3⟩ := hr
          dsimp only [Option.toList, List.cons_append, List.nil_append]
          exact wq_ret rfl ⟨rfl, hG3.ext (fun c _ => pt_ins hp he hz (by omega) hl (fun j hj => hq.2 ⟨j, hj⟩) c), hF3⟩
  refine wq_s 1 rfl ?_
  refine wq_getR 4 rfl rfl (hC.lt (by omega)) (hC.bd hb).1 rfl ?_
  refine wq_s 6 rfl ?_
  refine wq_s 7 rfl ?_
  refine we_mul ((9 * p : Nat) : Int) 8 rfl rfl (by omega) (by omega) ?_
  refine wq_s 9 rfl ?_
  refine we_add (((9 * p) + e : Nat) : Int) 10 rfl rfl (by omega) (by omega) ?_
  refine wq_iald (v := ((plH X p e : Nat) : Int)) 11 rfl rfl (hC.lt (by omega)).2 (hC.bd hb).2.2.1 (by omega) (by omega) (by omega) (hB.2 p e (by omega) he) ?_
  refine wq_s 13 rfl ?_
  refine wq_s 15 rfl ?_
  refine wq_if 19 rfl rfl (by omega) (fun c_15 => ?_) (fun c_15 => ?_)
  · have c_15 := of_decide_eq_true c_15
    refine wq_s 20 rfl ?_
    refine wq_s 22 rfl ?_
    refine we_sub ((p - 18 : Nat) : Int) 23 rfl rfl (by omega) (by omega) ?_
    refine wq_s 24 rfl ?_
    refine we_div (((p - 18) / 3 : Nat) : Int) 25 rfl rfl (by omega) (by omega) (by omega) ?_
    refine wq_s 27 rfl ?_
    refine wq_s 28 rfl ?_
    refine wq_s 30 rfl ?_
    refine we_sub ((p - 18 : Nat) : Int) 31 rfl rfl (by omega) (by omega) ?_
    refine wq_s 32 rfl ?_
    refine we_rem (((p - 18) % 3 : Nat) : Int) 33 rfl rfl (by omega) (by omega) (by omega) ?_
    refine wq_s 35 rfl ?_
    refine wq_s 36 rfl ?_
    refine wq_s 38 rfl ?_
    exact L_38 (by omega) 4 0 (by omega) (by omega) (fun k hk => absurd hk (Nat.not_lt_zero _))
  · have c_15 := of_decide_eq_false c_15
    exact wq_ret rfl ⟨rfl, hH.ext (fun c _ => (insY_f (fun z => by rcases z with z | z | z | z | z | z | z <;> first | exact absurd z.1 (by decide) | (exact z.2.2.2.1 (by rw [v1N, plF]; omega))) c).symm), fun _ _ _ => rfl⟩
theorem c_markClaimed {d : Nat} {G : GT} {M : MT} {b p e : Nat} {X : Nat → Nat} (hC : ClsG G) (hb : IsBd b) (hS : ShpAt M) (hB : BdC M b X) (hH : GoAt M (fun _ => 0)) (he : e < 9) {k : Nat} (hp : p < 18) (hk : k < 3) (hz : plH X p e ≠ 0) (ha : andN (plH X p e) (7 * 2 ^ (3 * k)) = 0) : Mq (d + 1) k_X3_markClaimed [vR 21, vR b, vI (p : Int), vI (k : Int), vI (e : Int)] G M (fun z M' => z = none ∧ GoAt M' (insY X 3 (p : Int) ((e + 1 : Nat) : Int)) ∧ ∀ a, a ≠ 19 → a ≠ 20 → M' a = M a) := by
  have hp1 : 2 ^ (3 * (p % 3)) ≤ 2 ^ 6 := Nat.pow_le_pow_right (by decide) (by omega)
  have hp2 : 2 ^ ((p - 9) % 3) ≤ 2 ^ 2 := Nat.pow_le_pow_right (by decide) (by omega)
  refine wq_s 1 rfl ?_
  refine wq_s 3 rfl ?_
  refine wq_icmp 43 rfl rfl (by omega) (by omega) (fun c_3 => ?_) (fun c_3 => ?_)
  · have c_3 := of_decide_eq_true c_3
    refine wq_s 44 rfl ?_
    refine wq_s 46 rfl ?_
    refine we_sub ((p - 9 : Nat) : Int) 47 rfl rfl (by omega) (by omega) ?_
    refine wq_s 49 rfl ?_
    refine wq_s 51 rfl ?_
    refine wq_s 52 rfl ?_
    refine wq_s 53 rfl ?_
    refine we_mul ((3 * k : Nat) : Int) 54 rfl rfl (by omega) (by omega) ?_
    refine we_add ((18 + (3 * k) : Nat) : Int) 55 rfl rfl (by omega) (by omega) ?_
    refine wq_s 57 rfl ?_
    refine wq_s 58 rfl ?_
    refine we_div (((p - 9) / 3 : Nat) : Int) 59 rfl rfl (by omega) (by omega) (by omega) ?_
    refine we_add (((18 + (3 * k)) + ((p - 9) / 3) : Nat) : Int) 60 rfl rfl (by omega) (by omega) ?_
    refine wq_s 62 rfl ?_
    refine wq_s 63 rfl ?_
    refine wq_getR 66 rfl rfl (hC.lt (by omega)) (hC.ty 17 _ rfl) rfl ?_
    refine wq_s 67 rfl ?_
    refine wq_s 69 rfl ?_
    refine wq_s 71 rfl ?_
    refine wq_s 73 rfl ?_
    refine wq_s 75 rfl ?_
    refine wq_s 76 rfl ?_
    refine we_rem (((p - 9) % 3 : Nat) : Int) 77 rfl rfl (by omega) (by omega) (by omega) ?_
    refine we_shl 73 ((p - 9) % 3) (73 * 2 ^ ((p - 9) % 3)) 78 rfl rfl rfl rfl (by omega) rfl (by omega) ?_
    refine wq_s 79 rfl ?_
    refine we_not (73 * 2 ^ ((p - 9) % 3)) 80 rfl rfl rfl (by omega) ?_
    have hq := cl_col ⟨p - 9, by omega⟩ ⟨k, hk⟩
    dsimp only at hq
    rw [show p - 9 + 9 = p by omega] at hq
    refine wq_vt4 83 rfl rfl (Nat.le_of_ble_eq_true rfl) (hC.lt (by omega)) (hC.ty 15 _ rfl) rfl (Nat.le_of_ble_eq_true rfl) (c_addPlM (h := (18 + (3 * k)) + ((p - 9) / 3)) (m := (73 * 2 ^ ((p - 9) % 3))) hC hb hS hB hH (by omega) he (by omega)) (fun r M3 hr => ?_)
    obtain ⟨rfl, hG3, hF3⟩ := hr
    dsimp only [Option.toList, List.cons_append, List.nil_append]
    exact wq_ret rfl ⟨rfl, hG3.ext (fun c _ => cl_ins hp he hk hz ha (by omega) hq.1 (fun j hj => hq.2 ⟨j, hj⟩) c), hF3⟩
  · have c_3 := of_decide_eq_false c_3
    refine wq_s 8 rfl ?_
    refine wq_s 9 rfl ?_
    refine wq_s 10 rfl ?_
    refine wq_s 11 rfl ?_
    refine we_div ((p / 3 : Nat) : Int) 12 rfl rfl (by omega) (by omega) (by omega) ?_
    refine we_mul ((3 * (p / 3) : Nat) : Int) 13 rfl rfl (by omega) (by omega) ?_
    refine we_add ((18 + (3 * (p / 3)) : Nat) : Int) 14 rfl rfl (by omega) (by omega) ?_
    refine wq_s 15 rfl ?_
    refine we_add (((18 + (3 * (p / 3))) + k : Nat) : Int) 16 rfl rfl (by omega) (by omega) ?_
    refine wq_s 18 rfl ?_
    refine wq_s 19 rfl ?_
    refine wq_getR 22 rfl rfl (hC.lt (by omega)) (hC.ty 17 _ rfl) rfl ?_
    refine wq_s 23 rfl ?_
    refine wq_s 25 rfl ?_
    refine wq_s 27 rfl ?_
    refine wq_s 29 rfl ?_
    refine wq_s 30 rfl ?_
    refine wq_s 31 rfl ?_
    refine wq_s 32 rfl ?_
    refine we_rem ((p % 3 : Nat) : Int) 33 rfl rfl (by omega) (by omega) (by omega) ?_
    refine we_mul ((3 * (p % 3) : Nat) : Int) 34 rfl rfl (by omega) (by omega) ?_
    refine we_shl 7 (3 * (p % 3)) (7 * 2 ^ (3 * (p % 3))) 35 rfl rfl rfl rfl (by omega) rfl (by omega) ?_
    refine wq_s 36 rfl ?_
    refine we_not (7 * 2 ^ (3 * (p % 3))) 37 rfl rfl rfl (by omega) ?_
    have hq := cl_row ⟨p, by omega⟩ ⟨k, hk⟩
    dsimp only at hq
    refine wq_vt4 40 rfl rfl (Nat.le_of_ble_eq_true rfl) (hC.lt (by omega)) (hC.ty 15 _ rfl) rfl (Nat.le_of_ble_eq_true rfl) (c_addPlM (h := (18 + (3 * (p / 3))) + k) (m := (7 * 2 ^ (3 * (p % 3)))) hC hb hS hB hH (by omega) he (by omega)) (fun r M3 hr => ?_)
    obtain ⟨rfl, hG3, hF3⟩ := hr
    dsimp only [Option.toList, List.cons_append, List.nil_append]
    refine wq_s 83 rfl ?_
    exact wq_ret rfl ⟨rfl, hG3.ext (fun c _ => cl_ins hp he hk hz ha (by omega) hq.1 (fun j hj => hq.2 ⟨j, hj⟩) c), hF3⟩
theorem c_markClaiming {d : Nat} {G : GT} {M : MT} {b p e : Nat} {X : Nat → Nat} (hC : ClsG G) (hb : IsBd b) (hS : ShpAt M) (hB : BdC M b X) (hH : GoAt M (fun _ => 0)) (he : e < 9) (hp : p < 18) : Mq (d + 2) k_X3_markClaiming [vR 21, vR b, vI (p : Int), vI (e : Int)] G M (fun z M' => z = none ∧ GoAt M' (insY X 3 (p : Int) ((e + 1 : Nat) : Int)) ∧ ∀ a, a ≠ 19 → a ≠ 20 → M' a = M a) := by
  have hpl := plH_lt X p e
  have L_22 : plH X p e ≠ 0 → ∀ (f i : Nat), 3 - i < f → i ≤ 3 → (∀ k, k < i → andN (plH X p e) (7 * 2 ^ (3 * k)) ≠ 0) → Wq (d + 2) k_X3_markClaiming 22 [some (vR 21), some (vR b), some (vI ((p : Nat) : Int)), some (vI ((e : Nat) : Int)), some (vI ((plH X p e : Nat) : Int)), some (vI ((i : Nat) : Int))] [] G M (fun z M' => z = none ∧ GoAt M' (insY X 3 (p : Int) ((e + 1 : Nat) : Int)) ∧ ∀ a, a ≠ 19 → a ≠ 20 → M' a = M a) := by
    intro hz f
    induction f with
    | zero => intro i h; exact absurd h (by omega)
    | succ f ih_i =>
      intro i hf_i hk_i hno
      refine wq_s 24 rfl ?_
      refine wq_s 25 rfl ?_
      refine wq_icmp 59 rfl rfl (by omega) (by omega) (fun c_25 => ?_) (fun c_25 => ?_)
      · have c_25 := of_decide_eq_true c_25
        exact wq_ret rfl ⟨rfl, hH.ext (fun c _ => (insY_f (fun z => by rcases z with z | z | z | z | z | z | z <;> first | exact absurd z.1 (by decide) | (have h9 := z.2.2.2; unfold clmT at h9; rw [v1N, plF, th_non (fun k hk => hno k (by omega))] at h9; exact absurd h9 (by decide))) c).symm), fun _ _ _ => rfl⟩
      · have c_25 := of_decide_eq_false c_25
        have hpw : 2 ^ (3 * i) ≤ 2 ^ 6 := Nat.pow_le_pow_right (by decide) (by omega)
        obtain ⟨x, hx⟩ : ∃ x, x = andN (plH X p e) (7 * 2 ^ (3 * i)) := ⟨_, rfl⟩
        have hx9 : x < 512 := by
          rw [hx]
          exact andN_lt (k := 9) hpl
        refine wq_s 30 rfl ?_
        refine wq_s 32 rfl ?_
        refine wq_s 33 rfl ?_
        refine wq_s 35 rfl ?_
        refine we_mul ((3 * i : Nat) : Int) 36 rfl rfl (by omega) (by omega) ?_
        refine we_shl 7 (3 * i) (7 * 2 ^ (3 * i)) 37 rfl rfl rfl rfl (by omega) rfl (by omega) ?_
        refine wq_s 38 rfl ?_
        refine we_not (7 * 2 ^ (3 * i)) 39 rfl rfl rfl (by omega) ?_
        refine we_andn (plH X p e) (7 * 2 ^ (3 * i)) x 40 rfl rfl rfl (by omega) hx.symm ?_
        refine wq_if 53 rfl rfl (by omega) (fun c_40 => ?_) (fun c_40 => ?_)
        · have c_40 := of_decide_eq_true c_40
          refine we_inc 5 1 ((i + 1 : Nat) : Int) 56 _ rfl rfl rfl (by omega) (by omega) rfl ?_
          refine wq_s 22 rfl ?_
          exact ih_i (i + 1) (by omega) (by omega) (fun k hk => by
            by_cases hki : k = i
            · rw [hki]
              omega
            · exact hno k (by omega))
        · have c_40 := of_decide_eq_false c_40
          refine wq_s 44 rfl ?_
          refine wq_s 45 rfl ?_
          refine wq_s 46 rfl ?_
          refine wq_s 48 rfl ?_
          refine wq_s 49 rfl ?_
          refine wq_vt4 52 rfl rfl (Nat.le_of_ble_eq_true rfl) (hC.lt (by omega)) (hC.ty 17 _ rfl) rfl (Nat.le_of_ble_eq_true rfl) (c_markClaimed hC hb hS hB hH he hp (show i < 3 by omega) hz (by omega)) (fun r M3 hr => ?_)
          obtain ⟨rfl, hG3, hF3⟩ := hr
          dsimp only [Option.toList, List.cons_append, List.nil_append]
          exact wq_ret rfl ⟨rfl, hG3, hF3⟩
  refine wq_s 1 rfl ?_
  refine wq_getR 4 rfl rfl (hC.lt (by omega)) (hC.bd hb).1 rfl ?_
  refine wq_s 6 rfl ?_
  refine wq_s 7 rfl ?_
  refine we_mul ((9 * p : Nat) : Int) 8 rfl rfl (by omega) (by omega) ?_
  refine wq_s 9 rfl ?_
  refine we_add (((9 * p) + e : Nat) : Int) 10 rfl rfl (by omega) (by omega) ?_
  refine wq_iald (v := ((plH X p e : Nat) : Int)) 11 rfl rfl (hC.lt (by omega)).2 (hC.bd hb).2.2.1 (by omega) (by omega) (by omega) (hB.2 p e (by omega) he) ?_
  refine wq_s 13 rfl ?_
  refine wq_s 15 rfl ?_
  refine wq_if 19 rfl rfl (by omega) (fun c_15 => ?_) (fun c_15 => ?_)
  · have c_15 := of_decide_eq_true c_15
    refine wq_s 20 rfl ?_
    refine wq_s 22 rfl ?_
    exact L_22 (by omega) 4 0 (by omega) (by omega) (fun k hk => absurd hk (Nat.not_lt_zero _))
  · have c_15 := of_decide_eq_false c_15
    exact wq_ret rfl ⟨rfl, hH.ext (fun c _ => (insY_f (fun z => by rcases z with z | z | z | z | z | z | z <;> first | exact absurd z.1 (by decide) | (have h9 := z.2.2.2; unfold clmT at h9; rw [v1N, plF, show plH X p e = 0 by omega] at h9; exact absurd h9 (by decide))) c).symm), fun _ _ _ => rfl⟩
