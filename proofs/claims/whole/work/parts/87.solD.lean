/-! the solver: fewest, keepAnswer, settle -/
def lsN (X : Nat → Nat) (c : Nat) : Nat := if fwN X c < 0 then 10 else pop9 (X (fwN X c).toNat)
theorem lsN_le (X : Nat → Nat) (c : Nat) : lsN X c ≤ 10 := by
  unfold lsN
  split
  · exact Nat.le_refl _
  · have := pop9_le (X (fwN X c).toNat)
    omega
theorem fw_t {X : Nat → Nat} {c : Nat} (h1 : 1 < pop9 (X c)) (h2 : pop9 (X c) < lsN X c) : fwN X (c + 1) = (c : Int) ∧ lsN X (c + 1) = pop9 (X c) := by
  have e : fwN X (c + 1) = (c : Int) := by
    show (if 1 < pop9 (X c) ∧ (fwN X c < 0 ∨ pop9 (X c) < pop9 (X (fwN X c).toNat)) then (c : Int) else fwN X c) = _
    refine if_pos ⟨h1, ?_⟩
    unfold lsN at h2
    by_cases h3 : fwN X c < 0
    · exact Or.inl h3
    · rw [if_neg h3] at h2
      exact Or.inr h2
  refine ⟨e, ?_⟩
  unfold lsN
  rw [e, if_neg (by omega), Int.toNat_natCast]
theorem fw_f {X : Nat → Nat} {c : Nat} (h : ¬ (1 < pop9 (X c) ∧ pop9 (X c) < lsN X c)) : fwN X (c + 1) = fwN X c ∧ lsN X (c + 1) = lsN X c := by
  have e : fwN X (c + 1) = fwN X c := by
    show (if 1 < pop9 (X c) ∧ (fwN X c < 0 ∨ pop9 (X c) < pop9 (X (fwN X c).toNat)) then (c : Int) else fwN X c) = _
    refine if_neg (fun z => h ⟨z.1, ?_⟩)
    unfold lsN
    have := pop9_le (X c)
    by_cases h3 : fwN X c < 0
    · rw [if_pos h3]
      omega
    · rw [if_neg h3]
      exact z.2.resolve_left h3
  refine ⟨e, ?_⟩
  unfold lsN
  rw [e]
theorem fwN_congr {X R : Nat → Nat} (h : ∀ c, c < 81 → X c = R c) : ∀ n, n ≤ 81 → fwN X n = fwN R n := by
  intro n
  induction n with
  | zero => intro _; rfl
  | succ n ih =>
    intro hn
    have e := ih (by omega)
    show (if 1 < pop9 (X n) ∧ (fwN X n < 0 ∨ pop9 (X n) < pop9 (X (fwN X n).toNat)) then (n : Int) else fwN X n) = (if 1 < pop9 (R n) ∧ (fwN R n < 0 ∨ pop9 (R n) < pop9 (R (fwN R n).toNat)) then (n : Int) else fwN R n)
    rw [e, h n (by omega)]
    by_cases h3 : fwN R n < 0
    · by_cases h4 : 1 < pop9 (R n)
      · rw [if_pos ⟨h4, Or.inl h3⟩, if_pos ⟨h4, Or.inl h3⟩]
      · rw [if_neg (fun z => h4 z.1), if_neg (fun z => h4 z.1)]
    · have := fwN_rng R n
      rw [h (fwN R n).toNat (by omega)]
theorem c_fewest {d : Nat} {G : GT} {M : MT} {X : Nat → Nat} (hC : ClsG G) (hX : AtB M 52 X) : Mq (d + 1) k_X5_fewest [vR 45] G M (fun z M' => z = some (vI (fwN X 81)) ∧ M' = M) := by
  have L_7 : ∀ (f c : Nat) (y4 : Option AV), 81 - c < f → c ≤ 81 → Wq (d + 1) k_X5_fewest 7 [some (vR 45), some (vI (fwN X c)), some (vI ((lsN X c : Nat) : Int)), some (vI ((c : Nat) : Int)), y4] [] G M (fun z M' => z = some (vI (fwN X 81)) ∧ M' = M) := by
    intro f
    induction f with
    | zero => intro c y4 h; exact absurd h (by omega)
    | succ f ih_c =>
      intro c y4 hf_c hk_c
      have hr9 := fwN_rng X c
      have hls := lsN_le X c
      refine wq_s 8 rfl ?_
      refine wq_s 10 rfl ?_
      refine wq_icmp 50 rfl rfl (by omega) (by omega) (fun c_10 => ?_) (fun c_10 => ?_)
      · have c_10 := of_decide_eq_true c_10
        have e9 : c = 81 := by omega
        subst e9
        refine wq_s 51 rfl ?_
        exact wq_ret rfl ⟨rfl, rfl⟩
      · have c_10 := of_decide_eq_false c_10
        refine wq_s 14 rfl ?_
        refine wq_getR 17 rfl rfl (hC.lt (by omega)) (hC.ty 41 _ rfl) rfl ?_
        refine wq_getR 20 rfl rfl (hC.lt (by omega)) (hC.ty 47 _ rfl) rfl ?_
        refine wq_s 21 rfl ?_
        refine wq_iald (v := ((X c : Nat) : Int)) 22 rfl rfl (hC.lt (by omega)).2 (hC.ty 48 _ rfl) (by omega) (by omega) (by omega) (hX c (by omega)).1 ?_
        refine wq_st1 25 rfl rfl (by decide) (Nat.le_of_ble_eq_true rfl) rfl (Nat.le_of_ble_eq_true rfl) (c_bitCount (hX c (by omega)).2) (fun r M1 hr => ?_)
        obtain ⟨rfl, hM1⟩ := hr
        subst M1
        dsimp only [Option.toList, List.cons_append, List.nil_append]
        have hp9 := pop9_le (X c)
        refine wq_s 27 rfl ?_
        refine wq_s 29 rfl ?_
        refine wq_s 30 rfl ?_
        refine wq_icmp 44 rfl rfl (by omega) (by omega) (fun c_30 => ?_) (fun c_30 => ?_)
        · have c_30 := of_decide_eq_true c_30
          refine we_inc 3 1 ((c + 1 : Nat) : Int) 47 _ rfl rfl rfl (by omega) (by omega) rfl ?_
          refine wq_s 7 rfl ?_
          have hff := fw_f (X := X) (c := c) (by omega)
          have ih := ih_c (c + 1) (some (vI ((pop9 (X c) : Nat) : Int))) (by omega) (by omega)
          rw [hff.1, hff.2] at ih
          exact ih
        · have c_30 := of_decide_eq_false c_30
          refine wq_s 35 rfl ?_
          refine wq_s 36 rfl ?_
          refine wq_icmp 44 rfl rfl (by omega) (by omega) (fun c_36 => ?_) (fun c_36 => ?_)
          · have c_36 := of_decide_eq_true c_36
            refine we_inc 3 1 ((c + 1 : Nat) : Int) 47 _ rfl rfl rfl (by omega) (by omega) rfl ?_
            refine wq_s 7 rfl ?_
            have hff := fw_f (X := X) (c := c) (by omega)
            have ih := ih_c (c + 1) (some (vI ((pop9 (X c) : Nat) : Int))) (by omega) (by omega)
            rw [hff.1, hff.2] at ih
            exact ih
          · have c_36 := of_decide_eq_false c_36
            refine wq_s 41 rfl ?_
            refine wq_s 42 rfl ?_
            refine wq_s 43 rfl ?_
            refine wq_s 44 rfl ?_
            refine we_inc 3 1 ((c + 1 : Nat) : Int) 47 _ rfl rfl rfl (by omega) (by omega) rfl ?_
            refine wq_s 7 rfl ?_
            have hft := fw_t (show 1 < pop9 (X c) by omega) (show pop9 (X c) < lsN X c by omega)
            have ih := ih_c (c + 1) (some (vI ((pop9 (X c) : Nat) : Int))) (by omega) (by omega)
            rw [hft.1, hft.2] at ih
            exact ih
  refine wq_s 1 rfl ?_
  refine wq_s 2 rfl ?_
  refine wq_s 4 rfl ?_
  refine wq_s 5 rfl ?_
  refine wq_s 6 rfl ?_
  refine wq_s 7 rfl ?_
  exact L_7 82 0 none (by omega) (by omega)
theorem dg_pow : ∀ e : Fin 9, dgF (2 ^ e.val) = e.val + 1 := by decide +kernel
theorem c_keepAnswer {d : Nat} {G : GT} {M : MT} {X : Nat → Nat} {nf : Nat} (hC : ClsG G) (hX : AtB M 52 X) (hp : ∀ c, c < 81 → pop9 (X c) = 1) (hf : M 45 12 = (nf : Int)) (hf1 : nf ≤ 1) : Mq (d + 2) k_X5_keepAnswer [vR 45] G M (fun z M' => z = none ∧ M' 45 12 = ((nf + 1 : Nat) : Int) ∧ (∀ c : Nat, c < 81 → M' 50 ((81 * nf + c : Nat) : Int) = ((dgF (X c) : Nat) : Int)) ∧ (∀ j : Int, j < 81 * (nf : Int) → M' 50 j = M 50 j) ∧ (∀ a, a ≠ 45 → a ≠ 50 → M' a = M a) ∧ ∀ i : Int, i ≠ 12 → M' 45 i = M 45 i) := by
  have L_11 : ∀ (f c : Nat) (M2 : MT), 81 - c < f → c ≤ 81 → (∀ c' : Nat, c' < c → M2 50 ((81 * nf + c' : Nat) : Int) = ((dgF (X c') : Nat) : Int)) → (∀ j : Int, j < 81 * (nf : Int) → M2 50 j = M 50 j) → (∀ a, a ≠ 50 → M2 a = M a) → Wq (d + 2) k_X5_keepAnswer 11 [some (vR 45), some (vI ((c : Nat) : Int))] [] G M2 (fun z M' => z = none ∧ M' 45 12 = ((nf + 1 : Nat) : Int) ∧ (∀ c : Nat, c < 81 → M' 50 ((81 * nf + c : Nat) : Int) = ((dgF (X c) : Nat) : Int)) ∧ (∀ j : Int, j < 81 * (nf : Int) → M' 50 j = M 50 j) ∧ (∀ a, a ≠ 45 → a ≠ 50 → M' a = M a) ∧ ∀ i : Int, i ≠ 12 → M' 45 i = M 45 i) := by
    intro f
    induction f with
    | zero => intro c M2 h; exact absurd h (by omega)
    | succ f ih_c =>
      intro c M2 hf_c hk_c a1 a2 a3
      refine wq_s 12 rfl ?_
      refine wq_s 14 rfl ?_
      refine wq_icmp 51 rfl rfl (by omega) (by omega) (fun c_14 => ?_) (fun c_14 => ?_)
      · have c_14 := of_decide_eq_true c_14
        refine wq_s 52 rfl ?_
        refine wq_s 53 rfl ?_
        refine wq_getE (v := ((nf : Nat) : Int)) 12 56 rfl rfl (hC.lt (by omega)) (hC.ty 41 _ rfl) rfl rfl (by rw [a3 _ (by decide)]; exact hf) ?_
        refine wq_s 57 rfl ?_
        refine we_add ((nf + 1 : Nat) : Int) 58 rfl rfl (by omega) (by omega) ?_
        refine wq_putE 12 61 rfl rfl (hC.lt (by omega)) (hC.ty 41 _ rfl) rfl (by decide) (Or.inl rfl) rfl ?_
        exact wq_ret rfl ⟨rfl, up2_at, (fun c' hc' => by rw [up2_row (by decide)]; exact a1 c' (by omega)), (fun j hj => by rw [up2_row (by decide)]; exact a2 j hj), (fun a h1 h2 => by rw [up2_row h1]; exact a3 a h2), fun i hi => by rw [up2_ne (Or.inr hi), a3 _ (by decide)]⟩
      · have c_14 := of_decide_eq_false c_14
        obtain ⟨e, he, hx⟩ := pop1N (hX c (by omega)).2 (hp c (by omega))
        refine wq_s 18 rfl ?_
        refine wq_getR 21 rfl rfl (hC.lt (by omega)) (hC.ty 41 _ rfl) rfl ?_
        refine wq_s 23 rfl ?_
        refine wq_s 24 rfl ?_
        refine wq_getE (v := ((nf : Nat) : Int)) 12 27 rfl rfl (hC.lt (by omega)) (hC.ty 41 _ rfl) rfl rfl (by rw [a3 _ (by decide)]; exact hf) ?_
        refine we_mul ((81 * nf : Nat) : Int) 28 rfl rfl (by omega) (by omega) ?_
        refine wq_s 29 rfl ?_
        refine we_add (((81 * nf) + c : Nat) : Int) 30 rfl rfl (by omega) (by omega) ?_
        refine wq_s 31 rfl ?_
        refine wq_getR 34 rfl rfl (hC.lt (by omega)) (hC.ty 41 _ rfl) rfl ?_
        refine wq_getR 37 rfl rfl (hC.lt (by omega)) (hC.ty 47 _ rfl) rfl ?_
        refine wq_s 38 rfl ?_
        refine wq_iald (v := ((X c : Nat) : Int)) 39 rfl rfl (hC.lt (by omega)).2 (hC.ty 48 _ rfl) (by omega) (by omega) (by omega) (by rw [a3 _ (by decide)]; exact (hX c (by omega)).1) ?_
        rw [hx]
        refine wq_st1 42 rfl rfl (by decide) (Nat.le_of_ble_eq_true rfl) rfl (Nat.le_of_ble_eq_true rfl) (c_placeOf he) (fun r M1 hr => ?_)
        obtain ⟨rfl, hM1⟩ := hr
        subst M1
        dsimp only [Option.toList, List.cons_append, List.nil_append]
        refine wq_s 43 rfl ?_
        refine we_add ((e + 1 : Nat) : Int) 44 rfl rfl (by omega) (by omega) ?_
        refine wq_iast 45 rfl rfl (hC.lt (by omega)) (hC.ty 46 _ rfl) (by omega) (by omega) (by omega) ?_
        refine we_inc 1 1 ((c + 1 : Nat) : Int) 48 _ rfl rfl rfl (by omega) (by omega) rfl ?_
        refine wq_s 11 rfl ?_
        refine ih_c (c + 1) _ (by omega) (by omega) (fun c' hc' => ?_) (fun j hj => by rw [up2_ne (Or.inr (by omega))]; exact a2 j hj) (fun a ha => by rw [up2_row ha]; exact a3 a ha)
        by_cases hcc : c' = c
        · subst hcc
          rw [up2_eq rfl (by omega), hx, dg_pow ⟨e, he⟩]
        · rw [up2_ne (Or.inr (by omega))]
          exact a1 c' (by omega)
  refine wq_s 1 rfl ?_
  refine wq_getE (v := ((nf : Nat) : Int)) 12 4 rfl rfl (hC.lt (by omega)) (hC.ty 41 _ rfl) rfl rfl hf ?_
  refine wq_s 5 rfl ?_
  refine wq_icmp 9 rfl rfl (by omega) (by omega) (fun c_5 => ?_) (fun c_5 => ?_)
  · have c_5 := of_decide_eq_true c_5
    refine wq_s 10 rfl ?_
    refine wq_s 11 rfl ?_
    exact L_11 82 0 M (by omega) (by omega) (fun c' h => absurd h (Nat.not_lt_zero _)) (fun _ _ => rfl) (fun _ _ => rfl)
  · have c_5 := of_decide_eq_false c_5
    exact absurd c_5 (by omega)
/-- the class's search beside the reference's -/
def StkAt (M : MT) (Y : Nat → Nat) (lg : List Nat) (dep : Nat) (F : Nat → (Nat → Nat) × Nat × Nat) : Prop := ∃ mk : Nat → Nat, (∀ i, i < dep → (M 47 (i : Int) = (((F i).2.1 : Nat) : Int) ∧ M 48 (i : Int) = (((F i).1 (F i).2.1 / 2 ^ (F i).2.2 * 2 ^ (F i).2.2 : Nat) : Int) ∧ M 49 (i : Int) = ((mk i : Nat) : Int)) ∧ mk i ≤ lg.length ∧ (∀ c, c < 81 → (F i).1 c = drF Y (lg.take (mk i)) c) ∧ ClosedI (F i).1 ∧ Undead (F i).1) ∧ ∀ i j, i ≤ j → j < dep → mk i ≤ mk j
def AnAt (M : MT) (nf : Nat) (Sv : Nat → Nat → Nat) : Prop := ∀ k, k < nf → ∀ c, c < 81 → M 50 ((81 * k + c : Nat) : Int) = ((Sv k c : Nat) : Int)
def NmAt (M : MT) (S : SrS) : Prop := M 45 9 = (S.1 : Int) ∧ M 45 10 = (S.2.1 : Int) ∧ M 45 11 = (S.2.2.1 : Int) ∧ M 45 8 = (S.2.2.2.1 : Int) ∧ M 45 12 = (S.2.2.2.2.1 : Int)
def ClsSr (M : MT) (gv : Nat → Nat) (S : SrS) : Prop := NmAt M S ∧ AnAt M S.2.2.2.2.1 S.2.2.2.2.2.2 ∧ (∃ Xo, AtB M 52 Xo) ∧ (S.1 = 1 → ∃ lg, BdAt M 51 (drF (fstF gv) lg) lg ∧ HsL (fstF gv) lg ∧ StkAt M (fstF gv) lg S.2.2.2.1 S.2.2.2.2.2.1)
theorem StkAt.fr {M M' : MT} {Y : Nat → Nat} {lg : List Nat} {dep : Nat} {F : Nat → (Nat → Nat) × Nat × Nat} (h : StkAt M Y lg dep F) (h1 : M' 47 = M 47) (h2 : M' 48 = M 48) (h3 : M' 49 = M 49) : StkAt M' Y lg dep F := by
  unfold StkAt
  rw [h1, h2, h3]
  exact h
theorem StkAt.le {M : MT} {Y : Nat → Nat} {lg : List Nat} {dep n : Nat} {F : Nat → (Nat → Nat) × Nat × Nat} (h : StkAt M Y lg dep F) (hn : n ≤ dep) : StkAt M Y lg n F := by
  obtain ⟨mk, h1, h2⟩ := h
  exact ⟨mk, fun i hi => h1 i (by omega), fun i j hi hj => h2 i j hi (by omega)⟩
theorem AnAt.fr {M M' : MT} {nf : Nat} {Sv : Nat → Nat → Nat} (h : AnAt M nf Sv) (h1 : M' 50 = M 50) : AnAt M' nf Sv := by
  unfold AnAt
  rw [h1]
  exact h
theorem close_none {W X : Nat → Nat} (hK : KpI W X) (hU : ¬ Undead X) : closeF W = none := by
  cases h : closeF W with
  | none => rfl
  | some R =>
    have h1 := closeF_some h
    exact absurd (h1.1.mono (hK R h1.2.1 h1.1 h1.2.2.2.1)) hU
theorem close_some {W X : Nat → Nat} (hK : KpI W X) (hU : Undead X) (hC : ClosedI X) (hX : ∀ c, c < 81 → X c < 512) (hs : SubB X W) : ∃ R0, closeF W = some R0 ∧ CloU W R0 ∧ ∀ c, c < 81 → X c = R0 c := closeF_t ⟨hU, hC, hX, hs, hK⟩
theorem div_mul0 {x t : Nat} : x / 2 ^ t * 2 ^ t = 0 ↔ x / 2 ^ t = 0 := by
  constructor
  · intro h
    rcases Nat.mul_eq_zero.1 h with z | z
    · exact z
    · exact absurd z (Nat.ne_of_gt (Nat.two_pow_pos t))
  · intro h
    rw [h, Nat.zero_mul]
theorem st_118 {d : Nat} {G : GT} {M : MT} {gv : Nat → Nat} {S : SrS} {lg : List Nat} {n : Nat} {y1 : Option AV} (hC : ClsG G) (h8 : M 45 8 = (n : Int)) (hn : popD S.2.2.2.2.2.1 S.2.2.2.1 = n) (hle : n ≤ 82) (h9 : M 45 9 = (S.1 : Int)) (h11 : M 45 11 = (S.2.2.1 : Int)) (h12 : M 45 12 = (S.2.2.2.2.1 : Int)) (hf : S.2.2.2.2.1 ≤ 2) (hA : AnAt M S.2.2.2.2.1 S.2.2.2.2.2.2) (hB : BdAt M 51 (drF (fstF gv) lg) lg) (hH : HsL (fstF gv) lg) (hK : StkAt M (fstF gv) lg n S.2.2.2.2.2.1) : Wq d k_X5_settle 118 [some (vR 45), y1] [] G M (fun z M' => z = none ∧ ClsSr M' gv (leaveF S) ∧ ∀ a, a ≠ 45 → M' a = M a) := by
  have key : ∀ v : Nat, v = (if n = 0 ∨ S.2.2.2.2.1 = 2 then 1 else 0) → ClsSr (up2 M 45 10 (v : Int)) gv (leaveF S) := by
    intro v hv
    subst hn
    refine ⟨⟨by rw [up2_ne (Or.inr (by decide))]; exact h9, by rw [up2_at, hv]; rfl, by rw [up2_ne (Or.inr (by decide))]; exact h11, by rw [up2_ne (Or.inr (by decide))]; exact h8, by rw [up2_ne (Or.inr (by decide))]; exact h12⟩, hA.fr (up2_row (by decide)), ⟨_, (hB.1.1.fr (up2_row (by decide)))⟩, fun _ => ⟨lg, hB.fr (fun a h1 h2 => up2_row (by omega)), hH, hK.fr (up2_row (by decide)) (up2_row (by decide)) (up2_row (by decide))⟩⟩
  refine wq_s 119 rfl ?_
  refine wq_s 120 rfl ?_
  refine wq_getE (v := ((n : Nat) : Int)) 8 123 rfl rfl (hC.lt (by omega)) (hC.ty 41 _ rfl) rfl rfl h8 ?_
  refine wq_if 134 rfl rfl (by omega) (fun c_123 => ?_) (fun c_123 => ?_)
  · have c_123 := of_decide_eq_true c_123
    refine wq_s 135 rfl ?_
    refine wq_s 139 rfl ?_
    refine wq_putE 10 142 rfl rfl (hC.lt (by omega)) (hC.ty 41 _ rfl) rfl (by decide) (by decide) rfl ?_
    exact wq_ret rfl ⟨rfl, key 1 (by rw [if_pos (by omega)]), fun a ha => up2_row ha⟩
  · have c_123 := of_decide_eq_false c_123
    refine wq_s 127 rfl ?_
    refine wq_getE (v := ((S.2.2.2.2.1 : Nat) : Int)) 12 130 rfl rfl (hC.lt (by omega)) (hC.ty 41 _ rfl) rfl rfl h12 ?_
    refine wq_s 131 rfl ?_
    refine wq_icmp 138 rfl rfl (by omega) (by omega) (fun c_131 => ?_) (fun c_131 => ?_)
    · have c_131 := of_decide_eq_true c_131
      refine wq_s 139 rfl ?_
      refine wq_putE 10 142 rfl rfl (hC.lt (by omega)) (hC.ty 41 _ rfl) rfl (by decide) (by decide) rfl ?_
      exact wq_ret rfl ⟨rfl, key 0 (by rw [if_neg (by omega)]), fun a ha => up2_row ha⟩
    · have c_131 := of_decide_eq_false c_131
      refine wq_s 135 rfl ?_
      refine wq_s 139 rfl ?_
      refine wq_putE 10 142 rfl rfl (hC.lt (by omega)) (hC.ty 41 _ rfl) rfl (by decide) (by decide) rfl ?_
      exact wq_ret rfl ⟨rfl, key 1 (by rw [if_pos (by omega)]), fun a ha => up2_row ha⟩
theorem st_94 {d : Nat} {G : GT} {gv : Nat → Nat} {S : SrS} {lg : List Nat} (hC : ClsG G) (hf : S.2.2.2.2.1 ≤ 2) (hk : ∀ i, i < S.2.2.2.1 → (S.2.2.2.2.2.1 i).1 (S.2.2.2.2.2.1 i).2.1 < 512) (hH : HsL (fstF gv) lg) (hl81 : S.2.2.2.1 ≤ 81) : ∀ (n : Nat) (M : MT), n ≤ S.2.2.2.1 → M 45 8 = (n : Int) → popD S.2.2.2.2.2.1 S.2.2.2.1 = popD S.2.2.2.2.2.1 n → M 45 9 = (S.1 : Int) → M 45 11 = (S.2.2.1 : Int) → M 45 12 = (S.2.2.2.2.1 : Int) → AnAt M S.2.2.2.2.1 S.2.2.2.2.2.2 → BdAt M 51 (drF (fstF gv) lg) lg → StkAt M (fstF gv) lg n S.2.2.2.2.2.1 → Wq d k_X5_settle 94 [some (vR 45), some (vI ((n : Int) - 1))] [] G M (fun z M' => z = none ∧ ClsSr M' gv (leaveF S) ∧ ∀ a, a ≠ 45 → M' a = M a) := by
  intro n
  induction n with
  | zero =>
    intro M hn h8 hp h9 h11 h12 hA hB hK
    rw [show ((0 : Nat) : Int) - 1 = -1 from rfl]
    refine wq_s 95 rfl ?_
    refine wq_s 118 rfl ?_
    exact st_118 hC h8 hp (by omega) h9 h11 h12 hf hA hB hH hK
  | succ n ih =>
    intro M hn h8 hp h9 h11 h12 hA hB hK
    rw [show ((n + 1 : Nat) : Int) - 1 = (n : Int) by omega]
    have hn81 : n < 81 := by omega
    obtain ⟨lf, hlf⟩ : ∃ lf, lf = (S.2.2.2.2.2.1 n).1 (S.2.2.2.2.2.1 n).2.1 / 2 ^ (S.2.2.2.2.2.1 n).2.2 * 2 ^ (S.2.2.2.2.2.1 n).2.2 := ⟨_, rfl⟩
    have hlf5 : lf < 512 := by
      rw [hlf]
      exact Nat.lt_of_le_of_lt (Nat.div_mul_le_self _ _) (hk n (by omega))
    have hld : M 48 (n : Int) = (lf : Int) := by
      obtain ⟨mk, m1, -⟩ := id hK
      rw [hlf]
      exact (m1 n (by omega)).1.2.1
    refine wq_s 95 rfl ?_
    refine wq_if 118 rfl rfl (by omega) (fun c_95 => absurd c_95 cmp_ltN) (fun _ => ?_)
    refine wq_s 99 rfl ?_
    refine wq_getR 102 rfl rfl (hC.lt (by omega)) (hC.ty 41 _ rfl) rfl ?_
    refine wq_s 103 rfl ?_
    refine wq_iald (v := ((lf : Nat) : Int)) 104 rfl rfl (hC.lt (by omega)).2 (hC.ty 44 _ rfl) (by omega) (by omega) (by omega) hld ?_
    refine wq_if 118 rfl rfl (by omega) (fun c_104 => ?_) (fun c_104 => ?_)
    · have c_104 := of_decide_eq_true c_104
      exact st_118 hC h8 (hp.trans (if_neg (fun z => c_104 (by rw [hlf, div_mul0.2 z]; rfl)))) (by omega) h9 h11 h12 hf hA hB hH hK
    · have c_104 := of_decide_eq_false c_104
      refine wq_s 108 rfl ?_
      refine wq_s 109 rfl ?_
      refine wq_putE 8 112 rfl rfl (hC.lt (by omega)) (hC.ty 41 _ rfl) rfl (by decide) (Or.inl rfl) rfl ?_
      refine we_inc 1 (-1) ((n : Int) - 1) 115 _ rfl rfl rfl (by omega) (by omega) rfl ?_
      refine wq_s 94 rfl ?_
      have hz : (S.2.2.2.2.2.1 n).1 (S.2.2.2.2.2.1 n).2.1 / 2 ^ (S.2.2.2.2.2.1 n).2.2 = 0 := div_mul0.1 (hlf.symm.trans (by omega))
      refine (ih (up2 M 45 8 (n : Int)) (by omega) up2_at (hp.trans (if_pos hz)) ?_ ?_ ?_ (hA.fr (up2_row (by decide))) (hB.fr (fun a h1 h2 => up2_row (by omega))) ((hK.le (Nat.le_succ n)).fr (up2_row (by decide)) (up2_row (by decide)) (up2_row (by decide)))).mono (fun z M' hz => ⟨hz.1, hz.2.1, fun a ha => by rw [hz.2.2 a ha, up2_row ha]⟩)
      · rw [up2_ne (Or.inr (by decide))]; exact h9
      · rw [up2_ne (Or.inr (by decide))]; exact h11
      · rw [up2_ne (Or.inr (by decide))]; exact h12
theorem st_87 {d : Nat} {G : GT} {M : MT} {gv : Nat → Nat} {S : SrS} {lg : List Nat} {y1 : Option AV} (hC : ClsG G) (h9 : M 45 9 = (S.1 : Int)) (h11 : M 45 11 = (S.2.2.1 : Int)) (h12 : M 45 12 = (S.2.2.2.2.1 : Int)) (hf : S.2.2.2.2.1 ≤ 2) (hA : AnAt M S.2.2.2.2.1 S.2.2.2.2.2.2) (hB : BdAt M 51 (drF (fstF gv) lg) lg) (hH : HsL (fstF gv) lg) (h8 : M 45 8 = (S.2.2.2.1 : Int)) (hle : S.2.2.2.1 ≤ 81) (hk : ∀ i, i < S.2.2.2.1 → (S.2.2.2.2.2.1 i).1 (S.2.2.2.2.2.1 i).2.1 < 512) (hK : StkAt M (fstF gv) lg S.2.2.2.1 S.2.2.2.2.2.1) : Wq d k_X5_settle 87 [some (vR 45), y1] [] G M (fun z M' => z = none ∧ ClsSr M' gv (leaveF S) ∧ ∀ a, a ≠ 45 → M' a = M a) := by
  refine wq_s 88 rfl ?_
  refine wq_getE (v := ((S.2.2.2.1 : Nat) : Int)) 8 91 rfl rfl (hC.lt (by omega)) (hC.ty 41 _ rfl) rfl rfl h8 ?_
  refine wq_s 92 rfl ?_
  refine we_sub (((S.2.2.2.1 : Nat) : Int) - 1) 93 rfl rfl (by omega) (by omega) ?_
  refine wq_s 94 rfl ?_
  exact st_94 hC hf hk hH hle _ M (Nat.le_refl _) h8 rfl h9 h11 h12 hA hB hK
theorem fw_no {X : Nat → Nat} (h : ¬ fwN X 81 ≠ -1) {c : Nat} (hc : c < 81) (h1 : 1 < pop9 (X c)) : False := by
  have key : ∀ n, n ≤ 81 → c < n → 0 ≤ fwN X n := by
    intro n
    induction n with
    | zero => intro _ z; exact absurd z (Nat.not_lt_zero _)
    | succ n ih =>
      intro hn hcn
      show 0 ≤ (if 1 < pop9 (X n) ∧ (fwN X n < 0 ∨ pop9 (X n) < pop9 (X (fwN X n).toNat)) then (n : Int) else fwN X n)
      by_cases hq : 1 < pop9 (X n) ∧ (fwN X n < 0 ∨ pop9 (X n) < pop9 (X (fwN X n).toNat))
      · rw [if_pos hq]
        omega
      · rw [if_neg hq]
        by_cases hcn2 : c = n
        · subst hcn2
          apply Classical.byContradiction
          intro hz
          exact hq ⟨h1, Or.inl (by omega)⟩
        · exact ih (by omega) (by omega)
  have := key 81 (Nat.le_refl _) hc
  omega
theorem c_settle {d : Nat} {G : GT} {M : MT} {gv W : Nat → Nat} {S : SrS} {lg EL : List Nat} {dd : Nat} (hC : ClsG G) (hY : ∀ c, c < 81 → fstF gv c < 512) (hV : SvC M (fstF gv) lg EL dd) (hN : NmAt M S) (hA : AnAt M S.2.2.2.2.1 S.2.2.2.2.2.2) (hK : StkAt M (fstF gv) lg S.2.2.2.1 S.2.2.2.2.2.1) (hO : SrOk S) (hf1 : S.2.2.2.2.1 ≤ 1) (hKp : KpI W (drF (fstF gv) lg)) (hR : (dd = 1 ∧ ¬ Undead (drF (fstF gv) lg)) ∨ (dd = 0 ∧ Undead (drF (fstF gv) lg) ∧ ClosedI (drF (fstF gv) lg) ∧ SubB (drF (fstF gv) lg) W)) (hdp : dd = 0 → 0 ≤ fwN (drF (fstF gv) lg) 81 → S.2.2.2.1 ≤ 80) : Mq (d + 3) k_X5_settle [vR 45] G M (fun z M' => z = none ∧ ClsSr M' gv (leaveF (meetF W S)) ∧ ∀ a, (a < 45 ∨ 54 < a) → M' a = M a) := by
  have hX := (hV.2.1.all hY).2
  obtain ⟨n9, n10, n11, n8, n12⟩ := id hN
  have hdd : dd ≤ 1 := by rcases hR with ⟨z, -⟩ | ⟨z, -⟩ <;> omega
  have hdo := hO.2.2.2.1
  have hk9 : ∀ i, i < S.2.2.2.1 → (S.2.2.2.2.2.1 i).1 (S.2.2.2.2.2.1 i).2.1 < 512 := fun i hi => (hO.2.2.2.2.2 i hi).1 _ (hO.2.2.2.2.2 i hi).2.1
  refine wq_s 1 rfl ?_
  refine wq_getE (v := ((dd : Nat) : Int)) 4 4 rfl rfl (hC.lt (by omega)) (hC.ty 41 _ rfl) rfl rfl hV.2.2.2.1 ?_
  refine wq_if 87 rfl rfl (by omega) (fun c_4 => ?_) (fun c_4 => ?_)
  · have c_4 := of_decide_eq_true c_4
    have e9 : dd = 1 := by omega
    rw [meetF_n (close_none hKp (hR.elim (fun z => z.2) (fun z => absurd z.1 (by omega))))]
    exact (st_87 hC n9 n11 n12 (by omega) hA hV.1 hV.2.1 n8 hdo hk9 hK).mono (fun z M' hz => ⟨hz.1, hz.2.1, fun a ha => hz.2.2 a (by omega)⟩)
  · have c_4 := of_decide_eq_false c_4
    have e9 : dd = 0 := by omega
    obtain ⟨hU, hCl, hSb⟩ : Undead (drF (fstF gv) lg) ∧ ClosedI (drF (fstF gv) lg) ∧ SubB (drF (fstF gv) lg) W := hR.elim (fun z => absurd z.1 (by omega)) (fun z => z.2)
    obtain ⟨R0, q1, q2, q3⟩ := close_some hKp hU hCl hX hSb
    refine wq_s 8 rfl ?_
    refine wq_vt0 11 rfl rfl (Nat.le_of_ble_eq_true rfl) (hC.lt (by omega)) (hC.ty 41 _ rfl) rfl (Nat.le_of_ble_eq_true rfl) (c_fewest (X := drF (fstF gv) lg) hC hV.1.1.1) (fun r M1 hr => ?_)
    obtain ⟨rfl, hM1⟩ := hr
    subst M1
    dsimp only [Option.toList, List.cons_append, List.nil_append]
    have hrng := fwN_rng (drF (fstF gv) lg) 81
    refine wq_s 12 rfl ?_
    refine wq_s 13 rfl ?_
    refine wq_s 14 rfl ?_
    refine wq_icmp 24 rfl rfl (by omega) (by omega) (fun c_14 => ?_) (fun c_14 => ?_)
    · have c_14 := of_decide_eq_true c_14
      have hd80 := hdp e9 (by omega)
      obtain ⟨cl, hcl9⟩ : ∃ cl, (fwN (drF (fstF gv) lg) 81).toNat = cl := ⟨_, rfl⟩
      have hcl : cl < 81 := by omega
      have hfe : fwN (drF (fstF gv) lg) 81 = (cl : Int) := by omega
      have hxcl := hX cl hcl
      rw [hfe]
      refine wq_s 25 rfl ?_
      refine wq_getE (v := ((S.2.2.2.1 : Nat) : Int)) 8 28 rfl rfl (hC.lt (by omega)) (hC.ty 41 _ rfl) rfl rfl n8 ?_
      refine wq_s 30 rfl ?_
      refine wq_icmp 87 rfl rfl (by omega) (by omega) (fun c_30 => ?_) (fun c_30 => ?_)
      · have c_30 := of_decide_eq_true c_30
        exact absurd c_30 (by omega)
      · have c_30 := of_decide_eq_false c_30
        refine wq_s 34 rfl ?_
        refine wq_getR 37 rfl rfl (hC.lt (by omega)) (hC.ty 41 _ rfl) rfl ?_
        refine wq_s 38 rfl ?_
        refine wq_getE (v := ((S.2.2.2.1 : Nat) : Int)) 8 41 rfl rfl (hC.lt (by omega)) (hC.ty 41 _ rfl) rfl rfl n8 ?_
        refine wq_s 42 rfl ?_
        refine wq_iast 43 rfl rfl (hC.lt (by omega)) (hC.ty 43 _ rfl) (by omega) (by omega) (by omega) ?_
        refine wq_s 44 rfl ?_
        refine wq_getR 47 rfl rfl (hC.lt (by omega)) (hC.ty 41 _ rfl) rfl ?_
        refine wq_s 48 rfl ?_
        refine wq_getE (v := ((S.2.2.2.1 : Nat) : Int)) 8 51 rfl rfl (hC.lt (by omega)) (hC.ty 41 _ rfl) rfl rfl (by rw [up2_row (by decide)]; exact n8) ?_
        refine wq_s 52 rfl ?_
        refine wq_getR 55 rfl rfl (hC.lt (by omega)) (hC.ty 41 _ rfl) rfl ?_
        refine wq_getR 58 rfl rfl (hC.lt (by omega)) (hC.ty 47 _ rfl) rfl ?_
        refine wq_s 59 rfl ?_
        refine wq_iald (v := ((drF (fstF gv) lg cl : Nat) : Int)) 60 rfl rfl (hC.lt (by omega)).2 (hC.ty 48 _ rfl) (by omega) (by omega) (by omega) (by rw [up2_row (by decide)]; exact (hV.1.1.1 cl hcl).1) ?_
        refine wq_iast 61 rfl rfl (hC.lt (by omega)) (hC.ty 44 _ rfl) (by omega) (by omega) (by omega) ?_
        refine wq_s 62 rfl ?_
        refine wq_getR 65 rfl rfl (hC.lt (by omega)) (hC.ty 41 _ rfl) rfl ?_
        refine wq_s 66 rfl ?_
        refine wq_getE (v := ((S.2.2.2.1 : Nat) : Int)) 8 69 rfl rfl (hC.lt (by omega)) (hC.ty 41 _ rfl) rfl rfl (by rw [up2_row (by decide), up2_row (by decide)]; exact n8) ?_
        refine wq_s 70 rfl ?_
        refine wq_getR 73 rfl rfl (hC.lt (by omega)) (hC.ty 41 _ rfl) rfl ?_
        refine wq_getE (v := ((lg.length : Nat) : Int)) 4 76 rfl rfl (hC.lt (by omega)) (hC.ty 47 _ rfl) rfl rfl (by rw [up2_row (by decide), up2_row (by decide)]; exact hV.1.2.1) ?_
        refine wq_iast 77 rfl rfl (hC.lt (by omega)) (hC.ty 45 _ rfl) (by omega) (by omega) (by omega) ?_
        refine wq_s 78 rfl ?_
        refine wq_s 79 rfl ?_
        refine wq_getE (v := ((S.2.2.2.1 : Nat) : Int)) 8 82 rfl rfl (hC.lt (by omega)) (hC.ty 41 _ rfl) rfl rfl (by rw [up2_row (by decide), up2_row (by decide), up2_row (by decide)]; exact n8) ?_
        refine wq_s 83 rfl ?_
        refine we_add ((S.2.2.2.1 + 1 : Nat) : Int) 84 rfl rfl (by omega) (by omega) ?_
        refine wq_putE 8 87 rfl rfl (hC.lt (by omega)) (hC.ty 41 _ rfl) rfl (by decide) (Or.inl rfl) rfl ?_
        rw [meetF_p q1 (by rw [← fwN_congr q3 81 (Nat.le_refl _)]; omega), ← fwN_congr q3 81 (Nat.le_refl _), show (fwN (drF (fstF gv) lg) 81).toNat = cl from hcl9]
        refine Wq.mono (st_87 (S := (S.1, S.2.1, S.2.2.1, S.2.2.2.1 + 1, S.2.2.2.2.1, fun i => if i = S.2.2.2.1 then (R0, cl, 0) else S.2.2.2.2.2.1 i, S.2.2.2.2.2.2)) hC (by rw [up2_ne (Or.inr (by decide)), up2_row (by decide), up2_row (by decide), up2_row (by decide)]; exact n9) (by rw [up2_ne (Or.inr (by decide)), up2_row (by decide), up2_row (by decide), up2_row (by decide)]; exact n11) (by rw [up2_ne (Or.inr (by decide)), up2_row (by decide), up2_row (by decide), up2_row (by decide)]; exact n12) (by show S.2.2.2.2.1 ≤ 2; omega) (hA.fr (by rw [up2_row (by decide), up2_row (by decide), up2_row (by decide), up2_row (by decide)])) (hV.1.fr (fun a h1 h2 => by rw [up2_row (by omega), up2_row (by omega), up2_row (by omega), up2_row (by omega)])) hV.2.1 up2_at (by show S.2.2.2.1 + 1 ≤ 81; omega) (fun i hi => ?_) ?_) (fun z M' hz => ⟨hz.1, hz.2.1, fun a ha => by rw [hz.2.2 a (by omega), up2_row (by omega), up2_row (by omega), up2_row (by omega), up2_row (by omega)]⟩)
        · have hi : i < S.2.2.2.1 + 1 := hi
          dsimp only
          by_cases hid : i = S.2.2.2.1
          · rw [if_pos hid]
            dsimp only
            rw [← q3 cl hcl]
            exact hX cl hcl
          · rw [if_neg hid]
            exact hk9 i (by omega)
        · obtain ⟨mk, m1, m2⟩ := hK
          refine ⟨fun i => if i = S.2.2.2.1 then lg.length else mk i, fun i hi => ?_, fun i j hij hj => ?_⟩
          · have hi : i < S.2.2.2.1 + 1 := hi
            dsimp only
            by_cases hid : i = S.2.2.2.1
            · rw [if_pos hid, if_pos hid]
              dsimp only
              rw [hid]
              refine ⟨⟨?_, ?_, ?_⟩, Nat.le_refl _, fun c hc => ?_, q2.2.1, q2.1⟩
              · rw [up2_row (by decide), up2_row (by decide), up2_row (by decide), up2_at]
              · rw [up2_row (by decide), up2_row (by decide), up2_at, Nat.pow_zero, Nat.div_one, Nat.mul_one, q3 cl hcl]
              · rw [up2_row (by decide), up2_at]
              · rw [List.take_length, q3 c hc]
            · rw [if_neg hid, if_neg hid]
              have := m1 i (by omega)
              refine ⟨⟨?_, ?_, ?_⟩, this.2⟩
              · rw [up2_row (by decide), up2_row (by decide), up2_row (by decide), up2_ne (Or.inr (by omega))]; exact this.1.1
              · rw [up2_row (by decide), up2_row (by decide), up2_ne (Or.inr (by omega)), up2_row (by decide)]; exact this.1.2.1
              · rw [up2_row (by decide), up2_ne (Or.inr (by omega)), up2_row (by decide), up2_row (by decide)]; exact this.1.2.2
          · have hj : j < S.2.2.2.1 + 1 := hj
            dsimp only
            by_cases hjd : j = S.2.2.2.1
            · rw [if_pos hjd]
              by_cases hid : i = S.2.2.2.1
              · rw [if_pos hid]
                exact Nat.le_refl _
              · rw [if_neg hid]
                exact (m1 i (by omega)).2.1
            · rw [if_neg hjd, if_neg (by omega)]
              exact m2 i j hij (by omega)
    · have c_14 := of_decide_eq_false c_14
      refine wq_s 18 rfl ?_
      have hall : ∀ c, c < 81 → pop9 (drF (fstF gv) lg c) = 1 := fun c hc => by
        have h1 := hU.1 c hc
        have h2 : pop9 (drF (fstF gv) lg c) ≠ 0 := fun z => h1 (pop0 ⟨_, hX c hc⟩ z)
        have h3 : ¬ 1 < pop9 (drF (fstF gv) lg c) := fun z => fw_no c_14 hc z
        omega
      refine wq_vt0 21 rfl rfl (Nat.le_of_ble_eq_true rfl) (hC.lt (by omega)) (hC.ty 41 _ rfl) rfl (Nat.le_of_ble_eq_true rfl) (c_keepAnswer (X := drF (fstF gv) lg) hC hV.1.1.1 hall n12 hf1) (fun r M3 hr => ?_)
      obtain ⟨rfl, g1, g2, g3, g4, g5⟩ := hr
      dsimp only [Option.toList, List.cons_append, List.nil_append]
      refine wq_s 87 rfl ?_
      rw [meetF_s q1 (by rw [← fwN_congr q3 81 (Nat.le_refl _)]; omega)]
      refine Wq.mono (st_87 (S := (S.1, S.2.1, S.2.2.1, S.2.2.2.1, S.2.2.2.2.1 + 1, S.2.2.2.2.2.1, fun k c => if k = S.2.2.2.2.1 then dgF (R0 c) else S.2.2.2.2.2.2 k c)) hC (by rw [g5 _ (by decide)]; exact n9) (by rw [g5 _ (by decide)]; exact n11) g1 (by show S.2.2.2.2.1 + 1 ≤ 2; omega) ?_ (hV.1.fr (fun a h1 h2 => g4 a (by omega) (by omega))) hV.2.1 (by rw [g5 _ (by decide)]; exact n8) hdo hk9 (hK.fr (g4 _ (by decide) (by decide)) (g4 _ (by decide) (by decide)) (g4 _ (by decide) (by decide)))) (fun z M' hz => ⟨hz.1, hz.2.1, fun a ha => by rw [hz.2.2 a (by omega), g4 a (by omega) (by omega)]⟩)
      intro k hk c hc
      have hk : k < S.2.2.2.2.1 + 1 := hk
      show M3 50 ((81 * k + c : Nat) : Int) = (((if k = S.2.2.2.2.1 then dgF (R0 c) else S.2.2.2.2.2.2 k c) : Nat) : Int)
      by_cases hkn : k = S.2.2.2.2.1
      · rw [if_pos hkn, hkn, g2 c hc, q3 c hc]
      · rw [if_neg hkn, g3 _ (by omega)]
        exact hA k (by omega) c hc
