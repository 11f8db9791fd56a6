/-! markFirst: the first instance of a rule -/
theorem GoAt.z {M : MT} {Hd : Nat → Nat} (h : GoAt M Hd) (hz : cntX Hd = 0) : GoAt M (fun _ => 0) := h.ext (fun c hc => by
  have h1 := popc_z 9 _ (sumN_z 81 hz c hc)
  have h2 := (h.1 c hc).2
  apply Nat.eq_of_testBit_eq
  intro i
  rw [Nat.zero_testBit]
  by_cases hi : i < 9
  · exact h1 i hi
  · exact bit_out (n := 9) h2 (by omega))
theorem fstP_congr {α : Type} {P P' : α → Prop} : ∀ {l : List α}, (∀ y, y ∈ l → (P y ↔ P' y)) → fstP P l = fstP P' l := by
  intro l
  induction l with
  | nil => intro _; rfl
  | cons y l ih =>
    intro h
    have h1 := h y (List.mem_cons_self ..)
    have h2 := ih (fun z hz => h z (List.mem_cons_of_mem _ hz))
    by_cases hy : P y
    · rw [fstP_t hy, fstP_t (h1.1 hy)]
    · rw [fstP_f hy, fstP_f (fun z => hy (h1.2 z)), h2]
theorem fstP_mp (P : Nat × Nat → Prop) (p : Nat) : ∀ l, fstP P (mp p l) = (fstP (fun v => P (p, v)) l).map (fun v => (p, v)) := by
  intro l
  induction l with
  | nil => rfl
  | cons y l ih =>
    show fstP P ((p, y) :: mp p l) = _
    by_cases hy : P (p, y)
    · rw [fstP_t hy, fstP_t (P := fun v => P (p, v)) hy]
      rfl
    · rw [fstP_f hy, fstP_f (P := fun v => P (p, v)) hy, ih]
theorem fstP_skip {α : Type} {P : α → Prop} {k l : List α} (h : fstP P k = none) : fstP P (k ++ l) = fstP P l := by rw [fstP_app, h]
theorem fstP_fst {α : Type} {P : α → Prop} {k l : List α} {y : α} (h : fstP P k = some y) : fstP P (k ++ l) = some y := by rw [fstP_app, h]
theorem fstP_last {α : Type} {P : α → Prop} {k l : List α} (h : fstP P l = none) : fstP P (k ++ l) = fstP P k := by
  rw [fstP_app, h]
  cases fstP P k <;> rfl
theorem prsG_add (row : Nat → List (Nat × Nat)) : ∀ m n p, prsG row (m + n) p = prsG row m p ++ prsG row n (p + m) := by
  intro m
  induction m with
  | zero => intro n p; rw [Nat.zero_add]; rfl
  | succ m ih =>
    intro n p
    rw [show m + 1 + n = m + n + 1 by omega]
    show row p ++ prsG row (m + n) (p + 1) = row p ++ prsG row m (p + 1) ++ prsG row n (p + (m + 1))
    rw [ih, List.append_assoc, show p + 1 + m = p + (m + 1) by omega]
theorem prsG_congr {P : Nat × Nat → Prop} {row row' : Nat → List (Nat × Nat)} : ∀ n p, (∀ q, p ≤ q → q < p + n → fstP P (row q) = fstP P (row' q)) → fstP P (prsG row n p) = fstP P (prsG row' n p) := by
  intro n
  induction n with
  | zero => intro p _; rfl
  | succ n ih =>
    intro p h
    show fstP P (row p ++ prsG row n (p + 1)) = fstP P (row' p ++ prsG row' n (p + 1))
    rw [fstP_app, fstP_app, h p (Nat.le_refl _) (by omega), ih (p + 1) (fun q h1 h2 => h q (by omega) (by omega))]
theorem prsG_none {P : Nat × Nat → Prop} {row : Nat → List (Nat × Nat)} : ∀ n p, (∀ q, p ≤ q → q < p + n → fstP P (row q) = none) → fstP P (prsG row n p) = none := by
  intro n
  induction n with
  | zero => intro p _; rfl
  | succ n ih =>
    intro p h
    show fstP P (row p ++ prsG row n (p + 1)) = none
    rw [fstP_skip (h p (Nat.le_refl _) (by omega))]
    exact ih (p + 1) (fun q h1 h2 => h q (by omega) (by omega))
theorem rowV_none {P : Nat × Nat → Prop} {p : Nat} (h : ∀ v, ¬ P (p, v)) : ∀ n v, fstP P (rowV p n v) = none := by
  intro n
  induction n with
  | zero => intro v; rfl
  | succ n ih =>
    intro v
    show fstP P ((p, v) :: rowV p n (v + 1)) = none
    rw [fstP_f (h v)]
    exact ih (v + 1)
def R1 : Nat → List (Nat × Nat) := fun p => rowV p 9 1
def enN (r : Nat) : Nat := if r = 0 then 81 else 27
theorem pairs_1 {X : Nat → Nat} {r : Nat} (hr : r < 4) : fstP (pP X r) (prsG R1 (enN r) 0) = fstP (pP X r) (pairsL r) := by
  rcases (show r = 0 ∨ r = 1 ∨ r = 2 ∨ r = 3 by omega) with rfl | rfl | rfl | rfl
  · rfl
  · rfl
  · show fstP (pP X 2) (prsG R1 (18 + 9) 0) = fstP (pP X 2) (prsG R1 9 18)
    rw [prsG_add, fstP_skip]
    refine prsG_none 18 0 (fun q h1 h2 => rowV_none (fun v z => ?_) 9 1)
    unfold pP at z
    rw [insN_f (fun y => by
      rcases y with y | y | y | y | y | y | y
      · exact absurd y.1 (by decide)
      · exact absurd y.1 (by decide)
      · have := y.2.1.1
        dsimp only at this
        omega
      · exact absurd y.1 (by decide)
      · exact absurd y.1 (by decide)
      · exact absurd y.1 (by decide)
      · exact absurd y.1 (by decide))] at z
    exact absurd z (Nat.lt_irrefl _)
  · show fstP (pP X 3) (prsG R1 (18 + 9) 0) = fstP (pP X 3) (prsG R1 18 0)
    rw [prsG_add, fstP_last]
    refine prsG_none 9 18 (fun q h1 h2 => rowV_none (fun v z => ?_) 9 1)
    unfold pP at z
    rw [insN_f (fun y => by
      rcases y with y | y | y | y | y | y | y
      · exact absurd y.1 (by decide)
      · exact absurd y.1 (by decide)
      · exact absurd y.1 (by decide)
      · have := y.2.1.2
        dsimp only at this
        omega
      · exact absurd y.1 (by decide)
      · exact absurd y.1 (by decide)
      · exact absurd y.1 (by decide))] at z
    exact absurd z (Nat.lt_irrefl _)
theorem cmb_ok : ∀ k : Fin 5, 2 ≤ k.val → (cmbF k.val 9 0).all (fun v => decide (pop9 v = k.val ∧ v < 512 ∧ v ≠ 0)) = true := by decide +kernel
theorem cmb_v {r v : Nat} (h : v ∈ cmbF (sizeN r) 9 0) : pop9 v = sizeN r ∧ v < 512 ∧ v ≠ 0 := by
  have hs : 2 ≤ sizeN r ∧ sizeN r ≤ 4 := by unfold sizeN; (repeat' split) <;> omega
  exact of_decide_eq_true (List.all_eq_true.1 (cmb_ok ⟨sizeN r, by omega⟩ hs.1) v h)
def R2 (r : Nat) : Nat → List (Nat × Nat) := fun p => mp p (cmbF (sizeN r) 9 0)
theorem row_no {X : Nat → Nat} {r p : Nat} (hr : 4 ≤ r ∧ r < 13) (hp : p < 27) (h : ¬ LdC r p) : fstP (pP X r) (R2 r p) = none := by
  unfold R2
  rw [fstP_mp, fstP_none (fun v hv z => ?_)]
  · rfl
  · unfold pP at z
    dsimp only at z
    rw [insN_f (fun y => h ((insC_sub hr hp (cmb_v hv).2.1).1 y).1)] at z
    exact absurd z (Nat.lt_irrefl _)
theorem row_yes {X : Nat → Nat} {r p : Nat} (hX : ∀ c, c < 81 → X c < 512) (hL : LdC r p) : fstP (pP X r) (R2 r p) = (fstP (Tch (mkN X r p) (sizeN r)) (cmbF (sizeN r) 9 0)).map (fun v => (p, v)) := by
  unfold R2
  rw [fstP_mp, fstP_congr (P := fun v => pP X r (p, v)) (P' := Tch (mkN X r p) (sizeN r)) (fun v hv => tch_ins hX hL (cmb_v hv).2.1 (cmb_v hv).1)]
theorem pairs_2 {X : Nat → Nat} {r : Nat} (hr : 4 ≤ r ∧ r < 13) : fstP (pP X r) (prsG (R2 r) 27 0) = fstP (pP X r) (pairsL r) := by
  obtain ⟨k1, k2, k3, k4, k5⟩ := kd_all ⟨r, hr.2⟩ hr.1
  dsimp only at k1 k2 k3 k4 k5
  unfold pairsL
  rw [if_neg (by omega)]
  by_cases hf : isFish r = true
  · have h8 : r = 8 ∨ 11 ≤ r := of_decide_eq_true hf
    have hno : ∀ p, p < 27 → (p = 0 ∨ (10 ≤ p ∧ p ≤ 16) ∨ p = 26) → fstP (pP X r) (R2 r p) = none := fun p hp h => row_no hr hp (fun z => by
      have h1 := z.2.2 (by omega)
      unfold dgN at h1
      by_cases hp16 : p < 16
      · rw [if_pos hp16] at h1
        omega
      · rw [if_neg hp16] at h1
        omega)
    rw [show hiP r = 25 from (if_neg (by omega)).trans ((if_neg (by omega)).trans (if_pos ⟨by omega, hf⟩)), show loP r = 1 from (if_neg (by omega)).trans (if_pos ⟨by omega, hf⟩)]
    show fstP (pP X r) (prsG (R2 r) (1 + (25 + 1)) 0) = fstP (pP X r) (prsG (rowS r) 25 1)
    rw [prsG_add, fstP_skip (prsG_none 1 0 (fun q h1 h2 => hno q (by omega) (by omega))), prsG_add, fstP_last (prsG_none 1 _ (fun q h1 h2 => hno q (by omega) (by omega)))]
    refine prsG_congr 25 (0 + 1) (fun q h1 h2 => ?_)
    by_cases hq : 10 ≤ q ∧ q ≤ 16
    · rw [hno q (by omega) (by omega), show rowS r q = [] from if_pos ⟨hf, hq⟩]
      rfl
    · rw [show rowS r q = R2 r q from if_neg (fun z => hq z.2)]
  · have h8 : ¬ (r = 8 ∨ 11 ≤ r) := fun z => hf (decide_eq_true z)
    rw [show hiP r = 26 from (if_neg (by omega)).trans ((if_neg (by omega)).trans (if_neg (fun z => hf z.2))), show loP r = 0 from (if_neg (by omega)).trans (if_neg (fun z => hf z.2))]
    exact prsG_congr 27 0 (fun q h1 h2 => by rw [show rowS r q = R2 r q from if_neg (fun z => hf z.1)])
theorem mf_27 {d : Nat} {G : GT} {M : MT} {b r : Nat} {X : Nat → Nat} (hC : ClsG G) (hb : IsBd b) (hS : ShpAt M) (hB : BdC M b X) (hT : TbAt M) (hH : GoAt M (fun _ => 0)) (hr : r < 4) : Wq (d + 5) k_X3_markFirst 27 [some (vR 21), some (vR b), some (vI (r : Int)), some (vI ((enN r : Nat) : Int)), some (vI 0), none, none] [] G M (fun z M' => ((∃ p v : Nat, fstP (pP X r) (pairsL r) = some (p, v) ∧ z = some (vI ((insN X (r : Int) (p : Int) (v : Int) : Nat) : Int)) ∧ 0 < insN X (r : Int) (p : Int) (v : Int) ∧ M' 21 3 = (p : Int) ∧ M' 21 4 = (v : Int) ∧ GoAt M' (insY X (r : Int) (p : Int) (v : Int))) ∨ (fstP (pP X r) (pairsL r) = none ∧ z = some (vI 0) ∧ GoAt M' (fun _ => 0))) ∧ ∀ a, a ≠ 19 → a ≠ 20 → a ≠ 21 → a ≠ 23 → M' a = M a) := by
  have hen : enN r ≤ 81 := by unfold enN; split <;> omega
  have hpa := pairs_1 (X := X) hr
  have L_27 : ∀ (f p : Nat) (M2 : MT) (y5 : Option AV) (y6 : Option AV), enN r - p < f → p ≤ enN r → (GoAt M2 (fun _ => 0)) → (∀ a, a ≠ 19 → a ≠ 20 → a ≠ 21 → a ≠ 23 → M2 a = M a) → (fstP (pP X r) (prsG R1 (enN r) 0) = fstP (pP X r) (prsG R1 (enN r - p) p)) → Wq (d + 5) k_X3_markFirst 27 [some (vR 21), some (vR b), some (vI ((r : Nat) : Int)), some (vI ((enN r : Nat) : Int)), some (vI ((p : Nat) : Int)), y5, y6] [] G M2 (fun z M' => ((∃ p v : Nat, fstP (pP X r) (pairsL r) = some (p, v) ∧ z = some (vI ((insN X (r : Int) (p : Int) (v : Int) : Nat) : Int)) ∧ 0 < insN X (r : Int) (p : Int) (v : Int) ∧ M' 21 3 = (p : Int) ∧ M' 21 4 = (v : Int) ∧ GoAt M' (insY X (r : Int) (p : Int) (v : Int))) ∨ (fstP (pP X r) (pairsL r) = none ∧ z = some (vI 0) ∧ GoAt M' (fun _ => 0))) ∧ ∀ a, a ≠ 19 → a ≠ 20 → a ≠ 21 → a ≠ 23 → M' a = M a) := by
    intro f
    induction f with
    | zero => intro p M2 y5 y6 h; exact absurd h (by omega)
    | succ f ih_p =>
      intro p M2 y5 y6 hf_p hk_p a1 a2 hE
      refine wq_s 29 rfl ?_
      refine wq_s 30 rfl ?_
      refine wq_icmp 87 rfl rfl (by omega) (by omega) (fun c_30 => ?_) (fun c_30 => ?_)
      · have c_30 := of_decide_eq_true c_30
        refine wq_s 88 rfl ?_
        exact wq_ret rfl ⟨Or.inr ⟨(by rw [← hpa, hE, show enN r - p = 0 by omega]; rfl), rfl, a1⟩, a2⟩
      · have c_30 := of_decide_eq_false c_30
        have L_36 : ∀ (f2 v : Nat) (M2 : MT) (y6 : Option AV), 10 - v < f2 → v ≤ 10 → (1 ≤ v) → (GoAt M2 (fun _ => 0)) → (∀ a, a ≠ 19 → a ≠ 20 → a ≠ 21 → a ≠ 23 → M2 a = M a) → (fstP (pP X r) (prsG R1 (enN r) 0) = fstP (pP X r) (rowV p (10 - v) v ++ prsG R1 (enN r - (p + 1)) (p + 1))) → Wq (d + 5) k_X3_markFirst 36 [some (vR 21), some (vR b), some (vI ((r : Nat) : Int)), some (vI ((enN r : Nat) : Int)), some (vI ((p : Nat) : Int)), some (vI ((v : Nat) : Int)), y6] [] G M2 (fun z M' => ((∃ p v : Nat, fstP (pP X r) (pairsL r) = some (p, v) ∧ z = some (vI ((insN X (r : Int) (p : Int) (v : Int) : Nat) : Int)) ∧ 0 < insN X (r : Int) (p : Int) (v : Int) ∧ M' 21 3 = (p : Int) ∧ M' 21 4 = (v : Int) ∧ GoAt M' (insY X (r : Int) (p : Int) (v : Int))) ∨ (fstP (pP X r) (pairsL r) = none ∧ z = some (vI 0) ∧ GoAt M' (fun _ => 0))) ∧ ∀ a, a ≠ 19 → a ≠ 20 → a ≠ 21 → a ≠ 23 → M' a = M a) := by
          intro f2
          induction f2 with
          | zero => intro v M2 y6 h; exact absurd h (by omega)
          | succ f2 ih_v =>
            intro v M2 y6 hf_v hk_v hv1 a1 a2 hE
            refine wq_s 38 rfl ?_
            refine wq_s 40 rfl ?_
            refine wq_icmp 81 rfl rfl (by omega) (by omega) (fun c_40 => ?_) (fun c_40 => ?_)
            · have c_40 := of_decide_eq_true c_40
              have e9 : v = 10 := by omega
              subst e9
              refine we_inc 4 1 ((p + 1 : Nat) : Int) 84 _ rfl rfl rfl (by omega) (by omega) rfl ?_
              refine wq_s 27 rfl ?_
              refine ih_p (p + 1) _ _ _ (by omega) (by omega) a1 a2 ?_
              rw [hE]
              rfl
            · have c_40 := of_decide_eq_false c_40
              refine wq_s 44 rfl ?_
              refine wq_s 45 rfl ?_
              refine wq_s 46 rfl ?_
              refine wq_s 48 rfl ?_
              refine wq_s 50 rfl ?_
              have hle := insN_le X (r : Int) (p : Int) (v : Int)
              refine wq_vt4 53 rfl rfl (Nat.le_of_ble_eq_true rfl) (hC.lt (by omega)) (hC.ty 17 _ rfl) rfl (Nat.le_of_ble_eq_true rfl) (c_X3_mark (r := (r : Int)) (p := (p : Int)) (v := (v : Int)) hC hb (hS.fr (a2 _ (by decide) (by decide) (by decide) (by decide)) (a2 _ (by decide) (by decide) (by decide) (by decide)) (a2 _ (by decide) (by decide) (by decide) (by decide)) (a2 _ (by decide) (by decide) (by decide) (by decide))) (hB.fr (a2 _ (by omega) (by omega) (by omega) (by omega)) (a2 _ (by omega) (by omega) (by omega) (by omega))) (hT.fr (a2 _ (by decide) (by decide) (by decide) (by decide)) (a2 _ (by decide) (by decide) (by decide) (by decide)) (a2 _ (by decide) (by decide) (by decide) (by decide))) a1 (by omega) (by omega) (by omega)) (fun z M3 hz => ?_)
              obtain ⟨rfl, hG3, hF3⟩ := hz
              dsimp only [Option.toList, List.cons_append, List.nil_append]
              refine wq_s 55 rfl ?_
              refine wq_s 57 rfl ?_
              refine wq_if 75 rfl rfl (by omega) (fun c_57 => ?_) (fun c_57 => ?_)
              · have c_57 := of_decide_eq_true c_57
                refine we_inc 5 1 ((v + 1 : Nat) : Int) 78 _ rfl rfl rfl (by omega) (by omega) rfl ?_
                refine wq_s 36 rfl ?_
                refine ih_v (v + 1) _ _ (by omega) (by omega) (by omega) (hG3.z (show insN X (r : Int) (p : Int) (v : Int) = 0 by omega)) (fun a h1 h2 h3 h4 => (hF3 a h1 h2 h4).trans (a2 a h1 h2 h3 h4)) ?_
                rw [hE, show 10 - v = 10 - (v + 1) + 1 by omega]
                exact fstP_f (P := pP X r) (x := (p, v)) (fun z => by unfold pP at z; dsimp only at z; omega)
              · have c_57 := of_decide_eq_false c_57
                refine wq_s 61 rfl ?_
                refine wq_s 63 rfl ?_
                refine wq_putE 3 66 rfl rfl (hC.lt (by omega)) (hC.ty 17 _ rfl) rfl (by decide) (Or.inl rfl) rfl ?_
                refine wq_s 67 rfl ?_
                refine wq_s 69 rfl ?_
                refine wq_putE 4 72 rfl rfl (hC.lt (by omega)) (hC.ty 17 _ rfl) rfl (by decide) (Or.inl rfl) rfl ?_
                refine wq_s 74 rfl ?_
                exact wq_ret rfl ⟨Or.inl ⟨p, v, (by
                    rw [← hpa, hE, show 10 - v = 9 - v + 1 by omega]
                    exact fstP_t (P := pP X r) (x := (p, v)) (show 0 < insN X (r : Int) (p : Int) (v : Int) by omega)), rfl, by omega, (by rw [up2_ne (Or.inr (by decide)), up2_at]), up2_at, hG3.fr ((up2_row (by decide)).trans (up2_row (by decide))) ((up2_row (by decide)).trans (up2_row (by decide)))⟩, fun a h1 h2 h3 h4 => by rw [up2_row h3, up2_row h3, hF3 a h1 h2 h4]; exact a2 a h1 h2 h3 h4⟩
        refine wq_s 34 rfl ?_
        refine wq_s 36 rfl ?_
        refine L_36 10 1 _ _ (by omega) (by omega) (by omega) a1 a2 ?_
        rw [hE, show enN r - p = enN r - (p + 1) + 1 by omega]
        rfl
  exact L_27 (enN r + 1) 0 M _ _ (by omega) (by omega) hH (fun _ _ _ _ _ => rfl) (by rw [Nat.sub_zero])
theorem c_mfSub {d : Nat} {G : GT} {M : MT} {b r : Nat} {X : Nat → Nat} (hC : ClsG G) (hb : IsBd b) (hS : ShpAt M) (hB : BdC M b X) (hT : TbAt M) (hH : GoAt M (fun _ => 0)) (hX : ∀ c, c < 81 → X c < 512) (hr : 4 ≤ r ∧ r < 13) : Mq (d + 7) k_X3_markFirstSubset [vR 21, vR b, vI (r : Int)] G M (fun z M' => ((∃ p v : Nat, fstP (pP X r) (pairsL r) = some (p, v) ∧ z = some (vI ((insN X (r : Int) (p : Int) (v : Int) : Nat) : Int)) ∧ 0 < insN X (r : Int) (p : Int) (v : Int) ∧ M' 21 3 = (p : Int) ∧ M' 21 4 = (v : Int) ∧ GoAt M' (insY X (r : Int) (p : Int) (v : Int))) ∨ (fstP (pP X r) (pairsL r) = none ∧ z = some (vI 0) ∧ GoAt M' (fun _ => 0))) ∧ ∀ a, a ≠ 19 → a ≠ 20 → a ≠ 21 → a ≠ 23 → M' a = M a) := by
  have hpa := pairs_2 (X := X) hr
  have L_2 : ∀ (f p : Nat) (M2 : MT) (y4 : Option AV), 27 - p < f → p ≤ 27 → (GoAt M2 (fun _ => 0)) → (∀ a, a ≠ 19 → a ≠ 20 → a ≠ 21 → a ≠ 23 → M2 a = M a) → (fstP (pP X r) (prsG (R2 r) 27 0) = fstP (pP X r) (prsG (R2 r) (27 - p) p)) → Wq (d + 7) k_X3_markFirstSubset 2 [some (vR 21), some (vR b), some (vI ((r : Nat) : Int)), some (vI ((p : Nat) : Int)), y4] [] G M2 (fun z M' => ((∃ p v : Nat, fstP (pP X r) (pairsL r) = some (p, v) ∧ z = some (vI ((insN X (r : Int) (p : Int) (v : Int) : Nat) : Int)) ∧ 0 < insN X (r : Int) (p : Int) (v : Int) ∧ M' 21 3 = (p : Int) ∧ M' 21 4 = (v : Int) ∧ GoAt M' (insY X (r : Int) (p : Int) (v : Int))) ∨ (fstP (pP X r) (pairsL r) = none ∧ z = some (vI 0) ∧ GoAt M' (fun _ => 0))) ∧ ∀ a, a ≠ 19 → a ≠ 20 → a ≠ 21 → a ≠ 23 → M' a = M a) := by
    intro f
    induction f with
    | zero => intro p M2 y4 h; exact absurd h (by omega)
    | succ f ih_p =>
      intro p M2 y4 hf_p hk_p a1 a2 hE
      refine wq_s 3 rfl ?_
      refine wq_s 5 rfl ?_
      refine wq_icmp 55 rfl rfl (by omega) (by omega) (fun c_5 => ?_) (fun c_5 => ?_)
      · have c_5 := of_decide_eq_true c_5
        refine wq_s 56 rfl ?_
        exact wq_ret rfl ⟨Or.inr ⟨(by rw [← hpa, hE, show 27 - p = 0 by omega]; rfl), rfl, a1⟩, a2⟩
      · have c_5 := of_decide_eq_false c_5
        refine wq_s 9 rfl ?_
        refine wq_getR 12 rfl rfl (hC.lt (by omega)) (hC.ty 17 _ rfl) rfl ?_
        refine wq_s 13 rfl ?_
        refine wq_s 14 rfl ?_
        refine wq_s 15 rfl ?_
        refine wq_vt3 18 rfl rfl (Nat.le_of_ble_eq_true rfl) (hC.lt (by omega)) (hC.ty 18 _ rfl) rfl (Nat.le_of_ble_eq_true rfl) (c_first (r := r) (p := p) hC hb (hS.fr (a2 _ (by decide) (by decide) (by decide) (by decide)) (a2 _ (by decide) (by decide) (by decide) (by decide)) (a2 _ (by decide) (by decide) (by decide) (by decide)) (a2 _ (by decide) (by decide) (by decide) (by decide))) (hB.fr (a2 _ (by omega) (by omega) (by omega) (by omega)) (a2 _ (by omega) (by omega) (by omega) (by omega))) (hT.fr (a2 _ (by decide) (by decide) (by decide) (by decide)) (a2 _ (by decide) (by decide) (by decide) (by decide)) (a2 _ (by decide) (by decide) (by decide) (by decide))) hr (by omega)) (fun z M3 hz => ?_)
        obtain ⟨hz, hF3⟩ := hz
        have a23 : ∀ a, a ≠ 19 → a ≠ 20 → a ≠ 21 → a ≠ 23 → M3 a = M a := fun a h1 h2 h3 h4 => (hF3 a h4).trans (a2 a h1 h2 h3 h4)
        have a13 : GoAt M3 (fun _ => 0) := a1.fr (hF3 _ (by decide)) (hF3 _ (by decide))
        have hsN : fstP (pP X r) (R2 r p) = none → fstP (pP X r) (prsG (R2 r) (27 - p) p) = fstP (pP X r) (prsG (R2 r) (27 - (p + 1)) (p + 1)) := fun h => by
          rw [show 27 - p = 27 - (p + 1) + 1 by omega]
          exact fstP_skip h
        have hsS : ∀ y, fstP (pP X r) (R2 r p) = some y → fstP (pP X r) (prsG (R2 r) (27 - p) p) = some y := fun y h => by
          rw [show 27 - p = 27 - (p + 1) + 1 by omega]
          exact fstP_fst h
        rcases hz with ⟨hL, rfl, hM⟩ | ⟨hL, rfl⟩
        · dsimp only [Option.toList, List.cons_append, List.nil_append]
          have hry := row_yes hX hL
          have hpk : pkF (mkN X r p) (sizeN r) (sizeN r) 9 0 = (fstP (Tch (mkN X r p) (sizeN r)) (cmbF (sizeN r) 9 0)).getD 0 := rfl
          have hpl := pkF_lt (mk := mkN X r p) (z := sizeN r) (sizeN r) 9 0 (by decide) (Nat.le_refl _)
          cases hfp : fstP (Tch (mkN X r p) (sizeN r)) (cmbF (sizeN r) 9 0) with
          | none =>
            rw [hfp] at hpk hry
            have hpk : pkF (mkN X r p) (sizeN r) (sizeN r) 9 0 = 0 := hpk
            rw [hpk]
            refine wq_s 20 rfl ?_
            refine wq_s 22 rfl ?_
            refine wq_s 49 rfl ?_
            refine we_inc 3 1 ((p + 1 : Nat) : Int) 52 _ rfl rfl rfl (by omega) (by omega) rfl ?_
            refine wq_s 2 rfl ?_
            exact ih_p (p + 1) _ _ (by omega) (by omega) a13 a23 (hE.trans (hsN hry))
          | some v =>
            rw [hfp] at hpk hry
            have hpk : pkF (mkN X r p) (sizeN r) (sizeN r) 9 0 = v := hpk
            have hv := cmb_v (fstP_some hfp).1
            have hpos := (tch_ins hX hL hv.2.1 hv.1).2 (fstP_some hfp).2
            have hle := insN_le X (r : Int) (p : Int) (v : Int)
            rw [hpk]
            have hfin : fstP (pP X r) (pairsL r) = some (p, v) := by rw [← hpa, hE]; exact hsS _ hry
            refine wq_s 20 rfl ?_
            refine wq_s 22 rfl ?_
            refine wq_if 49 rfl rfl (by omega) (fun c_22 => absurd (of_decide_eq_true c_22) (by omega)) (fun _ => ?_)
            refine wq_s 26 rfl ?_
            refine wq_s 27 rfl ?_
            refine wq_putE 3 30 rfl rfl (hC.lt (by omega)) (hC.ty 17 _ rfl) rfl (by decide) (Or.inl rfl) rfl ?_
            refine wq_s 31 rfl ?_
            refine wq_s 33 rfl ?_
            refine wq_putE 4 36 rfl rfl (hC.lt (by omega)) (hC.ty 17 _ rfl) rfl (by decide) (Or.inl rfl) rfl ?_
            have a24 : ∀ a, a ≠ 19 → a ≠ 20 → a ≠ 21 → a ≠ 23 → up2 (up2 M3 21 3 ((p : Nat) : Int)) 21 4 ((v : Nat) : Int) a = M a := fun a h1 h2 h3 h4 => by rw [up2_row h3, up2_row h3]; exact a23 a h1 h2 h3 h4
            refine wq_s 37 rfl ?_
            refine wq_getR 40 rfl rfl (hC.lt (by omega)) (hC.ty 17 _ rfl) rfl ?_
            refine wq_s 41 rfl ?_
            refine wq_s 42 rfl ?_
            refine wq_s 43 rfl ?_
            refine wq_s 45 rfl ?_
            refine wq_vt4 48 rfl rfl (Nat.le_of_ble_eq_true rfl) (hC.lt (by omega)) (hC.ty 18 _ rfl) rfl (Nat.le_of_ble_eq_true rfl) (c_X6_mark (r := (r : Int)) (p := (p : Int)) (v := (v : Int)) hC hb (hS.fr (a24 _ (by decide) (by decide) (by decide) (by decide)) (a24 _ (by decide) (by decide) (by decide) (by decide)) (a24 _ (by decide) (by decide) (by decide) (by decide)) (a24 _ (by decide) (by decide) (by decide) (by decide))) (hB.fr (a24 _ (by omega) (by omega) (by omega) (by omega)) (a24 _ (by omega) (by omega) (by omega) (by omega))) (hT.fr (a24 _ (by decide) (by decide) (by decide) (by decide)) (a24 _ (by decide) (by decide) (by decide) (by decide)) (a24 _ (by decide) (by decide) (by decide) (by decide))) (a13.fr ((up2_row (by decide)).trans (up2_row (by decide))) ((up2_row (by decide)).trans (up2_row (by decide)))) (by omega) (by omega) (by omega) (by omega)) (fun z M5 hz => ?_)
            obtain ⟨rfl, hG5, hF5⟩ := hz
            dsimp only [Option.toList, List.cons_append, List.nil_append]
            exact wq_ret rfl ⟨Or.inl ⟨p, v, hfin, rfl, hpos, (by rw [hF5 21 (by decide) (by decide) (by decide), up2_ne (Or.inr (by decide)), up2_at]), (by rw [hF5 21 (by decide) (by decide) (by decide), up2_at]), hG5⟩, fun a h1 h2 h3 h4 => (hF5 a h1 h2 h4).trans (a24 a h1 h2 h3 h4)⟩
        · dsimp only [Option.toList, List.cons_append, List.nil_append]
          refine wq_s 20 rfl ?_
          refine wq_s 22 rfl ?_
          refine wq_s 49 rfl ?_
          refine we_inc 3 1 ((p + 1 : Nat) : Int) 52 _ rfl rfl rfl (by omega) (by omega) rfl ?_
          refine wq_s 2 rfl ?_
          exact ih_p (p + 1) _ _ (by omega) (by omega) a13 a23 (hE.trans (hsN (row_no hr (by omega) hL)))
  refine wq_s 1 rfl ?_
  refine wq_s 2 rfl ?_
  exact L_2 28 0 M _ (by omega) (by omega) hH (fun _ _ _ _ _ => rfl) (by rw [Nat.sub_zero])
theorem c_markFirst {d : Nat} {G : GT} {M : MT} {b r : Nat} {X : Nat → Nat} (hC : ClsG G) (hb : IsBd b) (hS : ShpAt M) (hB : BdC M b X) (hT : TbAt M) (hH : GoAt M (fun _ => 0)) (hX : ∀ c, c < 81 → X c < 512) (hr : r < 13) : Mq (d + 8) k_X3_markFirst [vR 21, vR b, vI (r : Int)] G M (fun z M' => ((∃ p v : Nat, fstP (pP X r) (pairsL r) = some (p, v) ∧ z = some (vI ((insN X (r : Int) (p : Int) (v : Int) : Nat) : Int)) ∧ 0 < insN X (r : Int) (p : Int) (v : Int) ∧ M' 21 3 = (p : Int) ∧ M' 21 4 = (v : Int) ∧ GoAt M' (insY X (r : Int) (p : Int) (v : Int))) ∨ (fstP (pP X r) (pairsL r) = none ∧ z = some (vI 0) ∧ GoAt M' (fun _ => 0))) ∧ ∀ a, a ≠ 19 → a ≠ 20 → a ≠ 21 → a ≠ 23 → M' a = M a) := by
  refine wq_s 1 rfl ?_
  refine wq_s 2 rfl ?_
  refine wq_icmp 12 rfl rfl (by omega) (by omega) (fun c_2 => ?_) (fun c_2 => ?_)
  · have c_2 := of_decide_eq_true c_2
    refine wq_s 13 rfl ?_
    refine wq_if 21 rfl rfl (by omega) (fun c_13 => ?_) (fun c_13 => ?_)
    · have c_13 := of_decide_eq_true c_13
      refine wq_s 23 rfl ?_
      refine wq_s 24 rfl ?_
      refine wq_s 25 rfl ?_
      refine wq_s 27 rfl ?_
      have h9 := mf_27 (d := d + 3) (X := X) hC hb hS hB hT hH (r := r) (by omega)
      rw [show enN r = 27 from if_neg (by omega)] at h9
      exact h9
    · have c_13 := of_decide_eq_false c_13
      refine wq_s 18 rfl ?_
      refine wq_s 23 rfl ?_
      refine wq_s 24 rfl ?_
      refine wq_s 25 rfl ?_
      refine wq_s 27 rfl ?_
      have h9 := mf_27 (d := d + 3) (X := X) hC hb hS hB hT hH (r := r) (by omega)
      rw [show enN r = 81 from if_pos (by omega)] at h9
      exact h9
  · have c_2 := of_decide_eq_false c_2
    refine wq_s 6 rfl ?_
    refine wq_s 7 rfl ?_
    refine wq_s 8 rfl ?_
    refine wq_vt2 11 rfl rfl (Nat.le_of_ble_eq_true rfl) (hC.lt (by omega)) (hC.ty 17 _ rfl) rfl (Nat.le_of_ble_eq_true rfl) (c_mfSub hC hb hS hB hT hH hX (by omega)) (fun z M3 hz => ?_)
    obtain ⟨hz, hF3⟩ := hz
    rcases hz with ⟨p, v, g1, rfl, g3⟩ | ⟨g1, rfl, g3⟩
    · dsimp only [Option.toList, List.cons_append, List.nil_append]
      exact wq_ret rfl ⟨Or.inl ⟨p, v, g1, rfl, g3⟩, hF3⟩
    · dsimp only [Option.toList, List.cons_append, List.nil_append]
      exact wq_ret rfl ⟨Or.inr ⟨g1, rfl, g3⟩, hF3⟩
