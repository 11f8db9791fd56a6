/-! subsets: the class's masks are the reference's -/
theorem sizeF_N : ∀ r : Fin 13, 4 ≤ r.val → sizeF ((r.val : Nat) : Int) = ((sizeN r.val : Nat) : Int) := by decide +kernel
theorem bit_cases (v k : Nat) : (bitB v k = true ∧ v / 2 ^ k % 2 = 1) ∨ (¬ bitB v k = true ∧ ¬ v / 2 ^ k % 2 = 1) := by
  by_cases h : v / 2 ^ k % 2 = 1
  · exact Or.inl ⟨decide_eq_true h, h⟩
  · exact Or.inr ⟨fun z => h (of_decide_eq_true z), h⟩
theorem unN_u {X : Nat → Nat} {r p v : Nat} (hk : kdN r = 1) : ∀ k, unN X (p : Int) v k = uN (mkN X r p) v k := by
  intro k
  induction k with
  | zero => rfl
  | succ k ih =>
    have hm : mkN X r p k = X (cellF (p : Int) (k : Int)).toNat := if_pos hk
    show (if bitB v k = true then unN X (p : Int) v k ||| X (cellF (p : Int) (k : Int)).toNat else unN X (p : Int) v k) = (if v / 2 ^ k % 2 = 1 then uN (mkN X r p) v k ||| mkN X r p k else uN (mkN X r p) v k)
    rcases bit_cases v k with ⟨h1, h2⟩ | ⟨h1, h2⟩
    · rw [if_pos h1, if_pos h2, ih, hm]
    · rw [if_neg h1, if_neg h2, ih]
theorem bl_ok {p : Nat} (hp : p < 27) (h : 1 ≤ dgN p ∧ dgN p ≤ 9) : (∀ k : Nat, fof (p : Int) + (k : Int) = ((blN p k : Nat) : Int)) ∧ fdg (p : Int) = ((dgN p : Nat) : Int) := by
  unfold dgN at h
  unfold fof fdg blN dgN
  by_cases h1 : p < 16
  · rw [if_pos h1, if_neg (show ¬ (16 : Int) < p by omega), if_neg (show ¬ (16 : Int) < p by omega)]
    refine ⟨fun k => ?_, rfl⟩
    rw [if_pos h1]
    omega
  · rw [if_neg h1] at h ⊢
    rw [if_pos (show (16 : Int) < p by omega), if_pos (show (16 : Int) < p by omega)]
    refine ⟨fun k => ?_, by omega⟩
    rw [if_neg h1]
    omega
theorem dg_fdg {p : Nat} (hp : p < 27) : (1 ≤ fdg (p : Int) ∧ fdg (p : Int) ≤ 9) ↔ (1 ≤ dgN p ∧ dgN p ≤ 9) := by
  unfold fdg dgN
  (repeat' split) <;> omega
theorem acN_u {X : Nat → Nat} {r p v : Nat} (hp : p < 27) (hk : kdN r = 3) (h : 1 ≤ dgN p ∧ dgN p ≤ 9) : ∀ k, acN X (fof (p : Int)) (fdg (p : Int) - 1).toNat v k = uN (mkN X r p) v k := by
  obtain ⟨b1, b2⟩ := bl_ok hp h
  intro k
  induction k with
  | zero => rfl
  | succ k ih =>
    have hm : mkN X r p k = plN X (fof (p : Int) + (k : Int)) (fdg (p : Int) - 1).toNat 9 := by
      rw [b1 k, b2, show ((((dgN p : Nat) : Int)) - 1).toNat = dgN p - 1 by omega]
      exact (if_neg (by omega)).trans (if_neg (by omega))
    show (if bitB v k = true then acN X (fof (p : Int)) (fdg (p : Int) - 1).toNat v k ||| plN X (fof (p : Int) + (k : Int)) (fdg (p : Int) - 1).toNat 9 else acN X (fof (p : Int)) (fdg (p : Int) - 1).toNat v k) = (if v / 2 ^ k % 2 = 1 then uN (mkN X r p) v k ||| mkN X r p k else uN (mkN X r p) v k)
    rcases bit_cases v k with ⟨h1, h2⟩ | ⟨h1, h2⟩
    · rw [if_pos h1, if_pos h2, ih, hm]
    · rw [if_neg h1, if_neg h2, ih]
theorem hit_tb {X : Nat → Nat} {p v j : Nat} (hv : v < 512) : hitB X (p : Int) v j = true ↔ ∃ i, i < 9 ∧ v.testBit i = true ∧ (X (ceN p j)).testBit i = true := by
  unfold hitB
  rw [decide_eq_true_iff]
  constructor
  · intro h
    obtain ⟨i, hi⟩ := nz_tb h
    rw [Nat.testBit_and, Bool.and_eq_true] at hi
    exact ⟨i, tb_lt9 hv hi.2, hi.2, hi.1⟩
  · rintro ⟨i, h1, h2, h3⟩ z
    have h4 : (X (ceN p j) &&& v).testBit i = true := by rw [Nat.testBit_and, h2, h3]; rfl
    have z : X (ceN p j) &&& v = 0 := z
    rw [z, Nat.zero_testBit] at h4
    cases h4
theorem hid_u {X : Nat → Nat} {r p v j : Nat} (hk : kdN r = 2) (hv : v < 512) : (uN (mkN X r p) v 9).testBit j = true ↔ (j < 9 ∧ hitB X (p : Int) v j = true) := by
  rw [uN_tb, hit_tb hv]
  have hm : ∀ i, mkN X r p i = plH X p i := fun i => (if_neg (by omega)).trans (if_pos hk)
  constructor
  · rintro ⟨i, h1, h2, h3⟩
    rw [hm i, plH_tb] at h3
    exact ⟨h3.1, i, h1, h2, h3.2⟩
  · rintro ⟨h0, i, h1, h2, h3⟩
    refine ⟨i, h1, h2, ?_⟩
    rw [hm i, plH_tb]
    exact ⟨h0, h3⟩
theorem cn_sum {X : Nat → Nat} {p : Int} {v : Nat} : ∀ k, cnN X p v k = sumN (fun j => if hitB X p v j = true then 1 else 0) k := by
  intro k
  induction k with
  | zero => rfl
  | succ k ih =>
    show (if hitB X p v k = true then cnN X p v k + 1 else cnN X p v k) = _
    rw [sumN_succ, ← ih]
    by_cases h : hitB X p v k = true
    · rw [if_pos h, if_pos h]
    · rw [if_neg h, if_neg h, Nat.add_zero]
theorem pop_sum (u : Nat) : pop9 u = sumN (fun j => u / 2 ^ j % 2) 9 := by
  have h : ∀ k e, popc k (u / 2 ^ e) + sumN (fun j => u / 2 ^ j % 2) e = sumN (fun j => u / 2 ^ j % 2) (e + k) := by
    intro k
    induction k with
    | zero => intro e; exact Nat.zero_add _
    | succ k ih =>
      intro e
      have h1 := ih (e + 1)
      rw [sumN_succ] at h1
      rw [popc_s, show e + (k + 1) = e + 1 + k by omega, ← h1]
      generalize popc k (u / 2 ^ (e + 1)) = a
      generalize sumN (fun j => u / 2 ^ j % 2) e = b
      generalize u / 2 ^ e % 2 = c
      omega
  have h2 := h 9 0
  rw [Nat.pow_zero, Nat.div_one] at h2
  exact h2
theorem cn_pop {X : Nat → Nat} {r p v : Nat} (hk : kdN r = 2) (hv : v < 512) : cnN X (p : Int) v 9 = pop9 (uN (mkN X r p) v 9) := by
  rw [cn_sum, pop_sum]
  refine sumN_ext 9 (fun j hj => ?_)
  have h1 := hid_u (X := X) (p := p) (j := j) hk hv
  rw [tb_div] at h1
  by_cases h : hitB X (p : Int) v j = true
  · rw [if_pos h, h1.2 ⟨hj, h⟩]
  · rw [if_neg h]
    have h2 : ¬ uN (mkN X r p) v 9 / 2 ^ j % 2 = 1 := fun z => h (h1.1 z).2
    generalize uN (mkN X r p) v 9 / 2 ^ j = y at h2
    omega
theorem insC_sub {X : Nat → Nat} {r p v : Nat} (hr : 4 ≤ r ∧ r < 13) (hp : p < 27) (hv : v < 512) : insC X (r : Int) (p : Int) (v : Int) ↔ (LdC r p ∧ pop9 v = sizeN r ∧ pop9 (uN (mkN X r p) v 9) = sizeN r) := by
  obtain ⟨k1, k2, k3, k4, k5⟩ := kd_all ⟨r, hr.2⟩ hr.1
  have hs := sizeF_N ⟨r, hr.2⟩ hr.1
  dsimp only at k1 k2 k3 k4 k5 hs
  rcases (show kdN r = 1 ∨ kdN r = 2 ∨ kdN r = 3 by omega) with hk | hk | hk
  · have hC : insC X (r : Int) (p : Int) (v : Int) ↔ nakC X (p : Int) (v : Int) (sizeF (r : Int)) := by
      constructor
      · intro z
        rcases z with z | z | z | z | z | z | z
        · exact absurd z.1 (by omega)
        · exact absurd z.1 (by omega)
        · exact absurd z.1 (by omega)
        · exact absurd z.1 (by omega)
        · exact z.2
        · exact absurd z.1 (by omega)
        · exact absurd z.1 (by omega)
      · intro z
        exact Or.inr (Or.inr (Or.inr (Or.inr (Or.inl ⟨by omega, z⟩))))
    rw [hC, hs]
    unfold nakC
    rw [Int.toNat_natCast, unN_u hk]
    constructor
    · rintro ⟨h1, h2, h3, h4⟩
      exact ⟨⟨hr, hp, fun z => absurd z (by omega)⟩, by omega, by omega⟩
    · rintro ⟨h1, h2, h3⟩
      exact ⟨⟨by omega, by omega⟩, ⟨by omega, by omega⟩, by omega, by omega⟩
  · have hC : insC X (r : Int) (p : Int) (v : Int) ↔ hidC X (p : Int) (v : Int) (sizeF (r : Int)) := by
      constructor
      · intro z
        rcases z with z | z | z | z | z | z | z
        · exact absurd z.1 (by omega)
        · exact absurd z.1 (by omega)
        · exact absurd z.1 (by omega)
        · exact absurd z.1 (by omega)
        · exact absurd z.1 (by omega)
        · exact z.2
        · exact absurd z.1 (by omega)
      · intro z
        exact Or.inr (Or.inr (Or.inr (Or.inr (Or.inr (Or.inl ⟨by omega, z⟩)))))
    rw [hC, hs]
    unfold hidC
    rw [Int.toNat_natCast, cn_pop hk hv]
    constructor
    · rintro ⟨h1, h2, h3, h4⟩
      exact ⟨⟨hr, hp, fun z => absurd z (by omega)⟩, by omega, by omega⟩
    · rintro ⟨h1, h2, h3⟩
      exact ⟨⟨by omega, by omega⟩, ⟨by omega, by omega⟩, by omega, by omega⟩
  · have hC : insC X (r : Int) (p : Int) (v : Int) ↔ fshC X (fof (p : Int)) (fdg (p : Int)) (v : Int) (sizeF (r : Int)) := by
      constructor
      · intro z
        rcases z with z | z | z | z | z | z | z
        · exact absurd z.1 (by omega)
        · exact absurd z.1 (by omega)
        · exact absurd z.1 (by omega)
        · exact absurd z.1 (by omega)
        · exact absurd z.1 (by omega)
        · exact absurd z.1 (by omega)
        · exact z.2
      · intro z
        exact Or.inr (Or.inr (Or.inr (Or.inr (Or.inr (Or.inr ⟨by omega, z⟩)))))
    rw [hC, hs]
    unfold fshC
    rw [Int.toNat_natCast, dg_fdg hp]
    constructor
    · rintro ⟨h1, h2, h3, h4⟩
      rw [acN_u hp hk h1] at h4
      exact ⟨⟨hr, hp, fun _ => h1⟩, by omega, by omega⟩
    · rintro ⟨h1, h2, h3⟩
      have h9 := h1.2.2 hk
      rw [acN_u hp hk h9]
      exact ⟨h9, ⟨by omega, by omega⟩, by omega, by omega⟩
