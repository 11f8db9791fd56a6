/-! an instance of a rule: what goes -/
noncomputable def cI {α : Type} (p : Prop) (x y : α) : α := @ite α p (Classical.propDecidable p) x y
theorem cI_t {α : Type} {p : Prop} {x y : α} (h : p) : cI p x y = x := if_pos h
theorem cI_f {α : Type} {p : Prop} {x y : α} (h : ¬ p) : cI p x y = y := if_neg h
abbrev Okm (Y : Int → Int) : Prop := ∀ i : Int, 0 ≤ i → i < 81 → 0 ≤ Y i ∧ Y i < 512
theorem nat512 {n : Nat} (h : n < 512) : 0 ≤ (n : Int) ∧ (n : Int) < 512 := ⟨Int.natCast_nonneg _, Int.ofNat_lt.2 h⟩
theorem gsF_ok {h : Int} {c : Nat → Bool} {v : Int} {Y : Int → Int} (hv : 0 ≤ v ∧ v < 512) (hY : Okm Y) : ∀ k, Okm (gsF h c v Y k) := by
  intro k
  induction k with
  | zero => exact hY
  | succ k ih =>
    intro i h0 h1
    unfold gsF
    split
    · unfold upI
      split
      · exact hv
      · exact ih i h0 h1
    · exact ih i h0 h1
theorem gsF_ext {h : Int} {c : Nat → Bool} {v : Int} {Y Y' : Int → Int} {i : Int} (hY : Y i = Y' i) : ∀ k, gsF h c v Y k i = gsF h c v Y' k i := by
  intro k
  induction k with
  | zero => exact hY
  | succ k ih =>
    unfold gsF
    split
    · unfold upI
      split
      · rfl
      · exact ih
    · exact ih
theorem fshR_ok {f : Int} {q ac : Nat} {v : Int} {Y : Int → Int} (hv : 0 ≤ v ∧ v < 512) (hY : Okm Y) : ∀ b, Okm (fshR f q ac v Y b) := by
  intro b
  induction b with
  | zero => exact hY
  | succ b ih => exact gsF_ok hv ih 9
theorem fshR_ext {f : Int} {q ac : Nat} {v : Int} {Y Y' : Int → Int} {i : Int} (hY : Y i = Y' i) : ∀ b, fshR f q ac v Y b i = fshR f q ac v Y' b i := by
  intro b
  induction b with
  | zero => exact hY
  | succ b ih => exact gsF_ext ih 9
def zrF : Int → Int := fun _ => 0
theorem zrF_ok : Okm zrF := fun _ _ _ => ⟨Int.le_refl _, show (0 : Int) < 512 by decide⟩
def insC (X : Nat → Nat) (r p v : Int) : Prop := (r = 0 ∧ singleC X p v) ∨ (r = 1 ∧ hid1C X p v) ∨ (r = 2 ∧ ptC X p v) ∨ (r = 3 ∧ clmC X p v) ∨ ((r = 4 ∨ r = 6 ∨ r = 9) ∧ nakC X p v (sizeF r)) ∨ ((r = 5 ∨ r = 7 ∨ r = 10) ∧ hidC X p v (sizeF r)) ∨ ((r = 8 ∨ r = 11 ∨ r = 12) ∧ fshC X (fof p) (fdg p) v (sizeF r))
def insG (X : Nat → Nat) (r p v : Int) : Int → Int := if r = 0 then singleG X (fun _ => 0) p else if r = 1 then hid1G X p v zrF else if r = 2 then ptG X p v zrF else if r = 3 then clmG X p v zrF else if r = 4 ∨ r = 6 ∨ r = 9 then nakG X p v zrF else if r = 5 ∨ r = 7 ∨ r = 10 then hidG X p v zrF else fshG X (fof p) (fdg p) v zrF
/-- what goes of cell c -/
noncomputable def insY (X : Nat → Nat) (r p v : Int) (c : Nat) : Nat := cI (insC X r p v) ((insG X r p v (c : Int)).toNat &&& X c) 0
noncomputable def insN (X : Nat → Nat) (r p v : Int) : Nat := sumN (fun c => pop9 (insY X r p v c)) 81
theorem sumN_ext {f g : Nat → Nat} : ∀ n, (∀ k, k < n → f k = g k) → sumN f n = sumN g n := by
  intro n
  induction n with
  | zero => intro _; rfl
  | succ n ih =>
    intro h
    unfold sumN
    rw [ih (fun k hk => h k (by omega)), h n (by omega)]
theorem sumN_0 : ∀ n, sumN (fun _ => 0) n = 0 := by
  intro n
  induction n with
  | zero => rfl
  | succ n ih => unfold sumN; rw [ih]
theorem insN_f {X : Nat → Nat} {r p v : Int} (h : ¬ insC X r p v) : insN X r p v = 0 := by
  unfold insN
  rw [sumN_ext (g := fun _ => 0) 81 (fun k _ => by unfold insY; rw [cI_f h]; rfl)]
  exact sumN_0 81
theorem AtB.ext {M : MT} {q : Nat} {X X' : Nat → Nat} (h : AtB M q X) (he : ∀ c, c < 81 → X c = X' c) : AtB M q X' := fun c hc => by
  have h1 := h c hc
  rw [he c hc] at h1
  exact h1
theorem AtB.fr {M M' : MT} {q : Nat} {X : Nat → Nat} (h : AtB M q X) (he : M' q = M q) : AtB M' q X := fun c hc => by
  rw [he]
  exact h c hc
/-- rows other than q are as they were -/
abbrev FrQ (M M' : MT) (q : Nat) : Prop := ∀ a, a ≠ q → M' a = M a
theorem ins_t1 {d : Nat} {G : GT} {M M2 : MT} {o q : Nat} {X : Nat → Nat} {r p v : Int} (hG : RefG G o) (hq : q < G.1) (hT : G.2.2 q = .inl (false, 81)) (hne : q ≠ o + 5) (hX : AtB M q X) {Y : Nat → Nat} (hF : FrQ M M2 (o + 5)) (hY : AtB M2 (o + 5) Y) (hc : insC X r p v) (he : ∀ c, c < 81 → Y c = (insG X r p v (c : Int)).toNat) : Wq (d + 2) k_X9_instance 177 [some (vR o), some (vR q), some (vI r), some (vI p), some (vI v), some (vI 1)] [] G M2 (fun z M' => z = some (vI (insN X r p v : Nat)) ∧ AtB M' (o + 5) (insY X r p v) ∧ FrQ M M' (o + 5)) := by
  have hX2 : AtB M2 q X := hX.fr (hF q hne)
  refine wq_s 179 rfl ?_
  refine wq_s 182 rfl ?_
  refine wq_s 183 rfl ?_
  refine wq_s 184 rfl ?_
  refine wq_vt1 187 rfl rfl (Nat.le_of_ble_eq_true rfl) hG.ob hG.2.2.1 rfl (Nat.le_of_ble_eq_true rfl) (c_X9_there hG hq hT hne hX2 hY) (fun r M1 hr => ?_)
  obtain ⟨rfl, hM1⟩ := hr
  dsimp only [Option.toList, List.cons_append, List.nil_append]
  have hyc : ∀ c, c < 81 → insY X r p v c = Y c &&& X c := fun c hc2 => by
    unfold insY
    rw [cI_t hc, he c hc2]
  have hn : insN X r p v = sumN (fun c => pop9 (Y c &&& X c)) 81 := sumN_ext 81 (fun c hc2 => by rw [hyc c hc2])
  refine wq_s 191 rfl ?_
  refine wq_ret rfl ⟨by rw [hn], fun c hc2 => ?_, fun a ha => ?_⟩
  · rw [hM1, hyc c hc2, setA_lo (by omega) (by omega), Int.toNat_natCast]
    exact ⟨rfl, and_lt2 (k := 9) (hY c hc2).2⟩
  · rw [hM1, setA_ne ha]
    exact hF a ha
theorem ins_t0 {d : Nat} {G : GT} {M M2 : MT} {o q : Nat} {X : Nat → Nat} {r p v : Int} (hG : RefG G o) (hq : q < G.1) (hT : G.2.2 q = .inl (false, 81)) (hne : q ≠ o + 5) (hX : AtB M q X) (hF : FrQ M M2 (o + 5)) (hY : AtB M2 (o + 5) (fun _ => 0)) (hc : ¬ insC X r p v) : Wq (d + 2) k_X9_instance 177 [some (vR o), some (vR q), some (vI r), some (vI p), some (vI v), some (vI 0)] [] G M2 (fun z M' => z = some (vI (insN X r p v : Nat)) ∧ AtB M' (o + 5) (insY X r p v) ∧ FrQ M M' (o + 5)) := by
  refine wq_s 179 rfl ?_
  refine wq_s 190 rfl ?_
  refine wq_s 191 rfl ?_
  exact wq_ret rfl ⟨by rw [insN_f hc]; rfl, hY.ext (fun c _ => by unfold insY; rw [cI_f hc]), hF⟩
theorem c_X9_instance {d : Nat} {G : GT} {M : MT} {o q : Nat} {X : Nat → Nat} {r p v : Int} (hG : RefG G o) (hq : q < G.1) (hT : G.2.2 q = .inl (false, 81)) (hne : q ≠ o + 5) (hX : AtB M q X) (hr : R32 r) (hp : R32 p) (hv : R32 v) : Mq (d + 3) k_X9_instance [vR o, vR q, vI r, vI p, vI v] G M (fun z M' => z = some (vI (insN X r p v : Nat)) ∧ AtB M' (o + 5) (insY X r p v) ∧ FrQ M M' (o + 5)) := by
  have hsz : sizeF r = 2 ∨ sizeF r = 3 ∨ sizeF r = 4 := by
    unfold sizeF
    split
    · exact Or.inl rfl
    · split
      · exact Or.inr (Or.inl rfl)
      · exact Or.inr (Or.inr rfl)
  have hz0 : AtB (setA M (o + 5) 81 (fun _ => 0)) (o + 5) (fun _ => 0) := fun c hc => ⟨setA_lo (by omega) (by omega), show (0 : Nat) < 512 by decide⟩
  have hX0 : AtB (setA M (o + 5) 81 (fun _ => 0)) q X := hX.fr (setA_ne hne)
  have hF0 : FrQ M (setA M (o + 5) 81 (fun _ => 0)) (o + 5) := fun a ha => setA_ne ha
  have hz1 : ∀ i : Int, 0 ≤ i → i < 81 → setA M (o + 5) 81 (fun _ => 0) (o + 5) i = zrF i := fun i h0 h1 => setA_lo h0 h1
  have hFr : ∀ f : Int → Int, FrQ M (rowA (setA M (o + 5) 81 (fun _ => 0)) (o + 5) f) (o + 5) := fun f a ha => (rowA_ne ha).trans (setA_ne ha)
  have hRow : ∀ f g : Int → Int, (∀ i : Int, 0 ≤ i → i < 81 → f i = g i) → Okm g → AtB (rowA (setA M (o + 5) 81 (fun _ => 0)) (o + 5) f) (o + 5) (fun c => (g (c : Int)).toNat) := fun f g hfg hg c hc => by
    have h1 := hg (c : Int) (by omega) (by omega)
    rw [rowA_at, hfg (c : Int) (by omega) (by omega)]
    dsimp only
    omega
  refine wq_s 1 rfl ?_
  refine wq_vt0 4 rfl rfl (Nat.le_of_ble_eq_true rfl) hG.ob hG.2.2.1 rfl (Nat.le_of_ble_eq_true rfl) (c_X9_clear hG) (fun z M1 hz => ?_)
  obtain ⟨rfl, hM1⟩ := hz
  subst M1
  dsimp only [Option.toList, List.cons_append, List.nil_append]
  refine wq_s 5 rfl ?_
  by_cases hd : r < 0 ∨ 12 < r
  · refine wq_tsw 175 170 rfl (by omega) (if_pos (by omega)) rfl ?_
    refine wq_s 176 rfl ?_
    have hc : ¬ insC X r p v := fun z => by unfold insC at z; omega
    exact wq_ret rfl ⟨by rw [insN_f hc]; rfl, hz0.ext (fun c _ => by unfold insY; rw [cI_f hc]), hF0⟩
  rcases (show r = 0 ∨ r = 1 ∨ r = 2 ∨ r = 3 ∨ r = 4 ∨ r = 5 ∨ r = 6 ∨ r = 7 ∨ r = 8 ∨ r = 9 ∨ r = 10 ∨ r = 11 ∨ r = 12 by omega) with rfl | rfl | rfl | rfl | rfl | rfl | rfl | rfl | rfl | rfl | rfl | rfl | rfl
  · have hA : insC X 0 p v → singleC X p v := fun z => by
      unfold insC at z
      rcases z with z | z | z | z | z | z | z
      · exact z.2
      · exact absurd z.1 (by decide)
      · exact absurd z.1 (by decide)
      · exact absurd z.1 (by decide)
      · exact absurd z.1 (by decide)
      · exact absurd z.1 (by decide)
      · exact absurd z.1 (by decide)
    refine wq_tsw 72 67 rfl (by decide) rfl rfl ?_
    refine wq_s 73 rfl ?_
    refine wq_s 74 rfl ?_
    refine wq_s 75 rfl ?_
    refine wq_s 77 rfl ?_
    refine wq_vt3 80 rfl rfl (Nat.le_of_ble_eq_true rfl) hG.ob hG.2.2.1 rfl (Nat.le_of_ble_eq_true rfl) (c_X9_single (Y := fun _ => 0) hG hq hT hne hX0 hz0 hp hv) (fun z M2 hz => ?_)
    rcases hz with ⟨rfl, hc, hM2⟩ | ⟨rfl, hc, hM2⟩
    · subst M2
      dsimp only [Option.toList, List.cons_append, List.nil_append]
      refine wq_s 82 rfl ?_
      refine wq_s 177 rfl ?_
      have hI : insC X 0 p v := Or.inl ⟨rfl, hc⟩
      have hx9 := hX p.toNat (by obtain ⟨z1, -, -⟩ := hc; omega)
      exact ins_t1 hG hq hT hne hX (Y := fun c => (singleG X (fun _ => 0) p (c : Int)).toNat) (fun a ha => (setA_ne ha).trans (setA_ne ha)) (fun c hc2 => by
        rw [setA_lo (by omega) (by omega)]
        unfold singleG
        dsimp only
        split
        · omega
        · exact ⟨rfl, show (0 : Nat) < 512 by decide⟩) hI (fun c _ => rfl)
    · subst M2
      dsimp only [Option.toList, List.cons_append, List.nil_append]
      refine wq_s 82 rfl ?_
      refine wq_s 177 rfl ?_
      exact ins_t0 hG hq hT hne hX hF0 hz0 (fun z => hc (hA z))
  · have hA : insC X 1 p v → hid1C X p v := fun z => by
      unfold insC at z
      rcases z with z | z | z | z | z | z | z
      · exact absurd z.1 (by decide)
      · exact z.2
      · exact absurd z.1 (by decide)
      · exact absurd z.1 (by decide)
      · exact absurd z.1 (by decide)
      · exact absurd z.1 (by decide)
      · exact absurd z.1 (by decide)
    refine wq_tsw 85 80 rfl (by decide) rfl rfl ?_
    refine wq_s 86 rfl ?_
    refine wq_s 87 rfl ?_
    refine wq_s 88 rfl ?_
    refine wq_s 90 rfl ?_
    refine wq_vt3 93 rfl rfl (Nat.le_of_ble_eq_true rfl) hG.ob hG.2.2.1 rfl (Nat.le_of_ble_eq_true rfl) (c_X9_hiddenOne hG hq hT hX0 hp hv) (fun z M2 hz => ?_)
    rcases hz with ⟨rfl, hc, hM2⟩ | ⟨rfl, hc, hM2⟩
    · subst M2
      dsimp only [Option.toList, List.cons_append, List.nil_append]
      refine wq_s 95 rfl ?_
      refine wq_s 177 rfl ?_
      have hI : insC X 1 p v := Or.inr (Or.inl ⟨rfl, hc⟩)
      have hb := andN_lt (m := 511) (n := 2 ^ (v - 1).toNat) (k := 9) (by decide)
      exact ins_t1 hG hq hT hne hX (hFr _) (hRow _ (hid1G X p v zrF) (fun i h0 h1 => gsF_ext (hz1 i h0 h1) 9) (gsF_ok (nat512 (by omega)) zrF_ok 9)) hI (fun c _ => rfl)
    · subst M2
      dsimp only [Option.toList, List.cons_append, List.nil_append]
      refine wq_s 95 rfl ?_
      refine wq_s 177 rfl ?_
      exact ins_t0 hG hq hT hne hX hF0 hz0 (fun z => hc (hA z))
  · have hA : insC X 2 p v → ptC X p v := fun z => by
      unfold insC at z
      rcases z with z | z | z | z | z | z | z
      · exact absurd z.1 (by decide)
      · exact absurd z.1 (by decide)
      · exact z.2
      · exact absurd z.1 (by decide)
      · exact absurd z.1 (by decide)
      · exact absurd z.1 (by decide)
      · exact absurd z.1 (by decide)
    refine wq_tsw 98 93 rfl (by decide) rfl rfl ?_
    refine wq_s 99 rfl ?_
    refine wq_s 100 rfl ?_
    refine wq_s 101 rfl ?_
    refine wq_s 103 rfl ?_
    refine wq_vt3 106 rfl rfl (Nat.le_of_ble_eq_true rfl) hG.ob hG.2.2.1 rfl (Nat.le_of_ble_eq_true rfl) (c_X9_pointing hG hq hT hX0 hp hv) (fun z M2 hz => ?_)
    rcases hz with ⟨rfl, hc, hM2⟩ | ⟨rfl, hc, hM2⟩
    · subst M2
      dsimp only [Option.toList, List.cons_append, List.nil_append]
      refine wq_s 108 rfl ?_
      refine wq_s 177 rfl ?_
      have hI : insC X 2 p v := Or.inr (Or.inr (Or.inl ⟨rfl, hc⟩))
      have hb : 2 ^ (v - 1).toNat ≤ 2 ^ 8 := Nat.pow_le_pow_right (by decide) (by have := hc.2.1; omega)
      exact ins_t1 hG hq hT hne hX (hFr _) (hRow _ (ptG X p v zrF) (fun i h0 h1 => gsF_ext (hz1 i h0 h1) 9) (gsF_ok (nat512 (by omega)) zrF_ok 9)) hI (fun c _ => rfl)
    · subst M2
      dsimp only [Option.toList, List.cons_append, List.nil_append]
      refine wq_s 108 rfl ?_
      refine wq_s 177 rfl ?_
      exact ins_t0 hG hq hT hne hX hF0 hz0 (fun z => hc (hA z))
  · have hA : insC X 3 p v → clmC X p v := fun z => by
      unfold insC at z
      rcases z with z | z | z | z | z | z | z
      · exact absurd z.1 (by decide)
      · exact absurd z.1 (by decide)
      · exact absurd z.1 (by decide)
      · exact z.2
      · exact absurd z.1 (by decide)
      · exact absurd z.1 (by decide)
      · exact absurd z.1 (by decide)
    refine wq_tsw 111 106 rfl (by decide) rfl rfl ?_
    refine wq_s 112 rfl ?_
    refine wq_s 113 rfl ?_
    refine wq_s 114 rfl ?_
    refine wq_s 116 rfl ?_
    refine wq_vt3 119 rfl rfl (Nat.le_of_ble_eq_true rfl) hG.ob hG.2.2.1 rfl (Nat.le_of_ble_eq_true rfl) (c_X9_claiming hG hq hT hX0 hp hv) (fun z M2 hz => ?_)
    rcases hz with ⟨rfl, hc, hM2⟩ | ⟨rfl, hc, hM2⟩
    · subst M2
      dsimp only [Option.toList, List.cons_append, List.nil_append]
      refine wq_s 121 rfl ?_
      refine wq_s 177 rfl ?_
      have hI : insC X 3 p v := Or.inr (Or.inr (Or.inr (Or.inl ⟨rfl, hc⟩)))
      have hb : 2 ^ (v - 1).toNat ≤ 2 ^ 8 := Nat.pow_le_pow_right (by decide) (by have := hc.2.1; omega)
      exact ins_t1 hG hq hT hne hX (hFr _) (hRow _ (clmG X p v zrF) (fun i h0 h1 => gsF_ext (hz1 i h0 h1) 9) (gsF_ok (nat512 (by omega)) zrF_ok 9)) hI (fun c _ => rfl)
    · subst M2
      dsimp only [Option.toList, List.cons_append, List.nil_append]
      refine wq_s 121 rfl ?_
      refine wq_s 177 rfl ?_
      exact ins_t0 hG hq hT hne hX hF0 hz0 (fun z => hc (hA z))
  · have hA : insC X 4 p v → nakC X p v 2 := fun z => by
      unfold insC at z
      rcases z with z | z | z | z | z | z | z
      · exact absurd z.1 (by decide)
      · exact absurd z.1 (by decide)
      · exact absurd z.1 (by decide)
      · exact absurd z.1 (by decide)
      · exact z.2
      · exact absurd z.1 (by decide)
      · exact absurd z.1 (by decide)
    refine wq_tsw 124 119 rfl (by decide) rfl rfl ?_
    refine wq_s 125 rfl ?_
    refine wq_s 126 rfl ?_
    refine wq_s 127 rfl ?_
    refine wq_s 129 rfl ?_
    refine wq_s 130 rfl ?_
    refine wq_st1 133 rfl rfl (by decide) (Nat.le_of_ble_eq_true rfl) rfl (Nat.le_of_ble_eq_true rfl) (c_X9_sizeOf (r := 4) (by decide)) (fun r M1 hr => ?_)
    obtain ⟨rfl, hM1⟩ := hr
    subst M1
    dsimp only [Option.toList, List.cons_append, List.nil_append]
    refine wq_vt4 136 rfl rfl (Nat.le_of_ble_eq_true rfl) hG.ob hG.2.2.1 rfl (Nat.le_of_ble_eq_true rfl) (c_X9_naked hG hq hT hX0 hp hv (by decide)) (fun z M2 hz => ?_)
    rcases hz with ⟨rfl, hc, hM2⟩ | ⟨rfl, hc, hM2⟩
    · subst M2
      dsimp only [Option.toList, List.cons_append, List.nil_append]
      refine wq_s 138 rfl ?_
      refine wq_s 177 rfl ?_
      have hI : insC X 4 p v := Or.inr (Or.inr (Or.inr (Or.inr (Or.inl ⟨Or.inl rfl, hc⟩))))
      have hb := unN_lt (X := X) (p := p) (q := v.toNat) (fun c hc => (hX c hc).2) hc.1.1 (by have := hc.1.2; omega) 9 (Nat.le_refl _)
      exact ins_t1 hG hq hT hne hX (hFr _) (hRow _ (nakG X p v zrF) (fun i h0 h1 => gsF_ext (hz1 i h0 h1) 9) (gsF_ok (nat512 (by omega)) zrF_ok 9)) hI (fun c _ => rfl)
    · subst M2
      dsimp only [Option.toList, List.cons_append, List.nil_append]
      refine wq_s 138 rfl ?_
      refine wq_s 177 rfl ?_
      exact ins_t0 hG hq hT hne hX hF0 hz0 (fun z => hc (hA z))
  · have hA : insC X 5 p v → hidC X p v 2 := fun z => by
      unfold insC at z
      rcases z with z | z | z | z | z | z | z
      · exact absurd z.1 (by decide)
      · exact absurd z.1 (by decide)
      · exact absurd z.1 (by decide)
      · exact absurd z.1 (by decide)
      · exact absurd z.1 (by decide)
      · exact z.2
      · exact absurd z.1 (by decide)
    refine wq_tsw 141 136 rfl (by decide) rfl rfl ?_
    refine wq_s 142 rfl ?_
    refine wq_s 143 rfl ?_
    refine wq_s 144 rfl ?_
    refine wq_s 146 rfl ?_
    refine wq_s 147 rfl ?_
    refine wq_st1 150 rfl rfl (by decide) (Nat.le_of_ble_eq_true rfl) rfl (Nat.le_of_ble_eq_true rfl) (c_X9_sizeOf (r := 5) (by decide)) (fun r M1 hr => ?_)
    obtain ⟨rfl, hM1⟩ := hr
    subst M1
    dsimp only [Option.toList, List.cons_append, List.nil_append]
    refine wq_vt4 153 rfl rfl (Nat.le_of_ble_eq_true rfl) hG.ob hG.2.2.1 rfl (Nat.le_of_ble_eq_true rfl) (c_X9_hidden hG hq hT hne hX0 hp hv (by decide)) (fun z M2 hz => ?_)
    rcases hz with ⟨rfl, hc, hM2⟩ | ⟨rfl, hc, hM2⟩
    · subst M2
      dsimp only [Option.toList, List.cons_append, List.nil_append]
      refine wq_s 155 rfl ?_
      refine wq_s 177 rfl ?_
      have hI : insC X 5 p v := Or.inr (Or.inr (Or.inr (Or.inr (Or.inr (Or.inl ⟨Or.inl rfl, hc⟩)))))
      have hb := andN_lt (m := 511) (n := v.toNat) (k := 9) (by decide)
      exact ins_t1 hG hq hT hne hX (hFr _) (hRow _ (hidG X p v zrF) (fun i h0 h1 => gsF_ext (hz1 i h0 h1) 9) (gsF_ok (nat512 (by omega)) zrF_ok 9)) hI (fun c _ => rfl)
    · subst M2
      dsimp only [Option.toList, List.cons_append, List.nil_append]
      refine wq_s 155 rfl ?_
      refine wq_s 177 rfl ?_
      exact ins_t0 hG hq hT hne hX hF0 hz0 (fun z => hc (hA z))
  · have hA : insC X 6 p v → nakC X p v 3 := fun z => by
      unfold insC at z
      rcases z with z | z | z | z | z | z | z
      · exact absurd z.1 (by decide)
      · exact absurd z.1 (by decide)
      · exact absurd z.1 (by decide)
      · exact absurd z.1 (by decide)
      · exact z.2
      · exact absurd z.1 (by decide)
      · exact absurd z.1 (by decide)
    refine wq_tsw 124 119 rfl (by decide) rfl rfl ?_
    refine wq_s 125 rfl ?_
    refine wq_s 126 rfl ?_
    refine wq_s 127 rfl ?_
    refine wq_s 129 rfl ?_
    refine wq_s 130 rfl ?_
    refine wq_st1 133 rfl rfl (by decide) (Nat.le_of_ble_eq_true rfl) rfl (Nat.le_of_ble_eq_true rfl) (c_X9_sizeOf (r := 6) (by decide)) (fun r M1 hr => ?_)
    obtain ⟨rfl, hM1⟩ := hr
    subst M1
    dsimp only [Option.toList, List.cons_append, List.nil_append]
    refine wq_vt4 136 rfl rfl (Nat.le_of_ble_eq_true rfl) hG.ob hG.2.2.1 rfl (Nat.le_of_ble_eq_true rfl) (c_X9_naked hG hq hT hX0 hp hv (by decide)) (fun z M2 hz => ?_)
    rcases hz with ⟨rfl, hc, hM2⟩ | ⟨rfl, hc, hM2⟩
    · subst M2
      dsimp only [Option.toList, List.cons_append, List.nil_append]
      refine wq_s 138 rfl ?_
      refine wq_s 177 rfl ?_
      have hI : insC X 6 p v := Or.inr (Or.inr (Or.inr (Or.inr (Or.inl ⟨Or.inr (Or.inl rfl), hc⟩))))
      have hb := unN_lt (X := X) (p := p) (q := v.toNat) (fun c hc => (hX c hc).2) hc.1.1 (by have := hc.1.2; omega) 9 (Nat.le_refl _)
      exact ins_t1 hG hq hT hne hX (hFr _) (hRow _ (nakG X p v zrF) (fun i h0 h1 => gsF_ext (hz1 i h0 h1) 9) (gsF_ok (nat512 (by omega)) zrF_ok 9)) hI (fun c _ => rfl)
    · subst M2
      dsimp only [Option.toList, List.cons_append, List.nil_append]
      refine wq_s 138 rfl ?_
      refine wq_s 177 rfl ?_
      exact ins_t0 hG hq hT hne hX hF0 hz0 (fun z => hc (hA z))
  · have hA : insC X 7 p v → hidC X p v 3 := fun z => by
      unfold insC at z
      rcases z with z | z | z | z | z | z | z
      · exact absurd z.1 (by decide)
      · exact absurd z.1 (by decide)
      · exact absurd z.1 (by decide)
      · exact absurd z.1 (by decide)
      · exact absurd z.1 (by decide)
      · exact z.2
      · exact absurd z.1 (by decide)
    refine wq_tsw 141 136 rfl (by decide) rfl rfl ?_
    refine wq_s 142 rfl ?_
    refine wq_s 143 rfl ?_
    refine wq_s 144 rfl ?_
    refine wq_s 146 rfl ?_
    refine wq_s 147 rfl ?_
    refine wq_st1 150 rfl rfl (by decide) (Nat.le_of_ble_eq_true rfl) rfl (Nat.le_of_ble_eq_true rfl) (c_X9_sizeOf (r := 7) (by decide)) (fun r M1 hr => ?_)
    obtain ⟨rfl, hM1⟩ := hr
    subst M1
    dsimp only [Option.toList, List.cons_append, List.nil_append]
    refine wq_vt4 153 rfl rfl (Nat.le_of_ble_eq_true rfl) hG.ob hG.2.2.1 rfl (Nat.le_of_ble_eq_true rfl) (c_X9_hidden hG hq hT hne hX0 hp hv (by decide)) (fun z M2 hz => ?_)
    rcases hz with ⟨rfl, hc, hM2⟩ | ⟨rfl, hc, hM2⟩
    · subst M2
      dsimp only [Option.toList, List.cons_append, List.nil_append]
      refine wq_s 155 rfl ?_
      refine wq_s 177 rfl ?_
      have hI : insC X 7 p v := Or.inr (Or.inr (Or.inr (Or.inr (Or.inr (Or.inl ⟨Or.inr (Or.inl rfl), hc⟩)))))
      have hb := andN_lt (m := 511) (n := v.toNat) (k := 9) (by decide)
      exact ins_t1 hG hq hT hne hX (hFr _) (hRow _ (hidG X p v zrF) (fun i h0 h1 => gsF_ext (hz1 i h0 h1) 9) (gsF_ok (nat512 (by omega)) zrF_ok 9)) hI (fun c _ => rfl)
    · subst M2
      dsimp only [Option.toList, List.cons_append, List.nil_append]
      refine wq_s 155 rfl ?_
      refine wq_s 177 rfl ?_
      exact ins_t0 hG hq hT hne hX hF0 hz0 (fun z => hc (hA z))
  · have hA : insC X 8 p v → fshC X (fof p) (fdg p) v 2 := fun z => by
      unfold insC at z
      rcases z with z | z | z | z | z | z | z
      · exact absurd z.1 (by decide)
      · exact absurd z.1 (by decide)
      · exact absurd z.1 (by decide)
      · exact absurd z.1 (by decide)
      · exact absurd z.1 (by decide)
      · exact absurd z.1 (by decide)
      · exact z.2
    refine wq_tsw 158 153 rfl (by decide) rfl rfl ?_
    refine wq_s 159 rfl ?_
    refine wq_s 160 rfl ?_
    refine wq_s 161 rfl ?_
    refine wq_s 163 rfl ?_
    refine wq_s 164 rfl ?_
    refine wq_st1 167 rfl rfl (by decide) (Nat.le_of_ble_eq_true rfl) rfl (Nat.le_of_ble_eq_true rfl) (c_X9_sizeOf (r := 8) (by decide)) (fun r M1 hr => ?_)
    obtain ⟨rfl, hM1⟩ := hr
    subst M1
    dsimp only [Option.toList, List.cons_append, List.nil_append]
    refine wq_vt4 170 rfl rfl (Nat.le_of_ble_eq_true rfl) hG.ob hG.2.2.1 rfl (Nat.le_of_ble_eq_true rfl) (c_X9_fish hG hq hT hX0 hp hv (by decide)) (fun z M2 hz => ?_)
    rcases hz with ⟨rfl, hc, hM2⟩ | ⟨rfl, hc, hM2⟩
    · subst M2
      dsimp only [Option.toList, List.cons_append, List.nil_append]
      refine wq_s 172 rfl ?_
      refine wq_s 177 rfl ?_
      have hI : insC X 8 p v := Or.inr (Or.inr (Or.inr (Or.inr (Or.inr (Or.inr (⟨Or.inl rfl, hc⟩))))))
      have hb : 2 ^ (fdg p - 1).toNat ≤ 2 ^ 8 := Nat.pow_le_pow_right (by decide) (by have := hc.1; omega)
      exact ins_t1 hG hq hT hne hX (hFr _) (hRow _ (fshG X (fof p) (fdg p) v zrF) (fun i h0 h1 => fshR_ext (hz1 i h0 h1) 9) (fshR_ok (nat512 (by omega)) zrF_ok 9)) hI (fun c _ => rfl)
    · subst M2
      dsimp only [Option.toList, List.cons_append, List.nil_append]
      refine wq_s 172 rfl ?_
      refine wq_s 177 rfl ?_
      exact ins_t0 hG hq hT hne hX hF0 hz0 (fun z => hc (hA z))
  · have hA : insC X 9 p v → nakC X p v 4 := fun z => by
      unfold insC at z
      rcases z with z | z | z | z | z | z | z
      · exact absurd z.1 (by decide)
      · exact absurd z.1 (by decide)
      · exact absurd z.1 (by decide)
      · exact absurd z.1 (by decide)
      · exact z.2
      · exact absurd z.1 (by decide)
      · exact absurd z.1 (by decide)
    refine wq_tsw 124 119 rfl (by decide) rfl rfl ?_
    refine wq_s 125 rfl ?_
    refine wq_s 126 rfl ?_
    refine wq_s 127 rfl ?_
    refine wq_s 129 rfl ?_
    refine wq_s 130 rfl ?_
    refine wq_st1 133 rfl rfl (by decide) (Nat.le_of_ble_eq_true rfl) rfl (Nat.le_of_ble_eq_true rfl) (c_X9_sizeOf (r := 9) (by decide)) (fun r M1 hr => ?_)
    obtain ⟨rfl, hM1⟩ := hr
    subst M1
    dsimp only [Option.toList, List.cons_append, List.nil_append]
    refine wq_vt4 136 rfl rfl (Nat.le_of_ble_eq_true rfl) hG.ob hG.2.2.1 rfl (Nat.le_of_ble_eq_true rfl) (c_X9_naked hG hq hT hX0 hp hv (by decide)) (fun z M2 hz => ?_)
    rcases hz with ⟨rfl, hc, hM2⟩ | ⟨rfl, hc, hM2⟩
    · subst M2
      dsimp only [Option.toList, List.cons_append, List.nil_append]
      refine wq_s 138 rfl ?_
      refine wq_s 177 rfl ?_
      have hI : insC X 9 p v := Or.inr (Or.inr (Or.inr (Or.inr (Or.inl ⟨Or.inr (Or.inr rfl), hc⟩))))
      have hb := unN_lt (X := X) (p := p) (q := v.toNat) (fun c hc => (hX c hc).2) hc.1.1 (by have := hc.1.2; omega) 9 (Nat.le_refl _)
      exact ins_t1 hG hq hT hne hX (hFr _) (hRow _ (nakG X p v zrF) (fun i h0 h1 => gsF_ext (hz1 i h0 h1) 9) (gsF_ok (nat512 (by omega)) zrF_ok 9)) hI (fun c _ => rfl)
    · subst M2
      dsimp only [Option.toList, List.cons_append, List.nil_append]
      refine wq_s 138 rfl ?_
      refine wq_s 177 rfl ?_
      exact ins_t0 hG hq hT hne hX hF0 hz0 (fun z => hc (hA z))
  · have hA : insC X 10 p v → hidC X p v 4 := fun z => by
      unfold insC at z
      rcases z with z | z | z | z | z | z | z
      · exact absurd z.1 (by decide)
      · exact absurd z.1 (by decide)
      · exact absurd z.1 (by decide)
      · exact absurd z.1 (by decide)
      · exact absurd z.1 (by decide)
      · exact z.2
      · exact absurd z.1 (by decide)
    refine wq_tsw 141 136 rfl (by decide) rfl rfl ?_
    refine wq_s 142 rfl ?_
    refine wq_s 143 rfl ?_
    refine wq_s 144 rfl ?_
    refine wq_s 146 rfl ?_
    refine wq_s 147 rfl ?_
    refine wq_st1 150 rfl rfl (by decide) (Nat.le_of_ble_eq_true rfl) rfl (Nat.le_of_ble_eq_true rfl) (c_X9_sizeOf (r := 10) (by decide)) (fun r M1 hr => ?_)
    obtain ⟨rfl, hM1⟩ := hr
    subst M1
    dsimp only [Option.toList, List.cons_append, List.nil_append]
    refine wq_vt4 153 rfl rfl (Nat.le_of_ble_eq_true rfl) hG.ob hG.2.2.1 rfl (Nat.le_of_ble_eq_true rfl) (c_X9_hidden hG hq hT hne hX0 hp hv (by decide)) (fun z M2 hz => ?_)
    rcases hz with ⟨rfl, hc, hM2⟩ | ⟨rfl, hc, hM2⟩
    · subst M2
      dsimp only [Option.toList, List.cons_append, List.nil_append]
      refine wq_s 155 rfl ?_
      refine wq_s 177 rfl ?_
      have hI : insC X 10 p v := Or.inr (Or.inr (Or.inr (Or.inr (Or.inr (Or.inl ⟨Or.inr (Or.inr rfl), hc⟩)))))
      have hb := andN_lt (m := 511) (n := v.toNat) (k := 9) (by decide)
      exact ins_t1 hG hq hT hne hX (hFr _) (hRow _ (hidG X p v zrF) (fun i h0 h1 => gsF_ext (hz1 i h0 h1) 9) (gsF_ok (nat512 (by omega)) zrF_ok 9)) hI (fun c _ => rfl)
    · subst M2
      dsimp only [Option.toList, List.cons_append, List.nil_append]
      refine wq_s 155 rfl ?_
      refine wq_s 177 rfl ?_
      exact ins_t0 hG hq hT hne hX hF0 hz0 (fun z => hc (hA z))
  · have hA : insC X 11 p v → fshC X (fof p) (fdg p) v 3 := fun z => by
      unfold insC at z
      rcases z with z | z | z | z | z | z | z
      · exact absurd z.1 (by decide)
      · exact absurd z.1 (by decide)
      · exact absurd z.1 (by decide)
      · exact absurd z.1 (by decide)
      · exact absurd z.1 (by decide)
      · exact absurd z.1 (by decide)
      · exact z.2
    refine wq_tsw 158 153 rfl (by decide) rfl rfl ?_
    refine wq_s 159 rfl ?_
    refine wq_s 160 rfl ?_
    refine wq_s 161 rfl ?_
    refine wq_s 163 rfl ?_
    refine wq_s 164 rfl ?_
    refine wq_st1 167 rfl rfl (by decide) (Nat.le_of_ble_eq_true rfl) rfl (Nat.le_of_ble_eq_true rfl) (c_X9_sizeOf (r := 11) (by decide)) (fun r M1 hr => ?_)
    obtain ⟨rfl, hM1⟩ := hr
    subst M1
    dsimp only [Option.toList, List.cons_append, List.nil_append]
    refine wq_vt4 170 rfl rfl (Nat.le_of_ble_eq_true rfl) hG.ob hG.2.2.1 rfl (Nat.le_of_ble_eq_true rfl) (c_X9_fish hG hq hT hX0 hp hv (by decide)) (fun z M2 hz => ?_)
    rcases hz with ⟨rfl, hc, hM2⟩ | ⟨rfl, hc, hM2⟩
    · subst M2
      dsimp only [Option.toList, List.cons_append, List.nil_append]
      refine wq_s 172 rfl ?_
      refine wq_s 177 rfl ?_
      have hI : insC X 11 p v := Or.inr (Or.inr (Or.inr (Or.inr (Or.inr (Or.inr (⟨Or.inr (Or.inl rfl), hc⟩))))))
      have hb : 2 ^ (fdg p - 1).toNat ≤ 2 ^ 8 := Nat.pow_le_pow_right (by decide) (by have := hc.1; omega)
      exact ins_t1 hG hq hT hne hX (hFr _) (hRow _ (fshG X (fof p) (fdg p) v zrF) (fun i h0 h1 => fshR_ext (hz1 i h0 h1) 9) (fshR_ok (nat512 (by omega)) zrF_ok 9)) hI (fun c _ => rfl)
    · subst M2
      dsimp only [Option.toList, List.cons_append, List.nil_append]
      refine wq_s 172 rfl ?_
      refine wq_s 177 rfl ?_
      exact ins_t0 hG hq hT hne hX hF0 hz0 (fun z => hc (hA z))
  · have hA : insC X 12 p v → fshC X (fof p) (fdg p) v 4 := fun z => by
      unfold insC at z
      rcases z with z | z | z | z | z | z | z
      · exact absurd z.1 (by decide)
      · exact absurd z.1 (by decide)
      · exact absurd z.1 (by decide)
      · exact absurd z.1 (by decide)
      · exact absurd z.1 (by decide)
      · exact absurd z.1 (by decide)
      · exact z.2
    refine wq_tsw 158 153 rfl (by decide) rfl rfl ?_
    refine wq_s 159 rfl ?_
    refine wq_s 160 rfl ?_
    refine wq_s 161 rfl ?_
    refine wq_s 163 rfl ?_
    refine wq_s 164 rfl ?_
    refine wq_st1 167 rfl rfl (by decide) (Nat.le_of_ble_eq_true rfl) rfl (Nat.le_of_ble_eq_true rfl) (c_X9_sizeOf (r := 12) (by decide)) (fun r M1 hr => ?_)
    obtain ⟨rfl, hM1⟩ := hr
    subst M1
    dsimp only [Option.toList, List.cons_append, List.nil_append]
    refine wq_vt4 170 rfl rfl (Nat.le_of_ble_eq_true rfl) hG.ob hG.2.2.1 rfl (Nat.le_of_ble_eq_true rfl) (c_X9_fish hG hq hT hX0 hp hv (by decide)) (fun z M2 hz => ?_)
    rcases hz with ⟨rfl, hc, hM2⟩ | ⟨rfl, hc, hM2⟩
    · subst M2
      dsimp only [Option.toList, List.cons_append, List.nil_append]
      refine wq_s 172 rfl ?_
      refine wq_s 177 rfl ?_
      have hI : insC X 12 p v := Or.inr (Or.inr (Or.inr (Or.inr (Or.inr (Or.inr (⟨Or.inr (Or.inr rfl), hc⟩))))))
      have hb : 2 ^ (fdg p - 1).toNat ≤ 2 ^ 8 := Nat.pow_le_pow_right (by decide) (by have := hc.1; omega)
      exact ins_t1 hG hq hT hne hX (hFr _) (hRow _ (fshG X (fof p) (fdg p) v zrF) (fun i h0 h1 => fshR_ext (hz1 i h0 h1) 9) (fshR_ok (nat512 (by omega)) zrF_ok 9)) hI (fun c _ => rfl)
    · subst M2
      dsimp only [Option.toList, List.cons_append, List.nil_append]
      refine wq_s 172 rfl ?_
      refine wq_s 177 rfl ?_
      exact ins_t0 hG hq hT hne hX hF0 hz0 (fun z => hc (hA z))
