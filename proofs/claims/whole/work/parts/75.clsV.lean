/-! listAllStrong -/
theorem low_ok : ∀ a b : Fin 9, a.val < b.val → b32 (fun x y => x &&& y) ((2 ^ a.val ||| 2 ^ b.val : Nat) : Int) (w32 (-((2 ^ a.val ||| 2 ^ b.val : Nat) : Int))) = ((2 ^ a.val : Nat) : Int) := by decide +kernel
theorem xor_ok : ∀ a b : Fin 9, a.val < b.val → (2 ^ a.val ||| 2 ^ b.val) ^^^ 2 ^ a.val = 2 ^ b.val := by decide +kernel
theorem pop2N {v : Nat} (hv : v < 512) (h : pop9 v = 2) : ∃ a b, a < b ∧ b < 9 ∧ v = 2 ^ a ||| 2 ^ b ∧ b32 (fun x y => x &&& y) ((v : Nat) : Int) (w32 (-((v : Nat) : Int))) = ((2 ^ a : Nat) : Int) ∧ v ^^^ 2 ^ a = 2 ^ b ∧ v.testBit a = true ∧ v.testBit b = true ∧ ∀ i, v.testBit i = true → i = a ∨ i = b := by
  obtain ⟨a, b, h1, h2⟩ := pop2 ⟨v, hv⟩ h
  dsimp only at h2
  refine ⟨a.val, b.val, h1, b.isLt, h2, ?_, ?_, ?_, ?_, fun i hi => ?_⟩
  · rw [h2]
    exact low_ok a b h1
  · rw [h2]
    exact xor_ok a b h1
  · rw [h2, Nat.testBit_or, pow_tb.2 rfl]
    rfl
  · rw [h2, Nat.testBit_or, pow_tb.2 rfl, Bool.or_true]
  · rw [h2, Nat.testBit_or, Bool.or_eq_true, pow_tb, pow_tb] at hi
    exact hi
/-- a house and a digit tell a pair -/
def PrH (X : Nat → Nat) (h e n m : Nat) : Prop := (n % 9 = e ∧ m % 9 = e) ∧ n ≠ m ∧ (hasN X n = 1 ∧ hasN X m = 1) ∧ (hoN (n / 9) (srN h) = h ∧ hoN (m / 9) (srN h) = h) ∧ pop9 (plH X h e) = 2
def CsR (X : Nat → Nat) (c n m : Nat) : Prop := n / 9 = m / 9 ∧ n / 9 < c ∧ strongC X n m
def HsR (X : Nat → Nat) (k n m : Nat) : Prop := CsR X 81 n m ∨ ∃ h e, (h < 27 ∧ e < 9) ∧ 9 * h + e < k ∧ PrH X h e n m
theorem srN_lt (h : Nat) : srN h < 3 := by
  unfold srN
  (repeat' split) <;> omega
theorem PrH.str {X : Nat → Nat} {h e n m : Nat} (hn : n < 729) (hm : m < 729) (z : PrH X h e n m) : strongC X n m := by
  obtain ⟨⟨z1, z2⟩, z3, ⟨z4, z5⟩, ⟨z6, z7⟩, z8⟩ := z
  have hc : n / 9 ≠ m / 9 := by omega
  refine ⟨(weak_sh hn hm).2 ⟨z3, z4, z5, Or.inr ⟨by omega, sh_ex.2 ⟨srN h, srN_lt h, by rw [z6, z7]⟩⟩⟩, Or.inr ⟨hc, srN h, srN_lt h, (str_ho hn hm).2 ⟨by rw [z6, z7], by rw [z6, z1]; exact z8⟩⟩⟩
theorem HsR.all {X : Nat → Nat} {n m : Nat} (hn : n < 729) (hm : m < 729) : HsR X 243 n m ↔ strongC X n m := by
  constructor
  · rintro (z | ⟨h, e, -, -, z⟩)
    · exact z.2.2
    · exact z.str hn hm
  · intro z
    rcases z.2 with ⟨y1, y2⟩ | ⟨y1, s, y2, y3⟩
    · exact Or.inl ⟨y1, by omega, z⟩
    · obtain ⟨g1, g2⟩ := (str_ho hn hm).1 y3
      have ho := ho_ok (c := n / 9) (s := s) (by omega) y2
      have hd : n % 9 = m % 9 := by
        rcases z.1.2.2.2 with w | w
        · exact absurd w y1
        · exact w.1
      refine Or.inr ⟨hoN (n / 9) s, n % 9, ⟨ho.2.2.1, by omega⟩, by have := ho.2.2.1; omega, ⟨rfl, hd.symm⟩, z.1.1, ⟨z.1.2.1, z.1.2.2.1⟩, ⟨by rw [ho.2.1], by rw [ho.2.1]; exact g1.symm⟩, g2⟩
theorem CsR.suc {X : Nat → Nat} {c a b n m : Nat} (hX : X c < 512) (h2 : pop9 (X c) = 2) (hb : b < 9) (hab : a < b) (ha : (X c).testBit a = true) (hbt : (X c).testBit b = true) (hu : ∀ i, (X c).testBit i = true → i = a ∨ i = b) : (CsR X c n m ∨ (n = 9 * c + a ∧ m = 9 * c + b) ∨ (n = 9 * c + b ∧ m = 9 * c + a)) ↔ CsR X (c + 1) n m := by
  have hs : strongC X (9 * c + a) (9 * c + b) := ⟨⟨by omega, by rw [hasN_ce X c a (by omega)]; exact (tb_div _ _).1 ha, by rw [hasN_ce X c b hb]; exact (tb_div _ _).1 hbt, Or.inl (by omega)⟩, Or.inl ⟨by omega, by rw [show (9 * c + a) / 9 = c by omega]; exact h2⟩⟩
  constructor
  · rintro (z | ⟨rfl, rfl⟩ | ⟨rfl, rfl⟩)
    · exact ⟨z.1, by have := z.2.1; omega, z.2.2⟩
    · exact ⟨by omega, by omega, hs⟩
    · exact ⟨by omega, by omega, strongC_sym hs⟩
  · rintro ⟨z1, z2, z3⟩
    by_cases hc : n / 9 < c
    · exact Or.inl ⟨z1, hc, z3⟩
    · have e1 : n / 9 = c := by omega
      have t1 := (hasN_tb X n).1 z3.1.2.1
      have t2 := (hasN_tb X m).1 z3.1.2.2.1
      rw [e1] at t1
      rw [← z1, e1] at t2
      have u1 := hu _ t1
      have u2 := hu _ t2
      have hne := z3.1.1
      omega
theorem CsR.non {X : Nat → Nat} {c n m : Nat} (h2 : ¬ pop9 (X c) = 2) : CsR X c n m ↔ CsR X (c + 1) n m := by
  constructor
  · rintro ⟨z1, z2, z3⟩
    exact ⟨z1, by omega, z3⟩
  · rintro ⟨z1, z2, z3⟩
    refine ⟨z1, ?_, z3⟩
    by_cases hc : n / 9 = c
    · rcases z3.2 with w | w
      · rw [hc] at w
        exact absurd w.2 h2
      · exact absurd z1 w.1
    · omega
theorem HsR.suc {X : Nat → Nat} {h e a b n m : Nat} (hn : n < 729) (hm : m < 729) (hh : h < 27) (he : e < 9) (h2 : pop9 (plH X h e) = 2) (hb : b < 9) (hab : a < b) (ha : (plH X h e).testBit a = true) (hbt : (plH X h e).testBit b = true) (hu : ∀ i, (plH X h e).testBit i = true → i = a ∨ i = b) : (HsR X (9 * h + e) n m ∨ (n = 9 * ceN h a + e ∧ m = 9 * ceN h b + e) ∨ (n = 9 * ceN h b + e ∧ m = 9 * ceN h a + e)) ↔ HsR X (9 * h + e + 1) n m := by
  have ca := ce_ok hh (show a < 9 by omega)
  have cb := ce_ok hh hb
  rw [plH_tb] at ha hbt
  have hne : ceN h a ≠ ceN h b := fun z => by
    have h1 := ca.2.1
    rw [z, cb.2.1] at h1
    omega
  have hp : ∀ x y, x < 9 → y < 9 → ceN h x ≠ ceN h y → (X (ceN h x)).testBit e = true → (X (ceN h y)).testBit e = true → PrH X h e (9 * ceN h x + e) (9 * ceN h y + e) := fun x y hx hy hxy h3 h4 => by
    refine ⟨⟨by omega, by omega⟩, by omega, ⟨by rw [hasN_ce X _ e he]; exact (tb_div _ _).1 h3, by rw [hasN_ce X _ e he]; exact (tb_div _ _).1 h4⟩, ⟨?_, ?_⟩, h2⟩
    · rw [show (9 * ceN h x + e) / 9 = ceN h x by omega]
      exact (ce_ok hh hx).1
    · rw [show (9 * ceN h y + e) / 9 = ceN h y by omega]
      exact (ce_ok hh hy).1
  constructor
  · rintro (z | ⟨rfl, rfl⟩ | ⟨rfl, rfl⟩)
    · rcases z with z | ⟨h', e', z1, z2, z3⟩
      · exact Or.inl z
      · exact Or.inr ⟨h', e', z1, by omega, z3⟩
    · exact Or.inr ⟨h, e, ⟨hh, he⟩, by omega, hp a b (by omega) hb hne ha.2 hbt.2⟩
    · exact Or.inr ⟨h, e, ⟨hh, he⟩, by omega, hp b a hb (by omega) (Ne.symm hne) hbt.2 ha.2⟩
  · rintro (z | ⟨h', e', z1, z2, z3⟩)
    · exact Or.inl (Or.inl z)
    · by_cases hk : 9 * h' + e' < 9 * h + e
      · exact Or.inl (Or.inr ⟨h', e', z1, hk, z3⟩)
      · have e1 : h' = h := by omega
        have e2 : e' = e := by omega
        subst e1 e2
        obtain ⟨⟨w1, w2⟩, w3, ⟨w4, w5⟩, ⟨w6, w7⟩, w8⟩ := z3
        have hpos : ∀ z, z < 729 → hasN X z = 1 → z % 9 = e' → hoN (z / 9) (srN h') = h' → (poN (z / 9) (srN h') = a ∨ poN (z / 9) (srN h') = b) ∧ z = 9 * ceN h' (poN (z / 9) (srN h')) + e' := fun z q1 q2 q3 q4 => by
          have ho := ho_ok (c := z / 9) (s := srN h') (by omega) (srN_lt h')
          rw [q4] at ho
          refine ⟨hu _ ?_, by rw [ho.1]; omega⟩
          rw [plH_tb, ho.1, ← q3]
          exact ⟨ho.2.2.2, (hasN_tb X z).1 q2⟩
        obtain ⟨p1, p2⟩ := hpos n hn w4 w1 w6
        obtain ⟨p3, p4⟩ := hpos m hm w5 w2 w7
        rcases p1 with p1 | p1 <;> rcases p3 with p3 | p3
        · exact absurd (by rw [p2, p4, p1, p3]) w3
        · rw [p1] at p2
          rw [p3] at p4
          exact Or.inr (Or.inl ⟨p2, p4⟩)
        · rw [p1] at p2
          rw [p3] at p4
          exact Or.inr (Or.inr ⟨p2, p4⟩)
        · exact absurd (by rw [p2, p4, p1, p3]) w3
theorem HsR.non {X : Nat → Nat} {h e n m : Nat} (he : e < 9) (h2 : ¬ pop9 (plH X h e) = 2) : HsR X (9 * h + e) n m ↔ HsR X (9 * h + e + 1) n m := by
  constructor
  · rintro (z | ⟨h', e', z1, z2, z3⟩)
    · exact Or.inl z
    · exact Or.inr ⟨h', e', z1, by omega, z3⟩
  · rintro (z | ⟨h', e', z1, z2, z3⟩)
    · exact Or.inl z
    · refine Or.inr ⟨h', e', z1, ?_, z3⟩
      by_cases hk : 9 * h' + e' = 9 * h + e
      · have e1 : h' = h := by omega
        have e2 : e' = e := by omega
        subst e1 e2
        exact absurd z3.2.2.2.2 h2
      · omega
