/-! closing a board: what the first two rules take, and why the order doesn't matter -/
abbrev SubB (Z W : Nat → Nat) : Prop := ∀ c, c < 81 → ∀ i, (Z c).testBit i = true → (W c).testBit i = true
def ClosedI (R : Nat → Nat) : Prop := (∀ p v : Nat, p < 81 → 1 ≤ v → v ≤ 9 → insN R 0 (p : Int) (v : Int) = 0) ∧ ∀ p v : Nat, p < 27 → 1 ≤ v → v ≤ 9 → insN R 1 (p : Int) (v : Int) = 0
def Undead (Z : Nat → Nat) : Prop := (∀ c, c < 81 → Z c ≠ 0) ∧ ∀ h e : Nat, h < 27 → e < 9 → ∃ k : Nat, k < 9 ∧ (Z (cellF (h : Int) (k : Int)).toNat).testBit e = true
def CloI (W W2 : Nat → Nat) : Prop := (∀ c, c < 81 → W2 c < 512) ∧ SubB W2 W ∧ ∀ Z, ClosedI Z → Undead Z → SubB Z W → SubB Z W2
theorem sumN_z {f : Nat → Nat} : ∀ n, sumN f n = 0 → ∀ k, k < n → f k = 0 := by
  intro n
  induction n with
  | zero => intro _ k hk; exact absurd hk (Nat.not_lt_zero _)
  | succ n ih =>
    intro h k hk
    rw [sumN_succ] at h
    by_cases hkn : k = n
    · subst hkn
      omega
    · exact ih (by omega) k (by omega)
theorem popc_z : ∀ k n, popc k n = 0 → ∀ i, i < k → n.testBit i = false := by
  intro k
  induction k with
  | zero => intro n _ i hi; exact absurd hi (Nat.not_lt_zero _)
  | succ k ih =>
    intro n h i hi
    have h : n % 2 + popc k (n / 2) = 0 := h
    cases i with
    | zero =>
      have h1 := m2_tb n
      cases hb : n.testBit 0 with
      | false => rfl
      | true =>
        rw [hb, if_pos rfl] at h1
        omega
    | succ i =>
      rw [← tb_half]
      exact ih _ (by omega) i (by omega)
theorem insN_z {X : Nat → Nat} {r p v : Int} (h : insN X r p v = 0) {c i : Nat} (hc : c < 81) (hi : i < 9) : (insY X r p v c).testBit i = false := popc_z 9 _ (sumN_z 81 h c hc) i hi
theorem pow_tb {e i : Nat} : (2 ^ e).testBit i = true ↔ i = e := by
  rw [Nat.testBit_two_pow, decide_eq_true_iff]
  exact eq_comm
theorem tb_lt9 {x i : Nat} (h : x < 512) (hb : x.testBit i = true) : i < 9 := by
  by_cases hi : i < 9
  · exact hi
  · rw [bit_out (n := 9) h (by omega)] at hb
    cases hb
theorem nz_tb {x : Nat} (h : x ≠ 0) : ∃ i, x.testBit i = true := Nat.exists_testBit_of_ne_zero h
theorem ins0_tb {X : Nat → Nat} {p v : Int} (hs : singleC X p v) (c i : Nat) : (insY X 0 p v c).testBit i = true ↔ (peersF p (c : Int) = 1 ∧ i = (v - 1).toNat ∧ (X c).testBit i = true) := by
  have hC : insC X 0 p v := Or.inl ⟨rfl, hs⟩
  unfold insY
  rw [cI_t hC, Nat.testBit_and, Bool.and_eq_true, show insG X 0 p v = singleG X (fun _ => 0) p from rfl]
  unfold singleG
  by_cases hp : peersF p (c : Int) = 1
  · rw [if_pos hp, Int.toNat_natCast, hs.2.2, pow_tb]
    exact ⟨fun h => ⟨hp, h⟩, fun h => h.2⟩
  · rw [if_neg hp]
    constructor
    · rintro ⟨h, -⟩
      have h : (0 : Nat).testBit i = true := h
      rw [Nat.zero_testBit] at h
      cases h
    · rintro ⟨h, -⟩
      exact absurd h hp
theorem gsF_hit {h : Int} {c : Nat → Bool} {v x : Int} : ∀ k, (∃ j, j < k ∧ c j = true ∧ x = cellF h (j : Int)) → gsF h c v zrF k x = v := by
  intro k
  induction k with
  | zero => rintro ⟨j, hj, -⟩; exact absurd hj (Nat.not_lt_zero _)
  | succ k ih =>
    rintro ⟨j, h1, h2, h3⟩
    by_cases hk : c k = true ∧ x = cellF h (k : Int)
    · rw [gsF_t hk.1]
      exact if_pos hk.2
    · have hj : j < k := by
        by_cases hjk : j = k
        · subst hjk
          exact absurd ⟨h2, h3⟩ hk
        · omega
      have e := ih ⟨j, hj, h2, h3⟩
      by_cases hc : c k = true
      · rw [gsF_t hc]
        exact (if_neg (fun z => hk ⟨hc, z⟩)).trans e
      · rw [gsF_f (by cases hb : c k with | true => exact absurd hb hc | false => rfl)]
        exact e
theorem gsF_mis {h : Int} {c : Nat → Bool} {v x : Int} : ∀ k, ¬ (∃ j, j < k ∧ c j = true ∧ x = cellF h (j : Int)) → gsF h c v zrF k x = 0 := by
  intro k
  induction k with
  | zero => intro _; rfl
  | succ k ih =>
    intro hn
    have e := ih (fun ⟨j, h1, h2⟩ => hn ⟨j, by omega, h2⟩)
    by_cases hc : c k = true
    · rw [gsF_t hc]
      exact (if_neg (fun z => hn ⟨k, by omega, hc, z⟩)).trans e
    · rw [gsF_f (by cases hb : c k with | true => exact absurd hb hc | false => rfl)]
      exact e
theorem bitB_tb (m k : Nat) : bitB m k = true ↔ m.testBit k = true := by
  unfold bitB
  rw [decide_eq_true_iff, tb_div]
theorem plN_tb (X : Nat → Nat) (h : Int) (e : Nat) : ∀ k j, (plN X h e k).testBit j = true ↔ (j < k ∧ (X (cellF h (j : Int)).toNat).testBit e = true) := by
  intro k
  induction k with
  | zero =>
    intro j
    constructor
    · intro z
      have z : (0 : Nat).testBit j = true := z
      rw [Nat.zero_testBit] at z
      cases z
    · rintro ⟨z, -⟩
      exact absurd z (Nat.not_lt_zero _)
  | succ k ih =>
    intro j
    show (plN X h e k ||| X (cellF h k).toNat / 2 ^ e % 2 * 2 ^ k).testBit j = true ↔ _
    rw [Nat.testBit_or, Bool.or_eq_true, ih j]
    have hb : (X (cellF h k).toNat / 2 ^ e % 2 * 2 ^ k).testBit j = true ↔ (j = k ∧ (X (cellF h k).toNat).testBit e = true) := by
      rw [tb_div (X (cellF h k).toNat) e]
      have h2 : X (cellF h k).toNat / 2 ^ e % 2 = 0 ∨ X (cellF h k).toNat / 2 ^ e % 2 = 1 := by omega
      rcases h2 with h2 | h2
      · rw [h2, Nat.zero_mul, Nat.zero_testBit]
        exact ⟨fun z => (by cases z), fun z => (by cases z.2)⟩
      · rw [h2, Nat.one_mul, pow_tb]
        exact ⟨fun z => ⟨z, rfl⟩, fun z => z.1⟩
    rw [hb]
    constructor
    · rintro (⟨h1, h2⟩ | ⟨h1, h2⟩)
      · exact ⟨by omega, h2⟩
      · subst h1
        exact ⟨by omega, h2⟩
    · rintro ⟨h1, h2⟩
      by_cases hjk : j = k
      · subst hjk
        exact Or.inr ⟨rfl, h2⟩
      · exact Or.inl ⟨by omega, h2⟩
theorem ins1_tb {X : Nat → Nat} {p v : Int} (hs : hid1C X p v) (c i : Nat) : (insY X 1 p v c).testBit i = true ↔ ((∃ j : Nat, j < 9 ∧ (X (cellF p (j : Int)).toNat).testBit (v - 1).toNat = true ∧ (c : Int) = cellF p (j : Int)) ∧ (i < 9 ∧ i ≠ (v - 1).toNat) ∧ (X c).testBit i = true) := by
  have hC : insC X 1 p v := Or.inr (Or.inl ⟨rfl, hs⟩)
  have hex : (∃ j : Nat, j < 9 ∧ bitB (plN X p (v - 1).toNat 9) j = true ∧ (c : Int) = cellF p (j : Int)) ↔ ∃ j : Nat, j < 9 ∧ (X (cellF p (j : Int)).toNat).testBit (v - 1).toNat = true ∧ (c : Int) = cellF p (j : Int) := by
    constructor
    · rintro ⟨j, h1, h2, h3⟩
      exact ⟨j, h1, ((plN_tb X p _ 9 j).1 ((bitB_tb _ _).1 h2)).2, h3⟩
    · rintro ⟨j, h1, h2, h3⟩
      exact ⟨j, h1, (bitB_tb _ _).2 ((plN_tb X p _ 9 j).2 ⟨h1, h2⟩), h3⟩
  unfold insY
  rw [cI_t hC, Nat.testBit_and, Bool.and_eq_true, show insG X 1 p v = hid1G X p v zrF from rfl]
  unfold hid1G
  by_cases hp : ∃ j : Nat, j < 9 ∧ bitB (plN X p (v - 1).toNat 9) j = true ∧ (c : Int) = cellF p (j : Int)
  · rw [gsF_hit 9 hp, Int.toNat_natCast, andN_bit, Bool.and_eq_true]
    have h511 : (511 : Nat).testBit i = true ↔ i < 9 := by
      rw [show (511 : Nat) = 2 ^ 9 - 1 from rfl, Nat.testBit_two_pow_sub_one, decide_eq_true_iff]
    have hnp : (!(2 ^ (v - 1).toNat).testBit i) = true ↔ i ≠ (v - 1).toNat := by
      rw [Bool.not_eq_true', ← Bool.not_eq_true, pow_tb]
    rw [h511, hnp]
    exact ⟨fun z => ⟨hex.1 hp, z⟩, fun z => z.2⟩
  · rw [gsF_mis 9 hp]
    constructor
    · rintro ⟨h, -⟩
      have h : (0 : Nat).testBit i = true := h
      rw [Nat.zero_testBit] at h
      cases h
    · rintro ⟨h, -⟩
      exact absurd (hex.2 h) hp
theorem pop1 : ∀ n : Fin 512, pop9 n.val = 1 → ∃ e : Fin 9, n.val = 2 ^ e.val := by decide +kernel
theorem pop1_pow : ∀ e : Fin 9, pop9 (2 ^ e.val) = 1 := by decide +kernel
theorem andN_tb (m n i : Nat) : (andN m n).testBit i = true ↔ (m.testBit i = true ∧ ¬ n.testBit i = true) := by
  rw [andN_bit, Bool.and_eq_true, Bool.not_eq_true', ← Bool.not_eq_true]
/-- what the first two rules take is in no closed board that lives -/
theorem ins0_keep {W Z : Nat → Nat} {p v : Nat} (hp : p < 81) (hv : 1 ≤ v ∧ v ≤ 9) (hZ : ClosedI Z) (hU : Undead Z) (hs : SubB Z W) {c i : Nat} (hc : c < 81) (hz : (Z c).testBit i = true) : ¬ (insY W 0 (p : Int) (v : Int) c).testBit i = true := by
  intro hy
  by_cases hsc : singleC W (p : Int) (v : Int)
  · obtain ⟨h1, h2, h3⟩ := (ins0_tb hsc c i).1 hy
    have hWp := hsc.2.2
    rw [Int.toNat_natCast] at hWp
    have hZp : Z p = 2 ^ ((v : Int) - 1).toNat := by
      apply Nat.eq_of_testBit_eq
      intro j
      obtain ⟨j0, hj0⟩ := nz_tb (hU.1 p hp)
      have e0 := hs p hp j0 hj0
      rw [hWp, pow_tb] at e0
      subst e0
      by_cases hj : (Z p).testBit j = true
      · have e1 := hs p hp j hj
        rw [hWp] at e1
        rw [hj, e1]
      · cases hb : (2 ^ ((v : Int) - 1).toNat).testBit j with
        | false =>
          cases hb2 : (Z p).testBit j with
          | false => rfl
          | true => exact absurd hb2 hj
        | true =>
          rw [pow_tb.1 hb] at hj
          exact absurd hj0 hj
    have hsz : singleC Z (p : Int) (v : Int) := ⟨hsc.1, hsc.2.1, by rw [Int.toNat_natCast]; exact hZp⟩
    have h9 := insN_z (hZ.1 p v hp hv.1 hv.2) (c := c) (i := i) hc (by omega)
    rw [(ins0_tb hsz c i).2 ⟨h1, h2, hz⟩] at h9
    cases h9
  · unfold insY at hy
    rw [cI_f (fun z => by
      rcases z with z | z | z | z | z | z | z
      · exact hsc z.2
      · exact absurd z.1 (by decide)
      · exact absurd z.1 (by decide)
      · exact absurd z.1 (by decide)
      · exact absurd z.1 (by decide)
      · exact absurd z.1 (by decide)
      · exact absurd z.1 (by decide)), Nat.zero_testBit] at hy
    cases hy
theorem ins1_keep {W Z : Nat → Nat} {p v : Nat} (hp : p < 27) (hv : 1 ≤ v ∧ v ≤ 9) (hZ : ClosedI Z) (hU : Undead Z) (hs : SubB Z W) {c i : Nat} (hc : c < 81) (hz : (Z c).testBit i = true) : ¬ (insY W 1 (p : Int) (v : Int) c).testBit i = true := by
  intro hy
  by_cases hsc : hid1C W (p : Int) (v : Int)
  · obtain ⟨⟨j, h1, h2, h3⟩, h4, h5⟩ := (ins1_tb hsc c i).1 hy
    have hpl := plN_lt W (p : Int) ((v : Int) - 1).toNat 9
    obtain ⟨e, he⟩ := pop1 ⟨_, hpl⟩ hsc.2.2
    dsimp only at he
    have hrg : ∀ k : Nat, k < 9 → (cellF (p : Int) (k : Int)).toNat < 81 := fun k hk => by
      have := cellF_rng (h := (p : Int)) (k := (k : Int)) (by omega) (by omega) (by omega) (by omega)
      omega
    have hZe : plN Z (p : Int) ((v : Int) - 1).toNat 9 = 2 ^ e.val := by
      obtain ⟨k, k1, k2⟩ := hU.2 p ((v : Int) - 1).toNat hp (by omega)
      have hin : ∀ k' : Nat, k' < 9 → (Z (cellF (p : Int) (k' : Int)).toNat).testBit ((v : Int) - 1).toNat = true → k' = e.val := fun k' q1 q2 => by
        have q3 := (plN_tb W (p : Int) ((v : Int) - 1).toNat 9 k').2 ⟨q1, hs _ (hrg k' q1) _ q2⟩
        rw [he] at q3
        exact pow_tb.1 q3
      apply Nat.eq_of_testBit_eq
      intro x
      by_cases hx : (plN Z (p : Int) ((v : Int) - 1).toNat 9).testBit x = true
      · have hx2 := (plN_tb Z (p : Int) _ 9 x).1 hx
        rw [hx, pow_tb.2 (hin x hx2.1 hx2.2)]
      · cases hb : (2 ^ e.val).testBit x with
        | false =>
          cases hb2 : (plN Z (p : Int) ((v : Int) - 1).toNat 9).testBit x with
          | false => rfl
          | true => exact absurd hb2 hx
        | true =>
          have e1 := pow_tb.1 hb
          have e2 := hin k k1 k2
          rw [e1, ← e2] at hx
          exact absurd ((plN_tb Z (p : Int) _ 9 k).2 ⟨k1, k2⟩) hx
    have hsz : hid1C Z (p : Int) (v : Int) := ⟨hsc.1, hsc.2.1, by rw [hZe]; exact pop1_pow e⟩
    have hj : (Z (cellF (p : Int) (j : Int)).toNat).testBit ((v : Int) - 1).toNat = true := by
      have q3 := (plN_tb W (p : Int) ((v : Int) - 1).toNat 9 j).2 ⟨h1, h2⟩
      rw [he] at q3
      have q4 : (plN Z (p : Int) ((v : Int) - 1).toNat 9).testBit j = true := by rw [hZe]; exact q3
      exact ((plN_tb Z (p : Int) _ 9 j).1 q4).2
    have h9 := insN_z (hZ.2 p v hp hv.1 hv.2) (c := c) (i := i) hc h4.1
    rw [(ins1_tb hsz c i).2 ⟨⟨j, h1, hj, h3⟩, h4, hz⟩] at h9
    cases h9
  · unfold insY at hy
    rw [cI_f (fun z => by
      rcases z with z | z | z | z | z | z | z
      · exact absurd z.1 (by decide)
      · exact hsc z.2
      · exact absurd z.1 (by decide)
      · exact absurd z.1 (by decide)
      · exact absurd z.1 (by decide)
      · exact absurd z.1 (by decide)
      · exact absurd z.1 (by decide)), Nat.zero_testBit] at hy
    cases hy
theorem CloI.step {W W2 Y : Nat → Nat} (h : CloI W W2) (hk : ∀ Z, ClosedI Z → Undead Z → SubB Z W2 → ∀ c, c < 81 → ∀ i, (Z c).testBit i = true → ¬ (Y c).testBit i = true) : CloI W (fun c => andN (W2 c) (Y c)) := by
  obtain ⟨h1, h2, h3⟩ := h
  refine ⟨fun c hc => andN_lt (k := 9) (h1 c hc), fun c hc i hi => h2 c hc i ((andN_tb _ _ _).1 hi).1, fun Z z1 z2 z3 c hc i hi => ?_⟩
  have h4 := h3 Z z1 z2 z3
  exact (andN_tb _ _ _).2 ⟨h4 c hc i hi, hk Z z1 z2 h4 c hc i hi⟩
theorem cnt_ins {X : Nat → Nat} {r p v : Int} (h : insN X r p v ≠ 0) : cntX (fun c => andN (X c) (insY X r p v c)) < cntX X := by
  have h1 := cnt_split X (insY X r p v) (fun c _ => insY_sub _ _ _ _ _)
  have h2 : cntX (insY X r p v) = insN X r p v := rfl
  omega
/-- where a pass of closing is: nothing went yet, or something did -/
def PsC (W1 W2 : Nat → Nat) (m : Nat) (D : Prop) : Prop := (m = 0 ∧ W2 = W1 ∧ D) ∨ (m = 1 ∧ cntX W2 < cntX W1)
theorem PsC.le {W1 W2 : Nat → Nat} {m : Nat} {D : Prop} (h : PsC W1 W2 m D) : cntX W2 ≤ cntX W1 ∧ m ≤ 1 := by
  rcases h with ⟨h, rfl, -⟩ | ⟨h, h2⟩
  · omega
  · omega
theorem PsC.keep {W1 W2 : Nat → Nat} {m : Nat} {D D' : Prop} (h : PsC W1 W2 m D) (hd : W2 = W1 → D → D') : PsC W1 W2 m D' := by
  rcases h with ⟨h, e, h2⟩ | h
  · exact Or.inl ⟨h, e, hd e h2⟩
  · exact Or.inr h
theorem PsC.went {W1 W2 W3 : Nat → Nat} {m : Nat} {D D' : Prop} (h : PsC W1 W2 m D) (hd : cntX W3 < cntX W2) : PsC W1 W3 1 D' := Or.inr ⟨rfl, by have := h.le; omega⟩
theorem c_X9_closes {d : Nat} {G : GT} {M : MT} {o : Nat} {W : Nat → Nat} (hG : RefG G o) (hW : AtB M (o + 26) W) : Mq (d + 4) k_X9_closes [vR o] G M (fun z M' => z = none ∧ (∃ R, AtB M' (o + 26) R ∧ CloI W R ∧ ClosedI R) ∧ ∀ a, a ≠ o + 5 → a ≠ o + 26 → M' a = M a) := by
  have L_2 : ∀ (f m : Nat) (W1 : Nat → Nat) (M1 : MT) (y2 y3 : Option AV), cntX W1 + m < f → m ≤ 1 → (m = 0 → ClosedI W1) → AtB M1 (o + 26) W1 → CloI W W1 → (∀ a, a ≠ o + 5 → a ≠ o + 26 → M1 a = M a) → Wq (d + 4) k_X9_closes 2 [some (vR o), some (vI ((m : Nat) : Int)), y2, y3] [] G M1 (fun z M' => z = none ∧ (∃ R, AtB M' (o + 26) R ∧ CloI W R ∧ ClosedI R) ∧ ∀ a, a ≠ o + 5 → a ≠ o + 26 → M' a = M a) := by
    intro f
    induction f with
    | zero => intro m W1 M1 y2 y3 h; exact absurd h (by omega)
    | succ f ih =>
      intro m W1 M1 y2 y3 hf hm hcd hB1 hCl1 hFr1
      refine wq_s 3 rfl ?_
      refine wq_if 121 rfl rfl (by omega) (fun c_3 => ?_) (fun c_3 => ?_)
      · have c_3 := of_decide_eq_true c_3
        exact wq_ret rfl ⟨rfl, ⟨W1, hB1, hCl1, hcd (by omega)⟩, hFr1⟩
      · have c_3 := of_decide_eq_false c_3
        have em : m = 1 := by omega
        subst em
        have L_65 : ∀ (f2 p : Nat) (m : Nat) (W2 : Nat → Nat) (M2 : MT) (y3 : Option AV), 27 - p < f2 → p ≤ 27 → (AtB M2 (o + 26) W2) → (CloI W W2) → (PsC W1 W2 m ((∀ p1 v1 : Nat, p1 < 81 → 1 ≤ v1 → v1 ≤ 9 → insN W1 0 (p1 : Int) (v1 : Int) = 0) ∧ ∀ p1 v1 : Nat, p1 < 27 → 1 ≤ v1 → v1 ≤ 9 → (p1 < p ∨ (p1 = p ∧ v1 < 1)) → insN W1 1 (p1 : Int) (v1 : Int) = 0)) → (∀ a, a ≠ o + 5 → a ≠ o + 26 → M2 a = M a) → Wq (d + 4) k_X9_closes 65 [some (vR o), some (vI ((m : Nat) : Int)), some (vI ((p : Nat) : Int)), y3] [] G M2 (fun z M' => z = none ∧ (∃ R, AtB M' (o + 26) R ∧ CloI W R ∧ ClosedI R) ∧ ∀ a, a ≠ o + 5 → a ≠ o + 26 → M' a = M a) := by
          intro f2
          induction f2 with
          | zero => intro p m W2 M2 y3 h; exact absurd h (by omega)
          | succ f2 ih_p =>
            intro p m W2 M2 y3 hf_p hk_p hB hCl hPs hFr
            have hps := hPs.le
            refine wq_s 66 rfl ?_
            refine wq_s 68 rfl ?_
            refine wq_icmp 118 rfl rfl (by omega) (by omega) (fun c_68 => ?_) (fun c_68 => ?_)
            · have c_68 := of_decide_eq_true c_68
              have e9 : p = 27 := by omega
              subst e9
              refine wq_s 2 rfl ?_
              refine ih m W2 M2 _ _ (by
                rcases hPs with ⟨h, rfl, -⟩ | ⟨h, h2⟩
                · omega
                · omega) (by omega) (fun e => ?_) hB hCl hFr
              rcases hPs with ⟨-, rfl, hD⟩ | ⟨h, -⟩
              · exact ⟨hD.1, fun p1 v1 h1 h2 h3 => hD.2 p1 v1 h1 h2 h3 (by omega)⟩
              · omega
            · have c_68 := of_decide_eq_false c_68
              have L_73 : ∀ (f3 v : Nat) (m : Nat) (W2 : Nat → Nat) (M2 : MT), 10 - v < f3 → v ≤ 10 → (1 ≤ v) → (AtB M2 (o + 26) W2) → (CloI W W2) → (PsC W1 W2 m ((∀ p1 v1 : Nat, p1 < 81 → 1 ≤ v1 → v1 ≤ 9 → insN W1 0 (p1 : Int) (v1 : Int) = 0) ∧ ∀ p1 v1 : Nat, p1 < 27 → 1 ≤ v1 → v1 ≤ 9 → (p1 < p ∨ (p1 = p ∧ v1 < v)) → insN W1 1 (p1 : Int) (v1 : Int) = 0)) → (∀ a, a ≠ o + 5 → a ≠ o + 26 → M2 a = M a) → Wq (d + 4) k_X9_closes 73 [some (vR o), some (vI ((m : Nat) : Int)), some (vI ((p : Nat) : Int)), some (vI ((v : Nat) : Int))] [] G M2 (fun z M' => z = none ∧ (∃ R, AtB M' (o + 26) R ∧ CloI W R ∧ ClosedI R) ∧ ∀ a, a ≠ o + 5 → a ≠ o + 26 → M' a = M a) := by
                intro f3
                induction f3 with
                | zero => intro v m W2 M2 h; exact absurd h (by omega)
                | succ f3 ih_v =>
                  intro v m W2 M2 hf_v hk_v hv1 hB hCl hPs hFr
                  have hps := hPs.le
                  refine wq_s 74 rfl ?_
                  refine wq_s 76 rfl ?_
                  refine wq_icmp 112 rfl rfl (by omega) (by omega) (fun c_76 => ?_) (fun c_76 => ?_)
                  · have c_76 := of_decide_eq_true c_76
                    have e9 : v = 10 := by omega
                    subst e9
                    refine we_inc 2 1 ((p + 1 : Nat) : Int) 115 _ rfl rfl rfl (by omega) (by omega) rfl ?_
                    refine wq_s 65 rfl ?_
                    refine ih_p (p + 1) m _ _ _ (by omega) (by omega) hB hCl (hPs.keep (fun e hD => ?_)) hFr
                    exact ⟨hD.1, fun p1 v1 h1 h2 h3 h4 => hD.2 p1 v1 h1 h2 h3 (by omega)⟩
                  · have c_76 := of_decide_eq_false c_76
                    refine wq_s 80 rfl ?_
                    refine wq_s 81 rfl ?_
                    refine wq_getR 84 rfl rfl hG.ob hG.2.2.1 rfl ?_
                    refine wq_s 85 rfl ?_
                    refine wq_s 86 rfl ?_
                    refine wq_s 87 rfl ?_
                    have hle := insN_le W2 1 (p : Int) (v : Int)
                    refine wq_vt4 90 rfl rfl (Nat.le_of_ble_eq_true rfl) hG.ob hG.2.2.1 rfl (Nat.le_of_ble_eq_true rfl) (c_X9_instance (X := W2) (r := 1) (p := (p : Int)) (v := (v : Int)) hG hG.a_work.1.2 hG.a_work.2 (by omega) hB (by decide) (by omega) (by omega)) (fun z M3 hz => ?_)
                    obtain ⟨rfl, hY, hF3⟩ := hz
                    dsimp only [Option.toList, List.cons_append, List.nil_append]
                    have hB3 : AtB M3 (o + 26) W2 := hB.fr (hF3 _ (by omega))
                    have hFr3 : ∀ a, a ≠ o + 5 → a ≠ o + 26 → M3 a = M a := fun a h1 h2 => (hF3 a h1).trans (hFr a h1 h2)
                    refine wq_if 96 rfl rfl (by omega) (fun c_90 => ?_) (fun c_90 => ?_)
                    · have c_90 := of_decide_eq_true c_90
                      refine wq_s 97 rfl ?_
                      refine wq_s 98 rfl ?_
                      refine wq_getR 101 rfl rfl hG.ob hG.2.2.1 rfl ?_
                      refine wq_vt1 104 rfl rfl (Nat.le_of_ble_eq_true rfl) hG.ob hG.2.2.1 rfl (Nat.le_of_ble_eq_true rfl) (c_X9_goes (X := W2) (Y := insY W2 1 (p : Int) (v : Int)) hG hG.a_work.1 hG.a_work.2 (by omega) hB3 hY) (fun z M5 hz => ?_)
                      obtain ⟨rfl, hM5⟩ := hz
                      dsimp only [Option.toList, List.cons_append, List.nil_append]
                      have hB5 : AtB M5 (o + 26) (fun c => andN (W2 c) (insY W2 1 (p : Int) (v : Int) c)) := fun c hc => by
                        rw [hM5, setA_lo (by omega) (by omega), Int.toNat_natCast]
                        exact ⟨rfl, andN_lt (k := 9) (hB c hc).2⟩
                      have hFr5 : ∀ a, a ≠ o + 5 → a ≠ o + 26 → M5 a = M a := fun a h1 h2 => by rw [hM5, setA_ne h2]; exact hFr3 a h1 h2
                      have hcn := cnt_ins (X := W2) (r := 1) (p := (p : Int)) (v := (v : Int)) (by omega)
                      have hCl5 : CloI W (fun c => andN (W2 c) (insY W2 1 (p : Int) (v : Int) c)) := hCl.step (fun Z z1 z2 z3 c hc i hi => ins1_keep (by omega) (by omega) z1 z2 z3 hc hi)
                      refine wq_s 105 rfl ?_
                      refine wq_s 106 rfl ?_
                      refine we_inc 3 1 ((v + 1 : Nat) : Int) 109 _ rfl rfl rfl (by omega) (by omega) rfl ?_
                      refine wq_s 73 rfl ?_
                      exact ih_v (v + 1) 1 _ _ (by omega) (by omega) (by omega) hB5 hCl5 (hPs.went hcn) hFr5
                    · have c_90 := of_decide_eq_false c_90
                      refine wq_s 106 rfl ?_
                      refine we_inc 3 1 ((v + 1 : Nat) : Int) 109 _ rfl rfl rfl (by omega) (by omega) rfl ?_
                      refine wq_s 73 rfl ?_
                      refine ih_v (v + 1) m _ _ (by omega) (by omega) (by omega) hB3 hCl (hPs.keep (fun e hD => ?_)) hFr3
                      refine ⟨hD.1, fun p1 v1 h1 h2 h3 h4 => ?_⟩
                      by_cases hpv : p1 = p ∧ v1 = v
                      · rw [hpv.1, hpv.2, ← e]
                        omega
                      · exact hD.2 p1 v1 h1 h2 h3 (by omega)
              refine wq_s 72 rfl ?_
              refine wq_s 73 rfl ?_
              refine L_73 10 1 m _ _ (by omega) (by omega) (by omega) hB hCl (hPs.keep (fun e hD => ?_)) hFr
              exact ⟨hD.1, fun p1 v1 h1 h2 h3 h4 => hD.2 p1 v1 h1 h2 h3 (by omega)⟩
        have L_10 : ∀ (f2 p : Nat) (m : Nat) (W2 : Nat → Nat) (M2 : MT) (y3 : Option AV), 81 - p < f2 → p ≤ 81 → (AtB M2 (o + 26) W2) → (CloI W W2) → (PsC W1 W2 m (∀ p1 v1 : Nat, p1 < 81 → 1 ≤ v1 → v1 ≤ 9 → (p1 < p ∨ (p1 = p ∧ v1 < 1)) → insN W1 0 (p1 : Int) (v1 : Int) = 0)) → (∀ a, a ≠ o + 5 → a ≠ o + 26 → M2 a = M a) → Wq (d + 4) k_X9_closes 10 [some (vR o), some (vI ((m : Nat) : Int)), some (vI ((p : Nat) : Int)), y3] [] G M2 (fun z M' => z = none ∧ (∃ R, AtB M' (o + 26) R ∧ CloI W R ∧ ClosedI R) ∧ ∀ a, a ≠ o + 5 → a ≠ o + 26 → M' a = M a) := by
          intro f2
          induction f2 with
          | zero => intro p m W2 M2 y3 h; exact absurd h (by omega)
          | succ f2 ih_p =>
            intro p m W2 M2 y3 hf_p hk_p hB hCl hPs hFr
            have hps := hPs.le
            refine wq_s 11 rfl ?_
            refine wq_s 13 rfl ?_
            refine wq_icmp 63 rfl rfl (by omega) (by omega) (fun c_13 => ?_) (fun c_13 => ?_)
            · have c_13 := of_decide_eq_true c_13
              have e9 : p = 81 := by omega
              subst e9
              refine wq_s 64 rfl ?_
              refine wq_s 65 rfl ?_
              exact L_65 28 0 m _ _ _ (by omega) (by omega) hB hCl (hPs.keep (fun e hD => ⟨fun p1 v1 h1 h2 h3 => hD p1 v1 h1 h2 h3 (by omega), fun p1 v1 h1 h2 h3 h4 => absurd h4 (by omega)⟩)) hFr
            · have c_13 := of_decide_eq_false c_13
              have L_18 : ∀ (f3 v : Nat) (m : Nat) (W2 : Nat → Nat) (M2 : MT), 10 - v < f3 → v ≤ 10 → (1 ≤ v) → (AtB M2 (o + 26) W2) → (CloI W W2) → (PsC W1 W2 m (∀ p1 v1 : Nat, p1 < 81 → 1 ≤ v1 → v1 ≤ 9 → (p1 < p ∨ (p1 = p ∧ v1 < v)) → insN W1 0 (p1 : Int) (v1 : Int) = 0)) → (∀ a, a ≠ o + 5 → a ≠ o + 26 → M2 a = M a) → Wq (d + 4) k_X9_closes 18 [some (vR o), some (vI ((m : Nat) : Int)), some (vI ((p : Nat) : Int)), some (vI ((v : Nat) : Int))] [] G M2 (fun z M' => z = none ∧ (∃ R, AtB M' (o + 26) R ∧ CloI W R ∧ ClosedI R) ∧ ∀ a, a ≠ o + 5 → a ≠ o + 26 → M' a = M a) := by
                intro f3
                induction f3 with
                | zero => intro v m W2 M2 h; exact absurd h (by omega)
                | succ f3 ih_v =>
                  intro v m W2 M2 hf_v hk_v hv1 hB hCl hPs hFr
                  have hps := hPs.le
                  refine wq_s 19 rfl ?_
                  refine wq_s 21 rfl ?_
                  refine wq_icmp 57 rfl rfl (by omega) (by omega) (fun c_21 => ?_) (fun c_21 => ?_)
                  · have c_21 := of_decide_eq_true c_21
                    have e9 : v = 10 := by omega
                    subst e9
                    refine we_inc 2 1 ((p + 1 : Nat) : Int) 60 _ rfl rfl rfl (by omega) (by omega) rfl ?_
                    refine wq_s 10 rfl ?_
                    refine ih_p (p + 1) m _ _ _ (by omega) (by omega) hB hCl (hPs.keep (fun e hD => ?_)) hFr
                    intro p1 v1 h1 h2 h3 h4
                    exact hD p1 v1 h1 h2 h3 (by omega)
                  · have c_21 := of_decide_eq_false c_21
                    refine wq_s 25 rfl ?_
                    refine wq_s 26 rfl ?_
                    refine wq_getR 29 rfl rfl hG.ob hG.2.2.1 rfl ?_
                    refine wq_s 30 rfl ?_
                    refine wq_s 31 rfl ?_
                    refine wq_s 32 rfl ?_
                    have hle := insN_le W2 0 (p : Int) (v : Int)
                    refine wq_vt4 35 rfl rfl (Nat.le_of_ble_eq_true rfl) hG.ob hG.2.2.1 rfl (Nat.le_of_ble_eq_true rfl) (c_X9_instance (X := W2) (r := 0) (p := (p : Int)) (v := (v : Int)) hG hG.a_work.1.2 hG.a_work.2 (by omega) hB (by decide) (by omega) (by omega)) (fun z M3 hz => ?_)
                    obtain ⟨rfl, hY, hF3⟩ := hz
                    dsimp only [Option.toList, List.cons_append, List.nil_append]
                    have hB3 : AtB M3 (o + 26) W2 := hB.fr (hF3 _ (by omega))
                    have hFr3 : ∀ a, a ≠ o + 5 → a ≠ o + 26 → M3 a = M a := fun a h1 h2 => (hF3 a h1).trans (hFr a h1 h2)
                    refine wq_if 41 rfl rfl (by omega) (fun c_35 => ?_) (fun c_35 => ?_)
                    · have c_35 := of_decide_eq_true c_35
                      refine wq_s 42 rfl ?_
                      refine wq_s 43 rfl ?_
                      refine wq_getR 46 rfl rfl hG.ob hG.2.2.1 rfl ?_
                      refine wq_vt1 49 rfl rfl (Nat.le_of_ble_eq_true rfl) hG.ob hG.2.2.1 rfl (Nat.le_of_ble_eq_true rfl) (c_X9_goes (X := W2) (Y := insY W2 0 (p : Int) (v : Int)) hG hG.a_work.1 hG.a_work.2 (by omega) hB3 hY) (fun z M5 hz => ?_)
                      obtain ⟨rfl, hM5⟩ := hz
                      dsimp only [Option.toList, List.cons_append, List.nil_append]
                      have hB5 : AtB M5 (o + 26) (fun c => andN (W2 c) (insY W2 0 (p : Int) (v : Int) c)) := fun c hc => by
                        rw [hM5, setA_lo (by omega) (by omega), Int.toNat_natCast]
                        exact ⟨rfl, andN_lt (k := 9) (hB c hc).2⟩
                      have hFr5 : ∀ a, a ≠ o + 5 → a ≠ o + 26 → M5 a = M a := fun a h1 h2 => by rw [hM5, setA_ne h2]; exact hFr3 a h1 h2
                      have hcn := cnt_ins (X := W2) (r := 0) (p := (p : Int)) (v := (v : Int)) (by omega)
                      have hCl5 : CloI W (fun c => andN (W2 c) (insY W2 0 (p : Int) (v : Int) c)) := hCl.step (fun Z z1 z2 z3 c hc i hi => ins0_keep (by omega) (by omega) z1 z2 z3 hc hi)
                      refine wq_s 50 rfl ?_
                      refine wq_s 51 rfl ?_
                      refine we_inc 3 1 ((v + 1 : Nat) : Int) 54 _ rfl rfl rfl (by omega) (by omega) rfl ?_
                      refine wq_s 18 rfl ?_
                      exact ih_v (v + 1) 1 _ _ (by omega) (by omega) (by omega) hB5 hCl5 (hPs.went hcn) hFr5
                    · have c_35 := of_decide_eq_false c_35
                      refine wq_s 51 rfl ?_
                      refine we_inc 3 1 ((v + 1 : Nat) : Int) 54 _ rfl rfl rfl (by omega) (by omega) rfl ?_
                      refine wq_s 18 rfl ?_
                      refine ih_v (v + 1) m _ _ (by omega) (by omega) (by omega) hB3 hCl (hPs.keep (fun e hD => ?_)) hFr3
                      intro p1 v1 h1 h2 h3 h4
                      by_cases hpv : p1 = p ∧ v1 = v
                      · rw [hpv.1, hpv.2, ← e]
                        omega
                      · exact hD p1 v1 h1 h2 h3 (by omega)
              refine wq_s 17 rfl ?_
              refine wq_s 18 rfl ?_
              refine L_18 10 1 m _ _ (by omega) (by omega) (by omega) hB hCl (hPs.keep (fun e hD => ?_)) hFr
              intro p1 v1 h1 h2 h3 h4
              exact hD p1 v1 h1 h2 h3 (by omega)
        refine wq_s 7 rfl ?_
        refine wq_s 8 rfl ?_
        refine wq_s 9 rfl ?_
        refine wq_s 10 rfl ?_
        exact L_10 82 0 0 W1 M1 _ (by omega) (by omega) hB1 hCl1 (Or.inl ⟨rfl, rfl, fun p1 v1 h1 h2 h3 h4 => absurd h4 (by omega)⟩) hFr1
  refine wq_s 1 rfl ?_
  refine wq_s 2 rfl ?_
  exact L_2 (cntX W + 2) 1 W M none none (by omega) (by omega) (fun h => absurd h (by decide)) hW ⟨fun c hc => (hW c hc).2, fun c _ i hi => hi, fun Z _ _ h => h⟩ (fun _ _ _ => rfl)
