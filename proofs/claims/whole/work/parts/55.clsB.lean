/-! shape and boards -/
def posF (c s : Int) : Int := if s = 0 then c % 9 else if s = 1 then c / 9 else 3 * (c / 9 % 3) + c % 9 % 3
def hoN (c s : Nat) : Nat := (houseF (c : Int) (s : Int)).toNat
def poN (c s : Nat) : Nat := (posF (c : Int) (s : Int)).toNat
def ceN (h k : Nat) : Nat := (cellF (h : Int) (k : Int)).toNat
def srN (h : Nat) : Nat := if h < 9 then 0 else if h < 18 then 1 else 2
theorem ho_all : ∀ (c : Fin 81) (s : Fin 3), ceN (hoN c.val s.val) (poN c.val s.val) = c.val ∧ srN (hoN c.val s.val) = s.val ∧ hoN c.val s.val < 27 ∧ poN c.val s.val < 9 := by decide +kernel
theorem ce_all : ∀ (h : Fin 27) (k : Fin 9), hoN (ceN h.val k.val) (srN h.val) = h.val ∧ poN (ceN h.val k.val) (srN h.val) = k.val ∧ ceN h.val k.val < 81 := by decide +kernel
theorem ho_ok {c s : Nat} (hc : c < 81) (hs : s < 3) : ceN (hoN c s) (poN c s) = c ∧ srN (hoN c s) = s ∧ hoN c s < 27 ∧ poN c s < 9 := ho_all ⟨c, hc⟩ ⟨s, hs⟩
theorem ce_ok {h k : Nat} (hh : h < 27) (hk : k < 9) : hoN (ceN h k) (srN h) = h ∧ poN (ceN h k) (srN h) = k ∧ ceN h k < 81 := ce_all ⟨h, hh⟩ ⟨k, hk⟩
def shB (c n : Nat) : Bool := decide (hoN c 0 = hoN n 0 ∨ hoN c 1 = hoN n 1 ∨ hoN c 2 = hoN n 2)
def nrL (c : Nat) : Nat → List Nat
  | 0 => []
  | n + 1 => if shB c n = true then nrL c n ++ [n] else nrL c n
theorem nr_len : ∀ c : Fin 81, (nrL c.val 81).length = 21 := by decide +kernel
/-- what the shape's rows hold -/
def ShpAt (M : MT) : Prop := (∀ h k : Nat, h < 27 → k < 9 → M 6 ((9 * h + k : Nat) : Int) = ((ceN h k : Nat) : Int)) ∧ (∀ c s : Nat, c < 81 → s < 3 → M 7 ((3 * c + s : Nat) : Int) = ((hoN c s : Nat) : Int) ∧ M 8 ((3 * c + s : Nat) : Int) = ((poN c s : Nat) : Int)) ∧ ∀ c i : Nat, c < 81 → i < 21 → M 9 ((21 * c + i : Nat) : Int) = (((nrL c 81).getD i 0 : Nat) : Int)
theorem ShpAt.fr {M M' : MT} (h : ShpAt M) (h6 : M' 6 = M 6) (h7 : M' 7 = M 7) (h8 : M' 8 = M 8) (h9 : M' 9 = M 9) : ShpAt M' := by
  unfold ShpAt
  rw [h6, h7, h8, h9]
  exact h
/-- a digit's places in a house -/
def plH (X : Nat → Nat) (h e : Nat) : Nat := plN X (h : Int) e 9
theorem plH_lt (X : Nat → Nat) (h e : Nat) : plH X h e < 512 := plN_lt X (h : Int) e 9
theorem plH_tb (X : Nat → Nat) (h e j : Nat) : (plH X h e).testBit j = true ↔ (j < 9 ∧ (X (ceN h j)).testBit e = true) := plN_tb X (h : Int) e 9 j
/-- a board's cells and places -/
def BdP (M : MT) (b : Nat) (X P : Nat → Nat) : Prop := AtB M (b + 1) X ∧ ∀ h e : Nat, h < 27 → e < 9 → M (b + 2) ((9 * h + e : Nat) : Int) = ((plH P h e : Nat) : Int)
abbrev BdC (M : MT) (b : Nat) (X : Nat → Nat) : Prop := BdP M b X X
def LgAt (M : MT) (b : Nat) (lg : List Nat) : Prop := M b 4 = (lg.length : Int) ∧ lg.length ≤ 729 ∧ ∀ i, i < lg.length → M (b + 3) (i : Int) = ((lg.getD i 0 : Nat) : Int) ∧ lg.getD i 0 < 729
def BdAt (M : MT) (b : Nat) (X : Nat → Nat) (lg : List Nat) : Prop := BdC M b X ∧ LgAt M b lg
theorem BdC.fr {M M' : MT} {b : Nat} {X : Nat → Nat} (h : BdC M b X) (h1 : M' (b + 1) = M (b + 1)) (h2 : M' (b + 2) = M (b + 2)) : BdC M' b X := ⟨h.1.fr h1, fun x e hx he => by rw [h2]; exact h.2 x e hx he⟩
theorem LgAt.fr {M M' : MT} {b : Nat} {lg : List Nat} (h : LgAt M b lg) (h1 : M' b = M b) (h2 : M' (b + 3) = M (b + 3)) : LgAt M' b lg := by
  obtain ⟨e1, e2, e3⟩ := h
  refine ⟨by rw [h1]; exact e1, e2, fun i hi => ?_⟩
  rw [h2]
  exact e3 i hi
theorem BdAt.fr {M M' : MT} {b : Nat} {X : Nat → Nat} {lg : List Nat} (h : BdAt M b X lg) (he : ∀ a, b ≤ a → a ≤ b + 3 → M' a = M a) : BdAt M' b X lg := ⟨h.1.fr (he _ (by omega) (by omega)) (he _ (by omega) (by omega)), h.2.fr (he _ (by omega) (by omega)) (he _ (by omega) (by omega))⟩
def xoA (X : Nat → Nat) (n : Nat) : Nat → Nat := fun c => if c = n / 9 then X c ^^^ 2 ^ (n % 9) else X c
theorem xoA_xoA (X : Nat → Nat) (n : Nat) : xoA (xoA X n) n = X := by
  funext c
  unfold xoA
  by_cases h : c = n / 9
  · rw [if_pos h, if_pos h, Nat.xor_assoc, Nat.xor_self, Nat.xor_zero]
  · rw [if_neg h, if_neg h]
theorem xoA_tb (X : Nat → Nat) (n c e : Nat) : (xoA X n c).testBit e = true ↔ ((X c).testBit e = true ∧ ¬ (c = n / 9 ∧ e = n % 9)) ∨ (¬ (X c).testBit e = true ∧ (c = n / 9 ∧ e = n % 9)) := by
  unfold xoA
  by_cases h : c = n / 9
  · rw [if_pos h, Nat.testBit_xor, Nat.testBit_two_pow]
    by_cases he : n % 9 = e
    · rw [decide_eq_true he]
      cases (X c).testBit e
      · exact ⟨fun _ => Or.inr ⟨fun z => (by cases z), h, he.symm⟩, fun _ => rfl⟩
      · exact ⟨fun z => (by cases z), fun z => z.elim (fun y => absurd ⟨h, he.symm⟩ y.2) (fun y => absurd rfl y.1)⟩
    · rw [decide_eq_false he]
      cases (X c).testBit e
      · exact ⟨fun z => (by cases z), fun z => z.elim (fun y => (by cases y.1)) (fun y => absurd y.2.2.symm he)⟩
      · exact ⟨fun _ => Or.inl ⟨rfl, fun z => he z.2.symm⟩, fun _ => rfl⟩
  · rw [if_neg h]
    exact ⟨fun z => Or.inl ⟨z, fun y => h y.1⟩, fun z => z.elim (fun y => y.1) (fun y => absurd y.2.1 h)⟩
theorem tb_ext {x y : Nat} (h : ∀ i, x.testBit i = true ↔ y.testBit i = true) : x = y := Nat.eq_of_testBit_eq fun i => by
  cases hx : x.testBit i with
  | true => exact ((h i).1 hx).symm
  | false =>
    cases hy : y.testBit i with
    | false => rfl
    | true =>
      rw [(h i).2 hy] at hx
      cases hx
theorem xo_tb (x k i : Nat) : (x ^^^ 2 ^ k).testBit i = true ↔ ((x.testBit i = true ∧ ¬ i = k) ∨ (¬ x.testBit i = true ∧ i = k)) := by
  rw [Nat.testBit_xor, Nat.testBit_two_pow]
  by_cases he : k = i
  · rw [decide_eq_true he]
    cases x.testBit i
    · exact ⟨fun _ => Or.inr ⟨fun z => (by cases z), he.symm⟩, fun _ => rfl⟩
    · exact ⟨fun z => (by cases z), fun z => z.elim (fun y => absurd he.symm y.2) (fun y => absurd rfl y.1)⟩
  · rw [decide_eq_false he]
    cases x.testBit i
    · exact ⟨fun z => (by cases z), fun z => z.elim (fun y => (by cases y.1)) (fun y => absurd y.2.symm he)⟩
    · exact ⟨fun _ => Or.inl ⟨rfl, fun z => he z.symm⟩, fun _ => rfl⟩
/-- one place more or less in each of the cell's houses -/
theorem pl_flip {X : Nat → Nat} {n s : Nat} (hn : n < 729) (hs : s < 3) : plH X (hoN (n / 9) s) (n % 9) ^^^ 2 ^ poN (n / 9) s = plH (xoA X n) (hoN (n / 9) s) (n % 9) := by
  obtain ⟨h1, h2, h3, h4⟩ := ho_ok (c := n / 9) (s := s) (by omega) hs
  apply tb_ext
  intro i
  rw [xo_tb, plH_tb, plH_tb, xoA_tb]
  have hi : i < 9 → (ceN (hoN (n / 9) s) i = n / 9 ↔ i = poN (n / 9) s) := fun hi => by
    constructor
    · intro z
      have h5 := ce_ok h3 hi
      rw [h2, z] at h5
      exact h5.2.1.symm
    · intro z
      rw [z, h1]
  constructor
  · rintro (⟨⟨g1, g2⟩, g3⟩ | ⟨g1, g2⟩)
    · exact ⟨g1, Or.inl ⟨g2, fun z => g3 ((hi g1).1 z.1)⟩⟩
    · have hi9 : i < 9 := by omega
      exact ⟨hi9, Or.inr ⟨fun z => g1 ⟨hi9, z⟩, (hi hi9).2 g2, rfl⟩⟩
  · rintro ⟨g1, ⟨g2, g3⟩ | ⟨g2, g3⟩⟩
    · exact Or.inl ⟨⟨g1, g2⟩, fun z => g3 ⟨(hi g1).2 z, rfl⟩⟩
    · exact Or.inr ⟨fun z => g2 z.2, (hi g1).1 g3.1⟩
theorem pl_same {X : Nat → Nat} {n h e : Nat} (hh : h < 27) (hx : ¬ (e = n % 9 ∧ h = hoN (n / 9) (srN h))) : plH (xoA X n) h e = plH X h e := by
  apply tb_ext
  intro i
  rw [plH_tb, plH_tb, xoA_tb]
  constructor
  · rintro ⟨g1, ⟨g2, g3⟩ | ⟨g2, g3, g4⟩⟩
    · exact ⟨g1, g2⟩
    · exfalso
      apply hx
      refine ⟨g4, ?_⟩
      rw [← g3]
      exact (ce_ok hh g1).1.symm
  · rintro ⟨g1, g2⟩
    refine ⟨g1, Or.inl ⟨g2, fun z => hx ⟨z.2, ?_⟩⟩⟩
    rw [← z.1]
    exact (ce_ok hh g1).1.symm
theorem c_X0_flipP {d : Nat} {G : GT} {M : MT} {b n : Nat} {X P : Nat → Nat} (hC : ClsG G) (hb : IsBd b) (hS : ShpAt M) (hB : BdP M b X P) (hn : n < 729) : Mq d k_X0_flip [vR b, vI (n : Int)] G M (fun r M' => r = none ∧ BdP M' b (xoA X n) (xoA P n) ∧ ∀ a, a ≠ b + 1 → a ≠ b + 2 → M' a = M a) := by
  have hpw := pw9 n
  have hxc := (hB.1 (n / 9) (by omega)).2
  have hxo := xor_lt2 (m := X (n / 9)) (n := 2 ^ (n % 9)) (k := 9) hxc (by omega)
  have L_25 : ∀ (f s : Nat) (M2 : MT) (y5 : Option AV), 3 - s < f → s ≤ 3 → (AtB M2 (b + 1) (xoA X n)) → (∀ h e : Nat, h < 27 → e < 9 → M2 (b + 2) ((9 * h + e : Nat) : Int) = (((if e = n % 9 ∧ ∃ s1, s1 < s ∧ h = hoN (n / 9) s1 then plH (xoA P n) h e else plH P h e) : Nat) : Int)) → (∀ a, a ≠ b + 1 → a ≠ b + 2 → M2 a = M a) → Wq (d) k_X0_flip 25 [some (vR b), some (vI ((n : Nat) : Int)), some (vI ((n / 9 : Nat) : Int)), some (vI ((n % 9 : Nat) : Int)), some (vI ((s : Nat) : Int)), y5] [] G M2 (fun r M' => r = none ∧ BdP M' b (xoA X n) (xoA P n) ∧ ∀ a, a ≠ b + 1 → a ≠ b + 2 → M' a = M a) := by
    intro f
    induction f with
    | zero => intro s M2 y5 h; exact absurd h (by omega)
    | succ f ih_s =>
      intro s M2 y5 hf_s hk_s a1 a2 a3
      refine wq_s 27 rfl ?_
      refine wq_s 28 rfl ?_
      refine wq_icmp 84 rfl rfl (by omega) (by omega) (fun c_28 => ?_) (fun c_28 => ?_)
      · have c_28 := of_decide_eq_true c_28
        have e9 : s = 3 := by omega
        subst e9
        exact wq_ret rfl ⟨rfl, ⟨a1, fun h e hh he => (by
            rw [a2 h e hh he]
            by_cases hy : e = n % 9 ∧ ∃ s1, s1 < 3 ∧ h = hoN (n / 9) s1
            · rw [if_pos hy]
            · rw [if_neg hy, pl_same hh (fun z => hy ⟨z.1, srN h, (by unfold srN; (repeat' split) <;> omega), z.2⟩)])⟩, a3⟩
      · have c_28 := of_decide_eq_false c_28
        have ho := ho_ok (c := n / 9) (s := s) (by omega) (by omega)
        have ho3 := ho.2.2.1
        have hpp : 2 ^ poN (n / 9) s ≤ 2 ^ 8 := Nat.pow_le_pow_right (by decide) (by omega)
        have hpl := plH_lt P (hoN (n / 9) s) (n % 9)
        have hnew : ¬ (n % 9 = n % 9 ∧ ∃ s1, s1 < s ∧ hoN (n / 9) s = hoN (n / 9) s1) := by
          rintro ⟨-, s1, g1, g2⟩
          have e1 := (ho_ok (c := n / 9) (s := s1) (by omega) (by omega)).2.1
          rw [← g2, ho.2.1] at e1
          omega
        refine wq_s 32 rfl ?_
        refine wq_getR 35 rfl rfl (hC.lt (by omega)) (hC.bd hb).1 rfl ?_
        refine wq_getR 38 rfl rfl (hC.lt (by omega)) (hC.ty 1 _ rfl) rfl ?_
        refine wq_s 39 rfl ?_
        refine wq_s 40 rfl ?_
        refine we_mul ((3 * (n / 9) : Nat) : Int) 41 rfl rfl (by omega) (by omega) ?_
        refine wq_s 43 rfl ?_
        refine we_add (((3 * (n / 9)) + s : Nat) : Int) 44 rfl rfl (by omega) (by omega) ?_
        refine wq_iald (v := ((hoN (n / 9) s : Nat) : Int)) 45 rfl rfl (hC.lt (by omega)).2 (hC.ty 3 _ rfl) (by omega) (by omega) (by omega) (by rw [a3 _ (by omega) (by omega)]; exact (hS.2.1 (n / 9) s (by omega) (by omega)).1) ?_
        refine wq_s 47 rfl ?_
        refine wq_s 48 rfl ?_
        refine wq_getR 51 rfl rfl (hC.lt (by omega)) (hC.bd hb).1 rfl ?_
        refine wq_s 53 rfl ?_
        refine wq_s 55 rfl ?_
        refine we_mul ((9 * (hoN (n / 9) s) : Nat) : Int) 56 rfl rfl (by omega) (by omega) ?_
        refine wq_s 57 rfl ?_
        refine we_add (((9 * (hoN (n / 9) s)) + (n % 9) : Nat) : Int) 58 rfl rfl (by omega) (by omega) ?_
        refine wq_s 59 rfl ?_
        refine wq_iald (v := ((plH P (hoN (n / 9) s) (n % 9) : Nat) : Int)) 60 rfl rfl (hC.lt (by omega)).2 (hC.bd hb).2.2.1 (by omega) (by omega) (by omega) (by rw [a2 _ _ ho.2.2.1 (by omega), if_neg hnew]) ?_
        refine wq_s 61 rfl ?_
        refine wq_s 62 rfl ?_
        refine wq_getR 65 rfl rfl (hC.lt (by omega)) (hC.bd hb).1 rfl ?_
        refine wq_getR 68 rfl rfl (hC.lt (by omega)) (hC.ty 1 _ rfl) rfl ?_
        refine wq_s 69 rfl ?_
        refine wq_s 70 rfl ?_
        refine we_mul ((3 * (n / 9) : Nat) : Int) 71 rfl rfl (by omega) (by omega) ?_
        refine wq_s 73 rfl ?_
        refine we_add (((3 * (n / 9)) + s : Nat) : Int) 74 rfl rfl (by omega) (by omega) ?_
        refine wq_iald (v := ((poN (n / 9) s : Nat) : Int)) 75 rfl rfl (hC.lt (by omega)).2 (hC.ty 4 _ rfl) (by omega) (by omega) (by omega) (by rw [a3 _ (by omega) (by omega)]; exact (hS.2.1 (n / 9) s (by omega) (by omega)).2) ?_
        refine we_shl 1 (poN (n / 9) s) (2 ^ (poN (n / 9) s)) 76 rfl rfl rfl rfl (by omega) (Nat.one_mul _) (by omega) ?_
        refine we_xor (plH P (hoN (n / 9) s) (n % 9)) (2 ^ (poN (n / 9) s)) ((plH P (hoN (n / 9) s) (n % 9)) ^^^ (2 ^ (poN (n / 9) s))) 77 rfl rfl rfl rfl (by omega) (by omega) rfl ?_
        refine wq_iast 78 rfl rfl (hC.lt (by omega)) (hC.bd hb).2.2.1 (by omega) (by omega) (by omega) ?_
        refine we_inc 4 1 ((s + 1 : Nat) : Int) 81 _ rfl rfl rfl (by omega) (by omega) rfl ?_
        refine wq_s 25 rfl ?_
        refine ih_s (s + 1) _ _ (by omega) (by omega) (a1.fr (up2_row (by omega))) ?_ ?_
        · intro h e hh he
          by_cases hx : h = hoN (n / 9) s ∧ e = n % 9
          · rw [up2_eq rfl (by omega), hx.1, hx.2, if_pos ⟨rfl, s, by omega, rfl⟩, pl_flip hn (by omega)]
          · rw [up2_ne (Or.inr (by omega)), a2 h e hh he]
            by_cases hy : e = n % 9 ∧ ∃ s1, s1 < s ∧ h = hoN (n / 9) s1
            · obtain ⟨y1, s1, y2, y3⟩ := id hy
              rw [if_pos hy, if_pos ⟨y1, s1, by omega, y3⟩]
            · rw [if_neg hy, if_neg]
              rintro ⟨y1, s1, y2, y3⟩
              by_cases hs1 : s1 = s
              · subst hs1
                exact hx ⟨y3, y1⟩
              · exact hy ⟨y1, s1, by omega, y3⟩
        · intro a h1 h2
          rw [up2_row h2]
          exact a3 a h1 h2
  refine wq_s 1 rfl ?_
  refine wq_s 3 rfl ?_
  refine we_div ((n / 9 : Nat) : Int) 4 rfl rfl (by omega) (by omega) (by omega) ?_
  refine wq_s 5 rfl ?_
  refine wq_s 6 rfl ?_
  refine wq_s 8 rfl ?_
  refine we_rem ((n % 9 : Nat) : Int) 9 rfl rfl (by omega) (by omega) (by omega) ?_
  refine wq_s 10 rfl ?_
  refine wq_s 11 rfl ?_
  refine wq_getR 14 rfl rfl (hC.lt (by omega)) (hC.bd hb).1 rfl ?_
  refine wq_s 15 rfl ?_
  refine wq_s 16 rfl ?_
  refine wq_iald (v := ((X (n / 9) : Nat) : Int)) 17 rfl rfl (hC.lt (by omega)).2 (hC.bd hb).2.1 (by omega) (by omega) (by omega) (hB.1 (n / 9) (by omega)).1 ?_
  refine wq_s 18 rfl ?_
  refine wq_s 19 rfl ?_
  refine we_shl 1 (n % 9) (2 ^ (n % 9)) 20 rfl rfl rfl rfl (by omega) (Nat.one_mul _) (by omega) ?_
  refine we_xor (X (n / 9)) (2 ^ (n % 9)) ((X (n / 9)) ^^^ (2 ^ (n % 9))) 21 rfl rfl rfl rfl (by omega) (by omega) rfl ?_
  refine wq_iast 22 rfl rfl (hC.lt (by omega)) (hC.bd hb).2.1 (by omega) (by omega) (by omega) ?_
  refine wq_s 23 rfl ?_
  refine wq_s 25 rfl ?_
  refine L_25 4 0 _ _ (by omega) (by omega) ?_ ?_ (fun a h1 _ => up2_row h1)
  · intro c hc
    unfold xoA
    by_cases hcn : c = n / 9
    · rw [if_pos hcn, up2_eq rfl (by omega), hcn]
      exact ⟨rfl, hxo⟩
    · rw [if_neg hcn, up2_ne (Or.inr (by omega))]
      exact hB.1 c hc
  · intro h e hh he
    rw [if_neg (fun z => by obtain ⟨-, s1, z1, -⟩ := z; omega), up2_row (by omega)]
    exact hB.2 h e hh he
theorem c_X0_flip {d : Nat} {G : GT} {M : MT} {b n : Nat} {X : Nat → Nat} (hC : ClsG G) (hb : IsBd b) (hS : ShpAt M) (hB : BdC M b X) (hn : n < 729) : Mq d k_X0_flip [vR b, vI (n : Int)] G M (fun r M' => r = none ∧ BdC M' b (xoA X n) ∧ ∀ a, a ≠ b + 1 → a ≠ b + 2 → M' a = M a) := c_X0_flipP hC hb hS hB hn
