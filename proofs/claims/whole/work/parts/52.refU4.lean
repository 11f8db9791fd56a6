/-! search -/
def lbF (x : Nat) : Nat → Nat → Nat
  | 0, e => e
  | f + 1, e => if x / 2 ^ e % 2 = 1 then e else lbF x f (e + 1)
def lbN (x e : Nat) : Nat := lbF x 9 e
noncomputable def tryF (S : SrS) : SrS := leaveF (meetF (fun c => if c = (S.2.2.2.2.2.1 (S.2.2.2.1 - 1)).2.1 then 2 ^ lbN ((S.2.2.2.2.2.1 (S.2.2.2.1 - 1)).1 (S.2.2.2.2.2.1 (S.2.2.2.1 - 1)).2.1) (S.2.2.2.2.2.1 (S.2.2.2.1 - 1)).2.2 else (S.2.2.2.2.2.1 (S.2.2.2.1 - 1)).1 c)
  (S.1, S.2.1, S.2.2.1 + 1, S.2.2.2.1, S.2.2.2.2.1, fun j => if j = S.2.2.2.1 - 1 then ((S.2.2.2.2.2.1 (S.2.2.2.1 - 1)).1, (S.2.2.2.2.2.1 (S.2.2.2.1 - 1)).2.1, lbN ((S.2.2.2.2.2.1 (S.2.2.2.1 - 1)).1 (S.2.2.2.2.2.1 (S.2.2.2.1 - 1)).2.1) (S.2.2.2.2.2.1 (S.2.2.2.1 - 1)).2.2 + 1) else S.2.2.2.2.2.1 j, S.2.2.2.2.2.2))
noncomputable def srchL : Nat → SrS → SrS
  | 0, S => S
  | n + 1, S => if S.2.1 = 1 then S else srchL n (tryF S)
noncomputable def begF (gv : Nat → Nat) (S : SrS) : SrS := if S.1 = 0 then leaveF (meetF (fstF gv) (1, S.2)) else S
noncomputable def srchF (gv : Nat → Nat) (n : Nat) (S : SrS) : SrS := srchL n (begF gv S)
theorem srchL_o {S : SrS} (h : S.2.1 = 1) : ∀ n, srchL n S = S := by
  intro n
  cases n with
  | zero => rfl
  | succ n => exact if_pos h
theorem lb_next {x e : Nat} (h : x / 2 ^ e ≠ 0) (hb : ¬ x / 2 ^ e % 2 = 1) : x / 2 ^ (e + 1) ≠ 0 := by
  rw [Nat.pow_succ, ← Nat.div_div_eq_div_mul]
  generalize x / 2 ^ e = y at h hb
  omega
theorem lb_lt {x e : Nat} (hx : x < 512) (h : x / 2 ^ e ≠ 0) : e < 9 := by
  by_cases he : e < 9
  · exact he
  · exfalso
    apply h
    apply Nat.div_eq_of_lt
    have h9 : 2 ^ 9 ≤ 2 ^ e := Nat.pow_le_pow_right (by decide) (show 9 ≤ e by omega)
    exact Nat.lt_of_lt_of_le hx h9
theorem lbF_ok {x : Nat} (hx : x < 512) : ∀ f e, x / 2 ^ e ≠ 0 → 9 ≤ f + e → lbF x f e < 9 ∧ x / 2 ^ (lbF x f e) % 2 = 1 := by
  intro f
  induction f with
  | zero =>
    intro e h hf
    have := lb_lt hx h
    omega
  | succ f ih =>
    intro e h hf
    unfold lbF
    by_cases hb : x / 2 ^ e % 2 = 1
    · rw [if_pos hb]
      exact ⟨lb_lt hx h, hb⟩
    · rw [if_neg hb]
      exact ih (e + 1) (lb_next h hb) (by omega)
/-- how many cells are down to one or none -/
def s1N (B : Nat → Nat) : Nat := sumN (fun c => if pop9 (B c) ≤ 1 then 1 else 0) 81
theorem sumN_le2 {f g : Nat → Nat} : ∀ n, (∀ k, k < n → f k ≤ g k) → sumN f n ≤ sumN g n := by
  intro n
  induction n with
  | zero => intro _; exact Nat.le_refl _
  | succ n ih =>
    intro h
    have h1 := ih (fun k hk => h k (by omega))
    have h2 := h n (by omega)
    rw [sumN_succ, sumN_succ]
    omega
theorem sumN_lt2 {f g : Nat → Nat} {j : Nat} : ∀ n, (∀ k, k < n → f k ≤ g k) → j < n → f j < g j → sumN f n < sumN g n := by
  intro n
  induction n with
  | zero => intro _ h; exact absurd h (Nat.not_lt_zero _)
  | succ n ih =>
    intro h hj hl
    have h2 := h n (by omega)
    rw [sumN_succ, sumN_succ]
    by_cases hjn : j = n
    · subst hjn
      have h1 := sumN_le2 (f := f) (g := g) j (fun k hk => h k (by omega))
      omega
    · have h1 := ih (fun k hk => h k (by omega)) (by omega) hl
      omega
theorem popc_mono : ∀ k x y, (∀ i, x.testBit i = true → y.testBit i = true) → popc k x ≤ popc k y := by
  intro k
  induction k with
  | zero => intro x y _; exact Nat.le_refl _
  | succ k ih =>
    intro x y h
    have h1 := ih (x / 2) (y / 2) (fun i hi => by rw [tb_half] at hi ⊢; exact h (i + 1) hi)
    have h2 : x % 2 ≤ y % 2 := by
      rw [m2_tb x, m2_tb y]
      by_cases hb : x.testBit 0 = true
      · rw [if_pos hb, if_pos (h 0 hb)]
        exact Nat.le_refl _
      · rw [if_neg hb]
        exact Nat.zero_le _
    unfold popc
    omega
theorem s1N_mono {R W : Nat → Nat} (h : SubB R W) : s1N W ≤ s1N R := sumN_le2 81 (fun c hc => by
  have h1 : pop9 (R c) ≤ pop9 (W c) := popc_mono 9 _ _ (h c hc)
  by_cases h2 : pop9 (W c) ≤ 1
  · rw [if_pos h2, if_pos (by omega)]
    exact Nat.le_refl _
  · rw [if_neg h2]
    exact Nat.zero_le _)
theorem sumN_1 : ∀ n, sumN (fun _ => 1) n = n := by
  intro n
  induction n with
  | zero => rfl
  | succ n ih => rw [sumN_succ, ih]
theorem s1N_lt {R : Nat → Nat} {c : Nat} (hc : c < 81) (h : 1 < pop9 (R c)) : s1N R < 81 := by
  have h1 := sumN_lt2 (f := fun c => if pop9 (R c) ≤ 1 then 1 else 0) (g := fun _ => 1) (j := c) 81 (fun k _ => by split <;> omega) hc (by show (if pop9 (R c) ≤ 1 then 1 else 0) < 1; rw [if_neg (by omega)]; exact Nat.zero_lt_one)
  rw [sumN_1] at h1
  exact h1
theorem s1N_fix {B : Nat → Nat} {cl e : Nat} (hc : cl < 81) (h : 1 < pop9 (B cl)) (he : e < 9) : s1N B + 1 ≤ s1N (fun c => if c = cl then 2 ^ e else B c) := by
  have hpw : pop9 (2 ^ e) = 1 := pop1_pow ⟨e, he⟩
  have h9 : sumN (fun c => if pop9 (B c) ≤ 1 then 1 else 0) 81 < sumN (fun c => if pop9 (if c = cl then 2 ^ e else B c) ≤ 1 then 1 else 0) 81 := by
    refine sumN_lt2 (j := cl) 81 (fun k _ => ?_) hc ?_
    · show (if pop9 (B k) ≤ 1 then 1 else 0) ≤ (if pop9 (if k = cl then 2 ^ e else B k) ≤ 1 then 1 else 0)
      by_cases hk : k = cl
      · rw [hk, if_neg (show ¬ pop9 (B cl) ≤ 1 by omega)]
        exact Nat.zero_le _
      · rw [if_neg (c := k = cl) hk]
        exact Nat.le_refl _
    · show (if pop9 (B cl) ≤ 1 then 1 else 0) < (if pop9 (if cl = cl then 2 ^ e else B cl) ≤ 1 then 1 else 0)
      rw [if_neg (show ¬ pop9 (B cl) ≤ 1 by omega), if_pos (c := cl = cl) rfl, if_pos (show pop9 (2 ^ e) ≤ 1 by omega)]
      exact Nat.zero_lt_one
  exact h9
/-- what always holds of a search -/
def SrI (S : SrS) : Prop := SrOk S ∧ (S.1 = 0 → S.2.2.2.1 = 0 ∧ S.2.2.2.2.1 = 0) ∧ (S.1 = 1 → S.2.1 = 0 → 1 ≤ S.2.2.2.1 ∧ S.2.2.2.2.1 ≤ 1 ∧ (S.2.2.2.2.2.1 (S.2.2.2.1 - 1)).1 (S.2.2.2.2.2.1 (S.2.2.2.1 - 1)).2.1 / 2 ^ (S.2.2.2.2.2.1 (S.2.2.2.1 - 1)).2.2 ≠ 0) ∧ ∀ i, i < S.2.2.2.1 → i ≤ s1N (S.2.2.2.2.2.1 i).1 ∧ 1 < pop9 ((S.2.2.2.2.2.1 i).1 (S.2.2.2.2.2.1 i).2.1)
/-- what holds in between -/
def SrJ (S : SrS) : Prop := SrOk S ∧ S.1 = 1 ∧ ∀ i, i < S.2.2.2.1 → i ≤ s1N (S.2.2.2.2.2.1 i).1 ∧ 1 < pop9 ((S.2.2.2.2.2.1 i).1 (S.2.2.2.2.2.1 i).2.1)
theorem leave_ok {S : SrS} (h : SrJ S) : SrI (leaveF S) := by
  obtain ⟨⟨h1, h2, h3, h4, h5, h6⟩, h7, h8⟩ := h
  have hp := popD_le S.2.2.2.2.2.1 S.2.2.2.1
  refine ⟨⟨h1, ?_, h3, ?_, h5, fun i hi => h6 i ?_⟩, fun z => ?_, fun _ z => ?_, fun i hi => h8 i ?_⟩
  · show (if popD S.2.2.2.2.2.1 S.2.2.2.1 = 0 ∨ S.2.2.2.2.1 = 2 then 1 else 0) ≤ 1
    split <;> omega
  · show popD S.2.2.2.2.2.1 S.2.2.2.1 ≤ 81
    omega
  · have hi : i < popD S.2.2.2.2.2.1 S.2.2.2.1 := hi
    omega
  · have z : S.1 = 0 := z
    omega
  · have z : (if popD S.2.2.2.2.2.1 S.2.2.2.1 = 0 ∨ S.2.2.2.2.1 = 2 then 1 else 0) = 0 := z
    have z2 : ¬ (popD S.2.2.2.2.2.1 S.2.2.2.1 = 0 ∨ S.2.2.2.2.1 = 2) := fun y => by
      rw [if_pos y] at z
      cases z
    exact ⟨show 1 ≤ popD S.2.2.2.2.2.1 S.2.2.2.1 by omega, show S.2.2.2.2.1 ≤ 1 by omega, popD_top _ _ (by omega)⟩
  · have hi : i < popD S.2.2.2.2.2.1 S.2.2.2.1 := hi
    omega
theorem meet_ok {W : Nat → Nat} {S : SrS} (h : SrJ S) (hns : S.2.2.2.2.1 ≤ 1) (hs : S.2.2.2.1 ≤ s1N W) : SrJ (meetF W S) ∧ (meetF W S).2.2.1 = S.2.2.1 := by
  obtain ⟨⟨h1, h2, h3, h4, h5, h6⟩, h7, h8⟩ := id h
  cases hc : closeF W with
  | none =>
    rw [meetF_n hc]
    exact ⟨h, rfl⟩
  | some R =>
    have hu := closeF_some hc
    have hm := s1N_mono hu.2.2.2.1
    by_cases hf : fwN R 81 < 0
    · rw [meetF_s hc hf]
      exact ⟨⟨⟨h1, h2, h3, h4, show S.2.2.2.2.1 + 1 ≤ 2 by omega, h6⟩, h7, h8⟩, rfl⟩
    · rw [meetF_p hc hf]
      have hrg := fwN_rng R 81
      have hpp := fwN_pop R 81 (by omega)
      have hlt := s1N_lt (R := R) (c := (fwN R 81).toNat) (by omega) hpp
      refine ⟨⟨⟨h1, h2, h3, show S.2.2.2.1 + 1 ≤ 81 by omega, h5, fun i hi => ?_⟩, h7, fun i hi => ?_⟩, rfl⟩
      · have hi : i < S.2.2.2.1 + 1 := hi
        dsimp only
        by_cases hid : i = S.2.2.2.1
        · rw [if_pos hid]
          exact ⟨hu.2.2.1, show (fwN R 81).toNat < 81 by omega, Nat.zero_le _⟩
        · rw [if_neg hid]
          exact h6 i (by omega)
      · have hi : i < S.2.2.2.1 + 1 := hi
        dsimp only
        by_cases hid : i = S.2.2.2.1
        · rw [if_pos hid]
          exact ⟨show i ≤ s1N R by omega, hpp⟩
        · rw [if_neg hid]
          exact h8 i (by omega)
