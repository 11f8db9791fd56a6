/-! counting candidates; what a step is -/
theorem tb_half (a i : Nat) : (a / 2).testBit i = a.testBit (i + 1) := (Nat.testBit_succ a i).symm
theorem tb_div (x i : Nat) : x.testBit i = true ↔ x / 2 ^ i % 2 = 1 := by
  rw [Nat.testBit_eq_decide_div_mod_eq, decide_eq_true_iff]
theorem m2_tb (a : Nat) : a % 2 = if a.testBit 0 = true then 1 else 0 := by
  by_cases h : a.testBit 0 = true
  · rw [if_pos h]
    have := (tb_div a 0).1 h
    omega
  · rw [if_neg h]
    have : ¬ a / 2 ^ 0 % 2 = 1 := fun z => h ((tb_div a 0).2 z)
    omega
theorem popc_split : ∀ k x y, popc k (andN x y) + popc k (x &&& y) = popc k x := by
  intro k
  induction k with
  | zero => intro x y; rfl
  | succ k ih =>
    intro x y
    have e1 : andN x y / 2 = andN (x / 2) (y / 2) := Nat.eq_of_testBit_eq fun i => by
      rw [tb_half, andN_bit, andN_bit, tb_half, tb_half]
    have e2 : (x &&& y) / 2 = x / 2 &&& y / 2 := Nat.eq_of_testBit_eq fun i => by
      rw [tb_half, Nat.testBit_and, Nat.testBit_and, tb_half, tb_half]
    have e3 : andN x y % 2 + (x &&& y) % 2 = x % 2 := by
      rw [m2_tb (andN x y), m2_tb (x &&& y), m2_tb x, andN_bit, Nat.testBit_and]
      cases x.testBit 0 <;> cases y.testBit 0 <;> rfl
    have h := ih (x / 2) (y / 2)
    unfold popc
    rw [e1, e2]
    omega
def cntX (X : Nat → Nat) : Nat := sumN (fun c => pop9 (X c)) 81
theorem sumN_add {f g h : Nat → Nat} : ∀ n, (∀ k, k < n → f k + g k = h k) → sumN f n + sumN g n = sumN h n := by
  intro n
  induction n with
  | zero => intro _; rfl
  | succ n ih =>
    intro hh
    have h1 := ih (fun k hk => hh k (by omega))
    have h2 := hh n (by omega)
    unfold sumN
    omega
theorem cnt_split (X Y : Nat → Nat) (h : ∀ c, c < 81 → X c &&& Y c = Y c) : cntX (fun c => andN (X c) (Y c)) + cntX Y = cntX X := sumN_add 81 (fun c hc => by
  have h1 := popc_split 9 (X c) (Y c)
  rw [h c hc] at h1
  exact h1)
theorem popc_s (k n e : Nat) : popc (k + 1) (n / 2 ^ e) = n / 2 ^ e % 2 + popc k (n / 2 ^ (e + 1)) := by
  show n / 2 ^ e % 2 + popc k (n / 2 ^ e / 2) = _
  rw [Nat.div_div_eq_div_mul, ← Nat.pow_succ]
theorem pop9_e (n : Nat) : pop9 n = n / 2 ^ 0 % 2 + n / 2 ^ 1 % 2 + n / 2 ^ 2 % 2 + n / 2 ^ 3 % 2 + n / 2 ^ 4 % 2 + n / 2 ^ 5 % 2 + n / 2 ^ 6 % 2 + n / 2 ^ 7 % 2 + n / 2 ^ 8 % 2 := by
  have h : pop9 n = popc 9 (n / 2 ^ 0) := by
    rw [Nat.pow_zero, Nat.div_one]
    rfl
  rw [h, popc_s, popc_s, popc_s, popc_s, popc_s, popc_s, popc_s, popc_s, popc_s]
  rw [show ∀ x, popc 0 x = 0 from fun _ => rfl]
  simp only [Nat.reduceAdd, Nat.zero_add, Nat.add_zero, Nat.add_assoc]
theorem sumN_succ (f : Nat → Nat) (n : Nat) : sumN f (n + 1) = sumN f n + f n := rfl
theorem thL_len1 (X : Nat → Nat) (n : Nat) : (thL X (n + 1)).length = (thL X n).length + hasN X n := by
  by_cases h : hasN X n = 1
  · rw [thL_t h, List.length_append, h]
    rfl
  · rw [thL_f h]
    have := hasN_01 X n
    omega
theorem hasN_ce (X : Nat → Nat) (c e : Nat) (he : e < 9) : hasN X (9 * c + e) = X c / 2 ^ e % 2 := by
  unfold hasN
  rw [show (9 * c + e) / 9 = c by omega, show (9 * c + e) % 9 = e by omega]
theorem thL_cnt (Y : Nat → Nat) : ∀ c, (thL Y (9 * c)).length = sumN (fun c => pop9 (Y c)) c := by
  intro c
  induction c with
  | zero => rfl
  | succ c ih =>
    have h0 : (thL Y (9 * c + 1)).length = (thL Y (9 * c)).length + hasN Y (9 * c) := thL_len1 Y (9 * c)
    have h1 : (thL Y (9 * c + 2)).length = (thL Y (9 * c + 1)).length + hasN Y (9 * c + 1) := thL_len1 Y (9 * c + 1)
    have h2 : (thL Y (9 * c + 3)).length = (thL Y (9 * c + 2)).length + hasN Y (9 * c + 2) := thL_len1 Y (9 * c + 2)
    have h3 : (thL Y (9 * c + 4)).length = (thL Y (9 * c + 3)).length + hasN Y (9 * c + 3) := thL_len1 Y (9 * c + 3)
    have h4 : (thL Y (9 * c + 5)).length = (thL Y (9 * c + 4)).length + hasN Y (9 * c + 4) := thL_len1 Y (9 * c + 4)
    have h5 : (thL Y (9 * c + 6)).length = (thL Y (9 * c + 5)).length + hasN Y (9 * c + 5) := thL_len1 Y (9 * c + 5)
    have h6 : (thL Y (9 * c + 7)).length = (thL Y (9 * c + 6)).length + hasN Y (9 * c + 6) := thL_len1 Y (9 * c + 6)
    have h7 : (thL Y (9 * c + 8)).length = (thL Y (9 * c + 7)).length + hasN Y (9 * c + 7) := thL_len1 Y (9 * c + 7)
    have h8 : (thL Y (9 * c + 9)).length = (thL Y (9 * c + 8)).length + hasN Y (9 * c + 8) := thL_len1 Y (9 * c + 8)
    have g0 := hasN_ce Y c 0 (by decide)
    have g1 := hasN_ce Y c 1 (by decide)
    have g2 := hasN_ce Y c 2 (by decide)
    have g3 := hasN_ce Y c 3 (by decide)
    have g4 := hasN_ce Y c 4 (by decide)
    have g5 := hasN_ce Y c 5 (by decide)
    have g6 := hasN_ce Y c 6 (by decide)
    have g7 := hasN_ce Y c 7 (by decide)
    have g8 := hasN_ce Y c 8 (by decide)
    have hp := pop9_e (Y c)
    rw [Nat.add_zero] at g0
    rw [Nat.mul_succ 9 c, h8, h7, h6, h5, h4, h3, h2, h1, h0, ih, g0, g1, g2, g3, g4, g5, g6, g7, g8]
    rw [sumN_succ, hp]
    simp only [Nat.add_assoc]
theorem thL_cntX (Y : Nat → Nat) : (thL Y 729).length = cntX Y := thL_cnt Y 81
theorem hasN_tb (X : Nat → Nat) (n : Nat) : hasN X n = 1 ↔ (X (n / 9)).testBit (n % 9) = true := (tb_div _ _).symm
theorem bwY_tb {X : Nat → Nat} {u v : Nat} : ∀ n c e, (bwY X u v n c).testBit e = true ↔ ∃ j, j < n ∧ c = j / 9 ∧ e = j % 9 ∧ weakC X j u ∧ weakC X j v := by
  intro n
  induction n with
  | zero =>
    intro c e
    constructor
    · intro h
      have h : (0 : Nat).testBit e = true := h
      rw [Nat.zero_testBit] at h
      cases h
    · rintro ⟨j, h, -⟩
      exact absurd h (Nat.not_lt_zero _)
  | succ n ih =>
    intro c e
    show (cI _ _ _ : Nat).testBit e = true ↔ _
    by_cases h : weakC X n u ∧ weakC X n v ∧ c = n / 9
    · rw [cI_t h, Nat.testBit_or, Bool.or_eq_true, ih c e, Nat.testBit_two_pow, decide_eq_true_iff]
      constructor
      · rintro (⟨j, h1, h2⟩ | h1)
        · exact ⟨j, by omega, h2⟩
        · exact ⟨n, by omega, h.2.2, h1.symm, h.1, h.2.1⟩
      · rintro ⟨j, h1, h2, h3, h4⟩
        by_cases hj : j = n
        · subst hj
          exact Or.inr h3.symm
        · exact Or.inl ⟨j, by omega, h2, h3, h4⟩
    · rw [cI_f h, ih c e]
      constructor
      · rintro ⟨j, h1, h2⟩
        exact ⟨j, by omega, h2⟩
      · rintro ⟨j, h1, h2, h3, h4, h5⟩
        by_cases hj : j = n
        · subst hj
          exact absurd ⟨h4, h5, h2⟩ h
        · exact ⟨j, by omega, h2, h3, h4, h5⟩
theorem fstP_some {α : Type} {P : α → Prop} {x : α} : ∀ {l : List α}, fstP P l = some x → x ∈ l ∧ P x := by
  intro l
  induction l with
  | nil => intro h; cases h
  | cons y l ih =>
    intro h
    by_cases hy : P y
    · rw [fstP_t hy] at h
      cases h
      exact ⟨List.mem_cons_self .., hy⟩
    · rw [fstP_f hy] at h
      exact ⟨List.mem_cons_of_mem _ (ih h).1, (ih h).2⟩
theorem pairs_ok : ∀ r : Fin 13, (pairsL r.val).all (fun z => decide (z.1 < 81 ∧ z.2 < 512)) = true := by decide +kernel
/-- a step of a board X, and what goes by it -/
def StepR (X : Nat → Nat) (s : GSt) (Y : Nat → Nat) : Prop :=
  (∃ r p v, r < 13 ∧ (∀ r', r' < r → fstP (pP X r') (pairsL r') = none) ∧ fstP (pP X r) (pairsL r) = some (p, v) ∧ s = (r, p, v, thL (insY X (r : Int) (p : Int) (v : Int)) 729, []) ∧ Y = insY X (r : Int) (p : Int) (v : Int)) ∨
  ((∀ r', r' < 13 → fstP (pP X r') (pairsL r') = none) ∧ ∃ m a rv, ChF X m a rv ∧ s = (13, m, a, thL (byY X rv (2 * m)) 729, (List.range (2 * m)).map rv) ∧ Y = byY X rv (2 * m))
def NoStep (X : Nat → Nat) : Prop := (∀ r', r' < 13 → fstP (pP X r') (pairsL r') = none) ∧ ChN X
theorem getD_map {rv : Nat → Nat} {n k : Nat} (h : k < n) : ((List.range n).map rv).getD k 0 = rv k := by
  rw [List.getD_eq_getElem?_getD, List.getElem?_map, List.getElem?_range h]
  rfl
theorem ChF.chC {X : Nat → Nat} {m a : Nat} {rv : Nat → Nat} (h : ChF X m a rv) : chC X rv (2 * m) := by
  obtain ⟨h1, h2, -, -, h5, h6⟩ := h
  refine ⟨by omega, by omega, fun s s1 s2 => ?_⟩
  have h7 := (h6 s s1 s2).1.1
  exact ⟨fun z => (h7.1 z).2.2, fun z => (h7.2 z).2.2⟩
theorem ChF.lt {X : Nat → Nat} {m a : Nat} {rv : Nat → Nat} (h : ChF X m a rv) : ∀ s, s < 2 * m → rv s < 729 := by
  obtain ⟨h1, h2, -, -, h5, h6⟩ := h
  intro s hs
  by_cases h0 : s = 0
  · subst h0
    rw [h5]
    exact layJ_lt h2
  · exact layJ_lt (h6 s (by omega) hs).1.2
theorem ChF.goes {X : Nat → Nat} {m a : Nat} {rv : Nat → Nat} (h : ChF X m a rv) : 1 ≤ (thL (byY X rv (2 * m)) 729).length := by
  have hc := h.chC
  obtain ⟨h1, h2, -, -, h5, h6⟩ := h
  have h7 := (h6 (2 * m - 1) (by omega) (by omega)).1.2
  rw [show 2 * m - 1 - (2 * m - 1) = 0 by omega] at h7
  obtain ⟨y, y1, y2⟩ := h7
  have hy : y < 729 ∧ hasN (byY X rv (2 * m)) y = 1 := by
    refine ⟨y1.2.1, (hasN_tb _ _).2 ?_⟩
    unfold byY
    rw [cI_t hc, Nat.testBit_and, Bool.and_eq_true]
    refine ⟨(bwY_tb 729 _ _).2 ⟨y, y1.2.1, rfl, rfl, ?_, ?_⟩, (hasN_tb X y).1 y1.2.2.2.2.1⟩
    · rw [h5]
      exact weakC_sym y1.2.2
    · exact weakC_sym y2.2.2
  obtain ⟨j, j1, -⟩ := (thL_mem _ 729 y).2 hy
  omega
theorem insY_sub (X : Nat → Nat) (r p v : Int) (c : Nat) : X c &&& insY X r p v c = insY X r p v c := by
  unfold insY
  by_cases h : insC X r p v
  · rw [cI_t h]
    apply Nat.eq_of_testBit_eq
    intro i
    rw [Nat.testBit_and, Nat.testBit_and]
    cases (X c).testBit i <;> cases (insG X r p v (c : Int)).toNat.testBit i <;> rfl
  · rw [cI_f h]
    exact Nat.and_zero _
theorem byY_sub (X rv : Nat → Nat) (w c : Nat) : X c &&& byY X rv w c = byY X rv w c := by
  unfold byY
  by_cases h : chC X rv w
  · rw [cI_t h]
    apply Nat.eq_of_testBit_eq
    intro i
    rw [Nat.testBit_and, Nat.testBit_and]
    cases (X c).testBit i <;> cases (bwY X (rv 0) (rv (w - 1)) 729 c).testBit i <;> rfl
  · rw [cI_f h]
    exact Nat.and_zero _
theorem StepR.ok {X Y : Nat → Nat} {s : GSt} (h : StepR X s Y) : GStOk s ∧ s.2.2.2.1 = thL Y 729 ∧ ∀ c, X c &&& Y c = Y c := by
  rcases h with ⟨r, p, v, hr, -, h1, rfl, rfl⟩ | ⟨-, m, a, rv, h1, rfl, rfl⟩
  · obtain ⟨h2, h3⟩ := fstP_some h1
    have h4 := of_decide_eq_true (List.all_eq_true.1 (pairs_ok ⟨r, hr⟩) _ h2)
    refine ⟨⟨by dsimp only; omega, by dsimp only at h4 ⊢; omega, by dsimp only at h4 ⊢; omega, ?_, Nat.zero_le _, fun k hk => (thL_at hk).1, fun k hk => absurd hk (Nat.not_lt_zero _)⟩, rfl, fun c => insY_sub _ _ _ _ _⟩
    dsimp only
    rw [thL_cntX]
    exact h3
  · obtain ⟨a1, a2, -⟩ := id h1
    have e : ((List.range (2 * m)).map rv).length = 2 * m := by rw [List.length_map, List.length_range]
    refine ⟨⟨(by show (13 : Nat) < 14; decide), by dsimp only; omega, layJ_lt a2, h1.goes, ?_, fun k hk => (thL_at hk).1, fun k hk => ?_⟩, rfl, fun c => byY_sub _ _ _ _⟩
    · dsimp only
      rw [e]
      omega
    · dsimp only at hk ⊢
      rw [e] at hk
      rw [getD_map hk]
      exact h1.lt k hk
def FrS (M M' : MT) (o : Nat) : Prop := (∀ a, (a < o ∨ a = o + 1 ∨ a = o + 2 ∨ a = o + 4 ∨ o + 21 < a) → M' a = M a) ∧ ∀ i : Int, (i < 8 ∨ (8 < i ∧ i < 22) ∨ i = 26 ∨ 29 < i) → M' o i = M o i
theorem FrS.refl (M : MT) (o : Nat) : FrS M M o := ⟨fun _ _ => rfl, fun _ _ => rfl⟩
theorem FrS.trans {M M1 M2 : MT} {o : Nat} (h1 : FrS M M1 o) (h2 : FrS M1 M2 o) : FrS M M2 o := ⟨fun a h => (h2.1 a h).trans (h1.1 a h), fun i h => (h2.2 i h).trans (h1.2 i h)⟩
theorem RefTr.fr {M M' : MT} {o : Nat} {T : List GSt} (h : RefTr M o T) (h1 : ∀ i : Int, 22 ≤ i → i ≤ 25 → M' o i = M o i) (h2 : ∀ a, o + 14 ≤ a → a ≤ o + 21 → M' a = M a) : RefTr M' o T := by
  obtain ⟨e1, e2, e3, e4, e5⟩ := h
  refine ⟨(h1 _ (by decide) (by decide)).trans e1, (h1 _ (by decide) (by decide)).trans e2, (h1 _ (by decide) (by decide)).trans e3, (h1 _ (by decide) (by decide)).trans e4, fun i hi => (e5 i hi).fr ?_ ?_ ?_ ?_ ?_ ?_ (fun k _ => ?_) (fun k _ => ?_)⟩
  all_goals rw [h2 _ (by omega) (by omega)]
theorem c_X9_stepped {d : Nat} {G : GT} {M : MT} {o : Nat} {X : Nat → Nat} {T : List GSt} (hG : RefG G o) (hX : AtB M (o + 3) X) (hTr : RefTr M o T) (hOk : TrOk T) (hfit : gTot T + cntX X ≤ 729) : Mq (d + 7) k_X9_stepped [vR o] G M (fun z M' => ((z = some (vI 1) ∧ ∃ s Y, StepR X s Y ∧ RefTr M' o (T ++ [s]) ∧ AtB M' (o + 3) (fun c => andN (X c) (Y c))) ∨ (z = some (vI 0) ∧ NoStep X ∧ RefTr M' o T ∧ AtB M' (o + 3) X)) ∧ FrS M M' o) := by
  have L_2 : ∀ (f r : Nat) (M2 : MT) (y2 : Option AV), 13 - r < f → r ≤ 13 → (∀ r', r' < r → fstP (pP X r') (pairsL r') = none) → (FrF M M2 o) → Wq (d + 7) k_X9_stepped 2 [some (vR o), some (vI ((r : Nat) : Int)), y2] [] G M2 (fun z M' => ((z = some (vI 1) ∧ ∃ s Y, StepR X s Y ∧ RefTr M' o (T ++ [s]) ∧ AtB M' (o + 3) (fun c => andN (X c) (Y c))) ∨ (z = some (vI 0) ∧ NoStep X ∧ RefTr M' o T ∧ AtB M' (o + 3) X)) ∧ FrS M M' o) := by
    intro f
    induction f with
    | zero => intro r M2 y2 h; exact absurd h (by omega)
    | succ f ih_r =>
      intro r M2 y2 hf_r hk_r hno hFr
      refine wq_s 3 rfl ?_
      refine wq_s 5 rfl ?_
      refine wq_icmp 56 rfl rfl (by omega) (by omega) (fun c_5 => ?_) (fun c_5 => ?_)
      · have c_5 := of_decide_eq_true c_5
        refine wq_s 57 rfl ?_
        refine wq_s 58 rfl ?_
        refine wq_getR 61 rfl rfl hG.ob hG.2.2.1 rfl ?_
        refine wq_vt1 64 rfl rfl (Nat.le_of_ble_eq_true rfl) hG.ob hG.2.2.1 rfl (Nat.le_of_ble_eq_true rfl) (c_X9_chain (X := X) hG hG.a_now.1.2 hG.a_now.2 (hX.fr (hFr.1 _ (by omega) (by omega))) ⟨by omega, by omega, by omega, by omega⟩) (fun z M3 hz => ?_)
        obtain ⟨hz, hf1, hf2⟩ := hz
        have hT3 : RefTr M3 o T := hTr.fr (fun i h1 h2 => (hf2 i (by omega)).trans (hFr.2 i (by omega) (by omega) (by omega))) (fun a h1 h2 => (hf1 a (by omega) (by omega)).trans (hFr.1 a (by omega) (by omega)))
        have hX3 : AtB M3 (o + 3) X := hX.fr ((hf1 _ (by omega) (by omega)).trans (hFr.1 _ (by omega) (by omega)))
        have hFS3 : FrS M M3 o := ⟨fun a ha => (hf1 a (by omega) (by omega)).trans (hFr.1 a (by omega) (by omega)), fun i hi => (hf2 i (by omega)).trans (hFr.2 i (by omega) (by omega) (by omega))⟩
        rcases hz with ⟨rfl, hch⟩ | ⟨m, a, rv, rfl, hch, hrw⟩
        · dsimp only [Option.toList, List.cons_append, List.nil_append]
          refine wq_s 65 rfl ?_
          refine wq_s 66 rfl ?_
          refine wq_s 69 rfl ?_
          refine wq_s 70 rfl ?_
          exact wq_ret rfl ⟨Or.inr ⟨rfl, ⟨fun r h => hno r (by omega), hch⟩, hT3, hX3⟩, hFS3⟩
        · dsimp only [Option.toList, List.cons_append, List.nil_append]
          have hm := hch.1
          have ha : rv 0 = a := hch.2.2.2.2.1
          have hSR : StepR X (13, m, a, thL (byY X rv (2 * m)) 729, (List.range (2 * m)).map rv) (byY X rv (2 * m)) := Or.inr ⟨fun r h => hno r (by omega), m, a, rv, hch, rfl, rfl⟩
          have hcs := cnt_split X (byY X rv (2 * m)) (fun c _ => byY_sub _ _ _ _)
          have hcx := thL_cntX (byY X rv (2 * m))
          have hle : byN X rv (2 * m) ≤ 729 := sumN_le (B := 9) (fun c => pop9_le _) 81
          have el : ((List.range (2 * m)).map rv).length = 2 * m := by rw [List.length_map, List.length_range]
          refine wq_s 65 rfl ?_
          refine wq_s 66 rfl ?_
          refine wq_if 71 rfl rfl (by omega) (fun c_66 => ?_) (fun c_66 => absurd (of_decide_eq_false c_66) (by omega))
          refine wq_s 72 rfl ?_
          refine wq_s 73 rfl ?_
          refine wq_putE 27 76 rfl rfl hG.ob hG.2.2.1 rfl (by decide) (Or.inl rfl) rfl ?_
          refine wq_s 77 rfl ?_
          refine wq_s 78 rfl ?_
          refine wq_getR 81 rfl rfl hG.ob hG.2.2.1 rfl ?_
          refine wq_s 82 rfl ?_
          refine wq_iald (v := ((a : Nat) : Int)) 83 rfl rfl hG.a_row.1.2 hG.a_row.2 (by omega) (by omega) (by omega) (by rw [up2_row (by omega), ← ha]; exact (hrw 0 (by omega)).1) ?_
          refine wq_putE 28 86 rfl rfl hG.ob hG.2.2.1 rfl (by decide) (Or.inl rfl) rfl ?_
          refine wq_s 87 rfl ?_
          refine wq_s 88 rfl ?_
          refine wq_s 89 rfl ?_
          refine wq_getR 92 rfl rfl hG.ob hG.2.2.1 rfl ?_
          refine wq_s 93 rfl ?_
          refine wq_getR 96 rfl rfl hG.ob hG.2.2.1 rfl ?_
          refine wq_s 97 rfl ?_
          refine wq_s 98 rfl ?_
          refine wq_s 99 rfl ?_
          refine we_mul ((2 * m : Nat) : Int) 100 rfl rfl (by omega) (by omega) ?_
          refine wq_vt4 103 rfl rfl (Nat.le_of_ble_eq_true rfl) hG.ob hG.2.2.1 rfl (Nat.le_of_ble_eq_true rfl) (c_X9_byRow (u := 0) (w := 2 * m) (Nn := 24) (X := X) (rv := rv) hG hG.a_now.1.2 hG.a_now.2 (by omega) (hX3.fr ((up2_row (by omega)).trans (up2_row (by omega)))) ⟨hG.a_row.1.2, hG.a_row.2, by omega, by omega⟩ (by omega) (by omega) (fun s hs => by rw [up2_row (by omega), up2_row (by omega), Nat.zero_add]; exact hrw s hs)) (fun z M5 hz => ?_)
          obtain ⟨rfl, hY5, hF5⟩ := hz
          dsimp only [Option.toList, List.cons_append, List.nil_append]
          refine wq_putE 29 106 rfl rfl hG.ob hG.2.2.1 rfl (by decide) (Or.inl rfl) rfl ?_
          refine wq_s 107 rfl ?_
          refine wq_s 109 rfl ?_
          refine wq_s 110 rfl ?_
          refine wq_s 111 rfl ?_
          refine we_mul ((((List.range (2 * m)).map rv).length : Nat) : Int) 112 rfl rfl (by rw [el]; omega) (by rw [el]; omega) ?_
          have hR : ∀ b, b ≠ o → b ≠ o + 5 → up2 M5 o 29 ((byN X rv (2 * m) : Nat) : Int) b = M3 b := fun b h1 h2 => by
            rw [up2_row h1, hF5 b h2, up2_row h1, up2_row h1]
          have hO : ∀ i : Int, i ≠ 27 → i ≠ 28 → i ≠ 29 → up2 M5 o 29 ((byN X rv (2 * m) : Nat) : Int) o i = M3 o i := fun i h1 h2 h3 => by
            rw [up2_ne (Or.inr h3), hF5 o (by omega), up2_ne (Or.inr h2), up2_ne (Or.inr h1)]
          refine wq_vt2 115 rfl rfl (Nat.le_of_ble_eq_true rfl) hG.ob hG.2.2.1 rfl (Nat.le_of_ble_eq_true rfl) (c_X9_takes (r := 13) (p := m) (v := a) (X := X) (Y := byY X rv (2 * m)) (T := T) (ls := (List.range (2 * m)).map rv) hG (by decide) (hX3.fr (hR _ (by omega) (by omega))) (hY5.fr (up2_row (by omega))) (hT3.fr (fun i h1 h2 => hO i (by omega) (by omega) (by omega)) (fun b h1 h2 => hR b (by omega) (by omega))) hOk (by rw [up2_ne (Or.inr (by decide)), hF5 o (by omega), up2_ne (Or.inr (by decide)), up2_at]) (by rw [up2_ne (Or.inr (by decide)), hF5 o (by omega), up2_at]) (by rw [up2_at, hcx]; rfl) (by omega) (by rw [el]; omega) (fun s hs => by rw [el] at hs; rw [hR _ (by omega) (by omega), getD_map hs]; exact (hrw s hs).1) hch.goes) (fun z M6 hz => ?_)
          obtain ⟨rfl, t1, t2, t3, t4⟩ := hz
          dsimp only [Option.toList, List.cons_append, List.nil_append]
          refine wq_s 116 rfl ?_
          exact wq_ret rfl ⟨Or.inl ⟨rfl, _, _, hSR, t1, t2⟩, ⟨fun b hb => (t3 b (by omega) (by omega) (by omega)).trans ((hR b (by omega) (by omega)).trans (hFS3.1 b hb)), fun i hi => (t4 i (by omega)).trans ((hO i (by omega) (by omega) (by omega)).trans (hFS3.2 i hi))⟩⟩
      · have c_5 := of_decide_eq_false c_5
        refine wq_s 9 rfl ?_
        refine wq_s 10 rfl ?_
        refine wq_icmp 25 rfl rfl (by omega) (by omega) (fun c_10 => ?_) (fun c_10 => ?_)
        · have c_10 := of_decide_eq_true c_10
          refine wq_s 26 rfl ?_
          refine wq_s 27 rfl ?_
          refine wq_getR 30 rfl rfl hG.ob hG.2.2.1 rfl ?_
          refine wq_s 31 rfl ?_
          refine wq_vt2 34 rfl rfl (Nat.le_of_ble_eq_true rfl) hG.ob hG.2.2.1 rfl (Nat.le_of_ble_eq_true rfl) (c_X9_findsSome (r := r) hG hG.a_now.1.2 hG.a_now.2 (by omega) (by omega) (hX.fr (hFr.1 _ (by omega) (by omega))) (by omega)) (fun z M3 hz => ?_)
          rcases hz with ⟨rfl, ⟨p, v, hE, hin, hq⟩, hF3⟩ | ⟨rfl, hE, hF3⟩
          · dsimp only [Option.toList, List.cons_append, List.nil_append]
            refine wq_s 35 rfl ?_
            refine wq_s 36 rfl ?_
            refine wq_s 42 rfl ?_
            refine wq_s 43 rfl ?_
            refine wq_s 44 rfl ?_
            refine wq_s 45 rfl ?_
            have hF4 := hFr.trans hF3
            have hSR : StepR X (r, p, v, thL (insY X (r : Int) (p : Int) (v : Int)) 729, []) (insY X (r : Int) (p : Int) (v : Int)) := Or.inl ⟨r, p, v, by omega, hno, hE, rfl, rfl⟩
            obtain ⟨q1, q2, q3, q4⟩ := hq
            have hcs := cnt_split X (insY X (r : Int) (p : Int) (v : Int)) (fun c _ => insY_sub _ _ _ _ _)
            have hcx := thL_cntX (insY X (r : Int) (p : Int) (v : Int))
            refine wq_vt2 48 rfl rfl (Nat.le_of_ble_eq_true rfl) hG.ob hG.2.2.1 rfl (Nat.le_of_ble_eq_true rfl) (c_X9_takes (r := r) (p := p) (v := v) (X := X) (Y := insY X (r : Int) (p : Int) (v : Int)) (T := T) (ls := []) hG (by omega) (hX.fr (hF4.1 _ (by omega) (by omega))) q4 (hTr.fr (fun i h1 h2 => hF4.2 i (by omega) (by omega) (by omega)) (fun a h1 h2 => hF4.1 a (by omega) (by omega))) hOk q1 q2 (by rw [hcx]; exact q3) (by omega) (Nat.zero_le _) (fun s hs => absurd hs (Nat.not_lt_zero _)) hSR.ok.1.2.2.2.1) (fun z M5 hz => ?_)
            obtain ⟨rfl, t1, t2, t3, t4⟩ := hz
            dsimp only [Option.toList, List.cons_append, List.nil_append]
            have hFS : FrS M M5 o := ⟨fun a ha => (t3 a (by omega) (by omega) (by omega)).trans (hF4.1 a (by omega) (by omega)), fun i hi => (t4 i (by omega)).trans (hF4.2 i (by omega) (by omega) (by omega))⟩
            refine wq_s 49 rfl ?_
            exact wq_ret rfl ⟨Or.inl ⟨rfl, _, _, hSR, t1, t2⟩, hFS⟩
          · dsimp only [Option.toList, List.cons_append, List.nil_append]
            refine wq_s 35 rfl ?_
            refine wq_s 36 rfl ?_
            refine wq_s 39 rfl ?_
            refine wq_s 50 rfl ?_
            refine we_inc 1 1 ((r + 1 : Nat) : Int) 53 _ rfl rfl rfl (by omega) (by omega) rfl ?_
            refine wq_s 2 rfl ?_
            refine ih_r (r + 1) _ _ (by omega) (by omega) (fun r1 h1 => ?_) (hFr.trans hF3)
            by_cases h2 : r1 = r
            · subst h2
              exact hE
            · exact hno r1 (by omega)
        · have c_10 := of_decide_eq_false c_10
          refine wq_s 14 rfl ?_
          refine wq_s 15 rfl ?_
          refine wq_getR 18 rfl rfl hG.ob hG.2.2.1 rfl ?_
          refine wq_s 19 rfl ?_
          refine wq_vt2 22 rfl rfl (Nat.le_of_ble_eq_true rfl) hG.ob hG.2.2.1 rfl (Nat.le_of_ble_eq_true rfl) (c_X9_findsOne (r := r) hG hG.a_now.1.2 hG.a_now.2 (by omega) (by omega) (hX.fr (hFr.1 _ (by omega) (by omega))) (by omega)) (fun z M3 hz => ?_)
          rcases hz with ⟨rfl, ⟨p, v, hE, hin, hq⟩, hF3⟩ | ⟨rfl, hE, hF3⟩
          · dsimp only [Option.toList, List.cons_append, List.nil_append]
            refine wq_s 34 rfl ?_
            refine wq_s 35 rfl ?_
            refine wq_s 36 rfl ?_
            refine wq_s 42 rfl ?_
            refine wq_s 43 rfl ?_
            refine wq_s 44 rfl ?_
            refine wq_s 45 rfl ?_
            have hF4 := hFr.trans hF3
            have hSR : StepR X (r, p, v, thL (insY X (r : Int) (p : Int) (v : Int)) 729, []) (insY X (r : Int) (p : Int) (v : Int)) := Or.inl ⟨r, p, v, by omega, hno, hE, rfl, rfl⟩
            obtain ⟨q1, q2, q3, q4⟩ := hq
            have hcs := cnt_split X (insY X (r : Int) (p : Int) (v : Int)) (fun c _ => insY_sub _ _ _ _ _)
            have hcx := thL_cntX (insY X (r : Int) (p : Int) (v : Int))
            refine wq_vt2 48 rfl rfl (Nat.le_of_ble_eq_true rfl) hG.ob hG.2.2.1 rfl (Nat.le_of_ble_eq_true rfl) (c_X9_takes (r := r) (p := p) (v := v) (X := X) (Y := insY X (r : Int) (p : Int) (v : Int)) (T := T) (ls := []) hG (by omega) (hX.fr (hF4.1 _ (by omega) (by omega))) q4 (hTr.fr (fun i h1 h2 => hF4.2 i (by omega) (by omega) (by omega)) (fun a h1 h2 => hF4.1 a (by omega) (by omega))) hOk q1 q2 (by rw [hcx]; exact q3) (by omega) (Nat.zero_le _) (fun s hs => absurd hs (Nat.not_lt_zero _)) hSR.ok.1.2.2.2.1) (fun z M5 hz => ?_)
            obtain ⟨rfl, t1, t2, t3, t4⟩ := hz
            dsimp only [Option.toList, List.cons_append, List.nil_append]
            have hFS : FrS M M5 o := ⟨fun a ha => (t3 a (by omega) (by omega) (by omega)).trans (hF4.1 a (by omega) (by omega)), fun i hi => (t4 i (by omega)).trans (hF4.2 i (by omega) (by omega) (by omega))⟩
            refine wq_s 49 rfl ?_
            exact wq_ret rfl ⟨Or.inl ⟨rfl, _, _, hSR, t1, t2⟩, hFS⟩
          · dsimp only [Option.toList, List.cons_append, List.nil_append]
            refine wq_s 34 rfl ?_
            refine wq_s 35 rfl ?_
            refine wq_s 36 rfl ?_
            refine wq_s 39 rfl ?_
            refine wq_s 50 rfl ?_
            refine we_inc 1 1 ((r + 1 : Nat) : Int) 53 _ rfl rfl rfl (by omega) (by omega) rfl ?_
            refine wq_s 2 rfl ?_
            refine ih_r (r + 1) _ _ (by omega) (by omega) (fun r1 h1 => ?_) (hFr.trans hF3)
            by_cases h2 : r1 = r
            · subst h2
              exact hE
            · exact hno r1 (by omega)
  refine wq_s 1 rfl ?_
  refine wq_s 2 rfl ?_
  exact L_2 14 0 M _ (by omega) (by omega) (fun r h => absurd h (Nat.not_lt_zero _)) (FrF.refl M o)
