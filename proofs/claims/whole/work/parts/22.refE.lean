/-! where the reference keeps what it has: an object at o, its rows behind it -/
def rfs (o : Nat) : List (Option (Option Nat)) := [some (some (o + 1)), some (some (o + 2)), some (some (o + 3)), some (some (o + 4)), some (some (o + 5)), some (some (o + 6)), some (some (o + 7)), some (some (o + 8)), none, some (some (o + 9)), some (some (o + 10)), some (some (o + 11)), some (some (o + 12)), some (some (o + 13)), some (some (o + 14)), some (some (o + 15)), some (some (o + 16)), some (some (o + 17)), some (some (o + 18)), some (some (o + 19)), some (some (o + 20)), some (some (o + 21)), none, none, none, none, none, none, none, none, some (some (o + 22)), none, some (some (o + 23)), some (some (o + 24)), some (some (o + 25)), some (some (o + 26)), some (some (o + 27)), none, none, none, none, none]
def rarr : List (Bool × Nat) := [(false, 81), (false, 81), (false, 81), (false, 81), (false, 81), (true, 8748), (true, 8748), (false, 729), (true, 8748), (true, 8748), (true, 12), (true, 288), (false, 24), (false, 730), (false, 730), (false, 730), (false, 730), (false, 730), (false, 730), (false, 730), (false, 17520), (false, 24), (false, 6642), (false, 82), (false, 82), (false, 81), (false, 162)]
def RefG (G : GT) (o : Nat) : Prop := EXN ≤ o ∧ o + 28 ≤ G.1 ∧ G.2.2 o = .inr (9, rfs o) ∧ ∀ (i : Nat) (y : Bool × Nat), rarr[i]? = some y → G.2.2 (o + 1 + i) = .inl y
theorem RefG.ob {G : GT} {o : Nat} (h : RefG G o) : EXN ≤ o ∧ o < G.1 := ⟨h.1, by have := h.2.1; omega⟩
theorem RefG.a_given {G : GT} {o : Nat} (h : RefG G o) : (EXN ≤ o + 1 ∧ o + 1 < G.1) ∧ G.2.2 (o + 1) = .inl (false, 81) := ⟨⟨by have := h.1; omega, by have := h.2.1; omega⟩, h.2.2.2 0 _ rfl⟩
theorem RefG.a_first {G : GT} {o : Nat} (h : RefG G o) : (EXN ≤ o + 2 ∧ o + 2 < G.1) ∧ G.2.2 (o + 2) = .inl (false, 81) := ⟨⟨by have := h.1; omega, by have := h.2.1; omega⟩, h.2.2.2 1 _ rfl⟩
theorem RefG.a_now {G : GT} {o : Nat} (h : RefG G o) : (EXN ≤ o + 3 ∧ o + 3 < G.1) ∧ G.2.2 (o + 3) = .inl (false, 81) := ⟨⟨by have := h.1; omega, by have := h.2.1; omega⟩, h.2.2.2 2 _ rfl⟩
theorem RefG.a_checker {G : GT} {o : Nat} (h : RefG G o) : (EXN ≤ o + 4 ∧ o + 4 < G.1) ∧ G.2.2 (o + 4) = .inl (false, 81) := ⟨⟨by have := h.1; omega, by have := h.2.1; omega⟩, h.2.2.2 3 _ rfl⟩
theorem RefG.a_gone {G : GT} {o : Nat} (h : RefG G o) : (EXN ≤ o + 5 ∧ o + 5 < G.1) ∧ G.2.2 (o + 5) = .inl (false, 81) := ⟨⟨by have := h.1; omega, by have := h.2.1; omega⟩, h.2.2.2 4 _ rfl⟩
theorem RefG.a_weak {G : GT} {o : Nat} (h : RefG G o) : (EXN ≤ o + 6 ∧ o + 6 < G.1) ∧ G.2.2 (o + 6) = .inl (true, 8748) := ⟨⟨by have := h.1; omega, by have := h.2.1; omega⟩, h.2.2.2 5 _ rfl⟩
theorem RefG.a_strong {G : GT} {o : Nat} (h : RefG G o) : (EXN ≤ o + 7 ∧ o + 7 < G.1) ∧ G.2.2 (o + 7) = .inl (true, 8748) := ⟨⟨by have := h.1; omega, by have := h.2.1; omega⟩, h.2.2.2 6 _ rfl⟩
theorem RefG.a_there {G : GT} {o : Nat} (h : RefG G o) : (EXN ≤ o + 8 ∧ o + 8 < G.1) ∧ G.2.2 (o + 8) = .inl (false, 729) := ⟨⟨by have := h.1; omega, by have := h.2.1; omega⟩, h.2.2.2 7 _ rfl⟩
theorem RefG.a_good {G : GT} {o : Nat} (h : RefG G o) : (EXN ≤ o + 9 ∧ o + 9 < G.1) ∧ G.2.2 (o + 9) = .inl (true, 8748) := ⟨⟨by have := h.1; omega, by have := h.2.1; omega⟩, h.2.2.2 8 _ rfl⟩
theorem RefG.a_begins {G : GT} {o : Nat} (h : RefG G o) : (EXN ≤ o + 10 ∧ o + 10 < G.1) ∧ G.2.2 (o + 10) = .inl (true, 8748) := ⟨⟨by have := h.1; omega, by have := h.2.1; omega⟩, h.2.2.2 9 _ rfl⟩
theorem RefG.a_some {G : GT} {o : Nat} (h : RefG G o) : (EXN ≤ o + 11 ∧ o + 11 < G.1) ∧ G.2.2 (o + 11) = .inl (true, 12) := ⟨⟨by have := h.1; omega, by have := h.2.1; omega⟩, h.2.2.2 10 _ rfl⟩
theorem RefG.a_layer {G : GT} {o : Nat} (h : RefG G o) : (EXN ≤ o + 12 ∧ o + 12 < G.1) ∧ G.2.2 (o + 12) = .inl (true, 288) := ⟨⟨by have := h.1; omega, by have := h.2.1; omega⟩, h.2.2.2 11 _ rfl⟩
theorem RefG.a_row {G : GT} {o : Nat} (h : RefG G o) : (EXN ≤ o + 13 ∧ o + 13 < G.1) ∧ G.2.2 (o + 13) = .inl (false, 24) := ⟨⟨by have := h.1; omega, by have := h.2.1; omega⟩, h.2.2.2 12 _ rfl⟩
theorem RefG.a_sRule {G : GT} {o : Nat} (h : RefG G o) : (EXN ≤ o + 14 ∧ o + 14 < G.1) ∧ G.2.2 (o + 14) = .inl (false, 730) := ⟨⟨by have := h.1; omega, by have := h.2.1; omega⟩, h.2.2.2 13 _ rfl⟩
theorem RefG.a_sP {G : GT} {o : Nat} (h : RefG G o) : (EXN ≤ o + 15 ∧ o + 15 < G.1) ∧ G.2.2 (o + 15) = .inl (false, 730) := ⟨⟨by have := h.1; omega, by have := h.2.1; omega⟩, h.2.2.2 14 _ rfl⟩
theorem RefG.a_sQ {G : GT} {o : Nat} (h : RefG G o) : (EXN ≤ o + 16 ∧ o + 16 < G.1) ∧ G.2.2 (o + 16) = .inl (false, 730) := ⟨⟨by have := h.1; omega, by have := h.2.1; omega⟩, h.2.2.2 15 _ rfl⟩
theorem RefG.a_sGone {G : GT} {o : Nat} (h : RefG G o) : (EXN ≤ o + 17 ∧ o + 17 < G.1) ∧ G.2.2 (o + 17) = .inl (false, 730) := ⟨⟨by have := h.1; omega, by have := h.2.1; omega⟩, h.2.2.2 16 _ rfl⟩
theorem RefG.a_sFrom {G : GT} {o : Nat} (h : RefG G o) : (EXN ≤ o + 18 ∧ o + 18 < G.1) ∧ G.2.2 (o + 18) = .inl (false, 730) := ⟨⟨by have := h.1; omega, by have := h.2.1; omega⟩, h.2.2.2 17 _ rfl⟩
theorem RefG.a_sLinks {G : GT} {o : Nat} (h : RefG G o) : (EXN ≤ o + 19 ∧ o + 19 < G.1) ∧ G.2.2 (o + 19) = .inl (false, 730) := ⟨⟨by have := h.1; omega, by have := h.2.1; omega⟩, h.2.2.2 18 _ rfl⟩
theorem RefG.a_went {G : GT} {o : Nat} (h : RefG G o) : (EXN ≤ o + 20 ∧ o + 20 < G.1) ∧ G.2.2 (o + 20) = .inl (false, 730) := ⟨⟨by have := h.1; omega, by have := h.2.1; omega⟩, h.2.2.2 19 _ rfl⟩
theorem RefG.a_links {G : GT} {o : Nat} (h : RefG G o) : (EXN ≤ o + 21 ∧ o + 21 < G.1) ∧ G.2.2 (o + 21) = .inl (false, 17520) := ⟨⟨by have := h.1; omega, by have := h.2.1; omega⟩, h.2.2.2 20 _ rfl⟩
theorem RefG.a_nodes {G : GT} {o : Nat} (h : RefG G o) : (EXN ≤ o + 22 ∧ o + 22 < G.1) ∧ G.2.2 (o + 22) = .inl (false, 24) := ⟨⟨by have := h.1; omega, by have := h.2.1; omega⟩, h.2.2.2 21 _ rfl⟩
theorem RefG.a_level1 {G : GT} {o : Nat} (h : RefG G o) : (EXN ≤ o + 23 ∧ o + 23 < G.1) ∧ G.2.2 (o + 23) = .inl (false, 6642) := ⟨⟨by have := h.1; omega, by have := h.2.1; omega⟩, h.2.2.2 22 _ rfl⟩
theorem RefG.a_cellAt {G : GT} {o : Nat} (h : RefG G o) : (EXN ≤ o + 24 ∧ o + 24 < G.1) ∧ G.2.2 (o + 24) = .inl (false, 82) := ⟨⟨by have := h.1; omega, by have := h.2.1; omega⟩, h.2.2.2 23 _ rfl⟩
theorem RefG.a_triedAt {G : GT} {o : Nat} (h : RefG G o) : (EXN ≤ o + 25 ∧ o + 25 < G.1) ∧ G.2.2 (o + 25) = .inl (false, 82) := ⟨⟨by have := h.1; omega, by have := h.2.1; omega⟩, h.2.2.2 24 _ rfl⟩
theorem RefG.a_work {G : GT} {o : Nat} (h : RefG G o) : (EXN ≤ o + 26 ∧ o + 26 < G.1) ∧ G.2.2 (o + 26) = .inl (false, 81) := ⟨⟨by have := h.1; omega, by have := h.2.1; omega⟩, h.2.2.2 25 _ rfl⟩
theorem RefG.a_solved {G : GT} {o : Nat} (h : RefG G o) : (EXN ≤ o + 27 ∧ o + 27 < G.1) ∧ G.2.2 (o + 27) = .inl (false, 162) := ⟨⟨by have := h.1; omega, by have := h.2.1; omega⟩, h.2.2.2 26 _ rfl⟩
/-- a row's first N places are f's -/
def setA (M : MT) (q : Nat) (N : Int) (f : Int → Int) : MT := fun a i => if a = q ∧ 0 ≤ i ∧ i < N then f i else M a i
theorem setA_0 (M : MT) (q : Nat) (f : Int → Int) : setA M q 0 f = M := by
  funext a i
  exact if_neg (fun h => by omega)
theorem setA_up {M : MT} {q : Nat} {k : Int} {f : Int → Int} {v : Int} (hk : 0 ≤ k) (hv : v = f k) : up2 (setA M q k f) q k v = setA M q (k + 1) f := by
  funext a i
  unfold up2 setA
  by_cases h : a = q ∧ i = k
  · rw [if_pos h, if_pos ⟨h.1, by omega, by omega⟩, hv, h.2]
  · rw [if_neg h]
    by_cases h2 : a = q ∧ 0 ≤ i ∧ i < k
    · rw [if_pos h2, if_pos ⟨h2.1, h2.2.1, by omega⟩]
    · rw [if_neg h2, if_neg (fun z => h ⟨z.1, by have := z.2; by_cases hi : i < k; exact absurd ⟨z.1, z.2.1, hi⟩ h2; omega⟩)]
theorem setA_hi {M : MT} {q : Nat} {N : Int} {f : Int → Int} {i : Int} (h : N ≤ i) : setA M q N f q i = M q i := if_neg (fun z => by omega)
theorem setA_lo {M : MT} {q : Nat} {N : Int} {f : Int → Int} {i : Int} (h0 : 0 ≤ i) (h : i < N) : setA M q N f q i = f i := if_pos ⟨rfl, h0, h⟩
theorem setA_ne {M : MT} {q a : Nat} {N : Int} {f : Int → Int} (h : a ≠ q) : setA M q N f a = M a := funext fun i => if_neg (fun z => h z.1)
def sumN (f : Nat → Nat) : Nat → Nat
  | 0 => 0
  | k + 1 => sumN f k + f k
theorem sumN_le {f : Nat → Nat} {B : Nat} (h : ∀ k, f k ≤ B) : ∀ n, sumN f n ≤ n * B := by
  intro n
  induction n with
  | zero => exact Nat.zero_le _
  | succ n ih =>
    unfold sumN
    have := h n
    rw [Nat.succ_mul]
    omega
theorem pop9_le (n : Nat) : pop9 n ≤ 9 := by
  unfold pop9
  have h : ∀ k n, popc k n ≤ k := by
    intro k
    induction k with
    | zero => intro n; exact Nat.le_refl _
    | succ k ih =>
      intro n
      unfold popc
      have h1 := ih (n / 2)
      have h2 : n % 2 < 2 := Nat.mod_lt _ (by decide)
      omega
  exact h 9 n
theorem c_X9_clear {d : Nat} {G : GT} {M : MT} {o : Nat} (hG : RefG G o) : Mq d k_X9_clear [vR o] G M (fun r M' => r = none ∧ M' = setA M (o + 5) 81 (fun _ => 0)) := by
  have L_2 : ∀ (f k : Nat), 81 - k < f → k ≤ 81 → Wq d k_X9_clear 2 [some (vR o), some (vI (k : Int))] [] G (setA M (o + 5) k (fun _ => 0)) (fun r M' => r = none ∧ M' = setA M (o + 5) 81 (fun _ => 0)) := by
    intro f
    induction f with
    | zero => intro k h; exact absurd h (by omega)
    | succ f ih =>
      intro k hf hk
      refine wq_s 3 rfl ?_
      refine wq_s 5 rfl ?_
      refine wq_icmp 21 rfl rfl (by omega) (by omega) (fun c_5 => ?_) (fun c_5 => ?_)
      · have c_5 := of_decide_eq_true c_5
        have e9 : k = 81 := by omega
        subst e9
        exact wq_ret rfl ⟨rfl, rfl⟩
      · have c_5 := of_decide_eq_false c_5
        refine wq_s 9 rfl ?_
        refine wq_getR 12 rfl rfl hG.ob hG.2.2.1 rfl ?_
        refine wq_s 13 rfl ?_
        refine wq_s 14 rfl ?_
        refine wq_iast 15 rfl rfl hG.a_gone.1 hG.a_gone.2 (by omega) (by omega) (by omega) ?_
        rw [setA_up (by omega) rfl]
        refine wq_inc 18 _ rfl rfl rfl (by omega) rfl ?_
        refine wq_s 2 rfl ?_
        exact ih (k + 1) (by omega) (by omega)
  refine wq_s 1 rfl ?_
  refine wq_s 2 rfl ?_
  have h := L_2 82 0 (by omega) (by omega)
  rw [show ((0 : Nat) : Int) = 0 from rfl, setA_0] at h
  exact h
theorem c_X9_there {d : Nat} {G : GT} {M : MT} {o q : Nat} {X Y : Nat → Nat} (hG : RefG G o) (hq : q < G.1) (hT : G.2.2 q = .inl (false, 81)) (hne : q ≠ o + 5) (hX : AtB M q X) (hY : AtB M (o + 5) Y) : Mq (d + 1) k_X9_there [vR o, vR q] G M (fun r M' => r = some (vI (sumN (fun c => pop9 (Y c &&& X c)) 81 : Nat)) ∧ M' = setA M (o + 5) 81 (fun c => ((Y c.toNat &&& X c.toNat : Nat) : Int))) := by
  have L_4 : ∀ (f k : Nat), 81 - k < f → k ≤ 81 → Wq (d + 1) k_X9_there 4 [some (vR o), some (vR q), some (vI (sumN (fun c => pop9 (Y c &&& X c)) k : Nat)), some (vI (k : Int))] [] G (setA M (o + 5) k (fun c => ((Y c.toNat &&& X c.toNat : Nat) : Int))) (fun r M' => r = some (vI (sumN (fun c => pop9 (Y c &&& X c)) 81 : Nat)) ∧ M' = setA M (o + 5) 81 (fun c => ((Y c.toNat &&& X c.toNat : Nat) : Int))) := by
    intro f
    induction f with
    | zero => intro k h; exact absurd h (by omega)
    | succ f ih =>
      intro k hf hk
      have hs := sumN_le (f := fun c => pop9 (Y c &&& X c)) (B := 9) (fun c => pop9_le _) k
      refine wq_s 5 rfl ?_
      refine wq_s 7 rfl ?_
      refine wq_icmp 40 rfl rfl (by omega) (by omega) (fun c_7 => ?_) (fun c_7 => ?_)
      · have c_7 := of_decide_eq_true c_7
        have e9 : k = 81 := by omega
        subst e9
        refine wq_s 41 rfl ?_
        exact wq_ret rfl ⟨rfl, rfl⟩
      · have c_7 := of_decide_eq_false c_7
        have hx := hX k (by omega)
        have hy := hY k (by omega)
        have hp := pop9_le (Y k &&& X k)
        refine wq_s 11 rfl ?_
        refine wq_getR 14 rfl rfl hG.ob hG.2.2.1 rfl ?_
        refine wq_s 15 rfl ?_
        refine wq_s 16 rfl ?_
        refine wq_iald 17 rfl rfl hG.a_gone.1.2 hG.a_gone.2 (by omega) (by omega) (by omega) ((setA_hi (Int.le_refl _)).trans hy.1) ?_
        refine wq_s 18 rfl ?_
        refine wq_s 19 rfl ?_
        refine wq_iald 20 rfl rfl hq hT (by omega) (by omega) (by omega) ((congrFun (setA_ne hne) _).trans hx.1) ?_
        refine wq_and 21 rfl rfl (by omega) ?_
        refine wq_iast 22 rfl rfl hG.a_gone.1 hG.a_gone.2 (by omega) (by omega) (by omega) ?_
        rw [setA_up (by omega) (by rw [Int.toNat_natCast])]
        refine wq_s 23 rfl ?_
        refine wq_s 24 rfl ?_
        refine wq_getR 27 rfl rfl hG.ob hG.2.2.1 rfl ?_
        refine wq_s 28 rfl ?_
        refine wq_iald (v := ((Y k &&& X k : Nat) : Int)) 29 rfl rfl hG.a_gone.1.2 hG.a_gone.2 (by omega) (by omega) (by omega) ((setA_lo (by omega) (by omega)).trans (by rw [Int.toNat_natCast])) ?_
        refine wq_st1 32 rfl rfl (by decide) (Nat.le_of_ble_eq_true rfl) rfl (Nat.le_of_ble_eq_true rfl) (c_X9_bits (and_lt2 (k := 9) hy.2)) (fun r M1 hr => ?_)
        obtain ⟨rfl, rfl⟩ := hr
        dsimp only [Option.toList, List.cons_append, List.nil_append]
        refine wq_add 33 rfl rfl (by omega) ?_
        refine wq_s 34 rfl ?_
        refine wq_inc 37 _ rfl rfl rfl (by omega) rfl ?_
        refine wq_s 4 rfl ?_
        exact ih (k + 1) (by omega) (by omega)
  refine wq_s 1 rfl ?_
  refine wq_s 2 rfl ?_
  refine wq_s 3 rfl ?_
  refine wq_s 4 rfl ?_
  have h := L_4 82 0 (by omega) (by omega)
  rw [show ((0 : Nat) : Int) = 0 from rfl, setA_0] at h
  exact h
theorem c_X9_goes {d : Nat} {G : GT} {M : MT} {o q : Nat} {X Y : Nat → Nat} (hG : RefG G o) (hq : EXN ≤ q ∧ q < G.1) (hT : G.2.2 q = .inl (false, 81)) (hne : q ≠ o + 5) (hX : AtB M q X) (hY : AtB M (o + 5) Y) : Mq d k_X9_goes [vR o, vR q] G M (fun r M' => r = none ∧ M' = setA M q 81 (fun c => ((andN (X c.toNat) (Y c.toNat) : Nat) : Int))) := by
  have L_2 : ∀ (f k : Nat), 81 - k < f → k ≤ 81 → Wq d k_X9_goes 2 [some (vR o), some (vR q), some (vI (k : Int))] [] G (setA M q k (fun c => ((andN (X c.toNat) (Y c.toNat) : Nat) : Int))) (fun r M' => r = none ∧ M' = setA M q 81 (fun c => ((andN (X c.toNat) (Y c.toNat) : Nat) : Int))) := by
    intro f
    induction f with
    | zero => intro k h; exact absurd h (by omega)
    | succ f ih =>
      intro k hf hk
      refine wq_s 3 rfl ?_
      refine wq_s 5 rfl ?_
      refine wq_icmp 28 rfl rfl (by omega) (by omega) (fun c_5 => ?_) (fun c_5 => ?_)
      · have c_5 := of_decide_eq_true c_5
        have e9 : k = 81 := by omega
        subst e9
        exact wq_ret rfl ⟨rfl, rfl⟩
      · have c_5 := of_decide_eq_false c_5
        have hx := hX k (by omega)
        have hy := hY k (by omega)
        refine wq_s 9 rfl ?_
        refine wq_s 10 rfl ?_
        refine wq_s 11 rfl ?_
        refine wq_iald 12 rfl rfl hq.2 hT (by omega) (by omega) (by omega) ((setA_hi (Int.le_refl _)).trans hx.1) ?_
        refine wq_s 13 rfl ?_
        refine wq_getR 16 rfl rfl hG.ob hG.2.2.1 rfl ?_
        refine wq_s 17 rfl ?_
        refine wq_iald 18 rfl rfl hG.a_gone.1.2 hG.a_gone.2 (by omega) (by omega) (by omega) ((congrFun (setA_ne (Ne.symm hne)) _).trans hy.1) ?_
        refine wq_s 19 rfl ?_
        refine wq_not 20 rfl rfl (by omega) ?_
        refine wq_andn 21 rfl rfl (by omega) ?_
        refine wq_iast 22 rfl rfl hq hT (by omega) (by omega) (by omega) ?_
        rw [setA_up (by omega) (by rw [Int.toNat_natCast])]
        refine wq_inc 25 _ rfl rfl rfl (by omega) rfl ?_
        refine wq_s 2 rfl ?_
        exact ih (k + 1) (by omega) (by omega)
  refine wq_s 1 rfl ?_
  refine wq_s 2 rfl ?_
  have h := L_2 82 0 (by omega) (by omega)
  rw [show ((0 : Nat) : Int) = 0 from rfl, setA_0] at h
  exact h
