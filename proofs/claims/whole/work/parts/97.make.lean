/-! the class's constructors -/
theorem ShG_of {z : Nat} {T : Nat → LK} (h5 : T 5 = .inr (4, [some (some 6), some (some 7), some (some 8), some (some 9)])) (h6 : T 6 = .inl (false, 243)) (h7 : T 7 = .inl (false, 243)) (h8 : T 8 = .inl (false, 243)) (h9 : T 9 = .inl (false, 1701)) : ShG (10, z, T) := by
  refine ⟨Nat.le_refl _, fun i c hne hi => ?_⟩
  have hlt : i < 6 := (List.getElem?_eq_some_iff.1 hi).1
  match i, hne, hi, hlt with
  | 0, h, _, _ => exact absurd rfl h
  | 1, _, hi, _ => exact h5.trans (Option.some.inj hi)
  | 2, _, hi, _ => exact h6.trans (Option.some.inj hi)
  | 3, _, hi, _ => exact h7.trans (Option.some.inj hi)
  | 4, _, hi, _ => exact h8.trans (Option.some.inj hi)
  | 5, _, hi, _ => exact h9.trans (Option.some.inj hi)
  | j + 6, _, _, h => exact absurd h (by omega)
theorem c_X4_init {d : Nat} {T : Nat → LK} {M : MT} (hT : T 5 = .inr (4, nfl.getD 4 [])) (hz : Zr 6 M) : Wp (d + 2) k_X4_init 0 (entA k_X4_init [vR 5]) [] (6, 15, T, M) (fun r h' => r = none ∧ ∃ M', h' = (10, 2445, (upT (upT (upT (upT (upT (upT (upT (upT T 6 (.inl (false, 243))) 5 (.inr (4, [some (some 6), some none, some none, some none]))) 7 (.inl (false, 243))) 5 (.inr (4, [some (some 6), some (some 7), some none, some none]))) 8 (.inl (false, 243))) 5 (.inr (4, [some (some 6), some (some 7), some (some 8), some none]))) 9 (.inl (false, 1701))) 5 (.inr (4, [some (some 6), some (some 7), some (some 8), some (some 9)]))), M') ∧ ShpAt M' ∧ ∀ a, (a < 6 ∨ 9 < a) → M' a = M a) := by
  refine wp_s 1 rfl ?_
  refine wp_obj 4 rfl rfl (Nat.le_of_ble_eq_true rfl) ?_
  refine wp_s 5 rfl ?_
  refine wp_s 8 rfl ?_
  refine wp_newI 7 258 243 10 rfl rfl rfl (by decide) (hz.le (by decide)) rfl rfl ?_
  refine wp_putR [some (some 6), some none, some none, some none] 13 rfl rfl (by decide) (by rw [upT_ne (by decide)]; exact hT) (by decide) rfl rfl rfl ?_
  refine wp_s 14 rfl ?_
  refine wp_s 17 rfl ?_
  refine wp_newI 8 501 243 19 rfl rfl rfl (by decide) (hz.le (by decide)) rfl rfl ?_
  refine wp_putR [some (some 6), some (some 7), some none, some none] 22 rfl rfl (by decide) (by rw [upT_ne (by decide), upT_at]) (by decide) rfl rfl rfl ?_
  refine wp_s 23 rfl ?_
  refine wp_s 26 rfl ?_
  refine wp_newI 9 744 243 28 rfl rfl rfl (by decide) (hz.le (by decide)) rfl rfl ?_
  refine wp_putR [some (some 6), some (some 7), some (some 8), some none] 31 rfl rfl (by decide) (by rw [upT_ne (by decide), upT_at]) (by decide) rfl rfl rfl ?_
  refine wp_s 32 rfl ?_
  refine wp_s 35 rfl ?_
  refine wp_newI 10 2445 1701 37 rfl rfl rfl (by decide) (hz.le (by decide)) rfl rfl ?_
  refine wp_putR [some (some 6), some (some 7), some (some 8), some (some 9)] 40 rfl rfl (by decide) (by rw [upT_ne (by decide), upT_at]) (by decide) rfl rfl rfl ?_
  refine Wp.mono (wp_wq (G := (10, 2445, (upT (upT (upT (upT (upT (upT (upT (upT T 6 (.inl (false, 243))) 5 (.inr (4, [some (some 6), some none, some none, some none]))) 7 (.inl (false, 243))) 5 (.inr (4, [some (some 6), some (some 7), some none, some none]))) 8 (.inl (false, 243))) 5 (.inr (4, [some (some 6), some (some 7), some (some 8), some none]))) 9 (.inl (false, 1701))) 5 (.inr (4, [some (some 6), some (some 7), some (some 8), some (some 9)]))))) (sh_40 (ShG_of rfl rfl rfl rfl rfl))) (fun r h' hr => ?_)
  obtain ⟨M', e1, e2, e3, e4⟩ := hr
  exact ⟨e2, M', e1, e3, e4⟩
theorem c_X3_init {d : Nat} {T : Nat → LK} {M : MT} (hT : T 21 = .inr (3, nfl.getD 3 [])) (hz : Zr 22 M) : Wp (d + 2) k_X3_init 0 (entA k_X3_init [vR 21, vR 5, vR 19]) [] (22, 4731, T, M) (fun r h' => r = none ∧ h' = (24, 4743, (upT (upT (upT (upT (upT (upT (upT (upT T 21 (.inr (3, [some (some 5), some none, some none, none, none]))) 21 (.inr (3, [some (some 5), some (some 19), some none, none, none]))) 22 (.inr (6, [some none, some none, some none]))) 23 (.inl (false, 9))) 22 (.inr (6, [some none, some none, some (some 23)]))) 22 (.inr (6, [some (some 5), some none, some (some 23)]))) 22 (.inr (6, [some (some 5), some (some 19), some (some 23)]))) 21 (.inr (3, [some (some 5), some (some 19), some (some 22), none, none]))), M)) := by
  refine wp_s 1 rfl ?_
  refine wp_obj 4 rfl rfl (Nat.le_of_ble_eq_true rfl) ?_
  refine wp_s 5 rfl ?_
  refine wp_s 6 rfl ?_
  refine wp_putR [some (some 5), some none, some none, none, none] 9 rfl rfl (by decide) hT (by decide) rfl rfl rfl ?_
  refine wp_s 10 rfl ?_
  refine wp_s 11 rfl ?_
  refine wp_putR [some (some 5), some (some 19), some none, none, none] 14 rfl rfl (by decide) (by rw [upT_at]) (by decide) rfl rfl rfl ?_
  refine wp_s 15 rfl ?_
  refine wp_new 23 4734 18 rfl rfl (hz.le (by decide)) rfl rfl ?_
  refine wp_s 19 rfl ?_
  refine wp_s 20 rfl ?_
  refine wp_s 21 rfl ?_
  refine wp_call 24 rfl rfl ⟨rfl, Nat.le_of_ble_eq_true rfl⟩ (c_X6_init (n := 23) (z := 4734) (b := 22) (q := 5) (g := 19) (by decide) (by rw [upT_at]) (hz.le (by decide))) (fun r h1 hr => ?_)
  obtain ⟨rfl, rfl⟩ := hr
  refine wp_putR [some (some 5), some (some 19), some (some 22), none, none] 27 rfl rfl (by decide) (by rw [upT_ne (by decide), upT_ne (by decide), upT_ne (by decide), upT_ne (by decide), upT_ne (by decide), upT_at]) (by decide) rfl rfl rfl ?_
  exact wp_ret rfl ⟨rfl, rfl⟩
theorem c_X5_init {d : Nat} {T : Nat → LK} {M : MT} (hT : T 45 = .inr (5, nfl.getD 5 [])) (hz : Zr 46 M) : Wp (d + 2) k_X5_init 0 (entA k_X5_init [vR 45, vR 5]) [] (46, 36185, T, M) (fun r h' => r = none ∧ h' = (55, 37972, (upT (upT (upT (upT (upT (upT (upT (upT (upT (upT (upT (upT (upT (upT (upT (upT (upT (upT (upT (upT T 46 (.inl (false, 324))) 45 (.inr (5, [some none, some none, some (some 46), none, none, some none, some none, some none, none, none, none, none, none, some none]))) 47 (.inl (false, 81))) 45 (.inr (5, [some none, some none, some (some 46), none, none, some (some 47), some none, some none, none, none, none, none, none, some none]))) 48 (.inl (false, 81))) 45 (.inr (5, [some none, some none, some (some 46), none, none, some (some 47), some (some 48), some none, none, none, none, none, none, some none]))) 49 (.inl (false, 81))) 45 (.inr (5, [some none, some none, some (some 46), none, none, some (some 47), some (some 48), some (some 49), none, none, none, none, none, some none]))) 50 (.inl (false, 162))) 45 (.inr (5, [some none, some none, some (some 46), none, none, some (some 47), some (some 48), some (some 49), none, none, none, none, none, some (some 50)]))) 45 (.inr (5, [some (some 5), some none, some (some 46), none, none, some (some 47), some (some 48), some (some 49), none, none, none, none, none, some (some 50)]))) 51 (.inr (0, [some none, some none, some none, some none, none]))) 52 (.inl (false, 81))) 51 (.inr (0, [some none, some (some 52), some none, some none, none]))) 53 (.inl (false, 243))) 51 (.inr (0, [some none, some (some 52), some (some 53), some none, none]))) 54 (.inl (false, 729))) 51 (.inr (0, [some none, some (some 52), some (some 53), some (some 54), none]))) 51 (.inr (0, [some (some 5), some (some 52), some (some 53), some (some 54), none]))) 45 (.inr (5, [some (some 5), some (some 51), some (some 46), none, none, some (some 47), some (some 48), some (some 49), none, none, none, none, none, some (some 50)]))), M)) := by
  refine wp_s 1 rfl ?_
  refine wp_obj 4 rfl rfl (Nat.le_of_ble_eq_true rfl) ?_
  refine wp_s 5 rfl ?_
  refine wp_s 8 rfl ?_
  refine wp_newI 47 36509 324 10 rfl rfl rfl (by decide) (hz.le (by decide)) rfl rfl ?_
  refine wp_putR [some none, some none, some (some 46), none, none, some none, some none, some none, none, none, none, none, none, some none] 13 rfl rfl (by decide) (by rw [upT_ne (by decide)]; exact hT) (by decide) rfl rfl rfl ?_
  refine wp_s 14 rfl ?_
  refine wp_s 16 rfl ?_
  refine wp_newI 48 36590 81 18 rfl rfl rfl (by decide) (hz.le (by decide)) rfl rfl ?_
  refine wp_putR [some none, some none, some (some 46), none, none, some (some 47), some none, some none, none, none, none, none, none, some none] 21 rfl rfl (by decide) (by rw [upT_ne (by decide), upT_at]) (by decide) rfl rfl rfl ?_
  refine wp_s 22 rfl ?_
  refine wp_s 24 rfl ?_
  refine wp_newI 49 36671 81 26 rfl rfl rfl (by decide) (hz.le (by decide)) rfl rfl ?_
  refine wp_putR [some none, some none, some (some 46), none, none, some (some 47), some (some 48), some none, none, none, none, none, none, some none] 29 rfl rfl (by decide) (by rw [upT_ne (by decide), upT_at]) (by decide) rfl rfl rfl ?_
  refine wp_s 30 rfl ?_
  refine wp_s 32 rfl ?_
  refine wp_newI 50 36752 81 34 rfl rfl rfl (by decide) (hz.le (by decide)) rfl rfl ?_
  refine wp_putR [some none, some none, some (some 46), none, none, some (some 47), some (some 48), some (some 49), none, none, none, none, none, some none] 37 rfl rfl (by decide) (by rw [upT_ne (by decide), upT_at]) (by decide) rfl rfl rfl ?_
  refine wp_s 38 rfl ?_
  refine wp_s 41 rfl ?_
  refine wp_newI 51 36914 162 43 rfl rfl rfl (by decide) (hz.le (by decide)) rfl rfl ?_
  refine wp_putR [some none, some none, some (some 46), none, none, some (some 47), some (some 48), some (some 49), none, none, none, none, none, some (some 50)] 46 rfl rfl (by decide) (by rw [upT_ne (by decide), upT_at]) (by decide) rfl rfl rfl ?_
  refine wp_s 47 rfl ?_
  refine wp_s 48 rfl ?_
  refine wp_putR [some (some 5), some none, some (some 46), none, none, some (some 47), some (some 48), some (some 49), none, none, none, none, none, some (some 50)] 51 rfl rfl (by decide) (by rw [upT_at]) (by decide) rfl rfl rfl ?_
  refine wp_s 52 rfl ?_
  refine wp_new 52 36919 55 rfl rfl (hz.le (by decide)) rfl rfl ?_
  refine wp_s 56 rfl ?_
  refine wp_s 57 rfl ?_
  refine wp_call 60 rfl rfl ⟨rfl, Nat.le_of_ble_eq_true rfl⟩ (c_X0_init (n := 52) (z := 36919) (b := 51) (q := 5) (by decide) (by rw [upT_at]) (hz.le (by decide))) (fun r h1 hr => ?_)
  obtain ⟨rfl, rfl⟩ := hr
  refine wp_putR [some (some 5), some (some 51), some (some 46), none, none, some (some 47), some (some 48), some (some 49), none, none, none, none, none, some (some 50)] 63 rfl rfl (by decide) (by rw [upT_ne (by decide), upT_ne (by decide), upT_ne (by decide), upT_ne (by decide), upT_ne (by decide), upT_ne (by decide), upT_ne (by decide), upT_ne (by decide), upT_at]) (by decide) rfl rfl rfl ?_
  exact wp_ret rfl ⟨rfl, rfl⟩
def cT (T : Nat → LK) : Nat → LK := (upT (upT (upT (upT (upT (upT (upT (upT (upT (upT (upT (upT (upT (upT (upT (upT (upT (upT (upT (upT (upT (upT (upT (upT (upT (upT (upT (upT (upT (upT (upT (upT (upT (upT (upT (upT (upT (upT (upT (upT (upT (upT (upT (upT (upT (upT (upT (upT (upT (upT (upT (upT (upT (upT (upT (upT (upT (upT (upT (upT (upT (upT (upT (upT (upT (upT (upT (upT (upT (upT (upT (upT (upT (upT (upT (upT (upT (upT (upT (upT (upT (upT (upT (upT (upT (upT (upT (upT (upT (upT (upT (upT (upT (upT (upT (upT (upT (upT (upT (upT (upT (upT (upT (upT (upT (upT (upT (upT (upT (upT (upT (upT T 5 (.inr (4, [some none, some none, some none, some none]))) 6 (.inl (false, 243))) 5 (.inr (4, [some (some 6), some none, some none, some none]))) 7 (.inl (false, 243))) 5 (.inr (4, [some (some 6), some (some 7), some none, some none]))) 8 (.inl (false, 243))) 5 (.inr (4, [some (some 6), some (some 7), some (some 8), some none]))) 9 (.inl (false, 1701))) 5 (.inr (4, [some (some 6), some (some 7), some (some 8), some (some 9)]))) 10 (.inl (false, 81))) 4 (.inr (8, [some (some 10), some none, some none, some none, some none, some none, some none, some none, some none, none, none]))) 11 (.inr (0, [some none, some none, some none, some none, none]))) 12 (.inl (false, 81))) 11 (.inr (0, [some none, some (some 12), some none, some none, none]))) 13 (.inl (false, 243))) 11 (.inr (0, [some none, some (some 12), some (some 13), some none, none]))) 14 (.inl (false, 729))) 11 (.inr (0, [some none, some (some 12), some (some 13), some (some 14), none]))) 11 (.inr (0, [some (some 5), some (some 12), some (some 13), some (some 14), none]))) 4 (.inr (8, [some (some 10), some (some 11), some none, some none, some none, some none, some none, some none, some none, none, none]))) 15 (.inr (0, [some none, some none, some none, some none, none]))) 16 (.inl (false, 81))) 15 (.inr (0, [some none, some (some 16), some none, some none, none]))) 17 (.inl (false, 243))) 15 (.inr (0, [some none, some (some 16), some (some 17), some none, none]))) 18 (.inl (false, 729))) 15 (.inr (0, [some none, some (some 16), some (some 17), some (some 18), none]))) 15 (.inr (0, [some (some 5), some (some 16), some (some 17), some (some 18), none]))) 4 (.inr (8, [some (some 10), some (some 11), some (some 15), some none, some none, some none, some none, some none, some none, none, none]))) 19 (.inr (2, [some none, some none, none]))) 20 (.inl (false, 81))) 19 (.inr (2, [some none, some (some 20), none]))) 19 (.inr (2, [some (some 5), some (some 20), none]))) 4 (.inr (8, [some (some 10), some (some 11), some (some 15), some (some 19), some none, some none, some none, some none, some none, none, none]))) 21 (.inr (3, [some none, some none, some none, none, none]))) 21 (.inr (3, [some (some 5), some none, some none, none, none]))) 21 (.inr (3, [some (some 5), some (some 19), some none, none, none]))) 22 (.inr (6, [some none, some none, some none]))) 23 (.inl (false, 9))) 22 (.inr (6, [some none, some none, some (some 23)]))) 22 (.inr (6, [some (some 5), some none, some (some 23)]))) 22 (.inr (6, [some (some 5), some (some 19), some (some 23)]))) 21 (.inr (3, [some (some 5), some (some 19), some (some 22), none, none]))) 4 (.inr (8, [some (some 10), some (some 11), some (some 15), some (some 19), some (some 21), some none, some none, some none, some none, none, none]))) 24 (.inr (1, [some none, some none, some none, some none, some none, none, some none, some none, some none, some none, some none, some none, some none, none, none, some none, none]))) 25 (.inl (false, 2916))) 24 (.inr (1, [some none, some none, some (some 25), some none, some none, none, some none, some none, some none, some none, some none, some none, some none, none, none, some none, none]))) 26 (.inl (false, 729))) 24 (.inr (1, [some none, some none, some (some 25), some (some 26), some none, none, some none, some none, some none, some none, some none, some none, some none, none, none, some none, none]))) 27 (.inl (false, 28))) 24 (.inr (1, [some none, some none, some (some 25), some (some 26), some (some 27), none, some none, some none, some none, some none, some none, some none, some none, none, none, some none, none]))) 28 (.inl (false, 729))) 24 (.inr (1, [some none, some none, some (some 25), some (some 26), some (some 27), none, some (some 28), some none, some none, some none, some none, some none, some none, none, none, some none, none]))) 29 (.inl (false, 729))) 24 (.inr (1, [some none, some none, some (some 25), some (some 26), some (some 27), none, some (some 28), some (some 29), some none, some none, some none, some none, some none, none, none, some none, none]))) 30 (.inl (false, 729))) 24 (.inr (1, [some none, some none, some (some 25), some (some 26), some (some 27), none, some (some 28), some (some 29), some (some 30), some none, some none, some none, some none, none, none, some none, none]))) 31 (.inl (false, 729))) 24 (.inr (1, [some none, some none, some (some 25), some (some 26), some (some 27), none, some (some 28), some (some 29), some (some 30), some (some 31), some none, some none, some none, none, none, some none, none]))) 32 (.inl (false, 729))) 24 (.inr (1, [some none, some none, some (some 25), some (some 26), some (some 27), none, some (some 28), some (some 29), some (some 30), some (some 31), some (some 32), some none, some none, none, none, some none, none]))) 33 (.inl (false, 729))) 24 (.inr (1, [some none, some none, some (some 25), some (some 26), some (some 27), none, some (some 28), some (some 29), some (some 30), some (some 31), some (some 32), some (some 33), some none, none, none, some none, none]))) 34 (.inl (false, 729))) 24 (.inr (1, [some none, some none, some (some 25), some (some 26), some (some 27), none, some (some 28), some (some 29), some (some 30), some (some 31), some (some 32), some (some 33), some (some 34), none, none, some none, none]))) 35 (.inl (false, 24))) 24 (.inr (1, [some none, some none, some (some 25), some (some 26), some (some 27), none, some (some 28), some (some 29), some (some 30), some (some 31), some (some 32), some (some 33), some (some 34), none, none, some (some 35), none]))) 24 (.inr (1, [some (some 5), some none, some (some 25), some (some 26), some (some 27), none, some (some 28), some (some 29), some (some 30), some (some 31), some (some 32), some (some 33), some (some 34), none, none, some (some 35), none]))) 24 (.inr (1, [some (some 5), some (some 19), some (some 25), some (some 26), some (some 27), none, some (some 28), some (some 29), some (some 30), some (some 31), some (some 32), some (some 33), some (some 34), none, none, some (some 35), none]))) 4 (.inr (8, [some (some 10), some (some 11), some (some 15), some (some 19), some (some 21), some (some 24), some none, some none, some none, none, none]))) 36 (.inr (7, [some none, some none, some none, some none, some none, some none, some none, some none, none, none, none, none]))) 37 (.inl (false, 729))) 36 (.inr (7, [some (some 37), some none, some none, some none, some none, some none, some none, some none, none, none, none, none]))) 38 (.inl (false, 729))) 36 (.inr (7, [some (some 37), some (some 38), some none, some none, some none, some none, some none, some none, none, none, none, none]))) 39 (.inl (false, 729))) 36 (.inr (7, [some (some 37), some (some 38), some (some 39), some none, some none, some none, some none, some none, none, none, none, none]))) 40 (.inl (false, 729))) 36 (.inr (7, [some (some 37), some (some 38), some (some 39), some (some 40), some none, some none, some none, some none, none, none, none, none]))) 41 (.inl (false, 729))) 36 (.inr (7, [some (some 37), some (some 38), some (some 39), some (some 40), some (some 41), some none, some none, some none, none, none, none, none]))) 42 (.inl (false, 729))) 36 (.inr (7, [some (some 37), some (some 38), some (some 39), some (some 40), some (some 41), some (some 42), some none, some none, none, none, none, none]))) 43 (.inl (false, 729))) 36 (.inr (7, [some (some 37), some (some 38), some (some 39), some (some 40), some (some 41), some (some 42), some (some 43), some none, none, none, none, none]))) 44 (.inl (false, 17496))) 36 (.inr (7, [some (some 37), some (some 38), some (some 39), some (some 40), some (some 41), some (some 42), some (some 43), some (some 44), none, none, none, none]))) 4 (.inr (8, [some (some 10), some (some 11), some (some 15), some (some 19), some (some 21), some (some 24), some (some 36), some none, some none, none, none]))) 45 (.inr (5, [some none, some none, some none, none, none, some none, some none, some none, none, none, none, none, none, some none]))) 46 (.inl (false, 324))) 45 (.inr (5, [some none, some none, some (some 46), none, none, some none, some none, some none, none, none, none, none, none, some none]))) 47 (.inl (false, 81))) 45 (.inr (5, [some none, some none, some (some 46), none, none, some (some 47), some none, some none, none, none, none, none, none, some none]))) 48 (.inl (false, 81))) 45 (.inr (5, [some none, some none, some (some 46), none, none, some (some 47), some (some 48), some none, none, none, none, none, none, some none]))) 49 (.inl (false, 81))) 45 (.inr (5, [some none, some none, some (some 46), none, none, some (some 47), some (some 48), some (some 49), none, none, none, none, none, some none]))) 50 (.inl (false, 162))) 45 (.inr (5, [some none, some none, some (some 46), none, none, some (some 47), some (some 48), some (some 49), none, none, none, none, none, some (some 50)]))) 45 (.inr (5, [some (some 5), some none, some (some 46), none, none, some (some 47), some (some 48), some (some 49), none, none, none, none, none, some (some 50)]))) 51 (.inr (0, [some none, some none, some none, some none, none]))) 52 (.inl (false, 81))) 51 (.inr (0, [some none, some (some 52), some none, some none, none]))) 53 (.inl (false, 243))) 51 (.inr (0, [some none, some (some 52), some (some 53), some none, none]))) 54 (.inl (false, 729))) 51 (.inr (0, [some none, some (some 52), some (some 53), some (some 54), none]))) 51 (.inr (0, [some (some 5), some (some 52), some (some 53), some (some 54), none]))) 45 (.inr (5, [some (some 5), some (some 51), some (some 46), none, none, some (some 47), some (some 48), some (some 49), none, none, none, none, none, some (some 50)]))) 4 (.inr (8, [some (some 10), some (some 11), some (some 15), some (some 19), some (some 21), some (some 24), some (some 36), some (some 45), some none, none, none]))) 55 (.inl (false, 24))) 4 (.inr (8, [some (some 10), some (some 11), some (some 15), some (some 19), some (some 21), some (some 24), some (some 36), some (some 45), some (some 55), none, none])))
theorem cT_at (T : Nat → LK) : ∀ i : Fin 52, cT T (4 + i.val) = clT.getD i.val (.inl (false, 0)) := fun i => match i with
  | ⟨0, _⟩ => rfl
  | ⟨1, _⟩ => rfl
  | ⟨2, _⟩ => rfl
  | ⟨3, _⟩ => rfl
  | ⟨4, _⟩ => rfl
  | ⟨5, _⟩ => rfl
  | ⟨6, _⟩ => rfl
  | ⟨7, _⟩ => rfl
  | ⟨8, _⟩ => rfl
  | ⟨9, _⟩ => rfl
  | ⟨10, _⟩ => rfl
  | ⟨11, _⟩ => rfl
  | ⟨12, _⟩ => rfl
  | ⟨13, _⟩ => rfl
  | ⟨14, _⟩ => rfl
  | ⟨15, _⟩ => rfl
  | ⟨16, _⟩ => rfl
  | ⟨17, _⟩ => rfl
  | ⟨18, _⟩ => rfl
  | ⟨19, _⟩ => rfl
  | ⟨20, _⟩ => rfl
  | ⟨21, _⟩ => rfl
  | ⟨22, _⟩ => rfl
  | ⟨23, _⟩ => rfl
  | ⟨24, _⟩ => rfl
  | ⟨25, _⟩ => rfl
  | ⟨26, _⟩ => rfl
  | ⟨27, _⟩ => rfl
  | ⟨28, _⟩ => rfl
  | ⟨29, _⟩ => rfl
  | ⟨30, _⟩ => rfl
  | ⟨31, _⟩ => rfl
  | ⟨32, _⟩ => rfl
  | ⟨33, _⟩ => rfl
  | ⟨34, _⟩ => rfl
  | ⟨35, _⟩ => rfl
  | ⟨36, _⟩ => rfl
  | ⟨37, _⟩ => rfl
  | ⟨38, _⟩ => rfl
  | ⟨39, _⟩ => rfl
  | ⟨40, _⟩ => rfl
  | ⟨41, _⟩ => rfl
  | ⟨42, _⟩ => rfl
  | ⟨43, _⟩ => rfl
  | ⟨44, _⟩ => rfl
  | ⟨45, _⟩ => rfl
  | ⟨46, _⟩ => rfl
  | ⟨47, _⟩ => rfl
  | ⟨48, _⟩ => rfl
  | ⟨49, _⟩ => rfl
  | ⟨50, _⟩ => rfl
  | ⟨51, _⟩ => rfl
  | ⟨j + 52, h⟩ => absurd h (by omega)
theorem clT_of {T : Nat → LK} (h : ∀ i : Fin 52, T (4 + i.val) = clT.getD i.val (.inl (false, 0))) : ∀ (i : Nat) (c : LK), clT[i]? = some c → T (4 + i) = c := by
  intro i c hc
  have hi : i < 52 := (List.getElem?_eq_some_iff.1 hc).1
  have h1 := h ⟨i, hi⟩
  dsimp only at h1
  rw [h1, List.getD_eq_getElem?_getD, hc]
  rfl
theorem cT_G {T : Nat → LK} {z : Nat} (h1 : T 1 = .inl (false, 13)) (h2 : T 2 = .inl (false, 13)) (h3 : T 3 = .inl (false, 14)) : ClsG (56, z, cT T) := ⟨Nat.le_refl _, clT_of (cT_at T), h1, h2, h3⟩
theorem pre_0 {M : MT} (hS : ShpAt M) (hz : Zr 10 M) (hT : TbAt M) : PreSt M (fun _ => 0) 0 := by
  have hB : ∀ q, 10 ≤ q → AtB M q (fun _ => 0) := fun q hq c _ => ⟨hz q hq _, show (0 : Nat) < 512 by decide⟩
  refine ⟨⟨hS, hT⟩, fun c _ => ⟨hz 10 (by decide) _, show (0 : Nat) ≤ 9 by decide⟩, ⟨_, hB 12 (by decide)⟩, ⟨_, hB 16 (by decide)⟩, ⟨_, hB 52 (by decide)⟩, ⟨hB 20 (by decide), ?_⟩, hz 24 (by decide) _, fun m _ => ?_⟩
  · rw [hz 19 (by decide) _, show cntX (fun _ => 0) = 0 from sumN_0' 81 (fun c _ => show pop9 0 = 0 by decide)]
    rfl
  · rw [hz 28 (by decide) _, hz 29 (by decide) _, hz 30 (by decide) _]
    exact ⟨⟨Int.le_refl _, Int.le_refl _⟩, ⟨Int.le_refl _, Int.le_refl _⟩, ⟨Int.le_refl _, Int.le_refl _⟩⟩
theorem c_X8_init {d : Nat} {T : Nat → LK} {M : MT} (hT : T 4 = .inr (8, nfl.getD 8 [])) (h1 : T 1 = .inl (false, 13)) (h2 : T 2 = .inl (false, 13)) (h3 : T 3 = .inl (false, 14)) (hz : Zr 5 M) (hTb : TbAt M) : Wp (d + 3) k_X8_init 0 (entA k_X8_init [vR 4]) [] (5, 11, T, M) (fun r h' => r = none ∧ ∃ M', h' = (56, 37996, cT T, M') ∧ (∀ F Sv, ClsSt M' (fun _ => 0) (fstF (fun _ => 0)) (fstF (fun _ => 0)) [] 0 [] (0, 0, 0, 0, 0, F, Sv) 0) ∧ ∀ a, (a < 4 ∨ 55 < a) → M' a = M a) := by
  refine wp_s 1 rfl ?_
  refine wp_obj 4 rfl rfl (Nat.le_of_ble_eq_true rfl) ?_
  refine wp_new 6 15 7 rfl rfl (hz.le (by decide)) rfl rfl ?_
  refine wp_s 8 rfl ?_
  refine wp_call 11 rfl rfl ⟨rfl, Nat.le_of_ble_eq_true rfl⟩ (c_X4_init (by rw [upT_at]) (hz.le (by decide))) (fun r h1 hr => ?_)
  obtain ⟨rfl, M1, rfl, hS1, hF1⟩ := hr
  have hz1 : Zr 10 M1 := fun a ha j => by rw [hF1 a (by omega)]; exact hz a (by omega) j
  refine wp_s 12 rfl ?_
  refine wp_s 13 rfl ?_
  refine wp_s 15 rfl ?_
  refine wp_newI 11 2526 81 17 rfl rfl rfl (by decide) (hz1.le (by decide)) rfl rfl ?_
  refine wp_putR [some (some 10), some none, some none, some none, some none, some none, some none, some none, some none, none, none] 20 rfl rfl (by decide) (by rw [upT_ne (by decide), upT_ne (by decide), upT_ne (by decide), upT_ne (by decide), upT_ne (by decide), upT_ne (by decide), upT_ne (by decide), upT_ne (by decide), upT_ne (by decide), upT_ne (by decide)]; exact hT) (by decide) rfl rfl rfl ?_
  refine wp_s 21 rfl ?_
  refine wp_new 12 2531 24 rfl rfl (hz1.le (by decide)) rfl rfl ?_
  refine wp_s 25 rfl ?_
  refine wp_s 26 rfl ?_
  refine wp_call 29 rfl rfl ⟨rfl, Nat.le_of_ble_eq_true rfl⟩ (c_X0_init (n := 12) (z := 2531) (b := 11) (q := 5) (by decide) (by rw [upT_at]) (hz1.le (by decide))) (fun r h1 hr => ?_)
  obtain ⟨rfl, rfl⟩ := hr
  refine wp_putR [some (some 10), some (some 11), some none, some none, some none, some none, some none, some none, some none, none, none] 32 rfl rfl (by decide) (by rw [upT_ne (by decide), upT_ne (by decide), upT_ne (by decide), upT_ne (by decide), upT_ne (by decide), upT_ne (by decide), upT_ne (by decide), upT_ne (by decide), upT_at]) (by decide) rfl rfl rfl ?_
  refine wp_s 33 rfl ?_
  refine wp_new 16 3589 36 rfl rfl (hz1.le (by decide)) rfl rfl ?_
  refine wp_s 37 rfl ?_
  refine wp_s 38 rfl ?_
  refine wp_call 41 rfl rfl ⟨rfl, Nat.le_of_ble_eq_true rfl⟩ (c_X0_init (n := 16) (z := 3589) (b := 15) (q := 5) (by decide) (by rw [upT_at]) (hz1.le (by decide))) (fun r h1 hr => ?_)
  obtain ⟨rfl, rfl⟩ := hr
  refine wp_putR [some (some 10), some (some 11), some (some 15), some none, some none, some none, some none, some none, some none, none, none] 44 rfl rfl (by decide) (by rw [upT_ne (by decide), upT_ne (by decide), upT_ne (by decide), upT_ne (by decide), upT_ne (by decide), upT_ne (by decide), upT_ne (by decide), upT_ne (by decide), upT_at]) (by decide) rfl rfl rfl ?_
  refine wp_s 45 rfl ?_
  refine wp_new 20 4645 48 rfl rfl (hz1.le (by decide)) rfl rfl ?_
  refine wp_s 49 rfl ?_
  refine wp_s 50 rfl ?_
  refine wp_call 53 rfl rfl ⟨rfl, Nat.le_of_ble_eq_true rfl⟩ (c_X2_init (n := 20) (z := 4645) (b := 19) (q := 5) (by decide) (by rw [upT_at]) (hz1.le (by decide))) (fun r h1 hr => ?_)
  obtain ⟨rfl, rfl⟩ := hr
  refine wp_putR [some (some 10), some (some 11), some (some 15), some (some 19), some none, some none, some none, some none, some none, none, none] 56 rfl rfl (by decide) (by rw [upT_ne (by decide), upT_ne (by decide), upT_ne (by decide), upT_ne (by decide), upT_at]) (by decide) rfl rfl rfl ?_
  refine wp_s 57 rfl ?_
  refine wp_new 22 4731 60 rfl rfl (hz1.le (by decide)) rfl rfl ?_
  refine wp_s 61 rfl ?_
  refine wp_s 62 rfl ?_
  refine wp_s 63 rfl ?_
  refine wp_s 66 rfl ?_
  refine wp_call 69 rfl rfl ⟨rfl, Nat.le_of_ble_eq_true rfl⟩ (c_X3_init (by rw [upT_at]) (hz1.le (by decide))) (fun r h1 hr => ?_)
  obtain ⟨rfl, rfl⟩ := hr
  refine wp_putR [some (some 10), some (some 11), some (some 15), some (some 19), some (some 21), some none, some none, some none, some none, none, none] 72 rfl rfl (by decide) (by rw [upT_ne (by decide), upT_ne (by decide), upT_ne (by decide), upT_ne (by decide), upT_ne (by decide), upT_ne (by decide), upT_ne (by decide), upT_ne (by decide), upT_ne (by decide), upT_at]) (by decide) rfl rfl rfl ?_
  refine wp_s 73 rfl ?_
  refine wp_new 25 4760 76 rfl rfl (hz1.le (by decide)) rfl rfl ?_
  refine wp_s 77 rfl ?_
  refine wp_s 78 rfl ?_
  refine wp_s 79 rfl ?_
  refine wp_s 82 rfl ?_
  refine wp_call 85 rfl rfl ⟨rfl, Nat.le_of_ble_eq_true rfl⟩ (c_X1_init (n := 25) (z := 4760) (b := 24) (q := 5) (g := 19) (by decide) (by rw [upT_at]) (hz1.le (by decide))) (fun r h1 hr => ?_)
  obtain ⟨rfl, rfl⟩ := hr
  refine wp_putR [some (some 10), some (some 11), some (some 15), some (some 19), some (some 21), some (some 24), some none, some none, some none, none, none] 88 rfl rfl (by decide) (by rw [upT_ne (by decide), upT_ne (by decide), upT_ne (by decide), upT_ne (by decide), upT_ne (by decide), upT_ne (by decide), upT_ne (by decide), upT_ne (by decide), upT_ne (by decide), upT_ne (by decide), upT_ne (by decide), upT_ne (by decide), upT_ne (by decide), upT_ne (by decide), upT_ne (by decide), upT_ne (by decide), upT_ne (by decide), upT_ne (by decide), upT_ne (by decide), upT_ne (by decide), upT_ne (by decide), upT_ne (by decide), upT_ne (by decide), upT_ne (by decide), upT_ne (by decide), upT_at]) (by decide) rfl rfl rfl ?_
  refine wp_s 89 rfl ?_
  refine wp_new 37 13572 92 rfl rfl (hz1.le (by decide)) rfl rfl ?_
  refine wp_s 93 rfl ?_
  refine wp_call 96 rfl rfl ⟨rfl, Nat.le_of_ble_eq_true rfl⟩ (c_X7_init (n := 37) (z := 13572) (b := 36) (by decide) (by rw [upT_at]) (hz1.le (by decide))) (fun r h1 hr => ?_)
  obtain ⟨rfl, rfl⟩ := hr
  refine wp_putR [some (some 10), some (some 11), some (some 15), some (some 19), some (some 21), some (some 24), some (some 36), some none, some none, none, none] 99 rfl rfl (by decide) (by rw [upT_ne (by decide), upT_ne (by decide), upT_ne (by decide), upT_ne (by decide), upT_ne (by decide), upT_ne (by decide), upT_ne (by decide), upT_ne (by decide), upT_ne (by decide), upT_ne (by decide), upT_ne (by decide), upT_ne (by decide), upT_ne (by decide), upT_ne (by decide), upT_ne (by decide), upT_ne (by decide), upT_ne (by decide), upT_at]) (by decide) rfl rfl rfl ?_
  refine wp_s 100 rfl ?_
  refine wp_new 46 36185 103 rfl rfl (hz1.le (by decide)) rfl rfl ?_
  refine wp_s 104 rfl ?_
  refine wp_s 105 rfl ?_
  refine wp_call 108 rfl rfl ⟨rfl, Nat.le_of_ble_eq_true rfl⟩ (c_X5_init (by rw [upT_at]) (hz1.le (by decide))) (fun r h1 hr => ?_)
  obtain ⟨rfl, rfl⟩ := hr
  refine wp_putR [some (some 10), some (some 11), some (some 15), some (some 19), some (some 21), some (some 24), some (some 36), some (some 45), some none, none, none] 111 rfl rfl (by decide) (by rw [upT_ne (by decide), upT_ne (by decide), upT_ne (by decide), upT_ne (by decide), upT_ne (by decide), upT_ne (by decide), upT_ne (by decide), upT_ne (by decide), upT_ne (by decide), upT_ne (by decide), upT_ne (by decide), upT_ne (by decide), upT_ne (by decide), upT_ne (by decide), upT_ne (by decide), upT_ne (by decide), upT_ne (by decide), upT_ne (by decide), upT_ne (by decide), upT_ne (by decide), upT_ne (by decide), upT_at]) (by decide) rfl rfl rfl ?_
  refine wp_s 112 rfl ?_
  refine wp_s 114 rfl ?_
  refine wp_newI 56 37996 24 116 rfl rfl rfl (by decide) (hz1.le (by decide)) rfl rfl ?_
  refine wp_putR [some (some 10), some (some 11), some (some 15), some (some 19), some (some 21), some (some 24), some (some 36), some (some 45), some (some 55), none, none] 119 rfl rfl (by decide) (by rw [upT_ne (by decide), upT_at]) (by decide) rfl rfl rfl ?_
  refine wp_s 120 rfl ?_
  have hC : ClsG (56, 37996, cT T) := cT_G h1 h2 h3
  have hP : PreSt M1 (fun _ => 0) 0 := pre_0 hS1 hz1 (hTb.fr (hF1 _ (by decide)) (hF1 _ (by decide)) (hF1 _ (by decide)))
  refine wp_call 123 rfl rfl ⟨rfl, Nat.le_of_ble_eq_true rfl⟩ (wp_wq (G := (56, 37996, cT T)) (c_X8_startAnew (d := d) hC hP)) (fun r h1 hr => ?_)
  obtain ⟨M2, rfl, rfl, hS2, hF2⟩ := hr
  exact wp_ret rfl ⟨rfl, M2, rfl, hS2, fun a ha => by rw [hF2 a ha, hF1 a (by omega)]⟩
