/-! the whole run of the law -/
theorem tb_kz : ∀ r : Fin 13, tb_K.getD r.val 0 = ((kdN r.val : Nat) : Int) ∧ tb_Z.getD r.val 0 = ((if r.val < 4 then 0 else sizeN r.val : Nat) : Int) := by decide +kernel
theorem tb_w : ∀ r : Fin 14, tb_W.getD r.val 0 = ((wtN r.val : Nat) : Int) := by decide +kernel
theorem TbAt_0 (xs : Nat → Int32) : TbAt (M0 xs) := ⟨fun r hr => tb_kz ⟨r, hr⟩, fun r hr => tb_w ⟨r, hr⟩⟩
theorem Zr_0 (xs : Nat → Int32) : Zr 4 (M0 xs) := fun a ha j => by
  unfold M0
  rw [if_neg (by omega), if_neg (by omega), if_neg (by omega), if_neg (by omega)]
theorem rT_of {T : Nat → LK} {c : LK} {a : Nat} (h : a < 56) : rT (upT (cT T) 56 c) a = cT T a := by rw [rT_lt h, upT_ne (by omega)]
theorem cT_0 (T : Nat → LK) : cT T 0 = T 0 := rfl
theorem cT_1 (T : Nat → LK) : cT T 1 = T 1 := rfl
theorem cT_2 (T : Nat → LK) : cT T 2 = T 2 := rfl
theorem cT_3 (T : Nat → LK) : cT T 3 = T 3 := rfl
theorem clsG_r {T : Nat → LK} {c : LK} {z : Nat} (h1 : T 1 = .inl (false, 13)) (h2 : T 2 = .inl (false, 13)) (h3 : T 3 = .inl (false, 14)) : ClsG (84, z, rT (upT (cT T) 56 c)) := by
  obtain ⟨F, hF⟩ : ∃ F : Nat → LK, F = rT (upT (cT T) 56 c) := ⟨_, rfl⟩
  have e : ∀ a, a < 56 → F a = cT T a := fun a ha => by rw [hF]; exact rT_of ha
  rw [← hF]
  refine ⟨Nat.le_of_ble_eq_true rfl, fun i y hy => ?_, ?_, ?_, ?_⟩
  · have hi : i < 52 := (List.getElem?_eq_some_iff.1 hy).1
    exact (e (4 + i) (by omega)).trans (clT_of (cT_at T) i y hy)
  · exact (e 1 (by decide)).trans ((cT_1 T).trans h1)
  · exact (e 2 (by decide)).trans ((cT_2 T).trans h2)
  · exact (e 3 (by decide)).trans ((cT_3 T).trans h3)
theorem R32_0 (xs : Nat → Int32) (i : Int) : R32 (M0 xs 0 i) := by
  show R32 (xs i.toNat).toInt
  have h1 := Int32.le_toInt (xs i.toNat)
  have h2 := Int32.toInt_lt (xs i.toNat)
  omega
theorem c_law {d L : Nat} {xs : Nat → Int32} (hL : L ≤ 2048) : Wp (d + 12) k_L_law 0 (entA k_L_law [vR 0]) [] (4, 0, T0 L, M0 xs) (fun r h' => r = some (vI 1) ∧ h'.1 = 84 ∧ h'.2.1 = 104191) := by
  refine wp_new 5 11 3 rfl rfl (Zr_0 xs) rfl rfl ?_
  refine wp_s 4 rfl ?_
  refine wp_call 7 rfl rfl ⟨rfl, Nat.le_of_ble_eq_true rfl⟩ (c_X8_init (d := d + 8) upT_at (upT_ne (by decide)) (upT_ne (by decide)) (upT_ne (by decide)) ((Zr_0 xs).le (by decide)) (TbAt_0 xs)) (fun r h1 hr => ?_)
  obtain ⟨rfl, M1, rfl, hS1, hF1⟩ := hr
  have hz1 : Zr 56 M1 := fun a ha j => by rw [hF1 a (by omega)]; exact Zr_0 xs a (by omega) j
  refine wp_s 8 rfl ?_
  refine wp_new 57 38038 11 rfl rfl hz1 rfl rfl ?_
  refine wp_s 12 rfl ?_
  refine wp_call 15 rfl rfl ⟨rfl, Nat.le_of_ble_eq_true rfl⟩ (c_X9_init (d := d + 10) (fun _ => (fun _ => 0, 0, 0)) (fun _ _ => 0) upT_at (hz1.le (by decide))) (fun r h1 hr => ?_)
  obtain ⟨rfl, M2, rfl, hS2, hF2⟩ := hr
  refine wp_s 16 rfl ?_
  refine wp_s 17 rfl ?_
  refine wp_s 18 rfl ?_
  have h0 : M2 0 = M0 xs 0 := (hF2 0 (by decide)).trans (hF1 0 (by decide))
  generalize hF : rT (upT (cT (upT (T0 L) 4 (.inr (8, nfl.getD 8 [])))) 56 (.inr (9, nfl.getD 9 []))) = F
  have hT0 : F 0 = .inl (false, L) := by
    rw [← hF, rT_of (by decide), cT_0, upT_ne (by decide)]
    rfl
  have hCG : ClsG (84, 104191, F) := by
    rw [← hF]
    exact clsG_r (upT_ne (by decide)) (upT_ne (by decide)) (upT_ne (by decide))
  have hRG : RefG (84, 104191, F) 56 := by
    rw [← hF]
    exact rT_G _
  refine Wp.mono (wp_wq (law_18 (d := d) (G := (84, 104191, F)) (M := M0 xs) (L := L) hCG hRG hT0 hL (R32_0 xs) 513 0 M2 (by decide) (by decide) (Lw.new ((hS1 _ _).frO hF2) hS2 (Nat.zero_le _)) h0)) (fun r h' hr => ?_)
  obtain ⟨M3, rfl, h9⟩ := hr
  exact ⟨h9, rfl, rfl⟩
theorem pure_holds : PURE := by
  intro L xs hL
  obtain ⟨f, r, h', e, rfl, e1, e2⟩ := c_law (d := 28) (xs := xs) hL
  exact ⟨f, h', e, by omega, by omega⟩
