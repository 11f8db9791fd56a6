/-! a step is written down -/
abbrev GSt : Type := Nat × Nat × Nat × List Nat × List Nat
def dfS : GSt := (0, 0, 0, [], [])
def gTot : List GSt → Nat
  | [] => 0
  | s :: l => s.2.2.2.1.length + gTot l
def wtN (r : Nat) : Nat := (weightF (r : Int)).toNat
def scT : List GSt → Nat
  | [] => 0
  | s :: l => wtN s.1 + scT l
def lvF (v : Int) : List GSt → Int
  | [] => v
  | s :: l => lvF (if v < (s.1 : Int) then (s.1 : Int) else v) l
def lvT (l : List GSt) : Int := lvF (-1) l
theorem gTot_app (l k : List GSt) : gTot (l ++ k) = gTot l + gTot k := by
  induction l with
  | nil => exact (Nat.zero_add _).symm
  | cons s l ih =>
    show s.2.2.2.1.length + gTot (l ++ k) = s.2.2.2.1.length + gTot l + gTot k
    rw [ih, Nat.add_assoc]
theorem scT_app (l k : List GSt) : scT (l ++ k) = scT l + scT k := by
  induction l with
  | nil => exact (Nat.zero_add _).symm
  | cons s l ih =>
    show wtN s.1 + scT (l ++ k) = wtN s.1 + scT l + scT k
    rw [ih, Nat.add_assoc]
theorem lvF_app (s : GSt) (l : List GSt) : ∀ v, lvF v (l ++ [s]) = if lvF v l < (s.1 : Int) then (s.1 : Int) else lvF v l := by
  induction l with
  | nil => intro v; rfl
  | cons t l ih => intro v; exact ih _
theorem lvF_rng (l : List GSt) : ∀ v : Int, -1 ≤ v → v < 14 → (∀ s, s ∈ l → s.1 < 14) → -1 ≤ lvF v l ∧ lvF v l < 14 := by
  induction l with
  | nil => intro v h1 h2 _; exact ⟨h1, h2⟩
  | cons t l ih =>
    intro v h1 h2 h3
    have h4 := h3 t (List.mem_cons_self ..)
    refine ih _ ?_ ?_ (fun s hs => h3 s (List.mem_cons_of_mem _ hs))
    · split <;> omega
    · split <;> omega
theorem wtN_le : ∀ r : Fin 14, wtN r.val ≤ 30 ∧ weightF ((r.val : Nat) : Int) = ((wtN r.val : Nat) : Int) := by decide +kernel
theorem scT_le (l : List GSt) (h : ∀ s, s ∈ l → s.1 < 14) : scT l ≤ 30 * l.length := by
  induction l with
  | nil => exact Nat.le_refl _
  | cons t l ih =>
    have h1 := ih (fun s hs => h s (List.mem_cons_of_mem _ hs))
    have h2 := (wtN_le ⟨t.1, h t (List.mem_cons_self ..)⟩).1
    show wtN t.1 + scT l ≤ 30 * (l.length + 1)
    dsimp only at h2
    omega
/-- where the reference keeps step i -/
def RefS1 (M : MT) (o i f : Nat) (s : GSt) : Prop := M (o + 14) (i : Int) = (s.1 : Int) ∧ M (o + 15) (i : Int) = (s.2.1 : Int) ∧ M (o + 16) (i : Int) = (s.2.2.1 : Int) ∧ M (o + 17) (i : Int) = (s.2.2.2.1.length : Int) ∧ M (o + 18) (i : Int) = (f : Int) ∧ M (o + 19) (i : Int) = (s.2.2.2.2.length : Int) ∧ (∀ k, k < s.2.2.2.1.length → M (o + 20) ((f + k : Nat) : Int) = ((s.2.2.2.1.getD k 0 : Nat) : Int)) ∧ ∀ k, k < s.2.2.2.2.length → M (o + 21) ((24 * i + k : Nat) : Int) = ((s.2.2.2.2.getD k 0 : Nat) : Int)
def GStOk (s : GSt) : Prop := s.1 < 14 ∧ s.2.1 < 512 ∧ s.2.2.1 < 729 ∧ 1 ≤ s.2.2.2.1.length ∧ s.2.2.2.2.length ≤ 24 ∧ (∀ k, k < s.2.2.2.1.length → s.2.2.2.1.getD k 0 < 729) ∧ ∀ k, k < s.2.2.2.2.length → s.2.2.2.2.getD k 0 < 729
def RefTr (M : MT) (o : Nat) (T : List GSt) : Prop := M o 22 = (T.length : Int) ∧ M o 23 = ((gTot T : Nat) : Int) ∧ M o 24 = ((scT T : Nat) : Int) ∧ M o 25 = lvT T ∧ ∀ i, i < T.length → RefS1 M o i (gTot (T.take i)) (T.getD i dfS)
def TrOk (T : List GSt) : Prop := gTot T ≤ 729 ∧ ∀ s, s ∈ T → GStOk s
theorem TrOk.len {T : List GSt} (h : ∀ s, s ∈ T → GStOk s) : T.length ≤ gTot T := by
  induction T with
  | nil => exact Nat.le_refl _
  | cons s l ih =>
    have h1 := ih (fun s hs => h s (List.mem_cons_of_mem _ hs))
    have h2 := (h s (List.mem_cons_self ..)).2.2.2.1
    show l.length + 1 ≤ s.2.2.2.1.length + gTot l
    omega
theorem RefS1.fr {M M' : MT} {o i f : Nat} {s : GSt} (h : RefS1 M o i f s) (h14 : M' (o + 14) (i : Int) = M (o + 14) (i : Int)) (h15 : M' (o + 15) (i : Int) = M (o + 15) (i : Int)) (h16 : M' (o + 16) (i : Int) = M (o + 16) (i : Int)) (h17 : M' (o + 17) (i : Int) = M (o + 17) (i : Int)) (h18 : M' (o + 18) (i : Int) = M (o + 18) (i : Int)) (h19 : M' (o + 19) (i : Int) = M (o + 19) (i : Int)) (h20 : ∀ k, k < s.2.2.2.1.length → M' (o + 20) ((f + k : Nat) : Int) = M (o + 20) ((f + k : Nat) : Int)) (h21 : ∀ k, k < s.2.2.2.2.length → M' (o + 21) ((24 * i + k : Nat) : Int) = M (o + 21) ((24 * i + k : Nat) : Int)) : RefS1 M' o i f s := by
  obtain ⟨e1, e2, e3, e4, e5, e6, e7, e8⟩ := h
  exact ⟨h14.trans e1, h15.trans e2, h16.trans e3, h17.trans e4, h18.trans e5, h19.trans e6, fun k hk => (h20 k hk).trans (e7 k hk), fun k hk => (h21 k hk).trans (e8 k hk)⟩
theorem gTot_at (T : List GSt) : ∀ i, i < T.length → gTot (T.take i) + (T.getD i dfS).2.2.2.1.length ≤ gTot T := by
  induction T with
  | nil => intro i h; exact absurd h (Nat.not_lt_zero _)
  | cons s l ih =>
    intro i hi
    cases i with
    | zero =>
      show 0 + s.2.2.2.1.length ≤ s.2.2.2.1.length + gTot l
      omega
    | succ i =>
      have h1 := ih i (Nat.lt_of_succ_lt_succ hi)
      show s.2.2.2.1.length + gTot (l.take i) + (l.getD i dfS).2.2.2.1.length ≤ s.2.2.2.1.length + gTot l
      omega
theorem sgetD1 {T : List GSt} {s : GSt} {i : Nat} (h : i < T.length) : (T ++ [s]).getD i dfS = T.getD i dfS := by
  rw [List.getD_eq_getElem?_getD, List.getD_eq_getElem?_getD, List.getElem?_append_left h]
theorem sgetD2 {T : List GSt} {s : GSt} : (T ++ [s]).getD T.length dfS = s := by
  rw [List.getD_eq_getElem?_getD, List.getElem?_append_right (Nat.le_refl _), Nat.sub_self]
  rfl
theorem stake {T : List GSt} {s : GSt} {i : Nat} (h : i ≤ T.length) : (T ++ [s]).take i = T.take i := List.take_append_of_le_length h
theorem smem {T : List GSt} : ∀ i, i < T.length → T.getD i dfS ∈ T := by
  intro i hi
  rw [List.getD_eq_getElem?_getD, List.getElem?_eq_getElem hi]
  exact List.getElem_mem hi
theorem thL_lenmono (X : Nat → Nat) {n m : Nat} (h : n ≤ m) : (thL X n).length ≤ (thL X m).length := by
  induction h with
  | refl => exact Nat.le_refl _
  | step _ ih =>
    rename_i m _
    by_cases h : hasN X m = 1
    · rw [thL_t h, List.length_append]
      exact Nat.le_trans ih (Nat.le_add_right _ _)
    · rw [thL_f h]
      exact ih
theorem c_X9_takes {d : Nat} {G : GT} {M : MT} {o r p v : Nat} {X Y : Nat → Nat} {T : List GSt} {ls : List Nat} (hG : RefG G o) (hr : r < 14) (hX : AtB M (o + 3) X) (hY : AtB M (o + 5) Y) (hTr : RefTr M o T) (hOk : TrOk T) (hp : M o 27 = (p : Int)) (hv : M o 28 = (v : Int)) (hc : M o 29 = ((thL Y 729).length : Int)) (hfit : gTot T + (thL Y 729).length ≤ 729) (hls : ls.length ≤ 24) (hro : ∀ s, s < ls.length → M (o + 13) (s : Int) = ((ls.getD s 0 : Nat) : Int)) (hl0 : 1 ≤ (thL Y 729).length) : Mq (d + 1) k_X9_takes [vR o, vI (r : Int), vI (ls.length : Int)] G M (fun z M' => z = none ∧ RefTr M' o (T ++ [(r, p, v, thL Y 729, ls)]) ∧ AtB M' (o + 3) (fun c => andN (X c) (Y c)) ∧ (∀ a, a ≠ o → a ≠ o + 3 → (a < o + 14 ∨ o + 21 < a) → M' a = M a) ∧ ∀ i : Int, (i < 22 ∨ 25 < i) → M' o i = M o i) := by
  obtain ⟨t22, t23, t24, t25, tS⟩ := id hTr
  have hlen := TrOk.len hOk.2
  have hsc := scT_le T (fun s hs => (hOk.2 s hs).1)
  have hlv := lvF_rng T (-1) (by decide) (by decide) (fun s hs => (hOk.2 s hs).1)
  have hwt := wtN_le ⟨r, hr⟩
  dsimp only at hwt
  obtain ⟨M6, hM6⟩ : ∃ M6 : MT, M6 = up2 (up2 (up2 (up2 (up2 (up2 M (o + 14) (T.length : Int) (r : Int)) (o + 15) (T.length : Int) (p : Int)) (o + 16) (T.length : Int) (v : Int)) (o + 17) (T.length : Int) ((thL Y 729).length : Int)) (o + 18) (T.length : Int) ((gTot T : Nat) : Int)) (o + 19) (T.length : Int) (ls.length : Int) := ⟨_, rfl⟩
  have k6 : M6 (o + 14) (T.length : Int) = (r : Int) ∧ M6 (o + 15) (T.length : Int) = (p : Int) ∧ M6 (o + 16) (T.length : Int) = (v : Int) ∧ M6 (o + 17) (T.length : Int) = ((thL Y 729).length : Int) ∧ M6 (o + 18) (T.length : Int) = ((gTot T : Nat) : Int) ∧ M6 (o + 19) (T.length : Int) = (ls.length : Int) := by
    rw [hM6]
    refine ⟨?_, ?_, ?_, ?_, ?_, ?_⟩
    · rw [up2_ne (Or.inl (by omega)), up2_ne (Or.inl (by omega)), up2_ne (Or.inl (by omega)), up2_ne (Or.inl (by omega)), up2_ne (Or.inl (by omega)), up2_at]
    · rw [up2_ne (Or.inl (by omega)), up2_ne (Or.inl (by omega)), up2_ne (Or.inl (by omega)), up2_ne (Or.inl (by omega)), up2_at]
    · rw [up2_ne (Or.inl (by omega)), up2_ne (Or.inl (by omega)), up2_ne (Or.inl (by omega)), up2_at]
    · rw [up2_ne (Or.inl (by omega)), up2_ne (Or.inl (by omega)), up2_at]
    · rw [up2_ne (Or.inl (by omega)), up2_at]
    · rw [up2_at]
  have f6 : ∀ a, (a < o + 14 ∨ o + 19 < a) → M6 a = M a := fun a ha => by
    rw [hM6, up2_row (by omega), up2_row (by omega), up2_row (by omega), up2_row (by omega), up2_row (by omega), up2_row (by omega)]
  have g6 : ∀ (a : Nat) (i : Int), i ≠ T.length → M6 a i = M a i := fun a i hi => by
    rw [hM6, up2_ne (Or.inr hi), up2_ne (Or.inr hi), up2_ne (Or.inr hi), up2_ne (Or.inr hi), up2_ne (Or.inr hi), up2_ne (Or.inr hi)]
  have L_107 : ∀ (f n : Nat) (M2 : MT), 729 - n < f → n ≤ 729 → (∀ a, a ≠ o → a ≠ o + 20 → a ≠ o + 21 → M2 a = M6 a) → (∀ i : Int, i ≠ 23 → M2 o i = M o i) → (M2 o 23 = ((gTot T + (thL Y n).length : Nat) : Int)) → (∀ k, k < (thL Y n).length → M2 (o + 20) ((gTot T + k : Nat) : Int) = (((thL Y n).getD k 0 : Nat) : Int)) → (∀ j : Int, j < gTot T → M2 (o + 20) j = M (o + 20) j) → (∀ k, k < ls.length → M2 (o + 21) ((24 * T.length + k : Nat) : Int) = ((ls.getD k 0 : Nat) : Int)) → (∀ j : Int, j < 24 * T.length → M2 (o + 21) j = M (o + 21) j) → Wq (d + 1) k_X9_takes 107 [some (vR o), some (vI ((r : Nat) : Int)), some (vI ((ls.length : Nat) : Int)), some (vI ((n : Nat) : Int))] [] G M2 (fun z M' => z = none ∧ RefTr M' o (T ++ [(r, p, v, thL Y 729, ls)]) ∧ AtB M' (o + 3) (fun c => andN (X c) (Y c)) ∧ (∀ a, a ≠ o → a ≠ o + 3 → (a < o + 14 ∨ o + 21 < a) → M' a = M a) ∧ ∀ i : Int, (i < 22 ∨ 25 < i) → M' o i = M o i) := by
    intro f
    induction f with
    | zero => intro n M2 h; exact absurd h (by omega)
    | succ f ih_n =>
      intro n M2 hf_n hk_n a1 a2 a3 a4 a5 b1 b2
      refine wq_s 108 rfl ?_
      refine wq_s 111 rfl ?_
      refine wq_icmp 162 rfl rfl (by omega) (by omega) (fun c_111 => ?_) (fun c_111 => ?_)
      · have c_111 := of_decide_eq_true c_111
        have e9 : n = 729 := by omega
        subst e9
        refine wq_s 163 rfl ?_
        refine wq_s 164 rfl ?_
        refine wq_getR 167 rfl rfl hG.ob hG.2.2.1 rfl ?_
        refine wq_vt1 170 rfl rfl (Nat.le_of_ble_eq_true rfl) hG.ob hG.2.2.1 rfl (Nat.le_of_ble_eq_true rfl) (c_X9_goes (X := X) (Y := Y) hG hG.a_now.1 hG.a_now.2 (by omega) (hX.fr (by rw [a1 _ (by omega) (by omega) (by omega), f6 _ (by omega)])) (hY.fr (by rw [a1 _ (by omega) (by omega) (by omega), f6 _ (by omega)]))) (fun z M3 hz => ?_)
        obtain ⟨rfl, hM3⟩ := hz
        dsimp only [Option.toList, List.cons_append, List.nil_append]
        have c3 : ∀ a, a ≠ o + 3 → M3 a = M2 a := fun a ha => by rw [hM3, setA_ne ha]
        have c3b : AtB M3 (o + 3) (fun c => andN (X c) (Y c)) := fun c hc => by
          rw [hM3, setA_lo (by omega) (by omega), Int.toNat_natCast]
          exact ⟨rfl, andN_lt (k := 9) (hX c hc).2⟩
        refine wq_s 171 rfl ?_
        refine wq_s 172 rfl ?_
        refine wq_getE (v := ((T.length : Nat) : Int)) 22 175 rfl rfl hG.ob hG.2.2.1 rfl rfl (by rw [c3 o (by omega), a2 _ (by decide)]; exact t22) ?_
        refine wq_s 176 rfl ?_
        refine we_add ((T.length + 1 : Nat) : Int) 177 rfl rfl (by omega) (by omega) ?_
        refine wq_putE 22 180 rfl rfl hG.ob hG.2.2.1 rfl (by decide) (Or.inl rfl) rfl ?_
        refine wq_s 181 rfl ?_
        refine wq_s 182 rfl ?_
        refine wq_getE (v := ((scT T : Nat) : Int)) 24 185 rfl rfl hG.ob hG.2.2.1 rfl rfl (by rw [up2_ne (Or.inr (by decide)), c3 o (by omega), a2 _ (by decide)]; exact t24) ?_
        refine wq_s 186 rfl ?_
        refine wq_st1 189 rfl rfl (by decide) (Nat.le_of_ble_eq_true rfl) rfl (Nat.le_of_ble_eq_true rfl) (c_X9_weight (r := (r : Int)) (by omega)) (fun z M4 hz => ?_)
        obtain ⟨rfl, hM4⟩ := hz
        subst M4
        dsimp only [Option.toList, List.cons_append, List.nil_append]
        rw [hwt.2]
        refine we_add ((scT T + wtN r : Nat) : Int) 190 rfl rfl (by omega) (by omega) ?_
        refine wq_putE 24 193 rfl rfl hG.ob hG.2.2.1 rfl (by decide) (Or.inl rfl) rfl ?_
        refine wq_s 194 rfl ?_
        refine wq_s 195 rfl ?_
        refine wq_s 196 rfl ?_
        refine wq_getE (v := lvF (-1) T) 25 199 rfl rfl hG.ob hG.2.2.1 rfl rfl (by rw [up2_ne (Or.inr (by decide)), up2_ne (Or.inr (by decide)), c3 o (by omega), a2 _ (by decide)]; exact t25) ?_
        have hfin : ∀ w : Int, w = lvT (T ++ [(r, p, v, thL Y 729, ls)]) → (RefTr (up2 (up2 (up2 M3 o 22 ((T.length + 1 : Nat) : Int)) o 24 ((scT T + wtN r : Nat) : Int)) o 25 w) o (T ++ [(r, p, v, thL Y 729, ls)]) ∧ AtB (up2 (up2 (up2 M3 o 22 ((T.length + 1 : Nat) : Int)) o 24 ((scT T + wtN r : Nat) : Int)) o 25 w) (o + 3) (fun c => andN (X c) (Y c)) ∧ (∀ a, a ≠ o → a ≠ o + 3 → (a < o + 14 ∨ o + 21 < a) → (up2 (up2 (up2 M3 o 22 ((T.length + 1 : Nat) : Int)) o 24 ((scT T + wtN r : Nat) : Int)) o 25 w) a = M a) ∧ ∀ i : Int, (i < 22 ∨ 25 < i) → (up2 (up2 (up2 M3 o 22 ((T.length + 1 : Nat) : Int)) o 24 ((scT T + wtN r : Nat) : Int)) o 25 w) o i = M o i) := fun w hw => by
          have eR : ∀ a, a ≠ o → a ≠ o + 3 → (up2 (up2 (up2 M3 o 22 ((T.length + 1 : Nat) : Int)) o 24 ((scT T + wtN r : Nat) : Int)) o 25 w) a = M2 a := fun a h1 h2 => by
            rw [up2_row h1, up2_row h1, up2_row h1, c3 a h2]
          refine ⟨⟨?_, ?_, ?_, ?_, ?_⟩, ?_, ?_, ?_⟩
          · rw [up2_ne (Or.inr (by decide)), up2_ne (Or.inr (by decide)), up2_at, List.length_append]
            rfl
          · rw [up2_ne (Or.inr (by decide)), up2_ne (Or.inr (by decide)), up2_ne (Or.inr (by decide)), c3 o (by omega), a3, gTot_app]
            rfl
          · rw [up2_ne (Or.inr (by decide)), up2_at, scT_app]
            rfl
          · rw [up2_at, hw]
          · intro i hi
            rw [List.length_append] at hi
            have hi : i < T.length + 1 := hi
            by_cases hiT : i < T.length
            · rw [sgetD1 hiT, stake (by omega)]
              have hg := gTot_at T i hiT
              have hlk := (hOk.2 _ (smem i hiT)).2.2.2.2.1
              refine (tS i hiT).fr ?_ ?_ ?_ ?_ ?_ ?_ (fun k hk => ?_) (fun k hk => ?_)
              · rw [eR _ (by omega) (by omega), a1 _ (by omega) (by omega) (by omega), g6 _ _ (by omega)]
              · rw [eR _ (by omega) (by omega), a1 _ (by omega) (by omega) (by omega), g6 _ _ (by omega)]
              · rw [eR _ (by omega) (by omega), a1 _ (by omega) (by omega) (by omega), g6 _ _ (by omega)]
              · rw [eR _ (by omega) (by omega), a1 _ (by omega) (by omega) (by omega), g6 _ _ (by omega)]
              · rw [eR _ (by omega) (by omega), a1 _ (by omega) (by omega) (by omega), g6 _ _ (by omega)]
              · rw [eR _ (by omega) (by omega), a1 _ (by omega) (by omega) (by omega), g6 _ _ (by omega)]
              · rw [eR _ (by omega) (by omega)]
                exact a5 _ (by omega)
              · rw [eR _ (by omega) (by omega)]
                exact b2 _ (by omega)
            · have ei : i = T.length := by omega
              subst ei
              rw [sgetD2, stake (Nat.le_refl _), List.take_length]
              obtain ⟨k1, k2, k3, k4, k5, k6⟩ := k6
              refine ⟨?_, ?_, ?_, ?_, ?_, ?_, fun k hk => ?_, fun k hk => ?_⟩
              · rw [eR _ (by omega) (by omega), a1 _ (by omega) (by omega) (by omega)]
                exact k1
              · rw [eR _ (by omega) (by omega), a1 _ (by omega) (by omega) (by omega)]
                exact k2
              · rw [eR _ (by omega) (by omega), a1 _ (by omega) (by omega) (by omega)]
                exact k3
              · rw [eR _ (by omega) (by omega), a1 _ (by omega) (by omega) (by omega)]
                exact k4
              · rw [eR _ (by omega) (by omega), a1 _ (by omega) (by omega) (by omega)]
                exact k5
              · rw [eR _ (by omega) (by omega), a1 _ (by omega) (by omega) (by omega)]
                exact k6
              · rw [eR _ (by omega) (by omega)]
                exact a4 k hk
              · rw [eR _ (by omega) (by omega)]
                exact b1 k hk
          · exact c3b.fr (by rw [up2_row (by omega), up2_row (by omega), up2_row (by omega)])
          · intro a h1 h2 h3
            rw [eR a h1 h2, a1 a h1 (by omega) (by omega)]
            exact f6 a (by omega)
          · intro i hi
            rw [up2_ne (Or.inr (by omega)), up2_ne (Or.inr (by omega)), up2_ne (Or.inr (by omega)), c3 o (by omega)]
            exact a2 i (by omega)
        refine wq_icmp 206 rfl rfl (by omega) (by omega) (fun c_199 => ?_) (fun c_199 => ?_)
        · have c_199 := of_decide_eq_true c_199
          refine wq_s 207 rfl ?_
          refine wq_getE (v := lvF (-1) T) 25 210 rfl rfl hG.ob hG.2.2.1 rfl rfl (by rw [up2_ne (Or.inr (by decide)), up2_ne (Or.inr (by decide)), c3 o (by omega), a2 _ (by decide)]; exact t25) ?_
          refine wq_putE 25 213 rfl rfl hG.ob hG.2.2.1 rfl (by decide) (Or.inl rfl) rfl ?_
          exact wq_ret rfl ⟨rfl, hfin _ (by unfold lvT; rw [lvF_app]; exact (if_neg (by dsimp only; omega)).symm)⟩
        · have c_199 := of_decide_eq_false c_199
          refine wq_s 203 rfl ?_
          refine wq_s 210 rfl ?_
          refine wq_putE 25 213 rfl rfl hG.ob hG.2.2.1 rfl (by decide) (Or.inl rfl) rfl ?_
          exact wq_ret rfl ⟨rfl, hfin _ (by unfold lvT; rw [lvF_app]; exact (if_pos (by dsimp only; omega)).symm)⟩
      · have c_111 := of_decide_eq_false c_111
        have hy9 := (hY (n / 9) (by omega)).2
        refine wq_s 115 rfl ?_
        refine wq_getR 118 rfl rfl hG.ob hG.2.2.1 rfl ?_
        refine wq_s 119 rfl ?_
        refine wq_s 121 rfl ?_
        refine we_div ((n / 9 : Nat) : Int) 122 rfl rfl (by omega) (by omega) (by omega) ?_
        refine wq_iald (v := ((Y (n / 9) : Nat) : Int)) 123 rfl rfl hG.a_gone.1.2 hG.a_gone.2 (by omega) (by omega) (by omega) (by rw [a1 _ (by omega) (by omega) (by omega), f6 _ (by omega)]; exact (hY (n / 9) (by omega)).1) ?_
        refine wq_s 124 rfl ?_
        refine wq_s 126 rfl ?_
        refine we_rem ((n % 9 : Nat) : Int) 127 rfl rfl (by omega) (by omega) (by omega) ?_
        refine we_shr (Y (n / 9)) (n % 9) ((Y (n / 9)) / 2 ^ (n % 9)) 128 rfl rfl rfl rfl (by omega) (by omega) rfl ?_
        refine wq_s 129 rfl ?_
        refine we_and ((Y (n / 9)) / 2 ^ (n % 9)) 1 (((Y (n / 9)) / 2 ^ (n % 9)) % 2) 130 rfl rfl rfl rfl (Nat.lt_of_le_of_lt (Nat.div_le_self _ _) (by omega)) (and_1 _) ?_
        refine wq_if 136 rfl rfl (by omega) (fun c_130 => ?_) (fun c_130 => ?_)
        · have c_130 := of_decide_eq_true c_130
          have hn1 : hasN Y n = 1 := by unfold hasN; omega
          have hlm := thL_lenmono Y (show n + 1 ≤ 729 by omega)
          rw [thL_t hn1, List.length_append] at hlm
          have hlm : (thL Y n).length + 1 ≤ (thL Y 729).length := hlm
          refine wq_s 137 rfl ?_
          refine wq_getR 140 rfl rfl hG.ob hG.2.2.1 rfl ?_
          refine wq_s 141 rfl ?_
          refine wq_getE (v := ((gTot T + (thL Y n).length : Nat) : Int)) 23 144 rfl rfl hG.ob hG.2.2.1 rfl rfl a3 ?_
          refine wq_s 145 rfl ?_
          refine wq_iast 146 rfl rfl hG.a_went.1 hG.a_went.2 (by omega) (by omega) (by omega) ?_
          refine wq_s 147 rfl ?_
          refine wq_s 148 rfl ?_
          refine wq_getE (v := ((gTot T + (thL Y n).length : Nat) : Int)) 23 151 rfl rfl hG.ob hG.2.2.1 rfl rfl ((up2_ne (Or.inl (by omega))).trans a3) ?_
          refine wq_s 152 rfl ?_
          refine we_add ((gTot T + (thL Y n).length + 1 : Nat) : Int) 153 rfl rfl (by omega) (by omega) ?_
          refine wq_putE 23 156 rfl rfl hG.ob hG.2.2.1 rfl (by decide) (Or.inl rfl) rfl ?_
          refine we_inc 3 1 ((n + 1 : Nat) : Int) 159 _ rfl rfl rfl (by omega) (by omega) rfl ?_
          refine wq_s 107 rfl ?_
          have hth := thL_t (X := Y) (n := n) hn1
          have hl1 : (thL Y (n + 1)).length = (thL Y n).length + 1 := by rw [hth, List.length_append]; rfl
          refine ih_n (n + 1) _ (by omega) (by omega) ?_ ?_ ?_ ?_ ?_ ?_ ?_
          · intro a h1 h2 h3
            rw [up2_row h1, up2_row h2]
            exact a1 a h1 h2 h3
          · intro i hi
            rw [up2_ne (Or.inr hi), up2_ne (Or.inl (by omega))]
            exact a2 i hi
          · rw [up2_at, hl1]
            rfl
          · intro k hk
            rw [hl1] at hk
            rw [hth, up2_ne (Or.inl (by omega))]
            by_cases hk2 : k < (thL Y n).length
            · rw [getD_app1 hk2, up2_ne (Or.inr (by omega))]
              exact a4 k hk2
            · have e : k = (thL Y n).length := by omega
              rw [e, getD_app2, up2_at]
          · intro j hj
            rw [up2_ne (Or.inl (by omega)), up2_ne (Or.inr (by omega))]
            exact a5 j hj
          · intro k hk
            rw [up2_ne (Or.inl (by omega)), up2_ne (Or.inl (by omega))]
            exact b1 k hk
          · intro j hj
            rw [up2_ne (Or.inl (by omega)), up2_ne (Or.inl (by omega))]
            exact b2 j hj
        · have c_130 := of_decide_eq_false c_130
          have hn1 : ¬ hasN Y n = 1 := by unfold hasN; omega
          refine wq_s 156 rfl ?_
          refine we_inc 3 1 ((n + 1 : Nat) : Int) 159 _ rfl rfl rfl (by omega) (by omega) rfl ?_
          refine wq_s 107 rfl ?_
          rw [← thL_f (X := Y) (n := n) hn1] at a3 a4
          exact ih_n (n + 1) _ (by omega) (by omega) a1 a2 a3 a4 a5 b1 b2
  have L_74 : ∀ (f k : Nat) (M2 : MT), ls.length - k < f → k ≤ ls.length → (∀ a, a ≠ o + 21 → M2 a = M6 a) → (∀ s, s < k → M2 (o + 21) ((24 * T.length + s : Nat) : Int) = ((ls.getD s 0 : Nat) : Int)) → (∀ j : Int, j < 24 * T.length → M2 (o + 21) j = M (o + 21) j) → Wq (d + 1) k_X9_takes 74 [some (vR o), some (vI ((r : Nat) : Int)), some (vI ((ls.length : Nat) : Int)), some (vI ((k : Nat) : Int))] [] G M2 (fun z M' => z = none ∧ RefTr M' o (T ++ [(r, p, v, thL Y 729, ls)]) ∧ AtB M' (o + 3) (fun c => andN (X c) (Y c)) ∧ (∀ a, a ≠ o → a ≠ o + 3 → (a < o + 14 ∨ o + 21 < a) → M' a = M a) ∧ ∀ i : Int, (i < 22 ∨ 25 < i) → M' o i = M o i) := by
    intro f
    induction f with
    | zero => intro k M2 h; exact absurd h (by omega)
    | succ f ih_k =>
      intro k M2 hf_k hk_k a1 b1 b2
      refine wq_s 75 rfl ?_
      refine wq_s 76 rfl ?_
      refine wq_icmp 105 rfl rfl (by omega) (by omega) (fun c_76 => ?_) (fun c_76 => ?_)
      · have c_76 := of_decide_eq_true c_76
        have e9 : k = ls.length := by omega
        subst e9
        refine wq_s 106 rfl ?_
        refine wq_s 107 rfl ?_
        refine L_107 730 0 _ (by omega) (by omega) (fun a _ _ h3 => a1 a h3) (fun i _ => by rw [a1 _ (by omega), f6 _ (by omega)]) ?_ (fun k hk => absurd hk (Nat.not_lt_zero _)) (fun j _ => by rw [a1 _ (by omega), f6 _ (by omega)]) b1 b2
        rw [a1 _ (by omega), f6 _ (by omega)]
        exact t23
      · have c_76 := of_decide_eq_false c_76
        refine wq_s 80 rfl ?_
        refine wq_getR 83 rfl rfl hG.ob hG.2.2.1 rfl ?_
        refine wq_s 85 rfl ?_
        refine wq_s 86 rfl ?_
        refine wq_getE (v := ((T.length : Nat) : Int)) 22 89 rfl rfl hG.ob hG.2.2.1 rfl rfl (by rw [a1 _ (by omega), f6 _ (by omega)]; exact t22) ?_
        refine we_mul ((24 * T.length : Nat) : Int) 90 rfl rfl (by omega) (by omega) ?_
        refine wq_s 91 rfl ?_
        refine we_add (((24 * T.length) + k : Nat) : Int) 92 rfl rfl (by omega) (by omega) ?_
        refine wq_s 93 rfl ?_
        refine wq_getR 96 rfl rfl hG.ob hG.2.2.1 rfl ?_
        refine wq_s 97 rfl ?_
        refine wq_iald (v := ((ls.getD k 0 : Nat) : Int)) 98 rfl rfl hG.a_row.1.2 hG.a_row.2 (by omega) (by omega) (by omega) (by rw [a1 _ (by omega), f6 _ (by omega)]; exact hro k (by omega)) ?_
        refine wq_iast 99 rfl rfl hG.a_links.1 hG.a_links.2 (by omega) (by omega) (by omega) ?_
        refine we_inc 3 1 ((k + 1 : Nat) : Int) 102 _ rfl rfl rfl (by omega) (by omega) rfl ?_
        refine wq_s 74 rfl ?_
        refine ih_k (k + 1) _ (by omega) (by omega) ?_ ?_ ?_
        · intro a ha
          rw [up2_row ha]
          exact a1 a ha
        · intro s hs
          by_cases hsk : s = k
          · subst hsk
            exact up2_at
          · exact (up2_ne (Or.inr (by omega))).trans (b1 s (by omega))
        · intro j hj
          exact (up2_ne (Or.inr (by omega))).trans (b2 j hj)
  refine wq_s 1 rfl ?_
  refine wq_getR 4 rfl rfl hG.ob hG.2.2.1 rfl ?_
  refine wq_s 5 rfl ?_
  refine wq_getE (v := ((T.length : Nat) : Int)) 22 8 rfl rfl hG.ob hG.2.2.1 rfl rfl (by exact t22) ?_
  refine wq_s 9 rfl ?_
  refine wq_iast 10 rfl rfl hG.a_sRule.1 hG.a_sRule.2 (by omega) (by omega) (by omega) ?_
  refine wq_s 11 rfl ?_
  refine wq_getR 14 rfl rfl hG.ob hG.2.2.1 rfl ?_
  refine wq_s 15 rfl ?_
  refine wq_getE (v := ((T.length : Nat) : Int)) 22 18 rfl rfl hG.ob hG.2.2.1 rfl rfl (by rw [up2_ne (Or.inl (by omega))]; exact t22) ?_
  refine wq_s 19 rfl ?_
  refine wq_getE (v := ((p : Nat) : Int)) 27 22 rfl rfl hG.ob hG.2.2.1 rfl rfl (by rw [up2_ne (Or.inl (by omega))]; exact hp) ?_
  refine wq_iast 23 rfl rfl hG.a_sP.1 hG.a_sP.2 (by omega) (by omega) (by omega) ?_
  refine wq_s 24 rfl ?_
  refine wq_getR 27 rfl rfl hG.ob hG.2.2.1 rfl ?_
  refine wq_s 28 rfl ?_
  refine wq_getE (v := ((T.length : Nat) : Int)) 22 31 rfl rfl hG.ob hG.2.2.1 rfl rfl (by rw [up2_ne (Or.inl (by omega)), up2_ne (Or.inl (by omega))]; exact t22) ?_
  refine wq_s 32 rfl ?_
  refine wq_getE (v := ((v : Nat) : Int)) 28 35 rfl rfl hG.ob hG.2.2.1 rfl rfl (by rw [up2_ne (Or.inl (by omega)), up2_ne (Or.inl (by omega))]; exact hv) ?_
  refine wq_iast 36 rfl rfl hG.a_sQ.1 hG.a_sQ.2 (by omega) (by omega) (by omega) ?_
  refine wq_s 37 rfl ?_
  refine wq_getR 40 rfl rfl hG.ob hG.2.2.1 rfl ?_
  refine wq_s 41 rfl ?_
  refine wq_getE (v := ((T.length : Nat) : Int)) 22 44 rfl rfl hG.ob hG.2.2.1 rfl rfl (by rw [up2_ne (Or.inl (by omega)), up2_ne (Or.inl (by omega)), up2_ne (Or.inl (by omega))]; exact t22) ?_
  refine wq_s 45 rfl ?_
  refine wq_getE (v := (((thL Y 729).length : Nat) : Int)) 29 48 rfl rfl hG.ob hG.2.2.1 rfl rfl (by rw [up2_ne (Or.inl (by omega)), up2_ne (Or.inl (by omega)), up2_ne (Or.inl (by omega))]; exact hc) ?_
  refine wq_iast 49 rfl rfl hG.a_sGone.1 hG.a_sGone.2 (by omega) (by omega) (by omega) ?_
  refine wq_s 50 rfl ?_
  refine wq_getR 53 rfl rfl hG.ob hG.2.2.1 rfl ?_
  refine wq_s 54 rfl ?_
  refine wq_getE (v := ((T.length : Nat) : Int)) 22 57 rfl rfl hG.ob hG.2.2.1 rfl rfl (by rw [up2_ne (Or.inl (by omega)), up2_ne (Or.inl (by omega)), up2_ne (Or.inl (by omega)), up2_ne (Or.inl (by omega))]; exact t22) ?_
  refine wq_s 58 rfl ?_
  refine wq_getE (v := ((gTot T : Nat) : Int)) 23 61 rfl rfl hG.ob hG.2.2.1 rfl rfl (by rw [up2_ne (Or.inl (by omega)), up2_ne (Or.inl (by omega)), up2_ne (Or.inl (by omega)), up2_ne (Or.inl (by omega))]; exact t23) ?_
  refine wq_iast 62 rfl rfl hG.a_sFrom.1 hG.a_sFrom.2 (by omega) (by omega) (by omega) ?_
  refine wq_s 63 rfl ?_
  refine wq_getR 66 rfl rfl hG.ob hG.2.2.1 rfl ?_
  refine wq_s 67 rfl ?_
  refine wq_getE (v := ((T.length : Nat) : Int)) 22 70 rfl rfl hG.ob hG.2.2.1 rfl rfl (by rw [up2_ne (Or.inl (by omega)), up2_ne (Or.inl (by omega)), up2_ne (Or.inl (by omega)), up2_ne (Or.inl (by omega)), up2_ne (Or.inl (by omega))]; exact t22) ?_
  refine wq_s 71 rfl ?_
  refine wq_iast 72 rfl rfl hG.a_sLinks.1 hG.a_sLinks.2 (by omega) (by omega) (by omega) ?_
  refine wq_s 73 rfl ?_
  refine wq_s 74 rfl ?_
  rw [← hM6]
  exact L_74 (ls.length + 1) 0 _ (by omega) (by omega) (fun _ _ => rfl) (fun s hs => absurd hs (Nat.not_lt_zero _)) (fun j _ => by rw [f6 _ (by omega)])
