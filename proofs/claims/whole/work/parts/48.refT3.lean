/-! grade and replay -/
theorem IsRow.uniq {X : Nat → Nat} {a m : Nat} {rv rw' : Nat → Nat} (h : IsRow X a m rv) (h' : IsRow X a m rw') : ∀ s, s < 2 * m → rv s = rw' s := by
  intro s
  induction s with
  | zero => intro _; rw [h.1, h'.1]
  | succ s ih =>
    intro hs
    have e := ih (by omega)
    have h1 := h.2 (s + 1) (by omega) hs
    have h2 := h'.2 (s + 1) (by omega) hs
    unfold RowS at h1 h2
    rw [show s + 1 - 1 = s by omega] at h1 h2
    rw [e] at h1
    by_cases hl : rv (s + 1) < rw' (s + 1)
    · exact absurd h1.1 (h2.2 _ hl)
    · by_cases hl2 : rw' (s + 1) < rv (s + 1)
      · exact absurd h2.1 (h1.2 _ hl2)
      · omega
theorem chC_congr {X rv rw' : Nat → Nat} {w : Nat} (h : ∀ s, s < w → rv s = rw' s) : chC X rv w → chC X rw' w := fun z => ⟨z.1, z.2.1, fun s s1 s2 => by
  rw [← h (s - 1) (by omega), ← h s s2]
  exact z.2.2 s s1 s2⟩
theorem byY_congr {X rv rw' : Nat → Nat} {w : Nat} (h : ∀ s, s < w → rv s = rw' s) : byY X rv w = byY X rw' w := by
  funext c
  unfold byY
  by_cases hc : chC X rv w
  · have h2 := hc.1
    rw [cI_t hc, cI_t (chC_congr h hc), h 0 (by omega), h (w - 1) (by omega)]
  · rw [cI_f hc, cI_f (fun z => hc (chC_congr (fun s hs => (h s hs).symm) z))]
theorem ChF.uniq {X : Nat → Nat} {m m' a a' : Nat} {rv rw' : Nat → Nat} (h : ChF X m a rv) (h' : ChF X m' a' rw') : m = m' ∧ a = a' ∧ ∀ s, s < 2 * m → rv s = rw' s := by
  obtain ⟨h1, h2, h3, h4, h5⟩ := h
  obtain ⟨k1, k2, k3, k4, k5⟩ := h'
  have hm : m = m' := by
    by_cases hl : m < m'
    · exact absurd h2 (k3 m h1.1 hl a)
    · by_cases hl2 : m' < m
      · exact absurd k2 (h3 m' k1.1 hl2 a')
      · omega
  subst hm
  have ha : a = a' := by
    by_cases hl : a < a'
    · exact absurd h2 (k4 a hl)
    · by_cases hl2 : a' < a
      · exact absurd k2 (h4 a' hl2)
      · omega
  subst ha
  exact ⟨rfl, rfl, h5.uniq k5⟩
theorem StepR.uniq {X : Nat → Nat} {s s' : GSt} {Y Y' : Nat → Nat} (h : StepR X s Y) (h' : StepR X s' Y') : s = s' ∧ Y = Y' := by
  rcases h with ⟨r, p, v, h1, h2, h3, rfl, rfl⟩ | ⟨h1, m, a, rv, h2, rfl, rfl⟩
  · rcases h' with ⟨r', p', v', k1, k2, k3, rfl, rfl⟩ | ⟨k1, -⟩
    · have hr : r = r' := by
        by_cases hl : r < r'
        · rw [k2 r hl] at h3
          cases h3
        · by_cases hl2 : r' < r
          · rw [h2 r' hl2] at k3
            cases k3
          · omega
      subst hr
      rw [h3] at k3
      cases k3
      exact ⟨rfl, rfl⟩
    · rw [k1 r h1] at h3
      cases h3
  · rcases h' with ⟨r', p', v', k1, k2, k3, rfl, rfl⟩ | ⟨-, m', a', rw', k2, rfl, rfl⟩
    · rw [h1 r' k1] at k3
      cases k3
    · obtain ⟨rfl, rfl, e⟩ := h2.uniq k2
      have e2 := byY_congr (X := X) e
      rw [e2]
      refine ⟨?_, rfl⟩
      rw [List.map_congr_left (fun s hs => e s (List.mem_range.1 hs))]
theorem NoStep.no {X : Nat → Nat} (h : NoStep X) {s : GSt} {Y : Nat → Nat} : ¬ StepR X s Y := by
  rintro (⟨r, p, v, h1, -, h3, -⟩ | ⟨-, m, a, rv, h2, -⟩)
  · rw [h.1 r h1] at h3
    cases h3
  · exact h.2 m h2.1.1 h2.1.2 a h2.2.1
noncomputable def stepF (X : Nat → Nat) : Option (GSt × (Nat → Nat)) := @dite _ (∃ z : GSt × (Nat → Nat), StepR X z.1 z.2) (Classical.propDecidable _) (fun h => some (Classical.choose h)) (fun _ => none)
theorem stepF_t {X Y : Nat → Nat} {s : GSt} (h : StepR X s Y) : stepF X = some (s, Y) := by
  have hex : ∃ z : GSt × (Nat → Nat), StepR X z.1 z.2 := ⟨(s, Y), h⟩
  unfold stepF
  rw [dif_pos hex]
  have h2 := Classical.choose_spec hex
  obtain ⟨e1, e2⟩ := h2.uniq h
  exact congrArg some (Prod.ext e1 e2)
theorem stepF_f {X : Nat → Nat} (h : NoStep X) : stepF X = none := by
  unfold stepF
  rw [dif_neg (fun ⟨z, hz⟩ => h.no hz)]
/-- so many steps: done, board, trace, ended -/
noncomputable def gradeF : Nat → (Nat → Nat) → List GSt → Nat × (Nat → Nat) × List GSt × Nat
  | 0, X, T => (0, X, T, 0)
  | n + 1, X, T => match stepF X with
    | none => (0, X, T, 1)
    | some z => ((gradeF n (fun c => andN (X c) (z.2 c)) (T ++ [z.1])).1 + 1, (gradeF n (fun c => andN (X c) (z.2 c)) (T ++ [z.1])).2)
theorem gradeF_t {n : Nat} {X Y : Nat → Nat} {s : GSt} {T : List GSt} (h : StepR X s Y) : gradeF (n + 1) X T = ((gradeF n (fun c => andN (X c) (Y c)) (T ++ [s])).1 + 1, (gradeF n (fun c => andN (X c) (Y c)) (T ++ [s])).2) := by
  show (match stepF X with
    | none => (0, X, T, 1)
    | some z => ((gradeF n (fun c => andN (X c) (z.2 c)) (T ++ [z.1])).1 + 1, (gradeF n (fun c => andN (X c) (z.2 c)) (T ++ [z.1])).2)) = _
  rw [stepF_t h]
theorem gradeF_f {n : Nat} {X : Nat → Nat} {T : List GSt} (h : NoStep X) : gradeF (n + 1) X T = (0, X, T, 1) := by
  show (match stepF X with
    | none => (0, X, T, 1)
    | some z => ((gradeF n (fun c => andN (X c) (z.2 c)) (T ++ [z.1])).1 + 1, (gradeF n (fun c => andN (X c) (z.2 c)) (T ++ [z.1])).2)) = _
  rw [stepF_f h]
theorem AbOk.step {X C Y : Nat → Nat} {T : List GSt} {en : Nat} {S : SrS} {s : GSt} (h : AbOk X C T en S) (hs : StepR X s Y) : AbOk (fun c => andN (X c) (Y c)) C (T ++ [s]) en S := by
  obtain ⟨b1, b2, b3, b4, b5, b6⟩ := h
  obtain ⟨o1, o2, o3⟩ := hs.ok
  have hcs := cnt_split X Y (fun c _ => o3 c)
  have hcx := thL_cntX Y
  have hg : gTot (T ++ [s]) = gTot T + cntX Y := by
    rw [gTot_app]
    show gTot T + (s.2.2.2.1.length + 0) = _
    rw [o2, hcx, Nat.add_zero]
  refine ⟨⟨by omega, fun z hz => ?_⟩, by omega, fun c hc => andN_lt (k := 9) (b3 c hc), b4, b5, b6⟩
  rcases List.mem_append.1 hz with hz | hz
  · exact b1.2 z hz
  · rw [List.mem_singleton.1 hz]
    exact o1
/-- board and trace are new -/
theorem RefSt.trc {M M' : MT} {o : Nat} {gv X X' C : Nat → Nat} {T T' : List GSt} {en : Nat} {nd : List Nat} {S : SrS} (h : RefSt M o gv X C T en nd S) (hX : AtB M' (o + 3) X') (hT : RefTr M' o T') (hF : FrS M M' o) : RefSt M' o gv X' C T' en nd S := by
  obtain ⟨s1, s2, s3, s4, s5, s6, s7, s8⟩ := h
  exact ⟨s1.fr (hF.1 _ (by omega)), s2.fr (hF.1 _ (by omega)), hX, s4.fr (hF.1 _ (by omega)), hT, (hF.2 _ (by omega)).trans s6, s7.fr (hF.2 _ (by omega)) (hF.1 _ (by omega)), s8.fr (fun i i1 i2 => hF.2 i (by omega)) (fun a a1 a2 => hF.1 a (by omega)) (hF.1 _ (by omega))⟩
theorem RefSt.end1 {M : MT} {o : Nat} {gv X C : Nat → Nat} {T : List GSt} {en : Nat} {nd : List Nat} {S : SrS} (h : RefSt M o gv X C T en nd S) : RefSt (up2 M o 26 1) o gv X C T 1 nd S := by
  obtain ⟨s1, s2, s3, s4, s5, s6, s7, s8⟩ := h
  exact ⟨s1.fr (up2_row (by omega)), s2.fr (up2_row (by omega)), s3.fr (up2_row (by omega)), s4.fr (up2_row (by omega)), s5.fr (fun i i1 i2 => up2_ne (Or.inr (by omega))) (fun a a1 a2 => up2_row (by omega)), up2_at, s7.fr (up2_ne (Or.inr (by decide))) (up2_row (by omega)), s8.fr (fun i i1 i2 => up2_ne (Or.inr (by omega))) (fun a a1 a2 => up2_row (by omega)) (up2_row (by omega))⟩
theorem gradeN {d : Nat} {G : GT} {M : MT} {o : Nat} {gv X C : Nat → Nat} {T : List GSt} {en : Nat} {nd : List Nat} {S : SrS} (hG : RefG G o) (hS : RefSt M o gv X C T en nd S) (hO : AbOk X C T en S) {n : Nat} (hn : n ≤ 30) : Wq (d + 8) k_X9_grade 14 [some (vR o), some (vI (n : Int)), some (vI 0)] [] G M (fun z M' => (z = some (vI (((gradeF n X T).1 : Nat) : Int)) ∧ (0 ≤ (n : Int) ∧ (n : Int) ≤ 30) ∧ RefSt M' o gv (gradeF n X T).2.1 C (gradeF n X T).2.2.1 (if (gradeF n X T).2.2.2 = 1 then 1 else en) nd S ∧ FrO M M' o) ∨ (z = some (vI (-1)) ∧ ¬ (0 ≤ (n : Int) ∧ (n : Int) ≤ 30) ∧ M' = M)) := by
  have L_14 : ∀ (f k : Nat) (X2 : Nat → Nat) (T2 : List GSt) (M2 : MT), n - k < f → k ≤ n → (RefSt M2 o gv X2 C T2 en nd S) → (AbOk X2 C T2 en S) → (gradeF n X T = (k + (gradeF (n - k) X2 T2).1, (gradeF (n - k) X2 T2).2)) → (FrO M M2 o) → Wq (d + 8) k_X9_grade 14 [some (vR o), some (vI ((n : Nat) : Int)), some (vI ((k : Nat) : Int))] [] G M2 (fun z M' => (z = some (vI (((gradeF n X T).1 : Nat) : Int)) ∧ (0 ≤ (n : Int) ∧ (n : Int) ≤ 30) ∧ RefSt M' o gv (gradeF n X T).2.1 C (gradeF n X T).2.2.1 (if (gradeF n X T).2.2.2 = 1 then 1 else en) nd S ∧ FrO M M' o) ∨ (z = some (vI (-1)) ∧ ¬ (0 ≤ (n : Int) ∧ (n : Int) ≤ 30) ∧ M' = M)) := by
    intro f
    induction f with
    | zero => intro k X2 T2 M2 h; exact absurd h (by omega)
    | succ f ih_k =>
      intro k X2 T2 M2 hf_k hk_k hS2 hO2 hE hFr
      refine wq_s 15 rfl ?_
      refine wq_s 16 rfl ?_
      refine wq_icmp 39 rfl rfl (by omega) (by omega) (fun c_16 => ?_) (fun c_16 => ?_)
      · have c_16 := of_decide_eq_true c_16
        have e9 : k = n := by omega
        rw [e9, show n - n = 0 by omega] at hE
        refine wq_s 40 rfl ?_
        exact wq_ret rfl (Or.inl ⟨(by rw [hE, e9]; rfl), ⟨by omega, by omega⟩, (by rw [hE]; exact hS2), hFr⟩)
      · have c_16 := of_decide_eq_false c_16
        refine wq_s 20 rfl ?_
        refine wq_vt0 23 rfl rfl (Nat.le_of_ble_eq_true rfl) hG.ob hG.2.2.1 rfl (Nat.le_of_ble_eq_true rfl) (c_X9_stepped hG hS2.2.2.1 hS2.2.2.2.2.1 hO2.1 hO2.2.1) (fun z M3 hz => ?_)
        obtain ⟨hz, hF3⟩ := hz
        have hFO3 : FrO M M3 o := fun a ha => (hF3.1 a (by omega)).trans (hFr a ha)
        rcases hz with ⟨rfl, s, Y, hR, z1, z2⟩ | ⟨rfl, hR, z1, z2⟩
        · dsimp only [Option.toList, List.cons_append, List.nil_append]
          refine wq_s 33 rfl ?_
          refine we_inc 2 1 ((k + 1 : Nat) : Int) 36 _ rfl rfl rfl (by omega) (by omega) rfl ?_
          refine wq_s 14 rfl ?_
          rw [show n - k = n - (k + 1) + 1 by omega, gradeF_t hR] at hE
          exact ih_k (k + 1) _ _ M3 (by omega) (by omega) (hS2.trc z2 z1 hF3) (hO2.step hR) (by rw [hE]; refine Prod.ext ?_ rfl; show k + (_ + 1) = k + 1 + _; omega) hFO3
        · dsimp only [Option.toList, List.cons_append, List.nil_append]
          refine wq_s 26 rfl ?_
          rw [show n - k = n - k - 1 + 1 by omega, gradeF_f hR] at hE
          refine wq_s 27 rfl ?_
          refine wq_s 28 rfl ?_
          refine wq_putE 26 31 rfl rfl hG.ob hG.2.2.1 rfl (by decide) (by decide) rfl ?_
          refine wq_s 32 rfl ?_
          exact wq_ret rfl (Or.inl ⟨(by rw [hE]; rfl), ⟨by omega, by omega⟩, (by rw [hE]; exact (hS2.trc z2 z1 hF3).end1), fun a ha => (up2_row (by omega)).trans (hFO3 a ha)⟩)
  exact L_14 (n + 1) 0 X T M (by omega) (by omega) hS hO (by rw [Nat.sub_zero, Nat.zero_add]) (fun _ _ => rfl)
theorem c_X9_grade {d : Nat} {G : GT} {M : MT} {o : Nat} {gv X C : Nat → Nat} {T : List GSt} {en : Nat} {nd : List Nat} {S : SrS} (hG : RefG G o) (hS : RefSt M o gv X C T en nd S) (hO : AbOk X C T en S) {n : Int} (hn : R32 n) : Mq (d + 8) k_X9_grade [vR o, vI n] G M (fun z M' => (z = some (vI (((gradeF n.toNat X T).1 : Nat) : Int)) ∧ (0 ≤ n ∧ n ≤ 30) ∧ RefSt M' o gv (gradeF n.toNat X T).2.1 C (gradeF n.toNat X T).2.2.1 (if (gradeF n.toNat X T).2.2.2 = 1 then 1 else en) nd S ∧ FrO M M' o) ∨ (z = some (vI (-1)) ∧ ¬ (0 ≤ n ∧ n ≤ 30) ∧ M' = M)) := by
  refine wq_s 1 rfl ?_
  refine wq_s 2 rfl ?_
  refine wq_s 4 rfl ?_
  refine wq_st3 7 rfl rfl (by decide) (Nat.le_of_ble_eq_true rfl) rfl (Nat.le_of_ble_eq_true rfl) (c_X9_in (by omega) (by omega) (by omega)) (fun r M1 hr => ?_)
  obtain ⟨rfl, hM1⟩ := hr
  subst M1
  dsimp only [Option.toList, List.cons_append, List.nil_append]
  refine wq_if 12 rfl rfl iteR (fun c_7 => ?_) (fun c_7 => ?_)
  · have c_7 := of_decide_eq_true c_7
    have c_7 := ite1.mp c_7
    obtain ⟨w, e_w⟩ := Int.eq_ofNat_of_zero_le c_7.1
    subst e_w
    refine wq_s 13 rfl ?_
    refine wq_s 14 rfl ?_
    exact gradeN hG hS hO (n := w) (by omega)
  · have c_7 := of_decide_eq_false c_7
    have c_7 := iteN.mp c_7
    refine wq_s 11 rfl ?_
    exact wq_ret rfl (Or.inr ⟨rfl, c_7, rfl⟩)
noncomputable def stN (C : Nat → Nat) (s : GSt) : Nat := if s.1 = 13 then byN C (fun k => s.2.2.2.2.getD k 0) s.2.2.2.2.length else insN C (s.1 : Int) (s.2.1 : Int) (s.2.2.1 : Int)
noncomputable def stY (C : Nat → Nat) (s : GSt) : Nat → Nat := if s.1 = 13 then byY C (fun k => s.2.2.2.2.getD k 0) s.2.2.2.2.length else insY C (s.1 : Int) (s.2.1 : Int) (s.2.2.1 : Int)
noncomputable def rplF : (Nat → Nat) → List GSt → Nat × (Nat → Nat)
  | C, [] => (0, C)
  | C, s :: l => if stN C s = 0 then (0, C) else ((rplF (fun c => andN (C c) (stY C s c)) l).1 + 1, (rplF (fun c => andN (C c) (stY C s c)) l).2)
theorem sdrop {T : List GSt} : ∀ k, k < T.length → T.drop k = T.getD k dfS :: T.drop (k + 1) := by
  induction T with
  | nil => intro k h; exact absurd h (Nat.not_lt_zero _)
  | cons s l ih =>
    intro k hk
    cases k with
    | zero => rfl
    | succ k => exact ih k (Nat.lt_of_succ_lt_succ hk)
theorem stN_le (C : Nat → Nat) (s : GSt) : stN C s ≤ 729 := by
  unfold stN
  split
  · exact byN_le _ _ _
  · exact insN_le _ _ _ _
theorem replayN {d : Nat} {G : GT} {M : MT} {o : Nat} {gv X C : Nat → Nat} {T : List GSt} {en : Nat} {nd : List Nat} {S : SrS} (hG : RefG G o) (hS : RefSt M o gv X C T en nd S) (hO : AbOk X C T en S) {i : Nat} (hi : i ≤ T.length) : Wq (d + 5) k_X9_replay 14 [some (vR o), some (vI (i : Int)), none, none, none] [] G M (fun z M' => (z = some (vI (((rplF C (T.drop i)).1 : Nat) : Int)) ∧ (0 ≤ (i : Int) ∧ (i : Int) ≤ (T.length : Int)) ∧ RefSt M' o gv X (rplF C (T.drop i)).2 T en [] S ∧ FrO M M' o) ∨ (z = some (vI (-1)) ∧ ¬ (0 ≤ (i : Int) ∧ (i : Int) ≤ (T.length : Int)) ∧ M' = M)) := by
  have hlen := TrOk.len hO.1.2
  have hgt := hO.1.1
  have L_23 : ∀ (f k : Nat) (dn : Nat) (C2 : Nat → Nat) (M2 : MT) (y4 : Option AV), T.length - k < f → k ≤ T.length → (dn + i = k) → (RefSt M2 o gv X C2 T en [] S) → (rplF C (T.drop i) = (dn + (rplF C2 (T.drop k)).1, (rplF C2 (T.drop k)).2)) → (FrO M M2 o) → Wq (d + 5) k_X9_replay 23 [some (vR o), some (vI ((i : Nat) : Int)), some (vI ((dn : Nat) : Int)), some (vI ((k : Nat) : Int)), y4] [] G M2 (fun z M' => (z = some (vI (((rplF C (T.drop i)).1 : Nat) : Int)) ∧ (0 ≤ (i : Int) ∧ (i : Int) ≤ (T.length : Int)) ∧ RefSt M' o gv X (rplF C (T.drop i)).2 T en [] S ∧ FrO M M' o) ∨ (z = some (vI (-1)) ∧ ¬ (0 ≤ (i : Int) ∧ (i : Int) ≤ (T.length : Int)) ∧ M' = M)) := by
    intro f
    induction f with
    | zero => intro k dn C2 M2 y4 h; exact absurd h (by omega)
    | succ f ih_k =>
      intro k dn C2 M2 y4 hf_k hk_k hdn hS2 hE hFr
      obtain ⟨s1, s2, s3, s4, s5, s6, s7, s8⟩ := id hS2
      obtain ⟨t22, t23, t24, t25, tS⟩ := id s5
      refine wq_s 24 rfl ?_
      refine wq_s 25 rfl ?_
      refine wq_getE (v := ((T.length : Nat) : Int)) 22 28 rfl rfl hG.ob hG.2.2.1 rfl rfl t22 ?_
      refine wq_icmp 119 rfl rfl (by omega) (by omega) (fun c_28 => ?_) (fun c_28 => ?_)
      · have c_28 := of_decide_eq_true c_28
        have e9 : k = T.length := by omega
        rw [e9, List.drop_length] at hE
        have hE : rplF C (T.drop i) = (dn, C2) := hE
        refine wq_s 120 rfl ?_
        exact wq_ret rfl (Or.inl ⟨by rw [hE], ⟨by omega, by omega⟩, (by rw [hE]; exact hS2), hFr⟩)
      · have c_28 := of_decide_eq_false c_28
        have hso := hO.1.2 _ (smem k (by omega))
        have hdr := sdrop (T := T) k (by omega)
        have hle := stN_le C2 (T.getD k dfS)
        have ht := tS k (by omega)
        have hso1 := hso.1
        refine wq_s 32 rfl ?_
        refine wq_getR 35 rfl rfl hG.ob hG.2.2.1 rfl ?_
        refine wq_s 36 rfl ?_
        refine wq_iald (v := (((T.getD k dfS).1 : Nat) : Int)) 37 rfl rfl hG.a_sRule.1.2 hG.a_sRule.2 (by omega) (by omega) (by omega) ht.1 ?_
        refine wq_s 39 rfl ?_
        refine wq_icmp 67 rfl rfl (by omega) (by omega) (fun c_39 => ?_) (fun c_39 => ?_)
        · have c_39 := of_decide_eq_true c_39
          refine wq_s 68 rfl ?_
          refine wq_s 69 rfl ?_
          refine wq_getR 72 rfl rfl hG.ob hG.2.2.1 rfl ?_
          refine wq_s 73 rfl ?_
          refine wq_getR 76 rfl rfl hG.ob hG.2.2.1 rfl ?_
          refine wq_s 77 rfl ?_
          refine wq_iald (v := (((T.getD k dfS).1 : Nat) : Int)) 78 rfl rfl hG.a_sRule.1.2 hG.a_sRule.2 (by omega) (by omega) (by omega) ht.1 ?_
          refine wq_s 79 rfl ?_
          refine wq_getR 82 rfl rfl hG.ob hG.2.2.1 rfl ?_
          refine wq_s 83 rfl ?_
          refine wq_iald (v := (((T.getD k dfS).2.1 : Nat) : Int)) 84 rfl rfl hG.a_sP.1.2 hG.a_sP.2 (by omega) (by omega) (by omega) ht.2.1 ?_
          refine wq_s 85 rfl ?_
          refine wq_getR 88 rfl rfl hG.ob hG.2.2.1 rfl ?_
          refine wq_s 89 rfl ?_
          refine wq_iald (v := (((T.getD k dfS).2.2.1 : Nat) : Int)) 90 rfl rfl hG.a_sQ.1.2 hG.a_sQ.2 (by omega) (by omega) (by omega) ht.2.2.1 ?_
          refine wq_vt4 93 rfl rfl (Nat.le_of_ble_eq_true rfl) hG.ob hG.2.2.1 rfl (Nat.le_of_ble_eq_true rfl) (c_X9_instance (X := C2) hG hG.a_checker.1.2 hG.a_checker.2 (by omega) s4 (by have := hso.1; omega) (by have := hso.2.1; omega) (by have := hso.2.2.1; omega)) (fun z M3 hz => ?_)
          obtain ⟨rfl, hY, hF⟩ := hz
          dsimp only [Option.toList, List.cons_append, List.nil_append]
          have hnn : stN C2 (T.getD k dfS) = insN C2 ((T.getD k dfS).1 : Int) ((T.getD k dfS).2.1 : Int) ((T.getD k dfS).2.2.1 : Int) := if_neg (by omega)
          have hyy : stY C2 (T.getD k dfS) = insY C2 ((T.getD k dfS).1 : Int) ((T.getD k dfS).2.1 : Int) ((T.getD k dfS).2.2.1 : Int) := if_neg (by omega)
          rw [← hnn]
          rw [← hyy] at hY
          have hS4 : RefSt M3 o gv X C2 T en [] S := hS2.fr (fun i i1 i2 => by rw [hF _ (by omega)]) (fun a a1 a2 => hF a (by omega))
          have hF4 : FrO M M3 o := fun a ha => (hF a (by omega)).trans (hFr a ha)
          refine wq_s 95 rfl ?_
          refine wq_s 97 rfl ?_
          refine wq_if 102 rfl rfl (by omega) (fun c_97 => ?_) (fun c_97 => ?_)
          · have c_97 := of_decide_eq_true c_97
            refine wq_s 103 rfl ?_
            refine wq_s 104 rfl ?_
            refine wq_getR 107 rfl rfl hG.ob hG.2.2.1 rfl ?_
            refine wq_vt1 110 rfl rfl (Nat.le_of_ble_eq_true rfl) hG.ob hG.2.2.1 rfl (Nat.le_of_ble_eq_true rfl) (c_X9_goes (X := C2) (Y := stY C2 (T.getD k dfS)) hG hG.a_checker.1 hG.a_checker.2 (by omega) hS4.2.2.2.1 hY) (fun z M5 hz => ?_)
            obtain ⟨rfl, hM5⟩ := hz
            dsimp only [Option.toList, List.cons_append, List.nil_append]
            have hC5 : AtB M5 (o + 4) (fun c => andN (C2 c) (stY C2 (T.getD k dfS) c)) := fun c hc => by
              rw [hM5, setA_lo (by omega) (by omega), Int.toNat_natCast]
              exact ⟨rfl, andN_lt (k := 9) (s4 c hc).2⟩
            have hF5 : ∀ a, a ≠ o + 4 → M5 a = M3 a := fun a ha => by rw [hM5, setA_ne ha]
            refine we_inc 2 1 ((dn + 1 : Nat) : Int) 113 _ rfl rfl rfl (by omega) (by omega) rfl ?_
            refine we_inc 3 1 ((k + 1 : Nat) : Int) 116 _ rfl rfl rfl (by omega) (by omega) rfl ?_
            refine wq_s 23 rfl ?_
            rw [hdr, show rplF C2 ((T.getD k dfS) :: T.drop (k + 1)) = ((rplF (fun c => andN (C2 c) (stY C2 (T.getD k dfS) c)) (T.drop (k + 1))).1 + 1, (rplF (fun c => andN (C2 c) (stY C2 (T.getD k dfS) c)) (T.drop (k + 1))).2) from if_neg (by omega)] at hE
            exact ih_k (k + 1) (dn + 1) _ M5 _ (by omega) (by omega) (by omega) (hS4.chk hC5 (fun i i1 i2 => by rw [hF5 o (by omega)]) (fun a a1 a2 => hF5 a (by omega))) (by rw [hE]; refine Prod.ext ?_ rfl; show dn + (_ + 1) = dn + 1 + _; omega) (fun a ha => (hF5 a (by omega)).trans (hF4 a ha))
          · have c_97 := of_decide_eq_false c_97
            rw [hdr, show rplF C2 ((T.getD k dfS) :: T.drop (k + 1)) = (0, C2) from if_pos (by omega)] at hE
            have hE : rplF C (T.drop i) = (dn, C2) := hE
            refine wq_s 101 rfl ?_
            exact wq_ret rfl (Or.inl ⟨by rw [hE], ⟨by omega, by omega⟩, (by rw [hE]; exact hS4), hF4⟩)
        · have c_39 := of_decide_eq_false c_39
          refine wq_s 43 rfl ?_
          refine wq_s 44 rfl ?_
          refine wq_getR 47 rfl rfl hG.ob hG.2.2.1 rfl ?_
          refine wq_s 48 rfl ?_
          refine wq_getR 51 rfl rfl hG.ob hG.2.2.1 rfl ?_
          refine wq_s 53 rfl ?_
          refine wq_s 54 rfl ?_
          refine we_mul ((24 * k : Nat) : Int) 55 rfl rfl (by omega) (by omega) ?_
          refine wq_s 56 rfl ?_
          refine wq_getR 59 rfl rfl hG.ob hG.2.2.1 rfl ?_
          refine wq_s 60 rfl ?_
          refine wq_iald (v := (((T.getD k dfS).2.2.2.2.length : Nat) : Int)) 61 rfl rfl hG.a_sLinks.1.2 hG.a_sLinks.2 (by omega) (by omega) (by omega) ht.2.2.2.2.2.1 ?_
          refine wq_vt4 64 rfl rfl (Nat.le_of_ble_eq_true rfl) hG.ob hG.2.2.1 rfl (Nat.le_of_ble_eq_true rfl) (c_X9_byRow (u := 24 * k) (w := (T.getD k dfS).2.2.2.2.length) (Nn := 17520) (X := C2) (rv := fun j => (T.getD k dfS).2.2.2.2.getD j 0) hG hG.a_checker.1.2 hG.a_checker.2 (by omega) s4 ⟨hG.a_links.1.2, hG.a_links.2, by have := hso.2.2.2.2.1; omega, by omega⟩ (by omega) hso.2.2.2.2.1 (fun s hs => ⟨ht.2.2.2.2.2.2.2 s hs, hso.2.2.2.2.2.2 s hs⟩)) (fun z M3 hz => ?_)
          obtain ⟨rfl, hY, hF⟩ := hz
          dsimp only [Option.toList, List.cons_append, List.nil_append]
          have hnn : stN C2 (T.getD k dfS) = byN C2 (fun j => (T.getD k dfS).2.2.2.2.getD j 0) (T.getD k dfS).2.2.2.2.length := if_pos (by omega)
          have hyy : stY C2 (T.getD k dfS) = byY C2 (fun j => (T.getD k dfS).2.2.2.2.getD j 0) (T.getD k dfS).2.2.2.2.length := if_pos (by omega)
          rw [← hnn]
          rw [← hyy] at hY
          have hS4 : RefSt M3 o gv X C2 T en [] S := hS2.fr (fun i i1 i2 => by rw [hF _ (by omega)]) (fun a a1 a2 => hF a (by omega))
          have hF4 : FrO M M3 o := fun a ha => (hF a (by omega)).trans (hFr a ha)
          refine wq_s 93 rfl ?_
          refine wq_s 95 rfl ?_
          refine wq_s 97 rfl ?_
          refine wq_if 102 rfl rfl (by omega) (fun c_97 => ?_) (fun c_97 => ?_)
          · have c_97 := of_decide_eq_true c_97
            refine wq_s 103 rfl ?_
            refine wq_s 104 rfl ?_
            refine wq_getR 107 rfl rfl hG.ob hG.2.2.1 rfl ?_
            refine wq_vt1 110 rfl rfl (Nat.le_of_ble_eq_true rfl) hG.ob hG.2.2.1 rfl (Nat.le_of_ble_eq_true rfl) (c_X9_goes (X := C2) (Y := stY C2 (T.getD k dfS)) hG hG.a_checker.1 hG.a_checker.2 (by omega) hS4.2.2.2.1 hY) (fun z M5 hz => ?_)
            obtain ⟨rfl, hM5⟩ := hz
            dsimp only [Option.toList, List.cons_append, List.nil_append]
            have hC5 : AtB M5 (o + 4) (fun c => andN (C2 c) (stY C2 (T.getD k dfS) c)) := fun c hc => by
              rw [hM5, setA_lo (by omega) (by omega), Int.toNat_natCast]
              exact ⟨rfl, andN_lt (k := 9) (s4 c hc).2⟩
            have hF5 : ∀ a, a ≠ o + 4 → M5 a = M3 a := fun a ha => by rw [hM5, setA_ne ha]
            refine we_inc 2 1 ((dn + 1 : Nat) : Int) 113 _ rfl rfl rfl (by omega) (by omega) rfl ?_
            refine we_inc 3 1 ((k + 1 : Nat) : Int) 116 _ rfl rfl rfl (by omega) (by omega) rfl ?_
            refine wq_s 23 rfl ?_
            rw [hdr, show rplF C2 ((T.getD k dfS) :: T.drop (k + 1)) = ((rplF (fun c => andN (C2 c) (stY C2 (T.getD k dfS) c)) (T.drop (k + 1))).1 + 1, (rplF (fun c => andN (C2 c) (stY C2 (T.getD k dfS) c)) (T.drop (k + 1))).2) from if_neg (by omega)] at hE
            exact ih_k (k + 1) (dn + 1) _ M5 _ (by omega) (by omega) (by omega) (hS4.chk hC5 (fun i i1 i2 => by rw [hF5 o (by omega)]) (fun a a1 a2 => hF5 a (by omega))) (by rw [hE]; refine Prod.ext ?_ rfl; show dn + (_ + 1) = dn + 1 + _; omega) (fun a ha => (hF5 a (by omega)).trans (hF4 a ha))
          · have c_97 := of_decide_eq_false c_97
            rw [hdr, show rplF C2 ((T.getD k dfS) :: T.drop (k + 1)) = (0, C2) from if_pos (by omega)] at hE
            have hE : rplF C (T.drop i) = (dn, C2) := hE
            refine wq_s 101 rfl ?_
            exact wq_ret rfl (Or.inl ⟨by rw [hE], ⟨by omega, by omega⟩, (by rw [hE]; exact hS4), hF4⟩)
  refine wq_s 15 rfl ?_
  refine wq_s 16 rfl ?_
  refine wq_putE 31 19 rfl rfl hG.ob hG.2.2.1 rfl (by decide) (Or.inl rfl) rfl ?_
  refine wq_s 20 rfl ?_
  refine wq_s 21 rfl ?_
  refine wq_s 22 rfl ?_
  refine wq_s 23 rfl ?_
  exact L_23 (T.length + 1) i 0 C _ _ (by omega) (by omega) (by omega) hS.nod0 (by rw [Nat.zero_add]) (fun a ha => up2_row (by omega))
theorem c_X9_replay {d : Nat} {G : GT} {M : MT} {o : Nat} {gv X C : Nat → Nat} {T : List GSt} {en : Nat} {nd : List Nat} {S : SrS} (hG : RefG G o) (hS : RefSt M o gv X C T en nd S) (hO : AbOk X C T en S) {i : Int} (hi : R32 i) : Mq (d + 5) k_X9_replay [vR o, vI i] G M (fun z M' => (z = some (vI (((rplF C (T.drop i.toNat)).1 : Nat) : Int)) ∧ (0 ≤ i ∧ i ≤ (T.length : Int)) ∧ RefSt M' o gv X (rplF C (T.drop i.toNat)).2 T en [] S ∧ FrO M M' o) ∨ (z = some (vI (-1)) ∧ ¬ (0 ≤ i ∧ i ≤ (T.length : Int)) ∧ M' = M)) := by
  have hlen := TrOk.len hO.1.2
  have hgt := hO.1.1
  have t22 := hS.2.2.2.2.1.1
  refine wq_s 1 rfl ?_
  refine wq_s 2 rfl ?_
  refine wq_s 3 rfl ?_
  refine wq_getE (v := ((T.length : Nat) : Int)) 22 6 rfl rfl hG.ob hG.2.2.1 rfl rfl t22 ?_
  refine wq_st3 9 rfl rfl (by decide) (Nat.le_of_ble_eq_true rfl) rfl (Nat.le_of_ble_eq_true rfl) (c_X9_in (by omega) (by omega) (by omega)) (fun r M1 hr => ?_)
  obtain ⟨rfl, hM1⟩ := hr
  subst M1
  dsimp only [Option.toList, List.cons_append, List.nil_append]
  refine wq_if 14 rfl rfl iteR (fun c_9 => ?_) (fun c_9 => ?_)
  · have c_9 := of_decide_eq_true c_9
    have c_9 := ite1.mp c_9
    obtain ⟨w, e_w⟩ := Int.eq_ofNat_of_zero_le c_9.1
    subst e_w
    exact replayN hG hS hO (i := w) (by omega)
  · have c_9 := of_decide_eq_false c_9
    have c_9 := iteN.mp c_9
    refine wq_s 13 rfl ?_
    exact wq_ret rfl (Or.inr ⟨rfl, c_9, rfl⟩)
