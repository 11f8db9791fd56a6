/-! the class: takenAway, claim, replay -/
theorem sub_bits {C Hd : Nat → Nat} (h : ∀ c, C c &&& Hd c = Hd c) (c i : Nat) (hb : (Hd c).testBit i = true) : (C c).testBit i = true := by
  rw [← h c, Nat.testBit_and, Bool.and_eq_true] at hb
  exact hb.1
theorem ClsSt.chk {M M' : MT} {gv X C C' : Nat → Nat} {T : List GSt} {en : Nat} {nd : List Nat} {S : SrS} {t : Nat} {lc : List Nat} (h : ClsSt M gv X C T en nd S t) (hB : BdAt M' 15 C' lc) (hl : lc.length + cntX C' ≤ 729) (hG : GoAt M' (fun _ => 0)) (h24 : M' 24 14 = M 24 14) (h1 : ∀ a, 1 ≤ a → a ≤ 55 → (a < 15 ∨ 20 < a) → a ≠ 23 → a ≠ 24 → a ≠ 27 → M' a = M a) : ClsSt M' gv X C' T en nd S t := by
  obtain ⟨⟨a1, a2⟩, a3, a4, -, a7, a8, a9, b1, b2, b3⟩ := h
  have hd : ∀ a, 1 ≤ a → a ≤ 55 → (a < 15 ∨ 20 < a) → a ≠ 23 → a ≠ 24 → a ≠ 27 → M' a = M a := h1
  refine ⟨⟨a1.fr (hd _ (by decide) (by decide) (by decide) (by decide) (by decide) (by decide)) (hd _ (by decide) (by decide) (by decide) (by decide) (by decide) (by decide)) (hd _ (by decide) (by decide) (by decide) (by decide) (by decide) (by decide)) (hd _ (by decide) (by decide) (by decide) (by decide) (by decide) (by decide)), a2.fr (hd _ (by decide) (by decide) (by decide) (by decide) (by decide) (by decide)) (hd _ (by decide) (by decide) (by decide) (by decide) (by decide) (by decide)) (hd _ (by decide) (by decide) (by decide) (by decide) (by decide) (by decide))⟩, a3.fr (hd _ (by decide) (by decide) (by decide) (by decide) (by decide) (by decide)), a4.fr (fun a g1 g2 => hd a (by omega) (by omega) (by omega) (by omega) (by omega) (by omega)), ⟨lc, hB, hl⟩, hG, a8.fr h24 (hd _ (by decide) (by decide) (by decide) (by decide) (by decide) (by decide)) (hd _ (by decide) (by decide) (by decide) (by decide) (by decide) (by decide)) (hd _ (by decide) (by decide) (by decide) (by decide) (by decide) (by decide)), a9.fr (fun a g1 g2 => hd a (by omega) (by omega) (by omega) (by omega) (by omega) (by omega)), ?_, b2.fr ?_ (hd _ (by decide) (by decide) (by decide) (by decide) (by decide) (by decide)), b3.fr (fun a g1 g2 => hd a (by omega) (by omega) (by omega) (by omega) (by omega) (by omega))⟩
  · rw [hd 4 (by decide) (by decide) (by decide) (by decide) (by decide) (by decide)]; exact b1
  · rw [hd 4 (by decide) (by decide) (by decide) (by decide) (by decide) (by decide)]
theorem c_takenAway {d : Nat} {G : GT} {M : MT} {C Hd : Nat → Nat} {lc : List Nat} (hC : ClsG G) (hS : ShpAt M) (hB : BdAt M 15 C lc) (hl : lc.length + cntX C ≤ 729) (hH : GoAt M Hd) (hs : ∀ c, C c &&& Hd c = Hd c) : Mq (d + 3) k_X8_takenAway [vR 4, vI ((cntX Hd : Nat) : Int)] G M (fun z M' => ((z = some (vI ((cntX Hd : Nat) : Int)) ∧ 0 < cntX Hd ∧ ∃ lc', BdAt M' 15 (fun c => andN (C c) (Hd c)) lc' ∧ lc'.length + cntX (fun c => andN (C c) (Hd c)) ≤ 729) ∨ (z = some (vI (-1)) ∧ cntX Hd = 0 ∧ BdAt M' 15 C lc)) ∧ GoAt M' (fun _ => 0) ∧ ∀ a, (a < 15 ∨ 20 < a) → M' a = M a) := by
  have hle := cntX_le Hd
  have hsp := cnt_split C Hd (fun c _ => hs c)
  refine wq_s 1 rfl ?_
  refine wq_if 6 rfl rfl (by omega) (fun c_1 => ?_) (fun c_1 => ?_)
  · have c_1 := of_decide_eq_true c_1
    refine wq_s 7 rfl ?_
    refine wq_getR 10 rfl rfl (hC.lt (by omega)) (hC.ty 0 _ rfl) rfl ?_
    refine wq_s 11 rfl ?_
    refine wq_getR 14 rfl rfl (hC.lt (by omega)) (hC.ty 0 _ rfl) rfl ?_
    refine wq_vt1 17 rfl rfl (Nat.le_of_ble_eq_true rfl) (hC.lt (by omega)) (hC.ty 15 _ rfl) rfl (Nat.le_of_ble_eq_true rfl) (c_X2_leave (d := d) (b := 15) (X := C) (Hd := Hd) (lg := lc) hC hb15 hS hB hH (fun c i _ _ hb => sub_bits hs c i hb) (by rw [thL_cntX]; omega)) (fun r M3 hr => ?_)
    obtain ⟨rfl, g1, g2, g3⟩ := hr
    dsimp only [Option.toList, List.cons_append, List.nil_append]
    refine wq_s 18 rfl ?_
    exact wq_ret rfl ⟨Or.inl ⟨rfl, by omega, _, g1, by rw [List.length_append, thL_cntX]; omega⟩, g2, fun a ha => g3 a (by omega) (by omega) (by omega)⟩
  · have c_1 := of_decide_eq_false c_1
    refine wq_s 5 rfl ?_
    exact wq_ret rfl ⟨Or.inr ⟨rfl, by omega, hB⟩, hH.z (by omega), fun _ _ => rfl⟩
theorem clY_sub (C : Nat → Nat) (nd : List Nat) (r p v : Int) (c : Nat) : C c &&& clY C nd r p v c = clY C nd r p v c := by
  unfold clY
  split
  · exact byY_sub _ _ _ _
  · exact insY_sub _ _ _ _ _
theorem clN_cnt (C : Nat → Nat) (nd : List Nat) (r p v : Int) : clN C nd r p v = cntX (clY C nd r p v) := by
  unfold clN clY
  split
  · rfl
  · rfl
theorem c_X8_claim {d : Nat} {G : GT} {M : MT} {gv X C : Nat → Nat} {T : List GSt} {en : Nat} {nd : List Nat} {S : SrS} {t : Nat} (hC : ClsG G) (hS : ClsSt M gv X C T en nd S t) (hO : AbOk X C T en S) {r p v : Int} (hr : R32 r) (hp : R32 p) (hv : R32 v) : Mq (d + 5) k_X8_claim [vR 4, vI r, vI p, vI v] G M (fun z M' => ((z = some (vI ((clN C nd r p v : Nat) : Int)) ∧ 0 < clN C nd r p v ∧ ClsSt M' gv X (fun c => andN (C c) (clY C nd r p v c)) T en (if r = 13 then [] else nd) S t) ∨ (z = some (vI (-1)) ∧ clN C nd r p v = 0 ∧ ClsSt M' gv X C T en (if r = 13 then [] else nd) S t)) ∧ FrK M M') := by
  obtain ⟨⟨s1, s2⟩, s3, s4, ⟨lc, s5, s6⟩, s7, s8, s9, s10, s11, s12⟩ := id hS
  obtain ⟨t9, t10, t11, t8, tS⟩ := id s9
  obtain ⟨b1, b2, b3, b4, b5, b6⟩ := id hO
  obtain ⟨⟨n9, n10, n11, n8, n12⟩, hAn, hXo, -⟩ := id s12
  have hlen := TrOk.len b1.2
  have hgt := b1.1
  have hcn := clN_cnt C nd r p v
  refine wq_s 1 rfl ?_
  refine wq_s 3 rfl ?_
  refine wq_icmp 25 rfl rfl (by omega) (by omega) (fun c_3 => ?_) (fun c_3 => ?_)
  · have c_3 := of_decide_eq_true c_3
    refine wq_s 26 rfl ?_
    refine wq_s 27 rfl ?_
    refine wq_getR 30 rfl rfl (hC.lt (by omega)) (hC.ty 0 _ rfl) rfl ?_
    refine wq_s 31 rfl ?_
    refine wq_getR 34 rfl rfl (hC.lt (by omega)) (hC.ty 0 _ rfl) rfl ?_
    refine wq_s 35 rfl ?_
    refine wq_getR 38 rfl rfl (hC.lt (by omega)) (hC.ty 0 _ rfl) rfl ?_
    refine wq_s 39 rfl ?_
    refine wq_s 40 rfl ?_
    refine wq_getE (v := ((nd.length : Nat) : Int)) 9 43 rfl rfl (hC.lt (by omega)) (hC.ty 0 _ rfl) rfl rfl s11.1 ?_
    refine wq_vt4 46 rfl rfl (Nat.le_of_ble_eq_true rfl) (hC.lt (by omega)) (hC.ty 20 _ rfl) rfl (Nat.le_of_ble_eq_true rfl) (c_X1_mark (d := d + 1) (b := 15) (qn := 55) (u := 0) (w := nd.length) (Nn := 24) (X := C) (rv := fun k => nd.getD k 0) hC hb15 s1 s5.1 s7 ⟨(hC.lt (by omega)).2, hC.ty 51 _ rfl, by have := s11.2.1; omega, by decide⟩ (by decide) s11.2.1 (fun s hs => by rw [Nat.zero_add]; exact s11.2.2 s hs)) (fun z M1 hz => ?_)
    obtain ⟨rfl, g1, g2, g24⟩ := hz
    have e1 : byN C (fun k => nd.getD k 0) nd.length = cntX (clY C nd r p v) := by rw [← hcn]; exact (if_pos (by omega)).symm
    have e2 : byY C (fun k => nd.getD k 0) nd.length = clY C nd r p v := (if_pos (by omega)).symm
    have e3 : (if r = 13 then [] else nd) = ([] : List Nat) := if_pos (by omega)
    rw [e2] at g1
    rw [e1, e3]
    dsimp only [Option.toList, List.cons_append, List.nil_append]
    refine wq_vt1 49 rfl rfl (Nat.le_of_ble_eq_true rfl) (hC.lt (by omega)) (hC.ty 0 _ rfl) rfl (Nat.le_of_ble_eq_true rfl) (c_takenAway (d := d + 1) (C := C) (Hd := clY C nd r p v) (lc := lc) hC (s1.fr (g2 _ (by decide) (by decide) (by decide) (by decide)) (g2 _ (by decide) (by decide) (by decide) (by decide)) (g2 _ (by decide) (by decide) (by decide) (by decide)) (g2 _ (by decide) (by decide) (by decide) (by decide))) (s5.fr (fun a h1 h2 => g2 a (by omega) (by omega) (by omega) (by omega))) s6 g1 (clY_sub C nd r p v)) (fun z M2 hz => ?_)
    obtain ⟨k1, k2, k3⟩ := hz
    have f2 : ∀ a, a ≠ 23 → a ≠ 24 → a ≠ 27 → (a < 15 ∨ 20 < a) → M2 a = M a := fun a h1 h2 h3 h4 => (k3 a h4).trans (g2 a (by omega) (by omega) (by omega) (by omega))
    have h24 : M2 24 14 = M 24 14 := (by rw [k3 24 (by decide)]; exact g24 _ (by decide))
    rcases k1 with ⟨rfl, k4, lc2, k5, k6⟩ | ⟨rfl, k4, k5⟩
    · dsimp only [Option.toList, List.cons_append, List.nil_append]
      have hS2 := hS.chk k5 k6 k2 h24 (fun a h1 h2 h3 h4 h5 h6 => f2 a h4 h5 h6 h3)
      refine wq_s 51 rfl ?_
      refine wq_s 52 rfl ?_
      refine wq_s 53 rfl ?_
      refine wq_putE 9 56 rfl rfl (hC.lt (by omega)) (hC.ty 0 _ rfl) rfl (by decide) (Or.inl rfl) rfl ?_
      refine wq_s 58 rfl ?_
      exact wq_ret rfl ⟨Or.inl ⟨by rw [hcn], by rw [hcn]; exact k4, hS2.set4 (fun a h1 h2 h3 => up2_row h3) (by rw [up2_ne (Or.inr (by decide)), f2 4 (by decide) (by decide) (by decide) (by decide)]; exact s10) ⟨up2_at, Nat.zero_le _, fun k hk => absurd hk (Nat.not_lt_zero _)⟩⟩, fun a ha => (up2_row (by omega)).trans (f2 a (by omega) (by omega) (by omega) (by omega))⟩
    · dsimp only [Option.toList, List.cons_append, List.nil_append]
      have hS2 := hS.chk k5 s6 k2 h24 (fun a h1 h2 h3 h4 h5 h6 => f2 a h4 h5 h6 h3)
      refine wq_s 51 rfl ?_
      refine wq_s 52 rfl ?_
      refine wq_s 53 rfl ?_
      refine wq_putE 9 56 rfl rfl (hC.lt (by omega)) (hC.ty 0 _ rfl) rfl (by decide) (Or.inl rfl) rfl ?_
      refine wq_s 58 rfl ?_
      exact wq_ret rfl ⟨Or.inr ⟨rfl, by rw [hcn]; exact k4, hS2.set4 (fun a h1 h2 h3 => up2_row h3) (by rw [up2_ne (Or.inr (by decide)), f2 4 (by decide) (by decide) (by decide) (by decide)]; exact s10) ⟨up2_at, Nat.zero_le _, fun k hk => absurd hk (Nat.not_lt_zero _)⟩⟩, fun a ha => (up2_row (by omega)).trans (f2 a (by omega) (by omega) (by omega) (by omega))⟩
  · have c_3 := of_decide_eq_false c_3
    refine wq_s 7 rfl ?_
    refine wq_s 8 rfl ?_
    refine wq_getR 11 rfl rfl (hC.lt (by omega)) (hC.ty 0 _ rfl) rfl ?_
    refine wq_s 12 rfl ?_
    refine wq_getR 15 rfl rfl (hC.lt (by omega)) (hC.ty 0 _ rfl) rfl ?_
    refine wq_s 16 rfl ?_
    refine wq_s 17 rfl ?_
    refine wq_s 18 rfl ?_
    refine wq_vt4 21 rfl rfl (Nat.le_of_ble_eq_true rfl) (hC.lt (by omega)) (hC.ty 17 _ rfl) rfl (Nat.le_of_ble_eq_true rfl) (c_X3_mark (d := d) (b := 15) (X := C) hC hb15 s1 s5.1 s2 s7 hr hp hv) (fun z M1 hz => ?_)
    obtain ⟨rfl, g1, g2⟩ := hz
    have e1 : insN C r p v = cntX (clY C nd r p v) := by rw [← hcn]; exact (if_neg (by omega)).symm
    have e2 : insY C r p v = clY C nd r p v := (if_neg (by omega)).symm
    have e3 : (if r = 13 then [] else nd) = nd := if_neg (by omega)
    rw [e2] at g1
    rw [e1, e3]
    dsimp only [Option.toList, List.cons_append, List.nil_append]
    refine wq_vt1 24 rfl rfl (Nat.le_of_ble_eq_true rfl) (hC.lt (by omega)) (hC.ty 0 _ rfl) rfl (Nat.le_of_ble_eq_true rfl) (c_takenAway (d := d + 1) (C := C) (Hd := clY C nd r p v) (lc := lc) hC (s1.fr (g2 _ (by decide) (by decide) (by decide)) (g2 _ (by decide) (by decide) (by decide)) (g2 _ (by decide) (by decide) (by decide)) (g2 _ (by decide) (by decide) (by decide))) (s5.fr (fun a h1 h2 => g2 a (by omega) (by omega) (by omega))) s6 g1 (clY_sub C nd r p v)) (fun z M2 hz => ?_)
    obtain ⟨k1, k2, k3⟩ := hz
    have f2 : ∀ a, a ≠ 23 → a ≠ 24 → a ≠ 27 → (a < 15 ∨ 20 < a) → M2 a = M a := fun a h1 h2 h3 h4 => (k3 a h4).trans (g2 a (by omega) (by omega) (by omega))
    have h24 : M2 24 14 = M 24 14 := (by rw [k3 24 (by decide), g2 24 (by decide) (by decide) (by decide)])
    have f24 : M2 24 = M 24 := (k3 24 (by decide)).trans (g2 24 (by decide) (by decide) (by decide))
    rcases k1 with ⟨rfl, k4, lc2, k5, k6⟩ | ⟨rfl, k4, k5⟩
    · dsimp only [Option.toList, List.cons_append, List.nil_append]
      have hS2 := hS.chk k5 k6 k2 h24 (fun a h1 h2 h3 h4 h5 h6 => f2 a h4 h5 h6 h3)
      exact wq_ret rfl ⟨Or.inl ⟨by rw [hcn], by rw [hcn]; exact k4, hS2⟩, fun a ha => f2 a (by omega) (by omega) (by omega) (by omega)⟩
    · dsimp only [Option.toList, List.cons_append, List.nil_append]
      have hS2 := hS.chk k5 s6 k2 h24 (fun a h1 h2 h3 h4 h5 h6 => f2 a h4 h5 h6 h3)
      exact wq_ret rfl ⟨Or.inr ⟨rfl, by rw [hcn]; exact k4, hS2⟩, fun a ha => f2 a (by omega) (by omega) (by omega) (by omega)⟩
theorem stY_sub (C : Nat → Nat) (s : GSt) (c : Nat) : C c &&& stY C s c = stY C s c := by
  unfold stY
  split
  · exact byY_sub _ _ _ _
  · exact insY_sub _ _ _ _ _
theorem stN_cnt (C : Nat → Nat) (s : GSt) : stN C s = cntX (stY C s) := by
  unfold stN stY
  split
  · rfl
  · rfl
theorem c_claimWritten {d : Nat} {G : GT} {M : MT} {gv X C : Nat → Nat} {T : List GSt} {en : Nat} {nd : List Nat} {S : SrS} {t : Nat} (hC : ClsG G) (hS : ClsSt M gv X C T en nd S t) (hO : AbOk X C T en S) {i : Nat} (hi : i < T.length) : Mq (d + 5) k_X8_claimWritten [vR 4, vI (i : Int)] G M (fun z M' => ((z = some (vI ((stN C (T.getD i dfS) : Nat) : Int)) ∧ 0 < stN C (T.getD i dfS) ∧ ClsSt M' gv X (fun c => andN (C c) (stY C (T.getD i dfS) c)) T en nd S t) ∨ (z = some (vI (-1)) ∧ stN C (T.getD i dfS) = 0 ∧ ClsSt M' gv X C T en nd S t)) ∧ FrK M M') := by
  obtain ⟨⟨s1, s2⟩, s3, s4, ⟨lc, s5, s6⟩, s7, s8, s9, s10, s11, s12⟩ := id hS
  obtain ⟨t9, t10, t11, t8, tS⟩ := id s9
  obtain ⟨b1, b2, b3, b4, b5, b6⟩ := id hO
  obtain ⟨⟨n9, n10, n11, n8, n12⟩, hAn, hXo, -⟩ := id s12
  have hlen := TrOk.len b1.2
  have hgt := b1.1
  have hcn := stN_cnt C (T.getD i dfS)
  have hok := b1.2 _ (smem i hi)
  have ht := tS i hi
  have hlt := lTot_le T b1.2
  have hla := lTot_at T i hi
  refine wq_s 1 rfl ?_
  refine wq_getR 4 rfl rfl (hC.lt (by omega)) (hC.ty 0 _ rfl) rfl ?_
  refine wq_getR 7 rfl rfl (hC.lt (by omega)) (hC.ty 32 _ rfl) rfl ?_
  refine wq_s 8 rfl ?_
  refine wq_iald (v := (((T.getD i dfS).1 : Nat) : Int)) 9 rfl rfl (hC.lt (by omega)).2 (hC.ty 33 _ rfl) (by omega) (by omega) (by omega) ht.1 ?_
  have hr14 := hok.1
  have hp5 := hok.2.1
  have hq7 := hok.2.2.1
  have hl24 := hok.2.2.2.2.1
  refine wq_s 11 rfl ?_
  refine wq_icmp 55 rfl rfl (by omega) (by omega) (fun c_11 => ?_) (fun c_11 => ?_)
  · have c_11 := of_decide_eq_true c_11
    refine wq_s 56 rfl ?_
    refine wq_s 57 rfl ?_
    refine wq_getR 60 rfl rfl (hC.lt (by omega)) (hC.ty 0 _ rfl) rfl ?_
    refine wq_s 61 rfl ?_
    refine wq_getR 64 rfl rfl (hC.lt (by omega)) (hC.ty 0 _ rfl) rfl ?_
    refine wq_s 65 rfl ?_
    refine wq_getR 68 rfl rfl (hC.lt (by omega)) (hC.ty 0 _ rfl) rfl ?_
    refine wq_getR 71 rfl rfl (hC.lt (by omega)) (hC.ty 32 _ rfl) rfl ?_
    refine wq_s 72 rfl ?_
    refine wq_iald (v := (((T.getD i dfS).1 : Nat) : Int)) 73 rfl rfl (hC.lt (by omega)).2 (hC.ty 33 _ rfl) (by omega) (by omega) (by omega) ht.1 ?_
    refine wq_s 74 rfl ?_
    refine wq_getR 77 rfl rfl (hC.lt (by omega)) (hC.ty 0 _ rfl) rfl ?_
    refine wq_getR 80 rfl rfl (hC.lt (by omega)) (hC.ty 32 _ rfl) rfl ?_
    refine wq_s 81 rfl ?_
    refine wq_iald (v := (((T.getD i dfS).2.1 : Nat) : Int)) 82 rfl rfl (hC.lt (by omega)).2 (hC.ty 34 _ rfl) (by omega) (by omega) (by omega) ht.2.1 ?_
    refine wq_s 83 rfl ?_
    refine wq_getR 86 rfl rfl (hC.lt (by omega)) (hC.ty 0 _ rfl) rfl ?_
    refine wq_getR 89 rfl rfl (hC.lt (by omega)) (hC.ty 32 _ rfl) rfl ?_
    refine wq_s 90 rfl ?_
    refine wq_iald (v := (((T.getD i dfS).2.2.1 : Nat) : Int)) 91 rfl rfl (hC.lt (by omega)).2 (hC.ty 35 _ rfl) (by omega) (by omega) (by omega) ht.2.2.1 ?_
    refine wq_vt4 94 rfl rfl (Nat.le_of_ble_eq_true rfl) (hC.lt (by omega)) (hC.ty 17 _ rfl) rfl (Nat.le_of_ble_eq_true rfl) (c_X3_mark (d := d) (b := 15) (X := C) hC hb15 s1 s5.1 s2 s7 (r := (((T.getD i dfS).1 : Nat) : Int)) (p := (((T.getD i dfS).2.1 : Nat) : Int)) (v := (((T.getD i dfS).2.2.1 : Nat) : Int)) (by omega) (by omega) (by omega)) (fun z M1 hz => ?_)
    obtain ⟨rfl, g1, g2⟩ := hz
    have e1 : insN C (((T.getD i dfS).1 : Nat) : Int) (((T.getD i dfS).2.1 : Nat) : Int) (((T.getD i dfS).2.2.1 : Nat) : Int) = cntX (stY C (T.getD i dfS)) := by rw [← hcn]; exact (if_neg (by omega)).symm
    have e2 : insY C (((T.getD i dfS).1 : Nat) : Int) (((T.getD i dfS).2.1 : Nat) : Int) (((T.getD i dfS).2.2.1 : Nat) : Int) = stY C (T.getD i dfS) := (if_neg (by omega)).symm
    rw [e2] at g1
    rw [e1]
    dsimp only [Option.toList, List.cons_append, List.nil_append]
    refine wq_vt1 97 rfl rfl (Nat.le_of_ble_eq_true rfl) (hC.lt (by omega)) (hC.ty 0 _ rfl) rfl (Nat.le_of_ble_eq_true rfl) (c_takenAway (d := d + 1) (C := C) (Hd := stY C (T.getD i dfS)) (lc := lc) hC (s1.fr (g2 _ (by decide) (by decide) (by decide)) (g2 _ (by decide) (by decide) (by decide)) (g2 _ (by decide) (by decide) (by decide)) (g2 _ (by decide) (by decide) (by decide))) (s5.fr (fun a h1 h2 => g2 a (by omega) (by omega) (by omega))) s6 g1 (stY_sub C (T.getD i dfS))) (fun z M2 hz => ?_)
    obtain ⟨k1, k2, k3⟩ := hz
    have f2 : ∀ a, a ≠ 23 → a ≠ 24 → a ≠ 27 → (a < 15 ∨ 20 < a) → M2 a = M a := fun a h1 h2 h3 h4 => (k3 a h4).trans (g2 a (by omega) (by omega) (by omega))
    have h24 : M2 24 14 = M 24 14 := (by rw [k3 24 (by decide), g2 24 (by decide) (by decide) (by decide)])
    have f24 : M2 24 = M 24 := (k3 24 (by decide)).trans (g2 24 (by decide) (by decide) (by decide))
    rcases k1 with ⟨rfl, k4, lc2, k5, k6⟩ | ⟨rfl, k4, k5⟩
    · dsimp only [Option.toList, List.cons_append, List.nil_append]
      have hS2 := hS.chk k5 k6 k2 h24 (fun a h1 h2 h3 h4 h5 h6 => f2 a h4 h5 h6 h3)
      exact wq_ret rfl ⟨Or.inl ⟨by rw [hcn], by rw [hcn]; exact k4, hS2⟩, fun a ha => f2 a (by omega) (by omega) (by omega) (by omega)⟩
    · dsimp only [Option.toList, List.cons_append, List.nil_append]
      have hS2 := hS.chk k5 s6 k2 h24 (fun a h1 h2 h3 h4 h5 h6 => f2 a h4 h5 h6 h3)
      exact wq_ret rfl ⟨Or.inr ⟨rfl, by rw [hcn]; exact k4, hS2⟩, fun a ha => f2 a (by omega) (by omega) (by omega) (by omega)⟩
  · have c_11 := of_decide_eq_false c_11
    refine wq_s 15 rfl ?_
    refine wq_s 16 rfl ?_
    refine wq_getR 19 rfl rfl (hC.lt (by omega)) (hC.ty 0 _ rfl) rfl ?_
    refine wq_s 20 rfl ?_
    refine wq_getR 23 rfl rfl (hC.lt (by omega)) (hC.ty 0 _ rfl) rfl ?_
    refine wq_s 24 rfl ?_
    refine wq_getR 27 rfl rfl (hC.lt (by omega)) (hC.ty 0 _ rfl) rfl ?_
    refine wq_getR 30 rfl rfl (hC.lt (by omega)) (hC.ty 32 _ rfl) rfl ?_
    refine wq_s 31 rfl ?_
    refine wq_getR 34 rfl rfl (hC.lt (by omega)) (hC.ty 0 _ rfl) rfl ?_
    refine wq_getR 37 rfl rfl (hC.lt (by omega)) (hC.ty 32 _ rfl) rfl ?_
    refine wq_s 38 rfl ?_
    refine wq_iald (v := ((lTot (T.take i) : Nat) : Int)) 39 rfl rfl (hC.lt (by omega)).2 (hC.ty 38 _ rfl) (by omega) (by omega) (by omega) ht.2.2.2.2.2.1 ?_
    refine wq_s 40 rfl ?_
    refine wq_getR 43 rfl rfl (hC.lt (by omega)) (hC.ty 0 _ rfl) rfl ?_
    refine wq_getR 46 rfl rfl (hC.lt (by omega)) (hC.ty 32 _ rfl) rfl ?_
    refine wq_s 47 rfl ?_
    refine wq_iald (v := (((T.getD i dfS).2.2.2.2.length : Nat) : Int)) 48 rfl rfl (hC.lt (by omega)).2 (hC.ty 39 _ rfl) (by omega) (by omega) (by omega) ht.2.2.2.2.2.2.1 ?_
    refine wq_vt4 51 rfl rfl (Nat.le_of_ble_eq_true rfl) (hC.lt (by omega)) (hC.ty 20 _ rfl) rfl (Nat.le_of_ble_eq_true rfl) (c_X1_mark (d := d + 1) (b := 15) (qn := 44) (u := lTot (T.take i)) (w := (T.getD i dfS).2.2.2.2.length) (Nn := 17496) (X := C) (rv := (fun k => (T.getD i dfS).2.2.2.2.getD k 0)) hC hb15 s1 s5.1 s7 ⟨(hC.lt (by omega)).2, hC.ty 40 _ rfl, by omega, by decide⟩ (by decide) hok.2.2.2.2.1 (fun s hs => ⟨ht.2.2.2.2.2.2.2 s hs, hok.2.2.2.2.2.2 s hs⟩)) (fun z M1 hz => ?_)
    obtain ⟨rfl, g1, g2, g24⟩ := hz
    have e1 : byN C (fun k => (T.getD i dfS).2.2.2.2.getD k 0) (T.getD i dfS).2.2.2.2.length = cntX (stY C (T.getD i dfS)) := by rw [← hcn]; exact (if_pos (by omega)).symm
    have e2 : byY C (fun k => (T.getD i dfS).2.2.2.2.getD k 0) (T.getD i dfS).2.2.2.2.length = stY C (T.getD i dfS) := (if_pos (by omega)).symm
    rw [e2] at g1
    rw [e1]
    dsimp only [Option.toList, List.cons_append, List.nil_append]
    refine wq_vt1 54 rfl rfl (Nat.le_of_ble_eq_true rfl) (hC.lt (by omega)) (hC.ty 0 _ rfl) rfl (Nat.le_of_ble_eq_true rfl) (c_takenAway (d := d + 1) (C := C) (Hd := stY C (T.getD i dfS)) (lc := lc) hC (s1.fr (g2 _ (by decide) (by decide) (by decide) (by decide)) (g2 _ (by decide) (by decide) (by decide) (by decide)) (g2 _ (by decide) (by decide) (by decide) (by decide)) (g2 _ (by decide) (by decide) (by decide) (by decide))) (s5.fr (fun a h1 h2 => g2 a (by omega) (by omega) (by omega) (by omega))) s6 g1 (stY_sub C (T.getD i dfS))) (fun z M2 hz => ?_)
    obtain ⟨k1, k2, k3⟩ := hz
    have f2 : ∀ a, a ≠ 23 → a ≠ 24 → a ≠ 27 → (a < 15 ∨ 20 < a) → M2 a = M a := fun a h1 h2 h3 h4 => (k3 a h4).trans (g2 a (by omega) (by omega) (by omega) (by omega))
    have h24 : M2 24 14 = M 24 14 := (by rw [k3 24 (by decide)]; exact g24 _ (by decide))
    rcases k1 with ⟨rfl, k4, lc2, k5, k6⟩ | ⟨rfl, k4, k5⟩
    · dsimp only [Option.toList, List.cons_append, List.nil_append]
      have hS2 := hS.chk k5 k6 k2 h24 (fun a h1 h2 h3 h4 h5 h6 => f2 a h4 h5 h6 h3)
      exact wq_ret rfl ⟨Or.inl ⟨by rw [hcn], by rw [hcn]; exact k4, hS2⟩, fun a ha => f2 a (by omega) (by omega) (by omega) (by omega)⟩
    · dsimp only [Option.toList, List.cons_append, List.nil_append]
      have hS2 := hS.chk k5 s6 k2 h24 (fun a h1 h2 h3 h4 h5 h6 => f2 a h4 h5 h6 h3)
      exact wq_ret rfl ⟨Or.inr ⟨rfl, by rw [hcn]; exact k4, hS2⟩, fun a ha => f2 a (by omega) (by omega) (by omega) (by omega)⟩
theorem rpl_t {C : Nat → Nat} {s : GSt} {l : List GSt} (h : 0 < stN C s) : rplF C (s :: l) = ((rplF (fun c => andN (C c) (stY C s c)) l).1 + 1, (rplF (fun c => andN (C c) (stY C s c)) l).2) := if_neg (by omega)
theorem rpl_f {C : Nat → Nat} {s : GSt} {l : List GSt} (h : stN C s = 0) : rplF C (s :: l) = (0, C) := if_pos h
theorem AbOk.chk {X C C' : Nat → Nat} {T : List GSt} {en : Nat} {S : SrS} (h : AbOk X C T en S) (hC : ∀ c, c < 81 → C' c < 512) : AbOk X C' T en S := ⟨h.1, h.2.1, h.2.2.1, hC, h.2.2.2.2⟩
theorem c_X8_replay {d : Nat} {G : GT} {M : MT} {gv X C : Nat → Nat} {T : List GSt} {en : Nat} {nd : List Nat} {S : SrS} {t : Nat} (hC : ClsG G) (hS : ClsSt M gv X C T en nd S t) (hO : AbOk X C T en S) {i : Int} (hi : R32 i) : Mq (d + 6) k_X8_replay [vR 4, vI i] G M (fun z M' => (z = some (vI (((rplF C (T.drop i.toNat)).1 : Nat) : Int)) ∧ (0 ≤ i ∧ i ≤ (T.length : Int)) ∧ ClsSt M' gv X (rplF C (T.drop i.toNat)).2 T en [] S t ∧ FrK M M') ∨ (z = some (vI (-1)) ∧ ¬ (0 ≤ i ∧ i ≤ (T.length : Int)) ∧ M' = M)) := by
  obtain ⟨⟨s1, s2⟩, s3, s4, ⟨lc, s5, s6⟩, s7, s8, s9, s10, s11, s12⟩ := id hS
  obtain ⟨t9, t10, t11, t8, tS⟩ := id s9
  obtain ⟨b1, b2, b3, b4, b5, b6⟩ := id hO
  obtain ⟨⟨n9, n10, n11, n8, n12⟩, hAn, hXo, -⟩ := id s12
  have hlen := TrOk.len b1.2
  have hgt := b1.1
  refine wq_s 1 rfl ?_
  refine wq_if 15 rfl rfl (by omega) (fun c_1 => ?_) (fun c_1 => ?_)
  · have c_1 := of_decide_eq_true c_1
    refine wq_s 16 rfl ?_
    exact wq_ret rfl (Or.inr ⟨rfl, by omega, rfl⟩)
  · have c_1 := of_decide_eq_false c_1
    obtain ⟨m, e_m⟩ := Int.eq_ofNat_of_zero_le (show 0 ≤ i by omega)
    subst e_m
    rw [Int.toNat_natCast]
    refine wq_s 5 rfl ?_
    refine wq_s 6 rfl ?_
    refine wq_getR 9 rfl rfl (hC.lt (by omega)) (hC.ty 0 _ rfl) rfl ?_
    refine wq_getE (v := ((T.length : Nat) : Int)) 9 12 rfl rfl (hC.lt (by omega)) (hC.ty 32 _ rfl) rfl rfl t9 ?_
    refine wq_icmp 17 rfl rfl (by omega) (by omega) (fun c_12 => ?_) (fun c_12 => ?_)
    · have c_12 := of_decide_eq_true c_12
      have L_26 : ∀ (f k : Nat) (dn : Nat) (C2 : Nat → Nat) (M2 : MT), T.length - k < f → k ≤ T.length → (ClsSt M2 gv X C2 T en [] S t) → (AbOk X C2 T en S) → ((rplF C (T.drop m)).1 = dn + (rplF C2 (T.drop k)).1 ∧ (rplF C (T.drop m)).2 = (rplF C2 (T.drop k)).2) → (FrK M M2) → (dn ≤ k) → Wq (d + 6) k_X8_replay 26 [some (vR 4), some (vI ((m : Nat) : Int)), some (vI ((dn : Nat) : Int)), some (vI ((k : Nat) : Int))] [] G M2 (fun z M' => (z = some (vI (((rplF C (T.drop m)).1 : Nat) : Int)) ∧ (0 ≤ (m : Int) ∧ (m : Int) ≤ (T.length : Int)) ∧ ClsSt M' gv X (rplF C (T.drop m)).2 T en [] S t ∧ FrK M M') ∨ (z = some (vI (-1)) ∧ ¬ (0 ≤ (m : Int) ∧ (m : Int) ≤ (T.length : Int)) ∧ M' = M)) := by
        intro f
        induction f with
        | zero => intro k dn C2 M2 h; exact absurd h (by omega)
        | succ f ih_k =>
          intro k dn C2 M2 hf_k hk_k a1 a2 a3 a4 a5
          refine wq_s 27 rfl ?_
          refine wq_s 28 rfl ?_
          refine wq_getR 31 rfl rfl (hC.lt (by omega)) (hC.ty 0 _ rfl) rfl ?_
          refine wq_getE (v := ((T.length : Nat) : Int)) 9 34 rfl rfl (hC.lt (by omega)) (hC.ty 32 _ rfl) rfl rfl a1.2.2.2.2.2.2.1.1 ?_
          refine wq_icmp 58 rfl rfl (by omega) (by omega) (fun c_34 => ?_) (fun c_34 => ?_)
          · have c_34 := of_decide_eq_true c_34
            refine wq_s 59 rfl ?_
            exact wq_ret rfl (by rw [show k = T.length by omega, List.drop_length] at a3; exact Or.inl ⟨by rw [a3.1]; rfl, ⟨by omega, by omega⟩, by rw [a3.2]; exact a1, a4⟩)
          · have c_34 := of_decide_eq_false c_34
            refine wq_s 38 rfl ?_
            refine wq_s 39 rfl ?_
            refine wq_vt1 42 rfl rfl (Nat.le_of_ble_eq_true rfl) (hC.lt (by omega)) (hC.ty 0 _ rfl) rfl (Nat.le_of_ble_eq_true rfl) (c_claimWritten (d := d) (i := k) hC a1 a2 (by omega)) (fun z M3 hz => ?_)
            obtain ⟨hz, hf3⟩ := hz
            have hsd := sdrop k (show k < T.length by omega)
            have hnl := stN_le C2 (T.getD k dfS)
            rcases hz with ⟨rfl, k1, k2⟩ | ⟨rfl, k1, k2⟩
            · dsimp only [Option.toList, List.cons_append, List.nil_append]
              obtain ⟨e, he⟩ : ∃ e : Int, e = ((stN C2 (T.getD k dfS) : Nat) : Int) := ⟨_, rfl⟩
              rw [← he]
              refine wq_s 43 rfl ?_
              refine wq_icmp 49 rfl rfl (by omega) (by omega) (fun c_43 => ?_) (fun c_43 => ?_)
              · have c_43 := of_decide_eq_true c_43
                refine we_inc 2 1 ((dn + 1 : Nat) : Int) 52 _ rfl rfl rfl (by omega) (by omega) rfl ?_
                refine we_inc 3 1 ((k + 1 : Nat) : Int) 55 _ rfl rfl rfl (by omega) (by omega) rfl ?_
                refine wq_s 26 rfl ?_
                rw [hsd, rpl_t k1] at a3
                refine ih_k (k + 1) (dn + 1) _ M3 (by omega) (by omega) k2 (a2.chk (fun c hc => ?_)) ⟨by rw [a3.1]; omega, a3.2⟩ (fun a ha => (hf3 a ha).trans (a4 a ha)) (by omega)
                exact andN_lt (k := 9) (a2.2.2.2.1 c hc)
              · have c_43 := of_decide_eq_false c_43
                exact absurd c_43 (by omega)
            · dsimp only [Option.toList, List.cons_append, List.nil_append]
              refine wq_s 43 rfl ?_
              refine wq_s 46 rfl ?_
              refine wq_s 58 rfl ?_
              refine wq_s 59 rfl ?_
              exact wq_ret rfl (by rw [hsd, rpl_f k1] at a3; exact Or.inl ⟨by rw [a3.1]; rfl, ⟨by omega, by omega⟩, by rw [a3.2]; exact k2, fun a ha => (hf3 a ha).trans (a4 a ha)⟩)
      refine wq_s 18 rfl ?_
      refine wq_s 19 rfl ?_
      refine wq_putE 9 22 rfl rfl (hC.lt (by omega)) (hC.ty 0 _ rfl) rfl (by decide) (Or.inl rfl) rfl ?_
      refine wq_s 23 rfl ?_
      refine wq_s 24 rfl ?_
      refine wq_s 25 rfl ?_
      refine wq_s 26 rfl ?_
      exact L_26 (T.length + 1) m 0 C _ (by omega) (by omega) (hS.set4 (fun a h1 h2 h3 => up2_row h3) (by rw [up2_ne (Or.inr (by decide))]; exact s10) ⟨up2_at, Nat.zero_le _, fun k hk => absurd hk (Nat.not_lt_zero _)⟩) hO ⟨(Nat.zero_add _).symm, rfl⟩ (fun a ha => up2_row (by omega)) (Nat.zero_le _)
    · have c_12 := of_decide_eq_false c_12
      refine wq_s 16 rfl ?_
      exact wq_ret rfl (Or.inr ⟨rfl, by omega, rfl⟩)
