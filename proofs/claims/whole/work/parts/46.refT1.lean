/-! the reference as a whole: its state, and the calls that only answer -/
def fstF (gv : Nat → Nat) (c : Nat) : Nat := if gv c = 0 then 511 else 2 ^ (gv c - 1)
/-- search: begun, over, tries, depth, solutions, the levels (board, cell, tried), the answers -/
abbrev SrS : Type := Nat × Nat × Nat × Nat × Nat × (Nat → (Nat → Nat) × Nat × Nat) × (Nat → Nat → Nat)
def RefSr (M : MT) (o : Nat) (S : SrS) : Prop := M o 40 = (S.1 : Int) ∧ M o 41 = (S.2.1 : Int) ∧ M o 38 = (S.2.2.1 : Int) ∧ M o 39 = (S.2.2.2.1 : Int) ∧ M o 37 = (S.2.2.2.2.1 : Int) ∧ (∀ i, i < S.2.2.2.1 → (∀ c, c < 81 → M (o + 23) ((81 * i + c : Nat) : Int) = (((S.2.2.2.2.2.1 i).1 c : Nat) : Int)) ∧ M (o + 24) (i : Int) = (((S.2.2.2.2.2.1 i).2.1 : Nat) : Int) ∧ M (o + 25) (i : Int) = (((S.2.2.2.2.2.1 i).2.2 : Nat) : Int)) ∧ ∀ k, k < S.2.2.2.2.1 → ∀ c, c < 81 → M (o + 27) ((81 * k + c : Nat) : Int) = ((S.2.2.2.2.2.2 k c : Nat) : Int)
def SrOk (S : SrS) : Prop := S.1 ≤ 1 ∧ S.2.1 ≤ 1 ∧ S.2.2.1 ≤ 1000000 ∧ S.2.2.2.1 ≤ 81 ∧ S.2.2.2.2.1 ≤ 2 ∧ ∀ i, i < S.2.2.2.1 → (∀ c, c < 81 → (S.2.2.2.2.2.1 i).1 c < 512) ∧ (S.2.2.2.2.2.1 i).2.1 < 81 ∧ (S.2.2.2.2.2.1 i).2.2 ≤ 9
def GvAt (M : MT) (q : Nat) (gv : Nat → Nat) : Prop := ∀ c : Nat, c < 81 → M q (c : Int) = (gv c : Int) ∧ gv c ≤ 9
def NdAt (M : MT) (o : Nat) (nd : List Nat) : Prop := M o 31 = (nd.length : Int) ∧ nd.length ≤ 24 ∧ ∀ k, k < nd.length → M (o + 22) (k : Int) = ((nd.getD k 0 : Nat) : Int) ∧ nd.getD k 0 < 729
def RefSt (M : MT) (o : Nat) (gv X C : Nat → Nat) (T : List GSt) (en : Nat) (nd : List Nat) (S : SrS) : Prop := GvAt M (o + 1) gv ∧ AtB M (o + 2) (fstF gv) ∧ AtB M (o + 3) X ∧ AtB M (o + 4) C ∧ RefTr M o T ∧ M o 26 = (en : Int) ∧ NdAt M o nd ∧ RefSr M o S
/-- what always holds of such a state -/
def AbOk (X C : Nat → Nat) (T : List GSt) (en : Nat) (S : SrS) : Prop := TrOk T ∧ gTot T + cntX X ≤ 729 ∧ (∀ c, c < 81 → X c < 512) ∧ (∀ c, c < 81 → C c < 512) ∧ en ≤ 1 ∧ SrOk S
abbrev FrO (M M' : MT) (o : Nat) : Prop := ∀ a, (a < o ∨ o + 27 < a) → M' a = M a
theorem fstF_lt {gv : Nat → Nat} {c : Nat} (h : gv c ≤ 9) : fstF gv c < 512 := by
  unfold fstF
  split
  · decide
  · exact Nat.lt_of_le_of_lt (Nat.pow_le_pow_right (by decide) (show gv c - 1 ≤ 8 by omega)) (by decide)
def aCand (gv X C : Nat → Nat) (c w : Int) : Int := if 0 ≤ c ∧ c ≤ 80 then (if 0 ≤ w ∧ w ≤ 2 then (if w = 0 then (X c.toNat : Int) else if w = 1 then (C c.toNat : Int) else (fstF gv c.toNat : Int)) else -1) else -1
def aTold (T : List GSt) (en : Nat) (w : Int) : Int := if w = 0 then (T.length : Int) else if w = 1 then (scT T : Int) else if w = 2 then lvT T else if w = 3 then (gTot T : Int) else if w = 4 then (en : Int) else -1
def aStep (T : List GSt) (i w : Int) : Int := if 0 ≤ i ∧ i ≤ (T.length : Int) - 1 then (if w = 0 then ((T.getD i.toNat dfS).1 : Int) else if w = 1 then ((T.getD i.toNat dfS).2.1 : Int) else if w = 2 then ((T.getD i.toNat dfS).2.2.1 : Int) else if w = 3 then ((T.getD i.toNat dfS).2.2.2.1.length : Int) else if w = 4 then ((T.getD i.toNat dfS).2.2.2.2.length : Int) else -1) else -1
def aGone (T : List GSt) (i k : Int) : Int := if 0 ≤ i ∧ i ≤ (T.length : Int) - 1 then (if 0 ≤ k ∧ k ≤ ((T.getD i.toNat dfS).2.2.2.1.length : Int) - 1 then (((T.getD i.toNat dfS).2.2.2.1.getD k.toNat 0 : Nat) : Int) else -1) else -1
def aLink (T : List GSt) (i k : Int) : Int := if 0 ≤ i ∧ i ≤ (T.length : Int) - 1 then (if 0 ≤ k ∧ k ≤ ((T.getD i.toNat dfS).2.2.2.2.length : Int) - 1 then (((T.getD i.toNat dfS).2.2.2.2.getD k.toNat 0 : Nat) : Int) else -1) else -1
def aSearched (S : SrS) (w : Int) : Int := if w = 0 then (S.2.1 : Int) else if w = 1 then (S.2.2.1 : Int) else if w = 2 then (if S.2.1 = 0 then -1 else if S.2.2.2.2.1 = 1 then 1 else 0) else -1
def aSol (S : SrS) (k c : Int) : Int := if 0 ≤ k ∧ k ≤ (S.2.2.2.2.1 : Int) - 1 then (if 0 ≤ c ∧ c ≤ 80 then ((S.2.2.2.2.2.2 k.toNat c.toNat : Nat) : Int) else -1) else -1
theorem c_X9_candidates {d : Nat} {G : GT} {M : MT} {o : Nat} {gv X C : Nat → Nat} {T : List GSt} {en : Nat} {nd : List Nat} {S : SrS} (hG : RefG G o) (hS : RefSt M o gv X C T en nd S) (hO : AbOk X C T en S) {c w : Int} (hc : R32 c) (hw : R32 w) : Mq (d + 1) k_X9_candidates [vR o, vI c, vI w] G M (fun z M' => z = some (vI (aCand gv X C c w)) ∧ M' = M) := by
  obtain ⟨s1, s2, s3, s4, s5, s6, s7, s8⟩ := id hS
  obtain ⟨t22, t23, t24, t25, tS⟩ := id s5
  obtain ⟨b1, b2, b3, b4, b5, b6⟩ := id hO
  have hlen := TrOk.len b1.2
  have hsc := scT_le T (fun s hs => (b1.2 s hs).1)
  have hlv := lvF_rng T (-1) (by decide) (by decide) (fun s hs => (b1.2 s hs).1)
  have hgt := b1.1
  refine wq_s 1 rfl ?_
  refine wq_s 2 rfl ?_
  refine wq_s 4 rfl ?_
  refine wq_st3 7 rfl rfl (by decide) (Nat.le_of_ble_eq_true rfl) rfl (Nat.le_of_ble_eq_true rfl) (c_X9_in (by omega) (by omega) (by omega)) (fun r M1 hr => ?_)
  obtain ⟨rfl, hM1⟩ := hr
  subst M1
  dsimp only [Option.toList, List.cons_append, List.nil_append]
  refine wq_if 19 rfl rfl iteR (fun c_7 => ?_) (fun c_7 => ?_)
  · have c_7 := of_decide_eq_true c_7
    have c_7 := ite0.mp c_7
    refine wq_s 20 rfl ?_
    refine wq_s 56 rfl ?_
    exact wq_ret rfl ⟨congrArg (fun z => some (vI z)) (by unfold aCand; rw [if_neg c_7]), rfl⟩
  · have c_7 := of_decide_eq_false c_7
    have c_7 := ite1.mp c_7
    obtain ⟨n, e_n⟩ := Int.eq_ofNat_of_zero_le c_7.1
    subst e_n
    refine wq_s 11 rfl ?_
    refine wq_s 12 rfl ?_
    refine wq_s 13 rfl ?_
    refine wq_st3 16 rfl rfl (by decide) (Nat.le_of_ble_eq_true rfl) rfl (Nat.le_of_ble_eq_true rfl) (c_X9_in (by omega) (by omega) (by omega)) (fun r M1 hr => ?_)
    obtain ⟨rfl, hM1⟩ := hr
    subst M1
    dsimp only [Option.toList, List.cons_append, List.nil_append]
    refine wq_if 23 rfl rfl iteR (fun c_16 => ?_) (fun c_16 => ?_)
    · have c_16 := of_decide_eq_true c_16
      have c_16 := ite1.mp c_16
      refine wq_s 24 rfl ?_
      refine wq_if 36 rfl rfl (by omega) (fun c_24 => ?_) (fun c_24 => ?_)
      · have c_24 := of_decide_eq_true c_24
        refine wq_s 37 rfl ?_
        refine wq_s 38 rfl ?_
        refine wq_icmp 50 rfl rfl (by omega) (by omega) (fun c_38 => ?_) (fun c_38 => ?_)
        · have c_38 := of_decide_eq_true c_38
          refine wq_s 51 rfl ?_
          refine wq_getR 54 rfl rfl hG.ob hG.2.2.1 rfl ?_
          refine wq_s 55 rfl ?_
          refine wq_iald (v := ((fstF gv n : Nat) : Int)) 56 rfl rfl hG.a_first.1.2 hG.a_first.2 (by omega) (by omega) (by omega) (s2 n (by omega)).1 ?_
          exact wq_ret rfl ⟨congrArg (fun z => some (vI z)) (by unfold aCand; rw [if_pos (by omega), if_pos c_16, Int.toNat_natCast]; rw [if_neg (by omega), if_neg (by omega)]), rfl⟩
        · have c_38 := of_decide_eq_false c_38
          refine wq_s 42 rfl ?_
          refine wq_getR 45 rfl rfl hG.ob hG.2.2.1 rfl ?_
          refine wq_s 46 rfl ?_
          refine wq_iald (v := ((C n : Nat) : Int)) 47 rfl rfl hG.a_checker.1.2 hG.a_checker.2 (by omega) (by omega) (by omega) (s4 n (by omega)).1 ?_
          refine wq_s 56 rfl ?_
          exact wq_ret rfl ⟨congrArg (fun z => some (vI z)) (by unfold aCand; rw [if_pos (by omega), if_pos c_16, Int.toNat_natCast]; rw [if_neg (by omega), if_pos (by omega)]), rfl⟩
      · have c_24 := of_decide_eq_false c_24
        refine wq_s 28 rfl ?_
        refine wq_getR 31 rfl rfl hG.ob hG.2.2.1 rfl ?_
        refine wq_s 32 rfl ?_
        refine wq_iald (v := ((X n : Nat) : Int)) 33 rfl rfl hG.a_now.1.2 hG.a_now.2 (by omega) (by omega) (by omega) (s3 n (by omega)).1 ?_
        refine wq_s 56 rfl ?_
        exact wq_ret rfl ⟨congrArg (fun z => some (vI z)) (by unfold aCand; rw [if_pos (by omega), if_pos c_16, Int.toNat_natCast]; rw [if_pos (by omega)]), rfl⟩
    · have c_16 := of_decide_eq_false c_16
      have c_16 := iteN.mp c_16
      refine wq_s 20 rfl ?_
      refine wq_s 56 rfl ?_
      exact wq_ret rfl ⟨congrArg (fun z => some (vI z)) (by unfold aCand; rw [if_pos c_7, if_neg c_16]), rfl⟩
theorem c_X9_told {d : Nat} {G : GT} {M : MT} {o : Nat} {gv X C : Nat → Nat} {T : List GSt} {en : Nat} {nd : List Nat} {S : SrS} (hG : RefG G o) (hS : RefSt M o gv X C T en nd S) (hO : AbOk X C T en S) {w : Int} (hw : R32 w) : Mq (d + 1) k_X9_told [vR o, vI w] G M (fun z M' => z = some (vI (aTold T en w)) ∧ M' = M) := by
  obtain ⟨s1, s2, s3, s4, s5, s6, s7, s8⟩ := id hS
  obtain ⟨t22, t23, t24, t25, tS⟩ := id s5
  obtain ⟨b1, b2, b3, b4, b5, b6⟩ := id hO
  have hlen := TrOk.len b1.2
  have hsc := scT_le T (fun s hs => (b1.2 s hs).1)
  have hlv := lvF_rng T (-1) (by decide) (by decide) (fun s hs => (b1.2 s hs).1)
  have hgt := b1.1
  by_cases hd : w < 0 ∨ 4 < w
  · refine wq_s 1 rfl ?_
    refine wq_tsw 69 68 rfl (by omega) (if_pos (by omega)) rfl ?_
    refine wq_s 70 rfl ?_
    exact wq_ret rfl ⟨congrArg (fun z => some (vI z)) (by unfold aTold; rw [if_neg (by omega), if_neg (by omega), if_neg (by omega), if_neg (by omega), if_neg (by omega)]), rfl⟩
  rcases (show w = 0 ∨ w = 1 ∨ w = 2 ∨ w = 3 ∨ w = 4 by omega) with rfl | rfl | rfl | rfl | rfl
  · refine wq_s 1 rfl ?_
    refine wq_tsw 36 35 rfl (by decide) rfl rfl ?_
    refine wq_s 37 rfl ?_
    refine wq_getE (v := ((T.length : Nat) : Int)) 22 40 rfl rfl hG.ob hG.2.2.1 rfl rfl t22 ?_
    exact wq_ret rfl ⟨rfl, rfl⟩
  · refine wq_s 1 rfl ?_
    refine wq_tsw 41 40 rfl (by decide) rfl rfl ?_
    refine wq_s 42 rfl ?_
    refine wq_getE (v := ((scT T : Nat) : Int)) 24 45 rfl rfl hG.ob hG.2.2.1 rfl rfl t24 ?_
    exact wq_ret rfl ⟨rfl, rfl⟩
  · refine wq_s 1 rfl ?_
    refine wq_tsw 46 45 rfl (by decide) rfl rfl ?_
    refine wq_s 47 rfl ?_
    refine wq_getE (v := lvF (-1) T) 25 50 rfl rfl hG.ob hG.2.2.1 rfl rfl t25 ?_
    exact wq_ret rfl ⟨rfl, rfl⟩
  · refine wq_s 1 rfl ?_
    refine wq_tsw 51 50 rfl (by decide) rfl rfl ?_
    refine wq_s 52 rfl ?_
    refine wq_getE (v := ((gTot T : Nat) : Int)) 23 55 rfl rfl hG.ob hG.2.2.1 rfl rfl t23 ?_
    exact wq_ret rfl ⟨rfl, rfl⟩
  · refine wq_s 1 rfl ?_
    refine wq_tsw 56 55 rfl (by decide) rfl rfl ?_
    refine wq_s 57 rfl ?_
    refine wq_getE (v := ((en : Nat) : Int)) 26 60 rfl rfl hG.ob hG.2.2.1 rfl rfl s6 ?_
    refine wq_if 67 rfl rfl (by omega) (fun c_60 => ?_) (fun c_60 => ?_)
    · have c_60 := of_decide_eq_true c_60
      refine wq_s 68 rfl ?_
      exact wq_ret rfl ⟨congrArg (fun z => some (vI z)) (show _ = (en : Int) by omega), rfl⟩
    · have c_60 := of_decide_eq_false c_60
      refine wq_s 64 rfl ?_
      refine wq_s 68 rfl ?_
      exact wq_ret rfl ⟨congrArg (fun z => some (vI z)) (show _ = (en : Int) by omega), rfl⟩
theorem c_X9_step {d : Nat} {G : GT} {M : MT} {o : Nat} {gv X C : Nat → Nat} {T : List GSt} {en : Nat} {nd : List Nat} {S : SrS} (hG : RefG G o) (hS : RefSt M o gv X C T en nd S) (hO : AbOk X C T en S) {i w : Int} (hi : R32 i) (hw : R32 w) : Mq (d + 1) k_X9_step [vR o, vI i, vI w] G M (fun z M' => z = some (vI (aStep T i w)) ∧ M' = M) := by
  obtain ⟨s1, s2, s3, s4, s5, s6, s7, s8⟩ := id hS
  obtain ⟨t22, t23, t24, t25, tS⟩ := id s5
  obtain ⟨b1, b2, b3, b4, b5, b6⟩ := id hO
  have hlen := TrOk.len b1.2
  have hsc := scT_le T (fun s hs => (b1.2 s hs).1)
  have hlv := lvF_rng T (-1) (by decide) (by decide) (fun s hs => (b1.2 s hs).1)
  have hgt := b1.1
  refine wq_s 1 rfl ?_
  refine wq_s 2 rfl ?_
  refine wq_s 3 rfl ?_
  refine wq_getE (v := ((T.length : Nat) : Int)) 22 6 rfl rfl hG.ob hG.2.2.1 rfl rfl t22 ?_
  refine wq_s 7 rfl ?_
  refine we_sub (((T.length : Nat) : Int) - 1) 8 rfl rfl (by omega) (by omega) ?_
  refine wq_st3 11 rfl rfl (by decide) (Nat.le_of_ble_eq_true rfl) rfl (Nat.le_of_ble_eq_true rfl) (c_X9_in (by omega) (by omega) (by omega)) (fun r M1 hr => ?_)
  obtain ⟨rfl, hM1⟩ := hr
  subst M1
  dsimp only [Option.toList, List.cons_append, List.nil_append]
  refine wq_if 16 rfl rfl iteR (fun c_11 => ?_) (fun c_11 => ?_)
  · have c_11 := of_decide_eq_true c_11
    have c_11 := ite1.mp c_11
    obtain ⟨n, e_n⟩ := Int.eq_ofNat_of_zero_le c_11.1
    subst e_n
    refine wq_s 17 rfl ?_
    by_cases hd : w < 0 ∨ 4 < w
    · refine wq_tsw 87 70 rfl (by omega) (if_pos (by omega)) rfl ?_
      refine wq_s 88 rfl ?_
      exact wq_ret rfl ⟨congrArg (fun z => some (vI z)) (by unfold aStep; rw [if_pos (by omega), if_neg (by omega), if_neg (by omega), if_neg (by omega), if_neg (by omega), if_neg (by omega)]), rfl⟩
    rcases (show w = 0 ∨ w = 1 ∨ w = 2 ∨ w = 3 ∨ w = 4 by omega) with rfl | rfl | rfl | rfl | rfl
    · refine wq_tsw 52 35 rfl (by decide) rfl rfl ?_
      refine wq_s 53 rfl ?_
      refine wq_getR 56 rfl rfl hG.ob hG.2.2.1 rfl ?_
      refine wq_s 57 rfl ?_
      refine wq_iald (v := (((T.getD n dfS).1 : Nat) : Int)) 58 rfl rfl hG.a_sRule.1.2 hG.a_sRule.2 (by omega) (by omega) (by omega) (tS n (by omega)).1 ?_
      exact wq_ret rfl ⟨congrArg (fun z => some (vI z)) (by unfold aStep; rw [if_pos (by omega), Int.toNat_natCast]; rfl), rfl⟩
    · refine wq_tsw 59 42 rfl (by decide) rfl rfl ?_
      refine wq_s 60 rfl ?_
      refine wq_getR 63 rfl rfl hG.ob hG.2.2.1 rfl ?_
      refine wq_s 64 rfl ?_
      refine wq_iald (v := (((T.getD n dfS).2.1 : Nat) : Int)) 65 rfl rfl hG.a_sP.1.2 hG.a_sP.2 (by omega) (by omega) (by omega) (tS n (by omega)).2.1 ?_
      exact wq_ret rfl ⟨congrArg (fun z => some (vI z)) (by unfold aStep; rw [if_pos (by omega), Int.toNat_natCast]; rfl), rfl⟩
    · refine wq_tsw 66 49 rfl (by decide) rfl rfl ?_
      refine wq_s 67 rfl ?_
      refine wq_getR 70 rfl rfl hG.ob hG.2.2.1 rfl ?_
      refine wq_s 71 rfl ?_
      refine wq_iald (v := (((T.getD n dfS).2.2.1 : Nat) : Int)) 72 rfl rfl hG.a_sQ.1.2 hG.a_sQ.2 (by omega) (by omega) (by omega) (tS n (by omega)).2.2.1 ?_
      exact wq_ret rfl ⟨congrArg (fun z => some (vI z)) (by unfold aStep; rw [if_pos (by omega), Int.toNat_natCast]; rfl), rfl⟩
    · refine wq_tsw 73 56 rfl (by decide) rfl rfl ?_
      refine wq_s 74 rfl ?_
      refine wq_getR 77 rfl rfl hG.ob hG.2.2.1 rfl ?_
      refine wq_s 78 rfl ?_
      refine wq_iald (v := (((T.getD n dfS).2.2.2.1.length : Nat) : Int)) 79 rfl rfl hG.a_sGone.1.2 hG.a_sGone.2 (by omega) (by omega) (by omega) (tS n (by omega)).2.2.2.1 ?_
      exact wq_ret rfl ⟨congrArg (fun z => some (vI z)) (by unfold aStep; rw [if_pos (by omega), Int.toNat_natCast]; rfl), rfl⟩
    · refine wq_tsw 80 63 rfl (by decide) rfl rfl ?_
      refine wq_s 81 rfl ?_
      refine wq_getR 84 rfl rfl hG.ob hG.2.2.1 rfl ?_
      refine wq_s 85 rfl ?_
      refine wq_iald (v := (((T.getD n dfS).2.2.2.2.length : Nat) : Int)) 86 rfl rfl hG.a_sLinks.1.2 hG.a_sLinks.2 (by omega) (by omega) (by omega) (tS n (by omega)).2.2.2.2.2.1 ?_
      exact wq_ret rfl ⟨congrArg (fun z => some (vI z)) (by unfold aStep; rw [if_pos (by omega), Int.toNat_natCast]; rfl), rfl⟩
  · have c_11 := of_decide_eq_false c_11
    have c_11 := iteN.mp c_11
    refine wq_s 15 rfl ?_
    exact wq_ret rfl ⟨congrArg (fun z => some (vI z)) (by unfold aStep; rw [if_neg c_11]), rfl⟩
theorem c_X9_gone {d : Nat} {G : GT} {M : MT} {o : Nat} {gv X C : Nat → Nat} {T : List GSt} {en : Nat} {nd : List Nat} {S : SrS} (hG : RefG G o) (hS : RefSt M o gv X C T en nd S) (hO : AbOk X C T en S) {i k : Int} (hi : R32 i) (hk : R32 k) : Mq (d + 1) k_X9_gone [vR o, vI i, vI k] G M (fun z M' => z = some (vI (aGone T i k)) ∧ M' = M) := by
  obtain ⟨s1, s2, s3, s4, s5, s6, s7, s8⟩ := id hS
  obtain ⟨t22, t23, t24, t25, tS⟩ := id s5
  obtain ⟨b1, b2, b3, b4, b5, b6⟩ := id hO
  have hlen := TrOk.len b1.2
  have hsc := scT_le T (fun s hs => (b1.2 s hs).1)
  have hlv := lvF_rng T (-1) (by decide) (by decide) (fun s hs => (b1.2 s hs).1)
  have hgt := b1.1
  refine wq_s 1 rfl ?_
  refine wq_s 2 rfl ?_
  refine wq_s 3 rfl ?_
  refine wq_getE (v := ((T.length : Nat) : Int)) 22 6 rfl rfl hG.ob hG.2.2.1 rfl rfl t22 ?_
  refine wq_s 7 rfl ?_
  refine we_sub (((T.length : Nat) : Int) - 1) 8 rfl rfl (by omega) (by omega) ?_
  refine wq_st3 11 rfl rfl (by decide) (Nat.le_of_ble_eq_true rfl) rfl (Nat.le_of_ble_eq_true rfl) (c_X9_in (by omega) (by omega) (by omega)) (fun r M1 hr => ?_)
  obtain ⟨rfl, hM1⟩ := hr
  subst M1
  dsimp only [Option.toList, List.cons_append, List.nil_append]
  refine wq_if 46 rfl rfl iteR (fun c_11 => ?_) (fun c_11 => ?_)
  · have c_11 := of_decide_eq_true c_11
    have c_11 := ite0.mp c_11
    refine wq_s 47 rfl ?_
    exact wq_ret rfl ⟨congrArg (fun z => some (vI z)) (by unfold aGone; rw [if_neg c_11]), rfl⟩
  · have c_11 := of_decide_eq_false c_11
    have c_11 := ite1.mp c_11
    obtain ⟨n, e_n⟩ := Int.eq_ofNat_of_zero_le c_11.1
    subst e_n
    have hgt2 := gTot_at T n (by omega)
    have hso := b1.2 _ (smem n (by omega))
    have hso1 := hso.2.2.2.2.1
    refine wq_s 15 rfl ?_
    refine wq_s 16 rfl ?_
    refine wq_s 17 rfl ?_
    refine wq_getR 20 rfl rfl hG.ob hG.2.2.1 rfl ?_
    refine wq_s 21 rfl ?_
    refine wq_iald (v := (((T.getD n dfS).2.2.2.1.length : Nat) : Int)) 22 rfl rfl hG.a_sGone.1.2 hG.a_sGone.2 (by omega) (by omega) (by omega) (tS n (by omega)).2.2.2.1 ?_
    refine wq_s 23 rfl ?_
    refine we_sub ((((T.getD n dfS).2.2.2.1.length : Nat) : Int) - 1) 24 rfl rfl (by omega) (by omega) ?_
    refine wq_st3 27 rfl rfl (by decide) (Nat.le_of_ble_eq_true rfl) rfl (Nat.le_of_ble_eq_true rfl) (c_X9_in (by omega) (by omega) (by omega)) (fun r M1 hr => ?_)
    obtain ⟨rfl, hM1⟩ := hr
    subst M1
    dsimp only [Option.toList, List.cons_append, List.nil_append]
    refine wq_if 46 rfl rfl iteR (fun c_27 => ?_) (fun c_27 => ?_)
    · have c_27 := of_decide_eq_true c_27
      have c_27 := ite0.mp c_27
      refine wq_s 47 rfl ?_
      exact wq_ret rfl ⟨congrArg (fun z => some (vI z)) (by unfold aGone; rw [if_pos (by omega), Int.toNat_natCast, if_neg c_27]), rfl⟩
    · have c_27 := of_decide_eq_false c_27
      have c_27 := ite1.mp c_27
      obtain ⟨j, e_j⟩ := Int.eq_ofNat_of_zero_le c_27.1
      subst e_j
      refine wq_s 31 rfl ?_
      refine wq_getR 34 rfl rfl hG.ob hG.2.2.1 rfl ?_
      refine wq_s 35 rfl ?_
      refine wq_getR 38 rfl rfl hG.ob hG.2.2.1 rfl ?_
      refine wq_s 39 rfl ?_
      refine wq_iald (v := ((gTot (T.take n) : Nat) : Int)) 40 rfl rfl hG.a_sFrom.1.2 hG.a_sFrom.2 (by omega) (by omega) (by omega) (tS n (by omega)).2.2.2.2.1 ?_
      refine wq_s 41 rfl ?_
      refine we_add (((gTot (T.take n)) + j : Nat) : Int) 42 rfl rfl (by omega) (by omega) ?_
      refine wq_iald (v := (((T.getD n dfS).2.2.2.1.getD j 0 : Nat) : Int)) 43 rfl rfl hG.a_went.1.2 hG.a_went.2 (by omega) (by omega) (by omega) ((tS n (by omega)).2.2.2.2.2.2.1 j (by omega)) ?_
      refine wq_s 47 rfl ?_
      exact wq_ret rfl ⟨congrArg (fun z => some (vI z)) (by unfold aGone; rw [if_pos (by omega), Int.toNat_natCast, if_pos (by omega), Int.toNat_natCast]), rfl⟩
theorem c_X9_link_ {d : Nat} {G : GT} {M : MT} {o : Nat} {gv X C : Nat → Nat} {T : List GSt} {en : Nat} {nd : List Nat} {S : SrS} (hG : RefG G o) (hS : RefSt M o gv X C T en nd S) (hO : AbOk X C T en S) {i k : Int} (hi : R32 i) (hk : R32 k) : Mq (d + 1) k_X9_link_ [vR o, vI i, vI k] G M (fun z M' => z = some (vI (aLink T i k)) ∧ M' = M) := by
  obtain ⟨s1, s2, s3, s4, s5, s6, s7, s8⟩ := id hS
  obtain ⟨t22, t23, t24, t25, tS⟩ := id s5
  obtain ⟨b1, b2, b3, b4, b5, b6⟩ := id hO
  have hlen := TrOk.len b1.2
  have hsc := scT_le T (fun s hs => (b1.2 s hs).1)
  have hlv := lvF_rng T (-1) (by decide) (by decide) (fun s hs => (b1.2 s hs).1)
  have hgt := b1.1
  refine wq_s 1 rfl ?_
  refine wq_s 2 rfl ?_
  refine wq_s 3 rfl ?_
  refine wq_getE (v := ((T.length : Nat) : Int)) 22 6 rfl rfl hG.ob hG.2.2.1 rfl rfl t22 ?_
  refine wq_s 7 rfl ?_
  refine we_sub (((T.length : Nat) : Int) - 1) 8 rfl rfl (by omega) (by omega) ?_
  refine wq_st3 11 rfl rfl (by decide) (Nat.le_of_ble_eq_true rfl) rfl (Nat.le_of_ble_eq_true rfl) (c_X9_in (by omega) (by omega) (by omega)) (fun r M1 hr => ?_)
  obtain ⟨rfl, hM1⟩ := hr
  subst M1
  dsimp only [Option.toList, List.cons_append, List.nil_append]
  refine wq_if 44 rfl rfl iteR (fun c_11 => ?_) (fun c_11 => ?_)
  · have c_11 := of_decide_eq_true c_11
    have c_11 := ite0.mp c_11
    refine wq_s 45 rfl ?_
    exact wq_ret rfl ⟨congrArg (fun z => some (vI z)) (by unfold aLink; rw [if_neg c_11]), rfl⟩
  · have c_11 := of_decide_eq_false c_11
    have c_11 := ite1.mp c_11
    obtain ⟨n, e_n⟩ := Int.eq_ofNat_of_zero_le c_11.1
    subst e_n
    have hgt2 := gTot_at T n (by omega)
    have hso := b1.2 _ (smem n (by omega))
    have hso1 := hso.2.2.2.2.1
    refine wq_s 15 rfl ?_
    refine wq_s 16 rfl ?_
    refine wq_s 17 rfl ?_
    refine wq_getR 20 rfl rfl hG.ob hG.2.2.1 rfl ?_
    refine wq_s 21 rfl ?_
    refine wq_iald (v := (((T.getD n dfS).2.2.2.2.length : Nat) : Int)) 22 rfl rfl hG.a_sLinks.1.2 hG.a_sLinks.2 (by omega) (by omega) (by omega) (tS n (by omega)).2.2.2.2.2.1 ?_
    refine wq_s 23 rfl ?_
    refine we_sub ((((T.getD n dfS).2.2.2.2.length : Nat) : Int) - 1) 24 rfl rfl (by omega) (by omega) ?_
    refine wq_st3 27 rfl rfl (by decide) (Nat.le_of_ble_eq_true rfl) rfl (Nat.le_of_ble_eq_true rfl) (c_X9_in (by omega) (by omega) (by omega)) (fun r M1 hr => ?_)
    obtain ⟨rfl, hM1⟩ := hr
    subst M1
    dsimp only [Option.toList, List.cons_append, List.nil_append]
    refine wq_if 44 rfl rfl iteR (fun c_27 => ?_) (fun c_27 => ?_)
    · have c_27 := of_decide_eq_true c_27
      have c_27 := ite0.mp c_27
      refine wq_s 45 rfl ?_
      exact wq_ret rfl ⟨congrArg (fun z => some (vI z)) (by unfold aLink; rw [if_pos (by omega), Int.toNat_natCast, if_neg c_27]), rfl⟩
    · have c_27 := of_decide_eq_false c_27
      have c_27 := ite1.mp c_27
      obtain ⟨j, e_j⟩ := Int.eq_ofNat_of_zero_le c_27.1
      subst e_j
      refine wq_s 31 rfl ?_
      refine wq_getR 34 rfl rfl hG.ob hG.2.2.1 rfl ?_
      refine wq_s 36 rfl ?_
      refine wq_s 37 rfl ?_
      refine we_mul ((24 * n : Nat) : Int) 38 rfl rfl (by omega) (by omega) ?_
      refine wq_s 39 rfl ?_
      refine we_add (((24 * n) + j : Nat) : Int) 40 rfl rfl (by omega) (by omega) ?_
      refine wq_iald (v := (((T.getD n dfS).2.2.2.2.getD j 0 : Nat) : Int)) 41 rfl rfl hG.a_links.1.2 hG.a_links.2 (by omega) (by omega) (by omega) ((tS n (by omega)).2.2.2.2.2.2.2 j (by omega)) ?_
      refine wq_s 45 rfl ?_
      exact wq_ret rfl ⟨congrArg (fun z => some (vI z)) (by unfold aLink; rw [if_pos (by omega), Int.toNat_natCast, if_pos (by omega), Int.toNat_natCast]), rfl⟩
theorem c_X9_searched {d : Nat} {G : GT} {M : MT} {o : Nat} {gv X C : Nat → Nat} {T : List GSt} {en : Nat} {nd : List Nat} {S : SrS} (hG : RefG G o) (hS : RefSt M o gv X C T en nd S) (hO : AbOk X C T en S) {w : Int} (hw : R32 w) : Mq (d + 1) k_X9_searched [vR o, vI w] G M (fun z M' => z = some (vI (aSearched S w)) ∧ M' = M) := by
  obtain ⟨s1, s2, s3, s4, s5, s6, s7, s8⟩ := id hS
  obtain ⟨t22, t23, t24, t25, tS⟩ := id s5
  obtain ⟨b1, b2, b3, b4, b5, b6⟩ := id hO
  have hlen := TrOk.len b1.2
  have hsc := scT_le T (fun s hs => (b1.2 s hs).1)
  have hlv := lvF_rng T (-1) (by decide) (by decide) (fun s hs => (b1.2 s hs).1)
  have hgt := b1.1
  obtain ⟨u1, u2, u3, u4, u5, u6⟩ := id b6
  by_cases hd : w < 0 ∨ 2 < w
  · refine wq_s 1 rfl ?_
    refine wq_tsw 71 70 rfl (by omega) (if_pos (by omega)) rfl ?_
    refine wq_s 72 rfl ?_
    exact wq_ret rfl ⟨congrArg (fun z => some (vI z)) (by unfold aSearched; rw [if_neg (by omega), if_neg (by omega), if_neg (by omega)]), rfl⟩
  rcases (show w = 0 ∨ w = 1 ∨ w = 2 by omega) with rfl | rfl | rfl
  · refine wq_s 1 rfl ?_
    refine wq_tsw 28 27 rfl (by decide) rfl rfl ?_
    refine wq_s 29 rfl ?_
    refine wq_getE (v := ((S.2.1 : Nat) : Int)) 41 32 rfl rfl hG.ob hG.2.2.1 rfl rfl s8.2.1 ?_
    refine wq_if 39 rfl rfl (by omega) (fun c_32 => ?_) (fun c_32 => ?_)
    · have c_32 := of_decide_eq_true c_32
      refine wq_s 40 rfl ?_
      exact wq_ret rfl ⟨congrArg (fun z => some (vI z)) (show _ = (S.2.1 : Int) by omega), rfl⟩
    · have c_32 := of_decide_eq_false c_32
      refine wq_s 36 rfl ?_
      refine wq_s 40 rfl ?_
      exact wq_ret rfl ⟨congrArg (fun z => some (vI z)) (show _ = (S.2.1 : Int) by omega), rfl⟩
  · refine wq_s 1 rfl ?_
    refine wq_tsw 41 40 rfl (by decide) rfl rfl ?_
    refine wq_s 42 rfl ?_
    refine wq_getE (v := ((S.2.2.1 : Nat) : Int)) 38 45 rfl rfl hG.ob hG.2.2.1 rfl rfl s8.2.2.1 ?_
    exact wq_ret rfl ⟨rfl, rfl⟩
  · refine wq_s 1 rfl ?_
    refine wq_tsw 46 45 rfl (by decide) rfl rfl ?_
    refine wq_s 47 rfl ?_
    refine wq_getE (v := ((S.2.1 : Nat) : Int)) 41 50 rfl rfl hG.ob hG.2.2.1 rfl rfl s8.2.1 ?_
    refine wq_if 57 rfl rfl (by omega) (fun c_50 => ?_) (fun c_50 => ?_)
    · have c_50 := of_decide_eq_true c_50
      refine wq_s 58 rfl ?_
      refine wq_getE (v := ((S.2.2.2.2.1 : Nat) : Int)) 37 61 rfl rfl hG.ob hG.2.2.1 rfl rfl s8.2.2.2.2.1 ?_
      refine wq_s 62 rfl ?_
      refine wq_icmp 69 rfl rfl (by omega) (by omega) (fun c_62 => ?_) (fun c_62 => ?_)
      · have c_62 := of_decide_eq_true c_62
        refine wq_s 70 rfl ?_
        exact wq_ret rfl ⟨congrArg (fun z => some (vI z)) (by show _ = (if S.2.1 = 0 then (-1 : Int) else if S.2.2.2.2.1 = 1 then 1 else 0); rw [if_neg (by omega), if_neg (by omega)]), rfl⟩
      · have c_62 := of_decide_eq_false c_62
        refine wq_s 66 rfl ?_
        refine wq_s 70 rfl ?_
        exact wq_ret rfl ⟨congrArg (fun z => some (vI z)) (by show _ = (if S.2.1 = 0 then (-1 : Int) else if S.2.2.2.2.1 = 1 then 1 else 0); rw [if_neg (by omega), if_pos (by omega)]), rfl⟩
    · have c_50 := of_decide_eq_false c_50
      refine wq_s 54 rfl ?_
      refine wq_s 70 rfl ?_
      exact wq_ret rfl ⟨congrArg (fun z => some (vI z)) (by show _ = (if S.2.1 = 0 then (-1 : Int) else if S.2.2.2.2.1 = 1 then 1 else 0); rw [if_pos (by omega)]), rfl⟩
theorem c_X9_solution {d : Nat} {G : GT} {M : MT} {o : Nat} {gv X C : Nat → Nat} {T : List GSt} {en : Nat} {nd : List Nat} {S : SrS} (hG : RefG G o) (hS : RefSt M o gv X C T en nd S) (hO : AbOk X C T en S) {k c : Int} (hk : R32 k) (hc : R32 c) : Mq (d + 1) k_X9_solution [vR o, vI k, vI c] G M (fun z M' => z = some (vI (aSol S k c)) ∧ M' = M) := by
  obtain ⟨s1, s2, s3, s4, s5, s6, s7, s8⟩ := id hS
  obtain ⟨t22, t23, t24, t25, tS⟩ := id s5
  obtain ⟨b1, b2, b3, b4, b5, b6⟩ := id hO
  have hlen := TrOk.len b1.2
  have hsc := scT_le T (fun s hs => (b1.2 s hs).1)
  have hlv := lvF_rng T (-1) (by decide) (by decide) (fun s hs => (b1.2 s hs).1)
  have hgt := b1.1
  obtain ⟨u1, u2, u3, u4, u5, u6⟩ := id b6
  refine wq_s 1 rfl ?_
  refine wq_s 2 rfl ?_
  refine wq_s 3 rfl ?_
  refine wq_getE (v := ((S.2.2.2.2.1 : Nat) : Int)) 37 6 rfl rfl hG.ob hG.2.2.1 rfl rfl s8.2.2.2.2.1 ?_
  refine wq_s 7 rfl ?_
  refine we_sub (((S.2.2.2.2.1 : Nat) : Int) - 1) 8 rfl rfl (by omega) (by omega) ?_
  refine wq_st3 11 rfl rfl (by decide) (Nat.le_of_ble_eq_true rfl) rfl (Nat.le_of_ble_eq_true rfl) (c_X9_in (by omega) (by omega) (by omega)) (fun r M1 hr => ?_)
  obtain ⟨rfl, hM1⟩ := hr
  subst M1
  dsimp only [Option.toList, List.cons_append, List.nil_append]
  refine wq_if 38 rfl rfl iteR (fun c_11 => ?_) (fun c_11 => ?_)
  · have c_11 := of_decide_eq_true c_11
    have c_11 := ite0.mp c_11
    refine wq_s 39 rfl ?_
    exact wq_ret rfl ⟨congrArg (fun z => some (vI z)) (by unfold aSol; rw [if_neg c_11]), rfl⟩
  · have c_11 := of_decide_eq_false c_11
    have c_11 := ite1.mp c_11
    obtain ⟨n, e_n⟩ := Int.eq_ofNat_of_zero_le c_11.1
    subst e_n
    refine wq_s 15 rfl ?_
    refine wq_s 16 rfl ?_
    refine wq_s 18 rfl ?_
    refine wq_st3 21 rfl rfl (by decide) (Nat.le_of_ble_eq_true rfl) rfl (Nat.le_of_ble_eq_true rfl) (c_X9_in (by omega) (by omega) (by omega)) (fun r M1 hr => ?_)
    obtain ⟨rfl, hM1⟩ := hr
    subst M1
    dsimp only [Option.toList, List.cons_append, List.nil_append]
    refine wq_if 38 rfl rfl iteR (fun c_21 => ?_) (fun c_21 => ?_)
    · have c_21 := of_decide_eq_true c_21
      have c_21 := ite0.mp c_21
      refine wq_s 39 rfl ?_
      exact wq_ret rfl ⟨congrArg (fun z => some (vI z)) (by unfold aSol; rw [if_pos (by omega), if_neg c_21]), rfl⟩
    · have c_21 := of_decide_eq_false c_21
      have c_21 := ite1.mp c_21
      obtain ⟨j, e_j⟩ := Int.eq_ofNat_of_zero_le c_21.1
      subst e_j
      refine wq_s 25 rfl ?_
      refine wq_getR 28 rfl rfl hG.ob hG.2.2.1 rfl ?_
      refine wq_s 30 rfl ?_
      refine wq_s 31 rfl ?_
      refine we_mul ((81 * n : Nat) : Int) 32 rfl rfl (by omega) (by omega) ?_
      refine wq_s 33 rfl ?_
      refine we_add (((81 * n) + j : Nat) : Int) 34 rfl rfl (by omega) (by omega) ?_
      refine wq_iald (v := ((S.2.2.2.2.2.2 n j : Nat) : Int)) 35 rfl rfl hG.a_solved.1.2 hG.a_solved.2 (by omega) (by omega) (by omega) (s8.2.2.2.2.2.2 n (by omega) j (by omega)) ?_
      refine wq_s 39 rfl ?_
      exact wq_ret rfl ⟨congrArg (fun z => some (vI z)) (by unfold aSol; rw [if_pos (by omega), if_pos (by omega), Int.toNat_natCast, Int.toNat_natCast]), rfl⟩
