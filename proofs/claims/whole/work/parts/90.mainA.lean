/-! the class as a whole: its state, and the calls that only answer -/
def goL : List GSt → List Nat
  | [] => []
  | s :: l => s.2.2.2.1 ++ goL l
theorem goL_app (l k : List GSt) : goL (l ++ k) = goL l ++ goL k := by
  induction l with
  | nil => rfl
  | cons s l ih =>
    show s.2.2.2.1 ++ goL (l ++ k) = (s.2.2.2.1 ++ goL l) ++ goL k
    rw [ih, List.append_assoc]
theorem goL_one (T : List GSt) (s : GSt) : goL (T ++ [s]) = goL T ++ s.2.2.2.1 := by
  rw [goL_app]
  show goL T ++ (s.2.2.2.1 ++ []) = _
  rw [List.append_nil]
theorem goL_len (T : List GSt) : (goL T).length = gTot T := by
  induction T with
  | nil => rfl
  | cons s l ih =>
    show (s.2.2.2.1 ++ goL l).length = s.2.2.2.1.length + gTot l
    rw [List.length_append, ih]
theorem goL_at (T : List GSt) : ∀ i k, i < T.length → k < (T.getD i dfS).2.2.2.1.length → (goL T).getD (gTot (T.take i) + k) 0 = (T.getD i dfS).2.2.2.1.getD k 0 := by
  induction T with
  | nil => intro i k h; exact absurd h (Nat.not_lt_zero _)
  | cons s l ih =>
    intro i k hi hk
    cases i with
    | zero =>
      have hk : k < s.2.2.2.1.length := hk
      show (s.2.2.2.1 ++ goL l).getD (0 + k) 0 = s.2.2.2.1.getD k 0
      rw [Nat.zero_add, gD_l hk]
    | succ i =>
      show (s.2.2.2.1 ++ goL l).getD (s.2.2.2.1.length + gTot (l.take i) + k) 0 = (l.getD i dfS).2.2.2.1.getD k 0
      rw [gD_r (by omega), show s.2.2.2.1.length + gTot (l.take i) + k - s.2.2.2.1.length = gTot (l.take i) + k by omega]
      exact ih i k (Nat.lt_of_succ_lt_succ hi) hk
def CNd (M : MT) (nd : List Nat) : Prop := M 4 9 = (nd.length : Int) ∧ nd.length ≤ 24 ∧ ∀ k, k < nd.length → M 55 (k : Int) = ((nd.getD k 0 : Nat) : Int) ∧ nd.getD k 0 < 729
/-- the state of the class beside the reference's -/
def ClsSt (M : MT) (gv X C : Nat → Nat) (T : List GSt) (en : Nat) (nd : List Nat) (S : SrS) (t : Nat) : Prop := (ShpAt M ∧ TbAt M) ∧ GvAt M 10 gv ∧ BdAt M 11 X (goL T) ∧ (∃ lc, BdAt M 15 C lc ∧ lc.length + cntX C ≤ 729) ∧ GoAt M (fun _ => 0) ∧ ChsAt M t ∧ ClsTr M T ∧ M 4 10 = (en : Int) ∧ CNd M nd ∧ ClsSr M gv S
abbrev FrK (M M' : MT) : Prop := ∀ a, (a < 4 ∨ 55 < a) → M' a = M a
theorem ChsAt.fr {M M' : MT} {t : Nat} (h : ChsAt M t) (h0 : M' 24 14 = M 24 14) (h1 : M' 28 = M 28) (h2 : M' 29 = M 29) (h3 : M' 30 = M 30) : ChsAt M' t := by
  unfold ChsAt
  rw [h0, h1, h2, h3]
  exact h
theorem CNd.fr {M M' : MT} {nd : List Nat} (h : CNd M nd) (h0 : M' 4 9 = M 4 9) (h1 : M' 55 = M 55) : CNd M' nd := by
  unfold CNd
  rw [h0, h1]
  exact h
theorem ClsSr.fr {M M' : MT} {gv : Nat → Nat} {S : SrS} (h : ClsSr M gv S) (h1 : ∀ a, 45 ≤ a → a ≤ 54 → M' a = M a) : ClsSr M' gv S := by
  obtain ⟨⟨a1, a2, a3, a4, a5⟩, b, ⟨Xo, c⟩, e⟩ := h
  refine ⟨?_, b.fr (h1 _ (by decide) (by decide)), ⟨Xo, c.fr (h1 _ (by decide) (by decide))⟩, fun z => ?_⟩
  · unfold NmAt
    rw [h1 45 (by decide) (by decide)]
    exact ⟨a1, a2, a3, a4, a5⟩
  · obtain ⟨lg, e1, e2, e3⟩ := e z
    exact ⟨lg, e1.fr (fun a g1 g2 => h1 a (by omega) (by omega)), e2, e3.fr (h1 _ (by decide) (by decide)) (h1 _ (by decide) (by decide)) (h1 _ (by decide) (by decide))⟩
theorem ClsSt.fr {M M' : MT} {gv X C : Nat → Nat} {T : List GSt} {en : Nat} {nd : List Nat} {S : SrS} {t : Nat} (h : ClsSt M gv X C T en nd S t) (h1 : ∀ a, 1 ≤ a → a ≤ 55 → M' a = M a) : ClsSt M' gv X C T en nd S t := by
  obtain ⟨⟨a1, a2⟩, a3, a4, ⟨lc, a5, a6⟩, a7, a8, a9, b1, b2, b3⟩ := h
  refine ⟨⟨a1.fr (h1 _ (by decide) (by decide)) (h1 _ (by decide) (by decide)) (h1 _ (by decide) (by decide)) (h1 _ (by decide) (by decide)), a2.fr (h1 _ (by decide) (by decide)) (h1 _ (by decide) (by decide)) (h1 _ (by decide) (by decide))⟩, a3.fr (h1 _ (by decide) (by decide)), a4.fr (fun a g1 g2 => h1 a (by omega) (by omega)), ⟨lc, a5.fr (fun a g1 g2 => h1 a (by omega) (by omega)), a6⟩, a7.fr (h1 _ (by decide) (by decide)) (h1 _ (by decide) (by decide)), a8.fr (by rw [h1 24 (by decide) (by decide)]) (h1 _ (by decide) (by decide)) (h1 _ (by decide) (by decide)) (h1 _ (by decide) (by decide)), a9.fr (fun a g1 g2 => h1 a (by omega) (by omega)), by rw [h1 4 (by decide) (by decide)]; exact b1, b2.fr (by rw [h1 4 (by decide) (by decide)]) (h1 _ (by decide) (by decide)), b3.fr (fun a g1 g2 => h1 a (by omega) (by omega))⟩
theorem hb11 : IsBd 11 := Or.inl rfl
theorem hb15 : IsBd 15 := Or.inr (Or.inl rfl)
theorem c_X8_candidates {d : Nat} {G : GT} {M : MT} {gv X C : Nat → Nat} {T : List GSt} {en : Nat} {nd : List Nat} {S : SrS} {t : Nat} (hC : ClsG G) (hS : ClsSt M gv X C T en nd S t) (hO : AbOk X C T en S) {c w : Int} (hc : R32 c) (hw : R32 w) : Mq (d + 1) k_X8_candidates [vR 4, vI c, vI w] G M (fun z M' => z = some (vI (aCand gv X C c w)) ∧ M' = M) := by
  obtain ⟨⟨s1, s2⟩, s3, s4, ⟨lc, s5, s6⟩, s7, s8, s9, s10, s11, s12⟩ := id hS
  obtain ⟨t9, t10, t11, t8, tS⟩ := id s9
  obtain ⟨b1, b2, b3, b4, b5, b6⟩ := id hO
  obtain ⟨⟨n9, n10, n11, n8, n12⟩, hAn, -, -⟩ := id s12
  have hlen := TrOk.len b1.2
  have hgt := b1.1
  refine wq_s 1 rfl ?_
  refine wq_st1 4 rfl rfl (by decide) (Nat.le_of_ble_eq_true rfl) rfl (Nat.le_of_ble_eq_true rfl) (c_isCell hc) (fun r M1 hr => ?_)
  rcases hr with ⟨rfl, b_1, hM1⟩ | ⟨rfl, b_1, hM1⟩
  · subst M1
    dsimp only [Option.toList, List.cons_append, List.nil_append]
    obtain ⟨n, e_n⟩ := Int.eq_ofNat_of_zero_le b_1.1
    subst e_n
    refine wq_s 9 rfl ?_
    refine wq_s 10 rfl ?_
    by_cases w_0 : w = 0
    · subst w_0
      refine wq_tsw 36 26 rfl (by decide) rfl rfl ?_
      refine wq_s 37 rfl ?_
      refine wq_getR 40 rfl rfl (hC.lt (by omega)) (hC.ty 0 _ rfl) rfl ?_
      refine wq_getR 43 rfl rfl (hC.lt (by omega)) (hC.ty 7 _ rfl) rfl ?_
      refine wq_s 44 rfl ?_
      refine wq_iald (v := ((X n : Nat) : Int)) 45 rfl rfl (hC.lt (by omega)).2 (hC.ty 8 _ rfl) (by omega) (by omega) (by omega) (s4.1.1 n (by omega)).1 ?_
      exact wq_ret rfl ⟨(by unfold aCand; rw [if_pos b_1]; rfl), rfl⟩
    · have w_0n := w_0
      by_cases w_1 : w = 1
      · subst w_1
        refine wq_tsw 46 36 rfl (by decide) rfl rfl ?_
        refine wq_s 47 rfl ?_
        refine wq_getR 50 rfl rfl (hC.lt (by omega)) (hC.ty 0 _ rfl) rfl ?_
        refine wq_getR 53 rfl rfl (hC.lt (by omega)) (hC.ty 11 _ rfl) rfl ?_
        refine wq_s 54 rfl ?_
        refine wq_iald (v := ((C n : Nat) : Int)) 55 rfl rfl (hC.lt (by omega)).2 (hC.ty 12 _ rfl) (by omega) (by omega) (by omega) (s5.1.1 n (by omega)).1 ?_
        exact wq_ret rfl ⟨(by unfold aCand; rw [if_pos b_1]; rfl), rfl⟩
      · have w_1n := w_1
        by_cases w_2 : w = 2
        · subst w_2
          refine wq_tsw 56 46 rfl (by decide) rfl rfl ?_
          refine wq_s 57 rfl ?_
          refine wq_getR 60 rfl rfl (hC.lt (by omega)) (hC.ty 0 _ rfl) rfl ?_
          refine wq_s 61 rfl ?_
          refine wq_iald (v := ((gv n : Nat) : Int)) 62 rfl rfl (hC.lt (by omega)).2 (hC.ty 6 _ rfl) (by omega) (by omega) (by omega) (s3 n (by omega)).1 ?_
          refine wq_st1 65 rfl rfl (by decide) (Nat.le_of_ble_eq_true rfl) rfl (Nat.le_of_ble_eq_true rfl) (c_atFirst (n := gv n) (s3 n (by omega)).2) (fun r M1 hr => ?_)
          obtain ⟨rfl, hM1⟩ := hr
          subst M1
          dsimp only [Option.toList, List.cons_append, List.nil_append]
          exact wq_ret rfl ⟨(by unfold aCand; rw [if_pos b_1]; show some (vI ((atF (gv n) : Nat) : Int)) = some (vI ((fstF gv n : Nat) : Int)); rw [atF_fst gv n (s3 n (by omega)).2]), rfl⟩
        · have w_2n := w_2
          refine wq_tsw 66 56 rfl (by omega) (if_pos (by omega)) rfl ?_
          refine wq_s 67 rfl ?_
          exact wq_ret rfl ⟨(by unfold aCand; rw [if_pos b_1, if_neg (by omega)]), rfl⟩
  · subst M1
    dsimp only [Option.toList, List.cons_append, List.nil_append]
    refine wq_s 7 rfl ?_
    refine wq_s 8 rfl ?_
    exact wq_ret rfl ⟨(by unfold aCand; rw [if_neg b_1]), rfl⟩
theorem c_X8_told {d : Nat} {G : GT} {M : MT} {gv X C : Nat → Nat} {T : List GSt} {en : Nat} {nd : List Nat} {S : SrS} {t : Nat} (hC : ClsG G) (hS : ClsSt M gv X C T en nd S t) (hO : AbOk X C T en S) {w : Int} (hw : R32 w) : Mq (d + 1) k_X8_told [vR 4, vI w] G M (fun z M' => z = some (vI (aTold T en w)) ∧ M' = M) := by
  obtain ⟨⟨s1, s2⟩, s3, s4, ⟨lc, s5, s6⟩, s7, s8, s9, s10, s11, s12⟩ := id hS
  obtain ⟨t9, t10, t11, t8, tS⟩ := id s9
  obtain ⟨b1, b2, b3, b4, b5, b6⟩ := id hO
  obtain ⟨⟨n9, n10, n11, n8, n12⟩, hAn, -, -⟩ := id s12
  have hlen := TrOk.len b1.2
  have hgt := b1.1
  refine wq_s 1 rfl ?_
  by_cases w_0 : w = 0
  · subst w_0
    refine wq_tsw 36 35 rfl (by decide) rfl rfl ?_
    refine wq_s 37 rfl ?_
    refine wq_getR 40 rfl rfl (hC.lt (by omega)) (hC.ty 0 _ rfl) rfl ?_
    refine wq_getE (v := ((T.length : Nat) : Int)) 9 43 rfl rfl (hC.lt (by omega)) (hC.ty 32 _ rfl) rfl rfl t9 ?_
    exact wq_ret rfl ⟨rfl, rfl⟩
  · have w_0n := w_0
    by_cases w_1 : w = 1
    · subst w_1
      refine wq_tsw 44 43 rfl (by decide) rfl rfl ?_
      refine wq_s 45 rfl ?_
      refine wq_getR 48 rfl rfl (hC.lt (by omega)) (hC.ty 0 _ rfl) rfl ?_
      refine wq_getE (v := ((scT T : Nat) : Int)) 10 51 rfl rfl (hC.lt (by omega)) (hC.ty 32 _ rfl) rfl rfl t10 ?_
      exact wq_ret rfl ⟨rfl, rfl⟩
    · have w_1n := w_1
      by_cases w_2 : w = 2
      · subst w_2
        refine wq_tsw 52 51 rfl (by decide) rfl rfl ?_
        refine wq_s 53 rfl ?_
        refine wq_getR 56 rfl rfl (hC.lt (by omega)) (hC.ty 0 _ rfl) rfl ?_
        refine wq_getE (v := lvT T) 11 59 rfl rfl (hC.lt (by omega)) (hC.ty 32 _ rfl) rfl rfl t11 ?_
        exact wq_ret rfl ⟨rfl, rfl⟩
      · have w_2n := w_2
        by_cases w_3 : w = 3
        · subst w_3
          refine wq_tsw 60 59 rfl (by decide) rfl rfl ?_
          refine wq_s 61 rfl ?_
          refine wq_getR 64 rfl rfl (hC.lt (by omega)) (hC.ty 0 _ rfl) rfl ?_
          refine wq_getE (v := (((goL T).length : Nat) : Int)) 4 67 rfl rfl (hC.lt (by omega)) (hC.ty 7 _ rfl) rfl rfl s4.2.1 ?_
          exact wq_ret rfl ⟨(by rw [goL_len]; rfl), rfl⟩
        · have w_3n := w_3
          by_cases w_4 : w = 4
          · subst w_4
            refine wq_tsw 68 67 rfl (by decide) rfl rfl ?_
            refine wq_s 69 rfl ?_
            refine wq_getE (v := ((en : Nat) : Int)) 10 72 rfl rfl (hC.lt (by omega)) (hC.ty 0 _ rfl) rfl rfl s10 ?_
            refine wq_if 79 rfl rfl (by omega) (fun c_72 => ?_) (fun c_72 => ?_)
            · have c_72 := of_decide_eq_true c_72
              refine wq_s 80 rfl ?_
              exact wq_ret rfl ⟨(by have e9 : en = 0 := (by omega); rw [e9]; rfl), rfl⟩
            · have c_72 := of_decide_eq_false c_72
              refine wq_s 76 rfl ?_
              refine wq_s 80 rfl ?_
              exact wq_ret rfl ⟨(by have e9 : en = 1 := (by omega); rw [e9]; rfl), rfl⟩
          · have w_4n := w_4
            refine wq_tsw 81 80 rfl (by omega) (if_pos (by omega)) rfl ?_
            refine wq_s 82 rfl ?_
            exact wq_ret rfl ⟨(by unfold aTold; rw [if_neg (by omega), if_neg (by omega), if_neg (by omega), if_neg (by omega), if_neg (by omega)]), rfl⟩
theorem c_X8_step {d : Nat} {G : GT} {M : MT} {gv X C : Nat → Nat} {T : List GSt} {en : Nat} {nd : List Nat} {S : SrS} {t : Nat} (hC : ClsG G) (hS : ClsSt M gv X C T en nd S t) (hO : AbOk X C T en S) {i w : Int} (hi : R32 i) (hw : R32 w) : Mq (d + 1) k_X8_step [vR 4, vI i, vI w] G M (fun z M' => z = some (vI (aStep T i w)) ∧ M' = M) := by
  obtain ⟨⟨s1, s2⟩, s3, s4, ⟨lc, s5, s6⟩, s7, s8, s9, s10, s11, s12⟩ := id hS
  obtain ⟨t9, t10, t11, t8, tS⟩ := id s9
  obtain ⟨b1, b2, b3, b4, b5, b6⟩ := id hO
  obtain ⟨⟨n9, n10, n11, n8, n12⟩, hAn, -, -⟩ := id s12
  have hlen := TrOk.len b1.2
  have hgt := b1.1
  refine wq_s 1 rfl ?_
  refine wq_getR 4 rfl rfl (hC.lt (by omega)) (hC.ty 0 _ rfl) rfl ?_
  refine wq_s 5 rfl ?_
  refine wq_vt1 8 rfl rfl (Nat.le_of_ble_eq_true rfl) (hC.lt (by omega)) (hC.ty 32 _ rfl) rfl (Nat.le_of_ble_eq_true rfl) (c_X7_has hC s9 (by omega) hi) (fun r M1 hr => ?_)
  rcases hr with ⟨rfl, b_5, hM1⟩ | ⟨rfl, b_5, hM1⟩
  · subst M1
    dsimp only [Option.toList, List.cons_append, List.nil_append]
    obtain ⟨n, e_n⟩ := Int.eq_ofNat_of_zero_le b_5.1
    subst e_n
    refine wq_s 13 rfl ?_
    refine wq_s 14 rfl ?_
    by_cases w_0 : w = 0
    · subst w_0
      refine wq_tsw 48 34 rfl (by decide) rfl rfl ?_
      refine wq_s 49 rfl ?_
      refine wq_getR 52 rfl rfl (hC.lt (by omega)) (hC.ty 0 _ rfl) rfl ?_
      refine wq_getR 55 rfl rfl (hC.lt (by omega)) (hC.ty 32 _ rfl) rfl ?_
      refine wq_s 56 rfl ?_
      refine wq_iald (v := (((T.getD n dfS).1 : Nat) : Int)) 57 rfl rfl (hC.lt (by omega)).2 (hC.ty 33 _ rfl) (by omega) (by omega) (by omega) (tS n (by omega)).1 ?_
      exact wq_ret rfl ⟨(by unfold aStep; rw [if_pos b_5]; rfl), rfl⟩
    · have w_0n := w_0
      by_cases w_1 : w = 1
      · subst w_1
        refine wq_tsw 58 44 rfl (by decide) rfl rfl ?_
        refine wq_s 59 rfl ?_
        refine wq_getR 62 rfl rfl (hC.lt (by omega)) (hC.ty 0 _ rfl) rfl ?_
        refine wq_getR 65 rfl rfl (hC.lt (by omega)) (hC.ty 32 _ rfl) rfl ?_
        refine wq_s 66 rfl ?_
        refine wq_iald (v := (((T.getD n dfS).2.1 : Nat) : Int)) 67 rfl rfl (hC.lt (by omega)).2 (hC.ty 34 _ rfl) (by omega) (by omega) (by omega) (tS n (by omega)).2.1 ?_
        exact wq_ret rfl ⟨(by unfold aStep; rw [if_pos b_5]; rfl), rfl⟩
      · have w_1n := w_1
        by_cases w_2 : w = 2
        · subst w_2
          refine wq_tsw 68 54 rfl (by decide) rfl rfl ?_
          refine wq_s 69 rfl ?_
          refine wq_getR 72 rfl rfl (hC.lt (by omega)) (hC.ty 0 _ rfl) rfl ?_
          refine wq_getR 75 rfl rfl (hC.lt (by omega)) (hC.ty 32 _ rfl) rfl ?_
          refine wq_s 76 rfl ?_
          refine wq_iald (v := (((T.getD n dfS).2.2.1 : Nat) : Int)) 77 rfl rfl (hC.lt (by omega)).2 (hC.ty 35 _ rfl) (by omega) (by omega) (by omega) (tS n (by omega)).2.2.1 ?_
          exact wq_ret rfl ⟨(by unfold aStep; rw [if_pos b_5]; rfl), rfl⟩
        · have w_2n := w_2
          by_cases w_3 : w = 3
          · subst w_3
            refine wq_tsw 78 64 rfl (by decide) rfl rfl ?_
            refine wq_s 79 rfl ?_
            refine wq_getR 82 rfl rfl (hC.lt (by omega)) (hC.ty 0 _ rfl) rfl ?_
            refine wq_getR 85 rfl rfl (hC.lt (by omega)) (hC.ty 32 _ rfl) rfl ?_
            refine wq_s 86 rfl ?_
            refine wq_iald (v := (((T.getD n dfS).2.2.2.1.length : Nat) : Int)) 87 rfl rfl (hC.lt (by omega)).2 (hC.ty 37 _ rfl) (by omega) (by omega) (by omega) (tS n (by omega)).2.2.2.2.1 ?_
            exact wq_ret rfl ⟨(by unfold aStep; rw [if_pos b_5]; rfl), rfl⟩
          · have w_3n := w_3
            by_cases w_4 : w = 4
            · subst w_4
              refine wq_tsw 88 74 rfl (by decide) rfl rfl ?_
              refine wq_s 89 rfl ?_
              refine wq_getR 92 rfl rfl (hC.lt (by omega)) (hC.ty 0 _ rfl) rfl ?_
              refine wq_getR 95 rfl rfl (hC.lt (by omega)) (hC.ty 32 _ rfl) rfl ?_
              refine wq_s 96 rfl ?_
              refine wq_iald (v := (((T.getD n dfS).2.2.2.2.length : Nat) : Int)) 97 rfl rfl (hC.lt (by omega)).2 (hC.ty 39 _ rfl) (by omega) (by omega) (by omega) (tS n (by omega)).2.2.2.2.2.2.1 ?_
              exact wq_ret rfl ⟨(by unfold aStep; rw [if_pos b_5]; rfl), rfl⟩
            · have w_4n := w_4
              refine wq_tsw 98 84 rfl (by omega) (if_pos (by omega)) rfl ?_
              refine wq_s 99 rfl ?_
              exact wq_ret rfl ⟨(by unfold aStep; rw [if_pos b_5, if_neg (by omega), if_neg (by omega), if_neg (by omega), if_neg (by omega), if_neg (by omega)]), rfl⟩
  · subst M1
    dsimp only [Option.toList, List.cons_append, List.nil_append]
    refine wq_s 11 rfl ?_
    refine wq_s 12 rfl ?_
    exact wq_ret rfl ⟨(by unfold aStep; rw [if_neg b_5]), rfl⟩
theorem c_X8_gone {d : Nat} {G : GT} {M : MT} {gv X C : Nat → Nat} {T : List GSt} {en : Nat} {nd : List Nat} {S : SrS} {t : Nat} (hC : ClsG G) (hS : ClsSt M gv X C T en nd S t) (hO : AbOk X C T en S) {i k : Int} (hi : R32 i) (hk : R32 k) : Mq (d + 1) k_X8_gone [vR 4, vI i, vI k] G M (fun z M' => z = some (vI (aGone T i k)) ∧ M' = M) := by
  obtain ⟨⟨s1, s2⟩, s3, s4, ⟨lc, s5, s6⟩, s7, s8, s9, s10, s11, s12⟩ := id hS
  obtain ⟨t9, t10, t11, t8, tS⟩ := id s9
  obtain ⟨b1, b2, b3, b4, b5, b6⟩ := id hO
  obtain ⟨⟨n9, n10, n11, n8, n12⟩, hAn, -, -⟩ := id s12
  have hlen := TrOk.len b1.2
  have hgt := b1.1
  have hlt := lTot_le T b1.2
  refine wq_s 1 rfl ?_
  refine wq_getR 4 rfl rfl (hC.lt (by omega)) (hC.ty 0 _ rfl) rfl ?_
  refine wq_s 5 rfl ?_
  refine wq_vt1 8 rfl rfl (Nat.le_of_ble_eq_true rfl) (hC.lt (by omega)) (hC.ty 32 _ rfl) rfl (Nat.le_of_ble_eq_true rfl) (c_X7_has hC s9 (by omega) hi) (fun r M1 hr => ?_)
  rcases hr with ⟨rfl, b_5, hM1⟩ | ⟨rfl, b_5, hM1⟩
  · subst M1
    dsimp only [Option.toList, List.cons_append, List.nil_append]
    obtain ⟨n, e_n⟩ := Int.eq_ofNat_of_zero_le b_5.1
    subst e_n
    refine wq_s 11 rfl ?_
    refine wq_s 12 rfl ?_
    refine wq_if 28 rfl rfl (by omega) (fun c_12 => ?_) (fun c_12 => ?_)
    · have c_12 := of_decide_eq_true c_12
      refine wq_s 29 rfl ?_
      exact wq_ret rfl ⟨(by unfold aGone; rw [if_pos b_5, if_neg (by rw [Int.toNat_natCast]; omega)]), rfl⟩
    · have c_12 := of_decide_eq_false c_12
      obtain ⟨j, e_j⟩ := Int.eq_ofNat_of_zero_le (show 0 ≤ k by omega)
      subst e_j
      have hga := gTot_at T n (by omega)
      refine wq_s 16 rfl ?_
      refine wq_s 17 rfl ?_
      refine wq_getR 20 rfl rfl (hC.lt (by omega)) (hC.ty 0 _ rfl) rfl ?_
      refine wq_getR 23 rfl rfl (hC.lt (by omega)) (hC.ty 32 _ rfl) rfl ?_
      refine wq_s 24 rfl ?_
      refine wq_iald (v := (((T.getD n dfS).2.2.2.1.length : Nat) : Int)) 25 rfl rfl (hC.lt (by omega)).2 (hC.ty 37 _ rfl) (by omega) (by omega) (by omega) (tS n (by omega)).2.2.2.2.1 ?_
      refine wq_icmp 30 rfl rfl (by omega) (by omega) (fun c_25 => ?_) (fun c_25 => ?_)
      · have c_25 := of_decide_eq_true c_25
        refine wq_s 31 rfl ?_
        refine wq_getR 34 rfl rfl (hC.lt (by omega)) (hC.ty 0 _ rfl) rfl ?_
        refine wq_s 35 rfl ?_
        refine wq_getR 38 rfl rfl (hC.lt (by omega)) (hC.ty 0 _ rfl) rfl ?_
        refine wq_getR 41 rfl rfl (hC.lt (by omega)) (hC.ty 32 _ rfl) rfl ?_
        refine wq_s 42 rfl ?_
        refine wq_iald (v := ((gTot (T.take n) : Nat) : Int)) 43 rfl rfl (hC.lt (by omega)).2 (hC.ty 36 _ rfl) (by omega) (by omega) (by omega) (tS n (by omega)).2.2.2.1 ?_
        refine wq_s 44 rfl ?_
        refine we_add (((gTot (T.take n)) + j : Nat) : Int) 45 rfl rfl (by omega) (by omega) ?_
        refine wq_vt1 48 rfl rfl (Nat.le_of_ble_eq_true rfl) (hC.lt (by omega)) (hC.ty 7 _ rfl) rfl (Nat.le_of_ble_eq_true rfl) (c_X0_logAt (b := 11) (i := gTot (T.take n) + j) (lg := goL T) hC hb11 s4.2 (by rw [goL_len]; omega)) (fun r M1 hr => ?_)
        obtain ⟨rfl, hM1⟩ := hr
        subst M1
        dsimp only [Option.toList, List.cons_append, List.nil_append]
        rw [goL_at T n j (by omega) (by omega)]
        exact wq_ret rfl ⟨(by unfold aGone; rw [if_pos b_5, if_pos ⟨by omega, by rw [Int.toNat_natCast]; omega⟩]; rfl), rfl⟩
      · have c_25 := of_decide_eq_false c_25
        refine wq_s 29 rfl ?_
        exact wq_ret rfl ⟨(by unfold aGone; rw [if_pos b_5, if_neg (by rw [Int.toNat_natCast]; omega)]), rfl⟩
  · subst M1
    dsimp only [Option.toList, List.cons_append, List.nil_append]
    refine wq_s 28 rfl ?_
    refine wq_s 29 rfl ?_
    exact wq_ret rfl ⟨(by unfold aGone; rw [if_neg b_5]), rfl⟩
theorem c_X8_link {d : Nat} {G : GT} {M : MT} {gv X C : Nat → Nat} {T : List GSt} {en : Nat} {nd : List Nat} {S : SrS} {t : Nat} (hC : ClsG G) (hS : ClsSt M gv X C T en nd S t) (hO : AbOk X C T en S) {i k : Int} (hi : R32 i) (hk : R32 k) : Mq (d + 1) k_X8_link [vR 4, vI i, vI k] G M (fun z M' => z = some (vI (aLink T i k)) ∧ M' = M) := by
  obtain ⟨⟨s1, s2⟩, s3, s4, ⟨lc, s5, s6⟩, s7, s8, s9, s10, s11, s12⟩ := id hS
  obtain ⟨t9, t10, t11, t8, tS⟩ := id s9
  obtain ⟨b1, b2, b3, b4, b5, b6⟩ := id hO
  obtain ⟨⟨n9, n10, n11, n8, n12⟩, hAn, -, -⟩ := id s12
  have hlen := TrOk.len b1.2
  have hgt := b1.1
  have hlt := lTot_le T b1.2
  refine wq_s 1 rfl ?_
  refine wq_getR 4 rfl rfl (hC.lt (by omega)) (hC.ty 0 _ rfl) rfl ?_
  refine wq_s 5 rfl ?_
  refine wq_vt1 8 rfl rfl (Nat.le_of_ble_eq_true rfl) (hC.lt (by omega)) (hC.ty 32 _ rfl) rfl (Nat.le_of_ble_eq_true rfl) (c_X7_has hC s9 (by omega) hi) (fun r M1 hr => ?_)
  rcases hr with ⟨rfl, b_5, hM1⟩ | ⟨rfl, b_5, hM1⟩
  · subst M1
    dsimp only [Option.toList, List.cons_append, List.nil_append]
    obtain ⟨n, e_n⟩ := Int.eq_ofNat_of_zero_le b_5.1
    subst e_n
    refine wq_s 11 rfl ?_
    refine wq_s 12 rfl ?_
    refine wq_if 28 rfl rfl (by omega) (fun c_12 => ?_) (fun c_12 => ?_)
    · have c_12 := of_decide_eq_true c_12
      refine wq_s 29 rfl ?_
      exact wq_ret rfl ⟨(by unfold aLink; rw [if_pos b_5, if_neg (by rw [Int.toNat_natCast]; omega)]), rfl⟩
    · have c_12 := of_decide_eq_false c_12
      obtain ⟨j, e_j⟩ := Int.eq_ofNat_of_zero_le (show 0 ≤ k by omega)
      subst e_j
      have hga := lTot_at T n (by omega)
      refine wq_s 16 rfl ?_
      refine wq_s 17 rfl ?_
      refine wq_getR 20 rfl rfl (hC.lt (by omega)) (hC.ty 0 _ rfl) rfl ?_
      refine wq_getR 23 rfl rfl (hC.lt (by omega)) (hC.ty 32 _ rfl) rfl ?_
      refine wq_s 24 rfl ?_
      refine wq_iald (v := (((T.getD n dfS).2.2.2.2.length : Nat) : Int)) 25 rfl rfl (hC.lt (by omega)).2 (hC.ty 39 _ rfl) (by omega) (by omega) (by omega) (tS n (by omega)).2.2.2.2.2.2.1 ?_
      refine wq_icmp 30 rfl rfl (by omega) (by omega) (fun c_25 => ?_) (fun c_25 => ?_)
      · have c_25 := of_decide_eq_true c_25
        refine wq_s 31 rfl ?_
        refine wq_getR 34 rfl rfl (hC.lt (by omega)) (hC.ty 0 _ rfl) rfl ?_
        refine wq_s 35 rfl ?_
        refine wq_getR 38 rfl rfl (hC.lt (by omega)) (hC.ty 0 _ rfl) rfl ?_
        refine wq_getR 41 rfl rfl (hC.lt (by omega)) (hC.ty 32 _ rfl) rfl ?_
        refine wq_s 42 rfl ?_
        refine wq_iald (v := ((lTot (T.take n) : Nat) : Int)) 43 rfl rfl (hC.lt (by omega)).2 (hC.ty 38 _ rfl) (by omega) (by omega) (by omega) (tS n (by omega)).2.2.2.2.2.1 ?_
        refine wq_s 44 rfl ?_
        refine we_add (((lTot (T.take n)) + j : Nat) : Int) 45 rfl rfl (by omega) (by omega) ?_
        refine wq_vt1 48 rfl rfl (Nat.le_of_ble_eq_true rfl) (hC.lt (by omega)) (hC.ty 32 _ rfl) rfl (Nat.le_of_ble_eq_true rfl) (c_X7_linkAt (i := lTot (T.take n) + j) hC s9 (by omega) (by omega)) (fun r M1 hr => ?_)
        obtain ⟨rfl, hM1⟩ := hr
        subst M1
        dsimp only [Option.toList, List.cons_append, List.nil_append]
        rw [(tS n (by omega)).2.2.2.2.2.2.2 j (by omega)]
        exact wq_ret rfl ⟨(by unfold aLink; rw [if_pos b_5, if_pos ⟨by omega, by rw [Int.toNat_natCast]; omega⟩]; rfl), rfl⟩
      · have c_25 := of_decide_eq_false c_25
        refine wq_s 29 rfl ?_
        exact wq_ret rfl ⟨(by unfold aLink; rw [if_pos b_5, if_neg (by rw [Int.toNat_natCast]; omega)]), rfl⟩
  · subst M1
    dsimp only [Option.toList, List.cons_append, List.nil_append]
    refine wq_s 28 rfl ?_
    refine wq_s 29 rfl ?_
    exact wq_ret rfl ⟨(by unfold aLink; rw [if_neg b_5]), rfl⟩
theorem c_X8_searched {d : Nat} {G : GT} {M : MT} {gv X C : Nat → Nat} {T : List GSt} {en : Nat} {nd : List Nat} {S : SrS} {t : Nat} (hC : ClsG G) (hS : ClsSt M gv X C T en nd S t) (hO : AbOk X C T en S) {w : Int} (hw : R32 w) : Mq (d + 1) k_X8_searched [vR 4, vI w] G M (fun z M' => z = some (vI (aSearched S w)) ∧ M' = M) := by
  obtain ⟨⟨s1, s2⟩, s3, s4, ⟨lc, s5, s6⟩, s7, s8, s9, s10, s11, s12⟩ := id hS
  obtain ⟨t9, t10, t11, t8, tS⟩ := id s9
  obtain ⟨b1, b2, b3, b4, b5, b6⟩ := id hO
  obtain ⟨⟨n9, n10, n11, n8, n12⟩, hAn, -, -⟩ := id s12
  have hlen := TrOk.len b1.2
  have hgt := b1.1
  have o1 := b6.2.1
  have o2 := b6.2.2.2.2.1
  refine wq_s 1 rfl ?_
  by_cases w_0 : w = 0
  · subst w_0
    refine wq_tsw 28 27 rfl (by decide) rfl rfl ?_
    refine wq_s 29 rfl ?_
    refine wq_getR 32 rfl rfl (hC.lt (by omega)) (hC.ty 0 _ rfl) rfl ?_
    refine wq_getE (v := ((S.2.1 : Nat) : Int)) 10 35 rfl rfl (hC.lt (by omega)) (hC.ty 41 _ rfl) rfl rfl n10 ?_
    refine wq_if 42 rfl rfl (by omega) (fun c_35 => ?_) (fun c_35 => ?_)
    · have c_35 := of_decide_eq_true c_35
      refine wq_s 43 rfl ?_
      exact wq_ret rfl ⟨(by show some (vI 0) = some (vI (S.2.1 : Int)); rw [show S.2.1 = 0 by omega]; rfl), rfl⟩
    · have c_35 := of_decide_eq_false c_35
      refine wq_s 39 rfl ?_
      refine wq_s 43 rfl ?_
      exact wq_ret rfl ⟨(by show some (vI 1) = some (vI (S.2.1 : Int)); rw [show S.2.1 = 1 by omega]; rfl), rfl⟩
  · have w_0n := w_0
    by_cases w_1 : w = 1
    · subst w_1
      refine wq_tsw 44 43 rfl (by decide) rfl rfl ?_
      refine wq_s 45 rfl ?_
      refine wq_getR 48 rfl rfl (hC.lt (by omega)) (hC.ty 0 _ rfl) rfl ?_
      refine wq_getE (v := ((S.2.2.1 : Nat) : Int)) 11 51 rfl rfl (hC.lt (by omega)) (hC.ty 41 _ rfl) rfl rfl n11 ?_
      exact wq_ret rfl ⟨rfl, rfl⟩
    · have w_1n := w_1
      by_cases w_2 : w = 2
      · subst w_2
        refine wq_tsw 52 51 rfl (by decide) rfl rfl ?_
        refine wq_s 53 rfl ?_
        refine wq_getR 56 rfl rfl (hC.lt (by omega)) (hC.ty 0 _ rfl) rfl ?_
        refine wq_getE (v := ((S.2.1 : Nat) : Int)) 10 59 rfl rfl (hC.lt (by omega)) (hC.ty 41 _ rfl) rfl rfl n10 ?_
        refine wq_if 64 rfl rfl (by omega) (fun c_59 => ?_) (fun c_59 => ?_)
        · have c_59 := of_decide_eq_true c_59
          refine wq_s 65 rfl ?_
          refine wq_getR 68 rfl rfl (hC.lt (by omega)) (hC.ty 0 _ rfl) rfl ?_
          refine wq_getE (v := ((S.2.2.2.2.1 : Nat) : Int)) 12 71 rfl rfl (hC.lt (by omega)) (hC.ty 41 _ rfl) rfl rfl n12 ?_
          refine wq_s 72 rfl ?_
          refine wq_icmp 79 rfl rfl (by omega) (by omega) (fun c_72 => ?_) (fun c_72 => ?_)
          · have c_72 := of_decide_eq_true c_72
            refine wq_s 80 rfl ?_
            exact wq_ret rfl ⟨(by show some (vI 0) = some (vI (if S.2.1 = 0 then -1 else if S.2.2.2.2.1 = 1 then 1 else 0)); rw [if_neg (by omega), if_neg (by omega)]), rfl⟩
          · have c_72 := of_decide_eq_false c_72
            refine wq_s 76 rfl ?_
            refine wq_s 80 rfl ?_
            exact wq_ret rfl ⟨(by show some (vI 1) = some (vI (if S.2.1 = 0 then -1 else if S.2.2.2.2.1 = 1 then 1 else 0)); rw [if_neg (by omega), if_pos (by omega)]), rfl⟩
        · have c_59 := of_decide_eq_false c_59
          refine wq_s 63 rfl ?_
          exact wq_ret rfl ⟨(by show some (vI (-1)) = some (vI (if S.2.1 = 0 then -1 else if S.2.2.2.2.1 = 1 then 1 else 0)); rw [if_pos (by omega)]), rfl⟩
      · have w_2n := w_2
        refine wq_tsw 81 80 rfl (by omega) (if_pos (by omega)) rfl ?_
        refine wq_s 82 rfl ?_
        exact wq_ret rfl ⟨(by unfold aSearched; rw [if_neg (by omega), if_neg (by omega), if_neg (by omega)]), rfl⟩
theorem c_X8_solution {d : Nat} {G : GT} {M : MT} {gv X C : Nat → Nat} {T : List GSt} {en : Nat} {nd : List Nat} {S : SrS} {t : Nat} (hC : ClsG G) (hS : ClsSt M gv X C T en nd S t) (hO : AbOk X C T en S) {k c : Int} (hk : R32 k) (hc : R32 c) : Mq (d + 1) k_X8_solution [vR 4, vI k, vI c] G M (fun z M' => z = some (vI (aSol S k c)) ∧ M' = M) := by
  obtain ⟨⟨s1, s2⟩, s3, s4, ⟨lc, s5, s6⟩, s7, s8, s9, s10, s11, s12⟩ := id hS
  obtain ⟨t9, t10, t11, t8, tS⟩ := id s9
  obtain ⟨b1, b2, b3, b4, b5, b6⟩ := id hO
  obtain ⟨⟨n9, n10, n11, n8, n12⟩, hAn, -, -⟩ := id s12
  have hlen := TrOk.len b1.2
  have hgt := b1.1
  have o2 := b6.2.2.2.2.1
  refine wq_s 1 rfl ?_
  refine wq_if 27 rfl rfl (by omega) (fun c_1 => ?_) (fun c_1 => ?_)
  · have c_1 := of_decide_eq_true c_1
    refine wq_s 28 rfl ?_
    exact wq_ret rfl ⟨(by unfold aSol; rw [if_neg (by omega)]), rfl⟩
  · have c_1 := of_decide_eq_false c_1
    obtain ⟨n, e_n⟩ := Int.eq_ofNat_of_zero_le (show 0 ≤ k by omega)
    subst e_n
    refine wq_s 5 rfl ?_
    refine wq_s 6 rfl ?_
    refine wq_getR 9 rfl rfl (hC.lt (by omega)) (hC.ty 0 _ rfl) rfl ?_
    refine wq_getE (v := ((S.2.2.2.2.1 : Nat) : Int)) 12 12 rfl rfl (hC.lt (by omega)) (hC.ty 41 _ rfl) rfl rfl n12 ?_
    refine wq_icmp 27 rfl rfl (by omega) (by omega) (fun c_12 => ?_) (fun c_12 => ?_)
    · have c_12 := of_decide_eq_true c_12
      refine wq_s 28 rfl ?_
      exact wq_ret rfl ⟨(by unfold aSol; rw [if_neg (by omega)]), rfl⟩
    · have c_12 := of_decide_eq_false c_12
      refine wq_s 16 rfl ?_
      refine wq_s 17 rfl ?_
      refine wq_icmp 27 rfl rfl (by omega) (by omega) (fun c_17 => ?_) (fun c_17 => ?_)
      · have c_17 := of_decide_eq_true c_17
        exact absurd c_17 (by omega)
      · have c_17 := of_decide_eq_false c_17
        refine wq_s 21 rfl ?_
        refine wq_st1 24 rfl rfl (by decide) (Nat.le_of_ble_eq_true rfl) rfl (Nat.le_of_ble_eq_true rfl) (c_isCell hc) (fun r M1 hr => ?_)
        rcases hr with ⟨rfl, b_21, hM1⟩ | ⟨rfl, b_21, hM1⟩
        · subst M1
          dsimp only [Option.toList, List.cons_append, List.nil_append]
          obtain ⟨j, e_j⟩ := Int.eq_ofNat_of_zero_le b_21.1
          subst e_j
          refine wq_s 29 rfl ?_
          refine wq_s 30 rfl ?_
          refine wq_getR 33 rfl rfl (hC.lt (by omega)) (hC.ty 0 _ rfl) rfl ?_
          refine wq_getR 36 rfl rfl (hC.lt (by omega)) (hC.ty 41 _ rfl) rfl ?_
          refine wq_s 38 rfl ?_
          refine wq_s 39 rfl ?_
          refine we_mul ((81 * n : Nat) : Int) 40 rfl rfl (by omega) (by omega) ?_
          refine wq_s 41 rfl ?_
          refine we_add (((81 * n) + j : Nat) : Int) 42 rfl rfl (by omega) (by omega) ?_
          refine wq_iald (v := ((S.2.2.2.2.2.2 n j : Nat) : Int)) 43 rfl rfl (hC.lt (by omega)).2 (hC.ty 46 _ rfl) (by omega) (by omega) (by omega) (hAn n (by omega) j (by omega)) ?_
          exact wq_ret rfl ⟨(by unfold aSol; rw [if_pos ⟨by omega, by omega⟩, if_pos b_21]; rfl), rfl⟩
        · subst M1
          dsimp only [Option.toList, List.cons_append, List.nil_append]
          refine wq_s 27 rfl ?_
          refine wq_s 28 rfl ?_
          exact wq_ret rfl ⟨(by unfold aSol; rw [if_pos ⟨by omega, by omega⟩, if_neg b_21]), rfl⟩
