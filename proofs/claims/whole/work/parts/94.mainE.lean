/-! the class: grade, search -/
theorem AbOk.en1 {X C : Nat → Nat} {T : List GSt} {en : Nat} {S : SrS} (h : AbOk X C T en S) : AbOk X C T 1 S := ⟨h.1, h.2.1, h.2.2.1, h.2.2.2.1, Nat.le_refl _, h.2.2.2.2.2⟩
theorem c_X8_grade {d : Nat} {G : GT} {M : MT} {gv X C : Nat → Nat} {T : List GSt} {en : Nat} {nd : List Nat} {S : SrS} {t : Nat} (hC : ClsG G) (hS : ClsSt M gv X C T en nd S t) (hO : AbOk X C T en S) (hen : en = 1 → NoStep X) (ht : t + 30000 < 2147483648) {n : Int} (hn : R32 n) : Mq (d + 10) k_X8_grade [vR 4, vI n] G M (fun z M' => (z = some (vI (((gradeF n.toNat X T).1 : Nat) : Int)) ∧ (0 ≤ n ∧ n ≤ 30) ∧ (∃ t', ClsSt M' gv (gradeF n.toNat X T).2.1 C (gradeF n.toNat X T).2.2.1 (if (gradeF n.toNat X T).2.2.2 = 1 then 1 else en) nd S t' ∧ t' ≤ t + 21870) ∧ (AbOk (gradeF n.toNat X T).2.1 C (gradeF n.toNat X T).2.2.1 (if (gradeF n.toNat X T).2.2.2 = 1 then 1 else en) S ∧ ((if (gradeF n.toNat X T).2.2.2 = 1 then 1 else en) = 1 → NoStep (gradeF n.toNat X T).2.1)) ∧ FrK M M') ∨ (z = some (vI (-1)) ∧ ¬ (0 ≤ n ∧ n ≤ 30) ∧ M' = M)) := by
  have hen1 := hO.2.2.2.2.1
  refine wq_s 1 rfl ?_
  refine wq_if 10 rfl rfl (by omega) (fun c_1 => ?_) (fun c_1 => ?_)
  · have c_1 := of_decide_eq_true c_1
    refine wq_s 11 rfl ?_
    exact wq_ret rfl (Or.inr ⟨rfl, by omega, rfl⟩)
  · have c_1 := of_decide_eq_false c_1
    obtain ⟨m, e_m⟩ := Int.eq_ofNat_of_zero_le (show 0 ≤ n by omega)
    subst e_m
    rw [Int.toNat_natCast]
    refine wq_s 5 rfl ?_
    refine wq_s 7 rfl ?_
    refine wq_icmp 12 rfl rfl (by omega) (by omega) (fun c_7 => ?_) (fun c_7 => ?_)
    · have c_7 := of_decide_eq_true c_7
      have L_16 : ∀ (f k : Nat) (dn : Nat) (X2 : Nat → Nat) (T2 : List GSt) (en2 : Nat) (t2 : Nat) (M2 : MT), m - k < f → k ≤ m → (ClsSt M2 gv X2 C T2 en2 nd S t2) → (AbOk X2 C T2 en2 S) → ((en2 = 0 ∧ en = 0 ∧ (gradeF m X T).1 = dn + (gradeF (m - k) X2 T2).1 ∧ (gradeF m X T).2 = (gradeF (m - k) X2 T2).2) ∨ (en2 = 1 ∧ (gradeF m X T).1 = dn ∧ (gradeF m X T).2.1 = X2 ∧ (gradeF m X T).2.2.1 = T2 ∧ (if (gradeF m X T).2.2.2 = 1 then 1 else en) = 1 ∧ NoStep X2)) → (FrK M M2) → (dn ≤ k ∧ t2 ≤ t + 729 * k) → Wq (d + 10) k_X8_grade 16 [some (vR 4), some (vI ((m : Nat) : Int)), some (vI ((dn : Nat) : Int)), some (vI ((k : Nat) : Int))] [] G M2 (fun z M' => (z = some (vI (((gradeF m X T).1 : Nat) : Int)) ∧ (0 ≤ (m : Int) ∧ (m : Int) ≤ 30) ∧ (∃ t', ClsSt M' gv (gradeF m X T).2.1 C (gradeF m X T).2.2.1 (if (gradeF m X T).2.2.2 = 1 then 1 else en) nd S t' ∧ t' ≤ t + 21870) ∧ (AbOk (gradeF m X T).2.1 C (gradeF m X T).2.2.1 (if (gradeF m X T).2.2.2 = 1 then 1 else en) S ∧ ((if (gradeF m X T).2.2.2 = 1 then 1 else en) = 1 → NoStep (gradeF m X T).2.1)) ∧ FrK M M') ∨ (z = some (vI (-1)) ∧ ¬ (0 ≤ (m : Int) ∧ (m : Int) ≤ 30) ∧ M' = M)) := by
        intro f
        induction f with
        | zero => intro k dn X2 T2 en2 t2 M2 h; exact absurd h (by omega)
        | succ f ih_k =>
          intro k dn X2 T2 en2 t2 M2 hf_k hk_k a1 a2 a3 a4 a5
          have he2 := a2.2.2.2.2.1
          refine wq_s 17 rfl ?_
          refine wq_s 18 rfl ?_
          refine wq_icmp 52 rfl rfl (by omega) (by omega) (fun c_18 => ?_) (fun c_18 => ?_)
          · have c_18 := of_decide_eq_true c_18
            refine wq_s 53 rfl ?_
            exact wq_ret rfl (by
                  rcases a3 with ⟨h2, h3, h4⟩ | ⟨h2, h3, h4, h5, h6, h7⟩
                  · rw [show m - k = 0 by omega] at h4
                    have q1 : (gradeF m X T).1 = dn := h4.1
                    have q2 : (gradeF m X T).2 = (X2, T2, 0) := h4.2
                    refine Or.inl ⟨by rw [q1], ⟨by omega, by omega⟩, ⟨t2, ?_, by omega⟩, ⟨?_, ?_⟩, a4⟩
                    · rw [q2]
                      show ClsSt M2 gv X2 C T2 (if (0 : Nat) = 1 then 1 else en) nd S t2
                      rw [if_neg (by decide), h3, ← h2]
                      exact a1
                    · rw [q2]
                      show AbOk X2 C T2 (if (0 : Nat) = 1 then 1 else en) S
                      rw [if_neg (by decide), h3, ← h2]
                      exact a2
                    · rw [q2]
                      show (if (0 : Nat) = 1 then 1 else en) = 1 → NoStep X2
                      rw [if_neg (by decide)]
                      intro z
                      omega
                  · exact Or.inl ⟨by rw [h3], ⟨by omega, by omega⟩, ⟨t2, by rw [h4, h5, h6, ← h2]; exact a1, by omega⟩, ⟨by rw [h4, h5, h6, ← h2]; exact a2, fun _ => by rw [h4]; exact h7⟩, a4⟩)
          · have c_18 := of_decide_eq_false c_18
            refine wq_s 22 rfl ?_
            refine wq_getE (v := ((en2 : Nat) : Int)) 10 25 rfl rfl (hC.lt (by omega)) (hC.ty 0 _ rfl) rfl rfl a1.2.2.2.2.2.2.2.1 ?_
            refine wq_if 52 rfl rfl (by omega) (fun c_25 => ?_) (fun c_25 => ?_)
            · have c_25 := of_decide_eq_true c_25
              refine wq_s 53 rfl ?_
              exact wq_ret rfl (by
                    rcases a3 with ⟨h2, h3, h4⟩ | ⟨h2, h3, h4, h5, h6, h7⟩
                    · omega
                    · exact Or.inl ⟨by rw [h3], ⟨by omega, by omega⟩, ⟨t2, by rw [h4, h5, h6, ← h2]; exact a1, by omega⟩, ⟨by rw [h4, h5, h6, ← h2]; exact a2, fun _ => by rw [h4]; exact h7⟩, a4⟩)
            · have c_25 := of_decide_eq_false c_25
              have e9 : en2 = 0 := by omega
              subst e9
              obtain ⟨h3, h4⟩ : en = 0 ∧ (gradeF m X T).1 = dn + (gradeF (m - k) X2 T2).1 ∧ (gradeF m X T).2 = (gradeF (m - k) X2 T2).2 := a3.elim (fun z => z.2) (fun z => absurd z.1 (by decide))
              refine wq_s 29 rfl ?_
              refine wq_vt0 32 rfl rfl (Nat.le_of_ble_eq_true rfl) (hC.lt (by omega)) (hC.ty 0 _ rfl) rfl (Nat.le_of_ble_eq_true rfl) (c_takeFirstStep (d := d) hC a1 a2 (by omega)) (fun z M3 hz => ?_)
              obtain ⟨hz, f3⟩ := hz
              rcases hz with ⟨rfl, s, Y, t', g1, g2, g3⟩ | ⟨rfl, g1, t', g2, g3⟩
              · dsimp only [Option.toList, List.cons_append, List.nil_append]
                refine wq_s 35 rfl ?_
                refine we_inc 2 1 ((dn + 1 : Nat) : Int) 38 _ rfl rfl rfl (by omega) (by omega) rfl ?_
                refine wq_s 46 rfl ?_
                refine we_inc 3 1 ((k + 1 : Nat) : Int) 49 _ rfl rfl rfl (by omega) (by omega) rfl ?_
                refine wq_s 16 rfl ?_
                have q9 : dn + 1 ≤ k + 1 ∧ t' ≤ t + 729 * (k + 1) := by omega
                rw [show m - k = (m - (k + 1)) + 1 by omega, gradeF_t g1] at h4
                exact ih_k (k + 1) (dn + 1) _ _ 0 t' M3 (by omega) (by omega) g2 (a2.step g1) (Or.inl ⟨rfl, h3, by rw [h4.1]; omega, h4.2⟩) (fun a ha => (f3 a ha).trans (a4 a ha)) q9
              · dsimp only [Option.toList, List.cons_append, List.nil_append]
                refine wq_s 41 rfl ?_
                refine wq_s 42 rfl ?_
                refine wq_s 43 rfl ?_
                refine wq_putE 10 46 rfl rfl (hC.lt (by omega)) (hC.ty 0 _ rfl) rfl (by decide) (by decide) rfl ?_
                refine we_inc 3 1 ((k + 1 : Nat) : Int) 49 _ rfl rfl rfl (by omega) (by omega) rfl ?_
                refine wq_s 16 rfl ?_
                have q9 : dn ≤ k + 1 ∧ t' ≤ t + 729 * (k + 1) := by omega
                rw [show m - k = (m - (k + 1)) + 1 by omega, gradeF_f g1] at h4
                refine ih_k (k + 1) dn X2 T2 1 t' (up2 M3 4 10 1) (by omega) (by omega) (g2.set4 (fun a h1 h2 h3 => up2_row h3) up2_at (g2.2.2.2.2.2.2.2.2.1.fr (up2_ne (Or.inr (by decide))) (up2_row (by decide)))) a2.en1 (Or.inr ⟨rfl, by rw [h4.1]; exact Nat.add_zero dn, by rw [h4.2], by rw [h4.2], by rw [h4.2]; exact if_pos rfl, g1⟩) (fun a ha => (up2_row (by omega)).trans ((f3 a ha).trans (a4 a ha))) q9
      refine wq_s 13 rfl ?_
      refine wq_s 14 rfl ?_
      refine wq_s 15 rfl ?_
      refine wq_s 16 rfl ?_
      refine L_16 (m + 1) 0 0 X T en t M (by omega) (by omega) hS hO ?_ (fun _ _ => rfl) ⟨by omega, by omega⟩
      by_cases h1 : en = 1
      · refine Or.inr ⟨h1, ?_⟩
        cases m with
        | zero => exact ⟨rfl, rfl, rfl, by show (if (0 : Nat) = 1 then 1 else en) = 1; rw [if_neg (by decide)]; exact h1, hen h1⟩
        | succ m => rw [gradeF_f (hen h1)]; exact ⟨rfl, rfl, rfl, if_pos rfl, hen h1⟩
      · exact Or.inl ⟨by omega, by omega, (Nat.zero_add _).symm, rfl⟩
    · have c_7 := of_decide_eq_false c_7
      refine wq_s 11 rfl ?_
      exact wq_ret rfl (Or.inr ⟨rfl, by omega, rfl⟩)
theorem c_X8_search {d : Nat} {G : GT} {M : MT} {gv X C : Nat → Nat} {T : List GSt} {en : Nat} {nd : List Nat} {S : SrS} {t : Nat} (hC : ClsG G) (hS : ClsSt M gv X C T en nd S t) (hO : AbOk X C T en S) (hI : SrI S) (ht : S.2.2.1 + 300 ≤ 1000000) {n : Int} (hn : R32 n) : Mq (d + 7) k_X8_search [vR 4, vI n] G M (fun z M' => (z = some (vI (((srchF gv n.toNat S).2.2.2.2.1 : Nat) : Int)) ∧ (0 ≤ n ∧ n ≤ 300) ∧ ClsSt M' gv X C T en nd (srchF gv n.toNat S) t ∧ FrK M M') ∨ (z = some (vI (-1)) ∧ ¬ (0 ≤ n ∧ n ≤ 300) ∧ M' = M)) := by
  obtain ⟨⟨s1, s2⟩, s3, s4, ⟨lc, s5, s6⟩, s7, s8, s9, s10, s11, s12⟩ := id hS
  obtain ⟨t9, t10, t11, t8, tS⟩ := id s9
  obtain ⟨b1, b2, b3, b4, b5, b6⟩ := id hO
  obtain ⟨⟨n9, n10, n11, n8, n12⟩, hAn, hXo, -⟩ := id s12
  have hlen := TrOk.len b1.2
  have hgt := b1.1
  have hY : ∀ c, c < 81 → fstF gv c < 512 := fun c hc => fstF_lt (s3 c hc).2
  refine wq_s 1 rfl ?_
  refine wq_if 11 rfl rfl (by omega) (fun c_1 => ?_) (fun c_1 => ?_)
  · have c_1 := of_decide_eq_true c_1
    refine wq_s 12 rfl ?_
    exact wq_ret rfl (Or.inr ⟨rfl, by omega, rfl⟩)
  · have c_1 := of_decide_eq_false c_1
    obtain ⟨m, e_m⟩ := Int.eq_ofNat_of_zero_le (show 0 ≤ n by omega)
    subst e_m
    rw [Int.toNat_natCast]
    refine wq_s 5 rfl ?_
    refine wq_s 8 rfl ?_
    refine wq_icmp 13 rfl rfl (by omega) (by omega) (fun c_8 => ?_) (fun c_8 => ?_)
    · have c_8 := of_decide_eq_true c_8
      have L_26 : ∀ (f k : Nat) (S2 : SrS) (M2 : MT), m - k < f → k ≤ m → (ClsSr M2 gv S2) → (SrI S2) → (S2.1 = 1 ∧ S2.2.2.1 ≤ S.2.2.1 + k) → (srchF gv m S = srchL (m - k) S2) → (∀ a, (a < 45 ∨ 54 < a) → M2 a = M a) → Wq (d + 7) k_X8_search 26 [some (vR 4), some (vI ((m : Nat) : Int)), some (vI ((k : Nat) : Int))] [] G M2 (fun z M' => (z = some (vI (((srchF gv m S).2.2.2.2.1 : Nat) : Int)) ∧ (0 ≤ (m : Int) ∧ (m : Int) ≤ 300) ∧ ClsSt M' gv X C T en nd (srchF gv m S) t ∧ FrK M M') ∨ (z = some (vI (-1)) ∧ ¬ (0 ≤ (m : Int) ∧ (m : Int) ≤ 300) ∧ M' = M)) := by
        intro f
        induction f with
        | zero => intro k S2 M2 h; exact absurd h (by omega)
        | succ f ih_k =>
          intro k S2 M2 hf_k hk_k a1 a2 a3 a4 a5
          have ho2 := a2.1.2.1
          have ho5 := a2.1.2.2.2.2.1
          refine wq_s 27 rfl ?_
          refine wq_s 28 rfl ?_
          refine wq_icmp 54 rfl rfl (by omega) (by omega) (fun c_28 => ?_) (fun c_28 => ?_)
          · have c_28 := of_decide_eq_true c_28
            refine wq_s 55 rfl ?_
            refine wq_getR 58 rfl rfl (hC.lt (by omega)) (hC.ty 0 _ rfl) rfl ?_
            refine wq_getE (v := ((S2.2.2.2.2.1 : Nat) : Int)) 12 61 rfl rfl (hC.lt (by omega)) (hC.ty 41 _ rfl) rfl rfl a1.1.2.2.2.2 ?_
            exact wq_ret rfl (by rw [show m - k = 0 by omega] at a4; have a4 : srchF gv m S = S2 := a4; exact Or.inl ⟨by rw [a4], ⟨by omega, by omega⟩, by rw [a4]; exact hS.sr a1 a5, fun a ha => a5 a (by omega)⟩)
          · have c_28 := of_decide_eq_false c_28
            refine wq_s 32 rfl ?_
            refine wq_getR 35 rfl rfl (hC.lt (by omega)) (hC.ty 0 _ rfl) rfl ?_
            refine wq_getE (v := ((S2.2.1 : Nat) : Int)) 10 38 rfl rfl (hC.lt (by omega)) (hC.ty 41 _ rfl) rfl rfl a1.1.2.1 ?_
            refine wq_if 54 rfl rfl (by omega) (fun c_38 => ?_) (fun c_38 => ?_)
            · have c_38 := of_decide_eq_true c_38
              refine wq_s 55 rfl ?_
              refine wq_getR 58 rfl rfl (hC.lt (by omega)) (hC.ty 0 _ rfl) rfl ?_
              refine wq_getE (v := ((S2.2.2.2.2.1 : Nat) : Int)) 12 61 rfl rfl (hC.lt (by omega)) (hC.ty 41 _ rfl) rfl rfl a1.1.2.2.2.2 ?_
              exact wq_ret rfl (by rw [srchL_o (show S2.2.1 = 1 by omega)] at a4; exact Or.inl ⟨by rw [a4], ⟨by omega, by omega⟩, by rw [a4]; exact hS.sr a1 a5, fun a ha => a5 a (by omega)⟩)
            · have c_38 := of_decide_eq_false c_38
              have e9 : S2.2.1 = 0 := by omega
              refine wq_s 42 rfl ?_
              refine wq_getR 45 rfl rfl (hC.lt (by omega)) (hC.ty 0 _ rfl) rfl ?_
              refine wq_vt0 48 rfl rfl (Nat.le_of_ble_eq_true rfl) (hC.lt (by omega)) (hC.ty 41 _ rfl) rfl (Nat.le_of_ble_eq_true rfl) (c_tryNext (d := d) (gv := gv) (S := S2) hC (s1.fr (a5 _ (by decide)) (a5 _ (by decide)) (a5 _ (by decide)) (a5 _ (by decide))) hY a1 a2 a3.1 e9 (by omega)) (fun z M3 hz => ?_)
              obtain ⟨rfl, g1, g2⟩ := hz
              have hto := try_ok a2 a3.1 e9 (by omega)
              dsimp only [Option.toList, List.cons_append, List.nil_append]
              refine we_inc 2 1 ((k + 1 : Nat) : Int) 51 _ rfl rfl rfl (by omega) (by omega) rfl ?_
              refine wq_s 26 rfl ?_
              rw [show m - k = (m - (k + 1)) + 1 by omega] at a4
              exact ih_k (k + 1) (tryF S2) M3 (by omega) (by omega) g1 hto.1 ⟨hto.2.1, by rw [hto.2.2]; omega⟩ (a4.trans (if_neg (by omega))) (fun a ha => (g2 a ha).trans (a5 a ha))
      refine wq_s 14 rfl ?_
      refine wq_getR 17 rfl rfl (hC.lt (by omega)) (hC.ty 0 _ rfl) rfl ?_
      refine wq_s 18 rfl ?_
      refine wq_getR 21 rfl rfl (hC.lt (by omega)) (hC.ty 0 _ rfl) rfl ?_
      refine wq_vt1 24 rfl rfl (Nat.le_of_ble_eq_true rfl) (hC.lt (by omega)) (hC.ty 41 _ rfl) rfl (Nat.le_of_ble_eq_true rfl) (c_X5_begin (d := d) (gv := gv) (S := S) hC s1 s3 s12 hI) (fun z M1 hz => ?_)
      obtain ⟨rfl, g1, g2⟩ := hz
      have hbo := begF_ok (gv := gv) hI
      dsimp only [Option.toList, List.cons_append, List.nil_append]
      refine wq_s 25 rfl ?_
      refine wq_s 26 rfl ?_
      exact L_26 (m + 1) 0 (begF gv S) M1 (by omega) (by omega) g1 hbo.1 ⟨hbo.2.1, by rw [hbo.2.2]; omega⟩ rfl g2
    · have c_8 := of_decide_eq_false c_8
      refine wq_s 12 rfl ?_
      exact wq_ret rfl (Or.inr ⟨rfl, by omega, rfl⟩)
