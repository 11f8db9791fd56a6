/-! mark: an instance of any rule but the last, in the class -/
theorem insC_rng {X : Nat → Nat} {r p v : Int} (hr : 3 < r) (h : insC X r p v) : (4 ≤ r ∧ r ≤ 12) ∧ (0 ≤ p ∧ p ≤ 26) ∧ (0 ≤ v ∧ v ≤ 511) := by
  rcases h with z | z | z | z | z | z | z
  · exact absurd z.1 (by omega)
  · exact absurd z.1 (by omega)
  · exact absurd z.1 (by omega)
  · exact absurd z.1 (by omega)
  · exact ⟨by omega, z.2.1, z.2.2.1⟩
  · exact ⟨by omega, z.2.1, z.2.2.1⟩
  · have h1 := z.2.1
    refine ⟨by omega, ?_, z.2.2.1⟩
    unfold fdg at h1
    by_cases hp : 16 < p
    · rw [if_pos hp] at h1
      omega
    · rw [if_neg hp] at h1
      omega
theorem GoAt.no {M : MT} {X : Nat → Nat} {r p v : Int} (h : GoAt M (fun _ => 0)) (hn : ¬ insC X r p v) : GoAt M (insY X r p v) := h.ext (fun c _ => (insY_f hn c).symm)
theorem c_X6_mark {d : Nat} {G : GT} {M : MT} {b : Nat} {r p v : Int} {X : Nat → Nat} (hC : ClsG G) (hb : IsBd b) (hS : ShpAt M) (hB : BdC M b X) (hT : TbAt M) (hH : GoAt M (fun _ => 0)) (hr : R32 r) (hp : R32 p) (hv : R32 v) (hr3 : 3 < r) : Mq (d + 3) k_X6_mark [vR 22, vR b, vI r, vI p, vI v] G M (fun z M' => z = some (vI ((insN X r p v : Nat) : Int)) ∧ GoAt M' (insY X r p v) ∧ ∀ a, a ≠ 19 → a ≠ 20 → a ≠ 23 → M' a = M a) := by
  refine wq_s 2 rfl ?_
  refine wq_if 36 rfl rfl (by omega) (fun c_2 => ?_) (fun c_2 => ?_)
  · have c_2 := of_decide_eq_true c_2
    refine wq_s 37 rfl ?_
    have hn : ¬ insC X r p v := fun z => (by have := insC_rng hr3 z; omega)
    exact wq_ret rfl ⟨by rw [insN_f hn]; rfl, hH.no hn, fun _ _ _ _ => rfl⟩
  · have c_2 := of_decide_eq_false c_2
    refine wq_s 7 rfl ?_
    refine wq_s 10 rfl ?_
    refine wq_icmp 36 rfl rfl (by omega) (by omega) (fun c_10 => ?_) (fun c_10 => ?_)
    · have c_10 := of_decide_eq_true c_10
      refine wq_s 37 rfl ?_
      have hn : ¬ insC X r p v := fun z => (by have := insC_rng hr3 z; omega)
      exact wq_ret rfl ⟨by rw [insN_f hn]; rfl, hH.no hn, fun _ _ _ _ => rfl⟩
    · have c_10 := of_decide_eq_false c_10
      refine wq_s 14 rfl ?_
      refine wq_s 15 rfl ?_
      refine wq_s 16 rfl ?_
      refine wq_s 17 rfl ?_
      refine wq_vt3 20 rfl rfl (Nat.le_of_ble_eq_true rfl) (hC.lt (by omega)) (hC.ty 18 _ rfl) rfl (Nat.le_of_ble_eq_true rfl) (c_load (r := r) (p := p) hC hb hS hB hT hr hp) (fun z M3 hz => ?_)
      rcases hz with ⟨rfl, hL, hrp, hM, hF⟩ | ⟨rfl, hL, hM⟩
      · dsimp only [Option.toList, List.cons_append, List.nil_append]
        refine wq_s 23 rfl ?_
        obtain ⟨rn, e_r⟩ := Int.eq_ofNat_of_zero_le hrp.1
        subst e_r
        obtain ⟨pn, e_p⟩ := Int.eq_ofNat_of_zero_le hrp.2
        subst e_p
        obtain ⟨vn, e_v⟩ := Int.eq_ofNat_of_zero_le (show 0 ≤ v by omega)
        subst e_v
        rw [Int.toNat_natCast, Int.toNat_natCast] at hL hM
        have hv9 : vn < 512 := by omega
        refine (mark_23 hC hb hS hB hT hH hv9 hL hM hF).mono (fun z M5 hz => ?_)
        rcases hz with ⟨z1, z2, z3, z4, z5, z6⟩ | ⟨z1, z2, z3⟩
        · have hI := (insC_sub (X := X) hL.1 hL.2.1 hv9).2 ⟨z1, z2, z3⟩
          have he := sm_ins hL.1 hL.2.1 hv9 hI
          have hcn : cntX (smF X rn pn vn (uN (mkN X rn pn) vn 9) 9) = insN X (rn : Int) (pn : Int) (vn : Int) := sumN_ext 81 (fun c _ => by rw [he c])
          rw [hcn] at z4
          exact ⟨z4, z5.ext (fun c _ => he c), z6⟩
        · have hn : ¬ insC X (rn : Int) (pn : Int) (vn : Int) := fun z => z1 ((insC_sub hL.1 hL.2.1 hv9).1 z)
          exact ⟨by rw [z2, insN_f hn]; rfl, (hH.fr (z3 _ (by decide)) (z3 _ (by decide))).no hn, fun a _ _ h3 => z3 a h3⟩
      · subst M3
        dsimp only [Option.toList, List.cons_append, List.nil_append]
        refine wq_s 36 rfl ?_
        refine wq_s 37 rfl ?_
        have hn : ¬ insC X r p v := fun z => hL (by
          obtain ⟨g1, g2, g3⟩ := insC_rng hr3 z
          obtain ⟨rn, e_r⟩ := Int.eq_ofNat_of_zero_le (show 0 ≤ r by omega)
          subst e_r
          obtain ⟨pn, e_p⟩ := Int.eq_ofNat_of_zero_le g2.1
          subst e_p
          obtain ⟨vn, e_v⟩ := Int.eq_ofNat_of_zero_le g3.1
          subst e_v
          rw [Int.toNat_natCast, Int.toNat_natCast]
          exact ⟨((insC_sub (X := X) (by omega) (by omega) (by omega)).1 z).1, by omega, by omega⟩)
        exact wq_ret rfl ⟨by rw [insN_f hn]; rfl, hH.no hn, fun _ _ _ _ => rfl⟩
theorem c_X3_mark {d : Nat} {G : GT} {M : MT} {b : Nat} {r p v : Int} {X : Nat → Nat} (hC : ClsG G) (hb : IsBd b) (hS : ShpAt M) (hB : BdC M b X) (hT : TbAt M) (hH : GoAt M (fun _ => 0)) (hr : R32 r) (hp : R32 p) (hv : R32 v) : Mq (d + 4) k_X3_mark [vR 21, vR b, vI r, vI p, vI v] G M (fun z M' => z = some (vI ((insN X r p v : Nat) : Int)) ∧ GoAt M' (insY X r p v) ∧ ∀ a, a ≠ 19 → a ≠ 20 → a ≠ 23 → M' a = M a) := by
  have hall : insC X r p v → r ≤ 3 → (0 ≤ p ∧ (1 ≤ v ∧ v ≤ 9) ∧ ((r = 0 ∧ p < 81) ∨ (r = 1 ∧ p < 27) ∨ (r = 2 ∧ 18 ≤ p ∧ p < 27) ∨ (r = 3 ∧ p < 18))) := fun z h3 => by
    rcases z with z | z | z | z | z | z | z
    · have h1 := z.2.1; have h2 := z.2.2.1; omega
    · have h1 := z.2.1; have h2 := z.2.2.1; omega
    · have h1 := z.2.1; have h2 := z.2.2.1; omega
    · have h1 := z.2.1; have h2 := z.2.2.1; omega
    · exact absurd z.1 (by omega)
    · exact absurd z.1 (by omega)
    · exact absurd z.1 (by omega)
  have hnone : ¬ insC X r p v → Wq (d + 4) k_X3_mark 135 [some (vR 21), some (vR b), some (vI r), some (vI p), some (vI v)] [] G M (fun z M' => z = some (vI ((insN X r p v : Nat) : Int)) ∧ GoAt M' (insY X r p v) ∧ ∀ a, a ≠ 19 → a ≠ 20 → a ≠ 23 → M' a = M a) := fun hn => by
    refine wq_s 136 rfl ?_
    refine wq_getR 139 rfl rfl (hC.lt (by omega)) (hC.ty 17 _ rfl) rfl ?_
    refine wq_getE (v := ((cntX (fun _ => 0) : Nat) : Int)) 2 142 rfl rfl (hC.lt (by omega)) (hC.ty 15 _ rfl) rfl rfl hH.2 ?_
    refine wq_ret rfl ⟨?_, hH.no hn, fun _ _ _ _ => rfl⟩
    rw [insN_f hn, show cntX (fun _ => 0) = 0 from sumN_0 81]
  refine wq_s 1 rfl ?_
  refine wq_s 2 rfl ?_
  refine wq_icmp 18 rfl rfl (by omega) (by omega) (fun c_2 => ?_) (fun c_2 => ?_)
  · have c_2 := of_decide_eq_true c_2
    refine wq_s 19 rfl ?_
    refine wq_if 35 rfl rfl (by omega) (fun c_19 => ?_) (fun c_19 => ?_)
    · have c_19 := of_decide_eq_true c_19
      have hn : ¬ insC X r p v := fun z => by have := hall z (by omega); omega
      refine wq_s 36 rfl ?_
      exact wq_ret rfl ⟨by rw [insN_f hn]; rfl, hH.no hn, fun _ _ _ _ => rfl⟩
    · have c_19 := of_decide_eq_false c_19
      refine wq_s 24 rfl ?_
      refine wq_s 25 rfl ?_
      refine wq_icmp 35 rfl rfl (by omega) (by omega) (fun c_25 => ?_) (fun c_25 => ?_)
      · have c_25 := of_decide_eq_true c_25
        have hn : ¬ insC X r p v := fun z => by have := hall z (by omega); omega
        refine wq_s 36 rfl ?_
        exact wq_ret rfl ⟨by rw [insN_f hn]; rfl, hH.no hn, fun _ _ _ _ => rfl⟩
      · have c_25 := of_decide_eq_false c_25
        refine wq_s 30 rfl ?_
        refine wq_s 32 rfl ?_
        refine wq_icmp 37 rfl rfl (by omega) (by omega) (fun c_32 => ?_) (fun c_32 => ?_)
        · have c_32 := of_decide_eq_true c_32
          refine wq_s 38 rfl ?_
          refine wq_if 60 rfl rfl (by omega) (fun c_38 => ?_) (fun c_38 => ?_)
          · have c_38 := of_decide_eq_true c_38
            refine wq_s 61 rfl ?_
            refine wq_s 62 rfl ?_
            refine wq_icmp 84 rfl rfl (by omega) (by omega) (fun c_62 => ?_) (fun c_62 => ?_)
            · have c_62 := of_decide_eq_true c_62
              refine wq_s 85 rfl ?_
              refine wq_s 86 rfl ?_
              refine wq_icmp 114 rfl rfl (by omega) (by omega) (fun c_86 => ?_) (fun c_86 => ?_)
              · have c_86 := of_decide_eq_true c_86
                refine wq_s 115 rfl ?_
                refine wq_s 116 rfl ?_
                refine wq_icmp 135 rfl rfl (by omega) (by omega) (fun c_116 => ?_) (fun c_116 => ?_)
                · have c_116 := of_decide_eq_true c_116
                  exact hnone (fun z => by have := hall z (by omega); omega)
                · have c_116 := of_decide_eq_false c_116
                  refine wq_s 120 rfl ?_
                  refine wq_s 122 rfl ?_
                  refine wq_icmp 135 rfl rfl (by omega) (by omega) (fun c_122 => ?_) (fun c_122 => ?_)
                  · have c_122 := of_decide_eq_true c_122
                    exact hnone (fun z => by have := hall z (by omega); omega)
                  · have c_122 := of_decide_eq_false c_122
                    refine wq_s 126 rfl ?_
                    refine wq_s 127 rfl ?_
                    refine wq_s 128 rfl ?_
                    refine wq_s 130 rfl ?_
                    refine wq_s 131 rfl ?_
                    refine we_sub (v - 1) 132 rfl rfl (by omega) (by omega) ?_
                    obtain ⟨pn, e_p⟩ := Int.eq_ofNat_of_zero_le (show 0 ≤ p by omega)
                    subst e_p
                    obtain ⟨en, e_e⟩ := Int.eq_ofNat_of_zero_le (show 0 ≤ v - 1 by omega)
                    have e_v : v = ((en + 1 : Nat) : Int) := by omega
                    subst e_v
                    have e_r : r = 3 := by omega
                    subst e_r
                    rw [show ((en + 1 : Nat) : Int) - 1 = ((en : Nat) : Int) by omega]
                    refine wq_vt3 135 rfl rfl (Nat.le_of_ble_eq_true rfl) (hC.lt (by omega)) (hC.ty 17 _ rfl) rfl (Nat.le_of_ble_eq_true rfl) (c_markClaiming (p := pn) (e := en) hC hb hS hB hH (by omega) (by omega)) (fun z M3 hz => ?_)
                    obtain ⟨rfl, hG3, hF3⟩ := hz
                    dsimp only [Option.toList, List.cons_append, List.nil_append]
                    refine wq_s 136 rfl ?_
                    refine wq_getR 139 rfl rfl (hC.lt (by omega)) (hC.ty 17 _ rfl) rfl ?_
                    refine wq_getE (v := ((insN X 3 (pn : Int) ((en + 1 : Nat) : Int) : Nat) : Int)) 2 142 rfl rfl (hC.lt (by omega)) (hC.ty 15 _ rfl) rfl rfl hG3.2 ?_
                    exact wq_ret rfl ⟨rfl, hG3, fun a h1 h2 _ => hF3 a h1 h2⟩
              · have c_86 := of_decide_eq_false c_86
                refine wq_s 90 rfl ?_
                refine wq_s 92 rfl ?_
                refine wq_icmp 114 rfl rfl (by omega) (by omega) (fun c_92 => ?_) (fun c_92 => ?_)
                · have c_92 := of_decide_eq_true c_92
                  refine wq_s 115 rfl ?_
                  refine wq_s 116 rfl ?_
                  refine wq_icmp 135 rfl rfl (by omega) (by omega) (fun c_116 => ?_) (fun c_116 => ?_)
                  · have c_116 := of_decide_eq_true c_116
                    exact hnone (fun z => by have := hall z (by omega); omega)
                  · have c_116 := of_decide_eq_false c_116
                    refine wq_s 120 rfl ?_
                    refine wq_s 122 rfl ?_
                    refine wq_icmp 135 rfl rfl (by omega) (by omega) (fun c_122 => ?_) (fun c_122 => ?_)
                    · have c_122 := of_decide_eq_true c_122
                      exact hnone (fun z => by have := hall z (by omega); omega)
                    · have c_122 := of_decide_eq_false c_122
                      refine wq_s 126 rfl ?_
                      refine wq_s 127 rfl ?_
                      refine wq_s 128 rfl ?_
                      refine wq_s 130 rfl ?_
                      refine wq_s 131 rfl ?_
                      refine we_sub (v - 1) 132 rfl rfl (by omega) (by omega) ?_
                      obtain ⟨pn, e_p⟩ := Int.eq_ofNat_of_zero_le (show 0 ≤ p by omega)
                      subst e_p
                      obtain ⟨en, e_e⟩ := Int.eq_ofNat_of_zero_le (show 0 ≤ v - 1 by omega)
                      have e_v : v = ((en + 1 : Nat) : Int) := by omega
                      subst e_v
                      have e_r : r = 3 := by omega
                      subst e_r
                      rw [show ((en + 1 : Nat) : Int) - 1 = ((en : Nat) : Int) by omega]
                      refine wq_vt3 135 rfl rfl (Nat.le_of_ble_eq_true rfl) (hC.lt (by omega)) (hC.ty 17 _ rfl) rfl (Nat.le_of_ble_eq_true rfl) (c_markClaiming (p := pn) (e := en) hC hb hS hB hH (by omega) (by omega)) (fun z M3 hz => ?_)
                      obtain ⟨rfl, hG3, hF3⟩ := hz
                      dsimp only [Option.toList, List.cons_append, List.nil_append]
                      refine wq_s 136 rfl ?_
                      refine wq_getR 139 rfl rfl (hC.lt (by omega)) (hC.ty 17 _ rfl) rfl ?_
                      refine wq_getE (v := ((insN X 3 (pn : Int) ((en + 1 : Nat) : Int) : Nat) : Int)) 2 142 rfl rfl (hC.lt (by omega)) (hC.ty 15 _ rfl) rfl rfl hG3.2 ?_
                      exact wq_ret rfl ⟨rfl, hG3, fun a h1 h2 _ => hF3 a h1 h2⟩
                · have c_92 := of_decide_eq_false c_92
                  refine wq_s 96 rfl ?_
                  refine wq_s 98 rfl ?_
                  refine wq_icmp 114 rfl rfl (by omega) (by omega) (fun c_98 => ?_) (fun c_98 => ?_)
                  · have c_98 := of_decide_eq_true c_98
                    refine wq_s 115 rfl ?_
                    refine wq_s 116 rfl ?_
                    refine wq_icmp 135 rfl rfl (by omega) (by omega) (fun c_116 => ?_) (fun c_116 => ?_)
                    · have c_116 := of_decide_eq_true c_116
                      exact hnone (fun z => by have := hall z (by omega); omega)
                    · have c_116 := of_decide_eq_false c_116
                      refine wq_s 120 rfl ?_
                      refine wq_s 122 rfl ?_
                      refine wq_icmp 135 rfl rfl (by omega) (by omega) (fun c_122 => ?_) (fun c_122 => ?_)
                      · have c_122 := of_decide_eq_true c_122
                        exact hnone (fun z => by have := hall z (by omega); omega)
                      · have c_122 := of_decide_eq_false c_122
                        refine wq_s 126 rfl ?_
                        refine wq_s 127 rfl ?_
                        refine wq_s 128 rfl ?_
                        refine wq_s 130 rfl ?_
                        refine wq_s 131 rfl ?_
                        refine we_sub (v - 1) 132 rfl rfl (by omega) (by omega) ?_
                        obtain ⟨pn, e_p⟩ := Int.eq_ofNat_of_zero_le (show 0 ≤ p by omega)
                        subst e_p
                        obtain ⟨en, e_e⟩ := Int.eq_ofNat_of_zero_le (show 0 ≤ v - 1 by omega)
                        have e_v : v = ((en + 1 : Nat) : Int) := by omega
                        subst e_v
                        have e_r : r = 3 := by omega
                        subst e_r
                        rw [show ((en + 1 : Nat) : Int) - 1 = ((en : Nat) : Int) by omega]
                        refine wq_vt3 135 rfl rfl (Nat.le_of_ble_eq_true rfl) (hC.lt (by omega)) (hC.ty 17 _ rfl) rfl (Nat.le_of_ble_eq_true rfl) (c_markClaiming (p := pn) (e := en) hC hb hS hB hH (by omega) (by omega)) (fun z M3 hz => ?_)
                        obtain ⟨rfl, hG3, hF3⟩ := hz
                        dsimp only [Option.toList, List.cons_append, List.nil_append]
                        refine wq_s 136 rfl ?_
                        refine wq_getR 139 rfl rfl (hC.lt (by omega)) (hC.ty 17 _ rfl) rfl ?_
                        refine wq_getE (v := ((insN X 3 (pn : Int) ((en + 1 : Nat) : Int) : Nat) : Int)) 2 142 rfl rfl (hC.lt (by omega)) (hC.ty 15 _ rfl) rfl rfl hG3.2 ?_
                        exact wq_ret rfl ⟨rfl, hG3, fun a h1 h2 _ => hF3 a h1 h2⟩
                  · have c_98 := of_decide_eq_false c_98
                    refine wq_s 102 rfl ?_
                    refine wq_s 103 rfl ?_
                    refine wq_s 104 rfl ?_
                    refine wq_s 106 rfl ?_
                    refine wq_s 107 rfl ?_
                    refine we_sub (v - 1) 108 rfl rfl (by omega) (by omega) ?_
                    obtain ⟨pn, e_p⟩ := Int.eq_ofNat_of_zero_le (show 0 ≤ p by omega)
                    subst e_p
                    obtain ⟨en, e_e⟩ := Int.eq_ofNat_of_zero_le (show 0 ≤ v - 1 by omega)
                    have e_v : v = ((en + 1 : Nat) : Int) := by omega
                    subst e_v
                    have e_r : r = 2 := by omega
                    subst e_r
                    rw [show ((en + 1 : Nat) : Int) - 1 = ((en : Nat) : Int) by omega]
                    refine wq_vt3 111 rfl rfl (Nat.le_of_ble_eq_true rfl) (hC.lt (by omega)) (hC.ty 17 _ rfl) rfl (Nat.le_of_ble_eq_true rfl) (c_markPointing (p := pn) (e := en) hC hb hS hB hH (by omega) (by omega)) (fun z M3 hz => ?_)
                    obtain ⟨rfl, hG3, hF3⟩ := hz
                    dsimp only [Option.toList, List.cons_append, List.nil_append]
                    refine wq_s 135 rfl ?_
                    refine wq_s 136 rfl ?_
                    refine wq_getR 139 rfl rfl (hC.lt (by omega)) (hC.ty 17 _ rfl) rfl ?_
                    refine wq_getE (v := ((insN X 2 (pn : Int) ((en + 1 : Nat) : Int) : Nat) : Int)) 2 142 rfl rfl (hC.lt (by omega)) (hC.ty 15 _ rfl) rfl rfl hG3.2 ?_
                    exact wq_ret rfl ⟨rfl, hG3, fun a h1 h2 _ => hF3 a h1 h2⟩
            · have c_62 := of_decide_eq_false c_62
              refine wq_s 66 rfl ?_
              refine wq_s 68 rfl ?_
              refine wq_icmp 84 rfl rfl (by omega) (by omega) (fun c_68 => ?_) (fun c_68 => ?_)
              · have c_68 := of_decide_eq_true c_68
                refine wq_s 85 rfl ?_
                refine wq_s 86 rfl ?_
                refine wq_icmp 114 rfl rfl (by omega) (by omega) (fun c_86 => ?_) (fun c_86 => ?_)
                · have c_86 := of_decide_eq_true c_86
                  refine wq_s 115 rfl ?_
                  refine wq_s 116 rfl ?_
                  refine wq_icmp 135 rfl rfl (by omega) (by omega) (fun c_116 => ?_) (fun c_116 => ?_)
                  · have c_116 := of_decide_eq_true c_116
                    exact hnone (fun z => by have := hall z (by omega); omega)
                  · have c_116 := of_decide_eq_false c_116
                    refine wq_s 120 rfl ?_
                    refine wq_s 122 rfl ?_
                    refine wq_icmp 135 rfl rfl (by omega) (by omega) (fun c_122 => ?_) (fun c_122 => ?_)
                    · have c_122 := of_decide_eq_true c_122
                      exact hnone (fun z => by have := hall z (by omega); omega)
                    · have c_122 := of_decide_eq_false c_122
                      refine wq_s 126 rfl ?_
                      refine wq_s 127 rfl ?_
                      refine wq_s 128 rfl ?_
                      refine wq_s 130 rfl ?_
                      refine wq_s 131 rfl ?_
                      refine we_sub (v - 1) 132 rfl rfl (by omega) (by omega) ?_
                      obtain ⟨pn, e_p⟩ := Int.eq_ofNat_of_zero_le (show 0 ≤ p by omega)
                      subst e_p
                      obtain ⟨en, e_e⟩ := Int.eq_ofNat_of_zero_le (show 0 ≤ v - 1 by omega)
                      have e_v : v = ((en + 1 : Nat) : Int) := by omega
                      subst e_v
                      have e_r : r = 3 := by omega
                      subst e_r
                      rw [show ((en + 1 : Nat) : Int) - 1 = ((en : Nat) : Int) by omega]
                      refine wq_vt3 135 rfl rfl (Nat.le_of_ble_eq_true rfl) (hC.lt (by omega)) (hC.ty 17 _ rfl) rfl (Nat.le_of_ble_eq_true rfl) (c_markClaiming (p := pn) (e := en) hC hb hS hB hH (by omega) (by omega)) (fun z M3 hz => ?_)
                      obtain ⟨rfl, hG3, hF3⟩ := hz
                      dsimp only [Option.toList, List.cons_append, List.nil_append]
                      refine wq_s 136 rfl ?_
                      refine wq_getR 139 rfl rfl (hC.lt (by omega)) (hC.ty 17 _ rfl) rfl ?_
                      refine wq_getE (v := ((insN X 3 (pn : Int) ((en + 1 : Nat) : Int) : Nat) : Int)) 2 142 rfl rfl (hC.lt (by omega)) (hC.ty 15 _ rfl) rfl rfl hG3.2 ?_
                      exact wq_ret rfl ⟨rfl, hG3, fun a h1 h2 _ => hF3 a h1 h2⟩
                · have c_86 := of_decide_eq_false c_86
                  refine wq_s 90 rfl ?_
                  refine wq_s 92 rfl ?_
                  refine wq_icmp 114 rfl rfl (by omega) (by omega) (fun c_92 => ?_) (fun c_92 => ?_)
                  · have c_92 := of_decide_eq_true c_92
                    refine wq_s 115 rfl ?_
                    refine wq_s 116 rfl ?_
                    refine wq_icmp 135 rfl rfl (by omega) (by omega) (fun c_116 => ?_) (fun c_116 => ?_)
                    · have c_116 := of_decide_eq_true c_116
                      exact hnone (fun z => by have := hall z (by omega); omega)
                    · have c_116 := of_decide_eq_false c_116
                      refine wq_s 120 rfl ?_
                      refine wq_s 122 rfl ?_
                      refine wq_icmp 135 rfl rfl (by omega) (by omega) (fun c_122 => ?_) (fun c_122 => ?_)
                      · have c_122 := of_decide_eq_true c_122
                        exact hnone (fun z => by have := hall z (by omega); omega)
                      · have c_122 := of_decide_eq_false c_122
                        refine wq_s 126 rfl ?_
                        refine wq_s 127 rfl ?_
                        refine wq_s 128 rfl ?_
                        refine wq_s 130 rfl ?_
                        refine wq_s 131 rfl ?_
                        refine we_sub (v - 1) 132 rfl rfl (by omega) (by omega) ?_
                        obtain ⟨pn, e_p⟩ := Int.eq_ofNat_of_zero_le (show 0 ≤ p by omega)
                        subst e_p
                        obtain ⟨en, e_e⟩ := Int.eq_ofNat_of_zero_le (show 0 ≤ v - 1 by omega)
                        have e_v : v = ((en + 1 : Nat) : Int) := by omega
                        subst e_v
                        have e_r : r = 3 := by omega
                        subst e_r
                        rw [show ((en + 1 : Nat) : Int) - 1 = ((en : Nat) : Int) by omega]
                        refine wq_vt3 135 rfl rfl (Nat.le_of_ble_eq_true rfl) (hC.lt (by omega)) (hC.ty 17 _ rfl) rfl (Nat.le_of_ble_eq_true rfl) (c_markClaiming (p := pn) (e := en) hC hb hS hB hH (by omega) (by omega)) (fun z M3 hz => ?_)
                        obtain ⟨rfl, hG3, hF3⟩ := hz
                        dsimp only [Option.toList, List.cons_append, List.nil_append]
                        refine wq_s 136 rfl ?_
                        refine wq_getR 139 rfl rfl (hC.lt (by omega)) (hC.ty 17 _ rfl) rfl ?_
                        refine wq_getE (v := ((insN X 3 (pn : Int) ((en + 1 : Nat) : Int) : Nat) : Int)) 2 142 rfl rfl (hC.lt (by omega)) (hC.ty 15 _ rfl) rfl rfl hG3.2 ?_
                        exact wq_ret rfl ⟨rfl, hG3, fun a h1 h2 _ => hF3 a h1 h2⟩
                  · have c_92 := of_decide_eq_false c_92
                    refine wq_s 96 rfl ?_
                    refine wq_s 98 rfl ?_
                    refine wq_icmp 114 rfl rfl (by omega) (by omega) (fun c_98 => ?_) (fun c_98 => ?_)
                    · have c_98 := of_decide_eq_true c_98
                      refine wq_s 115 rfl ?_
                      refine wq_s 116 rfl ?_
                      refine wq_icmp 135 rfl rfl (by omega) (by omega) (fun c_116 => ?_) (fun c_116 => ?_)
                      · have c_116 := of_decide_eq_true c_116
                        exact hnone (fun z => by have := hall z (by omega); omega)
                      · have c_116 := of_decide_eq_false c_116
                        refine wq_s 120 rfl ?_
                        refine wq_s 122 rfl ?_
                        refine wq_icmp 135 rfl rfl (by omega) (by omega) (fun c_122 => ?_) (fun c_122 => ?_)
                        · have c_122 := of_decide_eq_true c_122
                          exact hnone (fun z => by have := hall z (by omega); omega)
                        · have c_122 := of_decide_eq_false c_122
                          refine wq_s 126 rfl ?_
                          refine wq_s 127 rfl ?_
                          refine wq_s 128 rfl ?_
                          refine wq_s 130 rfl ?_
                          refine wq_s 131 rfl ?_
                          refine we_sub (v - 1) 132 rfl rfl (by omega) (by omega) ?_
                          obtain ⟨pn, e_p⟩ := Int.eq_ofNat_of_zero_le (show 0 ≤ p by omega)
                          subst e_p
                          obtain ⟨en, e_e⟩ := Int.eq_ofNat_of_zero_le (show 0 ≤ v - 1 by omega)
                          have e_v : v = ((en + 1 : Nat) : Int) := by omega
                          subst e_v
                          have e_r : r = 3 := by omega
                          subst e_r
                          rw [show ((en + 1 : Nat) : Int) - 1 = ((en : Nat) : Int) by omega]
                          refine wq_vt3 135 rfl rfl (Nat.le_of_ble_eq_true rfl) (hC.lt (by omega)) (hC.ty 17 _ rfl) rfl (Nat.le_of_ble_eq_true rfl) (c_markClaiming (p := pn) (e := en) hC hb hS hB hH (by omega) (by omega)) (fun z M3 hz => ?_)
                          obtain ⟨rfl, hG3, hF3⟩ := hz
                          dsimp only [Option.toList, List.cons_append, List.nil_append]
                          refine wq_s 136 rfl ?_
                          refine wq_getR 139 rfl rfl (hC.lt (by omega)) (hC.ty 17 _ rfl) rfl ?_
                          refine wq_getE (v := ((insN X 3 (pn : Int) ((en + 1 : Nat) : Int) : Nat) : Int)) 2 142 rfl rfl (hC.lt (by omega)) (hC.ty 15 _ rfl) rfl rfl hG3.2 ?_
                          exact wq_ret rfl ⟨rfl, hG3, fun a h1 h2 _ => hF3 a h1 h2⟩
                    · have c_98 := of_decide_eq_false c_98
                      refine wq_s 102 rfl ?_
                      refine wq_s 103 rfl ?_
                      refine wq_s 104 rfl ?_
                      refine wq_s 106 rfl ?_
                      refine wq_s 107 rfl ?_
                      refine we_sub (v - 1) 108 rfl rfl (by omega) (by omega) ?_
                      obtain ⟨pn, e_p⟩ := Int.eq_ofNat_of_zero_le (show 0 ≤ p by omega)
                      subst e_p
                      obtain ⟨en, e_e⟩ := Int.eq_ofNat_of_zero_le (show 0 ≤ v - 1 by omega)
                      have e_v : v = ((en + 1 : Nat) : Int) := by omega
                      subst e_v
                      have e_r : r = 2 := by omega
                      subst e_r
                      rw [show ((en + 1 : Nat) : Int) - 1 = ((en : Nat) : Int) by omega]
                      refine wq_vt3 111 rfl rfl (Nat.le_of_ble_eq_true rfl) (hC.lt (by omega)) (hC.ty 17 _ rfl) rfl (Nat.le_of_ble_eq_true rfl) (c_markPointing (p := pn) (e := en) hC hb hS hB hH (by omega) (by omega)) (fun z M3 hz => ?_)
                      obtain ⟨rfl, hG3, hF3⟩ := hz
                      dsimp only [Option.toList, List.cons_append, List.nil_append]
                      refine wq_s 135 rfl ?_
                      refine wq_s 136 rfl ?_
                      refine wq_getR 139 rfl rfl (hC.lt (by omega)) (hC.ty 17 _ rfl) rfl ?_
                      refine wq_getE (v := ((insN X 2 (pn : Int) ((en + 1 : Nat) : Int) : Nat) : Int)) 2 142 rfl rfl (hC.lt (by omega)) (hC.ty 15 _ rfl) rfl rfl hG3.2 ?_
                      exact wq_ret rfl ⟨rfl, hG3, fun a h1 h2 _ => hF3 a h1 h2⟩
              · have c_68 := of_decide_eq_false c_68
                refine wq_s 72 rfl ?_
                refine wq_s 73 rfl ?_
                refine wq_s 74 rfl ?_
                refine wq_s 76 rfl ?_
                refine wq_s 77 rfl ?_
                refine we_sub (v - 1) 78 rfl rfl (by omega) (by omega) ?_
                obtain ⟨pn, e_p⟩ := Int.eq_ofNat_of_zero_le (show 0 ≤ p by omega)
                subst e_p
                obtain ⟨en, e_e⟩ := Int.eq_ofNat_of_zero_le (show 0 ≤ v - 1 by omega)
                have e_v : v = ((en + 1 : Nat) : Int) := by omega
                subst e_v
                have e_r : r = 1 := by omega
                subst e_r
                rw [show ((en + 1 : Nat) : Int) - 1 = ((en : Nat) : Int) by omega]
                refine wq_vt3 81 rfl rfl (Nat.le_of_ble_eq_true rfl) (hC.lt (by omega)) (hC.ty 17 _ rfl) rfl (Nat.le_of_ble_eq_true rfl) (c_markHidden (p := pn) (e := en) hC hb hS hB hH (by omega) (by omega)) (fun z M3 hz => ?_)
                obtain ⟨rfl, hG3, hF3⟩ := hz
                dsimp only [Option.toList, List.cons_append, List.nil_append]
                refine wq_s 135 rfl ?_
                refine wq_s 136 rfl ?_
                refine wq_getR 139 rfl rfl (hC.lt (by omega)) (hC.ty 17 _ rfl) rfl ?_
                refine wq_getE (v := ((insN X 1 (pn : Int) ((en + 1 : Nat) : Int) : Nat) : Int)) 2 142 rfl rfl (hC.lt (by omega)) (hC.ty 15 _ rfl) rfl rfl hG3.2 ?_
                exact wq_ret rfl ⟨rfl, hG3, fun a h1 h2 _ => hF3 a h1 h2⟩
          · have c_38 := of_decide_eq_false c_38
            refine wq_s 42 rfl ?_
            refine wq_s 44 rfl ?_
            refine wq_icmp 60 rfl rfl (by omega) (by omega) (fun c_44 => ?_) (fun c_44 => ?_)
            · have c_44 := of_decide_eq_true c_44
              refine wq_s 61 rfl ?_
              refine wq_s 62 rfl ?_
              refine wq_icmp 84 rfl rfl (by omega) (by omega) (fun c_62 => ?_) (fun c_62 => ?_)
              · have c_62 := of_decide_eq_true c_62
                refine wq_s 85 rfl ?_
                refine wq_s 86 rfl ?_
                refine wq_icmp 114 rfl rfl (by omega) (by omega) (fun c_86 => ?_) (fun c_86 => ?_)
                · have c_86 := of_decide_eq_true c_86
                  refine wq_s 115 rfl ?_
                  refine wq_s 116 rfl ?_
                  refine wq_icmp 135 rfl rfl (by omega) (by omega) (fun c_116 => ?_) (fun c_116 => ?_)
                  · have c_116 := of_decide_eq_true c_116
                    exact hnone (fun z => by have := hall z (by omega); omega)
                  · have c_116 := of_decide_eq_false c_116
                    refine wq_s 120 rfl ?_
                    refine wq_s 122 rfl ?_
                    refine wq_icmp 135 rfl rfl (by omega) (by omega) (fun c_122 => ?_) (fun c_122 => ?_)
                    · have c_122 := of_decide_eq_true c_122
                      exact hnone (fun z => by have := hall z (by omega); omega)
                    · have c_122 := of_decide_eq_false c_122
                      refine wq_s 126 rfl ?_
                      refine wq_s 127 rfl ?_
                      refine wq_s 128 rfl ?_
                      refine wq_s 130 rfl ?_
                      refine wq_s 131 rfl ?_
                      refine we_sub (v - 1) 132 rfl rfl (by omega) (by omega) ?_
                      obtain ⟨pn, e_p⟩ := Int.eq_ofNat_of_zero_le (show 0 ≤ p by omega)
                      subst e_p
                      obtain ⟨en, e_e⟩ := Int.eq_ofNat_of_zero_le (show 0 ≤ v - 1 by omega)
                      have e_v : v = ((en + 1 : Nat) : Int) := by omega
                      subst e_v
                      have e_r : r = 3 := by omega
                      subst e_r
                      rw [show ((en + 1 : Nat) : Int) - 1 = ((en : Nat) : Int) by omega]
                      refine wq_vt3 135 rfl rfl (Nat.le_of_ble_eq_true rfl) (hC.lt (by omega)) (hC.ty 17 _ rfl) rfl (Nat.le_of_ble_eq_true rfl) (c_markClaiming (p := pn) (e := en) hC hb hS hB hH (by omega) (by omega)) (fun z M3 hz => ?_)
                      obtain ⟨rfl, hG3, hF3⟩ := hz
                      dsimp only [Option.toList, List.cons_append, List.nil_append]
                      refine wq_s 136 rfl ?_
                      refine wq_getR 139 rfl rfl (hC.lt (by omega)) (hC.ty 17 _ rfl) rfl ?_
                      refine wq_getE (v := ((insN X 3 (pn : Int) ((en + 1 : Nat) : Int) : Nat) : Int)) 2 142 rfl rfl (hC.lt (by omega)) (hC.ty 15 _ rfl) rfl rfl hG3.2 ?_
                      exact wq_ret rfl ⟨rfl, hG3, fun a h1 h2 _ => hF3 a h1 h2⟩
                · have c_86 := of_decide_eq_false c_86
                  refine wq_s 90 rfl ?_
                  refine wq_s 92 rfl ?_
                  refine wq_icmp 114 rfl rfl (by omega) (by omega) (fun c_92 => ?_) (fun c_92 => ?_)
                  · have c_92 := of_decide_eq_true c_92
                    refine wq_s 115 rfl ?_
                    refine wq_s 116 rfl ?_
                    refine wq_icmp 135 rfl rfl (by omega) (by omega) (fun c_116 => ?_) (fun c_116 => ?_)
                    · have c_116 := of_decide_eq_true c_116
                      exact hnone (fun z => by have := hall z (by omega); omega)
                    · have c_116 := of_decide_eq_false c_116
                      refine wq_s 120 rfl ?_
                      refine wq_s 122 rfl ?_
                      refine wq_icmp 135 rfl rfl (by omega) (by omega) (fun c_122 => ?_) (fun c_122 => ?_)
                      · have c_122 := of_decide_eq_true c_122
                        exact hnone (fun z => by have := hall z (by omega); omega)
                      · have c_122 := of_decide_eq_false c_122
                        refine wq_s 126 rfl ?_
                        refine wq_s 127 rfl ?_
                        refine wq_s 128 rfl ?_
                        refine wq_s 130 rfl ?_
                        refine wq_s 131 rfl ?_
                        refine we_sub (v - 1) 132 rfl rfl (by omega) (by omega) ?_
                        obtain ⟨pn, e_p⟩ := Int.eq_ofNat_of_zero_le (show 0 ≤ p by omega)
                        subst e_p
                        obtain ⟨en, e_e⟩ := Int.eq_ofNat_of_zero_le (show 0 ≤ v - 1 by omega)
                        have e_v : v = ((en + 1 : Nat) : Int) := by omega
                        subst e_v
                        have e_r : r = 3 := by omega
                        subst e_r
                        rw [show ((en + 1 : Nat) : Int) - 1 = ((en : Nat) : Int) by omega]
                        refine wq_vt3 135 rfl rfl (Nat.le_of_ble_eq_true rfl) (hC.lt (by omega)) (hC.ty 17 _ rfl) rfl (Nat.le_of_ble_eq_true rfl) (c_markClaiming (p := pn) (e := en) hC hb hS hB hH (by omega) (by omega)) (fun z M3 hz => ?_)
                        obtain ⟨rfl, hG3, hF3⟩ := hz
                        dsimp only [Option.toList, List.cons_append, List.nil_append]
                        refine wq_s 136 rfl ?_
                        refine wq_getR 139 rfl rfl (hC.lt (by omega)) (hC.ty 17 _ rfl) rfl ?_
                        refine wq_getE (v := ((insN X 3 (pn : Int) ((en + 1 : Nat) : Int) : Nat) : Int)) 2 142 rfl rfl (hC.lt (by omega)) (hC.ty 15 _ rfl) rfl rfl hG3.2 ?_
                        exact wq_ret rfl ⟨rfl, hG3, fun a h1 h2 _ => hF3 a h1 h2⟩
                  · have c_92 := of_decide_eq_false c_92
                    refine wq_s 96 rfl ?_
                    refine wq_s 98 rfl ?_
                    refine wq_icmp 114 rfl rfl (by omega) (by omega) (fun c_98 => ?_) (fun c_98 => ?_)
                    · have c_98 := of_decide_eq_true c_98
                      refine wq_s 115 rfl ?_
                      refine wq_s 116 rfl ?_
                      refine wq_icmp 135 rfl rfl (by omega) (by omega) (fun c_116 => ?_) (fun c_116 => ?_)
                      · have c_116 := of_decide_eq_true c_116
                        exact hnone (fun z => by have := hall z (by omega); omega)
                      · have c_116 := of_decide_eq_false c_116
                        refine wq_s 120 rfl ?_
                        refine wq_s 122 rfl ?_
                        refine wq_icmp 135 rfl rfl (by omega) (by omega) (fun c_122 => ?_) (fun c_122 => ?_)
                        · have c_122 := of_decide_eq_true c_122
                          exact hnone (fun z => by have := hall z (by omega); omega)
                        · have c_122 := of_decide_eq_false c_122
                          refine wq_s 126 rfl ?_
                          refine wq_s 127 rfl ?_
                          refine wq_s 128 rfl ?_
                          refine wq_s 130 rfl ?_
                          refine wq_s 131 rfl ?_
                          refine we_sub (v - 1) 132 rfl rfl (by omega) (by omega) ?_
                          obtain ⟨pn, e_p⟩ := Int.eq_ofNat_of_zero_le (show 0 ≤ p by omega)
                          subst e_p
                          obtain ⟨en, e_e⟩ := Int.eq_ofNat_of_zero_le (show 0 ≤ v - 1 by omega)
                          have e_v : v = ((en + 1 : Nat) : Int) := by omega
                          subst e_v
                          have e_r : r = 3 := by omega
                          subst e_r
                          rw [show ((en + 1 : Nat) : Int) - 1 = ((en : Nat) : Int) by omega]
                          refine wq_vt3 135 rfl rfl (Nat.le_of_ble_eq_true rfl) (hC.lt (by omega)) (hC.ty 17 _ rfl) rfl (Nat.le_of_ble_eq_true rfl) (c_markClaiming (p := pn) (e := en) hC hb hS hB hH (by omega) (by omega)) (fun z M3 hz => ?_)
                          obtain ⟨rfl, hG3, hF3⟩ := hz
                          dsimp only [Option.toList, List.cons_append, List.nil_append]
                          refine wq_s 136 rfl ?_
                          refine wq_getR 139 rfl rfl (hC.lt (by omega)) (hC.ty 17 _ rfl) rfl ?_
                          refine wq_getE (v := ((insN X 3 (pn : Int) ((en + 1 : Nat) : Int) : Nat) : Int)) 2 142 rfl rfl (hC.lt (by omega)) (hC.ty 15 _ rfl) rfl rfl hG3.2 ?_
                          exact wq_ret rfl ⟨rfl, hG3, fun a h1 h2 _ => hF3 a h1 h2⟩
                    · have c_98 := of_decide_eq_false c_98
                      refine wq_s 102 rfl ?_
                      refine wq_s 103 rfl ?_
                      refine wq_s 104 rfl ?_
                      refine wq_s 106 rfl ?_
                      refine wq_s 107 rfl ?_
                      refine we_sub (v - 1) 108 rfl rfl (by omega) (by omega) ?_
                      obtain ⟨pn, e_p⟩ := Int.eq_ofNat_of_zero_le (show 0 ≤ p by omega)
                      subst e_p
                      obtain ⟨en, e_e⟩ := Int.eq_ofNat_of_zero_le (show 0 ≤ v - 1 by omega)
                      have e_v : v = ((en + 1 : Nat) : Int) := by omega
                      subst e_v
                      have e_r : r = 2 := by omega
                      subst e_r
                      rw [show ((en + 1 : Nat) : Int) - 1 = ((en : Nat) : Int) by omega]
                      refine wq_vt3 111 rfl rfl (Nat.le_of_ble_eq_true rfl) (hC.lt (by omega)) (hC.ty 17 _ rfl) rfl (Nat.le_of_ble_eq_true rfl) (c_markPointing (p := pn) (e := en) hC hb hS hB hH (by omega) (by omega)) (fun z M3 hz => ?_)
                      obtain ⟨rfl, hG3, hF3⟩ := hz
                      dsimp only [Option.toList, List.cons_append, List.nil_append]
                      refine wq_s 135 rfl ?_
                      refine wq_s 136 rfl ?_
                      refine wq_getR 139 rfl rfl (hC.lt (by omega)) (hC.ty 17 _ rfl) rfl ?_
                      refine wq_getE (v := ((insN X 2 (pn : Int) ((en + 1 : Nat) : Int) : Nat) : Int)) 2 142 rfl rfl (hC.lt (by omega)) (hC.ty 15 _ rfl) rfl rfl hG3.2 ?_
                      exact wq_ret rfl ⟨rfl, hG3, fun a h1 h2 _ => hF3 a h1 h2⟩
              · have c_62 := of_decide_eq_false c_62
                refine wq_s 66 rfl ?_
                refine wq_s 68 rfl ?_
                refine wq_icmp 84 rfl rfl (by omega) (by omega) (fun c_68 => ?_) (fun c_68 => ?_)
                · have c_68 := of_decide_eq_true c_68
                  refine wq_s 85 rfl ?_
                  refine wq_s 86 rfl ?_
                  refine wq_icmp 114 rfl rfl (by omega) (by omega) (fun c_86 => ?_) (fun c_86 => ?_)
                  · have c_86 := of_decide_eq_true c_86
                    refine wq_s 115 rfl ?_
                    refine wq_s 116 rfl ?_
                    refine wq_icmp 135 rfl rfl (by omega) (by omega) (fun c_116 => ?_) (fun c_116 => ?_)
                    · have c_116 := of_decide_eq_true c_116
                      exact hnone (fun z => by have := hall z (by omega); omega)
                    · have c_116 := of_decide_eq_false c_116
                      refine wq_s 120 rfl ?_
                      refine wq_s 122 rfl ?_
                      refine wq_icmp 135 rfl rfl (by omega) (by omega) (fun c_122 => ?_) (fun c_122 => ?_)
                      · have c_122 := of_decide_eq_true c_122
                        exact hnone (fun z => by have := hall z (by omega); omega)
                      · have c_122 := of_decide_eq_false c_122
                        refine wq_s 126 rfl ?_
                        refine wq_s 127 rfl ?_
                        refine wq_s 128 rfl ?_
                        refine wq_s 130 rfl ?_
                        refine wq_s 131 rfl ?_
                        refine we_sub (v - 1) 132 rfl rfl (by omega) (by omega) ?_
                        obtain ⟨pn, e_p⟩ := Int.eq_ofNat_of_zero_le (show 0 ≤ p by omega)
                        subst e_p
                        obtain ⟨en, e_e⟩ := Int.eq_ofNat_of_zero_le (show 0 ≤ v - 1 by omega)
                        have e_v : v = ((en + 1 : Nat) : Int) := by omega
                        subst e_v
                        have e_r : r = 3 := by omega
                        subst e_r
                        rw [show ((en + 1 : Nat) : Int) - 1 = ((en : Nat) : Int) by omega]
                        refine wq_vt3 135 rfl rfl (Nat.le_of_ble_eq_true rfl) (hC.lt (by omega)) (hC.ty 17 _ rfl) rfl (Nat.le_of_ble_eq_true rfl) (c_markClaiming (p := pn) (e := en) hC hb hS hB hH (by omega) (by omega)) (fun z M3 hz => ?_)
                        obtain ⟨rfl, hG3, hF3⟩ := hz
                        dsimp only [Option.toList, List.cons_append, List.nil_append]
                        refine wq_s 136 rfl ?_
                        refine wq_getR 139 rfl rfl (hC.lt (by omega)) (hC.ty 17 _ rfl) rfl ?_
                        refine wq_getE (v := ((insN X 3 (pn : Int) ((en + 1 : Nat) : Int) : Nat) : Int)) 2 142 rfl rfl (hC.lt (by omega)) (hC.ty 15 _ rfl) rfl rfl hG3.2 ?_
                        exact wq_ret rfl ⟨rfl, hG3, fun a h1 h2 _ => hF3 a h1 h2⟩
                  · have c_86 := of_decide_eq_false c_86
                    refine wq_s 90 rfl ?_
                    refine wq_s 92 rfl ?_
                    refine wq_icmp 114 rfl rfl (by omega) (by omega) (fun c_92 => ?_) (fun c_92 => ?_)
                    · have c_92 := of_decide_eq_true c_92
                      refine wq_s 115 rfl ?_
                      refine wq_s 116 rfl ?_
                      refine wq_icmp 135 rfl rfl (by omega) (by omega) (fun c_116 => ?_) (fun c_116 => ?_)
                      · have c_116 := of_decide_eq_true c_116
                        exact hnone (fun z => by have := hall z (by omega); omega)
                      · have c_116 := of_decide_eq_false c_116
                        refine wq_s 120 rfl ?_
                        refine wq_s 122 rfl ?_
                        refine wq_icmp 135 rfl rfl (by omega) (by omega) (fun c_122 => ?_) (fun c_122 => ?_)
                        · have c_122 := of_decide_eq_true c_122
                          exact hnone (fun z => by have := hall z (by omega); omega)
                        · have c_122 := of_decide_eq_false c_122
                          refine wq_s 126 rfl ?_
                          refine wq_s 127 rfl ?_
                          refine wq_s 128 rfl ?_
                          refine wq_s 130 rfl ?_
                          refine wq_s 131 rfl ?_
                          refine we_sub (v - 1) 132 rfl rfl (by omega) (by omega) ?_
                          obtain ⟨pn, e_p⟩ := Int.eq_ofNat_of_zero_le (show 0 ≤ p by omega)
                          subst e_p
                          obtain ⟨en, e_e⟩ := Int.eq_ofNat_of_zero_le (show 0 ≤ v - 1 by omega)
                          have e_v : v = ((en + 1 : Nat) : Int) := by omega
                          subst e_v
                          have e_r : r = 3 := by omega
                          subst e_r
                          rw [show ((en + 1 : Nat) : Int) - 1 = ((en : Nat) : Int) by omega]
                          refine wq_vt3 135 rfl rfl (Nat.le_of_ble_eq_true rfl) (hC.lt (by omega)) (hC.ty 17 _ rfl) rfl (Nat.le_of_ble_eq_true rfl) (c_markClaiming (p := pn) (e := en) hC hb hS hB hH (by omega) (by omega)) (fun z M3 hz => ?_)
                          obtain ⟨rfl, hG3, hF3⟩ := hz
                          dsimp only [Option.toList, List.cons_append, List.nil_append]
                          refine wq_s 136 rfl ?_
                          refine wq_getR 139 rfl rfl (hC.lt (by omega)) (hC.ty 17 _ rfl) rfl ?_
                          refine wq_getE (v := ((insN X 3 (pn : Int) ((en + 1 : Nat) : Int) : Nat) : Int)) 2 142 rfl rfl (hC.lt (by omega)) (hC.ty 15 _ rfl) rfl rfl hG3.2 ?_
                          exact wq_ret rfl ⟨rfl, hG3, fun a h1 h2 _ => hF3 a h1 h2⟩
                    · have c_92 := of_decide_eq_false c_92
                      refine wq_s 96 rfl ?_
                      refine wq_s 98 rfl ?_
                      refine wq_icmp 114 rfl rfl (by omega) (by omega) (fun c_98 => ?_) (fun c_98 => ?_)
                      · have c_98 := of_decide_eq_true c_98
                        refine wq_s 115 rfl ?_
                        refine wq_s 116 rfl ?_
                        refine wq_icmp 135 rfl rfl (by omega) (by omega) (fun c_116 => ?_) (fun c_116 => ?_)
                        · have c_116 := of_decide_eq_true c_116
                          exact hnone (fun z => by have := hall z (by omega); omega)
                        · have c_116 := of_decide_eq_false c_116
                          refine wq_s 120 rfl ?_
                          refine wq_s 122 rfl ?_
                          refine wq_icmp 135 rfl rfl (by omega) (by omega) (fun c_122 => ?_) (fun c_122 => ?_)
                          · have c_122 := of_decide_eq_true c_122
                            exact hnone (fun z => by have := hall z (by omega); omega)
                          · have c_122 := of_decide_eq_false c_122
                            refine wq_s 126 rfl ?_
                            refine wq_s 127 rfl ?_
                            refine wq_s 128 rfl ?_
                            refine wq_s 130 rfl ?_
                            refine wq_s 131 rfl ?_
                            refine we_sub (v - 1) 132 rfl rfl (by omega) (by omega) ?_
                            obtain ⟨pn, e_p⟩ := Int.eq_ofNat_of_zero_le (show 0 ≤ p by omega)
                            subst e_p
                            obtain ⟨en, e_e⟩ := Int.eq_ofNat_of_zero_le (show 0 ≤ v - 1 by omega)
                            have e_v : v = ((en + 1 : Nat) : Int) := by omega
                            subst e_v
                            have e_r : r = 3 := by omega
                            subst e_r
                            rw [show ((en + 1 : Nat) : Int) - 1 = ((en : Nat) : Int) by omega]
                            refine wq_vt3 135 rfl rfl (Nat.le_of_ble_eq_true rfl) (hC.lt (by omega)) (hC.ty 17 _ rfl) rfl (Nat.le_of_ble_eq_true rfl) (c_markClaiming (p := pn) (e := en) hC hb hS hB hH (by omega) (by omega)) (fun z M3 hz => ?_)
                            obtain ⟨rfl, hG3, hF3⟩ := hz
                            dsimp only [Option.toList, List.cons_append, List.nil_append]
                            refine wq_s 136 rfl ?_
                            refine wq_getR 139 rfl rfl (hC.lt (by omega)) (hC.ty 17 _ rfl) rfl ?_
                            refine wq_getE (v := ((insN X 3 (pn : Int) ((en + 1 : Nat) : Int) : Nat) : Int)) 2 142 rfl rfl (hC.lt (by omega)) (hC.ty 15 _ rfl) rfl rfl hG3.2 ?_
                            exact wq_ret rfl ⟨rfl, hG3, fun a h1 h2 _ => hF3 a h1 h2⟩
                      · have c_98 := of_decide_eq_false c_98
                        refine wq_s 102 rfl ?_
                        refine wq_s 103 rfl ?_
                        refine wq_s 104 rfl ?_
                        refine wq_s 106 rfl ?_
                        refine wq_s 107 rfl ?_
                        refine we_sub (v - 1) 108 rfl rfl (by omega) (by omega) ?_
                        obtain ⟨pn, e_p⟩ := Int.eq_ofNat_of_zero_le (show 0 ≤ p by omega)
                        subst e_p
                        obtain ⟨en, e_e⟩ := Int.eq_ofNat_of_zero_le (show 0 ≤ v - 1 by omega)
                        have e_v : v = ((en + 1 : Nat) : Int) := by omega
                        subst e_v
                        have e_r : r = 2 := by omega
                        subst e_r
                        rw [show ((en + 1 : Nat) : Int) - 1 = ((en : Nat) : Int) by omega]
                        refine wq_vt3 111 rfl rfl (Nat.le_of_ble_eq_true rfl) (hC.lt (by omega)) (hC.ty 17 _ rfl) rfl (Nat.le_of_ble_eq_true rfl) (c_markPointing (p := pn) (e := en) hC hb hS hB hH (by omega) (by omega)) (fun z M3 hz => ?_)
                        obtain ⟨rfl, hG3, hF3⟩ := hz
                        dsimp only [Option.toList, List.cons_append, List.nil_append]
                        refine wq_s 135 rfl ?_
                        refine wq_s 136 rfl ?_
                        refine wq_getR 139 rfl rfl (hC.lt (by omega)) (hC.ty 17 _ rfl) rfl ?_
                        refine wq_getE (v := ((insN X 2 (pn : Int) ((en + 1 : Nat) : Int) : Nat) : Int)) 2 142 rfl rfl (hC.lt (by omega)) (hC.ty 15 _ rfl) rfl rfl hG3.2 ?_
                        exact wq_ret rfl ⟨rfl, hG3, fun a h1 h2 _ => hF3 a h1 h2⟩
                · have c_68 := of_decide_eq_false c_68
                  refine wq_s 72 rfl ?_
                  refine wq_s 73 rfl ?_
                  refine wq_s 74 rfl ?_
                  refine wq_s 76 rfl ?_
                  refine wq_s 77 rfl ?_
                  refine we_sub (v - 1) 78 rfl rfl (by omega) (by omega) ?_
                  obtain ⟨pn, e_p⟩ := Int.eq_ofNat_of_zero_le (show 0 ≤ p by omega)
                  subst e_p
                  obtain ⟨en, e_e⟩ := Int.eq_ofNat_of_zero_le (show 0 ≤ v - 1 by omega)
                  have e_v : v = ((en + 1 : Nat) : Int) := by omega
                  subst e_v
                  have e_r : r = 1 := by omega
                  subst e_r
                  rw [show ((en + 1 : Nat) : Int) - 1 = ((en : Nat) : Int) by omega]
                  refine wq_vt3 81 rfl rfl (Nat.le_of_ble_eq_true rfl) (hC.lt (by omega)) (hC.ty 17 _ rfl) rfl (Nat.le_of_ble_eq_true rfl) (c_markHidden (p := pn) (e := en) hC hb hS hB hH (by omega) (by omega)) (fun z M3 hz => ?_)
                  obtain ⟨rfl, hG3, hF3⟩ := hz
                  dsimp only [Option.toList, List.cons_append, List.nil_append]
                  refine wq_s 135 rfl ?_
                  refine wq_s 136 rfl ?_
                  refine wq_getR 139 rfl rfl (hC.lt (by omega)) (hC.ty 17 _ rfl) rfl ?_
                  refine wq_getE (v := ((insN X 1 (pn : Int) ((en + 1 : Nat) : Int) : Nat) : Int)) 2 142 rfl rfl (hC.lt (by omega)) (hC.ty 15 _ rfl) rfl rfl hG3.2 ?_
                  exact wq_ret rfl ⟨rfl, hG3, fun a h1 h2 _ => hF3 a h1 h2⟩
            · have c_44 := of_decide_eq_false c_44
              refine wq_s 48 rfl ?_
              refine wq_s 49 rfl ?_
              refine wq_s 50 rfl ?_
              refine wq_s 52 rfl ?_
              refine wq_s 53 rfl ?_
              refine we_sub (v - 1) 54 rfl rfl (by omega) (by omega) ?_
              obtain ⟨pn, e_p⟩ := Int.eq_ofNat_of_zero_le (show 0 ≤ p by omega)
              subst e_p
              obtain ⟨en, e_e⟩ := Int.eq_ofNat_of_zero_le (show 0 ≤ v - 1 by omega)
              have e_v : v = ((en + 1 : Nat) : Int) := by omega
              subst e_v
              have e_r : r = 0 := by omega
              subst e_r
              rw [show ((en + 1 : Nat) : Int) - 1 = ((en : Nat) : Int) by omega]
              refine wq_vt3 57 rfl rfl (Nat.le_of_ble_eq_true rfl) (hC.lt (by omega)) (hC.ty 17 _ rfl) rfl (Nat.le_of_ble_eq_true rfl) (c_markSingle (p := pn) (e := en) hC hb hS hB hH (by omega) (by omega)) (fun z M3 hz => ?_)
              obtain ⟨rfl, hG3, hF3⟩ := hz
              dsimp only [Option.toList, List.cons_append, List.nil_append]
              refine wq_s 135 rfl ?_
              refine wq_s 136 rfl ?_
              refine wq_getR 139 rfl rfl (hC.lt (by omega)) (hC.ty 17 _ rfl) rfl ?_
              refine wq_getE (v := ((insN X 0 (pn : Int) ((en + 1 : Nat) : Int) : Nat) : Int)) 2 142 rfl rfl (hC.lt (by omega)) (hC.ty 15 _ rfl) rfl rfl hG3.2 ?_
              exact wq_ret rfl ⟨rfl, hG3, fun a h1 h2 _ => hF3 a h1 h2⟩
        · have c_32 := of_decide_eq_false c_32
          have hn : ¬ insC X r p v := fun z => by have := hall z (by omega); omega
          refine wq_s 36 rfl ?_
          exact wq_ret rfl ⟨by rw [insN_f hn]; rfl, hH.no hn, fun _ _ _ _ => rfl⟩
  · have c_2 := of_decide_eq_false c_2
    refine wq_s 6 rfl ?_
    refine wq_getR 9 rfl rfl (hC.lt (by omega)) (hC.ty 17 _ rfl) rfl ?_
    refine wq_s 10 rfl ?_
    refine wq_s 11 rfl ?_
    refine wq_s 12 rfl ?_
    refine wq_s 14 rfl ?_
    refine wq_vt4 17 rfl rfl (Nat.le_of_ble_eq_true rfl) (hC.lt (by omega)) (hC.ty 18 _ rfl) rfl (Nat.le_of_ble_eq_true rfl) (c_X6_mark hC hb hS hB hT hH hr hp hv (by omega)) (fun z M3 hz => ?_)
    obtain ⟨rfl, hG3, hF3⟩ := hz
    dsimp only [Option.toList, List.cons_append, List.nil_append]
    exact wq_ret rfl ⟨rfl, hG3, hF3⟩
