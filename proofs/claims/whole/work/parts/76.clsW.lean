/-! listAllStrong, walked -/
theorem c_listAllStrong {d : Nat} {G : GT} {M : MT} {b : Nat} {X : Nat → Nat} (hC : ClsG G) (hb : IsBd b) (hS : ShpAt M) (hB : BdC M b X) : Mq (d + 2) k_X1_listAllStrong [vR 24, vR b] G M (fun z M' => z = none ∧ SgAt M' (strongC X) ∧ ∀ a, a ≠ 25 → a ≠ 26 → M' a = M a) := by
  have hX : ∀ c, c < 81 → X c < 512 := fun c hc => (hB.1 c hc).2
  have L_71 : ∀ (f h : Nat) (M2 : MT) (y3 : Option AV) (y4 : Option AV) (y5 : Option AV) (y6 : Option AV) (y7 : Option AV), 27 - h < f → h ≤ 27 → (SgAt M2 (HsR X (9 * h))) → (∀ a, a ≠ 25 → a ≠ 26 → M2 a = M a) → Wq (d + 2) k_X1_listAllStrong 71 [some (vR 24), some (vR b), some (vI ((h : Nat) : Int)), y3, y4, y5, y6, y7] [] G M2 (fun z M' => z = none ∧ SgAt M' (strongC X) ∧ ∀ a, a ≠ 25 → a ≠ 26 → M' a = M a) := by
    intro f
    induction f with
    | zero => intro h M2 y3 y4 y5 y6 y7 h; exact absurd h (by omega)
    | succ f ih_h =>
      intro h M2 y3 y4 y5 y6 y7 hf_h hk_h a1 a2
      refine wq_s 72 rfl ?_
      refine wq_s 74 rfl ?_
      refine wq_icmp 188 rfl rfl (by omega) (by omega) (fun c_74 => ?_) (fun c_74 => ?_)
      · have c_74 := of_decide_eq_true c_74
        have e9 : h = 27 := by omega
        subst e9
        exact wq_ret rfl ⟨rfl, a1.ext (fun n m h1 h2 => HsR.all h1 h2), a2⟩
      · have c_74 := of_decide_eq_false c_74
        have L_79 : ∀ (f2 e : Nat) (M2 : MT) (y4 : Option AV) (y5 : Option AV) (y6 : Option AV) (y7 : Option AV), 9 - e < f2 → e ≤ 9 → (SgAt M2 (HsR X (9 * h + e))) → (∀ a, a ≠ 25 → a ≠ 26 → M2 a = M a) → Wq (d + 2) k_X1_listAllStrong 79 [some (vR 24), some (vR b), some (vI ((h : Nat) : Int)), some (vI ((e : Nat) : Int)), y4, y5, y6, y7] [] G M2 (fun z M' => z = none ∧ SgAt M' (strongC X) ∧ ∀ a, a ≠ 25 → a ≠ 26 → M' a = M a) := by
          intro f2
          induction f2 with
          | zero => intro e M2 y4 y5 y6 y7 h; exact absurd h (by omega)
          | succ f2 ih_e =>
            intro e M2 y4 y5 y6 y7 hf_e hk_e a1 a2
            refine wq_s 80 rfl ?_
            refine wq_s 82 rfl ?_
            refine wq_icmp 182 rfl rfl (by omega) (by omega) (fun c_82 => ?_) (fun c_82 => ?_)
            · have c_82 := of_decide_eq_true c_82
              refine we_inc 2 1 ((h + 1 : Nat) : Int) 185 _ rfl rfl rfl (by omega) (by omega) rfl ?_
              refine wq_s 71 rfl ?_
              exact ih_h (h + 1) _ _ _ _ _ _ (by omega) (by omega) (by rw [show 9 * (h + 1) = 9 * h + e by omega]; exact a1) a2
            · have c_82 := of_decide_eq_false c_82
              have hv9 := plH_lt X h e
              refine wq_s 86 rfl ?_
              refine wq_getR 89 rfl rfl (hC.lt (by omega)) (hC.bd hb).1 rfl ?_
              refine wq_s 91 rfl ?_
              refine wq_s 92 rfl ?_
              refine we_mul ((9 * h : Nat) : Int) 93 rfl rfl (by omega) (by omega) ?_
              refine wq_s 94 rfl ?_
              refine we_add (((9 * h) + e : Nat) : Int) 95 rfl rfl (by omega) (by omega) ?_
              refine wq_iald (v := ((plH X h e : Nat) : Int)) 96 rfl rfl (hC.lt (by omega)).2 (hC.bd hb).2.2.1 (by omega) (by omega) (by omega) (by rw [a2 _ (by omega) (by omega)]; exact hB.2 h e (by omega) (by omega)) ?_
              refine wq_s 98 rfl ?_
              refine wq_s 100 rfl ?_
              refine wq_st1 103 rfl rfl (by decide) (Nat.le_of_ble_eq_true rfl) rfl (Nat.le_of_ble_eq_true rfl) (c_bitCount (n := plH X h e) hv9) (fun r M1 hr => ?_)
              obtain ⟨rfl, hM1⟩ := hr
              subst M1
              dsimp only [Option.toList, List.cons_append, List.nil_append]
              have hpp := pop9_le (plH X h e)
              refine wq_s 104 rfl ?_
              refine wq_icmp 176 rfl rfl (by omega) (by omega) (fun c_104 => ?_) (fun c_104 => ?_)
              · have c_104 := of_decide_eq_true c_104
                refine we_inc 3 1 ((e + 1 : Nat) : Int) 179 _ rfl rfl rfl (by omega) (by omega) rfl ?_
                refine wq_s 79 rfl ?_
                exact ih_e (e + 1) _ _ _ _ _ (by omega) (by omega) (a1.ext (fun n m _ _ => HsR.non (by omega) (by omega))) a2
              · have c_104 := of_decide_eq_false c_104
                obtain ⟨x, y, xy, y9, hxy, hlow, hxor, tx, ty, tu⟩ := pop2N hv9 (show pop9 (plH X h e) = 2 by omega)
                have hpx : 2 ^ x ≤ 2 ^ 8 := Nat.pow_le_pow_right (by decide) (by omega)
                have cx := (ce_ok (show h < 27 by omega) (show x < 9 by omega)).2.2
                have cy := (ce_ok (show h < 27 by omega) y9).2.2
                refine wq_s 109 rfl ?_
                refine wq_s 111 rfl ?_
                refine wq_s 112 rfl ?_
                refine wq_s 113 rfl ?_
                rw [hlow]
                refine wq_s 115 rfl ?_
                refine wq_s 116 rfl ?_
                refine wq_getR 119 rfl rfl (hC.lt (by omega)) (hC.ty 20 _ rfl) rfl ?_
                refine wq_getR 122 rfl rfl (hC.lt (by omega)) (hC.ty 1 _ rfl) rfl ?_
                refine wq_s 124 rfl ?_
                refine wq_s 125 rfl ?_
                refine we_mul ((9 * h : Nat) : Int) 126 rfl rfl (by omega) (by omega) ?_
                refine wq_s 128 rfl ?_
                refine wq_st1 131 rfl rfl (by decide) (Nat.le_of_ble_eq_true rfl) rfl (Nat.le_of_ble_eq_true rfl) (c_placeOf (e := x) (by omega)) (fun r M1 hr => ?_)
                obtain ⟨rfl, hM1⟩ := hr
                subst M1
                dsimp only [Option.toList, List.cons_append, List.nil_append]
                refine we_add (((9 * h) + x : Nat) : Int) 132 rfl rfl (by omega) (by omega) ?_
                refine wq_iald (v := ((ceN h x : Nat) : Int)) 133 rfl rfl (hC.lt (by omega)).2 (hC.ty 2 _ rfl) (by omega) (by omega) (by omega) (by rw [a2 _ (by decide) (by decide)]; exact hS.1 h x (by omega) (by omega)) ?_
                refine wq_s 135 rfl ?_
                refine wq_s 136 rfl ?_
                refine wq_getR 139 rfl rfl (hC.lt (by omega)) (hC.ty 20 _ rfl) rfl ?_
                refine wq_getR 142 rfl rfl (hC.lt (by omega)) (hC.ty 1 _ rfl) rfl ?_
                refine wq_s 144 rfl ?_
                refine wq_s 145 rfl ?_
                refine we_mul ((9 * h : Nat) : Int) 146 rfl rfl (by omega) (by omega) ?_
                refine wq_s 148 rfl ?_
                refine wq_s 150 rfl ?_
                refine we_xor (plH X h e) (2 ^ x) (2 ^ y) 151 rfl rfl rfl rfl (by omega) (by omega) hxor ?_
                refine wq_st1 154 rfl rfl (by decide) (Nat.le_of_ble_eq_true rfl) rfl (Nat.le_of_ble_eq_true rfl) (c_placeOf (e := y) (by omega)) (fun r M1 hr => ?_)
                obtain ⟨rfl, hM1⟩ := hr
                subst M1
                dsimp only [Option.toList, List.cons_append, List.nil_append]
                refine we_add (((9 * h) + y : Nat) : Int) 155 rfl rfl (by omega) (by omega) ?_
                refine wq_iald (v := ((ceN h y : Nat) : Int)) 156 rfl rfl (hC.lt (by omega)).2 (hC.ty 2 _ rfl) (by omega) (by omega) (by omega) (by rw [a2 _ (by decide) (by decide)]; exact hS.1 h y (by omega) (by omega)) ?_
                refine wq_s 158 rfl ?_
                refine wq_s 159 rfl ?_
                refine wq_s 161 rfl ?_
                refine wq_s 163 rfl ?_
                refine we_mul ((9 * (ceN h x) : Nat) : Int) 164 rfl rfl (by omega) (by omega) ?_
                refine wq_s 165 rfl ?_
                refine we_add (((9 * (ceN h x)) + e : Nat) : Int) 166 rfl rfl (by omega) (by omega) ?_
                refine wq_s 168 rfl ?_
                refine wq_s 170 rfl ?_
                refine we_mul ((9 * (ceN h y) : Nat) : Int) 171 rfl rfl (by omega) (by omega) ?_
                refine wq_s 172 rfl ?_
                refine we_add (((9 * (ceN h y)) + e : Nat) : Int) 173 rfl rfl (by omega) (by omega) ?_
                refine wq_vt2 176 rfl rfl (Nat.le_of_ble_eq_true rfl) (hC.lt (by omega)) (hC.ty 20 _ rfl) rfl (Nat.le_of_ble_eq_true rfl) (c_addStrongPair (u := (9 * (ceN h x)) + e) (v := (9 * (ceN h y)) + e) hC hX (by omega) (by omega) a1 (fun n m h1 h2 z => z.elim (fun z => z.2.2) (fun ⟨_, _, _, _, z⟩ => z.str h1 h2)) (((HsR.suc (n := (9 * (ceN h x)) + e) (m := (9 * (ceN h y)) + e) (by omega) (by omega) (by omega) (by omega) (by omega) y9 xy tx ty tu).1 (Or.inr (Or.inl ⟨rfl, rfl⟩))).elim (fun z => z.2.2) (fun ⟨_, _, _, _, z⟩ => z.str (by omega) (by omega)))) (fun z M3 hz => ?_)
                obtain ⟨rfl, hS3, hF3⟩ := hz
                dsimp only [Option.toList, List.cons_append, List.nil_append]
                refine we_inc 3 1 ((e + 1 : Nat) : Int) 179 _ rfl rfl rfl (by omega) (by omega) rfl ?_
                refine wq_s 79 rfl ?_
                exact ih_e (e + 1) _ _ _ _ _ (by omega) (by omega) (hS3.ext (fun n m h1 h2 => HsR.suc h1 h2 (by omega) (by omega) (by omega) y9 xy tx ty tu)) (fun a h1 h2 => (hF3 a h1 h2).trans (a2 a h1 h2))
        refine wq_s 78 rfl ?_
        refine wq_s 79 rfl ?_
        exact L_79 10 0 _ _ _ _ _ (by omega) (by omega) a1 a2
  have L_10 : ∀ (f c : Nat) (M2 : MT) (y3 : Option AV) (y4 : Option AV), 81 - c < f → c ≤ 81 → (SgAt M2 (CsR X c)) → (∀ a, a ≠ 25 → a ≠ 26 → M2 a = M a) → Wq (d + 2) k_X1_listAllStrong 10 [some (vR 24), some (vR b), some (vI ((c : Nat) : Int)), y3, y4, none, none, none] [] G M2 (fun z M' => z = none ∧ SgAt M' (strongC X) ∧ ∀ a, a ≠ 25 → a ≠ 26 → M' a = M a) := by
    intro f
    induction f with
    | zero => intro c M2 y3 y4 h; exact absurd h (by omega)
    | succ f ih_c =>
      intro c M2 y3 y4 hf_c hk_c a1 a2
      refine wq_s 11 rfl ?_
      refine wq_s 13 rfl ?_
      refine wq_icmp 69 rfl rfl (by omega) (by omega) (fun c_13 => ?_) (fun c_13 => ?_)
      · have c_13 := of_decide_eq_true c_13
        have e9 : c = 81 := by omega
        subst e9
        refine wq_s 70 rfl ?_
        refine wq_s 71 rfl ?_
        exact L_71 28 0 _ _ _ _ _ _ (by omega) (by omega) (a1.ext (fun n m _ _ => ⟨Or.inl, fun z => z.elim id (fun ⟨_, _, _, z2, _⟩ => absurd z2 (Nat.not_lt_zero _))⟩)) a2
      · have c_13 := of_decide_eq_false c_13
        have hv9 := hX c (by omega)
        refine wq_s 17 rfl ?_
        refine wq_getR 20 rfl rfl (hC.lt (by omega)) (hC.bd hb).1 rfl ?_
        refine wq_s 21 rfl ?_
        refine wq_iald (v := ((X c : Nat) : Int)) 22 rfl rfl (hC.lt (by omega)).2 (hC.bd hb).2.1 (by omega) (by omega) (by omega) (by rw [a2 _ (by omega) (by omega)]; exact (hB.1 c (by omega)).1) ?_
        refine wq_s 23 rfl ?_
        refine wq_s 24 rfl ?_
        refine wq_st1 27 rfl rfl (by decide) (Nat.le_of_ble_eq_true rfl) rfl (Nat.le_of_ble_eq_true rfl) (c_bitCount (n := X c) hv9) (fun r M1 hr => ?_)
        obtain ⟨rfl, hM1⟩ := hr
        subst M1
        dsimp only [Option.toList, List.cons_append, List.nil_append]
        have hpp := pop9_le (X c)
        refine wq_s 28 rfl ?_
        refine wq_icmp 63 rfl rfl (by omega) (by omega) (fun c_28 => ?_) (fun c_28 => ?_)
        · have c_28 := of_decide_eq_true c_28
          refine we_inc 2 1 ((c + 1 : Nat) : Int) 66 _ rfl rfl rfl (by omega) (by omega) rfl ?_
          refine wq_s 10 rfl ?_
          exact ih_c (c + 1) _ _ _ (by omega) (by omega) (a1.ext (fun n m _ _ => CsR.non (by omega))) a2
        · have c_28 := of_decide_eq_false c_28
          obtain ⟨x, y, xy, y9, hxy, hlow, hxor, tx, ty, tu⟩ := pop2N hv9 (show pop9 (X c) = 2 by omega)
          have hpx : 2 ^ x ≤ 2 ^ 8 := Nat.pow_le_pow_right (by decide) (by omega)
          refine wq_s 32 rfl ?_
          refine wq_s 33 rfl ?_
          refine wq_s 34 rfl ?_
          refine wq_s 35 rfl ?_
          rw [hlow]
          refine wq_s 37 rfl ?_
          refine wq_s 38 rfl ?_
          refine wq_s 40 rfl ?_
          refine wq_s 41 rfl ?_
          refine we_mul ((9 * c : Nat) : Int) 42 rfl rfl (by omega) (by omega) ?_
          refine wq_s 44 rfl ?_
          refine wq_st1 47 rfl rfl (by decide) (Nat.le_of_ble_eq_true rfl) rfl (Nat.le_of_ble_eq_true rfl) (c_placeOf (e := x) (by omega)) (fun r M1 hr => ?_)
          obtain ⟨rfl, hM1⟩ := hr
          subst M1
          dsimp only [Option.toList, List.cons_append, List.nil_append]
          refine we_add (((9 * c) + x : Nat) : Int) 48 rfl rfl (by omega) (by omega) ?_
          refine wq_s 50 rfl ?_
          refine wq_s 51 rfl ?_
          refine we_mul ((9 * c : Nat) : Int) 52 rfl rfl (by omega) (by omega) ?_
          refine wq_s 53 rfl ?_
          refine wq_s 55 rfl ?_
          refine we_xor (X c) (2 ^ x) (2 ^ y) 56 rfl rfl rfl rfl (by omega) (by omega) hxor ?_
          refine wq_st1 59 rfl rfl (by decide) (Nat.le_of_ble_eq_true rfl) rfl (Nat.le_of_ble_eq_true rfl) (c_placeOf (e := y) (by omega)) (fun r M1 hr => ?_)
          obtain ⟨rfl, hM1⟩ := hr
          subst M1
          dsimp only [Option.toList, List.cons_append, List.nil_append]
          refine we_add (((9 * c) + y : Nat) : Int) 60 rfl rfl (by omega) (by omega) ?_
          refine wq_vt2 63 rfl rfl (Nat.le_of_ble_eq_true rfl) (hC.lt (by omega)) (hC.ty 20 _ rfl) rfl (Nat.le_of_ble_eq_true rfl) (c_addStrongPair (u := (9 * c) + x) (v := (9 * c) + y) hC hX (by omega) (by omega) a1 (fun n m _ _ z => z.2.2) ((CsR.suc (n := (9 * c) + x) (m := (9 * c) + y) hv9 (by omega) y9 xy tx ty tu).1 (Or.inr (Or.inl ⟨rfl, rfl⟩))).2.2) (fun z M3 hz => ?_)
          obtain ⟨rfl, hS3, hF3⟩ := hz
          dsimp only [Option.toList, List.cons_append, List.nil_append]
          refine we_inc 2 1 ((c + 1 : Nat) : Int) 66 _ rfl rfl rfl (by omega) (by omega) rfl ?_
          refine wq_s 10 rfl ?_
          exact ih_c (c + 1) _ _ _ (by omega) (by omega) (hS3.ext (fun n m _ _ => CsR.suc hv9 (by omega) y9 xy tx ty tu)) (fun a h1 h2 => (hF3 a h1 h2).trans (a2 a h1 h2))
  refine wq_s 1 rfl ?_
  refine wq_getR 4 rfl rfl (hC.lt (by omega)) (hC.ty 20 _ rfl) rfl ?_
  refine wq_s 5 rfl ?_
  refine wq_st2 8 rfl rfl (by decide) (Nat.le_of_ble_eq_true rfl) rfl (Nat.le_of_ble_eq_true rfl) (c_fill0 (q := 26) (N := 729) (hC.lt (by omega)) (hC.ty 22 _ rfl) (by decide)) (fun z M1 hz => ?_)
  obtain ⟨rfl, hM1⟩ := hz
  dsimp only [Option.toList, List.cons_append, List.nil_append]
  refine wq_s 9 rfl ?_
  refine wq_s 10 rfl ?_
  refine L_10 82 0 M1 _ _ (by omega) (by omega) (fun n hn => ?_) (fun a h1 h2 => by rw [hM1, setA_ne h2])
  have e0 : flP (CsR X 0 n) 729 = [] := (flP_skip (a := 0) (Nat.zero_le _) (fun m _ _ z => absurd z.2.1 (Nat.not_lt_zero _))).trans rfl
  rw [e0]
  refine ⟨?_, Nat.zero_le _, fun i hi => absurd hi (Nat.not_lt_zero _)⟩
  rw [hM1, setA_lo (by omega) (by omega)]
  rfl
