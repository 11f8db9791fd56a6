/-! the solver: keepAlone, closePlace, closeCell, close -/
theorem ka_tb {x b k : Nat} : andN x (2 ^ b) &&& 2 ^ k = 0 ↔ ¬ (x.testBit k = true ∧ k ≠ b) := by
  constructor
  · rintro h ⟨h1, h2⟩
    refine nz_of (i := k) ?_ h
    rw [Nat.testBit_and, Bool.and_eq_true, andN_tb, pow_tb, pow_tb]
    exact ⟨⟨h1, h2⟩, rfl⟩
  · intro h
    apply tb_ext
    intro i
    rw [Nat.testBit_and, Bool.and_eq_true, andN_tb, pow_tb, pow_tb, Nat.zero_testBit]
    constructor
    · rintro ⟨⟨h1, h2⟩, h3⟩
      subst h3
      exact absurd ⟨h1, h2⟩ h
    · intro z; cases z
theorem an_tb {x k : Nat} : x &&& 2 ^ k = 0 ↔ ¬ x.testBit k = true := by
  constructor
  · intro h h1
    refine nz_of (i := k) ?_ h
    rw [Nat.testBit_and, Bool.and_eq_true, pow_tb]
    exact ⟨h1, rfl⟩
  · intro h
    apply tb_ext
    intro i
    rw [Nat.testBit_and, Bool.and_eq_true, pow_tb, Nat.zero_testBit]
    constructor
    · rintro ⟨h1, h3⟩
      subst h3
      exact absurd h1 h
    · intro z; cases z
theorem ka_next {A B : Nat → Nat} {cl b k : Nat} (h : ∀ x y, (A x).testBit y = true ↔ ((B x).testBit y = true ∧ ¬ (x = cl ∧ y ≠ b ∧ y < k))) (hn : ¬ ((A cl).testBit k = true ∧ k ≠ b)) : ∀ x y, (A x).testBit y = true ↔ ((B x).testBit y = true ∧ ¬ (x = cl ∧ y ≠ b ∧ y < k + 1)) := by
  intro x y
  constructor
  · intro z
    refine ⟨((h x y).1 z).1, ?_⟩
    rintro ⟨h1, h2, h3⟩
    by_cases h4 : y = k
    · subst h1 h4
      exact hn ⟨z, h2⟩
    · exact ((h x y).1 z).2 ⟨h1, h2, by omega⟩
  · rintro ⟨h1, h2⟩
    exact (h x y).2 ⟨h1, fun z => h2 ⟨z.1, z.2.1, by omega⟩⟩
theorem ka_drop {A B : Nat → Nat} {cl b k : Nat} (hk : k < 9) (hb : (A cl).testBit k = true) (hne : k ≠ b) (h : ∀ x y, (A x).testBit y = true ↔ ((B x).testBit y = true ∧ ¬ (x = cl ∧ y ≠ b ∧ y < k))) : ∀ x y, (xoA A (9 * cl + k) x).testBit y = true ↔ ((B x).testBit y = true ∧ ¬ (x = cl ∧ y ≠ b ∧ y < k + 1)) := by
  intro x y
  rw [xoA_tb, h x y, show (9 * cl + k) / 9 = cl by omega, show (9 * cl + k) % 9 = k by omega]
  have h0 := (h cl k).1 hb
  constructor
  · rintro (⟨⟨h1, h2⟩, h3⟩ | ⟨h1, h2, h3⟩)
    · exact ⟨h1, fun z => h2 ⟨z.1, z.2.1, (by have hyk : ¬ y = k := (fun w => h3 ⟨z.1, w⟩); omega)⟩⟩
    · subst h2 h3
      exact absurd h0 h1
  · rintro ⟨h1, h2⟩
    refine Or.inl ⟨⟨h1, fun z => h2 ⟨z.1, z.2.1, by omega⟩⟩, ?_⟩
    rintro ⟨z1, z2⟩
    subst z2
    exact h2 ⟨z1, hne, by omega⟩
theorem c_keepAlone {d : Nat} {G : GT} {M : MT} {Y W : Nat → Nat} {lg EL : List Nat} {i cl b : Nat} (hC : ClsG G) (hS : ShpAt M) (hY : ∀ c, c < 81 → Y c < 512) (hV : SvC M Y lg EL 0) (hI : ClI W (drF Y lg) EL i 0) (hi : i ≤ EL.length) (hc : cl < 81) (hb9 : b < 9) (hk : ∀ Z, ClosedI Z → Undead Z → SubB Z W → ∀ y, (Z cl).testBit y = true → y = b) : Mq (d + 3) k_X5_keepAlone [vR 45, vI (cl : Int), vI ((2 ^ b : Nat) : Int)] G M (fun z M' => z = none ∧ (∃ lg2 EL' dd', SvC M' Y (lg ++ lg2) EL' dd' ∧ ClI W (drF Y (lg ++ lg2)) EL' i dd' ∧ (∃ R, EL' = EL ++ R) ∧ (dd' = 0 → ∀ x y, x < 81 → ((drF Y (lg ++ lg2) x).testBit y = true ↔ ((drF Y lg x).testBit y = true ∧ ¬ (x = cl ∧ y ≠ b))))) ∧ FrC M M') := by
  have hX := (hV.2.1.all hY).2
  have hpb : 2 ^ b ≤ 2 ^ 8 := Nat.pow_le_pow_right (by decide) (by omega)
  have L_2 : ∀ (f k : Nat) (lg2 : List Nat) (EL2 : List Nat) (dd2 : Nat) (M2 : MT), 9 - k < f → k ≤ 9 → (SvC M2 Y (lg ++ lg2) EL2 dd2) → (ClI W (drF Y (lg ++ lg2)) EL2 i dd2) → (∃ R, EL2 = EL ++ R) → (dd2 = 0 → ∀ x y, (drF Y (lg ++ lg2) x).testBit y = true ↔ ((drF Y lg x).testBit y = true ∧ ¬ (x = cl ∧ y ≠ b ∧ y < k))) → (FrC M M2) → Wq (d + 3) k_X5_keepAlone 2 [some (vR 45), some (vI ((cl : Nat) : Int)), some (vI ((2 ^ b : Nat) : Int)), some (vI ((k : Nat) : Int))] [] G M2 (fun z M' => z = none ∧ (∃ lg2 EL' dd', SvC M' Y (lg ++ lg2) EL' dd' ∧ ClI W (drF Y (lg ++ lg2)) EL' i dd' ∧ (∃ R, EL' = EL ++ R) ∧ (dd' = 0 → ∀ x y, x < 81 → ((drF Y (lg ++ lg2) x).testBit y = true ↔ ((drF Y lg x).testBit y = true ∧ ¬ (x = cl ∧ y ≠ b))))) ∧ FrC M M') := by
    intro f
    induction f with
    | zero => intro k lg2 EL2 dd2 M2 h; exact absurd h (by omega)
    | succ f ih_k =>
      intro k lg2 EL2 dd2 M2 hf_k hk_k b1 b2 b3 b4 b5
      have hd2 := b2.len.2
      refine wq_s 3 rfl ?_
      refine wq_s 5 rfl ?_
      refine wq_icmp 47 rfl rfl (by omega) (by omega) (fun c_5 => ?_) (fun c_5 => ?_)
      · have c_5 := of_decide_eq_true c_5
        exact wq_ret rfl ⟨rfl, ⟨lg2, EL2, dd2, b1, b2, b3, fun h0 x y hx => (b4 h0 x y).trans ⟨fun z => ⟨z.1, fun w => z.2 ⟨w.1, w.2, by have := tb_lt9 (hX x hx) z.1; omega⟩⟩, fun z => ⟨z.1, fun w => z.2 ⟨w.1, w.2.1⟩⟩⟩⟩, b5⟩
      · have c_5 := of_decide_eq_false c_5
        refine wq_s 9 rfl ?_
        refine wq_getE (v := ((dd2 : Nat) : Int)) 4 12 rfl rfl (hC.lt (by omega)) (hC.ty 41 _ rfl) rfl rfl b1.2.2.2.1 ?_
        refine wq_if 47 rfl rfl (by omega) (fun c_12 => ?_) (fun c_12 => ?_)
        · have c_12 := of_decide_eq_true c_12
          exact wq_ret rfl ⟨rfl, ⟨lg2, EL2, dd2, b1, b2, b3, fun h0 => absurd h0 (by omega)⟩, b5⟩
        · have c_12 := of_decide_eq_false c_12
          have e9 : dd2 = 0 := by omega
          subst e9
          obtain ⟨w, hw⟩ : ∃ w, w = andN (drF Y (lg ++ lg2) cl) (2 ^ b) &&& 2 ^ k := ⟨_, rfl⟩
          have hx5 := (b1.1.1.1 cl hc).2
          have han : andN (drF Y (lg ++ lg2) cl) (2 ^ b) < 2 ^ 9 := andN_lt (k := 9) hx5
          have hw5 : w < 512 := by rw [hw]; exact Nat.lt_of_le_of_lt Nat.and_le_left han
          have hpk : 2 ^ k ≤ 2 ^ 8 := Nat.pow_le_pow_right (by decide) (by omega)
          refine wq_s 16 rfl ?_
          refine wq_getR 19 rfl rfl (hC.lt (by omega)) (hC.ty 41 _ rfl) rfl ?_
          refine wq_getR 22 rfl rfl (hC.lt (by omega)) (hC.ty 47 _ rfl) rfl ?_
          refine wq_s 23 rfl ?_
          refine wq_iald (v := ((drF Y (lg ++ lg2) cl : Nat) : Int)) 24 rfl rfl (hC.lt (by omega)).2 (hC.ty 48 _ rfl) (by omega) (by omega) (by omega) (b1.1.1.1 cl hc).1 ?_
          refine wq_s 25 rfl ?_
          refine wq_s 26 rfl ?_
          refine we_not (2 ^ b) 27 rfl rfl rfl (by omega) ?_
          refine we_andn (drF Y (lg ++ lg2) cl) (2 ^ b) (andN (drF Y (lg ++ lg2) cl) (2 ^ b)) 28 rfl rfl rfl (by omega) rfl ?_
          refine wq_s 29 rfl ?_
          refine wq_s 30 rfl ?_
          refine we_shl 1 k (2 ^ k) 31 rfl rfl rfl rfl (by omega) (Nat.one_mul _) (by omega) ?_
          refine we_and (andN (drF Y (lg ++ lg2) cl) (2 ^ b)) (2 ^ k) w 32 rfl rfl rfl rfl (by omega) hw.symm ?_
          refine wq_if 41 rfl rfl (by omega) (fun c_32 => ?_) (fun c_32 => ?_)
          · have c_32 := of_decide_eq_true c_32
            refine we_inc 3 1 ((k + 1 : Nat) : Int) 44 _ rfl rfl rfl (by omega) (by omega) rfl ?_
            refine wq_s 2 rfl ?_
            exact ih_k (k + 1) lg2 EL2 0 M2 (by omega) (by omega) b1 b2 b3 (fun _ => ka_next (b4 rfl) (ka_tb.1 (hw.symm.trans (by omega)))) b5
          · have c_32 := of_decide_eq_false c_32
            refine wq_s 36 rfl ?_
            refine wq_s 37 rfl ?_
            refine wq_s 38 rfl ?_
            have hbk : (drF Y (lg ++ lg2) cl).testBit k = true ∧ k ≠ b := Classical.byContradiction fun z => c_32 (by rw [show w = 0 from hw.trans (ka_tb.2 z)]; rfl)
            refine wq_vt2 41 rfl rfl (Nat.le_of_ble_eq_true rfl) (hC.lt (by omega)) (hC.ty 41 _ rfl) rfl (Nat.le_of_ble_eq_true rfl) (c_remove (c := cl) (e := k) hC (b5.shp hS) hY b1 b2 (by obtain ⟨R, hR⟩ := b3; rw [hR, List.length_append]; omega) hc (by omega) hbk.1 (fun Z z1 z2 z3 z4 => hbk.2 (hk Z z1 z2 z3 k z4))) (fun r M3 hr => ?_)
            obtain ⟨rfl, ⟨EL3, dd3, g1, g2, g3⟩, g4⟩ := hr
            rw [List.append_assoc] at g1 g2
            dsimp only [Option.toList, List.cons_append, List.nil_append]
            refine we_inc 3 1 ((k + 1 : Nat) : Int) 44 _ rfl rfl rfl (by omega) (by omega) rfl ?_
            refine wq_s 2 rfl ?_
            exact ih_k (k + 1) (lg2 ++ [9 * cl + k]) EL3 dd3 M3 (by omega) (by omega) g1 g2 (by obtain ⟨R, hR⟩ := b3; obtain ⟨R', hR'⟩ := g3; exact ⟨R ++ R', by rw [hR', hR, List.append_assoc]⟩) (fun _ => by rw [← List.append_assoc, drF_app]; exact ka_drop (by omega) hbk.1 hbk.2 (b4 rfl)) (b5.trans g4)
  refine wq_s 1 rfl ?_
  refine wq_s 2 rfl ?_
  exact L_2 10 0 [] EL 0 M (by omega) (by omega) (by rw [List.append_nil]; exact hV) (by rw [List.append_nil]; exact hI) ⟨[], (List.append_nil _).symm⟩ (fun _ x y => by rw [List.append_nil]; exact ⟨fun z => ⟨z, fun w => absurd w.2.2 (Nat.not_lt_zero _)⟩, fun z => z.1⟩) (FrC.refl M)
theorem c_closePlace {d : Nat} {G : GT} {M : MT} {Y W : Nat → Nat} {lg EL : List Nat} {i h e : Nat} (hC : ClsG G) (hS : ShpAt M) (hY : ∀ c, c < 81 → Y c < 512) (hV : SvC M Y lg EL 0) (hI : ClI W (drF Y lg) EL i 0) (hi : i < EL.length) (hh : h < 27) (he : e < 9) (hev : EL.getD i 0 = 81 + (9 * h + e)) : Mq (d + 4) k_X5_closePlace [vR 45, vI ((9 * h + e : Nat) : Int)] G M (fun z M' => z = none ∧ (∃ lg2 EL' dd', SvC M' Y (lg ++ lg2) EL' dd' ∧ ClI W (drF Y (lg ++ lg2)) EL' (i + 1) dd' ∧ ∃ R, EL' = EL ++ R) ∧ FrC M M') := by
  have hX := (hV.2.1.all hY).2
  have hone := hI.one hX hi
  rw [hev, evB_p he] at hone
  have h1 := hone.2
  have hpl := plH_lt (drF Y lg) h e
  obtain ⟨k, hk, hpk⟩ := pop1N hpl h1
  have hce := (ce_ok hh hk)
  have hc := hce.2.2
  have hkb : (drF Y lg (ceN h k)).testBit e = true := ((plH_tb (drF Y lg) h e k).1 (by rw [hpk, pow_tb])).2
  have hu : ∀ c, c < 81 → hoN c (srN h) = h → (drF Y lg c).testBit e = true → c = ceN h k := fun c h3 h4 h5 => by
    have ho := ho_ok (c := c) (s := srN h) h3 (srN_lt h)
    rw [h4] at ho
    have h6 := (plH_tb (drF Y lg) h e (poN c (srN h))).2 ⟨ho.2.2.2, by rw [ho.1]; exact h5⟩
    rw [hpk, pow_tb] at h6
    rw [← h6, ho.1]
  have hpk8 : 2 ^ k ≤ 2 ^ 8 := Nat.pow_le_pow_right (by decide) (by omega)
  have hpe8 : 2 ^ e ≤ 2 ^ 8 := Nat.pow_le_pow_right (by decide) (by omega)
  refine wq_s 1 rfl ?_
  refine wq_getR 4 rfl rfl (hC.lt (by omega)) (hC.ty 41 _ rfl) rfl ?_
  refine wq_getR 7 rfl rfl (hC.lt (by omega)) (hC.ty 47 _ rfl) rfl ?_
  refine wq_s 8 rfl ?_
  refine wq_iald (v := ((plH (drF Y lg) h e : Nat) : Int)) 9 rfl rfl (hC.lt (by omega)).2 (hC.ty 49 _ rfl) (by omega) (by omega) (by omega) (hV.1.1.2 h e hh he) ?_
  refine wq_s 10 rfl ?_
  refine wq_s 11 rfl ?_
  refine wq_st1 14 rfl rfl (by decide) (Nat.le_of_ble_eq_true rfl) rfl (Nat.le_of_ble_eq_true rfl) (c_isOneBit hpl) (fun r M1 hr => ?_)
  rcases hr with ⟨rfl, b_11, hM1⟩ | ⟨rfl, b_11, hM1⟩
  · subst M1
    dsimp only [Option.toList, List.cons_append, List.nil_append]
    refine wq_s 17 rfl ?_
    refine wq_s 18 rfl ?_
    refine wq_s 20 rfl ?_
    refine we_div ((h : Nat) : Int) 21 rfl rfl (by omega) (by omega) (by omega) ?_
    refine wq_s 22 rfl ?_
    refine wq_s 23 rfl ?_
    refine wq_s 24 rfl ?_
    refine wq_getR 27 rfl rfl (hC.lt (by omega)) (hC.ty 41 _ rfl) rfl ?_
    refine wq_getR 30 rfl rfl (hC.lt (by omega)) (hC.ty 1 _ rfl) rfl ?_
    refine wq_s 32 rfl ?_
    refine wq_s 33 rfl ?_
    refine we_mul ((9 * h : Nat) : Int) 34 rfl rfl (by omega) (by omega) ?_
    refine wq_s 35 rfl ?_
    rw [hpk]
    refine wq_st1 38 rfl rfl (by decide) (Nat.le_of_ble_eq_true rfl) rfl (Nat.le_of_ble_eq_true rfl) (c_placeOf hk) (fun r M1 hr => ?_)
    obtain ⟨rfl, hM1⟩ := hr
    subst M1
    dsimp only [Option.toList, List.cons_append, List.nil_append]
    refine we_add (((9 * h) + k : Nat) : Int) 39 rfl rfl (by omega) (by omega) ?_
    refine wq_iald (v := ((ceN h k : Nat) : Int)) 40 rfl rfl (hC.lt (by omega)).2 (hC.ty 2 _ rfl) (by omega) (by omega) (by omega) (hS.1 h k hh hk) ?_
    refine wq_s 41 rfl ?_
    refine wq_s 42 rfl ?_
    refine wq_s 44 rfl ?_
    refine we_rem ((e : Nat) : Int) 45 rfl rfl (by omega) (by omega) (by omega) ?_
    refine we_shl 1 e (2 ^ e) 46 rfl rfl rfl rfl (by omega) (Nat.one_mul _) (by omega) ?_
    refine wq_vt2 49 rfl rfl (Nat.le_of_ble_eq_true rfl) (hC.lt (by omega)) (hC.ty 41 _ rfl) rfl (Nat.le_of_ble_eq_true rfl) (c_keepAlone (cl := ceN h k) (b := e) hC hS hY hV hI (by omega) hc he (fun Z z1 z2 z3 y z4 => keep_p hh he h1 z1 z2 (hI.1 Z z1 z2 z3) hc hce.1 hkb (hX _ hc) z4)) (fun r M3 hr => ?_)
    obtain ⟨rfl, ⟨lg2, EL2, dd2, g1, g2, g3, g4⟩, g5⟩ := hr
    dsimp only [Option.toList, List.cons_append, List.nil_append]
    exact wq_ret rfl ⟨rfl, ⟨lg2, EL2, dd2, g1, g2.nxt (fun h0 hl => ⟨fun z => (by obtain ⟨R, hR⟩ := g3; rw [hR, gD_l hi, hev] at z; omega), fun _ c y h3 h4 h5 h6 => (by
        obtain ⟨R, hR⟩ := g3
        rw [hR, gD_l hi, hev] at h4 h5 ⊢
        rw [show (81 + (9 * h + e) - 81) / 9 = h by omega] at h4
        rw [show (81 + (9 * h + e) - 81) % 9 = e by omega] at h5 ⊢
        have h7 := (g4 h0 c e h3).1 h5
        have h8 := (g4 h0 c y h3).1 h6
        have h9 := hu c h3 h4 h7.1
        exact Classical.byContradiction fun hn => h8.2 ⟨h9, hn⟩)⟩), g3⟩, g5⟩
  · exact absurd h1 b_11
theorem c_closeCell {d : Nat} {G : GT} {M : MT} {Y W : Nat → Nat} {lg EL : List Nat} {i c : Nat} (hC : ClsG G) (hS : ShpAt M) (hY : ∀ c, c < 81 → Y c < 512) (hV : SvC M Y lg EL 0) (hI : ClI W (drF Y lg) EL i 0) (hi : i < EL.length) (hc : c < 81) (hev : EL.getD i 0 = c) : Mq (d + 4) k_X5_closeCell [vR 45, vI (c : Int)] G M (fun z M' => z = none ∧ (∃ lg2 EL' dd', SvC M' Y (lg ++ lg2) EL' dd' ∧ ClI W (drF Y (lg ++ lg2)) EL' (i + 1) dd' ∧ ∃ R, EL' = EL ++ R) ∧ FrC M M') := by
  have hX := (hV.2.1.all hY).2
  have hone := hI.one hX hi
  rw [hev, evB_c hc] at hone
  have h1 := hone.2
  have hxc := hX c hc
  obtain ⟨e, he, hpe⟩ := pop1N hxc h1
  have hpe8 : 2 ^ e ≤ 2 ^ 8 := Nat.pow_le_pow_right (by decide) (by omega)
  have L_26 : ∀ (f m : Nat) (lg2 : List Nat) (EL2 : List Nat) (dd2 : Nat) (M2 : MT) (y5 : Option AV), 21 - m < f → m ≤ 21 → (SvC M2 Y (lg ++ lg2) EL2 dd2) → (ClI W (drF Y (lg ++ lg2)) EL2 i dd2) → (∃ R, EL2 = EL ++ R) → (dd2 = 0 → ∀ j, j < m → nrN c j ≠ c → ¬ (drF Y (lg ++ lg2) (nrN c j)).testBit e = true) → (FrC M M2) → (drF Y (lg ++ lg2) c = 2 ^ e) → Wq (d + 4) k_X5_closeCell 26 [some (vR 45), some (vI ((c : Nat) : Int)), some (vI ((2 ^ e : Nat) : Int)), some (vI ((e : Nat) : Int)), some (vI ((m : Nat) : Int)), y5] [] G M2 (fun z M' => z = none ∧ (∃ lg2 EL' dd', SvC M' Y (lg ++ lg2) EL' dd' ∧ ClI W (drF Y (lg ++ lg2)) EL' (i + 1) dd' ∧ ∃ R, EL' = EL ++ R) ∧ FrC M M') := by
    intro f
    induction f with
    | zero => intro m lg2 EL2 dd2 M2 y5 h; exact absurd h (by omega)
    | succ f ih_m =>
      intro m lg2 EL2 dd2 M2 y5 hf_m hk_m b1 b2 b3 b4 b5 b6
      have hd2 := b2.len.2
      refine wq_s 28 rfl ?_
      refine wq_s 30 rfl ?_
      refine wq_icmp 91 rfl rfl (by omega) (by omega) (fun c_30 => ?_) (fun c_30 => ?_)
      · have c_30 := of_decide_eq_true c_30
        exact wq_ret rfl ⟨rfl, ⟨lg2, EL2, dd2, b1, b2.nxt (fun h0 hl => ⟨fun _ c' y h3 h4 h5 h6 h7 => (by
              obtain ⟨R, hR⟩ := b3
              rw [hR, gD_l hi, hev] at h4 h5 h6
              rw [b6, pow_tb] at h6
              obtain ⟨j, j1, j2⟩ := nr_ex hc h3 h5
              have h8 := b4 h0 j (by omega) (by rw [j2]; exact h4)
              rw [j2, ← h6] at h8
              exact h8 h7), fun z => (by obtain ⟨R, hR⟩ := b3; rw [hR, gD_l hi, hev] at z; omega)⟩), b3⟩, b5⟩
      · have c_30 := of_decide_eq_false c_30
        refine wq_s 34 rfl ?_
        refine wq_getE (v := ((dd2 : Nat) : Int)) 4 37 rfl rfl (hC.lt (by omega)) (hC.ty 41 _ rfl) rfl rfl b1.2.2.2.1 ?_
        refine wq_if 91 rfl rfl (by omega) (fun c_37 => ?_) (fun c_37 => ?_)
        · have c_37 := of_decide_eq_true c_37
          exact wq_ret rfl ⟨rfl, ⟨lg2, EL2, dd2, b1, b2.nxt (fun h0 hl => absurd h0 (by omega)), b3⟩, b5⟩
        · have c_37 := of_decide_eq_false c_37
          have e9 : dd2 = 0 := by omega
          subst e9
          have hnr := nr_ok (c := c) (i := m) hc (by omega)
          have hnr1 := hnr.1
          obtain ⟨w, hw⟩ : ∃ w, w = drF Y (lg ++ lg2) (nrN c m) &&& 2 ^ e := ⟨_, rfl⟩
          have hx5 := (b1.1.1.1 (nrN c m) hnr.1).2
          have hw5 : w < 512 := by rw [hw]; exact Nat.lt_of_le_of_lt Nat.and_le_left hx5
          refine wq_s 41 rfl ?_
          refine wq_getR 44 rfl rfl (hC.lt (by omega)) (hC.ty 41 _ rfl) rfl ?_
          refine wq_getR 47 rfl rfl (hC.lt (by omega)) (hC.ty 1 _ rfl) rfl ?_
          refine wq_s 49 rfl ?_
          refine wq_s 50 rfl ?_
          refine we_mul ((21 * c : Nat) : Int) 51 rfl rfl (by omega) (by omega) ?_
          refine wq_s 53 rfl ?_
          refine we_add (((21 * c) + m : Nat) : Int) 54 rfl rfl (by omega) (by omega) ?_
          refine wq_iald (v := ((nrN c m : Nat) : Int)) 55 rfl rfl (hC.lt (by omega)).2 (hC.ty 5 _ rfl) (by omega) (by omega) (by omega) ((b5.shp hS).2.2 c m hc (by omega)) ?_
          refine wq_s 57 rfl ?_
          refine wq_s 59 rfl ?_
          refine wq_s 60 rfl ?_
          refine wq_icmp 85 rfl rfl (by omega) (by omega) (fun c_60 => ?_) (fun c_60 => ?_)
          · have c_60 := of_decide_eq_true c_60
            refine we_inc 4 1 ((m + 1 : Nat) : Int) 88 _ rfl rfl rfl (by omega) (by omega) rfl ?_
            refine wq_s 26 rfl ?_
            exact ih_m (m + 1) lg2 EL2 0 M2 _ (by omega) (by omega) b1 b2 b3 (fun _ j hj hne => by
              by_cases hjm : j = m
              · subst hjm
                exact absurd (by omega) hne
              · exact b4 rfl j (by omega) hne) b5 b6
          · have c_60 := of_decide_eq_false c_60
            refine wq_s 64 rfl ?_
            refine wq_getR 67 rfl rfl (hC.lt (by omega)) (hC.ty 41 _ rfl) rfl ?_
            refine wq_getR 70 rfl rfl (hC.lt (by omega)) (hC.ty 47 _ rfl) rfl ?_
            refine wq_s 72 rfl ?_
            refine wq_iald (v := ((drF Y (lg ++ lg2) (nrN c m) : Nat) : Int)) 73 rfl rfl (hC.lt (by omega)).2 (hC.ty 48 _ rfl) (by omega) (by omega) (by omega) (b1.1.1.1 (nrN c m) hnr.1).1 ?_
            refine wq_s 74 rfl ?_
            refine we_and (drF Y (lg ++ lg2) (nrN c m)) (2 ^ e) w 75 rfl rfl rfl rfl (by omega) hw.symm ?_
            refine wq_if 85 rfl rfl (by omega) (fun c_75 => ?_) (fun c_75 => ?_)
            · have c_75 := of_decide_eq_true c_75
              refine we_inc 4 1 ((m + 1 : Nat) : Int) 88 _ rfl rfl rfl (by omega) (by omega) rfl ?_
              refine wq_s 26 rfl ?_
              exact ih_m (m + 1) lg2 EL2 0 M2 _ (by omega) (by omega) b1 b2 b3 (fun _ j hj hne => by
                by_cases hjm : j = m
                · subst hjm
                  exact an_tb.1 (hw.symm.trans (by omega))
                · exact b4 rfl j (by omega) hne) b5 b6
            · have c_75 := of_decide_eq_false c_75
              refine wq_s 79 rfl ?_
              refine wq_s 81 rfl ?_
              refine wq_s 82 rfl ?_
              have hbk : (drF Y (lg ++ lg2) (nrN c m)).testBit e = true := Classical.byContradiction fun z => c_75 (by rw [show w = 0 from hw.trans (an_tb.2 z)]; rfl)
              refine wq_vt2 85 rfl rfl (Nat.le_of_ble_eq_true rfl) (hC.lt (by omega)) (hC.ty 41 _ rfl) rfl (Nat.le_of_ble_eq_true rfl) (c_remove (c := nrN c m) (e := e) hC (b5.shp hS) hY b1 b2 (by obtain ⟨R, hR⟩ := b3; rw [hR, List.length_append]; omega) hnr.1 he hbk (fun Z z1 z2 z3 => keep_c hc he b6 z1 z2 (b2.1 Z z1 z2 z3) hnr.1 (by omega) hnr.2)) (fun r M3 hr => ?_)
              obtain ⟨rfl, ⟨EL3, dd3, g1, g2, g3⟩, g4⟩ := hr
              rw [List.append_assoc] at g1 g2
              dsimp only [Option.toList, List.cons_append, List.nil_append]
              refine we_inc 4 1 ((m + 1 : Nat) : Int) 88 _ rfl rfl rfl (by omega) (by omega) rfl ?_
              refine wq_s 26 rfl ?_
              refine ih_m (m + 1) (lg2 ++ [9 * nrN c m + e]) EL3 dd3 M3 _ (by omega) (by omega) g1 g2 (by obtain ⟨R, hR⟩ := b3; obtain ⟨R', hR'⟩ := g3; exact ⟨R ++ R', by rw [hR', hR, List.append_assoc]⟩) (fun _ j hj hne z => ?_) (b5.trans g4) ?_
              · rw [← List.append_assoc, drF_app, xoA_tb, show (9 * nrN c m + e) / 9 = nrN c m by omega, show (9 * nrN c m + e) % 9 = e by omega] at z
                rcases z with ⟨z1, z2⟩ | ⟨z1, z2⟩
                · by_cases hjm : j = m
                  · subst hjm
                    exact z2 ⟨rfl, rfl⟩
                  · exact b4 rfl j (by omega) hne z1
                · rw [z2.1] at z1
                  exact z1 hbk
              · rw [← List.append_assoc, drF_app]
                unfold xoA
                rw [if_neg (by omega)]
                exact b6
  refine wq_s 1 rfl ?_
  refine wq_getR 4 rfl rfl (hC.lt (by omega)) (hC.ty 41 _ rfl) rfl ?_
  refine wq_getR 7 rfl rfl (hC.lt (by omega)) (hC.ty 47 _ rfl) rfl ?_
  refine wq_s 8 rfl ?_
  refine wq_iald (v := ((drF Y lg c : Nat) : Int)) 9 rfl rfl (hC.lt (by omega)).2 (hC.ty 48 _ rfl) (by omega) (by omega) (by omega) (hV.1.1.1 c hc).1 ?_
  refine wq_s 10 rfl ?_
  refine wq_s 11 rfl ?_
  refine wq_st1 14 rfl rfl (by decide) (Nat.le_of_ble_eq_true rfl) rfl (Nat.le_of_ble_eq_true rfl) (c_isOneBit hxc) (fun r M1 hr => ?_)
  rcases hr with ⟨rfl, b_11, hM1⟩ | ⟨rfl, b_11, hM1⟩
  · subst M1
    dsimp only [Option.toList, List.cons_append, List.nil_append]
    refine wq_s 18 rfl ?_
    refine wq_s 19 rfl ?_
    rw [hpe]
    refine wq_st1 22 rfl rfl (by decide) (Nat.le_of_ble_eq_true rfl) rfl (Nat.le_of_ble_eq_true rfl) (c_placeOf he) (fun r M1 hr => ?_)
    obtain ⟨rfl, hM1⟩ := hr
    subst M1
    dsimp only [Option.toList, List.cons_append, List.nil_append]
    refine wq_s 23 rfl ?_
    refine wq_s 24 rfl ?_
    refine wq_s 26 rfl ?_
    exact L_26 22 0 [] EL 0 M _ (by omega) (by omega) (by rw [List.append_nil]; exact hV) (by rw [List.append_nil]; exact hI) ⟨[], (List.append_nil _).symm⟩ (fun _ j hj => absurd hj (Nat.not_lt_zero _)) (FrC.refl M) (by rw [List.append_nil]; exact hpe)
  · exact absurd h1 b_11
theorem c_close {d : Nat} {G : GT} {M : MT} {Y W : Nat → Nat} {lg EL : List Nat} {dd : Nat} (hC : ClsG G) (hS : ShpAt M) (hY : ∀ c, c < 81 → Y c < 512) (hV : SvC M Y lg EL dd) (hI : ClI W (drF Y lg) EL 0 dd) : Mq (d + 5) k_X5_close [vR 45] G M (fun z M' => z = none ∧ (∃ lg2 EL' dd' i', SvC M' Y (lg ++ lg2) EL' dd' ∧ ClI W (drF Y (lg ++ lg2)) EL' i' dd' ∧ (dd' = 0 → EL'.length ≤ i')) ∧ FrC M M') := by
  have L_2 : ∀ (f i : Nat) (lg2 : List Nat) (EL2 : List Nat) (dd2 : Nat) (M2 : MT), 324 - i < f → i ≤ 324 → (SvC M2 Y (lg ++ lg2) EL2 dd2) → (ClI W (drF Y (lg ++ lg2)) EL2 i dd2) → (i ≤ EL2.length) → (FrC M M2) → Wq (d + 5) k_X5_close 2 [some (vR 45), some (vI ((i : Nat) : Int))] [] G M2 (fun z M' => z = none ∧ (∃ lg2 EL' dd' i', SvC M' Y (lg ++ lg2) EL' dd' ∧ ClI W (drF Y (lg ++ lg2)) EL' i' dd' ∧ (dd' = 0 → EL'.length ≤ i')) ∧ FrC M M') := by
    intro f
    induction f with
    | zero => intro i lg2 EL2 dd2 M2 h; exact absurd h (by omega)
    | succ f ih_i =>
      intro i lg2 EL2 dd2 M2 hf_i hk_i b1 b2 b3 b5
      have hd2 := b2.len.2
      have hl2 := b2.len.1
      refine wq_s 3 rfl ?_
      refine wq_s 4 rfl ?_
      refine wq_getE (v := ((EL2.length : Nat) : Int)) 3 7 rfl rfl (hC.lt (by omega)) (hC.ty 41 _ rfl) rfl rfl b1.2.2.1 ?_
      refine wq_icmp 67 rfl rfl (by omega) (by omega) (fun c_7 => ?_) (fun c_7 => ?_)
      · have c_7 := of_decide_eq_true c_7
        exact wq_ret rfl ⟨rfl, ⟨lg2, EL2, dd2, i, b1, b2, fun h0 => by omega⟩, b5⟩
      · have c_7 := of_decide_eq_false c_7
        refine wq_s 11 rfl ?_
        refine wq_s 14 rfl ?_
        refine wq_icmp 67 rfl rfl (by omega) (by omega) (fun c_14 => ?_) (fun c_14 => ?_)
        · have c_14 := of_decide_eq_true c_14
          exact absurd c_14 (by omega)
        · have c_14 := of_decide_eq_false c_14
          refine wq_s 18 rfl ?_
          refine wq_getE (v := ((dd2 : Nat) : Int)) 4 21 rfl rfl (hC.lt (by omega)) (hC.ty 41 _ rfl) rfl rfl b1.2.2.2.1 ?_
          refine wq_if 67 rfl rfl (by omega) (fun c_21 => ?_) (fun c_21 => ?_)
          · have c_21 := of_decide_eq_true c_21
            exact wq_ret rfl ⟨rfl, ⟨lg2, EL2, dd2, i, b1, b2, fun h0 => by omega⟩, b5⟩
          · have c_21 := of_decide_eq_false c_21
            have e9 : dd2 = 0 := by omega
            subst e9
            have hev9 := (b2.one (b1.2.1.all hY).2 (show i < EL2.length by omega)).1
            refine wq_s 25 rfl ?_
            refine wq_getR 28 rfl rfl (hC.lt (by omega)) (hC.ty 41 _ rfl) rfl ?_
            refine wq_s 29 rfl ?_
            refine wq_iald (v := ((EL2.getD i 0 : Nat) : Int)) 30 rfl rfl (hC.lt (by omega)).2 (hC.ty 42 _ rfl) (by omega) (by omega) (by omega) (b1.2.2.2.2 i (by omega)) ?_
            refine wq_s 32 rfl ?_
            refine wq_icmp 48 rfl rfl (by omega) (by omega) (fun c_32 => ?_) (fun c_32 => ?_)
            · have c_32 := of_decide_eq_true c_32
              refine wq_s 49 rfl ?_
              refine wq_s 50 rfl ?_
              refine wq_getR 53 rfl rfl (hC.lt (by omega)) (hC.ty 41 _ rfl) rfl ?_
              refine wq_s 54 rfl ?_
              refine wq_iald (v := ((EL2.getD i 0 : Nat) : Int)) 55 rfl rfl (hC.lt (by omega)).2 (hC.ty 42 _ rfl) (by omega) (by omega) (by omega) (b1.2.2.2.2 i (by omega)) ?_
              refine wq_s 57 rfl ?_
              refine we_sub ((EL2.getD i 0 - 81 : Nat) : Int) 58 rfl rfl (by omega) (by omega) ?_
              obtain ⟨h, e, hhe, hev⟩ : ∃ h e, (h < 27 ∧ e < 9) ∧ EL2.getD i 0 = 81 + (9 * h + e) := ⟨(EL2.getD i 0 - 81) / 9, (EL2.getD i 0 - 81) % 9, ⟨by omega, by omega⟩, by omega⟩
              refine wq_vt1 61 rfl rfl (Nat.le_of_ble_eq_true rfl) (hC.lt (by omega)) (hC.ty 41 _ rfl) rfl (Nat.le_of_ble_eq_true rfl) (by rw [show EL2.getD i 0 - 81 = 9 * h + e by omega]; exact c_closePlace (h := h) (e := e) hC (b5.shp hS) hY b1 b2 (by omega) hhe.1 hhe.2 hev) (fun r M3 hr => ?_)
              obtain ⟨rfl, ⟨lg3, EL3, dd3, g1, g2, g3⟩, g4⟩ := hr
              rw [List.append_assoc] at g1 g2
              dsimp only [Option.toList, List.cons_append, List.nil_append]
              refine we_inc 1 1 ((i + 1 : Nat) : Int) 64 _ rfl rfl rfl (by omega) (by omega) rfl ?_
              refine wq_s 2 rfl ?_
              exact ih_i (i + 1) (lg2 ++ lg3) EL3 dd3 M3 (by omega) (by omega) g1 g2 (by obtain ⟨R, hR⟩ := g3; rw [hR, List.length_append]; omega) (b5.trans g4)
            · have c_32 := of_decide_eq_false c_32
              refine wq_s 36 rfl ?_
              refine wq_s 37 rfl ?_
              refine wq_getR 40 rfl rfl (hC.lt (by omega)) (hC.ty 41 _ rfl) rfl ?_
              refine wq_s 41 rfl ?_
              refine wq_iald (v := ((EL2.getD i 0 : Nat) : Int)) 42 rfl rfl (hC.lt (by omega)).2 (hC.ty 42 _ rfl) (by omega) (by omega) (by omega) (b1.2.2.2.2 i (by omega)) ?_
              refine wq_vt1 45 rfl rfl (Nat.le_of_ble_eq_true rfl) (hC.lt (by omega)) (hC.ty 41 _ rfl) rfl (Nat.le_of_ble_eq_true rfl) (c_closeCell (c := EL2.getD i 0) hC (b5.shp hS) hY b1 b2 (by omega) (by omega) rfl) (fun r M3 hr => ?_)
              obtain ⟨rfl, ⟨lg3, EL3, dd3, g1, g2, g3⟩, g4⟩ := hr
              rw [List.append_assoc] at g1 g2
              dsimp only [Option.toList, List.cons_append, List.nil_append]
              refine wq_s 61 rfl ?_
              refine we_inc 1 1 ((i + 1 : Nat) : Int) 64 _ rfl rfl rfl (by omega) (by omega) rfl ?_
              refine wq_s 2 rfl ?_
              exact ih_i (i + 1) (lg2 ++ lg3) EL3 dd3 M3 (by omega) (by omega) g1 g2 (by obtain ⟨R, hR⟩ := g3; rw [hR, List.length_append]; omega) (b5.trans g4)
  refine wq_s 1 rfl ?_
  refine wq_s 2 rfl ?_
  exact L_2 325 0 [] EL dd M (by omega) (by omega) (by rw [List.append_nil]; exact hV) (by rw [List.append_nil]; exact hI) (Nat.zero_le _) (FrC.refl M)
