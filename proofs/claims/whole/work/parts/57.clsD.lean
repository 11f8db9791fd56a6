/-! what goes: add, addPlaces, leave -/
theorem we_andm {d k pc a b c w : Nat} {ls : LoA} {st : List AV} {G : GT} {M : MT} {Q : Option AV → MT → Prop} {v : Int} (m n z : Nat) (pc' : Nat) (hp : pc + 1 = pc') (hc : cd k pc = some (.iand, 1, a, b, c, w)) (hv : v = (m : Int)) (hm : m < 2147483648) (hz : andN m n = z) (h : Wq d k pc' ls (vI (z : Int) :: st) G M Q) : Wq d k pc ls (vI v :: vI (-1 - (n : Int)) :: st) G M Q := by
  subst hp hz hv
  refine wq_s _ (stp_of hc rfl rfl ?_) h
  show some (pc + 1, ls, vI (b32 (fun x y => x &&& y) (-1 - (n : Int)) m) :: st, _) = _
  rw [show b32 (fun x y => x &&& y) (-1 - (n : Int)) (m : Int) = ((andN m n : Nat) : Int) from by
    unfold b32
    dsimp only
    rw [bn_not, Int32.and_comm]
    show (nI m &&& (nI n ^^^ (-1))).toInt = _
    rw [bn_andN, nI_toInt (andN_lt (k := 31) hm)]]
def GoAt (M : MT) (Hd : Nat → Nat) : Prop := AtB M 20 Hd ∧ M 19 2 = ((cntX Hd : Nat) : Int)
theorem GoAt.fr {M M' : MT} {Hd : Nat → Nat} (h : GoAt M Hd) (h1 : M' 19 = M 19) (h2 : M' 20 = M 20) : GoAt M' Hd := ⟨h.1.fr h2, by rw [h1]; exact h.2⟩
def hdU (Hd : Nat → Nat) (cl m : Nat) : Nat → Nat := fun c => if c = cl then Hd c ||| m else Hd c
theorem or_andN (h m : Nat) : h ||| andN m h = h ||| m := tb_ext fun i => by
  rw [Nat.testBit_or, Nat.testBit_or, andN_bit]
  cases h.testBit i <;> cases m.testBit i <;> exact Iff.rfl
theorem pop9_or (h m : Nat) : pop9 (h ||| m) = pop9 h + pop9 (andN m h) := by
  have e1 : andN (h ||| m) h = andN m h := Nat.eq_of_testBit_eq fun i => by
    rw [andN_bit, andN_bit, Nat.testBit_or]
    cases h.testBit i <;> cases m.testBit i <;> rfl
  have e2 : (h ||| m) &&& h = h := Nat.eq_of_testBit_eq fun i => by
    rw [Nat.testBit_and, Nat.testBit_or]
    cases h.testBit i <;> cases m.testBit i <;> rfl
  have h1 := popc_split 9 (h ||| m) h
  rw [e1, e2] at h1
  unfold pop9
  omega
theorem sumN_upd {f g : Nat → Nat} {j k : Nat} : ∀ n, j < n → (∀ c, c < n → c ≠ j → f c = g c) → f j = g j + k → sumN f n = sumN g n + k := by
  intro n
  induction n with
  | zero => intro h; exact absurd h (Nat.not_lt_zero _)
  | succ n ih =>
    intro hj h1 h2
    rw [sumN_succ, sumN_succ]
    by_cases hjn : j = n
    · subst hjn
      rw [sumN_ext (f := f) (g := g) j (fun c hc => h1 c (by omega) (by omega))]
      omega
    · have h3 := ih (by omega) (fun c hc hcj => h1 c (by omega) hcj) h2
      have h4 := h1 n (by omega) (by omega)
      omega
theorem cnt_hdU {Hd : Nat → Nat} {cl m : Nat} (hc : cl < 81) : cntX (hdU Hd cl m) = cntX Hd + pop9 (andN m (Hd cl)) := by
  unfold cntX
  refine sumN_upd (j := cl) 81 hc (fun c _ hcj => ?_) ?_
  · unfold hdU
    rw [if_neg hcj]
  · unfold hdU
    rw [if_pos rfl, pop9_or]
theorem cntX_le (X : Nat → Nat) : cntX X ≤ 729 := sumN_le (B := 9) (fun c => pop9_le _) 81
theorem hdU_lt {Hd : Nat → Nat} {cl m : Nat} (h : ∀ c, c < 81 → Hd c < 512) (hm : m < 512) : ∀ c, c < 81 → hdU Hd cl m c < 512 := fun c hc => by
  unfold hdU
  split
  · exact or_lt2 (k := 9) (h c hc) hm
  · exact h c hc
theorem c_X2_add {d : Nat} {G : GT} {M : MT} {b cl bt : Nat} {X Hd : Nat → Nat} (hC : ClsG G) (hb : IsBd b) (hX : AtB M (b + 1) X) (hH : GoAt M Hd) (hc : cl < 81) (hbt : bt < 512) : Mq (d + 1) k_X2_add [vR 19, vR b, vI (cl : Int), vI (bt : Int)] G M (fun r M' => r = none ∧ GoAt M' (hdU Hd cl (X cl &&& bt)) ∧ ∀ a, a ≠ 19 → a ≠ 20 → M' a = M a) := by
  have hx := (hX cl hc).2
  have hh := (hH.1 cl hc).2
  have hxb := and_lt2 (n := bt) (k := 9) hx
  have hmo := andN_lt (n := Hd cl) (k := 9) hxb
  have hcn := cnt_hdU (Hd := Hd) (m := X cl &&& bt) hc
  have hcl := cntX_le (hdU Hd cl (X cl &&& bt))
  have hor := or_lt2 (k := 9) hh hxb
  refine wq_s 1 rfl ?_
  refine wq_getR 4 rfl rfl (hC.lt (by omega)) (hC.bd hb).1 rfl ?_
  refine wq_s 5 rfl ?_
  refine wq_iald (v := ((X cl : Nat) : Int)) 6 rfl rfl (hC.lt (by omega)).2 (hC.bd hb).2.1 (by omega) (by omega) (by omega) (hX cl hc).1 ?_
  refine wq_s 7 rfl ?_
  refine we_and (X cl) bt ((X cl) &&& bt) 8 rfl rfl rfl rfl (by omega) rfl ?_
  refine wq_s 9 rfl ?_
  refine wq_getR 12 rfl rfl (hC.lt (by omega)) (hC.ty 15 _ rfl) rfl ?_
  refine wq_s 13 rfl ?_
  refine wq_iald (v := ((Hd cl : Nat) : Int)) 14 rfl rfl (hC.lt (by omega)).2 (hC.ty 16 _ rfl) (by omega) (by omega) (by omega) (hH.1 cl hc).1 ?_
  refine wq_s 15 rfl ?_
  refine we_not (Hd cl) 16 rfl rfl rfl (by omega) ?_
  refine we_andn ((X cl) &&& bt) (Hd cl) (andN ((X cl) &&& bt) (Hd cl)) 17 rfl rfl rfl (by omega) rfl ?_
  refine wq_s 19 rfl ?_
  refine wq_s 20 rfl ?_
  refine wq_getR 23 rfl rfl (hC.lt (by omega)) (hC.ty 15 _ rfl) rfl ?_
  refine wq_s 24 rfl ?_
  refine wq_s 25 rfl ?_
  refine wq_iald (v := ((Hd cl : Nat) : Int)) 26 rfl rfl (hC.lt (by omega)).2 (hC.ty 16 _ rfl) (by omega) (by omega) (by omega) (hH.1 cl hc).1 ?_
  refine wq_s 28 rfl ?_
  refine we_or (Hd cl) (andN ((X cl) &&& bt) (Hd cl)) (Hd cl ||| (X cl &&& bt)) 29 rfl rfl rfl rfl (by omega) (by omega) (or_andN _ _) ?_
  refine wq_iast 30 rfl rfl (hC.lt (by omega)) (hC.ty 16 _ rfl) (by omega) (by omega) (by omega) ?_
  refine wq_s 31 rfl ?_
  refine wq_s 32 rfl ?_
  refine wq_getE (v := ((cntX Hd : Nat) : Int)) 2 35 rfl rfl (hC.lt (by omega)) (hC.ty 15 _ rfl) rfl rfl (by rw [up2_ne (Or.inl (by decide))]; exact hH.2) ?_
  refine wq_s 37 rfl ?_
  refine wq_st1 40 rfl rfl (by decide) (Nat.le_of_ble_eq_true rfl) rfl (Nat.le_of_ble_eq_true rfl) (c_bitCount hmo) (fun r M1 hr => ?_)
  obtain ⟨rfl, hM1⟩ := hr
  subst M1
  dsimp only [Option.toList, List.cons_append, List.nil_append]
  refine we_add (((cntX Hd) + (pop9 (andN (X cl &&& bt) (Hd cl))) : Nat) : Int) 41 rfl rfl (by omega) (by omega) ?_
  refine wq_putE 2 44 rfl rfl (hC.lt (by omega)) (hC.ty 15 _ rfl) rfl (by decide) (Or.inl rfl) rfl ?_
  exact wq_ret rfl ⟨rfl, ⟨fun c hc2 => (by
      rw [up2_row (by decide)]
      refine ⟨?_, hdU_lt (fun c hc => (hH.1 c hc).2) hxb c hc2⟩
      unfold hdU
      by_cases hcc : c = cl
      · rw [if_pos hcc, hcc, up2_at]
      · rw [if_neg hcc, up2_ne (Or.inr (by omega))]
        exact (hH.1 c hc2).1), (by rw [up2_at, hcn])⟩, fun a h1 h2 => by rw [up2_row h1, up2_row h2]⟩
def hpF (Hd : Nat → Nat) (h e th : Nat) : Nat → (Nat → Nat)
  | 0 => Hd
  | j + 1 => if th / 2 ^ j % 2 = 1 then hdU (hpF Hd h e th j) (ceN h j) (2 ^ e) else hpF Hd h e th j
theorem hpF_tb (Hd : Nat → Nat) (h e th : Nat) : ∀ k c i, (hpF Hd h e th k c).testBit i = true ↔ ((Hd c).testBit i = true ∨ (i = e ∧ ∃ j, j < k ∧ th.testBit j = true ∧ c = ceN h j)) := by
  intro k
  induction k with
  | zero =>
    intro c i
    exact ⟨Or.inl, fun z => z.elim id (fun ⟨_, j, hj, _⟩ => absurd hj (Nat.not_lt_zero _))⟩
  | succ k ih =>
    intro c i
    show ((if th / 2 ^ k % 2 = 1 then hdU (hpF Hd h e th k) (ceN h k) (2 ^ e) else hpF Hd h e th k) c).testBit i = true ↔ _
    by_cases hb : th / 2 ^ k % 2 = 1
    · rw [if_pos hb]
      unfold hdU
      by_cases hc : c = ceN h k
      · rw [if_pos hc, Nat.testBit_or, Bool.or_eq_true, ih c i, pow_tb]
        constructor
        · rintro ((g | ⟨g1, j, g2, g3⟩) | g)
          · exact Or.inl g
          · exact Or.inr ⟨g1, j, by omega, g3⟩
          · exact Or.inr ⟨g, k, by omega, (tb_div _ _).2 hb, hc⟩
        · rintro (g | ⟨g1, j, g2, g3⟩)
          · exact Or.inl (Or.inl g)
          · exact Or.inr g1
      · rw [if_neg hc, ih c i]
        constructor
        · rintro (g | ⟨g1, j, g2, g3⟩)
          · exact Or.inl g
          · exact Or.inr ⟨g1, j, by omega, g3⟩
        · rintro (g | ⟨g1, j, g2, g3, g4⟩)
          · exact Or.inl g
          · refine Or.inr ⟨g1, j, ?_, g3, g4⟩
            by_cases hjk : j = k
            · rw [hjk] at g4
              exact absurd g4 hc
            · omega
    · rw [if_neg hb, ih c i]
      constructor
      · rintro (g | ⟨g1, j, g2, g3⟩)
        · exact Or.inl g
        · exact Or.inr ⟨g1, j, by omega, g3⟩
      · rintro (g | ⟨g1, j, g2, g3, g4⟩)
        · exact Or.inl g
        · refine Or.inr ⟨g1, j, ?_, g3, g4⟩
          by_cases hjk : j = k
          · rw [hjk] at g3
            exact absurd ((tb_div _ _).1 g3) hb
          · omega
theorem hpF_stop {Hd : Nat → Nat} {h e th k : Nat} (hz : th / 2 ^ k = 0) : ∀ m, k ≤ m → hpF Hd h e th m = hpF Hd h e th k := by
  intro m hm
  induction hm with
  | refl => rfl
  | step hm ih =>
    rename_i m
    have h0 : th / 2 ^ m = 0 := by
      have h1 : 2 ^ k ≤ 2 ^ m := Nat.pow_le_pow_right (by decide) hm
      have h2 : th < 2 ^ k := (Nat.div_eq_zero_iff_lt (Nat.two_pow_pos k)).1 hz
      exact Nat.div_eq_of_lt (by omega)
    rw [← ih]
    exact if_neg (by rw [h0]; decide)
theorem hpF_lt {Hd : Nat → Nat} {h e th : Nat} (hH : ∀ c, c < 81 → Hd c < 512) (he : e < 9) : ∀ k c, c < 81 → hpF Hd h e th k c < 512 := by
  intro k
  have hp : 2 ^ e ≤ 2 ^ 8 := Nat.pow_le_pow_right (by decide) (by omega)
  induction k with
  | zero => exact hH
  | succ k ih =>
    intro c hc
    show (if th / 2 ^ k % 2 = 1 then hdU (hpF Hd h e th k) (ceN h k) (2 ^ e) else hpF Hd h e th k) c < 512
    split
    · exact hdU_lt ih (by omega) c hc
    · exact ih c hc
theorem addPl_14 {d : Nat} {G : GT} {M : MT} {b h e th : Nat} {p : AV} {Hd : Nat → Nat} (hC : ClsG G) (hS : ShpAt M) (hH : GoAt M Hd) (hh : h < 27) (he : e < 9) (hth : th < 512) : Wq d k_X2_addPlaces 14 [some (vR 19), some (vR b), some (vI (h : Int)), some (vI (e : Int)), some p, none, none, none] [vI (th : Int)] G M (fun r M' => r = none ∧ GoAt M' (hpF Hd h e th 9) ∧ ∀ a, a ≠ 19 → a ≠ 20 → M' a = M a) := by
  have hpe : 2 ^ e ≤ 2 ^ 8 := Nat.pow_le_pow_right (by decide) (by omega)
  have L_19 : ∀ (f k : Nat) (M2 : MT) (y7 : Option AV), 9 - k < f → k ≤ 9 → (GoAt M2 (hpF Hd h e th k)) → (∀ a, a ≠ 19 → a ≠ 20 → M2 a = M a) → Wq (d) k_X2_addPlaces 19 [some (vR 19), some (vR b), some (vI ((h : Nat) : Int)), some (vI ((e : Nat) : Int)), some p, some (vI ((th : Nat) : Int)), some (vI ((k : Nat) : Int)), y7] [] G M2 (fun r M' => r = none ∧ GoAt M' (hpF Hd h e th 9) ∧ ∀ a, a ≠ 19 → a ≠ 20 → M' a = M a) := by
    intro f
    induction f with
    | zero => intro k M2 y7 h; exact absurd h (by omega)
    | succ f ih_k =>
      intro k M2 y7 hf_k hk_k a1 a2
      refine wq_s 21 rfl ?_
      refine wq_s 23 rfl ?_
      refine wq_icmp 104 rfl rfl (by omega) (by omega) (fun c_23 => ?_) (fun c_23 => ?_)
      · have c_23 := of_decide_eq_true c_23
        have e9 : k = 9 := by omega
        subst e9
        exact wq_ret rfl ⟨rfl, a1, a2⟩
      · have c_23 := of_decide_eq_false c_23
        obtain ⟨x, hx⟩ : ∃ x, x = th / 2 ^ k := ⟨_, rfl⟩
        have hx9 : x < 512 := by
          rw [hx]
          exact Nat.lt_of_le_of_lt (Nat.div_le_self _ _) hth
        have hce := (ce_ok hh (show k < 9 by omega)).2.2
        have hcl := (a1.1 _ hce).2
        have hcc9 := cntX_le (hpF Hd h e th k)
        refine wq_s 28 rfl ?_
        refine wq_s 30 rfl ?_
        refine we_shr th k x 31 rfl rfl rfl rfl (by omega) (by omega) hx.symm ?_
        refine wq_if 104 rfl rfl (by omega) (fun c_31 => ?_) (fun c_31 => ?_)
        · have c_31 := of_decide_eq_true c_31
          exact wq_ret rfl ⟨rfl, (by rw [hpF_stop (k := k) (by rw [← hx]; omega) 9 (by omega)]; exact a1), a2⟩
        · have c_31 := of_decide_eq_false c_31
          refine wq_s 35 rfl ?_
          refine wq_getR 38 rfl rfl (hC.lt (by omega)) (hC.ty 15 _ rfl) rfl ?_
          refine wq_getR 41 rfl rfl (hC.lt (by omega)) (hC.ty 1 _ rfl) rfl ?_
          refine wq_s 43 rfl ?_
          refine wq_s 44 rfl ?_
          refine we_mul ((9 * h : Nat) : Int) 45 rfl rfl (by omega) (by omega) ?_
          refine wq_s 47 rfl ?_
          refine we_add (((9 * h) + k : Nat) : Int) 48 rfl rfl (by omega) (by omega) ?_
          refine wq_iald (v := ((ceN h k : Nat) : Int)) 49 rfl rfl (hC.lt (by omega)).2 (hC.ty 2 _ rfl) (by omega) (by omega) (by omega) (by rw [a2 _ (by decide) (by decide)]; exact hS.1 h k hh (by omega)) ?_
          refine wq_s 51 rfl ?_
          refine wq_s 53 rfl ?_
          refine wq_s 55 rfl ?_
          refine we_shr th k (th / 2 ^ k) 56 rfl rfl rfl rfl (by omega) (by omega) rfl ?_
          refine wq_s 57 rfl ?_
          refine we_and (th / 2 ^ k) 1 ((th / 2 ^ k) % 2) 58 rfl rfl rfl rfl (Nat.lt_of_le_of_lt (Nat.div_le_self _ _) (by omega)) (and_1 _) ?_
          refine wq_if 98 rfl rfl (by omega) (fun c_58 => ?_) (fun c_58 => ?_)
          · have c_58 := of_decide_eq_true c_58
            refine we_inc 6 1 ((k + 1 : Nat) : Int) 101 _ rfl rfl rfl (by omega) (by omega) rfl ?_
            refine wq_s 19 rfl ?_
            have ee : hpF Hd h e th (k + 1) = hpF Hd h e th k := if_neg (by omega)
            exact ih_k (k + 1) _ _ (by omega) (by omega) (by rw [ee]; exact a1) a2
          · have c_58 := of_decide_eq_false c_58
            refine wq_s 62 rfl ?_
            refine wq_getR 65 rfl rfl (hC.lt (by omega)) (hC.ty 15 _ rfl) rfl ?_
            refine wq_s 67 rfl ?_
            refine wq_iald (v := (((hpF Hd h e th k) (ceN h k) : Nat) : Int)) 68 rfl rfl (hC.lt (by omega)).2 (hC.ty 16 _ rfl) (by omega) (by omega) (by omega) (a1.1 _ hce).1 ?_
            refine wq_s 69 rfl ?_
            refine we_shr ((hpF Hd h e th k) (ceN h k)) e (((hpF Hd h e th k) (ceN h k)) / 2 ^ e) 70 rfl rfl rfl rfl (by omega) (by omega) rfl ?_
            refine wq_s 71 rfl ?_
            refine we_and (((hpF Hd h e th k) (ceN h k)) / 2 ^ e) 1 ((((hpF Hd h e th k) (ceN h k)) / 2 ^ e) % 2) 72 rfl rfl rfl rfl (Nat.lt_of_le_of_lt (Nat.div_le_self _ _) (by omega)) (and_1 _) ?_
            refine wq_if 98 rfl rfl (by omega) (fun c_72 => ?_) (fun c_72 => ?_)
            · have c_72 := of_decide_eq_true c_72
              refine we_inc 6 1 ((k + 1 : Nat) : Int) 101 _ rfl rfl rfl (by omega) (by omega) rfl ?_
              refine wq_s 19 rfl ?_
              have ee : hpF Hd h e th (k + 1) = hpF Hd h e th k := by
                refine (if_pos (by omega)).trans (funext fun c => ?_)
                unfold hdU
                by_cases hcc : c = ceN h k
                · rw [if_pos hcc, hcc]
                  apply tb_ext
                  intro i
                  rw [Nat.testBit_or, Bool.or_eq_true, pow_tb]
                  refine ⟨fun z => z.elim id (fun z => ?_), Or.inl⟩
                  rw [z]
                  exact (tb_div _ _).2 (by omega)
                · rw [if_neg hcc]
              exact ih_k (k + 1) _ _ (by omega) (by omega) (by rw [ee]; exact a1) a2
            · have c_72 := of_decide_eq_false c_72
              refine wq_s 76 rfl ?_
              refine wq_getR 79 rfl rfl (hC.lt (by omega)) (hC.ty 15 _ rfl) rfl ?_
              refine wq_s 81 rfl ?_
              refine wq_s 82 rfl ?_
              refine wq_iald (v := (((hpF Hd h e th k) (ceN h k) : Nat) : Int)) 83 rfl rfl (hC.lt (by omega)).2 (hC.ty 16 _ rfl) (by omega) (by omega) (by omega) (a1.1 _ hce).1 ?_
              refine wq_s 84 rfl ?_
              refine wq_s 85 rfl ?_
              refine we_shl 1 e (2 ^ e) 86 rfl rfl rfl rfl (by omega) (Nat.one_mul _) (by omega) ?_
              refine we_or ((hpF Hd h e th k) (ceN h k)) (2 ^ e) (((hpF Hd h e th k) (ceN h k)) ||| (2 ^ e)) 87 rfl rfl rfl rfl (by omega) (by omega) rfl ?_
              refine wq_iast 88 rfl rfl (hC.lt (by omega)) (hC.ty 16 _ rfl) (by omega) (by omega) (by omega) ?_
              refine wq_s 89 rfl ?_
              refine wq_s 90 rfl ?_
              refine wq_getE (v := ((cntX (hpF Hd h e th k) : Nat) : Int)) 2 93 rfl rfl (hC.lt (by omega)) (hC.ty 15 _ rfl) rfl rfl (by rw [up2_ne (Or.inl (by decide))]; exact a1.2) ?_
              refine wq_s 94 rfl ?_
              refine we_add (((cntX (hpF Hd h e th k)) + 1 : Nat) : Int) 95 rfl rfl (by omega) (by omega) ?_
              refine wq_putE 2 98 rfl rfl (hC.lt (by omega)) (hC.ty 15 _ rfl) rfl (by decide) (Or.inl rfl) rfl ?_
              refine we_inc 6 1 ((k + 1 : Nat) : Int) 101 _ rfl rfl rfl (by omega) (by omega) rfl ?_
              refine wq_s 19 rfl ?_
              have ee : hpF Hd h e th (k + 1) = hdU (hpF Hd h e th k) (ceN h k) (2 ^ e) := if_pos (by omega)
              have hcu := cnt_hdU (Hd := hpF Hd h e th k) (cl := ceN h k) (m := 2 ^ e) hce
              have hp1 : pop9 (andN (2 ^ e) ((hpF Hd h e th k) (ceN h k))) = 1 := by
                rw [show andN (2 ^ e) ((hpF Hd h e th k) (ceN h k)) = 2 ^ e from tb_ext fun i => by
                  rw [andN_tb, pow_tb]
                  refine ⟨fun z => z.1, fun z => ⟨z, fun y => ?_⟩⟩
                  rw [z] at y
                  have := (tb_div _ _).1 y
                  omega]
                exact pop1_pow ⟨e, he⟩
              refine ih_k (k + 1) _ _ (by omega) (by omega) ⟨fun c hc => ?_, ?_⟩ ?_
              · rw [up2_row (by decide)]
                refine ⟨?_, hpF_lt (fun c hc => (hH.1 c hc).2) he _ c hc⟩
                rw [ee]
                unfold hdU
                by_cases hcc : c = ceN h k
                · rw [if_pos hcc, hcc, up2_at]
                · rw [if_neg hcc, up2_ne (Or.inr (by omega))]
                  exact (a1.1 c hc).1
              · rw [up2_at, ee, hcu, hp1]
              · intro a h1 h2
                rw [up2_row h1, up2_row h2]
                exact a2 a h1 h2
  refine wq_s 16 rfl ?_
  refine wq_s 17 rfl ?_
  refine wq_s 19 rfl ?_
  exact L_19 10 0 M _ (by omega) (by omega) hH (fun _ _ _ => rfl)
theorem c_addPlN {d : Nat} {G : GT} {M : MT} {b h e m : Nat} {X Hd : Nat → Nat} (hC : ClsG G) (hb : IsBd b) (hS : ShpAt M) (hB : BdC M b X) (hH : GoAt M Hd) (hh : h < 27) (he : e < 9) (hm : m < 2147483648) : Mq d k_X2_addPlaces [vR 19, vR b, vI (h : Int), vI (e : Int), vI (m : Int)] G M (fun r M' => r = none ∧ GoAt M' (hpF Hd h e (plH X h e &&& m) 9) ∧ ∀ a, a ≠ 19 → a ≠ 20 → M' a = M a) := by
  have hpl := plH_lt X h e
  refine wq_s 2 rfl ?_
  refine wq_s 3 rfl ?_
  refine wq_getR 6 rfl rfl (hC.lt (by omega)) (hC.bd hb).1 rfl ?_
  refine wq_s 8 rfl ?_
  refine wq_s 9 rfl ?_
  refine we_mul ((9 * h : Nat) : Int) 10 rfl rfl (by omega) (by omega) ?_
  refine wq_s 11 rfl ?_
  refine we_add ((9 * h + e : Nat) : Int) 12 rfl rfl (by omega) (by omega) ?_
  refine wq_iald (v := ((plH X h e : Nat) : Int)) 13 rfl rfl (hC.lt (by omega)).2 (hC.bd hb).2.2.1 (by omega) (by omega) (by omega) (hB.2 h e hh he) ?_
  refine we_and m (plH X h e) (plH X h e &&& m) 14 rfl rfl rfl rfl (by omega) (Nat.and_comm _ _) ?_
  exact addPl_14 hC hS hH hh he (and_lt2 (k := 9) hpl)
theorem c_addPlM {d : Nat} {G : GT} {M : MT} {b h e m : Nat} {X Hd : Nat → Nat} (hC : ClsG G) (hb : IsBd b) (hS : ShpAt M) (hB : BdC M b X) (hH : GoAt M Hd) (hh : h < 27) (he : e < 9) (hm : m < 2147483648) : Mq d k_X2_addPlaces [vR 19, vR b, vI (h : Int), vI (e : Int), vI (-1 - (m : Int))] G M (fun r M' => r = none ∧ GoAt M' (hpF Hd h e (andN (plH X h e) m) 9) ∧ ∀ a, a ≠ 19 → a ≠ 20 → M' a = M a) := by
  have hpl := plH_lt X h e
  refine wq_s 2 rfl ?_
  refine wq_s 3 rfl ?_
  refine wq_getR 6 rfl rfl (hC.lt (by omega)) (hC.bd hb).1 rfl ?_
  refine wq_s 8 rfl ?_
  refine wq_s 9 rfl ?_
  refine we_mul ((9 * h : Nat) : Int) 10 rfl rfl (by omega) (by omega) ?_
  refine wq_s 11 rfl ?_
  refine we_add ((9 * h + e : Nat) : Int) 12 rfl rfl (by omega) (by omega) ?_
  refine wq_iald (v := ((plH X h e : Nat) : Int)) 13 rfl rfl (hC.lt (by omega)).2 (hC.bd hb).2.2.1 (by omega) (by omega) (by omega) (hB.2 h e hh he) ?_
  refine we_andm (plH X h e) m (andN (plH X h e) m) 14 rfl rfl rfl (by omega) rfl ?_
  exact addPl_14 hC hS hH hh he (andN_lt (k := 9) hpl)
