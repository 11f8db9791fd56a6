/-! rules 0 to 3 in the class -/
theorem GoAt.ext {M : MT} {Hd Hd' : Nat → Nat} (h : GoAt M Hd) (he : ∀ c, c < 81 → Hd c = Hd' c) : GoAt M Hd' := ⟨h.1.ext he, by
  rw [h.2, show cntX Hd = cntX Hd' from sumN_ext 81 (fun c hc => by rw [he c hc])]⟩
theorem v1N (e : Nat) : (((e + 1 : Nat) : Int) - 1).toNat = e := by omega
theorem hoF (c s : Nat) (hc : c < 81) : houseF (c : Int) (s : Int) = ((hoN c s : Nat) : Int) := by
  have := houseF_rng (c := (c : Int)) (s := (s : Int)) (by omega) (by omega)
  unfold hoN
  omega
theorem peers_ho {c n : Nat} (hc : c < 81) (hn : n < 81) : peersF (c : Int) (n : Int) = 1 ↔ (c ≠ n ∧ shB c n = true) := by
  have a0 : houseF (c : Int) 0 = ((hoN c 0 : Nat) : Int) := hoF c 0 hc
  have a1 : houseF (c : Int) 1 = ((hoN c 1 : Nat) : Int) := hoF c 1 hc
  have a2 : houseF (c : Int) 2 = ((hoN c 2 : Nat) : Int) := hoF c 2 hc
  have b0 : houseF (n : Int) 0 = ((hoN n 0 : Nat) : Int) := hoF n 0 hn
  have b1 : houseF (n : Int) 1 = ((hoN n 1 : Nat) : Int) := hoF n 1 hn
  have b2 : houseF (n : Int) 2 = ((hoN n 2 : Nat) : Int) := hoF n 2 hn
  unfold peersF shB
  rw [decide_eq_true_iff]
  constructor
  · intro z
    by_cases h : (c : Int) ≠ n ∧ (houseF c 0 = houseF n 0 ∨ houseF c 1 = houseF n 1 ∨ houseF c 2 = houseF n 2)
    · refine ⟨by omega, ?_⟩
      rcases h.2 with y | y | y
      · exact Or.inl (by omega)
      · exact Or.inr (Or.inl (by omega))
      · exact Or.inr (Or.inr (by omega))
    · rw [if_neg h] at z
      cases z
  · rintro ⟨z1, z2⟩
    refine if_pos ⟨by omega, ?_⟩
    rcases z2 with y | y | y
    · exact Or.inl (by omega)
    · exact Or.inr (Or.inl (by omega))
    · exact Or.inr (Or.inr (by omega))
theorem sh_ex {c n : Nat} : shB c n = true ↔ ∃ s, s < 3 ∧ hoN c s = hoN n s := by
  unfold shB
  rw [decide_eq_true_iff]
  constructor
  · rintro (h | h | h)
    · exact ⟨0, by decide, h⟩
    · exact ⟨1, by decide, h⟩
    · exact ⟨2, by decide, h⟩
  · rintro ⟨s, hs, h⟩
    rcases (show s = 0 ∨ s = 1 ∨ s = 2 by omega) with rfl | rfl | rfl
    · exact Or.inl h
    · exact Or.inr (Or.inl h)
    · exact Or.inr (Or.inr h)
theorem peers_ce {p c : Nat} (hp : p < 81) (hc : c < 81) : peersF (p : Int) (c : Int) = 1 ↔ ∃ s, s < 3 ∧ ∃ j, j < 9 ∧ j ≠ poN p s ∧ c = ceN (hoN p s) j := by
  rw [peers_ho hp hc, sh_ex]
  constructor
  · rintro ⟨h1, s, hs, h2⟩
    have h3 := ho_ok hc hs
    refine ⟨s, hs, poN c s, h3.2.2.2, fun z => h1 ?_, ?_⟩
    · rw [← h3.1, ← (ho_ok hp hs).1, h2, z]
    · rw [h2, h3.1]
  · rintro ⟨s, hs, j, hj, h1, h2⟩
    have h3 := ho_ok hp hs
    have h4 := ce_ok h3.2.2.1 hj
    rw [h3.2.1, ← h2] at h4
    exact ⟨fun z => h1 (by rw [z]; exact h4.2.1.symm), s, hs, h4.1.symm⟩
def sgH (X : Nat → Nat) (p e : Nat) : Nat → (Nat → Nat)
  | 0 => fun _ => 0
  | s + 1 => hpF (sgH X p e s) (hoN p s) e (andN (plH X (hoN p s) e) (2 ^ poN p s)) 9
theorem sgH_tb {X : Nat → Nat} {p e : Nat} : ∀ s c i, (sgH X p e s c).testBit i = true ↔ (i = e ∧ ∃ s1, s1 < s ∧ ∃ j, j < 9 ∧ ((X (ceN (hoN p s1) j)).testBit e = true ∧ j ≠ poN p s1) ∧ c = ceN (hoN p s1) j) := by
  intro s
  induction s with
  | zero =>
    intro c i
    show (0 : Nat).testBit i = true ↔ _
    rw [Nat.zero_testBit]
    exact ⟨fun z => (by cases z), fun ⟨_, s1, h, _⟩ => absurd h (Nat.not_lt_zero _)⟩
  | succ s ih =>
    intro c i
    show (hpF (sgH X p e s) (hoN p s) e (andN (plH X (hoN p s) e) (2 ^ poN p s)) 9 c).testBit i = true ↔ _
    rw [hpF_tb, ih c i]
    constructor
    · rintro (⟨g1, s1, g2, g3⟩ | ⟨g1, j, g2, g3, g4⟩)
      · exact ⟨g1, s1, by omega, g3⟩
      · have g5 := (andN_tb _ _ _).1 g3
        rw [plH_tb, pow_tb] at g5
        exact ⟨g1, s, by omega, j, g2, ⟨g5.1.2, g5.2⟩, g4⟩
    · rintro ⟨g1, s1, g2, j, g3, g4, g5⟩
      by_cases hs : s1 = s
      · subst hs
        refine Or.inr ⟨g1, j, g3, (andN_tb _ _ _).2 ?_, g5⟩
        rw [plH_tb, pow_tb]
        exact ⟨⟨g3, g4.1⟩, g4.2⟩
      · exact Or.inl ⟨g1, s1, by omega, j, g3, g4, g5⟩
theorem sg_ins {X : Nat → Nat} {p e : Nat} (hp : p < 81) (he : e < 9) (hX : X p = 2 ^ e) {c : Nat} (hc : c < 81) : sgH X p e 3 c = insY X 0 (p : Int) ((e + 1 : Nat) : Int) c := by
  have hsc : singleC X (p : Int) ((e + 1 : Nat) : Int) := ⟨⟨by omega, by omega⟩, ⟨by omega, by omega⟩, by rw [Int.toNat_natCast, v1N]; exact hX⟩
  apply tb_ext
  intro i
  rw [sgH_tb, ins0_tb hsc, v1N, peers_ce hp hc]
  constructor
  · rintro ⟨g1, s, g2, j, g3, g4, g5⟩
    exact ⟨⟨s, g2, j, g3, g4.2, g5⟩, g1, by rw [g1, g5]; exact g4.1⟩
  · rintro ⟨⟨s, g2, j, g3, g4, g5⟩, g1, g6⟩
    exact ⟨g1, s, g2, j, g3, ⟨by rw [← g5, ← g1]; exact g6, g4⟩, g5⟩
theorem insY_f {X : Nat → Nat} {r p v : Int} (h : ¬ insC X r p v) (c : Nat) : insY X r p v c = 0 := cI_f h
theorem c_markSingle {d : Nat} {G : GT} {M : MT} {b p e : Nat} {X : Nat → Nat} (hC : ClsG G) (hb : IsBd b) (hS : ShpAt M) (hB : BdC M b X) (hH : GoAt M (fun _ => 0)) (he : e < 9) (hp : p < 81) : Mq (d + 1) k_X3_markSingle [vR 21, vR b, vI (p : Int), vI (e : Int)] G M (fun z M' => z = none ∧ GoAt M' (insY X 0 (p : Int) ((e + 1 : Nat) : Int)) ∧ ∀ a, a ≠ 19 → a ≠ 20 → M' a = M a) := by
  have hxp := (hB.1 p hp).2
  have hpe : 2 ^ e ≤ 2 ^ 8 := Nat.pow_le_pow_right (by decide) (by omega)
  have L_16 : X p = 2 ^ e → ∀ (f s : Nat) (M2 : MT) (y5 : Option AV) (y6 : Option AV), 3 - s < f → s ≤ 3 → (GoAt M2 (sgH X p e s)) → (∀ a, a ≠ 19 → a ≠ 20 → M2 a = M a) → Wq (d + 1) k_X3_markSingle 16 [some (vR 21), some (vR b), some (vI ((p : Nat) : Int)), some (vI ((e : Nat) : Int)), some (vI ((s : Nat) : Int)), y5, y6] [] G M2 (fun z M' => z = none ∧ GoAt M' (insY X 0 (p : Int) ((e + 1 : Nat) : Int)) ∧ ∀ a, a ≠ 19 → a ≠ 20 → M' a = M a) := by
    intro hX f
    induction f with
    | zero => intro s M2 y5 y6 h; exact absurd h (by omega)
    | succ f ih_s =>
      intro s M2 y5 y6 hf_s hk_s a1 a2
      refine wq_s 18 rfl ?_
      refine wq_s 19 rfl ?_
      refine wq_icmp 77 rfl rfl (by omega) (by omega) (fun c_19 => ?_) (fun c_19 => ?_)
      · have c_19 := of_decide_eq_true c_19
        have e9 : s = 3 := by omega
        subst e9
        exact wq_ret rfl ⟨rfl, a1.ext (fun c hc => sg_ins hp he hX hc), a2⟩
      · have c_19 := of_decide_eq_false c_19
        have ho := ho_ok hp (show s < 3 by omega)
        have ho3 := ho.2.2.1
        have hpp : 2 ^ poN p s ≤ 2 ^ 8 := Nat.pow_le_pow_right (by decide) (by have := ho.2.2.2; omega)
        have ho4 := ho.2.2.2
        refine wq_s 23 rfl ?_
        refine wq_getR 26 rfl rfl (hC.lt (by omega)) (hC.ty 17 _ rfl) rfl ?_
        refine wq_getR 29 rfl rfl (hC.lt (by omega)) (hC.ty 1 _ rfl) rfl ?_
        refine wq_s 30 rfl ?_
        refine wq_s 31 rfl ?_
        refine we_mul ((3 * p : Nat) : Int) 32 rfl rfl (by omega) (by omega) ?_
        refine wq_s 34 rfl ?_
        refine we_add (((3 * p) + s : Nat) : Int) 35 rfl rfl (by omega) (by omega) ?_
        refine wq_iald (v := ((hoN p s : Nat) : Int)) 36 rfl rfl (hC.lt (by omega)).2 (hC.ty 3 _ rfl) (by omega) (by omega) (by omega) (by rw [a2 _ (by decide) (by decide)]; exact (hS.2.1 p s hp (by omega)).1) ?_
        refine wq_s 38 rfl ?_
        refine wq_s 39 rfl ?_
        refine wq_s 40 rfl ?_
        refine wq_getR 43 rfl rfl (hC.lt (by omega)) (hC.ty 17 _ rfl) rfl ?_
        refine wq_getR 46 rfl rfl (hC.lt (by omega)) (hC.ty 1 _ rfl) rfl ?_
        refine wq_s 47 rfl ?_
        refine wq_s 48 rfl ?_
        refine we_mul ((3 * p : Nat) : Int) 49 rfl rfl (by omega) (by omega) ?_
        refine wq_s 51 rfl ?_
        refine we_add (((3 * p) + s : Nat) : Int) 52 rfl rfl (by omega) (by omega) ?_
        refine wq_iald (v := ((poN p s : Nat) : Int)) 53 rfl rfl (hC.lt (by omega)).2 (hC.ty 4 _ rfl) (by omega) (by omega) (by omega) (by rw [a2 _ (by decide) (by decide)]; exact (hS.2.1 p s hp (by omega)).2) ?_
        refine we_shl 1 (poN p s) (2 ^ (poN p s)) 54 rfl rfl rfl rfl (by omega) (Nat.one_mul _) (by omega) ?_
        refine wq_s 56 rfl ?_
        refine wq_s 57 rfl ?_
        refine wq_getR 60 rfl rfl (hC.lt (by omega)) (hC.ty 17 _ rfl) rfl ?_
        refine wq_s 61 rfl ?_
        refine wq_s 63 rfl ?_
        refine wq_s 64 rfl ?_
        refine wq_s 66 rfl ?_
        refine wq_s 67 rfl ?_
        refine we_not (2 ^ (poN p s)) 68 rfl rfl rfl (by omega) ?_
        refine wq_vt4 71 rfl rfl (Nat.le_of_ble_eq_true rfl) (hC.lt (by omega)) (hC.ty 15 _ rfl) rfl (Nat.le_of_ble_eq_true rfl) (c_addPlM (m := 2 ^ poN p s) hC hb (hS.fr (a2 _ (by decide) (by decide)) (a2 _ (by decide) (by decide)) (a2 _ (by decide) (by decide)) (a2 _ (by decide) (by decide))) (hB.fr (a2 _ (by omega) (by omega)) (a2 _ (by omega) (by omega))) a1 ho.2.2.1 he (by omega)) (fun r M3 hr => ?_)
        obtain ⟨rfl, hG3, hF3⟩ := hr
        dsimp only [Option.toList, List.cons_append, List.nil_append]
        refine we_inc 4 1 ((s + 1 : Nat) : Int) 74 _ rfl rfl rfl (by omega) (by omega) rfl ?_
        refine wq_s 16 rfl ?_
        exact ih_s (s + 1) _ _ _ (by omega) (by omega) hG3 (fun a h1 h2 => (hF3 a h1 h2).trans (a2 a h1 h2))
  obtain ⟨x, hx⟩ : ∃ x, x = 2 ^ e := ⟨_, rfl⟩
  refine wq_s 1 rfl ?_
  refine wq_getR 4 rfl rfl (hC.lt (by omega)) (hC.bd hb).1 rfl ?_
  refine wq_s 5 rfl ?_
  refine wq_iald (v := ((X p : Nat) : Int)) 6 rfl rfl (hC.lt (by omega)).2 (hC.bd hb).2.1 (by omega) (by omega) (by omega) (hB.1 p hp).1 ?_
  refine wq_s 7 rfl ?_
  refine wq_s 8 rfl ?_
  refine we_shl 1 e x 9 rfl rfl rfl rfl (by omega) ((Nat.one_mul _).trans hx.symm) (by omega) ?_
  refine wq_icmp 13 rfl rfl (by omega) (by omega) (fun c_9 => ?_) (fun c_9 => ?_)
  · have c_9 := of_decide_eq_true c_9
    refine wq_s 14 rfl ?_
    refine wq_s 16 rfl ?_
    exact L_16 (by omega) 4 0 M _ _ (by omega) (by omega) hH (fun _ _ _ => rfl)
  · have c_9 := of_decide_eq_false c_9
    exact wq_ret rfl ⟨rfl, hH.ext (fun c _ => (insY_f (fun z => by rcases z with z | z | z | z | z | z | z <;> first | exact absurd z.1 (by decide) | (exact c_9 (by have := z.2.2.2; rw [Int.toNat_natCast, v1N] at this; omega))) c).symm), fun _ _ _ => rfl⟩
theorem plF (X : Nat → Nat) (h e : Nat) : plN X (h : Int) e 9 = plH X h e := rfl
theorem ceF {h k : Nat} (hh : h < 27) (hk : k < 9) : cellF (h : Int) (k : Int) = ((ceN h k : Nat) : Int) := by
  have := cellF_rng (h := (h : Int)) (k := (k : Int)) (by omega) (by omega) (by omega) (by omega)
  unfold ceN
  omega
theorem hid_ins {X : Nat → Nat} {p e k : Nat} (hp : p < 27) (he : e < 9) (hk : k < 9) (hX : plH X p e = 2 ^ k) {c : Nat} (hc : c < 81) : hdU (fun _ => 0) (ceN p k) (X (ceN p k) &&& andN 511 (2 ^ e)) c = insY X 1 (p : Int) ((e + 1 : Nat) : Int) c := by
  have hsc : hid1C X (p : Int) ((e + 1 : Nat) : Int) := ⟨⟨by omega, by omega⟩, ⟨by omega, by omega⟩, by rw [v1N, plF, hX]; exact pop1_pow ⟨k, hk⟩⟩
  have hpl : ∀ j, j < 9 → ((X (ceN p j)).testBit e = true ↔ j = k) := fun j hj => by
    have h1 := plH_tb X p e j
    rw [hX, pow_tb] at h1
    exact ⟨fun z => h1.2 ⟨hj, z⟩, fun z => (h1.1 z).2⟩
  apply tb_ext
  intro i
  rw [ins1_tb hsc, v1N]
  unfold hdU
  by_cases hcc : c = ceN p k
  · rw [if_pos hcc, Nat.zero_or, Nat.testBit_and, Bool.and_eq_true, andN_tb, pow_tb, show (511 : Nat) = 2 ^ 9 - 1 from rfl, Nat.testBit_two_pow_sub_one, decide_eq_true_iff, hcc]
    constructor
    · rintro ⟨g1, g2⟩
      exact ⟨⟨k, hk, (hpl k hk).2 rfl, (ceF hp hk).symm⟩, g2, g1⟩
    · rintro ⟨-, g2, g1⟩
      exact ⟨g1, g2⟩
  · rw [if_neg hcc, Nat.zero_testBit]
    constructor
    · intro z; cases z
    · rintro ⟨⟨j, g1, g2, g3⟩, -⟩
      have g4 : j = k := (hpl j g1).1 g2
      rw [g4, ceF hp hk] at g3
      exact absurd (by omega) hcc
theorem c_markHidden {d : Nat} {G : GT} {M : MT} {b p e : Nat} {X : Nat → Nat} (hC : ClsG G) (hb : IsBd b) (hS : ShpAt M) (hB : BdC M b X) (hH : GoAt M (fun _ => 0)) (he : e < 9) (hp : p < 27) : Mq (d + 2) k_X3_markHidden [vR 21, vR b, vI (p : Int), vI (e : Int)] G M (fun z M' => z = none ∧ GoAt M' (insY X 1 (p : Int) ((e + 1 : Nat) : Int)) ∧ ∀ a, a ≠ 19 → a ≠ 20 → M' a = M a) := by
  have hpl := plH_lt X p e
  have hpe : 2 ^ e ≤ 2 ^ 8 := Nat.pow_le_pow_right (by decide) (by omega)
  refine wq_s 1 rfl ?_
  refine wq_getR 4 rfl rfl (hC.lt (by omega)) (hC.bd hb).1 rfl ?_
  refine wq_s 6 rfl ?_
  refine wq_s 7 rfl ?_
  refine we_mul ((9 * p : Nat) : Int) 8 rfl rfl (by omega) (by omega) ?_
  refine wq_s 9 rfl ?_
  refine we_add (((9 * p) + e : Nat) : Int) 10 rfl rfl (by omega) (by omega) ?_
  refine wq_iald (v := ((plH X p e : Nat) : Int)) 11 rfl rfl (hC.lt (by omega)).2 (hC.bd hb).2.2.1 (by omega) (by omega) (by omega) (hB.2 p e hp he) ?_
  refine wq_s 13 rfl ?_
  refine wq_s 15 rfl ?_
  refine wq_st1 18 rfl rfl (by decide) (Nat.le_of_ble_eq_true rfl) rfl (Nat.le_of_ble_eq_true rfl) (c_isOneBit hpl) (fun r M1 hr => ?_)
  rcases hr with ⟨rfl, b_15, hM1⟩ | ⟨rfl, b_15, hM1⟩
  · subst M1
    dsimp only [Option.toList, List.cons_append, List.nil_append]
    obtain ⟨k9, hk9⟩ := pop1 ⟨_, hpl⟩ b_15
    dsimp only at hk9
    obtain ⟨k, hk⟩ := k9
    dsimp only at hk9
    have hce := (ce_ok hp hk).2.2
    refine wq_s 21 rfl ?_
    refine wq_s 22 rfl ?_
    refine wq_getR 25 rfl rfl (hC.lt (by omega)) (hC.ty 17 _ rfl) rfl ?_
    refine wq_s 26 rfl ?_
    refine wq_s 27 rfl ?_
    refine wq_getR 30 rfl rfl (hC.lt (by omega)) (hC.ty 17 _ rfl) rfl ?_
    refine wq_getR 33 rfl rfl (hC.lt (by omega)) (hC.ty 1 _ rfl) rfl ?_
    refine wq_s 35 rfl ?_
    refine wq_s 36 rfl ?_
    refine we_mul ((9 * p : Nat) : Int) 37 rfl rfl (by omega) (by omega) ?_
    refine wq_s 39 rfl ?_
    rw [hk9]
    refine wq_st1 42 rfl rfl (by decide) (Nat.le_of_ble_eq_true rfl) rfl (Nat.le_of_ble_eq_true rfl) (c_placeOf hk) (fun r M1 hr => ?_)
    obtain ⟨rfl, hM1⟩ := hr
    subst M1
    dsimp only [Option.toList, List.cons_append, List.nil_append]
    refine we_add (((9 * p) + k : Nat) : Int) 43 rfl rfl (by omega) (by omega) ?_
    refine wq_iald (v := ((ceN p k : Nat) : Int)) 44 rfl rfl (hC.lt (by omega)).2 (hC.ty 2 _ rfl) (by omega) (by omega) (by omega) (hS.1 p k hp hk) ?_
    refine wq_s 47 rfl ?_
    refine wq_s 48 rfl ?_
    refine wq_s 49 rfl ?_
    refine we_shl 1 e (2 ^ e) 50 rfl rfl rfl rfl (by omega) (Nat.one_mul _) (by omega) ?_
    refine wq_s 51 rfl ?_
    refine we_not (2 ^ e) 52 rfl rfl rfl (by omega) ?_
    refine we_andn 511 (2 ^ e) (andN 511 (2 ^ e)) 53 rfl rfl rfl (by omega) rfl ?_
    refine wq_vt3 56 rfl rfl (Nat.le_of_ble_eq_true rfl) (hC.lt (by omega)) (hC.ty 15 _ rfl) rfl (Nat.le_of_ble_eq_true rfl) (c_X2_add (cl := ceN p k) (bt := andN 511 (2 ^ e)) hC hb hB.1 hH hce (andN_lt (k := 9) (by decide))) (fun r M3 hr => ?_)
    obtain ⟨rfl, hG3, hF3⟩ := hr
    dsimp only [Option.toList, List.cons_append, List.nil_append]
    exact wq_ret rfl ⟨rfl, hG3.ext (fun c hc => hid_ins hp he hk hk9 hc), hF3⟩
  · subst M1
    dsimp only [Option.toList, List.cons_append, List.nil_append]
    refine wq_s 56 rfl ?_
    exact wq_ret rfl ⟨rfl, hH.ext (fun c _ => (insY_f (fun z => by rcases z with z | z | z | z | z | z | z <;> first | exact absurd z.1 (by decide) | (exact b_15 (by have := z.2.2.2; rw [v1N] at this; exact this))) c).symm), fun _ _ _ => rfl⟩
