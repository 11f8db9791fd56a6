/-! subsets: pick, first -/
def uN (mk : Nat → Nat) (v : Nat) : Nat → Nat
  | 0 => 0
  | i + 1 => if v / 2 ^ i % 2 = 1 then uN mk v i ||| mk i else uN mk v i
theorem uN_tb (mk : Nat → Nat) (v : Nat) : ∀ k x, (uN mk v k).testBit x = true ↔ ∃ i, i < k ∧ v.testBit i = true ∧ (mk i).testBit x = true := by
  intro k
  induction k with
  | zero =>
    intro x
    show (0 : Nat).testBit x = true ↔ _
    rw [Nat.zero_testBit]
    exact ⟨fun z => (by cases z), fun ⟨i, h, _⟩ => absurd h (Nat.not_lt_zero _)⟩
  | succ k ih =>
    intro x
    show ((if v / 2 ^ k % 2 = 1 then uN mk v k ||| mk k else uN mk v k) : Nat).testBit x = true ↔ _
    by_cases hb : v / 2 ^ k % 2 = 1
    · rw [if_pos hb, Nat.testBit_or, Bool.or_eq_true, ih x]
      constructor
      · rintro (⟨i, h1, h2⟩ | h)
        · exact ⟨i, by omega, h2⟩
        · exact ⟨k, by omega, (tb_div _ _).2 hb, h⟩
      · rintro ⟨i, h1, h2, h3⟩
        by_cases hik : i = k
        · subst hik
          exact Or.inr h3
        · exact Or.inl ⟨i, by omega, h2, h3⟩
    · rw [if_neg hb, ih x]
      constructor
      · rintro ⟨i, h1, h2⟩
        exact ⟨i, by omega, h2⟩
      · rintro ⟨i, h1, h2, h3⟩
        refine ⟨i, ?_, h2, h3⟩
        by_cases hik : i = k
        · rw [hik] at h2
          exact absurd ((tb_div _ _).1 h2) hb
        · omega
theorem uN_lt {mk : Nat → Nat} {v : Nat} (h : ∀ i, i < 9 → mk i < 512) : ∀ k, k ≤ 9 → uN mk v k < 512 := by
  intro k
  induction k with
  | zero => intro _; exact Nat.zero_lt_succ _
  | succ k ih =>
    intro hk
    show (if v / 2 ^ k % 2 = 1 then uN mk v k ||| mk k else uN mk v k) < 512
    split
    · exact or_lt2 (k := 9) (ih (by omega)) (h k (by omega))
    · exact ih (by omega)
theorem uN_add {mk : Nat → Nat} {s i : Nat} (hi : i < 9) : uN mk s 9 ||| mk i = uN mk (s ||| 2 ^ i) 9 := tb_ext fun x => by
  rw [Nat.testBit_or, Bool.or_eq_true, uN_tb, uN_tb]
  constructor
  · rintro (⟨j, h1, h2, h3⟩ | h)
    · exact ⟨j, h1, by rw [Nat.testBit_or, h2]; rfl, h3⟩
    · exact ⟨i, hi, by rw [Nat.testBit_or, pow_tb.2 rfl, Bool.or_true], h⟩
  · rintro ⟨j, h1, h2, h3⟩
    rw [Nat.testBit_or, Bool.or_eq_true, pow_tb] at h2
    rcases h2 with h2 | h2
    · exact Or.inl ⟨j, h1, h2, h3⟩
    · rw [h2] at h3
      exact Or.inr h3
theorem uN_mono {mk : Nat → Nat} {s v : Nat} (h : ∀ i, s.testBit i = true → v.testBit i = true) : pop9 (uN mk s 9) ≤ pop9 (uN mk v 9) := popc_mono 9 _ _ (fun x hx => by
  rw [uN_tb] at hx ⊢
  obtain ⟨i, h1, h2, h3⟩ := hx
  exact ⟨i, h1, h i h2, h3⟩)
theorem cmb_sub : ∀ (n l s v : Nat), v ∈ cmbF l n s → ∀ i, s.testBit i = true → v.testBit i = true := by
  intro n
  induction n with
  | zero =>
    intro l s v hv i hi
    cases l with
    | zero =>
      rw [cmbF_z] at hv
      rw [List.mem_singleton.1 hv]
      exact hi
    | succ l => cases hv
  | succ n ih =>
    intro l s v hv i hi
    cases l with
    | zero =>
      rw [cmbF_z] at hv
      rw [List.mem_singleton.1 hv]
      exact hi
    | succ l =>
      rcases List.mem_append.1 hv with hv | hv
      · exact ih l _ v hv i (by rw [Nat.testBit_or, hi]; rfl)
      · exact ih (l + 1) s v hv i hi
theorem cmb_nil : ∀ (n l s : Nat), n < l → cmbF l n s = [] := by
  intro n
  induction n with
  | zero =>
    intro l s h
    cases l with
    | zero => exact absurd h (Nat.lt_irrefl _)
    | succ l => rfl
  | succ n ih =>
    intro l s h
    cases l with
    | zero => exact absurd h (Nat.not_lt_zero _)
    | succ l =>
      show cmbF l n (s ||| 2 ^ (8 - n)) ++ cmbF (l + 1) n s = []
      rw [ih l _ (by omega), ih (l + 1) s (by omega)]
      rfl
theorem fstP_app {α : Type} {P : α → Prop} (k l : List α) : fstP P (k ++ l) = match fstP P k with
    | some x => some x
    | none => fstP P l := by
  induction k with
  | nil => rfl
  | cons x k ih =>
    by_cases hx : P x
    · rw [List.cons_append, fstP_t hx, fstP_t hx]
    · rw [List.cons_append, fstP_f hx, fstP_f hx, ih]
theorem fstP_none {α : Type} {P : α → Prop} : ∀ {l : List α}, (∀ x, x ∈ l → ¬ P x) → fstP P l = none := by
  intro l
  induction l with
  | nil => intro _; rfl
  | cons y l ih =>
    intro h
    rw [fstP_f (h y (List.mem_cons_self ..))]
    exact ih (fun x hx => h x (List.mem_cons_of_mem _ hx))
def Tch (mk : Nat → Nat) (z v : Nat) : Prop := pop9 (uN mk v 9) = z ∧ TcO mk v (uN mk v 9)
noncomputable def pkF (mk : Nat → Nat) (z l n s : Nat) : Nat := (fstP (Tch mk z) (cmbF l n s)).getD 0
theorem pk_0 {mk : Nat → Nat} {z n s : Nat} : pkF mk z 0 n s = cI (Tch mk z s) s 0 := by
  unfold pkF
  rw [cmbF_z]
  by_cases h : Tch mk z s
  · rw [fstP_t h, cI_t h]
    rfl
  · rw [fstP_f h, cI_f h]
    rfl
theorem pk_nz {mk : Nat → Nat} {z l n s : Nat} (hs : s ≠ 0) (h : pkF mk z l n s = 0) : fstP (Tch mk z) (cmbF l n s) = none := by
  unfold pkF at h
  cases hf : fstP (Tch mk z) (cmbF l n s) with
  | none => rfl
  | some v =>
    rw [hf] at h
    have h : v = 0 := h
    obtain ⟨i, hi⟩ := nz_tb hs
    have h2 := cmb_sub n l s v (fstP_some hf).1 i hi
    rw [h, Nat.zero_testBit] at h2
    cases h2
theorem pk_hit {mk : Nat → Nat} {z l s i : Nat} (hi : i < 9) (h : pkF mk z l (8 - i) (s ||| 2 ^ i) ≠ 0) : pkF mk z (l + 1) (9 - i) s = pkF mk z l (8 - i) (s ||| 2 ^ i) := by
  unfold pkF at h ⊢
  rw [cmbF_s hi, fstP_app]
  cases hf : fstP (Tch mk z) (cmbF l (8 - i) (s ||| 2 ^ i)) with
  | none =>
    rw [hf] at h
    exact absurd rfl h
  | some v => rfl
theorem pk_mis {mk : Nat → Nat} {z l s i : Nat} (hi : i < 9) (h : fstP (Tch mk z) (cmbF l (8 - i) (s ||| 2 ^ i)) = none) : pkF mk z (l + 1) (9 - i) s = pkF mk z (l + 1) (9 - (i + 1)) s := by
  unfold pkF
  rw [cmbF_s hi, fstP_app, h, show 9 - (i + 1) = 8 - i by omega]
theorem pk_cut {mk : Nat → Nat} {z l n s : Nat} (h : z < pop9 (uN mk s 9)) : fstP (Tch mk z) (cmbF l n s) = none := fstP_none (fun v hv z1 => by
  have h1 := uN_mono (mk := mk) (cmb_sub n l s v hv)
  have h2 := z1.1
  omega)
theorem pkF_lt {mk : Nat → Nat} {z : Nat} : ∀ (l n s : Nat), s < 512 → n ≤ 9 → pkF mk z l n s < 512 := by
  intro l n s hs hn
  have h : ∀ (n l s v : Nat), s < 512 → n ≤ 9 → v ∈ cmbF l n s → v < 512 := by
    intro n
    induction n with
    | zero =>
      intro l s v hs _ hv
      cases l with
      | zero =>
        rw [cmbF_z] at hv
        rw [List.mem_singleton.1 hv]
        exact hs
      | succ l => cases hv
    | succ n ih =>
      intro l s v hs hn hv
      cases l with
      | zero =>
        rw [cmbF_z] at hv
        rw [List.mem_singleton.1 hv]
        exact hs
      | succ l =>
        have hp : 2 ^ (8 - n) ≤ 2 ^ 8 := Nat.pow_le_pow_right (by decide) (by omega)
        rcases List.mem_append.1 hv with hv | hv
        · exact ih l _ v (or_lt2 (k := 9) hs (by omega)) (by omega) hv
        · exact ih (l + 1) s v hs (by omega) hv
  unfold pkF
  cases hf : fstP (Tch mk z) (cmbF l n s) with
  | none => exact Nat.zero_lt_succ _
  | some v => exact h n l s v hs hn (fstP_some hf).1
theorem c_pick {G : GT} {M : MT} {mk : Nat → Nat} {z : Nat} (hC : ClsG G) (hM : MkAt M mk) (hz : z ≤ 9) : ∀ (l d fr s : Nat), l ≤ 4 → fr ≤ 9 → s < 512 → Mq (d + l + 1) k_X6_pick [vR 23, vI (z : Int), vI (l : Int), vI (fr : Int), vI (s : Int), vI ((uN mk s 9 : Nat) : Int)] G M (fun r M' => r = some (vI ((pkF mk z l (9 - fr) s : Nat) : Int)) ∧ M' = M) := by
  have hml : ∀ i, i < 9 → mk i < 512 := fun i hi => (hM i hi).2
  intro l
  induction l with
  | zero =>
    intro d fr s _ hfr hs
    have hu := uN_lt (v := s) hml 9 (Nat.le_refl _)
    have hpp := pop9_le (uN mk s 9)
    refine wq_s 1 rfl ?_
    refine wq_s 4 rfl ?_
    refine wq_s 6 rfl ?_
    refine wq_st1 9 rfl rfl (by decide) (Nat.le_of_ble_eq_true rfl) rfl (Nat.le_of_ble_eq_true rfl) (c_bitCount (n := uN mk s 9) hu) (fun r M1 hr => ?_)
    obtain ⟨rfl, hM1⟩ := hr
    subst M1
    dsimp only [Option.toList, List.cons_append, List.nil_append]
    refine wq_s 10 rfl ?_
    refine wq_icmp 29 rfl rfl (by omega) (by omega) (fun c_10 => ?_) (fun c_10 => ?_)
    · have c_10 := of_decide_eq_true c_10
      refine wq_s 30 rfl ?_
      exact wq_ret rfl ⟨by rw [pk_0, cI_f (fun y => by have := y.1; omega)]; rfl, rfl⟩
    · have c_10 := of_decide_eq_false c_10
      refine wq_s 14 rfl ?_
      refine wq_s 16 rfl ?_
      refine wq_s 18 rfl ?_
      refine wq_st3 21 rfl rfl (by decide) (Nat.le_of_ble_eq_true rfl) rfl (Nat.le_of_ble_eq_true rfl) (c_touches hC hM hs hu) (fun r M1 hr => ?_)
      rcases hr with ⟨rfl, b_18, hM1⟩ | ⟨rfl, b_18, hM1⟩
      · subst M1
        dsimp only [Option.toList, List.cons_append, List.nil_append]
        refine wq_s 24 rfl ?_
        refine wq_s 26 rfl ?_
        refine wq_s 30 rfl ?_
        exact wq_ret rfl ⟨by rw [pk_0, cI_t ⟨by omega, b_18⟩], rfl⟩
      · subst M1
        dsimp only [Option.toList, List.cons_append, List.nil_append]
        refine wq_s 29 rfl ?_
        refine wq_s 30 rfl ?_
        exact wq_ret rfl ⟨by rw [pk_0, cI_f (fun y => b_18 y.2)]; rfl, rfl⟩
  | succ l ihl =>
    intro d fr s hl hfr hs
    have hu := uN_lt (v := s) hml 9 (Nat.le_refl _)
    have L_34 : ∀ (f i : Nat) (y7 : Option AV) (y8 : Option AV), 9 - i < f → i ≤ 9 → (pkF mk z (l + 1) (9 - fr) s = pkF mk z (l + 1) (9 - i) s) → Wq (d + (l + 1) + 1) k_X6_pick 34 [some (vR 23), some (vI ((z : Nat) : Int)), some (vI ((l + 1 : Nat) : Int)), some (vI ((fr : Nat) : Int)), some (vI ((s : Nat) : Int)), some (vI ((uN mk s 9 : Nat) : Int)), some (vI ((i : Nat) : Int)), y7, y8] [] G M (fun r M' => r = some (vI ((pkF mk z (l + 1) (9 - fr) s : Nat) : Int)) ∧ M' = M) := by
      intro f
      induction f with
      | zero => intro i y7 y8 h; exact absurd h (by omega)
      | succ f ih_i =>
        intro i y7 y8 hf_i hk_i hE
        refine wq_s 36 rfl ?_
        refine wq_s 38 rfl ?_
        refine wq_s 39 rfl ?_
        refine we_sub ((9 - (l + 1) : Nat) : Int) 40 rfl rfl (by omega) (by omega) ?_
        refine wq_icmp 98 rfl rfl (by omega) (by omega) (fun c_40 => ?_) (fun c_40 => ?_)
        · have c_40 := of_decide_eq_true c_40
          refine wq_s 99 rfl ?_
          exact wq_ret rfl ⟨by rw [hE]; unfold pkF; rw [cmb_nil _ _ _ (by omega)]; rfl, rfl⟩
        · have c_40 := of_decide_eq_false c_40
          have hmi := hml i (by omega)
          have hpw : 2 ^ i ≤ 2 ^ 8 := Nat.pow_le_pow_right (by decide) (by omega)
          have hso := or_lt2 (m := s) (n := 2 ^ i) (k := 9) hs (by omega)
          have hw := uN_lt (v := s ||| 2 ^ i) hml 9 (Nat.le_refl _)
          have hpp := pop9_le (uN mk (s ||| 2 ^ i) 9)
          have hnz : s ||| 2 ^ i ≠ 0 := fun y => by
            have h9 : (s ||| 2 ^ i).testBit i = true := by rw [Nat.testBit_or, pow_tb.2 rfl, Bool.or_true]
            rw [y, Nat.zero_testBit] at h9
            cases h9
          refine wq_s 45 rfl ?_
          refine wq_s 46 rfl ?_
          refine wq_s 48 rfl ?_
          refine wq_iald (v := ((mk i : Nat) : Int)) 49 rfl rfl (hC.lt (by omega)).2 (hC.ty 19 _ rfl) (by omega) (by omega) (by omega) (hM i (by omega)).1 ?_
          refine we_or (uN mk s 9) (mk i) (uN mk (s ||| 2 ^ i) 9) 50 rfl rfl rfl rfl (by omega) (by omega) (uN_add (by omega)) ?_
          refine wq_s 52 rfl ?_
          refine wq_s 54 rfl ?_
          refine wq_st1 57 rfl rfl (by decide) (Nat.le_of_ble_eq_true rfl) rfl (Nat.le_of_ble_eq_true rfl) (c_bitCount (n := uN mk (s ||| 2 ^ i) 9) hw) (fun r M1 hr => ?_)
          obtain ⟨rfl, hM1⟩ := hr
          subst M1
          dsimp only [Option.toList, List.cons_append, List.nil_append]
          refine wq_s 58 rfl ?_
          refine wq_icmp 92 rfl rfl (by omega) (by omega) (fun c_58 => ?_) (fun c_58 => ?_)
          · have c_58 := of_decide_eq_true c_58
            refine we_inc 6 1 ((i + 1 : Nat) : Int) 95 _ rfl rfl rfl (by omega) (by omega) rfl ?_
            refine wq_s 34 rfl ?_
            exact ih_i (i + 1) _ _ (by omega) (by omega) (by rw [hE, pk_mis (by omega) (pk_cut (by omega))])
          · have c_58 := of_decide_eq_false c_58
            refine wq_s 62 rfl ?_
            refine wq_s 63 rfl ?_
            refine wq_s 64 rfl ?_
            refine wq_s 65 rfl ?_
            refine we_sub ((l : Nat) : Int) 66 rfl rfl (by omega) (by omega) ?_
            refine wq_s 68 rfl ?_
            refine wq_s 69 rfl ?_
            refine we_add ((i + 1 : Nat) : Int) 70 rfl rfl (by omega) (by omega) ?_
            refine wq_s 72 rfl ?_
            refine wq_s 73 rfl ?_
            refine wq_s 75 rfl ?_
            refine we_shl 1 i (2 ^ i) 76 rfl rfl rfl rfl (by omega) (Nat.one_mul _) (by omega) ?_
            refine we_or s (2 ^ i) (s ||| (2 ^ i)) 77 rfl rfl rfl rfl (by omega) (by omega) rfl ?_
            refine wq_s 79 rfl ?_
            refine wq_st6 82 rfl rfl (by decide) (Nat.le_of_ble_eq_true rfl) rfl (Nat.le_of_ble_eq_true rfl) (ihl d (i + 1) (s ||| 2 ^ i) (by omega) (by omega) hso) (fun r M1 hr => ?_)
            obtain ⟨rfl, hM1⟩ := hr
            subst M1
            dsimp only [Option.toList, List.cons_append, List.nil_append]
            rw [show 9 - (i + 1) = 8 - i by omega]
            have hpk := pkF_lt (mk := mk) (z := z) l (8 - i) (s ||| 2 ^ i) hso (by omega)
            refine wq_s 84 rfl ?_
            refine wq_s 86 rfl ?_
            refine wq_if 92 rfl rfl (by omega) (fun c_86 => ?_) (fun c_86 => ?_)
            · have c_86 := of_decide_eq_true c_86
              refine we_inc 6 1 ((i + 1 : Nat) : Int) 95 _ rfl rfl rfl (by omega) (by omega) rfl ?_
              refine wq_s 34 rfl ?_
              exact ih_i (i + 1) _ _ (by omega) (by omega) (by rw [hE, pk_mis (by omega) (pk_nz hnz (by omega))])
            · have c_86 := of_decide_eq_false c_86
              refine wq_s 91 rfl ?_
              exact wq_ret rfl ⟨by rw [hE, pk_hit (by omega) (by omega)], rfl⟩
    refine wq_s 1 rfl ?_
    refine wq_if 31 rfl rfl (by omega) (fun c_1 => ?_) (fun c_1 => ?_)
    · have c_1 := of_decide_eq_true c_1
      refine wq_s 32 rfl ?_
      refine wq_s 34 rfl ?_
      exact L_34 10 fr _ _ (by omega) (by omega) rfl
    · have c_1 := of_decide_eq_false c_1
      exact absurd c_1 (by omega)
theorem uN_0 (mk : Nat → Nat) : ∀ k, uN mk 0 k = 0 := by
  intro k
  induction k with
  | zero => rfl
  | succ k ih => exact (if_neg (by rw [Nat.zero_div]; decide)).trans ih
theorem c_first {d : Nat} {G : GT} {M : MT} {b r p : Nat} {X : Nat → Nat} (hC : ClsG G) (hb : IsBd b) (hS : ShpAt M) (hB : BdC M b X) (hT : TbAt M) (hr : 4 ≤ r ∧ r < 13) (hp : p < 27) : Mq (d + 6) k_X6_first [vR 22, vR b, vI (r : Int), vI (p : Int)] G M (fun z M' => ((LdC r p ∧ z = some (vI ((pkF (mkN X r p) (sizeN r) (sizeN r) 9 0 : Nat) : Int)) ∧ MkAt M' (mkN X r p)) ∨ (¬ LdC r p ∧ z = some (vI 0))) ∧ ∀ a, a ≠ 23 → M' a = M a) := by
  have hsz : 2 ≤ sizeN r ∧ sizeN r ≤ 4 := by unfold sizeN; (repeat' split) <;> omega
  refine wq_s 1 rfl ?_
  refine wq_s 2 rfl ?_
  refine wq_s 3 rfl ?_
  refine wq_s 4 rfl ?_
  refine wq_vt3 7 rfl rfl (Nat.le_of_ble_eq_true rfl) (hC.lt (by omega)) (hC.ty 18 _ rfl) rfl (Nat.le_of_ble_eq_true rfl) (c_load (r := (r : Int)) (p := (p : Int)) hC hb hS hB hT (by omega) (by omega)) (fun z M3 hz => ?_)
  rcases hz with ⟨rfl, hL, -, hM, hF⟩ | ⟨rfl, hL, hM⟩
  · dsimp only [Option.toList, List.cons_append, List.nil_append]
    refine wq_s 12 rfl ?_
    refine wq_s 13 rfl ?_
    refine wq_getR 16 rfl rfl (hC.lt (by omega)) (hC.ty 18 _ rfl) rfl ?_
    refine wq_s 19 rfl ?_
    refine wq_s 20 rfl ?_
    refine wq_iald (v := ((sizeN r : Nat) : Int)) 21 rfl rfl (And.intro (Nat.zero_le 0) (show 2 < G.1 by have := hC.1; omega)).2 hC.2.2.2.1 (by omega) (by omega) (by omega) (by rw [hF _ (by decide), (hT.1 r hr.2).2, if_neg (by omega)]) ?_
    refine wq_s 24 rfl ?_
    refine wq_s 25 rfl ?_
    refine wq_iald (v := ((sizeN r : Nat) : Int)) 26 rfl rfl (And.intro (Nat.zero_le 0) (show 2 < G.1 by have := hC.1; omega)).2 hC.2.2.2.1 (by omega) (by omega) (by omega) (by rw [hF _ (by decide), (hT.1 r hr.2).2, if_neg (by omega)]) ?_
    refine wq_s 27 rfl ?_
    refine wq_s 28 rfl ?_
    refine wq_s 29 rfl ?_
    have hpk := c_pick (mk := mkN X r p) (z := sizeN r) hC hM (by omega) (sizeN r) (d + (4 - sizeN r)) 0 0 (by omega) (by omega) (by decide)
    rw [uN_0, show d + (4 - sizeN r) + sizeN r + 1 = d + 5 by omega] at hpk
    refine wq_st6 32 rfl rfl (by decide) (Nat.le_of_ble_eq_true rfl) rfl (Nat.le_of_ble_eq_true rfl) hpk (fun r9 M4 hr9 => ?_)
    obtain ⟨rfl, hM4⟩ := hr9
    subst M4
    dsimp only [Option.toList, List.cons_append, List.nil_append]
    exact wq_ret rfl ⟨Or.inl ⟨hL, rfl, hM⟩, hF⟩
  · subst M3
    dsimp only [Option.toList, List.cons_append, List.nil_append]
    refine wq_s 10 rfl ?_
    refine wq_s 11 rfl ?_
    exact wq_ret rfl ⟨Or.inr ⟨fun y => hL ⟨y, by omega, by omega⟩, rfl⟩, fun _ _ => rfl⟩
