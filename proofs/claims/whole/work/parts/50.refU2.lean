/-! isDead, meets, leaves -/
def uaN (X : Nat → Nat) (h : Int) : Nat → Nat
  | 0 => 0
  | k + 1 => uaN X h k ||| X (cellF h (k : Int)).toNat
theorem uaN_tb (X : Nat → Nat) (h : Int) : ∀ k i, (uaN X h k).testBit i = true ↔ ∃ j : Nat, j < k ∧ (X (cellF h (j : Int)).toNat).testBit i = true := by
  intro k
  induction k with
  | zero =>
    intro i
    constructor
    · intro z
      have z : (0 : Nat).testBit i = true := z
      rw [Nat.zero_testBit] at z
      cases z
    · rintro ⟨j, z, -⟩
      exact absurd z (Nat.not_lt_zero _)
  | succ k ih =>
    intro i
    show (uaN X h k ||| X (cellF h (k : Int)).toNat).testBit i = true ↔ _
    rw [Nat.testBit_or, Bool.or_eq_true, ih i]
    constructor
    · rintro (⟨j, h1, h2⟩ | h1)
      · exact ⟨j, by omega, h2⟩
      · exact ⟨k, by omega, h1⟩
    · rintro ⟨j, h1, h2⟩
      by_cases hjk : j = k
      · subst hjk
        exact Or.inr h2
      · exact Or.inl ⟨j, by omega, h2⟩
theorem uaN_lt {X : Nat → Nat} {h : Int} (hX : ∀ c, c < 81 → X c < 512) (h0 : 0 ≤ h) (h1 : h < 27) : ∀ k, k ≤ 9 → uaN X h k < 512 := by
  intro k
  induction k with
  | zero => intro _; exact Nat.zero_lt_succ _
  | succ k ih =>
    intro hk
    have hr := cellF_rng (h := h) (k := (k : Int)) h0 h1 (by omega) (by omega)
    exact or_lt2 (k := 9) (ih (by omega)) (hX _ (by omega))
theorem ua_511 {X : Nat → Nat} {h : Int} (hl : uaN X h 9 < 512) : uaN X h 9 = 511 ↔ ∀ e, e < 9 → ∃ k : Nat, k < 9 ∧ (X (cellF h (k : Int)).toNat).testBit e = true := by
  have h511 : ∀ i, (511 : Nat).testBit i = true ↔ i < 9 := fun i => by
    rw [show (511 : Nat) = 2 ^ 9 - 1 from rfl, Nat.testBit_two_pow_sub_one, decide_eq_true_iff]
  constructor
  · intro z e he
    exact (uaN_tb X h 9 e).1 (by rw [z]; exact (h511 e).2 he)
  · intro z
    apply Nat.eq_of_testBit_eq
    intro i
    by_cases hi : i < 9
    · rw [(h511 i).2 hi, (uaN_tb X h 9 i).2 (z i hi)]
    · rw [bit_out (n := 9) hl (by omega), bit_out (n := 9) (show 511 < 2 ^ 9 by decide) (by omega)]
theorem c_X9_isDead {d : Nat} {G : GT} {M : MT} {o : Nat} {R : Nat → Nat} (hG : RefG G o) (hB : AtB M (o + 26) R) : Mq (d + 1) k_X9_isDead [vR o] G M (fun z M' => (z = some (vI 1) ∧ ¬ Undead R ∧ M' = M) ∨ (z = some (vI 0) ∧ Undead R ∧ M' = M)) := by
  have hlt : ∀ c, c < 81 → R c < 512 := fun c hc => (hB c hc).2
  have L_27 : (∀ c, c < 81 → R c ≠ 0) → ∀ (f h : Nat) (y2 : Option AV) (y3 : Option AV), 27 - h < f → h ≤ 27 → (∀ h1 : Nat, h1 < h → ∀ e, e < 9 → ∃ k : Nat, k < 9 ∧ (R (cellF (h1 : Int) (k : Int)).toNat).testBit e = true) → Wq (d + 1) k_X9_isDead 27 [some (vR o), some (vI ((h : Nat) : Int)), y2, y3] [] G M (fun z M' => (z = some (vI 1) ∧ ¬ Undead R ∧ M' = M) ∨ (z = some (vI 0) ∧ Undead R ∧ M' = M)) := by
    intro hC f
    induction f with
    | zero => intro h y2 y3 h; exact absurd h (by omega)
    | succ f ih_h =>
      intro h y2 y3 hf_h hk_h hD
      refine wq_s 28 rfl ?_
      refine wq_s 30 rfl ?_
      refine wq_icmp 77 rfl rfl (by omega) (by omega) (fun c_30 => ?_) (fun c_30 => ?_)
      · have c_30 := of_decide_eq_true c_30
        refine wq_s 78 rfl ?_
        exact wq_ret rfl (Or.inr ⟨rfl, ⟨hC, fun h1 e g1 g2 => hD h1 (by omega) e g2⟩, rfl⟩)
      · have c_30 := of_decide_eq_false c_30
        have L_37 : ∀ (f2 k : Nat), 9 - k < f2 → k ≤ 9 → Wq (d + 1) k_X9_isDead 37 [some (vR o), some (vI ((h : Nat) : Int)), some (vI ((uaN R (h : Int) k : Nat) : Int)), some (vI ((k : Nat) : Int))] [] G M (fun z M' => (z = some (vI 1) ∧ ¬ Undead R ∧ M' = M) ∨ (z = some (vI 0) ∧ Undead R ∧ M' = M)) := by
          intro f2
          induction f2 with
          | zero => intro k h; exact absurd h (by omega)
          | succ f2 ih_k =>
            intro k hf_k hk_k 
            refine wq_s 38 rfl ?_
            refine wq_s 40 rfl ?_
            refine wq_icmp 62 rfl rfl (by omega) (by omega) (fun c_40 => ?_) (fun c_40 => ?_)
            · have c_40 := of_decide_eq_true c_40
              have e9 : k = 9 := by omega
              subst e9
              have hul := uaN_lt hlt (h := (h : Int)) (by omega) (by omega) 9 (by omega)
              refine wq_s 63 rfl ?_
              refine wq_s 66 rfl ?_
              refine wq_icmp 71 rfl rfl (by omega) (by omega) (fun c_66 => ?_) (fun c_66 => ?_)
              · have c_66 := of_decide_eq_true c_66
                refine we_inc 1 1 ((h + 1 : Nat) : Int) 74 _ rfl rfl rfl (by omega) (by omega) rfl ?_
                refine wq_s 27 rfl ?_
                refine ih_h (h + 1) _ _ (by omega) (by omega) (fun h1 g1 => ?_)
                by_cases hh : h1 = h
                · rw [hh]
                  exact (ua_511 hul).1 (by omega)
                · exact hD h1 (by omega)
              · have c_66 := of_decide_eq_false c_66
                refine wq_s 70 rfl ?_
                exact wq_ret rfl (Or.inl ⟨rfl, fun z => c_66 (by rw [(ua_511 hul).2 (fun e he => z.2 h e (by omega) he)]; rfl), rfl⟩)
            · have c_40 := of_decide_eq_false c_40
              have hul := uaN_lt hlt (h := (h : Int)) (by omega) (by omega) k (by omega)
              have hcr := cellF_rng (h := (h : Int)) (k := (k : Int)) (by omega) (by omega) (by omega) (by omega)
              have hx9 := hlt (cellF (h : Int) (k : Int)).toNat (by omega)
              refine wq_s 44 rfl ?_
              refine wq_s 45 rfl ?_
              refine wq_getR 48 rfl rfl hG.ob hG.2.2.1 rfl ?_
              refine wq_s 49 rfl ?_
              refine wq_s 50 rfl ?_
              refine wq_st2 53 rfl rfl (by decide) (Nat.le_of_ble_eq_true rfl) rfl (Nat.le_of_ble_eq_true rfl) (c_X9_cellOf (by omega) (by omega) (by omega) (by omega)) (fun r M1 hr => ?_)
              obtain ⟨rfl, hM1⟩ := hr
              subst M1
              dsimp only [Option.toList, List.cons_append, List.nil_append]
              refine wq_iald (v := ((R (cellF (h : Int) (k : Int)).toNat : Nat) : Int)) 54 rfl rfl hG.a_work.1.2 hG.a_work.2 (by omega) (by omega) (by omega) (hB.at hcr.1 hcr.2).1 ?_
              refine we_or (uaN R (h : Int) k) (R (cellF (h : Int) (k : Int)).toNat) ((uaN R (h : Int) k) ||| (R (cellF (h : Int) (k : Int)).toNat)) 55 rfl rfl rfl rfl (by omega) (by omega) rfl ?_
              refine wq_s 56 rfl ?_
              refine we_inc 3 1 ((k + 1 : Nat) : Int) 59 _ rfl rfl rfl (by omega) (by omega) rfl ?_
              refine wq_s 37 rfl ?_
              exact ih_k (k + 1) (by omega) (by omega)
        refine wq_s 34 rfl ?_
        refine wq_s 35 rfl ?_
        refine wq_s 36 rfl ?_
        refine wq_s 37 rfl ?_
        exact L_37 10 0 (by omega) (by omega)
  have L_2 : ∀ (f c : Nat), 81 - c < f → c ≤ 81 → (∀ c1, c1 < c → R c1 ≠ 0) → Wq (d + 1) k_X9_isDead 2 [some (vR o), some (vI ((c : Nat) : Int)), none, none] [] G M (fun z M' => (z = some (vI 1) ∧ ¬ Undead R ∧ M' = M) ∨ (z = some (vI 0) ∧ Undead R ∧ M' = M)) := by
    intro f
    induction f with
    | zero => intro c h; exact absurd h (by omega)
    | succ f ih_c =>
      intro c hf_c hk_c hC
      refine wq_s 3 rfl ?_
      refine wq_s 5 rfl ?_
      refine wq_icmp 25 rfl rfl (by omega) (by omega) (fun c_5 => ?_) (fun c_5 => ?_)
      · have c_5 := of_decide_eq_true c_5
        refine wq_s 26 rfl ?_
        refine wq_s 27 rfl ?_
        exact L_27 (fun c1 g1 => hC c1 (by omega)) 28 0 _ _ (by omega) (by omega) (fun h1 g1 => absurd g1 (Nat.not_lt_zero _))
      · have c_5 := of_decide_eq_false c_5
        have hx9 := hlt c (by omega)
        refine wq_s 9 rfl ?_
        refine wq_getR 12 rfl rfl hG.ob hG.2.2.1 rfl ?_
        refine wq_s 13 rfl ?_
        refine wq_iald (v := ((R c : Nat) : Int)) 14 rfl rfl hG.a_work.1.2 hG.a_work.2 (by omega) (by omega) (by omega) (hB c (by omega)).1 ?_
        refine wq_if 19 rfl rfl (by omega) (fun c_14 => ?_) (fun c_14 => ?_)
        · have c_14 := of_decide_eq_true c_14
          refine we_inc 1 1 ((c + 1 : Nat) : Int) 22 _ rfl rfl rfl (by omega) (by omega) rfl ?_
          refine wq_s 2 rfl ?_
          refine ih_c (c + 1) (by omega) (by omega) (fun c1 g1 => ?_)
          by_cases hh : c1 = c
          · rw [hh]
            omega
          · exact hC c1 (by omega)
        · have c_14 := of_decide_eq_false c_14
          refine wq_s 18 rfl ?_
          exact wq_ret rfl (Or.inl ⟨rfl, fun z => z.1 c (by omega) (by omega), rfl⟩)
  refine wq_s 1 rfl ?_
  refine wq_s 2 rfl ?_
  exact L_2 82 0 (by omega) (by omega) (fun c h => absurd h (Nat.not_lt_zero _))
theorem Undead.mono {Z R : Nat → Nat} (h : Undead Z) (hs : SubB Z R) : Undead R := by
  refine ⟨fun c hc z => ?_, fun h1 e g1 g2 => ?_⟩
  · obtain ⟨i, hi⟩ := nz_tb (h.1 c hc)
    have h2 := hs c hc i hi
    rw [z, Nat.zero_testBit] at h2
    cases h2
  · obtain ⟨k, k1, k2⟩ := h.2 h1 e g1 g2
    have hcr := cellF_rng (h := (h1 : Int)) (k := (k : Int)) (by omega) (by omega) (by omega) (by omega)
    exact ⟨k, k1, hs _ (by omega) _ k2⟩
/-- the greatest board below W that is closed and lives -/
def CloU (W R : Nat → Nat) : Prop := Undead R ∧ ClosedI R ∧ (∀ c, c < 81 → R c < 512) ∧ SubB R W ∧ ∀ Z, ClosedI Z → Undead Z → SubB Z W → SubB Z R
noncomputable def closeF (W : Nat → Nat) : Option (Nat → Nat) := @dite _ (∃ R, CloU W R) (Classical.propDecidable _) (fun h => some (Classical.choose h)) (fun _ => none)
theorem SubB.eq {Z R : Nat → Nat} (h1 : SubB Z R) (h2 : SubB R Z) {c : Nat} (hc : c < 81) : Z c = R c := by
  apply Nat.eq_of_testBit_eq
  intro i
  cases hb : (Z c).testBit i with
  | true => exact (h1 c hc i hb).symm
  | false =>
    cases hb2 : (R c).testBit i with
    | false => rfl
    | true =>
      rw [h2 c hc i hb2] at hb
      cases hb
theorem closeF_t {W R : Nat → Nat} (h : CloU W R) : ∃ R0, closeF W = some R0 ∧ CloU W R0 ∧ ∀ c, c < 81 → R c = R0 c := by
  have hex : ∃ R, CloU W R := ⟨R, h⟩
  have h2 := Classical.choose_spec hex
  refine ⟨Classical.choose hex, ?_, h2, fun c hc => SubB.eq (h2.2.2.2.2 R h.2.1 h.1 h.2.2.2.1) (h.2.2.2.2 _ h2.2.1 h2.1 h2.2.2.2.1) hc⟩
  unfold closeF
  rw [dif_pos hex]
theorem closeF_f {W R : Nat → Nat} (h : CloI W R) (hd : ¬ Undead R) : closeF W = none := by
  unfold closeF
  rw [dif_neg]
  rintro ⟨R1, h1⟩
  exact hd (h1.1.mono (h.2.2 R1 h1.2.1 h1.1 h1.2.2.2.1))
theorem closeF_some {W R : Nat → Nat} (h : closeF W = some R) : CloU W R := by
  unfold closeF at h
  by_cases hex : ∃ R, CloU W R
  · rw [dif_pos hex] at h
    cases h
    exact Classical.choose_spec hex
  · rw [dif_neg hex] at h
    cases h
def fwN (R : Nat → Nat) : Nat → Int
  | 0 => -1
  | c + 1 => if 1 < pop9 (R c) ∧ (fwN R c < 0 ∨ pop9 (R c) < pop9 (R (fwN R c).toNat)) then (c : Int) else fwN R c
theorem fwN_rng (R : Nat → Nat) : ∀ c : Nat, -1 ≤ fwN R c ∧ fwN R c < (c : Int) ∨ fwN R c = -1 := by
  intro c
  induction c with
  | zero => exact Or.inr rfl
  | succ c ih =>
    unfold fwN
    split
    · exact Or.inl ⟨by omega, by omega⟩
    · omega
theorem fwN_pop (R : Nat → Nat) : ∀ c : Nat, 0 ≤ fwN R c → 1 < pop9 (R (fwN R c).toNat) := by
  intro c
  induction c with
  | zero => intro h; exact absurd h (show ¬ (0 : Int) ≤ -1 by decide)
  | succ c ih =>
    unfold fwN
    split
    · rename_i h1
      intro _
      rw [Int.toNat_natCast]
      exact h1.1
    · exact ih
def dgF (v : Nat) : Nat := Nat.log2 v + 1
theorem dg_0 {v e : Nat} (hv : v ≠ 0) : v / 2 ^ e = 0 ↔ dgF v ≤ e := by
  rw [Nat.div_eq_zero_iff_lt (Nat.two_pow_pos e), ← Nat.log2_lt hv]
  exact Iff.rfl
noncomputable def meetF (W : Nat → Nat) (S : SrS) : SrS := match closeF W with
  | none => S
  | some R => if fwN R 81 < 0 then (S.1, S.2.1, S.2.2.1, S.2.2.2.1, S.2.2.2.2.1 + 1, S.2.2.2.2.2.1, fun k c => if k = S.2.2.2.2.1 then dgF (R c) else S.2.2.2.2.2.2 k c)
    else (S.1, S.2.1, S.2.2.1, S.2.2.2.1 + 1, S.2.2.2.2.1, fun i => if i = S.2.2.2.1 then (R, (fwN R 81).toNat, 0) else S.2.2.2.2.2.1 i, S.2.2.2.2.2.2)
theorem meetF_n {W : Nat → Nat} {S : SrS} (h : closeF W = none) : meetF W S = S := by
  unfold meetF
  rw [h]
theorem meetF_s {W R : Nat → Nat} {S : SrS} (h : closeF W = some R) (hf : fwN R 81 < 0) : meetF W S = (S.1, S.2.1, S.2.2.1, S.2.2.2.1, S.2.2.2.2.1 + 1, S.2.2.2.2.2.1, fun k c => if k = S.2.2.2.2.1 then dgF (R c) else S.2.2.2.2.2.2 k c) := by
  unfold meetF
  rw [h]
  exact if_pos hf
theorem meetF_p {W R : Nat → Nat} {S : SrS} (h : closeF W = some R) (hf : ¬ fwN R 81 < 0) : meetF W S = (S.1, S.2.1, S.2.2.1, S.2.2.2.1 + 1, S.2.2.2.2.1, fun i => if i = S.2.2.2.1 then (R, (fwN R 81).toNat, 0) else S.2.2.2.2.2.1 i, S.2.2.2.2.2.2) := by
  unfold meetF
  rw [h]
  exact if_neg hf
def popD (F : Nat → (Nat → Nat) × Nat × Nat) : Nat → Nat
  | 0 => 0
  | n + 1 => if (F n).1 (F n).2.1 / 2 ^ (F n).2.2 = 0 then popD F n else n + 1
theorem popD_le (F : Nat → (Nat → Nat) × Nat × Nat) : ∀ n, popD F n ≤ n := by
  intro n
  induction n with
  | zero => exact Nat.le_refl _
  | succ n ih =>
    unfold popD
    split
    · omega
    · exact Nat.le_refl _
theorem popD_top (F : Nat → (Nat → Nat) × Nat × Nat) : ∀ n, 0 < popD F n → (F (popD F n - 1)).1 (F (popD F n - 1)).2.1 / 2 ^ (F (popD F n - 1)).2.2 ≠ 0 := by
  intro n
  induction n with
  | zero => intro h; exact absurd h (Nat.not_lt_zero _)
  | succ n ih =>
    intro h
    by_cases hz : (F n).1 (F n).2.1 / 2 ^ (F n).2.2 = 0
    · have e : popD F (n + 1) = popD F n := if_pos hz
      rw [e] at h ⊢
      exact ih h
    · have e : popD F (n + 1) = n + 1 := if_neg hz
      rw [e]
      exact hz
def leaveF (S : SrS) : SrS := (S.1, if popD S.2.2.2.2.2.1 S.2.2.2.1 = 0 ∨ S.2.2.2.2.1 = 2 then 1 else 0, S.2.2.1, popD S.2.2.2.2.2.1 S.2.2.2.1, S.2.2.2.2.1, S.2.2.2.2.2.1, S.2.2.2.2.2.2)
/-- rows that search doesn't write -/
abbrev FrM (M M' : MT) (o : Nat) : Prop := (∀ a, a ≠ o → a ≠ o + 5 → (a < o + 23 ∨ o + 27 < a) → M' a = M a) ∧ ∀ i : Int, i < 37 → M' o i = M o i
theorem FrM.refl (M : MT) (o : Nat) : FrM M M o := ⟨fun _ _ _ _ => rfl, fun _ _ => rfl⟩
theorem FrM.trans {M M1 M2 : MT} {o : Nat} (h1 : FrM M M1 o) (h2 : FrM M1 M2 o) : FrM M M2 o := ⟨fun a g1 g2 g3 => (h2.1 a g1 g2 g3).trans (h1.1 a g1 g2 g3), fun i g => (h2.2 i g).trans (h1.2 i g)⟩
theorem c_X9_leaves {d : Nat} {G : GT} {M : MT} {o : Nat} {S : SrS} (hG : RefG G o) (hS : RefSr M o S) (hd : S.2.2.2.1 ≤ 82) (hns : S.2.2.2.2.1 ≤ 2) (hk : ∀ i, i < S.2.2.2.1 → (∀ c, c < 81 → (S.2.2.2.2.2.1 i).1 c < 512) ∧ (S.2.2.2.2.2.1 i).2.1 < 81 ∧ (S.2.2.2.2.2.1 i).2.2 ≤ 9) : Mq d k_X9_leaves [vR o] G M (fun z M' => z = none ∧ RefSr M' o (leaveF S) ∧ FrM M M' o) := by
  obtain ⟨e1, e2, e3, e4, e5, e6, e7⟩ := id hS
  have L_0 : ∀ (f n : Nat) (M2 : MT), n < f → n ≤ S.2.2.2.1 → M2 o 39 = (n : Int) → popD S.2.2.2.2.2.1 S.2.2.2.1 = popD S.2.2.2.2.2.1 n → (∀ a, a ≠ o → M2 a = M a) → (∀ i : Int, i ≠ 39 → M2 o i = M o i) → Wq d k_X9_leaves 0 [some (vR o)] [] G M2 (fun z M' => z = none ∧ RefSr M' o (leaveF S) ∧ FrM M M' o) := by
    intro f
    induction f with
    | zero => intro n M2 h; exact absurd h (by omega)
    | succ f ih_f =>
      intro n M2 hf hle hn hE hFr hFo
      refine wq_s 1 rfl ?_
      refine wq_getE (v := ((n : Nat) : Int)) 39 4 rfl rfl hG.ob hG.2.2.1 rfl rfl hn ?_
      refine wq_if 61 rfl rfl (by omega) (fun c_4 => ?_) (fun c_4 => ?_)
      · have c_4 := of_decide_eq_true c_4
        have hE : popD S.2.2.2.2.2.1 S.2.2.2.1 = n := by
          rw [hE, show n = 0 by omega]
          rfl
        refine wq_s 62 rfl ?_
        refine wq_s 63 rfl ?_
        refine wq_getE (v := ((n : Nat) : Int)) 39 66 rfl rfl hG.ob hG.2.2.1 rfl rfl hn ?_
        refine wq_if 77 rfl rfl (by omega) (fun c_66 => ?_) (fun c_66 => ?_)
        · have c_66 := of_decide_eq_true c_66
          refine wq_s 78 rfl ?_
          refine wq_s 82 rfl ?_
          refine wq_putE 41 85 rfl rfl hG.ob hG.2.2.1 rfl (by decide) (by decide) rfl ?_
          exact wq_ret rfl ⟨rfl, ⟨(by rw [up2_ne (Or.inr (by decide)), hFo _ (by decide)]; exact e1), (by rw [up2_at]; exact (congrArg (fun z : Nat => (z : Int)) (show (if popD S.2.2.2.2.2.1 S.2.2.2.1 = 0 ∨ S.2.2.2.2.1 = 2 then 1 else 0) = 1 from if_pos (by omega))).symm), (by rw [up2_ne (Or.inr (by decide)), hFo _ (by decide)]; exact e3), (by rw [up2_ne (Or.inr (by decide)), hn]; exact congrArg (fun z : Nat => (z : Int)) hE.symm), (by rw [up2_ne (Or.inr (by decide)), hFo _ (by decide)]; exact e5), (fun i hi => by
              have hi : i < popD S.2.2.2.2.2.1 S.2.2.2.1 := hi
              rw [up2_row (by omega), up2_row (by omega), up2_row (by omega), hFr _ (by omega), hFr _ (by omega), hFr _ (by omega)]
              exact e6 i (by omega)), fun k hk c hc => by rw [up2_row (by omega), hFr _ (by omega)]; exact e7 k hk c hc⟩, ⟨fun a h1 h2 h3 => (up2_row h1).trans (hFr a h1), fun i hi => (up2_ne (Or.inr (by omega))).trans (hFo i (by omega))⟩⟩
        · have c_66 := of_decide_eq_false c_66
          refine wq_s 70 rfl ?_
          refine wq_getE (v := ((S.2.2.2.2.1 : Nat) : Int)) 37 73 rfl rfl hG.ob hG.2.2.1 rfl rfl (by rw [hFo _ (by decide)]; exact e5) ?_
          refine wq_s 74 rfl ?_
          refine wq_icmp 81 rfl rfl (by omega) (by omega) (fun c_74 => ?_) (fun c_74 => ?_)
          · have c_74 := of_decide_eq_true c_74
            refine wq_s 82 rfl ?_
            refine wq_putE 41 85 rfl rfl hG.ob hG.2.2.1 rfl (by decide) (by decide) rfl ?_
            exact wq_ret rfl ⟨rfl, ⟨(by rw [up2_ne (Or.inr (by decide)), hFo _ (by decide)]; exact e1), (by rw [up2_at]; exact (congrArg (fun z : Nat => (z : Int)) (show (if popD S.2.2.2.2.2.1 S.2.2.2.1 = 0 ∨ S.2.2.2.2.1 = 2 then 1 else 0) = 0 from if_neg (by omega))).symm), (by rw [up2_ne (Or.inr (by decide)), hFo _ (by decide)]; exact e3), (by rw [up2_ne (Or.inr (by decide)), hn]; exact congrArg (fun z : Nat => (z : Int)) hE.symm), (by rw [up2_ne (Or.inr (by decide)), hFo _ (by decide)]; exact e5), (fun i hi => by
                have hi : i < popD S.2.2.2.2.2.1 S.2.2.2.1 := hi
                rw [up2_row (by omega), up2_row (by omega), up2_row (by omega), hFr _ (by omega), hFr _ (by omega), hFr _ (by omega)]
                exact e6 i (by omega)), fun k hk c hc => by rw [up2_row (by omega), hFr _ (by omega)]; exact e7 k hk c hc⟩, ⟨fun a h1 h2 h3 => (up2_row h1).trans (hFr a h1), fun i hi => (up2_ne (Or.inr (by omega))).trans (hFo i (by omega))⟩⟩
          · have c_74 := of_decide_eq_false c_74
            refine wq_s 78 rfl ?_
            refine wq_s 82 rfl ?_
            refine wq_putE 41 85 rfl rfl hG.ob hG.2.2.1 rfl (by decide) (by decide) rfl ?_
            exact wq_ret rfl ⟨rfl, ⟨(by rw [up2_ne (Or.inr (by decide)), hFo _ (by decide)]; exact e1), (by rw [up2_at]; exact (congrArg (fun z : Nat => (z : Int)) (show (if popD S.2.2.2.2.2.1 S.2.2.2.1 = 0 ∨ S.2.2.2.2.1 = 2 then 1 else 0) = 1 from if_pos (by omega))).symm), (by rw [up2_ne (Or.inr (by decide)), hFo _ (by decide)]; exact e3), (by rw [up2_ne (Or.inr (by decide)), hn]; exact congrArg (fun z : Nat => (z : Int)) hE.symm), (by rw [up2_ne (Or.inr (by decide)), hFo _ (by decide)]; exact e5), (fun i hi => by
                have hi : i < popD S.2.2.2.2.2.1 S.2.2.2.1 := hi
                rw [up2_row (by omega), up2_row (by omega), up2_row (by omega), hFr _ (by omega), hFr _ (by omega), hFr _ (by omega)]
                exact e6 i (by omega)), fun k hk c hc => by rw [up2_row (by omega), hFr _ (by omega)]; exact e7 k hk c hc⟩, ⟨fun a h1 h2 h3 => (up2_row h1).trans (hFr a h1), fun i hi => (up2_ne (Or.inr (by omega))).trans (hFo i (by omega))⟩⟩
      · have c_4 := of_decide_eq_false c_4
        have hk9 := hk (n - 1) (by omega)
        have hk91 := hk9.2.1
        have hk92 := hk9.2.2
        have hk93 := hk9.1 _ hk91
        obtain ⟨x, hx⟩ : ∃ x, x = (S.2.2.2.2.2.1 (n - 1)).1 (S.2.2.2.2.2.1 (n - 1)).2.1 / 2 ^ (S.2.2.2.2.2.1 (n - 1)).2.2 := ⟨_, rfl⟩
        have hx9 : x < 512 := by
          rw [hx]
          exact Nat.lt_of_le_of_lt (Nat.div_le_self _ _) hk93
        refine wq_s 8 rfl ?_
        refine wq_getR 11 rfl rfl hG.ob hG.2.2.1 rfl ?_
        refine wq_s 13 rfl ?_
        refine wq_s 14 rfl ?_
        refine wq_getE (v := ((n : Nat) : Int)) 39 17 rfl rfl hG.ob hG.2.2.1 rfl rfl hn ?_
        refine wq_s 18 rfl ?_
        refine we_sub ((n - 1 : Nat) : Int) 19 rfl rfl (by omega) (by omega) ?_
        refine we_mul ((81 * (n - 1) : Nat) : Int) 20 rfl rfl (by omega) (by omega) ?_
        refine wq_s 21 rfl ?_
        refine wq_getR 24 rfl rfl hG.ob hG.2.2.1 rfl ?_
        refine wq_s 25 rfl ?_
        refine wq_getE (v := ((n : Nat) : Int)) 39 28 rfl rfl hG.ob hG.2.2.1 rfl rfl hn ?_
        refine wq_s 29 rfl ?_
        refine we_sub ((n - 1 : Nat) : Int) 30 rfl rfl (by omega) (by omega) ?_
        refine wq_iald (v := (((S.2.2.2.2.2.1 (n - 1)).2.1 : Nat) : Int)) 31 rfl rfl hG.a_cellAt.1.2 hG.a_cellAt.2 (by omega) (by omega) (by omega) (by rw [hFr _ (by omega)]; exact (e6 (n - 1) (by omega)).2.1) ?_
        refine we_add (((81 * (n - 1)) + ((S.2.2.2.2.2.1 (n - 1)).2.1) : Nat) : Int) 32 rfl rfl (by omega) (by omega) ?_
        refine wq_iald (v := (((S.2.2.2.2.2.1 (n - 1)).1 (S.2.2.2.2.2.1 (n - 1)).2.1 : Nat) : Int)) 33 rfl rfl hG.a_level1.1.2 hG.a_level1.2 (by omega) (by omega) (by omega) (by rw [hFr _ (by omega)]; exact (e6 (n - 1) (by omega)).1 _ (hk (n - 1) (by omega)).2.1) ?_
        refine wq_s 34 rfl ?_
        refine wq_getR 37 rfl rfl hG.ob hG.2.2.1 rfl ?_
        refine wq_s 38 rfl ?_
        refine wq_getE (v := ((n : Nat) : Int)) 39 41 rfl rfl hG.ob hG.2.2.1 rfl rfl hn ?_
        refine wq_s 42 rfl ?_
        refine we_sub ((n - 1 : Nat) : Int) 43 rfl rfl (by omega) (by omega) ?_
        refine wq_iald (v := (((S.2.2.2.2.2.1 (n - 1)).2.2 : Nat) : Int)) 44 rfl rfl hG.a_triedAt.1.2 hG.a_triedAt.2 (by omega) (by omega) (by omega) (by rw [hFr _ (by omega)]; exact (e6 (n - 1) (by omega)).2.2) ?_
        refine we_shr ((S.2.2.2.2.2.1 (n - 1)).1 (S.2.2.2.2.2.1 (n - 1)).2.1) ((S.2.2.2.2.2.1 (n - 1)).2.2) x 45 rfl rfl rfl rfl (by omega) (by omega) hx.symm ?_
        refine wq_if 61 rfl rfl (by omega) (fun c_45 => ?_) (fun c_45 => ?_)
        · have c_45 := of_decide_eq_true c_45
          have hE : popD S.2.2.2.2.2.1 S.2.2.2.1 = n := by
            rw [hE, show n = n - 1 + 1 by omega]
            exact if_neg (by rw [← hx]; omega)
          refine wq_s 62 rfl ?_
          refine wq_s 63 rfl ?_
          refine wq_getE (v := ((n : Nat) : Int)) 39 66 rfl rfl hG.ob hG.2.2.1 rfl rfl hn ?_
          refine wq_if 77 rfl rfl (by omega) (fun c_66 => ?_) (fun c_66 => ?_)
          · have c_66 := of_decide_eq_true c_66
            refine wq_s 78 rfl ?_
            refine wq_s 82 rfl ?_
            refine wq_putE 41 85 rfl rfl hG.ob hG.2.2.1 rfl (by decide) (by decide) rfl ?_
            exact wq_ret rfl ⟨rfl, ⟨(by rw [up2_ne (Or.inr (by decide)), hFo _ (by decide)]; exact e1), (by rw [up2_at]; exact (congrArg (fun z : Nat => (z : Int)) (show (if popD S.2.2.2.2.2.1 S.2.2.2.1 = 0 ∨ S.2.2.2.2.1 = 2 then 1 else 0) = 1 from if_pos (by omega))).symm), (by rw [up2_ne (Or.inr (by decide)), hFo _ (by decide)]; exact e3), (by rw [up2_ne (Or.inr (by decide)), hn]; exact congrArg (fun z : Nat => (z : Int)) hE.symm), (by rw [up2_ne (Or.inr (by decide)), hFo _ (by decide)]; exact e5), (fun i hi => by
                have hi : i < popD S.2.2.2.2.2.1 S.2.2.2.1 := hi
                rw [up2_row (by omega), up2_row (by omega), up2_row (by omega), hFr _ (by omega), hFr _ (by omega), hFr _ (by omega)]
                exact e6 i (by omega)), fun k hk c hc => by rw [up2_row (by omega), hFr _ (by omega)]; exact e7 k hk c hc⟩, ⟨fun a h1 h2 h3 => (up2_row h1).trans (hFr a h1), fun i hi => (up2_ne (Or.inr (by omega))).trans (hFo i (by omega))⟩⟩
          · have c_66 := of_decide_eq_false c_66
            refine wq_s 70 rfl ?_
            refine wq_getE (v := ((S.2.2.2.2.1 : Nat) : Int)) 37 73 rfl rfl hG.ob hG.2.2.1 rfl rfl (by rw [hFo _ (by decide)]; exact e5) ?_
            refine wq_s 74 rfl ?_
            refine wq_icmp 81 rfl rfl (by omega) (by omega) (fun c_74 => ?_) (fun c_74 => ?_)
            · have c_74 := of_decide_eq_true c_74
              refine wq_s 82 rfl ?_
              refine wq_putE 41 85 rfl rfl hG.ob hG.2.2.1 rfl (by decide) (by decide) rfl ?_
              exact wq_ret rfl ⟨rfl, ⟨(by rw [up2_ne (Or.inr (by decide)), hFo _ (by decide)]; exact e1), (by rw [up2_at]; exact (congrArg (fun z : Nat => (z : Int)) (show (if popD S.2.2.2.2.2.1 S.2.2.2.1 = 0 ∨ S.2.2.2.2.1 = 2 then 1 else 0) = 0 from if_neg (by omega))).symm), (by rw [up2_ne (Or.inr (by decide)), hFo _ (by decide)]; exact e3), (by rw [up2_ne (Or.inr (by decide)), hn]; exact congrArg (fun z : Nat => (z : Int)) hE.symm), (by rw [up2_ne (Or.inr (by decide)), hFo _ (by decide)]; exact e5), (fun i hi => by
                  have hi : i < popD S.2.2.2.2.2.1 S.2.2.2.1 := hi
                  rw [up2_row (by omega), up2_row (by omega), up2_row (by omega), hFr _ (by omega), hFr _ (by omega), hFr _ (by omega)]
                  exact e6 i (by omega)), fun k hk c hc => by rw [up2_row (by omega), hFr _ (by omega)]; exact e7 k hk c hc⟩, ⟨fun a h1 h2 h3 => (up2_row h1).trans (hFr a h1), fun i hi => (up2_ne (Or.inr (by omega))).trans (hFo i (by omega))⟩⟩
            · have c_74 := of_decide_eq_false c_74
              refine wq_s 78 rfl ?_
              refine wq_s 82 rfl ?_
              refine wq_putE 41 85 rfl rfl hG.ob hG.2.2.1 rfl (by decide) (by decide) rfl ?_
              exact wq_ret rfl ⟨rfl, ⟨(by rw [up2_ne (Or.inr (by decide)), hFo _ (by decide)]; exact e1), (by rw [up2_at]; exact (congrArg (fun z : Nat => (z : Int)) (show (if popD S.2.2.2.2.2.1 S.2.2.2.1 = 0 ∨ S.2.2.2.2.1 = 2 then 1 else 0) = 1 from if_pos (by omega))).symm), (by rw [up2_ne (Or.inr (by decide)), hFo _ (by decide)]; exact e3), (by rw [up2_ne (Or.inr (by decide)), hn]; exact congrArg (fun z : Nat => (z : Int)) hE.symm), (by rw [up2_ne (Or.inr (by decide)), hFo _ (by decide)]; exact e5), (fun i hi => by
                  have hi : i < popD S.2.2.2.2.2.1 S.2.2.2.1 := hi
                  rw [up2_row (by omega), up2_row (by omega), up2_row (by omega), hFr _ (by omega), hFr _ (by omega), hFr _ (by omega)]
                  exact e6 i (by omega)), fun k hk c hc => by rw [up2_row (by omega), hFr _ (by omega)]; exact e7 k hk c hc⟩, ⟨fun a h1 h2 h3 => (up2_row h1).trans (hFr a h1), fun i hi => (up2_ne (Or.inr (by omega))).trans (hFo i (by omega))⟩⟩
        · have c_45 := of_decide_eq_false c_45
          refine wq_s 49 rfl ?_
          refine wq_s 50 rfl ?_
          refine wq_getE (v := ((n : Nat) : Int)) 39 53 rfl rfl hG.ob hG.2.2.1 rfl rfl hn ?_
          refine wq_s 54 rfl ?_
          refine we_sub ((n - 1 : Nat) : Int) 55 rfl rfl (by omega) (by omega) ?_
          refine wq_putE 39 58 rfl rfl hG.ob hG.2.2.1 rfl (by decide) (Or.inl rfl) rfl ?_
          refine wq_s 0 rfl ?_
          have h9 := ih_f (n - 1) _ (by omega) (by omega) up2_at (by
            rw [hE, show n = n - 1 + 1 by omega]
            exact if_pos (by rw [← hx]; omega)) (fun a ha => (up2_row ha).trans (hFr a ha)) (fun i hi => (up2_ne (Or.inr hi)).trans (hFo i hi))
          exact h9
  exact L_0 (S.2.2.2.1 + 1) S.2.2.2.1 M (by omega) (Nat.le_refl _) e4 rfl (fun _ _ => rfl) (fun _ _ => rfl)
