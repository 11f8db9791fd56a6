/-! the last rule's instance in the class -/
theorem wq_alen {d k pc a b c w : Nat} {ls : LoA} {st : List AV} {G : GT} {M : MT} {Q : Option AV → MT → Prop} {q n : Nat} {lg : Bool} (pc' : Nat) (hp : pc + 1 = pc') (hc : cd k pc = some (.arraylength, 1, a, b, c, w)) (hq : q < G.1) (hT : G.2.2 q = .inl (lg, n)) (h2 : n ≤ 2147483647) (h : Wq d k pc' ls (vI (n : Int) :: st) G M Q) : Wq d k pc ls (vR q :: st) G M Q := by
  subst hp
  refine wq_s _ (stp_of hc rfl rfl ?_) h
  show alenA (pc + 1) ls (vR q :: st) (G.1, G.2.1, G.2.2, M) = _
  unfold alenA
  dsimp only
  rw [if_pos hq, hT]
  dsimp only
  rw [if_pos h2]
noncomputable def ahF (X : Nat → Nat) (l : List Nat) (y : Nat) : Nat → (Nat → Nat)
  | 0 => fun _ => 0
  | i + 1 => cI (weakC X (l.getD i 0) y) (hdU (ahF X l y i) (l.getD i 0 / 9) (X (l.getD i 0 / 9) &&& 2 ^ (l.getD i 0 % 9))) (ahF X l y i)
theorem ah_tb {X : Nat → Nat} {l : List Nat} {y : Nat} : ∀ k c x, (ahF X l y k c).testBit x = true ↔ ∃ i, i < k ∧ weakC X (l.getD i 0) y ∧ c = l.getD i 0 / 9 ∧ (X c).testBit x = true ∧ x = l.getD i 0 % 9 := by
  intro k
  induction k with
  | zero =>
    intro c x
    show (0 : Nat).testBit x = true ↔ _
    rw [Nat.zero_testBit]
    exact ⟨fun z => (by cases z), fun ⟨i, h, _⟩ => absurd h (Nat.not_lt_zero _)⟩
  | succ k ih =>
    intro c x
    show ((cI (weakC X (l.getD k 0) y) (hdU (ahF X l y k) (l.getD k 0 / 9) (X (l.getD k 0 / 9) &&& 2 ^ (l.getD k 0 % 9))) (ahF X l y k) : Nat → Nat) c).testBit x = true ↔ _
    by_cases hw : weakC X (l.getD k 0) y
    · rw [cI_t hw, hdU_tb, ih c x, and_tb, pow_tb]
      constructor
      · rintro (⟨i, h1, h2⟩ | ⟨h1, h2, h3⟩)
        · exact ⟨i, by omega, h2⟩
        · exact ⟨k, by omega, hw, h1, by rw [h1]; exact h2, h3⟩
      · rintro ⟨i, h1, h2, h3, h4, h5⟩
        by_cases hik : i = k
        · subst hik
          exact Or.inr ⟨h3, by rw [← h3]; exact h4, h5⟩
        · exact Or.inl ⟨i, by omega, h2, h3, h4, h5⟩
    · rw [cI_f hw, ih c x]
      constructor
      · rintro ⟨i, h1, h2⟩
        exact ⟨i, by omega, h2⟩
      · rintro ⟨i, h1, h2, h3⟩
        refine ⟨i, ?_, h2, h3⟩
        by_cases hik : i = k
        · rw [hik] at h2
          exact absurd h2 hw
        · omega
theorem ah_by {X rv : Nat → Nat} {w : Nat} (hc : chC X rv w) (c : Nat) : ahF X (wkL X (rv 0)) (rv (w - 1)) (wkL X (rv 0)).length c = byY X rv w c := by
  apply tb_ext
  intro x
  unfold byY
  rw [ah_tb, cI_t hc, and_tb, bwY_tb]
  constructor
  · rintro ⟨i, h1, h2, h3, h4, h5⟩
    have h6 := flP_at (P := wkP X (rv 0)) (n := 729) (j := i) h1
    exact ⟨⟨_, h6.1, h3, h5, h6.2, h2⟩, h4⟩
  · rintro ⟨⟨j, h1, h2, h3, h4, h5⟩, h6⟩
    obtain ⟨i, i1, i2⟩ := (flP_mem (wkP X (rv 0)) 729 j).2 ⟨h1, h4⟩
    exact ⟨i, i1, by rw [show (wkL X (rv 0)).getD i 0 = j from i2]; exact h5, by rw [show (wkL X (rv 0)).getD i 0 = j from i2]; exact h2, h6, by rw [show (wkL X (rv 0)).getD i 0 = j from i2]; exact h3⟩
theorem c_X1_mark {d : Nat} {G : GT} {M : MT} {b qn u w Nn : Nat} {X rv : Nat → Nat} (hC : ClsG G) (hb : IsBd b) (hS : ShpAt M) (hB : BdC M b X) (hH : GoAt M (fun _ => 0)) (hn : qn < G.1 ∧ G.2.2 qn = .inl (false, Nn) ∧ u + w ≤ Nn ∧ Nn < 100000) (hqn : qn ≠ 19 ∧ qn ≠ 20 ∧ qn ≠ 24 ∧ qn ≠ 27) (hw : w ≤ 24) (hR : ∀ s, s < w → M qn ((u + s : Nat) : Int) = ((rv s : Nat) : Int) ∧ rv s < 729) : Mq (d + 3) k_X1_mark [vR 24, vR b, vR qn, vI (u : Int), vI (w : Int)] G M (fun z M' => z = some (vI ((byN X rv w : Nat) : Int)) ∧ GoAt M' (byY X rv w) ∧ (∀ a, a ≠ 19 → a ≠ 20 → a ≠ 24 → a ≠ 27 → M' a = M a) ∧ ∀ i : Int, i ≠ 5 → M' 24 i = M 24 i) := by
  obtain ⟨n1, n2, n3, n4⟩ := hn
  have hfail : ¬ chC X rv w → (some (vI 0) = some (vI ((byN X rv w : Nat) : Int)) ∧ GoAt M (byY X rv w) ∧ (∀ a, a ≠ 19 → a ≠ 20 → a ≠ 24 → a ≠ 27 → M a = M a) ∧ ∀ i : Int, i ≠ 5 → M 24 i = M 24 i) := fun h => ⟨by rw [byN_f h]; rfl, hH.ext (fun c _ => (show byY X rv w c = 0 from cI_f h).symm), fun _ _ _ _ _ => rfl, fun _ _ => rfl⟩
  have L_128 : chC X rv w → ∀ (f i : Nat) (M2 : MT) (y7 : Option AV), (wkL X (rv 0)).length - i < f → i ≤ (wkL X (rv 0)).length → (GoAt M2 (ahF X (wkL X (rv 0)) (rv (w - 1)) i)) → (∀ a, a ≠ 19 → a ≠ 20 → a ≠ 24 → a ≠ 27 → M2 a = M a) → (∀ j : Int, j ≠ 5 → M2 24 j = M 24 j) → (WlAt M2 (wkL X (rv 0))) → Wq (d + 3) k_X1_mark 128 [some (vR 24), some (vR b), some (vR qn), some (vI ((u : Nat) : Int)), some (vI ((w : Nat) : Int)), some (vI ((rv (w - 1) : Nat) : Int)), some (vI ((i : Nat) : Int)), y7] [] G M2 (fun z M' => z = some (vI ((byN X rv w : Nat) : Int)) ∧ GoAt M' (byY X rv w) ∧ (∀ a, a ≠ 19 → a ≠ 20 → a ≠ 24 → a ≠ 27 → M' a = M a) ∧ ∀ i : Int, i ≠ 5 → M' 24 i = M 24 i) := by
    intro hch f
    have hw2 := hch.1
    have hln : (wkL X (rv 0)).length ≤ 28 := wl_28 (hR 0 (by omega)).2
    induction f with
    | zero => intro i M2 y7 h; exact absurd h (by omega)
    | succ f ih_i =>
      intro i M2 y7 hf_i hk_i a1 a2 a3 a4
      refine wq_s 130 rfl ?_
      refine wq_s 131 rfl ?_
      refine wq_getE (v := (((wkL X (rv 0)).length : Nat) : Int)) 5 134 rfl rfl (hC.lt (by omega)) (hC.ty 20 _ rfl) rfl rfl a4.1 ?_
      refine wq_icmp 190 rfl rfl (by omega) (by omega) (fun c_134 => ?_) (fun c_134 => ?_)
      · have c_134 := of_decide_eq_true c_134
        have e9 : i = (wkL X (rv 0)).length := by omega
        subst e9
        refine wq_s 191 rfl ?_
        refine wq_getR 194 rfl rfl (hC.lt (by omega)) (hC.ty 20 _ rfl) rfl ?_
        refine wq_getE (v := ((cntX (ahF X (wkL X (rv 0)) (rv (w - 1)) (wkL X (rv 0)).length) : Nat) : Int)) 2 197 rfl rfl (hC.lt (by omega)) (hC.ty 15 _ rfl) rfl rfl a1.2 ?_
        exact wq_ret rfl ⟨(by rw [show cntX (ahF X (wkL X (rv 0)) (rv (w - 1)) (wkL X (rv 0)).length) = byN X rv w from sumN_ext 81 (fun c _ => by rw [ah_by hch c])]), a1.ext (fun c _ => ah_by hch c), a2, a3⟩
      · have c_134 := of_decide_eq_false c_134
        have hl9 : (wkL X (rv 0)).getD i 0 < 729 := (flP_at (P := wkP X (rv 0)) (n := 729) (j := i) (show i < (wkL X (rv 0)).length by omega)).1
        have hpw := pw9 ((wkL X (rv 0)).getD i 0)
        refine wq_s 138 rfl ?_
        refine wq_s 139 rfl ?_
        refine wq_s 140 rfl ?_
        refine wq_getR 143 rfl rfl (hC.lt (by omega)) (hC.ty 20 _ rfl) rfl ?_
        refine wq_s 145 rfl ?_
        refine wq_iald (v := (((wkL X (rv 0)).getD i 0 : Nat) : Int)) 146 rfl rfl (hC.lt (by omega)).2 (hC.ty 23 _ rfl) (by omega) (by omega) (by omega) (a4.2 i (by omega)) ?_
        refine wq_s 148 rfl ?_
        refine wq_vt3 151 rfl rfl (Nat.le_of_ble_eq_true rfl) (hC.lt (by omega)) (hC.ty 20 _ rfl) rfl (Nat.le_of_ble_eq_true rfl) (c_areWeak hC hb (hS.fr (a2 _ (by decide) (by decide) (by decide) (by decide)) (a2 _ (by decide) (by decide) (by decide) (by decide)) (a2 _ (by decide) (by decide) (by decide) (by decide)) (a2 _ (by decide) (by decide) (by decide) (by decide))) (hB.fr (a2 _ (by omega) (by omega) (by omega) (by omega)) (a2 _ (by omega) (by omega) (by omega) (by omega))) hl9 (hR (w - 1) (by omega)).2) (fun r M1 hr => ?_)
        rcases hr with ⟨rfl, b_148, hM1⟩ | ⟨rfl, b_148, hM1⟩
        · subst M1
          dsimp only [Option.toList, List.cons_append, List.nil_append]
          refine wq_s 154 rfl ?_
          refine wq_s 155 rfl ?_
          refine wq_getR 158 rfl rfl (hC.lt (by omega)) (hC.ty 20 _ rfl) rfl ?_
          refine wq_s 159 rfl ?_
          refine wq_s 160 rfl ?_
          refine wq_getR 163 rfl rfl (hC.lt (by omega)) (hC.ty 20 _ rfl) rfl ?_
          refine wq_s 165 rfl ?_
          refine wq_iald (v := (((wkL X (rv 0)).getD i 0 : Nat) : Int)) 166 rfl rfl (hC.lt (by omega)).2 (hC.ty 23 _ rfl) (by omega) (by omega) (by omega) (a4.2 i (by omega)) ?_
          refine wq_s 168 rfl ?_
          refine we_div ((((wkL X (rv 0)).getD i 0) / 9 : Nat) : Int) 169 rfl rfl (by omega) (by omega) (by omega) ?_
          refine wq_s 170 rfl ?_
          refine wq_s 171 rfl ?_
          refine wq_getR 174 rfl rfl (hC.lt (by omega)) (hC.ty 20 _ rfl) rfl ?_
          refine wq_s 176 rfl ?_
          refine wq_iald (v := (((wkL X (rv 0)).getD i 0 : Nat) : Int)) 177 rfl rfl (hC.lt (by omega)).2 (hC.ty 23 _ rfl) (by omega) (by omega) (by omega) (a4.2 i (by omega)) ?_
          refine wq_s 179 rfl ?_
          refine we_rem ((((wkL X (rv 0)).getD i 0) % 9 : Nat) : Int) 180 rfl rfl (by omega) (by omega) (by omega) ?_
          refine we_shl 1 (((wkL X (rv 0)).getD i 0) % 9) (2 ^ (((wkL X (rv 0)).getD i 0) % 9)) 181 rfl rfl rfl rfl (by omega) (Nat.one_mul _) (by omega) ?_
          refine wq_vt3 184 rfl rfl (Nat.le_of_ble_eq_true rfl) (hC.lt (by omega)) (hC.ty 15 _ rfl) rfl (Nat.le_of_ble_eq_true rfl) (c_X2_add (cl := (wkL X (rv 0)).getD i 0 / 9) (bt := 2 ^ ((wkL X (rv 0)).getD i 0 % 9)) hC hb (hB.fr (a2 _ (by omega) (by omega) (by omega) (by omega)) (a2 _ (by omega) (by omega) (by omega) (by omega))).1 a1 (by omega) (by omega)) (fun z M3 hz => ?_)
          obtain ⟨rfl, hG3, hF3⟩ := hz
          dsimp only [Option.toList, List.cons_append, List.nil_append]
          refine we_inc 6 1 ((i + 1 : Nat) : Int) 187 _ rfl rfl rfl (by omega) (by omega) rfl ?_
          refine wq_s 128 rfl ?_
          have ee : ahF X (wkL X (rv 0)) (rv (w - 1)) (i + 1) = hdU (ahF X (wkL X (rv 0)) (rv (w - 1)) i) ((wkL X (rv 0)).getD i 0 / 9) (X ((wkL X (rv 0)).getD i 0 / 9) &&& 2 ^ ((wkL X (rv 0)).getD i 0 % 9)) := cI_t b_148
          exact ih_i (i + 1) _ _ (by omega) (by omega) (by rw [ee]; exact hG3) (fun a h1 h2 h3 h4 => (hF3 a h1 h2).trans (a2 a h1 h2 h3 h4)) (fun j hj => (congrFun (hF3 24 (by decide) (by decide)) j).trans (a3 j hj)) ⟨(congrFun (hF3 24 (by decide) (by decide)) 5).trans a4.1, fun j hj => (congrFun (hF3 27 (by decide) (by decide)) j).trans (a4.2 j hj)⟩
        · subst M1
          dsimp only [Option.toList, List.cons_append, List.nil_append]
          refine wq_s 184 rfl ?_
          refine we_inc 6 1 ((i + 1 : Nat) : Int) 187 _ rfl rfl rfl (by omega) (by omega) rfl ?_
          refine wq_s 128 rfl ?_
          have ee : ahF X (wkL X (rv 0)) (rv (w - 1)) (i + 1) = ahF X (wkL X (rv 0)) (rv (w - 1)) i := cI_f b_148
          exact ih_i (i + 1) _ _ (by omega) (by omega) (by rw [ee]; exact a1) a2 a3 a4
  have L_38 : 2 ≤ w → w % 2 = 0 → ∀ (f i : Nat) (y6 : Option AV) (y7 : Option AV), w - i < f → i ≤ w → (i + 1 ≤ w) → (∀ s, 1 ≤ s → s < i + 1 → (s % 2 = 1 → strongC X (rv (s - 1)) (rv s)) ∧ (s % 2 = 0 → weakC X (rv (s - 1)) (rv s))) → Wq (d + 3) k_X1_mark 38 [some (vR 24), some (vR b), some (vR qn), some (vI ((u : Nat) : Int)), some (vI ((w : Nat) : Int)), some (vI ((i : Nat) : Int)), y6, y7] [] G M (fun z M' => z = some (vI ((byN X rv w : Nat) : Int)) ∧ GoAt M' (byY X rv w) ∧ (∀ a, a ≠ 19 → a ≠ 20 → a ≠ 24 → a ≠ 27 → M' a = M a) ∧ ∀ i : Int, i ≠ 5 → M' 24 i = M 24 i) := by
    intro hw2 hwe f
    induction f with
    | zero => intro i y6 y7 h; exact absurd h (by omega)
    | succ f ih_i =>
      intro i y6 y7 hf_i hk_i hi1 hSt
      refine wq_s 40 rfl ?_
      refine wq_s 41 rfl ?_
      refine we_add ((i + 1 : Nat) : Int) 42 rfl rfl (by omega) (by omega) ?_
      refine wq_s 44 rfl ?_
      refine wq_icmp 107 rfl rfl (by omega) (by omega) (fun c_44 => ?_) (fun c_44 => ?_)
      · have c_44 := of_decide_eq_true c_44
        refine wq_s 108 rfl ?_
        refine wq_s 109 rfl ?_
        refine wq_s 111 rfl ?_
        refine we_add ((u + w : Nat) : Int) 112 rfl rfl (by omega) (by omega) ?_
        refine wq_s 113 rfl ?_
        refine we_sub ((u + w - 1 : Nat) : Int) 114 rfl rfl (by omega) (by omega) ?_
        refine wq_iald (v := ((rv (w - 1) : Nat) : Int)) 115 rfl rfl (And.intro (Nat.zero_le 0) n1).2 n2 (by omega) (by omega) (by omega) (by rw [show u + w - 1 = u + (w - 1) by omega]; exact (hR (w - 1) (by omega)).1) ?_
        refine wq_s 117 rfl ?_
        refine wq_s 118 rfl ?_
        refine wq_s 119 rfl ?_
        refine wq_s 120 rfl ?_
        refine wq_s 121 rfl ?_
        refine wq_iald (v := ((rv 0 : Nat) : Int)) 122 rfl rfl (And.intro (Nat.zero_le 0) n1).2 n2 (by omega) (by omega) (by omega) (hR 0 (by omega)).1 ?_
        have hch : chC X rv w := ⟨hw2, hwe, fun s h1 h2 => hSt s h1 (by omega)⟩
        have hs0 : hasN X (rv 0) = 1 := ((hch.2.2 1 (by omega) (by omega)).1 rfl).1.2.1
        refine wq_vt2 125 rfl rfl (Nat.le_of_ble_eq_true rfl) (hC.lt (by omega)) (hC.ty 20 _ rfl) rfl (Nat.le_of_ble_eq_true rfl) (c_listWeak hC hb hS hB (hR 0 (by omega)).2 hs0) (fun z M3 hz => ?_)
        obtain ⟨rfl, g1, g2, g3⟩ := hz
        dsimp only [Option.toList, List.cons_append, List.nil_append]
        refine wq_s 126 rfl ?_
        refine wq_s 128 rfl ?_
        exact L_128 hch ((wkL X (rv 0)).length + 1) 0 M3 _ (by omega) (by omega) (hH.fr (g2 _ (by decide) (by decide)) (g2 _ (by decide) (by decide))) (fun a _ _ h3 h4 => g2 a h3 h4) g3 g1
      · have c_44 := of_decide_eq_false c_44
        refine wq_s 48 rfl ?_
        refine wq_s 49 rfl ?_
        refine wq_s 51 rfl ?_
        refine we_add ((u + i : Nat) : Int) 52 rfl rfl (by omega) (by omega) ?_
        refine wq_iald (v := ((rv i : Nat) : Int)) 53 rfl rfl (And.intro (Nat.zero_le 0) n1).2 n2 (by omega) (by omega) (by omega) (hR i (by omega)).1 ?_
        refine wq_s 55 rfl ?_
        refine wq_s 56 rfl ?_
        refine wq_s 57 rfl ?_
        refine wq_s 59 rfl ?_
        refine we_add ((u + i : Nat) : Int) 60 rfl rfl (by omega) (by omega) ?_
        refine wq_s 61 rfl ?_
        refine we_add ((u + (i + 1) : Nat) : Int) 62 rfl rfl (by omega) (by omega) ?_
        refine wq_iald (v := ((rv (i + 1) : Nat) : Int)) 63 rfl rfl (And.intro (Nat.zero_le 0) n1).2 n2 (by omega) (by omega) (by omega) (hR (i + 1) (by omega)).1 ?_
        refine wq_s 65 rfl ?_
        refine wq_s 67 rfl ?_
        refine wq_s 68 rfl ?_
        refine we_rem ((i % 2 : Nat) : Int) 69 rfl rfl (by omega) (by omega) (by omega) ?_
        refine wq_if 87 rfl rfl (by omega) (fun c_69 => ?_) (fun c_69 => ?_)
        · have c_69 := of_decide_eq_true c_69
          refine wq_s 88 rfl ?_
          refine wq_s 89 rfl ?_
          refine wq_s 91 rfl ?_
          refine wq_s 93 rfl ?_
          refine wq_vt3 96 rfl rfl (Nat.le_of_ble_eq_true rfl) (hC.lt (by omega)) (hC.ty 20 _ rfl) rfl (Nat.le_of_ble_eq_true rfl) (c_areWeak hC hb hS hB (hR i (by omega)).2 (hR (i + 1) (by omega)).2) (fun r M1 hr => ?_)
          rcases hr with ⟨rfl, b_93, hM1⟩ | ⟨rfl, b_93, hM1⟩
          · subst M1
            dsimp only [Option.toList, List.cons_append, List.nil_append]
            refine wq_s 101 rfl ?_
            refine we_inc 5 1 ((i + 1 : Nat) : Int) 104 _ rfl rfl rfl (by omega) (by omega) rfl ?_
            refine wq_s 38 rfl ?_
            refine ih_i (i + 1) _ _ (by omega) (by omega) (by omega) (fun s h1 h2 => ?_)
            by_cases hsk : s = i + 1
            · subst hsk
              rw [show i + 1 - 1 = i by omega]
              exact ⟨fun z => absurd z (by omega), fun _ => b_93⟩
            · exact hSt s h1 (by omega)
          · subst M1
            dsimp only [Option.toList, List.cons_append, List.nil_append]
            refine wq_s 99 rfl ?_
            refine wq_s 100 rfl ?_
            exact wq_ret rfl (hfail (fun z => b_93 (by have h9 := (z.2.2 (i + 1) (by omega) (by omega)).2 (by omega); rw [show i + 1 - 1 = i by omega] at h9; exact h9)))
        · have c_69 := of_decide_eq_false c_69
          refine wq_s 73 rfl ?_
          refine wq_s 74 rfl ?_
          refine wq_s 76 rfl ?_
          refine wq_s 78 rfl ?_
          refine wq_vt3 81 rfl rfl (Nat.le_of_ble_eq_true rfl) (hC.lt (by omega)) (hC.ty 20 _ rfl) rfl (Nat.le_of_ble_eq_true rfl) (c_areStrong hC hb hS hB (hR i (by omega)).2 (hR (i + 1) (by omega)).2) (fun r M1 hr => ?_)
          rcases hr with ⟨rfl, b_78, hM1⟩ | ⟨rfl, b_78, hM1⟩
          · subst M1
            dsimp only [Option.toList, List.cons_append, List.nil_append]
            refine wq_s 84 rfl ?_
            refine wq_s 101 rfl ?_
            refine we_inc 5 1 ((i + 1 : Nat) : Int) 104 _ rfl rfl rfl (by omega) (by omega) rfl ?_
            refine wq_s 38 rfl ?_
            refine ih_i (i + 1) _ _ (by omega) (by omega) (by omega) (fun s h1 h2 => ?_)
            by_cases hsk : s = i + 1
            · subst hsk
              rw [show i + 1 - 1 = i by omega]
              exact ⟨fun _ => b_78, fun z => absurd z (by omega)⟩
            · exact hSt s h1 (by omega)
          · subst M1
            dsimp only [Option.toList, List.cons_append, List.nil_append]
            refine wq_s 99 rfl ?_
            refine wq_s 100 rfl ?_
            exact wq_ret rfl (hfail (fun z => b_78 (by have h9 := (z.2.2 (i + 1) (by omega) (by omega)).1 (by omega); rw [show i + 1 - 1 = i by omega] at h9; exact h9)))
  refine wq_s 2 rfl ?_
  refine wq_s 3 rfl ?_
  refine wq_icmp 33 rfl rfl (by omega) (by omega) (fun c_3 => ?_) (fun c_3 => ?_)
  · have c_3 := of_decide_eq_true c_3
    refine wq_s 34 rfl ?_
    exact wq_ret rfl (hfail (fun z => absurd z.1 (by omega)))
  · have c_3 := of_decide_eq_false c_3
    refine wq_s 8 rfl ?_
    refine wq_s 10 rfl ?_
    refine wq_icmp 33 rfl rfl (by omega) (by omega) (fun c_10 => ?_) (fun c_10 => ?_)
    · have c_10 := of_decide_eq_true c_10
      exact absurd c_10 (by omega)
    · have c_10 := of_decide_eq_false c_10
      refine wq_s 15 rfl ?_
      refine wq_s 16 rfl ?_
      refine we_rem ((w % 2 : Nat) : Int) 17 rfl rfl (by omega) (by omega) (by omega) ?_
      refine wq_if 33 rfl rfl (by omega) (fun c_17 => ?_) (fun c_17 => ?_)
      · have c_17 := of_decide_eq_true c_17
        refine wq_s 34 rfl ?_
        exact wq_ret rfl (hfail (fun z => absurd z.2.1 (by omega)))
      · have c_17 := of_decide_eq_false c_17
        refine wq_s 21 rfl ?_
        refine wq_if 33 rfl rfl (by omega) (fun c_21 => absurd c_21 cmp_ltN) (fun _ => ?_)
        refine wq_s 25 rfl ?_
        refine wq_s 26 rfl ?_
        refine wq_alen 27 rfl rfl n1 n2 (by omega) ?_
        refine wq_s 29 rfl ?_
        refine we_sub (((Nn : Nat) : Int) - ((w : Nat) : Int)) 30 rfl rfl (by omega) (by omega) ?_
        refine wq_icmp 35 rfl rfl (by omega) (by omega) (fun c_30 => ?_) (fun c_30 => ?_)
        · have c_30 := of_decide_eq_true c_30
          refine wq_s 36 rfl ?_
          refine wq_s 38 rfl ?_
          exact L_38 (by omega) (by omega) (w + 1) 0 _ _ (by omega) (by omega) (by omega) (fun s h1 h2 => absurd h1 (by omega))
        · have c_30 := of_decide_eq_false c_30
          exact absurd c_30 (by omega)
