/-! a chain's row -/
/-- a and n go by something together -/
def gdR (X : Nat → Nat) (a n : Nat) : Prop := ∃ y, wkR X a y ∧ wkR X n y
/-- the link ahead of a row's place s -/
def rkR (X : Nat → Nat) (s x y : Nat) : Prop := (s % 2 = 1 → sgR X x y) ∧ (s % 2 = 0 → wkR X x y)
/-- from n a row of a can be ended with j nodes more -/
def layJ (X : Nat → Nat) (a : Nat) : Nat → Nat → Prop
  | 0, n => gdR X a n
  | j + 1, n => ∃ x, layJ X a j x ∧ rkR X (j + 1) x n
theorem wkR_sym {X : Nat → Nat} {x y : Nat} (h : wkR X x y) : wkR X y x := ⟨h.2.1, h.1, weakC_sym h.2.2⟩
theorem sgR_sym {X : Nat → Nat} {x y : Nat} (h : sgR X x y) : sgR X y x := ⟨h.2.1, h.1, strongC_sym h.2.2⟩
theorem sgR_wk {X : Nat → Nat} {x y : Nat} (h : sgR X x y) : wkR X x y := ⟨h.1, h.2.1, h.2.2.1⟩
theorem rkR_sym {X : Nat → Nat} {s x y : Nat} (h : rkR X s x y) : rkR X s y x := ⟨fun z => sgR_sym (h.1 z), fun z => wkR_sym (h.2 z)⟩
theorem rkR_par {X : Nat → Nat} {s s' x y : Nat} (hs : s % 2 = s' % 2) (h : rkR X s x y) : rkR X s' x y := ⟨fun z => h.1 (by omega), fun z => h.2 (by omega)⟩
theorem rkR_wk {X : Nat → Nat} {s x y : Nat} (h : rkR X s x y) : wkR X x y := by
  by_cases z : s % 2 = 1
  · exact sgR_wk (h.1 z)
  · exact h.2 (by omega)
theorem rkR_o {X : Nat → Nat} {s x y : Nat} (hs : s % 2 = 1) : rkR X s x y ↔ sgR X x y := ⟨fun h => h.1 hs, fun h => ⟨fun _ => h, fun z => absurd z (by omega)⟩⟩
theorem rkR_e {X : Nat → Nat} {s x y : Nat} (hs : s % 2 = 0) : rkR X s x y ↔ wkR X x y := ⟨fun h => h.2 hs, fun h => ⟨fun z => absurd z (by omega), fun _ => h⟩⟩
theorem layJ_lt {X : Nat → Nat} {a : Nat} : ∀ {j n : Nat}, layJ X a j n → n < 729 := by
  intro j n h
  cases j with
  | zero =>
    obtain ⟨y, _, h2⟩ := h
    exact h2.1
  | succ j =>
    obtain ⟨x, _, h2⟩ := h
    exact (rkR_wk h2).2.1
theorem layJ_has {X : Nat → Nat} {a : Nat} {j n : Nat} (h : layJ X a j n) : hasN X n = 1 := by
  cases j with
  | zero =>
    obtain ⟨y, _, h2⟩ := h
    exact h2.2.2.2.1
  | succ j =>
    obtain ⟨x, _, h2⟩ := h
    exact (rkR_wk h2).2.2.2.2.1
theorem imS_lay {X : Nat → Nat} {a j n : Nat} {B : Nat → Nat → Prop} (hB : ∀ x y, B x y ↔ rkR X (j + 1) x y) : imS (thL X 729) (layJ X a j) B (thL X 729).length n ↔ layJ X a (j + 1) n := by
  constructor
  · rintro ⟨i, h1, h2, h3⟩
    exact ⟨_, h2, (hB _ _).1 h3⟩
  · rintro ⟨x, h1, h2⟩
    obtain ⟨i, h3, h4⟩ := (thL_mem X 729 x).2 ⟨layJ_lt h1, layJ_has h1⟩
    exact ⟨i, h3, (by simp only [h4]; exact h1), (by simp only [h4]; exact (hB _ _).2 h2)⟩
/-- the row's place s is the least that can be gone on with -/
def RowS (X : Nat → Nat) (a m : Nat) (rv : Nat → Nat) (s : Nat) : Prop := (rkR X s (rv (s - 1)) (rv s) ∧ layJ X a (2 * m - 1 - s) (rv s)) ∧ ∀ n, n < rv s → ¬ (rkR X s (rv (s - 1)) n ∧ layJ X a (2 * m - 1 - s) n)
def IsRow (X : Nat → Nat) (a m : Nat) (rv : Nat → Nat) : Prop := rv 0 = a ∧ ∀ s, 1 ≤ s → s < 2 * m → RowS X a m rv s
theorem rowOf_n {d : Nat} {G : GT} {M2 : MT} {o m a k qb y : Nat} {A Ly : Nat → Prop} {Q : Option AV → MT → Prop} (hG : RefG G o) (hk : 1 ≤ k ∧ k < 24) (hqb : qb < G.1 ∧ G.2.2 qb = .inl (true, 8748)) (hy : M2 (o + 13) ((k - 1 : Nat) : Int) = (y : Int) ∧ y < 729) (hA : SetAt M2 qb (12 * y) A) (hL : SetAt M2 (o + 12) (12 * k) Ly) (hex : ∃ n, n < 729 ∧ A n ∧ Ly n)
    (hc : ∀ n : Nat, n < 729 → A n → Ly n → (∀ n', n' < n → ¬ (A n' ∧ Ly n')) → Wq (d + 1) k_X9_rowOf 189 [some (vR o), some (vI ((m : Nat) : Int)), some (vI ((a : Nat) : Int)), some (vI ((2 * m - 1 : Nat) : Int)), some (vI ((k : Nat) : Int)), some (vR qb), some (vI ((n : Nat) : Int))] [] G M2 Q) :
    ∀ (f n : Nat), 729 - n < f → (∀ n', n' < n → ¬ (A n' ∧ Ly n')) → Wq (d + 1) k_X9_rowOf 144 [some (vR o), some (vI ((m : Nat) : Int)), some (vI ((a : Nat) : Int)), some (vI ((2 * m - 1 : Nat) : Int)), some (vI ((k : Nat) : Int)), some (vR qb), some (vI ((n : Nat) : Int))] [] G M2 Q := by
  intro f
  induction f with
  | zero => intro n h; exact absurd h (by omega)
  | succ f ih =>
    intro n hf hno
    have hn : n < 729 := by
      obtain ⟨n0, h1, h2, h3⟩ := hex
      by_cases h : n < 729
      · exact h
      · exact absurd ⟨h2, h3⟩ (hno n0 (by omega))
    refine wq_s 146 rfl ?_
    refine wq_s 148 rfl ?_
    refine wq_s 149 rfl ?_
    refine wq_getR 152 rfl rfl hG.ob hG.2.2.1 rfl ?_
    refine wq_s 154 rfl ?_
    refine wq_s 155 rfl ?_
    refine we_sub ((k - 1 : Nat) : Int) 156 rfl rfl (by omega) (by omega) ?_
    refine wq_iald (v := ((y : Nat) : Int)) 157 rfl rfl hG.a_row.1.2 hG.a_row.2 (by omega) (by omega) (by omega) hy.1 ?_
    refine we_mul ((12 * y : Nat) : Int) 158 rfl rfl (by omega) (by omega) ?_
    refine wq_s 160 rfl ?_
    refine wq_st3 163 rfl rfl (by decide) (Nat.le_of_ble_eq_true rfl) rfl (Nat.le_of_ble_eq_true rfl) (c_X9_has (S := A) (by omega) (by omega) (by omega) hqb.1 hqb.2 hA) (fun r M1 hr => ?_)
    rcases hr with ⟨rfl, b_160, hM1⟩ | ⟨rfl, b_160, hM1⟩
    · subst M1
      dsimp only [Option.toList, List.cons_append, List.nil_append]
      refine wq_s 166 rfl ?_
      refine wq_s 167 rfl ?_
      refine wq_getR 170 rfl rfl hG.ob hG.2.2.1 rfl ?_
      refine wq_s 172 rfl ?_
      refine wq_s 174 rfl ?_
      refine we_mul ((12 * k : Nat) : Int) 175 rfl rfl (by omega) (by omega) ?_
      refine wq_s 177 rfl ?_
      refine wq_st3 180 rfl rfl (by decide) (Nat.le_of_ble_eq_true rfl) rfl (Nat.le_of_ble_eq_true rfl) (c_X9_has (S := Ly) (by omega) (by omega) (by omega) hG.a_layer.1.2 hG.a_layer.2 hL) (fun r M1 hr => ?_)
      rcases hr with ⟨rfl, b_177, hM1⟩ | ⟨rfl, b_177, hM1⟩
      · subst M1
        dsimp only [Option.toList, List.cons_append, List.nil_append]
        refine wq_s 189 rfl ?_
        exact hc n hn b_160 b_177 hno
      · subst M1
        dsimp only [Option.toList, List.cons_append, List.nil_append]
        refine wq_s 183 rfl ?_
        refine we_inc 6 1 ((n + 1 : Nat) : Int) 186 _ rfl rfl rfl (by omega) (by omega) rfl ?_
        refine wq_s 144 rfl ?_
        refine ih (n + 1) (by omega) (fun n' h1 h2 => ?_)
        by_cases hnn : n' = n
        · subst hnn
          exact b_177 h2.2
        · exact hno n' (by omega) h2
    · subst M1
      dsimp only [Option.toList, List.cons_append, List.nil_append]
      refine wq_s 183 rfl ?_
      refine we_inc 6 1 ((n + 1 : Nat) : Int) 186 _ rfl rfl rfl (by omega) (by omega) rfl ?_
      refine wq_s 144 rfl ?_
      refine ih (n + 1) (by omega) (fun n' h1 h2 => ?_)
      by_cases hnn : n' = n
      · subst hnn
        exact b_160 h2.1
      · exact hno n' (by omega) h2
theorem c_X9_rowOf {d : Nat} {G : GT} {M : MT} {o m a : Nat} {X : Nat → Nat} (hG : RefG G o) (hm : 1 ≤ m ∧ m ≤ 12) (ha : a < 729) (hTh : ThAt M o (thL X 729)) (hW : RelAt M (o + 6) (wkR X)) (hS : RelAt M (o + 7) (sgR X)) (hGd : SetAt M (o + 9) (12 * a) (gdR X a)) (hla : layJ X a (2 * m - 1) a) : Mq (d + 2) k_X9_rowOf [vR o, vI (m : Int), vI (a : Int)] G M (fun r M' => r = none ∧ (∃ rv, IsRow X a m rv ∧ ∀ s, s < 2 * m → M' (o + 13) (s : Int) = ((rv s : Nat) : Int) ∧ rv s < 729) ∧ ∀ r, r ≠ o + 11 → r ≠ o + 12 → r ≠ o + 13 → M' r = M r) := by
  have L_114 : ∀ (f k : Nat) (rv : Nat → Nat) (M2 : MT) (y5 : Option AV) (y6 : Option AV), 2 * m - k < f → k ≤ 2 * m → (1 ≤ k) → (∀ s, s ≤ 2 * m - 1 → SetAt M2 (o + 12) (12 * (2 * m - 1 - s)) (layJ X a s)) → (∀ s, s < k → M2 (o + 13) (s : Int) = ((rv s : Nat) : Int) ∧ rv s < 729) → (rv 0 = a) → (∀ s, 1 ≤ s → s < k → RowS X a m rv s) → (layJ X a (2 * m - k) (rv (k - 1))) → (∀ r, r ≠ o + 11 → r ≠ o + 12 → r ≠ o + 13 → M2 r = M r) → Wq (d + 2) k_X9_rowOf 114 [some (vR o), some (vI ((m : Nat) : Int)), some (vI ((a : Nat) : Int)), some (vI ((2 * m - 1 : Nat) : Int)), some (vI ((k : Nat) : Int)), y5, y6] [] G M2 (fun r M' => r = none ∧ (∃ rv, IsRow X a m rv ∧ ∀ s, s < 2 * m → M' (o + 13) (s : Int) = ((rv s : Nat) : Int) ∧ rv s < 729) ∧ ∀ r, r ≠ o + 11 → r ≠ o + 12 → r ≠ o + 13 → M' r = M r) := by
    intro f
    induction f with
    | zero => intro k rv M2 y5 y6 h; exact absurd h (by omega)
    | succ f ih_k =>
      intro k rv M2 y5 y6 hf_k hk_k hk1 hLy hR hR0 hRs hLa hFr
      refine wq_s 116 rfl ?_
      refine wq_s 117 rfl ?_
      refine wq_icmp 204 rfl rfl (by omega) (by omega) (fun c_117 => ?_) (fun c_117 => ?_)
      · have c_117 := of_decide_eq_true c_117
        exact wq_ret rfl ⟨rfl, ⟨rv, ⟨hR0, fun s h1 h2 => hRs s h1 (by omega)⟩, fun s hs => hR s (by omega)⟩, hFr⟩
      · have c_117 := of_decide_eq_false c_117
        refine wq_s 122 rfl ?_
        refine wq_s 123 rfl ?_
        refine we_rem ((k % 2 : Nat) : Int) 124 rfl rfl (by omega) (by omega) (by omega) ?_
        refine wq_s 125 rfl ?_
        refine wq_icmp 135 rfl rfl (by omega) (by omega) (fun c_125 => ?_) (fun c_125 => ?_)
        · have c_125 := of_decide_eq_true c_125
          refine wq_s 136 rfl ?_
          refine wq_getR 139 rfl rfl hG.ob hG.2.2.1 rfl ?_
          refine wq_s 141 rfl ?_
          refine wq_s 142 rfl ?_
          refine wq_s 144 rfl ?_
          have hRel : RelAt M2 (o + 6) (rkR X k) := (hW.fr (hFr _ (by omega) (by omega) (by omega))).ext (fun x y => (rkR_e (by omega)).symm)
          have hy := hR (k - 1) (by omega)
          have hLk : SetAt M2 (o + 12) (12 * k) (layJ X a (2 * m - 1 - k)) := by
            have h1 := hLy (2 * m - 1 - k) (by omega)
            rw [show 2 * m - 1 - (2 * m - 1 - k) = k by omega] at h1
            exact h1
          refine rowOf_n hG (by omega) ⟨hG.a_weak.1.2, hG.a_weak.2⟩ hy (hRel _ hy.2) hLk ?_ (fun n hn n1 n2 n3 => ?_) 730 0 (by omega) (fun n' h => absurd h (by omega))
          · rw [show 2 * m - k = 2 * m - 1 - k + 1 by omega] at hLa
            obtain ⟨x, h1, h2⟩ := hLa
            exact ⟨x, layJ_lt h1, rkR_par (by omega) (rkR_sym h2), h1⟩
          · refine wq_s 190 rfl ?_
            refine wq_getR 193 rfl rfl hG.ob hG.2.2.1 rfl ?_
            refine wq_s 195 rfl ?_
            refine wq_s 197 rfl ?_
            refine wq_iast 198 rfl rfl hG.a_row.1 hG.a_row.2 (by omega) (by omega) (by omega) ?_
            refine we_inc 4 1 ((k + 1 : Nat) : Int) 201 _ rfl rfl rfl (by omega) (by omega) rfl ?_
            refine wq_s 114 rfl ?_
            refine ih_k (k + 1) (fun s => if s = k then n else rv s) _ _ _ (by omega) (by omega) (by omega) ?_ ?_ ?_ ?_ ?_ ?_
            · intro s hs
              rw [show 2 * m - 1 - s = 2 * m - 1 - s from rfl]
              exact (hLy s hs).fr (fun w hw => up2_ne (Or.inl (by omega)))
            · intro s hs
              try dsimp only
              by_cases hsk : s = k
              · subst hsk
                rw [if_pos rfl]
                exact ⟨up2_at, hn⟩
              · rw [if_neg hsk, up2_ne (Or.inr (by omega))]
                exact hR s (by omega)
            · try dsimp only
              rw [if_neg (by omega)]
              exact hR0
            · intro s h1 h2
              unfold RowS
              try dsimp only
              by_cases hsk : s = k
              · subst hsk
                rw [if_pos rfl, if_neg (by omega)]
                exact ⟨⟨n1, n2⟩, n3⟩
              · rw [if_neg hsk, if_neg (by omega)]
                exact hRs s h1 (by omega)
            · try dsimp only
              rw [show k + 1 - 1 = k by omega, if_pos rfl, show 2 * m - (k + 1) = 2 * m - 1 - k by omega]
              exact n2
            · intro r h1 h2 h3
              rw [up2_row h3]
              exact hFr r h1 h2 h3
        · have c_125 := of_decide_eq_false c_125
          refine wq_s 129 rfl ?_
          refine wq_getR 132 rfl rfl hG.ob hG.2.2.1 rfl ?_
          refine wq_s 139 rfl ?_
          refine wq_s 141 rfl ?_
          refine wq_s 142 rfl ?_
          refine wq_s 144 rfl ?_
          have hRel : RelAt M2 (o + 7) (rkR X k) := (hS.fr (hFr _ (by omega) (by omega) (by omega))).ext (fun x y => (rkR_o (by omega)).symm)
          have hy := hR (k - 1) (by omega)
          have hLk : SetAt M2 (o + 12) (12 * k) (layJ X a (2 * m - 1 - k)) := by
            have h1 := hLy (2 * m - 1 - k) (by omega)
            rw [show 2 * m - 1 - (2 * m - 1 - k) = k by omega] at h1
            exact h1
          refine rowOf_n hG (by omega) ⟨hG.a_strong.1.2, hG.a_strong.2⟩ hy (hRel _ hy.2) hLk ?_ (fun n hn n1 n2 n3 => ?_) 730 0 (by omega) (fun n' h => absurd h (by omega))
          · rw [show 2 * m - k = 2 * m - 1 - k + 1 by omega] at hLa
            obtain ⟨x, h1, h2⟩ := hLa
            exact ⟨x, layJ_lt h1, rkR_par (by omega) (rkR_sym h2), h1⟩
          · refine wq_s 190 rfl ?_
            refine wq_getR 193 rfl rfl hG.ob hG.2.2.1 rfl ?_
            refine wq_s 195 rfl ?_
            refine wq_s 197 rfl ?_
            refine wq_iast 198 rfl rfl hG.a_row.1 hG.a_row.2 (by omega) (by omega) (by omega) ?_
            refine we_inc 4 1 ((k + 1 : Nat) : Int) 201 _ rfl rfl rfl (by omega) (by omega) rfl ?_
            refine wq_s 114 rfl ?_
            refine ih_k (k + 1) (fun s => if s = k then n else rv s) _ _ _ (by omega) (by omega) (by omega) ?_ ?_ ?_ ?_ ?_ ?_
            · intro s hs
              rw [show 2 * m - 1 - s = 2 * m - 1 - s from rfl]
              exact (hLy s hs).fr (fun w hw => up2_ne (Or.inl (by omega)))
            · intro s hs
              try dsimp only
              by_cases hsk : s = k
              · subst hsk
                rw [if_pos rfl]
                exact ⟨up2_at, hn⟩
              · rw [if_neg hsk, up2_ne (Or.inr (by omega))]
                exact hR s (by omega)
            · try dsimp only
              rw [if_neg (by omega)]
              exact hR0
            · intro s h1 h2
              unfold RowS
              try dsimp only
              by_cases hsk : s = k
              · subst hsk
                rw [if_pos rfl, if_neg (by omega)]
                exact ⟨⟨n1, n2⟩, n3⟩
              · rw [if_neg hsk, if_neg (by omega)]
                exact hRs s h1 (by omega)
            · try dsimp only
              rw [show k + 1 - 1 = k by omega, if_pos rfl, show 2 * m - (k + 1) = 2 * m - 1 - k by omega]
              exact n2
            · intro r h1 h2 h3
              rw [up2_row h3]
              exact hFr r h1 h2 h3
  have L_51 : ∀ (f j : Nat) (M2 : MT), 2 * m - 1 - j < f → j ≤ 2 * m - 1 → (∀ s, s ≤ j → SetAt M2 (o + 12) (12 * (2 * m - 1 - s)) (layJ X a s)) → (∀ r, r ≠ o + 11 → r ≠ o + 12 → M2 r = M r) → Wq (d + 2) k_X9_rowOf 51 [some (vR o), some (vI ((m : Nat) : Int)), some (vI ((a : Nat) : Int)), some (vI ((2 * m - 1 : Nat) : Int)), some (vI (2 * (m : Int) - 2 - ((j : Nat) : Int))), none, none] [] G M2 (fun r M' => r = none ∧ (∃ rv, IsRow X a m rv ∧ ∀ s, s < 2 * m → M' (o + 13) (s : Int) = ((rv s : Nat) : Int) ∧ rv s < 729) ∧ ∀ r, r ≠ o + 11 → r ≠ o + 12 → r ≠ o + 13 → M' r = M r) := by
    intro f
    induction f with
    | zero => intro j M2 h; exact absurd h (by omega)
    | succ f ih_j =>
      intro j M2 hf_j hk_j hLy hFr
      refine wq_s 53 rfl ?_
      refine wq_if 104 rfl rfl (by omega) (fun c_53 => ?_) (fun c_53 => ?_)
      · have c_53 := of_decide_eq_true c_53
        have e9 : j = 2 * m - 1 := by omega
        subst e9
        refine wq_s 105 rfl ?_
        refine wq_getR 108 rfl rfl hG.ob hG.2.2.1 rfl ?_
        refine wq_s 109 rfl ?_
        refine wq_s 110 rfl ?_
        refine wq_iast 111 rfl rfl hG.a_row.1 hG.a_row.2 (by omega) (by omega) (by omega) ?_
        refine wq_s 112 rfl ?_
        refine wq_s 114 rfl ?_
        refine L_114 (2 * m) 1 (fun _ => a) _ _ _ (by omega) (by omega) (by omega) ?_ ?_ rfl (fun s h1 h2 => absurd h1 (by omega)) hla ?_
        · intro s hs
          exact (hLy s (by omega)).fr (fun w hw => up2_ne (Or.inl (by omega)))
        · intro s hs
          have e0 : s = 0 := by omega
          subst e0
          exact ⟨up2_at, ha⟩
        · intro r h1 h2 h3
          rw [up2_row h3]
          exact hFr r h1 h2
      · have c_53 := of_decide_eq_false c_53
        refine wq_s 57 rfl ?_
        refine wq_s 58 rfl ?_
        refine wq_getR 61 rfl rfl hG.ob hG.2.2.1 rfl ?_
        refine wq_s 63 rfl ?_
        refine wq_s 65 rfl ?_
        refine wq_s 66 rfl ?_
        refine we_add ((2 * m - 1 - j : Nat) : Int) 67 rfl rfl (by omega) (by omega) ?_
        refine we_mul ((12 * (2 * m - 1 - j) : Nat) : Int) 68 rfl rfl (by omega) (by omega) ?_
        refine wq_s 70 rfl ?_
        refine wq_s 71 rfl ?_
        refine we_rem ((j % 2 : Nat) : Int) 72 rfl rfl (by omega) (by omega) (by omega) ?_
        refine wq_if 82 rfl rfl (by omega) (fun c_72 => ?_) (fun c_72 => ?_)
        · have c_72 := of_decide_eq_true c_72
          refine wq_s 83 rfl ?_
          refine wq_getR 86 rfl rfl hG.ob hG.2.2.1 rfl ?_
          refine wq_s 87 rfl ?_
          refine wq_getR 90 rfl rfl hG.ob hG.2.2.1 rfl ?_
          refine wq_s 92 rfl ?_
          refine wq_s 94 rfl ?_
          refine we_mul ((12 * (2 * m - 2 - j) : Nat) : Int) 95 rfl rfl (by omega) (by omega) ?_
          refine wq_vt5 98 rfl rfl (Nat.le_of_ble_eq_true rfl) hG.ob hG.2.2.1 rfl (Nat.le_of_ble_eq_true rfl) (c_X9_image (l := thL X 729) (S := layJ X a j) (B := wkR X) hG (hTh.fr (hFr _ (by omega) (by omega)) (hFr _ (by omega) (by omega))) (hLy j (by omega)) (hW.fr (hFr _ (by omega) (by omega))) ⟨hG.a_layer.1.2, hG.a_layer.2, by omega, by omega⟩ ⟨hG.a_weak.1.2, hG.a_weak.2⟩ ⟨hG.a_layer.1, hG.a_layer.2, by omega, by omega⟩ ⟨by omega, by omega, by omega⟩) (fun r M3 hr => ?_)
          obtain ⟨rfl, hS3, hF3⟩ := hr
          dsimp only [Option.toList, List.cons_append, List.nil_append]
          refine we_inc 4 (-1) (2 * (m : Int) - 2 - ((j + 1 : Nat) : Int)) 101 _ rfl rfl rfl (by omega) (by omega) rfl ?_
          refine wq_s 51 rfl ?_
          refine ih_j (j + 1) _ (by omega) (by omega) ?_ ?_
          · intro s hs
            by_cases hsj : s = j + 1
            · subst hsj
              rw [show 2 * m - 1 - (j + 1) = 2 * m - 2 - j by omega]
              exact hS3.ext (fun n _ => imS_lay (fun x y => (rkR_e (by omega)).symm))
            · exact (hLy s (by omega)).fr (fun w hw => hF3 _ _ (by omega) (by omega))
          · intro r h1 h2
            exact (funext fun i => hF3 r i h1 (Or.inl h2)).trans (hFr r h1 h2)
        · have c_72 := of_decide_eq_false c_72
          refine wq_s 76 rfl ?_
          refine wq_getR 79 rfl rfl hG.ob hG.2.2.1 rfl ?_
          refine wq_s 86 rfl ?_
          refine wq_s 87 rfl ?_
          refine wq_getR 90 rfl rfl hG.ob hG.2.2.1 rfl ?_
          refine wq_s 92 rfl ?_
          refine wq_s 94 rfl ?_
          refine we_mul ((12 * (2 * m - 2 - j) : Nat) : Int) 95 rfl rfl (by omega) (by omega) ?_
          refine wq_vt5 98 rfl rfl (Nat.le_of_ble_eq_true rfl) hG.ob hG.2.2.1 rfl (Nat.le_of_ble_eq_true rfl) (c_X9_image (l := thL X 729) (S := layJ X a j) (B := sgR X) hG (hTh.fr (hFr _ (by omega) (by omega)) (hFr _ (by omega) (by omega))) (hLy j (by omega)) (hS.fr (hFr _ (by omega) (by omega))) ⟨hG.a_layer.1.2, hG.a_layer.2, by omega, by omega⟩ ⟨hG.a_strong.1.2, hG.a_strong.2⟩ ⟨hG.a_layer.1, hG.a_layer.2, by omega, by omega⟩ ⟨by omega, by omega, by omega⟩) (fun r M3 hr => ?_)
          obtain ⟨rfl, hS3, hF3⟩ := hr
          dsimp only [Option.toList, List.cons_append, List.nil_append]
          refine we_inc 4 (-1) (2 * (m : Int) - 2 - ((j + 1 : Nat) : Int)) 101 _ rfl rfl rfl (by omega) (by omega) rfl ?_
          refine wq_s 51 rfl ?_
          refine ih_j (j + 1) _ (by omega) (by omega) ?_ ?_
          · intro s hs
            by_cases hsj : s = j + 1
            · subst hsj
              rw [show 2 * m - 1 - (j + 1) = 2 * m - 2 - j by omega]
              exact hS3.ext (fun n _ => imS_lay (fun x y => (rkR_o (by omega)).symm))
            · exact (hLy s (by omega)).fr (fun w hw => hF3 _ _ (by omega) (by omega))
          · intro r h1 h2
            exact (funext fun i => hF3 r i h1 (Or.inl h2)).trans (hFr r h1 h2)
  have L_9 : ∀ (f k : Nat) (M2 : MT), 12 - k < f → k ≤ 12 → (∀ w : Nat, w < k → M2 (o + 12) ((12 * (2 * m - 1) + w : Nat) : Int) = M (o + 9) ((12 * a + w : Nat) : Int)) → (∀ r, r ≠ o + 12 → M2 r = M r) → Wq (d + 2) k_X9_rowOf 9 [some (vR o), some (vI ((m : Nat) : Int)), some (vI ((a : Nat) : Int)), some (vI ((2 * m - 1 : Nat) : Int)), some (vI ((k : Nat) : Int)), none, none] [] G M2 (fun r M' => r = none ∧ (∃ rv, IsRow X a m rv ∧ ∀ s, s < 2 * m → M' (o + 13) (s : Int) = ((rv s : Nat) : Int) ∧ rv s < 729) ∧ ∀ r, r ≠ o + 11 → r ≠ o + 12 → r ≠ o + 13 → M' r = M r) := by
    intro f
    induction f with
    | zero => intro k M2 h; exact absurd h (by omega)
    | succ f ih_k =>
      intro k M2 hf_k hk_k hC hFr
      refine wq_s 11 rfl ?_
      refine wq_s 13 rfl ?_
      refine wq_icmp 46 rfl rfl (by omega) (by omega) (fun c_13 => ?_) (fun c_13 => ?_)
      · have c_13 := of_decide_eq_true c_13
        have e9 : k = 12 := by omega
        subst e9
        refine wq_s 47 rfl ?_
        refine wq_s 48 rfl ?_
        refine we_sub (2 * (m : Int) - 2 - ((0 : Nat) : Int)) 49 rfl rfl (by omega) (by omega) ?_
        refine wq_s 51 rfl ?_
        refine L_51 (2 * m) 0 _ (by omega) (by omega) ?_ (fun r _ h2 => hFr r h2)
        intro s hs
        have e0 : s = 0 := by omega
        subst e0
        intro n hn
        rw [show 2 * m - 1 - 0 = 2 * m - 1 from rfl, hC (n / 64) (by omega)]
        exact hGd n hn
      · have c_13 := of_decide_eq_false c_13
        refine wq_s 17 rfl ?_
        refine wq_getR 20 rfl rfl hG.ob hG.2.2.1 rfl ?_
        refine wq_s 22 rfl ?_
        refine wq_s 23 rfl ?_
        refine we_mul ((12 * (2 * m - 1) : Nat) : Int) 24 rfl rfl (by omega) (by omega) ?_
        refine wq_s 26 rfl ?_
        refine we_add (((12 * (2 * m - 1)) + k : Nat) : Int) 27 rfl rfl (by omega) (by omega) ?_
        refine wq_s 28 rfl ?_
        refine wq_getR 31 rfl rfl hG.ob hG.2.2.1 rfl ?_
        refine wq_s 33 rfl ?_
        refine wq_s 34 rfl ?_
        refine we_mul ((12 * a : Nat) : Int) 35 rfl rfl (by omega) (by omega) ?_
        refine wq_s 37 rfl ?_
        refine we_add (((12 * a) + k : Nat) : Int) 38 rfl rfl (by omega) (by omega) ?_
        refine wq_lald (v := M2 (o + 9) (((12 * a) + k : Nat) : Int)) 39 rfl rfl hG.a_good.1.2 hG.a_good.2 (by omega) (by omega) (by omega) rfl ?_
        refine wq_last 40 rfl rfl hG.a_layer.1 hG.a_layer.2 (by omega) (by omega) (by omega) ?_
        refine we_inc 4 1 ((k + 1 : Nat) : Int) 43 _ rfl rfl rfl (by omega) (by omega) rfl ?_
        refine wq_s 9 rfl ?_
        refine ih_k (k + 1) _ (by omega) (by omega) ?_ ?_
        · intro w hw
          by_cases hwk : w = k
          · subst hwk
            exact up2_at.trans (congrFun (hFr (o + 9) (by omega)) _)
          · exact (up2_ne (Or.inr (by omega))).trans (hC w (by omega))
        · intro r h1
          rw [up2_row h1]
          exact hFr r h1
  refine wq_s 1 rfl ?_
  refine wq_s 2 rfl ?_
  refine we_mul ((2 * m : Nat) : Int) 3 rfl rfl (by omega) (by omega) ?_
  refine wq_s 4 rfl ?_
  refine we_sub ((2 * m - 1 : Nat) : Int) 5 rfl rfl (by omega) (by omega) ?_
  refine wq_s 6 rfl ?_
  refine wq_s 7 rfl ?_
  refine wq_s 9 rfl ?_
  exact L_9 13 0 M (by omega) (by omega) (fun w hw => absurd hw (by omega)) (fun _ _ => rfl)
