/-! the law -/
theorem and15 (x : Int) : ∃ n : Nat, n < 16 ∧ b32 (fun x y => x &&& y) x 15 = (n : Int) := by
  have h1 : ((Int32.ofInt x).toBitVec &&& (Int32.ofInt 15).toBitVec).toNat < 16 := by
    rw [BitVec.toNat_and]
    refine Nat.lt_of_le_of_lt Nat.and_le_right ?_
    decide
  refine ⟨((Int32.ofInt x).toBitVec &&& (Int32.ofInt 15).toBitVec).toNat, h1, ?_⟩
  unfold b32
  show ((Int32.ofInt x).toBitVec &&& (Int32.ofInt 15).toBitVec).toInt = _
  exact BitVec.toInt_eq_toNat_of_lt (by omega)
theorem wq_eqq {d k pc a b c w : Nat} {ls : LoA} {st : List AV} {G : GT} {M : MT} {Q : Option AV → MT → Prop} {off u : Int} (tgt : Nat) (hc : cd k pc = some (.if_icmp .eq off, 3, a, b, c, w)) (ht : (pc : Int) + off = (tgt : Int)) (kt : Wq d k tgt ls st G M Q) : Wq d k pc ls (vI u :: vI u :: st) G M Q := by
  refine wq_br (q := true) ?_ hc rfl rfl ht (fun _ => kt) (fun h => by cases h)
  show brA (cmpA .eq (w32 u) (w32 u)) pc off ls st _ = _
  rw [show cmpA .eq (w32 u) (w32 u) = true from decide_eq_true rfl]
theorem RefSt.frK {M M' : MT} {gv X C : Nat → Nat} {T : List GSt} {en : Nat} {nd : List Nat} {S : SrS} (h : RefSt M 56 gv X C T en nd S) (hF : FrK M M') : RefSt M' 56 gv X C T en nd S := h.fr (fun i _ _ => by rw [hF 56 (Or.inr (by decide))]) (fun a h1 h2 => hF a (Or.inr (by omega)))
theorem ClsSt.frO {M M' : MT} {gv X C : Nat → Nat} {T : List GSt} {en : Nat} {nd : List Nat} {S : SrS} {t : Nat} (h : ClsSt M gv X C T en nd S t) (hF : FrO M M' 56) : ClsSt M' gv X C T en nd S t := h.fr (fun a h1 h2 => hF a (Or.inl (by omega)))
theorem SrI.new (F : Nat → (Nat → Nat) × Nat × Nat) (Sv : Nat → Nat → Nat) : SrI (0, 0, 0, 0, 0, F, Sv) := ⟨⟨Nat.zero_le _, Nat.zero_le _, Nat.zero_le _, Nat.zero_le _, Nat.zero_le _, fun i hi => absurd hi (Nat.not_lt_zero _)⟩, fun _ => ⟨rfl, rfl⟩, fun h => absurd h (show ¬ (0 : Nat) = 1 by decide), fun i hi => absurd hi (Nat.not_lt_zero _)⟩
theorem AbOk.new {gv : Nat → Nat} (hg : ∀ c, c < 81 → gv c ≤ 9) (F : Nat → (Nat → Nat) × Nat × Nat) (Sv : Nat → Nat → Nat) : AbOk (fstF gv) (fstF gv) [] 0 (0, 0, 0, 0, 0, F, Sv) := ⟨⟨Nat.zero_le _, fun s hs => by cases hs⟩, by have := cntX_le (fstF gv); show 0 + cntX (fstF gv) ≤ 729; omega, fun c hc => fstF_lt (hg c hc), fun c hc => fstF_lt (hg c hc), Nat.zero_le _, (SrI.new F Sv).1⟩
theorem rpl_lt : ∀ (l : List GSt) (C : Nat → Nat), (∀ c, c < 81 → C c < 512) → ∀ c, c < 81 → (rplF C l).2 c < 512 := by
  intro l
  induction l with
  | nil => intro C h; exact h
  | cons s l ih =>
    intro C h
    by_cases hs : stN C s = 0
    · rw [rpl_f hs]
      exact h
    · rw [rpl_t (Nat.pos_of_ne_zero hs)]
      exact ih _ (fun c hc => andN_lt (k := 9) (h c hc))
/-- class and reference are in one state -/
def Lw (M : MT) (j : Nat) : Prop := ∃ gv X C T en nd S t, ClsSt M gv X C T en nd S t ∧ RefSt M 56 gv X C T en nd S ∧ AbOk X C T en S ∧ SrI S ∧ (en = 1 → NoStep X) ∧ S.2.2.1 ≤ 300 * j ∧ t ≤ 21870 * j
theorem Lw.new {M : MT} {gv : Nat → Nat} {F : Nat → (Nat → Nat) × Nat × Nat} {Sv : Nat → Nat → Nat} {t j : Nat} (h1 : ClsSt M gv (fstF gv) (fstF gv) [] 0 [] (0, 0, 0, 0, 0, F, Sv) t) (h2 : RefSt M 56 gv (fstF gv) (fstF gv) [] 0 [] (0, 0, 0, 0, 0, F, Sv)) (ht : t ≤ 21870 * j) : Lw M j := ⟨gv, _, _, _, _, _, _, t, h1, h2, AbOk.new (fun c hc => (h1.2.1 c hc).2) F Sv, SrI.new F Sv, fun h => absurd h (by decide), Nat.zero_le _, ht⟩
set_option maxRecDepth 4000 in
theorem law_18 {d : Nat} {G : GT} {M : MT} {L : Nat} (hC : ClsG G) (hG : RefG G 56) (hT0 : G.2.2 0 = .inl (false, L)) (hL : L ≤ 2048) (hR : ∀ i, R32 (M 0 i)) : ∀ (f j : Nat) (M2 : MT), 512 - j < f → j ≤ 512 → Lw M2 j → M2 0 = M 0 → Wq (d + 12) k_L_law 18 [some (vR 0), some (vR 4), some (vR 56), some (vI ((4 * j : Nat) : Int))] [] G M2 (fun z _ => z = some (vI 1)) := by
  have hG0 : 0 < G.1 := by have := hC.1; omega
  intro f
  induction f with
  | zero => intro j M2 h; exact absurd h (by omega)
  | succ f ih_j =>
    intro j M2 hf_j hk_j a1 a2
    obtain ⟨gv, X, C, T, en, nd, S, t, s, r, hO, hI, hE, hTr, hTt⟩ := id a1
    have j1 : S.2.2.1 ≤ 300 * (j + 1) := by omega
    have j2 : t ≤ 21870 * (j + 1) := by omega
    refine wq_s 19 rfl ?_
    refine wq_s 20 rfl ?_
    refine wq_alen 21 rfl rfl hG0 hT0 (by omega) ?_
    refine wq_s 22 rfl ?_
    refine we_sub ((L : Int) - 4) 23 rfl rfl (by omega) (by omega) ?_
    refine wq_icmp 522 rfl rfl (by omega) (by omega) (fun c_23 => ?_) (fun c_23 => ?_)
    · have c_23 := of_decide_eq_true c_23
      refine wq_s 523 rfl ?_
      exact wq_ret rfl rfl
    · have c_23 := of_decide_eq_false c_23
      refine wq_s 27 rfl ?_
      refine wq_s 28 rfl ?_
      refine wq_iald (v := (M2 0 ((4 * j : Nat) : Int))) 29 rfl rfl (And.intro (Nat.zero_le 0) hG0).2 hT0 (by omega) (by omega) (by omega) rfl ?_
      refine wq_s 31 rfl ?_
      refine wq_s 32 rfl ?_
      obtain ⟨n, hn, he⟩ := and15 (M2 0 ((4 * j : Nat) : Int))
      rw [he]
      obtain ⟨x1, hx1⟩ : ∃ x1, M2 0 ((4 * j + 1 : Nat) : Int) = x1 := ⟨_, rfl⟩
      obtain ⟨x2, hx2⟩ : ∃ x2, M2 0 ((4 * j + 2 : Nat) : Int) = x2 := ⟨_, rfl⟩
      obtain ⟨x3, hx3⟩ : ∃ x3, M2 0 ((4 * j + 3 : Nat) : Int) = x3 := ⟨_, rfl⟩
      have h1 : R32 x1 := by rw [← hx1, a2]; exact hR _
      have h2 : R32 x2 := by rw [← hx2, a2]; exact hR _
      have h3 : R32 x3 := by rw [← hx3, a2]; exact hR _
      by_cases n_0 : n = 0
      · subst n_0
        refine wq_tsw 104 72 rfl (by decide) rfl rfl ?_
        refine wq_s 105 rfl ?_
        refine wq_s 106 rfl ?_
        refine wq_s 107 rfl ?_
        refine wq_s 108 rfl ?_
        refine we_add (((4 * j) + 1 : Nat) : Int) 109 rfl rfl (by omega) (by omega) ?_
        refine wq_iald (v := x1) 110 rfl rfl (And.intro (Nat.zero_le 0) hG0).2 hT0 (by omega) (by omega) (by omega) hx1 ?_
        refine wq_s 111 rfl ?_
        refine wq_s 112 rfl ?_
        refine wq_s 113 rfl ?_
        refine we_add (((4 * j) + 2 : Nat) : Int) 114 rfl rfl (by omega) (by omega) ?_
        refine wq_iald (v := x2) 115 rfl rfl (And.intro (Nat.zero_le 0) hG0).2 hT0 (by omega) (by omega) (by omega) hx2 ?_
        refine wq_vt2 118 rfl rfl (Nat.le_of_ble_eq_true rfl) (hC.lt (by omega)) (hC.ty 0 _ rfl) rfl (Nat.le_of_ble_eq_true rfl) (c_X8_give hC s hO h1 h2) (fun z M3 hz => ?_)
        rcases hz with ⟨rfl, q1, qS, qF⟩ | ⟨rfl, q1, hM3⟩
        · dsimp only [Option.toList, List.cons_append, List.nil_append]
          refine wq_s 119 rfl ?_
          refine wq_s 120 rfl ?_
          refine wq_s 121 rfl ?_
          refine wq_s 122 rfl ?_
          refine we_add (((4 * j) + 1 : Nat) : Int) 123 rfl rfl (by omega) (by omega) ?_
          refine wq_iald (v := x1) 124 rfl rfl (And.intro (Nat.zero_le 0) hG0).2 hT0 (by omega) (by omega) (by omega) (by rw [qF 0 (by decide)]; exact hx1) ?_
          refine wq_s 125 rfl ?_
          refine wq_s 126 rfl ?_
          refine wq_s 127 rfl ?_
          refine we_add (((4 * j) + 2 : Nat) : Int) 128 rfl rfl (by omega) (by omega) ?_
          refine wq_iald (v := x2) 129 rfl rfl (And.intro (Nat.zero_le 0) hG0).2 hT0 (by omega) (by omega) (by omega) (by rw [qF 0 (by decide)]; exact hx2) ?_
          refine wq_vt2 132 rfl rfl (Nat.le_of_ble_eq_true rfl) hG.ob hG.2.2.1 rfl (Nat.le_of_ble_eq_true rfl) (c_X9_give hG (r.frK qF) hO h1 h2) (fun z M4 hz => ?_)
          rcases hz with ⟨rfl, p1, pS, pF⟩ | ⟨rfl, p1, hM4⟩
          · dsimp only [Option.toList, List.cons_append, List.nil_append]
            refine wq_eqq 516 rfl rfl ?_
            refine we_inc 3 4 ((4 * (j + 1) : Nat) : Int) 519 _ rfl rfl rfl (by omega) (by omega) rfl ?_
            refine wq_s 18 rfl ?_
            exact ih_j (j + 1) M4 (by omega) (by omega) (Lw.new (qS.frO pF) pS j2) (by rw [pF 0 (by decide), qF 0 (by decide)]; exact a2)
          · exact absurd q1 p1
        · subst M3
          dsimp only [Option.toList, List.cons_append, List.nil_append]
          refine wq_s 119 rfl ?_
          refine wq_s 120 rfl ?_
          refine wq_s 121 rfl ?_
          refine wq_s 122 rfl ?_
          refine we_add (((4 * j) + 1 : Nat) : Int) 123 rfl rfl (by omega) (by omega) ?_
          refine wq_iald (v := x1) 124 rfl rfl (And.intro (Nat.zero_le 0) hG0).2 hT0 (by omega) (by omega) (by omega) hx1 ?_
          refine wq_s 125 rfl ?_
          refine wq_s 126 rfl ?_
          refine wq_s 127 rfl ?_
          refine we_add (((4 * j) + 2 : Nat) : Int) 128 rfl rfl (by omega) (by omega) ?_
          refine wq_iald (v := x2) 129 rfl rfl (And.intro (Nat.zero_le 0) hG0).2 hT0 (by omega) (by omega) (by omega) hx2 ?_
          refine wq_vt2 132 rfl rfl (Nat.le_of_ble_eq_true rfl) hG.ob hG.2.2.1 rfl (Nat.le_of_ble_eq_true rfl) (c_X9_give hG r hO h1 h2) (fun z M4 hz => ?_)
          rcases hz with ⟨rfl, p1, pS, pF⟩ | ⟨rfl, p1, hM4⟩
          · exact absurd p1 q1
          · subst M4
            dsimp only [Option.toList, List.cons_append, List.nil_append]
            refine wq_eqq 516 rfl rfl ?_
            refine we_inc 3 4 ((4 * (j + 1) : Nat) : Int) 519 _ rfl rfl rfl (by omega) (by omega) rfl ?_
            refine wq_s 18 rfl ?_
            exact ih_j (j + 1) M2 (by omega) (by omega) ⟨_, _, _, _, _, _, _, _, s, r, hO, hI, hE, j1, j2⟩ a2
      · have m_0 := n_0
        by_cases n_1 : n = 1
        · subst n_1
          refine wq_tsw 137 105 rfl (by decide) rfl rfl ?_
          refine wq_s 138 rfl ?_
          refine wq_s 139 rfl ?_
          refine wq_s 140 rfl ?_
          refine wq_s 141 rfl ?_
          refine we_add (((4 * j) + 1 : Nat) : Int) 142 rfl rfl (by omega) (by omega) ?_
          refine wq_iald (v := x1) 143 rfl rfl (And.intro (Nat.zero_le 0) hG0).2 hT0 (by omega) (by omega) (by omega) hx1 ?_
          refine wq_s 144 rfl ?_
          refine wq_s 145 rfl ?_
          refine wq_s 146 rfl ?_
          refine we_add (((4 * j) + 2 : Nat) : Int) 147 rfl rfl (by omega) (by omega) ?_
          refine wq_iald (v := x2) 148 rfl rfl (And.intro (Nat.zero_le 0) hG0).2 hT0 (by omega) (by omega) (by omega) hx2 ?_
          refine wq_vt2 151 rfl rfl (Nat.le_of_ble_eq_true rfl) (hC.lt (by omega)) (hC.ty 0 _ rfl) rfl (Nat.le_of_ble_eq_true rfl) (c_X8_row hC s hO h1 h2) (fun z M3 hz => ?_)
          rcases hz with ⟨rfl, q1, qS, qF⟩ | ⟨rfl, q1, hM3⟩
          · dsimp only [Option.toList, List.cons_append, List.nil_append]
            refine wq_s 152 rfl ?_
            refine wq_s 153 rfl ?_
            refine wq_s 154 rfl ?_
            refine wq_s 155 rfl ?_
            refine we_add (((4 * j) + 1 : Nat) : Int) 156 rfl rfl (by omega) (by omega) ?_
            refine wq_iald (v := x1) 157 rfl rfl (And.intro (Nat.zero_le 0) hG0).2 hT0 (by omega) (by omega) (by omega) (by rw [qF 0 (by decide)]; exact hx1) ?_
            refine wq_s 158 rfl ?_
            refine wq_s 159 rfl ?_
            refine wq_s 160 rfl ?_
            refine we_add (((4 * j) + 2 : Nat) : Int) 161 rfl rfl (by omega) (by omega) ?_
            refine wq_iald (v := x2) 162 rfl rfl (And.intro (Nat.zero_le 0) hG0).2 hT0 (by omega) (by omega) (by omega) (by rw [qF 0 (by decide)]; exact hx2) ?_
            refine wq_vt2 165 rfl rfl (Nat.le_of_ble_eq_true rfl) hG.ob hG.2.2.1 rfl (Nat.le_of_ble_eq_true rfl) (c_X9_row hG (r.frK qF) hO h1 h2) (fun z M4 hz => ?_)
            rcases hz with ⟨rfl, p1, pS, pF⟩ | ⟨rfl, p1, hM4⟩
            · dsimp only [Option.toList, List.cons_append, List.nil_append]
              refine wq_eqq 516 rfl rfl ?_
              refine we_inc 3 4 ((4 * (j + 1) : Nat) : Int) 519 _ rfl rfl rfl (by omega) (by omega) rfl ?_
              refine wq_s 18 rfl ?_
              exact ih_j (j + 1) M4 (by omega) (by omega) (Lw.new (qS.frO pF) pS j2) (by rw [pF 0 (by decide), qF 0 (by decide)]; exact a2)
            · exact absurd q1 p1
          · subst M3
            dsimp only [Option.toList, List.cons_append, List.nil_append]
            refine wq_s 152 rfl ?_
            refine wq_s 153 rfl ?_
            refine wq_s 154 rfl ?_
            refine wq_s 155 rfl ?_
            refine we_add (((4 * j) + 1 : Nat) : Int) 156 rfl rfl (by omega) (by omega) ?_
            refine wq_iald (v := x1) 157 rfl rfl (And.intro (Nat.zero_le 0) hG0).2 hT0 (by omega) (by omega) (by omega) hx1 ?_
            refine wq_s 158 rfl ?_
            refine wq_s 159 rfl ?_
            refine wq_s 160 rfl ?_
            refine we_add (((4 * j) + 2 : Nat) : Int) 161 rfl rfl (by omega) (by omega) ?_
            refine wq_iald (v := x2) 162 rfl rfl (And.intro (Nat.zero_le 0) hG0).2 hT0 (by omega) (by omega) (by omega) hx2 ?_
            refine wq_vt2 165 rfl rfl (Nat.le_of_ble_eq_true rfl) hG.ob hG.2.2.1 rfl (Nat.le_of_ble_eq_true rfl) (c_X9_row hG r hO h1 h2) (fun z M4 hz => ?_)
            rcases hz with ⟨rfl, p1, pS, pF⟩ | ⟨rfl, p1, hM4⟩
            · exact absurd p1 q1
            · subst M4
              dsimp only [Option.toList, List.cons_append, List.nil_append]
              refine wq_eqq 516 rfl rfl ?_
              refine we_inc 3 4 ((4 * (j + 1) : Nat) : Int) 519 _ rfl rfl rfl (by omega) (by omega) rfl ?_
              refine wq_s 18 rfl ?_
              exact ih_j (j + 1) M2 (by omega) (by omega) ⟨_, _, _, _, _, _, _, _, s, r, hO, hI, hE, j1, j2⟩ a2
        · have m_1 := n_1
          by_cases n_2 : n = 2
          · subst n_2
            refine wq_tsw 170 138 rfl (by decide) rfl rfl ?_
            refine wq_s 171 rfl ?_
            refine wq_s 172 rfl ?_
            refine wq_s 173 rfl ?_
            refine wq_s 174 rfl ?_
            refine we_add (((4 * j) + 1 : Nat) : Int) 175 rfl rfl (by omega) (by omega) ?_
            refine wq_iald (v := x1) 176 rfl rfl (And.intro (Nat.zero_le 0) hG0).2 hT0 (by omega) (by omega) (by omega) hx1 ?_
            refine wq_vt1 179 rfl rfl (Nat.le_of_ble_eq_true rfl) (hC.lt (by omega)) (hC.ty 0 _ rfl) rfl (Nat.le_of_ble_eq_true rfl) (c_X8_grade hC s hO hE (by omega) h1) (fun z M3 hz => ?_)
            rcases hz with ⟨rfl, q1, ⟨t', qS, qt⟩, ⟨qO, qE⟩, qF⟩ | ⟨rfl, q1, hM3⟩
            · dsimp only [Option.toList, List.cons_append, List.nil_append]
              refine wq_s 180 rfl ?_
              refine wq_s 181 rfl ?_
              refine wq_s 182 rfl ?_
              refine wq_s 183 rfl ?_
              refine we_add (((4 * j) + 1 : Nat) : Int) 184 rfl rfl (by omega) (by omega) ?_
              refine wq_iald (v := x1) 185 rfl rfl (And.intro (Nat.zero_le 0) hG0).2 hT0 (by omega) (by omega) (by omega) (by rw [qF 0 (by decide)]; exact hx1) ?_
              refine wq_vt1 188 rfl rfl (Nat.le_of_ble_eq_true rfl) hG.ob hG.2.2.1 rfl (Nat.le_of_ble_eq_true rfl) (c_X9_grade hG (r.frK qF) hO h1) (fun z M4 hz => ?_)
              rcases hz with ⟨rfl, p1, pS, pF⟩ | ⟨rfl, p1, hM4⟩
              · dsimp only [Option.toList, List.cons_append, List.nil_append]
                refine wq_eqq 516 rfl rfl ?_
                refine we_inc 3 4 ((4 * (j + 1) : Nat) : Int) 519 _ rfl rfl rfl (by omega) (by omega) rfl ?_
                refine wq_s 18 rfl ?_
                have j3 : t' ≤ 21870 * (j + 1) := by omega
                exact ih_j (j + 1) M4 (by omega) (by omega) ⟨_, _, _, _, _, _, _, _, qS.frO pF, pS, qO, hI, qE, j1, j3⟩ (by rw [pF 0 (by decide), qF 0 (by decide)]; exact a2)
              · exact absurd q1 p1
            · subst M3
              dsimp only [Option.toList, List.cons_append, List.nil_append]
              refine wq_s 180 rfl ?_
              refine wq_s 181 rfl ?_
              refine wq_s 182 rfl ?_
              refine wq_s 183 rfl ?_
              refine we_add (((4 * j) + 1 : Nat) : Int) 184 rfl rfl (by omega) (by omega) ?_
              refine wq_iald (v := x1) 185 rfl rfl (And.intro (Nat.zero_le 0) hG0).2 hT0 (by omega) (by omega) (by omega) hx1 ?_
              refine wq_vt1 188 rfl rfl (Nat.le_of_ble_eq_true rfl) hG.ob hG.2.2.1 rfl (Nat.le_of_ble_eq_true rfl) (c_X9_grade hG r hO h1) (fun z M4 hz => ?_)
              rcases hz with ⟨rfl, p1, pS, pF⟩ | ⟨rfl, p1, hM4⟩
              · exact absurd p1 q1
              · subst M4
                dsimp only [Option.toList, List.cons_append, List.nil_append]
                refine wq_eqq 516 rfl rfl ?_
                refine we_inc 3 4 ((4 * (j + 1) : Nat) : Int) 519 _ rfl rfl rfl (by omega) (by omega) rfl ?_
                refine wq_s 18 rfl ?_
                exact ih_j (j + 1) M2 (by omega) (by omega) ⟨_, _, _, _, _, _, _, _, s, r, hO, hI, hE, j1, j2⟩ a2
          · have m_2 := n_2
            by_cases n_3 : n = 3
            · subst n_3
              refine wq_tsw 193 161 rfl (by decide) rfl rfl ?_
              refine wq_s 194 rfl ?_
              refine wq_s 195 rfl ?_
              refine wq_s 196 rfl ?_
              refine wq_s 197 rfl ?_
              refine we_add (((4 * j) + 1 : Nat) : Int) 198 rfl rfl (by omega) (by omega) ?_
              refine wq_iald (v := x1) 199 rfl rfl (And.intro (Nat.zero_le 0) hG0).2 hT0 (by omega) (by omega) (by omega) hx1 ?_
              refine wq_s 200 rfl ?_
              refine wq_s 201 rfl ?_
              refine wq_s 202 rfl ?_
              refine we_add (((4 * j) + 2 : Nat) : Int) 203 rfl rfl (by omega) (by omega) ?_
              refine wq_iald (v := x2) 204 rfl rfl (And.intro (Nat.zero_le 0) hG0).2 hT0 (by omega) (by omega) (by omega) hx2 ?_
              refine wq_vt2 207 rfl rfl (Nat.le_of_ble_eq_true rfl) (hC.lt (by omega)) (hC.ty 0 _ rfl) rfl (Nat.le_of_ble_eq_true rfl) (c_X8_candidates hC s hO h1 h2) (fun z M3 hz => ?_)
              obtain ⟨rfl, hM3⟩ := hz
              subst M3
              dsimp only [Option.toList, List.cons_append, List.nil_append]
              refine wq_s 208 rfl ?_
              refine wq_s 209 rfl ?_
              refine wq_s 210 rfl ?_
              refine wq_s 211 rfl ?_
              refine we_add (((4 * j) + 1 : Nat) : Int) 212 rfl rfl (by omega) (by omega) ?_
              refine wq_iald (v := x1) 213 rfl rfl (And.intro (Nat.zero_le 0) hG0).2 hT0 (by omega) (by omega) (by omega) hx1 ?_
              refine wq_s 214 rfl ?_
              refine wq_s 215 rfl ?_
              refine wq_s 216 rfl ?_
              refine we_add (((4 * j) + 2 : Nat) : Int) 217 rfl rfl (by omega) (by omega) ?_
              refine wq_iald (v := x2) 218 rfl rfl (And.intro (Nat.zero_le 0) hG0).2 hT0 (by omega) (by omega) (by omega) hx2 ?_
              refine wq_vt2 221 rfl rfl (Nat.le_of_ble_eq_true rfl) hG.ob hG.2.2.1 rfl (Nat.le_of_ble_eq_true rfl) (c_X9_candidates hG r hO h1 h2) (fun z M3 hz => ?_)
              obtain ⟨rfl, hM3⟩ := hz
              subst M3
              dsimp only [Option.toList, List.cons_append, List.nil_append]
              refine wq_eqq 516 rfl rfl ?_
              refine we_inc 3 4 ((4 * (j + 1) : Nat) : Int) 519 _ rfl rfl rfl (by omega) (by omega) rfl ?_
              refine wq_s 18 rfl ?_
              exact ih_j (j + 1) M2 (by omega) (by omega) ⟨_, _, _, _, _, _, _, _, s, r, hO, hI, hE, j1, j2⟩ a2
            · have m_3 := n_3
              by_cases n_4 : n = 4
              · subst n_4
                refine wq_tsw 226 194 rfl (by decide) rfl rfl ?_
                refine wq_s 227 rfl ?_
                refine wq_s 228 rfl ?_
                refine wq_s 229 rfl ?_
                refine wq_s 230 rfl ?_
                refine we_add (((4 * j) + 1 : Nat) : Int) 231 rfl rfl (by omega) (by omega) ?_
                refine wq_iald (v := x1) 232 rfl rfl (And.intro (Nat.zero_le 0) hG0).2 hT0 (by omega) (by omega) (by omega) hx1 ?_
                refine wq_vt1 235 rfl rfl (Nat.le_of_ble_eq_true rfl) (hC.lt (by omega)) (hC.ty 0 _ rfl) rfl (Nat.le_of_ble_eq_true rfl) (c_X8_told hC s hO h1) (fun z M3 hz => ?_)
                obtain ⟨rfl, hM3⟩ := hz
                subst M3
                dsimp only [Option.toList, List.cons_append, List.nil_append]
                refine wq_s 236 rfl ?_
                refine wq_s 237 rfl ?_
                refine wq_s 238 rfl ?_
                refine wq_s 239 rfl ?_
                refine we_add (((4 * j) + 1 : Nat) : Int) 240 rfl rfl (by omega) (by omega) ?_
                refine wq_iald (v := x1) 241 rfl rfl (And.intro (Nat.zero_le 0) hG0).2 hT0 (by omega) (by omega) (by omega) hx1 ?_
                refine wq_vt1 244 rfl rfl (Nat.le_of_ble_eq_true rfl) hG.ob hG.2.2.1 rfl (Nat.le_of_ble_eq_true rfl) (c_X9_told hG r hO h1) (fun z M3 hz => ?_)
                obtain ⟨rfl, hM3⟩ := hz
                subst M3
                dsimp only [Option.toList, List.cons_append, List.nil_append]
                refine wq_eqq 516 rfl rfl ?_
                refine we_inc 3 4 ((4 * (j + 1) : Nat) : Int) 519 _ rfl rfl rfl (by omega) (by omega) rfl ?_
                refine wq_s 18 rfl ?_
                exact ih_j (j + 1) M2 (by omega) (by omega) ⟨_, _, _, _, _, _, _, _, s, r, hO, hI, hE, j1, j2⟩ a2
              · have m_4 := n_4
                by_cases n_5 : n = 5
                · subst n_5
                  refine wq_tsw 249 217 rfl (by decide) rfl rfl ?_
                  refine wq_s 250 rfl ?_
                  refine wq_s 251 rfl ?_
                  refine wq_s 252 rfl ?_
                  refine wq_s 253 rfl ?_
                  refine we_add (((4 * j) + 1 : Nat) : Int) 254 rfl rfl (by omega) (by omega) ?_
                  refine wq_iald (v := x1) 255 rfl rfl (And.intro (Nat.zero_le 0) hG0).2 hT0 (by omega) (by omega) (by omega) hx1 ?_
                  refine wq_s 256 rfl ?_
                  refine wq_s 257 rfl ?_
                  refine wq_s 258 rfl ?_
                  refine we_add (((4 * j) + 2 : Nat) : Int) 259 rfl rfl (by omega) (by omega) ?_
                  refine wq_iald (v := x2) 260 rfl rfl (And.intro (Nat.zero_le 0) hG0).2 hT0 (by omega) (by omega) (by omega) hx2 ?_
                  refine wq_vt2 263 rfl rfl (Nat.le_of_ble_eq_true rfl) (hC.lt (by omega)) (hC.ty 0 _ rfl) rfl (Nat.le_of_ble_eq_true rfl) (c_X8_step hC s hO h1 h2) (fun z M3 hz => ?_)
                  obtain ⟨rfl, hM3⟩ := hz
                  subst M3
                  dsimp only [Option.toList, List.cons_append, List.nil_append]
                  refine wq_s 264 rfl ?_
                  refine wq_s 265 rfl ?_
                  refine wq_s 266 rfl ?_
                  refine wq_s 267 rfl ?_
                  refine we_add (((4 * j) + 1 : Nat) : Int) 268 rfl rfl (by omega) (by omega) ?_
                  refine wq_iald (v := x1) 269 rfl rfl (And.intro (Nat.zero_le 0) hG0).2 hT0 (by omega) (by omega) (by omega) hx1 ?_
                  refine wq_s 270 rfl ?_
                  refine wq_s 271 rfl ?_
                  refine wq_s 272 rfl ?_
                  refine we_add (((4 * j) + 2 : Nat) : Int) 273 rfl rfl (by omega) (by omega) ?_
                  refine wq_iald (v := x2) 274 rfl rfl (And.intro (Nat.zero_le 0) hG0).2 hT0 (by omega) (by omega) (by omega) hx2 ?_
                  refine wq_vt2 277 rfl rfl (Nat.le_of_ble_eq_true rfl) hG.ob hG.2.2.1 rfl (Nat.le_of_ble_eq_true rfl) (c_X9_step hG r hO h1 h2) (fun z M3 hz => ?_)
                  obtain ⟨rfl, hM3⟩ := hz
                  subst M3
                  dsimp only [Option.toList, List.cons_append, List.nil_append]
                  refine wq_eqq 516 rfl rfl ?_
                  refine we_inc 3 4 ((4 * (j + 1) : Nat) : Int) 519 _ rfl rfl rfl (by omega) (by omega) rfl ?_
                  refine wq_s 18 rfl ?_
                  exact ih_j (j + 1) M2 (by omega) (by omega) ⟨_, _, _, _, _, _, _, _, s, r, hO, hI, hE, j1, j2⟩ a2
                · have m_5 := n_5
                  by_cases n_6 : n = 6
                  · subst n_6
                    refine wq_tsw 282 250 rfl (by decide) rfl rfl ?_
                    refine wq_s 283 rfl ?_
                    refine wq_s 284 rfl ?_
                    refine wq_s 285 rfl ?_
                    refine wq_s 286 rfl ?_
                    refine we_add (((4 * j) + 1 : Nat) : Int) 287 rfl rfl (by omega) (by omega) ?_
                    refine wq_iald (v := x1) 288 rfl rfl (And.intro (Nat.zero_le 0) hG0).2 hT0 (by omega) (by omega) (by omega) hx1 ?_
                    refine wq_s 289 rfl ?_
                    refine wq_s 290 rfl ?_
                    refine wq_s 291 rfl ?_
                    refine we_add (((4 * j) + 2 : Nat) : Int) 292 rfl rfl (by omega) (by omega) ?_
                    refine wq_iald (v := x2) 293 rfl rfl (And.intro (Nat.zero_le 0) hG0).2 hT0 (by omega) (by omega) (by omega) hx2 ?_
                    refine wq_vt2 296 rfl rfl (Nat.le_of_ble_eq_true rfl) (hC.lt (by omega)) (hC.ty 0 _ rfl) rfl (Nat.le_of_ble_eq_true rfl) (c_X8_gone hC s hO h1 h2) (fun z M3 hz => ?_)
                    obtain ⟨rfl, hM3⟩ := hz
                    subst M3
                    dsimp only [Option.toList, List.cons_append, List.nil_append]
                    refine wq_s 297 rfl ?_
                    refine wq_s 298 rfl ?_
                    refine wq_s 299 rfl ?_
                    refine wq_s 300 rfl ?_
                    refine we_add (((4 * j) + 1 : Nat) : Int) 301 rfl rfl (by omega) (by omega) ?_
                    refine wq_iald (v := x1) 302 rfl rfl (And.intro (Nat.zero_le 0) hG0).2 hT0 (by omega) (by omega) (by omega) hx1 ?_
                    refine wq_s 303 rfl ?_
                    refine wq_s 304 rfl ?_
                    refine wq_s 305 rfl ?_
                    refine we_add (((4 * j) + 2 : Nat) : Int) 306 rfl rfl (by omega) (by omega) ?_
                    refine wq_iald (v := x2) 307 rfl rfl (And.intro (Nat.zero_le 0) hG0).2 hT0 (by omega) (by omega) (by omega) hx2 ?_
                    refine wq_vt2 310 rfl rfl (Nat.le_of_ble_eq_true rfl) hG.ob hG.2.2.1 rfl (Nat.le_of_ble_eq_true rfl) (c_X9_gone hG r hO h1 h2) (fun z M3 hz => ?_)
                    obtain ⟨rfl, hM3⟩ := hz
                    subst M3
                    dsimp only [Option.toList, List.cons_append, List.nil_append]
                    refine wq_eqq 516 rfl rfl ?_
                    refine we_inc 3 4 ((4 * (j + 1) : Nat) : Int) 519 _ rfl rfl rfl (by omega) (by omega) rfl ?_
                    refine wq_s 18 rfl ?_
                    exact ih_j (j + 1) M2 (by omega) (by omega) ⟨_, _, _, _, _, _, _, _, s, r, hO, hI, hE, j1, j2⟩ a2
                  · have m_6 := n_6
                    by_cases n_7 : n = 7
                    · subst n_7
                      refine wq_tsw 315 283 rfl (by decide) rfl rfl ?_
                      refine wq_s 316 rfl ?_
                      refine wq_s 317 rfl ?_
                      refine wq_s 318 rfl ?_
                      refine wq_s 319 rfl ?_
                      refine we_add (((4 * j) + 1 : Nat) : Int) 320 rfl rfl (by omega) (by omega) ?_
                      refine wq_iald (v := x1) 321 rfl rfl (And.intro (Nat.zero_le 0) hG0).2 hT0 (by omega) (by omega) (by omega) hx1 ?_
                      refine wq_s 322 rfl ?_
                      refine wq_s 323 rfl ?_
                      refine wq_s 324 rfl ?_
                      refine we_add (((4 * j) + 2 : Nat) : Int) 325 rfl rfl (by omega) (by omega) ?_
                      refine wq_iald (v := x2) 326 rfl rfl (And.intro (Nat.zero_le 0) hG0).2 hT0 (by omega) (by omega) (by omega) hx2 ?_
                      refine wq_vt2 329 rfl rfl (Nat.le_of_ble_eq_true rfl) (hC.lt (by omega)) (hC.ty 0 _ rfl) rfl (Nat.le_of_ble_eq_true rfl) (c_X8_link hC s hO h1 h2) (fun z M3 hz => ?_)
                      obtain ⟨rfl, hM3⟩ := hz
                      subst M3
                      dsimp only [Option.toList, List.cons_append, List.nil_append]
                      refine wq_s 330 rfl ?_
                      refine wq_s 331 rfl ?_
                      refine wq_s 332 rfl ?_
                      refine wq_s 333 rfl ?_
                      refine we_add (((4 * j) + 1 : Nat) : Int) 334 rfl rfl (by omega) (by omega) ?_
                      refine wq_iald (v := x1) 335 rfl rfl (And.intro (Nat.zero_le 0) hG0).2 hT0 (by omega) (by omega) (by omega) hx1 ?_
                      refine wq_s 336 rfl ?_
                      refine wq_s 337 rfl ?_
                      refine wq_s 338 rfl ?_
                      refine we_add (((4 * j) + 2 : Nat) : Int) 339 rfl rfl (by omega) (by omega) ?_
                      refine wq_iald (v := x2) 340 rfl rfl (And.intro (Nat.zero_le 0) hG0).2 hT0 (by omega) (by omega) (by omega) hx2 ?_
                      refine wq_vt2 343 rfl rfl (Nat.le_of_ble_eq_true rfl) hG.ob hG.2.2.1 rfl (Nat.le_of_ble_eq_true rfl) (c_X9_link_ hG r hO h1 h2) (fun z M3 hz => ?_)
                      obtain ⟨rfl, hM3⟩ := hz
                      subst M3
                      dsimp only [Option.toList, List.cons_append, List.nil_append]
                      refine wq_eqq 516 rfl rfl ?_
                      refine we_inc 3 4 ((4 * (j + 1) : Nat) : Int) 519 _ rfl rfl rfl (by omega) (by omega) rfl ?_
                      refine wq_s 18 rfl ?_
                      exact ih_j (j + 1) M2 (by omega) (by omega) ⟨_, _, _, _, _, _, _, _, s, r, hO, hI, hE, j1, j2⟩ a2
                    · have m_7 := n_7
                      by_cases n_8 : n = 8
                      · subst n_8
                        refine wq_tsw 348 316 rfl (by decide) rfl rfl ?_
                        refine wq_s 349 rfl ?_
                        refine wq_s 350 rfl ?_
                        refine wq_s 351 rfl ?_
                        refine wq_s 352 rfl ?_
                        refine we_add (((4 * j) + 1 : Nat) : Int) 353 rfl rfl (by omega) (by omega) ?_
                        refine wq_iald (v := x1) 354 rfl rfl (And.intro (Nat.zero_le 0) hG0).2 hT0 (by omega) (by omega) (by omega) hx1 ?_
                        refine wq_vt1 357 rfl rfl (Nat.le_of_ble_eq_true rfl) (hC.lt (by omega)) (hC.ty 0 _ rfl) rfl (Nat.le_of_ble_eq_true rfl) (c_X8_node hC s hO h1) (fun z M3 hz => ?_)
                        rcases hz with ⟨rfl, q1, qS, qF⟩ | ⟨rfl, q1, hM3⟩
                        · dsimp only [Option.toList, List.cons_append, List.nil_append]
                          refine wq_s 358 rfl ?_
                          refine wq_s 359 rfl ?_
                          refine wq_s 360 rfl ?_
                          refine wq_s 361 rfl ?_
                          refine we_add (((4 * j) + 1 : Nat) : Int) 362 rfl rfl (by omega) (by omega) ?_
                          refine wq_iald (v := x1) 363 rfl rfl (And.intro (Nat.zero_le 0) hG0).2 hT0 (by omega) (by omega) (by omega) (by rw [qF 0 (by decide)]; exact hx1) ?_
                          refine wq_vt1 366 rfl rfl (Nat.le_of_ble_eq_true rfl) hG.ob hG.2.2.1 rfl (Nat.le_of_ble_eq_true rfl) (c_X9_node hG (r.frK qF) hO h1) (fun z M4 hz => ?_)
                          rcases hz with ⟨rfl, p1, pS, pF⟩ | ⟨rfl, p1, hM4⟩
                          · dsimp only [Option.toList, List.cons_append, List.nil_append]
                            refine wq_eqq 516 rfl rfl ?_
                            refine we_inc 3 4 ((4 * (j + 1) : Nat) : Int) 519 _ rfl rfl rfl (by omega) (by omega) rfl ?_
                            refine wq_s 18 rfl ?_
                            exact ih_j (j + 1) M4 (by omega) (by omega) ⟨_, _, _, _, _, _, _, _, qS.frO pF, pS, hO, hI, hE, j1, j2⟩ (by rw [pF 0 (by decide), qF 0 (by decide)]; exact a2)
                          · exact absurd q1 p1
                        · subst M3
                          dsimp only [Option.toList, List.cons_append, List.nil_append]
                          refine wq_s 358 rfl ?_
                          refine wq_s 359 rfl ?_
                          refine wq_s 360 rfl ?_
                          refine wq_s 361 rfl ?_
                          refine we_add (((4 * j) + 1 : Nat) : Int) 362 rfl rfl (by omega) (by omega) ?_
                          refine wq_iald (v := x1) 363 rfl rfl (And.intro (Nat.zero_le 0) hG0).2 hT0 (by omega) (by omega) (by omega) hx1 ?_
                          refine wq_vt1 366 rfl rfl (Nat.le_of_ble_eq_true rfl) hG.ob hG.2.2.1 rfl (Nat.le_of_ble_eq_true rfl) (c_X9_node hG r hO h1) (fun z M4 hz => ?_)
                          rcases hz with ⟨rfl, p1, pS, pF⟩ | ⟨rfl, p1, hM4⟩
                          · exact absurd p1 q1
                          · subst M4
                            dsimp only [Option.toList, List.cons_append, List.nil_append]
                            refine wq_eqq 516 rfl rfl ?_
                            refine we_inc 3 4 ((4 * (j + 1) : Nat) : Int) 519 _ rfl rfl rfl (by omega) (by omega) rfl ?_
                            refine wq_s 18 rfl ?_
                            exact ih_j (j + 1) M2 (by omega) (by omega) ⟨_, _, _, _, _, _, _, _, s, r, hO, hI, hE, j1, j2⟩ a2
                      · have m_8 := n_8
                        by_cases n_9 : n = 9
                        · subst n_9
                          refine wq_tsw 371 339 rfl (by decide) rfl rfl ?_
                          refine wq_s 372 rfl ?_
                          refine wq_s 373 rfl ?_
                          refine wq_s 374 rfl ?_
                          refine wq_s 375 rfl ?_
                          refine we_add (((4 * j) + 1 : Nat) : Int) 376 rfl rfl (by omega) (by omega) ?_
                          refine wq_iald (v := x1) 377 rfl rfl (And.intro (Nat.zero_le 0) hG0).2 hT0 (by omega) (by omega) (by omega) hx1 ?_
                          refine wq_s 378 rfl ?_
                          refine wq_s 379 rfl ?_
                          refine wq_s 380 rfl ?_
                          refine we_add (((4 * j) + 2 : Nat) : Int) 381 rfl rfl (by omega) (by omega) ?_
                          refine wq_iald (v := x2) 382 rfl rfl (And.intro (Nat.zero_le 0) hG0).2 hT0 (by omega) (by omega) (by omega) hx2 ?_
                          refine wq_s 383 rfl ?_
                          refine wq_s 384 rfl ?_
                          refine wq_s 385 rfl ?_
                          refine we_add (((4 * j) + 3 : Nat) : Int) 386 rfl rfl (by omega) (by omega) ?_
                          refine wq_iald (v := x3) 387 rfl rfl (And.intro (Nat.zero_le 0) hG0).2 hT0 (by omega) (by omega) (by omega) hx3 ?_
                          refine wq_vt3 390 rfl rfl (Nat.le_of_ble_eq_true rfl) (hC.lt (by omega)) (hC.ty 0 _ rfl) rfl (Nat.le_of_ble_eq_true rfl) (c_X8_claim hC s hO h1 h2 h3) (fun z M3 hz => ?_)
                          obtain ⟨hz, qF⟩ := hz
                          rcases hz with ⟨rfl, q1, qS⟩ | ⟨rfl, q1, qS⟩
                          · dsimp only [Option.toList, List.cons_append, List.nil_append]
                            refine wq_s 391 rfl ?_
                            refine wq_s 392 rfl ?_
                            refine wq_s 393 rfl ?_
                            refine wq_s 394 rfl ?_
                            refine we_add (((4 * j) + 1 : Nat) : Int) 395 rfl rfl (by omega) (by omega) ?_
                            refine wq_iald (v := x1) 396 rfl rfl (And.intro (Nat.zero_le 0) hG0).2 hT0 (by omega) (by omega) (by omega) (by rw [qF 0 (by decide)]; exact hx1) ?_
                            refine wq_s 397 rfl ?_
                            refine wq_s 398 rfl ?_
                            refine wq_s 399 rfl ?_
                            refine we_add (((4 * j) + 2 : Nat) : Int) 400 rfl rfl (by omega) (by omega) ?_
                            refine wq_iald (v := x2) 401 rfl rfl (And.intro (Nat.zero_le 0) hG0).2 hT0 (by omega) (by omega) (by omega) (by rw [qF 0 (by decide)]; exact hx2) ?_
                            refine wq_s 402 rfl ?_
                            refine wq_s 403 rfl ?_
                            refine wq_s 404 rfl ?_
                            refine we_add (((4 * j) + 3 : Nat) : Int) 405 rfl rfl (by omega) (by omega) ?_
                            refine wq_iald (v := x3) 406 rfl rfl (And.intro (Nat.zero_le 0) hG0).2 hT0 (by omega) (by omega) (by omega) (by rw [qF 0 (by decide)]; exact hx3) ?_
                            refine wq_vt3 409 rfl rfl (Nat.le_of_ble_eq_true rfl) hG.ob hG.2.2.1 rfl (Nat.le_of_ble_eq_true rfl) (c_X9_claim hG (r.frK qF) hO h1 h2 h3) (fun z M4 hz => ?_)
                            obtain ⟨hz, pF⟩ := hz
                            rcases hz with ⟨rfl, p1, pS⟩ | ⟨rfl, p1, pS⟩
                            · dsimp only [Option.toList, List.cons_append, List.nil_append]
                              refine wq_eqq 516 rfl rfl ?_
                              refine we_inc 3 4 ((4 * (j + 1) : Nat) : Int) 519 _ rfl rfl rfl (by omega) (by omega) rfl ?_
                              refine wq_s 18 rfl ?_
                              exact ih_j (j + 1) M4 (by omega) (by omega) ⟨_, _, _, _, _, _, _, _, qS.frO pF, pS, hO.chk (fun c hc => andN_lt (k := 9) (hO.2.2.2.1 c hc)), hI, hE, j1, j2⟩ (by rw [pF 0 (by decide), qF 0 (by decide)]; exact a2)
                            · exact absurd q1 (by omega)
                          · dsimp only [Option.toList, List.cons_append, List.nil_append]
                            refine wq_s 391 rfl ?_
                            refine wq_s 392 rfl ?_
                            refine wq_s 393 rfl ?_
                            refine wq_s 394 rfl ?_
                            refine we_add (((4 * j) + 1 : Nat) : Int) 395 rfl rfl (by omega) (by omega) ?_
                            refine wq_iald (v := x1) 396 rfl rfl (And.intro (Nat.zero_le 0) hG0).2 hT0 (by omega) (by omega) (by omega) (by rw [qF 0 (by decide)]; exact hx1) ?_
                            refine wq_s 397 rfl ?_
                            refine wq_s 398 rfl ?_
                            refine wq_s 399 rfl ?_
                            refine we_add (((4 * j) + 2 : Nat) : Int) 400 rfl rfl (by omega) (by omega) ?_
                            refine wq_iald (v := x2) 401 rfl rfl (And.intro (Nat.zero_le 0) hG0).2 hT0 (by omega) (by omega) (by omega) (by rw [qF 0 (by decide)]; exact hx2) ?_
                            refine wq_s 402 rfl ?_
                            refine wq_s 403 rfl ?_
                            refine wq_s 404 rfl ?_
                            refine we_add (((4 * j) + 3 : Nat) : Int) 405 rfl rfl (by omega) (by omega) ?_
                            refine wq_iald (v := x3) 406 rfl rfl (And.intro (Nat.zero_le 0) hG0).2 hT0 (by omega) (by omega) (by omega) (by rw [qF 0 (by decide)]; exact hx3) ?_
                            refine wq_vt3 409 rfl rfl (Nat.le_of_ble_eq_true rfl) hG.ob hG.2.2.1 rfl (Nat.le_of_ble_eq_true rfl) (c_X9_claim hG (r.frK qF) hO h1 h2 h3) (fun z M4 hz => ?_)
                            obtain ⟨hz, pF⟩ := hz
                            rcases hz with ⟨rfl, p1, pS⟩ | ⟨rfl, p1, pS⟩
                            · exact absurd q1 (by omega)
                            · dsimp only [Option.toList, List.cons_append, List.nil_append]
                              refine wq_eqq 516 rfl rfl ?_
                              refine we_inc 3 4 ((4 * (j + 1) : Nat) : Int) 519 _ rfl rfl rfl (by omega) (by omega) rfl ?_
                              refine wq_s 18 rfl ?_
                              exact ih_j (j + 1) M4 (by omega) (by omega) ⟨_, _, _, _, _, _, _, _, qS.frO pF, pS, hO, hI, hE, j1, j2⟩ (by rw [pF 0 (by decide), qF 0 (by decide)]; exact a2)
                        · have m_9 := n_9
                          by_cases n_10 : n = 10
                          · subst n_10
                            refine wq_tsw 414 382 rfl (by decide) rfl rfl ?_
                            refine wq_s 415 rfl ?_
                            refine wq_s 416 rfl ?_
                            refine wq_s 417 rfl ?_
                            refine wq_s 418 rfl ?_
                            refine we_add (((4 * j) + 1 : Nat) : Int) 419 rfl rfl (by omega) (by omega) ?_
                            refine wq_iald (v := x1) 420 rfl rfl (And.intro (Nat.zero_le 0) hG0).2 hT0 (by omega) (by omega) (by omega) hx1 ?_
                            refine wq_vt1 423 rfl rfl (Nat.le_of_ble_eq_true rfl) (hC.lt (by omega)) (hC.ty 0 _ rfl) rfl (Nat.le_of_ble_eq_true rfl) (c_X8_replay hC s hO h1) (fun z M3 hz => ?_)
                            rcases hz with ⟨rfl, q1, qS, qF⟩ | ⟨rfl, q1, hM3⟩
                            · dsimp only [Option.toList, List.cons_append, List.nil_append]
                              refine wq_s 424 rfl ?_
                              refine wq_s 425 rfl ?_
                              refine wq_s 426 rfl ?_
                              refine wq_s 427 rfl ?_
                              refine we_add (((4 * j) + 1 : Nat) : Int) 428 rfl rfl (by omega) (by omega) ?_
                              refine wq_iald (v := x1) 429 rfl rfl (And.intro (Nat.zero_le 0) hG0).2 hT0 (by omega) (by omega) (by omega) (by rw [qF 0 (by decide)]; exact hx1) ?_
                              refine wq_vt1 432 rfl rfl (Nat.le_of_ble_eq_true rfl) hG.ob hG.2.2.1 rfl (Nat.le_of_ble_eq_true rfl) (c_X9_replay hG (r.frK qF) hO h1) (fun z M4 hz => ?_)
                              rcases hz with ⟨rfl, p1, pS, pF⟩ | ⟨rfl, p1, hM4⟩
                              · dsimp only [Option.toList, List.cons_append, List.nil_append]
                                refine wq_eqq 516 rfl rfl ?_
                                refine we_inc 3 4 ((4 * (j + 1) : Nat) : Int) 519 _ rfl rfl rfl (by omega) (by omega) rfl ?_
                                refine wq_s 18 rfl ?_
                                exact ih_j (j + 1) M4 (by omega) (by omega) ⟨_, _, _, _, _, _, _, _, qS.frO pF, pS, hO.chk (rpl_lt _ _ hO.2.2.2.1), hI, hE, j1, j2⟩ (by rw [pF 0 (by decide), qF 0 (by decide)]; exact a2)
                              · exact absurd q1 p1
                            · subst M3
                              dsimp only [Option.toList, List.cons_append, List.nil_append]
                              refine wq_s 424 rfl ?_
                              refine wq_s 425 rfl ?_
                              refine wq_s 426 rfl ?_
                              refine wq_s 427 rfl ?_
                              refine we_add (((4 * j) + 1 : Nat) : Int) 428 rfl rfl (by omega) (by omega) ?_
                              refine wq_iald (v := x1) 429 rfl rfl (And.intro (Nat.zero_le 0) hG0).2 hT0 (by omega) (by omega) (by omega) hx1 ?_
                              refine wq_vt1 432 rfl rfl (Nat.le_of_ble_eq_true rfl) hG.ob hG.2.2.1 rfl (Nat.le_of_ble_eq_true rfl) (c_X9_replay hG r hO h1) (fun z M4 hz => ?_)
                              rcases hz with ⟨rfl, p1, pS, pF⟩ | ⟨rfl, p1, hM4⟩
                              · exact absurd p1 q1
                              · subst M4
                                dsimp only [Option.toList, List.cons_append, List.nil_append]
                                refine wq_eqq 516 rfl rfl ?_
                                refine we_inc 3 4 ((4 * (j + 1) : Nat) : Int) 519 _ rfl rfl rfl (by omega) (by omega) rfl ?_
                                refine wq_s 18 rfl ?_
                                exact ih_j (j + 1) M2 (by omega) (by omega) ⟨_, _, _, _, _, _, _, _, s, r, hO, hI, hE, j1, j2⟩ a2
                          · have m_10 := n_10
                            by_cases n_11 : n = 11
                            · subst n_11
                              refine wq_tsw 437 405 rfl (by decide) rfl rfl ?_
                              refine wq_s 438 rfl ?_
                              refine wq_s 439 rfl ?_
                              refine wq_s 440 rfl ?_
                              refine wq_s 441 rfl ?_
                              refine we_add (((4 * j) + 1 : Nat) : Int) 442 rfl rfl (by omega) (by omega) ?_
                              refine wq_iald (v := x1) 443 rfl rfl (And.intro (Nat.zero_le 0) hG0).2 hT0 (by omega) (by omega) (by omega) hx1 ?_
                              refine wq_vt1 446 rfl rfl (Nat.le_of_ble_eq_true rfl) (hC.lt (by omega)) (hC.ty 0 _ rfl) rfl (Nat.le_of_ble_eq_true rfl) (c_X8_search hC s hO hI (by omega) h1) (fun z M3 hz => ?_)
                              rcases hz with ⟨rfl, q1, qS, qF⟩ | ⟨rfl, q1, hM3⟩
                              · dsimp only [Option.toList, List.cons_append, List.nil_append]
                                refine wq_s 447 rfl ?_
                                refine wq_s 448 rfl ?_
                                refine wq_s 449 rfl ?_
                                refine wq_s 450 rfl ?_
                                refine we_add (((4 * j) + 1 : Nat) : Int) 451 rfl rfl (by omega) (by omega) ?_
                                refine wq_iald (v := x1) 452 rfl rfl (And.intro (Nat.zero_le 0) hG0).2 hT0 (by omega) (by omega) (by omega) (by rw [qF 0 (by decide)]; exact hx1) ?_
                                refine wq_vt1 455 rfl rfl (Nat.le_of_ble_eq_true rfl) hG.ob hG.2.2.1 rfl (Nat.le_of_ble_eq_true rfl) (c_X9_search hG (r.frK qF) hI h1 (by omega)) (fun z M4 hz => ?_)
                                rcases hz with ⟨rfl, p1, pS, pF⟩ | ⟨rfl, p1, hM4⟩
                                · dsimp only [Option.toList, List.cons_append, List.nil_append]
                                  refine wq_eqq 516 rfl rfl ?_
                                  refine we_inc 3 4 ((4 * (j + 1) : Nat) : Int) 519 _ rfl rfl rfl (by omega) (by omega) rfl ?_
                                  refine wq_s 18 rfl ?_
                                  have hso := srchF_ok (gv := gv) (n := x1.toNat) hI (by omega)
                                  have j3 : (srchF gv x1.toNat S).2.2.1 ≤ 300 * (j + 1) := by have := hso.2; omega
                                  exact ih_j (j + 1) M4 (by omega) (by omega) ⟨_, _, _, _, _, _, _, _, qS.frO pF, pS, ⟨hO.1, hO.2.1, hO.2.2.1, hO.2.2.2.1, hO.2.2.2.2.1, hso.1.1⟩, hso.1, hE, j3, j2⟩ (by rw [pF 0 (by decide), qF 0 (by decide)]; exact a2)
                                · exact absurd q1 p1
                              · subst M3
                                dsimp only [Option.toList, List.cons_append, List.nil_append]
                                refine wq_s 447 rfl ?_
                                refine wq_s 448 rfl ?_
                                refine wq_s 449 rfl ?_
                                refine wq_s 450 rfl ?_
                                refine we_add (((4 * j) + 1 : Nat) : Int) 451 rfl rfl (by omega) (by omega) ?_
                                refine wq_iald (v := x1) 452 rfl rfl (And.intro (Nat.zero_le 0) hG0).2 hT0 (by omega) (by omega) (by omega) hx1 ?_
                                refine wq_vt1 455 rfl rfl (Nat.le_of_ble_eq_true rfl) hG.ob hG.2.2.1 rfl (Nat.le_of_ble_eq_true rfl) (c_X9_search hG r hI h1 (by omega)) (fun z M4 hz => ?_)
                                rcases hz with ⟨rfl, p1, pS, pF⟩ | ⟨rfl, p1, hM4⟩
                                · exact absurd p1 q1
                                · subst M4
                                  dsimp only [Option.toList, List.cons_append, List.nil_append]
                                  refine wq_eqq 516 rfl rfl ?_
                                  refine we_inc 3 4 ((4 * (j + 1) : Nat) : Int) 519 _ rfl rfl rfl (by omega) (by omega) rfl ?_
                                  refine wq_s 18 rfl ?_
                                  exact ih_j (j + 1) M2 (by omega) (by omega) ⟨_, _, _, _, _, _, _, _, s, r, hO, hI, hE, j1, j2⟩ a2
                            · have m_11 := n_11
                              by_cases n_12 : n = 12
                              · subst n_12
                                refine wq_tsw 460 428 rfl (by decide) rfl rfl ?_
                                refine wq_s 461 rfl ?_
                                refine wq_s 462 rfl ?_
                                refine wq_s 463 rfl ?_
                                refine wq_s 464 rfl ?_
                                refine we_add (((4 * j) + 1 : Nat) : Int) 465 rfl rfl (by omega) (by omega) ?_
                                refine wq_iald (v := x1) 466 rfl rfl (And.intro (Nat.zero_le 0) hG0).2 hT0 (by omega) (by omega) (by omega) hx1 ?_
                                refine wq_vt1 469 rfl rfl (Nat.le_of_ble_eq_true rfl) (hC.lt (by omega)) (hC.ty 0 _ rfl) rfl (Nat.le_of_ble_eq_true rfl) (c_X8_searched hC s hO h1) (fun z M3 hz => ?_)
                                obtain ⟨rfl, hM3⟩ := hz
                                subst M3
                                dsimp only [Option.toList, List.cons_append, List.nil_append]
                                refine wq_s 470 rfl ?_
                                refine wq_s 471 rfl ?_
                                refine wq_s 472 rfl ?_
                                refine wq_s 473 rfl ?_
                                refine we_add (((4 * j) + 1 : Nat) : Int) 474 rfl rfl (by omega) (by omega) ?_
                                refine wq_iald (v := x1) 475 rfl rfl (And.intro (Nat.zero_le 0) hG0).2 hT0 (by omega) (by omega) (by omega) hx1 ?_
                                refine wq_vt1 478 rfl rfl (Nat.le_of_ble_eq_true rfl) hG.ob hG.2.2.1 rfl (Nat.le_of_ble_eq_true rfl) (c_X9_searched hG r hO h1) (fun z M3 hz => ?_)
                                obtain ⟨rfl, hM3⟩ := hz
                                subst M3
                                dsimp only [Option.toList, List.cons_append, List.nil_append]
                                refine wq_eqq 516 rfl rfl ?_
                                refine we_inc 3 4 ((4 * (j + 1) : Nat) : Int) 519 _ rfl rfl rfl (by omega) (by omega) rfl ?_
                                refine wq_s 18 rfl ?_
                                exact ih_j (j + 1) M2 (by omega) (by omega) ⟨_, _, _, _, _, _, _, _, s, r, hO, hI, hE, j1, j2⟩ a2
                              · have m_12 := n_12
                                by_cases n_13 : n = 13
                                · subst n_13
                                  refine wq_tsw 483 451 rfl (by decide) rfl rfl ?_
                                  refine wq_s 484 rfl ?_
                                  refine wq_s 485 rfl ?_
                                  refine wq_s 486 rfl ?_
                                  refine wq_s 487 rfl ?_
                                  refine we_add (((4 * j) + 1 : Nat) : Int) 488 rfl rfl (by omega) (by omega) ?_
                                  refine wq_iald (v := x1) 489 rfl rfl (And.intro (Nat.zero_le 0) hG0).2 hT0 (by omega) (by omega) (by omega) hx1 ?_
                                  refine wq_s 490 rfl ?_
                                  refine wq_s 491 rfl ?_
                                  refine wq_s 492 rfl ?_
                                  refine we_add (((4 * j) + 2 : Nat) : Int) 493 rfl rfl (by omega) (by omega) ?_
                                  refine wq_iald (v := x2) 494 rfl rfl (And.intro (Nat.zero_le 0) hG0).2 hT0 (by omega) (by omega) (by omega) hx2 ?_
                                  refine wq_vt2 497 rfl rfl (Nat.le_of_ble_eq_true rfl) (hC.lt (by omega)) (hC.ty 0 _ rfl) rfl (Nat.le_of_ble_eq_true rfl) (c_X8_solution hC s hO h1 h2) (fun z M3 hz => ?_)
                                  obtain ⟨rfl, hM3⟩ := hz
                                  subst M3
                                  dsimp only [Option.toList, List.cons_append, List.nil_append]
                                  refine wq_s 498 rfl ?_
                                  refine wq_s 499 rfl ?_
                                  refine wq_s 500 rfl ?_
                                  refine wq_s 501 rfl ?_
                                  refine we_add (((4 * j) + 1 : Nat) : Int) 502 rfl rfl (by omega) (by omega) ?_
                                  refine wq_iald (v := x1) 503 rfl rfl (And.intro (Nat.zero_le 0) hG0).2 hT0 (by omega) (by omega) (by omega) hx1 ?_
                                  refine wq_s 504 rfl ?_
                                  refine wq_s 505 rfl ?_
                                  refine wq_s 506 rfl ?_
                                  refine we_add (((4 * j) + 2 : Nat) : Int) 507 rfl rfl (by omega) (by omega) ?_
                                  refine wq_iald (v := x2) 508 rfl rfl (And.intro (Nat.zero_le 0) hG0).2 hT0 (by omega) (by omega) (by omega) hx2 ?_
                                  refine wq_vt2 511 rfl rfl (Nat.le_of_ble_eq_true rfl) hG.ob hG.2.2.1 rfl (Nat.le_of_ble_eq_true rfl) (c_X9_solution hG r hO h1 h2) (fun z M3 hz => ?_)
                                  obtain ⟨rfl, hM3⟩ := hz
                                  subst M3
                                  dsimp only [Option.toList, List.cons_append, List.nil_append]
                                  refine wq_eqq 516 rfl rfl ?_
                                  refine we_inc 3 4 ((4 * (j + 1) : Nat) : Int) 519 _ rfl rfl rfl (by omega) (by omega) rfl ?_
                                  refine wq_s 18 rfl ?_
                                  exact ih_j (j + 1) M2 (by omega) (by omega) ⟨_, _, _, _, _, _, _, _, s, r, hO, hI, hE, j1, j2⟩ a2
                                · have m_13 := n_13
                                  refine wq_tsw 516 484 rfl (by omega) (if_pos (by omega)) rfl ?_
                                  refine we_inc 3 4 ((4 * (j + 1) : Nat) : Int) 519 _ rfl rfl rfl (by omega) (by omega) rfl ?_
                                  refine wq_s 18 rfl ?_
                                  exact ih_j (j + 1) M2 (by omega) (by omega) ⟨_, _, _, _, _, _, _, _, s, r, hO, hI, hE, j1, j2⟩ a2
