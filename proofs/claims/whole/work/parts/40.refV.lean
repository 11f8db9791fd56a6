/-! the first chain -/
def ChF (X : Nat → Nat) (m a : Nat) (rv : Nat → Nat) : Prop := (1 ≤ m ∧ m ≤ 12) ∧ layJ X a (2 * m - 1) a ∧ (∀ m', 1 ≤ m' → m' < m → ∀ a', ¬ layJ X a' (2 * m' - 1) a') ∧ (∀ a', a' < a → ¬ layJ X a' (2 * m - 1) a') ∧ IsRow X a m rv
def ChN (X : Nat → Nat) : Prop := ∀ m, 1 ≤ m → m ≤ 12 → ∀ a, ¬ layJ X a (2 * m - 1) a
/-- the first of l's first i nodes that begins a chain -/
def FdI (X : Nat → Nat) (m i : Nat) (fd : Int) : Prop := (fd = -1 ∧ ∀ j, j < i → ¬ layJ X ((thL X 729).getD j 0) (2 * m - 1) ((thL X 729).getD j 0)) ∨ ∃ j, j < i ∧ fd = (((thL X 729).getD j 0 : Nat) : Int) ∧ layJ X ((thL X 729).getD j 0) (2 * m - 1) ((thL X 729).getD j 0) ∧ ∀ j2, j2 < j → ¬ layJ X ((thL X 729).getD j2 0) (2 * m - 1) ((thL X 729).getD j2 0)
theorem FdI.rng {X : Nat → Nat} {m i : Nat} {fd : Int} (h : FdI X m i fd) (hi : i ≤ (thL X 729).length) : -1 ≤ fd ∧ fd < 729 := by
  rcases h with ⟨h, -⟩ | ⟨j, h1, h, -⟩
  · omega
  · have := (thL_at (X := X) (n := 729) (j := j) (by omega)).1
    omega
theorem gdR_lay {X : Nat → Nat} {a n : Nat} : gdR X a n ↔ layJ X a 0 n := Iff.rfl
theorem lay_all {X : Nat → Nat} {j : Nat} (h : ∀ i, i < (thL X 729).length → ¬ layJ X ((thL X 729).getD i 0) j ((thL X 729).getD i 0)) (a : Nat) : ¬ layJ X a j a := fun z => by
  obtain ⟨i, h1, h2⟩ := (thL_mem X 729 a).2 ⟨layJ_lt z, layJ_has z⟩
  refine h i h1 ?_
  rw [h2]
  exact z
theorem c_X9_chain {d : Nat} {G : GT} {M : MT} {o q : Nat} {X : Nat → Nat} (hG : RefG G o) (hq : q < G.1) (hT : G.2.2 q = .inl (false, 81)) (hX : AtB M q X) (hqn : q ≠ o ∧ q ≠ o + 6 ∧ q ≠ o + 7 ∧ q ≠ o + 8) : Mq (d + 6) k_X9_chain [vR o, vR q] G M (fun r M' => ((r = some (vI 0) ∧ ChN X) ∨ (∃ m a rv, r = some (vI ((m : Nat) : Int)) ∧ ChF X m a rv ∧ ∀ s, s < 2 * m → M' (o + 13) (s : Int) = ((rv s : Nat) : Int) ∧ rv s < 729)) ∧ (∀ r, r ≠ o → (r < o + 6 ∨ o + 13 < r) → M' r = M r) ∧ ∀ i : Int, i ≠ 8 → M' o i = M o i) := by
  refine wq_s 1 rfl ?_
  refine wq_s 2 rfl ?_
  refine wq_vt1 5 rfl rfl (Nat.le_of_ble_eq_true rfl) hG.ob hG.2.2.1 rfl (Nat.le_of_ble_eq_true rfl) (c_X9_links hG hq hT hX hqn) (fun r M1 hr => ?_)
  obtain ⟨rfl, hTh, hW, hS, hF1, hFo⟩ := hr
  dsimp only [Option.toList, List.cons_append, List.nil_append]
  have hln := thL_len X 729
  have hlt : ∀ i, i < (thL X 729).length → (thL X 729).getD i 0 < 729 := fun i hi => (thL_at hi).1
  have hdj : ∀ i j, i < (thL X 729).length → j < (thL X 729).length → i ≠ j → (thL X 729).getD i 0 < (thL X 729).getD j 0 ∨ (thL X 729).getD j 0 < (thL X 729).getD i 0 := fun i j hi hj hij => by
    by_cases h : i < j
    · exact Or.inl (thL_mono X 729 i j h hj)
    · exact Or.inr (thL_mono X 729 j i (by omega) hi)
  have L_112 : ∀ (f m : Nat) (M2 : MT) (y3 : Option AV) (y4 : Option AV) (y5 : Option AV), 13 - m < f → m ≤ 13 → (1 ≤ m) → (∀ j, j < (thL X 729).length → SetAt M2 (o + 9) (12 * (thL X 729).getD j 0) (gdR X ((thL X 729).getD j 0))) → (1 < m → ∀ j, j < (thL X 729).length → SetAt M2 (o + 10) (12 * (thL X 729).getD j 0) (layJ X ((thL X 729).getD j 0) (2 * (m - 1) - 1))) → (∀ m', 1 ≤ m' → m' < m → ∀ a', ¬ layJ X a' (2 * m' - 1) a') → (∀ r, r ≠ o + 9 → r ≠ o + 10 → r ≠ o + 11 → M2 r = M1 r) → Wq (d + 6) k_X9_chain 112 [some (vR o), some (vR q), some (vI ((m : Nat) : Int)), y3, y4, y5] [] G M2 (fun r M' => ((r = some (vI 0) ∧ ChN X) ∨ (∃ m a rv, r = some (vI ((m : Nat) : Int)) ∧ ChF X m a rv ∧ ∀ s, s < 2 * m → M' (o + 13) (s : Int) = ((rv s : Nat) : Int) ∧ rv s < 729)) ∧ (∀ r, r ≠ o → (r < o + 6 ∨ o + 13 < r) → M' r = M r) ∧ ∀ i : Int, i ≠ 8 → M' o i = M o i) := by
    intro f
    induction f with
    | zero => intro m M2 y3 y4 y5 h; exact absurd h (by omega)
    | succ f ih_m =>
      intro m M2 y3 y4 y5 hf_m hk_m hm1 hGd hBg hno hFr
      refine wq_s 113 rfl ?_
      refine wq_s 115 rfl ?_
      refine wq_icmp 256 rfl rfl (by omega) (by omega) (fun c_115 => ?_) (fun c_115 => ?_)
      · have c_115 := of_decide_eq_true c_115
        refine wq_s 257 rfl ?_
        exact wq_ret rfl ⟨Or.inl ⟨rfl, fun m1 h1 h2 => hno m1 h1 (by omega)⟩, fun r h5 h6 => (hFr r (by omega) (by omega) (by omega)).trans (hF1 r h5 (by omega) (by omega) (by omega)), fun i h5 => by rw [hFr o (by omega) (by omega) (by omega)]; exact hFo i h5⟩
      · have c_115 := of_decide_eq_false c_115
        have L_123 : ∀ (f2 i : Nat) (fd : Int) (M2 : MT) (y5 : Option AV), (thL X 729).length - i < f2 → i ≤ (thL X 729).length → (∀ j, j < (thL X 729).length → SetAt M2 (o + 9) (12 * (thL X 729).getD j 0) (gdR X ((thL X 729).getD j 0))) → (∀ j, j < i → SetAt M2 (o + 10) (12 * (thL X 729).getD j 0) (layJ X ((thL X 729).getD j 0) (2 * m - 1))) → (1 < m → ∀ j, i ≤ j → j < (thL X 729).length → SetAt M2 (o + 10) (12 * (thL X 729).getD j 0) (layJ X ((thL X 729).getD j 0) (2 * (m - 1) - 1))) → (FdI X m i fd) → (∀ r, r ≠ o + 9 → r ≠ o + 10 → r ≠ o + 11 → M2 r = M1 r) → Wq (d + 6) k_X9_chain 123 [some (vR o), some (vR q), some (vI ((m : Nat) : Int)), some (vI fd), some (vI ((i : Nat) : Int)), y5] [] G M2 (fun r M' => ((r = some (vI 0) ∧ ChN X) ∨ (∃ m a rv, r = some (vI ((m : Nat) : Int)) ∧ ChF X m a rv ∧ ∀ s, s < 2 * m → M' (o + 13) (s : Int) = ((rv s : Nat) : Int) ∧ rv s < 729)) ∧ (∀ r, r ≠ o → (r < o + 6 ∨ o + 13 < r) → M' r = M r) ∧ ∀ i : Int, i ≠ 8 → M' o i = M o i) := by
          intro f2
          induction f2 with
          | zero => intro i fd M2 y5 h; exact absurd h (by omega)
          | succ f2 ih_i =>
            intro i fd M2 y5 hf_i hk_i hGd hB1 hB2 hfd hFr
            have hfr := hfd.rng hk_i
            refine wq_s 125 rfl ?_
            refine wq_s 126 rfl ?_
            refine wq_getE (v := (((thL X 729).length : Nat) : Int)) 8 129 rfl rfl hG.ob hG.2.2.1 rfl rfl (by rw [hFr o (by omega) (by omega) (by omega)]; exact hTh.1) ?_
            refine wq_icmp 238 rfl rfl (by omega) (by omega) (fun c_129 => ?_) (fun c_129 => ?_)
            · have c_129 := of_decide_eq_true c_129
              have e9 : i = (thL X 729).length := by omega
              subst e9
              refine wq_s 239 rfl ?_
              refine wq_if 250 rfl rfl (by omega) (fun c_239 => ?_) (fun c_239 => ?_)
              · have c_239 := of_decide_eq_true c_239
                refine we_inc 2 1 ((m + 1 : Nat) : Int) 253 _ rfl rfl rfl (by omega) (by omega) rfl ?_
                refine wq_s 112 rfl ?_
                refine ih_m (m + 1) _ _ _ _ (by omega) (by omega) (by omega) hGd (fun _ j hj => ?_) ?_ hFr
                · rw [show m + 1 - 1 = m by omega]
                  exact hB1 j hj
                · intro m1 h1 h2
                  by_cases hmm : m1 = m
                  · subst hmm
                    rcases hfd with ⟨-, h5⟩ | ⟨j, h5, h6, -⟩
                    · exact lay_all h5
                    · omega
                  · exact hno m1 h1 (by omega)
              · have c_239 := of_decide_eq_false c_239
                refine wq_s 243 rfl ?_
                refine wq_s 244 rfl ?_
                refine wq_s 245 rfl ?_
                rcases hfd with ⟨h0, -⟩ | ⟨j, h1, h2, h3, h4⟩
                · omega
                subst h2
                refine wq_vt2 248 rfl rfl (Nat.le_of_ble_eq_true rfl) hG.ob hG.2.2.1 rfl (Nat.le_of_ble_eq_true rfl) (c_X9_rowOf (X := X) hG (by omega) (hlt j h1) (hTh.fr (hFr _ (by omega) (by omega) (by omega)) (hFr _ (by omega) (by omega) (by omega))) (hW.fr (hFr _ (by omega) (by omega) (by omega))) (hS.fr (hFr _ (by omega) (by omega) (by omega))) (hGd j h1) h3) (fun r M3 hr => ?_)
                obtain ⟨rfl, ⟨rv, hrv, hrw⟩, hf3⟩ := hr
                dsimp only [Option.toList, List.cons_append, List.nil_append]
                refine wq_s 249 rfl ?_
                refine wq_ret rfl ⟨Or.inr ⟨m, _, rv, rfl, ⟨⟨by omega, by omega⟩, h3, hno, fun a' h5 h6 => ?_, hrv⟩, hrw⟩, fun r h5 h6 => ?_, fun i h5 => ?_⟩
                · obtain ⟨i, i1, i2⟩ := (thL_mem X 729 a').2 ⟨layJ_lt h6, layJ_has h6⟩
                  have hij : i < j := by
                    by_cases hh : i < j
                    · exact hh
                    · by_cases hh2 : i = j
                      · subst hh2
                        omega
                      · have := thL_mono X 729 j i (by omega) i1
                        omega
                  refine h4 i hij ?_
                  rw [i2]
                  exact h6
                · rw [hf3 r (by omega) (by omega) (by omega), hFr r (by omega) (by omega) (by omega)]
                  exact hF1 r h5 (by omega) (by omega) (by omega)
                · rw [hf3 o (by omega) (by omega) (by omega), hFr o (by omega) (by omega) (by omega)]
                  exact hFo i h5
            · have c_129 := of_decide_eq_false c_129
              refine wq_s 134 rfl ?_
              refine wq_s 135 rfl ?_
              refine wq_getR 138 rfl rfl hG.ob hG.2.2.1 rfl ?_
              refine wq_s 140 rfl ?_
              have hl_140 := hlt i (by omega)
              refine wq_iald (v := (((thL X 729).getD i 0 : Nat) : Int)) 141 rfl rfl hG.a_there.1.2 hG.a_there.2 (by omega) (by omega) (by omega) (by rw [hFr (o + 8) (by omega) (by omega) (by omega)]; exact (hTh.2.2 i (by omega)).1) ?_
              refine we_mul ((12 * ((thL X 729).getD i 0) : Nat) : Int) 142 rfl rfl (by omega) (by omega) ?_
              refine wq_s 144 rfl ?_
              refine wq_s 145 rfl ?_
              refine wq_s 146 rfl ?_
              refine wq_icmp 169 rfl rfl (by omega) (by omega) (fun c_146 => ?_) (fun c_146 => ?_)
              · have c_146 := of_decide_eq_true c_146
                refine wq_s 170 rfl ?_
                refine wq_s 171 rfl ?_
                refine wq_s 172 rfl ?_
                refine wq_icmp 182 rfl rfl (by omega) (by omega) (fun c_172 => ?_) (fun c_172 => ?_)
                · have c_172 := of_decide_eq_true c_172
                  refine wq_s 183 rfl ?_
                  refine wq_getR 186 rfl rfl hG.ob hG.2.2.1 rfl ?_
                  refine wq_s 188 rfl ?_
                  refine wq_s 189 rfl ?_
                  refine wq_getR 192 rfl rfl hG.ob hG.2.2.1 rfl ?_
                  refine wq_s 193 rfl ?_
                  refine wq_getR 196 rfl rfl hG.ob hG.2.2.1 rfl ?_
                  refine wq_s 198 rfl ?_
                  refine wq_vt5 201 rfl rfl (Nat.le_of_ble_eq_true rfl) hG.ob hG.2.2.1 rfl (Nat.le_of_ble_eq_true rfl) (c_X9_image (l := (thL X 729)) (S := gdR X ((thL X 729).getD i 0)) (B := sgR X) hG (hTh.fr (hFr _ (by omega) (by omega) (by omega)) (hFr _ (by omega) (by omega) (by omega))) (hGd i (by omega)) (hS.fr (hFr _ (by omega) (by omega) (by omega))) ⟨hG.a_good.1.2, hG.a_good.2, by omega, by omega⟩ ⟨hG.a_strong.1.2, hG.a_strong.2⟩ ⟨hG.a_begins.1, hG.a_begins.2, by omega, by omega⟩ ⟨by omega, by omega, by omega⟩) (fun r M4 hr => ?_)
                  obtain ⟨rfl, hs4, hf4⟩ := hr
                  dsimp only [Option.toList, List.cons_append, List.nil_append]
                  have em : m = 1 := by omega
                  have hs4 : SetAt M4 (o + 10) (12 * (thL X 729).getD i 0) (layJ X ((thL X 729).getD i 0) (2 * m - 1)) := hs4.ext (fun n _ => by
                    rw [em]
                    exact imS_lay (j := 0) (fun x y => (rkR_o (by omega)).symm))
                  have hFr : ∀ r, r ≠ o + 9 → r ≠ o + 10 → r ≠ o + 11 → M4 r = M1 r := fun r h1 h2 h3 => (funext fun i => hf4 r i h3 (Or.inl h2)).trans (hFr r h1 h2 h3)
                  have hGd4 : ∀ j, j < (thL X 729).length → SetAt M4 (o + 9) (12 * (thL X 729).getD j 0) (gdR X ((thL X 729).getD j 0)) := fun j hj => (hGd j hj).fr (fun w hw => hf4 _ _ (by omega) (Or.inl (by omega)))
                  have hB14 : ∀ j, j < i + 1 → SetAt M4 (o + 10) (12 * (thL X 729).getD j 0) (layJ X ((thL X 729).getD j 0) (2 * m - 1)) := fun j hj => by
                    by_cases hji : j = i
                    · rw [hji]
                      exact hs4
                    · have hd := hdj i j (by omega) (by omega) (by omega)
                      exact (hB1 j (by omega)).fr (fun w hw => hf4 _ _ (by omega) (Or.inr (by omega)))
                  have hB24 : 1 < m → ∀ j, i + 1 ≤ j → j < (thL X 729).length → SetAt M4 (o + 10) (12 * (thL X 729).getD j 0) (layJ X ((thL X 729).getD j 0) (2 * (m - 1) - 1)) := fun h1 j h2 h3 => by
                    have hd := hdj i j (by omega) (by omega) (by omega)
                    exact (hB2 h1 j (by omega) h3).fr (fun w hw => hf4 _ _ (by omega) (Or.inr (by omega)))
                  refine wq_s 202 rfl ?_
                  refine wq_if 232 rfl rfl (by omega) (fun c_202 => ?_) (fun c_202 => ?_)
                  · have c_202 := of_decide_eq_true c_202
                    refine we_inc 4 1 ((i + 1 : Nat) : Int) 235 _ rfl rfl rfl (by omega) (by omega) rfl ?_
                    refine wq_s 123 rfl ?_
                    refine ih_i (i + 1) fd _ _ (by omega) (by omega) hGd4 hB14 hB24 ?_ hFr
                    rcases hfd with ⟨h0, h1⟩ | ⟨j, h1, h3⟩
                    · omega
                    · exact Or.inr ⟨j, by omega, h3⟩
                  · have c_202 := of_decide_eq_false c_202
                    refine wq_s 206 rfl ?_
                    refine wq_getR 209 rfl rfl hG.ob hG.2.2.1 rfl ?_
                    refine wq_s 211 rfl ?_
                    refine wq_s 212 rfl ?_
                    refine wq_getR 215 rfl rfl hG.ob hG.2.2.1 rfl ?_
                    refine wq_s 217 rfl ?_
                    have hl_217 := hlt i (by omega)
                    refine wq_iald (v := (((thL X 729).getD i 0 : Nat) : Int)) 218 rfl rfl hG.a_there.1.2 hG.a_there.2 (by omega) (by omega) (by omega) (by rw [hFr (o + 8) (by omega) (by omega) (by omega)]; exact (hTh.2.2 i (by omega)).1) ?_
                    refine wq_st3 221 rfl rfl (by decide) (Nat.le_of_ble_eq_true rfl) rfl (Nat.le_of_ble_eq_true rfl) (c_X9_has (S := layJ X ((thL X 729).getD i 0) (2 * m - 1)) (by omega) (by omega) (by omega) hG.a_begins.1.2 hG.a_begins.2 hs4) (fun r M1 hr => ?_)
                    rcases hr with ⟨rfl, b_218, hM1⟩ | ⟨rfl, b_218, hM1⟩
                    · subst M1
                      dsimp only [Option.toList, List.cons_append, List.nil_append]
                      refine wq_s 224 rfl ?_
                      refine wq_s 225 rfl ?_
                      refine wq_getR 228 rfl rfl hG.ob hG.2.2.1 rfl ?_
                      refine wq_s 230 rfl ?_
                      have hl_230 := hlt i (by omega)
                      refine wq_iald (v := (((thL X 729).getD i 0 : Nat) : Int)) 231 rfl rfl hG.a_there.1.2 hG.a_there.2 (by omega) (by omega) (by omega) (by rw [hFr (o + 8) (by omega) (by omega) (by omega)]; exact (hTh.2.2 i (by omega)).1) ?_
                      refine wq_s 232 rfl ?_
                      refine we_inc 4 1 ((i + 1 : Nat) : Int) 235 _ rfl rfl rfl (by omega) (by omega) rfl ?_
                      refine wq_s 123 rfl ?_
                      refine ih_i (i + 1) (((thL X 729).getD i 0 : Nat) : Int) _ _ (by omega) (by omega) hGd4 hB14 hB24 ?_ hFr
                      refine Or.inr ⟨i, by omega, rfl, b_218, fun j2 h2 => ?_⟩
                      rcases hfd with ⟨-, h1⟩ | ⟨j, h1, h3, -⟩
                      · exact h1 j2 h2
                      · omega
                    · subst M1
                      dsimp only [Option.toList, List.cons_append, List.nil_append]
                      refine wq_s 232 rfl ?_
                      refine we_inc 4 1 ((i + 1 : Nat) : Int) 235 _ rfl rfl rfl (by omega) (by omega) rfl ?_
                      refine wq_s 123 rfl ?_
                      refine ih_i (i + 1) fd _ _ (by omega) (by omega) hGd4 hB14 hB24 ?_ hFr
                      rcases hfd with ⟨h0, h1⟩ | ⟨j, h1, h3, -⟩
                      · refine Or.inl ⟨h0, fun j hj => ?_⟩
                        by_cases hji : j = i
                        · rw [hji]
                          exact b_218
                        · exact h1 j (by omega)
                      · omega
                · have c_172 := of_decide_eq_false c_172
                  exact absurd c_172 (by omega)
              · have c_146 := of_decide_eq_false c_146
                refine wq_s 150 rfl ?_
                refine wq_s 151 rfl ?_
                refine wq_getR 154 rfl rfl hG.ob hG.2.2.1 rfl ?_
                refine wq_s 156 rfl ?_
                refine wq_s 157 rfl ?_
                refine wq_getR 160 rfl rfl hG.ob hG.2.2.1 rfl ?_
                refine wq_s 161 rfl ?_
                refine wq_getR 164 rfl rfl hG.ob hG.2.2.1 rfl ?_
                refine wq_s 166 rfl ?_
                refine wq_vt5 169 rfl rfl (Nat.le_of_ble_eq_true rfl) hG.ob hG.2.2.1 rfl (Nat.le_of_ble_eq_true rfl) (c_X9_image (l := (thL X 729)) (S := layJ X ((thL X 729).getD i 0) (2 * (m - 1) - 1)) (B := wkR X) hG (hTh.fr (hFr _ (by omega) (by omega) (by omega)) (hFr _ (by omega) (by omega) (by omega))) (hB2 (by omega) i (by omega) (by omega)) (hW.fr (hFr _ (by omega) (by omega) (by omega))) ⟨hG.a_begins.1.2, hG.a_begins.2, by omega, by omega⟩ ⟨hG.a_weak.1.2, hG.a_weak.2⟩ ⟨hG.a_begins.1, hG.a_begins.2, by omega, by omega⟩ ⟨by omega, by omega, by omega⟩) (fun r M3 hr => ?_)
                obtain ⟨rfl, hs3, hf3⟩ := hr
                dsimp only [Option.toList, List.cons_append, List.nil_append]
                have hs3 : SetAt M3 (o + 10) (12 * (thL X 729).getD i 0) (layJ X ((thL X 729).getD i 0) (2 * m - 2)) := hs3.ext (fun n _ => by
                  rw [show 2 * m - 2 = 2 * (m - 1) - 1 + 1 by omega]
                  exact imS_lay (fun x y => (rkR_e (by omega)).symm))
                have hFr3 : ∀ r, r ≠ o + 9 → r ≠ o + 10 → r ≠ o + 11 → M3 r = M1 r := fun r h1 h2 h3 => (funext fun i => hf3 r i h3 (Or.inl h2)).trans (hFr r h1 h2 h3)
                refine wq_s 170 rfl ?_
                refine wq_s 171 rfl ?_
                refine wq_s 172 rfl ?_
                refine wq_icmp 182 rfl rfl (by omega) (by omega) (fun c_172 => ?_) (fun c_172 => ?_)
                · have c_172 := of_decide_eq_true c_172
                  exact absurd c_172 (by omega)
                · have c_172 := of_decide_eq_false c_172
                  refine wq_s 176 rfl ?_
                  refine wq_getR 179 rfl rfl hG.ob hG.2.2.1 rfl ?_
                  refine wq_s 186 rfl ?_
                  refine wq_s 188 rfl ?_
                  refine wq_s 189 rfl ?_
                  refine wq_getR 192 rfl rfl hG.ob hG.2.2.1 rfl ?_
                  refine wq_s 193 rfl ?_
                  refine wq_getR 196 rfl rfl hG.ob hG.2.2.1 rfl ?_
                  refine wq_s 198 rfl ?_
                  refine wq_vt5 201 rfl rfl (Nat.le_of_ble_eq_true rfl) hG.ob hG.2.2.1 rfl (Nat.le_of_ble_eq_true rfl) (c_X9_image (l := (thL X 729)) (S := layJ X ((thL X 729).getD i 0) (2 * m - 2)) (B := sgR X) hG (hTh.fr (hFr3 _ (by omega) (by omega) (by omega)) (hFr3 _ (by omega) (by omega) (by omega))) hs3 (hS.fr (hFr3 _ (by omega) (by omega) (by omega))) ⟨hG.a_begins.1.2, hG.a_begins.2, by omega, by omega⟩ ⟨hG.a_strong.1.2, hG.a_strong.2⟩ ⟨hG.a_begins.1, hG.a_begins.2, by omega, by omega⟩ ⟨by omega, by omega, by omega⟩) (fun r M4 hr => ?_)
                  obtain ⟨rfl, hs4, hf4⟩ := hr
                  dsimp only [Option.toList, List.cons_append, List.nil_append]
                  have hs4 : SetAt M4 (o + 10) (12 * (thL X 729).getD i 0) (layJ X ((thL X 729).getD i 0) (2 * m - 1)) := hs4.ext (fun n _ => by
                    rw [show 2 * m - 1 = 2 * m - 2 + 1 by omega]
                    exact imS_lay (fun x y => (rkR_o (by omega)).symm))
                  have hf4 : ∀ (a : Nat) (w : Int), a ≠ o + 11 → (a ≠ o + 10 ∨ w < (12 * (thL X 729).getD i 0 : Nat) ∨ ((12 * (thL X 729).getD i 0 : Nat) : Int) + 12 ≤ w) → M4 a w = M2 a w := fun a w h1 h2 => (hf4 a w h1 h2).trans (hf3 a w h1 h2)
                  have hFr : ∀ r, r ≠ o + 9 → r ≠ o + 10 → r ≠ o + 11 → M4 r = M1 r := fun r h1 h2 h3 => (funext fun i => hf4 r i h3 (Or.inl h2)).trans (hFr r h1 h2 h3)
                  have hGd4 : ∀ j, j < (thL X 729).length → SetAt M4 (o + 9) (12 * (thL X 729).getD j 0) (gdR X ((thL X 729).getD j 0)) := fun j hj => (hGd j hj).fr (fun w hw => hf4 _ _ (by omega) (Or.inl (by omega)))
                  have hB14 : ∀ j, j < i + 1 → SetAt M4 (o + 10) (12 * (thL X 729).getD j 0) (layJ X ((thL X 729).getD j 0) (2 * m - 1)) := fun j hj => by
                    by_cases hji : j = i
                    · rw [hji]
                      exact hs4
                    · have hd := hdj i j (by omega) (by omega) (by omega)
                      exact (hB1 j (by omega)).fr (fun w hw => hf4 _ _ (by omega) (Or.inr (by omega)))
                  have hB24 : 1 < m → ∀ j, i + 1 ≤ j → j < (thL X 729).length → SetAt M4 (o + 10) (12 * (thL X 729).getD j 0) (layJ X ((thL X 729).getD j 0) (2 * (m - 1) - 1)) := fun h1 j h2 h3 => by
                    have hd := hdj i j (by omega) (by omega) (by omega)
                    exact (hB2 h1 j (by omega) h3).fr (fun w hw => hf4 _ _ (by omega) (Or.inr (by omega)))
                  refine wq_s 202 rfl ?_
                  refine wq_if 232 rfl rfl (by omega) (fun c_202 => ?_) (fun c_202 => ?_)
                  · have c_202 := of_decide_eq_true c_202
                    refine we_inc 4 1 ((i + 1 : Nat) : Int) 235 _ rfl rfl rfl (by omega) (by omega) rfl ?_
                    refine wq_s 123 rfl ?_
                    refine ih_i (i + 1) fd _ _ (by omega) (by omega) hGd4 hB14 hB24 ?_ hFr
                    rcases hfd with ⟨h0, h1⟩ | ⟨j, h1, h3⟩
                    · omega
                    · exact Or.inr ⟨j, by omega, h3⟩
                  · have c_202 := of_decide_eq_false c_202
                    refine wq_s 206 rfl ?_
                    refine wq_getR 209 rfl rfl hG.ob hG.2.2.1 rfl ?_
                    refine wq_s 211 rfl ?_
                    refine wq_s 212 rfl ?_
                    refine wq_getR 215 rfl rfl hG.ob hG.2.2.1 rfl ?_
                    refine wq_s 217 rfl ?_
                    have hl_217 := hlt i (by omega)
                    refine wq_iald (v := (((thL X 729).getD i 0 : Nat) : Int)) 218 rfl rfl hG.a_there.1.2 hG.a_there.2 (by omega) (by omega) (by omega) (by rw [hFr (o + 8) (by omega) (by omega) (by omega)]; exact (hTh.2.2 i (by omega)).1) ?_
                    refine wq_st3 221 rfl rfl (by decide) (Nat.le_of_ble_eq_true rfl) rfl (Nat.le_of_ble_eq_true rfl) (c_X9_has (S := layJ X ((thL X 729).getD i 0) (2 * m - 1)) (by omega) (by omega) (by omega) hG.a_begins.1.2 hG.a_begins.2 hs4) (fun r M1 hr => ?_)
                    rcases hr with ⟨rfl, b_218, hM1⟩ | ⟨rfl, b_218, hM1⟩
                    · subst M1
                      dsimp only [Option.toList, List.cons_append, List.nil_append]
                      refine wq_s 224 rfl ?_
                      refine wq_s 225 rfl ?_
                      refine wq_getR 228 rfl rfl hG.ob hG.2.2.1 rfl ?_
                      refine wq_s 230 rfl ?_
                      have hl_230 := hlt i (by omega)
                      refine wq_iald (v := (((thL X 729).getD i 0 : Nat) : Int)) 231 rfl rfl hG.a_there.1.2 hG.a_there.2 (by omega) (by omega) (by omega) (by rw [hFr (o + 8) (by omega) (by omega) (by omega)]; exact (hTh.2.2 i (by omega)).1) ?_
                      refine wq_s 232 rfl ?_
                      refine we_inc 4 1 ((i + 1 : Nat) : Int) 235 _ rfl rfl rfl (by omega) (by omega) rfl ?_
                      refine wq_s 123 rfl ?_
                      refine ih_i (i + 1) (((thL X 729).getD i 0 : Nat) : Int) _ _ (by omega) (by omega) hGd4 hB14 hB24 ?_ hFr
                      refine Or.inr ⟨i, by omega, rfl, b_218, fun j2 h2 => ?_⟩
                      rcases hfd with ⟨-, h1⟩ | ⟨j, h1, h3, -⟩
                      · exact h1 j2 h2
                      · omega
                    · subst M1
                      dsimp only [Option.toList, List.cons_append, List.nil_append]
                      refine wq_s 232 rfl ?_
                      refine we_inc 4 1 ((i + 1 : Nat) : Int) 235 _ rfl rfl rfl (by omega) (by omega) rfl ?_
                      refine wq_s 123 rfl ?_
                      refine ih_i (i + 1) fd _ _ (by omega) (by omega) hGd4 hB14 hB24 ?_ hFr
                      rcases hfd with ⟨h0, h1⟩ | ⟨j, h1, h3, -⟩
                      · refine Or.inl ⟨h0, fun j hj => ?_⟩
                        by_cases hji : j = i
                        · rw [hji]
                          exact b_218
                        · exact h1 j (by omega)
                      · omega
        refine wq_s 119 rfl ?_
        refine wq_s 120 rfl ?_
        refine wq_s 121 rfl ?_
        refine wq_s 123 rfl ?_
        exact L_123 ((thL X 729).length + 1) 0 (-1) _ _ (by omega) (by omega) hGd (fun j hj => absurd hj (by omega)) (fun h1 j _ h3 => hBg h1 j h3) (Or.inl ⟨rfl, fun j hj => absurd hj (by omega)⟩) hFr
  have L_7 : ∀ (f i : Nat) (M2 : MT) (y3 : Option AV) (y4 : Option AV), (thL X 729).length - i < f → i ≤ (thL X 729).length → (∀ j, j < i → SetAt M2 (o + 9) (12 * (thL X 729).getD j 0) (gdR X ((thL X 729).getD j 0))) → (∀ r, r ≠ o + 9 → M2 r = M1 r) → Wq (d + 6) k_X9_chain 7 [some (vR o), some (vR q), some (vI ((i : Nat) : Int)), y3, y4, none] [] G M2 (fun r M' => ((r = some (vI 0) ∧ ChN X) ∨ (∃ m a rv, r = some (vI ((m : Nat) : Int)) ∧ ChF X m a rv ∧ ∀ s, s < 2 * m → M' (o + 13) (s : Int) = ((rv s : Nat) : Int) ∧ rv s < 729)) ∧ (∀ r, r ≠ o → (r < o + 6 ∨ o + 13 < r) → M' r = M r) ∧ ∀ i : Int, i ≠ 8 → M' o i = M o i) := by
    intro f
    induction f with
    | zero => intro i M2 y3 y4 h; exact absurd h (by omega)
    | succ f ih_i =>
      intro i M2 y3 y4 hf_i hk_i hG9 hFr
      refine wq_s 8 rfl ?_
      refine wq_s 9 rfl ?_
      refine wq_getE (v := (((thL X 729).length : Nat) : Int)) 8 12 rfl rfl hG.ob hG.2.2.1 rfl rfl (by rw [hFr o (by omega)]; exact hTh.1) ?_
      refine wq_icmp 110 rfl rfl (by omega) (by omega) (fun c_12 => ?_) (fun c_12 => ?_)
      · have c_12 := of_decide_eq_true c_12
        have e9 : i = (thL X 729).length := by omega
        subst e9
        refine wq_s 111 rfl ?_
        refine wq_s 112 rfl ?_
        exact L_112 13 1 _ _ _ _ (by omega) (by omega) (by omega) (fun j hj => hG9 j hj) (fun h => absurd h (by omega)) (fun m1 h1 h2 => absurd h1 (by omega)) (fun r h1 _ _ => hFr r h1)
      · have c_12 := of_decide_eq_false c_12
        have hl_22 := hlt i (by omega)
        have L_54 : ∀ (f2 k : Nat) (M2 : MT), (thL X 729).length - k < f2 → k ≤ (thL X 729).length → (∀ j, j < i → SetAt M2 (o + 9) (12 * (thL X 729).getD j 0) (gdR X ((thL X 729).getD j 0))) → (SetAt M2 (o + 9) (12 * (thL X 729).getD i 0) (fun z => ∃ u, u < k ∧ z = (thL X 729).getD u 0 ∧ gdR X ((thL X 729).getD i 0) z)) → (∀ r, r ≠ o + 9 → M2 r = M1 r) → Wq (d + 6) k_X9_chain 54 [some (vR o), some (vR q), some (vI ((i : Nat) : Int)), some (vI ((12 * (thL X 729).getD i 0 : Nat) : Int)), some (vI ((k : Nat) : Int)), none] [] G M2 (fun r M' => ((r = some (vI 0) ∧ ChN X) ∨ (∃ m a rv, r = some (vI ((m : Nat) : Int)) ∧ ChF X m a rv ∧ ∀ s, s < 2 * m → M' (o + 13) (s : Int) = ((rv s : Nat) : Int) ∧ rv s < 729)) ∧ (∀ r, r ≠ o → (r < o + 6 ∨ o + 13 < r) → M' r = M r) ∧ ∀ i : Int, i ≠ 8 → M' o i = M o i) := by
          intro f2
          induction f2 with
          | zero => intro k M2 h; exact absurd h (by omega)
          | succ f2 ih_k =>
            intro k M2 hf_k hk_k hG9 hP hFr
            refine wq_s 56 rfl ?_
            refine wq_s 57 rfl ?_
            refine wq_getE (v := (((thL X 729).length : Nat) : Int)) 8 60 rfl rfl hG.ob hG.2.2.1 rfl rfl (by rw [hFr o (by omega)]; exact hTh.1) ?_
            refine wq_icmp 104 rfl rfl (by omega) (by omega) (fun c_60 => ?_) (fun c_60 => ?_)
            · have c_60 := of_decide_eq_true c_60
              have e9 : k = (thL X 729).length := by omega
              subst e9
              refine we_inc 2 1 ((i + 1 : Nat) : Int) 107 _ rfl rfl rfl (by omega) (by omega) rfl ?_
              refine wq_s 7 rfl ?_
              refine ih_i (i + 1) _ _ _ (by omega) (by omega) ?_ hFr
              intro j hj
              by_cases hji : j = i
              · rw [hji]
                refine hP.ext (fun n _ => ⟨?_, ?_⟩)
                · rintro ⟨u, -, -, h3⟩
                  exact h3
                · intro h3
                  obtain ⟨y, y2, y3⟩ := h3
                  obtain ⟨u, u1, u2⟩ := (thL_mem X 729 n).2 ⟨y3.1, y3.2.2.2.1⟩
                  exact ⟨u, u1, u2.symm, y, y2, y3⟩
              · exact hG9 j (by omega)
            · have c_60 := of_decide_eq_false c_60
              refine wq_s 64 rfl ?_
              refine wq_s 65 rfl ?_
              refine wq_getR 68 rfl rfl hG.ob hG.2.2.1 rfl ?_
              refine wq_s 69 rfl ?_
              have hl_69 := hlt i (by omega)
              refine wq_iald (v := (((thL X 729).getD i 0 : Nat) : Int)) 70 rfl rfl hG.a_there.1.2 hG.a_there.2 (by omega) (by omega) (by omega) (by rw [hFr (o + 8) (by omega)]; exact (hTh.2.2 i (by omega)).1) ?_
              refine wq_s 71 rfl ?_
              refine wq_getR 74 rfl rfl hG.ob hG.2.2.1 rfl ?_
              refine wq_s 76 rfl ?_
              have hl_76 := hlt k (by omega)
              refine wq_iald (v := (((thL X 729).getD k 0 : Nat) : Int)) 77 rfl rfl hG.a_there.1.2 hG.a_there.2 (by omega) (by omega) (by omega) (by rw [hFr (o + 8) (by omega)]; exact (hTh.2.2 k (by omega)).1) ?_
              refine wq_vt2 80 rfl rfl (Nat.le_of_ble_eq_true rfl) hG.ob hG.2.2.1 rfl (Nat.le_of_ble_eq_true rfl) (c_X9_goesBy (A := wkR X) hG (hlt i (by omega)) (hlt k (by omega)) (hW.fr (hFr _ (by omega)))) (fun r M1 hr => ?_)
              rcases hr with ⟨rfl, b_77, hM1⟩ | ⟨rfl, b_77, hM1⟩
              · subst M1
                dsimp only [Option.toList, List.cons_append, List.nil_append]
                refine wq_s 83 rfl ?_
                refine wq_s 84 rfl ?_
                refine wq_getR 87 rfl rfl hG.ob hG.2.2.1 rfl ?_
                refine wq_s 88 rfl ?_
                refine wq_s 89 rfl ?_
                refine wq_getR 92 rfl rfl hG.ob hG.2.2.1 rfl ?_
                refine wq_s 94 rfl ?_
                have hl_94 := hlt k (by omega)
                refine wq_iald (v := (((thL X 729).getD k 0 : Nat) : Int)) 95 rfl rfl hG.a_there.1.2 hG.a_there.2 (by omega) (by omega) (by omega) (by rw [hFr (o + 8) (by omega)]; exact (hTh.2.2 k (by omega)).1) ?_
                refine wq_st3 98 rfl rfl (by decide) (Nat.le_of_ble_eq_true rfl) rfl (Nat.le_of_ble_eq_true rfl) (c_X9_add (by omega) (by omega) (by omega) hG.a_good.1 hG.a_good.2 hP) (fun r M3 hr => ?_)
                obtain ⟨rfl, hs3, hf3⟩ := hr
                dsimp only [Option.toList, List.cons_append, List.nil_append]
                refine we_inc 4 1 ((k + 1 : Nat) : Int) 101 _ rfl rfl rfl (by omega) (by omega) rfl ?_
                refine wq_s 54 rfl ?_
                refine ih_k (k + 1) _ (by omega) (by omega) ?_ ?_ ?_
                · intro j hj
                  have hd := hdj i j (by omega) (by omega) (by omega)
                  exact (hG9 j hj).fw hf3 (by omega)
                · refine hs3.ext (fun n _ => ⟨?_, ?_⟩)
                  · rintro (⟨u, h1, h2⟩ | h1)
                    · exact ⟨u, by omega, h2⟩
                    · refine ⟨k, by omega, h1, ?_⟩
                      obtain ⟨y, -, y2, y3⟩ := b_77
                      rw [h1]
                      exact ⟨y, y2, y3⟩
                  · rintro ⟨u, h1, h2, h3⟩
                    by_cases huk : u = k
                    · subst huk
                      exact Or.inr h2
                    · exact Or.inl ⟨u, by omega, h2, h3⟩
                · intro r hr
                  exact (funext fun i => hf3 r i (Or.inl hr)).trans (hFr r hr)
              · subst M1
                dsimp only [Option.toList, List.cons_append, List.nil_append]
                refine wq_s 98 rfl ?_
                refine we_inc 4 1 ((k + 1 : Nat) : Int) 101 _ rfl rfl rfl (by omega) (by omega) rfl ?_
                refine wq_s 54 rfl ?_
                refine ih_k (k + 1) _ (by omega) (by omega) hG9 ?_ hFr
                refine hP.ext (fun n _ => ⟨?_, ?_⟩)
                · rintro ⟨u, h1, h2⟩
                  exact ⟨u, by omega, h2⟩
                · rintro ⟨u, h1, h2, h3⟩
                  by_cases huk : u = k
                  · subst huk
                    obtain ⟨y, y2, y3⟩ := h3
                    rw [h2] at y3
                    exact absurd ⟨y, by have := y2.2.1; omega, y2, y3⟩ b_77
                  · exact ⟨u, by omega, h2, h3⟩
        have L_28 : ∀ (f2 k : Nat) (M2 : MT), 12 - k < f2 → k ≤ 12 → (∀ j, j < i → SetAt M2 (o + 9) (12 * (thL X 729).getD j 0) (gdR X ((thL X 729).getD j 0))) → (∀ w : Nat, w < k → M2 (o + 9) ((12 * (thL X 729).getD i 0 + w : Nat) : Int) = 0) → (∀ r, r ≠ o + 9 → M2 r = M1 r) → Wq (d + 6) k_X9_chain 28 [some (vR o), some (vR q), some (vI ((i : Nat) : Int)), some (vI ((12 * (thL X 729).getD i 0 : Nat) : Int)), some (vI ((k : Nat) : Int)), none] [] G M2 (fun r M' => ((r = some (vI 0) ∧ ChN X) ∨ (∃ m a rv, r = some (vI ((m : Nat) : Int)) ∧ ChF X m a rv ∧ ∀ s, s < 2 * m → M' (o + 13) (s : Int) = ((rv s : Nat) : Int) ∧ rv s < 729)) ∧ (∀ r, r ≠ o → (r < o + 6 ∨ o + 13 < r) → M' r = M r) ∧ ∀ i : Int, i ≠ 8 → M' o i = M o i) := by
          intro f2
          induction f2 with
          | zero => intro k M2 h; exact absurd h (by omega)
          | succ f2 ih_k =>
            intro k M2 hf_k hk_k hG9 hZ hFr
            refine wq_s 30 rfl ?_
            refine wq_s 32 rfl ?_
            refine wq_icmp 51 rfl rfl (by omega) (by omega) (fun c_32 => ?_) (fun c_32 => ?_)
            · have c_32 := of_decide_eq_true c_32
              have e9 : k = 12 := by omega
              subst e9
              refine wq_s 52 rfl ?_
              refine wq_s 54 rfl ?_
              refine L_54 ((thL X 729).length + 1) 0 _ (by omega) (by omega) hG9 ?_ hFr
              intro n hn
              rw [hZ (n / 64) (by omega), lbit_0]
              exact ⟨fun h => (by cases h), fun ⟨u, h1, _⟩ => absurd h1 (by omega)⟩
            · have c_32 := of_decide_eq_false c_32
              refine wq_s 36 rfl ?_
              refine wq_getR 39 rfl rfl hG.ob hG.2.2.1 rfl ?_
              refine wq_s 40 rfl ?_
              refine wq_s 42 rfl ?_
              refine we_add (((12 * (thL X 729).getD i 0) + k : Nat) : Int) 43 rfl rfl (by omega) (by omega) ?_
              refine wq_lconst 0 44 rfl rfl rfl ?_
              refine wq_last 45 rfl rfl hG.a_good.1 hG.a_good.2 (by omega) (by omega) (by omega) ?_
              refine we_inc 4 1 ((k + 1 : Nat) : Int) 48 _ rfl rfl rfl (by omega) (by omega) rfl ?_
              refine wq_s 28 rfl ?_
              refine ih_k (k + 1) _ (by omega) (by omega) ?_ ?_ ?_
              · intro j hj
                have hd := hdj i j (by omega) (by omega) (by omega)
                exact (hG9 j hj).fr (fun w hw => up2_ne (Or.inr (by omega)))
              · intro w hw
                by_cases hwk : w = k
                · subst hwk
                  exact up2_at
                · exact (up2_ne (Or.inr (by omega))).trans (hZ w (by omega))
              · intro r hr
                rw [up2_row hr]
                exact hFr r hr
        refine wq_s 17 rfl ?_
        refine wq_s 18 rfl ?_
        refine wq_getR 21 rfl rfl hG.ob hG.2.2.1 rfl ?_
        refine wq_s 22 rfl ?_
        have hl_22 := hlt i (by omega)
        refine wq_iald (v := (((thL X 729).getD i 0 : Nat) : Int)) 23 rfl rfl hG.a_there.1.2 hG.a_there.2 (by omega) (by omega) (by omega) (by rw [hFr (o + 8) (by omega)]; exact (hTh.2.2 i (by omega)).1) ?_
        refine we_mul ((12 * ((thL X 729).getD i 0) : Nat) : Int) 24 rfl rfl (by omega) (by omega) ?_
        refine wq_s 25 rfl ?_
        refine wq_s 26 rfl ?_
        refine wq_s 28 rfl ?_
        exact L_28 13 0 _ (by omega) (by omega) hG9 (fun w hw => absurd hw (by omega)) hFr
  refine wq_s 6 rfl ?_
  refine wq_s 7 rfl ?_
  exact L_7 ((thL X 729).length + 1) 0 M1 none none (by omega) (by omega) (fun j hj => absurd hj (by omega)) (fun _ _ => rfl)
