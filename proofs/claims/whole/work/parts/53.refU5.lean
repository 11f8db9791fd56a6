/-! search, walked -/
theorem try_ok {S : SrS} (h : SrI S) (hb : S.1 = 1) (ho : S.2.1 = 0) (ht : S.2.2.1 + 1 ≤ 1000000) : SrI (tryF S) ∧ (tryF S).1 = 1 ∧ (tryF S).2.2.1 = S.2.2.1 + 1 := by
  obtain ⟨⟨h1, h2, h3, h4, h5, h6⟩, h7, h8, h9⟩ := h
  obtain ⟨g1, g2, g3⟩ := h8 hb ho
  obtain ⟨k1, k2, k3⟩ := h6 (S.2.2.2.1 - 1) (by omega)
  obtain ⟨q1, q2⟩ := h9 (S.2.2.2.1 - 1) (by omega)
  have hl := lbF_ok (k1 _ k2) 9 _ g3 (by omega)
  have hfx := s1N_fix k2 q2 hl.1
  have hJ : SrJ (S.1, S.2.1, S.2.2.1 + 1, S.2.2.2.1, S.2.2.2.2.1, fun j => if j = S.2.2.2.1 - 1 then ((S.2.2.2.2.2.1 (S.2.2.2.1 - 1)).1, (S.2.2.2.2.2.1 (S.2.2.2.1 - 1)).2.1, lbN ((S.2.2.2.2.2.1 (S.2.2.2.1 - 1)).1 (S.2.2.2.2.2.1 (S.2.2.2.1 - 1)).2.1) (S.2.2.2.2.2.1 (S.2.2.2.1 - 1)).2.2 + 1) else S.2.2.2.2.2.1 j, S.2.2.2.2.2.2) := by
    refine ⟨⟨h1, h2, ht, h4, h5, fun i hi => ?_⟩, hb, fun i hi => ?_⟩
    · dsimp only
      by_cases hid : i = S.2.2.2.1 - 1
      · rw [if_pos hid]
        exact ⟨k1, k2, hl.1⟩
      · rw [if_neg hid]
        exact h6 i hi
    · dsimp only
      by_cases hid : i = S.2.2.2.1 - 1
      · rw [if_pos hid, hid]
        exact ⟨q1, q2⟩
      · rw [if_neg hid]
        exact h9 i hi
  have hm := meet_ok hJ g2 (Nat.le_trans (show S.2.2.2.1 ≤ s1N (S.2.2.2.2.2.1 (S.2.2.2.1 - 1)).1 + 1 by omega) hfx)
  exact ⟨leave_ok hm.1, hm.1.2.1, hm.2⟩
theorem try_mid {S : SrS} (h : SrI S) (hb : S.1 = 1) (ho : S.2.1 = 0) (ht : S.2.2.1 + 1 ≤ 1000000) : SrJ (meetF (fun c => if c = (S.2.2.2.2.2.1 (S.2.2.2.1 - 1)).2.1 then 2 ^ lbN ((S.2.2.2.2.2.1 (S.2.2.2.1 - 1)).1 (S.2.2.2.2.2.1 (S.2.2.2.1 - 1)).2.1) (S.2.2.2.2.2.1 (S.2.2.2.1 - 1)).2.2 else (S.2.2.2.2.2.1 (S.2.2.2.1 - 1)).1 c)
  (S.1, S.2.1, S.2.2.1 + 1, S.2.2.2.1, S.2.2.2.2.1, fun j => if j = S.2.2.2.1 - 1 then ((S.2.2.2.2.2.1 (S.2.2.2.1 - 1)).1, (S.2.2.2.2.2.1 (S.2.2.2.1 - 1)).2.1, lbN ((S.2.2.2.2.2.1 (S.2.2.2.1 - 1)).1 (S.2.2.2.2.2.1 (S.2.2.2.1 - 1)).2.1) (S.2.2.2.2.2.1 (S.2.2.2.1 - 1)).2.2 + 1) else S.2.2.2.2.2.1 j, S.2.2.2.2.2.2)) := by
  obtain ⟨⟨h1, h2, h3, h4, h5, h6⟩, h7, h8, h9⟩ := h
  obtain ⟨g1, g2, g3⟩ := h8 hb ho
  obtain ⟨k1, k2, k3⟩ := h6 (S.2.2.2.1 - 1) (by omega)
  obtain ⟨q1, q2⟩ := h9 (S.2.2.2.1 - 1) (by omega)
  have hl := lbF_ok (k1 _ k2) 9 _ g3 (by omega)
  have hfx := s1N_fix k2 q2 hl.1
  have hJ : SrJ (S.1, S.2.1, S.2.2.1 + 1, S.2.2.2.1, S.2.2.2.2.1, fun j => if j = S.2.2.2.1 - 1 then ((S.2.2.2.2.2.1 (S.2.2.2.1 - 1)).1, (S.2.2.2.2.2.1 (S.2.2.2.1 - 1)).2.1, lbN ((S.2.2.2.2.2.1 (S.2.2.2.1 - 1)).1 (S.2.2.2.2.2.1 (S.2.2.2.1 - 1)).2.1) (S.2.2.2.2.2.1 (S.2.2.2.1 - 1)).2.2 + 1) else S.2.2.2.2.2.1 j, S.2.2.2.2.2.2) := by
    refine ⟨⟨h1, h2, ht, h4, h5, fun i hi => ?_⟩, hb, fun i hi => ?_⟩
    · dsimp only
      by_cases hid : i = S.2.2.2.1 - 1
      · rw [if_pos hid]
        exact ⟨k1, k2, hl.1⟩
      · rw [if_neg hid]
        exact h6 i hi
    · dsimp only
      by_cases hid : i = S.2.2.2.1 - 1
      · rw [if_pos hid, hid]
        exact ⟨q1, q2⟩
      · rw [if_neg hid]
        exact h9 i hi
  have hm := meet_ok hJ g2 (Nat.le_trans (show S.2.2.2.1 ≤ s1N (S.2.2.2.2.2.1 (S.2.2.2.1 - 1)).1 + 1 by omega) hfx)
  exact hm.1
theorem srchL_ok : ∀ n (S : SrS), SrI S → S.1 = 1 → S.2.2.1 + n ≤ 1000000 → SrI (srchL n S) ∧ (srchL n S).1 = 1 ∧ (srchL n S).2.2.1 ≤ S.2.2.1 + n := by
  intro n
  induction n with
  | zero => intro S h1 h2 _; exact ⟨h1, h2, Nat.le_refl _⟩
  | succ n ih =>
    intro S h1 h2 h3
    by_cases ho : S.2.1 = 1
    · rw [srchL_o ho]
      exact ⟨h1, h2, by omega⟩
    · have ho2 := h1.1.2.1
      obtain ⟨g1, g2, g3⟩ := try_ok h1 h2 (by omega) (by omega)
      have h4 := ih (tryF S) g1 g2 (by omega)
      rw [show srchL (n + 1) S = srchL n (tryF S) from if_neg ho]
      exact ⟨h4.1, h4.2.1, by omega⟩
theorem begF_ok {gv : Nat → Nat} {S : SrS} (h : SrI S) : SrI (begF gv S) ∧ (begF gv S).1 = 1 ∧ (begF gv S).2.2.1 = S.2.2.1 := by
  unfold begF
  by_cases hb : S.1 = 0
  · rw [if_pos hb]
    obtain ⟨⟨h1, h2, h3, h4, h5, h6⟩, h7, h8, h9⟩ := h
    obtain ⟨g1, g2⟩ := h7 hb
    have hJ : SrJ (1, S.2) := ⟨⟨Nat.le_refl _, h2, h3, h4, h5, h6⟩, rfl, h9⟩
    have hm := meet_ok (W := fstF gv) hJ (show S.2.2.2.2.1 ≤ 1 by omega) (show S.2.2.2.1 ≤ _ by rw [g1]; exact Nat.zero_le _)
    exact ⟨leave_ok hm.1, hm.1.2.1, hm.2⟩
  · rw [if_neg hb]
    have := h.1.1
    exact ⟨h, by omega, rfl⟩
theorem srchF_ok {gv : Nat → Nat} {n : Nat} {S : SrS} (h : SrI S) (ht : S.2.2.1 + n ≤ 1000000) : SrI (srchF gv n S) ∧ (srchF gv n S).2.2.1 ≤ S.2.2.1 + n := by
  obtain ⟨h1, h2, h3⟩ := begF_ok (gv := gv) h
  obtain ⟨g1, g2, g3⟩ := srchL_ok n _ h1 h2 (by omega)
  exact ⟨g1, by unfold srchF; omega⟩
/-- the search part is new -/
theorem RefSt.sr {M M' : MT} {o : Nat} {gv X C : Nat → Nat} {T : List GSt} {en : Nat} {nd : List Nat} {S S' : SrS} (h : RefSt M o gv X C T en nd S) (hS : RefSr M' o S') (hF : FrM M M' o) : RefSt M' o gv X C T en nd S' := by
  obtain ⟨s1, s2, s3, s4, s5, s6, s7, s8⟩ := h
  exact ⟨s1.fr (hF.1 _ (by omega) (by omega) (by omega)), s2.fr (hF.1 _ (by omega) (by omega) (by omega)), s3.fr (hF.1 _ (by omega) (by omega) (by omega)), s4.fr (hF.1 _ (by omega) (by omega) (by omega)), s5.fr (fun i i1 i2 => hF.2 i (by omega)) (fun a a1 a2 => hF.1 a (by omega) (by omega) (by omega)), (hF.2 _ (by decide)).trans s6, s7.fr (hF.2 _ (by decide)) (hF.1 _ (by omega) (by omega) (by omega)), hS⟩
theorem search61 {d : Nat} {G : GT} {M : MT} {o : Nat} {gv X C : Nat → Nat} {T : List GSt} {en : Nat} {nd : List Nat} {S : SrS} (hG : RefG G o) (hS : RefSt M o gv X C T en nd S) (hI : SrI S) {n : Nat} (hn : n ≤ 300) (ht : S.2.2.1 + n ≤ 1000000) : ∀ (f k : Nat) (S2 : SrS) (M2 : MT) (y3 y4 y5 y6 : Option AV), n - k < f → k ≤ n → RefSr M2 o S2 → SrI S2 → S2.1 = 1 → S2.2.2.1 ≤ S.2.2.1 + k → srchF gv n S = srchL (n - k) S2 → FrM M M2 o → Wq (d + 6) k_X9_search 61 [some (vR o), some (vI (n : Int)), some (vI (k : Int)), y3, y4, y5, y6] [] G M2 (fun z M' => (z = some (vI (((srchF gv n S).2.2.2.2.1 : Nat) : Int)) ∧ (0 ≤ (n : Int) ∧ (n : Int) ≤ 300) ∧ RefSt M' o gv X C T en nd (srchF gv n S) ∧ FrO M M' o) ∨ (z = some (vI (-1)) ∧ ¬ (0 ≤ (n : Int) ∧ (n : Int) ≤ 300) ∧ M' = M)) := by
  intro f
  induction f with
  | zero => intro k S2 M2 y3 y4 y5 y6 h; exact absurd h (by omega)
  | succ f ih =>
    intro k S2 M2 y3 y4 y5 y6 hf hk hS2 hI2 hb2 htr hE hFr
    obtain ⟨e1, e2, e3, e4, e5, e6, e7⟩ := id hS2
    obtain ⟨i1, i2, i3, i4, i5, i6⟩ := id hI2.1
    refine wq_s 62 rfl ?_
    refine wq_s 63 rfl ?_
    refine wq_icmp 214 rfl rfl (by omega) (by omega) (fun c_63 => ?_) (fun c_63 => ?_)
    · have c_63 := of_decide_eq_true c_63
      refine wq_s 215 rfl ?_
      refine wq_getE (v := ((S2.2.2.2.2.1 : Nat) : Int)) 37 218 rfl rfl hG.ob hG.2.2.1 rfl rfl e5 ?_
      exact wq_ret rfl (Or.inl ⟨by rw [hE, show n - k = 0 by omega, show srchL 0 S2 = S2 from rfl], ⟨by omega, by omega⟩, (by rw [hE, show n - k = 0 by omega, show srchL 0 S2 = S2 from rfl]; exact hS.sr hS2 hFr), fun a ha => hFr.1 a (by omega) (by omega) (by omega)⟩)
    · have c_63 := of_decide_eq_false c_63
      refine wq_s 67 rfl ?_
      refine wq_getE (v := ((S2.2.1 : Nat) : Int)) 41 70 rfl rfl hG.ob hG.2.2.1 rfl rfl e2 ?_
      refine wq_if 214 rfl rfl (by omega) (fun c_70 => ?_) (fun c_70 => ?_)
      · have c_70 := of_decide_eq_true c_70
        refine wq_s 215 rfl ?_
        refine wq_getE (v := ((S2.2.2.2.2.1 : Nat) : Int)) 37 218 rfl rfl hG.ob hG.2.2.1 rfl rfl e5 ?_
        exact wq_ret rfl (Or.inl ⟨by rw [hE, srchL_o (by omega)], ⟨by omega, by omega⟩, (by rw [hE, srchL_o (by omega)]; exact hS.sr hS2 hFr), fun a ha => hFr.1 a (by omega) (by omega) (by omega)⟩)
      · have c_70 := of_decide_eq_false c_70
        obtain ⟨g1, g2, g3⟩ := hI2.2.2.1 hb2 (by omega)
        obtain ⟨B, cl, tt, hFF⟩ : ∃ B cl tt, S2.2.2.2.2.2.1 (S2.2.2.2.1 - 1) = (B, cl, tt) := ⟨_, _, _, rfl⟩
        obtain ⟨q1, q2, q3⟩ := e6 (S2.2.2.2.1 - 1) (by omega)
        obtain ⟨hB9, hcl, htt⟩ := i6 (S2.2.2.2.1 - 1) (by omega)
        have htf : tryF S2 = leaveF (meetF (fun c => if c = cl then 2 ^ lbN (B cl) tt else B c) (S2.1, S2.2.1, S2.2.2.1 + 1, S2.2.2.2.1, S2.2.2.2.2.1, fun j => if j = S2.2.2.2.1 - 1 then (B, cl, lbN (B cl) tt + 1) else S2.2.2.2.2.2.1 j, S2.2.2.2.2.2.2)) := by
          unfold tryF
          rw [hFF]
        rw [hFF] at q1 q2 q3 hB9 hcl htt g3
        dsimp only at q1 q2 q3 hB9 hcl htt g3
        have hBc := hB9 cl hcl
        have hlb := lbF_ok hBc 9 tt g3 (by omega)
        have hlb1 : lbN (B cl) tt < 9 := hlb.1
        have hto := try_ok hI2 hb2 (by omega) (by omega)
        have hEt : srchF gv n S = srchL (n - (k + 1)) (tryF S2) := by
          rw [hE, show n - k = n - (k + 1) + 1 by omega]
          exact if_neg (by omega)
        have hmj : SrJ (meetF (fun c => if c = cl then 2 ^ lbN (B cl) tt else B c) (S2.1, S2.2.1, S2.2.2.1 + 1, S2.2.2.2.1, S2.2.2.2.2.1, fun j => if j = S2.2.2.2.1 - 1 then (B, cl, lbN (B cl) tt + 1) else S2.2.2.2.2.2.1 j, S2.2.2.2.2.2.2)) := by
          have h9 := try_mid hI2 hb2 (by omega) (by omega)
          rw [hFF] at h9
          exact h9
        have L_150 : ∀ (f2 c : Nat) (M3 : MT), 81 - c < f2 → c ≤ 81 → (∀ c1, c1 < c → M3 (o + 26) (c1 : Int) = ((B c1 : Nat) : Int)) → (∀ a, a ≠ o + 26 → M3 a = (up2 M2 (o + 25) ((S2.2.2.2.1 - 1 : Nat) : Int) ((lbN (B cl) tt + 1 : Nat) : Int)) a) → Wq (d + 6) k_X9_search 150 [some (vR o), some (vI ((n : Nat) : Int)), some (vI ((k : Nat) : Int)), some (vI ((81 * (S2.2.2.2.1 - 1) : Nat) : Int)), some (vI ((cl : Nat) : Int)), some (vI ((lbN (B cl) tt : Nat) : Int)), some (vI ((c : Nat) : Int))] [] G M3 (fun z M' => (z = some (vI (((srchF gv n S).2.2.2.2.1 : Nat) : Int)) ∧ (0 ≤ (n : Int) ∧ (n : Int) ≤ 300) ∧ RefSt M' o gv X C T en nd (srchF gv n S) ∧ FrO M M' o) ∨ (z = some (vI (-1)) ∧ ¬ (0 ≤ (n : Int) ∧ (n : Int) ≤ 300) ∧ M' = M)) := by
          intro f2
          induction f2 with
          | zero => intro c M3 h; exact absurd h (by omega)
          | succ f2 ih_c =>
            intro c M3 hf_c hk_c a1 a2
            refine wq_s 152 rfl ?_
            refine wq_s 154 rfl ?_
            refine wq_icmp 179 rfl rfl (by omega) (by omega) (fun c_154 => ?_) (fun c_154 => ?_)
            · have c_154 := of_decide_eq_true c_154
              have e9 : c = 81 := by omega
              subst e9
              have hpw : 2 ^ lbN (B cl) tt ≤ 2 ^ 8 := Nat.pow_le_pow_right (by decide) (by omega)
              refine wq_s 180 rfl ?_
              refine wq_getR 183 rfl rfl hG.ob hG.2.2.1 rfl ?_
              refine wq_s 185 rfl ?_
              refine wq_s 186 rfl ?_
              refine wq_s 188 rfl ?_
              refine we_shl 1 (lbN (B cl) tt) (2 ^ lbN (B cl) tt) 189 rfl rfl rfl rfl (by omega) (Nat.one_mul _) (by omega) ?_
              refine wq_iast 190 rfl rfl hG.a_work.1 hG.a_work.2 (by omega) (by omega) (by omega) ?_
              refine wq_s 191 rfl ?_
              refine wq_s 192 rfl ?_
              refine wq_getE (v := ((S2.2.2.1 : Nat) : Int)) 38 195 rfl rfl hG.ob hG.2.2.1 rfl rfl (by rw [up2_ne (Or.inl (by omega)), a2 _ (by omega), up2_ne (Or.inl (by omega))]; exact e3) ?_
              refine wq_s 196 rfl ?_
              refine we_add ((S2.2.2.1 + 1 : Nat) : Int) 197 rfl rfl (by omega) (by omega) ?_
              refine wq_putE 38 200 rfl rfl hG.ob hG.2.2.1 rfl (by decide) (Or.inl rfl) rfl ?_
              have hW5 : AtB (up2 (up2 M3 (o + 26) (cl : Int) ((2 ^ lbN (B cl) tt : Nat) : Int)) o 38 ((S2.2.2.1 + 1 : Nat) : Int)) (o + 26) (fun c => if c = cl then 2 ^ lbN (B cl) tt else B c) := fun c hc => by
                rw [up2_row (by omega)]
                dsimp only
                by_cases hcc : c = cl
                · rw [if_pos hcc, hcc, up2_at]
                  exact ⟨rfl, by omega⟩
                · rw [if_neg hcc, up2_ne (Or.inr (by omega))]
                  exact ⟨a1 c hc, hB9 c hc⟩
              have hS5 : RefSr (up2 (up2 M3 (o + 26) (cl : Int) ((2 ^ lbN (B cl) tt : Nat) : Int)) o 38 ((S2.2.2.1 + 1 : Nat) : Int)) o (S2.1, S2.2.1, S2.2.2.1 + 1, S2.2.2.2.1, S2.2.2.2.2.1, fun j => if j = S2.2.2.2.1 - 1 then (B, cl, lbN (B cl) tt + 1) else S2.2.2.2.2.2.1 j, S2.2.2.2.2.2.2) := by
                refine ⟨?_, ?_, up2_at, ?_, ?_, fun i hi => ?_, fun k hk c hc => ?_⟩
                · rw [up2_ne (Or.inr (by decide)), up2_ne (Or.inl (by omega)), a2 _ (by omega), up2_ne (Or.inl (by omega))]; exact e1
                · rw [up2_ne (Or.inr (by decide)), up2_ne (Or.inl (by omega)), a2 _ (by omega), up2_ne (Or.inl (by omega))]; exact e2
                · rw [up2_ne (Or.inr (by decide)), up2_ne (Or.inl (by omega)), a2 _ (by omega), up2_ne (Or.inl (by omega))]; exact e4
                · rw [up2_ne (Or.inr (by decide)), up2_ne (Or.inl (by omega)), a2 _ (by omega), up2_ne (Or.inl (by omega))]; exact e5
                · have hi : i < S2.2.2.2.1 := hi
                  have h6 := e6 i hi
                  refine ⟨fun c hc => ?_, ?_, ?_⟩
                  · rw [up2_row (by omega), up2_row (by omega), a2 _ (by omega), up2_row (by omega)]
                    dsimp only
                    by_cases hid : i = S2.2.2.2.1 - 1
                    · rw [if_pos hid, hid]
                      exact q1 c hc
                    · rw [if_neg hid]
                      exact h6.1 c hc
                  · rw [up2_row (by omega), up2_row (by omega), a2 _ (by omega), up2_row (by omega)]
                    dsimp only
                    by_cases hid : i = S2.2.2.2.1 - 1
                    · rw [if_pos hid, hid]
                      exact q2
                    · rw [if_neg hid]
                      exact h6.2.1
                  · rw [up2_row (by omega), up2_row (by omega), a2 _ (by omega)]
                    dsimp only
                    by_cases hid : i = S2.2.2.2.1 - 1
                    · rw [if_pos hid, hid, up2_at]
                    · rw [if_neg hid, up2_ne (Or.inr (by omega))]
                      exact h6.2.2
                · rw [up2_row (by omega), up2_row (by omega), a2 _ (by omega), up2_row (by omega)]
                  exact e7 k hk c hc
              have hF5 : FrM M (up2 (up2 M3 (o + 26) (cl : Int) ((2 ^ lbN (B cl) tt : Nat) : Int)) o 38 ((S2.2.2.1 + 1 : Nat) : Int)) o := ⟨fun a h1 h2 h3 => by
                  rw [up2_row h1, up2_row (by omega), a2 a (by omega), up2_row (by omega)]
                  exact hFr.1 a h1 h2 h3, fun i hi => by
                  rw [up2_ne (Or.inr (by omega)), up2_ne (Or.inl (by omega)), a2 o (by omega), up2_ne (Or.inl (by omega))]
                  exact hFr.2 i hi⟩
              refine wq_s 201 rfl ?_
              refine wq_vt0 204 rfl rfl (Nat.le_of_ble_eq_true rfl) hG.ob hG.2.2.1 rfl (Nat.le_of_ble_eq_true rfl) (c_X9_meets hG hW5 hS5 i4 g2) (fun z M6 hz => ?_)
              obtain ⟨rfl, hS6, hF6⟩ := hz
              dsimp only [Option.toList, List.cons_append, List.nil_append]
              refine wq_s 205 rfl ?_
              have hJm : SrJ (meetF (fun c => if c = cl then 2 ^ lbN (B cl) tt else B c) (S2.1, S2.2.1, S2.2.2.1 + 1, S2.2.2.2.1, S2.2.2.2.2.1, fun j => if j = S2.2.2.2.1 - 1 then (B, cl, lbN (B cl) tt + 1) else S2.2.2.2.2.2.1 j, S2.2.2.2.2.2.2)) := hmj
              refine wq_vt0 208 rfl rfl (Nat.le_of_ble_eq_true rfl) hG.ob hG.2.2.1 rfl (Nat.le_of_ble_eq_true rfl) (c_X9_leaves hG hS6 (by have := hJm.1.2.2.2.1; omega) hJm.1.2.2.2.2.1 hJm.1.2.2.2.2.2) (fun z M7 hz => ?_)
              obtain ⟨rfl, hS7, hF7⟩ := hz
              dsimp only [Option.toList, List.cons_append, List.nil_append]
              rw [← htf] at hS7
              refine we_inc 2 1 ((k + 1 : Nat) : Int) 211 _ rfl rfl rfl (by omega) (by omega) rfl ?_
              refine wq_s 61 rfl ?_
              exact ih (k + 1) (tryF S2) M7 _ _ _ _ (by omega) (by omega) hS7 hto.1 hto.2.1 (by have := hto.2.2; omega) hEt ((hF5.trans hF6).trans hF7)
            · have c_154 := of_decide_eq_false c_154
              have hbc := hB9 c (by omega)
              refine wq_s 158 rfl ?_
              refine wq_getR 161 rfl rfl hG.ob hG.2.2.1 rfl ?_
              refine wq_s 163 rfl ?_
              refine wq_s 164 rfl ?_
              refine wq_getR 167 rfl rfl hG.ob hG.2.2.1 rfl ?_
              refine wq_s 168 rfl ?_
              refine wq_s 170 rfl ?_
              refine we_add (((81 * (S2.2.2.2.1 - 1)) + c : Nat) : Int) 171 rfl rfl (by omega) (by omega) ?_
              refine wq_iald (v := ((B c : Nat) : Int)) 172 rfl rfl hG.a_level1.1.2 hG.a_level1.2 (by omega) (by omega) (by omega) (by rw [a2 _ (by omega), up2_row (by omega)]; exact q1 c (by omega)) ?_
              refine wq_iast 173 rfl rfl hG.a_work.1 hG.a_work.2 (by omega) (by omega) (by omega) ?_
              refine we_inc 6 1 ((c + 1 : Nat) : Int) 176 _ rfl rfl rfl (by omega) (by omega) rfl ?_
              refine wq_s 150 rfl ?_
              refine ih_c (c + 1) _ (by omega) (by omega) ?_ ?_
              · intro c1 g
                by_cases hc1 : c1 = c
                · subst hc1
                  exact up2_at
                · exact (up2_ne (Or.inr (by omega))).trans (a1 c1 (by omega))
              · intro a ha
                exact (up2_row ha).trans (a2 a ha)
        have L_109 : ∀ (f2 e : Nat), 9 - e < f2 → e ≤ 9 → (tt ≤ e) → (lbN (B cl) tt = lbF (B cl) (9 - (e - tt)) e) → (B cl / 2 ^ e ≠ 0) → Wq (d + 6) k_X9_search 109 [some (vR o), some (vI ((n : Nat) : Int)), some (vI ((k : Nat) : Int)), some (vI ((81 * (S2.2.2.2.1 - 1) : Nat) : Int)), some (vI ((cl : Nat) : Int)), some (vI ((e : Nat) : Int)), y6] [] G M2 (fun z M' => (z = some (vI (((srchF gv n S).2.2.2.2.1 : Nat) : Int)) ∧ (0 ≤ (n : Int) ∧ (n : Int) ≤ 300) ∧ RefSt M' o gv X C T en nd (srchF gv n S) ∧ FrO M M' o) ∨ (z = some (vI (-1)) ∧ ¬ (0 ≤ (n : Int) ∧ (n : Int) ≤ 300) ∧ M' = M)) := by
          intro f2
          induction f2 with
          | zero => intro e h; exact absurd h (by omega)
          | succ f2 ih_e =>
            intro e hf_e hk_e he1 he2 he3
            have hel := lb_lt hBc he3
            obtain ⟨w, hw⟩ : ∃ w, w = B cl / 2 ^ e := ⟨_, rfl⟩
            have hw9 : w < 512 := by
              rw [hw]
              exact Nat.lt_of_le_of_lt (Nat.div_le_self _ _) hBc
            refine wq_s 110 rfl ?_
            refine wq_getR 113 rfl rfl hG.ob hG.2.2.1 rfl ?_
            refine wq_s 114 rfl ?_
            refine wq_s 116 rfl ?_
            refine we_add (((81 * (S2.2.2.2.1 - 1)) + cl : Nat) : Int) 117 rfl rfl (by omega) (by omega) ?_
            refine wq_iald (v := ((B cl : Nat) : Int)) 118 rfl rfl hG.a_level1.1.2 hG.a_level1.2 (by omega) (by omega) (by omega) (q1 cl hcl) ?_
            refine wq_s 120 rfl ?_
            refine we_shr (B cl) e w 121 rfl rfl rfl rfl (by omega) (by omega) hw.symm ?_
            refine wq_s 122 rfl ?_
            refine we_and w 1 (w % 2) 123 rfl rfl rfl rfl (by omega) (and_1 _) ?_
            refine wq_if 132 rfl rfl (by omega) (fun c_123 => ?_) (fun c_123 => ?_)
            · have c_123 := of_decide_eq_true c_123
              have eE : e = lbN (B cl) tt := by
                rw [he2, show 9 - (e - tt) = 8 - (e - tt) + 1 by omega]
                exact (if_pos (by rw [← hw]; omega)).symm
              refine wq_s 133 rfl ?_
              refine wq_getR 136 rfl rfl hG.ob hG.2.2.1 rfl ?_
              refine wq_s 137 rfl ?_
              refine wq_getE (v := ((S2.2.2.2.1 : Nat) : Int)) 39 140 rfl rfl hG.ob hG.2.2.1 rfl rfl e4 ?_
              refine wq_s 141 rfl ?_
              refine we_sub ((S2.2.2.2.1 - 1 : Nat) : Int) 142 rfl rfl (by omega) (by omega) ?_
              refine wq_s 144 rfl ?_
              refine wq_s 145 rfl ?_
              refine we_add ((e + 1 : Nat) : Int) 146 rfl rfl (by omega) (by omega) ?_
              refine wq_iast 147 rfl rfl hG.a_triedAt.1 hG.a_triedAt.2 (by omega) (by omega) (by omega) ?_
              refine wq_s 148 rfl ?_
              refine wq_s 150 rfl ?_
              subst eE
              exact L_150 82 0 _ (by omega) (by omega) (fun c h => absurd h (Nat.not_lt_zero _)) (fun a ha => rfl)
            · have c_123 := of_decide_eq_false c_123
              refine we_inc 5 1 ((e + 1 : Nat) : Int) 129 _ rfl rfl rfl (by omega) (by omega) rfl ?_
              refine wq_s 109 rfl ?_
              exact ih_e (e + 1) (by omega) (by omega) (by omega) (by rw [he2, show 9 - (e - tt) = 9 - (e + 1 - tt) + 1 by omega]; exact if_neg (by rw [← hw]; omega)) (lb_next he3 (by rw [← hw]; omega))
        refine wq_s 75 rfl ?_
        refine wq_s 76 rfl ?_
        refine wq_getE (v := ((S2.2.2.2.1 : Nat) : Int)) 39 79 rfl rfl hG.ob hG.2.2.1 rfl rfl e4 ?_
        refine wq_s 80 rfl ?_
        refine we_sub ((S2.2.2.2.1 - 1 : Nat) : Int) 81 rfl rfl (by omega) (by omega) ?_
        refine we_mul ((81 * (S2.2.2.2.1 - 1) : Nat) : Int) 82 rfl rfl (by omega) (by omega) ?_
        refine wq_s 83 rfl ?_
        refine wq_s 84 rfl ?_
        refine wq_getR 87 rfl rfl hG.ob hG.2.2.1 rfl ?_
        refine wq_s 88 rfl ?_
        refine wq_getE (v := ((S2.2.2.2.1 : Nat) : Int)) 39 91 rfl rfl hG.ob hG.2.2.1 rfl rfl e4 ?_
        refine wq_s 92 rfl ?_
        refine we_sub ((S2.2.2.2.1 - 1 : Nat) : Int) 93 rfl rfl (by omega) (by omega) ?_
        refine wq_iald (v := ((cl : Nat) : Int)) 94 rfl rfl hG.a_cellAt.1.2 hG.a_cellAt.2 (by omega) (by omega) (by omega) q2 ?_
        refine wq_s 96 rfl ?_
        refine wq_s 97 rfl ?_
        refine wq_getR 100 rfl rfl hG.ob hG.2.2.1 rfl ?_
        refine wq_s 101 rfl ?_
        refine wq_getE (v := ((S2.2.2.2.1 : Nat) : Int)) 39 104 rfl rfl hG.ob hG.2.2.1 rfl rfl e4 ?_
        refine wq_s 105 rfl ?_
        refine we_sub ((S2.2.2.2.1 - 1 : Nat) : Int) 106 rfl rfl (by omega) (by omega) ?_
        refine wq_iald (v := ((tt : Nat) : Int)) 107 rfl rfl hG.a_triedAt.1.2 hG.a_triedAt.2 (by omega) (by omega) (by omega) q3 ?_
        refine wq_s 109 rfl ?_
        exact L_109 10 tt (by omega) (by omega) (by omega) (by rw [Nat.sub_self]; rfl) g3
theorem searchN {d : Nat} {G : GT} {M : MT} {o : Nat} {gv X C : Nat → Nat} {T : List GSt} {en : Nat} {nd : List Nat} {S : SrS} (hG : RefG G o) (hS : RefSt M o gv X C T en nd S) (hI : SrI S) {n : Nat} (hn : n ≤ 300) (ht : S.2.2.1 + n ≤ 1000000) : Wq (d + 6) k_X9_search 13 [some (vR o), some (vI (n : Int)), none, none, none, none, none] [] G M (fun z M' => (z = some (vI (((srchF gv n S).2.2.2.2.1 : Nat) : Int)) ∧ (0 ≤ (n : Int) ∧ (n : Int) ≤ 300) ∧ RefSt M' o gv X C T en nd (srchF gv n S) ∧ FrO M M' o) ∨ (z = some (vI (-1)) ∧ ¬ (0 ≤ (n : Int) ∧ (n : Int) ≤ 300) ∧ M' = M)) := by
  obtain ⟨e1, e2, e3, e4, e5, e6, e7⟩ := id hS.2.2.2.2.2.2.2
  obtain ⟨i1, i2, i3, i4, i5, i6⟩ := id hI.1
  have hbo := begF_ok (gv := gv) hI
  have L_27 : ∀ (f c : Nat) (M3 : MT), 81 - c < f → c ≤ 81 → (S.1 = 0) → (∀ c1, c1 < c → M3 (o + 26) (c1 : Int) = ((fstF gv c1 : Nat) : Int)) → (∀ a, a ≠ o + 26 → M3 a = (up2 M o 40 1) a) → Wq (d + 6) k_X9_search 27 [some (vR o), some (vI ((n : Nat) : Int)), some (vI ((c : Nat) : Int)), none, none, none, none] [] G M3 (fun z M' => (z = some (vI (((srchF gv n S).2.2.2.2.1 : Nat) : Int)) ∧ (0 ≤ (n : Int) ∧ (n : Int) ≤ 300) ∧ RefSt M' o gv X C T en nd (srchF gv n S) ∧ FrO M M' o) ∨ (z = some (vI (-1)) ∧ ¬ (0 ≤ (n : Int) ∧ (n : Int) ≤ 300) ∧ M' = M)) := by
    intro f
    induction f with
    | zero => intro c M3 h; exact absurd h (by omega)
    | succ f ih_c =>
      intro c M3 hf_c hk_c hb0 a1 a2
      refine wq_s 28 rfl ?_
      refine wq_s 30 rfl ?_
      refine wq_icmp 51 rfl rfl (by omega) (by omega) (fun c_30 => ?_) (fun c_30 => ?_)
      · have c_30 := of_decide_eq_true c_30
        have e9 : c = 81 := by omega
        subst e9
        have hW3 : AtB M3 (o + 26) (fstF gv) := fun c hc => ⟨a1 c hc, (hS.2.1 c hc).2⟩
        have hS3 : RefSr M3 o (1, S.2) := by
          refine ⟨?_, ?_, ?_, ?_, ?_, fun i hi => ?_, fun k hk c hc => ?_⟩
          · rw [a2 _ (by omega), up2_at]
            rfl
          · rw [a2 _ (by omega), up2_ne (Or.inr (by decide))]; exact e2
          · rw [a2 _ (by omega), up2_ne (Or.inr (by decide))]; exact e3
          · rw [a2 _ (by omega), up2_ne (Or.inr (by decide))]; exact e4
          · rw [a2 _ (by omega), up2_ne (Or.inr (by decide))]; exact e5
          · rw [a2 _ (by omega), up2_row (by omega), a2 _ (by omega), up2_row (by omega), a2 _ (by omega), up2_row (by omega)]
            exact e6 i hi
          · rw [a2 _ (by omega), up2_row (by omega)]
            exact e7 k hk c hc
        have hF3 : FrM M M3 o := ⟨fun a h1 h2 h3 => by rw [a2 a (by omega), up2_row h1], fun i hi => by rw [a2 o (by omega), up2_ne (Or.inr (by omega))]⟩
        obtain ⟨z1, z2⟩ := hI.2.1 hb0
        have hJm : SrJ (meetF (fstF gv) (1, S.2)) := (meet_ok (W := fstF gv) (S := (1, S.2)) ⟨⟨Nat.le_refl _, i2, i3, i4, i5, i6⟩, rfl, hI.2.2.2⟩ (show S.2.2.2.2.1 ≤ 1 by omega) (show S.2.2.2.1 ≤ _ by rw [z1]; exact Nat.zero_le _)).1
        refine wq_s 52 rfl ?_
        refine wq_vt0 55 rfl rfl (Nat.le_of_ble_eq_true rfl) hG.ob hG.2.2.1 rfl (Nat.le_of_ble_eq_true rfl) (c_X9_meets hG hW3 hS3 i4 (show S.2.2.2.2.1 ≤ 1 by omega)) (fun z M6 hz => ?_)
        obtain ⟨rfl, hS6, hF6⟩ := hz
        dsimp only [Option.toList, List.cons_append, List.nil_append]
        refine wq_s 56 rfl ?_
        refine wq_vt0 59 rfl rfl (Nat.le_of_ble_eq_true rfl) hG.ob hG.2.2.1 rfl (Nat.le_of_ble_eq_true rfl) (c_X9_leaves hG hS6 (by have := hJm.1.2.2.2.1; omega) hJm.1.2.2.2.2.1 hJm.1.2.2.2.2.2) (fun z M7 hz => ?_)
        obtain ⟨rfl, hS7, hF7⟩ := hz
        dsimp only [Option.toList, List.cons_append, List.nil_append]
        have hbf : begF gv S = leaveF (meetF (fstF gv) (1, S.2)) := if_pos hb0
        rw [← hbf] at hS7
        refine wq_s 60 rfl ?_
        refine wq_s 61 rfl ?_
        exact search61 hG hS hI hn ht (n + 1) 0 (begF gv S) M7 _ _ _ _ (by omega) (by omega) hS7 hbo.1 hbo.2.1 (by have := hbo.2.2; omega) (by rw [Nat.sub_zero]; rfl) ((hF3.trans hF6).trans hF7)
      · have c_30 := of_decide_eq_false c_30
        refine wq_s 34 rfl ?_
        refine wq_getR 37 rfl rfl hG.ob hG.2.2.1 rfl ?_
        refine wq_s 38 rfl ?_
        refine wq_s 39 rfl ?_
        refine wq_getR 42 rfl rfl hG.ob hG.2.2.1 rfl ?_
        refine wq_s 43 rfl ?_
        refine wq_iald (v := ((fstF gv c : Nat) : Int)) 44 rfl rfl hG.a_first.1.2 hG.a_first.2 (by omega) (by omega) (by omega) (by rw [a2 _ (by omega), up2_row (by omega)]; exact (hS.2.1 c (by omega)).1) ?_
        refine wq_iast 45 rfl rfl hG.a_work.1 hG.a_work.2 (by omega) (by omega) (by omega) ?_
        refine we_inc 2 1 ((c + 1 : Nat) : Int) 48 _ rfl rfl rfl (by omega) (by omega) rfl ?_
        refine wq_s 27 rfl ?_
        refine ih_c (c + 1) _ (by omega) (by omega) hb0 ?_ ?_
        · intro c1 g
          by_cases hc1 : c1 = c
          · subst hc1
            exact up2_at
          · exact (up2_ne (Or.inr (by omega))).trans (a1 c1 (by omega))
        · intro a ha
          exact (up2_row ha).trans (a2 a ha)
  refine wq_s 14 rfl ?_
  refine wq_getE (v := ((S.1 : Nat) : Int)) 40 17 rfl rfl hG.ob hG.2.2.1 rfl rfl e1 ?_
  refine wq_if 59 rfl rfl (by omega) (fun c_17 => ?_) (fun c_17 => ?_)
  · have c_17 := of_decide_eq_true c_17
    refine wq_s 60 rfl ?_
    refine wq_s 61 rfl ?_
    exact search61 hG hS hI hn ht (n + 1) 0 S M _ _ _ _ (by omega) (by omega) hS.2.2.2.2.2.2.2 hI (by omega) (by omega) (by rw [Nat.sub_zero]; unfold srchF begF; rw [if_neg (by omega)]) (FrM.refl M o)
  · have c_17 := of_decide_eq_false c_17
    refine wq_s 21 rfl ?_
    refine wq_s 22 rfl ?_
    refine wq_putE 40 25 rfl rfl hG.ob hG.2.2.1 rfl (by decide) (by decide) rfl ?_
    refine wq_s 26 rfl ?_
    refine wq_s 27 rfl ?_
    exact L_27 82 0 _ (by omega) (by omega) (by omega) (fun c h => absurd h (Nat.not_lt_zero _)) (fun a _ => rfl)
theorem c_X9_search {d : Nat} {G : GT} {M : MT} {o : Nat} {gv X C : Nat → Nat} {T : List GSt} {en : Nat} {nd : List Nat} {S : SrS} (hG : RefG G o) (hS : RefSt M o gv X C T en nd S) (hI : SrI S) {n : Int} (hn : R32 n) (ht : S.2.2.1 + 300 ≤ 1000000) : Mq (d + 6) k_X9_search [vR o, vI n] G M (fun z M' => (z = some (vI (((srchF gv n.toNat S).2.2.2.2.1 : Nat) : Int)) ∧ (0 ≤ n ∧ n ≤ 300) ∧ RefSt M' o gv X C T en nd (srchF gv n.toNat S) ∧ FrO M M' o) ∨ (z = some (vI (-1)) ∧ ¬ (0 ≤ n ∧ n ≤ 300) ∧ M' = M)) := by
  refine wq_s 1 rfl ?_
  refine wq_s 2 rfl ?_
  refine wq_s 5 rfl ?_
  refine wq_st3 8 rfl rfl (by decide) (Nat.le_of_ble_eq_true rfl) rfl (Nat.le_of_ble_eq_true rfl) (c_X9_in (by omega) (by omega) (by omega)) (fun r M1 hr => ?_)
  obtain ⟨rfl, hM1⟩ := hr
  subst M1
  dsimp only [Option.toList, List.cons_append, List.nil_append]
  refine wq_if 13 rfl rfl iteR (fun c_8 => ?_) (fun c_8 => ?_)
  · have c_8 := of_decide_eq_true c_8
    have c_8 := ite1.mp c_8
    obtain ⟨w, e_w⟩ := Int.eq_ofNat_of_zero_le c_8.1
    subst e_w
    exact searchN hG hS hI (n := w) (by omega) (by omega)
  · have c_8 := of_decide_eq_false c_8
    have c_8 := iteN.mp c_8
    refine wq_s 12 rfl ?_
    exact wq_ret rfl (Or.inr ⟨rfl, c_8, rfl⟩)
