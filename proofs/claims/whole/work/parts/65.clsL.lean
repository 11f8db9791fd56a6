/-! subsets: what goes is the same -/
theorem gsF_hitY {h : Int} {c : Nat → Bool} {v x : Int} {Y : Int → Int} : ∀ k, (∃ j, j < k ∧ c j = true ∧ x = cellF h (j : Int)) → gsF h c v Y k x = v := by
  intro k
  induction k with
  | zero => rintro ⟨j, hj, -⟩; exact absurd hj (Nat.not_lt_zero _)
  | succ k ih =>
    rintro ⟨j, h1, h2, h3⟩
    by_cases hk : c k = true ∧ x = cellF h (k : Int)
    · rw [gsF_t hk.1]
      exact if_pos hk.2
    · have hj : j < k := by
        by_cases hjk : j = k
        · subst hjk
          exact absurd ⟨h2, h3⟩ hk
        · omega
      have e := ih ⟨j, hj, h2, h3⟩
      by_cases hc : c k = true
      · rw [gsF_t hc]
        exact (if_neg (fun z => hk ⟨hc, z⟩)).trans e
      · rw [gsF_f (by cases hb : c k with | true => exact absurd hb hc | false => rfl)]
        exact e
theorem gsF_misY {h : Int} {c : Nat → Bool} {v x : Int} {Y : Int → Int} : ∀ k, ¬ (∃ j, j < k ∧ c j = true ∧ x = cellF h (j : Int)) → gsF h c v Y k x = Y x := by
  intro k
  induction k with
  | zero => intro _; rfl
  | succ k ih =>
    intro hn
    have e := ih (fun ⟨j, h1, h2⟩ => hn ⟨j, by omega, h2⟩)
    by_cases hc : c k = true
    · rw [gsF_t hc]
      exact (if_neg (fun z => hn ⟨k, by omega, hc, z⟩)).trans e
    · rw [gsF_f (by cases hb : c k with | true => exact absurd hb hc | false => rfl)]
      exact e
theorem fshR_hit {f : Int} {q ac : Nat} {v x : Int} : ∀ b, (∃ i, i < b ∧ ∃ j, j < 9 ∧ (!bitB q i && bitB ac j) = true ∧ x = cellF (f + (i : Int)) (j : Int)) → fshR f q ac v zrF b x = v := by
  intro b
  induction b with
  | zero => rintro ⟨i, hi, -⟩; exact absurd hi (Nat.not_lt_zero _)
  | succ b ih =>
    rintro ⟨i, h1, j, h2, h3, h4⟩
    show gsF (f + (b : Int)) (fun k => !bitB q b && bitB ac k) v (fshR f q ac v zrF b) 9 x = v
    by_cases hb : ∃ j, j < 9 ∧ (!bitB q b && bitB ac j) = true ∧ x = cellF (f + (b : Int)) (j : Int)
    · exact gsF_hitY 9 hb
    · rw [gsF_misY 9 hb]
      refine ih ⟨i, ?_, j, h2, h3, h4⟩
      by_cases hib : i = b
      · subst hib
        exact absurd ⟨j, h2, h3, h4⟩ hb
      · omega
theorem fshR_mis {f : Int} {q ac : Nat} {v x : Int} : ∀ b, ¬ (∃ i, i < b ∧ ∃ j, j < 9 ∧ (!bitB q i && bitB ac j) = true ∧ x = cellF (f + (i : Int)) (j : Int)) → fshR f q ac v zrF b x = 0 := by
  intro b
  induction b with
  | zero => intro _; rfl
  | succ b ih =>
    intro hn
    show gsF (f + (b : Int)) (fun k => !bitB q b && bitB ac k) v (fshR f q ac v zrF b) 9 x = 0
    rw [gsF_misY 9 (fun ⟨j, h1, h2, h3⟩ => hn ⟨b, by omega, j, h1, h2, h3⟩)]
    exact ih (fun ⟨i, h1, h2⟩ => hn ⟨i, by omega, h2⟩)
theorem hdU_tb (Hd : Nat → Nat) (cl m c x : Nat) : (hdU Hd cl m c).testBit x = true ↔ ((Hd c).testBit x = true ∨ (c = cl ∧ m.testBit x = true)) := by
  unfold hdU
  by_cases h : c = cl
  · rw [if_pos h, Nat.testBit_or, Bool.or_eq_true]
    exact ⟨fun z => z.elim Or.inl (fun z => Or.inr ⟨h, z⟩), fun z => z.elim Or.inl (fun z => Or.inr z.2)⟩
  · rw [if_neg h]
    exact ⟨Or.inl, fun z => z.elim id (fun z => absurd z.1 h)⟩
theorem and_tb (a b x : Nat) : (a &&& b).testBit x = true ↔ (a.testBit x = true ∧ b.testBit x = true) := by
  rw [Nat.testBit_and, Bool.and_eq_true]
theorem sm1_tb {X : Nat → Nat} {r p v u : Nat} (hk : kdN r = 1) : ∀ k c x, (smF X r p v u k c).testBit x = true ↔ ∃ i, i < k ∧ ¬ v / 2 ^ i % 2 = 1 ∧ c = ceN p i ∧ (X c).testBit x = true ∧ u.testBit x = true := by
  intro k
  induction k with
  | zero =>
    intro c x
    show (0 : Nat).testBit x = true ↔ _
    rw [Nat.zero_testBit]
    exact ⟨fun z => (by cases z), fun ⟨i, h, _⟩ => absurd h (Nat.not_lt_zero _)⟩
  | succ k ih =>
    intro c x
    show ((if v / 2 ^ k % 2 = 1 then smF X r p v u k else mfF X r p k (mkN X r p k &&& u) (smF X r p v u k)) c).testBit x = true ↔ _
    by_cases hb : v / 2 ^ k % 2 = 1
    · rw [if_pos hb, ih c x]
      constructor
      · rintro ⟨i, h1, h2⟩
        exact ⟨i, by omega, h2⟩
      · rintro ⟨i, h1, h2, h3⟩
        refine ⟨i, ?_, h2, h3⟩
        by_cases hik : i = k
        · rw [hik] at h2
          exact absurd hb h2
        · omega
    · rw [if_neg hb, show mfF X r p k (mkN X r p k &&& u) (smF X r p v u k) = hdU (smF X r p v u k) (ceN p k) (X (ceN p k) &&& (mkN X r p k &&& u)) from if_pos hk, hdU_tb, ih c x, and_tb, and_tb, show mkN X r p k = X (ceN p k) from if_pos hk]
      constructor
      · rintro (⟨i, h1, h2⟩ | ⟨h1, h2, h3, h4⟩)
        · exact ⟨i, by omega, h2⟩
        · exact ⟨k, by omega, hb, h1, by rw [h1]; exact h2, h4⟩
      · rintro ⟨i, h1, h2, h3, h4, h5⟩
        by_cases hik : i = k
        · subst hik
          exact Or.inr ⟨h3, by rw [← h3]; exact h4, by rw [← h3]; exact h4, h5⟩
        · exact Or.inl ⟨i, by omega, h2, h3, h4, h5⟩
theorem sm2_tb {X : Nat → Nat} {r p v u : Nat} (hk : kdN r = 2) : ∀ k c x, (smF X r p v u k c).testBit x = true ↔ (x < k ∧ ¬ v / 2 ^ x % 2 = 1 ∧ ∃ j, j < 9 ∧ (X (ceN p j)).testBit x = true ∧ u.testBit j = true ∧ c = ceN p j) := by
  intro k
  induction k with
  | zero =>
    intro c x
    show (0 : Nat).testBit x = true ↔ _
    rw [Nat.zero_testBit]
    exact ⟨fun z => (by cases z), fun ⟨h, _⟩ => absurd h (Nat.not_lt_zero _)⟩
  | succ k ih =>
    intro c x
    show ((if v / 2 ^ k % 2 = 1 then smF X r p v u k else mfF X r p k (mkN X r p k &&& u) (smF X r p v u k)) c).testBit x = true ↔ _
    by_cases hb : v / 2 ^ k % 2 = 1
    · rw [if_pos hb, ih c x]
      constructor
      · rintro ⟨h1, h2⟩
        exact ⟨by omega, h2⟩
      · rintro ⟨h1, h2, h3⟩
        refine ⟨?_, h2, h3⟩
        by_cases hik : x = k
        · rw [hik] at h2
          exact absurd hb h2
        · omega
    · rw [if_neg hb, show mfF X r p k (mkN X r p k &&& u) (smF X r p v u k) = hpF (smF X r p v u k) p k (plH X p k &&& (mkN X r p k &&& u)) 9 from (if_neg (by omega)).trans (if_pos hk), hpF_tb, ih c x, show mkN X r p k = plH X p k from (if_neg (by omega)).trans (if_pos hk)]
      constructor
      · rintro (⟨h1, h2⟩ | ⟨h1, j, h2, h3, h4⟩)
        · exact ⟨by omega, h2⟩
        · rw [and_tb, and_tb, plH_tb] at h3
          exact ⟨by omega, by rw [h1]; exact hb, j, h2, by rw [h1]; exact h3.1.2, h3.2.2, h4⟩
      · rintro ⟨h1, h2, j, h3, h4, h5, h6⟩
        by_cases hik : x = k
        · subst hik
          refine Or.inr ⟨rfl, j, h3, ?_, h6⟩
          rw [and_tb, and_tb, plH_tb]
          exact ⟨⟨h3, h4⟩, ⟨h3, h4⟩, h5⟩
        · exact Or.inl ⟨by omega, h2, j, h3, h4, h5, h6⟩
theorem sm3_tb {X : Nat → Nat} {r p v u : Nat} (hk : kdN r = 3) : ∀ k c x, (smF X r p v u k c).testBit x = true ↔ (x = dgN p - 1 ∧ ∃ i, i < k ∧ ¬ v / 2 ^ i % 2 = 1 ∧ ∃ j, j < 9 ∧ (X (ceN (blN p i) j)).testBit (dgN p - 1) = true ∧ u.testBit j = true ∧ c = ceN (blN p i) j) := by
  intro k
  induction k with
  | zero =>
    intro c x
    show (0 : Nat).testBit x = true ↔ _
    rw [Nat.zero_testBit]
    exact ⟨fun z => (by cases z), fun ⟨_, i, h, _⟩ => absurd h (Nat.not_lt_zero _)⟩
  | succ k ih =>
    intro c x
    show ((if v / 2 ^ k % 2 = 1 then smF X r p v u k else mfF X r p k (mkN X r p k &&& u) (smF X r p v u k)) c).testBit x = true ↔ _
    by_cases hb : v / 2 ^ k % 2 = 1
    · rw [if_pos hb, ih c x]
      constructor
      · rintro ⟨h0, i, h1, h2⟩
        exact ⟨h0, i, by omega, h2⟩
      · rintro ⟨h0, i, h1, h2, h3⟩
        refine ⟨h0, i, ?_, h2, h3⟩
        by_cases hik : i = k
        · rw [hik] at h2
          exact absurd hb h2
        · omega
    · rw [if_neg hb, show mfF X r p k (mkN X r p k &&& u) (smF X r p v u k) = hpF (smF X r p v u k) (blN p k) (dgN p - 1) (plH X (blN p k) (dgN p - 1) &&& (mkN X r p k &&& u)) 9 from (if_neg (by omega)).trans (if_neg (by omega)), hpF_tb, ih c x, show mkN X r p k = plH X (blN p k) (dgN p - 1) from (if_neg (by omega)).trans (if_neg (by omega))]
      constructor
      · rintro (⟨h0, i, h1, h2⟩ | ⟨h1, j, h2, h3, h4⟩)
        · exact ⟨h0, i, by omega, h2⟩
        · rw [and_tb, and_tb, plH_tb] at h3
          exact ⟨h1, k, by omega, hb, j, h2, h3.1.2, h3.2.2, h4⟩
      · rintro ⟨h0, i, h1, h2, j, h3, h4, h5, h6⟩
        by_cases hik : i = k
        · subst hik
          refine Or.inr ⟨h0, j, h3, ?_, h6⟩
          rw [and_tb, and_tb, plH_tb]
          exact ⟨⟨h3, h4⟩, ⟨h3, h4⟩, h5⟩
        · exact Or.inl ⟨h0, i, by omega, h2, j, h3, h4, h5, h6⟩
theorem sm_ins {X : Nat → Nat} {r p v : Nat} (hr : 4 ≤ r ∧ r < 13) (hp : p < 27) (hv : v < 512) (hI : insC X (r : Int) (p : Int) (v : Int)) (c : Nat) : smF X r p v (uN (mkN X r p) v 9) 9 c = insY X (r : Int) (p : Int) (v : Int) c := by
  obtain ⟨hL, -, -⟩ := (insC_sub hr hp hv).1 hI
  obtain ⟨k1, k2, k3, k4, k5⟩ := kd_all ⟨r, hr.2⟩ hr.1
  dsimp only at k1 k2 k3 k4 k5
  have h0t : ∀ x, ((0 : Int).toNat).testBit x = true ↔ False := fun x => by
    show (0 : Nat).testBit x = true ↔ False
    rw [Nat.zero_testBit]
    exact ⟨fun z => (by cases z), fun z => z.elim⟩
  apply tb_ext
  intro x
  unfold insY
  rw [cI_t hI, and_tb]
  rcases (show kdN r = 1 ∨ kdN r = 2 ∨ kdN r = 3 by omega) with hk | hk | hk
  · rw [sm1_tb hk]
    rw [show insG X (r : Int) (p : Int) (v : Int) = nakG X (p : Int) (v : Int) zrF from by
      unfold insG
      rw [if_neg (by omega), if_neg (by omega), if_neg (by omega), if_neg (by omega), if_pos (by omega)]]
    unfold nakG
    rw [Int.toNat_natCast, unN_u hk]
    by_cases hq : ∃ j : Nat, j < 9 ∧ (!bitB v j) = true ∧ (c : Int) = cellF (p : Int) (j : Int)
    · rw [gsF_hitY 9 hq, Int.toNat_natCast]
      obtain ⟨j, j1, j2, j3⟩ := hq
      rw [ceF hp j1] at j3
      constructor
      · rintro ⟨i, -, -, -, h4, h5⟩
        exact ⟨h5, h4⟩
      · rintro ⟨h5, h4⟩
        refine ⟨j, j1, fun z => ?_, by omega, h4, h5⟩
        rw [show bitB v j = true from decide_eq_true z] at j2
        cases j2
    · rw [gsF_misY 9 hq, show zrF (c : Int) = 0 from rfl, h0t]
      constructor
      · rintro ⟨i, h1, h2, h3, -⟩
        refine absurd ⟨i, h1, ?_, by rw [h3, ceF hp h1]⟩ hq
        rw [show bitB v i = false from decide_eq_false h2]
        rfl
      · rintro ⟨z, -⟩
        exact z.elim
  · rw [sm2_tb hk]
    rw [show insG X (r : Int) (p : Int) (v : Int) = hidG X (p : Int) (v : Int) zrF from by
      unfold insG
      rw [if_neg (by omega), if_neg (by omega), if_neg (by omega), if_neg (by omega), if_neg (by omega), if_pos (by omega)]]
    unfold hidG
    rw [Int.toNat_natCast]
    by_cases hq : ∃ j : Nat, j < 9 ∧ hitB X (p : Int) v j = true ∧ (c : Int) = cellF (p : Int) (j : Int)
    · rw [gsF_hitY 9 hq, Int.toNat_natCast, andN_tb, show (511 : Nat) = 2 ^ 9 - 1 from rfl, Nat.testBit_two_pow_sub_one, decide_eq_true_iff, tb_div v x]
      obtain ⟨j, j1, j2, j3⟩ := hq
      rw [ceF hp j1] at j3
      have hcj : c = ceN p j := by omega
      constructor
      · rintro ⟨h1, h2, i, h3, h4, h5, h6⟩
        exact ⟨⟨h1, h2⟩, by rw [h6]; exact h4⟩
      · rintro ⟨⟨h1, h2⟩, h3⟩
        exact ⟨h1, h2, j, j1, by rw [← hcj]; exact h3, (hid_u hk hv).2 ⟨j1, j2⟩, hcj⟩
    · rw [gsF_misY 9 hq, show zrF (c : Int) = 0 from rfl, h0t]
      constructor
      · rintro ⟨h1, h2, i, h3, h4, h5, h6⟩
        exact absurd ⟨i, h3, ((hid_u hk hv).1 h5).2, by rw [h6, ceF hp h3]⟩ hq
      · rintro ⟨z, -⟩
        exact z.elim
  · have h9 := hL.2.2 hk
    obtain ⟨b1, b2⟩ := bl_ok hp h9
    have hbl : ∀ i, i < 9 → blN p i < 27 := fun i hi => by unfold blN; split <;> omega
    rw [sm3_tb hk]
    rw [show insG X (r : Int) (p : Int) (v : Int) = fshG X (fof (p : Int)) (fdg (p : Int)) (v : Int) zrF from by
      unfold insG
      rw [if_neg (by omega), if_neg (by omega), if_neg (by omega), if_neg (by omega), if_neg (by omega), if_neg (by omega)]]
    unfold fshG
    rw [Int.toNat_natCast, acN_u hp hk h9, b2, show (((dgN p : Nat) : Int) - 1).toNat = dgN p - 1 by omega]
    by_cases hq : ∃ i : Nat, i < 9 ∧ ∃ j : Nat, j < 9 ∧ (!bitB v i && bitB (uN (mkN X r p) v 9) j) = true ∧ (c : Int) = cellF (fof (p : Int) + (i : Int)) (j : Int)
    · rw [fshR_hit 9 hq, Int.toNat_natCast, pow_tb]
      obtain ⟨i, i1, j, j1, j2, j3⟩ := hq
      rw [b1 i, ceF (hbl i i1) j1] at j3
      have hcj : c = ceN (blN p i) j := by omega
      rw [Bool.and_eq_true, bitB_tb] at j2
      constructor
      · rintro ⟨h0, i', h1, h2, j', h3, h4, h5, h6⟩
        exact ⟨h0, by rw [h0, h6]; exact h4⟩
      · rintro ⟨h0, h1⟩
        refine ⟨h0, i, i1, fun z => ?_, j, j1, by rw [← hcj, ← h0]; exact h1, j2.2, hcj⟩
        rw [show bitB v i = true from decide_eq_true z] at j2
        exact absurd j2.1 (by decide)
    · rw [fshR_mis 9 hq, h0t]
      constructor
      · rintro ⟨h0, i', h1, h2, j', h3, h4, h5, h6⟩
        refine absurd ⟨i', h1, j', h3, ?_, by rw [b1 i', ceF (hbl i' h1) h3, h6]⟩ hq
        rw [show bitB v i' = false from decide_eq_false h2, (bitB_tb _ _).2 h5]
        rfl
      · rintro ⟨z, -⟩
        exact z.elim
theorem cnt_pos (Y : Nat → Nat) : 0 < cntX Y ↔ ∃ c x, c < 81 ∧ x < 9 ∧ (Y c).testBit x = true := by
  rw [← thL_cntX]
  constructor
  · intro h
    have h1 := thL_at (X := Y) (n := 729) (j := 0) h
    exact ⟨(thL Y 729).getD 0 0 / 9, (thL Y 729).getD 0 0 % 9, by omega, by omega, (hasN_tb _ _).1 h1.2⟩
  · rintro ⟨c, x, h1, h2, h3⟩
    obtain ⟨j, j1, -⟩ := (thL_mem Y 729 (9 * c + x)).2 ⟨by omega, by rw [hasN_tb, show (9 * c + x) / 9 = c by omega, show (9 * c + x) % 9 = x by omega]; exact h3⟩
    omega
theorem tch_ins {X : Nat → Nat} {r p v : Nat} (hX : ∀ c, c < 81 → X c < 512) (hL : LdC r p) (hv : v < 512) (hs : pop9 v = sizeN r) : 0 < insN X (r : Int) (p : Int) (v : Int) ↔ Tch (mkN X r p) (sizeN r) v := by
  obtain ⟨hr, hp, hf⟩ := id hL
  obtain ⟨k1, k2, k3, k4, k5⟩ := kd_all ⟨r, hr.2⟩ hr.1
  dsimp only at k1 k2 k3 k4 k5
  have hbl : ∀ i, i < 9 → blN p i < 27 := fun i hi => by unfold blN; split <;> omega
  have hin : insN X (r : Int) (p : Int) (v : Int) = cntX (insY X (r : Int) (p : Int) (v : Int)) := rfl
  constructor
  · intro h
    have hI : insC X (r : Int) (p : Int) (v : Int) := Classical.byContradiction fun z => by
      rw [insN_f z] at h
      exact absurd h (Nat.lt_irrefl _)
    obtain ⟨-, -, h3⟩ := (insC_sub hr hp hv).1 hI
    rw [hin, cnt_pos] at h
    obtain ⟨c, x, c1, c2, c3⟩ := h
    rw [← sm_ins hr hp hv hI] at c3
    refine ⟨h3, ?_⟩
    rcases (show kdN r = 1 ∨ kdN r = 2 ∨ kdN r = 3 by omega) with hk | hk | hk
    · obtain ⟨i, i1, i2, i3, i4, i5⟩ := (sm1_tb hk 9 c x).1 c3
      refine ⟨i, i1, i2, fun z => ?_⟩
      have h9 := (and_tb (mkN X r p i) (uN (mkN X r p) v 9) x).2 ⟨by rw [show mkN X r p i = X (ceN p i) from if_pos hk, ← i3]; exact i4, i5⟩
      rw [z, Nat.zero_testBit] at h9
      cases h9
    · obtain ⟨i1, i2, j, j1, j2, j3, j4⟩ := (sm2_tb hk 9 c x).1 c3
      refine ⟨x, i1, i2, fun z => ?_⟩
      have h9 := (and_tb (mkN X r p x) (uN (mkN X r p) v 9) j).2 ⟨by rw [show mkN X r p x = plH X p x from (if_neg (by omega)).trans (if_pos hk), plH_tb]; exact ⟨j1, j2⟩, j3⟩
      rw [z, Nat.zero_testBit] at h9
      cases h9
    · obtain ⟨-, i, i1, i2, j, j1, j2, j3, j4⟩ := (sm3_tb hk 9 c x).1 c3
      refine ⟨i, i1, i2, fun z => ?_⟩
      have h9 := (and_tb (mkN X r p i) (uN (mkN X r p) v 9) j).2 ⟨by rw [show mkN X r p i = plH X (blN p i) (dgN p - 1) from (if_neg (by omega)).trans (if_neg (by omega)), plH_tb]; exact ⟨j1, j2⟩, j3⟩
      rw [z, Nat.zero_testBit] at h9
      cases h9
  · rintro ⟨h3, i, i1, i2, i3⟩
    have hI : insC X (r : Int) (p : Int) (v : Int) := (insC_sub hr hp hv).2 ⟨hL, hs, h3⟩
    obtain ⟨y, hy⟩ := nz_tb i3
    rw [and_tb] at hy
    rw [hin, cnt_pos]
    rcases (show kdN r = 1 ∨ kdN r = 2 ∨ kdN r = 3 by omega) with hk | hk | hk
    · have hc := (ce_ok hp i1).2.2
      rw [show mkN X r p i = X (ceN p i) from if_pos hk] at hy
      refine ⟨ceN p i, y, hc, tb_lt9 (hX _ hc) hy.1, ?_⟩
      rw [← sm_ins hr hp hv hI, sm1_tb hk]
      exact ⟨i, i1, i2, rfl, hy.1, hy.2⟩
    · rw [show mkN X r p i = plH X p i from (if_neg (by omega)).trans (if_pos hk), plH_tb] at hy
      refine ⟨ceN p y, i, (ce_ok hp hy.1.1).2.2, i1, ?_⟩
      rw [← sm_ins hr hp hv hI, sm2_tb hk]
      exact ⟨i1, i2, y, hy.1.1, hy.1.2, hy.2, rfl⟩
    · have h9 := hf hk
      rw [show mkN X r p i = plH X (blN p i) (dgN p - 1) from (if_neg (by omega)).trans (if_neg (by omega)), plH_tb] at hy
      refine ⟨ceN (blN p i) y, dgN p - 1, (ce_ok (hbl i i1) hy.1.1).2.2, by omega, ?_⟩
      rw [← sm_ins hr hp hv hI, sm3_tb hk]
      exact ⟨rfl, i, i1, i2, y, hy.1.1, hy.1.2, hy.2, rfl⟩
