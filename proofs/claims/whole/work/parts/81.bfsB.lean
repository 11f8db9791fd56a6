/-! what the search finds -/
theorem BfI.uq {X : Nat → Nat} {a : Nat} {Q : List Ent} {H : List Hed} {c : Nat} (h : BfI X a Q H c) {i j : Nat} (hi : i < Q.length) (hj : j < Q.length) (he : qx Q i = qx Q j) : i = j := h.1.1 i j hi hj he
theorem BfI.mono {X : Nat → Nat} {a : Nat} {Q : List Ent} {H : List Hed} {c : Nat} (h : BfI X a Q H c) : ∀ (f j j' : Nat), j' < f → j ≤ j' → j' < Q.length → qp Q j ≤ qp Q j' := by
  intro f
  induction f with
  | zero => intro j j' h1; exact absurd h1 (Nat.not_lt_zero _)
  | succ f ih =>
    intro j j' hf hj hl
    obtain ⟨w, h1, h2, h3, h4, h5, h6⟩ := h.2.2 j (by omega)
    obtain ⟨v, g1, g2, g3, g4, g5, g6⟩ := h.2.2 j' hl
    have l1 := h2.lt
    have l2 := g2.lt
    by_cases hwv : w ≤ v
    · rw [h3, g3]
      refine Nat.succ_le_succ ?_
      cases w with
      | zero => exact Nat.zero_le _
      | succ w =>
        cases v with
        | zero => omega
        | succ v => exact ih w v (by omega) (by omega) (by omega)
    · obtain ⟨j'', k1, k2⟩ := h5 v _ _ g2 (by unfold kyE; omega)
      have := h.uq (by omega) hl k2
      omega
theorem BfI.mn {X : Nat → Nat} {a : Nat} {Q : List Ent} {H : List Hed} {c : Nat} (h : BfI X a Q H c) {j j' : Nat} (hj : j ≤ j') (hl : j' < Q.length) : qp Q j ≤ qp Q j' := h.mono (j' + 1) j j' (Nat.lt_succ_self _) hj hl
theorem BfI.lv {X : Nat → Nat} {a : Nat} {Q : List Ent} {H : List Hed} {c : Nat} (h : BfI X a Q H c) {v w : Nat} (hj : v ≤ w) (hl : w ≤ Q.length) : lvQ Q v ≤ lvQ Q w := by
  cases v with
  | zero => exact Nat.zero_le _
  | succ v =>
    cases w with
    | zero => omega
    | succ w => exact h.mn (by omega) (by omega)
theorem BfI.nxt {X : Nat → Nat} {a : Nat} {Q : List Ent} {H : List Hed} {c w h x : Nat} (hB : BfI X a Q H c) (hT : TrQ X a Q w h x) (hk : kyE w h x < c) : ∃ j, j < Q.length ∧ qx Q j = x ∧ qp Q j ≤ lvQ Q w + 1 := by
  obtain ⟨j, j1, j2⟩ := hB.2.1 w h x hT hk
  refine ⟨j, j1, j2, ?_⟩
  obtain ⟨v, g1, g2, g3, g4, g5, g6⟩ := hB.2.2 j j1
  have l1 := hT.lt
  have l2 := g2.lt
  by_cases hv : v ≤ w
  · rw [g3]
    exact Nat.succ_le_succ (hB.lv hv l1.2.2.1)
  · obtain ⟨j'', k1, k2⟩ := g5 w h x hT (by unfold kyE; omega)
    have := hB.uq (by omega) j1 (k2.trans j2.symm)
    omega
/-- the loop's state at index i -/
def LpI (X : Nat → Nat) (a most : Nat) (Q : List Ent) (H : List Hed) (i : Nat) : Prop := HdI X a Q H ∧ i ≤ Q.length ∧ (∀ j, j < i → ¬ gdR X a (qx Q j)) ∧ ∃ i0, i0 ≤ i ∧ (i0 = i ∨ (i0 < Q.length ∧ most ≤ qp Q i0)) ∧ (∀ j, j < i0 → qp Q j < most) ∧ BfI X a Q H (kyE (i0 + 1) 0 0)
theorem BfI.nogo {X : Nat → Nat} {a : Nat} {Q : List Ent} {H : List Hed} {i0 B : Nat} (hB : BfI X a Q H (kyE (i0 + 1) 0 0)) (hg : ∀ j, j < Q.length → qp Q j ≤ B → ¬ gdR X a (qx Q j)) (hd : ∀ j, j < Q.length → qp Q j < B → j < i0) : ∀ r j, j < Q.length → qp Q j + r ≤ B → ¬ layJ X a (2 * r) (qx Q j) := by
  intro r
  induction r with
  | zero => intro j hj hb; exact hg j hj (by omega)
  | succ r ih =>
    intro j hj hb
    rw [show 2 * (r + 1) = 2 * r + 1 + 1 by omega]
    rintro ⟨h', ⟨x', h1, h2⟩, h3⟩
    have h2 := sgR_sym ((rkR_o (by omega)).1 h2)
    have h3 := wkR_sym ((rkR_e (by omega)).1 h3)
    have hi0 := hd j hj (by omega)
    have hT : TrQ X a Q (j + 1) h' x' := ⟨hj, h3, h2⟩
    have l1 := hT.lt
    obtain ⟨j', j1, j2, j3⟩ := hB.nxt hT (by unfold kyE; omega)
    have j3 : qp Q j' ≤ qp Q j + 1 := j3
    exact ih j' j1 (by omega) (by rw [j2]; exact h1)
theorem BfI.none {X : Nat → Nat} {a : Nat} {Q : List Ent} {H : List Hed} {i0 B : Nat} (hB : BfI X a Q H (kyE (i0 + 1) 0 0)) (hg : ∀ j, j < Q.length → qp Q j ≤ B → ¬ gdR X a (qx Q j)) (hd : ∀ j, j < Q.length → qp Q j < B → j < i0) : ∀ m, 1 ≤ m → m ≤ B → ¬ layJ X a (2 * m - 1) a := by
  intro m h1 h2
  obtain ⟨r, rfl⟩ : ∃ r, m = r + 1 := ⟨m - 1, by omega⟩
  rw [show 2 * (r + 1) - 1 = 2 * r + 1 by omega]
  rintro ⟨x', h3, h4⟩
  have h4 := sgR_sym ((rkR_o (by omega)).1 h4)
  have hT : TrQ X a Q 0 a x' := ⟨rfl, h4⟩
  have l1 := hT.lt
  obtain ⟨j', j1, j2, j3⟩ := hB.nxt hT (by unfold kyE; omega)
  have j3 : qp Q j' ≤ 0 + 1 := j3
  exact hB.nogo hg hd r j' j1 (by omega) (by rw [j2]; exact h3)
theorem LpI.fin {X : Nat → Nat} {a most i : Nat} {Q : List Ent} {H : List Hed} (h : LpI X a most Q H i) (hi : Q.length ≤ i) : ∀ m, 1 ≤ m → m ≤ most → ¬ layJ X a (2 * m - 1) a := by
  obtain ⟨h1, h2, h3, i0, h4, h5, h6, h7⟩ := h
  refine h7.none (fun j hj _ => h3 j (by omega)) (fun j hj hp => ?_)
  rcases h5 with h5 | h5
  · omega
  · by_cases hji : j < i0
    · exact hji
    · have := h7.mn (j := i0) (j' := j) (by omega) hj
      omega
theorem LpI.beg {X : Nat → Nat} {a most : Nat} (ha : a < 729) : LpI X a most (atN [] a 1 (sgL X a) (sgL X a).length) [] 0 := by
  have h0 : BfI X a [] [] (kyE 0 a 0) := by
    refine ⟨⟨fun i j hi => absurd hi (Nat.not_lt_zero _), fun j hj => absurd hj (Nat.not_lt_zero _)⟩, fun w' h' x' h1 h2 => ?_, fun j hj => absurd hj (Nat.not_lt_zero _)⟩
    have l1 := h1.lt
    exfalso
    cases w' with
    | zero =>
      have := h1.1
      unfold kyE at h2
      omega
    | succ w => exact absurd h1.1 (Nat.not_lt_zero _)
  have ht := BfI.tails (h := a) (p := 1) h0 (fun x hx => ⟨rfl, hx⟩) (Nat.zero_le _) ha rfl (by decide) (Or.inl rfl) 729 (Nat.le_refl _)
  have ht2 : BfI X a (atN [] a 1 (sgL X a) (sgL X a).length) [] (kyE (0 + 1) 0 0) := by
    refine BfI.bump ht (by unfold kyE; omega) (fun w' h' x' h1 h2 h3 => ?_)
    have l1 := h1.lt
    exfalso
    cases w' with
    | zero =>
      have := h1.1
      unfold kyE at h2 h3
      omega
    | succ w =>
      unfold kyE at h2
      omega
  refine ⟨fun h x h1 h2 => ?_, Nat.zero_le _, fun j hj => absurd hj (Nat.not_lt_zero _), 0, Nat.le_refl _, Or.inl rfl, fun j hj => absurd hj (Nat.not_lt_zero _), ht2⟩
  rcases h1 with h1 | ⟨j, h1, _⟩
  · subst h1
    have hT : TrQ X h (atN [] h 1 (sgL X h) (sgL X h).length) 0 h x := ⟨rfl, h2⟩
    have l1 := hT.lt
    exact ht2.2.1 0 h x hT (by unfold kyE; omega)
  · exact absurd h1 (Nat.not_lt_zero _)
theorem LpI.skip {X : Nat → Nat} {a most i : Nat} {Q : List Ent} {H : List Hed} (h : LpI X a most Q H i) (hi : i < Q.length) (hg : ¬ gdR X a (qx Q i)) (hp : most ≤ qp Q i) : LpI X a most Q H (i + 1) := by
  obtain ⟨h1, h2, h3, i0, h4, h5, h6, h7⟩ := h
  refine ⟨h1, hi, fun j hj => ?_, i0, by omega, Or.inr ?_, h6, h7⟩
  · by_cases e : j = i
    · rw [e]; exact hg
    · exact h3 j (by omega)
  · rcases h5 with h5 | h5
    · rw [h5]; exact ⟨hi, hp⟩
    · exact h5
theorem LpI.go {X : Nat → Nat} {a most i : Nat} {Q : List Ent} {H : List Hed} (h : LpI X a most Q H i) (hi : i < Q.length) (hg : ¬ gdR X a (qx Q i)) (hp : qp Q i < most) (hm : most ≤ 12) : LpI X a most (ahN X a (qx Q i) (qp Q i) (wkL X (qx Q i)) (Q, H) (wkL X (qx Q i)).length).1 (ahN X a (qx Q i) (qp Q i) (wkL X (qx Q i)) (Q, H) (wkL X (qx Q i)).length).2 (i + 1) := by
  obtain ⟨h1, h2, h3, i0, h4, h5, h6, h7⟩ := h
  have e : i0 = i := by
    rcases h5 with h5 | h5
    · exact h5
    · have := h7.mn h4 hi
      omega
  subst e
  obtain ⟨g1, g2, R, hR⟩ := BfI.heads hi h7 h1 (by omega) 729 (Nat.le_refl _)
  have hR : (ahN X a (qx Q i0) (qp Q i0) (wkL X (qx Q i0)) (Q, H) (wkL X (qx Q i0)).length).1 = Q ++ R := hR
  have hiR : i0 < (Q ++ R).length := (eget_pre hi).2
  refine ⟨g2, by rw [hR]; exact hiR, fun j hj => ?_, i0 + 1, Nat.le_refl _, Or.inl rfl, fun j hj => ?_, ?_⟩
  · rw [hR, (qx_pre (by omega)).1]
    by_cases e : j = i0
    · rw [e]; exact hg
    · exact h3 j (by omega)
  · rw [hR, (qx_pre (by omega)).2.2]
    by_cases e : j = i0
    · rw [e]; exact hp
    · exact h6 j (by omega)
  · refine BfI.bump g1 (by unfold kyE; omega) (fun w' h' x' z1 z2 z3 => ?_)
    have l1 := z1.lt
    unfold kyE at z2 z3
    omega
/-- the way back from the tail i -/
noncomputable def wyW (W : Nat → Nat) (i : Nat) : Nat → Nat
  | 0 => i
  | r + 1 => W (wyW W i r) - 1
def rvQ (Q : List Ent) (m : Nat) (U : Nat → Nat) (s : Nat) : Nat := if s % 2 = 1 then qx Q (U (m - 1 - s / 2)) else qh Q (U (m - 1 - s / 2))
theorem LpI.good {X : Nat → Nat} {a most i : Nat} {Q : List Ent} {H : List Hed} (h : LpI X a most Q H i) (hi : i < Q.length) (hg : gdR X a (qx Q i)) (hmost : 1 ≤ most) : (1 ≤ qp Q i ∧ qp Q i ≤ most) ∧ (∀ m, 1 ≤ m → m < qp Q i → ¬ layJ X a (2 * m - 1) a) ∧ ∃ rv : Nat → Nat, IsRow X a (qp Q i) rv ∧ layJ X a (2 * qp Q i - 1) a ∧ (∀ s, s < 2 * qp Q i → rv s < 729) ∧ rv (2 * qp Q i - 1) = qx Q i ∧ (∀ k, k < qp Q i → ∃ j, j < Q.length ∧ qx Q j = rv (2 * k + 1) ∧ qh Q j = rv (2 * k)) ∧ ∀ k, 1 ≤ k → k < qp Q i → ∃ e, e < H.length ∧ H.getD e dH = (rv (2 * k), rv (2 * k - 1)) := by
  obtain ⟨h1, h2, h3, i0, h4, h5, h6, h7⟩ := h
  have hpm : ∀ j, j < Q.length → 1 ≤ qp Q j ∧ qp Q j ≤ most := fun j hj => by
    obtain ⟨w, g1, g2, g3, g4, g5, g6⟩ := h7.2.2 j hj
    have l1 := g2.lt
    unfold kyE at g4
    cases w with
    | zero =>
      have g3 : qp Q j = 0 + 1 := g3
      omega
    | succ w =>
      have g3 : qp Q j = qp Q w + 1 := g3
      have := h6 w (by omega)
      omega
  refine ⟨hpm i hi, fun m m1 m2 => ?_, ?_⟩
  · refine h7.none (B := qp Q i - 1) (fun j hj hp => h3 j ?_) (fun j hj hp => ?_) m m1 (by omega)
    · by_cases hji : j < i
      · exact hji
      · have := h7.mn (j := i) (j' := j) (by omega) hj
        have := (hpm i hi).1
        omega
    · rcases h5 with h5 | h5
      · by_cases hji : j < i
        · omega
        · have := h7.mn (j := i) (j' := j) (by omega) hj
          omega
      · by_cases hji : j < i0
        · exact hji
        · have := h7.mn (j := i0) (j' := j) (by omega) hj
          have := (hpm i hi).2
          omega
  · have hex : ∃ W : Nat → Nat, ∀ j, j < Q.length → EnOk X a Q H (kyE (i0 + 1) 0 0) j (W j) := by
      refine ⟨fun j => @dite Nat (j < Q.length) (Classical.propDecidable _) (fun z => Classical.choose (h7.2.2 j z)) (fun _ => 0), fun j hj => ?_⟩
      dsimp only
      rw [dif_pos hj]
      exact Classical.choose_spec (h7.2.2 j hj)
    obtain ⟨W, hW⟩ := hex
    obtain ⟨m, hm⟩ : ∃ m, m = qp Q i := ⟨_, rfl⟩
    obtain ⟨U, hU⟩ : ∃ U, U = wyW W i := ⟨_, rfl⟩
    have U0 : U 0 = i := by rw [hU]; rfl
    have US : ∀ r, U (r + 1) = W (U r) - 1 := fun r => by rw [hU]; rfl
    have hm1 := (hpm i hi).1
    rw [← hm] at hm1 ⊢
    have hUp : ∀ r, r < m → U r < Q.length ∧ qp Q (U r) = m - r := by
      intro r
      induction r with
      | zero => intro _; rw [U0]; exact ⟨hi, by omega⟩
      | succ r ih =>
        intro hr
        obtain ⟨u1, u2⟩ := ih (by omega)
        clear ih
        obtain ⟨g1, g2, g3, g4, g5, -⟩ := hW _ u1
        rw [US]
        obtain ⟨w, hw⟩ : ∃ w, w = W (U r) := ⟨_, rfl⟩
        rw [← hw] at g1 g3 ⊢
        cases w with
        | zero =>
          have g3 : qp Q (U r) = 0 + 1 := g3
          omega
        | succ w =>
          have g3 : qp Q (U r) = qp Q w + 1 := g3
          rw [show w + 1 - 1 = w by omega]
          exact ⟨by omega, by omega⟩
    have hWn : ∀ r, r + 1 < m → W (U r) = U (r + 1) + 1 := fun r hr => by
      obtain ⟨u1, u2⟩ := hUp r (by omega)
      obtain ⟨g1, g2, g3, g4, g5, g6⟩ := hW _ u1
      rw [US]
      obtain ⟨w, hw⟩ : ∃ w, w = W (U r) := ⟨_, rfl⟩
      rw [← hw] at g3 ⊢
      cases w with
      | zero =>
        have g3 : qp Q (U r) = 0 + 1 := g3
        omega
      | succ w => omega
    have hW0 : W (U (m - 1)) = 0 := by
      obtain ⟨u1, u2⟩ := hUp (m - 1) (by omega)
      obtain ⟨g1, g2, g3, g4, g5, g6⟩ := hW _ u1
      obtain ⟨w, hw⟩ : ∃ w, w = W (U (m - 1)) := ⟨_, rfl⟩
      rw [← hw] at g1 g3 ⊢
      cases w with
      | zero => rfl
      | succ w =>
        have g3 : qp Q (U (m - 1)) = qp Q w + 1 := g3
        have := (hpm w (by omega)).1
        omega
    have hTr : ∀ r, r < m → TrQ X a Q (W (U r)) (qh Q (U r)) (qx Q (U r)) := fun r hr => (hW _ (hUp r hr).1).2.1
    have hsg : ∀ r, r < m → sgR X (qh Q (U r)) (qx Q (U r)) := fun r hr => (hTr r hr).lt.2.2.2
    have hwk : ∀ r, r + 1 < m → wkR X (qx Q (U (r + 1))) (qh Q (U r)) := fun r hr => by
      have := hTr r (by omega)
      rw [hWn r hr] at this
      exact this.2.1
    have hst : qh Q (U (m - 1)) = a := by
      have := hTr (m - 1) (by omega)
      rw [hW0] at this
      exact this.1
    have hlay : ∀ r, r < m → layJ X a (2 * r) (qx Q (U r)) := by
      intro r
      induction r with
      | zero => intro _; rw [U0]; exact hg
      | succ r ih =>
        intro hr
        rw [show 2 * (r + 1) = 2 * r + 1 + 1 by omega]
        exact ⟨qh Q (U r), ⟨qx Q (U r), ih (by omega), (rkR_o (by omega)).2 (sgR_sym (hsg r (by omega)))⟩, (rkR_e (by omega)).2 (wkR_sym (hwk r hr))⟩
    have hlayh : ∀ r, r < m → layJ X a (2 * r + 1) (qh Q (U r)) := fun r hr => ⟨qx Q (U r), hlay r hr, (rkR_o (by omega)).2 (sgR_sym (hsg r hr))⟩
    have hah : ∀ r, r < m → ∀ z, z < U r → ¬ layJ X a (2 * r) (qx Q z) := by
      intro r
      induction r with
      | zero => intro _ z hz; rw [U0] at hz; exact h3 z hz
      | succ r ih =>
        intro hr z hz
        rw [show 2 * (r + 1) = 2 * r + 1 + 1 by omega]
        rintro ⟨h', ⟨x', g1, g2⟩, g3⟩
        have g2 := sgR_sym ((rkR_o (by omega)).1 g2)
        have g3 := wkR_sym ((rkR_e (by omega)).1 g3)
        have hu := (hUp (r + 1) hr).1
        have hT : TrQ X a Q (z + 1) h' x' := ⟨by omega, g3, g2⟩
        have l1 := hT.lt
        have he := (hW _ (hUp r (by omega)).1).2.2.2.2.1
        rw [hWn r hr] at he
        obtain ⟨j', j1, j2⟩ := he (z + 1) h' x' hT (by unfold kyE; omega)
        exact ih (by omega) j' j1 (by rw [j2]; exact g1)
    have hrt : ∀ k, k < m → rvQ Q m U (2 * k + 1) = qx Q (U (m - 1 - k)) := fun k hk => by
      unfold rvQ
      rw [if_pos (by omega), show (2 * k + 1) / 2 = k by omega]
    have hrh : ∀ k, k < m → rvQ Q m U (2 * k) = qh Q (U (m - 1 - k)) := fun k hk => by
      unfold rvQ
      rw [if_neg (by omega), show (2 * k) / 2 = k by omega]
    refine ⟨rvQ Q m U, ⟨?_, fun s s1 s2 => ?_⟩, ?_, fun s hs => ?_, ?_, fun k hk => ?_, fun k k1 k2 => ?_⟩
    · have := hrh 0 (by omega)
      rw [show m - 1 - 0 = m - 1 by omega, hst] at this
      exact this
    · by_cases hs : s % 2 = 1
      · obtain ⟨k, rfl⟩ : ∃ k, s = 2 * k + 1 := ⟨s / 2, by omega⟩
        obtain ⟨r, hr⟩ : ∃ r, r = m - 1 - k := ⟨_, rfl⟩
        have hrv := hrt k (by omega)
        have hrw := hrh k (by omega)
        rw [← hr] at hrv hrw
        unfold RowS
        rw [hrv, show 2 * k + 1 - 1 = 2 * k by omega, hrw, show 2 * m - 1 - (2 * k + 1) = 2 * r by omega]
        refine ⟨⟨(rkR_o hs).2 (hsg r (by omega)), hlay r (by omega)⟩, fun n hn z => ?_⟩
        have z1 := (rkR_o hs).1 z.1
        have he := (hW _ (hUp r (by omega)).1).2.2.2.2.1
        have hT : TrQ X a Q (W (U r)) (qh Q (U r)) n := by
          have ho := hTr r (by omega)
          cases hw : W (U r) with
          | zero =>
            rw [hw] at ho
            exact ⟨ho.1, by have := ho.1; rw [← this]; exact z1⟩
          | succ w =>
            rw [hw] at ho
            exact ⟨ho.1, ho.2.1, z1⟩
        obtain ⟨j', j1, j2⟩ := he _ _ n hT (by unfold kyE; omega)
        exact hah r (by omega) j' j1 (by rw [j2]; exact z.2)
      · obtain ⟨k, rfl⟩ : ∃ k, s = 2 * k := ⟨s / 2, by omega⟩
        obtain ⟨r, hr⟩ : ∃ r, r = m - 1 - k := ⟨_, rfl⟩
        have hrw := hrh k (by omega)
        have hrv := hrt (k - 1) (by omega)
        rw [← hr] at hrw
        rw [show m - 1 - (k - 1) = r + 1 by omega, show 2 * (k - 1) + 1 = 2 * k - 1 by omega] at hrv
        unfold RowS
        rw [hrv, hrw, show 2 * m - 1 - 2 * k = 2 * r + 1 by omega]
        refine ⟨⟨(rkR_e (by omega)).2 (hwk r (by omega)), hlayh r (by omega)⟩, fun n hn z => ?_⟩
        have z1 := (rkR_e (show 2 * k % 2 = 0 by omega)).1 z.1
        obtain ⟨x', g1, g2⟩ := z.2
        have g2 := sgR_sym ((rkR_o (by omega)).1 g2)
        have he := (hW _ (hUp r (by omega)).1).2.2.2.2.1
        rw [hWn r (by omega)] at he
        have hT : TrQ X a Q (U (r + 1) + 1) n x' := ⟨(hUp (r + 1) (by omega)).1, z1, g2⟩
        have l1 := hT.lt
        obtain ⟨j', j1, j2⟩ := he _ n x' hT (by unfold kyE; omega)
        exact hah r (by omega) j' j1 (by rw [j2]; exact g1)
    · have := hlayh (m - 1) (by omega)
      rw [hst, show 2 * (m - 1) + 1 = 2 * m - 1 by omega] at this
      exact this
    · unfold rvQ
      have hl := (hTr (m - 1 - s / 2) (by omega)).lt
      by_cases hs2 : s % 2 = 1
      · rw [if_pos hs2]; exact hl.2.1
      · rw [if_neg hs2]; exact hl.1
    · have := hrt (m - 1) (by omega)
      rw [show m - 1 - (m - 1) = 0 by omega, U0, show 2 * (m - 1) + 1 = 2 * m - 1 by omega] at this
      exact this
    · exact ⟨U (m - 1 - k), (hUp _ (by omega)).1, (hrt k hk).symm, (hrh k hk).symm⟩
    · obtain ⟨r, hr⟩ : ∃ r, r = m - 1 - k := ⟨_, rfl⟩
      have hrw := hrh k (by omega)
      have hrv := hrt (k - 1) (by omega)
      rw [← hr] at hrw
      rw [show m - 1 - (k - 1) = r + 1 by omega, show 2 * (k - 1) + 1 = 2 * k - 1 by omega] at hrv
      rw [hrw, hrv]
      have g6 := (hW _ (hUp r (by omega)).1).2.2.2.2.2
      rw [hWn r (by omega)] at g6
      rcases g6 with g6 | g6
      · omega
      · exact g6
