/-! the breadth-first search, by itself: triples (work, head, tail) in their order -/
def qx (Q : List Ent) (j : Nat) : Nat := (Q.getD j dE).1
def qh (Q : List Ent) (j : Nat) : Nat := (Q.getD j dE).2.1
def qp (Q : List Ent) (j : Nat) : Nat := (Q.getD j dE).2.2
def kyE (w h x : Nat) : Nat := 532900 * w + 730 * h + x
def lvQ (Q : List Ent) : Nat → Nat
  | 0 => 0
  | i + 1 => qp Q i
/-- from the work w (0: the start a; i + 1: tail i of the queue) by the head h to x -/
def TrQ (X : Nat → Nat) (a : Nat) (Q : List Ent) : Nat → Nat → Nat → Prop
  | 0, h, x => h = a ∧ sgR X a x
  | i + 1, h, x => i < Q.length ∧ wkR X (qx Q i) h ∧ sgR X h x
def ErQ (X : Nat → Nat) (a : Nat) (Q : List Ent) (j c : Nat) : Prop := ∀ w' h' x', TrQ X a Q w' h' x' → kyE w' h' x' < c → ∃ j', j' < j ∧ qx Q j' = x'
def EnOk (X : Nat → Nat) (a : Nat) (Q : List Ent) (H : List Hed) (c j w : Nat) : Prop := w ≤ j ∧ TrQ X a Q w (qh Q j) (qx Q j) ∧ qp Q j = lvQ Q w + 1 ∧ kyE w (qh Q j) (qx Q j) < c ∧ ErQ X a Q j (kyE w (qh Q j) (qx Q j)) ∧ (w = 0 ∨ ∃ k, k < H.length ∧ H.getD k dH = (qh Q j, qx Q (w - 1)))
def BfI (X : Nat → Nat) (a : Nat) (Q : List Ent) (H : List Hed) (c : Nat) : Prop := QOk Q ∧ ErQ X a Q Q.length c ∧ ∀ j, j < Q.length → ∃ w, EnOk X a Q H c j w
def HdI (X : Nat → Nat) (a : Nat) (Q : List Ent) (H : List Hed) : Prop := ∀ h x, (h = a ∨ InH H h) → sgR X h x → InQ Q x
theorem TrQ.lt {X : Nat → Nat} {a : Nat} {Q : List Ent} {w h x : Nat} (z : TrQ X a Q w h x) : h < 729 ∧ x < 729 ∧ w ≤ Q.length ∧ sgR X h x := by
  cases w with
  | zero =>
    obtain ⟨rfl, h2⟩ := z
    exact ⟨h2.1, h2.2.1, Nat.zero_le _, h2⟩
  | succ w => exact ⟨z.2.2.1, z.2.2.2.1, z.1, z.2.2⟩
theorem qx_pre {Q R : List Ent} {j : Nat} (h : j < Q.length) : qx (Q ++ R) j = qx Q j ∧ qh (Q ++ R) j = qh Q j ∧ qp (Q ++ R) j = qp Q j := by
  unfold qx qh qp
  rw [(eget_pre h).1]
  exact ⟨rfl, rfl, rfl⟩
theorem lv_pre {Q R : List Ent} {w : Nat} (h : w ≤ Q.length) : lvQ (Q ++ R) w = lvQ Q w := by
  cases w with
  | zero => rfl
  | succ w => exact (qx_pre (R := R) h).2.2
theorem tr_pre {X : Nat → Nat} {a : Nat} {Q R : List Ent} {w h x : Nat} (hw : w ≤ Q.length) : TrQ X a (Q ++ R) w h x ↔ TrQ X a Q w h x := by
  cases w with
  | zero => exact Iff.rfl
  | succ w =>
    show (w < (Q ++ R).length ∧ wkR X (qx (Q ++ R) w) h ∧ sgR X h x) ↔ (w < Q.length ∧ wkR X (qx Q w) h ∧ sgR X h x)
    have hw : w < Q.length := hw
    rw [(qx_pre (R := R) hw).1]
    exact ⟨fun z => ⟨hw, z.2⟩, fun z => ⟨(eget_pre hw).2, z.2⟩⟩
theorem BfI.bump {X : Nat → Nat} {a : Nat} {Q : List Ent} {H : List Hed} {c c' : Nat} (h : BfI X a Q H c) (hc : c ≤ c') (hn : ∀ w' h' x', TrQ X a Q w' h' x' → kyE w' h' x' < c' → ¬ kyE w' h' x' < c → InQ Q x') : BfI X a Q H c' := by
  refine ⟨h.1, fun w' h' x' h1 h2 => ?_, fun j hj => ?_⟩
  · by_cases h3 : kyE w' h' x' < c
    · exact h.2.1 w' h' x' h1 h3
    · exact hn w' h' x' h1 h2 h3
  · obtain ⟨w, h1, h2, h3, h4, h5⟩ := h.2.2 j hj
    exact ⟨w, h1, h2, h3, Nat.lt_of_lt_of_le h4 hc, h5⟩
theorem BfI.hd {X : Nat → Nat} {a : Nat} {Q : List Ent} {H : List Hed} {c : Nat} (s : Hed) (h : BfI X a Q H c) : BfI X a Q (H ++ [s]) c := by
  refine ⟨h.1, h.2.1, fun j hj => ?_⟩
  obtain ⟨w, h1, h2, h3, h4, h5, h6⟩ := h.2.2 j hj
  refine ⟨w, h1, h2, h3, h4, h5, h6.elim Or.inl (fun z => Or.inr ?_)⟩
  obtain ⟨k, k1, k2⟩ := z
  exact ⟨k, by rw [List.length_append]; omega, by rw [hget1 k1]; exact k2⟩
theorem BfI.stp {X : Nat → Nat} {a : Nat} {Q : List Ent} {H : List Hed} {w h x p : Nat} (hB : BfI X a Q H (kyE w h x)) (hT : TrQ X a Q w h x) (hp : p = lvQ Q w + 1) (hp13 : p ≤ 13) (hh : w = 0 ∨ ∃ k, k < H.length ∧ H.getD k dH = (h, qx Q (w - 1))) : BfI X a (cI (InQ Q x) Q (Q ++ [(x, h, p)])) H (kyE w h x + 1) := by
  have hl := hT.lt
  by_cases hq : InQ Q x
  · rw [cI_t hq]
    refine hB.bump (Nat.le_succ _) (fun w' h' x' h1 h2 h3 => ?_)
    have hl' := h1.lt
    unfold kyE at h2 h3
    have e : x' = x := by omega
    rw [e]
    exact hq
  · rw [cI_f hq]
    have hlen : (Q ++ [(x, h, p)]).length = Q.length + 1 := List.length_append
    have hlo : ∀ w' h' x', TrQ X a (Q ++ [(x, h, p)]) w' h' x' → kyE w' h' x' ≤ kyE w h x → TrQ X a Q w' h' x' := fun w' h' x' h1 h2 => by
      have hl' := h1.lt
      unfold kyE at h2
      exact (tr_pre (by omega)).1 h1
    refine ⟨hB.1.app hq ⟨hl.2.1, hl.1, hp13⟩, fun w' h' x' h1 h2 => ?_, fun j hj => ?_⟩
    · have h3 := hlo w' h' x' h1 (by omega)
      rw [hlen]
      by_cases h4 : kyE w' h' x' < kyE w h x
      · obtain ⟨j, j1, j2⟩ := hB.2.1 w' h' x' h3 h4
        exact ⟨j, by omega, by rw [(qx_pre j1).1]; exact j2⟩
      · have hl' := h3.lt
        unfold kyE at h2 h4
        exact ⟨Q.length, by omega, by unfold qx; rw [eget2]; show x = x'; omega⟩
    · rw [hlen] at hj
      by_cases hj2 : j < Q.length
      · obtain ⟨v, h1, h2, h3, h4, h5, h6⟩ := hB.2.2 j hj2
        obtain ⟨e1, e2, e3⟩ := qx_pre (R := [(x, h, p)]) hj2
        refine ⟨v, h1, by rw [e1, e2]; exact (tr_pre (by omega)).2 h2, by rw [e3, lv_pre (by omega)]; exact h3, by rw [e1, e2]; omega, ?_, ?_⟩
        · rw [e1, e2]
          intro w' h' x' g1 g2
          obtain ⟨j', j1, j2⟩ := h5 w' h' x' (hlo w' h' x' g1 (by omega)) g2
          exact ⟨j', j1, by rw [(qx_pre (by omega)).1]; exact j2⟩
        · rcases h6 with h6 | h6
          · exact Or.inl h6
          · by_cases hv : v = 0
            · exact Or.inl hv
            · refine Or.inr ?_
              rw [e2, (qx_pre (by omega)).1]
              exact h6
      · have e : j = Q.length := by omega
        subst e
        have e1 : qx (Q ++ [(x, h, p)]) Q.length = x := by unfold qx; rw [eget2]
        have e2 : qh (Q ++ [(x, h, p)]) Q.length = h := by unfold qh; rw [eget2]
        have e3 : qp (Q ++ [(x, h, p)]) Q.length = p := by unfold qp; rw [eget2]
        refine ⟨w, hl.2.2.1, by rw [e1, e2]; exact (tr_pre hl.2.2.1).2 hT, by rw [e3, lv_pre hl.2.2.1]; exact hp, by rw [e1, e2]; exact Nat.lt_succ_self _, ?_, ?_⟩
        · rw [e1, e2]
          intro w' h' x' g1 g2
          obtain ⟨j', j1, j2⟩ := hB.2.1 w' h' x' (hlo w' h' x' g1 (by omega)) g2
          exact ⟨j', j1, by rw [(qx_pre (by omega)).1]; exact j2⟩
        · by_cases hv : w = 0
          · exact Or.inl hv
          · rw [e2, (qx_pre (by omega)).1]
            exact hh
/-- later heads and tails -/
theorem atN_app {Q : List Ent} {h p x : Nat} {l : List Nat} : ∀ i, i ≤ l.length → atN Q h p (l ++ [x]) i = atN Q h p l i := by
  intro i
  induction i with
  | zero => intro _; rfl
  | succ i ih =>
    intro hi
    show cI (InQ (atN Q h p (l ++ [x]) i) ((l ++ [x]).getD i 0)) (atN Q h p (l ++ [x]) i) (atN Q h p (l ++ [x]) i ++ [((l ++ [x]).getD i 0, h, p)]) = cI (InQ (atN Q h p l i) (l.getD i 0)) (atN Q h p l i) (atN Q h p l i ++ [(l.getD i 0, h, p)])
    rw [ih (by omega), getD_app1 (by omega)]
theorem atN_snoc {Q : List Ent} {h p x : Nat} {l : List Nat} : atN Q h p (l ++ [x]) (l ++ [x]).length = cI (InQ (atN Q h p l l.length) x) (atN Q h p l l.length) (atN Q h p l l.length ++ [(x, h, p)]) := by
  rw [show (l ++ [x]).length = l.length + 1 from List.length_append]
  show cI (InQ (atN Q h p (l ++ [x]) l.length) ((l ++ [x]).getD l.length 0)) (atN Q h p (l ++ [x]) l.length) (atN Q h p (l ++ [x]) l.length ++ [((l ++ [x]).getD l.length 0, h, p)]) = _
  rw [atN_app l.length (Nat.le_refl _), getD_app2]
theorem BfI.tails {X : Nat → Nat} {a : Nat} {Q : List Ent} {H : List Hed} {w h p : Nat} (hB : BfI X a Q H (kyE w h 0)) (hT : ∀ x, sgR X h x → TrQ X a Q w h x) (hw : w ≤ Q.length) (h729 : h < 729) (hp : p = lvQ Q w + 1) (hp13 : p ≤ 13) (hh : w = 0 ∨ ∃ k, k < H.length ∧ H.getD k dH = (h, qx Q (w - 1))) : ∀ n, n ≤ 729 → BfI X a (atN Q h p (flP (strongC X h) n) (flP (strongC X h) n).length) H (kyE w h n) := by
  intro n
  induction n with
  | zero => intro _; exact hB
  | succ n ih =>
    intro hn
    have ih := ih (by omega)
    obtain ⟨R, hR⟩ := atN_pre (Q := Q) (h := h) (p := p) (l := flP (strongC X h) n) (flP (strongC X h) n).length
    by_cases hs : strongC X h n
    · rw [flP_t hs, atN_snoc]
      rw [hR] at ih ⊢
      exact ih.stp ((tr_pre hw).2 (hT n ⟨h729, by omega, hs⟩)) (by rw [lv_pre hw]; exact hp) hp13 (by
        by_cases hv : w = 0
        · exact Or.inl hv
        · rw [(qx_pre (by omega)).1]
          exact hh)
    · rw [flP_f hs]
      refine ih.bump (by unfold kyE; omega) (fun w' h' x' h1 h2 h3 => absurd ?_ hs)
      have hl' := h1.lt
      unfold kyE at h2 h3
      have e1 : h' = h := by omega
      have e2 : x' = n := by omega
      rw [← e1, ← e2]
      exact hl'.2.2.2.2.2
theorem ahN_app {X : Nat → Nat} {a y p x : Nat} {l : List Nat} {Z : List Ent × List Hed} : ∀ i, i ≤ l.length → ahN X a y p (l ++ [x]) Z i = ahN X a y p l Z i := by
  intro i
  induction i with
  | zero => intro _; rfl
  | succ i ih =>
    intro hi
    show cI ((l ++ [x]).getD i 0 = a ∨ InH (ahN X a y p (l ++ [x]) Z i).2 ((l ++ [x]).getD i 0)) (ahN X a y p (l ++ [x]) Z i) (atN (ahN X a y p (l ++ [x]) Z i).1 ((l ++ [x]).getD i 0) (p + 1) (sgL X ((l ++ [x]).getD i 0)) (sgL X ((l ++ [x]).getD i 0)).length, (ahN X a y p (l ++ [x]) Z i).2 ++ [((l ++ [x]).getD i 0, y)]) = cI (l.getD i 0 = a ∨ InH (ahN X a y p l Z i).2 (l.getD i 0)) (ahN X a y p l Z i) (atN (ahN X a y p l Z i).1 (l.getD i 0) (p + 1) (sgL X (l.getD i 0)) (sgL X (l.getD i 0)).length, (ahN X a y p l Z i).2 ++ [(l.getD i 0, y)])
    rw [ih (by omega), getD_app1 (by omega)]
theorem ahN_snoc {X : Nat → Nat} {a y p x : Nat} {l : List Nat} {Z : List Ent × List Hed} : ahN X a y p (l ++ [x]) Z (l ++ [x]).length = cI (x = a ∨ InH (ahN X a y p l Z l.length).2 x) (ahN X a y p l Z l.length) (atN (ahN X a y p l Z l.length).1 x (p + 1) (sgL X x) (sgL X x).length, (ahN X a y p l Z l.length).2 ++ [(x, y)]) := by
  rw [show (l ++ [x]).length = l.length + 1 from List.length_append]
  show cI ((l ++ [x]).getD l.length 0 = a ∨ InH (ahN X a y p (l ++ [x]) Z l.length).2 ((l ++ [x]).getD l.length 0)) (ahN X a y p (l ++ [x]) Z l.length) (atN (ahN X a y p (l ++ [x]) Z l.length).1 ((l ++ [x]).getD l.length 0) (p + 1) (sgL X ((l ++ [x]).getD l.length 0)) (sgL X ((l ++ [x]).getD l.length 0)).length, (ahN X a y p (l ++ [x]) Z l.length).2 ++ [((l ++ [x]).getD l.length 0, y)]) = _
  rw [ahN_app l.length (Nat.le_refl _), getD_app2]
theorem HdI.pre {X : Nat → Nat} {a : Nat} {Q R : List Ent} {H : List Hed} (h : HdI X a Q H) : HdI X a (Q ++ R) H := fun n x h1 h2 => by
  obtain ⟨j, j1, j2⟩ := h n x h1 h2
  exact ⟨j, (eget_pre j1).2, by rw [(eget_pre j1).1]; exact j2⟩
theorem BfI.heads {X : Nat → Nat} {a : Nat} {Q : List Ent} {H : List Hed} {i : Nat} (hi : i < Q.length) (hB : BfI X a Q H (kyE (i + 1) 0 0)) (hH : HdI X a Q H) (hp : qp Q i ≤ 12) : ∀ n, n ≤ 729 → BfI X a (ahN X a (qx Q i) (qp Q i) (flP (wkP X (qx Q i)) n) (Q, H) (flP (wkP X (qx Q i)) n).length).1 (ahN X a (qx Q i) (qp Q i) (flP (wkP X (qx Q i)) n) (Q, H) (flP (wkP X (qx Q i)) n).length).2 (kyE (i + 1) n 0) ∧ HdI X a (ahN X a (qx Q i) (qp Q i) (flP (wkP X (qx Q i)) n) (Q, H) (flP (wkP X (qx Q i)) n).length).1 (ahN X a (qx Q i) (qp Q i) (flP (wkP X (qx Q i)) n) (Q, H) (flP (wkP X (qx Q i)) n).length).2 ∧ ∃ R, (ahN X a (qx Q i) (qp Q i) (flP (wkP X (qx Q i)) n) (Q, H) (flP (wkP X (qx Q i)) n).length).1 = Q ++ R := by
  have hx729 : qx Q i < 729 := (hB.1.2 i hi).1
  intro n
  induction n with
  | zero => intro _; exact ⟨hB, hH, [], (List.append_nil _).symm⟩
  | succ n ih =>
    intro hn
    obtain ⟨g1, g2, R, hR⟩ := ih (by omega)
    by_cases hs : wkP X (qx Q i) n
    · rw [flP_t hs, ahN_snoc]
      obtain ⟨Z, hZ⟩ : ∃ Z, Z = ahN X a (qx Q i) (qp Q i) (flP (wkP X (qx Q i)) n) (Q, H) (flP (wkP X (qx Q i)) n).length := ⟨_, rfl⟩
      rw [← hZ] at g1 g2 hR ⊢
      have hiZ : i < Z.1.length := by rw [hR]; exact (eget_pre hi).2
      have exZ : qx Z.1 i = qx Q i := by rw [hR]; exact (qx_pre hi).1
      have epZ : qp Z.1 i = qp Q i := by rw [hR]; exact (qx_pre hi).2.2
      by_cases hq : n = a ∨ InH Z.2 n
      · rw [cI_t hq]
        refine ⟨g1.bump (by unfold kyE; omega) (fun w' h' x' h1 h2 h3 => ?_), g2, R, hR⟩
        have hl' := h1.lt
        unfold kyE at h2 h3
        have e1 : h' = n := by omega
        rw [e1] at hl'
        exact g2 n x' hq hl'.2.2.2
      · rw [cI_f hq]
        have ht := BfI.tails (h := n) (p := qp Q i + 1) (g1.hd (n, qx Q i)) (fun x hx => ⟨hiZ, by rw [exZ]; exact ⟨hx729, by omega, weakC_sym hs⟩, hx⟩) hiZ (by omega) (by show _ = qp Z.1 i + 1; rw [epZ]) (by omega) (Or.inr ⟨Z.2.length, by rw [List.length_append]; exact Nat.lt_succ_self _, by rw [hget2]; show (n, qx Q i) = (n, qx Z.1 i); rw [exZ]⟩) 729 (Nat.le_refl _)
        obtain ⟨R2, hR2⟩ := atN_pre (Q := Z.1) (h := n) (p := qp Q i + 1) (l := sgL X n) (sgL X n).length
        have ht2 : BfI X a (atN Z.1 n (qp Q i + 1) (sgL X n) (sgL X n).length) (Z.2 ++ [(n, qx Q i)]) (kyE (i + 1) (n + 1) 0) := by
          refine BfI.bump ht (by unfold kyE; omega) (fun w' h' x' h1 h2 h3 => ?_)
          have hl' := h1.lt
          unfold kyE at h2 h3
          omega
        refine ⟨ht2, ?_, R ++ R2, ?_⟩
        · dsimp only
          intro h x h1 h2
          rw [InH.app] at h1
          by_cases hn' : h = n
          · subst hn'
            have hb : TrQ X a (atN Z.1 h (qp Q i + 1) (sgL X h) (sgL X h).length) (i + 1) h x := by
              rw [hR2]
              exact ⟨(eget_pre hiZ).2, by rw [(qx_pre hiZ).1, exZ]; exact ⟨hx729, by omega, weakC_sym hs⟩, h2⟩
            have := ht2.2.1 (i + 1) h x hb (by have := h2.2.1; unfold kyE; omega)
            exact this
          · rw [hR2]
            refine HdI.pre g2 h x ?_ h2
            rcases h1 with h1 | h1 | h1
            · exact Or.inl h1
            · exact Or.inr h1
            · exact absurd h1 hn'
        · dsimp only
          rw [hR2, hR, List.append_assoc]
    · rw [flP_f hs]
      refine ⟨g1.bump (by unfold kyE; omega) (fun w' h' x' h1 h2 h3 => absurd ?_ hs), g2, R, hR⟩
      have hl' := h1.lt
      unfold kyE at h2 h3
      have e1 : h' = n := by omega
      have e2 : w' = i + 1 := by omega
      subst e2
      have h4 := h1.2.1.2.2
      rw [hR, (qx_pre hi).1, e1] at h4
      exact weakC_sym h4
