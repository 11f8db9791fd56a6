/-! addHeads -/
abbrev Hed : Type := Nat × Nat
def dH : Hed := (0, 0)
theorem hget1 {T : List Hed} {s : Hed} {i : Nat} (h : i < T.length) : (T ++ [s]).getD i dH = T.getD i dH := by
  rw [List.getD_eq_getElem?_getD, List.getD_eq_getElem?_getD, List.getElem?_append_left h]
theorem hget2 {T : List Hed} {s : Hed} : (T ++ [s]).getD T.length dH = s := by
  rw [List.getD_eq_getElem?_getD, List.getElem?_append_right (Nat.le_refl _), Nat.sub_self]
  rfl
def InH (H : List Hed) (n : Nat) : Prop := ∃ j, j < H.length ∧ (H.getD j dH).1 = n
theorem InH.app {H : List Hed} {s : Hed} {n : Nat} : InH (H ++ [s]) n ↔ (InH H n ∨ n = s.1) := by
  unfold InH
  rw [List.length_append]
  constructor
  · rintro ⟨j, h1, h2⟩
    have h1 : j < H.length + 1 := h1
    by_cases hj : j < H.length
    · rw [hget1 hj] at h2
      exact Or.inl ⟨j, hj, h2⟩
    · rw [show j = H.length by omega, hget2] at h2
      exact Or.inr h2.symm
  · rintro (⟨j, h1, h2⟩ | h)
    · exact ⟨j, Nat.lt_add_right _ h1, by rw [hget1 h1]; exact h2⟩
    · exact ⟨H.length, Nat.lt_add_of_pos_right Nat.zero_lt_one, by rw [hget2, h]⟩
def HdAt (M : MT) (t a : Nat) (H : List Hed) : Prop := SnAt M 29 t (fun m => m = a ∨ InH H m) ∧ ∀ j, j < H.length → M 31 (((H.getD j dH).1 : Nat) : Int) = (((H.getD j dH).2 : Nat) : Int) ∧ (H.getD j dH).1 < 729 ∧ (H.getD j dH).2 < 729
theorem HdAt.fr {M M' : MT} {t a : Nat} {H : List Hed} (h : HdAt M t a H) (h1 : M' 29 = M 29) (h2 : M' 31 = M 31) : HdAt M' t a H := ⟨h.1.fr h1, fun j hj => by rw [h2]; exact h.2 j hj⟩
noncomputable def sgL (X : Nat → Nat) (n : Nat) : List Nat := flP (strongC X n) 729
theorem atN_pre {Q : List Ent} {h p : Nat} {l : List Nat} : ∀ i, ∃ R, atN Q h p l i = Q ++ R := by
  intro i
  induction i with
  | zero => exact ⟨[], (List.append_nil _).symm⟩
  | succ i ih =>
    obtain ⟨R, hR⟩ := ih
    show ∃ R, cI (InQ (atN Q h p l i) (l.getD i 0)) (atN Q h p l i) (atN Q h p l i ++ [(l.getD i 0, h, p)]) = Q ++ R
    by_cases hq : InQ (atN Q h p l i) (l.getD i 0)
    · rw [cI_t hq]
      exact ⟨R, hR⟩
    · rw [cI_f hq, hR]
      exact ⟨R ++ [(l.getD i 0, h, p)], List.append_assoc _ _ _⟩
theorem eget_pre {Q R : List Ent} {j : Nat} (h : j < Q.length) : (Q ++ R).getD j dE = Q.getD j dE ∧ j < (Q ++ R).length := by
  refine ⟨?_, ?_⟩
  · rw [List.getD_eq_getElem?_getD, List.getD_eq_getElem?_getD, List.getElem?_append_left h]
  · rw [List.length_append]
    omega
/-- queue and heads behind i of a tail's heads -/
noncomputable def ahN (X : Nat → Nat) (a y p : Nat) (l : List Nat) (Z : List Ent × List Hed) : Nat → List Ent × List Hed
  | 0 => Z
  | i + 1 => cI (l.getD i 0 = a ∨ InH (ahN X a y p l Z i).2 (l.getD i 0)) (ahN X a y p l Z i) (atN (ahN X a y p l Z i).1 (l.getD i 0) (p + 1) (sgL X (l.getD i 0)) (sgL X (l.getD i 0)).length, (ahN X a y p l Z i).2 ++ [(l.getD i 0, y)])
theorem c_addHeads {d : Nat} {G : GT} {M : MT} {X : Nat → Nat} {Q : List Ent} {H : List Hed} {a y p t jy : Nat} {l : List Nat} (hC : ClsG G) (hQ : QuAt M t Q) (hH : HdAt M t a H) (ht : M 24 14 = (t : Int)) (htb : t < 2147483648) (hL : WlAt M l) (hl : l.length ≤ 28) (hl2 : ∀ i, i < l.length → l.getD i 0 < 729) (hS : SgAt M (strongC X)) (hp : p ≤ 12) (hy : y < 729) (hj : jy < Q.length ∧ (Q.getD jy dE).1 = y ∧ (Q.getD jy dE).2.2 = p) : Mq (d + 1) k_X1_addHeads [vR 24, vI (y : Int)] G M (fun z M' => z = none ∧ QuAt M' t (ahN X a y p l (Q, H) l.length).1 ∧ HdAt M' t a (ahN X a y p l (Q, H) l.length).2 ∧ (∀ c, c ≠ 24 → (c < 29 ∨ 34 < c) → M' c = M c) ∧ ∀ i : Int, i ≠ 13 → M' 24 i = M 24 i) := by
  have L_2 : ∀ (f i : Nat) (M2 : MT) (y3 : Option AV), l.length - i < f → i ≤ l.length → (QuAt M2 t (ahN X a y p l (Q, H) i).1) → (HdAt M2 t a (ahN X a y p l (Q, H) i).2) → (jy < (ahN X a y p l (Q, H) i).1.length ∧ ((ahN X a y p l (Q, H) i).1.getD jy dE).1 = y ∧ ((ahN X a y p l (Q, H) i).1.getD jy dE).2.2 = p) → (∀ c, c ≠ 24 → (c < 29 ∨ 34 < c) → M2 c = M c) → (∀ j : Int, j ≠ 13 → M2 24 j = M 24 j) → Wq (d + 1) k_X1_addHeads 2 [some (vR 24), some (vI ((y : Nat) : Int)), some (vI ((i : Nat) : Int)), y3] [] G M2 (fun z M' => z = none ∧ QuAt M' t (ahN X a y p l (Q, H) l.length).1 ∧ HdAt M' t a (ahN X a y p l (Q, H) l.length).2 ∧ (∀ c, c ≠ 24 → (c < 29 ∨ 34 < c) → M' c = M c) ∧ ∀ i : Int, i ≠ 13 → M' 24 i = M 24 i) := by
    intro f
    induction f with
    | zero => intro i M2 y3 h; exact absurd h (by omega)
    | succ f ih_i =>
      intro i M2 y3 hf_i hk_i a1 b1 b2 a2 a3
      refine wq_s 3 rfl ?_
      refine wq_s 4 rfl ?_
      refine wq_getE (v := ((l.length : Nat) : Int)) 5 7 rfl rfl (hC.lt (by omega)) (hC.ty 20 _ rfl) rfl rfl (by rw [a3 _ (by decide)]; exact hL.1) ?_
      refine wq_icmp 66 rfl rfl (by omega) (by omega) (fun c_7 => ?_) (fun c_7 => ?_)
      · have c_7 := of_decide_eq_true c_7
        have e9 : i = l.length := by omega
        subst e9
        exact wq_ret rfl ⟨rfl, a1, b1, a2, a3⟩
      · have c_7 := of_decide_eq_false c_7
        have h729 := hl2 i (by omega)
        have hs := b1.1 _ h729
        have hs1 := hs.1
        have hpy : M2 33 (y : Int) = (p : Int) := by
          have h9 := (a1.2.2.1 jy b2.1).2.2
          rw [b2.2.1, b2.2.2] at h9
          exact h9
        refine wq_s 11 rfl ?_
        refine wq_getR 14 rfl rfl (hC.lt (by omega)) (hC.ty 20 _ rfl) rfl ?_
        refine wq_s 15 rfl ?_
        refine wq_iald (v := ((l.getD i 0 : Nat) : Int)) 16 rfl rfl (hC.lt (by omega)).2 (hC.ty 23 _ rfl) (by omega) (by omega) (by omega) (by rw [a2 _ (by decide) (by decide)]; exact hL.2 i (by omega)) ?_
        refine wq_s 17 rfl ?_
        refine wq_s 18 rfl ?_
        refine wq_getR 21 rfl rfl (hC.lt (by omega)) (hC.ty 20 _ rfl) rfl ?_
        refine wq_s 22 rfl ?_
        refine wq_iald (v := M2 29 ((l.getD i 0 : Nat) : Int)) 23 rfl rfl (hC.lt (by omega)).2 (hC.ty 25 _ rfl) (by omega) (by omega) (by omega) rfl ?_
        refine wq_s 24 rfl ?_
        refine wq_getE (v := ((t : Nat) : Int)) 14 27 rfl rfl (hC.lt (by omega)) (hC.ty 20 _ rfl) rfl rfl (by rw [a3 _ (by decide)]; exact ht) ?_
        refine wq_icmp 60 rfl rfl (by omega) (by omega) (fun c_27 => ?_) (fun c_27 => ?_)
        · have c_27 := of_decide_eq_true c_27
          refine we_inc 2 1 ((i + 1 : Nat) : Int) 63 _ rfl rfl rfl (by omega) (by omega) rfl ?_
          refine wq_s 2 rfl ?_
          have ee : ahN X a y p l (Q, H) (i + 1) = (ahN X a y p l (Q, H) i) := cI_t (hs.2.1 c_27)
          exact ih_i (i + 1) _ _ (by omega) (by omega) (by rw [ee]; exact a1) (by rw [ee]; exact b1) (by rw [ee]; exact b2) a2 a3
        · have c_27 := of_decide_eq_false c_27
          refine wq_s 31 rfl ?_
          refine wq_getR 34 rfl rfl (hC.lt (by omega)) (hC.ty 20 _ rfl) rfl ?_
          refine wq_s 35 rfl ?_
          refine wq_s 36 rfl ?_
          refine wq_getE (v := ((t : Nat) : Int)) 14 39 rfl rfl (hC.lt (by omega)) (hC.ty 20 _ rfl) rfl rfl (by rw [a3 _ (by decide)]; exact ht) ?_
          refine wq_iast 40 rfl rfl (hC.lt (by omega)) (hC.ty 25 _ rfl) (by omega) (by omega) (by omega) ?_
          refine wq_s 41 rfl ?_
          refine wq_getR 44 rfl rfl (hC.lt (by omega)) (hC.ty 20 _ rfl) rfl ?_
          refine wq_s 45 rfl ?_
          refine wq_s 46 rfl ?_
          refine wq_iast 47 rfl rfl (hC.lt (by omega)) (hC.ty 27 _ rfl) (by omega) (by omega) (by omega) ?_
          refine wq_s 48 rfl ?_
          refine wq_s 49 rfl ?_
          refine wq_s 50 rfl ?_
          refine wq_getR 53 rfl rfl (hC.lt (by omega)) (hC.ty 20 _ rfl) rfl ?_
          refine wq_s 54 rfl ?_
          refine wq_iald (v := ((p : Nat) : Int)) 55 rfl rfl (hC.lt (by omega)).2 (hC.ty 29 _ rfl) (by omega) (by omega) (by omega) (by rw [up2_row (by decide), up2_row (by decide)]; exact hpy) ?_
          refine wq_s 56 rfl ?_
          refine we_add ((p + 1 : Nat) : Int) 57 rfl rfl (by omega) (by omega) ?_
          have hns : ¬ (l.getD i 0 = a ∨ InH (ahN X a y p l (Q, H) i).2 (l.getD i 0)) := fun z => c_27 (hs.2.2 z)
          have ee : ahN X a y p l (Q, H) (i + 1) = (atN (ahN X a y p l (Q, H) i).1 (l.getD i 0) (p + 1) (sgL X (l.getD i 0)) (sgL X (l.getD i 0)).length, (ahN X a y p l (Q, H) i).2 ++ [(l.getD i 0, y)]) := cI_f hns
          obtain ⟨M4, hM4⟩ : ∃ M4 : MT, M4 = up2 (up2 M2 29 ((l.getD i 0 : Nat) : Int) (t : Int)) 31 ((l.getD i 0 : Nat) : Int) (y : Int) := ⟨_, rfl⟩
          have f4 : ∀ c, c ≠ 29 → c ≠ 31 → M4 c = M2 c := fun c h1 h2 => by rw [hM4, up2_row h2, up2_row h1]
          have hH4 : HdAt M4 t a ((ahN X a y p l (Q, H) i).2 ++ [(l.getD i 0, y)]) := by
            refine ⟨((b1.1.add (n := l.getD i 0)).fr (by rw [hM4, up2_row (by decide)])).ext (fun m _ => ?_), fun j hj => ?_⟩
            · rw [InH.app]
              exact ⟨fun z => z.elim (fun z => z.elim Or.inl (fun z => Or.inr (Or.inl z))) (fun z => Or.inr (Or.inr z)), fun z => z.elim (fun z => Or.inl (Or.inl z)) (fun z => z.elim (fun z => Or.inl (Or.inr z)) Or.inr)⟩
            · rw [List.length_append] at hj
              have hj : j < (ahN X a y p l (Q, H) i).2.length + 1 := hj
              by_cases hj2 : j < (ahN X a y p l (Q, H) i).2.length
              · rw [hget1 hj2, hM4, up2_ne (Or.inr (fun z => hns (Or.inr ⟨j, hj2, by omega⟩))), up2_row (by decide)]
                exact b1.2 j hj2
              · rw [show j = (ahN X a y p l (Q, H) i).2.length by omega, hget2, hM4]
                exact ⟨up2_at, h729, hy⟩
          have hQ4 : QuAt M4 t (ahN X a y p l (Q, H) i).1 := by
            refine ⟨by rw [f4 _ (by decide) (by decide)]; exact a1.1, a1.2.1.fr (f4 _ (by decide) (by decide)), fun j hj => ?_, a1.2.2.2⟩
            rw [f4 34 (by decide) (by decide), f4 32 (by decide) (by decide), f4 33 (by decide) (by decide)]
            exact a1.2.2.1 j hj
          have hL4 : SlAt M4 (l.getD i 0) (sgL X (l.getD i 0)) := by
            have h9 := hS _ h729
            unfold SlAt at h9 ⊢
            rw [f4 25 (by decide) (by decide), f4 26 (by decide) (by decide), a2 25 (by decide) (by decide), a2 26 (by decide) (by decide)]
            exact h9
          rw [← hM4]
          refine wq_vt2 60 rfl rfl (Nat.le_of_ble_eq_true rfl) (hC.lt (by omega)) (hC.ty 20 _ rfl) rfl (Nat.le_of_ble_eq_true rfl) (c_addTails (h := l.getD i 0) (p := p + 1) hC hQ4 (by rw [f4 _ (by decide) (by decide), a3 _ (by decide)]; exact ht) htb hL4 h729 (by omega)) (fun z M5 hz => ?_)
          obtain ⟨rfl, g1, g2, g3⟩ := hz
          dsimp only [Option.toList, List.cons_append, List.nil_append]
          refine we_inc 2 1 ((i + 1 : Nat) : Int) 63 _ rfl rfl rfl (by omega) (by omega) rfl ?_
          refine wq_s 2 rfl ?_
          obtain ⟨R, hR⟩ := atN_pre (Q := (ahN X a y p l (Q, H) i).1) (h := l.getD i 0) (p := p + 1) (l := sgL X (l.getD i 0)) (sgL X (l.getD i 0)).length
          refine ih_i (i + 1) _ _ (by omega) (by omega) (by rw [ee]; exact g1) (by rw [ee]; exact hH4.fr (g2 _ (by decide) (by decide) (by decide)) (g2 _ (by decide) (by decide) (by decide))) (by rw [ee]; dsimp only; rw [hR]; have hx := eget_pre (R := R) b2.1; exact ⟨hx.2, by rw [hx.1]; exact b2.2⟩) (fun c h1 h2 => ?_) (fun j hj => ?_)
          · rw [g2 c h1 (by omega) (by omega), f4 c (by omega) (by omega)]
            exact a2 c h1 h2
          · rw [g3 j hj, f4 _ (by decide) (by decide)]
            exact a3 j hj
  refine wq_s 1 rfl ?_
  refine wq_s 2 rfl ?_
  exact L_2 (l.length + 1) 0 M _ (by omega) (by omega) hQ hH hj (fun _ _ _ => rfl) (fun _ _ => rfl)
