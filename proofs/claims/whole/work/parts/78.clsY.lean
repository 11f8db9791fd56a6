/-! the queue of tails: addTails -/
abbrev Ent : Type := Nat × Nat × Nat
def dE : Ent := (0, 0, 0)
theorem eget1 {T : List Ent} {s : Ent} {i : Nat} (h : i < T.length) : (T ++ [s]).getD i dE = T.getD i dE := by
  rw [List.getD_eq_getElem?_getD, List.getD_eq_getElem?_getD, List.getElem?_append_left h]
theorem eget2 {T : List Ent} {s : Ent} : (T ++ [s]).getD T.length dE = s := by
  rw [List.getD_eq_getElem?_getD, List.getElem?_append_right (Nat.le_refl _), Nat.sub_self]
  rfl
/-- x is a tail of the queue -/
def InQ (Q : List Ent) (n : Nat) : Prop := ∃ j, j < Q.length ∧ (Q.getD j dE).1 = n
def QOk (Q : List Ent) : Prop := (∀ i j, i < Q.length → j < Q.length → (Q.getD i dE).1 = (Q.getD j dE).1 → i = j) ∧ ∀ j, j < Q.length → (Q.getD j dE).1 < 729 ∧ (Q.getD j dE).2.1 < 729 ∧ (Q.getD j dE).2.2 ≤ 13
theorem InQ.app {Q : List Ent} {s : Ent} {n : Nat} : InQ (Q ++ [s]) n ↔ (InQ Q n ∨ n = s.1) := by
  unfold InQ
  rw [List.length_append]
  constructor
  · rintro ⟨j, h1, h2⟩
    have h1 : j < Q.length + 1 := h1
    by_cases hj : j < Q.length
    · rw [eget1 hj] at h2
      exact Or.inl ⟨j, hj, h2⟩
    · rw [show j = Q.length by omega, eget2] at h2
      exact Or.inr h2.symm
  · rintro (⟨j, h1, h2⟩ | h)
    · exact ⟨j, Nat.lt_add_right _ h1, by rw [eget1 h1]; exact h2⟩
    · exact ⟨Q.length, Nat.lt_add_of_pos_right Nat.zero_lt_one, by rw [eget2, h]⟩
theorem QOk.len {Q : List Ent} (h : QOk Q) : Q.length ≤ 729 := by
  have h1 : ∀ i, (Q.map (fun e => e.1)).getD i 0 = (Q.getD i dE).1 := fun i => by
    rw [List.getD_eq_getElem?_getD, List.getD_eq_getElem?_getD, List.getElem?_map]
    cases Q[i]? <;> rfl
  have h2 := dst_len 729 (Q.map (fun e => e.1)) (fun i j hi hj hij => by
    rw [List.length_map] at hi hj
    rw [h1, h1] at hij
    exact h.1 i j hi hj hij) (fun i hi => by
    rw [List.length_map] at hi
    rw [h1]
    exact (h.2 i hi).1)
  rw [List.length_map] at h2
  exact h2
theorem QOk.app {Q : List Ent} {s : Ent} (h : QOk Q) (hn : ¬ InQ Q s.1) (hs : s.1 < 729 ∧ s.2.1 < 729 ∧ s.2.2 ≤ 13) : QOk (Q ++ [s]) := by
  refine ⟨fun i j hi hj hij => ?_, fun j hj => ?_⟩
  · rw [List.length_append] at hi hj
    have hi : i < Q.length + 1 := hi
    have hj : j < Q.length + 1 := hj
    by_cases hi2 : i < Q.length
    · by_cases hj2 : j < Q.length
      · rw [eget1 hi2, eget1 hj2] at hij
        exact h.1 i j hi2 hj2 hij
      · rw [eget1 hi2, show j = Q.length by omega, eget2] at hij
        exact absurd ⟨i, hi2, hij⟩ hn
    · by_cases hj2 : j < Q.length
      · rw [eget1 hj2, show i = Q.length by omega, eget2] at hij
        exact absurd ⟨j, hj2, hij.symm⟩ hn
      · omega
  · rw [List.length_append] at hj
    have hj : j < Q.length + 1 := hj
    by_cases hj2 : j < Q.length
    · rw [eget1 hj2]
      exact h.2 j hj2
    · rw [show j = Q.length by omega, eget2]
      exact hs
def QuAt (M : MT) (t : Nat) (Q : List Ent) : Prop := M 24 13 = (Q.length : Int) ∧ SnAt M 30 t (InQ Q) ∧ (∀ j, j < Q.length → M 34 (j : Int) = (((Q.getD j dE).1 : Nat) : Int) ∧ M 32 (((Q.getD j dE).1 : Nat) : Int) = (((Q.getD j dE).2.1 : Nat) : Int) ∧ M 33 (((Q.getD j dE).1 : Nat) : Int) = (((Q.getD j dE).2.2 : Nat) : Int)) ∧ QOk Q
/-- the queue behind i of a head's tails -/
noncomputable def atN (Q : List Ent) (h p : Nat) (l : List Nat) : Nat → List Ent
  | 0 => Q
  | i + 1 => cI (InQ (atN Q h p l i) (l.getD i 0)) (atN Q h p l i) (atN Q h p l i ++ [(l.getD i 0, h, p)])
theorem c_addTails {d : Nat} {G : GT} {M : MT} {Q : List Ent} {h p t : Nat} {l : List Nat} (hC : ClsG G) (hQ : QuAt M t Q) (ht : M 24 14 = (t : Int)) (htb : t < 2147483648) (hL : SlAt M h l) (hh : h < 729) (hp : p ≤ 13) : Mq d k_X1_addTails [vR 24, vI (h : Int), vI (p : Int)] G M (fun z M' => z = none ∧ QuAt M' t (atN Q h p l l.length) ∧ (∀ a, a ≠ 24 → a ≠ 30 → (a < 32 ∨ 34 < a) → M' a = M a) ∧ ∀ i : Int, i ≠ 13 → M' 24 i = M 24 i) := by
  obtain ⟨l1, l2, l3⟩ := id hL
  have L_2 : ∀ (f i : Nat) (M2 : MT) (y4 : Option AV), l.length - i < f → i ≤ l.length → (QuAt M2 t (atN Q h p l i)) → (∀ a, a ≠ 24 → a ≠ 30 → (a < 32 ∨ 34 < a) → M2 a = M a) → (∀ j : Int, j ≠ 13 → M2 24 j = M 24 j) → Wq (d) k_X1_addTails 2 [some (vR 24), some (vI ((h : Nat) : Int)), some (vI ((p : Nat) : Int)), some (vI ((i : Nat) : Int)), y4] [] G M2 (fun z M' => z = none ∧ QuAt M' t (atN Q h p l l.length) ∧ (∀ a, a ≠ 24 → a ≠ 30 → (a < 32 ∨ 34 < a) → M' a = M a) ∧ ∀ i : Int, i ≠ 13 → M' 24 i = M 24 i) := by
    intro f
    induction f with
    | zero => intro i M2 y4 h; exact absurd h (by omega)
    | succ f ih_i =>
      intro i M2 y4 hf_i hk_i a1 a2 a3
      refine wq_s 3 rfl ?_
      refine wq_s 4 rfl ?_
      refine wq_getR 7 rfl rfl (hC.lt (by omega)) (hC.ty 20 _ rfl) rfl ?_
      refine wq_s 8 rfl ?_
      refine wq_iald (v := ((l.length : Nat) : Int)) 9 rfl rfl (hC.lt (by omega)).2 (hC.ty 22 _ rfl) (by omega) (by omega) (by omega) (by rw [a2 _ (by decide) (by decide) (by decide)]; exact l1) ?_
      refine wq_icmp 102 rfl rfl (by omega) (by omega) (fun c_9 => ?_) (fun c_9 => ?_)
      · have c_9 := of_decide_eq_true c_9
        have e9 : i = l.length := by omega
        subst e9
        exact wq_ret rfl ⟨rfl, a1, a2, a3⟩
      · have c_9 := of_decide_eq_false c_9
        have hl9 := (l3 i (by omega)).2
        have hs := a1.2.1 _ hl9
        have hs1 := hs.1
        have hq9 := a1.2.2.2.len
        refine wq_s 13 rfl ?_
        refine wq_getR 16 rfl rfl (hC.lt (by omega)) (hC.ty 20 _ rfl) rfl ?_
        refine wq_s 17 rfl ?_
        refine wq_s 18 rfl ?_
        refine we_mul ((4 * h : Nat) : Int) 19 rfl rfl (by omega) (by omega) ?_
        refine wq_s 20 rfl ?_
        refine we_add (((4 * h) + i : Nat) : Int) 21 rfl rfl (by omega) (by omega) ?_
        refine wq_iald (v := ((l.getD i 0 : Nat) : Int)) 22 rfl rfl (hC.lt (by omega)).2 (hC.ty 21 _ rfl) (by omega) (by omega) (by omega) (by rw [a2 _ (by decide) (by decide) (by decide)]; exact (l3 i (by omega)).1) ?_
        refine wq_s 24 rfl ?_
        refine wq_s 25 rfl ?_
        refine wq_getR 28 rfl rfl (hC.lt (by omega)) (hC.ty 20 _ rfl) rfl ?_
        refine wq_s 30 rfl ?_
        refine wq_iald (v := M2 30 ((l.getD i 0 : Nat) : Int)) 31 rfl rfl (hC.lt (by omega)).2 (hC.ty 26 _ rfl) (by omega) (by omega) (by omega) rfl ?_
        refine wq_s 32 rfl ?_
        refine wq_getE (v := ((t : Nat) : Int)) 14 35 rfl rfl (hC.lt (by omega)) (hC.ty 20 _ rfl) rfl rfl (by rw [a3 _ (by decide)]; exact ht) ?_
        refine wq_icmp 96 rfl rfl (by omega) (by omega) (fun c_35 => ?_) (fun c_35 => ?_)
        · have c_35 := of_decide_eq_true c_35
          refine we_inc 3 1 ((i + 1 : Nat) : Int) 99 _ rfl rfl rfl (by omega) (by omega) rfl ?_
          refine wq_s 2 rfl ?_
          have ee : atN Q h p l (i + 1) = atN Q h p l i := cI_t (hs.2.1 c_35)
          exact ih_i (i + 1) _ _ (by omega) (by omega) (by rw [ee]; exact a1) a2 a3
        · have c_35 := of_decide_eq_false c_35
          refine wq_s 39 rfl ?_
          refine wq_getE (v := (((atN Q h p l i).length : Nat) : Int)) 13 42 rfl rfl (hC.lt (by omega)) (hC.ty 20 _ rfl) rfl rfl a1.1 ?_
          refine wq_s 45 rfl ?_
          refine wq_icmp 96 rfl rfl (by omega) (by omega) (fun c_45 => ?_) (fun c_45 => ?_)
          · have c_45 := of_decide_eq_true c_45
            exfalso
            have hnq : ¬ InQ (atN Q h p l i) (l.getD i 0) := fun z => c_35 (hs.2.2 z)
            have h9 := (a1.2.2.2.app (s := (l.getD i 0, h, p)) hnq ⟨hl9, hh, hp⟩).len
            rw [List.length_append] at h9
            have h9 : (atN Q h p l i).length + 1 ≤ 729 := h9
            omega
          · have c_45 := of_decide_eq_false c_45
            refine wq_s 49 rfl ?_
            refine wq_getR 52 rfl rfl (hC.lt (by omega)) (hC.ty 20 _ rfl) rfl ?_
            refine wq_s 54 rfl ?_
            refine wq_s 55 rfl ?_
            refine wq_getE (v := ((t : Nat) : Int)) 14 58 rfl rfl (hC.lt (by omega)) (hC.ty 20 _ rfl) rfl rfl (by rw [a3 _ (by decide)]; exact ht) ?_
            have hnq : ¬ InQ (atN Q h p l i) (l.getD i 0) := fun z => c_35 (hs.2.2 z)
            have ee : atN Q h p l (i + 1) = atN Q h p l i ++ [(l.getD i 0, h, p)] := cI_f hnq
            refine wq_iast 59 rfl rfl (hC.lt (by omega)) (hC.ty 26 _ rfl) (by omega) (by omega) (by omega) ?_
            refine wq_s 60 rfl ?_
            refine wq_getR 63 rfl rfl (hC.lt (by omega)) (hC.ty 20 _ rfl) rfl ?_
            refine wq_s 65 rfl ?_
            refine wq_s 66 rfl ?_
            refine wq_iast 67 rfl rfl (hC.lt (by omega)) (hC.ty 28 _ rfl) (by omega) (by omega) (by omega) ?_
            refine wq_s 68 rfl ?_
            refine wq_getR 71 rfl rfl (hC.lt (by omega)) (hC.ty 20 _ rfl) rfl ?_
            refine wq_s 73 rfl ?_
            refine wq_s 74 rfl ?_
            refine wq_iast 75 rfl rfl (hC.lt (by omega)) (hC.ty 29 _ rfl) (by omega) (by omega) (by omega) ?_
            refine wq_s 76 rfl ?_
            refine wq_getR 79 rfl rfl (hC.lt (by omega)) (hC.ty 20 _ rfl) rfl ?_
            refine wq_s 80 rfl ?_
            refine wq_getE (v := (((atN Q h p l i).length : Nat) : Int)) 13 83 rfl rfl (hC.lt (by omega)) (hC.ty 20 _ rfl) rfl rfl (by rw [up2_row (by decide), up2_row (by decide), up2_row (by decide)]; exact a1.1) ?_
            refine wq_s 85 rfl ?_
            refine wq_iast 86 rfl rfl (hC.lt (by omega)) (hC.ty 30 _ rfl) (by omega) (by omega) (by omega) ?_
            refine wq_s 87 rfl ?_
            refine wq_s 88 rfl ?_
            refine wq_getE (v := (((atN Q h p l i).length : Nat) : Int)) 13 91 rfl rfl (hC.lt (by omega)) (hC.ty 20 _ rfl) rfl rfl (by rw [up2_row (by decide), up2_row (by decide), up2_row (by decide), up2_row (by decide)]; exact a1.1) ?_
            refine wq_s 92 rfl ?_
            refine we_add (((atN Q h p l i).length + 1 : Nat) : Int) 93 rfl rfl (by omega) (by omega) ?_
            refine wq_putE 13 96 rfl rfl (hC.lt (by omega)) (hC.ty 20 _ rfl) rfl (by decide) (Or.inl rfl) rfl ?_
            refine we_inc 3 1 ((i + 1 : Nat) : Int) 99 _ rfl rfl rfl (by omega) (by omega) rfl ?_
            refine wq_s 2 rfl ?_
            refine ih_i (i + 1) _ _ (by omega) (by omega) ?_ (fun a h1 h2 h3 => ?_) (fun j hj => ?_)
            · rw [ee]
              refine ⟨?_, ?_, fun j hj => ?_, a1.2.2.2.app hnq ⟨hl9, hh, hp⟩⟩
              · rw [up2_at, List.length_append]
                rfl
              · refine ((a1.2.1.add (n := l.getD i 0)).fr ?_).ext (fun m _ => (InQ.app (s := (l.getD i 0, h, p))).symm)
                rw [up2_row (by decide), up2_row (by decide), up2_row (by decide), up2_row (by decide)]
              · rw [List.length_append] at hj
                have hj : j < (atN Q h p l i).length + 1 := hj
                rw [up2_row (a := 34) (by decide), up2_row (a := 32) (by decide), up2_row (a := 32) (by decide), up2_row (a := 32) (by decide), up2_row (a := 33) (by decide), up2_row (a := 33) (by decide)]
                by_cases hj2 : j < (atN Q h p l i).length
                · rw [eget1 hj2]
                  have h9 := a1.2.2.1 j hj2
                  have hne : ((atN Q h p l i).getD j dE).1 ≠ l.getD i 0 := fun z => hnq ⟨j, hj2, z⟩
                  refine ⟨?_, ?_, ?_⟩
                  · rw [up2_ne (Or.inr (by omega)), up2_row (by decide), up2_row (by decide), up2_row (by decide)]
                    exact h9.1
                  · rw [up2_ne (Or.inr (by omega)), up2_row (by decide)]
                    exact h9.2.1
                  · rw [up2_ne (Or.inr (by omega)), up2_row (by decide), up2_row (by decide)]
                    exact h9.2.2
                · rw [show j = (atN Q h p l i).length by omega, eget2]
                  exact ⟨up2_at, up2_at, up2_at⟩
            · rw [up2_row h1, up2_row (by omega), up2_row (by omega), up2_row (by omega), up2_row h2]
              exact a2 a h1 h2 h3
            · rw [up2_ne (Or.inr hj), up2_row (by decide), up2_row (by decide), up2_row (by decide), up2_row (by decide)]
              exact a3 j hj
  refine wq_s 1 rfl ?_
  refine wq_s 2 rfl ?_
  exact L_2 (l.length + 1) 0 M _ (by omega) (by omega) hQ (fun _ _ _ _ => rfl) (fun _ _ => rfl)
