/-! the trace of the class -/
theorem wq_max {d k pc b c w : Nat} {ls : LoA} {st : List AV} {G : GT} {M : MT} {Q : Option AV → MT → Prop} {u v : Int} {x0 : Nat} (z : Int) (pc' : Nat) (hp : pc + 3 = pc') (hc : cd k pc = some (.invokestatic x0, 3, 9998, b, c, w)) (hu : R32 u) (hv : R32 v) (hr : st.length ≤ 4) (hz : (if u < v then v else u) = z) (h : Wq (d + 1) k pc' ls (vI z :: st) G M Q) : Wq (d + 1) k pc ls (vI v :: vI u :: st) G M Q := by
  subst hp hz
  refine wq_s _ (stp_of hc rfl rfl ?_) h
  unfold simpA
  dsimp only
  rw [if_pos ⟨rfl, decide_eq_true (Nat.zero_lt_succ _)⟩]
  rw [if_pos hr, w32_id hu, w32_id hv]
def lTot : List GSt → Nat
  | [] => 0
  | s :: l => s.2.2.2.2.length + lTot l
theorem lTot_app (l k : List GSt) : lTot (l ++ k) = lTot l + lTot k := by
  induction l with
  | nil => exact (Nat.zero_add _).symm
  | cons s l ih =>
    show s.2.2.2.2.length + lTot (l ++ k) = s.2.2.2.2.length + lTot l + lTot k
    rw [ih, Nat.add_assoc]
theorem lTot_at (T : List GSt) : ∀ i, i < T.length → lTot (T.take i) + (T.getD i dfS).2.2.2.2.length ≤ lTot T := by
  induction T with
  | nil => intro i h; exact absurd h (Nat.not_lt_zero _)
  | cons s l ih =>
    intro i hi
    cases i with
    | zero =>
      show 0 + s.2.2.2.2.length ≤ s.2.2.2.2.length + lTot l
      omega
    | succ i =>
      have h1 := ih i (Nat.lt_of_succ_lt_succ hi)
      show s.2.2.2.2.length + lTot (l.take i) + (l.getD i dfS).2.2.2.2.length ≤ s.2.2.2.2.length + lTot l
      omega
theorem lTot_le (T : List GSt) (h : ∀ s, s ∈ T → GStOk s) : lTot T ≤ 24 * T.length := by
  induction T with
  | nil => exact Nat.le_refl _
  | cons s l ih =>
    have h1 := ih (fun s hs => h s (List.mem_cons_of_mem _ hs))
    have h2 := (h s (List.mem_cons_self ..)).2.2.2.2.1
    show s.2.2.2.2.length + lTot l ≤ 24 * (l.length + 1)
    omega
/-- where the class keeps step i -/
def ClsS1 (M : MT) (i f g : Nat) (s : GSt) : Prop := M 37 (i : Int) = (s.1 : Int) ∧ M 38 (i : Int) = (s.2.1 : Int) ∧ M 39 (i : Int) = (s.2.2.1 : Int) ∧ M 40 (i : Int) = (f : Int) ∧ M 41 (i : Int) = (s.2.2.2.1.length : Int) ∧ M 42 (i : Int) = (g : Int) ∧ M 43 (i : Int) = (s.2.2.2.2.length : Int) ∧ ∀ k, k < s.2.2.2.2.length → M 44 ((g + k : Nat) : Int) = ((s.2.2.2.2.getD k 0 : Nat) : Int)
def ClsTr (M : MT) (T : List GSt) : Prop := M 36 9 = (T.length : Int) ∧ M 36 10 = ((scT T : Nat) : Int) ∧ M 36 11 = lvT T ∧ M 36 8 = ((lTot T : Nat) : Int) ∧ ∀ i, i < T.length → ClsS1 M i (gTot (T.take i)) (lTot (T.take i)) (T.getD i dfS)
theorem ClsTr.fr {M M' : MT} {T : List GSt} (h : ClsTr M T) (h1 : ∀ a, 36 ≤ a → a ≤ 44 → M' a = M a) : ClsTr M' T := by
  obtain ⟨e1, e2, e3, e4, e5⟩ := h
  refine ⟨by rw [h1 36 (by decide) (by decide)]; exact e1, by rw [h1 36 (by decide) (by decide)]; exact e2, by rw [h1 36 (by decide) (by decide)]; exact e3, by rw [h1 36 (by decide) (by decide)]; exact e4, fun i hi => ?_⟩
  unfold ClsS1
  rw [h1 37 (by decide) (by decide), h1 38 (by decide) (by decide), h1 39 (by decide) (by decide), h1 40 (by decide) (by decide), h1 41 (by decide) (by decide), h1 42 (by decide) (by decide), h1 43 (by decide) (by decide), h1 44 (by decide) (by decide)]
  exact e5 i hi
theorem c_X7_forget {d : Nat} {G : GT} {M : MT} (hC : ClsG G) : Mq d k_X7_forget [vR 36] G M (fun z M' => z = none ∧ ClsTr M' [] ∧ ∀ a, a ≠ 36 → M' a = M a) := by
  refine wq_s 1 rfl ?_
  refine wq_s 2 rfl ?_
  refine wq_putE 9 5 rfl rfl (hC.lt (by omega)) (hC.ty 32 _ rfl) rfl (by decide) (Or.inl rfl) rfl ?_
  refine wq_s 6 rfl ?_
  refine wq_s 7 rfl ?_
  refine wq_putE 10 10 rfl rfl (hC.lt (by omega)) (hC.ty 32 _ rfl) rfl (by decide) (Or.inl rfl) rfl ?_
  refine wq_s 11 rfl ?_
  refine wq_s 12 rfl ?_
  refine wq_putE 11 15 rfl rfl (hC.lt (by omega)) (hC.ty 32 _ rfl) rfl (by decide) (Or.inl rfl) rfl ?_
  refine wq_s 16 rfl ?_
  refine wq_s 17 rfl ?_
  refine wq_putE 8 20 rfl rfl (hC.lt (by omega)) (hC.ty 32 _ rfl) rfl (by decide) (Or.inl rfl) rfl ?_
  exact wq_ret rfl ⟨rfl, ⟨(by rw [up2_ne (Or.inr (by decide)), up2_ne (Or.inr (by decide)), up2_ne (Or.inr (by decide)), up2_at]; rfl), (by rw [up2_ne (Or.inr (by decide)), up2_ne (Or.inr (by decide)), up2_at]; rfl), (by rw [up2_ne (Or.inr (by decide)), up2_at]; rfl), (by rw [up2_at]; rfl), fun i hi => absurd hi (Nat.not_lt_zero _)⟩, fun a ha => by rw [up2_row ha, up2_row ha, up2_row ha, up2_row ha]⟩
theorem c_X7_has {d : Nat} {G : GT} {M : MT} {T : List GSt} {i : Int} (hC : ClsG G) (hT : ClsTr M T) (hl : T.length ≤ 729) (hi : R32 i) : Mq d k_X7_has [vR 36, vI i] G M (fun z M' => (z = some (vI 1) ∧ (0 ≤ i ∧ i ≤ (T.length : Int) - 1) ∧ M' = M) ∨ (z = some (vI 0) ∧ ¬ (0 ≤ i ∧ i ≤ (T.length : Int) - 1) ∧ M' = M)) := by
  refine wq_s 1 rfl ?_
  refine wq_if 16 rfl rfl (by omega) (fun c_1 => ?_) (fun c_1 => ?_)
  · have c_1 := of_decide_eq_true c_1
    refine wq_s 17 rfl ?_
    exact wq_ret rfl (Or.inr ⟨rfl, by omega, rfl⟩)
  · have c_1 := of_decide_eq_false c_1
    refine wq_s 5 rfl ?_
    refine wq_s 6 rfl ?_
    refine wq_getE (v := ((T.length : Nat) : Int)) 9 9 rfl rfl (hC.lt (by omega)) (hC.ty 32 _ rfl) rfl rfl hT.1 ?_
    refine wq_icmp 16 rfl rfl (by omega) (by omega) (fun c_9 => ?_) (fun c_9 => ?_)
    · have c_9 := of_decide_eq_true c_9
      refine wq_s 17 rfl ?_
      exact wq_ret rfl (Or.inr ⟨rfl, by omega, rfl⟩)
    · have c_9 := of_decide_eq_false c_9
      refine wq_s 13 rfl ?_
      refine wq_s 17 rfl ?_
      exact wq_ret rfl (Or.inl ⟨rfl, by omega, rfl⟩)
theorem c_X7_linkAt {d : Nat} {G : GT} {M : MT} {T : List GSt} {i : Nat} (hC : ClsG G) (hT : ClsTr M T) (hi : i < lTot T) (hl : lTot T ≤ 17496) : Mq d k_X7_linkAt [vR 36, vI (i : Int)] G M (fun z M' => z = some (vI (M 44 (i : Int))) ∧ M' = M) := by
  refine wq_s 1 rfl ?_
  refine wq_if 21 rfl rfl (by omega) (fun c_1 => absurd c_1 cmp_ltN) (fun _ => ?_)
  refine wq_s 5 rfl ?_
  refine wq_s 6 rfl ?_
  refine wq_getE (v := ((lTot T : Nat) : Int)) 8 9 rfl rfl (hC.lt (by omega)) (hC.ty 32 _ rfl) rfl rfl hT.2.2.2.1 ?_
  refine wq_icmp 21 rfl rfl (by omega) (by omega) (fun c_9 => ?_) (fun c_9 => ?_)
  · have c_9 := of_decide_eq_true c_9
    exact absurd c_9 (by omega)
  · have c_9 := of_decide_eq_false c_9
    refine wq_s 13 rfl ?_
    refine wq_getR 16 rfl rfl (hC.lt (by omega)) (hC.ty 32 _ rfl) rfl ?_
    refine wq_s 17 rfl ?_
    refine wq_iald (v := M 44 ((i : Nat) : Int)) 18 rfl rfl (hC.lt (by omega)).2 (hC.ty 40 _ rfl) (by omega) (by omega) (by omega) rfl ?_
    refine wq_s 22 rfl ?_
    exact wq_ret rfl ⟨rfl, rfl⟩
theorem c_X7_write {d : Nat} {G : GT} {M : MT} {T : List GSt} {r p q : Nat} {gl : List Nat} (hC : ClsG G) (hTb : TbAt M) (hTr : ClsTr M T) (hOk : TrOk T) (hr : r < 14) (hl : T.length < 729) : Mq (d + 1) k_X7_write [vR 36, vI (r : Int), vI (p : Int), vI (q : Int), vI ((gTot T : Nat) : Int), vI (gl.length : Int)] G M (fun z M' => z = none ∧ ClsTr M' (T ++ [(r, p, q, gl, [])]) ∧ ∀ a, (a < 36 ∨ 43 < a) → M' a = M a) := by
  obtain ⟨t9, t10, t11, t8, tS⟩ := id hTr
  have hsc := scT_le T (fun s hs => (hOk.2 s hs).1)
  have hlv := lvF_rng T (-1) (by decide) (by decide) (fun s hs => (hOk.2 s hs).1)
  have hwt := (wtN_le ⟨r, hr⟩).1
  dsimp only at hwt
  have hlt := lTot_le T hOk.2
  obtain ⟨M7, hM7⟩ : ∃ M7 : MT, M7 = up2 (up2 (up2 (up2 (up2 (up2 (up2 M 37 (T.length : Int) (r : Int)) 38 (T.length : Int) (p : Int)) 39 (T.length : Int) (q : Int)) 40 (T.length : Int) ((gTot T : Nat) : Int)) 41 (T.length : Int) (gl.length : Int)) 42 (T.length : Int) ((lTot T : Nat) : Int)) 43 (T.length : Int) 0 := ⟨_, rfl⟩
  have k7 : M7 37 (T.length : Int) = (r : Int) ∧ M7 38 (T.length : Int) = (p : Int) ∧ M7 39 (T.length : Int) = (q : Int) ∧ M7 40 (T.length : Int) = ((gTot T : Nat) : Int) ∧ M7 41 (T.length : Int) = (gl.length : Int) ∧ M7 42 (T.length : Int) = ((lTot T : Nat) : Int) ∧ M7 43 (T.length : Int) = 0 := by
    rw [hM7]
    refine ⟨?_, ?_, ?_, ?_, ?_, ?_, ?_⟩
    · rw [up2_ne (Or.inl (by decide)), up2_ne (Or.inl (by decide)), up2_ne (Or.inl (by decide)), up2_ne (Or.inl (by decide)), up2_ne (Or.inl (by decide)), up2_ne (Or.inl (by decide)), up2_at]
    · rw [up2_ne (Or.inl (by decide)), up2_ne (Or.inl (by decide)), up2_ne (Or.inl (by decide)), up2_ne (Or.inl (by decide)), up2_ne (Or.inl (by decide)), up2_at]
    · rw [up2_ne (Or.inl (by decide)), up2_ne (Or.inl (by decide)), up2_ne (Or.inl (by decide)), up2_ne (Or.inl (by decide)), up2_at]
    · rw [up2_ne (Or.inl (by decide)), up2_ne (Or.inl (by decide)), up2_ne (Or.inl (by decide)), up2_at]
    · rw [up2_ne (Or.inl (by decide)), up2_ne (Or.inl (by decide)), up2_at]
    · rw [up2_ne (Or.inl (by decide)), up2_at]
    · rw [up2_at]
  have f7 : ∀ a, (a < 37 ∨ 43 < a) → M7 a = M a := fun a ha => by
    rw [hM7, up2_row (by omega), up2_row (by omega), up2_row (by omega), up2_row (by omega), up2_row (by omega), up2_row (by omega), up2_row (by omega)]
  have g7 : ∀ (a : Nat) (i : Int), i ≠ T.length → M7 a i = M a i := fun a i hi => by
    rw [hM7, up2_ne (Or.inr hi), up2_ne (Or.inr hi), up2_ne (Or.inr hi), up2_ne (Or.inr hi), up2_ne (Or.inr hi), up2_ne (Or.inr hi), up2_ne (Or.inr hi)]
  refine wq_s 1 rfl ?_
  refine wq_getE (v := ((T.length : Nat) : Int)) 9 4 rfl rfl (hC.lt (by omega)) (hC.ty 32 _ rfl) rfl rfl (by exact t9) ?_
  refine wq_s 7 rfl ?_
  refine wq_icmp 20 rfl rfl (by omega) (by omega) (fun c_7 => ?_) (fun c_7 => ?_)
  · have c_7 := of_decide_eq_true c_7
    exact absurd c_7 (by omega)
  · have c_7 := of_decide_eq_false c_7
    refine wq_s 11 rfl ?_
    refine wq_if 20 rfl rfl (by omega) (fun c_11 => absurd c_11 cmp_ltN) (fun _ => ?_)
    refine wq_s 15 rfl ?_
    refine wq_s 17 rfl ?_
    refine wq_icmp 21 rfl rfl (by omega) (by omega) (fun c_17 => ?_) (fun c_17 => ?_)
    · have c_17 := of_decide_eq_true c_17
      refine wq_s 22 rfl ?_
      refine wq_getR 25 rfl rfl (hC.lt (by omega)) (hC.ty 32 _ rfl) rfl ?_
      refine wq_s 26 rfl ?_
      refine wq_getE (v := ((T.length : Nat) : Int)) 9 29 rfl rfl (hC.lt (by omega)) (hC.ty 32 _ rfl) rfl rfl (by exact t9) ?_
      refine wq_s 30 rfl ?_
      refine wq_iast 31 rfl rfl (hC.lt (by omega)) (hC.ty 33 _ rfl) (by omega) (by omega) (by omega) ?_
      refine wq_s 32 rfl ?_
      refine wq_getR 35 rfl rfl (hC.lt (by omega)) (hC.ty 32 _ rfl) rfl ?_
      refine wq_s 36 rfl ?_
      refine wq_getE (v := ((T.length : Nat) : Int)) 9 39 rfl rfl (hC.lt (by omega)) (hC.ty 32 _ rfl) rfl rfl (by rw [up2_ne (Or.inl (by decide))]; exact t9) ?_
      refine wq_s 40 rfl ?_
      refine wq_iast 41 rfl rfl (hC.lt (by omega)) (hC.ty 34 _ rfl) (by omega) (by omega) (by omega) ?_
      refine wq_s 42 rfl ?_
      refine wq_getR 45 rfl rfl (hC.lt (by omega)) (hC.ty 32 _ rfl) rfl ?_
      refine wq_s 46 rfl ?_
      refine wq_getE (v := ((T.length : Nat) : Int)) 9 49 rfl rfl (hC.lt (by omega)) (hC.ty 32 _ rfl) rfl rfl (by rw [up2_ne (Or.inl (by decide)), up2_ne (Or.inl (by decide))]; exact t9) ?_
      refine wq_s 50 rfl ?_
      refine wq_iast 51 rfl rfl (hC.lt (by omega)) (hC.ty 35 _ rfl) (by omega) (by omega) (by omega) ?_
      refine wq_s 52 rfl ?_
      refine wq_getR 55 rfl rfl (hC.lt (by omega)) (hC.ty 32 _ rfl) rfl ?_
      refine wq_s 56 rfl ?_
      refine wq_getE (v := ((T.length : Nat) : Int)) 9 59 rfl rfl (hC.lt (by omega)) (hC.ty 32 _ rfl) rfl rfl (by rw [up2_ne (Or.inl (by decide)), up2_ne (Or.inl (by decide)), up2_ne (Or.inl (by decide))]; exact t9) ?_
      refine wq_s 61 rfl ?_
      refine wq_iast 62 rfl rfl (hC.lt (by omega)) (hC.ty 36 _ rfl) (by omega) (by omega) (by omega) ?_
      refine wq_s 63 rfl ?_
      refine wq_getR 66 rfl rfl (hC.lt (by omega)) (hC.ty 32 _ rfl) rfl ?_
      refine wq_s 67 rfl ?_
      refine wq_getE (v := ((T.length : Nat) : Int)) 9 70 rfl rfl (hC.lt (by omega)) (hC.ty 32 _ rfl) rfl rfl (by rw [up2_ne (Or.inl (by decide)), up2_ne (Or.inl (by decide)), up2_ne (Or.inl (by decide)), up2_ne (Or.inl (by decide))]; exact t9) ?_
      refine wq_s 72 rfl ?_
      refine wq_iast 73 rfl rfl (hC.lt (by omega)) (hC.ty 37 _ rfl) (by omega) (by omega) (by omega) ?_
      refine wq_s 74 rfl ?_
      refine wq_getR 77 rfl rfl (hC.lt (by omega)) (hC.ty 32 _ rfl) rfl ?_
      refine wq_s 78 rfl ?_
      refine wq_getE (v := ((T.length : Nat) : Int)) 9 81 rfl rfl (hC.lt (by omega)) (hC.ty 32 _ rfl) rfl rfl (by rw [up2_ne (Or.inl (by decide)), up2_ne (Or.inl (by decide)), up2_ne (Or.inl (by decide)), up2_ne (Or.inl (by decide)), up2_ne (Or.inl (by decide))]; exact t9) ?_
      refine wq_s 82 rfl ?_
      refine wq_getE (v := ((lTot T : Nat) : Int)) 8 85 rfl rfl (hC.lt (by omega)) (hC.ty 32 _ rfl) rfl rfl (by rw [up2_ne (Or.inl (by decide)), up2_ne (Or.inl (by decide)), up2_ne (Or.inl (by decide)), up2_ne (Or.inl (by decide)), up2_ne (Or.inl (by decide))]; exact t8) ?_
      refine wq_iast 86 rfl rfl (hC.lt (by omega)) (hC.ty 38 _ rfl) (by omega) (by omega) (by omega) ?_
      refine wq_s 87 rfl ?_
      refine wq_getR 90 rfl rfl (hC.lt (by omega)) (hC.ty 32 _ rfl) rfl ?_
      refine wq_s 91 rfl ?_
      refine wq_getE (v := ((T.length : Nat) : Int)) 9 94 rfl rfl (hC.lt (by omega)) (hC.ty 32 _ rfl) rfl rfl (by rw [up2_ne (Or.inl (by decide)), up2_ne (Or.inl (by decide)), up2_ne (Or.inl (by decide)), up2_ne (Or.inl (by decide)), up2_ne (Or.inl (by decide)), up2_ne (Or.inl (by decide))]; exact t9) ?_
      refine wq_s 95 rfl ?_
      refine wq_iast 96 rfl rfl (hC.lt (by omega)) (hC.ty 39 _ rfl) (by omega) (by omega) (by omega) ?_
      rw [← hM7]
      refine wq_s 97 rfl ?_
      refine wq_s 98 rfl ?_
      refine wq_getE (v := ((T.length : Nat) : Int)) 9 101 rfl rfl (hC.lt (by omega)) (hC.ty 32 _ rfl) rfl rfl (by rw [f7 _ (by decide)]; exact t9) ?_
      refine wq_s 102 rfl ?_
      refine we_add ((T.length + 1 : Nat) : Int) 103 rfl rfl (by omega) (by omega) ?_
      refine wq_putE 9 106 rfl rfl (hC.lt (by omega)) (hC.ty 32 _ rfl) rfl (by decide) (Or.inl rfl) rfl ?_
      refine wq_s 107 rfl ?_
      refine wq_s 108 rfl ?_
      refine wq_getE (v := ((scT T : Nat) : Int)) 10 111 rfl rfl (hC.lt (by omega)) (hC.ty 32 _ rfl) rfl rfl (by rw [up2_ne (Or.inr (by decide)), f7 _ (by decide)]; exact t10) ?_
      refine wq_s 114 rfl ?_
      refine wq_s 115 rfl ?_
      refine wq_iald (v := ((wtN r : Nat) : Int)) 116 rfl rfl (show 3 < G.1 by have := hC.1; omega) hC.2.2.2.2 (by omega) (by omega) (by omega) (by rw [up2_row (by decide), f7 _ (by decide)]; exact hTb.2 r hr) ?_
      refine we_add ((scT T + wtN r : Nat) : Int) 117 rfl rfl (by omega) (by omega) ?_
      refine wq_putE 10 120 rfl rfl (hC.lt (by omega)) (hC.ty 32 _ rfl) rfl (by decide) (Or.inl rfl) rfl ?_
      refine wq_s 121 rfl ?_
      refine wq_s 122 rfl ?_
      refine wq_getE (v := lvF (-1) T) 11 125 rfl rfl (hC.lt (by omega)) (hC.ty 32 _ rfl) rfl rfl (by rw [up2_ne (Or.inr (by decide)), up2_ne (Or.inr (by decide)), f7 _ (by decide)]; exact t11) ?_
      refine wq_s 126 rfl ?_
      refine wq_max (lvT (T ++ [(r, p, q, gl, [])])) 129 rfl rfl (by omega) (by omega) (Nat.le_of_ble_eq_true rfl) (by unfold lvT; rw [lvF_app]) ?_
      refine wq_putE 11 132 rfl rfl (hC.lt (by omega)) (hC.ty 32 _ rfl) rfl (by decide) (Or.inl rfl) rfl ?_
      refine wq_ret rfl ⟨rfl, ⟨?_, ?_, up2_at, ?_, fun i hi => ?_⟩, fun a ha => ?_⟩
      · rw [up2_ne (Or.inr (by decide)), up2_ne (Or.inr (by decide)), up2_at, List.length_append]
        rfl
      · rw [up2_ne (Or.inr (by decide)), up2_at, scT_app]
        rfl
      · rw [up2_ne (Or.inr (by decide)), up2_ne (Or.inr (by decide)), up2_ne (Or.inr (by decide)), f7 _ (by decide), t8, lTot_app]
        rfl
      · rw [List.length_append] at hi
        have hi : i < T.length + 1 := hi
        unfold ClsS1
        rw [up2_row (by decide), up2_row (by decide), up2_row (by decide), up2_row (a := 38) (by decide), up2_row (a := 38) (by decide), up2_row (a := 38) (by decide), up2_row (a := 39) (by decide), up2_row (a := 39) (by decide), up2_row (a := 39) (by decide), up2_row (a := 40) (by decide), up2_row (a := 40) (by decide), up2_row (a := 40) (by decide), up2_row (a := 41) (by decide), up2_row (a := 41) (by decide), up2_row (a := 41) (by decide), up2_row (a := 42) (by decide), up2_row (a := 42) (by decide), up2_row (a := 42) (by decide), up2_row (a := 43) (by decide), up2_row (a := 43) (by decide), up2_row (a := 43) (by decide), up2_row (a := 44) (by decide), up2_row (a := 44) (by decide), up2_row (a := 44) (by decide)]
        by_cases hiT : i < T.length
        · rw [sgetD1 hiT, stake (by omega), g7 37 _ (by omega), g7 38 _ (by omega), g7 39 _ (by omega), g7 40 _ (by omega), g7 41 _ (by omega), g7 42 _ (by omega), g7 43 _ (by omega), f7 44 (by decide)]
          exact tS i hiT
        · have ei : i = T.length := by omega
          subst ei
          rw [sgetD2, stake (Nat.le_refl _), List.take_length]
          obtain ⟨k1, k2, k3, k4, k5, k6, k7⟩ := k7
          exact ⟨k1, k2, k3, k4, k5, k6, k7, fun k hk => absurd hk (Nat.not_lt_zero _)⟩
      · rw [up2_row (by omega), up2_row (by omega), up2_row (by omega)]
        exact f7 a (by omega)
    · have c_17 := of_decide_eq_false c_17
      exact absurd c_17 (by omega)
