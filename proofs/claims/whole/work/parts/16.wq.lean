/-! ROWS OVER THE ABSTRACT MACHINE: a run whose cells stay what they are; only numbers change -/
abbrev GT : Type := Nat × Nat × (Nat → LK)
abbrev MT : Type := Nat → Int → Int
theorem run_fuel : ∀ (f d k pc : Nat) (ls : LoA) (st : List AV) (h : HP) (q : Option AV × HP), runA f d k pc ls st h = some q → runA (f + 1) d k pc ls st h = some q := by
  intro f
  induction f with
  | zero => intro d k pc ls st h q hr; cases hr
  | succ f ih =>
    intro d k pc ls st h q hr
    unfold runA at hr ⊢
    split at hr
    · cases hr
    · exact ih _ _ _ _ _ _ _ hr
    · exact hr
    · cases d with
      | zero => cases hr
      | succ d' =>
        dsimp only at hr ⊢
        split at hr
        · cases hr
        · rename_i r1 h1 hq
          split at hq
          · rename_i hl
            rw [if_pos hl, ih _ _ _ _ _ _ _ hq]
            exact ih _ _ _ _ _ _ _ hr
          · cases hq
theorem run_le {f g d k pc : Nat} {ls : LoA} {st : List AV} {h : HP} {q : Option AV × HP} (hfg : f ≤ g) (hr : runA f d k pc ls st h = some q) : runA g d k pc ls st h = some q := by
  induction hfg with
  | refl => exact hr
  | step _ ih => exact run_fuel _ _ _ _ _ _ _ _ ih
def Wq (d k pc : Nat) (ls : LoA) (st : List AV) (G : GT) (M : MT) (Q : Option AV → MT → Prop) : Prop := ∃ (f : Nat) (r : Option AV) (M' : MT), runA f d k pc ls st (G.1, G.2.1, G.2.2, M) = some (r, (G.1, G.2.1, G.2.2, M')) ∧ Q r M'
/-- a method's contract -/
def Mq (d k : Nat) (as : List AV) (G : GT) (M : MT) (Q : Option AV → MT → Prop) : Prop := Wq d k 0 (entA k as) [] G M Q
abbrev R32 (z : Int) : Prop := -2147483648 ≤ z ∧ z < 2147483648
theorem w32_id {z : Int} (h : R32 z) : w32 z = z := Int32.toInt_ofInt_of_le h.1 (by have := h.2; omega)
section WQ
variable {d k pc pc' a b c w : Nat} {ls ls' : LoA} {st st' : List AV} {G : GT} {M M' : MT} {Q Q' : Option AV → MT → Prop}
theorem Wq.mono (h : Wq d k pc ls st G M Q) (hq : ∀ r M', Q r M' → Q' r M') : Wq d k pc ls st G M Q' := by
  obtain ⟨f, r, M', h1, h2⟩ := h
  exact ⟨f, r, M', h1, hq r M' h2⟩
theorem wq_s (pc' : Nat) (hs : stepA d k pc ls st (G.1, G.2.1, G.2.2, M) = some (.inl (pc', ls', st', (G.1, G.2.1, G.2.2, M')))) (h : Wq d k pc' ls' st' G M' Q) : Wq d k pc ls st G M Q := by
  obtain ⟨f, r, M2, h1, h2⟩ := h
  refine ⟨f + 1, r, M2, ?_, h2⟩
  unfold runA
  rw [hs]
  exact h1
theorem wq_ret {r : Option AV} (hs : stepA d k pc ls st (G.1, G.2.1, G.2.2, M) = some (.inr (.inr r))) (h : Q r M) : Wq d k pc ls st G M Q := by
  refine ⟨1, r, M, ?_, h⟩
  unfold runA
  rw [hs]
theorem wq_call {k' : Nat} {as rest : List AV} {Q1 : Option AV → MT → Prop} (pc' : Nat) (hp : pc + 3 = pc') (hs : stepA (d + 1) k pc ls st (G.1, G.2.1, G.2.2, M) = some (.inr (.inl (k', as, rest)))) (hl : as.all nLg = true ∧ as.length ≤ (mt k').2.2.1) (hm : Mq d k' as G M Q1)
    (h : ∀ r M1, Q1 r M1 → Wq (d + 1) k pc' ls (r.toList ++ rest) G M1 Q) : Wq (d + 1) k pc ls st G M Q := by
  subst hp
  obtain ⟨f1, r1, M1, e1, q1⟩ := hm
  obtain ⟨f2, r2, M2, e2, q2⟩ := h r1 M1 q1
  refine ⟨f1 + f2 + 1, r2, M2, ?_, q2⟩
  unfold runA
  rw [hs]
  dsimp only
  rw [if_pos hl, run_le (Nat.le_add_right f1 f2) e1]
  exact run_le (Nat.le_add_left f2 f1) e2
theorem stp_of {i : Jvm.ClassFile.Instr} {len : Nat} {h : HP} {q : SA} (hc : cd k pc = some (i, len, a, b, c, w)) (hr : retA (mt k).2.2.2.1 i st = none) (hl : callA i a b st h = none) (hs : simpA (decide (0 < d)) (decide ((mt k).2.2.2.2.2.1 = 2 ∧ (mt k).2.2.2.2.2.2 = a)) i a b c pc ls st h = some q) : stepA d k pc ls st h = some (.inl q) := by
  unfold stepA
  rw [hc]
  dsimp only
  rw [hr]
  dsimp only
  rw [hl]
  dsimp only
  rw [hs]
theorem wq_iald {q n : Nat} {i v : Int} (pc' : Nat) (hp : pc + 1 = pc') (hc : cd k pc = some (.iaload, 1, a, b, c, w)) (hq : q < G.1) (hT : G.2.2 q = .inl (false, n)) (h0 : 0 ≤ i) (h1 : i < n) (h2 : n ≤ 2147483647) (hv : M q i = v) (h : Wq d k pc' ls (vI v :: st) G M Q) : Wq d k pc ls (vI i :: vR q :: st) G M Q := by
  subst hp
  subst hv
  refine wq_s _ (stp_of hc rfl rfl ?_) h
  show aldA false (pc + 1) ls (vI i :: vR q :: st) (G.1, G.2.1, G.2.2, M) = _
  unfold aldA
  dsimp only
  rw [if_pos hq, hT]
  dsimp only
  rw [if_pos ⟨rfl, h0, h1, h2⟩, if_neg (by decide)]
theorem wq_iast {q n : Nat} {i v : Int} (pc' : Nat) (hp : pc + 1 = pc') (hc : cd k pc = some (.iastore, 1, a, b, c, w)) (hq : EXN ≤ q ∧ q < G.1) (hT : G.2.2 q = .inl (false, n)) (h0 : 0 ≤ i) (h1 : i < n) (h2 : n ≤ 2147483647) (h : Wq d k pc' ls st G (up2 M q i v) Q) : Wq d k pc ls (vI v :: vI i :: vR q :: st) G M Q := by
  subst hp
  refine wq_s _ (stp_of hc rfl rfl ?_) h
  show astA (pc + 1) ls (vI v :: vI i :: vR q :: st) (G.1, G.2.1, G.2.2, M) false = _
  unfold astA
  dsimp only
  rw [if_pos hq, hT]
  dsimp only
  rw [if_pos ⟨rfl, h0, h1, h2⟩]
theorem wq_br {q : Bool} {off : Int} {i : Jvm.ClassFile.Instr} {len tgt : Nat} (hs : simpA (decide (0 < d)) (decide ((mt k).2.2.2.2.2.1 = 2 ∧ (mt k).2.2.2.2.2.2 = a)) i a b c pc ls st (G.1, G.2.1, G.2.2, M) = brA q pc off ls st' (G.1, G.2.1, G.2.2, M)) (hc : cd k pc = some (i, len, a, b, c, w)) (hr : retA (mt k).2.2.2.1 i st = none) (hl : callA i a b st (G.1, G.2.1, G.2.2, M) = none) (ht : (pc : Int) + off = (tgt : Int))
    (kt : q = true → Wq d k tgt ls st' G M Q) (kf : q = false → Wq d k (pc + 3) ls st' G M Q) : Wq d k pc ls st G M Q := by
  have e1 : brA q pc off ls st' (G.1, G.2.1, G.2.2, M) = some (if q = true then tgt else pc + 3, ls, st', (G.1, G.2.1, G.2.2, M)) := by
    unfold brA
    rw [if_pos (by omega)]
    cases q
    · rfl
    · rw [if_pos rfl, if_pos rfl, show ((pc : Int) + off).toNat = tgt by omega]
  refine wq_s _ (stp_of hc hr hl (hs.trans e1)) ?_
  cases q
  · exact kf rfl
  · exact kt rfl
theorem wq_icmp {q : Jvm.ClassFile.Cond} {off u v : Int} (tgt : Nat) (hc : cd k pc = some (.if_icmp q off, 3, a, b, c, w)) (ht : (pc : Int) + off = (tgt : Int)) (hu : R32 u) (hv : R32 v) (kt : cmpA q u v = true → Wq d k tgt ls st G M Q) (kf : cmpA q u v = false → Wq d k (pc + 3) ls st G M Q) : Wq d k pc ls (vI v :: vI u :: st) G M Q := by
  refine wq_br (q := cmpA q u v) ?_ hc rfl rfl ht kt kf
  show brA (cmpA q (w32 u) (w32 v)) pc off ls st _ = _
  rw [w32_id hu, w32_id hv]
theorem wq_if {q : Jvm.ClassFile.Cond} {off u : Int} (tgt : Nat) (hc : cd k pc = some (.ifCond q off, 3, a, b, c, w)) (ht : (pc : Int) + off = (tgt : Int)) (hu : R32 u) (kt : cmpA q u 0 = true → Wq d k tgt ls st G M Q) (kf : cmpA q u 0 = false → Wq d k (pc + 3) ls st G M Q) : Wq d k pc ls (vI u :: st) G M Q := by
  refine wq_br (q := cmpA q u 0) ?_ hc rfl rfl ht kt kf
  show brA (cmpA q (w32 u) 0) pc off ls st _ = _
  rw [w32_id hu]
theorem wq_add {u v : Int} (pc' : Nat) (hp : pc + 1 = pc') (hc : cd k pc = some (.iadd, 1, a, b, c, w)) (hz : R32 (u + v)) (h : Wq d k pc' ls (vI (u + v) :: st) G M Q) : Wq d k pc ls (vI v :: vI u :: st) G M Q := by
  subst hp
  refine wq_s _ (stp_of hc rfl rfl ?_) h
  show some (pc + 1, ls, vI (w32 (u + v)) :: st, _) = _
  rw [w32_id hz]
theorem wq_sub {u v : Int} (pc' : Nat) (hp : pc + 1 = pc') (hc : cd k pc = some (.isub, 1, a, b, c, w)) (hz : R32 (u - v)) (h : Wq d k pc' ls (vI (u - v) :: st) G M Q) : Wq d k pc ls (vI v :: vI u :: st) G M Q := by
  subst hp
  refine wq_s _ (stp_of hc rfl rfl ?_) h
  show some (pc + 1, ls, vI (w32 (u - v)) :: st, _) = _
  rw [w32_id hz]
theorem wq_mul {u v : Int} (pc' : Nat) (hp : pc + 1 = pc') (hc : cd k pc = some (.imul, 1, a, b, c, w)) (hz : R32 (u * v)) (h : Wq d k pc' ls (vI (u * v) :: st) G M Q) : Wq d k pc ls (vI v :: vI u :: st) G M Q := by
  subst hp
  refine wq_s _ (stp_of hc rfl rfl ?_) h
  show some (pc + 1, ls, vI (w32 (u * v)) :: st, _) = _
  rw [w32_id hz]
theorem wq_inc {j : Nat} {n u : Int} (pc' : Nat) (ls' : LoA) (hp : pc + 3 = pc') (hc : cd k pc = some (.iinc j n, 3, a, b, c, w)) (hl : ls[j]? = some (some (vI u))) (hz : R32 (u + n)) (hs : ls.set j (some (vI (u + n))) = ls') (h : Wq d k pc' ls' st G M Q) : Wq d k pc ls st G M Q := by
  subst hp
  subst hs
  refine wq_s _ (stp_of hc rfl rfl ?_) h
  unfold simpA
  dsimp only
  rw [hl]
  dsimp only
  rw [w32_id hz]
theorem div_of {u v : Int} (hu : 0 ≤ u) (hu2 : u < 2147483648) (hv : 0 < v) (hv2 : v < 2147483648) : b32 (fun x y => x / y) u v = u / v ∧ b32 (fun x y => x - x / y * y) u v = u % v := by
  obtain ⟨m, rfl⟩ := Int.eq_ofNat_of_zero_le hu
  obtain ⟨n, rfl⟩ := Int.eq_ofNat_of_zero_le (Int.le_of_lt hv)
  have e1 : Int32.ofInt (m : Int) = nI m := rfl
  have e2 : Int32.ofInt (n : Int) = nI n := rfl
  have hm : m < 2 ^ 31 := by omega
  have hn : n < 2 ^ 31 := by omega
  have h0 : 0 < n := by omega
  have d1 : m / n < 2 ^ 31 := Nat.lt_of_le_of_lt (Nat.div_le_self m n) hm
  have d2 : m % n < 2 ^ 31 := Nat.lt_of_le_of_lt (Nat.mod_le m n) hm
  refine ⟨?_, ?_⟩
  · unfold b32
    dsimp only
    rw [e1, e2, pk_div hm h0 hn, nI_toInt d1]
    rfl
  · unfold b32
    dsimp only
    rw [e1, e2, pk_rem hm h0 hn, nI_toInt d2]
    rfl
theorem wq_div {u v : Int} (pc' : Nat) (hp : pc + 1 = pc') (hc : cd k pc = some (.idiv, 1, a, b, c, w)) (hu : 0 ≤ u) (hu2 : u < 2147483648) (hv : 0 < v) (hv2 : v < 2147483648) (h : Wq d k pc' ls (vI (u / v) :: st) G M Q) : Wq d k pc ls (vI v :: vI u :: st) G M Q := by
  subst hp
  refine wq_s _ (stp_of hc rfl rfl ?_) h
  unfold simpA
  dsimp only
  rw [if_neg (by rw [w32_id ⟨by omega, by omega⟩]; omega), (div_of hu hu2 hv hv2).1]
theorem wq_rem {u v : Int} (pc' : Nat) (hp : pc + 1 = pc') (hc : cd k pc = some (.irem, 1, a, b, c, w)) (hu : 0 ≤ u) (hu2 : u < 2147483648) (hv : 0 < v) (hv2 : v < 2147483648) (h : Wq d k pc' ls (vI (u % v) :: st) G M Q) : Wq d k pc ls (vI v :: vI u :: st) G M Q := by
  subst hp
  refine wq_s _ (stp_of hc rfl rfl ?_) h
  unfold simpA
  dsimp only
  rw [if_neg (by rw [w32_id ⟨by omega, by omega⟩]; omega), (div_of hu hu2 hv hv2).2]
end WQ
