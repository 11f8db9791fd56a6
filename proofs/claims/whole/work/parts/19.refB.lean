/-! rows for fields; the reference's functions of one row of masks -/
section WF
variable {d k pc pc' a b c w : Nat} {ls ls' : LoA} {st st' : List AV} {G : GT} {M M' : MT} {Q Q' : Option AV → MT → Prop}
theorem wq_getR {q x0 : Nat} {fs : List (Option (Option Nat))} {r : Option Nat} (pc' : Nat) (hp : pc + 3 = pc') (hc : cd k pc = some (.getfield x0, 3, a, b, c, w)) (hq : EXN ≤ q ∧ q < G.1) (hT : G.2.2 q = .inr (a, fs)) (hf : fs[b]? = some (some r)) (h : Wq d k pc' ls (.inr r :: st) G M Q) : Wq d k pc ls (vR q :: st) G M Q := by
  subst hp
  refine wq_s _ (stp_of hc rfl rfl ?_) h
  show getA a b (pc + 3) ls (vR q :: st) (G.1, G.2.1, G.2.2, M) = _
  unfold getA
  dsimp only
  rw [if_pos hq, hT]
  dsimp only
  rw [if_pos rfl, hf]
theorem wq_getN {q x0 : Nat} {fs : List (Option (Option Nat))} {v : Int} (pc' : Nat) (hp : pc + 3 = pc') (hc : cd k pc = some (.getfield x0, 3, a, b, c, w)) (hq : EXN ≤ q ∧ q < G.1) (hT : G.2.2 q = .inr (a, fs)) (hf : fs[b]? = some none) (hv : M q b = v) (h : Wq d k pc' ls (vI v :: st) G M Q) : Wq d k pc ls (vR q :: st) G M Q := by
  subst hp
  subst hv
  refine wq_s _ (stp_of hc rfl rfl ?_) h
  show getA a b (pc + 3) ls (vR q :: st) (G.1, G.2.1, G.2.2, M) = _
  unfold getA
  dsimp only
  rw [if_pos hq, hT]
  dsimp only
  rw [if_pos rfl, hf]
theorem wq_putN {q x0 : Nat} {fs : List (Option (Option Nat))} {v : Int} (pc' : Nat) (hp : pc + 3 = pc') (hc : cd k pc = some (.putfield x0, 3, a, b, c, w)) (hq : EXN ≤ q ∧ q < G.1) (hT : G.2.2 q = .inr (a, fs)) (hf : fs[b]? = some none) (h4 : c < 4) (hk : c % 4 = 0 ∨ (c % 4 = 1 ∧ (v = 0 ∨ v = 1))) (h : Wq d k pc' ls st G (up2 M q b v) Q) : Wq d k pc ls (vI v :: vR q :: st) G M Q := by
  subst hp
  refine wq_s _ (stp_of hc rfl rfl ?_) h
  show putA _ a b c (pc + 3) ls (vI v :: vR q :: st) (G.1, G.2.1, G.2.2, M) = _
  unfold putA
  dsimp only
  rw [if_pos ⟨hq.1, hq.2, fun z => absurd z (by omega)⟩, hT]
  dsimp only
  rw [if_pos rfl, hf]
  dsimp only
  rw [if_pos hk]
end WF
section WCL
variable {d k k' pc pc' c w : Nat} {ls : LoA} {rest : List AV} {G : GT} {M : MT} {Q Q1 : Option AV → MT → Prop} {x0 : Nat}
theorem wq_vt0 {q : Nat} {fs : List (Option (Option Nat))} (pc' : Nat) (hp : pc + 3 = pc') (hc : cd k pc = some (.invokevirtual x0, 3, k', 0, c, w)) (hr : rest.length ≤ 4) (hq : EXN ≤ q ∧ q < G.1) (hT : G.2.2 q = .inr ((mt k').2.2.2.2.2.2, fs)) (hl : ([vR q] : List AV).all nLg = true) (hx : 1 ≤ (mt k').2.2.1) (hm : Mq d k' [vR q] G M Q1)
    (h : ∀ r M1, Q1 r M1 → Wq (d + 1) k pc' ls (r.toList ++ rest) G M1 Q) : Wq (d + 1) k pc ls (vR q :: rest) G M Q := by
  refine wq_call pc' hp ?_ ⟨hl, hx⟩ hm h
  unfold stepA
  rw [hc]
  dsimp only
  rw [show retA (mt k).2.2.2.1 (.invokevirtual x0) (vR q :: rest) = none from rfl]
  dsimp only
  rw [show callA (.invokevirtual x0) k' 0 (vR q :: rest) (G.1, G.2.1, G.2.2, M) = some (k', [vR q], rest) from by
    unfold callA
    dsimp only [List.drop]
    rw [if_pos ⟨rfl, hr, hq.1, hq.2⟩, hT]
    dsimp only
    rw [if_pos rfl]
    rfl]
theorem wq_st1 {v1 : AV} (pc' : Nat) (hp : pc + 3 = pc') (hc : cd k pc = some (.invokestatic x0, 3, k', 1, c, w)) (h98 : k' ≠ 9998) (hr : rest.length ≤ 4) (hl : ([v1] : List AV).all nLg = true) (hx : 1 ≤ (mt k').2.2.1) (hm : Mq d k' [v1] G M Q1)
    (h : ∀ r M1, Q1 r M1 → Wq (d + 1) k pc' ls (r.toList ++ rest) G M1 Q) : Wq (d + 1) k pc ls (v1 :: rest) G M Q := by
  refine wq_call pc' hp ?_ ⟨hl, hx⟩ hm h
  unfold stepA
  rw [hc]
  dsimp only
  rw [show retA (mt k).2.2.2.1 (.invokestatic x0) (v1 :: rest) = none from rfl]
  dsimp only
  rw [show callA (.invokestatic x0) k' 1 (v1 :: rest) (G.1, G.2.1, G.2.2, M) = some (k', [v1], rest) from by
    unfold callA
    dsimp only
    rw [if_neg h98, if_pos ⟨rfl, hr⟩]
    rfl]
theorem wq_vt1 {q : Nat} {fs : List (Option (Option Nat))} {v1 : AV} (pc' : Nat) (hp : pc + 3 = pc') (hc : cd k pc = some (.invokevirtual x0, 3, k', 1, c, w)) (hr : rest.length ≤ 4) (hq : EXN ≤ q ∧ q < G.1) (hT : G.2.2 q = .inr ((mt k').2.2.2.2.2.2, fs)) (hl : ([vR q, v1] : List AV).all nLg = true) (hx : 2 ≤ (mt k').2.2.1) (hm : Mq d k' [vR q, v1] G M Q1)
    (h : ∀ r M1, Q1 r M1 → Wq (d + 1) k pc' ls (r.toList ++ rest) G M1 Q) : Wq (d + 1) k pc ls (v1 :: vR q :: rest) G M Q := by
  refine wq_call pc' hp ?_ ⟨hl, hx⟩ hm h
  unfold stepA
  rw [hc]
  dsimp only
  rw [show retA (mt k).2.2.2.1 (.invokevirtual x0) (v1 :: vR q :: rest) = none from rfl]
  dsimp only
  rw [show callA (.invokevirtual x0) k' 1 (v1 :: vR q :: rest) (G.1, G.2.1, G.2.2, M) = some (k', [vR q, v1], rest) from by
    unfold callA
    dsimp only [List.drop]
    rw [if_pos ⟨rfl, hr, hq.1, hq.2⟩, hT]
    dsimp only
    rw [if_pos rfl]
    rfl]
theorem wq_st2 {v1 v2 : AV} (pc' : Nat) (hp : pc + 3 = pc') (hc : cd k pc = some (.invokestatic x0, 3, k', 2, c, w)) (h98 : k' ≠ 9998) (hr : rest.length ≤ 4) (hl : ([v1, v2] : List AV).all nLg = true) (hx : 2 ≤ (mt k').2.2.1) (hm : Mq d k' [v1, v2] G M Q1)
    (h : ∀ r M1, Q1 r M1 → Wq (d + 1) k pc' ls (r.toList ++ rest) G M1 Q) : Wq (d + 1) k pc ls (v2 :: v1 :: rest) G M Q := by
  refine wq_call pc' hp ?_ ⟨hl, hx⟩ hm h
  unfold stepA
  rw [hc]
  dsimp only
  rw [show retA (mt k).2.2.2.1 (.invokestatic x0) (v2 :: v1 :: rest) = none from rfl]
  dsimp only
  rw [show callA (.invokestatic x0) k' 2 (v2 :: v1 :: rest) (G.1, G.2.1, G.2.2, M) = some (k', [v1, v2], rest) from by
    unfold callA
    dsimp only
    rw [if_neg h98, if_pos ⟨rfl, hr⟩]
    rfl]
theorem wq_vt2 {q : Nat} {fs : List (Option (Option Nat))} {v1 v2 : AV} (pc' : Nat) (hp : pc + 3 = pc') (hc : cd k pc = some (.invokevirtual x0, 3, k', 2, c, w)) (hr : rest.length ≤ 4) (hq : EXN ≤ q ∧ q < G.1) (hT : G.2.2 q = .inr ((mt k').2.2.2.2.2.2, fs)) (hl : ([vR q, v1, v2] : List AV).all nLg = true) (hx : 3 ≤ (mt k').2.2.1) (hm : Mq d k' [vR q, v1, v2] G M Q1)
    (h : ∀ r M1, Q1 r M1 → Wq (d + 1) k pc' ls (r.toList ++ rest) G M1 Q) : Wq (d + 1) k pc ls (v2 :: v1 :: vR q :: rest) G M Q := by
  refine wq_call pc' hp ?_ ⟨hl, hx⟩ hm h
  unfold stepA
  rw [hc]
  dsimp only
  rw [show retA (mt k).2.2.2.1 (.invokevirtual x0) (v2 :: v1 :: vR q :: rest) = none from rfl]
  dsimp only
  rw [show callA (.invokevirtual x0) k' 2 (v2 :: v1 :: vR q :: rest) (G.1, G.2.1, G.2.2, M) = some (k', [vR q, v1, v2], rest) from by
    unfold callA
    dsimp only [List.drop]
    rw [if_pos ⟨rfl, hr, hq.1, hq.2⟩, hT]
    dsimp only
    rw [if_pos rfl]
    rfl]
theorem wq_st3 {v1 v2 v3 : AV} (pc' : Nat) (hp : pc + 3 = pc') (hc : cd k pc = some (.invokestatic x0, 3, k', 3, c, w)) (h98 : k' ≠ 9998) (hr : rest.length ≤ 4) (hl : ([v1, v2, v3] : List AV).all nLg = true) (hx : 3 ≤ (mt k').2.2.1) (hm : Mq d k' [v1, v2, v3] G M Q1)
    (h : ∀ r M1, Q1 r M1 → Wq (d + 1) k pc' ls (r.toList ++ rest) G M1 Q) : Wq (d + 1) k pc ls (v3 :: v2 :: v1 :: rest) G M Q := by
  refine wq_call pc' hp ?_ ⟨hl, hx⟩ hm h
  unfold stepA
  rw [hc]
  dsimp only
  rw [show retA (mt k).2.2.2.1 (.invokestatic x0) (v3 :: v2 :: v1 :: rest) = none from rfl]
  dsimp only
  rw [show callA (.invokestatic x0) k' 3 (v3 :: v2 :: v1 :: rest) (G.1, G.2.1, G.2.2, M) = some (k', [v1, v2, v3], rest) from by
    unfold callA
    dsimp only
    rw [if_neg h98, if_pos ⟨rfl, hr⟩]
    rfl]
theorem wq_vt3 {q : Nat} {fs : List (Option (Option Nat))} {v1 v2 v3 : AV} (pc' : Nat) (hp : pc + 3 = pc') (hc : cd k pc = some (.invokevirtual x0, 3, k', 3, c, w)) (hr : rest.length ≤ 4) (hq : EXN ≤ q ∧ q < G.1) (hT : G.2.2 q = .inr ((mt k').2.2.2.2.2.2, fs)) (hl : ([vR q, v1, v2, v3] : List AV).all nLg = true) (hx : 4 ≤ (mt k').2.2.1) (hm : Mq d k' [vR q, v1, v2, v3] G M Q1)
    (h : ∀ r M1, Q1 r M1 → Wq (d + 1) k pc' ls (r.toList ++ rest) G M1 Q) : Wq (d + 1) k pc ls (v3 :: v2 :: v1 :: vR q :: rest) G M Q := by
  refine wq_call pc' hp ?_ ⟨hl, hx⟩ hm h
  unfold stepA
  rw [hc]
  dsimp only
  rw [show retA (mt k).2.2.2.1 (.invokevirtual x0) (v3 :: v2 :: v1 :: vR q :: rest) = none from rfl]
  dsimp only
  rw [show callA (.invokevirtual x0) k' 3 (v3 :: v2 :: v1 :: vR q :: rest) (G.1, G.2.1, G.2.2, M) = some (k', [vR q, v1, v2, v3], rest) from by
    unfold callA
    dsimp only [List.drop]
    rw [if_pos ⟨rfl, hr, hq.1, hq.2⟩, hT]
    dsimp only
    rw [if_pos rfl]
    rfl]
theorem wq_st4 {v1 v2 v3 v4 : AV} (pc' : Nat) (hp : pc + 3 = pc') (hc : cd k pc = some (.invokestatic x0, 3, k', 4, c, w)) (h98 : k' ≠ 9998) (hr : rest.length ≤ 4) (hl : ([v1, v2, v3, v4] : List AV).all nLg = true) (hx : 4 ≤ (mt k').2.2.1) (hm : Mq d k' [v1, v2, v3, v4] G M Q1)
    (h : ∀ r M1, Q1 r M1 → Wq (d + 1) k pc' ls (r.toList ++ rest) G M1 Q) : Wq (d + 1) k pc ls (v4 :: v3 :: v2 :: v1 :: rest) G M Q := by
  refine wq_call pc' hp ?_ ⟨hl, hx⟩ hm h
  unfold stepA
  rw [hc]
  dsimp only
  rw [show retA (mt k).2.2.2.1 (.invokestatic x0) (v4 :: v3 :: v2 :: v1 :: rest) = none from rfl]
  dsimp only
  rw [show callA (.invokestatic x0) k' 4 (v4 :: v3 :: v2 :: v1 :: rest) (G.1, G.2.1, G.2.2, M) = some (k', [v1, v2, v3, v4], rest) from by
    unfold callA
    dsimp only
    rw [if_neg h98, if_pos ⟨rfl, hr⟩]
    rfl]
theorem wq_vt4 {q : Nat} {fs : List (Option (Option Nat))} {v1 v2 v3 v4 : AV} (pc' : Nat) (hp : pc + 3 = pc') (hc : cd k pc = some (.invokevirtual x0, 3, k', 4, c, w)) (hr : rest.length ≤ 4) (hq : EXN ≤ q ∧ q < G.1) (hT : G.2.2 q = .inr ((mt k').2.2.2.2.2.2, fs)) (hl : ([vR q, v1, v2, v3, v4] : List AV).all nLg = true) (hx : 5 ≤ (mt k').2.2.1) (hm : Mq d k' [vR q, v1, v2, v3, v4] G M Q1)
    (h : ∀ r M1, Q1 r M1 → Wq (d + 1) k pc' ls (r.toList ++ rest) G M1 Q) : Wq (d + 1) k pc ls (v4 :: v3 :: v2 :: v1 :: vR q :: rest) G M Q := by
  refine wq_call pc' hp ?_ ⟨hl, hx⟩ hm h
  unfold stepA
  rw [hc]
  dsimp only
  rw [show retA (mt k).2.2.2.1 (.invokevirtual x0) (v4 :: v3 :: v2 :: v1 :: vR q :: rest) = none from rfl]
  dsimp only
  rw [show callA (.invokevirtual x0) k' 4 (v4 :: v3 :: v2 :: v1 :: vR q :: rest) (G.1, G.2.1, G.2.2, M) = some (k', [vR q, v1, v2, v3, v4], rest) from by
    unfold callA
    dsimp only [List.drop]
    rw [if_pos ⟨rfl, hr, hq.1, hq.2⟩, hT]
    dsimp only
    rw [if_pos rfl]
    rfl]
theorem wq_st5 {v1 v2 v3 v4 v5 : AV} (pc' : Nat) (hp : pc + 3 = pc') (hc : cd k pc = some (.invokestatic x0, 3, k', 5, c, w)) (h98 : k' ≠ 9998) (hr : rest.length ≤ 4) (hl : ([v1, v2, v3, v4, v5] : List AV).all nLg = true) (hx : 5 ≤ (mt k').2.2.1) (hm : Mq d k' [v1, v2, v3, v4, v5] G M Q1)
    (h : ∀ r M1, Q1 r M1 → Wq (d + 1) k pc' ls (r.toList ++ rest) G M1 Q) : Wq (d + 1) k pc ls (v5 :: v4 :: v3 :: v2 :: v1 :: rest) G M Q := by
  refine wq_call pc' hp ?_ ⟨hl, hx⟩ hm h
  unfold stepA
  rw [hc]
  dsimp only
  rw [show retA (mt k).2.2.2.1 (.invokestatic x0) (v5 :: v4 :: v3 :: v2 :: v1 :: rest) = none from rfl]
  dsimp only
  rw [show callA (.invokestatic x0) k' 5 (v5 :: v4 :: v3 :: v2 :: v1 :: rest) (G.1, G.2.1, G.2.2, M) = some (k', [v1, v2, v3, v4, v5], rest) from by
    unfold callA
    dsimp only
    rw [if_neg h98, if_pos ⟨rfl, hr⟩]
    rfl]
theorem wq_st6 {v1 v2 v3 v4 v5 v6 : AV} (pc' : Nat) (hp : pc + 3 = pc') (hc : cd k pc = some (.invokestatic x0, 3, k', 6, c, w)) (h98 : k' ≠ 9998) (hr : rest.length ≤ 4) (hl : ([v1, v2, v3, v4, v5, v6] : List AV).all nLg = true) (hx : 6 ≤ (mt k').2.2.1) (hm : Mq d k' [v1, v2, v3, v4, v5, v6] G M Q1)
    (h : ∀ r M1, Q1 r M1 → Wq (d + 1) k pc' ls (r.toList ++ rest) G M1 Q) : Wq (d + 1) k pc ls (v6 :: v5 :: v4 :: v3 :: v2 :: v1 :: rest) G M Q := by
  refine wq_call pc' hp ?_ ⟨hl, hx⟩ hm h
  unfold stepA
  rw [hc]
  dsimp only
  rw [show retA (mt k).2.2.2.1 (.invokestatic x0) (v6 :: v5 :: v4 :: v3 :: v2 :: v1 :: rest) = none from rfl]
  dsimp only
  rw [show callA (.invokestatic x0) k' 6 (v6 :: v5 :: v4 :: v3 :: v2 :: v1 :: rest) (G.1, G.2.1, G.2.2, M) = some (k', [v1, v2, v3, v4, v5, v6], rest) from by
    unfold callA
    dsimp only
    rw [if_neg h98, if_pos ⟨rfl, hr⟩]
    rfl]
theorem wq_vt5 {q : Nat} {fs : List (Option (Option Nat))} {v1 v2 v3 v4 v5 : AV} (pc' : Nat) (hp : pc + 3 = pc') (hc : cd k pc = some (.invokevirtual x0, 3, k', 5, c, w)) (hr : rest.length ≤ 4) (hq : EXN ≤ q ∧ q < G.1) (hT : G.2.2 q = .inr ((mt k').2.2.2.2.2.2, fs)) (hl : ([vR q, v1, v2, v3, v4, v5] : List AV).all nLg = true) (hx : 6 ≤ (mt k').2.2.1) (hm : Mq d k' [vR q, v1, v2, v3, v4, v5] G M Q1)
    (h : ∀ r M1, Q1 r M1 → Wq (d + 1) k pc' ls (r.toList ++ rest) G M1 Q) : Wq (d + 1) k pc ls (v5 :: v4 :: v3 :: v2 :: v1 :: vR q :: rest) G M Q := by
  refine wq_call pc' hp ?_ ⟨hl, hx⟩ hm h
  unfold stepA
  rw [hc]
  dsimp only
  rw [show retA (mt k).2.2.2.1 (.invokevirtual x0) (v5 :: v4 :: v3 :: v2 :: v1 :: vR q :: rest) = none from rfl]
  dsimp only
  rw [show callA (.invokevirtual x0) k' 5 (v5 :: v4 :: v3 :: v2 :: v1 :: vR q :: rest) (G.1, G.2.1, G.2.2, M) = some (k', [vR q, v1, v2, v3, v4, v5], rest) from by
    unfold callA
    dsimp only [List.drop]
    rw [if_pos ⟨rfl, hr, hq.1, hq.2⟩, hT]
    dsimp only
    rw [if_pos rfl]
    rfl]
end WCL
theorem cellF_rng {h k : Int} (h0 : 0 ≤ h) (h1 : h < 27) (k0 : 0 ≤ k) (k1 : k < 9) : 0 ≤ cellF h k ∧ cellF h k < 81 := by
  unfold cellF
  (repeat' split) <;> omega
theorem houseF_rng {c s : Int} (h0 : 0 ≤ c) (h1 : c < 81) : 0 ≤ houseF c s ∧ houseF c s < 27 := by
  unfold houseF
  (repeat' split) <;> omega
def sortF (h : Int) : Int := if h < 9 then 0 else if h < 18 then 1 else 2
def isInF (c h : Int) : Int := if houseF c (sortF h) = h then 1 else 0
def peersF (c e : Int) : Int := if c ≠ e ∧ (houseF c 0 = houseF e 0 ∨ houseF c 1 = houseF e 1 ∨ houseF c 2 = houseF e 2) then 1 else 0
/-- a row of 81 masks -/
def AtB (M : MT) (q : Nat) (X : Nat → Nat) : Prop := ∀ c : Nat, c < 81 → M q (c : Int) = (X c : Int) ∧ X c < 512
theorem AtB.at {M : MT} {q : Nat} {X : Nat → Nat} (h : AtB M q X) {i : Int} (h0 : 0 ≤ i) (h1 : i < 81) : M q i = ((X i.toNat : Nat) : Int) ∧ X i.toNat < 512 := by
  have h2 := h i.toNat (by omega)
  rw [show ((i.toNat : Nat) : Int) = i by omega] at h2
  exact h2
def popc : Nat → Nat → Nat
  | 0, _ => 0
  | k + 1, n => n % 2 + popc k (n / 2)
def pop9 (n : Nat) : Nat := popc 9 n
theorem pop_low : ∀ n : Fin 512, n.val ≠ 0 → pop9 (n.val &&& (n.val - 1)) + 1 = pop9 n.val ∧ (n.val &&& (n.val - 1)) < n.val := by decide +kernel
def plN (X : Nat → Nat) (h : Int) (e : Nat) : Nat → Nat
  | 0 => 0
  | k + 1 => plN X h e k ||| (X (cellF h k).toNat / 2 ^ e % 2) * 2 ^ k
