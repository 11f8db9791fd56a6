theorem wq_tsw {d k pc a b c w len : Nat} {ls : LoA} {st : List AV} {G : GT} {M : MT} {Q : Option AV → MT → Prop} {dflt lo hi u : Int} {offs : Array Int} (tgt : Nat) (off : Int) (hc : cd k pc = some (.tableswitch dflt lo hi offs, len, a, b, c, w)) (hu : R32 u) (ho : (if u < lo ∨ hi < u then some dflt else offs[(u - lo).toNat]?) = some off) (hp : (pc : Int) + off = (tgt : Int)) (h : Wq d k tgt ls st G M Q) : Wq d k pc ls (vI u :: st) G M Q := by
  have hj : jmpA pc off ls st (G.1, G.2.1, G.2.2, M) = some (tgt, ls, st, (G.1, G.2.1, G.2.2, M)) := by
    unfold jmpA
    rw [if_pos (by omega), show ((pc : Int) + off).toNat = tgt by omega]
  refine wq_s tgt (stp_of hc rfl rfl ?_) h
  unfold simpA
  dsimp only
  rw [w32_id hu]
  by_cases hq : u < lo ∨ hi < u
  · rw [if_pos hq] at ho
    cases ho
    rw [if_pos hq]
    exact hj
  · rw [if_neg hq] at ho
    rw [if_neg hq, ho]
    exact hj
def sizeF (r : Int) : Int := if r = 4 ∨ r = 5 ∨ r = 8 then 2 else if r = 6 ∨ r = 7 ∨ r = 11 then 3 else 4
def weightF (r : Int) : Int := tb_W.getD r.toNat 0
theorem c_X9_sizeOf {d : Nat} {G : GT} {M : MT} {r : Int} (h : 4 ≤ r ∧ r ≤ 12) : Mq d k_X9_sizeOf [vI r] G M (fun z M' => z = some (vI (sizeF r)) ∧ M' = M) := by
  rcases (show r = 4 ∨ r = 5 ∨ r = 6 ∨ r = 7 ∨ r = 8 ∨ r = 9 ∨ r = 10 ∨ r = 11 ∨ r = 12 by omega) with rfl | rfl | rfl | rfl | rfl | rfl | rfl | rfl | rfl
  · refine wq_s 1 rfl ?_
    refine wq_tsw 48 47 rfl (by decide) rfl rfl ?_
    refine wq_s 49 rfl ?_
    exact wq_ret rfl ⟨rfl, rfl⟩
  · refine wq_s 1 rfl ?_
    refine wq_tsw 48 47 rfl (by decide) rfl rfl ?_
    refine wq_s 49 rfl ?_
    exact wq_ret rfl ⟨rfl, rfl⟩
  · refine wq_s 1 rfl ?_
    refine wq_tsw 50 49 rfl (by decide) rfl rfl ?_
    refine wq_s 51 rfl ?_
    exact wq_ret rfl ⟨rfl, rfl⟩
  · refine wq_s 1 rfl ?_
    refine wq_tsw 50 49 rfl (by decide) rfl rfl ?_
    refine wq_s 51 rfl ?_
    exact wq_ret rfl ⟨rfl, rfl⟩
  · refine wq_s 1 rfl ?_
    refine wq_tsw 48 47 rfl (by decide) rfl rfl ?_
    refine wq_s 49 rfl ?_
    exact wq_ret rfl ⟨rfl, rfl⟩
  · refine wq_s 1 rfl ?_
    refine wq_tsw 52 51 rfl (by decide) rfl rfl ?_
    refine wq_s 53 rfl ?_
    exact wq_ret rfl ⟨rfl, rfl⟩
  · refine wq_s 1 rfl ?_
    refine wq_tsw 52 51 rfl (by decide) rfl rfl ?_
    refine wq_s 53 rfl ?_
    exact wq_ret rfl ⟨rfl, rfl⟩
  · refine wq_s 1 rfl ?_
    refine wq_tsw 50 49 rfl (by decide) rfl rfl ?_
    refine wq_s 51 rfl ?_
    exact wq_ret rfl ⟨rfl, rfl⟩
  · refine wq_s 1 rfl ?_
    refine wq_tsw 52 51 rfl (by decide) rfl rfl ?_
    refine wq_s 53 rfl ?_
    exact wq_ret rfl ⟨rfl, rfl⟩
theorem c_X9_weight {d : Nat} {G : GT} {M : MT} {r : Int} (h : 0 ≤ r ∧ r ≤ 13) : Mq d k_X9_weight [vI r] G M (fun z M' => z = some (vI (weightF r)) ∧ M' = M) := by
  rcases (show r = 0 ∨ r = 1 ∨ r = 2 ∨ r = 3 ∨ r = 4 ∨ r = 5 ∨ r = 6 ∨ r = 7 ∨ r = 8 ∨ r = 9 ∨ r = 10 ∨ r = 11 ∨ r = 12 ∨ r = 13 by omega) with rfl | rfl | rfl | rfl | rfl | rfl | rfl | rfl | rfl | rfl | rfl | rfl | rfl | rfl
  · refine wq_s 1 rfl ?_
    refine wq_tsw 68 67 rfl (by decide) rfl rfl ?_
    refine wq_s 69 rfl ?_
    exact wq_ret rfl ⟨rfl, rfl⟩
  · refine wq_s 1 rfl ?_
    refine wq_tsw 70 69 rfl (by decide) rfl rfl ?_
    refine wq_s 71 rfl ?_
    exact wq_ret rfl ⟨rfl, rfl⟩
  · refine wq_s 1 rfl ?_
    refine wq_tsw 72 71 rfl (by decide) rfl rfl ?_
    refine wq_s 73 rfl ?_
    exact wq_ret rfl ⟨rfl, rfl⟩
  · refine wq_s 1 rfl ?_
    refine wq_tsw 74 73 rfl (by decide) rfl rfl ?_
    refine wq_s 75 rfl ?_
    exact wq_ret rfl ⟨rfl, rfl⟩
  · refine wq_s 1 rfl ?_
    refine wq_tsw 76 75 rfl (by decide) rfl rfl ?_
    refine wq_s 78 rfl ?_
    exact wq_ret rfl ⟨rfl, rfl⟩
  · refine wq_s 1 rfl ?_
    refine wq_tsw 79 78 rfl (by decide) rfl rfl ?_
    refine wq_s 81 rfl ?_
    exact wq_ret rfl ⟨rfl, rfl⟩
  · refine wq_s 1 rfl ?_
    refine wq_tsw 82 81 rfl (by decide) rfl rfl ?_
    refine wq_s 84 rfl ?_
    exact wq_ret rfl ⟨rfl, rfl⟩
  · refine wq_s 1 rfl ?_
    refine wq_tsw 85 84 rfl (by decide) rfl rfl ?_
    refine wq_s 87 rfl ?_
    exact wq_ret rfl ⟨rfl, rfl⟩
  · refine wq_s 1 rfl ?_
    refine wq_tsw 88 87 rfl (by decide) rfl rfl ?_
    refine wq_s 90 rfl ?_
    exact wq_ret rfl ⟨rfl, rfl⟩
  · refine wq_s 1 rfl ?_
    refine wq_tsw 91 90 rfl (by decide) rfl rfl ?_
    refine wq_s 93 rfl ?_
    exact wq_ret rfl ⟨rfl, rfl⟩
  · refine wq_s 1 rfl ?_
    refine wq_tsw 94 93 rfl (by decide) rfl rfl ?_
    refine wq_s 96 rfl ?_
    exact wq_ret rfl ⟨rfl, rfl⟩
  · refine wq_s 1 rfl ?_
    refine wq_tsw 97 96 rfl (by decide) rfl rfl ?_
    refine wq_s 99 rfl ?_
    exact wq_ret rfl ⟨rfl, rfl⟩
  · refine wq_s 1 rfl ?_
    refine wq_tsw 100 99 rfl (by decide) rfl rfl ?_
    refine wq_s 102 rfl ?_
    exact wq_ret rfl ⟨rfl, rfl⟩
  · refine wq_s 1 rfl ?_
    refine wq_tsw 103 102 rfl (by decide) rfl rfl ?_
    refine wq_s 105 rfl ?_
    exact wq_ret rfl ⟨rfl, rfl⟩
