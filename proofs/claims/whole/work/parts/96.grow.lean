/-! runs in which the heap grows -/
def Wp (d k pc : Nat) (ls : LoA) (st : List AV) (h : HP) (Q : Option AV → HP → Prop) : Prop := ∃ (f : Nat) (r : Option AV) (h' : HP), runA f d k pc ls st h = some (r, h') ∧ Q r h'
def Zr (n : Nat) (M : MT) : Prop := ∀ a, n ≤ a → ∀ j, M a j = 0
theorem Zr.le {n m : Nat} {M : MT} (h : Zr n M) (hn : n ≤ m) : Zr m M := fun a ha => h a (by omega)
theorem upM_z {n : Nat} {M : MT} (h : Zr n M) : upM M n = M := by
  funext a j
  unfold upM
  by_cases he : a = n
  · rw [if_pos he, h a (by omega) j]
  · rw [if_neg he]
theorem upT_at {T : Nat → LK} {k : Nat} {c : LK} : upT T k c k = c := if_pos rfl
theorem upT_ne {T : Nat → LK} {k a : Nat} {c : LK} (h : a ≠ k) : upT T k c a = T a := if_neg h
section WP
variable {d k pc a b c w : Nat} {ls ls' : LoA} {st st' : List AV} {h h' : HP} {Q Q' : Option AV → HP → Prop} {G : GT} {M : MT}
theorem Wp.mono (hw : Wp d k pc ls st h Q) (hq : ∀ r h', Q r h' → Q' r h') : Wp d k pc ls st h Q' := by
  obtain ⟨f, r, h1, e, q⟩ := hw
  exact ⟨f, r, h1, e, hq r h1 q⟩
theorem wp_s (pc' : Nat) (hs : stepA d k pc ls st h = some (.inl (pc', ls', st', h'))) (hw : Wp d k pc' ls' st' h' Q) : Wp d k pc ls st h Q := by
  obtain ⟨f, r, h2, e, q⟩ := hw
  refine ⟨f + 1, r, h2, ?_, q⟩
  unfold runA
  rw [hs]
  exact e
theorem wp_ret {r : Option AV} (hs : stepA d k pc ls st h = some (.inr (.inr r))) (hq : Q r h) : Wp d k pc ls st h Q := by
  refine ⟨1, r, h, ?_, hq⟩
  unfold runA
  rw [hs]
theorem wp_call {k' : Nat} {as rest : List AV} {Q1 : Option AV → HP → Prop} (pc' : Nat) (hp : pc + 3 = pc') (hs : stepA (d + 1) k pc ls st h = some (.inr (.inl (k', as, rest)))) (hl : as.all nLg = true ∧ as.length ≤ (mt k').2.2.1) (hm : Wp d k' 0 (entA k' as) [] h Q1)
    (hc : ∀ r h1, Q1 r h1 → Wp (d + 1) k pc' ls (r.toList ++ rest) h1 Q) : Wp (d + 1) k pc ls st h Q := by
  subst hp
  obtain ⟨f1, r1, h1, e1, q1⟩ := hm
  obtain ⟨f2, r2, h2, e2, q2⟩ := hc r1 h1 q1
  refine ⟨f1 + f2 + 1, r2, h2, ?_, q2⟩
  unfold runA
  rw [hs]
  dsimp only
  rw [if_pos hl, run_le (Nat.le_add_right f1 f2) e1]
  exact run_le (Nat.le_add_left f2 f1) e2
theorem wp_wq {Q : Option AV → MT → Prop} (hw : Wq d k pc ls st G M Q) : Wp d k pc ls st (G.1, G.2.1, G.2.2, M) (fun r h' => ∃ M', h' = (G.1, G.2.1, G.2.2, M') ∧ Q r M') := by
  obtain ⟨f, r, M', e, q⟩ := hw
  exact ⟨f, r, _, e, M', rfl, q⟩
theorem wp_newI {n z x0 : Nat} {T : Nat → LK} {x : Int} (n' z' len : Nat) (pc' : Nat) (hp : pc + 2 = pc') (hc : cd k pc = some (.newarray .int, x0, a, b, c, w)) (hx : x = (len : Int)) (hl : len ≤ 67108864) (hz : Zr n M) (hn : n + 1 = n') (hz' : z + len = z') (hw : Wp d k pc' ls (vR n :: st) (n', z', upT T n (.inl (false, len)), M) Q) : Wp d k pc ls (vI x :: st) (n, z, T, M) Q := by
  subst hp hn hz' hx
  refine wp_s _ (stp_of (h := (n, z, T, M)) hc rfl rfl ?_) hw
  unfold simpA
  dsimp only
  rw [if_pos ⟨by omega, by omega⟩]
  unfold newA
  dsimp only
  rw [upM_z hz, Int.toNat_natCast]
theorem wp_newL {n z x0 : Nat} {T : Nat → LK} {x : Int} (n' z' len : Nat) (pc' : Nat) (hp : pc + 2 = pc') (hc : cd k pc = some (.newarray .long, x0, a, b, c, w)) (hx : x = (len : Int)) (hl : len ≤ 67108864) (hz : Zr n M) (hn : n + 1 = n') (hz' : z + len = z') (hw : Wp d k pc' ls (vR n :: st) (n', z', upT T n (.inl (true, len)), M) Q) : Wp d k pc ls (vI x :: st) (n, z, T, M) Q := by
  subst hp hn hz' hx
  refine wp_s _ (stp_of (h := (n, z, T, M)) hc rfl rfl ?_) hw
  unfold simpA
  dsimp only
  rw [if_pos ⟨by omega, by omega⟩]
  unfold newA
  dsimp only
  rw [upM_z hz, Int.toNat_natCast]
theorem wp_new {n z x0 y0 : Nat} {T : Nat → LK} (n' z' : Nat) (pc' : Nat) (hp : pc + 3 = pc') (hc : cd k pc = some (.new x0, y0, a, b, c, w)) (hz : Zr n M) (hn : n + 1 = n') (hz' : z + b = z') (hw : Wp d k pc' ls (vR n :: st) (n', z', upT T n (.inr (a, nfl.getD a [])), M) Q) : Wp d k pc ls st (n, z, T, M) Q := by
  subst hp hn hz'
  refine wp_s _ (stp_of (h := (n, z, T, M)) hc rfl rfl ?_) hw
  unfold simpA
  dsimp only
  unfold newA
  dsimp only
  rw [upM_z hz]
theorem wp_obj {q x0 y0 : Nat} (pc' : Nat) (hp : pc + 3 = pc') (hc : cd k pc = some (.invokespecial x0, y0, 9999, b, c, w)) (hl : st.length ≤ 4) (hw : Wp (d + 1) k pc' ls st h Q) : Wp (d + 1) k pc ls (vR q :: st) h Q := by
  subst hp
  refine wp_s _ (stp_of hc rfl rfl ?_) hw
  unfold simpA
  dsimp only
  rw [if_pos ⟨rfl, decide_eq_true (Nat.succ_pos d)⟩, if_pos hl]
theorem wp_putR {n z q x0 y0 : Nat} {T : Nat → LK} {r y : Option Nat} {fs : List (Option (Option Nat))} (fs' : List (Option (Option Nat))) (pc' : Nat) (hp : pc + 3 = pc') (hc : cd k pc = some (.putfield x0, y0, a, b, c, w)) (hq : EXN ≤ q ∧ q < n) (hT : T q = .inr (a, fs)) (hi : (mt k).2.2.2.2.2.1 = 2 ∧ (mt k).2.2.2.2.2.2 = a) (hf : fs[b]? = some (some y)) (h2 : c % 4 = 2) (hs : fs.set b (some r) = fs') (hw : Wp d k pc' ls st (n, z, upT T q (.inr (a, fs')), M) Q) : Wp d k pc ls (.inr r :: vR q :: st) (n, z, T, M) Q := by
  subst hp hs
  refine wp_s _ (stp_of (h := (n, z, T, M)) hc rfl rfl ?_) hw
  show putA _ a b c (pc + 3) ls (.inr r :: vR q :: st) (n, z, T, M) = _
  unfold putA
  dsimp only
  rw [if_pos ⟨hq.1, hq.2, fun _ => decide_eq_true hi⟩, hT]
  dsimp only
  rw [if_pos rfl, hf]
  dsimp only
  rw [if_pos h2]
end WP
theorem c_X0_init {d n z : Nat} {T : Nat → LK} {M : MT} {b q : Nat} (hb : 4 ≤ b ∧ b < n) (hT : T b = .inr (0, nfl.getD 0 [])) (hz : Zr n M) : Wp (d + 1) k_X0_init 0 (entA k_X0_init [vR b, vR q]) [] (n, z, T, M) (fun r h' => r = none ∧ h' = (n + 3, z + 1053, (upT (upT (upT (upT (upT (upT (upT T (n) (.inl (false, 81))) (b) (.inr (0, [some none, some (some (n)), some none, some none, none]))) (n + 1) (.inl (false, 243))) (b) (.inr (0, [some none, some (some (n)), some (some (n + 1)), some none, none]))) (n + 2) (.inl (false, 729))) (b) (.inr (0, [some none, some (some (n)), some (some (n + 1)), some (some (n + 2)), none]))) (b) (.inr (0, [some (some (q)), some (some (n)), some (some (n + 1)), some (some (n + 2)), none]))), M)) := by
  refine wp_s 1 rfl ?_
  refine wp_obj 4 rfl rfl (Nat.le_of_ble_eq_true rfl) ?_
  refine wp_s 5 rfl ?_
  refine wp_s 7 rfl ?_
  refine wp_newI (n + 1) (z + 81) 81 9 rfl rfl rfl (by omega) (hz.le (by omega)) (by omega) (by omega) ?_
  refine wp_putR [some none, some (some (n)), some none, some none, none] 12 rfl rfl ⟨hb.1, by omega⟩ (by rw [upT_ne (by omega)]; exact hT) (by decide) rfl rfl rfl ?_
  refine wp_s 13 rfl ?_
  refine wp_s 16 rfl ?_
  refine wp_newI (n + 2) (z + 324) 243 18 rfl rfl rfl (by omega) (hz.le (by omega)) (by omega) (by omega) ?_
  refine wp_putR [some none, some (some (n)), some (some (n + 1)), some none, none] 21 rfl rfl ⟨hb.1, by omega⟩ (by rw [upT_ne (by omega), upT_at]) (by decide) rfl rfl rfl ?_
  refine wp_s 22 rfl ?_
  refine wp_s 25 rfl ?_
  refine wp_newI (n + 3) (z + 1053) 729 27 rfl rfl rfl (by omega) (hz.le (by omega)) (by omega) (by omega) ?_
  refine wp_putR [some none, some (some (n)), some (some (n + 1)), some (some (n + 2)), none] 30 rfl rfl ⟨hb.1, by omega⟩ (by rw [upT_ne (by omega), upT_at]) (by decide) rfl rfl rfl ?_
  refine wp_s 31 rfl ?_
  refine wp_s 32 rfl ?_
  refine wp_putR [some (some (q)), some (some (n)), some (some (n + 1)), some (some (n + 2)), none] 35 rfl rfl ⟨hb.1, by omega⟩ (by rw [upT_at]) (by decide) rfl rfl rfl ?_
  exact wp_ret rfl ⟨rfl, rfl⟩
theorem c_X2_init {d n z : Nat} {T : Nat → LK} {M : MT} {b q : Nat} (hb : 4 ≤ b ∧ b < n) (hT : T b = .inr (2, nfl.getD 2 [])) (hz : Zr n M) : Wp (d + 1) k_X2_init 0 (entA k_X2_init [vR b, vR q]) [] (n, z, T, M) (fun r h' => r = none ∧ h' = (n + 1, z + 81, (upT (upT (upT T (n) (.inl (false, 81))) (b) (.inr (2, [some none, some (some (n)), none]))) (b) (.inr (2, [some (some (q)), some (some (n)), none]))), M)) := by
  refine wp_s 1 rfl ?_
  refine wp_obj 4 rfl rfl (Nat.le_of_ble_eq_true rfl) ?_
  refine wp_s 5 rfl ?_
  refine wp_s 7 rfl ?_
  refine wp_newI (n + 1) (z + 81) 81 9 rfl rfl rfl (by omega) (hz.le (by omega)) (by omega) (by omega) ?_
  refine wp_putR [some none, some (some (n)), none] 12 rfl rfl ⟨hb.1, by omega⟩ (by rw [upT_ne (by omega)]; exact hT) (by decide) rfl rfl rfl ?_
  refine wp_s 13 rfl ?_
  refine wp_s 14 rfl ?_
  refine wp_putR [some (some (q)), some (some (n)), none] 17 rfl rfl ⟨hb.1, by omega⟩ (by rw [upT_at]) (by decide) rfl rfl rfl ?_
  exact wp_ret rfl ⟨rfl, rfl⟩
theorem c_X6_init {d n z : Nat} {T : Nat → LK} {M : MT} {b q g : Nat} (hb : 4 ≤ b ∧ b < n) (hT : T b = .inr (6, nfl.getD 6 [])) (hz : Zr n M) : Wp (d + 1) k_X6_init 0 (entA k_X6_init [vR b, vR q, vR g]) [] (n, z, T, M) (fun r h' => r = none ∧ h' = (n + 1, z + 9, (upT (upT (upT (upT T (n) (.inl (false, 9))) (b) (.inr (6, [some none, some none, some (some (n))]))) (b) (.inr (6, [some (some (q)), some none, some (some (n))]))) (b) (.inr (6, [some (some (q)), some (some (g)), some (some (n))]))), M)) := by
  refine wp_s 1 rfl ?_
  refine wp_obj 4 rfl rfl (Nat.le_of_ble_eq_true rfl) ?_
  refine wp_s 5 rfl ?_
  refine wp_s 7 rfl ?_
  refine wp_newI (n + 1) (z + 9) 9 9 rfl rfl rfl (by omega) (hz.le (by omega)) (by omega) (by omega) ?_
  refine wp_putR [some none, some none, some (some (n))] 12 rfl rfl ⟨hb.1, by omega⟩ (by rw [upT_ne (by omega)]; exact hT) (by decide) rfl rfl rfl ?_
  refine wp_s 13 rfl ?_
  refine wp_s 14 rfl ?_
  refine wp_putR [some (some (q)), some none, some (some (n))] 17 rfl rfl ⟨hb.1, by omega⟩ (by rw [upT_at]) (by decide) rfl rfl rfl ?_
  refine wp_s 18 rfl ?_
  refine wp_s 19 rfl ?_
  refine wp_putR [some (some (q)), some (some (g)), some (some (n))] 22 rfl rfl ⟨hb.1, by omega⟩ (by rw [upT_at]) (by decide) rfl rfl rfl ?_
  exact wp_ret rfl ⟨rfl, rfl⟩
theorem c_X1_init {d n z : Nat} {T : Nat → LK} {M : MT} {b q g : Nat} (hb : 4 ≤ b ∧ b < n) (hT : T b = .inr (1, nfl.getD 1 [])) (hz : Zr n M) : Wp (d + 1) k_X1_init 0 (entA k_X1_init [vR b, vR q, vR g]) [] (n, z, T, M) (fun r h' => r = none ∧ h' = (n + 11, z + 8800, (upT (upT (upT (upT (upT (upT (upT (upT (upT (upT (upT (upT (upT (upT (upT (upT (upT (upT (upT (upT (upT (upT (upT (upT T (n) (.inl (false, 2916))) (b) (.inr (1, [some none, some none, some (some (n)), some none, some none, none, some none, some none, some none, some none, some none, some none, some none, none, none, some none, none]))) (n + 1) (.inl (false, 729))) (b) (.inr (1, [some none, some none, some (some (n)), some (some (n + 1)), some none, none, some none, some none, some none, some none, some none, some none, some none, none, none, some none, none]))) (n + 2) (.inl (false, 28))) (b) (.inr (1, [some none, some none, some (some (n)), some (some (n + 1)), some (some (n + 2)), none, some none, some none, some none, some none, some none, some none, some none, none, none, some none, none]))) (n + 3) (.inl (false, 729))) (b) (.inr (1, [some none, some none, some (some (n)), some (some (n + 1)), some (some (n + 2)), none, some (some (n + 3)), some none, some none, some none, some none, some none, some none, none, none, some none, none]))) (n + 4) (.inl (false, 729))) (b) (.inr (1, [some none, some none, some (some (n)), some (some (n + 1)), some (some (n + 2)), none, some (some (n + 3)), some (some (n + 4)), some none, some none, some none, some none, some none, none, none, some none, none]))) (n + 5) (.inl (false, 729))) (b) (.inr (1, [some none, some none, some (some (n)), some (some (n + 1)), some (some (n + 2)), none, some (some (n + 3)), some (some (n + 4)), some (some (n + 5)), some none, some none, some none, some none, none, none, some none, none]))) (n + 6) (.inl (false, 729))) (b) (.inr (1, [some none, some none, some (some (n)), some (some (n + 1)), some (some (n + 2)), none, some (some (n + 3)), some (some (n + 4)), some (some (n + 5)), some (some (n + 6)), some none, some none, some none, none, none, some none, none]))) (n + 7) (.inl (false, 729))) (b) (.inr (1, [some none, some none, some (some (n)), some (some (n + 1)), some (some (n + 2)), none, some (some (n + 3)), some (some (n + 4)), some (some (n + 5)), some (some (n + 6)), some (some (n + 7)), some none, some none, none, none, some none, none]))) (n + 8) (.inl (false, 729))) (b) (.inr (1, [some none, some none, some (some (n)), some (some (n + 1)), some (some (n + 2)), none, some (some (n + 3)), some (some (n + 4)), some (some (n + 5)), some (some (n + 6)), some (some (n + 7)), some (some (n + 8)), some none, none, none, some none, none]))) (n + 9) (.inl (false, 729))) (b) (.inr (1, [some none, some none, some (some (n)), some (some (n + 1)), some (some (n + 2)), none, some (some (n + 3)), some (some (n + 4)), some (some (n + 5)), some (some (n + 6)), some (some (n + 7)), some (some (n + 8)), some (some (n + 9)), none, none, some none, none]))) (n + 10) (.inl (false, 24))) (b) (.inr (1, [some none, some none, some (some (n)), some (some (n + 1)), some (some (n + 2)), none, some (some (n + 3)), some (some (n + 4)), some (some (n + 5)), some (some (n + 6)), some (some (n + 7)), some (some (n + 8)), some (some (n + 9)), none, none, some (some (n + 10)), none]))) (b) (.inr (1, [some (some (q)), some none, some (some (n)), some (some (n + 1)), some (some (n + 2)), none, some (some (n + 3)), some (some (n + 4)), some (some (n + 5)), some (some (n + 6)), some (some (n + 7)), some (some (n + 8)), some (some (n + 9)), none, none, some (some (n + 10)), none]))) (b) (.inr (1, [some (some (q)), some (some (g)), some (some (n)), some (some (n + 1)), some (some (n + 2)), none, some (some (n + 3)), some (some (n + 4)), some (some (n + 5)), some (some (n + 6)), some (some (n + 7)), some (some (n + 8)), some (some (n + 9)), none, none, some (some (n + 10)), none]))), M)) := by
  refine wp_s 1 rfl ?_
  refine wp_obj 4 rfl rfl (Nat.le_of_ble_eq_true rfl) ?_
  refine wp_s 5 rfl ?_
  refine wp_s 8 rfl ?_
  refine wp_newI (n + 1) (z + 2916) 2916 10 rfl rfl rfl (by omega) (hz.le (by omega)) (by omega) (by omega) ?_
  refine wp_putR [some none, some none, some (some (n)), some none, some none, none, some none, some none, some none, some none, some none, some none, some none, none, none, some none, none] 13 rfl rfl ⟨hb.1, by omega⟩ (by rw [upT_ne (by omega)]; exact hT) (by decide) rfl rfl rfl ?_
  refine wp_s 14 rfl ?_
  refine wp_s 17 rfl ?_
  refine wp_newI (n + 2) (z + 3645) 729 19 rfl rfl rfl (by omega) (hz.le (by omega)) (by omega) (by omega) ?_
  refine wp_putR [some none, some none, some (some (n)), some (some (n + 1)), some none, none, some none, some none, some none, some none, some none, some none, some none, none, none, some none, none] 22 rfl rfl ⟨hb.1, by omega⟩ (by rw [upT_ne (by omega), upT_at]) (by decide) rfl rfl rfl ?_
  refine wp_s 23 rfl ?_
  refine wp_s 25 rfl ?_
  refine wp_newI (n + 3) (z + 3673) 28 27 rfl rfl rfl (by omega) (hz.le (by omega)) (by omega) (by omega) ?_
  refine wp_putR [some none, some none, some (some (n)), some (some (n + 1)), some (some (n + 2)), none, some none, some none, some none, some none, some none, some none, some none, none, none, some none, none] 30 rfl rfl ⟨hb.1, by omega⟩ (by rw [upT_ne (by omega), upT_at]) (by decide) rfl rfl rfl ?_
  refine wp_s 31 rfl ?_
  refine wp_s 34 rfl ?_
  refine wp_newI (n + 4) (z + 4402) 729 36 rfl rfl rfl (by omega) (hz.le (by omega)) (by omega) (by omega) ?_
  refine wp_putR [some none, some none, some (some (n)), some (some (n + 1)), some (some (n + 2)), none, some (some (n + 3)), some none, some none, some none, some none, some none, some none, none, none, some none, none] 39 rfl rfl ⟨hb.1, by omega⟩ (by rw [upT_ne (by omega), upT_at]) (by decide) rfl rfl rfl ?_
  refine wp_s 40 rfl ?_
  refine wp_s 43 rfl ?_
  refine wp_newI (n + 5) (z + 5131) 729 45 rfl rfl rfl (by omega) (hz.le (by omega)) (by omega) (by omega) ?_
  refine wp_putR [some none, some none, some (some (n)), some (some (n + 1)), some (some (n + 2)), none, some (some (n + 3)), some (some (n + 4)), some none, some none, some none, some none, some none, none, none, some none, none] 48 rfl rfl ⟨hb.1, by omega⟩ (by rw [upT_ne (by omega), upT_at]) (by decide) rfl rfl rfl ?_
  refine wp_s 49 rfl ?_
  refine wp_s 52 rfl ?_
  refine wp_newI (n + 6) (z + 5860) 729 54 rfl rfl rfl (by omega) (hz.le (by omega)) (by omega) (by omega) ?_
  refine wp_putR [some none, some none, some (some (n)), some (some (n + 1)), some (some (n + 2)), none, some (some (n + 3)), some (some (n + 4)), some (some (n + 5)), some none, some none, some none, some none, none, none, some none, none] 57 rfl rfl ⟨hb.1, by omega⟩ (by rw [upT_ne (by omega), upT_at]) (by decide) rfl rfl rfl ?_
  refine wp_s 58 rfl ?_
  refine wp_s 61 rfl ?_
  refine wp_newI (n + 7) (z + 6589) 729 63 rfl rfl rfl (by omega) (hz.le (by omega)) (by omega) (by omega) ?_
  refine wp_putR [some none, some none, some (some (n)), some (some (n + 1)), some (some (n + 2)), none, some (some (n + 3)), some (some (n + 4)), some (some (n + 5)), some (some (n + 6)), some none, some none, some none, none, none, some none, none] 66 rfl rfl ⟨hb.1, by omega⟩ (by rw [upT_ne (by omega), upT_at]) (by decide) rfl rfl rfl ?_
  refine wp_s 67 rfl ?_
  refine wp_s 70 rfl ?_
  refine wp_newI (n + 8) (z + 7318) 729 72 rfl rfl rfl (by omega) (hz.le (by omega)) (by omega) (by omega) ?_
  refine wp_putR [some none, some none, some (some (n)), some (some (n + 1)), some (some (n + 2)), none, some (some (n + 3)), some (some (n + 4)), some (some (n + 5)), some (some (n + 6)), some (some (n + 7)), some none, some none, none, none, some none, none] 75 rfl rfl ⟨hb.1, by omega⟩ (by rw [upT_ne (by omega), upT_at]) (by decide) rfl rfl rfl ?_
  refine wp_s 76 rfl ?_
  refine wp_s 79 rfl ?_
  refine wp_newI (n + 9) (z + 8047) 729 81 rfl rfl rfl (by omega) (hz.le (by omega)) (by omega) (by omega) ?_
  refine wp_putR [some none, some none, some (some (n)), some (some (n + 1)), some (some (n + 2)), none, some (some (n + 3)), some (some (n + 4)), some (some (n + 5)), some (some (n + 6)), some (some (n + 7)), some (some (n + 8)), some none, none, none, some none, none] 84 rfl rfl ⟨hb.1, by omega⟩ (by rw [upT_ne (by omega), upT_at]) (by decide) rfl rfl rfl ?_
  refine wp_s 85 rfl ?_
  refine wp_s 88 rfl ?_
  refine wp_newI (n + 10) (z + 8776) 729 90 rfl rfl rfl (by omega) (hz.le (by omega)) (by omega) (by omega) ?_
  refine wp_putR [some none, some none, some (some (n)), some (some (n + 1)), some (some (n + 2)), none, some (some (n + 3)), some (some (n + 4)), some (some (n + 5)), some (some (n + 6)), some (some (n + 7)), some (some (n + 8)), some (some (n + 9)), none, none, some none, none] 93 rfl rfl ⟨hb.1, by omega⟩ (by rw [upT_ne (by omega), upT_at]) (by decide) rfl rfl rfl ?_
  refine wp_s 94 rfl ?_
  refine wp_s 96 rfl ?_
  refine wp_newI (n + 11) (z + 8800) 24 98 rfl rfl rfl (by omega) (hz.le (by omega)) (by omega) (by omega) ?_
  refine wp_putR [some none, some none, some (some (n)), some (some (n + 1)), some (some (n + 2)), none, some (some (n + 3)), some (some (n + 4)), some (some (n + 5)), some (some (n + 6)), some (some (n + 7)), some (some (n + 8)), some (some (n + 9)), none, none, some (some (n + 10)), none] 101 rfl rfl ⟨hb.1, by omega⟩ (by rw [upT_ne (by omega), upT_at]) (by decide) rfl rfl rfl ?_
  refine wp_s 102 rfl ?_
  refine wp_s 103 rfl ?_
  refine wp_putR [some (some (q)), some none, some (some (n)), some (some (n + 1)), some (some (n + 2)), none, some (some (n + 3)), some (some (n + 4)), some (some (n + 5)), some (some (n + 6)), some (some (n + 7)), some (some (n + 8)), some (some (n + 9)), none, none, some (some (n + 10)), none] 106 rfl rfl ⟨hb.1, by omega⟩ (by rw [upT_at]) (by decide) rfl rfl rfl ?_
  refine wp_s 107 rfl ?_
  refine wp_s 108 rfl ?_
  refine wp_putR [some (some (q)), some (some (g)), some (some (n)), some (some (n + 1)), some (some (n + 2)), none, some (some (n + 3)), some (some (n + 4)), some (some (n + 5)), some (some (n + 6)), some (some (n + 7)), some (some (n + 8)), some (some (n + 9)), none, none, some (some (n + 10)), none] 111 rfl rfl ⟨hb.1, by omega⟩ (by rw [upT_at]) (by decide) rfl rfl rfl ?_
  exact wp_ret rfl ⟨rfl, rfl⟩
theorem c_X7_init {d n z : Nat} {T : Nat → LK} {M : MT} {b : Nat} (hb : 4 ≤ b ∧ b < n) (hT : T b = .inr (7, nfl.getD 7 [])) (hz : Zr n M) : Wp (d + 1) k_X7_init 0 (entA k_X7_init [vR b]) [] (n, z, T, M) (fun r h' => r = none ∧ h' = (n + 8, z + 22599, (upT (upT (upT (upT (upT (upT (upT (upT (upT (upT (upT (upT (upT (upT (upT (upT T (n) (.inl (false, 729))) (b) (.inr (7, [some (some (n)), some none, some none, some none, some none, some none, some none, some none, none, none, none, none]))) (n + 1) (.inl (false, 729))) (b) (.inr (7, [some (some (n)), some (some (n + 1)), some none, some none, some none, some none, some none, some none, none, none, none, none]))) (n + 2) (.inl (false, 729))) (b) (.inr (7, [some (some (n)), some (some (n + 1)), some (some (n + 2)), some none, some none, some none, some none, some none, none, none, none, none]))) (n + 3) (.inl (false, 729))) (b) (.inr (7, [some (some (n)), some (some (n + 1)), some (some (n + 2)), some (some (n + 3)), some none, some none, some none, some none, none, none, none, none]))) (n + 4) (.inl (false, 729))) (b) (.inr (7, [some (some (n)), some (some (n + 1)), some (some (n + 2)), some (some (n + 3)), some (some (n + 4)), some none, some none, some none, none, none, none, none]))) (n + 5) (.inl (false, 729))) (b) (.inr (7, [some (some (n)), some (some (n + 1)), some (some (n + 2)), some (some (n + 3)), some (some (n + 4)), some (some (n + 5)), some none, some none, none, none, none, none]))) (n + 6) (.inl (false, 729))) (b) (.inr (7, [some (some (n)), some (some (n + 1)), some (some (n + 2)), some (some (n + 3)), some (some (n + 4)), some (some (n + 5)), some (some (n + 6)), some none, none, none, none, none]))) (n + 7) (.inl (false, 17496))) (b) (.inr (7, [some (some (n)), some (some (n + 1)), some (some (n + 2)), some (some (n + 3)), some (some (n + 4)), some (some (n + 5)), some (some (n + 6)), some (some (n + 7)), none, none, none, none]))), M)) := by
  refine wp_s 1 rfl ?_
  refine wp_obj 4 rfl rfl (Nat.le_of_ble_eq_true rfl) ?_
  refine wp_s 5 rfl ?_
  refine wp_s 8 rfl ?_
  refine wp_newI (n + 1) (z + 729) 729 10 rfl rfl rfl (by omega) (hz.le (by omega)) (by omega) (by omega) ?_
  refine wp_putR [some (some (n)), some none, some none, some none, some none, some none, some none, some none, none, none, none, none] 13 rfl rfl ⟨hb.1, by omega⟩ (by rw [upT_ne (by omega)]; exact hT) (by decide) rfl rfl rfl ?_
  refine wp_s 14 rfl ?_
  refine wp_s 17 rfl ?_
  refine wp_newI (n + 2) (z + 1458) 729 19 rfl rfl rfl (by omega) (hz.le (by omega)) (by omega) (by omega) ?_
  refine wp_putR [some (some (n)), some (some (n + 1)), some none, some none, some none, some none, some none, some none, none, none, none, none] 22 rfl rfl ⟨hb.1, by omega⟩ (by rw [upT_ne (by omega), upT_at]) (by decide) rfl rfl rfl ?_
  refine wp_s 23 rfl ?_
  refine wp_s 26 rfl ?_
  refine wp_newI (n + 3) (z + 2187) 729 28 rfl rfl rfl (by omega) (hz.le (by omega)) (by omega) (by omega) ?_
  refine wp_putR [some (some (n)), some (some (n + 1)), some (some (n + 2)), some none, some none, some none, some none, some none, none, none, none, none] 31 rfl rfl ⟨hb.1, by omega⟩ (by rw [upT_ne (by omega), upT_at]) (by decide) rfl rfl rfl ?_
  refine wp_s 32 rfl ?_
  refine wp_s 35 rfl ?_
  refine wp_newI (n + 4) (z + 2916) 729 37 rfl rfl rfl (by omega) (hz.le (by omega)) (by omega) (by omega) ?_
  refine wp_putR [some (some (n)), some (some (n + 1)), some (some (n + 2)), some (some (n + 3)), some none, some none, some none, some none, none, none, none, none] 40 rfl rfl ⟨hb.1, by omega⟩ (by rw [upT_ne (by omega), upT_at]) (by decide) rfl rfl rfl ?_
  refine wp_s 41 rfl ?_
  refine wp_s 44 rfl ?_
  refine wp_newI (n + 5) (z + 3645) 729 46 rfl rfl rfl (by omega) (hz.le (by omega)) (by omega) (by omega) ?_
  refine wp_putR [some (some (n)), some (some (n + 1)), some (some (n + 2)), some (some (n + 3)), some (some (n + 4)), some none, some none, some none, none, none, none, none] 49 rfl rfl ⟨hb.1, by omega⟩ (by rw [upT_ne (by omega), upT_at]) (by decide) rfl rfl rfl ?_
  refine wp_s 50 rfl ?_
  refine wp_s 53 rfl ?_
  refine wp_newI (n + 6) (z + 4374) 729 55 rfl rfl rfl (by omega) (hz.le (by omega)) (by omega) (by omega) ?_
  refine wp_putR [some (some (n)), some (some (n + 1)), some (some (n + 2)), some (some (n + 3)), some (some (n + 4)), some (some (n + 5)), some none, some none, none, none, none, none] 58 rfl rfl ⟨hb.1, by omega⟩ (by rw [upT_ne (by omega), upT_at]) (by decide) rfl rfl rfl ?_
  refine wp_s 59 rfl ?_
  refine wp_s 62 rfl ?_
  refine wp_newI (n + 7) (z + 5103) 729 64 rfl rfl rfl (by omega) (hz.le (by omega)) (by omega) (by omega) ?_
  refine wp_putR [some (some (n)), some (some (n + 1)), some (some (n + 2)), some (some (n + 3)), some (some (n + 4)), some (some (n + 5)), some (some (n + 6)), some none, none, none, none, none] 67 rfl rfl ⟨hb.1, by omega⟩ (by rw [upT_ne (by omega), upT_at]) (by decide) rfl rfl rfl ?_
  refine wp_s 68 rfl ?_
  refine wp_s 71 rfl ?_
  refine wp_newI (n + 8) (z + 22599) 17496 73 rfl rfl rfl (by omega) (hz.le (by omega)) (by omega) (by omega) ?_
  refine wp_putR [some (some (n)), some (some (n + 1)), some (some (n + 2)), some (some (n + 3)), some (some (n + 4)), some (some (n + 5)), some (some (n + 6)), some (some (n + 7)), none, none, none, none] 76 rfl rfl ⟨hb.1, by omega⟩ (by rw [upT_ne (by omega), upT_at]) (by decide) rfl rfl rfl ?_
  exact wp_ret rfl ⟨rfl, rfl⟩
