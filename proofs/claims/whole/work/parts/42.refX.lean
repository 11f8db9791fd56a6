/-! the first instance in an order -/
noncomputable def fstP {α : Type} (P : α → Prop) : List α → Option α
  | [] => none
  | x :: l => cI (P x) (some x) (fstP P l)
theorem fstP_t {α : Type} {P : α → Prop} {x : α} {l : List α} (h : P x) : fstP P (x :: l) = some x := cI_t h
theorem fstP_f {α : Type} {P : α → Prop} {x : α} {l : List α} (h : ¬ P x) : fstP P (x :: l) = fstP P l := cI_f h
def rowV (p : Nat) : Nat → Nat → List (Nat × Nat)
  | 0, _ => []
  | c + 1, v => (p, v) :: rowV p c (v + 1)
def prsG (row : Nat → List (Nat × Nat)) : Nat → Nat → List (Nat × Nat)
  | 0, _ => []
  | c + 1, p => row p ++ prsG row c (p + 1)
def cmbF : Nat → Nat → Nat → List Nat
  | 0, _, s => [s]
  | _ + 1, 0, _ => []
  | l + 1, n + 1, s => cmbF l n (s ||| 2 ^ (8 - n)) ++ cmbF (l + 1) n s
def mp (p : Nat) (l : List Nat) : List (Nat × Nat) := l.map (fun v => (p, v))
theorem cmbF_s {l c s : Nat} (h : c < 9) : cmbF (l + 1) (9 - c) s = cmbF l (8 - c) (s ||| 2 ^ c) ++ cmbF (l + 1) (8 - c) s := by
  rw [show 9 - c = 8 - c + 1 by omega]
  show cmbF l (8 - c) (s ||| 2 ^ (8 - (8 - c))) ++ _ = _
  rw [show 8 - (8 - c) = c by omega]
theorem cmbF_z (n s : Nat) : cmbF 0 n s = [s] := by cases n <;> rfl
theorem mp_app (p : Nat) (k l : List Nat) : mp p (k ++ l) = mp p k ++ mp p l := List.map_append
def isFish (r : Nat) : Bool := decide (r = 8 ∨ 11 ≤ r)
def sizeN (r : Nat) : Nat := if r = 4 ∨ r = 5 ∨ r = 8 then 2 else if r = 6 ∨ r = 7 ∨ r = 11 then 3 else 4
def rowS (r : Nat) (p : Nat) : List (Nat × Nat) := if isFish r = true ∧ 10 ≤ p ∧ p ≤ 16 then [] else mp p (cmbF (sizeN r) 9 0)
def loP (r : Nat) : Nat := if r = 2 then 18 else if 4 ≤ r ∧ isFish r = true then 1 else 0
def hiP (r : Nat) : Nat := if r = 0 then 80 else if r = 3 then 17 else if 4 ≤ r ∧ isFish r = true then 25 else 26
def pairsL (r : Nat) : List (Nat × Nat) := prsG (if r < 4 then fun p => rowV p 9 1 else rowS r) (hiP r + 1 - loP r) (loP r)
def pP (X : Nat → Nat) (r : Nat) (z : Nat × Nat) : Prop := 0 < insN X (r : Int) (z.1 : Int) (z.2 : Int)
/-- what found leaves -/
def FQv (X : Nat → Nat) (M : MT) (o : Nat) (r p v : Int) : Prop := M o 27 = p ∧ M o 28 = v ∧ M o 29 = ((insN X r p v : Nat) : Int) ∧ AtB M (o + 5) (insY X r p v)
def FrF (M M' : MT) (o : Nat) : Prop := (∀ a, a ≠ o → a ≠ o + 5 → M' a = M a) ∧ ∀ i : Int, i ≠ 27 → i ≠ 28 → i ≠ 29 → M' o i = M o i
theorem FrF.refl (M : MT) (o : Nat) : FrF M M o := ⟨fun _ _ _ => rfl, fun _ _ _ _ => rfl⟩
theorem FrF.trans {M M1 M2 : MT} {o : Nat} (h1 : FrF M M1 o) (h2 : FrF M1 M2 o) : FrF M M2 o := ⟨fun a h3 h4 => (h2.1 a h3 h4).trans (h1.1 a h3 h4), fun i h3 h4 h5 => (h2.2 i h3 h4 h5).trans (h1.2 i h3 h4 h5)⟩
theorem insN_le (X : Nat → Nat) (r p v : Int) : insN X r p v ≤ 729 := sumN_le (B := 9) (fun c => pop9_le _) 81
theorem c_X9_found {d : Nat} {G : GT} {M : MT} {o q : Nat} {X : Nat → Nat} {r p v : Int} (hG : RefG G o) (hq : q < G.1) (hT : G.2.2 q = .inl (false, 81)) (hne : q ≠ o + 5) (hno : q ≠ o) (hX : AtB M q X) (hr : R32 r) (hp : R32 p) (hv : R32 v) : Mq (d + 4) k_X9_found [vR o, vR q, vI r, vI p, vI v] G M (fun z M' => (z = some (vI 1) ∧ 0 < insN X r p v ∧ FQv X M' o r p v ∧ FrF M M' o) ∨ (z = some (vI 0) ∧ insN X r p v = 0 ∧ FrF M M' o)) := by
  have hle := insN_le X r p v
  refine wq_s 1 rfl ?_
  refine wq_s 2 rfl ?_
  refine wq_putE 27 5 rfl rfl hG.ob hG.2.2.1 rfl (by decide) (Or.inl rfl) rfl ?_
  refine wq_s 6 rfl ?_
  refine wq_s 8 rfl ?_
  refine wq_putE 28 11 rfl rfl hG.ob hG.2.2.1 rfl (by decide) (Or.inl rfl) rfl ?_
  refine wq_s 12 rfl ?_
  refine wq_s 13 rfl ?_
  refine wq_s 14 rfl ?_
  refine wq_s 15 rfl ?_
  refine wq_s 16 rfl ?_
  refine wq_s 18 rfl ?_
  refine wq_vt4 21 rfl rfl (Nat.le_of_ble_eq_true rfl) hG.ob hG.2.2.1 rfl (Nat.le_of_ble_eq_true rfl) (c_X9_instance hG hq hT hne (hX.fr ((up2_row hno).trans (up2_row hno))) hr hp hv) (fun z M1 hz => ?_)
  obtain ⟨rfl, hY, hF⟩ := hz
  dsimp only [Option.toList, List.cons_append, List.nil_append]
  refine wq_putE 29 24 rfl rfl hG.ob hG.2.2.1 rfl (by decide) (Or.inl rfl) rfl ?_
  have hFF : FrF M (up2 M1 o 29 ((insN X r p v : Nat) : Int)) o := ⟨fun a h1 h2 => by rw [up2_row h1, hF a h2, up2_row h1, up2_row h1], fun i h1 h2 h3 => by rw [up2_ne (Or.inr h3), hF o (by omega), up2_ne (Or.inr h2), up2_ne (Or.inr h1)]⟩
  refine wq_s 25 rfl ?_
  refine wq_getE (v := ((insN X r p v : Nat) : Int)) 29 28 rfl rfl hG.ob hG.2.2.1 rfl rfl up2_at ?_
  refine wq_if 35 rfl rfl (by omega) (fun c_28 => ?_) (fun c_28 => ?_)
  · have c_28 := of_decide_eq_true c_28
    refine wq_s 36 rfl ?_
    exact wq_ret rfl (Or.inr ⟨rfl, by omega, hFF⟩)
  · have c_28 := of_decide_eq_false c_28
    refine wq_s 32 rfl ?_
    refine wq_s 36 rfl ?_
    exact wq_ret rfl (Or.inl ⟨rfl, by omega, ⟨by rw [up2_ne (Or.inr (by decide)), hF o (by omega), up2_ne (Or.inr (by decide)), up2_at], by rw [up2_ne (Or.inr (by decide)), hF o (by omega), up2_at], up2_at, hY.fr (up2_row (by omega))⟩, hFF⟩)
theorem findsOne_38 {d : Nat} {G : GT} {M : MT} {o q : Nat} {X : Nat → Nat} {r : Nat} (hG : RefG G o) (hq : q < G.1) (hT : G.2.2 q = .inl (false, 81)) (hne : q ≠ o + 5) (hno : q ≠ o) (hX : AtB M q X) {lo hi : Nat} (hr4 : r < 4) (hh : hi ≤ 80) (hL : pairsL r = prsG (fun p => rowV p 9 1) (hi + 1 - lo) lo) (hlo : lo ≤ hi) : Wq (d + 5) k_X9_findsOne 38 [some (vR o), some (vR q), some (vI ((r : Nat) : Int)), some (vI ((lo : Nat) : Int)), some (vI ((hi : Nat) : Int)), some (vI ((lo : Nat) : Int)), none] [] G M (fun z M' => (z = some (vI 1) ∧ (∃ p v : Nat, fstP (pP X r) (pairsL r) = some (p, v) ∧ 0 < insN X (r : Int) (p : Int) (v : Int) ∧ FQv X M' o (r : Int) (p : Int) (v : Int)) ∧ FrF M M' o) ∨ (z = some (vI 0) ∧ fstP (pP X r) (pairsL r) = none ∧ FrF M M' o)) := by
  have L_38 : ∀ (f p : Nat) (M2 : MT) (y6 : Option AV), (hi + 1) - p < f → p ≤ hi + 1 → (fstP (pP X r) (pairsL r) = fstP (pP X r) (prsG (fun p => rowV p 9 1) (hi + 1 - p) p)) → (FrF M M2 o) → Wq (d + 5) k_X9_findsOne 38 [some (vR o), some (vR q), some (vI ((r : Nat) : Int)), some (vI ((lo : Nat) : Int)), some (vI ((hi : Nat) : Int)), some (vI ((p : Nat) : Int)), y6] [] G M2 (fun z M' => (z = some (vI 1) ∧ (∃ p v : Nat, fstP (pP X r) (pairsL r) = some (p, v) ∧ 0 < insN X (r : Int) (p : Int) (v : Int) ∧ FQv X M' o (r : Int) (p : Int) (v : Int)) ∧ FrF M M' o) ∨ (z = some (vI 0) ∧ fstP (pP X r) (pairsL r) = none ∧ FrF M M' o)) := by
    intro f
    induction f with
    | zero => intro p M2 y6 h; exact absurd h (by omega)
    | succ f ih_p =>
      intro p M2 y6 hf_p hk_p hE hFr
      refine wq_s 40 rfl ?_
      refine wq_s 42 rfl ?_
      refine wq_icmp 82 rfl rfl (by omega) (by omega) (fun c_42 => ?_) (fun c_42 => ?_)
      · have c_42 := of_decide_eq_true c_42
        have e9 : p = hi + 1 := by omega
        subst e9
        rw [show hi + 1 - (hi + 1) = 0 by omega] at hE
        have hE : fstP (pP X r) (pairsL r) = none := hE
        refine wq_s 83 rfl ?_
        exact wq_ret rfl (Or.inr ⟨rfl, hE, hFr⟩)
      · have c_42 := of_decide_eq_false c_42
        have L_48 : ∀ (f2 v : Nat) (M2 : MT), 10 - v < f2 → v ≤ 10 → (1 ≤ v) → (fstP (pP X r) (pairsL r) = fstP (pP X r) (rowV p (10 - v) v ++ prsG (fun p => rowV p 9 1) (hi - p) (p + 1))) → (FrF M M2 o) → Wq (d + 5) k_X9_findsOne 48 [some (vR o), some (vR q), some (vI ((r : Nat) : Int)), some (vI ((lo : Nat) : Int)), some (vI ((hi : Nat) : Int)), some (vI ((p : Nat) : Int)), some (vI ((v : Nat) : Int))] [] G M2 (fun z M' => (z = some (vI 1) ∧ (∃ p v : Nat, fstP (pP X r) (pairsL r) = some (p, v) ∧ 0 < insN X (r : Int) (p : Int) (v : Int) ∧ FQv X M' o (r : Int) (p : Int) (v : Int)) ∧ FrF M M' o) ∨ (z = some (vI 0) ∧ fstP (pP X r) (pairsL r) = none ∧ FrF M M' o)) := by
          intro f2
          induction f2 with
          | zero => intro v M2 h; exact absurd h (by omega)
          | succ f2 ih_v =>
            intro v M2 hf_v hk_v hv1 hE hFr
            refine wq_s 50 rfl ?_
            refine wq_s 52 rfl ?_
            refine wq_icmp 76 rfl rfl (by omega) (by omega) (fun c_52 => ?_) (fun c_52 => ?_)
            · have c_52 := of_decide_eq_true c_52
              have e9 : v = 10 := by omega
              subst e9
              refine we_inc 5 1 ((p + 1 : Nat) : Int) 79 _ rfl rfl rfl (by omega) (by omega) rfl ?_
              refine wq_s 38 rfl ?_
              refine ih_p (p + 1) _ _ (by omega) (by omega) ?_ hFr
              rw [hE, show hi + 1 - (p + 1) = hi - p by omega]
              rfl
            · have c_52 := of_decide_eq_false c_52
              refine wq_s 56 rfl ?_
              refine wq_s 57 rfl ?_
              refine wq_s 58 rfl ?_
              refine wq_s 60 rfl ?_
              refine wq_s 62 rfl ?_
              refine wq_vt4 65 rfl rfl (Nat.le_of_ble_eq_true rfl) hG.ob hG.2.2.1 rfl (Nat.le_of_ble_eq_true rfl) (c_X9_found (v := ((v : Nat) : Int)) hG hq hT hne hno (hX.fr (hFr.1 q hno hne)) (by omega) (by omega) (by omega)) (fun z M3 hz => ?_)
              rcases hz with ⟨rfl, hin, hv, hF3⟩ | ⟨rfl, hin, hF3⟩
              · dsimp only [Option.toList, List.cons_append, List.nil_append]
                have hE : fstP (pP X r) (pairsL r) = some (p, v) := by rw [hE, show 10 - v = 9 - v + 1 by omega]; exact fstP_t (P := pP X r) (x := (p, v)) hin
                refine wq_s 68 rfl ?_
                refine wq_s 69 rfl ?_
                exact wq_ret rfl (Or.inl ⟨rfl, ⟨p, v, hE, hin, hv⟩, hFr.trans hF3⟩)
              · dsimp only [Option.toList, List.cons_append, List.nil_append]
                have hE : fstP (pP X r) (pairsL r) = fstP (pP X r) (rowV p (10 - (v + 1)) (v + 1) ++ prsG (fun p => rowV p 9 1) (hi - p) (p + 1)) := by rw [hE, show 10 - v = 10 - (v + 1) + 1 by omega]; exact fstP_f (P := pP X r) (x := (p, v)) (fun z => by unfold pP at z; dsimp only at z; omega)
                refine wq_s 70 rfl ?_
                refine we_inc 6 1 ((v + 1 : Nat) : Int) 73 _ rfl rfl rfl (by omega) (by omega) rfl ?_
                refine wq_s 48 rfl ?_
                exact ih_v (v + 1) M3 (by omega) (by omega) (by omega) hE (hFr.trans hF3)
        refine wq_s 46 rfl ?_
        refine wq_s 48 rfl ?_
        refine L_48 10 1 _ (by omega) (by omega) (by omega) ?_ hFr
        rw [hE, show hi + 1 - p = hi - p + 1 by omega]
        rfl
  exact L_38 (hi + 2) lo M none (by omega) (by omega) (by rw [hL]) (FrF.refl M o)
theorem c_X9_findsOne {d : Nat} {G : GT} {M : MT} {o q : Nat} {X : Nat → Nat} {r : Nat} (hG : RefG G o) (hq : q < G.1) (hT : G.2.2 q = .inl (false, 81)) (hne : q ≠ o + 5) (hno : q ≠ o) (hX : AtB M q X) (hr4 : r < 4) : Mq (d + 5) k_X9_findsOne [vR o, vR q, vI (r : Int)] G M (fun z M' => (z = some (vI 1) ∧ (∃ p v : Nat, fstP (pP X r) (pairsL r) = some (p, v) ∧ 0 < insN X (r : Int) (p : Int) (v : Int) ∧ FQv X M' o (r : Int) (p : Int) (v : Int)) ∧ FrF M M' o) ∨ (z = some (vI 0) ∧ fstP (pP X r) (pairsL r) = none ∧ FrF M M' o)) := by
  rcases (show r = 0 ∨ r = 1 ∨ r = 2 ∨ r = 3 by omega) with rfl | rfl | rfl | rfl
  · refine wq_s 1 rfl ?_
    refine wq_s 2 rfl ?_
    refine wq_s 10 rfl ?_
    refine wq_s 11 rfl ?_
    refine wq_s 12 rfl ?_
    refine wq_s 13 rfl ?_
    refine wq_s 16 rfl ?_
    refine wq_s 18 rfl ?_
    refine wq_s 33 rfl ?_
    refine wq_s 35 rfl ?_
    refine wq_s 36 rfl ?_
    refine wq_s 38 rfl ?_
    exact findsOne_38 (r := 0) (lo := 0) (hi := 80) hG hq hT hne hno hX (by decide) (by decide) rfl (by decide)
  · refine wq_s 1 rfl ?_
    refine wq_s 2 rfl ?_
    refine wq_s 10 rfl ?_
    refine wq_s 11 rfl ?_
    refine wq_s 12 rfl ?_
    refine wq_s 13 rfl ?_
    refine wq_s 21 rfl ?_
    refine wq_s 22 rfl ?_
    refine wq_s 23 rfl ?_
    refine wq_s 31 rfl ?_
    refine wq_s 33 rfl ?_
    refine wq_s 35 rfl ?_
    refine wq_s 36 rfl ?_
    refine wq_s 38 rfl ?_
    exact findsOne_38 (r := 1) (lo := 0) (hi := 26) hG hq hT hne hno hX (by decide) (by decide) rfl (by decide)
  · refine wq_s 1 rfl ?_
    refine wq_s 2 rfl ?_
    refine wq_s 5 rfl ?_
    refine wq_s 7 rfl ?_
    refine wq_s 11 rfl ?_
    refine wq_s 12 rfl ?_
    refine wq_s 13 rfl ?_
    refine wq_s 21 rfl ?_
    refine wq_s 22 rfl ?_
    refine wq_s 23 rfl ?_
    refine wq_s 31 rfl ?_
    refine wq_s 33 rfl ?_
    refine wq_s 35 rfl ?_
    refine wq_s 36 rfl ?_
    refine wq_s 38 rfl ?_
    exact findsOne_38 (r := 2) (lo := 18) (hi := 26) hG hq hT hne hno hX (by decide) (by decide) rfl (by decide)
  · refine wq_s 1 rfl ?_
    refine wq_s 2 rfl ?_
    refine wq_s 10 rfl ?_
    refine wq_s 11 rfl ?_
    refine wq_s 12 rfl ?_
    refine wq_s 13 rfl ?_
    refine wq_s 21 rfl ?_
    refine wq_s 22 rfl ?_
    refine wq_s 23 rfl ?_
    refine wq_s 26 rfl ?_
    refine wq_s 28 rfl ?_
    refine wq_s 33 rfl ?_
    refine wq_s 35 rfl ?_
    refine wq_s 36 rfl ?_
    refine wq_s 38 rfl ?_
    exact findsOne_38 (r := 3) (lo := 0) (hi := 17) hG hq hT hne hno hX (by decide) (by decide) rfl (by decide)
