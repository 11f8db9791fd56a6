/-! the solver: events, and what a closing keeps -/
def evB (X : Nat → Nat) (ev : Nat) : Nat := if ev < 81 then X ev else plH X ((ev - 81) / 9) ((ev - 81) % 9)
theorem evB_c {X : Nat → Nat} {c : Nat} (h : c < 81) : evB X c = X c := if_pos h
theorem evB_p {X : Nat → Nat} {h e : Nat} (he : e < 9) : evB X (81 + (9 * h + e)) = plH X h e := by
  unfold evB
  rw [if_neg (by omega), show (81 + (9 * h + e) - 81) / 9 = h by omega, show (81 + (9 * h + e) - 81) % 9 = e by omega]
theorem evB_lt {X : Nat → Nat} (hX : ∀ c, c < 81 → X c < 512) (ev : Nat) : evB X ev < 512 := by
  unfold evB
  by_cases h : ev < 81
  · rw [if_pos h]
    exact hX ev h
  · rw [if_neg h]
    exact plH_lt _ _ _
theorem ev_split {ev : Nat} (h : ev < 324) : ev < 81 ∨ ∃ p e, (p < 27 ∧ e < 9) ∧ ev = 81 + (9 * p + e) := by
  by_cases h1 : ev < 81
  · exact Or.inl h1
  · exact Or.inr ⟨(ev - 81) / 9, (ev - 81) % 9, ⟨by omega, by omega⟩, by omega⟩
theorem nz_of {x i : Nat} (h : x.testBit i = true) : x ≠ 0 := fun z => by
  rw [z, Nat.zero_testBit] at h
  cases h
theorem und_ev {X : Nat → Nat} : Undead X ↔ ∀ ev, ev < 324 → evB X ev ≠ 0 := by
  constructor
  · intro h ev hev
    rcases ev_split hev with h1 | ⟨p, e, ⟨h1, h2⟩, rfl⟩
    · rw [evB_c h1]
      exact h.1 ev h1
    · rw [evB_p h2]
      obtain ⟨k, hk, h3⟩ := h.2 p e h1 h2
      exact nz_of ((plH_tb X p e k).2 ⟨hk, h3⟩)
  · intro h
    refine ⟨fun c hc => ?_, fun p e hp he => ?_⟩
    · have := h c (by omega)
      rw [evB_c hc] at this
      exact this
    · have h1 := h (81 + (9 * p + e)) (by omega)
      rw [evB_p he] at h1
      obtain ⟨k, hk⟩ := nz_tb h1
      have h2 := (plH_tb X p e k).1 hk
      exact ⟨k, h2.1, h2.2⟩
/-- the four events of a node -/
def evN (n s : Nat) : Nat := if s = 0 then n / 9 else 81 + (9 * hoN (n / 9) (s - 1) + n % 9)
theorem evN_0 (n : Nat) : evN n 0 = n / 9 := rfl
theorem evN_s (n s : Nat) : evN n (s + 1) = 81 + (9 * hoN (n / 9) s + n % 9) := by
  unfold evN
  rw [if_neg (by omega), Nat.add_sub_cancel]
theorem evN_lt {n s : Nat} (hn : n < 729) (hs : s < 4) : evN n s < 324 := by
  cases s with
  | zero => rw [evN_0]; omega
  | succ s =>
    rw [evN_s]
    have := (ho_ok (c := n / 9) (s := s) (by omega) (by omega)).2.2.1
    omega
theorem evN_inj {n s t : Nat} (hn : n < 729) (hs : s < 4) (ht : t < 4) (h : evN n s = evN n t) : s = t := by
  cases s with
  | zero =>
    cases t with
    | zero => rfl
    | succ t =>
      rw [evN_0, evN_s] at h
      omega
  | succ s =>
    have h1 := (ho_ok (c := n / 9) (s := s) (by omega) (by omega)).2.1
    cases t with
    | zero =>
      rw [evN_0, evN_s] at h
      omega
    | succ t =>
      have h2 := (ho_ok (c := n / 9) (s := t) (by omega) (by omega)).2.1
      rw [evN_s, evN_s] at h
      have h3 : hoN (n / 9) s = hoN (n / 9) t := by omega
      rw [h3, h2] at h1
      omega
theorem pop_xo : ∀ (x : Fin 512) (e : Fin 9), x.val.testBit e.val = true → pop9 (x.val ^^^ 2 ^ e.val) + 1 = pop9 x.val := by decide +kernel
theorem pop_xor {x e : Nat} (hx : x < 512) (he : e < 9) (h : x.testBit e = true) : pop9 (x ^^^ 2 ^ e) + 1 = pop9 x := pop_xo ⟨x, hx⟩ ⟨e, he⟩ h
theorem ev_dec {X : Nat → Nat} {n s : Nat} (hX : ∀ c, c < 81 → X c < 512) (hn : n < 729) (hs : s < 4) (hh : hasN X n = 1) : pop9 (evB (xoA X n) (evN n s)) + 1 = pop9 (evB X (evN n s)) := by
  have hb := (hasN_tb X n).1 hh
  cases s with
  | zero =>
    rw [evN_0, evB_c (by omega), evB_c (by omega)]
    unfold xoA
    rw [if_pos rfl]
    exact pop_xor (hX _ (by omega)) (by omega) hb
  | succ s =>
    obtain ⟨h1, h2, h3, h4⟩ := ho_ok (c := n / 9) (s := s) (by omega) (by omega)
    rw [evN_s, evB_p (by omega), evB_p (by omega), ← pl_flip hn (by omega)]
    exact pop_xor (plH_lt _ _ _) h4 ((plH_tb _ _ _ _).2 ⟨h4, by rw [h1]; exact hb⟩)
theorem ev_same {X : Nat → Nat} {n ev : Nat} (hev : ev < 324) (hne : ∀ s, s < 4 → ev ≠ evN n s) : evB (xoA X n) ev = evB X ev := by
  rcases ev_split hev with h1 | ⟨p, e, ⟨h1, h2⟩, rfl⟩
  · rw [evB_c h1, evB_c h1]
    unfold xoA
    rw [if_neg (show ¬ ev = n / 9 from hne 0 (by decide))]
  · rw [evB_p h2, evB_p h2]
    refine pl_same h1 (fun z => hne (srN p + 1) (by have := srN_lt p; omega) ?_)
    rw [evN_s, ← z.2, z.1]
/-- an event that is through -/
def DnE (X : Nat → Nat) (ev : Nat) : Prop := (ev < 81 → ∀ c i, c < 81 → c ≠ ev → shB ev c = true → (X ev).testBit i = true → ¬ (X c).testBit i = true) ∧ (81 ≤ ev → ∀ c i, c < 81 → hoN c (srN ((ev - 81) / 9)) = (ev - 81) / 9 → (X c).testBit ((ev - 81) % 9) = true → (X c).testBit i = true → i = (ev - 81) % 9)
theorem DnE.mono {X X' : Nat → Nat} {ev : Nat} (h : DnE X ev) (hs : SubB X' X) : DnE X' ev := ⟨fun h1 c i hc hne hsh hb hz => h.1 h1 c i hc hne hsh (hs ev h1 i hb) (hs c hc i hz), fun h1 c i hc hh hb hz => h.2 h1 c i hc hh (hs c hc _ hb) (hs c hc i hz)⟩
theorem insN_0 {X : Nat → Nat} {r p v : Int} (h : ∀ c, c < 81 → insY X r p v c = 0) : insN X r p v = 0 := sumN_0' 81 (fun c hc => by rw [h c hc]; rfl)
theorem insC_0 {X : Nat → Nat} {p v : Int} (h : insC X 0 p v) : singleC X p v := by
  rcases h with z | z | z | z | z | z | z
  · exact z.2
  all_goals exact absurd z.1 (by decide)
theorem insC_1 {X : Nat → Nat} {p v : Int} (h : insC X 1 p v) : hid1C X p v := by
  rcases h with z | z | z | z | z | z | z
  · exact absurd z.1 (by decide)
  · exact z.2
  all_goals exact absurd z.1 (by decide)
theorem pop1N {x : Nat} (hx : x < 512) (h : pop9 x = 1) : ∃ e, e < 9 ∧ x = 2 ^ e := by
  obtain ⟨e, he⟩ := pop1 ⟨x, hx⟩ h
  exact ⟨e.val, e.isLt, he⟩
theorem single_of {X : Nat → Nat} {c e : Nat} (hc : c < 81) (he : e < 9) (h : X c = 2 ^ e) : singleC X (c : Int) ((e + 1 : Nat) : Int) := ⟨⟨by omega, by omega⟩, ⟨by omega, by omega⟩, by rw [Int.toNat_natCast, v1N]; exact h⟩
theorem hid_of {X : Nat → Nat} {p e : Nat} (hp : p < 27) (he : e < 9) (h : pop9 (plH X p e) = 1) : hid1C X (p : Int) ((e + 1 : Nat) : Int) := ⟨⟨by omega, by omega⟩, ⟨by omega, by omega⟩, by rw [v1N, plF]; exact h⟩
theorem ins1_of {X : Nat → Nat} {p e c i : Nat} (hp : p < 27) (he : e < 9) (h : pop9 (plH X p e) = 1) (hc : c < 81) (hh : hoN c (srN p) = p) (hb : (X c).testBit e = true) (hi : i < 9) (hne : i ≠ e) (hz : (X c).testBit i = true) : (insY X 1 (p : Int) ((e + 1 : Nat) : Int) c).testBit i = true := by
  have ho := ho_ok (c := c) (s := srN p) hc (srN_lt p)
  rw [hh] at ho
  rw [ins1_tb (hid_of hp he h), v1N]
  have e1 : cellF (p : Int) ((poN c (srN p) : Nat) : Int) = (c : Int) := by rw [ceF hp ho.2.2.2, ho.1]
  exact ⟨⟨poN c (srN p), ho.2.2.2, by rw [e1, Int.toNat_natCast]; exact hb, e1.symm⟩, ⟨hi, hne⟩, hz⟩
theorem clo_dn {R : Nat → Nat} (hR : ∀ c, c < 81 → R c < 512) (h : ClosedI R) {ev : Nat} (hev : ev < 324) (hp : pop9 (evB R ev) = 1) : DnE R ev := by
  rcases ev_split hev with h1 | ⟨p, e, ⟨h1, h2⟩, rfl⟩
  · refine ⟨fun _ c i hc hne hsh hb hz => ?_, fun z => absurd z (by omega)⟩
    rw [evB_c h1] at hp
    obtain ⟨e, he, hx⟩ := pop1N (hR ev h1) hp
    rw [hx, pow_tb] at hb
    subst hb
    have h3 := insN_z (h.1 ev (i + 1) h1 (by omega) (by omega)) hc he
    rw [Bool.eq_false_iff] at h3
    exact h3 ((ins0_tb (single_of h1 he hx) c i).2 ⟨(peers_ho h1 hc).2 ⟨fun z => hne z.symm, hsh⟩, (v1N i).symm, hz⟩)
  · refine ⟨fun z => absurd z (by omega), fun _ c i hc hh hb hz => ?_⟩
    rw [evB_p h2] at hp
    rw [show (81 + (9 * p + e) - 81) / 9 = p by omega] at hh
    rw [show (81 + (9 * p + e) - 81) % 9 = e by omega] at hb ⊢
    have hi := tb_lt9 (hR c hc) hz
    apply Classical.byContradiction
    intro hne
    have h3 := insN_z (h.2 p (e + 1) h1 (by omega) (by omega)) hc hi
    rw [Bool.eq_false_iff] at h3
    exact h3 (ins1_of h1 h2 hp hc hh hb hi hne hz)
theorem dn_clo {R : Nat → Nat} (hR : ∀ c, c < 81 → R c < 512) (h : ∀ ev, ev < 324 → pop9 (evB R ev) = 1 → DnE R ev) : ClosedI R := by
  refine ⟨fun p v hp v1 v2 => insN_0 (fun c hc => ?_), fun p v hp v1 v2 => insN_0 (fun c hc => ?_)⟩
  · obtain ⟨e, rfl⟩ : ∃ e, v = e + 1 := ⟨v - 1, by omega⟩
    by_cases hi : insC R 0 (p : Int) ((e + 1 : Nat) : Int)
    · have hs := insC_0 hi
      have hx : R p = 2 ^ e := by
        have := hs.2.2
        rw [Int.toNat_natCast, v1N] at this
        exact this
      have hd := h p (by omega) (by rw [evB_c hp, hx]; exact pop1_pow ⟨e, by omega⟩)
      apply tb_ext
      intro i
      rw [ins0_tb hs, Nat.zero_testBit]
      constructor
      · rintro ⟨g1, g2, g3⟩
        rw [v1N] at g2
        have g4 := (peers_ho hp hc).1 g1
        exact absurd g3 (hd.1 hp c i hc (fun z => g4.1 z.symm) g4.2 (by rw [hx, pow_tb]; exact g2))
      · intro z; cases z
    · exact insY_f hi c
  · obtain ⟨e, rfl⟩ : ∃ e, v = e + 1 := ⟨v - 1, by omega⟩
    by_cases hi : insC R 1 (p : Int) ((e + 1 : Nat) : Int)
    · have hs := insC_1 hi
      have hx : pop9 (plH R p e) = 1 := by
        have := hs.2.2
        rw [v1N, plF] at this
        exact this
      have hd := (h (81 + (9 * p + e)) (by omega) (by rw [evB_p (by omega)]; exact hx)).2 (by omega)
      rw [show (81 + (9 * p + e) - 81) / 9 = p by omega, show (81 + (9 * p + e) - 81) % 9 = e by omega] at hd
      apply tb_ext
      intro i
      rw [ins1_tb hs, v1N, Nat.zero_testBit]
      constructor
      · rintro ⟨⟨j, g1, g2, g3⟩, g4, g5⟩
        rw [← g3, Int.toNat_natCast] at g2
        rw [ceF hp g1] at g3
        have g6 : c = ceN p j := by omega
        exact absurd (hd c i hc (by rw [g6]; exact (ce_ok hp g1).1) g2 g5) g4.2
      · intro z; cases z
    · exact insY_f hi c
theorem keep_c {X Z : Nat → Nat} {c e c' : Nat} (hc : c < 81) (he : e < 9) (hx : X c = 2 ^ e) (hZ : ClosedI Z) (hU : Undead Z) (hs : SubB Z X) (hc' : c' < 81) (hne : c' ≠ c) (hsh : shB c c' = true) : ¬ (Z c').testBit e = true := fun hz =>
  ins0_keep (p := c) (v := e + 1) hc ⟨by omega, by omega⟩ hZ hU hs hc' hz ((ins0_tb (single_of hc he hx) c' e).2 ⟨(peers_ho hc hc').2 ⟨fun z => hne z.symm, hsh⟩, (v1N e).symm, hs c' hc' e hz⟩)
theorem keep_p {X Z : Nat → Nat} {p e c i : Nat} (hp : p < 27) (he : e < 9) (hx : pop9 (plH X p e) = 1) (hZ : ClosedI Z) (hU : Undead Z) (hs : SubB Z X) (hc : c < 81) (hh : hoN c (srN p) = p) (hb : (X c).testBit e = true) (hX : X c < 512) (hz : (Z c).testBit i = true) : i = e := by
  apply Classical.byContradiction
  intro hne
  have hz2 := hs c hc i hz
  exact ins1_keep (p := p) (v := e + 1) hp ⟨by omega, by omega⟩ hZ hU hs hc hz (ins1_of hp he hx hc hh hb (tb_lt9 hX hz2) hne hz2)
/-- every closed living board below W lies below X -/
def KpI (W X : Nat → Nat) : Prop := ∀ Z, ClosedI Z → Undead Z → SubB Z W → SubB Z X
def InE (EL : List Nat) (i ev : Nat) : Prop := ∃ j, i ≤ j ∧ j < EL.length ∧ EL.getD j 0 = ev
def EvI (X : Nat → Nat) (EL : List Nat) : Prop := Dst EL ∧ ∀ j, j < EL.length → EL.getD j 0 < 324 ∧ pop9 (evB X (EL.getD j 0)) ≤ 1
def PnI (X : Nat → Nat) (EL : List Nat) (i : Nat) : Prop := ∀ ev, ev < 324 → pop9 (evB X ev) = 1 → InE EL i ev ∨ DnE X ev
def ClI (W X : Nat → Nat) (EL : List Nat) (i dd : Nat) : Prop := KpI W X ∧ EL.length ≤ 324 ∧ ((dd = 1 ∧ ¬ Undead X) ∨ (dd = 0 ∧ Undead X ∧ EvI X EL ∧ PnI X EL i))
/-- some events L are still to be noted -/
def NtI (X : Nat → Nat) (EL : List Nat) (L : Nat → Prop) (i dd : Nat) : Prop := Dst EL ∧ (∀ j, j < EL.length → EL.getD j 0 < 324 ∧ pop9 (evB X (EL.getD j 0)) ≤ 1 ∧ (L (EL.getD j 0) → pop9 (evB X (EL.getD j 0)) = 0)) ∧ ((dd = 1 ∧ ¬ Undead X) ∨ (dd = 0 ∧ ∀ ev, ev < 324 → ¬ L ev → evB X ev ≠ 0)) ∧ ∀ ev, ev < 324 → pop9 (evB X ev) = 1 → L ev ∨ InE EL i ev ∨ DnE X ev
def ntL (v : Nat) (EL : List Nat) (ev : Nat) : List Nat := if pop9 v = 1 then EL ++ [ev] else EL
def ntD (v dd : Nat) : Nat := if v = 0 then 1 else dd
theorem gD_x {l : List Nat} {y : Nat} : (l ++ [y]).getD l.length 0 = y := by
  rw [gD_r (Nat.le_refl _), Nat.sub_self]
  rfl
theorem InE.app {EL R : List Nat} {i ev : Nat} (h : InE EL i ev) : InE (EL ++ R) i ev := by
  obtain ⟨j, h1, h2, h3⟩ := h
  exact ⟨j, h1, by rw [List.length_append]; omega, by rw [gD_l h2]; exact h3⟩
theorem NtI.len {X : Nat → Nat} {EL : List Nat} {L : Nat → Prop} {i dd : Nat} (h : NtI X EL L i dd) : EL.length ≤ 324 := dst_len 324 EL h.1 (fun j hj => (h.2.1 j hj).1)
theorem Dst.app {EL : List Nat} {ev : Nat} (h : Dst EL) (hn : ∀ j, j < EL.length → EL.getD j 0 ≠ ev) : Dst (EL ++ [ev]) := by
  intro a b ha hb he
  rw [List.length_append] at ha hb
  have e1 : [ev].length = 1 := rfl
  by_cases h1 : a < EL.length
  · by_cases h2 : b < EL.length
    · rw [gD_l h1, gD_l h2] at he
      exact h a b h1 h2 he
    · have h3 : b = EL.length := by omega
      rw [h3, gD_x, gD_l h1] at he
      exact absurd he (hn a h1)
  · have h3 : a = EL.length := by omega
    by_cases h2 : b < EL.length
    · rw [h3, gD_x, gD_l h2] at he
      exact absurd he.symm (hn b h2)
    · omega
theorem NtI.lt {X : Nat → Nat} {EL : List Nat} {L : Nat → Prop} {i dd ev : Nat} (h : NtI X EL L i dd) (hL : L ev) (hev : ev < 324) (hp : pop9 (evB X ev) = 1) : EL.length < 324 := by
  have h1 := dst_len 324 (EL ++ [ev]) (h.1.app (fun j hj z => by have := (h.2.1 j hj).2.2 (by rw [z]; exact hL); rw [z] at this; omega)) (fun j hj => by
    by_cases h2 : j < EL.length
    · rw [gD_l h2]; exact (h.2.1 j h2).1
    · rw [List.length_append] at hj
      have e1 : [ev].length = 1 := rfl
      have h3 : j = EL.length := by omega
      rw [h3, gD_x]; exact hev)
  rw [List.length_append] at h1
  have e1 : [ev].length = 1 := rfl
  omega
theorem pop0 : ∀ n : Fin 512, pop9 n.val = 0 → n.val = 0 := by decide +kernel
theorem NtI.note {X : Nat → Nat} {EL : List Nat} {L L' : Nat → Prop} {i dd ev : Nat} (h : NtI X EL L i dd) (hi : i ≤ EL.length) (hL : L ev) (hev : ev < 324) (hL' : ∀ e, e < 324 → (L' e ↔ (L e ∧ e ≠ ev))) : NtI X (ntL (evB X ev) EL ev) L' i (ntD (evB X ev) dd) := by
  obtain ⟨h1, h2, h3, h4⟩ := h
  have hd : (ntD (evB X ev) dd = 1 ∧ ¬ Undead X) ∨ (ntD (evB X ev) dd = 0 ∧ ∀ e, e < 324 → ¬ L' e → evB X e ≠ 0) := by
    unfold ntD
    by_cases hz : evB X ev = 0
    · rw [if_pos hz]
      exact Or.inl ⟨rfl, fun u => und_ev.1 u ev hev hz⟩
    · rw [if_neg hz]
      refine h3.imp id (fun z => ⟨z.1, fun e he hn => ?_⟩)
      by_cases h5 : e = ev
      · rw [h5]; exact hz
      · exact z.2 e he (fun y => hn ((hL' e he).2 ⟨y, h5⟩))
  unfold ntL
  by_cases hp : pop9 (evB X ev) = 1
  · rw [if_pos hp]
    refine ⟨h1.app (fun j hj z => by have := (h2 j hj).2.2 (by rw [z]; exact hL); rw [z] at this; omega), fun j hj => ?_, hd, fun e he he1 => ?_⟩
    · by_cases h5 : j < EL.length
      · rw [gD_l h5]
        exact ⟨(h2 j h5).1, (h2 j h5).2.1, fun z => (h2 j h5).2.2 ((hL' _ (h2 j h5).1).1 z).1⟩
      · rw [List.length_append] at hj
        have e1 : [ev].length = 1 := rfl
        have h6 : j = EL.length := by omega
        rw [h6, gD_x]
        exact ⟨hev, by omega, fun z => absurd rfl ((hL' _ hev).1 z).2⟩
    · by_cases h5 : e = ev
      · refine Or.inr (Or.inl ⟨EL.length, hi, by rw [List.length_append]; exact Nat.lt_succ_self _, by rw [gD_x]; exact h5.symm⟩)
      · rcases h4 e he he1 with z | z | z
        · exact Or.inl ((hL' e he).2 ⟨z, h5⟩)
        · exact Or.inr (Or.inl z.app)
        · exact Or.inr (Or.inr z)
  · rw [if_neg hp]
    refine ⟨h1, fun j hj => ⟨(h2 j hj).1, (h2 j hj).2.1, fun z => (h2 j hj).2.2 ((hL' _ (h2 j hj).1).1 z).1⟩, hd, fun e he he1 => ?_⟩
    rcases h4 e he he1 with z | z | z
    · exact Or.inl ((hL' e he).2 ⟨z, fun y => hp (by rw [← y]; exact he1)⟩)
    · exact Or.inr (Or.inl z)
    · exact Or.inr (Or.inr z)
theorem NtI.fin {W X : Nat → Nat} {EL : List Nat} {L : Nat → Prop} {i dd : Nat} (h : NtI X EL L i dd) (hK : KpI W X) (hL : ∀ e, e < 324 → ¬ L e) : ClI W X EL i dd := by
  have h0 := h.len
  obtain ⟨h1, h2, h3, h4⟩ := h
  refine ⟨hK, h0, h3.imp id (fun z => ⟨z.1, und_ev.2 (fun e he => z.2 e he (hL e he)), ⟨h1, fun j hj => ⟨(h2 j hj).1, (h2 j hj).2.1⟩⟩, fun e he he1 => ?_⟩)⟩
  rcases h4 e he he1 with y | y
  · exact absurd y (hL e he)
  · exact y
theorem xo_sub {X : Nat → Nat} {n : Nat} (hh : hasN X n = 1) : SubB (xoA X n) X := fun c hc i hi => by
  rcases (xoA_tb X n c i).1 hi with z | z
  · exact z.1
  · exfalso
    apply z.1
    rw [z.2.1, z.2.2]
    exact (hasN_tb X n).1 hh
/-- a node goes: its four events are still to be noted -/
theorem ClI.drop {W X : Nat → Nat} {EL : List Nat} {i n : Nat} (h : ClI W X EL i 0) (hX : ∀ c, c < 81 → X c < 512) (hn : n < 729) (hh : hasN X n = 1) (hk : ∀ Z, ClosedI Z → Undead Z → SubB Z W → ¬ (Z (n / 9)).testBit (n % 9) = true) : KpI W (xoA X n) ∧ NtI (xoA X n) EL (fun e => ∃ t, t < 4 ∧ e = evN n t) i 0 := by
  obtain ⟨h1, -, h2⟩ := h
  have hs := xo_sub hh
  rcases h2 with ⟨h2, -⟩ | ⟨-, hU, hE, hP⟩
  · cases h2
  have hnz : ∀ t, t < 4 → pop9 (evB (xoA X n) (evN n t)) + 1 = pop9 (evB X (evN n t)) := fun t ht => ev_dec hX hn ht hh
  refine ⟨fun Z z1 z2 z3 c hc e he => ?_, hE.1, fun j hj => ?_, Or.inr ⟨rfl, fun ev hev hL => ?_⟩, fun ev hev hp => ?_⟩
  · refine (xoA_tb X n c e).2 (Or.inl ⟨h1 Z z1 z2 z3 c hc e he, fun y => hk Z z1 z2 z3 ?_⟩)
    rw [← y.1, ← y.2]
    exact he
  · refine ⟨(hE.2 j hj).1, ?_, ?_⟩
    · by_cases hL : ∃ t, t < 4 ∧ EL.getD j 0 = evN n t
      · obtain ⟨t, ht, he⟩ := hL
        have a1 := hnz t ht
        have a2 := (hE.2 j hj).2
        rw [he] at a2 ⊢
        omega
      · rw [ev_same (hE.2 j hj).1 (fun t ht z => hL ⟨t, ht, z⟩)]
        exact (hE.2 j hj).2
    · rintro ⟨t, ht, he⟩
      have a1 := hnz t ht
      have a2 := (hE.2 j hj).2
      rw [he] at a2 ⊢
      omega
  · rw [ev_same hev (fun t ht z => hL ⟨t, ht, z⟩)]
    exact und_ev.1 hU ev hev
  · by_cases hL : ∃ t, t < 4 ∧ ev = evN n t
    · exact Or.inl hL
    · rw [ev_same hev (fun t ht z => hL ⟨t, ht, z⟩)] at hp
      exact Or.inr ((hP ev hev hp).imp id (fun z => z.mono hs))
theorem ClI.beg (X : Nat → Nat) : NtI X [] (fun e => 0 ≤ e) 0 0 := ⟨fun a b ha => absurd ha (Nat.not_lt_zero _), fun j hj => absurd hj (Nat.not_lt_zero _), Or.inr ⟨rfl, fun ev _ h => absurd (Nat.zero_le _) h⟩, fun ev _ _ => Or.inl (Nat.zero_le _)⟩
/-- the top of the stack, of which a cell is narrowed -/
theorem ClI.top {W X : Nat → Nat} (hX : ∀ c, c < 81 → X c < 512) (hU : Undead X) (hC : ClosedI X) (hs : SubB W X) : ClI W X [] 0 0 := ⟨fun Z _ _ h c hc i hi => hs c hc i (h c hc i hi), Nat.zero_le _, Or.inr ⟨rfl, hU, ⟨fun a b ha => absurd ha (Nat.not_lt_zero _), fun j hj => absurd hj (Nat.not_lt_zero _)⟩, fun ev hev hp => Or.inr (clo_dn hX hC hev hp)⟩⟩
theorem ClI.len {W X : Nat → Nat} {EL : List Nat} {i dd : Nat} (h : ClI W X EL i dd) : EL.length ≤ 324 ∧ dd ≤ 1 := ⟨h.2.1, by rcases h.2.2 with ⟨z, -⟩ | ⟨z, -⟩ <;> omega⟩
/-- one event more is through -/
theorem ClI.nxt {W X : Nat → Nat} {EL : List Nat} {i dd : Nat} (h : ClI W X EL i dd) (hd : dd = 0 → i < EL.length → DnE X (EL.getD i 0)) : ClI W X EL (i + 1) dd := by
  obtain ⟨h1, h0, h2⟩ := h
  refine ⟨h1, h0, h2.imp id (fun ⟨a, b, c, e⟩ => ⟨a, b, c, fun ev hev hp => ?_⟩)⟩
  rcases e ev hev hp with ⟨j, j1, j2, j3⟩ | z
  · by_cases hj : j = i
    · subst hj
      rw [← j3]
      exact Or.inr (hd a j2)
    · exact Or.inl ⟨j, by omega, j2, j3⟩
  · exact Or.inr z
theorem ClI.clo {W X : Nat → Nat} {EL : List Nat} {i : Nat} (h : ClI W X EL i 0) (hX : ∀ c, c < 81 → X c < 512) (hi : EL.length ≤ i) : Undead X ∧ ClosedI X := by
  rcases h.2.2 with ⟨h, -⟩ | ⟨-, hU, -, hP⟩
  · cases h
  · refine ⟨hU, dn_clo hX (fun ev hev hp => ?_)⟩
    rcases hP ev hev hp with ⟨j, j1, j2, -⟩ | z
    · omega
    · exact z
theorem ClI.one {W X : Nat → Nat} {EL : List Nat} {i : Nat} (h : ClI W X EL i 0) (hX : ∀ c, c < 81 → X c < 512) (hi : i < EL.length) : EL.getD i 0 < 324 ∧ pop9 (evB X (EL.getD i 0)) = 1 := by
  rcases h.2.2 with ⟨h, -⟩ | ⟨-, hU, hE, -⟩
  · cases h
  · have a1 := hE.2 i hi
    refine ⟨a1.1, ?_⟩
    have a2 := und_ev.1 hU _ a1.1
    have a3 : pop9 (evB X (EL.getD i 0)) ≠ 0 := fun z => a2 (pop0 ⟨_, evB_lt hX _⟩ z)
    omega
/-- a board that was made by taking nodes away -/
def drF (Y : Nat → Nat) (lg : List Nat) : Nat → Nat := lg.foldl xoA Y
def HsL (Y : Nat → Nat) (lg : List Nat) : Prop := ∀ i, i < lg.length → lg.getD i 0 < 729 ∧ hasN (drF Y (lg.take i)) (lg.getD i 0) = 1
theorem drF_app (Y : Nat → Nat) (lg : List Nat) (n : Nat) : drF Y (lg ++ [n]) = xoA (drF Y lg) n := by
  unfold drF
  rw [List.foldl_append]
  rfl
theorem HsL.nil (Y : Nat → Nat) : HsL Y [] := fun i h => absurd h (Nat.not_lt_zero _)
theorem HsL.app {Y : Nat → Nat} {lg : List Nat} {n : Nat} (h : HsL Y lg) (hn : n < 729) (hh : hasN (drF Y lg) n = 1) : HsL Y (lg ++ [n]) := fun i hi => by
  rw [List.length_append] at hi
  have e1 : [n].length = 1 := rfl
  by_cases h1 : i < lg.length
  · rw [gD_l h1, List.take_append_of_le_length (by omega)]
    exact h i h1
  · have h2 : i = lg.length := by omega
    rw [h2, gD_x, List.take_append_of_le_length (Nat.le_refl _), List.take_length]
    exact ⟨hn, hh⟩
theorem HsL.take {Y : Nat → Nat} {lg : List Nat} (h : HsL Y lg) (m : Nat) : HsL Y (lg.take m) := fun i hi => by
  rw [List.length_take] at hi
  rw [getD_take (by omega), List.take_take, Nat.min_eq_left (by omega)]
  exact h i (by omega)
theorem drF_sub {Y : Nat → Nat} {lg : List Nat} (h : HsL Y lg) : ∀ r, r ≤ lg.length → SubB (drF Y lg) (drF Y (lg.take (lg.length - r))) := by
  intro r
  induction r with
  | zero =>
    intro _
    rw [Nat.sub_zero, List.take_length]
    exact fun c _ i hi => hi
  | succ r ih =>
    intro hr c hc i hi
    have h1 := ih (by omega) c hc i hi
    have h2 := h (lg.length - (r + 1)) (by omega)
    have h3 : lg.take (lg.length - r) = lg.take (lg.length - (r + 1)) ++ [lg.getD (lg.length - (r + 1)) 0] := by
      have h4 : lg.length - r = lg.length - (r + 1) + 1 := by omega
      rw [h4, List.take_add_one]
      congr 1
      rw [List.getD_eq_getElem?_getD, List.getElem?_eq_getElem (by omega)]
      rfl
    rw [h3, drF_app] at h1
    exact xo_sub h2.2 c hc i h1
theorem HsL.sub {Y : Nat → Nat} {lg : List Nat} (h : HsL Y lg) {m : Nat} (hm : m ≤ lg.length) : SubB (drF Y lg) (drF Y (lg.take m)) := by
  have := drF_sub h (lg.length - m) (by omega)
  rw [show lg.length - (lg.length - m) = m by omega] at this
  exact this
theorem HsL.sub2 {Y : Nat → Nat} {lg r : List Nat} (h : HsL Y (lg ++ r)) : SubB (drF Y (lg ++ r)) (drF Y lg) := by
  have := h.sub (m := lg.length) (by rw [List.length_append]; omega)
  rw [List.take_append_of_le_length (Nat.le_refl _), List.take_length] at this
  exact this
theorem xo_cnt {X : Nat → Nat} {n : Nat} (hX : ∀ c, c < 81 → X c < 512) (hn : n < 729) (hh : hasN X n = 1) : cntX (xoA X n) + 1 = cntX X := by
  refine (sumN_upd (f := fun c => pop9 (X c)) (g := fun c => pop9 (xoA X n c)) (j := n / 9) (k := 1) 81 (by omega) (fun c _ hne => ?_) ?_).symm
  · unfold xoA
    rw [if_neg hne]
  · unfold xoA
    rw [if_pos rfl]
    exact (pop_xor (hX _ (by omega)) (by omega) ((hasN_tb X n).1 hh)).symm
theorem xo_lt {X : Nat → Nat} {n : Nat} (hX : ∀ c, c < 81 → X c < 512) : ∀ c, c < 81 → xoA X n c < 512 := fun c hc => by
  unfold xoA
  by_cases h : c = n / 9
  · rw [if_pos h]
    exact xor_lt2 (k := 9) (hX c hc) (by have : 2 ^ (n % 9) ≤ 2 ^ 8 := Nat.pow_le_pow_right (by decide) (by omega)
                                         omega)
  · rw [if_neg h]
    exact hX c hc
theorem HsL.cnt {Y : Nat → Nat} {lg : List Nat} (h : HsL Y lg) (hY : ∀ c, c < 81 → Y c < 512) : ∀ m, m ≤ lg.length → cntX (drF Y (lg.take m)) + m = cntX Y ∧ ∀ c, c < 81 → drF Y (lg.take m) c < 512 := by
  intro m
  induction m with
  | zero => intro _; rw [List.take_zero]; exact ⟨Nat.add_zero _, hY⟩
  | succ m ih =>
    intro hm
    have h1 := ih (by omega)
    have h2 := h m (by omega)
    have h3 : lg.take (m + 1) = lg.take m ++ [lg.getD m 0] := by
      rw [List.take_add_one]
      congr 1
      rw [List.getD_eq_getElem?_getD, List.getElem?_eq_getElem (by omega)]
      rfl
    rw [h3, drF_app]
    have h4 := xo_cnt h1.2 h2.1 h2.2
    exact ⟨by omega, xo_lt h1.2⟩
theorem HsL.all {Y : Nat → Nat} {lg : List Nat} (h : HsL Y lg) (hY : ∀ c, c < 81 → Y c < 512) : cntX (drF Y lg) + lg.length = cntX Y ∧ ∀ c, c < 81 → drF Y lg c < 512 := by
  have := h.cnt hY lg.length (Nat.le_refl _)
  rw [List.take_length] at this
  exact this
theorem und_dr {Y : Nat → Nat} {lg : List Nat} : ∀ r, r ≤ lg.length → undJ (drF Y lg) lg r = drF Y (lg.take (lg.length - r)) := by
  intro r
  induction r with
  | zero =>
    intro _
    rw [Nat.sub_zero, List.take_length]
    rfl
  | succ r ih =>
    intro hr
    have h3 : lg.take (lg.length - r) = lg.take (lg.length - (r + 1)) ++ [lg.getD (lg.length - (r + 1)) 0] := by
      have h4 : lg.length - r = lg.length - (r + 1) + 1 := by omega
      rw [h4, List.take_add_one]
      congr 1
      rw [List.getD_eq_getElem?_getD, List.getElem?_eq_getElem (by omega)]
      rfl
    show xoA (undJ (drF Y lg) lg r) (lg.getD (lg.length - 1 - r) 0) = _
    rw [ih (by omega), h3, drF_app, show lg.length - 1 - r = lg.length - (r + 1) by omega, xoA_xoA]
