/-! the solver: tryNext, begin, forget -/
theorem evB_congr {A B : Nat → Nat} (h : ∀ c, c < 81 → A c = B c) {ev : Nat} (hev : ev < 324) : evB A ev = evB B ev := by
  rcases ev_split hev with h1 | ⟨p, e, ⟨h1, h2⟩, rfl⟩
  · rw [evB_c h1, evB_c h1, h ev h1]
  · rw [evB_p h2, evB_p h2, plH_congr h1 h]
theorem und_congr {A B : Nat → Nat} (h : ∀ c, c < 81 → A c = B c) (hU : Undead A) : Undead B := und_ev.2 (fun ev hev => by
  rw [← evB_congr h hev]
  exact und_ev.1 hU ev hev)
theorem clo_congr {A B : Nat → Nat} (h : ∀ c, c < 81 → A c = B c) (hB : ∀ c, c < 81 → B c < 512) (hC : ClosedI A) : ClosedI B := dn_clo hB (fun ev hev hp => (clo_dn (fun c hc => by rw [h c hc]; exact hB c hc) hC hev (by rw [evB_congr h hev]; exact hp)).mono (fun c hc i hi => by rw [h c hc]; exact hi))
theorem lbv : ∀ v : Fin 512, v.val ≠ 0 → b32 (fun x y => x &&& y) ((v.val : Nat) : Int) (w32 (-((v.val : Nat) : Int))) = ((2 ^ lbN v.val 0 : Nat) : Int) := by decide +kernel
theorem lbx : ∀ (x : Fin 512) (t : Fin 10), x.val / 2 ^ t.val ≠ 0 → lbN (x.val / 2 ^ t.val * 2 ^ t.val) 0 = lbN x.val t.val ∧ (x.val / 2 ^ t.val * 2 ^ t.val) ^^^ 2 ^ lbN x.val t.val = x.val / 2 ^ (lbN x.val t.val + 1) * 2 ^ (lbN x.val t.val + 1) := by decide +kernel
theorem tryF_eq {b en tr tp nf : Nat} {F : Nat → (Nat → Nat) × Nat × Nat} {Sv : Nat → Nat → Nat} {B : Nat → Nat} {cl tt : Nat} (h : F tp = (B, cl, tt)) : tryF (b, en, tr, tp + 1, nf, F, Sv) = leaveF (meetF (fun c => if c = cl then 2 ^ lbN (B cl) tt else B c) (b, en, tr + 1, tp + 1, nf, fun j => if j = tp then (B, cl, lbN (B cl) tt + 1) else F j, Sv)) := by
  unfold tryF
  dsimp only
  simp only [Nat.add_sub_cancel, h]
theorem StkAt.app {M : MT} {Y : Nat → Nat} {lg : List Nat} {dep : Nat} {F : Nat → (Nat → Nat) × Nat × Nat} (h : StkAt M Y lg dep F) (r : List Nat) : StkAt M Y (lg ++ r) dep F := by
  obtain ⟨mk, h1, h2⟩ := h
  refine ⟨mk, fun i hi => ?_, h2⟩
  have := h1 i hi
  rw [List.take_append_of_le_length this.2.1]
  exact ⟨this.1, by rw [List.length_append]; omega, this.2.2⟩
theorem NmAt.fr {M M' : MT} {S : SrS} (h : NmAt M S) (h1 : ∀ i : Int, 8 ≤ i → M' 45 i = M 45 i) : NmAt M' S := by
  unfold NmAt
  rw [h1 9 (by decide), h1 10 (by decide), h1 11 (by decide), h1 8 (by decide), h1 12 (by decide)]
  exact h
theorem fw_s1 {X : Nat → Nat} (h : 0 ≤ fwN X 81) : s1N X < 81 := by
  have h1 := fwN_pop X 81 h
  have h2 := fwN_rng X 81
  exact s1N_lt (by omega) h1
theorem c_tryNext {d : Nat} {G : GT} {M : MT} {gv : Nat → Nat} {S : SrS} (hC : ClsG G) (hS : ShpAt M) (hY : ∀ c, c < 81 → fstF gv c < 512) (hR : ClsSr M gv S) (hI : SrI S) (hb : S.1 = 1) (ho : S.2.1 = 0) (ht : S.2.2.1 + 1 ≤ 1000000) : Mq (d + 6) k_X5_tryNext [vR 45] G M (fun z M' => z = none ∧ ClsSr M' gv (tryF S) ∧ ∀ a, (a < 45 ∨ 54 < a) → M' a = M a) := by
  obtain ⟨bg, en, tr, dp, nf, F, Sv⟩ := S
  have hb : bg = 1 := hb
  have ho : en = 0 := ho
  subst hb ho
  obtain ⟨⟨n9, n10, n11, n8, n12⟩, hA, -, hR⟩ := hR
  obtain ⟨lg, hB, hH, mk, m1, m2⟩ := hR rfl
  dsimp only at n9 n10 n11 n8 n12 hA m1 m2 ht
  obtain ⟨hOk, -, hI2, hI3⟩ := hI
  obtain ⟨i1, i2, i3⟩ := hI2 rfl rfl
  dsimp only at hOk i1 i2 i3 hI3
  obtain ⟨tp, rfl⟩ : ∃ tp, dp = tp + 1 := ⟨dp - 1, by omega⟩
  rw [Nat.add_sub_cancel] at i3
  obtain ⟨⟨B, cl, tt⟩, hFt⟩ : ∃ z, F tp = z := ⟨_, rfl⟩
  have k1 := hOk.2.2.2.2.2 tp (Nat.lt_succ_self tp)
  have k2 := hI3 tp (Nat.lt_succ_self tp)
  have k3 := m1 tp (Nat.lt_succ_self tp)
  dsimp only at k1 k2 k3
  rw [hFt] at i3 k1 k2 k3
  dsimp only at i3 k1 k2 k3
  have ok4 : tp + 1 ≤ 81 := hOk.2.2.2.1
  have hcl := k1.2.1
  have hBc := k1.1 cl hcl
  obtain ⟨v, hv⟩ : ∃ v, v = B cl / 2 ^ tt * 2 ^ tt := ⟨_, rfl⟩
  obtain ⟨lb, hlb⟩ : ∃ lb, lb = lbN (B cl) tt := ⟨_, rfl⟩
  obtain ⟨v2, hv2⟩ : ∃ v2, v2 = B cl / 2 ^ (lb + 1) * 2 ^ (lb + 1) := ⟨_, rfl⟩
  have hv5 : v < 512 := by rw [hv]; exact Nat.lt_of_le_of_lt (Nat.div_mul_le_self _ _) hBc
  have hv0 : v ≠ 0 := fun z => i3 (div_mul0.1 (hv.symm.trans z))
  have hx := lbx ⟨B cl, hBc⟩ ⟨tt, by omega⟩ i3
  dsimp only at hx
  rw [← hlb, ← hv, ← hv2] at hx
  have hlow : b32 (fun x y => x &&& y) ((v : Nat) : Int) (w32 (-((v : Nat) : Int))) = ((2 ^ lb : Nat) : Int) := by
    have := lbv ⟨v, hv5⟩ hv0
    dsimp only at this
    rw [hx.1] at this
    exact this
  have hlk := lbF_ok hBc 9 tt i3 (by omega)
  have hlb9 : lb < 9 := by rw [hlb]; exact hlk.1
  have hlbt : (B cl).testBit lb = true := by rw [hlb]; exact (tb_div _ _).2 hlk.2
  have hpl : 2 ^ lb ≤ 2 ^ 8 := Nat.pow_le_pow_right (by decide) (by omega)
  have hmk := k3.2.1
  have ln7 : lg.length ≤ 729 := hB.2.2.1
  have hlg0 : (lg.take (mk tp)).length = mk tp := by rw [List.length_take]; omega
  rw [tryF_eq hFt, ← hlb]
  obtain ⟨W, hW⟩ : ∃ W : Nat → Nat, W = fun c => if c = cl then 2 ^ lb else B c := ⟨_, rfl⟩
  rw [← hW]
  refine wq_s 1 rfl ?_
  refine wq_getE (v := 0) 10 4 rfl rfl (hC.lt (by omega)) (hC.ty 41 _ rfl) rfl rfl n10 ?_
  refine wq_s 7 rfl ?_
  refine wq_s 8 rfl ?_
  refine wq_getE (v := ((tp + 1 : Nat) : Int)) 8 11 rfl rfl (hC.lt (by omega)) (hC.ty 41 _ rfl) rfl rfl n8 ?_
  refine wq_s 12 rfl ?_
  refine wq_icmp 16 rfl rfl (by omega) (by omega) (fun c_12 => ?_) (fun c_12 => ?_)
  · have c_12 := of_decide_eq_true c_12
    refine wq_s 17 rfl ?_
    refine wq_getE (v := ((tp + 1 : Nat) : Int)) 8 20 rfl rfl (hC.lt (by omega)) (hC.ty 41 _ rfl) rfl rfl n8 ?_
    refine wq_s 21 rfl ?_
    refine we_sub ((tp : Nat) : Int) 22 rfl rfl (by omega) (by omega) ?_
    refine wq_s 23 rfl ?_
    refine wq_s 24 rfl ?_
    refine wq_getR 27 rfl rfl (hC.lt (by omega)) (hC.ty 41 _ rfl) rfl ?_
    refine wq_s 28 rfl ?_
    refine wq_getR 31 rfl rfl (hC.lt (by omega)) (hC.ty 41 _ rfl) rfl ?_
    refine wq_s 32 rfl ?_
    refine wq_iald (v := ((mk tp : Nat) : Int)) 33 rfl rfl (hC.lt (by omega)).2 (hC.ty 45 _ rfl) (by omega) (by omega) (by omega) k3.1.2.2 ?_
    refine wq_vt1 36 rfl rfl (Nat.le_of_ble_eq_true rfl) (hC.lt (by omega)) (hC.ty 47 _ rfl) rfl (Nat.le_of_ble_eq_true rfl) (c_X0_undo (b := 51) (m := mk tp) hC hb51 hS hB hmk) (fun r M1 hr => ?_)
    obtain ⟨rfl, hB1, hF1⟩ := hr
    rw [und_dr _ (by omega), show lg.length - (lg.length - mk tp) = mk tp by omega] at hB1
    dsimp only [Option.toList, List.cons_append, List.nil_append]
    refine wq_s 37 rfl ?_
    refine wq_getR 40 rfl rfl (hC.lt (by omega)) (hC.ty 41 _ rfl) rfl ?_
    refine wq_s 41 rfl ?_
    refine wq_iald (v := ((v : Nat) : Int)) 42 rfl rfl (hC.lt (by omega)).2 (hC.ty 44 _ rfl) (by omega) (by omega) (by omega) (by rw [hF1 _ (by decide), hv]; exact k3.1.2.1) ?_
    refine wq_s 43 rfl ?_
    refine wq_getR 46 rfl rfl (hC.lt (by omega)) (hC.ty 41 _ rfl) rfl ?_
    refine wq_s 47 rfl ?_
    refine wq_iald (v := ((v : Nat) : Int)) 48 rfl rfl (hC.lt (by omega)).2 (hC.ty 44 _ rfl) (by omega) (by omega) (by omega) (by rw [hF1 _ (by decide), hv]; exact k3.1.2.1) ?_
    refine wq_s 49 rfl ?_
    refine wq_s 50 rfl ?_
    rw [hlow]
    refine wq_s 51 rfl ?_
    refine wq_s 52 rfl ?_
    refine wq_getR 55 rfl rfl (hC.lt (by omega)) (hC.ty 41 _ rfl) rfl ?_
    refine wq_s 56 rfl ?_
    refine wq_s 57 rfl ?_
    refine wq_iald (v := ((v : Nat) : Int)) 58 rfl rfl (hC.lt (by omega)).2 (hC.ty 44 _ rfl) (by omega) (by omega) (by omega) (by rw [hF1 _ (by decide), hv]; exact k3.1.2.1) ?_
    refine wq_s 59 rfl ?_
    refine we_xor v (2 ^ lb) v2 60 rfl rfl rfl rfl (by omega) (by omega) hx.2 ?_
    refine wq_iast 61 rfl rfl (hC.lt (by omega)) (hC.ty 44 _ rfl) (by omega) (by omega) (by omega) ?_
    refine wq_s 62 rfl ?_
    refine wq_s 63 rfl ?_
    refine wq_getE (v := ((tr : Nat) : Int)) 11 66 rfl rfl (hC.lt (by omega)) (hC.ty 41 _ rfl) rfl rfl (by rw [up2_row (by decide), hF1 _ (by decide)]; exact n11) ?_
    refine wq_s 67 rfl ?_
    refine we_add ((tr + 1 : Nat) : Int) 68 rfl rfl (by omega) (by omega) ?_
    refine wq_putE 11 71 rfl rfl (hC.lt (by omega)) (hC.ty 41 _ rfl) rfl (by decide) (Or.inl rfl) rfl ?_
    refine wq_s 72 rfl ?_
    refine wq_s 73 rfl ?_
    refine wq_putE 4 76 rfl rfl (hC.lt (by omega)) (hC.ty 41 _ rfl) rfl (by decide) (by decide) rfl ?_
    refine wq_s 77 rfl ?_
    refine wq_s 78 rfl ?_
    refine wq_putE 3 81 rfl rfl (hC.lt (by omega)) (hC.ty 41 _ rfl) rfl (by decide) (Or.inl rfl) rfl ?_
    obtain ⟨M5, hM5⟩ : ∃ M5 : MT, M5 = up2 (up2 (up2 (up2 M1 48 (tp : Int) (v2 : Int)) 45 11 ((tr + 1 : Nat) : Int)) 45 4 0) 45 3 0 := ⟨_, rfl⟩
    have f5 : ∀ a, a ≠ 45 → a ≠ 48 → M5 a = M1 a := fun a h1 h2 => by rw [hM5, up2_row h1, up2_row h1, up2_row h1, up2_row h2]
    have f45 : ∀ i : Int, i ≠ 3 → i ≠ 4 → i ≠ 11 → M5 45 i = M1 45 i := fun i h1 h2 h3 => by rw [hM5, up2_ne (Or.inr h1), up2_ne (Or.inr h2), up2_ne (Or.inr h3), up2_row (by decide)]
    have hB5 : BdAt M5 51 (drF (fstF gv) (lg.take (mk tp))) (lg.take (mk tp)) := hB1.fr (fun a h1 h2 => f5 a (by omega) (by omega))
    have hV5 : SvC M5 (fstF gv) (lg.take (mk tp)) [] 0 := ⟨hB5, hH.take _, by rw [hM5, up2_at]; rfl, by rw [hM5, up2_ne (Or.inr (by decide)), up2_at]; rfl, fun j hj => absurd hj (Nat.not_lt_zero _)⟩
    have hX0 := ((hH.take (mk tp)).all hY).2
    have hI5 : ClI W (drF (fstF gv) (lg.take (mk tp))) [] 0 0 := ClI.top hX0 (und_congr k3.2.2.1 k3.2.2.2.2) (clo_congr k3.2.2.1 hX0 k3.2.2.2.1) (fun c hc i hi => by
      rw [hW] at hi
      dsimp only at hi
      rw [← k3.2.2.1 c hc]
      by_cases hcc : c = cl
      · rw [if_pos hcc, pow_tb] at hi
        rw [hcc, hi]
        exact hlbt
      · rw [if_neg hcc] at hi
        exact hi)
    rw [← hM5]
    refine wq_s 82 rfl ?_
    refine wq_s 83 rfl ?_
    refine wq_getR 86 rfl rfl (hC.lt (by omega)) (hC.ty 41 _ rfl) rfl ?_
    refine wq_s 87 rfl ?_
    refine wq_iald (v := ((cl : Nat) : Int)) 88 rfl rfl (hC.lt (by omega)).2 (hC.ty 43 _ rfl) (by omega) (by omega) (by omega) (by rw [f5 _ (by decide) (by decide), hF1 _ (by decide)]; exact k3.1.1) ?_
    refine wq_s 89 rfl ?_
    refine wq_vt2 92 rfl rfl (Nat.le_of_ble_eq_true rfl) (hC.lt (by omega)) (hC.ty 41 _ rfl) rfl (Nat.le_of_ble_eq_true rfl) (c_keepAlone (d := d + 2) (W := W) (cl := cl) (b := lb) hC (hS.fr ((f5 _ (by decide) (by decide)).trans (hF1 _ (by decide))) ((f5 _ (by decide) (by decide)).trans (hF1 _ (by decide))) ((f5 _ (by decide) (by decide)).trans (hF1 _ (by decide))) ((f5 _ (by decide) (by decide)).trans (hF1 _ (by decide)))) hY hV5 hI5 (Nat.le_refl _) hcl hlb9 (fun Z _ _ z3 y z4 => by
      have := z3 cl hcl y z4
      rw [hW] at this
      dsimp only at this
      rw [if_pos rfl, pow_tb] at this
      exact this)) (fun r M6 hr => ?_)
    obtain ⟨rfl, ⟨lg2, EL2, dd2, g1, g2, -, g4⟩, g5⟩ := hr
    dsimp only [Option.toList, List.cons_append, List.nil_append]
    refine wq_s 93 rfl ?_
    refine wq_vt0 96 rfl rfl (Nat.le_of_ble_eq_true rfl) (hC.lt (by omega)) (hC.ty 41 _ rfl) rfl (Nat.le_of_ble_eq_true rfl) (c_close (d := d) (W := W) hC (g5.shp (hS.fr ((f5 _ (by decide) (by decide)).trans (hF1 _ (by decide))) ((f5 _ (by decide) (by decide)).trans (hF1 _ (by decide))) ((f5 _ (by decide) (by decide)).trans (hF1 _ (by decide))) ((f5 _ (by decide) (by decide)).trans (hF1 _ (by decide))))) hY g1 g2) (fun r M7 hr => ?_)
    obtain ⟨rfl, ⟨lg3, EL3, dd3, i3', p1, p2, p3⟩, p5⟩ := hr
    have hF7 : FrC M5 M7 := g5.trans p5
    rw [List.append_assoc] at p1 p2
    obtain ⟨lx, hlx⟩ : ∃ lx, lx = lg.take (mk tp) ++ (lg2 ++ lg3) := ⟨_, rfl⟩
    have hXf := (p1.2.1.all hY).2
    have hsub : dd3 = 0 → SubB (drF (fstF gv) (lg.take (mk tp) ++ (lg2 ++ lg3))) W := fun h0 => by
      subst h0
      have hU := (p2.clo hXf (p3 rfl)).1
      have hs2 : SubB (drF (fstF gv) (lg.take (mk tp) ++ (lg2 ++ lg3))) (drF (fstF gv) (lg.take (mk tp) ++ lg2)) := by
        have := p1.2.1
        rw [← List.append_assoc] at this ⊢
        exact this.sub2
      have hd2 : dd2 = 0 := by
        rcases g2.2.2 with ⟨_, z⟩ | ⟨z, _⟩
        · exact absurd (hU.mono hs2) z
        · exact z
      intro c hc i hi
      have h7 := (g4 hd2 c i hc).1 (hs2 c hc i hi)
      rw [hW]
      dsimp only
      by_cases hcc : c = cl
      · rw [if_pos hcc, pow_tb]
        exact Classical.byContradiction fun hn => h7.2 ⟨hcc, hn⟩
      · rw [if_neg hcc, k3.2.2.1 c hc]
        exact h7.1
    dsimp only [Option.toList, List.cons_append, List.nil_append]
    refine wq_s 97 rfl ?_
    have hNm : NmAt M7 (1, 0, tr + 1, tp + 1, nf, fun j => if j = tp then (B, cl, lb + 1) else F j, Sv) := by
      refine NmAt.fr (M := M5) ⟨?_, ?_, ?_, ?_, ?_⟩ (fun i hi => hF7.2 i (by omega) (by omega))
      · rw [f45 _ (by decide) (by decide) (by decide), hF1 _ (by decide)]; exact n9
      · rw [f45 _ (by decide) (by decide) (by decide), hF1 _ (by decide)]; exact n10
      · rw [hM5, up2_ne (Or.inr (by decide)), up2_ne (Or.inr (by decide)), up2_at]
      · rw [f45 _ (by decide) (by decide) (by decide), hF1 _ (by decide)]; exact n8
      · rw [f45 _ (by decide) (by decide) (by decide), hF1 _ (by decide)]; exact n12
    have hAn : AnAt M7 nf Sv := hA.fr (by rw [hF7.1 _ (by decide) (by decide) (by decide), f5 _ (by decide) (by decide), hF1 _ (by decide)])
    have hSt : StkAt M7 (fstF gv) (lg.take (mk tp) ++ (lg2 ++ lg3)) (tp + 1) (fun j => if j = tp then (B, cl, lb + 1) else F j) := by
      refine StkAt.app ?_ _
      refine ⟨mk, fun i hi => ?_, m2⟩
      have q1 := m1 i hi
      have q2 := m2 i tp (by omega) (Nat.lt_succ_self tp)
      have q3 : M7 47 = M 47 := by rw [hF7.1 _ (by decide) (by decide) (by decide), f5 _ (by decide) (by decide), hF1 _ (by decide)]
      have q4 : M7 49 = M 49 := by rw [hF7.1 _ (by decide) (by decide) (by decide), f5 _ (by decide) (by decide), hF1 _ (by decide)]
      have q5 : M7 48 (i : Int) = if i = tp then (v2 : Int) else M 48 (i : Int) := by
        rw [hF7.1 _ (by decide) (by decide) (by decide), hM5, up2_row (by decide), up2_row (by decide), up2_row (by decide)]
        by_cases hit : i = tp
        · rw [if_pos hit, hit, up2_at]
        · rw [if_neg hit, up2_ne (Or.inr (by omega)), hF1 _ (by decide)]
      rw [q3, q4, q5, List.take_take, Nat.min_eq_left q2, hlg0]
      dsimp only
      by_cases hit : i = tp
      · rw [if_pos hit, if_pos hit]
        dsimp only
        rw [hit, ← hv2]
        exact ⟨⟨k3.1.1, rfl, k3.1.2.2⟩, Nat.le_refl _, k3.2.2⟩
      · rw [if_neg hit, if_neg hit]
        exact ⟨q1.1, q2, q1.2.2⟩
    have hOk7 : SrOk (1, 0, tr + 1, tp + 1, nf, fun j => if j = tp then (B, cl, lb + 1) else F j, Sv) := by
      refine ⟨Nat.le_refl _, Nat.zero_le _, ht, ok4, hOk.2.2.2.2.1, fun i hi => ?_⟩
      dsimp only
      by_cases hit : i = tp
      · rw [if_pos hit]
        exact ⟨k1.1, hcl, by show lb + 1 ≤ 9; omega⟩
      · rw [if_neg hit]
        exact hOk.2.2.2.2.2 i hi
    refine wq_vt0 100 rfl rfl (Nat.le_of_ble_eq_true rfl) (hC.lt (by omega)) (hC.ty 41 _ rfl) rfl (Nat.le_of_ble_eq_true rfl) (c_settle (d := d + 2) (W := W) (S := (1, 0, tr + 1, tp + 1, nf, fun j => if j = tp then (B, cl, lb + 1) else F j, Sv)) hC hY p1 hNm hAn hSt hOk7 i2 p2.1 (by
      rcases p2.2.2 with z | z
      · exact Or.inl z
      · have h0 := z.1
        subst h0
        have h1 := p2.clo hXf (p3 rfl)
        exact Or.inr ⟨rfl, h1.1, h1.2, hsub rfl⟩) (fun h0 hfw => by
      have h1 := fw_s1 hfw
      have h2 := s1N_mono (hsub h0)
      have h3 := s1N_fix (B := B) (e := lb) hcl k2.2 hlb9
      rw [← hW] at h3
      have h4 := k2.1
      show tp + 1 ≤ 80
      omega)) (fun r M8 hr => ?_)
    obtain ⟨rfl, s1, s2⟩ := hr
    dsimp only [Option.toList, List.cons_append, List.nil_append]
    exact wq_ret rfl ⟨rfl, s1, fun a ha => by rw [s2 a ha, hF7.1 a (by omega) (by omega) (by omega), f5 a (by omega) (by omega), hF1 a (by omega)]⟩
  · have c_12 := of_decide_eq_false c_12
    exact absurd c_12 (by omega)
