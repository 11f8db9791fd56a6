section SIMP3
variable {base : Nat} {ad : Nat → Nat} {D : va_G} {cI cJ : ClassId} {p : Program} {l : Launch} {e : Env} {R : Room} {s : State} {m : MethodId} {args : Array Value} {below : List Frame} {meth : Method} {c : Code} {Q : State → Prop} {k d mc ms nL pc pc' len a b cc w cells slots : Nat} {ls ls' : LoA} {st st' : List AV} {h h' : HP}
theorem ad_top (hA : ∀ q, ad (q + EXN) = base + q) {H : Heap} {locs : List Loc} (hR : REL base ad D cI cJ s h H locs) : ad h.1 = H.size := by
  have h1 := hA (h.1 - EXN)
  have h2 := hR.1
  have h3 := hR.2.1
  rw [show h.1 - EXN + EXN = h.1 by omega] at h1
  omega
theorem rel_push {H H1 : Heap} {locs : List Loc} {cl : LK} {z : Nat} (hR : REL base ad D cI cJ s h H locs) (hz : H1.size = H.size + 1) (ho : ∀ q : Nat, q < H.size → H1[q]? = H[q]?)
    (he : va_at D vwCl (ad h.1, cellA ad cI cJ (upT h.2.2.1 h.1 cl) (upM h.2.2.2 h.1) h.1) H1) : REL base ad D cI cJ s (h.1 + 1, h.2.1 + z, upT h.2.2.1 h.1 cl, upM h.2.2.2 h.1) H1 locs := by
  obtain ⟨hE, hsz, hP, hS, hX⟩ := hR
  have tT : ∀ q, q < h.1 → upT h.2.2.1 h.1 cl q = h.2.2.1 q := fun q hq => if_neg (by omega)
  have tM : ∀ q, q < h.1 → upM h.2.2.2 h.1 q = h.2.2.2 q := fun q hq => funext fun j => if_neg (by omega)
  refine ⟨by show EXN ≤ h.1 + 1; omega, by show H1.size + EXN = base + (h.1 + 1); omega, ?_, ⟨Nat.le_trans hS.1 (by omega), fun q h1 h2 => (ho q (Nat.lt_of_lt_of_le h1 hS.1)).trans (hS.2.1 q h1 h2), hS.2.2⟩, fun q hq => ?_⟩
  · rw [← wsA_push (z := h.2.1 + z) hE tT tM]
    refine (hP.kept (fun q y hy => ho y.1 (hP q y hy).lt)).app (fun q y hy => ?_)
    match q, hy with
    | 0, hy => cases hy; exact he
    | q + 1, hy => cases hy
  · obtain ⟨n, h1, h2⟩ := hX q hq
    refine ⟨n, (tT q (by omega)).trans h1, ?_⟩
    show va_T .int (ad q) n (fun j => .int (Int32.ofInt (upM h.2.2.2 h.1 q (j : Int)))) (ARg base) s s.heap
    rw [tM q (by omega)]
    exact h2
theorem upM_self (M : Nat → Int → Int) (n : Nat) : upM M n n = fun _ => 0 := funext fun _ => if_pos rfl
theorem ga_new {x0 : Nat} (C : CTX base ad D cI cJ p R s m args meth c k d mc ms) (hk : k < nm) (he : cd k pc = some (.new x0, len, a, b, cc, w)) (hs : newA (pc + 3) ls st h (.inr (a, nfl.getD a [])) b = some (pc', ls', st', h')) (hc : cells + (h'.1 - h.1) ≤ mc) (hsl : slots + (h'.2.1 - h.2.1) ≤ ms)
    (kk : GA base ad D cI cJ p l e R s m args below meth c Q nL pc' ls' st' h' (cells + (h'.1 - h.1)) (slots + (h'.2.1 - h.2.1))) : GA base ad D cI cJ p l e R s m args below meth c Q nL pc ls st h cells slots := by
  obtain ⟨hx, hb, hml, hown, hts, hin, hroom, hK, hA, hbs, hZ, hN⟩ := C
  have hdg := ent_1 3 hk he rfl
  obtain ⟨h1, h2⟩ := ent_lnk hk he rfl
  unfold OkL at h2
  rw [h1] at h2
  obtain ⟨Cn, T, hvw, hcl⟩ := h2
  obtain ⟨ty, hty, hnm, hws, hinst, hini, hlen, hdef⟩ := clsOk_all hvw
  have hKn := hK.1 a _ hvw
  unfold newA at hs
  cases hs
  dsimp only at hc hsl kk
  rw [show h.1 + 1 - h.1 = 1 by omega] at hc kk
  rw [show h.2.1 + b - h.2.1 = b by omega] at hsl kk
  intro H locs lc hR hL
  have ht := ad_top hA hR
  refine W.newcK hx hb hown (hts _ hcl) (hts _ hinst) (hts _ hini) rfl hdg (by omega) (by omega) hKn.2.1 rfl fun H1 kC hkC e1 z1 o1 => ?_
  have kk := kk H1 locs lc (rel_push (cl := .inr (a, nfl.getD a [])) (z := b) hR z1 o1 ?_) hL
  · rw [List.map_cons, show cv ad (vR h.1) = .ref H.size from congrArg Value.ref ht] at kk
    exact kk
  · unfold cellA
    rw [show upT h.2.2.1 h.1 (.inr (a, nfl.getD a [])) h.1 = .inr (a, nfl.getD a []) from if_pos rfl, upM_self]
    refine ⟨_, hvw, ?_⟩
    rw [ht]
    exact (u_born ty hts hws hKn hkC e1 hty).to (fun j hj => hdef ad j hj)
theorem clampA_of {z : Int} (h0 : 0 ≤ z) (h1 : z ≤ 67108864) : ¬ Int32.ofInt z < 0 ∧ (Int32.ofInt z).toNatClampNeg = z.toNat := by
  have e1 : (Int32.ofInt z).toInt = z := Int32.toInt_ofInt_of_le (by omega) (by omega)
  refine ⟨fun q => ?_, ?_⟩
  · have q := w32_lt0.mp q
    unfold w32 at q
    omega
  · show (Int32.ofInt z).toInt.toNat = z.toNat
    rw [e1]
theorem newaA_some {t : ArrayType} {dp0 in0 : Bool} (hs : simpA dp0 in0 (.newarray t) a b cc pc ls st h = some (pc', ls', st', h')) : ∃ (z : Int) (r : List AV), st = vI z :: r ∧ 0 ≤ z ∧ z ≤ 67108864 ∧ pc' = pc + 2 ∧ ls' = ls ∧ st' = vR h.1 :: r ∧
    ((t = .int ∧ h' = (h.1 + 1, h.2.1 + z.toNat, upT h.2.2.1 h.1 (.inl (false, z.toNat)), upM h.2.2.2 h.1)) ∨ (t = .long ∧ h' = (h.1 + 1, h.2.1 + z.toNat, upT h.2.2.1 h.1 (.inl (true, z.toNat)), upM h.2.2.2 h.1))) := by
  unfold simpA at hs
  dsimp only at hs
  split at hs
  · split at hs
    · rename_i hz
      split at hs
      · unfold newA at hs
        cases hs
        exact ⟨_, _, rfl, hz.1, hz.2, rfl, rfl, rfl, Or.inl ⟨rfl, rfl⟩⟩
      · unfold newA at hs
        cases hs
        exact ⟨_, _, rfl, hz.1, hz.2, rfl, rfl, rfl, Or.inr ⟨rfl, rfl⟩⟩
      · cases hs
    · cases hs
  · cases hs
theorem ga_newa {t : ArrayType} {dp0 in0 : Bool} (C : CTX base ad D cI cJ p R s m args meth c k d mc ms) (hdg : decode (mt k).2.1 pc = .ok (.newarray t, 2)) (hs : simpA dp0 in0 (.newarray t) a b cc pc ls st h = some (pc', ls', st', h')) (hc : cells + (h'.1 - h.1) ≤ mc) (hsl : slots + (h'.2.1 - h.2.1) ≤ ms)
    (kk : GA base ad D cI cJ p l e R s m args below meth c Q nL pc' ls' st' h' (cells + (h'.1 - h.1)) (slots + (h'.2.1 - h.2.1))) : GA base ad D cI cJ p l e R s m args below meth c Q nL pc ls st h cells slots := by
  obtain ⟨hx, hb, hml, hown, hts, hin, hroom, hK, hA, hbs, hZ, hN⟩ := C
  obtain ⟨z, r, rfl, h0, h1, rfl, rfl, rfl, hq⟩ := newaA_some hs
  obtain ⟨hn0, hn1⟩ := clampA_of h0 h1
  have hb8 : z.toNat * 8 ≤ 536870912 := by omega
  rcases hq with ⟨rfl, rfl⟩ | ⟨rfl, rfl⟩
  · dsimp only at hc hsl kk
    rw [show h.1 + 1 - h.1 = 1 by omega] at hc kk
    rw [show h.2.1 + z.toNat - h.2.1 = z.toNat by omega] at hsl kk
    intro H locs lc hR hL
    have ht := ad_top hA hR
    refine va_newaK (atype := .int) (n := Int32.ofInt z) (rest := r.map (cv ad)) hx hb (hts _ ac_int) rfl hdg rfl hn0 hn1 (by show z.toNat * 4 ≤ _; omega) (by omega) (by omega) rfl fun H1 cA e1 z1 o1 hAr hNm => ?_
    have hcA : cI = cA := Option.some.inj ((hK.2 0 _ rfl).2.symm.trans hNm)
    subst hcA
    have kk := kk H1 locs lc (rel_push (cl := .inl (false, z.toNat)) (z := z.toNat) hR z1 o1 ?_) hL
    · rw [List.map_cons, show cv ad (vR h.1) = .ref H.size from congrArg Value.ref ht] at kk
      exact kk
    · unfold cellA
      rw [show upT h.2.2.1 h.1 (.inl (false, z.toNat)) h.1 = .inl (false, z.toNat) from if_pos rfl, upM_self]
      show H1[ad h.1]? = some _
      rw [ht]
      exact e1
  · dsimp only at hc hsl kk
    rw [show h.1 + 1 - h.1 = 1 by omega] at hc kk
    rw [show h.2.1 + z.toNat - h.2.1 = z.toNat by omega] at hsl kk
    intro H locs lc hR hL
    have ht := ad_top hA hR
    refine va_newaK (atype := .long) (n := Int32.ofInt z) (rest := r.map (cv ad)) hx hb (hts _ ac_long) rfl hdg rfl hn0 hn1 (by show z.toNat * 8 ≤ _; omega) (by omega) (by omega) rfl fun H1 cA e1 z1 o1 hAr hNm => ?_
    have hcA : cJ = cA := Option.some.inj ((hK.2 1 _ rfl).2.symm.trans hNm)
    subst hcA
    have kk := kk H1 locs lc (rel_push (cl := .inl (true, z.toNat)) (z := z.toNat) hR z1 o1 ?_) hL
    · rw [List.map_cons, show cv ad (vR h.1) = .ref H.size from congrArg Value.ref ht] at kk
      exact kk
    · unfold cellA
      rw [show upT h.2.2.1 h.1 (.inl (true, z.toNat)) h.1 = .inl (true, z.toNat) from if_pos rfl, upM_self]
      show H1[ad h.1]? = some _
      rw [ht]
      exact e1
theorem cat_sum (r : List AV) : ((r.map (cv ad)).map fun v => v.category).sum ≤ 2 * r.length := by
  induction r with
  | nil => exact Nat.le_refl _
  | cons v t ih =>
    rw [List.map_cons, List.map_cons, List.sum_cons, List.length_cons]
    have h1 : (cv ad v).category ≤ 2 := by rcases lv_cat (cv ad v) with q | q <;> omega
    omega
end SIMP3
