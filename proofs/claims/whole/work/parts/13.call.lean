/-! A CALL of the abstract machine is a call of the machine -/
def wsK (k : Nat) : List Cond := Cond.code (mt k).1 (mt k).2.1 (mt k).2.2.1 (mt k).2.2.2.1 :: lw_G
def rmA (d mc ms : Nat) : Room := { frames := d, cells := mc, slots := ms, locals := 64 * d }
def PcA (base : Nat) (ad : Nat → Nat) (D : va_G) (cI cJ : ClassId) (as : List AV) (h : HP) : Array Value → State → Prop := fun v U => v = (as.map (cv ad)).toArray ∧ EXN ≤ h.1 ∧ U.heap.size + EXN = base + h.1 ∧ va_P D vwCl (wsA ad cI cJ h) U.heap ∧ va_K D vwCl [(cI, .int), (cJ, .long)] U ∧ EXT base ad h U ∧ (∀ a, 1 ≤ a → a < EXN → va_Z (stn a).1 (stn a).2 "[I" (.ref (ad a)) (ARg base) U U.heap) ∧ ∀ w ∈ nests, va_Nw w U
def QcA (base : Nat) (ad : Nat → Nat) (D : va_G) (cI cJ : ClassId) (r : Option AV) (h' : HP) : Array Value → State → Outcome → State → Prop := fun _ st o t => o = .returned (r.map (cv ad)) ∧ t.heap.size + EXN = base + h'.1 ∧ va_P D vwCl (wsA ad cI cJ h') t.heap ∧ ∀ q, q < base → t.heap[q]? = st.heap[q]?
theorem good_G {w : Cond} (h : w ∈ lw_G) : (w.onTables && w.keeps) = true ∨ ∃ ty, w = .arrayClass ty := good_of_word (List.mem_filter.mp h).2
theorem goodK {k : Nat} (hk : k < nmM) : GoodIn lw_G (wsK k) := by
  intro w hw
  rcases List.mem_cons.mp hw with rfl | hw
  · exact ⟨(okM_all k hk).1, good_G (okM_all k hk).1⟩
  · exact ⟨hw, good_G hw⟩
theorem nests_warm {s U : State} (hW : s.WarmedH U.vm) (hN : ∀ w ∈ nests, va_Nw w s) : ∀ w ∈ nests, va_Nw w U := by
  intro w hw
  have h1 := hN w hw
  have h2 : ∃ (a : String) (i : Nat) (y : MethodName) (b : String), w = .methodLinkNest a i y b := by
    revert w
    simp only [nests, List.forall_mem_cons]
    refine ⟨fun _ => ⟨_, _, _, _, rfl⟩, fun _ => ⟨_, _, _, _, rfl⟩, fun _ => ⟨_, _, _, _, rfl⟩, fun _ => ⟨_, _, _, _, rfl⟩, fun _ => ⟨_, _, _, _, rfl⟩, fun _ => ⟨_, _, _, _, rfl⟩, fun _ => ⟨_, _, _, _, rfl⟩, fun w hw => by cases hw⟩
  obtain ⟨a, i, y, b, rfl⟩ := h2
  exact va_Nw.warmM hW h1
section CALL
variable {base : Nat} {ad : Nat → Nat} {D : va_G} {cI cJ : ClassId} {p : Program} {l : Launch} {e : Env} {R : Room} {s : State} {m : MethodId} {args : Array Value} {below : List Frame} {meth : Method} {c : Code} {Q : State → Prop} {k k' d mc ms nL pc len a b cc w cells slots : Nat} {ls : LoA} {st as rest : List AV} {h h1 : HP} {r1 : Option AV}
theorem pc_blind : FrameBlind (PcA base ad D cI cJ as h) := by
  intro v U g mk hp
  obtain ⟨q1, q2, q3, q4, q5, q6, q7, q8⟩ := hp
  refine ⟨q1, q2, q3, q4, va_K.moved (u := U) (U := U.calling g mk v) (Vm.Alike.refl U.vm) q5, fun y hy => ?_, fun y y1 y2 => ?_, fun w hw => ?_⟩
  · obtain ⟨n, z1, z2⟩ := q6 y hy
    exact ⟨n, z1, va_T.moved (u := U) (U := U.calling g mk v) (Vm.Alike.refl U.vm) z2⟩
  · exact va_Z.moved (u := U) (U := U.calling g mk v) (Vm.Alike.refl U.vm) (q7 y y1 y2)
  · have h2 : ∃ (a : String) (i : Nat) (y : MethodName) (b : String), w = .methodLinkNest a i y b := by
      revert w
      simp only [nests, List.forall_mem_cons]
      refine ⟨⟨_, _, _, _, rfl⟩, ⟨_, _, _, _, rfl⟩, ⟨_, _, _, _, rfl⟩, ⟨_, _, _, _, rfl⟩, ⟨_, _, _, _, rfl⟩, ⟨_, _, _, _, rfl⟩, ⟨_, _, _, _, rfl⟩, fun w hw => by cases hw⟩
    obtain ⟨a, i, y, b, rfl⟩ := h2
    exact va_Nw.same rfl rfl (q8 _ hw)
theorem pc_at {H : Heap} {locs : List Loc} (C : CTX base ad D cI cJ p R s m args meth c k d mc ms) (hR : REL base ad D cI cJ s h H locs) : ∀ U : State, U.heap = H → s.WarmedH U.vm → PcA base ad D cI cJ as h (as.map (cv ad)).toArray U := by
  obtain ⟨hx, hb, hml, hown, hts, hin, hroom, hK, hA, hbs, hZ, hN⟩ := C
  obtain ⟨hE, hsz, hP, hS, hX⟩ := hR
  intro U hU hW
  refine ⟨rfl, hE, by rw [hU]; exact hsz, by rw [hU]; exact hP, va_K.moved hW.alike hK, fun y hy => ?_, fun y y1 y2 => ?_, nests_warm hW hN⟩
  · obtain ⟨n, z1, z2⟩ := hX y hy
    refine ⟨n, z1, ?_⟩
    rw [hU]
    exact va_T.moved hW.alike (z2.kept (fun q hq1 hq2 => hS.2.1 q hq1 hq2))
  · rw [hU]
    exact va_Z.moved hW.alike ((hZ y y1 y2).kept (fun q hq1 hq2 => hS.2.1 q hq1 hq2))
/-- behind a call -/
theorem ga_back {mc' ms' : Nat} {H : Heap} {locs : List Loc} {lc : Array Slot} {st0 : List Value} {av : Array Value} (hbs : base ≤ s.heap.size) (hR : REL base ad D cI cJ s h H locs) (hL : LRA ad nL ls lc) (hm : MON h h1)
    (hr : va_Run p l e R s m args below meth c H locs cells slots mc' ms' (F0 m pc lc st0) (rest.map (cv ad)) (QcA base ad D cI cJ r1 h1 av) (ARg base))
    (kk : GA base ad D cI cJ p l e R s m args below meth c Q nL (pc + 3) ls (r1.toList ++ rest) h1 (cells + mc') (slots + ms')) : W p l e R s m args below meth c H locs cells slots Q (F0 m pc lc st0) := by
  obtain ⟨hE, hsz, hP, hS, hX⟩ := hR
  intro T hT X
  obtain ⟨v, st₀, t, T', L, h0, X', hLf, e1, e2, ⟨hv, hz, hP1, hfr⟩, sg⟩ := hr T hT X
  cases hv
  have hk := hm.1
  have hrel : REL base ad D cI cJ s h1 T'.heap (locs ++ L) := by
    refine ⟨Nat.le_trans hE hk, by rw [e1]; exact hz, by rw [e1]; exact hP1, ⟨?_, fun q q1 q2 => ?_, fun q hq => ?_⟩, fun y hy => ?_⟩
    · have := hS.1
      rw [e1]
      omega
    · have q3 : q < base := Nat.lt_of_not_le q2
      rw [e1, hfr q q3, h0]
      exact hS.2.1 q q1 q2
    · rcases List.mem_append.mp hq with z | z
      · exact hS.2.2 q z
      · exact hLf q z
    · obtain ⟨n, z1, z2⟩ := hX y hy
      have z3 := hm.2.2 y hy
      refine ⟨n, z3.1.trans z1, ?_⟩
      rw [z3.2]
      exact z2
  obtain ⟨t2, a1, b1⟩ := kk T'.heap (locs ++ L) lc hrel hL T' rfl X'
  refine ⟨t2, sg t2 ?_, b1⟩
  have e9 : (r1.map (cv ad)).toList ++ rest.map (cv ad) = (r1.toList ++ rest).map (cv ad) := by
    rw [List.map_append]
    cases r1 <;> rfl
  rw [e9]
  exact a1
theorem split_st (hn : (st.take b).length = b) {y : List AV} (hd : st.drop b = y) : st.map (cv ad) = ((st.take b).reverse.map (cv ad)).reverse ++ y.map (cv ad) ∧ ((st.take b).reverse.map (cv ad)).length = b := by
  refine ⟨?_, by rw [List.length_map, List.length_reverse]; exact hn⟩
  rw [← List.map_reverse, List.reverse_reverse, ← hd, ← List.map_append, List.take_append_drop]
theorem ga_call {i : Jvm.ClassFile.Instr} (C : CTX base ad D cI cJ p R s m args meth c k (d + 1) mc ms) (hnL : nL = (mt k).2.2.1) (hk : k < nm) (he : cd k pc = some (i, len, a, b, cc, w)) (hcall : callA i a b st h = some (k', as, rest)) (hm : MON h h1) (hc : cells + (h1.1 - h.1) ≤ mc) (hsl : slots + (h1.2.1 - h.2.1) ≤ ms)
    (hM : k' < nmM → Met l (mt k').1 (wsK k') (rmA d (h1.1 - h.1) (h1.2.1 - h.2.1)) (PcA base ad D cI cJ as h) (QcA base ad D cI cJ r1 h1) (h1.1 - h.1) (h1.2.1 - h.2.1) (ARg base))
    (kk : GA base ad D cI cJ p l e R s m args below meth c Q nL (pc + 3) ls (r1.toList ++ rest) h1 (cells + (h1.1 - h.1)) (slots + (h1.2.1 - h.2.1))) : GA base ad D cI cJ p l e R s m args below meth c Q nL pc ls st h cells slots := by
  have C0 := C
  obtain ⟨hx, hb, hml, hown, hts, hin, hroom, hK, hA, hbs, hZ, hN⟩ := C0
  have hcs := cat_sum (ad := ad) rest
  cases i with
  | invokevirtual x0 =>
    have hdg := ent_1 3 hk he rfl
    obtain ⟨g1, g2⟩ := ent_lnk hk he rfl
    unfold OkL at g2
    rw [g1] at g2
    obtain ⟨ha, hna, hkd, hlk, q0, hq0, hq1⟩ := g2
    have inv : ∃ (r : Nat) (fs : List (Option (Option Nat))), k' = a ∧ as = vR r :: (st.take b).reverse ∧ st.drop b = vR r :: rest ∧ (st.take b).length = b ∧ rest.length ≤ 4 ∧ EXN ≤ r ∧ r < h.1 ∧ h.2.2.1 r = .inr ((mt a).2.2.2.2.2.2, fs) := by
      unfold callA at hcall
      dsimp only at hcall
      split at hcall
      · rename_i hdr
        split at hcall
        · rename_i hq
          split at hcall
          · rename_i hT
            split at hcall
            · rename_i hci
              cases hcall
              exact ⟨_, _, rfl, rfl, hdr, hq.1, hq.2.1, hq.2.2.1, hq.2.2.2, by rw [hT, hci]⟩
            · cases hcall
          · cases hcall
        · cases hcall
      · cases hcall
    obtain ⟨r, fs, rfl, rfl, hdr, hn, hr4, hr1, hr2, hT⟩ := inv
    have hM := hM ha
    obtain ⟨o1, o2, o3, o4, o5, o6, o7⟩ := okM_all k' ha
    have o7 : Cond.instanceMethod (mt k').1 ∈ lw_G ∧ Cond.selects (mt k').1.cls (mt k').1 (mt k').1 ∈ lw_G := by
      rcases o7 with z | z | z
      · exact z.2
      · have := z.1; omega
      · have := z.1; omega
    intro H locs lc hR hL
    obtain ⟨e1, e2⟩ := split_st (ad := ad) hn hdr
    rw [e1]
    have hat : (wsA ad cI cJ h)[r - EXN]? = some (ad r, .inr ((mt k').2.2.2.2.2.2, fvA ad (h.2.2.2 r) fs)) := by
      rw [wsA_at hr1 hr2]
      unfold cellA
      rw [hT]
    refine ga_back hbs hR hL hm (va_runV (C := (mt k').1.cls) (b := ad r) (As := (st.take b).reverse.map (cv ad)) (rest := rest.map (cv ad)) (n := b) ⟨hx, hb, hml, hown, hts⟩ hM (cwV b hts ?_ rfl rfl rfl ⟨rfl, o4.2.1, o4.2.2, by rw [o5, hna]⟩ ⟨by show d + 1 ≤ _; omega, by show 8 + ((mt k').2.2.1 + 11) + 64 * d ≤ _; omega⟩) ⟨pc_blind, ?_, ?_⟩ rfl e2 (hL.1.trans hnL) rfl (by show 2 * 0 + _ ≤ 8; omega) hdg ⟨by omega, by omega⟩) kk
    · intro w hw
      have hw2 : w ∈ lw_G := by
        unfold wsV at hw
        rcases List.mem_append.mp hw with z | z
        · simp only [List.mem_cons, List.not_mem_nil, or_false] at z
          rcases z with rfl | rfl | rfl | rfl
          · exact hlk
          · exact o7.1
          · exact o7.2
          · exact o2
        · exact (goodK ha w z).1
      exact ⟨hw2, good_G hw2⟩
    · rw [← hq1]
      exact va_recv hK hR.2.2.1 hq0 hat
    · exact pc_at (as := vR r :: (st.take b).reverse) C hR
  | invokestatic x0 =>
    have hdg := ent_1 3 hk he rfl
    have inv : a ≠ 9998 ∧ k' = a ∧ as = (st.take b).reverse ∧ rest = st.drop b ∧ (st.take b).length = b ∧ (st.drop b).length ≤ 4 := by
      unfold callA at hcall
      dsimp only at hcall
      split at hcall
      · cases hcall
      · rename_i h9
        split at hcall
        · rename_i hq
          cases hcall
          exact ⟨h9, rfl, rfl, rfl, hq.1, hq.2⟩
        · cases hcall
    obtain ⟨h9, rfl, rfl, rfl, hn, hr4⟩ := inv
    obtain ⟨g1, g2⟩ := ent_lnk hk he (show lkI (.invokestatic x0) k' = some (x0, 2) by unfold lkI; rw [if_neg h9])
    unfold OkL at g2
    rw [g1] at g2
    obtain ⟨ha, hna, hkd, hlk⟩ := g2
    have hM := hM ha
    obtain ⟨o1, o2, o3, o4, o5, o6, o7⟩ := okM_all k' ha
    have o7 : Cond.static (mt k').1 ∈ lw_G := by
      rcases o7 with z | z | z
      · have := z.1; omega
      · exact z.2
      · have := z.1; omega
    intro H locs lc hR hL
    obtain ⟨e1, e2⟩ := split_st (ad := ad) hn rfl
    rw [e1]
    rcases hlk with ⟨-, hlk⟩ | ⟨-, hlk⟩
    · exact ga_back hbs hR hL hm (va_runS (As := (st.take b).reverse.map (cv ad)) (rest := (st.drop b).map (cv ad)) (n := b) ⟨hx, hb, hml, hown, hts⟩ hM ⟨callB_of b hts (goodK ha) rfl rfl rfl (hts _ o2) (hts _ hlk) ⟨o4.2.1, o4.2.2, by rw [o5, hna]⟩ ⟨by show d + 1 ≤ _; omega, by show 8 + ((mt k').2.2.1 + 11) + 64 * d ≤ _; omega⟩, hts _ o7⟩ ⟨pc_blind, pc_at C hR⟩ rfl e2 (hL.1.trans hnL) rfl (by show 2 * 0 + _ ≤ 8; omega) hdg ⟨by omega, by omega⟩) kk
    · exact ga_back hbs hR hL hm (va_runSN (As := (st.take b).reverse.map (cv ad)) (rest := (st.drop b).map (cv ad)) (n := b) ⟨hx, hb, hml, hown, hts⟩ hM ⟨va_cnB b hts (goodK ha) rfl rfl rfl (hN _ hlk) (hts _ o2) ⟨o4.2.1, o4.2.2, by rw [o5, hna]⟩ ⟨by show d + 1 ≤ _; omega, by show 8 + ((mt k').2.2.1 + 11) + 64 * d ≤ _; omega⟩, hts _ o7, trivial⟩ ⟨pc_blind, pc_at C hR⟩ rfl e2 (hL.1.trans hnL) rfl (by show 2 * 0 + _ ≤ 8; omega) hdg ⟨by omega, by omega⟩) kk
  | invokespecial x0 =>
    have hdg := ent_1 3 hk he rfl
    have inv : ∃ r : Nat, a ≠ 9999 ∧ k' = a ∧ as = vR r :: (st.take b).reverse ∧ st.drop b = vR r :: rest ∧ (st.take b).length = b ∧ rest.length ≤ 4 := by
      unfold callA at hcall
      dsimp only at hcall
      split at hcall
      · cases hcall
      · rename_i h9
        split at hcall
        · rename_i hdr
          split at hcall
          · rename_i hq
            cases hcall
            exact ⟨_, h9, rfl, rfl, hdr, hq.1, hq.2⟩
          · cases hcall
        · cases hcall
    obtain ⟨r, h9, rfl, rfl, hdr, hn, hr4⟩ := inv
    obtain ⟨g1, g2⟩ := ent_lnk hk he (show lkI (.invokespecial x0) k' = some (x0, 3) by unfold lkI; rw [if_neg h9])
    unfold OkL at g2
    rw [g1] at g2
    obtain ⟨ha, hna, hkd, hlk⟩ := g2
    have hM := hM ha
    obtain ⟨o1, o2, o3, o4, o5, o6, o7⟩ := okM_all k' ha
    have o7 : (mt k').1.name = "<init>" ∧ (mt k').2.2.2.1 = none ∧ Cond.instanceMethod (mt k').1 ∈ lw_G := by
      rcases o7 with z | z | z
      · have := z.1; omega
      · have := z.1; omega
      · exact z.2
    have hw0 : wsK k' = Cond.code (mt k').1 (mt k').2.1 (mt k').2.2.1 none :: lw_G := by unfold wsK; rw [o7.2.1]
    intro H locs lc hR hL
    obtain ⟨e1, e2⟩ := split_st (ad := ad) hn hdr
    rw [e1]
    rcases hlk with ⟨-, hlk⟩ | ⟨-, hlk⟩
    · exact ga_back hbs hR hL hm (va_runI (b := ad r) (As := (st.take b).reverse.map (cv ad)) (rest := rest.map (cv ad)) (n := b) ⟨hx, hb, hml, hown, hts⟩ hM ⟨callB_of b hts (goodK ha) hw0 rfl rfl (hts _ o2) (hts _ hlk) ⟨o4.2.1, o4.2.2, by rw [o5, hna]⟩ ⟨by show d + 1 ≤ _; omega, by show 8 + ((mt k').2.2.1 + 11) + 64 * d ≤ _; omega⟩, o7.1, hts _ o7.2.2⟩ ⟨pc_blind, pc_at (as := vR r :: (st.take b).reverse) C hR⟩ rfl e2 (hL.1.trans hnL) rfl (by show 2 * 0 + _ ≤ 8; omega) hdg ⟨by omega, by omega⟩) kk
    · exact ga_back hbs hR hL hm (va_runIN (b := ad r) (As := (st.take b).reverse.map (cv ad)) (rest := rest.map (cv ad)) (n := b) ⟨hx, hb, hml, hown, hts⟩ hM ⟨va_cnB b hts (goodK ha) hw0 rfl rfl (hN _ hlk) (hts _ o2) ⟨o4.2.1, o4.2.2, by rw [o5, hna]⟩ ⟨by show d + 1 ≤ _; omega, by show 8 + ((mt k').2.2.1 + 11) + 64 * d ≤ _; omega⟩, o7.1, hts _ o7.2.2⟩ ⟨pc_blind, pc_at (as := vR r :: (st.take b).reverse) C hR⟩ rfl e2 (hL.1.trans hnL) rfl (by show 2 * 0 + _ ≤ 8; omega) hdg ⟨by omega, by omega⟩) kk
  | _ => cases hcall
end CALL
