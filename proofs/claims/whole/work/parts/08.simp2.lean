section SIMP2
variable {base : Nat} {ad : Nat → Nat} {D : va_G} {cI cJ : ClassId} {p : Program} {l : Launch} {e : Env} {R : Room} {s : State} {m : MethodId} {args : Array Value} {below : List Frame} {meth : Method} {c : Code} {Q : State → Prop} {k d mc ms nL pc pc' len a b cc w cells slots : Nat} {ls ls' : LoA} {st st' : List AV} {h h' : HP}
theorem fvA_at {M : Int → Int} {fs : List (Option (Option Nat))} {j : Nat} {f : Option (Option Nat)} (hf : fs[j]? = some f) : (fvA ad M fs)[j]? = some (fv1 ad (M (j : Int)) f) := by
  unfold fvA
  rw [List.getElem?_mapIdx, hf]
  rfl
theorem fld_lnk {x0 : Nat} (hk : k < nm) {i : Jvm.ClassFile.Instr} (he : cd k pc = some (i, len, a, b, cc, w)) (hx : lkI i a = some (x0, 0)) : ∃ (C : String) (T : u_T) (N : Nat), vwCl[a]? = some (C, T, N) ∧ b < N ∧ Cond.fieldLink (cnm (mt k).2.2.2.2.2.2) x0 (T b).1 (T b).2.1 (T b).2.2.1 ∈ lw_G ∧ kndF cc (parseFieldDescriptor (T b).2.2.1) = true ∧ (T b).2.2.2 = decide (4 ≤ cc) ∧ (T b).1 = C := by
  obtain ⟨h1, h2⟩ := ent_lnk hk he hx
  unfold OkL at h2
  rw [h1] at h2
  exact h2
theorem ga_get {x0 : Nat} (C : CTX base ad D cI cJ p R s m args meth c k d mc ms) (hk : k < nm) (he : cd k pc = some (.getfield x0, len, a, b, cc, w)) (hs : getA a b (pc + 3) ls st h = some (pc', ls', st', h'))
    (kk : GA base ad D cI cJ p l e R s m args below meth c Q nL pc' ls' st' h' (cells + (h'.1 - h.1)) (slots + (h'.2.1 - h.2.1))) : GA base ad D cI cJ p l e R s m args below meth c Q nL pc ls st h cells slots := by
  obtain ⟨hx, hb, hml, hown, hts, hin, hroom, hK, hA, hbs, hZ, hN⟩ := C
  have hdg := ent_1 3 hk he rfl
  obtain ⟨Cn, T, N, hvw, hbN, hl, -, -, -⟩ := fld_lnk hk he rfl
  obtain ⟨ty, hty, hnm, hws, -⟩ := clsOk_all hvw
  unfold getA at hs
  split at hs
  · rename_i q t
    split at hs
    · rename_i hq
      split at hs
      · rename_i ci fs hT
        split at hs
        · rename_i hc
          subst hc
          have hat : (wsA ad cI cJ h)[q - EXN]? = some (ad q, .inr (ci, fvA ad (h.2.2.2 q) fs)) := by
            rw [wsA_at hq.1 hq.2]
            unfold cellA
            rw [hT]
          split at hs
          · rename_i hf
            cases hs
            refine ga_same (fun H locs lc hR hL kk => ?_) kk
            exact va_get (D := D) (ci := ci) (C := Cn) (T := T) (N := N) hx hb hts hws hown hK hR.2.2.1 (q - EXN) hat hvw b hbN (hts _ hl) (fun _ h9 => h9) (fvA_at hf) hdg (kk lc hL)
          · rename_i r hf
            cases hs
            refine ga_same (fun H locs lc hR hL kk => ?_) kk
            exact va_get (D := D) (ci := ci) (C := Cn) (T := T) (N := N) hx hb hts hws hown hK hR.2.2.1 (q - EXN) hat hvw b hbN (hts _ hl) (fun _ h9 => h9) (fvA_at hf) hdg (kk lc hL)
          · cases hs
        · cases hs
      · cases hs
    · cases hs
  · cases hs
/-- a field is written: the new cell, nothing else -/
theorem put_row {x0 q : Nat} {H : Heap} {locs : List Loc} {lc : Array Slot} {fs : List (Option (Option Nat))} {rest : List Value} {v : Value} {Cn : String} {T : u_T} {N : Nat} {ty : FieldType} (C : CTX base ad D cI cJ p R s m args meth c k d mc ms) (hdg : decode (mt k).2.1 pc = .ok (.putfield x0, 3))
    (hvw : vwCl[a]? = some (Cn, T, N)) (hbN : b < N) (hl : Cond.fieldLink (cnm (mt k).2.2.2.2.2.2) x0 (T b).1 (T b).2.1 (T b).2.2.1 ∈ lw_G) (hd : parseFieldDescriptor (T b).2.2.1 = some ty) (hn : narrow ty v = v) (hfit : fits ty v = true) (hfin : (T b).2.2.2 = false ∨ ((T b).2.2.2 = true ∧ meth.name = "<init>" ∧ (T b).1 = cnm (mt k).2.2.2.2.2.2))
    (hq : EXN ≤ q ∧ q < h.1) (hT : h.2.2.1 q = .inr (a, fs)) (hbf : b < fs.length) (hR : REL base ad D cI cJ s h H locs)
    (kk : ∀ (H1 : Heap) (j : Nat), va_at D vwCl (ad q, .inr (a, (fvA ad (h.2.2.2 q) fs).set b v)) H1 → H1.size = H.size → (∀ z : Nat, z ≠ ad q → H1[z]? = H[z]?) → W p l e R s m args below meth c H1 (locs ++ [⟨ad q, j⟩]) cells slots Q (F0 m (pc + 3) lc rest)) :
    W p l e R s m args below meth c H locs cells slots Q (F0 m pc lc (v :: .ref (ad q) :: rest)) := by
  obtain ⟨hx, hb, hml, hown, hts, hin, hroom, hK, hA, hbs, hZ, hN⟩ := C
  obtain ⟨ty0, hty, hnm, hws, -⟩ := clsOk_all hvw
  have hap := va_apart (own := cnm (mt k).2.2.2.2.2.2) hts hws ty0 hty hnm hK hvw
  have hat : (wsA ad cI cJ h)[q - EXN]? = some (ad q, .inr (a, fvA ad (h.2.2.2 q) fs)) := by
    rw [wsA_at hq.1 hq.2]
    unfold cellA
    rw [hT]
  obtain ⟨r, h1, cell, q1, q2, q3, q4⟩ := hR.2.2.1 (q - EXN) _ hat
  have hr : r = (Cn, T, N) := Option.some.inj (h1.symm.trans hvw)
  subst hr
  obtain ⟨hS, hfc, kC, hkC, hkind⟩ := hK.1 a _ hvw
  obtain ⟨cf, kf, fi, f, hi, hsl⟩ := hS b hbN
  have hlay := hts _ (hws _ (u_in_lay hbN))
  have hst := (u_facts hfc hkC (u_lays hts hws hbN) hi).1
  have hlen : b < (fvA ad (h.2.2.2 q) fs).length := by unfold fvA; rw [List.length_mapIdx]; exact hbf
  unfold u_lay at hlay
  rcases hfin with hfin | ⟨hfin, hin2, hdecl⟩
  · rw [if_neg (by rw [hfin]; decide)] at hlay
    have h6 := u_store hfc hkC hkind hlay hi hd hn hfit
    refine W.putK hx hb (f := f) ⟨hown, hts _ hl, ⟨_, _, _, hi⟩, hst⟩ (by rw [q2]; exact h6) q1 q3 (by rw [hsl]; exact k2_hasslot (q4 b hbN)) rfl rfl hdg fun H' e1 e2 e3 => ?_
    rw [hsl] at e1 ⊢
    exact kk H' _ ⟨_, hvw, t_OB.to (V := updV (vp_V (fvA ad (h.2.2.2 q) fs)) b v) ⟨_, e1, q2, q3, t_set q4 hap hbN v⟩ (fun j _ => vp_updV_set hlen v j)⟩ e2 e3
  · rw [if_pos hfin] at hlay
    have hcf : m.cls = cf := by
      obtain ⟨_, _, c', _, _, _, -, -, hf', -, -, -, hown2, -⟩ := Cond.laysFinal_spec hlay
      have e1 : c' = cf := by have := hi.symm.trans hf'; simp at this; exact this.1.symm
      rw [hdecl] at hown2
      rw [← e1]; exact Option.some.inj (hown.symm.trans hown2)
    have h6 := u_fits hfc hkC hkind (Or.inr hlay) hi hd hn hfit
    refine W.putFinK hx hb hown (hts _ hl) hi hst hcf hin2 (by rw [q2]; exact h6) q1 q3 (by rw [hsl]; exact k2_hasslot (q4 b hbN)) rfl rfl hdg fun H' e1 e2 e3 => ?_
    rw [hsl] at e1 ⊢
    exact kk H' _ ⟨_, hvw, t_OB.to (V := updV (vp_V (fvA ad (h.2.2.2 q) fs)) b v) ⟨_, e1, q2, q3, t_set q4 hap hbN v⟩ (fun j _ => vp_updV_set hlen v j)⟩ e2 e3
theorem fvA_setN {M : Int → Int} {fs : List (Option (Option Nat))} {j : Nat} {u : Int} (hf : fs[j]? = some none) : (fvA ad M fs).set j (.int (Int32.ofInt u)) = fvA ad (fun i => if i = (j : Int) then u else M i) fs := by
  apply List.ext_getElem?
  intro i
  have hj : j < fs.length := (List.getElem?_eq_some_iff.mp hf).1
  unfold fvA
  by_cases he : j = i
  · subst he
    rw [List.getElem?_set_self (by rw [List.length_mapIdx]; exact hj), List.getElem?_mapIdx, hf, Option.map_some]
    show some (Value.int (Int32.ofInt u)) = some (fv1 ad (if (j : Int) = (j : Int) then u else M j) none)
    rw [if_pos rfl]
    rfl
  · rw [List.getElem?_set_ne he, List.getElem?_mapIdx, List.getElem?_mapIdx]
    dsimp only
    rw [if_neg (by omega)]
theorem fvA_setR {M : Int → Int} {fs : List (Option (Option Nat))} {j : Nat} {r : Option Nat} (hj : j < fs.length) : (fvA ad M fs).set j (cv ad (.inr r)) = fvA ad M (fs.set j (some r)) := by
  apply List.ext_getElem?
  intro i
  unfold fvA
  by_cases he : j = i
  · subst he
    rw [List.getElem?_set_self (by rw [List.length_mapIdx]; exact hj), List.getElem?_mapIdx, List.getElem?_set_self hj, Option.map_some]
    rfl
  · rw [List.getElem?_set_ne he, List.getElem?_mapIdx, List.getElem?_mapIdx, List.getElem?_set_ne he]
theorem vw_cnm {ci : Nat} {C : String} {T : u_T} {N : Nat} (h : vwCl[ci]? = some (C, T, N)) : C = cnm ci := by
  match ci, h with
  | 0, h => cases h; rfl
  | 1, h => cases h; rfl
  | 2, h => cases h; rfl
  | 3, h => cases h; rfl
  | 4, h => cases h; rfl
  | 5, h => cases h; rfl
  | 6, h => cases h; rfl
  | 7, h => cases h; rfl
  | 8, h => cases h; rfl
  | 9, h => cases h; rfl
  | n + 10, h => cases h
theorem knd_int {cc : Nat} {t : Option FieldType} (h : kndF cc t = true) : (cc % 4 = 0 → t = some .int) ∧ (cc % 4 = 1 → t = some .boolean) ∧ (cc % 4 = 2 → (∃ n, t = some (.object n)) ∨ ∃ y, t = some (.array y)) := by
  unfold kndF at h
  split at h
  · rename_i h0; exact ⟨fun _ => rfl, fun z => by omega, fun z => by omega⟩
  · rename_i h0; exact ⟨fun z => by omega, fun _ => rfl, fun z => by omega⟩
  · rename_i h0; exact ⟨fun z => by omega, fun z => by omega, fun _ => Or.inl ⟨_, rfl⟩⟩
  · rename_i h0; exact ⟨fun z => by omega, fun z => by omega, fun _ => Or.inr ⟨_, rfl⟩⟩
  · cases h
theorem putA_some {ini : Bool} (hs : putA ini a b cc pc ls st h = some (pc', ls', st', h')) : ∃ (q : Nat) (fs : List (Option (Option Nat))), EXN ≤ q ∧ q < h.1 ∧ (4 ≤ cc → ini = true) ∧ h.2.2.1 q = .inr (a, fs) ∧ pc' = pc ∧ ls' = ls ∧
    ((∃ u : Int, st = vI u :: vR q :: st' ∧ fs[b]? = some none ∧ (cc % 4 = 0 ∨ (cc % 4 = 1 ∧ (u = 0 ∨ u = 1))) ∧ h' = (h.1, h.2.1, h.2.2.1, up2 h.2.2.2 q b u)) ∨
     (∃ (r : Option Nat) (r0 : Option Nat), st = .inr r :: vR q :: st' ∧ fs[b]? = some (some r0) ∧ cc % 4 = 2 ∧ h' = (h.1, h.2.1, upT h.2.2.1 q (.inr (a, fs.set b (some r))), h.2.2.2))) := by
  unfold putA at hs
  split at hs
  · split at hs
    · rename_i hq
      split at hs
      · rename_i hT
        split at hs
        · rename_i hc
          subst hc
          split at hs
          · rename_i hf
            split at hs
            · rename_i hkx
              cases hs
              exact ⟨_, _, hq.1, hq.2.1, hq.2.2, hT, rfl, rfl, Or.inl ⟨_, rfl, hf, hkx, rfl⟩⟩
            · cases hs
          · rename_i hf
            split at hs
            · rename_i hkx
              cases hs
              exact ⟨_, _, hq.1, hq.2.1, hq.2.2, hT, rfl, rfl, Or.inr ⟨_, _, rfl, hf, hkx, rfl⟩⟩
            · cases hs
          · cases hs
        · cases hs
      · cases hs
    · cases hs
  · cases hs
theorem ga_put {x0 : Nat} (C : CTX base ad D cI cJ p R s m args meth c k d mc ms) (hk : k < nm) (he : cd k pc = some (.putfield x0, len, a, b, cc, w)) (hs : putA (decide ((mt k).2.2.2.2.2.1 = 2 ∧ (mt k).2.2.2.2.2.2 = a)) a b cc (pc + 3) ls st h = some (pc', ls', st', h'))
    (kk : GA base ad D cI cJ p l e R s m args below meth c Q nL pc' ls' st' h' (cells + (h'.1 - h.1)) (slots + (h'.2.1 - h.2.1))) : GA base ad D cI cJ p l e R s m args below meth c Q nL pc ls st h cells slots := by
  have C0 := C
  obtain ⟨hx, hb, hml, hown, hts, hin, hroom, hK, hA, hbs, hZ, hN⟩ := C0
  have hdg := ent_1 3 hk he rfl
  obtain ⟨Cn, T, N, hvw, hbN, hl, hkd, hfi, hdc⟩ := fld_lnk hk he rfl
  have hkd := knd_int hkd
  have hCn := vw_cnm hvw
  obtain ⟨q, fs, hq1, hq2, hq3, hT, e1, e2, hq9⟩ := putA_some hs
  clear hs
  subst e1
  subst e2
  have hfin : (T b).2.2.2 = false ∨ ((T b).2.2.2 = true ∧ meth.name = "<init>" ∧ (T b).1 = cnm (mt k).2.2.2.2.2.2) := by
    by_cases h4 : 4 ≤ cc
    · have h5 := of_decide_eq_true (hq3 h4)
      exact Or.inr ⟨by rw [hfi]; exact decide_eq_true h4, hin h5.1, by rw [hdc, hCn, h5.2]⟩
    · exact Or.inl (by rw [hfi]; exact decide_eq_false h4)
  rcases hq9 with ⟨u, rfl, hf, hkx, rfl⟩ | ⟨r, r0, rfl, hf, hkx, rfl⟩
  · intro H locs lc hR hL
    have hbf : b < fs.length := (List.getElem?_eq_some_iff.mp hf).1
    have fin : ∀ ty : FieldType, parseFieldDescriptor (T b).2.2.1 = some ty → narrow ty (.int (Int32.ofInt u)) = .int (Int32.ofInt u) → fits ty (.int (Int32.ofInt u)) = true → W p l e R s m args below meth c H locs cells slots Q (F0 m pc lc ((vI u :: vR q :: st' : List AV).map (cv ad))) := by
      intro ty hd hn hfit
      refine put_row (v := .int (Int32.ofInt u)) C hdg hvw hbN hl hd hn hfit hfin ⟨hq1, hq2⟩ hT hbf hR (fun H1 j ha hz ho => ?_)
      have kk := kk H1 (locs ++ [⟨ad q, j⟩]) lc (rel_set (T' := h.2.2.1) (M' := up2 h.2.2.2 q b u) hA hbs hq1 hq2 hR (fun _ _ => rfl) (fun a' ha' => funext fun j => if_neg (fun y => ha' y.1)) ?_ hz ho) hL
      · rw [Nat.sub_self, Nat.sub_self, Nat.add_zero, Nat.add_zero] at kk
        exact kk
      · rw [fvA_setN hf] at ha
        unfold cellA
        rw [hT]
        show va_at D vwCl (ad q, .inr (a, fvA ad (up2 h.2.2.2 q b u q) fs)) H1
        rw [show up2 h.2.2.2 q b u q = (fun i => if i = (b : Int) then u else h.2.2.2 q i) from funext fun i => by unfold up2; by_cases hi : i = (b : Int) <;> simp [hi]]
        exact ha
    rcases hkx with h0 | ⟨h1, hu⟩
    · exact fin .int (hkd.1 h0) rfl rfl
    · refine fin .boolean (hkd.2.1 h1) ?_ ?_
      · rcases hu with rfl | rfl <;> decide
      · rcases hu with rfl | rfl <;> decide
  · intro H locs lc hR hL
    have hbf : b < fs.length := (List.getElem?_eq_some_iff.mp hf).1
    have fin : ∀ ty : FieldType, parseFieldDescriptor (T b).2.2.1 = some ty → narrow ty (cv ad (.inr r)) = cv ad (.inr r) → fits ty (cv ad (.inr r)) = true → W p l e R s m args below meth c H locs cells slots Q (F0 m pc lc ((.inr r :: vR q :: st' : List AV).map (cv ad))) := by
      intro ty hd hn hfit
      refine put_row (v := cv ad (.inr r)) C hdg hvw hbN hl hd hn hfit hfin ⟨hq1, hq2⟩ hT hbf hR (fun H1 j ha hz ho => ?_)
      have kk := kk H1 (locs ++ [⟨ad q, j⟩]) lc (rel_set (T' := upT h.2.2.1 q (.inr (a, fs.set b (some r)))) (M' := h.2.2.2) hA hbs hq1 hq2 hR (fun a' ha' => if_neg ha') (fun _ _ => rfl) ?_ hz ho) hL
      · rw [Nat.sub_self, Nat.sub_self, Nat.add_zero, Nat.add_zero] at kk
        exact kk
      · rw [fvA_setR hbf] at ha
        unfold cellA
        rw [show upT h.2.2.1 q (.inr (a, fs.set b (some r))) q = .inr (a, fs.set b (some r)) from if_pos rfl]
        exact ha
    rcases hkd.2.2 hkx with ⟨n, hn⟩ | ⟨y, hn⟩
    · refine fin _ hn ?_ ?_ <;> cases r <;> rfl
    · refine fin _ hn ?_ ?_ <;> cases r <;> rfl
end SIMP2
