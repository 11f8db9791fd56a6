/-! ONE STEP OF THE ABSTRACT MACHINE IS ONE STEP OF THE MACHINE -/
def CTX (base : Nat) (ad : Nat → Nat) (D : va_G) (cI cJ : ClassId) (p : Program) (R : Room) (s : State) (m : MethodId) (args : Array Value) (meth : Method) (c : Code) (k d mc ms : Nat) : Prop :=
  p.tables.exec = Jvm.exec ∧ c.code = (mt k).2.1 ∧ c.maxLocals = (mt k).2.2.1 ∧ s.vm.findClass (cnm (mt k).2.2.2.2.2.2) = some m.cls ∧ (∀ w ∈ lw_G, w.before args s = true) ∧ ((mt k).2.2.2.2.2.1 = 2 → meth.name = "<init>") ∧ (d ≤ R.frames ∧ 64 * d ≤ R.locals ∧ mc ≤ R.cells ∧ ms ≤ R.slots) ∧ va_K D vwCl [(cI, .int), (cJ, .long)] s ∧ (∀ q, ad (q + EXN) = base + q) ∧ base ≤ s.heap.size ∧ (∀ a, 1 ≤ a → a < EXN → va_Z (stn a).1 (stn a).2 "[I" (.ref (ad a)) (ARg base) s s.heap) ∧ (∀ w ∈ nests, va_Nw w s)
def GA (base : Nat) (ad : Nat → Nat) (D : va_G) (cI cJ : ClassId) (p : Program) (l : Launch) (e : Env) (R : Room) (s : State) (m : MethodId) (args : Array Value) (below : List Frame) (meth : Method) (c : Code) (Q : State → Prop) (nL : Nat) (pc : Nat) (ls : LoA) (st : List AV) (h : HP) (cells slots : Nat) : Prop :=
  ∀ (H : Heap) (locs : List Loc) (lc : Array Slot), REL base ad D cI cJ s h H locs → LRA ad nL ls lc → W p l e R s m args below meth c H locs cells slots Q (F0 m pc lc (st.map (cv ad)))
theorem w32_of (z : Int) : Int32.ofInt (w32 z) = Int32.ofInt z := Int32.ofInt_toInt _
theorem b32_of (f : Int32 → Int32 → Int32) (x y : Int) : Int32.ofInt (b32 f x y) = f (Int32.ofInt x) (Int32.ofInt y) := Int32.ofInt_toInt _
theorem b64_of (f : Int64 → Int64 → Int64) (x y : Int) : Int64.ofInt (b64 f x y) = f (Int64.ofInt x) (Int64.ofInt y) := Int64.ofInt_toInt _
theorem c64_of (f : Int64 → Int64 → Int64) (x y : Int) : Int64.ofInt (c64 f x y) = f (Int64.ofInt x) ((Int32.ofInt y).toInt64 &&& 63) := Int64.ofInt_toInt _
theorem goA_some {pc pc' : Nat} {ls ls' : LoA} {h h' : HP} {o : Option (List AV)} {st' : List AV} (hs : goA pc ls h o = some (pc', ls', st', h')) : o = some st' ∧ pc' = pc ∧ ls' = ls ∧ h' = h := by
  cases o with
  | none => cases hs
  | some t => cases hs; exact ⟨rfl, rfl, rfl, rfl⟩
theorem opI2_some {st st' : List AV} {f : Int → Int → Int} (hs : opI2 st f = some st') : ∃ x y t, st = vI y :: vI x :: t ∧ st' = vI (f x y) :: t := by
  unfold opI2 at hs
  split at hs
  · cases hs; exact ⟨_, _, _, rfl, rfl⟩
  · cases hs
theorem opL2_some {st st' : List AV} {f : Int → Int → Int} (hs : opL2 st f = some st') : ∃ x y t, st = vL y :: vL x :: t ∧ st' = vL (f x y) :: t := by
  unfold opL2 at hs
  split at hs
  · cases hs; exact ⟨_, _, _, rfl, rfl⟩
  · cases hs
theorem opLI_some {st st' : List AV} {f : Int → Int → Int} (hs : opLI st f = some st') : ∃ x y t, st = vI y :: vL x :: t ∧ st' = vL (f x y) :: t := by
  unfold opLI at hs
  split at hs
  · cases hs; exact ⟨_, _, _, rfl, rfl⟩
  · cases hs
theorem ldI_some {ls : LoA} {i : Nat} {st st' : List AV} (hs : ldI ls i st = some st') : ∃ x, ls[i]? = some (some (vI x)) ∧ st' = vI x :: st := by
  unfold ldI at hs
  split at hs
  · rename_i y hy; cases hs; exact ⟨_, hy, rfl⟩
  · cases hs
theorem ldR_some {ls : LoA} {i : Nat} {st st' : List AV} (hs : ldR ls i st = some st') : ∃ x, ls[i]? = some (some (vR x)) ∧ st' = vR x :: st := by
  unfold ldR at hs
  split at hs
  · rename_i y hy; cases hs; exact ⟨_, hy, rfl⟩
  · cases hs
theorem stI_some {pc pc' i : Nat} {ls ls' : LoA} {st st' : List AV} {h h' : HP} (hs : stI pc ls i st h = some (pc', ls', st', h')) : ∃ x, st = vI x :: st' ∧ i < ls.length ∧ pc' = pc ∧ ls' = ls.set i (some (vI x)) ∧ h' = h := by
  unfold stI at hs
  split at hs
  · split at hs
    · cases hs; exact ⟨_, rfl, by assumption, rfl, rfl, rfl⟩
    · cases hs
  · cases hs
theorem stR_some {pc pc' i : Nat} {ls ls' : LoA} {st st' : List AV} {h h' : HP} (hs : stR pc ls i st h = some (pc', ls', st', h')) : ∃ x, st = vR x :: st' ∧ i < ls.length ∧ pc' = pc ∧ ls' = ls.set i (some (vR x)) ∧ h' = h := by
  unfold stR at hs
  split at hs
  · split at hs
    · cases hs; exact ⟨_, rfl, by assumption, rfl, rfl, rfl⟩
    · cases hs
  · cases hs
theorem jmpA_some {pc pc' : Nat} {off : Int} {ls ls' : LoA} {st st' : List AV} {h h' : HP} (hs : jmpA pc off ls st h = some (pc', ls', st', h')) : (pc : Int) + off = (pc' : Int) ∧ ls' = ls ∧ st' = st ∧ h' = h := by
  unfold jmpA at hs
  split at hs
  · cases hs; exact ⟨by omega, rfl, rfl, rfl⟩
  · cases hs
section SIMP
variable {base : Nat} {ad : Nat → Nat} {D : va_G} {cI cJ : ClassId} {p : Program} {l : Launch} {e : Env} {R : Room} {s : State} {m : MethodId} {args : Array Value} {below : List Frame} {meth : Method} {c : Code} {Q : State → Prop} {k d mc ms nL pc pc' len a b cc w cells slots : Nat} {ls ls' : LoA} {st st' : List AV} {h h' : HP}
theorem ga_bin {f : Int32 → Int32 → Int32} {g : Int → Int → Int} (hg : ∀ u v, Int32.ofInt (g u v) = f (Int32.ofInt u) (Int32.ofInt v)) (hrow : ∀ (u v : Int32) (H : Heap) (locs : List Loc) (lc : Array Slot) (rest : List Value), W p l e R s m args below meth c H locs cells slots Q (F0 m (pc + 1) lc (.int (f u v) :: rest)) → W p l e R s m args below meth c H locs cells slots Q (F0 m pc lc (.int v :: .int u :: rest)))
    (hs : goA (pc + 1) ls h (opI2 st g) = some (pc', ls', st', h')) (kk : GA base ad D cI cJ p l e R s m args below meth c Q nL pc' ls' st' h' (cells + (h'.1 - h.1)) (slots + (h'.2.1 - h.2.1))) : GA base ad D cI cJ p l e R s m args below meth c Q nL pc ls st h cells slots := by
  obtain ⟨ho, rfl, rfl, rfl⟩ := goA_some hs
  obtain ⟨u, v, t, rfl, rfl⟩ := opI2_some ho
  intro H locs lc hR hL
  have q := kk H locs lc hR hL
  rw [Nat.sub_self, Nat.sub_self, Nat.add_zero, Nat.add_zero, List.map_cons, show cv ad (vI (g u v)) = .int (f (Int32.ofInt u) (Int32.ofInt v)) from congrArg Value.int (hg u v)] at q
  exact hrow _ _ _ _ _ _ q
theorem ga_binL {f : Int64 → Int64 → Int64} {g : Int → Int → Int} (hg : ∀ u v, Int64.ofInt (g u v) = f (Int64.ofInt u) (Int64.ofInt v)) (hrow : ∀ (u v : Int64) (H : Heap) (locs : List Loc) (lc : Array Slot) (rest : List Value), W p l e R s m args below meth c H locs cells slots Q (F0 m (pc + 1) lc (.long (f u v) :: rest)) → W p l e R s m args below meth c H locs cells slots Q (F0 m pc lc (.long v :: .long u :: rest)))
    (hs : goA (pc + 1) ls h (opL2 st g) = some (pc', ls', st', h')) (kk : GA base ad D cI cJ p l e R s m args below meth c Q nL pc' ls' st' h' (cells + (h'.1 - h.1)) (slots + (h'.2.1 - h.2.1))) : GA base ad D cI cJ p l e R s m args below meth c Q nL pc ls st h cells slots := by
  obtain ⟨ho, rfl, rfl, rfl⟩ := goA_some hs
  obtain ⟨u, v, t, rfl, rfl⟩ := opL2_some ho
  intro H locs lc hR hL
  have q := kk H locs lc hR hL
  rw [Nat.sub_self, Nat.sub_self, Nat.add_zero, Nat.add_zero, List.map_cons, show cv ad (vL (g u v)) = .long (f (Int64.ofInt u) (Int64.ofInt v)) from congrArg Value.long (hg u v)] at q
  exact hrow _ _ _ _ _ _ q
theorem ga_binLI {f : Int64 → Int32 → Int64} {g : Int → Int → Int} (hg : ∀ u v, Int64.ofInt (g u v) = f (Int64.ofInt u) (Int32.ofInt v)) (hrow : ∀ (u : Int64) (v : Int32) (H : Heap) (locs : List Loc) (lc : Array Slot) (rest : List Value), W p l e R s m args below meth c H locs cells slots Q (F0 m (pc + 1) lc (.long (f u v) :: rest)) → W p l e R s m args below meth c H locs cells slots Q (F0 m pc lc (.int v :: .long u :: rest)))
    (hs : goA (pc + 1) ls h (opLI st g) = some (pc', ls', st', h')) (kk : GA base ad D cI cJ p l e R s m args below meth c Q nL pc' ls' st' h' (cells + (h'.1 - h.1)) (slots + (h'.2.1 - h.2.1))) : GA base ad D cI cJ p l e R s m args below meth c Q nL pc ls st h cells slots := by
  obtain ⟨ho, rfl, rfl, rfl⟩ := goA_some hs
  obtain ⟨u, v, t, rfl, rfl⟩ := opLI_some ho
  intro H locs lc hR hL
  have q := kk H locs lc hR hL
  rw [Nat.sub_self, Nat.sub_self, Nat.add_zero, Nat.add_zero, List.map_cons, show cv ad (vL (g u v)) = .long (f (Int64.ofInt u) (Int32.ofInt v)) from congrArg Value.long (hg u v)] at q
  exact hrow _ _ _ _ _ _ q
/-- the heap stays -/
theorem ga_same (hrow : ∀ (H : Heap) (locs : List Loc) (lc : Array Slot), REL base ad D cI cJ s h H locs → LRA ad nL ls lc → (∀ lc', LRA ad nL ls' lc' → W p l e R s m args below meth c H locs cells slots Q (F0 m pc' lc' (st'.map (cv ad)))) → W p l e R s m args below meth c H locs cells slots Q (F0 m pc lc (st.map (cv ad))))
    (kk : GA base ad D cI cJ p l e R s m args below meth c Q nL pc' ls' st' h (cells + (h.1 - h.1)) (slots + (h.2.1 - h.2.1))) : GA base ad D cI cJ p l e R s m args below meth c Q nL pc ls st h cells slots := by
  intro H locs lc hR hL
  refine hrow H locs lc hR hL (fun lc' hL' => ?_)
  have q := kk H locs lc' hR hL'
  rwa [Nat.sub_self, Nat.sub_self, Nat.add_zero, Nat.add_zero] at q
theorem w32_lt {u v : Int} : Int32.ofInt u < Int32.ofInt v ↔ w32 u < w32 v := Int32.lt_iff_toInt_lt
theorem w32_le {u v : Int} : Int32.ofInt u ≤ Int32.ofInt v ↔ w32 u ≤ w32 v := Int32.le_iff_toInt_le
theorem w32_eq {u v : Int} : Int32.ofInt u = Int32.ofInt v ↔ w32 u = w32 v := Int32.toInt_inj.symm
theorem brA_some {q : Bool} {pc pc' : Nat} {off : Int} {ls ls' : LoA} {st st' : List AV} {h h' : HP} (hs : brA q pc off ls st h = some (pc', ls', st', h')) : ∃ tgt : Nat, (pc : Int) + off = (tgt : Int) ∧ (q = true → pc' = tgt) ∧ (q = false → pc' = pc + 3) ∧ ls' = ls ∧ st' = st ∧ h' = h := by
  unfold brA at hs
  split at hs
  · refine ⟨((pc : Int) + off).toNat, by omega, ?_⟩
    cases q
    · rw [if_neg (by decide)] at hs
      cases hs
      exact ⟨(fun z => by cases z), fun _ => rfl, rfl, rfl, rfl⟩
    · rw [if_pos rfl] at hs
      cases hs
      exact ⟨fun _ => rfl, (fun z => by cases z), rfl, rfl, rfl⟩
  · cases hs
theorem w32_eq0 {u : Int} : Int32.ofInt u = 0 ↔ w32 u = 0 := by
  rw [show (0 : Int32) = Int32.ofInt 0 from rfl, w32_eq]
  rfl
theorem w32_lt0 {u : Int} : Int32.ofInt u < 0 ↔ w32 u < 0 := by
  rw [show (0 : Int32) = Int32.ofInt 0 from rfl, w32_lt]
  rfl
theorem w32_gt0 {u : Int} : 0 < Int32.ofInt u ↔ 0 < w32 u := by
  rw [show (0 : Int32) = Int32.ofInt 0 from rfl, w32_lt]
  rfl
theorem w32_ge0 {u : Int} : 0 ≤ Int32.ofInt u ↔ 0 ≤ w32 u := by
  rw [show (0 : Int32) = Int32.ofInt 0 from rfl, w32_le]
  rfl
theorem w32_le0 {u : Int} : Int32.ofInt u ≤ 0 ↔ w32 u ≤ 0 := by
  rw [show (0 : Int32) = Int32.ofInt 0 from rfl, w32_le]
  rfl
theorem ga_icmp {q : Jvm.ClassFile.Cond} {off : Int} (hx : p.tables.exec = Jvm.exec) (hb : c.code = (mt k).2.1) (hdg : decode (mt k).2.1 pc = .ok (.if_icmp q off, 3)) {u v : Int} {t : List AV}
    (hs : brA (cmpA q (w32 u) (w32 v)) pc off ls t h = some (pc', ls', st', h')) (kk : GA base ad D cI cJ p l e R s m args below meth c Q nL pc' ls' st' h' (cells + (h'.1 - h.1)) (slots + (h'.2.1 - h.2.1))) : GA base ad D cI cJ p l e R s m args below meth c Q nL pc ls (vI v :: vI u :: t) h cells slots := by
  obtain ⟨tgt, ht, h1, h2, rfl, rfl, rfl⟩ := brA_some hs
  refine ga_same (fun H locs lc hR hL kk => ?_) kk
  have kk := kk lc hL
  have k1 : cmpA q (w32 u) (w32 v) = true → W p l e R s m args below meth c H locs cells slots Q (F0 m tgt lc (st'.map (cv ad))) := fun z => h1 z ▸ kk
  have k2 : cmpA q (w32 u) (w32 v) = false → W p l e R s m args below meth c H locs cells slots Q (F0 m (pc + 3) lc (st'.map (cv ad))) := fun z => h2 z ▸ kk
  cases q
  · exact lv_icmp_eq hx hb hdg ht (fun z => k1 (decide_eq_true (w32_eq.mp z))) (fun z => k2 (decide_eq_false (fun y => z (w32_eq.mpr y))))
  · exact lv_icmp_ne hx hb hdg ht (fun z => k1 (decide_eq_true (fun y => z (w32_eq.mpr y)))) (fun z => k2 (decide_eq_false (fun y => y (w32_eq.mp z))))
  · exact lv_icmp_lt hx hb hdg ht (fun z => k1 (decide_eq_true (w32_lt.mp z))) (fun z => k2 (decide_eq_false (fun y => z (w32_lt.mpr y))))
  · exact lv_icmp_ge hx hb hdg ht (fun z => k1 (decide_eq_true (w32_le.mp z))) (fun z => k2 (decide_eq_false (fun y => z (w32_le.mpr y))))
  · exact lv_icmp_gt hx hb hdg ht (fun z => k1 (decide_eq_true (w32_lt.mp z))) (fun z => k2 (decide_eq_false (fun y => z (w32_lt.mpr y))))
  · exact lv_icmp_le hx hb hdg ht (fun z => k1 (decide_eq_true (w32_le.mp z))) (fun z => k2 (decide_eq_false (fun y => z (w32_le.mpr y))))
theorem ga_if {q : Jvm.ClassFile.Cond} {off : Int} (hx : p.tables.exec = Jvm.exec) (hb : c.code = (mt k).2.1) (hdg : decode (mt k).2.1 pc = .ok (.ifCond q off, 3)) {u : Int} {t : List AV}
    (hs : brA (cmpA q (w32 u) 0) pc off ls t h = some (pc', ls', st', h')) (kk : GA base ad D cI cJ p l e R s m args below meth c Q nL pc' ls' st' h' (cells + (h'.1 - h.1)) (slots + (h'.2.1 - h.2.1))) : GA base ad D cI cJ p l e R s m args below meth c Q nL pc ls (vI u :: t) h cells slots := by
  obtain ⟨tgt, ht, h1, h2, rfl, rfl, rfl⟩ := brA_some hs
  refine ga_same (fun H locs lc hR hL kk => ?_) kk
  have kk := kk lc hL
  have k1 : cmpA q (w32 u) 0 = true → W p l e R s m args below meth c H locs cells slots Q (F0 m tgt lc (st'.map (cv ad))) := fun z => h1 z ▸ kk
  have k2 : cmpA q (w32 u) 0 = false → W p l e R s m args below meth c H locs cells slots Q (F0 m (pc + 3) lc (st'.map (cv ad))) := fun z => h2 z ▸ kk
  cases q
  · exact lv_if_eq hx hb hdg ht (fun z => k1 (decide_eq_true (w32_eq0.mp z))) (fun z => k2 (decide_eq_false (fun y => z (w32_eq0.mpr y))))
  · exact lv_if_ne hx hb hdg ht (fun z => k1 (decide_eq_true (fun y => z (w32_eq0.mpr y)))) (fun z => k2 (decide_eq_false (fun y => y (w32_eq0.mp z))))
  · exact lv_if_lt hx hb hdg ht (fun z => k1 (decide_eq_true (w32_lt0.mp z))) (fun z => k2 (decide_eq_false (fun y => z (w32_lt0.mpr y))))
  · exact lv_if_ge hx hb hdg ht (fun z => k1 (decide_eq_true (w32_ge0.mp z))) (fun z => k2 (decide_eq_false (fun y => z (w32_ge0.mpr y))))
  · exact lv_if_gt hx hb hdg ht (fun z => k1 (decide_eq_true (w32_gt0.mp z))) (fun z => k2 (decide_eq_false (fun y => z (w32_gt0.mpr y))))
  · exact lv_if_le hx hb hdg ht (fun z => k1 (decide_eq_true (w32_le0.mp z))) (fun z => k2 (decide_eq_false (fun y => z (w32_le0.mpr y))))
theorem vp_in_of_int {i : Int} {n : Nat} (h0 : 0 ≤ i) (h1 : i < n) (h2 : n ≤ 2147483647) : vp_in (Int32.ofInt i) n ∧ (Int32.ofInt i).toNatClampNeg = i.toNat := by
  have e : (Int32.ofInt i).toInt = i := Int32.toInt_ofInt_of_le (by omega) (by omega)
  have e2 : (Int32.ofInt i).toNatClampNeg = i.toNat := by
    show (Int32.ofInt i).toInt.toNat = i.toNat
    rw [e]
  refine ⟨?_, e2⟩
  rw [vp_in_iff, e]
  omega
/-- a row of numbers that was there before, or one of ours: a read -/
theorem ga_iald (C : CTX base ad D cI cJ p R s m args meth c k d mc ms) (hdg : decode (mt k).2.1 pc = .ok (.iaload, 1)) (hs : aldA false (pc + 1) ls st h = some (pc', ls', st', h'))
    (kk : GA base ad D cI cJ p l e R s m args below meth c Q nL pc' ls' st' h' (cells + (h'.1 - h.1)) (slots + (h'.2.1 - h.2.1))) : GA base ad D cI cJ p l e R s m args below meth c Q nL pc ls st h cells slots := by
  obtain ⟨hx, hb, hml, hown, hts, hin, hroom, hK, hA, hbs, hZ, hN⟩ := C
  unfold aldA at hs
  split at hs
  · rename_i i q t
    split at hs
    · rename_i hq
      split at hs
      · rename_i lg n hT
        split at hs
        · rename_i hc
          obtain ⟨rfl, h0, h1, h2⟩ := hc
          cases hs
          refine ga_same (fun H locs lc hR hL kk => ?_) kk
          have kk := kk lc hL
          rw [if_neg (by decide)] at kk
          obtain ⟨hv, hcl⟩ := vp_in_of_int h0 h1 h2
          obtain ⟨hE, hsz, hP, hS, hX⟩ := hR
          have hidx : ((i.toNat : Nat) : Int) = i := by omega
          by_cases hqE : EXN ≤ q
          · have hat : (wsA ad cI cJ h)[q - EXN]? = some (ad q, .inl (cI, n, .inl (fun j => Int32.ofInt (h.2.2.2 q (j : Int))))) := by
              rw [wsA_at hqE hq]
              unfold cellA
              rw [hT]
            refine va_iald hx hb hK hP (q - EXN) 0 hat rfl hv hdg ?_
            rw [hcl, hidx]
            exact kk
          · obtain ⟨n', hn', hTT⟩ := hX q (by omega)
            rw [hT] at hn'
            cases hn'
            have hTT := hTT.kept (H1 := H) (fun z hz1 hz2 => hS.2.1 z hz1 hz2)
            obtain ⟨cell, g1, g2, g3, g4, g5, g6, g7⟩ := hTT
            have g9 := g6 i.toNat (by omega)
            dsimp only at g9
            rw [hidx] at g9
            refine W.iald (v := .int (Int32.ofInt (h.2.2.2 q i))) hx hb g1 g2 g3 (fun z => z.elim (fun z => hv (Or.inl z)) (fun z => hv (Or.inr (Nat.le_trans g4 z)))) (by rw [hcl]; exact g9) rfl rfl hdg ?_
            exact kk
        · cases hs
      · cases hs
    · cases hs
  · cases hs
theorem ga_lald (C : CTX base ad D cI cJ p R s m args meth c k d mc ms) (hdg : decode (mt k).2.1 pc = .ok (.laload, 1)) (hs : aldA true (pc + 1) ls st h = some (pc', ls', st', h'))
    (kk : GA base ad D cI cJ p l e R s m args below meth c Q nL pc' ls' st' h' (cells + (h'.1 - h.1)) (slots + (h'.2.1 - h.2.1))) : GA base ad D cI cJ p l e R s m args below meth c Q nL pc ls st h cells slots := by
  obtain ⟨hx, hb, hml, hown, hts, hin, hroom, hK, hA, hbs, hZ, hN⟩ := C
  unfold aldA at hs
  split at hs
  · rename_i i q t
    split at hs
    · rename_i hq
      split at hs
      · rename_i lg n hT
        split at hs
        · rename_i hc
          obtain ⟨rfl, h0, h1, h2⟩ := hc
          cases hs
          refine ga_same (fun H locs lc hR hL kk => ?_) kk
          have kk := kk lc hL
          rw [if_pos rfl] at kk
          obtain ⟨hv, hcl⟩ := vp_in_of_int h0 h1 h2
          obtain ⟨hE, hsz, hP, hS, hX⟩ := hR
          have hidx : ((i.toNat : Nat) : Int) = i := by omega
          by_cases hqE : EXN ≤ q
          · have hat : (wsA ad cI cJ h)[q - EXN]? = some (ad q, .inl (cJ, n, .inr (.inl (fun j => Int64.ofInt (h.2.2.2 q (j : Int)))))) := by
              rw [wsA_at hqE hq]
              unfold cellA
              rw [hT]
            refine va_lald hx hb hK hP (q - EXN) 1 hat rfl hv hdg ?_
            rw [hcl, hidx]
            exact kk
          · obtain ⟨n', hn', hTT⟩ := hX q (by omega)
            rw [hT] at hn'
            cases hn'
        · cases hs
      · cases hs
    · cases hs
  · cases hs
theorem rel_set {H H1 : Heap} {locs : List Loc} {q j : Nat} {T' : Nat → LK} {M' : Nat → Int → Int} (hA : ∀ q, ad (q + EXN) = base + q) (hbs : base ≤ s.heap.size) (hqE : EXN ≤ q) (hq : q < h.1) (hR : REL base ad D cI cJ s h H locs)
    (hT : ∀ a, a ≠ q → T' a = h.2.2.1 a) (hM : ∀ a, a ≠ q → M' a = h.2.2.2 a) (he : va_at D vwCl (ad q, cellA ad cI cJ T' M' q) H1) (hz : H1.size = H.size) (ho : ∀ x : Nat, x ≠ ad q → H1[x]? = H[x]?) : REL base ad D cI cJ s (h.1, h.2.1, T', M') H1 (locs ++ [⟨ad q, j⟩]) := by
  obtain ⟨hE, hsz, hP, hS, hX⟩ := hR
  have hD := wsA_D (cI := cI) (cJ := cJ) (h := h) hA
  have hat := wsA_at (ad := ad) (cI := cI) (cJ := cJ) hqE hq
  refine ⟨hE, by rw [hz]; exact hsz, ?_, hS.put hz ho (hD.2 _ _ hat), fun a ha => ?_⟩
  · rw [← wsA_set hqE hT hM]
    exact hP.set hD hat he ho
  · have hne : a ≠ q := by omega
    obtain ⟨n, h1, h2⟩ := hX a ha
    refine ⟨n, (hT a hne).trans h1, ?_⟩
    show va_T .int (ad a) n (fun j => .int (Int32.ofInt (M' a (j : Int)))) (ARg base) s s.heap
    rw [hM a hne]
    exact h2
theorem astI_some (hs : astA pc ls st h false = some (pc', ls', st', h')) : ∃ (u i : Int) (q n : Nat), st = vI u :: vI i :: vR q :: st' ∧ EXN ≤ q ∧ q < h.1 ∧ h.2.2.1 q = .inl (false, n) ∧ 0 ≤ i ∧ i < n ∧ n ≤ 2147483647 ∧ pc' = pc ∧ ls' = ls ∧ h' = (h.1, h.2.1, h.2.2.1, up2 h.2.2.2 q i u) := by
  unfold astA at hs
  split at hs
  · split at hs
    · rename_i hq
      split at hs
      · rename_i hT
        split at hs
        · rename_i hc
          cases hs
          exact ⟨_, _, _, _, rfl, hq.1, hq.2, hT, hc.2.1, hc.2.2.1, hc.2.2.2, rfl, rfl, rfl⟩
        · cases hs
      · split at hs
        · rename_i hc
          cases hc.1
        · cases hs
      · cases hs
    · cases hs
  · cases hs
theorem astL_some (hs : astA pc ls st h true = some (pc', ls', st', h')) : ∃ (u i : Int) (q n : Nat), st = vL u :: vI i :: vR q :: st' ∧ EXN ≤ q ∧ q < h.1 ∧ h.2.2.1 q = .inl (true, n) ∧ 0 ≤ i ∧ i < n ∧ n ≤ 2147483647 ∧ pc' = pc ∧ ls' = ls ∧ h' = (h.1, h.2.1, h.2.2.1, up2 h.2.2.2 q i u) := by
  unfold astA at hs
  split at hs
  · split at hs
    · rename_i hq
      split at hs
      · split at hs
        · rename_i hc
          cases hc.1
        · cases hs
      · rename_i hT
        split at hs
        · rename_i hc
          cases hs
          exact ⟨_, _, _, _, rfl, hq.1, hq.2, hT, hc.2.1, hc.2.2.1, hc.2.2.2, rfl, rfl, rfl⟩
        · cases hs
      · cases hs
    · cases hs
  · cases hs
theorem ga_iast (C : CTX base ad D cI cJ p R s m args meth c k d mc ms) (hdg : decode (mt k).2.1 pc = .ok (.iastore, 1)) (hs : astA (pc + 1) ls st h false = some (pc', ls', st', h'))
    (kk : GA base ad D cI cJ p l e R s m args below meth c Q nL pc' ls' st' h' (cells + (h'.1 - h.1)) (slots + (h'.2.1 - h.2.1))) : GA base ad D cI cJ p l e R s m args below meth c Q nL pc ls st h cells slots := by
  obtain ⟨hx, hb, hml, hown, hts, hin, hroom, hK, hA, hbs, hZ, hN⟩ := C
  obtain ⟨u, i, q, n, rfl, hq1, hq2, hT, h0, h1, h2, rfl, rfl, rfl⟩ := astI_some hs
  intro H locs lc hR hL
  obtain ⟨hv, hcl⟩ := vp_in_of_int h0 h1 h2
  have hat : (wsA ad cI cJ h)[q - EXN]? = some (ad q, .inl (cI, n, .inl (fun j => Int32.ofInt (h.2.2.2 q (j : Int))))) := by
    rw [wsA_at hq1 hq2]
    unfold cellA
    rw [hT]
  refine W.iast (x := Int32.ofInt u) (j := Int32.ofInt i) (rest := st'.map (cv ad)) hx hb (hR.2.2.1 (q - EXN) _ hat) ((hK.2 0 _ rfl).1 n (fun j => .int (Int32.ofInt (h.2.2.2 q (j : Int))))) (fun z => by cases z) (by show ¬ (_ ∨ (arrV _ _ _).slots.size ≤ _); rw [arrV_size]; exact hv) rfl rfl hdg fun H1 e1 z oq => ?_
  have kk := kk H1 (locs ++ [⟨ad q, (Int32.ofInt i).toNatClampNeg⟩]) lc (rel_set (T' := h.2.2.1) (M' := up2 h.2.2.2 q i u) hA hbs hq1 hq2 hR (fun _ _ => rfl) (fun a' ha' => funext fun j => if_neg (fun y => ha' y.1)) ?_ z oq) hL
  · rw [Nat.sub_self, Nat.sub_self, Nat.add_zero, Nat.add_zero] at kk
    exact kk
  · unfold cellA
    rw [hT]
    show H1[ad q]? = some (vp_cell _ _)
    rw [e1, vp_cell_i, vp_cell_i, arrV_store]
    congr 2
    funext j
    rw [hcl]
    unfold updV up2
    by_cases hj : j = i.toNat
    · rw [if_pos hj, if_pos ⟨rfl, by omega⟩]
    · rw [if_neg hj, if_neg (fun y => hj (by omega))]
theorem ga_last (C : CTX base ad D cI cJ p R s m args meth c k d mc ms) (hdg : decode (mt k).2.1 pc = .ok (.lastore, 1)) (hs : astA (pc + 1) ls st h true = some (pc', ls', st', h'))
    (kk : GA base ad D cI cJ p l e R s m args below meth c Q nL pc' ls' st' h' (cells + (h'.1 - h.1)) (slots + (h'.2.1 - h.2.1))) : GA base ad D cI cJ p l e R s m args below meth c Q nL pc ls st h cells slots := by
  obtain ⟨hx, hb, hml, hown, hts, hin, hroom, hK, hA, hbs, hZ, hN⟩ := C
  obtain ⟨u, i, q, n, rfl, hq1, hq2, hT, h0, h1, h2, rfl, rfl, rfl⟩ := astL_some hs
  intro H locs lc hR hL
  obtain ⟨hv, hcl⟩ := vp_in_of_int h0 h1 h2
  have hat : (wsA ad cI cJ h)[q - EXN]? = some (ad q, .inl (cJ, n, .inr (.inl (fun j => Int64.ofInt (h.2.2.2 q (j : Int)))))) := by
    rw [wsA_at hq1 hq2]
    unfold cellA
    rw [hT]
  refine W.last (x := Int64.ofInt u) (j := Int32.ofInt i) (rest := st'.map (cv ad)) hx hb (hR.2.2.1 (q - EXN) _ hat) ((hK.2 1 _ rfl).1 n (fun j => .long (Int64.ofInt (h.2.2.2 q (j : Int))))) (fun z => by cases z) (by show ¬ (_ ∨ (arrV _ _ _).slots.size ≤ _); rw [arrV_size]; exact hv) rfl rfl hdg fun H1 e1 z oq => ?_
  have kk := kk H1 (locs ++ [⟨ad q, (Int32.ofInt i).toNatClampNeg⟩]) lc (rel_set (T' := h.2.2.1) (M' := up2 h.2.2.2 q i u) hA hbs hq1 hq2 hR (fun _ _ => rfl) (fun a' ha' => funext fun j => if_neg (fun y => ha' y.1)) ?_ z oq) hL
  · rw [Nat.sub_self, Nat.sub_self, Nat.add_zero, Nat.add_zero] at kk
    exact kk
  · unfold cellA
    rw [hT]
    show H1[ad q]? = some (vp_cell _ _)
    rw [e1, vp_cell_l, vp_cell_l, arrV_store]
    congr 2
    funext j
    rw [hcl]
    unfold updV up2
    by_cases hj : j = i.toNat
    · rw [if_pos hj, if_pos ⟨rfl, by omega⟩]
    · rw [if_neg hj, if_neg (fun y => hj (by omega))]
end SIMP
