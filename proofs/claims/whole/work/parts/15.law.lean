/-! THE CLAIM OUT OF ONE WALK OF THE LAW'S BODY. Your part is whole_start (and what it stands on); all else here is the same for every law, but numbers. -/
def R_law : String := "SudokuGraderLaw"
def lw_P (b : Addr) (xs : List Int32) (args : Array Value) (s : State) : Prop := args = #[.ref b] ∧ s.IntsAt b xs ∧ xs.length ≤ 2048 ∧ (Jvm.Cond.and given_1 narrow_1).before args s = true
def lw_Q (_ : Array Value) (s : State) (o : Outcome) (t : State) : Prop := o = .returned (some (.int 1)) ∧ Framed s o t [] 600000 7302250
def lw_Z (below : List Frame) (a : Array Value) (s : State) : State → Prop := fun t => ∃ o, t.status = .running ∧ Ended t below o ∧ lw_Q a s o t
/-- the law's own end, with 1 on the stack, nothing written that was there before, its room as the claim has it -/
theorem lw_ret {p : Program} {l : Launch} {e : Env} {s : State} {m : MethodId} {below : List Frame} {meth : Method} {c : Code} {b : Nat} (hx : p.tables.exec = Jvm.exec) (hb : c.code = code) (hr : meth.sig.returnType = ret) (hlocks : meth.locks = false) {pc : Nat} {H : Heap} {ls : Array Slot} (hdg : decode code pc = .ok (.ireturn, 1)) : W p l e room_1 s m #[Value.ref b] below meth c H [] 600000 7302250 (lw_Z below #[Value.ref b] s) (F0 m pc ls [.int 1]) := by
  intro T hT X
  obtain ⟨fs, hret, hrun, hended, hW, hframe⟩ := X.leave (v := some (.int 1)) (hlocks := hlocks) (fun h => by rw [hr] at h; cases h)
  have hmeth' : T.vm.method? m = some meth := X.method'
  refine ⟨T.setFrames fs, ?_, .returned (some (.int 1)), hrun, hended, rfl, ⟨_, rfl⟩, hW, hframe⟩
  jvm_step X.here [X.here.top, hx, hb, hdg, hmeth', hr, ret, narrow_b1]
  (try refine ⟨rfl, ?_⟩); (try refine ⟨rfl, ?_⟩)
  first | (intro acts; rw [hret _ acts rfl rfl rfl]) | rw [hret _ _ rfl rfl rfl]
  exact Steps.refl _
/-- what holds at the law's entry: the machine, the code, the tables' words (any of lw_tbl by 'hts w (by decide +kernel)'), the script of L ints xs at the cell b, what the Statement gives of the start (any of its parts by flat_of_before) -/
def lw_At (p : Program) (s : State) (m : MethodId) (meth : Method) (c : Code) (b L : Nat) (xs : Nat → Int32) : Prop :=
  p.tables.exec = Jvm.exec ∧ c.code = code ∧ meth.sig.returnType = ret ∧ c.maxLocals = 4 ∧ s.vm.findClass R_law = some m.cls ∧ (∀ w ∈ lw_tbl, w.before #[Value.ref b] s = true) ∧ va_X b L xs s s.heap ∧ b < s.heap.size ∧ meth.locks = false ∧ (Jvm.Cond.and given_1 narrow_1).before #[Value.ref b] s = true
def tb_K : List Int := [0, 0, 0, 0, 1, 2, 1, 2, 3, 1, 2, 3, 3]
def tb_Z : List Int := [0, 0, 0, 0, 2, 2, 3, 3, 2, 4, 4, 3, 4]
def tb_W : List Int := [1, 2, 4, 5, 6, 8, 9, 12, 14, 16, 20, 18, 24, 30]
set_option maxHeartbeats 4000000 in
theorem st_K {args : Array Value} {s : State} (hs : ∀ c ∈ flatC (Jvm.Cond.and given_1 narrow_1), c.before args s = true) : ∃ t : Nat, (Term.static "SudokuGrader$Subsets" "KIND" "[I").eval args s none [] s = some (.ref t) ∧ va_T .int t 13 (fun j => .int (Int32.ofInt (tb_K.getD (j : Int).toNat 0))) (ARg s.heap.size) s s.heap := by
  refine va_Tof (by decide) (hs _ (List.mem_of_getElem? (i := 5) rfl)) (va_eqt (hs _ (List.mem_of_getElem? (i := 6) rfl))) (fun j hj => ?_) (fun q hq => Nat.not_le.mpr hq)
  match j, hj with
  | 0, _ => exact va_eqt (hs _ (List.mem_of_getElem? (i := 7) rfl))
  | 1, _ => exact va_eqt (hs _ (List.mem_of_getElem? (i := 8) rfl))
  | 2, _ => exact va_eqt (hs _ (List.mem_of_getElem? (i := 9) rfl))
  | 3, _ => exact va_eqt (hs _ (List.mem_of_getElem? (i := 10) rfl))
  | 4, _ => exact va_eqt (hs _ (List.mem_of_getElem? (i := 11) rfl))
  | 5, _ => exact va_eqt (hs _ (List.mem_of_getElem? (i := 12) rfl))
  | 6, _ => exact va_eqt (hs _ (List.mem_of_getElem? (i := 13) rfl))
  | 7, _ => exact va_eqt (hs _ (List.mem_of_getElem? (i := 14) rfl))
  | 8, _ => exact va_eqt (hs _ (List.mem_of_getElem? (i := 15) rfl))
  | 9, _ => exact va_eqt (hs _ (List.mem_of_getElem? (i := 16) rfl))
  | 10, _ => exact va_eqt (hs _ (List.mem_of_getElem? (i := 17) rfl))
  | 11, _ => exact va_eqt (hs _ (List.mem_of_getElem? (i := 18) rfl))
  | 12, _ => exact va_eqt (hs _ (List.mem_of_getElem? (i := 19) rfl))
  | j + 13, hj => exact absurd hj (by omega)
set_option maxHeartbeats 4000000 in
theorem st_Z {args : Array Value} {s : State} (hs : ∀ c ∈ flatC (Jvm.Cond.and given_1 narrow_1), c.before args s = true) : ∃ t : Nat, (Term.static "SudokuGrader$Subsets" "SIZE" "[I").eval args s none [] s = some (.ref t) ∧ va_T .int t 13 (fun j => .int (Int32.ofInt (tb_Z.getD (j : Int).toNat 0))) (ARg s.heap.size) s s.heap := by
  refine va_Tof (by decide) (hs _ (List.mem_of_getElem? (i := 21) rfl)) (va_eqt (hs _ (List.mem_of_getElem? (i := 22) rfl))) (fun j hj => ?_) (fun q hq => Nat.not_le.mpr hq)
  match j, hj with
  | 0, _ => exact va_eqt (hs _ (List.mem_of_getElem? (i := 23) rfl))
  | 1, _ => exact va_eqt (hs _ (List.mem_of_getElem? (i := 24) rfl))
  | 2, _ => exact va_eqt (hs _ (List.mem_of_getElem? (i := 25) rfl))
  | 3, _ => exact va_eqt (hs _ (List.mem_of_getElem? (i := 26) rfl))
  | 4, _ => exact va_eqt (hs _ (List.mem_of_getElem? (i := 27) rfl))
  | 5, _ => exact va_eqt (hs _ (List.mem_of_getElem? (i := 28) rfl))
  | 6, _ => exact va_eqt (hs _ (List.mem_of_getElem? (i := 29) rfl))
  | 7, _ => exact va_eqt (hs _ (List.mem_of_getElem? (i := 30) rfl))
  | 8, _ => exact va_eqt (hs _ (List.mem_of_getElem? (i := 31) rfl))
  | 9, _ => exact va_eqt (hs _ (List.mem_of_getElem? (i := 32) rfl))
  | 10, _ => exact va_eqt (hs _ (List.mem_of_getElem? (i := 33) rfl))
  | 11, _ => exact va_eqt (hs _ (List.mem_of_getElem? (i := 34) rfl))
  | 12, _ => exact va_eqt (hs _ (List.mem_of_getElem? (i := 35) rfl))
  | j + 13, hj => exact absurd hj (by omega)
set_option maxHeartbeats 4000000 in
theorem st_W {args : Array Value} {s : State} (hs : ∀ c ∈ flatC (Jvm.Cond.and given_1 narrow_1), c.before args s = true) : ∃ t : Nat, (Term.static "SudokuGrader$Trace" "WEIGHTS" "[I").eval args s none [] s = some (.ref t) ∧ va_T .int t 14 (fun j => .int (Int32.ofInt (tb_W.getD (j : Int).toNat 0))) (ARg s.heap.size) s s.heap := by
  refine va_Tof (by decide) (hs _ (List.mem_of_getElem? (i := 37) rfl)) (va_eqt (hs _ (List.mem_of_getElem? (i := 38) rfl))) (fun j hj => ?_) (fun q hq => Nat.not_le.mpr hq)
  match j, hj with
  | 0, _ => exact va_eqt (hs _ (List.mem_of_getElem? (i := 39) rfl))
  | 1, _ => exact va_eqt (hs _ (List.mem_of_getElem? (i := 40) rfl))
  | 2, _ => exact va_eqt (hs _ (List.mem_of_getElem? (i := 41) rfl))
  | 3, _ => exact va_eqt (hs _ (List.mem_of_getElem? (i := 42) rfl))
  | 4, _ => exact va_eqt (hs _ (List.mem_of_getElem? (i := 43) rfl))
  | 5, _ => exact va_eqt (hs _ (List.mem_of_getElem? (i := 44) rfl))
  | 6, _ => exact va_eqt (hs _ (List.mem_of_getElem? (i := 45) rfl))
  | 7, _ => exact va_eqt (hs _ (List.mem_of_getElem? (i := 46) rfl))
  | 8, _ => exact va_eqt (hs _ (List.mem_of_getElem? (i := 47) rfl))
  | 9, _ => exact va_eqt (hs _ (List.mem_of_getElem? (i := 48) rfl))
  | 10, _ => exact va_eqt (hs _ (List.mem_of_getElem? (i := 49) rfl))
  | 11, _ => exact va_eqt (hs _ (List.mem_of_getElem? (i := 50) rfl))
  | 12, _ => exact va_eqt (hs _ (List.mem_of_getElem? (i := 51) rfl))
  | 13, _ => exact va_eqt (hs _ (List.mem_of_getElem? (i := 52) rfl))
  | j + 14, hj => exact absurd hj (by omega)
/-- the heap at the law's entry: the script and three constant rows -/
def T0 (L : Nat) : Nat → LK := fun k => if k = 0 then .inl (false, L) else if k = 3 then .inl (false, 14) else .inl (false, 13)
def M0 (xs : Nat → Int32) : Nat → Int → Int := fun k j => if k = 0 then (xs j.toNat).toInt else if k = 1 then tb_K.getD j.toNat 0 else if k = 2 then tb_Z.getD j.toNat 0 else if k = 3 then tb_W.getD j.toNat 0 else 0
def H0A (L : Nat) (xs : Nat → Int32) : HP := (4, 0, T0 L, M0 xs)
def DPL : Nat := 40
/-- WHAT IS LEFT: of the abstract machine alone -/
def PURE : Prop := ∀ (L : Nat) (xs : Nat → Int32), L ≤ 2048 → ∃ (f : Nat) (h' : HP), runA f DPL k_L_law 0 (entA k_L_law [vR 0]) [] (H0A L xs) = some (some (vI 1), h') ∧ h'.1 ≤ 600000 ∧ h'.2.1 ≤ 7302250
theorem kn_all {args : Array Value} {s : State} (hts : ∀ w ∈ lw_G, w.before args s = true) : ∃ (dC : Nat → ClassId) (dI : Nat → Nat → Nat), ∀ (k : Nat) (q : vw_C), vwCl[k]? = some q → u_Kn s q.1 q.2.1 q.2.2 (dC k) (dI k) := by
  have h : ∀ k : Nat, ∃ (z : ClassId × (Nat → Nat)), ∀ q : vw_C, vwCl[k]? = some q → u_Kn s q.1 q.2.1 q.2.2 z.1 z.2 := by
    intro k
    cases hk : vwCl[k]? with
    | none => exact ⟨(0, fun _ => 0), fun q hq => by cases hq⟩
    | some q =>
      obtain ⟨C, T, N⟩ := q
      obtain ⟨ty, hty, hnm, hws, hinst, -⟩ := clsOk_all hk
      obtain ⟨cC, iS, hKn⟩ := u_known hts hws (hts _ hinst)
      exact ⟨(cC, iS), fun q hq => by cases hq; exact hKn⟩
  exact ⟨fun k => (Classical.choose (h k)).1, fun k => (Classical.choose (h k)).2, fun k q hq => Classical.choose_spec (h k) q hq⟩
theorem ar_of {args : Array Value} {s : State} {ty : FieldType} (h : (Cond.arrayClass ty).before args s = true) : ∃ cA : ClassId, ArrOfT s cA ty ∧ s.vm.findClass ("[" ++ ty.toString) = some cA := by
  obtain ⟨cA, kA, comp, h1, h2, h3⟩ := Cond.arrayClass_spec h
  exact ⟨cA, fun n z => ⟨fun k h => (by cases h), kA, h2, comp, h3⟩, h1⟩
def adL (b t1 t2 t3 z : Nat) : Nat → Nat := fun k => if k = 0 then b else if k = 1 then t1 else if k = 2 then t2 else if k = 3 then t3 else z + (k - 4)
set_option maxHeartbeats 4000000 in
set_option maxRecDepth 20000 in
theorem law_of_pure (hp : PURE) {p : Program} {e : Env} {s : State} {m : MethodId} {below : List Frame} {meth : Method} {c : Code} (l : Launch) {b L : Nat} {xs : Nat → Int32} (hL : L ≤ 2048) (C0 : lw_At p s m meth c b L xs) : W p l e room_1 s m #[Value.ref b] below meth c s.heap [] 0 0 (lw_Z below #[Value.ref b] s) (entryFrame m ([Value.ref b] : List Value).toArray 4) := by
  obtain ⟨hx, hb, hr, hml, hown, htb, hX, hbl, hlocks, hgv⟩ := id C0
  have hs := flat_of_before _ hgv
  have hts : ∀ w ∈ lw_G, w.before #[Value.ref b] s = true := fun w hw => htb w (List.mem_filter.mp hw).1
  obtain ⟨t1, ht1, hT1⟩ := st_K hs
  obtain ⟨t2, ht2, hT2⟩ := st_Z hs
  obtain ⟨t3, ht3, hT3⟩ := st_W hs
  obtain ⟨dC, dI, hKc⟩ := kn_all hts
  obtain ⟨cI, hcI, hfI⟩ := ar_of (hts _ ac_int)
  obtain ⟨cJ, hcJ, hfJ⟩ := ar_of (hts _ ac_long)
  obtain ⟨f, h', hrun, hn, hsl⟩ := hp L xs hL
  have hA : ∀ q, adL b t1 t2 t3 s.heap.size (q + EXN) = s.heap.size + q := by
    intro q
    unfold adL EXN
    rw [if_neg (by omega), if_neg (by omega), if_neg (by omega), if_neg (by omega), Nat.add_sub_cancel]
  have hlow : ∀ q : Nat, q < s.heap.size → ¬ ARg s.heap.size q := fun q hq => Nat.not_le.mpr hq
  have hK : va_K (dC, dI) vwCl [(cI, .int), (cJ, .long)] s := by
    refine ⟨hKc, fun k q hq => ?_⟩
    match k, hq with
    | 0, hq => cases hq; exact ⟨hcI, hfI⟩
    | 1, hq => cases hq; exact ⟨hcJ, hfJ⟩
    | k + 2, hq => cases hq
  have hZ : ∀ a, 1 ≤ a → a < EXN → va_Z (stn a).1 (stn a).2 "[I" (.ref (adL b t1 t2 t3 s.heap.size a)) (ARg s.heap.size) s s.heap := by
    intro a h1 h2
    have h2 : a < 4 := h2
    match a, h1, h2 with
    | 1, _, _ => exact va_Zref (htb _ (List.mem_append_right _ (List.mem_append_right _ (List.mem_append_left _ (List.mem_of_getElem? (i := 187) rfl))))) (hts _ (lw_m1 6 rfl rfl)) ht1 hlow
    | 2, _, _ => exact va_Zref (htb _ (List.mem_append_right _ (List.mem_append_right _ (List.mem_append_left _ (List.mem_of_getElem? (i := 195) rfl))))) (hts _ (lw_m1 6 rfl rfl)) ht2 hlow
    | 3, _, _ => exact va_Zref (htb _ (List.mem_append_right _ (List.mem_append_right _ (List.mem_append_right _ (List.mem_append_left _ (List.mem_of_getElem? (i := 23) rfl)))))) (hts _ (lw_m1 8 rfl rfl)) ht3 hlow
  have hNe : ∀ w ∈ nests, va_Nw w s := by
    simp only [nests, List.forall_mem_cons]
    refine ⟨va_Nw.of rfl (htb _ (List.mem_append_right _ (List.mem_append_right _ (List.mem_append_left _ (List.mem_of_getElem? (i := 101) rfl))))), va_Nw.of rfl (htb _ (List.mem_append_right _ (List.mem_append_right _ (List.mem_append_right _ (List.mem_append_left _ (List.mem_of_getElem? (i := 49) rfl)))))), va_Nw.of rfl (htb _ (List.mem_append_right _ (List.mem_append_right _ (List.mem_append_left _ (List.mem_of_getElem? (i := 238) rfl))))), va_Nw.of rfl (htb _ (List.mem_append_right _ (List.mem_append_right _ (List.mem_append_right _ (List.mem_append_left _ (List.mem_of_getElem? (i := 1) rfl)))))), va_Nw.of rfl (htb _ (List.mem_append_right _ (List.mem_append_right _ (List.mem_append_right _ (List.mem_append_left _ (List.mem_of_getElem? (i := 169) rfl)))))), va_Nw.of rfl (htb _ (List.mem_append_right _ (List.mem_append_right _ (List.mem_append_right _ (List.mem_append_left _ (List.mem_of_getElem? (i := 178) rfl)))))), va_Nw.of rfl (htb _ (List.mem_append_right _ (List.mem_append_left _ (List.mem_of_getElem? (i := 223) rfl)))), fun w hw => by cases hw⟩
  have hEX : EXT s.heap.size (adL b t1 t2 t3 s.heap.size) (H0A L xs) s := by
    intro k hk
    have hk : k < 4 := hk
    match k, hk with
    | 0, _ =>
      refine ⟨L, rfl, ?_⟩
      obtain ⟨scr, g1, g2, g3, g4, g5⟩ := hX
      refine ⟨scr, g1, g2, g3, Nat.le_of_eq g4.symm, by rw [g4], fun j hj => ?_, hlow b hbl⟩
      rw [g5 j hj]
      show some (Value.int (xs j)) = some (Value.int (Int32.ofInt ((xs ((j : Int).toNat)).toInt)))
      rw [Int32.ofInt_toInt, Int.toNat_natCast]
    | 1, _ => exact ⟨13, rfl, hT1⟩
    | 2, _ => exact ⟨13, rfl, hT2⟩
    | 3, _ => exact ⟨14, rfl, hT3⟩
  have hg := run_sound (D := (dC, dI)) (cI := cI) (cJ := cJ) (l := l) hA f DPL k_L_law 0 (entA k_L_law [vR 0]) [] (H0A L xs) (some (vI 1)) h' (by decide) (Nat.le_refl _) hrun p e room_1 s m #[Value.ref b] below meth c (lw_Z below #[Value.ref b] s) 4 600000 7302250 0 0 (0 + (h'.1 - 4)) (0 + (h'.2.1 - 0))
    ⟨hx, hb, hml, hown, hts, (fun h2 => absurd h2 (by decide)), ⟨by decide, by decide, Nat.le_refl _, Nat.le_refl _⟩, hK, hA, Nat.le_refl _, hZ, hNe⟩ rfl rfl rfl (by omega) (by omega) ?_
  · rw [lg_entry_eq]
    refine hg s.heap [] _ ⟨Nat.le_refl _, rfl, fun k q hq => ?_, va_S.rf, hEX⟩ (LRA.entry [vR 0] 4 (by decide) (fun v hv => ?_))
    · rw [show wsA (adL b t1 t2 t3 s.heap.size) cI cJ (H0A L xs) = [] from rfl] at hq
      cases hq
    · rw [List.mem_singleton.mp hv]
      rfl
  · intro pc i len a b' cc w st H locs lc hc hra hR
    rcases retA_some hra with ⟨rfl, u, rfl, hu, -⟩ | ⟨-, -, hu, -⟩
    · cases hu
      have hdg := ent_1 1 (by decide) hc rfl
      refine va_forget (fun q hq => hR.2.2.2.1.2.2 q hq) ?_
      refine W.widen (k := 600000) (n := 7302250) (by omega) (by omega) ?_
      exact lw_ret hx hb hr hlocks hdg
    · cases hu
