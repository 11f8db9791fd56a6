/-! the heap only grows, and what was there before us stays -/
def MON (h h' : HP) : Prop := h.1 ≤ h'.1 ∧ h.2.1 ≤ h'.2.1 ∧ ∀ q, q < EXN → h'.2.2.1 q = h.2.2.1 q ∧ h'.2.2.2 q = h.2.2.2 q
theorem MON.rf (h : HP) : MON h h := ⟨Nat.le_refl _, Nat.le_refl _, fun _ _ => ⟨rfl, rfl⟩⟩
theorem MON.tr {h1 h2 h3 : HP} (a : MON h1 h2) (b : MON h2 h3) : MON h1 h3 := ⟨Nat.le_trans a.1 b.1, Nat.le_trans a.2.1 b.2.1, fun q hq => ⟨(b.2.2 q hq).1.trans (a.2.2 q hq).1, (b.2.2 q hq).2.trans (a.2.2 q hq).2⟩⟩
theorem mon_up2 {h : HP} {q : Nat} {i v : Int} (hq : EXN ≤ q) : MON h (h.1, h.2.1, h.2.2.1, up2 h.2.2.2 q i v) := ⟨Nat.le_refl _, Nat.le_refl _, fun y hy => ⟨rfl, funext fun j => if_neg (fun z => by have := z.1; omega)⟩⟩
theorem mon_upT {h : HP} {q : Nat} {cl : LK} (hq : EXN ≤ q) : MON h (h.1, h.2.1, upT h.2.2.1 q cl, h.2.2.2) := ⟨Nat.le_refl _, Nat.le_refl _, fun y hy => ⟨if_neg (by omega), rfl⟩⟩
theorem mon_new {h : HP} {cl : LK} {z : Nat} (hE : EXN ≤ h.1) : MON h (h.1 + 1, h.2.1 + z, upT h.2.2.1 h.1 cl, upM h.2.2.2 h.1) := ⟨Nat.le_succ _, Nat.le_add_right _ _, fun y hy => ⟨if_neg (by omega), funext fun j => if_neg (by omega)⟩⟩
section MONO
variable {dp in0 : Bool} {pc pc' a b cc : Nat} {ls ls' : LoA} {st st' : List AV} {h h' : HP}
theorem mon_go {o : Option (List AV)} {n : Nat} (hs : goA n ls h o = some (pc', ls', st', h')) : MON h h' := by
  obtain ⟨-, -, -, rfl⟩ := goA_some hs
  exact MON.rf _
theorem mon_stI {i n : Nat} (hs : stI n ls i st h = some (pc', ls', st', h')) : MON h h' := by
  obtain ⟨_, -, -, -, -, rfl⟩ := stI_some hs
  exact MON.rf _
theorem mon_stR {i n : Nat} (hs : stR n ls i st h = some (pc', ls', st', h')) : MON h h' := by
  obtain ⟨_, -, -, -, -, rfl⟩ := stR_some hs
  exact MON.rf _
theorem mon_jmp {off : Int} {t : List AV} (hs : jmpA pc off ls t h = some (pc', ls', st', h')) : MON h h' := by
  obtain ⟨-, -, -, rfl⟩ := jmpA_some hs
  exact MON.rf _
theorem mon_br {off : Int} {q : Bool} {t : List AV} (hs : brA q pc off ls t h = some (pc', ls', st', h')) : MON h h' := by
  obtain ⟨_, -, -, -, -, -, rfl⟩ := brA_some hs
  exact MON.rf _
theorem mon_get {n : Nat} (hs : getA a b n ls st h = some (pc', ls', st', h')) : MON h h' := by
  unfold getA at hs
  split at hs
  · split at hs
    · split at hs
      · split at hs
        · split at hs
          · cases hs; exact MON.rf _
          · cases hs; exact MON.rf _
          · cases hs
        · cases hs
      · cases hs
    · cases hs
  · cases hs
theorem mon_put {n : Nat} (hs : putA in0 a b cc n ls st h = some (pc', ls', st', h')) : MON h h' := by
  obtain ⟨q, fs, hq, -, -, -, -, -, h9⟩ := putA_some hs
  rcases h9 with ⟨u, -, -, -, rfl⟩ | ⟨r, r0, -, -, -, rfl⟩
  · exact mon_up2 hq
  · exact mon_upT hq
theorem mon_ald {n : Nat} {lg : Bool} (hs : aldA lg n ls st h = some (pc', ls', st', h')) : MON h h' := by
  unfold aldA at hs
  split at hs
  · split at hs
    · split at hs
      · split at hs
        · cases hs; exact MON.rf _
        · cases hs
      · cases hs
    · cases hs
  · cases hs
theorem mon_alen {n : Nat} (hs : alenA n ls st h = some (pc', ls', st', h')) : MON h h' := by
  unfold alenA at hs
  split at hs
  · split at hs
    · split at hs
      · split at hs
        · cases hs; exact MON.rf _
        · cases hs
      · cases hs
    · cases hs
  · cases hs
theorem mon_iast {n : Nat} (hs : astA n ls st h false = some (pc', ls', st', h')) : MON h h' := by
  obtain ⟨u, i, q, _, -, hq, -, -, -, -, -, -, -, rfl⟩ := astI_some hs
  exact mon_up2 hq
theorem mon_last {n : Nat} (hs : astA n ls st h true = some (pc', ls', st', h')) : MON h h' := by
  obtain ⟨u, i, q, _, -, hq, -, -, -, -, -, -, -, rfl⟩ := astL_some hs
  exact mon_up2 hq
set_option maxHeartbeats 4000000 in
theorem simp_mon {i : Jvm.ClassFile.Instr} (hE : EXN ≤ h.1) (hs : simpA dp in0 i a b cc pc ls st h = some (pc', ls', st', h')) : MON h h' := by
  cases i with
  | aload_n j => exact mon_go hs
  | aload j => exact mon_go hs
  | iload_n j => exact mon_go hs
  | iload j => exact mon_go hs
  | istore_n j => exact mon_stI hs
  | istore j => exact mon_stI hs
  | astore_n j => exact mon_stR hs
  | astore j => exact mon_stR hs
  | iinc j n =>
    unfold simpA at hs
    dsimp only at hs
    split at hs
    · cases hs; exact MON.rf _
    · cases hs
  | iconst n => cases hs; exact MON.rf _
  | bipush n =>
    unfold simpA at hs
    dsimp only at hs
    split at hs
    · cases hs; exact MON.rf _
    · cases hs
  | sipush n =>
    unfold simpA at hs
    dsimp only at hs
    split at hs
    · cases hs; exact MON.rf _
    · cases hs
  | ldc j => cases hs; exact MON.rf _
  | ldc_w j => cases hs; exact MON.rf _
  | lconst j => cases hs; exact MON.rf _
  | iadd => exact mon_go hs
  | isub => exact mon_go hs
  | imul => exact mon_go hs
  | iand => exact mon_go hs
  | ior => exact mon_go hs
  | ixor => exact mon_go hs
  | ishl => exact mon_go hs
  | ishr => exact mon_go hs
  | iushr => exact mon_go hs
  | idiv =>
    unfold simpA at hs
    dsimp only at hs
    split at hs
    · split at hs
      · cases hs
      · cases hs; exact MON.rf _
    · cases hs
  | irem =>
    unfold simpA at hs
    dsimp only at hs
    split at hs
    · split at hs
      · cases hs
      · cases hs; exact MON.rf _
    · cases hs
  | ineg =>
    unfold simpA at hs
    dsimp only at hs
    split at hs
    · cases hs; exact MON.rf _
    · cases hs
  | land => exact mon_go hs
  | lor => exact mon_go hs
  | lshl => exact mon_go hs
  | lshr => exact mon_go hs
  | lcmp =>
    unfold simpA at hs
    dsimp only at hs
    split at hs
    · cases hs; exact MON.rf _
    · cases hs
  | dup =>
    unfold simpA at hs
    dsimp only at hs
    split at hs
    · cases hs; exact MON.rf _
    · cases hs; exact MON.rf _
    · cases hs
  | dup2 =>
    unfold simpA at hs
    dsimp only at hs
    split at hs
    · cases hs; exact MON.rf _
    · cases hs
  | if_icmp q off =>
    unfold simpA at hs
    dsimp only at hs
    split at hs
    · exact mon_br hs
    · cases hs
  | ifCond q off =>
    unfold simpA at hs
    dsimp only at hs
    split at hs
    · exact mon_br hs
    · cases hs
  | goto off => exact mon_jmp hs
  | tableswitch i0 lo hi offs =>
    obtain ⟨_, -, -, rfl, -⟩ := tsw_some hs
    exact MON.rf _
  | getfield j => exact mon_get hs
  | putfield j => exact mon_put hs
  | iaload => exact mon_ald hs
  | laload => exact mon_ald hs
  | iastore => exact mon_iast hs
  | lastore => exact mon_last hs
  | arraylength => exact mon_alen hs
  | newarray t =>
    obtain ⟨z, r, -, -, -, -, -, -, hq⟩ := newaA_some hs
    rcases hq with ⟨-, rfl⟩ | ⟨-, rfl⟩
    · exact mon_new hE
    · exact mon_new hE
  | new j =>
    unfold simpA newA at hs
    cases hs
    exact mon_new hE
  | getstatic j => cases hs; exact MON.rf _
  | invokespecial j =>
    unfold simpA at hs
    dsimp only at hs
    split at hs
    · split at hs
      · split at hs
        · cases hs; exact MON.rf _
        · cases hs
      · cases hs
    · cases hs
  | invokestatic j =>
    unfold simpA at hs
    dsimp only at hs
    split at hs
    · split at hs
      · split at hs
        · cases hs; exact MON.rf _
        · cases hs
      · cases hs
    · cases hs
  | _ => cases hs
/-- what a step of the machine's own kind is -/
theorem stepA_inl {d k : Nat} (hs : stepA d k pc ls st h = some (.inl (pc', ls', st', h'))) : ∃ (i : Jvm.ClassFile.Instr) (len a b cc w : Nat), cd k pc = some (i, len, a, b, cc, w) ∧ simpA (decide (0 < d)) (decide ((mt k).2.2.2.2.2.1 = 2 ∧ (mt k).2.2.2.2.2.2 = a)) i a b cc pc ls st h = some (pc', ls', st', h') := by
  unfold stepA at hs
  split at hs
  · cases hs
  · rename_i hc
    split at hs
    · cases hs
    · split at hs
      · cases hs
      · split at hs
        · rename_i hq
          cases hs
          exact ⟨_, _, _, _, _, _, hc, hq⟩
        · cases hs
theorem stepA_ret {d k : Nat} {r : Option AV} (hs : stepA d k pc ls st h = some (.inr (.inr r))) : ∃ (i : Jvm.ClassFile.Instr) (len a b cc w : Nat), cd k pc = some (i, len, a, b, cc, w) ∧ retA (mt k).2.2.2.1 i st = some r := by
  unfold stepA at hs
  split at hs
  · cases hs
  · rename_i hc
    split at hs
    · rename_i hq
      cases hs
      exact ⟨_, _, _, _, _, _, hc, hq⟩
    · split at hs
      · cases hs
      · split at hs
        · cases hs
        · cases hs
theorem stepA_call {d k k' : Nat} {as rest : List AV} (hs : stepA d k pc ls st h = some (.inr (.inl (k', as, rest)))) : ∃ (i : Jvm.ClassFile.Instr) (len a b cc w : Nat), cd k pc = some (i, len, a, b, cc, w) ∧ callA i a b st h = some (k', as, rest) := by
  unfold stepA at hs
  split at hs
  · cases hs
  · rename_i hc
    split at hs
    · cases hs
    · split at hs
      · rename_i hq
        cases hs
        exact ⟨_, _, _, _, _, _, hc, hq⟩
      · split at hs
        · cases hs
        · cases hs
theorem run_mon : ∀ (f d k pc : Nat) (ls : LoA) (st : List AV) (h : HP) (r : Option AV) (h' : HP), EXN ≤ h.1 → runA f d k pc ls st h = some (r, h') → MON h h' := by
  intro f
  induction f with
  | zero => intro d k pc ls st h r h' _ hr; cases hr
  | succ f ih =>
    intro d k pc ls st h r h' hE hr
    unfold runA at hr
    split at hr
    · cases hr
    · rename_i hs
      obtain ⟨i, len, a, b, cc, w, -, h2⟩ := stepA_inl hs
      have m1 := simp_mon hE h2
      exact m1.tr (ih _ _ _ _ _ _ _ _ (Nat.le_trans hE m1.1) hr)
    · cases hr
      exact MON.rf _
    · split at hr
      · cases hr
      · split at hr
        · cases hr
        · rename_i hq
          split at hq
          · have m1 := ih _ _ _ _ _ _ _ _ hE hq
            exact m1.tr (ih _ _ _ _ _ _ _ _ (Nat.le_trans hE m1.1) hr)
          · cases hq
end MONO
