/-! A RUN of the abstract machine is a run of the machine -/
theorem cat_of {ad : Nat → Nat} {as : List AV} (h : as.all nLg = true) : ∀ v ∈ as, (cv ad v).category = 1 := by
  intro v hv
  have h1 := List.all_eq_true.mp h v hv
  match v, h1 with
  | .inl (.inl _), _ => rfl
  | .inr (some _), _ => rfl
  | .inr none, _ => rfl
theorem retA_some {rt : Option FieldType} {i : Jvm.ClassFile.Instr} {st : List AV} {r : Option AV} (h : retA rt i st = some r) : (i = .ireturn ∧ ∃ u : Int, st = [vI u] ∧ r = some (vI u) ∧ (rt = some .int ∨ (rt = some .boolean ∧ (u = 0 ∨ u = 1)))) ∨ (i = .return_ ∧ st = [] ∧ r = none ∧ rt = none) := by
  unfold retA at h
  split at h
  · split at h
    · cases h
      exact Or.inl ⟨rfl, _, rfl, rfl, Or.inl rfl⟩
    · split at h
      · rename_i hu
        cases h
        exact Or.inl ⟨rfl, _, rfl, rfl, Or.inr ⟨rfl, hu⟩⟩
      · cases h
    · cases h
  · split at h
    · cases h
      exact Or.inr ⟨rfl, rfl, rfl, rfl⟩
    · cases h
  · cases h
section RUN
variable {base : Nat} {ad : Nat → Nat} {D : va_G} {cI cJ : ClassId} {l : Launch}
/-- what a run of the fuel f says of the machine -/
def SND (base : Nat) (ad : Nat → Nat) (D : va_G) (cI cJ : ClassId) (l : Launch) (f : Nat) : Prop := ∀ (d k pc : Nat) (ls : LoA) (st : List AV) (h : HP) (r : Option AV) (h' : HP), k < nm → EXN ≤ h.1 → runA f d k pc ls st h = some (r, h') → ∀ (p : Program) (e : Env) (R : Room) (s : State) (m : MethodId) (args : Array Value) (below : List Frame) (meth : Method) (c : Code) (Q : State → Prop) (nL mc ms cells slots tc ts : Nat),
  CTX base ad D cI cJ p R s m args meth c k d mc ms → nL = (mt k).2.2.1 → cells + (h'.1 - h.1) = tc → slots + (h'.2.1 - h.2.1) = ts → tc ≤ mc → ts ≤ ms →
  (∀ (pc : Nat) (i : Jvm.ClassFile.Instr) (len a b cc w : Nat) (st : List AV) (H : Heap) (locs : List Loc) (lc : Array Slot), cd k pc = some (i, len, a, b, cc, w) → retA (mt k).2.2.2.1 i st = some r → REL base ad D cI cJ s h' H locs → W p l e R s m args below meth c H locs tc ts Q (F0 m pc lc (st.map (cv ad)))) →
  GA base ad D cI cJ p l e R s m args below meth c Q nL pc ls st h cells slots
set_option maxHeartbeats 4000000 in
theorem met_of {f d k : Nat} {as : List AV} {h h' : HP} {r : Option AV} (hA : ∀ q, ad (q + EXN) = base + q) (ih : SND base ad D cI cJ l f) (hk : k < nmM) (hE : EXN ≤ h.1) (hl : as.all nLg = true ∧ as.length ≤ (mt k).2.2.1) (hr : runA f d k 0 (entA k as) [] h = some (r, h')) :
    Met l (mt k).1 (wsK k) (rmA d (h'.1 - h.1) (h'.2.1 - h.2.1)) (PcA base ad D cI cJ as h) (QcA base ad D cI cJ r h') (h'.1 - h.1) (h'.2.1 - h.2.1) (ARg base) := by
  obtain ⟨o1, o2, o3, o4, o5, o6, o7⟩ := okM_all k hk
  have hkn : k < nm := Nat.lt_of_lt_of_le hk (Nat.sub_le _ _)
  refine Met.ofW (cc := (mt k).2.1) (maxL := (mt k).2.2.1) (ret := (mt k).2.2.2.1) o4.1 rfl ?_
  intro p e s m args below meth c s₁ B hml hv
  obtain ⟨rfl, -, hsz, hP, hK, hX, hZ, hN⟩ := hv
  have hx := B.exec
  have hb := B.bytes
  have hrt := B.returns
  have hts0 := atoms_spec (ws := wsK k) B.pre
  have hts : ∀ w ∈ lw_G, w.before (as.map (cv ad)).toArray s = true := fun w hw => hts0 w (List.mem_cons_of_mem _ hw)
  have hown : s.vm.findClass (cnm (mt k).2.2.2.2.2.2) = some m.cls := by rw [← o3]; exact findClass_of_methodNamed B.named
  have hlocks := B.notSynchronized
  have hbs : base ≤ s.heap.size := by omega
  have hin : (mt k).2.2.2.2.2.1 = 2 → meth.name = "<init>" := by
    intro h2
    rw [(name_of_methodNamed B.named B.method).1]
    rcases o7 with z | z | z
    · have := z.1; omega
    · have := z.1; omega
    · exact z.2.1
  have hg := ih d k 0 (entA k as) [] h r h' hkn hE hr p e (rmA d (h'.1 - h.1) (h'.2.1 - h.2.1)) s m (as.map (cv ad)).toArray below meth c (MQ below (QcA base ad D cI cJ r h') (as.map (cv ad)).toArray s (h'.1 - h.1) (h'.2.1 - h.2.1) (ARg base)) (mt k).2.2.1 (h'.1 - h.1) (h'.2.1 - h.2.1) 0 0 (h'.1 - h.1) (h'.2.1 - h.2.1)
    ⟨hx, hb, hml, hown, hts, hin, ⟨Nat.le_refl _, Nat.le_refl _, Nat.le_refl _, Nat.le_refl _⟩, hK, hA, hbs, hZ, hN⟩ rfl (Nat.zero_add _) (Nat.zero_add _) (Nat.le_refl _) (Nat.le_refl _) ?_
  · rw [lg_entry_eq]
    exact hg s.heap [] _ ⟨hE, hsz, hP, va_S.rf, hX⟩ (LRA.entry as _ hl.2 (cat_of hl.1))
  · intro pc i len a b cc w st H locs lc hc hra hR
    have fin : ∀ (v : Option Value), v = r.map (cv ad) → ∀ t : State, t.heap = H → s.WarmedH t.vm → QcA base ad D cI cJ r h' (as.map (cv ad)).toArray s (.returned v) t := by
      intro v hv t ht _
      refine ⟨by rw [hv], by rw [ht]; exact hR.2.1, by rw [ht]; exact hR.2.2.1, fun q hq => ?_⟩
      rw [ht]
      exact hR.2.2.2.1.2.1 q (by omega) (Nat.not_le.mpr hq)
    rcases retA_some hra with ⟨rfl, u, rfl, rfl, hq⟩ | ⟨rfl, rfl, rfl, hq⟩
    · have hdg := ent_1 1 hkn hc rfl
      rcases hq with hq | ⟨hq, hu⟩
      · exact W.iret (v := Int32.ofInt u) hx hb (hrt.trans hq) (fin _ rfl) hR.2.2.2.1.2.2 hdg hlocks
      · refine W.zret (v := Int32.ofInt u) (ty := .boolean) hx hb (hrt.trans hq) ?_ (fin _ rfl) hR.2.2.2.1.2.2 hdg hlocks
        rcases hu with rfl | rfl <;> decide
    · have hdg := ent_1 1 hkn hc rfl
      exact W.vret hx hb (hrt.trans hq) (fin _ rfl) hR.2.2.2.1.2.2 hdg hlocks
set_option maxHeartbeats 4000000 in
theorem run_sound (hA : ∀ q, ad (q + EXN) = base + q) : ∀ f : Nat, SND base ad D cI cJ l f := by
  intro f
  induction f with
  | zero => intro d k pc ls st h r h' _ _ hr; cases hr
  | succ f ih =>
    intro d k pc ls st h r h' hk hE hr p e R s m args below meth c Q nL mc ms cells slots tc ts C hnL htc hts hmc hms hret
    have hmon := run_mon _ _ _ _ _ _ _ _ _ hE hr
    unfold runA at hr
    split at hr
    · cases hr
    · rename_i pc1 ls1 st1 h1 hs
      obtain ⟨i, len, a, b, cc, w, hc, h2⟩ := stepA_inl hs
      have m1 := simp_mon hE h2
      have m2 := run_mon _ _ _ _ _ _ _ _ _ (Nat.le_trans hE m1.1) hr
      have q1 := m1.1
      have q2 := m1.2.1
      have q3 := m2.1
      have q4 := m2.2.1
      exact simp_sound C hnL hk hc h2 (by omega) (by omega) (ih d k pc1 ls1 st1 h1 r h' hk (Nat.le_trans hE m1.1) hr p e R s m args below meth c Q nL mc ms _ _ tc ts C hnL (by omega) (by omega) hmc hms hret)
    · rename_i r1 hs
      cases hr
      obtain ⟨i, len, a, b, cc, w, hc, h2⟩ := stepA_ret hs
      intro H locs lc hR hL
      have e1 : cells = tc := by omega
      have e2 : slots = ts := by omega
      rw [e1, e2]
      exact hret pc i len a b cc w st H locs lc hc h2 hR
    · rename_i k' as rest hs
      split at hr
      · cases hr
      · rename_i d'
        split at hr
        · cases hr
        · rename_i r1 h1 hq
          split at hq
          · rename_i hl
            obtain ⟨i, len, a, b, cc, w, hc, h2⟩ := stepA_call hs
            have m1 := run_mon _ _ _ _ _ _ _ _ _ hE hq
            have m2 := run_mon _ _ _ _ _ _ _ _ _ (Nat.le_trans hE m1.1) hr
            have q1 := m1.1
            have q2 := m1.2.1
            have q3 := m2.1
            have q4 := m2.2.1
            exact ga_call C hnL hk hc h2 m1 (by omega) (by omega) (fun hk' => met_of hA ih hk' hE hl hq) (ih (d' + 1) k (pc + 3) ls (r1.toList ++ rest) h1 r h' hk (Nat.le_trans hE m1.1) hr p e R s m args below meth c Q nL mc ms _ _ tc ts C hnL (by omega) (by omega) hmc hms hret)
          · cases hq
end RUN
