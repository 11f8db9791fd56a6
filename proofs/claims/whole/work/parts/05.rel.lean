/-! HOW AN ABSTRACT STATE STANDS FOR A STATE OF THE MACHINE -/
def cv (ad : Nat → Nat) : AV → Value
  | .inl (.inl i) => .int (Int32.ofInt i)
  | .inl (.inr i) => .long (Int64.ofInt i)
  | .inr (some k) => .ref (ad k)
  | .inr none => .null
def fv1 (ad : Nat → Nat) (x : Int) : Option (Option Nat) → Value
  | none => .int (Int32.ofInt x)
  | some r => cv ad (.inr r)
def fvA (ad : Nat → Nat) (M : Int → Int) (fs : List (Option (Option Nat))) : List Value := fs.mapIdx (fun j f => fv1 ad (M (j : Int)) f)
def cellA (ad : Nat → Nat) (cI cJ : ClassId) (T : Nat → LK) (M : Nat → Int → Int) (k : Nat) : va_E := match T k with
  | .inl (false, n) => .inl (cI, n, .inl (fun j => Int32.ofInt (M k (j : Int))))
  | .inl (true, n) => .inl (cJ, n, .inr (.inl (fun j => Int64.ofInt (M k (j : Int)))))
  | .inr (ci, fs) => .inr (ci, fvA ad (M k) fs)
def wsA (ad : Nat → Nat) (cI cJ : ClassId) (h : HP) : va_W := (List.range (h.1 - EXN)).map (fun q => (ad (q + EXN), cellA ad cI cJ h.2.2.1 h.2.2.2 (q + EXN)))
theorem wsA_at {ad : Nat → Nat} {cI cJ : ClassId} {h : HP} {k : Nat} (h1 : EXN ≤ k) (h2 : k < h.1) : (wsA ad cI cJ h)[k - EXN]? = some (ad k, cellA ad cI cJ h.2.2.1 h.2.2.2 k) := by
  unfold wsA
  rw [List.getElem?_map, List.getElem?_range (by omega), Option.map_some, show k - EXN + EXN = k by omega]
theorem cellA_congr {ad : Nat → Nat} {cI cJ : ClassId} {T T' : Nat → LK} {M M' : Nat → Int → Int} {k : Nat} (hT : T' k = T k) (hM : M' k = M k) : cellA ad cI cJ T' M' k = cellA ad cI cJ T M k := by
  unfold cellA
  rw [hT, hM]
theorem wsA_set {ad : Nat → Nat} {cI cJ : ClassId} {h : HP} {k : Nat} {T' : Nat → LK} {M' : Nat → Int → Int} (h1 : EXN ≤ k) (hT : ∀ a, a ≠ k → T' a = h.2.2.1 a) (hM : ∀ a, a ≠ k → M' a = h.2.2.2 a) :
    (wsA ad cI cJ h).set (k - EXN) (ad k, cellA ad cI cJ T' M' k) = wsA ad cI cJ (h.1, h.2.1, T', M') := by
  apply List.ext_getElem?
  intro i
  unfold wsA
  by_cases hi : i < h.1 - EXN
  · rw [List.getElem?_map, List.getElem?_range hi, Option.map_some]
    by_cases he : k - EXN = i
    · subst he
      rw [List.getElem?_set_self (by simpa using hi), show k - EXN + EXN = k by omega]
    · rw [List.getElem?_set_ne he, List.getElem?_map, List.getElem?_range hi, Option.map_some, cellA_congr (hT _ (by omega)) (hM _ (by omega))]
  · rw [List.getElem?_eq_none (by simpa using hi), List.getElem?_eq_none (by simpa using hi)]
theorem wsA_push {ad : Nat → Nat} {cI cJ : ClassId} {h : HP} {z : Nat} {T' : Nat → LK} {M' : Nat → Int → Int} (h1 : EXN ≤ h.1) (hT : ∀ a, a < h.1 → T' a = h.2.2.1 a) (hM : ∀ a, a < h.1 → M' a = h.2.2.2 a) :
    wsA ad cI cJ h ++ [(ad h.1, cellA ad cI cJ T' M' h.1)] = wsA ad cI cJ (h.1 + 1, z, T', M') := by
  unfold wsA
  rw [show h.1 + 1 - EXN = (h.1 - EXN) + 1 by omega, List.range_succ, List.map_append, List.map_cons, List.map_nil, show h.1 - EXN + EXN = h.1 by omega]
  congr 1
  apply List.map_congr_left
  intro q hq
  rw [cellA_congr (hT _ (by have := List.mem_range.mp hq; omega)) (hM _ (by have := List.mem_range.mp hq; omega))]
def ARg (base : Nat) : Nat → Prop := fun q => base ≤ q
theorem wsA_D {base : Nat} {ad : Nat → Nat} {cI cJ : ClassId} {h : HP} (hA : ∀ q, ad (q + EXN) = base + q) : va_D (ARg base) (wsA ad cI cJ h) := by
  have key : ∀ (i : Nat) (x : Nat × va_E), (wsA ad cI cJ h)[i]? = some x → x.1 = base + i := by
    intro i x hx
    unfold wsA at hx
    rw [List.getElem?_map] at hx
    by_cases hi : i < h.1 - EXN
    · rw [List.getElem?_range hi, Option.map_some] at hx
      cases hx
      exact hA i
    · rw [List.getElem?_eq_none (by simpa using hi)] at hx
      cases hx
  refine ⟨fun i j x y hx hy hxy => ?_, fun k x hx => ?_⟩
  · have h1 := key i x hx
    have h2 := key j y hy
    omega
  · show base ≤ x.1
    have h1 := key k x hx
    omega
def EXT (base : Nat) (ad : Nat → Nat) (h : HP) (s : State) : Prop := ∀ k, k < EXN → ∃ n, h.2.2.1 k = .inl (false, n) ∧ va_T .int (ad k) n (fun j => .int (Int32.ofInt (h.2.2.2 k (j : Int)))) (ARg base) s s.heap
def REL (base : Nat) (ad : Nat → Nat) (D : va_G) (cI cJ : ClassId) (s : State) (h : HP) (H : Heap) (locs : List Loc) : Prop := EXN ≤ h.1 ∧ H.size + EXN = base + h.1 ∧ va_P D vwCl (wsA ad cI cJ h) H ∧ va_S (ARg base) s.heap H locs ∧ EXT base ad h s
def LRA (ad : Nat → Nat) (nL : Nat) (ls : LoA) (lc : Array Slot) : Prop := lc.size = nL ∧ ls.length = nL ∧ lv_wf lc ∧ ∀ (i : Nat) (v : AV), ls[i]? = some (some v) → lc[i]? = some (Slot.val (cv ad v)) ∧ (cv ad v).category = 1
def ascA (ad : Nat → Nat) (ls : LoA) : List (Nat × Value) := ls.zipIdx.filterMap (fun q => q.1.map (fun v => (q.2, cv ad v)))
theorem ascA_mem {ad : Nat → Nat} {ls : LoA} {x : Nat × Value} : x ∈ ascA ad ls ↔ ∃ v, ls[x.1]? = some (some v) ∧ x.2 = cv ad v := by
  unfold ascA
  rw [List.mem_filterMap]
  constructor
  · rintro ⟨⟨o, i⟩, h1, h2⟩
    cases o with
    | none => cases h2
    | some v =>
      cases h2
      exact ⟨v, List.mem_zipIdx_iff_getElem?.mp h1, rfl⟩
  · rintro ⟨v, h1, h2⟩
    refine ⟨(some v, x.1), List.mem_zipIdx_iff_getElem?.mpr h1, ?_⟩
    rw [Option.map_some, ← h2]
theorem LRA.has {ad : Nat → Nat} {nL : Nat} {ls : LoA} {lc : Array Slot} (h : LRA ad nL ls lc) : lv_has lc nL (ascA ad ls) := by
  refine ⟨h.1, h.2.2.1, fun q hq => ?_⟩
  obtain ⟨v, h1, h2⟩ := ascA_mem.mp hq
  rw [h2]
  exact (h.2.2.2 _ _ h1).1
theorem LRA.store {ad : Nat → Nat} {nL : Nat} {ls : LoA} {lc lc' : Array Slot} (h : LRA ad nL ls lc) {i : Nat} {v : AV} (hv : (cv ad v).category = 1) (hi : i < nL)
    (hl : lv_has lc' nL ((i, cv ad v) :: (ascA ad ls).filter (fun q => !(q.1 == i) && !(q.1 + 1 == i && q.2.category == 2)))) : LRA ad nL (ls.set i (some v)) lc' := by
  refine ⟨hl.1, by rw [List.length_set]; exact h.2.1, hl.2.1, fun j x hj => ?_⟩
  by_cases he : i = j
  · subst he
    rw [List.getElem?_set_self (by rw [h.2.1]; exact hi)] at hj
    cases hj
    exact ⟨hl.2.2 (i, cv ad v) List.mem_cons_self, hv⟩
  · rw [List.getElem?_set_ne he] at hj
    have hx := h.2.2.2 j x hj
    refine ⟨hl.2.2 (j, cv ad x) (List.mem_cons_of_mem _ (List.mem_filter.mpr ⟨ascA_mem.mpr ⟨x, hj, rfl⟩, ?_⟩)), hx.2⟩
    have e1 : (j == i) = false := by simpa using fun q => he q.symm
    have e2 : ((cv ad x).category == 2) = false := by rw [hx.2]; rfl
    simp [e1, e2]
theorem LRA.at {ad : Nat → Nat} {nL : Nat} {ls : LoA} {lc : Array Slot} (h : LRA ad nL ls lc) {i : Nat} {v : AV} (hi : ls[i]? = some (some v)) : lc[i]? = some (.val (cv ad v)) := (h.2.2.2 i v hi).1
theorem LRA.entry {ad : Nat → Nat} (as : List AV) (n : Nat) (hn : as.length ≤ n) (hc : ∀ v ∈ as, (cv ad v).category = 1) : LRA ad n (as.map some ++ List.replicate (n - as.length) none) ((lg_sl (as.map (cv ad)) ++ List.replicate (n - (lg_sl (as.map (cv ad))).length) Slot.unset).toArray) := by
  have hsl : ∀ l : List AV, (∀ v ∈ l, (cv ad v).category = 1) → lg_sl (l.map (cv ad)) = l.map (fun v => Slot.val (cv ad v)) := by
    intro l
    induction l with
    | nil => intro _; rfl
    | cons v t ih =>
      intro hl
      have h1 := hl v List.mem_cons_self
      have h2 := ih (fun x hx => hl x (List.mem_cons_of_mem _ hx))
      unfold lg_sl at h2 ⊢
      rw [List.map_cons, List.flatMap_cons, h2, List.map_cons, if_neg (by rw [h1]; decide)]
      rfl
  have hlen : (lg_sl (as.map (cv ad))).length ≤ n := by rw [hsl as hc, List.length_map]; exact hn
  have hE := lv_entry (as.map (cv ad)) (n := n) hlen
  refine ⟨hE.1, by rw [List.length_append, List.length_map, List.length_replicate]; omega, hE.2.1, fun i v hi => ?_⟩
  by_cases hl : i < as.length
  · rw [List.getElem?_append_left (by rw [List.length_map]; exact hl), List.getElem?_map] at hi
    cases ha : as[i]? with
    | none => rw [ha] at hi; cases hi
    | some x =>
      rw [ha] at hi
      cases hi
      refine ⟨?_, hc _ (List.mem_of_getElem? ha)⟩
      rw [hsl as hc, List.getElem?_toArray, List.getElem?_append_left (by rw [List.length_map]; exact hl), List.getElem?_map, ha]
      rfl
  · rw [List.getElem?_append_right (by rw [List.length_map]; omega)] at hi
    have := List.mem_replicate.mp (List.mem_of_getElem? hi)
    cases this.2
theorem ent_ok {k pc : Nat} {e : EN} (hk : k < nm) (he : cd k pc = some e) : chkE k pc e = true := by
  have h1 := chkK_all hk
  unfold chkK at h1
  have h2 : (edl.getD k [])[pc]? = some (some e) := by
    unfold cd at he
    rw [List.getD_eq_getElem?_getD] at he
    cases h : (edl.getD k [])[pc]? with
    | none => rw [h] at he; cases he
    | some x => rw [h] at he; cases he; rfl
  exact List.all_eq_true.mp h1 (some e, pc) (List.mem_zipIdx_iff_getElem?.mpr h2)
theorem ent_dec {k pc : Nat} {i : Jvm.ClassFile.Instr} {len a b c w : Nat} (hk : k < nm) (he : cd k pc = some (i, len, a, b, c, w)) : decode (mt k).2.1 pc = .ok (i, len) ∧ (∀ n, lnI i = some n → len = n) ∧ ∀ x kd, lkI i a = some (x, kd) → lkl[w]? = some ((mt k).2.2.2.2.2.2, x, kd, a, b, c) := by
  have h := ent_ok hk he
  unfold chkE at h
  rw [Bool.and_eq_true, Bool.and_eq_true, decide_eq_true_eq] at h
  obtain ⟨⟨h1, h2⟩, h3⟩ := h
  refine ⟨h1, fun n hn => ?_, fun x kd hx => ?_⟩
  · dsimp only at h2
    rw [hn] at h2
    simpa using h2
  · dsimp only at h3
    rw [hx] at h3
    simpa using h3
theorem ent_lnk {k pc : Nat} {i : Jvm.ClassFile.Instr} {len a b c w x kd : Nat} (hk : k < nm) (he : cd k pc = some (i, len, a, b, c, w)) (hx : lkI i a = some (x, kd)) : lkl[w]? = some ((mt k).2.2.2.2.2.2, x, kd, a, b, c) ∧ OkL w := by
  have h := (ent_dec hk he).2.2 x kd hx
  have hw : w < lkl.length := (List.getElem?_eq_some_iff.mp h).1
  rw [lkl_len] at hw
  exact ⟨h, okL_all w hw⟩
theorem ent_1 {k pc : Nat} {i : Jvm.ClassFile.Instr} {len a b c w : Nat} (n : Nat) (hk : k < nm) (he : cd k pc = some (i, len, a, b, c, w)) (hn : lnI i = some n) : decode (mt k).2.1 pc = .ok (i, n) := by
  have h := ent_dec hk he
  rw [← h.2.1 n hn]
  exact h.1
