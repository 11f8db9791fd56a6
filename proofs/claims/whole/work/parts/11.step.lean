section STEP
variable {base : Nat} {ad : Nat → Nat} {D : va_G} {cI cJ : ClassId} {p : Program} {l : Launch} {e : Env} {R : Room} {s : State} {m : MethodId} {args : Array Value} {below : List Frame} {meth : Method} {c : Code} {Q : State → Prop} {k d mc ms nL pc pc' len a b cc w cells slots : Nat} {ls ls' : LoA} {st st' : List AV} {h h' : HP}
theorem tsw_some {dp0 in0 : Bool} {i0 lo hi : Int} {offs : Array Int} (hs : simpA dp0 in0 (.tableswitch i0 lo hi offs) a b cc pc ls st h = some (pc', ls', st', h')) : ∃ u : Int, st = vI u :: st' ∧ ls' = ls ∧ h' = h ∧ (((w32 u < lo ∨ hi < w32 u) ∧ (pc : Int) + i0 = (pc' : Int)) ∨ (¬ (w32 u < lo ∨ hi < w32 u) ∧ ∃ off, offs[(w32 u - lo).toNat]? = some off ∧ (pc : Int) + off = (pc' : Int))) := by
  unfold simpA at hs
  dsimp only at hs
  split at hs
  · split at hs
    · rename_i hq
      obtain ⟨h1, rfl, rfl, rfl⟩ := jmpA_some hs
      exact ⟨_, rfl, rfl, rfl, Or.inl ⟨hq, h1⟩⟩
    · rename_i hq
      split at hs
      · rename_i ho
        obtain ⟨h1, rfl, rfl, rfl⟩ := jmpA_some hs
        exact ⟨_, rfl, rfl, rfl, Or.inr ⟨hq, _, ho, h1⟩⟩
      · cases hs
  · cases hs
set_option maxHeartbeats 4000000 in
theorem simp_sound {i : Jvm.ClassFile.Instr} (C : CTX base ad D cI cJ p R s m args meth c k d mc ms) (hnL : nL = (mt k).2.2.1) (hk : k < nm) (he : cd k pc = some (i, len, a, b, cc, w)) (hs : simpA (decide (0 < d)) (decide ((mt k).2.2.2.2.2.1 = 2 ∧ (mt k).2.2.2.2.2.2 = a)) i a b cc pc ls st h = some (pc', ls', st', h')) (hc : cells + (h'.1 - h.1) ≤ mc) (hsl : slots + (h'.2.1 - h.2.1) ≤ ms)
    (kk : GA base ad D cI cJ p l e R s m args below meth c Q nL pc' ls' st' h' (cells + (h'.1 - h.1)) (slots + (h'.2.1 - h.2.1))) : GA base ad D cI cJ p l e R s m args below meth c Q nL pc ls st h cells slots := by
  have C0 := C
  obtain ⟨hx, hb, hml, hown, hts, hin, hroom, hK, hA, hbs, hZ, hN⟩ := C0
  cases i with
  | aload_n j =>
    have hdg := ent_1 1 hk he rfl
    obtain ⟨ho, rfl, rfl, rfl⟩ := goA_some hs
    obtain ⟨q, hq, rfl⟩ := ldR_some ho
    exact ga_same (fun H locs lc hR hL kk => lv_aload_n hx hb hdg rfl (hL.at hq) (kk lc hL)) kk
  | aload j =>
    have hdg := ent_1 2 hk he rfl
    obtain ⟨ho, rfl, rfl, rfl⟩ := goA_some hs
    obtain ⟨q, hq, rfl⟩ := ldR_some ho
    exact ga_same (fun H locs lc hR hL kk => lv_aload hx hb hdg (hL.at hq) (kk lc hL)) kk
  | iload_n j =>
    have hdg := ent_1 1 hk he rfl
    obtain ⟨ho, rfl, rfl, rfl⟩ := goA_some hs
    obtain ⟨q, hq, rfl⟩ := ldI_some ho
    exact ga_same (fun H locs lc hR hL kk => lv_iload_n hx hb hdg rfl (hL.at hq) (kk lc hL)) kk
  | iload j =>
    have hdg := ent_1 2 hk he rfl
    obtain ⟨ho, rfl, rfl, rfl⟩ := goA_some hs
    obtain ⟨q, hq, rfl⟩ := ldI_some ho
    exact ga_same (fun H locs lc hR hL kk => lv_iload hx hb hdg (hL.at hq) (kk lc hL)) kk
  | istore_n j =>
    have hdg := ent_1 1 hk he rfl
    obtain ⟨q, rfl, hj, rfl, rfl, rfl⟩ := stI_some hs
    exact ga_same (fun H locs lc hR hL kk => lv_istore_n hx hb hdg rfl hL.has (by rw [← hL.2.1]; exact hj) rfl (fun lc' hl => kk lc' (hL.store rfl (by rw [← hL.2.1]; exact hj) hl))) kk
  | istore j =>
    have hdg := ent_1 2 hk he rfl
    obtain ⟨q, rfl, hj, rfl, rfl, rfl⟩ := stI_some hs
    exact ga_same (fun H locs lc hR hL kk => lv_istore hx hb hdg hL.has (by rw [← hL.2.1]; exact hj) rfl (fun lc' hl => kk lc' (hL.store rfl (by rw [← hL.2.1]; exact hj) hl))) kk
  | astore_n j =>
    have hdg := ent_1 1 hk he rfl
    obtain ⟨q, rfl, hj, rfl, rfl, rfl⟩ := stR_some hs
    exact ga_same (fun H locs lc hR hL kk => lv_astore_n hx hb hdg rfl hL.has (by rw [← hL.2.1]; exact hj) rfl (fun lc' hl => kk lc' (hL.store rfl (by rw [← hL.2.1]; exact hj) hl))) kk
  | astore j =>
    have hdg := ent_1 2 hk he rfl
    obtain ⟨q, rfl, hj, rfl, rfl, rfl⟩ := stR_some hs
    exact ga_same (fun H locs lc hR hL kk => lv_astore hx hb hdg hL.has (by rw [← hL.2.1]; exact hj) rfl (fun lc' hl => kk lc' (hL.store rfl (by rw [← hL.2.1]; exact hj) hl))) kk
  | iinc j n =>
    have hdg := ent_1 3 hk he rfl
    have inv : ∃ u : Int, ls[j]? = some (some (vI u)) ∧ pc' = pc + 3 ∧ ls' = ls.set j (some (vI (w32 (u + n)))) ∧ st' = st ∧ h' = h := by
      unfold simpA at hs
      dsimp only at hs
      split at hs
      · rename_i hq
        cases hs
        exact ⟨_, hq, rfl, rfl, rfl, rfl⟩
      · cases hs
    obtain ⟨u, hu, rfl, rfl, rfl, rfl⟩ := inv
    refine ga_same (fun H locs lc hR hL kk => ?_) kk
    have hj : j < nL := by rw [← hL.2.1]; exact (List.getElem?_eq_some_iff.mp hu).1
    obtain ⟨kx, hkx⟩ := List.getElem?_of_mem (ascA_mem (ad := ad) (x := (j, cv ad (vI u))).mpr ⟨_, hu, rfl⟩)
    exact lv_iinc (v := Int32.ofInt (w32 (u + n))) hx hb hdg hL.has hkx (by rw [w32_of, Int32.ofInt_add]) hj rfl (fun lc' hl => kk lc' (hL.store rfl hj hl))
  | iconst n =>
    have hdg := ent_1 1 hk he rfl
    cases hs
    exact ga_same (fun H locs lc hR hL kk => lv_iconst hx hb hdg rfl (kk lc hL)) kk
  | bipush n =>
    have hdg := ent_1 2 hk he rfl
    unfold simpA at hs
    dsimp only at hs
    split at hs
    · rename_i hq
      cases hs
      exact ga_same (fun H locs lc hR hL kk => lv_bipush hx hb hdg (of_8 hq.1 hq.2) (kk lc hL)) kk
    · cases hs
  | sipush n =>
    have hdg := ent_1 3 hk he rfl
    unfold simpA at hs
    dsimp only at hs
    split at hs
    · rename_i hq
      cases hs
      exact ga_same (fun H locs lc hR hL kk => lv_sipush hx hb hdg (of_16 hq.1 hq.2) (kk lc hL)) kk
    · cases hs
  | ldc x0 =>
    have hdg := ent_1 2 hk he rfl
    obtain ⟨h1, h2⟩ := ent_lnk hk he rfl
    unfold OkL at h2
    rw [h1] at h2
    cases hs
    exact ga_same (fun H locs lc hR hL kk => lv_ldc hx hb hown (hts _ h2) hdg (kk lc hL)) kk
  | ldc_w x0 =>
    have hdg := ent_1 3 hk he rfl
    obtain ⟨h1, h2⟩ := ent_lnk hk he rfl
    unfold OkL at h2
    rw [h1] at h2
    cases hs
    exact ga_same (fun H locs lc hR hL kk => lv_ldcw hx hb hown (hts _ h2) hdg (kk lc hL)) kk
  | lconst j =>
    have hdg := ent_1 1 hk he rfl
    cases hs
    exact ga_same (fun H locs lc hR hL kk => lv_lconst hx hb hdg rfl (kk lc hL)) kk
  | iadd => exact ga_bin (fun u v => by rw [w32_of, Int32.ofInt_add]) (fun _ _ _ _ _ _ => lv_iadd hx hb (ent_1 1 hk he rfl)) hs kk
  | isub => exact ga_bin (fun u v => by rw [w32_of, Int32.ofInt_sub]) (fun _ _ _ _ _ _ => lv_isub hx hb (ent_1 1 hk he rfl)) hs kk
  | imul => exact ga_bin (fun u v => by rw [w32_of, Int32.ofInt_mul]) (fun _ _ _ _ _ _ => lv_imul hx hb (ent_1 1 hk he rfl)) hs kk
  | iand => exact ga_bin (fun u v => b32_of _ u v) (fun _ _ _ _ _ _ => lv_iand hx hb (ent_1 1 hk he rfl)) hs kk
  | ior => exact ga_bin (fun u v => b32_of _ u v) (fun _ _ _ _ _ _ => lv_ior hx hb (ent_1 1 hk he rfl)) hs kk
  | ixor => exact ga_bin (fun u v => b32_of _ u v) (fun _ _ _ _ _ _ => lv_ixor hx hb (ent_1 1 hk he rfl)) hs kk
  | ishl => exact ga_bin (fun u v => b32_of _ u v) (fun _ _ _ _ _ _ => lv_ishl hx hb (ent_1 1 hk he rfl)) hs kk
  | ishr => exact ga_bin (fun u v => b32_of _ u v) (fun _ _ _ _ _ _ => lv_ishr hx hb (ent_1 1 hk he rfl)) hs kk
  | iushr => exact ga_bin (fun u v => b32_of _ u v) (fun _ _ _ _ _ _ => lv_iushr hx hb (ent_1 1 hk he rfl) rfl) hs kk
  | idiv =>
    have hdg := ent_1 1 hk he rfl
    have inv : ∃ (u v : Int) (t : List AV), st = vI v :: vI u :: t ∧ ¬ w32 v = 0 ∧ pc' = pc + 1 ∧ ls' = ls ∧ st' = vI (b32 (fun x y => x / y) u v) :: t ∧ h' = h := by
      unfold simpA at hs
      dsimp only at hs
      split at hs
      · split at hs
        · cases hs
        · rename_i hq
          cases hs
          exact ⟨_, _, _, rfl, hq, rfl, rfl, rfl, rfl⟩
      · cases hs
    obtain ⟨u, v, t, rfl, hv, rfl, rfl, rfl, rfl⟩ := inv
    refine ga_same (fun H locs lc hR hL kk => lv_idiv hx hb hdg (fun z => hv (w32_eq0.mp z)) ?_) kk
    have kk := kk lc hL
    rw [List.map_cons, show cv ad (vI (b32 (fun x y => x / y) u v)) = .int (Int32.ofInt u / Int32.ofInt v) from congrArg Value.int (b32_of _ u v)] at kk
    exact kk
  | irem =>
    have hdg := ent_1 1 hk he rfl
    have inv : ∃ (u v : Int) (t : List AV), st = vI v :: vI u :: t ∧ ¬ w32 v = 0 ∧ pc' = pc + 1 ∧ ls' = ls ∧ st' = vI (b32 (fun x y => x - x / y * y) u v) :: t ∧ h' = h := by
      unfold simpA at hs
      dsimp only at hs
      split at hs
      · split at hs
        · cases hs
        · rename_i hq
          cases hs
          exact ⟨_, _, _, rfl, hq, rfl, rfl, rfl, rfl⟩
      · cases hs
    obtain ⟨u, v, t, rfl, hv, rfl, rfl, rfl, rfl⟩ := inv
    refine ga_same (fun H locs lc hR hL kk => lv_irem hx hb hdg (fun z => hv (w32_eq0.mp z)) ?_) kk
    have kk := kk lc hL
    rw [List.map_cons, show cv ad (vI (b32 (fun x y => x - x / y * y) u v)) = .int (Int32.ofInt u - Int32.ofInt u / Int32.ofInt v * Int32.ofInt v) from congrArg Value.int (b32_of _ u v)] at kk
    exact kk
  | ineg =>
    have hdg := ent_1 1 hk he rfl
    have inv : ∃ (u : Int) (t : List AV), st = vI u :: t ∧ pc' = pc + 1 ∧ ls' = ls ∧ st' = vI (w32 (-u)) :: t ∧ h' = h := by
      unfold simpA at hs
      dsimp only at hs
      split at hs
      · cases hs
        exact ⟨_, _, rfl, rfl, rfl, rfl, rfl⟩
      · cases hs
    obtain ⟨u, t, rfl, rfl, rfl, rfl, rfl⟩ := inv
    refine ga_same (fun H locs lc hR hL kk => lv_ineg hx hb hdg ?_) kk
    have kk := kk lc hL
    rw [List.map_cons, show cv ad (vI (w32 (-u))) = .int (-Int32.ofInt u) from congrArg Value.int (by rw [w32_of, Int32.ofInt_neg])] at kk
    exact kk
  | land => exact ga_binL (fun u v => b64_of _ u v) (fun _ _ _ _ _ _ => lv_land hx hb (ent_1 1 hk he rfl)) hs kk
  | lor => exact ga_binL (fun u v => b64_of _ u v) (fun _ _ _ _ _ _ => lv_lor hx hb (ent_1 1 hk he rfl)) hs kk
  | lshl => exact ga_binLI (f := fun x y => x <<< (y.toInt64 &&& 63)) (fun u v => c64_of _ u v) (fun _ _ _ _ _ _ => lv_lshl hx hb (ent_1 1 hk he rfl) rfl) hs kk
  | lshr => exact ga_binLI (f := fun x y => x >>> (y.toInt64 &&& 63)) (fun u v => c64_of _ u v) (fun _ _ _ _ _ _ => lv_lshr hx hb (ent_1 1 hk he rfl) rfl) hs kk
  | lcmp =>
    have hdg := ent_1 1 hk he rfl
    have inv : ∃ (u v : Int) (t : List AV), st = vL v :: vL u :: t ∧ pc' = pc + 1 ∧ ls' = ls ∧ st' = vI (if w64 u < w64 v then -1 else if w64 u = w64 v then 0 else 1) :: t ∧ h' = h := by
      unfold simpA at hs
      dsimp only at hs
      split at hs
      · cases hs
        exact ⟨_, _, _, rfl, rfl, rfl, rfl, rfl⟩
      · cases hs
    obtain ⟨u, v, t, rfl, rfl, rfl, rfl, rfl⟩ := inv
    refine ga_same (fun H locs lc hR hL kk => W.lcmp hx hb hdg ?_) kk
    have kk := kk lc hL
    rw [List.map_cons, show cv ad (vI (if w64 u < w64 v then -1 else if w64 u = w64 v then 0 else 1)) = .int (lg_cmp (Int64.ofInt u) (Int64.ofInt v)) from congrArg Value.int (by
      unfold lg_cmp
      simp only [gt_iff_lt, Int64.lt_iff_toInt_lt, ← Int64.toInt_inj]
      show _ = (if w64 v < w64 u then (1 : Int32) else if w64 u = w64 v then 0 else -1)
      rcases Int.lt_trichotomy (w64 u) (w64 v) with q | q | q
      · rw [if_pos q, if_neg (by omega), if_neg (by omega)]; rfl
      · rw [if_neg (by omega), if_pos q, if_neg (by omega), if_pos q]; rfl
      · rw [if_neg (by omega), if_neg (by omega), if_pos q]; rfl)] at kk
    exact kk
  | dup =>
    have hdg := ent_1 1 hk he rfl
    have inv : ∃ (v : AV) (t : List AV), st = v :: t ∧ (cv ad v).category = 1 ∧ pc' = pc + 1 ∧ ls' = ls ∧ st' = v :: v :: t ∧ h' = h := by
      unfold simpA at hs
      dsimp only at hs
      split at hs
      · cases hs
        exact ⟨_, _, rfl, rfl, rfl, rfl, rfl, rfl⟩
      · rename_i r t
        cases hs
        exact ⟨_, _, rfl, by cases r <;> rfl, rfl, rfl, rfl, rfl⟩
      · cases hs
    obtain ⟨v, t, rfl, hv, rfl, rfl, rfl, rfl⟩ := inv
    exact ga_same (fun H locs lc hR hL kk => lv_dup hx hb hdg hv (kk lc hL)) kk
  | dup2 =>
    have hdg := ent_1 1 hk he rfl
    have inv : ∃ (u : Int) (r : Option Nat) (t : List AV), st = vI u :: .inr r :: t ∧ pc' = pc + 1 ∧ ls' = ls ∧ st' = vI u :: .inr r :: vI u :: .inr r :: t ∧ h' = h := by
      unfold simpA at hs
      dsimp only at hs
      split at hs
      · cases hs
        exact ⟨_, _, _, rfl, rfl, rfl, rfl, rfl⟩
      · cases hs
    obtain ⟨u, r, t, rfl, rfl, rfl, rfl, rfl⟩ := inv
    exact ga_same (fun H locs lc hR hL kk => lv_dup2_11 hx hb hdg rfl (by cases r <;> rfl) (kk lc hL)) kk
  | if_icmp q off =>
    have hdg := ent_1 3 hk he rfl
    unfold simpA at hs
    dsimp only at hs
    split at hs
    · exact ga_icmp hx hb hdg hs kk
    · cases hs
  | ifCond q off =>
    have hdg := ent_1 3 hk he rfl
    unfold simpA at hs
    dsimp only at hs
    split at hs
    · exact ga_if hx hb hdg hs kk
    · cases hs
  | goto off =>
    have hdg := ent_1 3 hk he rfl
    obtain ⟨ht, rfl, rfl, rfl⟩ := jmpA_some hs
    exact ga_same (fun H locs lc hR hL kk => lv_goto hx hb hdg ht (kk lc hL)) kk
  | tableswitch i0 lo hi offs =>
    have hdg := (ent_dec hk he).1
    obtain ⟨u, rfl, rfl, rfl, hq⟩ := tsw_some hs
    rcases hq with ⟨hq, ht⟩ | ⟨hq, off, ho, ht⟩
    · exact ga_same (fun H locs lc hR hL kk => lv_tableOut hx hb hdg hq ht (kk lc hL)) kk
    · exact ga_same (fun H locs lc hR hL kk => lv_tableIn hx hb hdg (fun z => hq (Or.inl z)) (fun z => hq (Or.inr z)) ho ht (kk lc hL)) kk
  | getfield x0 => exact ga_get C hk he hs kk
  | putfield x0 => exact ga_put C hk he hs kk
  | iaload => exact ga_iald C (ent_1 1 hk he rfl) hs kk
  | laload => exact ga_lald C (ent_1 1 hk he rfl) hs kk
  | iastore => exact ga_iast C (ent_1 1 hk he rfl) hs kk
  | lastore => exact ga_last C (ent_1 1 hk he rfl) hs kk
  | arraylength => exact ga_alen C (ent_1 1 hk he rfl) hs kk
  | newarray t => exact ga_newa C (ent_1 2 hk he rfl) hs hc hsl kk
  | new x0 => exact ga_new C hk he hs hc hsl kk
  | getstatic x0 =>
    cases hs
    exact ga_stat C hk he kk
  | invokespecial x0 =>
    unfold simpA at hs
    dsimp only at hs
    split at hs
    · rename_i hq
      obtain ⟨rfl, hd⟩ := hq
      split at hs
      · split at hs
        · rename_i ht
          cases hs
          exact ga_obj C hnL hk he (of_decide_eq_true hd) ht kk
        · cases hs
      · cases hs
    · cases hs
  | invokestatic x0 =>
    unfold simpA at hs
    dsimp only at hs
    split at hs
    · rename_i hq
      obtain ⟨rfl, hd⟩ := hq
      split at hs
      · split at hs
        · rename_i ht
          cases hs
          exact ga_max C hnL hk he (of_decide_eq_true hd) ht (by omega) (by omega) kk
        · cases hs
      · cases hs
    · cases hs
  | _ => cases hs
end STEP
