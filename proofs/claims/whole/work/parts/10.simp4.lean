section SIMP4
variable {base : Nat} {ad : Nat → Nat} {D : va_G} {cI cJ : ClassId} {p : Program} {l : Launch} {e : Env} {R : Room} {s : State} {m : MethodId} {args : Array Value} {below : List Frame} {meth : Method} {c : Code} {Q : State → Prop} {k d mc ms nL pc pc' len a b cc w cells slots : Nat} {ls ls' : LoA} {st st' : List AV} {h h' : HP}
theorem of_nat32 (n : Nat) : Int32.ofInt (n : Int) = Int32.ofNat n := rfl
theorem of_nat64 (n : Nat) : Int64.ofInt (n : Int) = Int64.ofNat n := rfl
theorem of_8 {z : Int} (h0 : -128 ≤ z) (h1 : z < 128) : (Int8.ofInt z).toInt32 = Int32.ofInt z := by
  apply Int32.toInt_inj.mp
  rw [Int8.toInt_toInt32, Int8.toInt_ofInt_of_le (by omega) (by omega), Int32.toInt_ofInt_of_le (by omega) (by omega)]
theorem of_16 {z : Int} (h0 : -32768 ≤ z) (h1 : z < 32768) : (Int16.ofInt z).toInt32 = Int32.ofInt z := by
  apply Int32.toInt_inj.mp
  rw [Int16.toInt_toInt32, Int16.toInt_ofInt_of_le (by omega) (by omega), Int32.toInt_ofInt_of_le (by omega) (by omega)]
theorem ga_alen (C : CTX base ad D cI cJ p R s m args meth c k d mc ms) (hdg : decode (mt k).2.1 pc = .ok (.arraylength, 1)) (hs : alenA (pc + 1) ls st h = some (pc', ls', st', h'))
    (kk : GA base ad D cI cJ p l e R s m args below meth c Q nL pc' ls' st' h' (cells + (h'.1 - h.1)) (slots + (h'.2.1 - h.2.1))) : GA base ad D cI cJ p l e R s m args below meth c Q nL pc ls st h cells slots := by
  obtain ⟨hx, hb, hml, hown, hts, hin, hroom, hK, hA, hbs, hZ, hN⟩ := C
  have inv : ∃ (q : Nat) (t : List AV) (lg : Bool) (n : Nat), st = vR q :: t ∧ q < h.1 ∧ h.2.2.1 q = .inl (lg, n) ∧ n ≤ 2147483647 ∧ pc' = pc + 1 ∧ ls' = ls ∧ st' = vI n :: t ∧ h' = h := by
    unfold alenA at hs
    split at hs
    · split at hs
      · rename_i hq
        split at hs
        · rename_i hT
          split at hs
          · rename_i hn
            cases hs
            exact ⟨_, _, _, _, rfl, hq, hT, hn, rfl, rfl, rfl, rfl⟩
          · cases hs
        · cases hs
      · cases hs
    · cases hs
  obtain ⟨q, t, lg, n, rfl, hq, hT, hn, rfl, rfl, rfl, rfl⟩ := inv
  refine ga_same (fun H locs lc hR hL kk => ?_) kk
  have kk := kk lc hL
  obtain ⟨hE, hsz, hP, hS, hX⟩ := hR
  by_cases hqE : EXN ≤ q
  · cases lg
    · have hat : (wsA ad cI cJ h')[q - EXN]? = some (ad q, .inl (cI, n, .inl (fun j => Int32.ofInt (h'.2.2.2 q (j : Int))))) := by
        rw [wsA_at hqE hq]
        unfold cellA
        rw [hT]
      exact va_alen hx hb hK hP (q - EXN) 0 hat rfl (of_nat32 n).symm hdg kk
    · have hat : (wsA ad cI cJ h')[q - EXN]? = some (ad q, .inl (cJ, n, .inr (.inl (fun j => Int64.ofInt (h'.2.2.2 q (j : Int)))))) := by
        rw [wsA_at hqE hq]
        unfold cellA
        rw [hT]
      exact va_alen hx hb hK hP (q - EXN) 1 hat rfl (of_nat32 n).symm hdg kk
  · obtain ⟨n', hn', hTT⟩ := hX q (by omega)
    rw [hT] at hn'
    cases hn'
    have hTT := hTT.kept (H1 := H) (fun z hz1 hz2 => hS.2.1 z hz1 hz2)
    obtain ⟨cell, g1, g2, g3, g4, g5, g6, g7⟩ := hTT
    exact W.alen hx hb g1 g2 (g5.trans (of_nat32 n).symm) rfl rfl hdg kk
theorem ga_stat {x0 : Nat} (C : CTX base ad D cI cJ p R s m args meth c k d mc ms) (hk : k < nm) (he : cd k pc = some (.getstatic x0, len, a, b, cc, w))
    (kk : GA base ad D cI cJ p l e R s m args below meth c Q nL (pc + 3) ls (vR a :: st) h (cells + (h.1 - h.1)) (slots + (h.2.1 - h.2.1))) : GA base ad D cI cJ p l e R s m args below meth c Q nL pc ls st h cells slots := by
  obtain ⟨hx, hb, hml, hown, hts, hin, hroom, hK, hA, hbs, hZ, hN⟩ := C
  have hdg := ent_1 3 hk he rfl
  obtain ⟨h1, h2⟩ := ent_lnk hk he rfl
  unfold OkL at h2
  rw [h1] at h2
  obtain ⟨a1, a2, hl⟩ := h2
  refine ga_same (fun H locs lc hR hL kk => ?_) kk
  exact va_gets hx hb (hZ a a1 a2) hR.2.2.2.1 hown (hts _ hl) (fun _ h9 => h9) hdg (kk lc hL)
theorem ga_obj {x0 : Nat} {q : Nat} {t : List AV} (C : CTX base ad D cI cJ p R s m args meth c k d mc ms) (hnL : nL = (mt k).2.2.1) (hk : k < nm) (he : cd k pc = some (.invokespecial x0, len, 9999, b, cc, w)) (hd : 0 < d) (ht : t.length ≤ 4)
    (kk : GA base ad D cI cJ p l e R s m args below meth c Q nL (pc + 3) ls t h (cells + (h.1 - h.1)) (slots + (h.2.1 - h.2.1))) : GA base ad D cI cJ p l e R s m args below meth c Q nL pc ls (vR q :: t) h cells slots := by
  obtain ⟨hx, hb, hml, hown, hts, hin, hroom, hK, hA, hbs, hZ, hN⟩ := C
  have hdg := ent_1 3 hk he rfl
  obtain ⟨h1, h2⟩ := ent_lnk hk he rfl
  unfold OkL at h2
  rw [h1] at h2
  refine ga_same (fun H locs lc hR hL kk => ?_) kk
  have hcs := cat_sum (ad := ad) t
  exact W.objInit hx hb hown (hts _ h2) (hts _ oi_inst) (hts _ oi_code) rfl (by rw [hml, ← hnL]; exact hL.1) rfl hdg (by omega) (by show 2 * 0 + _ + 12 ≤ _; omega) (kk lc hL)
theorem ga_max {x0 : Nat} {u v : Int} {t : List AV} (C : CTX base ad D cI cJ p R s m args meth c k d mc ms) (hnL : nL = (mt k).2.2.1) (hk : k < nm) (he : cd k pc = some (.invokestatic x0, len, 9998, b, cc, w)) (hd : 0 < d) (ht : t.length ≤ 4) (hc : cells ≤ mc) (hsl : slots ≤ ms)
    (kk : GA base ad D cI cJ p l e R s m args below meth c Q nL (pc + 3) ls (vI (if w32 u < w32 v then v else u) :: t) h (cells + (h.1 - h.1)) (slots + (h.2.1 - h.2.1))) : GA base ad D cI cJ p l e R s m args below meth c Q nL pc ls (vI v :: vI u :: t) h cells slots := by
  obtain ⟨hx, hb, hml, hown, hts, hin, hroom, hK, hA, hbs, hZ, hN⟩ := C
  have hdg := ent_1 3 hk he rfl
  obtain ⟨h1, h2⟩ := ent_lnk hk he rfl
  unfold OkL at h2
  rw [h1] at h2
  obtain ⟨a1, a2, a3, a4⟩ := h2
  refine ga_same (fun H locs lc hR hL kk => ?_) kk
  have hcs := cat_sum (ad := ad) t
  have kk := kk lc hL
  rw [List.map_cons, show cv ad (vI (if w32 u < w32 v then v else u)) = .int (if Int32.ofInt u < Int32.ofInt v then Int32.ofInt v else Int32.ofInt u) from by
    by_cases hq : w32 u < w32 v
    · rw [if_pos hq, if_pos (w32_lt.mpr hq)]; rfl
    · rw [if_neg hq, if_neg (fun z => hq (w32_lt.mp z))]; rfl] at kk
  exact va_mmax hx hb (by rw [hml, ← hnL]; exact hL.1.symm) hown (hts _ a1) (hts _ a2) (hts _ a3) (hts _ a4) (by omega) (by omega) (by omega) (by omega) hdg kk
end SIMP4
