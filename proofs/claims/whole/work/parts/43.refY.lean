/-! the first subset -/
theorem findsSome_36 {d : Nat} {G : GT} {M : MT} {o q : Nat} {X : Nat → Nat} {r : Nat} (hG : RefG G o) (hq : q < G.1) (hT : G.2.2 q = .inl (false, 81)) (hne : q ≠ o + 5) (hno : q ≠ o) (hX : AtB M q X) {j fi lo hi : Nat} (hr9 : r < 13) (hj : j ≤ 2) (hfi : fi = 1 ∧ hi = 25 ∧ isFish r = true ∨ fi = 0 ∧ hi = 26 ∧ isFish r = false) (hsz : sizeN r = j + 2) (hL : pairsL r = prsG (rowS r) (hi + 1 - lo) lo) (hlo : lo ≤ hi) : Wq (d + 5) k_X9_findsSome 36 [some (vR o), some (vR q), some (vI ((r : Nat) : Int)), some (vI ((j + 2 : Nat) : Int)), some (vI ((fi : Nat) : Int)), some (vI ((lo : Nat) : Int)), none, none, none, none, none] [] G M (fun z M' => (z = some (vI 1) ∧ (∃ p v : Nat, fstP (pP X r) (pairsL r) = some (p, v) ∧ 0 < insN X (r : Int) (p : Int) (v : Int) ∧ FQv X M' o (r : Int) (p : Int) (v : Int)) ∧ FrF M M' o) ∨ (z = some (vI 0) ∧ fstP (pP X r) (pairsL r) = none ∧ FrF M M' o)) := by
  have L_36 : ∀ (f p : Nat) (M2 : MT) (y6 : Option AV) (y7 : Option AV) (y8 : Option AV) (y9 : Option AV) (y10 : Option AV), (hi + 1) - p < f → p ≤ (hi + 1) → (fstP (pP X r) (pairsL r) = fstP (pP X r) (prsG (rowS r) (hi + 1 - p) p)) → (FrF M M2 o) → Wq (d + 5) k_X9_findsSome 36 [some (vR o), some (vR q), some (vI ((r : Nat) : Int)), some (vI ((j + 2 : Nat) : Int)), some (vI ((fi : Nat) : Int)), some (vI ((p : Nat) : Int)), y6, y7, y8, y9, y10] [] G M2 (fun z M' => (z = some (vI 1) ∧ (∃ p v : Nat, fstP (pP X r) (pairsL r) = some (p, v) ∧ 0 < insN X (r : Int) (p : Int) (v : Int) ∧ FQv X M' o (r : Int) (p : Int) (v : Int)) ∧ FrF M M' o) ∨ (z = some (vI 0) ∧ fstP (pP X r) (pairsL r) = none ∧ FrF M M' o)) := by
    intro f
    induction f with
    | zero => intro p M2 y6 y7 y8 y9 y10 h; exact absurd h (by omega)
    | succ f ih_p =>
      intro p M2 y6 y7 y8 y9 y10 hf_p hk_p hE hFr
      have L_76 : ∀ (f2 a : Nat) (M2 : MT) (y7 : Option AV) (y8 : Option AV) (y9 : Option AV) (y10 : Option AV), 9 - a < f2 → a ≤ 9 → (p ≤ hi) → (fstP (pP X r) (pairsL r) = fstP (pP X r) (mp p (cmbF (j + 2) (9 - a) 0) ++ (prsG (rowS r) (hi - p) (p + 1)))) → (FrF M M2 o) → Wq (d + 5) k_X9_findsSome 76 [some (vR o), some (vR q), some (vI ((r : Nat) : Int)), some (vI ((j + 2 : Nat) : Int)), some (vI ((fi : Nat) : Int)), some (vI ((p : Nat) : Int)), some (vI ((a : Nat) : Int)), y7, y8, y9, y10] [] G M2 (fun z M' => (z = some (vI 1) ∧ (∃ p v : Nat, fstP (pP X r) (pairsL r) = some (p, v) ∧ 0 < insN X (r : Int) (p : Int) (v : Int) ∧ FQv X M' o (r : Int) (p : Int) (v : Int)) ∧ FrF M M' o) ∨ (z = some (vI 0) ∧ fstP (pP X r) (pairsL r) = none ∧ FrF M M' o)) := by
        intro f2
        induction f2 with
        | zero => intro a M2 y7 y8 y9 y10 h; exact absurd h (by omega)
        | succ f2 ih_a =>
          intro a M2 y7 y8 y9 y10 hf_a hk_a hpl hE hFr
          refine wq_s 78 rfl ?_
          refine wq_s 80 rfl ?_
          refine wq_icmp 227 rfl rfl (by omega) (by omega) (fun c_80 => ?_) (fun c_80 => ?_)
          · have c_80 := of_decide_eq_true c_80
            have e9 : a = 9 := by omega
            subst e9
            refine we_inc 5 1 ((p + 1 : Nat) : Int) 230 _ rfl rfl rfl (by omega) (by omega) rfl ?_
            refine wq_s 36 rfl ?_
            refine ih_p (p + 1) _ _ _ _ _ _ (by omega) (by omega) ?_ hFr
            rw [hE, show hi + 1 - (p + 1) = hi - p by omega]
            rfl
          · have c_80 := of_decide_eq_false c_80
            have hp_a : 2 ^ a ≤ 2 ^ 8 := Nat.pow_le_pow_right (by decide) (by omega)
            have L_89 : ∀ (f3 b : Nat) (M2 : MT) (y8 : Option AV) (y9 : Option AV) (y10 : Option AV), 9 - b < f3 → b ≤ 9 → (a < b) → (fstP (pP X r) (pairsL r) = fstP (pP X r) (mp p (cmbF (j + 1) (9 - b) (2 ^ a)) ++ (mp p (cmbF (j + 2) (8 - a) 0) ++ (prsG (rowS r) (hi - p) (p + 1))))) → (FrF M M2 o) → Wq (d + 5) k_X9_findsSome 89 [some (vR o), some (vR q), some (vI ((r : Nat) : Int)), some (vI ((j + 2 : Nat) : Int)), some (vI ((fi : Nat) : Int)), some (vI ((p : Nat) : Int)), some (vI ((a : Nat) : Int)), some (vI ((b : Nat) : Int)), y8, y9, y10] [] G M2 (fun z M' => (z = some (vI 1) ∧ (∃ p v : Nat, fstP (pP X r) (pairsL r) = some (p, v) ∧ 0 < insN X (r : Int) (p : Int) (v : Int) ∧ FQv X M' o (r : Int) (p : Int) (v : Int)) ∧ FrF M M' o) ∨ (z = some (vI 0) ∧ fstP (pP X r) (pairsL r) = none ∧ FrF M M' o)) := by
              intro f3
              induction f3 with
              | zero => intro b M2 y8 y9 y10 h; exact absurd h (by omega)
              | succ f3 ih_b =>
                intro b M2 y8 y9 y10 hf_b hk_b hb1 hE hFr
                refine wq_s 91 rfl ?_
                refine wq_s 93 rfl ?_
                refine wq_icmp 221 rfl rfl (by omega) (by omega) (fun c_93 => ?_) (fun c_93 => ?_)
                · have c_93 := of_decide_eq_true c_93
                  have e9 : b = 9 := by omega
                  subst e9
                  refine we_inc 6 1 ((a + 1 : Nat) : Int) 224 _ rfl rfl rfl (by omega) (by omega) rfl ?_
                  refine wq_s 76 rfl ?_
                  refine ih_a (a + 1) _ _ _ _ _ (by omega) (by omega) hpl ?_ hFr
                  rw [show 9 - (a + 1) = 8 - a by omega]
                  rw [hE]
                  rfl
                · have c_93 := of_decide_eq_false c_93
                  have hp_b : 2 ^ b ≤ 2 ^ 8 := Nat.pow_le_pow_right (by decide) (by omega)
                  have ho1 := or_lt2 (k := 9) (m := 2 ^ a) (n := 2 ^ b) (by omega) (by omega)
                  refine wq_s 97 rfl ?_
                  refine wq_s 99 rfl ?_
                  refine we_shl 1 a (2 ^ a) 100 rfl rfl rfl rfl (by omega) (Nat.one_mul _) (by omega) ?_
                  refine wq_s 101 rfl ?_
                  refine wq_s 103 rfl ?_
                  refine we_shl 1 b (2 ^ b) 104 rfl rfl rfl rfl (by omega) (Nat.one_mul _) (by omega) ?_
                  refine we_or (2 ^ a) (2 ^ b) ((2 ^ a) ||| (2 ^ b)) 105 rfl rfl rfl rfl (by omega) (by omega) rfl ?_
                  refine wq_s 107 rfl ?_
                  refine wq_s 108 rfl ?_
                  refine wq_s 109 rfl ?_
                  refine wq_icmp 127 rfl rfl (by omega) (by omega) (fun c_109 => ?_) (fun c_109 => ?_)
                  · have c_109 := of_decide_eq_true c_109
                    obtain ⟨i, ei⟩ : ∃ i, j = i + 1 := ⟨j - 1, by omega⟩
                    subst ei
                    have L_133 : ∀ (f4 c : Nat) (M2 : MT) (y10 : Option AV), 9 - c < f4 → c ≤ 9 → (b < c) → (fstP (pP X r) (pairsL r) = fstP (pP X r) (mp p (cmbF (i + 1) (9 - c) (2 ^ a ||| 2 ^ b)) ++ (mp p (cmbF (i + 1 + 1) (8 - b) (2 ^ a)) ++ (mp p (cmbF (i + 1 + 2) (8 - a) 0) ++ (prsG (rowS r) (hi - p) (p + 1)))))) → (FrF M M2 o) → Wq (d + 5) k_X9_findsSome 133 [some (vR o), some (vR q), some (vI ((r : Nat) : Int)), some (vI ((i + 1 + 2 : Nat) : Int)), some (vI ((fi : Nat) : Int)), some (vI ((p : Nat) : Int)), some (vI ((a : Nat) : Int)), some (vI ((b : Nat) : Int)), some (vI ((2 ^ a ||| 2 ^ b : Nat) : Int)), some (vI ((c : Nat) : Int)), y10] [] G M2 (fun z M' => (z = some (vI 1) ∧ (∃ p v : Nat, fstP (pP X r) (pairsL r) = some (p, v) ∧ 0 < insN X (r : Int) (p : Int) (v : Int) ∧ FQv X M' o (r : Int) (p : Int) (v : Int)) ∧ FrF M M' o) ∨ (z = some (vI 0) ∧ fstP (pP X r) (pairsL r) = none ∧ FrF M M' o)) := by
                      intro f4
                      induction f4 with
                      | zero => intro c M2 y10 h; exact absurd h (by omega)
                      | succ f4 ih_c =>
                        intro c M2 y10 hf_c hk_c hc1 hE hFr
                        refine wq_s 135 rfl ?_
                        refine wq_s 137 rfl ?_
                        refine wq_icmp 215 rfl rfl (by omega) (by omega) (fun c_137 => ?_) (fun c_137 => ?_)
                        · have c_137 := of_decide_eq_true c_137
                          have e9 : c = 9 := by omega
                          subst e9
                          refine we_inc 7 1 ((b + 1 : Nat) : Int) 218 _ rfl rfl rfl (by omega) (by omega) rfl ?_
                          refine wq_s 89 rfl ?_
                          refine ih_b (b + 1) _ _ _ _ (by omega) (by omega) (by omega) ?_ hFr
                          rw [show 9 - (b + 1) = 8 - b by omega]
                          rw [hE]
                          rfl
                        · have c_137 := of_decide_eq_false c_137
                          have hp_c : 2 ^ c ≤ 2 ^ 8 := Nat.pow_le_pow_right (by decide) (by omega)
                          have ho2 := or_lt2 (k := 9) (m := 2 ^ a ||| 2 ^ b) (n := 2 ^ c) (by omega) (by omega)
                          refine wq_s 141 rfl ?_
                          refine wq_s 142 rfl ?_
                          refine wq_icmp 165 rfl rfl (by omega) (by omega) (fun c_142 => ?_) (fun c_142 => ?_)
                          · have c_142 := of_decide_eq_true c_142
                            have ei : i = 1 := by omega
                            subst ei
                            have L_171 : ∀ (f5 e : Nat) (M2 : MT), 9 - e < f5 → e ≤ 9 → (c < e) → (fstP (pP X r) (pairsL r) = fstP (pP X r) (mp p (cmbF (0 + 1) (9 - e) (2 ^ a ||| 2 ^ b ||| 2 ^ c)) ++ (mp p (cmbF (1 + 1) (8 - c) (2 ^ a ||| 2 ^ b)) ++ (mp p (cmbF (1 + 1 + 1) (8 - b) (2 ^ a)) ++ (mp p (cmbF (1 + 1 + 2) (8 - a) 0) ++ (prsG (rowS r) (hi - p) (p + 1))))))) → (FrF M M2 o) → Wq (d + 5) k_X9_findsSome 171 [some (vR o), some (vR q), some (vI ((r : Nat) : Int)), some (vI 4), some (vI ((fi : Nat) : Int)), some (vI ((p : Nat) : Int)), some (vI ((a : Nat) : Int)), some (vI ((b : Nat) : Int)), some (vI ((2 ^ a ||| 2 ^ b : Nat) : Int)), some (vI ((c : Nat) : Int)), some (vI ((e : Nat) : Int))] [] G M2 (fun z M' => (z = some (vI 1) ∧ (∃ p v : Nat, fstP (pP X r) (pairsL r) = some (p, v) ∧ 0 < insN X (r : Int) (p : Int) (v : Int) ∧ FQv X M' o (r : Int) (p : Int) (v : Int)) ∧ FrF M M' o) ∨ (z = some (vI 0) ∧ fstP (pP X r) (pairsL r) = none ∧ FrF M M' o)) := by
                              intro f5
                              induction f5 with
                              | zero => intro e M2 h; exact absurd h (by omega)
                              | succ f5 ih_e =>
                                intro e M2 hf_e hk_e he1 hE hFr
                                refine wq_s 173 rfl ?_
                                refine wq_s 175 rfl ?_
                                refine wq_icmp 209 rfl rfl (by omega) (by omega) (fun c_175 => ?_) (fun c_175 => ?_)
                                · have c_175 := of_decide_eq_true c_175
                                  have e9 : e = 9 := by omega
                                  subst e9
                                  refine we_inc 9 1 ((c + 1 : Nat) : Int) 212 _ rfl rfl rfl (by omega) (by omega) rfl ?_
                                  refine wq_s 133 rfl ?_
                                  refine ih_c (c + 1) _ _ (by omega) (by omega) (by omega) ?_ hFr
                                  rw [show 9 - (c + 1) = 8 - c by omega]
                                  rw [hE]
                                  rfl
                                · have c_175 := of_decide_eq_false c_175
                                  have hp_e : 2 ^ e ≤ 2 ^ 8 := Nat.pow_le_pow_right (by decide) (by omega)
                                  have ho3 := or_lt2 (k := 9) (m := 2 ^ a ||| 2 ^ b ||| 2 ^ c) (n := 2 ^ e) (by omega) (by omega)
                                  refine wq_s 179 rfl ?_
                                  refine wq_s 180 rfl ?_
                                  refine wq_s 181 rfl ?_
                                  refine wq_s 183 rfl ?_
                                  refine wq_s 185 rfl ?_
                                  refine wq_s 186 rfl ?_
                                  refine wq_s 188 rfl ?_
                                  refine we_shl 1 c (2 ^ c) 189 rfl rfl rfl rfl (by omega) (Nat.one_mul _) (by omega) ?_
                                  refine we_or (2 ^ a ||| 2 ^ b) (2 ^ c) ((2 ^ a ||| 2 ^ b) ||| (2 ^ c)) 190 rfl rfl rfl rfl (by omega) (by omega) rfl ?_
                                  refine wq_s 191 rfl ?_
                                  refine wq_s 193 rfl ?_
                                  refine we_shl 1 e (2 ^ e) 194 rfl rfl rfl rfl (by omega) (Nat.one_mul _) (by omega) ?_
                                  refine we_or ((2 ^ a ||| 2 ^ b) ||| (2 ^ c)) (2 ^ e) (((2 ^ a ||| 2 ^ b) ||| (2 ^ c)) ||| (2 ^ e)) 195 rfl rfl rfl rfl (by omega) (by omega) rfl ?_
                                  refine wq_vt4 198 rfl rfl (Nat.le_of_ble_eq_true rfl) hG.ob hG.2.2.1 rfl (Nat.le_of_ble_eq_true rfl) (c_X9_found (v := ((((2 ^ a ||| 2 ^ b) ||| (2 ^ c)) ||| (2 ^ e) : Nat) : Int)) hG hq hT hne hno (hX.fr (hFr.1 q hno hne)) (by omega) (by omega) (by omega)) (fun z M3 hz => ?_)
                                  rcases hz with ⟨rfl, hin, hv, hF3⟩ | ⟨rfl, hin, hF3⟩
                                  · dsimp only [Option.toList, List.cons_append, List.nil_append]
                                    have hE : fstP (pP X r) (pairsL r) = some (p, ((2 ^ a ||| 2 ^ b) ||| (2 ^ c)) ||| (2 ^ e)) := by rw [hE, cmbF_s (by omega), mp_app, List.append_assoc, cmbF_z]; exact fstP_t (P := pP X r) (x := (p, ((2 ^ a ||| 2 ^ b) ||| (2 ^ c)) ||| (2 ^ e))) hin
                                    refine wq_s 201 rfl ?_
                                    refine wq_s 202 rfl ?_
                                    exact wq_ret rfl (Or.inl ⟨rfl, ⟨p, ((2 ^ a ||| 2 ^ b) ||| (2 ^ c)) ||| (2 ^ e), hE, hin, hv⟩, hFr.trans hF3⟩)
                                  · dsimp only [Option.toList, List.cons_append, List.nil_append]
                                    have hE : fstP (pP X r) (pairsL r) = fstP (pP X r) (mp p (cmbF (0 + 1) (8 - e) (2 ^ a ||| 2 ^ b ||| 2 ^ c)) ++ (mp p (cmbF (1 + 1) (8 - c) (2 ^ a ||| 2 ^ b)) ++ (mp p (cmbF (1 + 1 + 1) (8 - b) (2 ^ a)) ++ (mp p (cmbF (1 + 1 + 2) (8 - a) 0) ++ (prsG (rowS r) (hi - p) (p + 1)))))) := by rw [hE, cmbF_s (by omega), mp_app, List.append_assoc, cmbF_z]; exact fstP_f (P := pP X r) (x := (p, ((2 ^ a ||| 2 ^ b) ||| (2 ^ c)) ||| (2 ^ e))) (fun z => by unfold pP at z; dsimp only at z; omega)
                                    refine wq_s 203 rfl ?_
                                    refine we_inc 10 1 ((e + 1 : Nat) : Int) 206 _ rfl rfl rfl (by omega) (by omega) rfl ?_
                                    refine wq_s 171 rfl ?_
                                    refine ih_e (e + 1) _ (by omega) (by omega) (by omega) ?_ (hFr.trans hF3)
                                    rw [show 9 - (e + 1) = 8 - e by omega]
                                    exact hE
                            refine wq_s 167 rfl ?_
                            refine wq_s 168 rfl ?_
                            refine we_add ((c + 1 : Nat) : Int) 169 rfl rfl (by omega) (by omega) ?_
                            refine wq_s 171 rfl ?_
                            refine L_171 10 (c + 1) _ (by omega) (by omega) (by omega) ?_ hFr
                            rw [hE, cmbF_s (by omega), mp_app, List.append_assoc, show 9 - (c + 1) = 8 - c by omega]
                          · have c_142 := of_decide_eq_false c_142
                            have ei : i = 0 := by omega
                            subst ei
                            refine wq_s 146 rfl ?_
                            refine wq_s 147 rfl ?_
                            refine wq_s 148 rfl ?_
                            refine wq_s 150 rfl ?_
                            refine wq_s 152 rfl ?_
                            refine wq_s 153 rfl ?_
                            refine wq_s 155 rfl ?_
                            refine we_shl 1 c (2 ^ c) 156 rfl rfl rfl rfl (by omega) (Nat.one_mul _) (by omega) ?_
                            refine we_or (2 ^ a ||| 2 ^ b) (2 ^ c) ((2 ^ a ||| 2 ^ b) ||| (2 ^ c)) 157 rfl rfl rfl rfl (by omega) (by omega) rfl ?_
                            refine wq_vt4 160 rfl rfl (Nat.le_of_ble_eq_true rfl) hG.ob hG.2.2.1 rfl (Nat.le_of_ble_eq_true rfl) (c_X9_found (v := (((2 ^ a ||| 2 ^ b) ||| (2 ^ c) : Nat) : Int)) hG hq hT hne hno (hX.fr (hFr.1 q hno hne)) (by omega) (by omega) (by omega)) (fun z M3 hz => ?_)
                            rcases hz with ⟨rfl, hin, hv, hF3⟩ | ⟨rfl, hin, hF3⟩
                            · dsimp only [Option.toList, List.cons_append, List.nil_append]
                              have hE : fstP (pP X r) (pairsL r) = some (p, (2 ^ a ||| 2 ^ b) ||| (2 ^ c)) := by rw [hE, cmbF_s (by omega), mp_app, List.append_assoc, cmbF_z]; exact fstP_t (P := pP X r) (x := (p, (2 ^ a ||| 2 ^ b) ||| (2 ^ c))) hin
                              refine wq_s 163 rfl ?_
                              refine wq_s 164 rfl ?_
                              exact wq_ret rfl (Or.inl ⟨rfl, ⟨p, (2 ^ a ||| 2 ^ b) ||| (2 ^ c), hE, hin, hv⟩, hFr.trans hF3⟩)
                            · dsimp only [Option.toList, List.cons_append, List.nil_append]
                              have hE : fstP (pP X r) (pairsL r) = fstP (pP X r) (mp p (cmbF (0 + 1) (8 - c) (2 ^ a ||| 2 ^ b)) ++ (mp p (cmbF (0 + 1 + 1) (8 - b) (2 ^ a)) ++ (mp p (cmbF (0 + 1 + 2) (8 - a) 0) ++ (prsG (rowS r) (hi - p) (p + 1))))) := by rw [hE, cmbF_s (by omega), mp_app, List.append_assoc, cmbF_z]; exact fstP_f (P := pP X r) (x := (p, (2 ^ a ||| 2 ^ b) ||| (2 ^ c))) (fun z => by unfold pP at z; dsimp only at z; omega)
                              refine wq_s 209 rfl ?_
                              refine we_inc 9 1 ((c + 1 : Nat) : Int) 212 _ rfl rfl rfl (by omega) (by omega) rfl ?_
                              refine wq_s 133 rfl ?_
                              refine ih_c (c + 1) _ _ (by omega) (by omega) (by omega) ?_ (hFr.trans hF3)
                              rw [show 9 - (c + 1) = 8 - c by omega]
                              exact hE
                    refine wq_s 129 rfl ?_
                    refine wq_s 130 rfl ?_
                    refine we_add ((b + 1 : Nat) : Int) 131 rfl rfl (by omega) (by omega) ?_
                    refine wq_s 133 rfl ?_
                    refine L_133 10 (b + 1) _ _ (by omega) (by omega) (by omega) ?_ hFr
                    rw [hE, cmbF_s (by omega), mp_app, List.append_assoc, show 9 - (b + 1) = 8 - b by omega]
                  · have c_109 := of_decide_eq_false c_109
                    have ej : j = 0 := by omega
                    subst ej
                    refine wq_s 113 rfl ?_
                    refine wq_s 114 rfl ?_
                    refine wq_s 115 rfl ?_
                    refine wq_s 117 rfl ?_
                    refine wq_s 119 rfl ?_
                    refine wq_vt4 122 rfl rfl (Nat.le_of_ble_eq_true rfl) hG.ob hG.2.2.1 rfl (Nat.le_of_ble_eq_true rfl) (c_X9_found (v := (((2 ^ a) ||| (2 ^ b) : Nat) : Int)) hG hq hT hne hno (hX.fr (hFr.1 q hno hne)) (by omega) (by omega) (by omega)) (fun z M3 hz => ?_)
                    rcases hz with ⟨rfl, hin, hv, hF3⟩ | ⟨rfl, hin, hF3⟩
                    · dsimp only [Option.toList, List.cons_append, List.nil_append]
                      have hE : fstP (pP X r) (pairsL r) = some (p, (2 ^ a) ||| (2 ^ b)) := by rw [hE, cmbF_s (by omega), mp_app, List.append_assoc, cmbF_z]; exact fstP_t (P := pP X r) (x := (p, (2 ^ a) ||| (2 ^ b))) hin
                      refine wq_s 125 rfl ?_
                      refine wq_s 126 rfl ?_
                      exact wq_ret rfl (Or.inl ⟨rfl, ⟨p, (2 ^ a) ||| (2 ^ b), hE, hin, hv⟩, hFr.trans hF3⟩)
                    · dsimp only [Option.toList, List.cons_append, List.nil_append]
                      have hE : fstP (pP X r) (pairsL r) = fstP (pP X r) (mp p (cmbF (0 + 1) (8 - b) (2 ^ a)) ++ (mp p (cmbF (0 + 2) (8 - a) 0) ++ (prsG (rowS r) (hi - p) (p + 1)))) := by rw [hE, cmbF_s (by omega), mp_app, List.append_assoc, cmbF_z]; exact fstP_f (P := pP X r) (x := (p, (2 ^ a) ||| (2 ^ b))) (fun z => by unfold pP at z; dsimp only at z; omega)
                      refine wq_s 215 rfl ?_
                      refine we_inc 7 1 ((b + 1 : Nat) : Int) 218 _ rfl rfl rfl (by omega) (by omega) rfl ?_
                      refine wq_s 89 rfl ?_
                      refine ih_b (b + 1) _ _ _ _ (by omega) (by omega) (by omega) ?_ (hFr.trans hF3)
                      rw [show 9 - (b + 1) = 8 - b by omega]
                      exact hE
            refine wq_s 85 rfl ?_
            refine wq_s 86 rfl ?_
            refine we_add ((a + 1 : Nat) : Int) 87 rfl rfl (by omega) (by omega) ?_
            refine wq_s 89 rfl ?_
            refine L_89 10 (a + 1) _ _ _ _ (by omega) (by omega) (by omega) ?_ hFr
            rw [hE, cmbF_s (by omega), mp_app, List.append_assoc, show 9 - (a + 1) = 8 - a by omega, Nat.zero_or]
      refine wq_s 38 rfl ?_
      refine wq_s 40 rfl ?_
      refine wq_if 48 rfl rfl (by omega) (fun c_40 => ?_) (fun c_40 => ?_)
      · have c_40 := of_decide_eq_true c_40
        refine wq_s 50 rfl ?_
        refine wq_icmp 233 rfl rfl (by omega) (by omega) (fun c_50 => ?_) (fun c_50 => ?_)
        · have c_50 := of_decide_eq_true c_50
          have e9 : p = hi + 1 := by omega
          subst e9
          rw [show hi + 1 - (hi + 1) = 0 by omega] at hE
          have hE : fstP (pP X r) (pairsL r) = none := hE
          refine wq_s 234 rfl ?_
          exact wq_ret rfl (Or.inr ⟨rfl, hE, hFr⟩)
        · have c_50 := of_decide_eq_false c_50
          refine wq_s 55 rfl ?_
          refine wq_if 73 rfl rfl (by omega) (fun c_55 => ?_) (fun c_55 => ?_)
          · have c_55 := of_decide_eq_true c_55
            refine wq_s 74 rfl ?_
            refine wq_s 76 rfl ?_
            refine L_76 10 0 _ _ _ _ _ (by omega) (by omega) (by omega) ?_ hFr
            rw [hE, show hi + 1 - p = hi - p + 1 by omega]
            show fstP (pP X r) (rowS r p ++ _) = _
            rw [show rowS r p = mp p (cmbF (sizeN r) 9 0) from if_neg (fun z => by have h9 := z.1; rcases hfi with ⟨h1, -, -⟩ | ⟨-, -, h1⟩; omega; rw [h1] at h9; cases h9), hsz]
          · have c_55 := of_decide_eq_false c_55
            refine wq_s 60 rfl ?_
            refine wq_s 62 rfl ?_
            refine wq_s 64 rfl ?_
            refine wq_st3 67 rfl rfl (by decide) (Nat.le_of_ble_eq_true rfl) rfl (Nat.le_of_ble_eq_true rfl) (c_X9_in (by omega) (by omega) (by omega)) (fun r M1 hr => ?_)
            obtain ⟨rfl, hM1⟩ := hr
            subst M1
            dsimp only [Option.toList, List.cons_append, List.nil_append]
            refine wq_if 73 rfl rfl iteR (fun c_67 => ?_) (fun c_67 => ?_)
            · have c_67 := of_decide_eq_true c_67
              have c_67 := ite0.mp c_67
              refine wq_s 74 rfl ?_
              refine wq_s 76 rfl ?_
              refine L_76 10 0 _ _ _ _ _ (by omega) (by omega) (by omega) ?_ hFr
              rw [hE, show hi + 1 - p = hi - p + 1 by omega]
              show fstP (pP X r) (rowS r p ++ _) = _
              rw [show rowS r p = mp p (cmbF (sizeN r) 9 0) from if_neg (fun z => by have h9 := z.2; omega), hsz]
            · have c_67 := of_decide_eq_false c_67
              have c_67 := ite1.mp c_67
              have hE : fstP (pP X r) (pairsL r) = fstP (pP X r) (prsG (rowS r) (hi - p) (p + 1)) := by
                rw [hE, show hi + 1 - p = hi - p + 1 by omega]
                show fstP (pP X r) (rowS r p ++ _) = _
                rw [show rowS r p = [] from if_pos ⟨by rcases hfi with ⟨-, -, h1⟩ | ⟨h1, -, -⟩; exact h1; omega, by omega, by omega⟩]
                rfl
              refine wq_s 227 rfl ?_
              refine we_inc 5 1 ((p + 1 : Nat) : Int) 230 _ rfl rfl rfl (by omega) (by omega) rfl ?_
              refine wq_s 36 rfl ?_
              refine ih_p (p + 1) _ _ _ _ _ _ (by omega) (by omega) ?_ hFr
              rw [hE, show hi + 1 - (p + 1) = hi - p by omega]
      · have c_40 := of_decide_eq_false c_40
        refine wq_s 45 rfl ?_
        refine wq_s 50 rfl ?_
        refine wq_icmp 233 rfl rfl (by omega) (by omega) (fun c_50 => ?_) (fun c_50 => ?_)
        · have c_50 := of_decide_eq_true c_50
          have e9 : p = hi + 1 := by omega
          subst e9
          rw [show hi + 1 - (hi + 1) = 0 by omega] at hE
          have hE : fstP (pP X r) (pairsL r) = none := hE
          refine wq_s 234 rfl ?_
          exact wq_ret rfl (Or.inr ⟨rfl, hE, hFr⟩)
        · have c_50 := of_decide_eq_false c_50
          refine wq_s 55 rfl ?_
          refine wq_if 73 rfl rfl (by omega) (fun c_55 => ?_) (fun c_55 => ?_)
          · have c_55 := of_decide_eq_true c_55
            refine wq_s 74 rfl ?_
            refine wq_s 76 rfl ?_
            refine L_76 10 0 _ _ _ _ _ (by omega) (by omega) (by omega) ?_ hFr
            rw [hE, show hi + 1 - p = hi - p + 1 by omega]
            show fstP (pP X r) (rowS r p ++ _) = _
            rw [show rowS r p = mp p (cmbF (sizeN r) 9 0) from if_neg (fun z => by have h9 := z.1; rcases hfi with ⟨h1, -, -⟩ | ⟨-, -, h1⟩; omega; rw [h1] at h9; cases h9), hsz]
          · have c_55 := of_decide_eq_false c_55
            refine wq_s 60 rfl ?_
            refine wq_s 62 rfl ?_
            refine wq_s 64 rfl ?_
            refine wq_st3 67 rfl rfl (by decide) (Nat.le_of_ble_eq_true rfl) rfl (Nat.le_of_ble_eq_true rfl) (c_X9_in (by omega) (by omega) (by omega)) (fun r M1 hr => ?_)
            obtain ⟨rfl, hM1⟩ := hr
            subst M1
            dsimp only [Option.toList, List.cons_append, List.nil_append]
            refine wq_if 73 rfl rfl iteR (fun c_67 => ?_) (fun c_67 => ?_)
            · have c_67 := of_decide_eq_true c_67
              have c_67 := ite0.mp c_67
              refine wq_s 74 rfl ?_
              refine wq_s 76 rfl ?_
              refine L_76 10 0 _ _ _ _ _ (by omega) (by omega) (by omega) ?_ hFr
              rw [hE, show hi + 1 - p = hi - p + 1 by omega]
              show fstP (pP X r) (rowS r p ++ _) = _
              rw [show rowS r p = mp p (cmbF (sizeN r) 9 0) from if_neg (fun z => by have h9 := z.2; omega), hsz]
            · have c_67 := of_decide_eq_false c_67
              have c_67 := ite1.mp c_67
              have hE : fstP (pP X r) (pairsL r) = fstP (pP X r) (prsG (rowS r) (hi - p) (p + 1)) := by
                rw [hE, show hi + 1 - p = hi - p + 1 by omega]
                show fstP (pP X r) (rowS r p ++ _) = _
                rw [show rowS r p = [] from if_pos ⟨by rcases hfi with ⟨-, -, h1⟩ | ⟨h1, -, -⟩; exact h1; omega, by omega, by omega⟩]
                rfl
              refine wq_s 227 rfl ?_
              refine we_inc 5 1 ((p + 1 : Nat) : Int) 230 _ rfl rfl rfl (by omega) (by omega) rfl ?_
              refine wq_s 36 rfl ?_
              refine ih_p (p + 1) _ _ _ _ _ _ (by omega) (by omega) ?_ hFr
              rw [hE, show hi + 1 - (p + 1) = hi - p by omega]
  exact L_36 (hi + 2) lo M none none none none none (by omega) (by omega) (by rw [hL]) (FrF.refl M o)
theorem c_X9_findsSome {d : Nat} {G : GT} {M : MT} {o q : Nat} {X : Nat → Nat} {r : Nat} (hG : RefG G o) (hq : q < G.1) (hT : G.2.2 q = .inl (false, 81)) (hne : q ≠ o + 5) (hno : q ≠ o) (hX : AtB M q X) (hr4 : 4 ≤ r ∧ r < 13) : Mq (d + 5) k_X9_findsSome [vR o, vR q, vI (r : Int)] G M (fun z M' => (z = some (vI 1) ∧ (∃ p v : Nat, fstP (pP X r) (pairsL r) = some (p, v) ∧ 0 < insN X (r : Int) (p : Int) (v : Int) ∧ FQv X M' o (r : Int) (p : Int) (v : Int)) ∧ FrF M M' o) ∨ (z = some (vI 0) ∧ fstP (pP X r) (pairsL r) = none ∧ FrF M M' o)) := by
  rcases (show r = 4 ∨ r = 5 ∨ r = 6 ∨ r = 7 ∨ r = 8 ∨ r = 9 ∨ r = 10 ∨ r = 11 ∨ r = 12 by omega) with rfl | rfl | rfl | rfl | rfl | rfl | rfl | rfl | rfl
  · refine wq_s 1 rfl ?_
    refine wq_st1 4 rfl rfl (by decide) (Nat.le_of_ble_eq_true rfl) rfl (Nat.le_of_ble_eq_true rfl) (c_X9_sizeOf (r := 4) (by decide)) (fun r M1 hr => ?_)
    obtain ⟨rfl, hM1⟩ := hr
    subst M1
    dsimp only [Option.toList, List.cons_append, List.nil_append]
    refine wq_s 5 rfl ?_
    refine wq_s 6 rfl ?_
    refine wq_s 8 rfl ?_
    refine wq_s 11 rfl ?_
    refine wq_s 12 rfl ?_
    refine wq_s 14 rfl ?_
    refine wq_s 21 rfl ?_
    refine wq_s 22 rfl ?_
    refine wq_s 24 rfl ?_
    refine wq_s 26 rfl ?_
    refine wq_s 33 rfl ?_
    refine wq_s 34 rfl ?_
    refine wq_s 36 rfl ?_
    exact findsSome_36 (r := 4) (j := 0) (fi := 0) (lo := 0) (hi := 26) hG hq hT hne hno hX (by decide) (by decide) (by decide) rfl rfl (by decide)
  · refine wq_s 1 rfl ?_
    refine wq_st1 4 rfl rfl (by decide) (Nat.le_of_ble_eq_true rfl) rfl (Nat.le_of_ble_eq_true rfl) (c_X9_sizeOf (r := 5) (by decide)) (fun r M1 hr => ?_)
    obtain ⟨rfl, hM1⟩ := hr
    subst M1
    dsimp only [Option.toList, List.cons_append, List.nil_append]
    refine wq_s 5 rfl ?_
    refine wq_s 6 rfl ?_
    refine wq_s 8 rfl ?_
    refine wq_s 11 rfl ?_
    refine wq_s 12 rfl ?_
    refine wq_s 14 rfl ?_
    refine wq_s 21 rfl ?_
    refine wq_s 22 rfl ?_
    refine wq_s 24 rfl ?_
    refine wq_s 26 rfl ?_
    refine wq_s 33 rfl ?_
    refine wq_s 34 rfl ?_
    refine wq_s 36 rfl ?_
    exact findsSome_36 (r := 5) (j := 0) (fi := 0) (lo := 0) (hi := 26) hG hq hT hne hno hX (by decide) (by decide) (by decide) rfl rfl (by decide)
  · refine wq_s 1 rfl ?_
    refine wq_st1 4 rfl rfl (by decide) (Nat.le_of_ble_eq_true rfl) rfl (Nat.le_of_ble_eq_true rfl) (c_X9_sizeOf (r := 6) (by decide)) (fun r M1 hr => ?_)
    obtain ⟨rfl, hM1⟩ := hr
    subst M1
    dsimp only [Option.toList, List.cons_append, List.nil_append]
    refine wq_s 5 rfl ?_
    refine wq_s 6 rfl ?_
    refine wq_s 8 rfl ?_
    refine wq_s 11 rfl ?_
    refine wq_s 12 rfl ?_
    refine wq_s 14 rfl ?_
    refine wq_s 21 rfl ?_
    refine wq_s 22 rfl ?_
    refine wq_s 24 rfl ?_
    refine wq_s 26 rfl ?_
    refine wq_s 33 rfl ?_
    refine wq_s 34 rfl ?_
    refine wq_s 36 rfl ?_
    exact findsSome_36 (r := 6) (j := 1) (fi := 0) (lo := 0) (hi := 26) hG hq hT hne hno hX (by decide) (by decide) (by decide) rfl rfl (by decide)
  · refine wq_s 1 rfl ?_
    refine wq_st1 4 rfl rfl (by decide) (Nat.le_of_ble_eq_true rfl) rfl (Nat.le_of_ble_eq_true rfl) (c_X9_sizeOf (r := 7) (by decide)) (fun r M1 hr => ?_)
    obtain ⟨rfl, hM1⟩ := hr
    subst M1
    dsimp only [Option.toList, List.cons_append, List.nil_append]
    refine wq_s 5 rfl ?_
    refine wq_s 6 rfl ?_
    refine wq_s 8 rfl ?_
    refine wq_s 11 rfl ?_
    refine wq_s 12 rfl ?_
    refine wq_s 14 rfl ?_
    refine wq_s 21 rfl ?_
    refine wq_s 22 rfl ?_
    refine wq_s 24 rfl ?_
    refine wq_s 26 rfl ?_
    refine wq_s 33 rfl ?_
    refine wq_s 34 rfl ?_
    refine wq_s 36 rfl ?_
    exact findsSome_36 (r := 7) (j := 1) (fi := 0) (lo := 0) (hi := 26) hG hq hT hne hno hX (by decide) (by decide) (by decide) rfl rfl (by decide)
  · refine wq_s 1 rfl ?_
    refine wq_st1 4 rfl rfl (by decide) (Nat.le_of_ble_eq_true rfl) rfl (Nat.le_of_ble_eq_true rfl) (c_X9_sizeOf (r := 8) (by decide)) (fun r M1 hr => ?_)
    obtain ⟨rfl, hM1⟩ := hr
    subst M1
    dsimp only [Option.toList, List.cons_append, List.nil_append]
    refine wq_s 5 rfl ?_
    refine wq_s 6 rfl ?_
    refine wq_s 8 rfl ?_
    refine wq_s 17 rfl ?_
    refine wq_s 18 rfl ?_
    refine wq_s 22 rfl ?_
    refine wq_s 24 rfl ?_
    refine wq_s 26 rfl ?_
    refine wq_s 29 rfl ?_
    refine wq_s 30 rfl ?_
    refine wq_s 34 rfl ?_
    refine wq_s 36 rfl ?_
    exact findsSome_36 (r := 8) (j := 0) (fi := 1) (lo := 1) (hi := 25) hG hq hT hne hno hX (by decide) (by decide) (by decide) rfl rfl (by decide)
  · refine wq_s 1 rfl ?_
    refine wq_st1 4 rfl rfl (by decide) (Nat.le_of_ble_eq_true rfl) rfl (Nat.le_of_ble_eq_true rfl) (c_X9_sizeOf (r := 9) (by decide)) (fun r M1 hr => ?_)
    obtain ⟨rfl, hM1⟩ := hr
    subst M1
    dsimp only [Option.toList, List.cons_append, List.nil_append]
    refine wq_s 5 rfl ?_
    refine wq_s 6 rfl ?_
    refine wq_s 8 rfl ?_
    refine wq_s 11 rfl ?_
    refine wq_s 12 rfl ?_
    refine wq_s 14 rfl ?_
    refine wq_s 21 rfl ?_
    refine wq_s 22 rfl ?_
    refine wq_s 24 rfl ?_
    refine wq_s 26 rfl ?_
    refine wq_s 33 rfl ?_
    refine wq_s 34 rfl ?_
    refine wq_s 36 rfl ?_
    exact findsSome_36 (r := 9) (j := 2) (fi := 0) (lo := 0) (hi := 26) hG hq hT hne hno hX (by decide) (by decide) (by decide) rfl rfl (by decide)
  · refine wq_s 1 rfl ?_
    refine wq_st1 4 rfl rfl (by decide) (Nat.le_of_ble_eq_true rfl) rfl (Nat.le_of_ble_eq_true rfl) (c_X9_sizeOf (r := 10) (by decide)) (fun r M1 hr => ?_)
    obtain ⟨rfl, hM1⟩ := hr
    subst M1
    dsimp only [Option.toList, List.cons_append, List.nil_append]
    refine wq_s 5 rfl ?_
    refine wq_s 6 rfl ?_
    refine wq_s 8 rfl ?_
    refine wq_s 11 rfl ?_
    refine wq_s 12 rfl ?_
    refine wq_s 14 rfl ?_
    refine wq_s 21 rfl ?_
    refine wq_s 22 rfl ?_
    refine wq_s 24 rfl ?_
    refine wq_s 26 rfl ?_
    refine wq_s 33 rfl ?_
    refine wq_s 34 rfl ?_
    refine wq_s 36 rfl ?_
    exact findsSome_36 (r := 10) (j := 2) (fi := 0) (lo := 0) (hi := 26) hG hq hT hne hno hX (by decide) (by decide) (by decide) rfl rfl (by decide)
  · refine wq_s 1 rfl ?_
    refine wq_st1 4 rfl rfl (by decide) (Nat.le_of_ble_eq_true rfl) rfl (Nat.le_of_ble_eq_true rfl) (c_X9_sizeOf (r := 11) (by decide)) (fun r M1 hr => ?_)
    obtain ⟨rfl, hM1⟩ := hr
    subst M1
    dsimp only [Option.toList, List.cons_append, List.nil_append]
    refine wq_s 5 rfl ?_
    refine wq_s 6 rfl ?_
    refine wq_s 8 rfl ?_
    refine wq_s 11 rfl ?_
    refine wq_s 12 rfl ?_
    refine wq_s 14 rfl ?_
    refine wq_s 17 rfl ?_
    refine wq_s 18 rfl ?_
    refine wq_s 22 rfl ?_
    refine wq_s 24 rfl ?_
    refine wq_s 26 rfl ?_
    refine wq_s 29 rfl ?_
    refine wq_s 30 rfl ?_
    refine wq_s 34 rfl ?_
    refine wq_s 36 rfl ?_
    exact findsSome_36 (r := 11) (j := 1) (fi := 1) (lo := 1) (hi := 25) hG hq hT hne hno hX (by decide) (by decide) (by decide) rfl rfl (by decide)
  · refine wq_s 1 rfl ?_
    refine wq_st1 4 rfl rfl (by decide) (Nat.le_of_ble_eq_true rfl) rfl (Nat.le_of_ble_eq_true rfl) (c_X9_sizeOf (r := 12) (by decide)) (fun r M1 hr => ?_)
    obtain ⟨rfl, hM1⟩ := hr
    subst M1
    dsimp only [Option.toList, List.cons_append, List.nil_append]
    refine wq_s 5 rfl ?_
    refine wq_s 6 rfl ?_
    refine wq_s 8 rfl ?_
    refine wq_s 11 rfl ?_
    refine wq_s 12 rfl ?_
    refine wq_s 14 rfl ?_
    refine wq_s 17 rfl ?_
    refine wq_s 18 rfl ?_
    refine wq_s 22 rfl ?_
    refine wq_s 24 rfl ?_
    refine wq_s 26 rfl ?_
    refine wq_s 29 rfl ?_
    refine wq_s 30 rfl ?_
    refine wq_s 34 rfl ?_
    refine wq_s 36 rfl ?_
    exact findsSome_36 (r := 12) (j := 2) (fi := 1) (lo := 1) (hi := 25) hG hq hT hne hno hX (by decide) (by decide) (by decide) rfl rfl (by decide)
