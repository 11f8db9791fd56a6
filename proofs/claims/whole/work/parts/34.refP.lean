theorem c_X9_cellOfE {d : Nat} {G : GT} {M : MT} {h k h' : Int} (hh : h = h') (h0 : 0 ≤ h') (h1 : h' < 27) (k0 : 0 ≤ k) (k1 : k < 9) : Mq d k_X9_cellOf [vI h, vI k] G M (fun r M' => r = some (vI (cellF h' k)) ∧ M' = M) := by
  subst hh
  exact c_X9_cellOf h0 h1 k0 k1
theorem c_X9_placesOfE {d : Nat} {G : GT} {M : MT} {q : Nat} {X : Nat → Nat} {h h' v : Int} (hh : h = h') (h0 : 0 ≤ h') (h1 : h' < 27) (hv : 1 ≤ v ∧ v ≤ 9) (hq : q < G.1) (hT : G.2.2 q = .inl (false, 81)) (hX : AtB M q X) : Mq (d + 1) k_X9_placesOf [vR q, vI h, vI v] G M (fun r M' => r = some (vI (plN X h' (v - 1).toNat 9 : Nat)) ∧ M' = M) := by
  subst hh
  have hcp := c_X9_placesOf (d := d) (M := M) (h := h) (e := (v - 1).toNat) h0 h1 (by omega) hq hT hX
  rw [show (((v - 1).toNat : Nat) : Int) + 1 = v by omega] at hcp
  exact hcp
def acN (X : Nat → Nat) (f : Int) (e q : Nat) : Nat → Nat
  | 0 => 0
  | k + 1 => if bitB q k = true then acN X f e q k ||| plN X (f + (k : Int)) e 9 else acN X f e q k
theorem acN_lt {X : Nat → Nat} {f : Int} {e q : Nat} : ∀ k, acN X f e q k < 512 := by
  intro k
  induction k with
  | zero => exact Nat.zero_lt_succ _
  | succ k ih =>
    unfold acN
    split
    · exact or_lt2 (k := 9) ih (plN_lt X _ e 9)
    · exact ih
def fshR (f : Int) (q ac : Nat) (v : Int) (Y : Int → Int) : Nat → (Int → Int)
  | 0 => Y
  | b + 1 => gsF (f + (b : Int)) (fun k => !bitB q b && bitB ac k) v (fshR f q ac v Y b) 9
def fshC (X : Nat → Nat) (f g v m : Int) : Prop := (1 ≤ g ∧ g ≤ 9) ∧ (0 ≤ v ∧ v ≤ 511) ∧ (pop9 v.toNat : Int) = m ∧ (pop9 (acN X f (g - 1).toNat v.toNat 9) : Int) = m
def fshG (X : Nat → Nat) (f g v : Int) (Y : Int → Int) : Int → Int := fshR f v.toNat (acN X f (g - 1).toNat v.toNat 9) ((2 ^ (g - 1).toNat : Nat) : Int) Y 9
theorem c_X9_fishM {d : Nat} {G : GT} {M : MT} {o q n : Nat} {X : Nat → Nat} {p m cl ff dg : Int} (hG : RefG G o) (hq : q < G.1) (hT : G.2.2 q = .inl (false, 81)) (hX : AtB M q X) (hg : R32 dg) (hcf : (cl = 1 ∧ ff = 9) ∨ (cl = 0 ∧ ff = 0)) (hn : n < 512) (hm0 : R32 m) : Wq (d + 2) k_X9_fish 28 [some (vR o), some (vR q), some (vI p), some (vI ((n : Nat) : Int)), some (vI m), some (vI cl), some (vI dg), none, none, none] [] G M (fun r M' => (r = some (vI 1) ∧ fshC X ff dg (n : Int) m ∧ M' = rowA M (o + 5) (fshG X ff dg (n : Int) (M (o + 5)))) ∨ (r = some (vI 0) ∧ ¬ fshC X ff dg (n : Int) m ∧ M' = M)) := by
  have L_131 : fshC X ff dg (n : Int) m → ∀ (f b : Nat) (y : Option AV), 9 - b < f → b ≤ 9 → Wq (d + 2) k_X9_fish 131 [some (vR o), some (vR q), some (vI p), some (vI ((n : Nat) : Int)), some (vI m), some (vI cl), some (vI dg), some (vI ((acN X ff (dg - 1).toNat n 9 : Nat) : Int)), some (vI ((b : Nat) : Int)), y] [] G (rowA M (o + 5) (fshR ff n (acN X ff (dg - 1).toNat n 9) ((2 ^ (dg - 1).toNat : Nat) : Int) (M (o + 5)) b)) (fun r M' => (r = some (vI 1) ∧ fshC X ff dg (n : Int) m ∧ M' = rowA M (o + 5) (fshG X ff dg (n : Int) (M (o + 5)))) ∨ (r = some (vI 0) ∧ ¬ fshC X ff dg (n : Int) m ∧ M' = M)) := by
    intro hs f
    induction f with
    | zero => intro b y h; exact absurd h (by omega)
    | succ f ih_b =>
      intro b y hf_b hk_b
      obtain ⟨⟨s1, s2⟩, -, -, -⟩ := id hs
      refine wq_s 133 rfl ?_
      refine wq_s 135 rfl ?_
      refine wq_icmp 211 rfl rfl (by omega) (by omega) (fun c_135 => ?_) (fun c_135 => ?_)
      · have c_135 := of_decide_eq_true c_135
        have e9 : b = 9 := by omega
        subst e9
        refine wq_s 212 rfl ?_
        exact wq_ret rfl (Or.inl ⟨rfl, hs, rfl⟩)
      · have c_135 := of_decide_eq_false c_135
        have L_141 : ∀ (f2 k : Nat), 9 - k < f2 → k ≤ 9 → Wq (d + 2) k_X9_fish 141 [some (vR o), some (vR q), some (vI p), some (vI ((n : Nat) : Int)), some (vI m), some (vI cl), some (vI dg), some (vI ((acN X ff (dg - 1).toNat n 9 : Nat) : Int)), some (vI ((b : Nat) : Int)), some (vI ((k : Nat) : Int))] [] G (rowA M (o + 5) (gsF (ff + (b : Int)) (fun k => !bitB n b && bitB (acN X ff (dg - 1).toNat n 9) k) ((2 ^ (dg - 1).toNat : Nat) : Int) (fshR ff n (acN X ff (dg - 1).toNat n 9) ((2 ^ (dg - 1).toNat : Nat) : Int) (M (o + 5)) b) k)) (fun r M' => (r = some (vI 1) ∧ fshC X ff dg (n : Int) m ∧ M' = rowA M (o + 5) (fshG X ff dg (n : Int) (M (o + 5)))) ∨ (r = some (vI 0) ∧ ¬ fshC X ff dg (n : Int) m ∧ M' = M)) := by
          intro f2
          induction f2 with
          | zero => intro k h; exact absurd h (by omega)
          | succ f2 ih_k =>
            intro k hf_k hk_k
            refine wq_s 143 rfl ?_
            refine wq_s 145 rfl ?_
            refine wq_icmp 205 rfl rfl (by omega) (by omega) (fun c_145 => ?_) (fun c_145 => ?_)
            · have c_145 := of_decide_eq_true c_145
              have e9 : k = 9 := by omega
              subst e9
              refine we_inc 8 1 ((b + 1 : Nat) : Int) 208 _ rfl rfl rfl (by omega) (by omega) rfl ?_
              refine wq_s 131 rfl ?_
              have h9 := ih_b (b + 1) (some (vI 9)) (by omega) (by omega)
              exact h9
            · have c_145 := of_decide_eq_false c_145
              have hac := acN_lt (X := X) (f := ff) (e := (dg - 1).toNat) (q := n) 9
              have hpw : 2 ^ (dg - 1).toNat ≤ 2 ^ 8 := Nat.pow_le_pow_right (by decide) (by omega)
              refine wq_s 149 rfl ?_
              refine wq_s 151 rfl ?_
              refine we_shr n b (n / 2 ^ b) 152 rfl rfl rfl rfl (by omega) (by omega) rfl ?_
              refine wq_s 153 rfl ?_
              refine we_and (n / 2 ^ b) 1 ((n / 2 ^ b) % 2) 154 rfl rfl rfl rfl (Nat.lt_of_le_of_lt (Nat.div_le_self _ _) (by omega)) (and_1 _) ?_
              refine wq_if 199 rfl rfl (by omega) (fun c_154 => ?_) (fun c_154 => ?_)
              · have c_154 := of_decide_eq_true c_154
                rw [← gsF_f (c := (fun k => !bitB n b && bitB (acN X ff (dg - 1).toNat n 9) k)) (k := k) (show (!bitB n b && bitB (acN X ff (dg - 1).toNat n 9) k) = false from by rw [show bitB n b = true from decide_eq_true (by omega)]; rfl)]
                refine we_inc 9 1 ((k + 1 : Nat) : Int) 202 _ rfl rfl rfl (by omega) (by omega) rfl ?_
                refine wq_s 141 rfl ?_
                exact ih_k (k + 1) (by omega) (by omega)
              · have c_154 := of_decide_eq_false c_154
                refine wq_s 159 rfl ?_
                refine wq_s 161 rfl ?_
                refine we_shr (acN X ff (dg - 1).toNat n 9) k ((acN X ff (dg - 1).toNat n 9) / 2 ^ k) 162 rfl rfl rfl rfl (by omega) (by omega) rfl ?_
                refine wq_s 163 rfl ?_
                refine we_and ((acN X ff (dg - 1).toNat n 9) / 2 ^ k) 1 (((acN X ff (dg - 1).toNat n 9) / 2 ^ k) % 2) 164 rfl rfl rfl rfl (Nat.lt_of_le_of_lt (Nat.div_le_self _ _) (by omega)) (and_1 _) ?_
                refine wq_s 165 rfl ?_
                refine wq_icmp 199 rfl rfl (by omega) (by omega) (fun c_165 => ?_) (fun c_165 => ?_)
                · have c_165 := of_decide_eq_true c_165
                  rw [← gsF_f (c := (fun k => !bitB n b && bitB (acN X ff (dg - 1).toNat n 9) k)) (k := k) (show (!bitB n b && bitB (acN X ff (dg - 1).toNat n 9) k) = false from by rw [show bitB (acN X ff (dg - 1).toNat n 9) k = false from decide_eq_false (by omega), Bool.and_false])]
                  refine we_inc 9 1 ((k + 1 : Nat) : Int) 202 _ rfl rfl rfl (by omega) (by omega) rfl ?_
                  refine wq_s 141 rfl ?_
                  exact ih_k (k + 1) (by omega) (by omega)
                · have c_165 := of_decide_eq_false c_165
                  refine wq_s 169 rfl ?_
                  refine wq_getR 172 rfl rfl hG.ob hG.2.2.1 rfl ?_
                  refine wq_s 174 rfl ?_
                  refine wq_if 185 rfl rfl (by omega) (fun c_174 => ?_) (fun c_174 => ?_)
                  · have c_174 := of_decide_eq_true c_174
                    refine wq_s 187 rfl ?_
                    refine wq_s 189 rfl ?_
                    refine wq_st2 192 rfl rfl (by decide) (Nat.le_of_ble_eq_true rfl) rfl (Nat.le_of_ble_eq_true rfl) (c_X9_cellOfE (h' := ff + (b : Int)) (by omega) (by omega) (by omega) (by omega) (by omega)) (fun r M1 hr => ?_)
                    obtain ⟨rfl, hM1⟩ := hr
                    subst M1
                    dsimp only [Option.toList, List.cons_append, List.nil_append]
                    have hcr := cellF_rng (h := ff + (b : Int)) (k := (k : Int)) (by omega) (by omega) (by omega) (by omega)
                    refine wq_s 193 rfl ?_
                    refine wq_s 195 rfl ?_
                    refine wq_s 196 rfl ?_
                    refine we_sub (dg - 1) 197 rfl rfl (by omega) (by omega) ?_
                    refine we_shl 1 ((dg - 1)).toNat (2 ^ ((dg - 1)).toNat) 198 rfl rfl rfl (by omega) (by omega) (Nat.one_mul _) (by omega) ?_
                    refine wq_iast 199 rfl rfl hG.a_gone.1 hG.a_gone.2 (by omega) (by omega) (by omega) ?_
                    rw [rowA_up, ← gsF_t (c := (fun k => !bitB n b && bitB (acN X ff (dg - 1).toNat n 9) k)) (k := k) (show (!bitB n b && bitB (acN X ff (dg - 1).toNat n 9) k) = true from by rw [show bitB n b = false from decide_eq_false (by omega), show bitB (acN X ff (dg - 1).toNat n 9) k = true from decide_eq_true (by omega)]; rfl)]
                    refine we_inc 9 1 ((k + 1 : Nat) : Int) 202 _ rfl rfl rfl (by omega) (by omega) rfl ?_
                    refine wq_s 141 rfl ?_
                    exact ih_k (k + 1) (by omega) (by omega)
                  · have c_174 := of_decide_eq_false c_174
                    refine wq_s 179 rfl ?_
                    refine wq_s 181 rfl ?_
                    refine we_add ((9 + b : Nat) : Int) 182 rfl rfl (by omega) (by omega) ?_
                    refine wq_s 187 rfl ?_
                    refine wq_s 189 rfl ?_
                    refine wq_st2 192 rfl rfl (by decide) (Nat.le_of_ble_eq_true rfl) rfl (Nat.le_of_ble_eq_true rfl) (c_X9_cellOfE (h' := ff + (b : Int)) (by omega) (by omega) (by omega) (by omega) (by omega)) (fun r M1 hr => ?_)
                    obtain ⟨rfl, hM1⟩ := hr
                    subst M1
                    dsimp only [Option.toList, List.cons_append, List.nil_append]
                    have hcr := cellF_rng (h := ff + (b : Int)) (k := (k : Int)) (by omega) (by omega) (by omega) (by omega)
                    refine wq_s 193 rfl ?_
                    refine wq_s 195 rfl ?_
                    refine wq_s 196 rfl ?_
                    refine we_sub (dg - 1) 197 rfl rfl (by omega) (by omega) ?_
                    refine we_shl 1 ((dg - 1)).toNat (2 ^ ((dg - 1)).toNat) 198 rfl rfl rfl (by omega) (by omega) (Nat.one_mul _) (by omega) ?_
                    refine wq_iast 199 rfl rfl hG.a_gone.1 hG.a_gone.2 (by omega) (by omega) (by omega) ?_
                    rw [rowA_up, ← gsF_t (c := (fun k => !bitB n b && bitB (acN X ff (dg - 1).toNat n 9) k)) (k := k) (show (!bitB n b && bitB (acN X ff (dg - 1).toNat n 9) k) = true from by rw [show bitB n b = false from decide_eq_false (by omega), show bitB (acN X ff (dg - 1).toNat n 9) k = true from decide_eq_true (by omega)]; rfl)]
                    refine we_inc 9 1 ((k + 1 : Nat) : Int) 202 _ rfl rfl rfl (by omega) (by omega) rfl ?_
                    refine wq_s 141 rfl ?_
                    exact ih_k (k + 1) (by omega) (by omega)
        refine wq_s 139 rfl ?_
        refine wq_s 141 rfl ?_
        exact L_141 10 0 (by omega) (by omega)
  have L_67 : (1 ≤ dg ∧ dg ≤ 9) → (pop9 n : Int) = m → ∀ (f b : Nat), 9 - b < f → b ≤ 9 → Wq (d + 2) k_X9_fish 67 [some (vR o), some (vR q), some (vI p), some (vI ((n : Nat) : Int)), some (vI m), some (vI cl), some (vI dg), some (vI ((acN X ff (dg - 1).toNat n b : Nat) : Int)), some (vI ((b : Nat) : Int)), none] [] G M (fun r M' => (r = some (vI 1) ∧ fshC X ff dg (n : Int) m ∧ M' = rowA M (o + 5) (fshG X ff dg (n : Int) (M (o + 5)))) ∨ (r = some (vI 0) ∧ ¬ fshC X ff dg (n : Int) m ∧ M' = M)) := by
    intro hd0 hm f
    induction f with
    | zero => intro b h; exact absurd h (by omega)
    | succ f ih_b =>
      intro b hf_b hk_b
      refine wq_s 69 rfl ?_
      refine wq_s 71 rfl ?_
      refine wq_icmp 116 rfl rfl (by omega) (by omega) (fun c_71 => ?_) (fun c_71 => ?_)
      · have c_71 := of_decide_eq_true c_71
        have e9 : b = 9 := by omega
        subst e9
        have hac := acN_lt (X := X) (f := ff) (e := (dg - 1).toNat) (q := n) 9
        refine wq_s 118 rfl ?_
        refine wq_st1 121 rfl rfl (by decide) (Nat.le_of_ble_eq_true rfl) rfl (Nat.le_of_ble_eq_true rfl) (c_X9_bits (by omega)) (fun r M1 hr => ?_)
        obtain ⟨rfl, hM1⟩ := hr
        subst M1
        dsimp only [Option.toList, List.cons_append, List.nil_append]
        have hpp_118 := pop9_le (acN X ff (dg - 1).toNat n 9)
        refine wq_s 123 rfl ?_
        refine wq_icmp 128 rfl rfl (by omega) (by omega) (fun c_123 => ?_) (fun c_123 => ?_)
        · have c_123 := of_decide_eq_true c_123
          refine wq_s 129 rfl ?_
          refine wq_s 131 rfl ?_
          have hs : fshC X ff dg (n : Int) m := ⟨hd0, ⟨by omega, by omega⟩, hm, c_123⟩
          have h := L_131 hs 10 0 none (by omega) (by omega)
          rw [show fshR ff n (acN X ff (dg - 1).toNat n 9) ((2 ^ (dg - 1).toNat : Nat) : Int) (M (o + 5)) 0 = M (o + 5) from rfl, rowA_0] at h
          exact h
        · have c_123 := of_decide_eq_false c_123
          refine wq_s 127 rfl ?_
          exact wq_ret rfl (Or.inr ⟨rfl, fun z => c_123 z.2.2.2, rfl⟩)
      · have c_71 := of_decide_eq_false c_71
        have hac := acN_lt (X := X) (f := ff) (e := (dg - 1).toNat) (q := n) b
        refine wq_s 75 rfl ?_
        refine wq_s 77 rfl ?_
        refine we_shr n b (n / 2 ^ b) 78 rfl rfl rfl rfl (by omega) (by omega) rfl ?_
        refine wq_s 79 rfl ?_
        refine we_and (n / 2 ^ b) 1 ((n / 2 ^ b) % 2) 80 rfl rfl rfl rfl (Nat.lt_of_le_of_lt (Nat.div_le_self _ _) (by omega)) (and_1 _) ?_
        refine wq_s 81 rfl ?_
        refine wq_icmp 110 rfl rfl (by omega) (by omega) (fun c_81 => ?_) (fun c_81 => ?_)
        · have c_81 := of_decide_eq_true c_81
          rw [← show acN X ff (dg - 1).toNat n (b + 1) = acN X ff (dg - 1).toNat n b from if_neg (by rw [show bitB n b = false from decide_eq_false (by omega)]; decide)]
          refine we_inc 8 1 ((b + 1 : Nat) : Int) 113 _ rfl rfl rfl (by omega) (by omega) rfl ?_
          refine wq_s 67 rfl ?_
          exact ih_b (b + 1) (by omega) (by omega)
        · have c_81 := of_decide_eq_false c_81
          refine wq_s 86 rfl ?_
          refine wq_s 87 rfl ?_
          refine wq_s 89 rfl ?_
          refine wq_if 100 rfl rfl (by omega) (fun c_89 => ?_) (fun c_89 => ?_)
          · have c_89 := of_decide_eq_true c_89
            refine wq_s 102 rfl ?_
            refine wq_s 104 rfl ?_
            refine wq_st3 107 rfl rfl (by decide) (Nat.le_of_ble_eq_true rfl) rfl (Nat.le_of_ble_eq_true rfl) (c_X9_placesOfE (h' := ff + (b : Int)) (by omega) (by omega) (by omega) (by omega) hq hT hX) (fun r M1 hr => ?_)
            obtain ⟨rfl, hM1⟩ := hr
            subst M1
            dsimp only [Option.toList, List.cons_append, List.nil_append]
            have hpl := plN_lt X (ff + (b : Int)) (dg - 1).toNat 9
            refine we_or (acN X ff (dg - 1).toNat n b) (plN X (ff + (b : Int)) (dg - 1).toNat 9) (acN X ff (dg - 1).toNat n (b + 1)) 108 rfl rfl rfl rfl (by omega) (by omega) (show acN X ff (dg - 1).toNat n b ||| plN X (ff + (b : Int)) (dg - 1).toNat 9 = acN X ff (dg - 1).toNat n (b + 1) from (if_pos (show bitB n b = true from decide_eq_true (by omega))).symm) ?_
            refine wq_s 110 rfl ?_
            refine we_inc 8 1 ((b + 1 : Nat) : Int) 113 _ rfl rfl rfl (by omega) (by omega) rfl ?_
            refine wq_s 67 rfl ?_
            exact ih_b (b + 1) (by omega) (by omega)
          · have c_89 := of_decide_eq_false c_89
            refine wq_s 94 rfl ?_
            refine wq_s 96 rfl ?_
            refine we_add ((9 + b : Nat) : Int) 97 rfl rfl (by omega) (by omega) ?_
            refine wq_s 102 rfl ?_
            refine wq_s 104 rfl ?_
            refine wq_st3 107 rfl rfl (by decide) (Nat.le_of_ble_eq_true rfl) rfl (Nat.le_of_ble_eq_true rfl) (c_X9_placesOfE (h' := ff + (b : Int)) (by omega) (by omega) (by omega) (by omega) hq hT hX) (fun r M1 hr => ?_)
            obtain ⟨rfl, hM1⟩ := hr
            subst M1
            dsimp only [Option.toList, List.cons_append, List.nil_append]
            have hpl := plN_lt X (ff + (b : Int)) (dg - 1).toNat 9
            refine we_or (acN X ff (dg - 1).toNat n b) (plN X (ff + (b : Int)) (dg - 1).toNat 9) (acN X ff (dg - 1).toNat n (b + 1)) 108 rfl rfl rfl rfl (by omega) (by omega) (show acN X ff (dg - 1).toNat n b ||| plN X (ff + (b : Int)) (dg - 1).toNat 9 = acN X ff (dg - 1).toNat n (b + 1) from (if_pos (show bitB n b = true from decide_eq_true (by omega))).symm) ?_
            refine wq_s 110 rfl ?_
            refine we_inc 8 1 ((b + 1 : Nat) : Int) 113 _ rfl rfl rfl (by omega) (by omega) rfl ?_
            refine wq_s 67 rfl ?_
            exact ih_b (b + 1) (by omega) (by omega)
  refine wq_s 30 rfl ?_
  refine wq_s 31 rfl ?_
  refine wq_s 33 rfl ?_
  refine wq_st3 36 rfl rfl (by decide) (Nat.le_of_ble_eq_true rfl) rfl (Nat.le_of_ble_eq_true rfl) (c_X9_in (by omega) (by omega) (by omega)) (fun r M1 hr => ?_)
  obtain ⟨rfl, hM1⟩ := hr
  subst M1
  dsimp only [Option.toList, List.cons_append, List.nil_append]
  refine wq_if 59 rfl rfl iteR (fun c_36 => ?_) (fun c_36 => ?_)
  · have c_36 := of_decide_eq_true c_36
    have c_36 := ite0.mp c_36
    refine wq_s 60 rfl ?_
    exact wq_ret rfl (Or.inr ⟨rfl, fun z => c_36 z.1, rfl⟩)
  · have c_36 := of_decide_eq_false c_36
    have c_36 := ite1.mp c_36
    refine wq_s 40 rfl ?_
    refine wq_s 41 rfl ?_
    refine wq_s 44 rfl ?_
    refine wq_st3 47 rfl rfl (by decide) (Nat.le_of_ble_eq_true rfl) rfl (Nat.le_of_ble_eq_true rfl) (c_X9_in (by omega) (by omega) (by omega)) (fun r M1 hr => ?_)
    obtain ⟨rfl, hM1⟩ := hr
    subst M1
    dsimp only [Option.toList, List.cons_append, List.nil_append]
    refine wq_if 59 rfl rfl iteR (fun c_47 => ?_) (fun c_47 => ?_)
    · have c_47 := of_decide_eq_true c_47
      have c_47 := ite0.mp c_47
      refine wq_s 60 rfl ?_
      exact wq_ret rfl (Or.inr ⟨rfl, fun z => c_47 z.2.1, rfl⟩)
    · have c_47 := of_decide_eq_false c_47
      have c_47 := ite1.mp c_47
      refine wq_s 51 rfl ?_
      refine wq_st1 54 rfl rfl (by decide) (Nat.le_of_ble_eq_true rfl) rfl (Nat.le_of_ble_eq_true rfl) (c_X9_bits (by omega)) (fun r M1 hr => ?_)
      obtain ⟨rfl, hM1⟩ := hr
      subst M1
      dsimp only [Option.toList, List.cons_append, List.nil_append]
      have hpp_51 := pop9_le n
      refine wq_s 56 rfl ?_
      refine wq_icmp 61 rfl rfl (by omega) (by omega) (fun c_56 => ?_) (fun c_56 => ?_)
      · have c_56 := of_decide_eq_true c_56
        refine wq_s 62 rfl ?_
        refine wq_s 64 rfl ?_
        refine wq_s 65 rfl ?_
        refine wq_s 67 rfl ?_
        exact L_67 c_36 c_56 10 0 (by omega) (by omega)
      · have c_56 := of_decide_eq_false c_56
        refine wq_s 60 rfl ?_
        exact wq_ret rfl (Or.inr ⟨rfl, fun z => c_56 z.2.2.1, rfl⟩)
def fof (p : Int) : Int := if 16 < p then 9 else 0
def fdg (p : Int) : Int := if 16 < p then p - 16 else p
theorem c_X9_fishO {d : Nat} {G : GT} {M : MT} {o q : Nat} {X : Nat → Nat} {p v m cl ff dg : Int} (hG : RefG G o) (hg : R32 dg) (hb : ¬ (0 ≤ v ∧ v ≤ 511)) (hv : R32 v) : Wq (d + 2) k_X9_fish 28 [some (vR o), some (vR q), some (vI p), some (vI v), some (vI m), some (vI cl), some (vI dg), none, none, none] [] G M (fun r M' => (r = some (vI 1) ∧ fshC X ff dg v m ∧ M' = rowA M (o + 5) (fshG X ff dg v (M (o + 5)))) ∨ (r = some (vI 0) ∧ ¬ fshC X ff dg v m ∧ M' = M)) := by
  refine wq_s 30 rfl ?_
  refine wq_s 31 rfl ?_
  refine wq_s 33 rfl ?_
  refine wq_st3 36 rfl rfl (by decide) (Nat.le_of_ble_eq_true rfl) rfl (Nat.le_of_ble_eq_true rfl) (c_X9_in (by omega) (by omega) (by omega)) (fun r M1 hr => ?_)
  obtain ⟨rfl, hM1⟩ := hr
  subst M1
  dsimp only [Option.toList, List.cons_append, List.nil_append]
  refine wq_if 59 rfl rfl iteR (fun c_36 => ?_) (fun c_36 => ?_)
  · have c_36 := of_decide_eq_true c_36
    have c_36 := ite0.mp c_36
    refine wq_s 60 rfl ?_
    exact wq_ret rfl (Or.inr ⟨rfl, fun z => c_36 z.1, rfl⟩)
  · have c_36 := of_decide_eq_false c_36
    have c_36 := ite1.mp c_36
    refine wq_s 40 rfl ?_
    refine wq_s 41 rfl ?_
    refine wq_s 44 rfl ?_
    refine wq_st3 47 rfl rfl (by decide) (Nat.le_of_ble_eq_true rfl) rfl (Nat.le_of_ble_eq_true rfl) (c_X9_in (by omega) (by omega) (by omega)) (fun r M1 hr => ?_)
    obtain ⟨rfl, hM1⟩ := hr
    subst M1
    dsimp only [Option.toList, List.cons_append, List.nil_append]
    refine wq_if 59 rfl rfl iteR (fun c_47 => ?_) (fun c_47 => ?_)
    · have c_47 := of_decide_eq_true c_47
      have c_47 := ite0.mp c_47
      refine wq_s 60 rfl ?_
      exact wq_ret rfl (Or.inr ⟨rfl, fun z => c_47 z.2.1, rfl⟩)
    · have c_47 := of_decide_eq_false c_47
      have c_47 := ite1.mp c_47
      exact absurd c_47 hb
theorem c_X9_fishQ {d : Nat} {G : GT} {M : MT} {o q : Nat} {X : Nat → Nat} {p v m cl ff dg : Int} (hG : RefG G o) (hq : q < G.1) (hT : G.2.2 q = .inl (false, 81)) (hX : AtB M q X) (hg : R32 dg) (hcf : (cl = 1 ∧ ff = 9) ∨ (cl = 0 ∧ ff = 0)) (hv : R32 v) (hm0 : R32 m) : Wq (d + 2) k_X9_fish 28 [some (vR o), some (vR q), some (vI p), some (vI v), some (vI m), some (vI cl), some (vI dg), none, none, none] [] G M (fun r M' => (r = some (vI 1) ∧ fshC X ff dg v m ∧ M' = rowA M (o + 5) (fshG X ff dg v (M (o + 5)))) ∨ (r = some (vI 0) ∧ ¬ fshC X ff dg v m ∧ M' = M)) := by
  by_cases hb : 0 ≤ v ∧ v ≤ 511
  · obtain ⟨n, rfl⟩ := Int.eq_ofNat_of_zero_le hb.1
    exact c_X9_fishM hG hq hT hX hg hcf (by omega) hm0
  · exact c_X9_fishO hG hg hb hv
theorem c_X9_fish {d : Nat} {G : GT} {M : MT} {o q : Nat} {X : Nat → Nat} {p v m : Int} (hG : RefG G o) (hq : q < G.1) (hT : G.2.2 q = .inl (false, 81)) (hX : AtB M q X) (hp : R32 p) (hv : R32 v) (hm0 : R32 m) : Mq (d + 2) k_X9_fish [vR o, vR q, vI p, vI v, vI m] G M (fun r M' => (r = some (vI 1) ∧ fshC X (fof p) (fdg p) v m ∧ M' = rowA M (o + 5) (fshG X (fof p) (fdg p) v (M (o + 5)))) ∨ (r = some (vI 0) ∧ ¬ fshC X (fof p) (fdg p) v m ∧ M' = M)) := by
  refine wq_s 1 rfl ?_
  refine wq_s 3 rfl ?_
  refine wq_icmp 10 rfl rfl (by omega) (by omega) (fun c_3 => ?_) (fun c_3 => ?_)
  · have c_3 := of_decide_eq_true c_3
    refine wq_s 11 rfl ?_
    refine wq_s 13 rfl ?_
    refine wq_s 15 rfl ?_
    refine wq_s 25 rfl ?_
    refine wq_s 26 rfl ?_
    refine wq_s 28 rfl ?_
    rw [show fof p = 0 from if_neg (by omega), show fdg p = p from if_neg (by omega)]
    exact c_X9_fishQ hG hq hT hX (by omega) (by omega) hv hm0
  · have c_3 := of_decide_eq_false c_3
    refine wq_s 7 rfl ?_
    refine wq_s 11 rfl ?_
    refine wq_s 13 rfl ?_
    refine wq_s 15 rfl ?_
    refine wq_s 18 rfl ?_
    refine wq_s 19 rfl ?_
    refine wq_s 21 rfl ?_
    refine we_sub (p - 16) 22 rfl rfl (by omega) (by omega) ?_
    refine wq_s 26 rfl ?_
    refine wq_s 28 rfl ?_
    rw [show fof p = 9 from if_pos (by omega), show fdg p = p - 16 from if_pos (by omega)]
    exact c_X9_fishQ hG hq hT hX (by omega) (by omega) hv hm0
