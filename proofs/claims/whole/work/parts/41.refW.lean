/-! a row of nodes as an instance of the last rule -/
def chC (X : Nat → Nat) (rv : Nat → Nat) (w : Nat) : Prop := 2 ≤ w ∧ w % 2 = 0 ∧ ∀ s, 1 ≤ s → s < w → (s % 2 = 1 → strongC X (rv (s - 1)) (rv s)) ∧ (s % 2 = 0 → weakC X (rv (s - 1)) (rv s))
noncomputable def bwY (X : Nat → Nat) (u v : Nat) : Nat → Nat → Nat
  | 0, _ => 0
  | n + 1, c => cI (weakC X n u ∧ weakC X n v ∧ c = n / 9) (bwY X u v n c ||| 2 ^ (n % 9)) (bwY X u v n c)
theorem pw9 (n : Nat) : 2 ^ (n % 9) ≤ 256 := Nat.le_trans (Nat.pow_le_pow_right (by decide) (show n % 9 ≤ 8 by omega)) (by decide)
theorem bwY_lt {X : Nat → Nat} {u v : Nat} : ∀ n c, bwY X u v n c < 512 := by
  intro n c
  induction n with
  | zero => exact Nat.zero_lt_succ _
  | succ n ih =>
    unfold bwY
    by_cases h : weakC X n u ∧ weakC X n v ∧ c = n / 9
    · rw [cI_t h]
      have := pw9 n
      exact or_lt2 (k := 9) ih (by omega)
    · rw [cI_f h]
      exact ih
noncomputable def byY (X : Nat → Nat) (rv : Nat → Nat) (w c : Nat) : Nat := cI (chC X rv w) (bwY X (rv 0) (rv (w - 1)) 729 c &&& X c) 0
noncomputable def byN (X : Nat → Nat) (rv : Nat → Nat) (w : Nat) : Nat := sumN (fun c => pop9 (byY X rv w c)) 81
theorem byN_f {X rv : Nat → Nat} {w : Nat} (h : ¬ chC X rv w) : byN X rv w = 0 := by
  unfold byN
  rw [sumN_ext (g := fun _ => 0) 81 (fun k _ => by unfold byY; rw [cI_f h]; rfl)]
  exact sumN_0 81
theorem c_X9_byRow {d : Nat} {G : GT} {M : MT} {o q qn u w Nn : Nat} {X rv : Nat → Nat} (hG : RefG G o) (hq : q < G.1) (hT : G.2.2 q = .inl (false, 81)) (hne : q ≠ o + 5) (hX : AtB M q X) (hn : qn < G.1 ∧ G.2.2 qn = .inl (false, Nn) ∧ u + w ≤ Nn ∧ Nn < 100000) (hnn : qn ≠ o + 5) (hw : w ≤ 24) (hR : ∀ s, s < w → M qn ((u + s : Nat) : Int) = ((rv s : Nat) : Int) ∧ rv s < 729) : Mq (d + 4) k_X9_byRow [vR o, vR q, vR qn, vI (u : Int), vI (w : Int)] G M (fun z M' => z = some (vI (byN X rv w : Nat)) ∧ AtB M' (o + 5) (byY X rv w) ∧ FrQ M M' (o + 5)) := by
  have hz0 : AtB (setA M (o + 5) 81 (fun _ => 0)) (o + 5) (fun _ => 0) := fun c hc => ⟨setA_lo (by omega) (by omega), show (0 : Nat) < 512 by decide⟩
  have hF0 : FrQ M (setA M (o + 5) 81 (fun _ => 0)) (o + 5) := fun a ha => setA_ne ha
  have hfail : ¬ chC X rv w → (some (vI 0) = some (vI (byN X rv w : Nat)) ∧ AtB (setA M (o + 5) 81 (fun _ => 0)) (o + 5) (byY X rv w) ∧ FrQ M (setA M (o + 5) 81 (fun _ => 0)) (o + 5)) := fun h => ⟨by rw [byN_f h]; rfl, hz0.ext (fun c _ => by unfold byY; rw [cI_f h]), hF0⟩
  have L_92 : chC X rv w → ∀ (y6 y7 : Option AV) (f n : Nat) (M2 : MT), 729 - n < f → n ≤ 729 → (AtB M2 (o + 5) (bwY X (rv 0) (rv (w - 1)) n)) → (FrQ M M2 (o + 5)) → Wq (d + 4) k_X9_byRow 92 [some (vR o), some (vR q), some (vR qn), some (vI ((u : Nat) : Int)), some (vI ((w : Nat) : Int)), some (vI ((n : Nat) : Int)), y6, y7] [] G M2 (fun z M' => z = some (vI (byN X rv w : Nat)) ∧ AtB M' (o + 5) (byY X rv w) ∧ FrQ M M' (o + 5)) := by
    intro hch y6 y7 f
    have hw2 := hch.1
    induction f with
    | zero => intro n M2 h; exact absurd h (by omega)
    | succ f ih_n =>
      intro n M2 hf_n hk_n hY hFr
      refine wq_s 94 rfl ?_
      refine wq_s 97 rfl ?_
      refine wq_icmp 155 rfl rfl (by omega) (by omega) (fun c_97 => ?_) (fun c_97 => ?_)
      · have c_97 := of_decide_eq_true c_97
        have e9 : n = 729 := by omega
        subst e9
        refine wq_s 156 rfl ?_
        refine wq_s 157 rfl ?_
        refine wq_vt1 160 rfl rfl (Nat.le_of_ble_eq_true rfl) hG.ob hG.2.2.1 rfl (Nat.le_of_ble_eq_true rfl) (c_X9_there hG hq hT hne (hX.fr (hFr q hne)) hY) (fun r M3 hr => ?_)
        obtain ⟨rfl, hM3⟩ := hr
        dsimp only [Option.toList, List.cons_append, List.nil_append]
        have hyc : ∀ c, c < 81 → byY X rv w c = bwY X (rv 0) (rv (w - 1)) 729 c &&& X c := fun c _ => by
          unfold byY
          rw [cI_t hch]
        refine wq_ret rfl ⟨?_, fun c hc2 => ?_, fun a ha => ?_⟩
        · rw [show byN X rv w = sumN (fun c => pop9 (bwY X (rv 0) (rv (w - 1)) 729 c &&& X c)) 81 from sumN_ext 81 (fun c hc2 => by rw [hyc c hc2])]
        · rw [hM3, hyc c hc2, setA_lo (by omega) (by omega), Int.toNat_natCast]
          exact ⟨rfl, and_lt2 (k := 9) (bwY_lt _ _)⟩
        · rw [hM3, setA_ne ha]
          exact hFr a ha
      · have c_97 := of_decide_eq_false c_97
        have hbw := bwY_lt (X := X) (u := rv 0) (v := rv (w - 1)) n (n / 9)
        have hpw := pw9 n
        refine wq_s 101 rfl ?_
        refine wq_s 103 rfl ?_
        refine wq_s 104 rfl ?_
        refine wq_s 105 rfl ?_
        refine wq_iald (v := ((rv 0 : Nat) : Int)) 106 rfl rfl (And.intro (Nat.zero_le 0) hn.1).2 hn.2.1 (by omega) (by omega) (by omega) (by rw [hFr qn hnn]; exact (hR 0 (by omega)).1) ?_
        refine wq_st3 109 rfl rfl (by decide) (Nat.le_of_ble_eq_true rfl) rfl (Nat.le_of_ble_eq_true rfl) (c_X9_isWeak (by omega) (hR 0 (by omega)).2 hq hT (hX.fr (hFr q hne))) (fun r M1 hr => ?_)
        rcases hr with ⟨rfl, b_106, hM1⟩ | ⟨rfl, b_106, hM1⟩
        · subst M1
          dsimp only [Option.toList, List.cons_append, List.nil_append]
          refine wq_s 112 rfl ?_
          refine wq_s 113 rfl ?_
          refine wq_s 115 rfl ?_
          refine wq_s 116 rfl ?_
          refine wq_s 117 rfl ?_
          refine wq_s 119 rfl ?_
          refine we_add ((u + w : Nat) : Int) 120 rfl rfl (by omega) (by omega) ?_
          refine wq_s 121 rfl ?_
          refine we_sub ((u + w - 1 : Nat) : Int) 122 rfl rfl (by omega) (by omega) ?_
          refine wq_iald (v := ((rv (w - 1) : Nat) : Int)) 123 rfl rfl (And.intro (Nat.zero_le 0) hn.1).2 hn.2.1 (by omega) (by omega) (by omega) (by rw [hFr qn hnn, show u + w - 1 = u + (w - 1) by omega]; exact (hR (w - 1) (by omega)).1) ?_
          refine wq_st3 126 rfl rfl (by decide) (Nat.le_of_ble_eq_true rfl) rfl (Nat.le_of_ble_eq_true rfl) (c_X9_isWeak (by omega) (hR (w - 1) (by omega)).2 hq hT (hX.fr (hFr q hne))) (fun r M1 hr => ?_)
          rcases hr with ⟨rfl, b_123, hM1⟩ | ⟨rfl, b_123, hM1⟩
          · subst M1
            dsimp only [Option.toList, List.cons_append, List.nil_append]
            refine wq_s 129 rfl ?_
            refine wq_s 130 rfl ?_
            refine wq_getR 133 rfl rfl hG.ob hG.2.2.1 rfl ?_
            refine wq_s 135 rfl ?_
            refine wq_s 137 rfl ?_
            refine we_div ((n / 9 : Nat) : Int) 138 rfl rfl (by omega) (by omega) (by omega) ?_
            refine wq_s 139 rfl ?_
            refine wq_iald (v := ((bwY X (rv 0) (rv (w - 1)) n (n / 9) : Nat) : Int)) 140 rfl rfl hG.a_gone.1.2 hG.a_gone.2 (by omega) (by omega) (by omega) (hY (n / 9) (by omega)).1 ?_
            refine wq_s 141 rfl ?_
            refine wq_s 143 rfl ?_
            refine wq_s 145 rfl ?_
            refine we_rem ((n % 9 : Nat) : Int) 146 rfl rfl (by omega) (by omega) (by omega) ?_
            refine we_shl 1 (n % 9) (2 ^ (n % 9)) 147 rfl rfl rfl rfl (by omega) (Nat.one_mul _) (by omega) ?_
            refine we_or (bwY X (rv 0) (rv (w - 1)) n (n / 9)) (2 ^ (n % 9)) ((bwY X (rv 0) (rv (w - 1)) n (n / 9)) ||| (2 ^ (n % 9))) 148 rfl rfl rfl rfl (by omega) (by omega) rfl ?_
            refine wq_iast 149 rfl rfl hG.a_gone.1 hG.a_gone.2 (by omega) (by omega) (by omega) ?_
            refine we_inc 5 1 ((n + 1 : Nat) : Int) 152 _ rfl rfl rfl (by omega) (by omega) rfl ?_
            refine wq_s 92 rfl ?_
            refine ih_n (n + 1) _ (by omega) (by omega) (fun c hc => ?_) (fun a ha => (up2_row ha).trans (hFr a ha))
            refine ⟨?_, bwY_lt _ _⟩
            show _ = ((cI _ _ _ : Nat) : Int)
            by_cases hcn : c = n / 9
            · rw [cI_t ⟨b_106, b_123, hcn⟩, up2_eq rfl (by omega), hcn]
            · rw [cI_f (fun z => hcn z.2.2), up2_ne (Or.inr (by omega))]
              exact (hY c hc).1
          · subst M1
            dsimp only [Option.toList, List.cons_append, List.nil_append]
            refine wq_s 149 rfl ?_
            refine we_inc 5 1 ((n + 1 : Nat) : Int) 152 _ rfl rfl rfl (by omega) (by omega) rfl ?_
            refine wq_s 92 rfl ?_
            refine ih_n (n + 1) _ (by omega) (by omega) (hY.ext (fun c _ => ?_)) hFr
            show _ = cI _ _ _
            rw [cI_f (fun z => b_123 z.2.1)]
        · subst M1
          dsimp only [Option.toList, List.cons_append, List.nil_append]
          refine wq_s 149 rfl ?_
          refine we_inc 5 1 ((n + 1 : Nat) : Int) 152 _ rfl rfl rfl (by omega) (by omega) rfl ?_
          refine wq_s 92 rfl ?_
          refine ih_n (n + 1) _ (by omega) (by omega) (hY.ext (fun c _ => ?_)) hFr
          show _ = cI _ _ _
          rw [cI_f (fun z => b_106 z.1)]
  have L_23 : 2 ≤ w → w % 2 = 0 → ∀ (f k : Nat) (y6 : Option AV) (y7 : Option AV), w - k < f → k ≤ w → (1 ≤ k) → (∀ s, 1 ≤ s → s < k → (s % 2 = 1 → strongC X (rv (s - 1)) (rv s)) ∧ (s % 2 = 0 → weakC X (rv (s - 1)) (rv s))) → Wq (d + 4) k_X9_byRow 23 [some (vR o), some (vR q), some (vR qn), some (vI ((u : Nat) : Int)), some (vI ((w : Nat) : Int)), some (vI ((k : Nat) : Int)), y6, y7] [] G (setA M (o + 5) 81 (fun _ => 0)) (fun z M' => z = some (vI (byN X rv w : Nat)) ∧ AtB M' (o + 5) (byY X rv w) ∧ FrQ M M' (o + 5)) := by
    intro hw2 hwe f
    induction f with
    | zero => intro k y6 y7 h; exact absurd h (by omega)
    | succ f ih_k =>
      intro k y6 y7 hf_k hk_k hk1 hSt
      refine wq_s 25 rfl ?_
      refine wq_s 27 rfl ?_
      refine wq_icmp 89 rfl rfl (by omega) (by omega) (fun c_27 => ?_) (fun c_27 => ?_)
      · have c_27 := of_decide_eq_true c_27
        refine wq_s 90 rfl ?_
        refine wq_s 92 rfl ?_
        exact L_92 ⟨hw2, hwe, fun s h1 h2 => hSt s h1 (by omega)⟩ _ _ 730 0 _ (by omega) (by omega) hz0 hF0
      · have c_27 := of_decide_eq_false c_27
        refine wq_s 31 rfl ?_
        refine wq_s 32 rfl ?_
        refine wq_s 34 rfl ?_
        refine we_add ((u + k : Nat) : Int) 35 rfl rfl (by omega) (by omega) ?_
        refine wq_s 36 rfl ?_
        refine we_sub ((u + k - 1 : Nat) : Int) 37 rfl rfl (by omega) (by omega) ?_
        refine wq_iald (v := ((rv (k - 1) : Nat) : Int)) 38 rfl rfl (And.intro (Nat.zero_le 0) hn.1).2 hn.2.1 (by omega) (by omega) (by omega) (by rw [hF0 qn hnn, show u + k - 1 = u + (k - 1) by omega]; exact (hR (k - 1) (by omega)).1) ?_
        refine wq_s 40 rfl ?_
        refine wq_s 41 rfl ?_
        refine wq_s 42 rfl ?_
        refine wq_s 44 rfl ?_
        refine we_add ((u + k : Nat) : Int) 45 rfl rfl (by omega) (by omega) ?_
        refine wq_iald (v := ((rv k : Nat) : Int)) 46 rfl rfl (And.intro (Nat.zero_le 0) hn.1).2 hn.2.1 (by omega) (by omega) (by omega) (by rw [hF0 qn hnn]; exact (hR k (by omega)).1) ?_
        refine wq_s 48 rfl ?_
        refine wq_s 50 rfl ?_
        refine wq_s 51 rfl ?_
        refine we_rem ((k % 2 : Nat) : Int) 52 rfl rfl (by omega) (by omega) (by omega) ?_
        refine wq_s 53 rfl ?_
        refine wq_icmp 70 rfl rfl (by omega) (by omega) (fun c_53 => ?_) (fun c_53 => ?_)
        · have c_53 := of_decide_eq_true c_53
          refine wq_s 71 rfl ?_
          refine wq_s 73 rfl ?_
          refine wq_s 75 rfl ?_
          refine wq_st3 78 rfl rfl (by decide) (Nat.le_of_ble_eq_true rfl) rfl (Nat.le_of_ble_eq_true rfl) (c_X9_isWeak (hR (k - 1) (by omega)).2 (hR k (by omega)).2 hq hT (hX.fr (hF0 q hne))) (fun r M1 hr => ?_)
          rcases hr with ⟨rfl, b_75, hM1⟩ | ⟨rfl, b_75, hM1⟩
          · subst M1
            dsimp only [Option.toList, List.cons_append, List.nil_append]
            refine wq_s 83 rfl ?_
            refine we_inc 5 1 ((k + 1 : Nat) : Int) 86 _ rfl rfl rfl (by omega) (by omega) rfl ?_
            refine wq_s 23 rfl ?_
            refine ih_k (k + 1) _ _ (by omega) (by omega) (by omega) (fun s h1 h2 => ?_)
            by_cases hsk : s = k
            · subst hsk
              exact ⟨fun z => absurd z (by omega), fun _ => b_75⟩
            · exact hSt s h1 (by omega)
          · subst M1
            dsimp only [Option.toList, List.cons_append, List.nil_append]
            refine wq_s 81 rfl ?_
            refine wq_s 82 rfl ?_
            exact wq_ret rfl (hfail (fun z => b_75 ((z.2.2 k (by omega) (by omega)).2 (by omega))))
        · have c_53 := of_decide_eq_false c_53
          refine wq_s 57 rfl ?_
          refine wq_s 59 rfl ?_
          refine wq_s 61 rfl ?_
          refine wq_st3 64 rfl rfl (by decide) (Nat.le_of_ble_eq_true rfl) rfl (Nat.le_of_ble_eq_true rfl) (c_X9_isStrong (hR (k - 1) (by omega)).2 (hR k (by omega)).2 hq hT (hX.fr (hF0 q hne))) (fun r M1 hr => ?_)
          rcases hr with ⟨rfl, b_61, hM1⟩ | ⟨rfl, b_61, hM1⟩
          · subst M1
            dsimp only [Option.toList, List.cons_append, List.nil_append]
            refine wq_s 83 rfl ?_
            refine we_inc 5 1 ((k + 1 : Nat) : Int) 86 _ rfl rfl rfl (by omega) (by omega) rfl ?_
            refine wq_s 23 rfl ?_
            refine ih_k (k + 1) _ _ (by omega) (by omega) (by omega) (fun s h1 h2 => ?_)
            by_cases hsk : s = k
            · subst hsk
              exact ⟨fun _ => b_61, fun z => absurd z (by omega)⟩
            · exact hSt s h1 (by omega)
          · subst M1
            dsimp only [Option.toList, List.cons_append, List.nil_append]
            refine wq_s 67 rfl ?_
            refine wq_s 81 rfl ?_
            refine wq_s 82 rfl ?_
            exact wq_ret rfl (hfail (fun z => b_61 ((z.2.2 k (by omega) (by omega)).1 (by omega))))
  refine wq_s 1 rfl ?_
  refine wq_vt0 4 rfl rfl (Nat.le_of_ble_eq_true rfl) hG.ob hG.2.2.1 rfl (Nat.le_of_ble_eq_true rfl) (c_X9_clear hG) (fun r M1 hr => ?_)
  obtain ⟨rfl, hM1⟩ := hr
  subst M1
  dsimp only [Option.toList, List.cons_append, List.nil_append]
  refine wq_s 6 rfl ?_
  refine wq_s 7 rfl ?_
  refine wq_icmp 18 rfl rfl (by omega) (by omega) (fun c_7 => ?_) (fun c_7 => ?_)
  · have c_7 := of_decide_eq_true c_7
    refine wq_s 19 rfl ?_
    exact wq_ret rfl (hfail (fun z => absurd z.1 (by omega)))
  · have c_7 := of_decide_eq_false c_7
    refine wq_s 12 rfl ?_
    refine wq_s 13 rfl ?_
    refine we_rem ((w % 2 : Nat) : Int) 14 rfl rfl (by omega) (by omega) (by omega) ?_
    refine wq_s 15 rfl ?_
    refine wq_icmp 20 rfl rfl (by omega) (by omega) (fun c_15 => ?_) (fun c_15 => ?_)
    · have c_15 := of_decide_eq_true c_15
      refine wq_s 21 rfl ?_
      refine wq_s 23 rfl ?_
      exact L_23 (by omega) (by omega) w 1 _ _ (by omega) (by omega) (by omega) (fun s h1 h2 => absurd h1 (by omega))
    · have c_15 := of_decide_eq_false c_15
      refine wq_s 19 rfl ?_
      exact wq_ret rfl (hfail (fun z => absurd z.2.1 (by omega)))
