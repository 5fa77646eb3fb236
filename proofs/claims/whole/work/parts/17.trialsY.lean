/-! The class's trials, the rest: leaving out, told rows, pairs, odds, lots. -/
theorem pw_b {b : Int} (h0 : 0 ≤ b) (h20 : b ≤ 20) : ∀ n, 0 ≤ pw b n ∧ pw b n ≤ pw 20 n
  | 0 => by simp [pw]
  | n + 1 => by
    have ih := pw_b h0 h20 n
    exact ⟨Int.mul_nonneg ih.1 h0, Int.mul_le_mul ih.2 h20 h0 (Int.le_trans ih.1 ih.2)⟩
theorem pw20 : ∀ n, n < 8 → pw 20 n ≤ 1280000000 := by decide +kernel
theorem pc8_b (n : Nat) : 0 ≤ pc8 n ∧ pc8 n ≤ 8 := cnt_b _ 8
theorem two_r {T : Tab} (w : WT T) : ishl 1 (T 8 0) = ((2 ^ rN T : Nat) : Int) ∧ 2 ^ rN T ≤ 128 ∧ 1 ≤ 2 ^ rN T := by
  have hR := WT_r w
  rw [hR.1]
  exact ⟨ishl_1 (by omega), (show 2 ^ rN T ≤ 2 ^ 7 from Nat.pow_le_pow_right (by decide) (by omega)), Nat.one_le_two_pow⟩
theorem lsF_b (T : Tab) (w : WT T) : ∀ n, n ≤ 2 ^ rN T → lsF T n < 128
  | 0, _ => by have := two_r w; show 2 ^ rN T - 1 < 128; omega
  | n + 1, h => by
    have ih := lsF_b T w n (by omega)
    have := two_r w
    unfold lsF
    split <;> omega
theorem cmF_b (T : Tab) (w : WT T) : ∀ n, n ≤ 2 ^ rN T → (cmF T n).1 < 128
  | 0, _ => by show 0 < 128; omega
  | n + 1, h => by
    have ih := cmF_b T w n (by omega)
    have := two_r w
    unfold cmF
    split
    · show n < 128; omega
    · exact ih
/-- the greatest divisor by Euclid's steps, n at most -/
def gdF : Nat → Int → Int → Int
  | 0, a, _ => a
  | n + 1, a, b => if b = 0 then a else gdF n b (a.tmod b)
section TY
variable {d : Nat} {σ : Sto} {Q : PQ} {T : Tab} {lo : Nat}
theorem s_spare (hT : tb σ 1 = T) (w : WT T) (h : ∀ σ', FX σ σ' → Q (some (vI (lsF T (2 ^ rN T) : Int))) σ') : P (d + 7) 65 [vR 31, vR 1] σ Q := by
  have hR := WT_r w
  have h2 := two_r w
  refine e_Tr_leftSoNothingIsSentBack fun X hX => b_Tr_leftSoNothingIsSentBack_0 hX ?_
  refine cp17 (fun σ1 h1 f1 => b_Tr_leftSoNothingIsSentBack_8 hX ?_)
  rw [hT] at h1
  have e8 : ∀ σj, FX σ σj → σj 1 8 = T 8 0 := fun σj fj => by rw [fj 1 (by omega)]; exact b8 hT
  rw [e8 σ1 f1, h2.1, w32_id (x := ((2 ^ rN T : Nat) : Int) - 1) (by omega) (by omega), show ((2 ^ rN T : Nat) : Int) - 1 = ((2 ^ rN T - 1 : Nat) : Int) by omega]
  refine upto (p := fun i => ∀ σi : Sto, tb σi 17 = T → FX σ σi → X 19 [some (vR 31), some (vR 1), some (vI (lsF T i : Int)), some (vI (i : Int))] [] σi) (2 ^ rN T) (fun i hi ih => ?_) ?_ σ1 h1 f1
  · intro σi hi1 fi
    have hb := lsF_b T w i (by omega)
    refine b_Tr_leftSoNothingIsSentBack_19 hX ?_
    rw [e8 σi fi, h2.1, if_pos (by omega)]
    refine s_bitCount (by omega) (b_Tr_leftSoNothingIsSentBack_33 hX ?_)
    refine s_bitCount (by omega) (b_Tr_leftSoNothingIsSentBack_37 hX ?_)
    have e : lsF T (i + 1) = if pc8 i < pc8 (lsF T i) ∧ sbN T (evg T i) = 0 then i else lsF T i := rfl
    rw [w32_s i (by omega)]
    by_cases hc : pc8 i < pc8 (lsF T i)
    · rw [if_pos hc]
      refine s_run hi1 w (by omega) (fun σ2 hV f2 => b_Tr_leftSoNothingIsSentBack_48 hX ?_)
      refine s_Esent w hV (b_Tr_leftSoNothingIsSentBack_55 hX ?_)
      have fin := ih σ2 hV.1 (FX_tr fi (EF_X f2))
      rw [w32_s i (by omega)]
      by_cases h0 : sbN T (evg T i) = 0
      · rw [if_pos h0]
        rw [e, if_pos ⟨hc, h0⟩] at fin; exact fin
      · rw [if_neg h0]
        rw [e, if_neg (fun z => h0 z.2)] at fin; exact fin
    · rw [if_neg hc]
      have fin := ih σi hi1 fi
      rw [e, if_neg (fun z => hc z.1)] at fin; exact fin
  · intro σi hi1 fi
    refine b_Tr_leftSoNothingIsSentBack_19 hX ?_
    rw [e8 σi fi, h2.1, if_neg (by omega)]
    exact h σi fi
theorem s_cold (hT : tb σ 1 = T) (w : WT T) (h : ∀ σ', FX σ σ' → Q (some (vI ((cmF T (2 ^ rN T)).1 : Int))) σ') : P (d + 7) 66 [vR 31, vR 1] σ Q := by
  have hR := WT_r w
  have h2 := two_r w
  refine e_Tr_leftForMostMoods fun X hX => b_Tr_leftForMostMoods_0 hX ?_
  refine cp17 (fun σ1 h1 f1 => b_Tr_leftForMostMoods_8 hX ?_)
  rw [hT] at h1
  have e8 : ∀ σj, FX σ σj → σj 1 8 = T 8 0 := fun σj fj => by rw [fj 1 (by omega)]; exact b8 hT
  refine upto (p := fun i => ∀ σi : Sto, tb σi 17 = T → FX σ σi → X 15 [some (vR 31), some (vR 1), some (vI ((cmF T i).1 : Int)), some (vI (cmF T i).2), some (vI (i : Int)), none, none] [] σi) (2 ^ rN T) (fun i hi ih => ?_) ?_ σ1 h1 f1
  · intro σi hi1 fi
    have hb := cmF_b T w i (by omega)
    refine b_Tr_leftForMostMoods_15 hX ?_
    rw [e8 σi fi, h2.1, if_pos (by omega)]
    refine s_moodsL hi1 w (by omega) (fun σ2 g2 f2 => b_Tr_leftForMostMoods_32 hX ?_)
    refine s_bitCount (by omega) (b_Tr_leftForMostMoods_39 hX ?_)
    refine s_bitCount (by omega) (b_Tr_leftForMostMoods_43 hX ?_)
    have e : cmF T (i + 1) = if (cmF T i).2 < md T i ∨ (md T i = (cmF T i).2 ∧ pc8 i < pc8 (cmF T i).1) then (i, md T i) else cmF T i := rfl
    have fin := ih σ2 g2 (FX_tr fi (EF_X f2))
    rw [w32_s i (by omega)]
    by_cases h3 : pc8 i < pc8 (cmF T i).1
    · rw [if_pos h3]
      by_cases h1 : (cmF T i).2 < md T i
      · rw [e, if_pos (Or.inl h1)] at fin
        rw [if_pos h1]; exact fin
      · rw [if_neg h1]
        by_cases h4 : md T i = (cmF T i).2
        · rw [e, if_pos (Or.inr ⟨h4, h3⟩)] at fin
          rw [if_pos h4]; exact fin
        · rw [e, if_neg (fun z => z.elim h1 (fun y => h4 y.1))] at fin
          rw [if_neg h4]; exact fin
    · rw [if_neg h3]
      by_cases h1 : (cmF T i).2 < md T i
      · rw [e, if_pos (Or.inl h1)] at fin
        rw [if_pos h1]; exact fin
      · rw [if_neg h1]
        rw [e, if_neg (fun z => z.elim h1 (fun y => h3 y.2))] at fin
        by_cases h4 : md T i = (cmF T i).2
        · rw [if_pos h4]; exact fin
        · rw [if_neg h4]; exact fin
  · intro σi hi1 fi
    refine b_Tr_leftForMostMoods_15 hX ?_
    rw [e8 σi fi, h2.1, if_neg (by omega)]
    exact h σi fi
theorem s_asTold (hT : tb σ 17 = T) (w : WT T) {g n : Nat} {row : Nat → Int} (hg : g < gN T) (hn : n ≤ 12) (hrow : ∀ k, k < n → σ 34 k = row k)
    (h1 : asT T g row n = true → ∀ σ', EF σ σ' → Q (some (vI 1)) σ') (h0 : asT T g row n = false → ∀ σ', EF σ σ' → Q (some (vI 0)) σ') : P (d + 5) 67 [vR 31, vI (g : Int), vR 34, vI (n : Int)] σ Q := by
  have hG := WT_g w
  refine e_Tr_isAsTold fun X hX => b_Tr_isAsTold_0 hX ?_
  refine s_hasGuest isT17 hT (fun _ _ => ?_) (fun q => absurd q (by omega))
  refine b_Tr_isAsTold_8 hX ?_
  rw [if_neg (by decide)]
  refine s_begin (l := 0) hT (fun σ0 g1 g2 g3 g4 => b_Tr_isAsTold_21 hX ?_)
  refine upto (p := fun i => ∀ σi : Sto, (∀ k, k < i → evn T 0 (k + 1) 3 g = row k) → EX σi (evn T 0 i) → OX σi (evn T 0 i) ((i : Int) - 1) → σi 25 6 = ((0 : Nat) : Int) → EF σ σi → X 24 [some (vR 31), some (vI (g : Int)), some (vR 34), some (vI (n : Int)), some (vI (i : Int))] [] σi) n (fun i hi ih => ?_) ?_ σ0 (fun k hk => absurd hk (by omega)) g1 (fun j hj => by rw [g2 j hj]; unfold opF; split <;> rfl) g3 g4
  · intro σi hp k1 k2 k3 k4
    refine b_Tr_isAsTold_24 hX ?_
    rw [if_pos (by omega), if_pos (by omega)]
    refine s_pass (EF_T k4 hT) w k1 (evn_I w i) k2 (by decide) k3 (by omega) (fun σ2 m1 m2 m3 m4 => b_Tr_isAsTold_46 hX ?_)
    refine ⟨by omega, by omega, ?_⟩
    have f2 := EF_tr k4 m4
    rw [Int.toNat_natCast, Int.toNat_natCast, m1.2 g (by omega), f2 34 (by omega), hrow i hi, w32_s i (by omega)]
    by_cases hc : pas T 0 i (evn T 0 i) 3 g = row i
    · rw [if_pos hc]
      refine ih σ2 (fun k hk => ?_) m1 (by rw [show ((i + 1 : Nat) : Int) - 1 = (i : Int) by omega]; exact m2) m3 f2
      by_cases e : k = i
      · rw [e]; exact hc
      · exact hp k (by omega)
    · rw [if_neg hc]
      refine h0 ?_ σ2 f2
      unfold asT
      refine decide_eq_false (fun z => ?_)
      have := cnt_0.mp z i hi
      simp only [decide_eq_false_iff_not, Classical.not_not] at this
      exact hc this
  · intro σi hp k1 k2 k3 k4
    refine b_Tr_isAsTold_24 hX ?_
    rw [if_neg (by omega)]
    refine h1 ?_ σi k4
    unfold asT
    exact decide_eq_true (cnt_0.mpr (fun i hi => by simp [hp i hi]))
theorem wor_b (w : WT T) {g : Nat} (hg : g < 6) (lo : Nat) : -126 ≤ wor T g lo ∧ wor T g lo ≤ 40 := by
  have hR := WT_r w
  have h1 := (evn_I (lo := lo) w 61).2 g hg
  have h2 : 0 ≤ bilG T (evg T lo) g ∧ bilG T (evg T lo) g ≤ 126 := bilG_b w _ (by omega)
  unfold wor
  show -126 ≤ evn T lo 61 3 g - _ ∧ evn T lo 61 3 g - _ ≤ 40
  omega
theorem s_worth (hT : tb σ 17 = T) (w : WT T) {g : Nat} (hg : g < gN T) (hlo : lo < 128) (h : ∀ σ', tb σ' 17 = T → EF σ σ' → Q (some (vI (wor T g lo))) σ') : P (d + 6) 69 [vR 31, vI (g : Int), vI (lo : Int)] σ Q := by
  have hG := WT_g w
  refine e_Tr_worthOf fun X hX => b_Tr_worthOf_0 hX ?_
  refine s_hasGuest isT17 hT (fun _ _ => ?_) (fun q => absurd q (by omega))
  refine b_Tr_worthOf_8 hX ?_
  rw [if_neg (by decide)]
  refine s_run hT w hlo (fun σ1 hV f1 => b_Tr_worthOf_21 hX ?_)
  refine ⟨by omega, ?_⟩
  rw [Int.toNat_natCast, hV.2.1.2 g (by omega)]
  refine s_Ebill w hV (b_Tr_worthOf_38 hX ?_)
  have := wor_b w (g := g) (by omega) lo
  unfold wor at this
  rw [w32_id (by omega) (by omega)]
  exact h σ1 hV.1 f1
theorem s_power {b : Int} {n : Nat} (hb : 0 ≤ b ∧ b ≤ 20) (hn : n ≤ 7) (h : Q (some (vL (pw b n))) σ) : P (d + 1) 113 [vL b, vI (n : Int)] σ Q := by
  refine e_X_power fun X hX => b_X_power_0 hX ?_
  refine upto (p := fun i => X 5 [some (vL b), none, some (vI (n : Int)), some (vL (pw b i)), none, some (vI (i : Int))] [] σ) n (fun i hi ih => ?_) ?_
  · refine b_X_power_5 hX ?_
    have h1 := pw_b hb.1 hb.2 (i + 1)
    have h2 := pw20 (i + 1) (by omega)
    have e : pw b (i + 1) = pw b i * b := rfl
    rw [if_pos (by omega), w32_s i (by omega), ← e, w64_id (by omega) (by omega)]
    exact ih
  · refine b_X_power_5 hX ?_
    rw [if_neg (by omega)]
    exact h
theorem wyF_b {t v : Int} (ht : 2 ≤ t ∧ t ≤ 20) (w : WT T) : ∀ n, n ≤ 128 → 0 ≤ wyF T t v n ∧ wyF T t v n ≤ n * 1280000000
  | 0, _ => by simp [wyF]
  | n + 1, hn => by
    have ih := wyF_b (v := v) ht w n (by omega)
    have hp := pc8_b n
    have hR := WT_r w
    have h1 := pw_b (b := t - 1) (by omega) (by omega) (T 8 0 - pc8 n).toNat
    have h2 := pw20 (T 8 0 - pc8 n).toNat (by omega)
    unfold wyF
    rw [Int.natCast_add, Int.add_mul]
    split <;> omega
theorem s_ways (hT : tb σ 1 = T) (w : WT T) {t v : Int} (ht : 2 ≤ t ∧ t ≤ 20) (h : ∀ σ', FX σ σ' → Q (some (vL (wyF T t v (2 ^ rN T)))) σ') : P (d + 7) 70 [vR 31, vR 1, vI t, vI v] σ Q := by
  have hR := WT_r w
  have h2 := two_r w
  refine e_Tr_waysToReach fun X hX => b_Tr_waysToReach_0 hX ?_
  refine cp17 (fun σ1 h1 f1 => b_Tr_waysToReach_8 hX ?_)
  rw [hT] at h1
  have e8 : ∀ σj, FX σ σj → σj 1 8 = T 8 0 := fun σj fj => by rw [fj 1 (by omega)]; exact b8 hT
  refine upto (p := fun i => ∀ σi : Sto, tb σi 17 = T → FX σ σi → X 14 [some (vR 31), some (vR 1), some (vI t), some (vI v), some (vL (wyF T t v i)), none, some (vI (i : Int))] [] σi) (2 ^ rN T) (fun i hi ih => ?_) ?_ σ1 h1 f1
  · intro σi hi1 fi
    refine b_Tr_waysToReach_14 hX ?_
    rw [e8 σi fi, h2.1, if_pos (by omega)]
    refine s_moodsL hi1 w (by omega) (fun σ2 g2 f2 => b_Tr_waysToReach_31 hX ?_)
    have f3 : FX σ σ2 := FX_tr fi (EF_X f2)
    have e : wyF T t v (i + 1) = wyF T t v i + (if md T i < v then 0 else pw (t - 1) (T 8 0 - pc8 i).toNat) := rfl
    have fin := ih σ2 g2 f3
    rw [w32_s i (by omega)]
    by_cases hc : md T i < v
    · rw [if_pos hc]
      rw [e, if_pos hc, Int.add_zero] at fin; exact fin
    · rw [if_neg hc, e8 σ2 f3]
      refine s_bitCount (by omega) (b_Tr_waysToReach_50 hX ?_)
      have hpc : 0 ≤ pc8 i ∧ pc8 i ≤ T 8 0 := by
        have : pc8 i = cnt (fun k => i.testBit k) (rN T) := by
          rw [← pc8_mk _ (by omega : rN T ≤ 8), mk_self hi]
        have h3 := cnt_b (fun k => i.testBit k) (rN T)
        omega
      rw [w32_id (x := t - 1) (by omega) (by omega), w32_id (x := T 8 0 - pc8 i) (by omega) (by omega), show T 8 0 - pc8 i = (((T 8 0 - pc8 i).toNat : Nat) : Int) by omega]
      refine s_power (by omega) (by omega) (b_Tr_waysToReach_54 hX ?_)
      have hb1 := wyF_b (T := T) (v := v) ht w (i + 1) (by omega)
      rw [e, if_neg hc] at fin hb1
      rw [w32_s i (by omega), w64_id (by omega) (by omega)]
      exact fin
  · intro σi hi1 fi
    refine b_Tr_waysToReach_14 hX ?_
    rw [e8 σi fi, h2.1, if_neg (by omega)]
    exact h σi fi
theorem s_gcd {a b : Int} (h : Q (some (vL (gdF 100 a b))) σ) : P (d + 1) 114 [vL a, vL b] σ Q := by
  refine e_X_greatestDivisor fun X hX => b_X_greatestDivisor_0 hX ?_
  have key : ∀ k : Nat, k ≤ 100 → ∀ a b : Int, Q (some (vL (gdF (100 - k) a b))) σ → X 9 [none, none, none, none, some (vL a), none, some (vL b), none, some (vI (k : Int)), none, none] [] σ := by
    intro k hk
    have : ∀ j : Nat, j ≤ 100 → ∀ a b : Int, Q (some (vL (gdF j a b))) σ → X 9 [none, none, none, none, some (vL a), none, some (vL b), none, some (vI ((100 - j : Nat) : Int)), none, none] [] σ := by
      intro j
      induction j with
      | zero =>
        intro _ a b hq
        refine b_X_greatestDivisor_9 hX ?_
        rw [if_neg (by decide)]
        exact hq
      | succ j ih =>
        intro hj a b hq
        refine b_X_greatestDivisor_9 hX ?_
        rw [if_pos (by omega)]
        have e : gdF (j + 1) a b = if b = 0 then a else gdF j b (a.tmod b) := rfl
        have e3 : lcm3 b 0 = 0 ↔ b = 0 := by
          unfold lcm3
          by_cases p : 0 < b <;> by_cases q : b = 0 <;> simp [p, q] <;> omega
        by_cases hb : b = 0
        · rw [if_pos (e3.mpr hb)]
          rw [e, if_pos hb] at hq; exact hq
        · rw [if_neg (fun z => hb (e3.mp z))]
          refine ⟨hb, ?_⟩
          rw [e, if_neg hb] at hq
          rw [w32_s (100 - (j + 1)) (by omega), show 100 - (j + 1) + 1 = 100 - j by omega]
          exact ih (by omega) b (a.tmod b) hq
    intro a b hq
    have := this (100 - k) (by omega) a b hq
    rwa [show 100 - (100 - k) = k by omega] at this
  exact key 0 (by omega) a b h
theorem ltI_7 {s : Int × Tab} {k : Nat} (hk : k ≠ 6) : ∀ n j, (ltI n s).2 k j = s.2 k j
  | 0, _ => rfl
  | n + 1, j => by
    show sup _ 6 n _ k j = _
    rw [sup_c hk]
    exact ltI_7 hk n j
theorem ltI_W {s : Int × Tab} (w : WT s.2) : ∀ n, n ≤ 7 → WT (ltI n s).2
  | 0, _ => w
  | n + 1, hn => WT_6 (ltI_W w n (by omega)) (by omega) (drw_b _)
theorem ltO_7 {z : Int} {k : Nat} (hk : k ≠ 6) : ∀ n j, (ltO T z n).2 k j = T k j
  | 0, _ => rfl
  | n + 1, j => (ltI_7 hk _ j).trans (ltO_7 hk n j)
theorem ltO_W (w : WT T) {z : Int} : ∀ n, WT (ltO T z n).2
  | 0 => w
  | n + 1 => ltI_W (ltO_W w n) _ (WT_r w).2
theorem sbN_b (w : WT T) (E : Tab) : 0 ≤ sbN T E ∧ sbN T E ≤ 7 := by
  have hR := WT_r w
  have := cnt_b (fun r => decide (E 2 r = 1)) (rN T)
  unfold sbN
  omega
theorem ltV_b (w : WT T) (x : Int) : 0 ≤ ltV x T ∧ ltV x T ≤ 240 := by
  have h1 := md_b w 0
  have h2 := sbN_b w (evg T 0)
  unfold ltV
  split <;> omega
theorem ltS_b (w : WT T) (z x : Int) : ∀ n, 0 ≤ ltS T z x n ∧ ltS T z x n ≤ n * 240
  | 0 => by simp [ltS]
  | n + 1 => by
    have ih := ltS_b w z x n
    have h1 := ltV_b (ltO_W w (z := z) (n + 1)) x
    unfold ltS
    rw [Int.natCast_add, Int.add_mul]
    omega
theorem s_lots (hT : tb σ 1 = T) (w : WT T) {n : Nat} {z x : Int} (hn : n ≤ 20) (hx : x = 0 ∨ x = 1) (h : ∀ σ', FX σ σ' → Q (some (vI (ltS T z x n))) σ') : P (d + 7) 71 [vR 31, vR 1, vI (n : Int), vI z, vI x] σ Q := by
  have hR := WT_r w
  refine e_Tr_byLot fun X hX => b_Tr_byLot_0 hX ?_
  refine cp17 (fun σ1 h1 f1 => b_Tr_byLot_8 hX ?_)
  rw [hT] at h1
  refine upto (p := fun i => ∀ σi : Sto, tb σi 17 = (ltO T z i).2 → FX σ σi → X 17 [some (vR 31), none, some (vI (n : Int)), none, some (vI x), some (vI (ltO T z i).1), some (vI (ltS T z x i)), some (vI (i : Int)), none] [] σi) n (fun i hi ih => ?_) ?_ σ1 h1 f1
  · intro σi hi1 fi
    refine b_Tr_byLot_17 hX ?_
    rw [if_pos (by omega)]
    have wO := ltO_W w (z := z) i
    have e8 : ∀ k, (ltI k (ltO T z i)).2 8 0 = T 8 0 := fun k => (ltI_7 (by decide) k 0).trans (ltO_7 (by decide) i 0)
    refine upto (p := fun k => ∀ σj : Sto, tb σj 17 = (ltI k (ltO T z i)).2 → FX σ σj → X 26 [some (vR 31), none, some (vI (n : Int)), none, some (vI x), some (vI (ltI k (ltO T z i)).1), some (vI (ltS T z x i)), some (vI (i : Int)), some (vI (k : Int))] [] σj) (rN T) (fun k hk ihk => ?_) ?_ σi hi1 fi
    · intro σj hj1 fj
      refine b_Tr_byLot_26 hX ?_
      rw [show σj 17 8 = T 8 0 from (b8 hj1).trans (e8 k), if_pos (by omega)]
      refine ⟨by omega, ?_⟩
      rw [Int.toNat_natCast, w32_s k (by omega)]
      refine ihk _ ?_ (FX_tr fj (FX_sup (by omega)))
      rw [show (24 : Nat) = 17 + 7 from rfl, ts6 (by omega), hj1]
      rfl
    · intro σj hj1 fj
      refine b_Tr_byLot_26 hX ?_
      rw [show σj 17 8 = T 8 0 from (b8 hj1).trans (e8 _), if_neg (by omega)]
      have wI : WT (ltO T z (i + 1)).2 := ltO_W w (i + 1)
      have hj2 : tb σj 17 = (ltO T z (i + 1)).2 := hj1
      refine s_run (lo := 0) hj2 wI (by decide) (fun σ2 hV f2 => b_Tr_byLot_84 hX ?_)
      have f3 : FX σ σ2 := FX_tr fj (EF_X f2)
      have fin := ih σ2 hV.1 f3
      have hb := ltS_b w z x i
      have hb2 := ltV_b wI x
      have e : ltS T z x (i + 1) = ltS T z x i + ltV x (ltO T z (i + 1)).2 := rfl
      rcases hx with rfl | rfl
      · rw [if_pos rfl]
        refine s_Emoods wI hV (b_Tr_byLot_98 hX (b_Tr_byLot_108 hX ?_))
        have e2 : ltV 0 (ltO T z (i + 1)).2 = sm (evg (ltO T z (i + 1)).2 0 3) (gN (ltO T z (i + 1)).2) := rfl
        rw [← e2, w32_s i (by omega), w32_id (by omega) (by omega), ← e]
        exact fin
      · rw [if_neg (by decide)]
        refine s_Esent wI hV (b_Tr_byLot_108 hX ?_)
        have e2 : ltV 1 (ltO T z (i + 1)).2 = sbN (ltO T z (i + 1)).2 (evg (ltO T z (i + 1)).2 0) := rfl
        rw [← e2, w32_s i (by omega), w32_id (by omega) (by omega), ← e]
        exact fin
  · intro σi hi1 fi
    refine b_Tr_byLot_17 hX ?_
    rw [if_neg (by omega)]
    exact h σi fi
end TY
