/-! The class's commands, the rest but for the statements and the shares. -/
section FY
variable {d : Nat} {σ : Sto} {Q : PQ} {S : AS} {T : Tab}
theorem WT_2 (w : WT T) {r : Nat} {v : Int} (hv : 0 ≤ v ∧ v ≤ 5) : WT (sup T 2 r v) := by
  obtain ⟨h1, h2, h3, h4, h5, h6⟩ := w
  refine ⟨by rw [sup_c (by decide)]; exact h1, by rw [sup_c (by decide)]; exact h2, by rw [sup_c (by decide)]; exact h3, by rw [sup_c (by decide)]; exact h4, fun j hj => by rw [sup_c (by decide), sup_c (by decide)]; exact h5 j hj, fun j hj => ?_⟩
  have := h6 j hj
  rw [sup_c (c' := 3) (by decide), sup_c (c' := 4) (by decide), sup_c (c' := 5) (by decide), sup_c (c' := 6) (by decide), sup_c (c' := 8) (by decide), sup_c (c' := 7) (by decide)]
  refine ⟨?_, this.2⟩
  by_cases e : j = r
  · subst e; rw [sup_e]; exact hv
  · rw [sup_i e]; exact this.1
theorem WT_5 (w : WT T) {r : Nat} {v : Int} (hv : 0 ≤ v ∧ v ≤ 7) : WT (sup T 5 r v) := by
  obtain ⟨h1, h2, h3, h4, h5, h6⟩ := w
  refine ⟨by rw [sup_c (by decide)]; exact h1, by rw [sup_c (by decide)]; exact h2, by rw [sup_c (by decide)]; exact h3, by rw [sup_c (by decide)]; exact h4, fun j hj => by rw [sup_c (by decide), sup_c (by decide)]; exact h5 j hj, fun j hj => ?_⟩
  have := h6 j hj
  rw [sup_c (c' := 2) (by decide), sup_c (c' := 3) (by decide), sup_c (c' := 4) (by decide), sup_c (c' := 6) (by decide), sup_c (c' := 8) (by decide), sup_c (c' := 7) (by decide)]
  refine ⟨this.1, this.2.1, this.2.2.1, ?_, this.2.2.2.2⟩
  by_cases e : j = r
  · subst e; rw [sup_e]; exact hv
  · rw [sup_i e]; exact this.2.2.2.1
theorem s_behind (hT : tb σ 1 = T) (w : WT T) {g m : Nat} (hg : g < gN T) (hm : m ≤ 60) (h : ∀ σ', FX σ σ' → Q (some (vI (evn T 0 (m + 1) 3 g))) σ') : P (d + 7) 59 [vR 31, vR 1, vI (g : Int), vI (m : Int)] σ Q := by
  have hG := WT_g w
  refine e_Tr_moodBehind fun X hX => b_Tr_moodBehind_0 hX ?_
  refine s_hasGuest (Or.inl rfl) hT (fun _ _ => ?_) (fun q => absurd q (by omega))
  refine b_Tr_moodBehind_5 hX ?_
  rw [if_neg (by decide)]
  refine cp17 (fun σ1 h1 f1 => b_Tr_moodBehind_19 hX ?_)
  rw [hT] at h1
  refine s_begin (l := 0) h1 (fun σ0 g1 g2 g3 g4 => b_Tr_moodBehind_27 hX ?_)
  refine upto (p := fun i => ∀ σi : Sto, EX σi (evn T 0 i) → OX σi (evn T 0 i) ((i : Int) - 1) → σi 25 6 = ((0 : Nat) : Int) → EF σ1 σi → X 30 [some (vR 31), none, some (vI (g : Int)), some (vI (m : Int)), some (vI (i : Int))] [] σi) (m + 1) (fun i hi ih => ?_) ?_ σ0 g1 (fun j hj => by rw [g2 j hj]; unfold opF; split <;> rfl) g3 g4
  · intro σi k1 k2 k3 k4
    refine b_Tr_moodBehind_30 hX ?_
    rw [if_neg (by omega), if_neg (by omega)]
    refine s_pass (EF_T k4 h1) w k1 (evn_I w i) k2 (by decide) k3 (by omega) (fun σ2 m1 m2 m3 m4 => b_Tr_moodBehind_52 hX ?_)
    rw [w32_s i (by omega)]
    exact ih σ2 m1 (by rw [show ((i + 1 : Nat) : Int) - 1 = (i : Int) by omega]; exact m2) m3 (EF_tr k4 m4)
  · intro σi k1 k2 k3 k4
    refine b_Tr_moodBehind_30 hX ?_
    rw [if_pos (by omega)]
    refine ⟨by omega, ?_⟩
    rw [Int.toNat_natCast, k1.2 g (by omega)]
    exact h σi (FX_tr f1 (EF_X k4))
theorem x_moodAt {g m : Int} (hS : XS σ S) (w : WS S) (h : ∀ σ', XS σ' (cMoodAt S g m).2 → XF σ σ' → Q (some (vI (cMoodAt S g m).1)) σ') : P (d + 8) 82 [vR 0, vI g, vI m] σ Q := by
  unfold cMoodAt at h
  have hG := WT_g w.1
  refine e_X_moodAt fun X hX => b_X_moodAt_0 hX ?_
  refine s_hasGuest isT1 hS.1 (fun p1 p2 => ?_) (fun p => ?_)
  · refine b_X_moodAt_8 hX ?_
    rw [if_pos ⟨p1, p2⟩] at h
    rw [if_neg (by decide)]
    by_cases c1 : m < 0
    · rw [if_pos c1] at h ⊢
      exact x_refuse hS (by decide) (fun σ' a b => b_X_moodAt_27 hX (h σ' a b))
    rw [if_neg c1] at h ⊢
    by_cases c2 : 60 < m
    · rw [if_pos c2] at h ⊢
      exact x_refuse hS (by decide) (fun σ' a b => b_X_moodAt_40 hX (h σ' a b))
    rw [if_neg c2] at h ⊢
    rw [show g = (g.toNat : Int) by omega, show m = (m.toNat : Int) by omega]
    exact s_behind hS.1 w.1 (by omega) (by omega) (fun σ' f => b_X_moodAt_54 hX (h σ' (XS_FX hS f) (XF_FX f)))
  · refine b_X_moodAt_8 hX ?_
    rw [if_neg p] at h
    rw [if_pos rfl]
    exact x_refuse hS (by decide) (fun σ' a b => b_X_moodAt_16 hX (h σ' a b))
theorem s_kinds {g r : Nat} (hS : XS σ S) (w : WS S) (hg : g < gN S.T) (hr : r < rN S.T) (h : ∀ σ', FX σ σ' → Q (some (vI (whK S g r : Int))) σ') : P (d + 6) 110 [vR 0, vI (g : Int), vI (r : Int)] σ Q := by
  have hR := WT_r w.1
  refine e_X_kindsAsTold fun X hX => b_X_kindsAsTold_0 hX ?_
  refine cp17 (fun σ1 h1 f1 => b_X_kindsAsTold_16 hX ?_)
  rw [hS.1] at h1
  refine upto (p := fun i => ∀ σi : Sto, (∀ v, sup (tb σi 17) 2 r v = sup S.T 2 r v) → FX σ σi → X 22 [some (vR 0), some (vI (g : Int)), some (vI (r : Int)), some (vR 17), some (vI (mk (fun v => asT (sup S.T 2 r v) g S.w S.t) i : Int)), some (vI (i : Int))] [] σi) 6 (fun i hi ih => ?_) ?_ σ1 (fun v => by rw [h1]) f1
  · intro σi k1 k2
    have hSi := XS_FX hS k2
    refine b_X_kindsAsTold_22 hX ?_
    rw [if_pos (by omega)]
    refine ⟨by omega, ?_⟩
    rw [Int.toNat_natCast, hSi.2.2.2.1]
    have hT2 : tb (sup σi 20 r i) 17 = sup S.T 2 r i := by
      rw [show (20 : Nat) = 17 + 3 from rfl, ts2 (by omega), k1]
    have wT2 : WT (sup S.T 2 r i) := WT_2 w.1 (by omega)
    have ho := orB (p := fun v => asT (sup S.T 2 r v) g S.w S.t) (i := i) (by omega)
    have f2 : FX σ (sup σi 20 r i) := FX_tr k2 (FX_sup (by omega))
    have fin : ∀ σ', EF (sup σi 20 r i) σ' → X 22 [some (vR 0), some (vI (g : Int)), some (vI (r : Int)), some (vR 17), some (vI (mk (fun v => asT (sup S.T 2 r v) g S.w S.t) (i + 1) : Int)), some (vI ((i + 1 : Nat) : Int))] [] σ' := fun σ' f => ih σ' (fun v => by rw [EF_T f hT2, sup_sup]) (FX_tr f2 (EF_X f))
    refine s_asTold (row := S.w) hT2 wT2 (by show g < gN S.T; exact hg) w.2.2.2.1 (fun k hk => by rw [sup_fr (by decide)]; exact hSi.2.2.2.2.1 k hk) (fun ha σ' f => b_X_kindsAsTold_55 hX ?_) (fun ha σ' f => b_X_kindsAsTold_55 hX ?_)
    · rw [if_neg (by decide), ishl_1 (by omega), w32_s i (by omega)]
      rw [if_pos ha] at ho
      rw [ho]; exact fin σ' f
    · rw [if_pos rfl, w32_s i (by omega)]
      rw [if_neg (by rw [ha]; decide)] at ho
      rw [ho]; exact fin σ' f
  · intro σi k1 k2
    refine b_X_kindsAsTold_22 hX ?_
    rw [if_neg (by decide)]
    exact h σi k2
theorem s_topicsT {g r : Nat} (hS : XS σ S) (w : WS S) (hg : g < gN S.T) (hr : r < rN S.T) (h : ∀ σ', FX σ σ' → Q (some (vI (whT S g r : Int))) σ') : P (d + 6) 111 [vR 0, vI (g : Int), vI (r : Int)] σ Q := by
  have hR := WT_r w.1
  refine e_X_topicsAsTold fun X hX => b_X_topicsAsTold_0 hX ?_
  refine cp17 (fun σ1 h1 f1 => b_X_topicsAsTold_16 hX ?_)
  rw [hS.1] at h1
  refine upto (p := fun i => ∀ σi : Sto, (∀ v, sup (tb σi 17) 5 r v = sup S.T 5 r v) → FX σ σi → X 22 [some (vR 0), some (vI (g : Int)), some (vI (r : Int)), some (vR 17), some (vI (mk (fun v => asT (sup S.T 5 r v) g S.w S.t) i : Int)), some (vI (i : Int))] [] σi) 8 (fun i hi ih => ?_) ?_ σ1 (fun v => by rw [h1]) f1
  · intro σi k1 k2
    have hSi := XS_FX hS k2
    refine b_X_topicsAsTold_22 hX ?_
    rw [if_pos (by omega)]
    refine ⟨by omega, ?_⟩
    rw [Int.toNat_natCast, hSi.2.2.2.1]
    have hT2 : tb (sup σi 23 r i) 17 = sup S.T 5 r i := by
      rw [show (23 : Nat) = 17 + 6 from rfl, ts5 (by omega), k1]
    have wT2 : WT (sup S.T 5 r i) := WT_5 w.1 (by omega)
    have ho := orB (p := fun v => asT (sup S.T 5 r v) g S.w S.t) (i := i) (by omega)
    have f2 : FX σ (sup σi 23 r i) := FX_tr k2 (FX_sup (by omega))
    have fin : ∀ σ', EF (sup σi 23 r i) σ' → X 22 [some (vR 0), some (vI (g : Int)), some (vI (r : Int)), some (vR 17), some (vI (mk (fun v => asT (sup S.T 5 r v) g S.w S.t) (i + 1) : Int)), some (vI ((i + 1 : Nat) : Int))] [] σ' := fun σ' f => ih σ' (fun v => by rw [EF_T f hT2, sup_sup]) (FX_tr f2 (EF_X f))
    refine s_asTold (row := S.w) hT2 wT2 (by show g < gN S.T; exact hg) w.2.2.2.1 (fun k hk => by rw [sup_fr (by decide)]; exact hSi.2.2.2.2.1 k hk) (fun ha σ' f => b_X_topicsAsTold_55 hX ?_) (fun ha σ' f => b_X_topicsAsTold_55 hX ?_)
    · rw [if_neg (by decide), ishl_1 (by omega), w32_s i (by omega)]
      rw [if_pos ha] at ho
      rw [ho]; exact fin σ' f
    · rw [if_pos rfl, w32_s i (by omega)]
      rw [if_neg (by rw [ha]; decide)] at ho
      rw [ho]; exact fin σ' f
  · intro σi k1 k2
    refine b_X_topicsAsTold_22 hX ?_
    rw [if_neg (by decide)]
    exact h σi k2
theorem x_who {g r x : Int} (hS : XS σ S) (w : WS S) (h : ∀ σ', XS σ' (cWho S g r x).2 → XF σ σ' → Q (some (vI (cWho S g r x).1)) σ') : P (d + 8) 95 [vR 0, vI g, vI r, vI x] σ Q := by
  unfold cWho at h
  have hG := WT_g w.1
  have hR := WT_r w.1
  refine e_X_who fun X hX => b_X_who_0 hX ?_
  refine s_hasGuest isT1 hS.1 (fun p1 p2 => ?_) (fun p => ?_)
  · refine b_X_who_8 hX ?_
    rw [if_neg (by decide)]
    refine s_hasRemark isT1 hS.1 (fun p3 p4 => ?_) (fun p => ?_)
    · refine b_X_who_19 hX ?_
      rw [if_pos ⟨⟨p1, p2⟩, ⟨p3, p4⟩⟩] at h
      rw [if_neg (by decide), show g = (g.toNat : Int) by omega, show r = (r.toNat : Int) by omega]
      by_cases c0 : x = 0
      · rw [if_pos c0] at h ⊢
        exact s_kinds hS w (by omega) (by omega) (fun σ' f => b_X_who_54 hX (b_X_who_63 hX (h σ' (XS_FX hS f) (XF_FX f))))
      rw [if_neg c0] at h ⊢
      by_cases c1 : x = 1
      · rw [if_pos c1] at h ⊢
        exact s_topicsT hS w (by omega) (by omega) (fun σ' f => b_X_who_63 hX (h σ' (XS_FX hS f) (XF_FX f)))
      rw [if_neg c1] at h ⊢
      exact x_refuse hS (by decide) (fun σ' a b => b_X_who_43 hX (h σ' a b))
    · refine b_X_who_19 hX ?_
      rw [if_neg (fun z => p z.2)] at h
      rw [if_pos rfl]
      exact x_refuse hS (by decide) (fun σ' a b => b_X_who_27 hX (h σ' a b))
  · refine b_X_who_8 hX ?_
    rw [if_neg (fun z => p z.1)] at h
    rw [if_pos rfl]
    exact x_refuse hS (by decide) (fun σ' a b => b_X_who_27 hX (h σ' a b))
theorem x_row {v : Int} (hS : XS σ S) (w : WS S) (h : ∀ σ', XS σ' (cRow S v).2 → XF σ σ' → Q (some (vI (cRow S v).1)) σ') : P (d + 8) 99 [vR 0, vI v] σ Q := by
  unfold cRow at h
  have hn := hS.2.2.2.1
  have h12 := w.2.2.2.1
  refine e_X_row fun X hX => b_X_row_0 hX ?_
  by_cases c1 : v < 0
  · rw [if_pos c1] at h ⊢
    exact x_refuse hS (by decide) (fun σ' a b => b_X_row_10 hX (h σ' a b))
  rw [if_neg c1] at h ⊢
  by_cases c2 : 99 < v
  · rw [if_pos c2] at h ⊢
    exact x_refuse hS (by decide) (fun σ' a b => b_X_row_35 hX (h σ' a b))
  rw [if_neg c2] at h ⊢
  by_cases c3 : S.t < 12
  · rw [if_pos c3] at h
    rw [hn, if_pos (by omega)]
    refine ⟨by omega, ?_⟩
    rw [w32_s S.t (by omega), Int.toNat_natCast]
    obtain ⟨h1, h2, h3, h4, h5, h6, h7, h8, h9⟩ := hS
    have := h (sup (sup σ 34 S.t v) 0 5 ((S.t + 1 : Nat) : Int)) ⟨(tb_off (by omega)).trans ((tb_off (by omega)).trans h1), ?_, ?_, ?_, fun j hj => ?_, ?_, ?_, fun z => (tb_off (by omega)).trans ((tb_off (by omega)).trans (h8 z)), ?_⟩ (fun c' hc' => by rw [sup_fr (by omega), sup_fr (by omega)])
    · exact this
    · rw [sup_fr (by decide), sup_fr (by decide)]; exact h2
    · rw [sup_fr (by decide), sup_fr (by decide)]; exact h3
    · rw [sup_e]
    · rw [sup_fr (by decide)]
      show _ = if j = S.t then v else S.w j
      by_cases e : j = S.t
      · rw [e, sup_e, if_pos rfl]
      · rw [sup_i e, if_neg e]; exact h5 j (by have : j < S.t + 1 := hj; omega)
    · rw [sup_fr (by decide), sup_fr (by decide)]; exact h6
    · rw [sup_i (by decide), sup_fr (by decide)]; exact h7
    · rw [sup_fr (by decide), sup_fr (by decide)]; exact h9
  · rw [if_neg c3] at h
    rw [hn, if_neg (by omega)]
    exact x_refuse hS (by decide) (fun σ' a b => b_X_row_35 hX (h σ' a b))
theorem XS_t0 (hS : XS σ S) : XS (sup σ 0 5 0) (mS S.T S.n S.l 0 S.w S.f S.k S.K) := by
  obtain ⟨h1, h2, h3, h4, h5, h6, h7, h8, h9⟩ := hS
  refine ⟨(tb_off (by omega)).trans h1, ?_, ?_, ?_, fun j hj => absurd hj (Nat.not_lt_zero j), ?_, ?_, fun z => (tb_off (by omega)).trans (h8 z), ?_⟩
  · rw [sup_fr (by decide)]; exact h2
  · rw [sup_fr (by decide)]; exact h3
  · rw [sup_e]; rfl
  · rw [sup_fr (by decide)]; exact h6
  · rw [sup_i (by decide)]; exact h7
  · rw [sup_fr (by decide)]; exact h9
theorem x_judge (hS : XS σ S) (w : WS S) (h : ∀ σ', XS σ' (cJudge S).2 → XF σ σ' → Q (some (vI (cJudge S).1)) σ') : P (d + 8) 100 [vR 0] σ Q := by
  unfold cJudge at h
  have h12 := w.2.2.2.1
  refine e_X_judge fun X hX => b_X_judge_0 hX ?_
  refine x_eve hS.1 w.1 (fun σ1 hV f => b_X_judge_5 hX ?_)
  have hS1 := XS_FX hS f
  refine e_X_firstUntrue fun X2 hX2 => b_X_firstUntrue_0 hX2 ?_
  have fin := h (sup σ1 0 5 0) (XS_t0 hS1) (XF_tr (XF_FX f) (XF_s (by decide)))
  have key : ∀ k i, i + k = S.t → (jdF S.T (evg S.T 0) S.w 0 S.t = jdF S.T (evg S.T 0) S.w i k) → X2 2 [some (vR 0), some (vR 25), some (vI (i : Int))] [] σ1 := by
    intro k
    induction k with
    | zero =>
      intro i hi e
      refine b_X_firstUntrue_2 hX2 ?_
      rw [hS1.2.2.2.1, if_neg (by omega)]
      rw [e] at fin
      exact b_X_judge_8 hX fin
    | succ k ih =>
      intro i hi e
      have e2 : jdF S.T (evg S.T 0) S.w i (k + 1) = if S.w i = opBy S.T (evg S.T 0) (5 * ((i : Int) + 1)) then jdF S.T (evg S.T 0) S.w (i + 1) k else i := rfl
      refine b_X_firstUntrue_2 hX2 ?_
      rw [hS1.2.2.2.1, if_pos (by omega), if_pos (by omega), w32_s i (by omega), w32_id (by omega) (by omega), Int.toNat_natCast, hS1.2.2.2.2.1 i (by omega)]
      refine ⟨by omega, ?_⟩
      rw [show ((i + 1 : Nat) : Int) = (i : Int) + 1 by omega]
      refine s_EopBy w.1 hV (b_X_firstUntrue_34 hX2 ?_)
      by_cases c : S.w i = opBy S.T (evg S.T 0) (5 * ((i : Int) + 1))
      · rw [if_pos c, w32_s i (by omega)]
        rw [if_pos c] at e2
        exact ih (i + 1) (by omega) (e.trans e2)
      · rw [if_neg c]
        rw [if_neg c] at e2
        rw [e, e2] at fin
        exact b_X_judge_8 hX fin
  exact key S.t 0 (by omega) rfl
theorem x_clear (hS : XS σ S) (h : ∀ σ', XS σ' (cClear S).2 → XF σ σ' → Q (some (vI (cClear S).1)) σ') : P (d + 8) 101 [vR 0] σ Q :=
  e_X_clear fun X hX => b_X_clear_0 hX (by rw [hS.2.2.2.1]; exact h _ (XS_t0 hS) (XF_s (by decide)))
theorem x_lots {n z x : Int} (hS : XS σ S) (w : WS S) (h : ∀ σ', XS σ' (cLots S n z x).2 → XF σ σ' → Q (some (vI (cLots S n z x).1)) σ') : P (d + 8) 102 [vR 0, vI n, vI z, vI x] σ Q := by
  unfold cLots at h
  refine e_X_lots fun X hX => b_X_lots_0 hX ?_
  by_cases c1 : n < 1
  · rw [if_pos c1] at h ⊢
    exact x_refuse hS (by decide) (fun σ' a b => b_X_lots_11 hX (h σ' a b))
  rw [if_neg c1] at h ⊢
  by_cases c2 : 20 < n
  · rw [if_pos c2] at h ⊢
    exact x_refuse hS (by decide) (fun σ' a b => b_X_lots_24 hX (h σ' a b))
  rw [if_neg c2] at h ⊢
  rw [show n = (n.toNat : Int) by omega]
  by_cases c0 : x = 0
  · rw [if_pos (Or.inl c0)] at h
    rw [if_pos c0]
    exact s_lots hS.1 w.1 (by omega) (Or.inl c0) (fun σ' f => b_X_lots_55 hX (h σ' (XS_FX hS f) (XF_FX f)))
  rw [if_neg c0]
  by_cases c3 : x = 1
  · rw [if_pos (Or.inr c3)] at h
    rw [if_pos c3]
    exact s_lots hS.1 w.1 (by omega) (Or.inr c3) (fun σ' f => b_X_lots_55 hX (h σ' (XS_FX hS f) (XF_FX f)))
  rw [if_neg (fun z => z.elim c0 c3)] at h
  rw [if_neg c3]
  exact x_refuse hS (by decide) (fun σ' a b => b_X_lots_40 hX (h σ' a b))
theorem x_image (hS : XS σ S) (h : ∀ σ', XS σ' (cImage S).2 → XF σ σ' → Q (some (vI (cImage S).1)) σ') : P (d + 8) 103 [vR 0] σ Q := by
  refine e_X_image fun X hX => b_X_image_0 hX ?_
  refine s_copyFrom isT9 isT1 (by decide) (fun σ1 h1 f => b_X_image_11 hX ?_)
  unfold out at f
  have e1 : tb σ1 1 = tb σ 1 := tb_same (fun c a b j => by rw [f c (by omega)])
  rw [show σ1 1 7 = S.T 7 0 from b7 (e1.trans hS.1)]
  obtain ⟨g1, g2, g3, g4, g5, g6, g7, g8, g9⟩ := hS
  refine h _ ⟨(tb_off (by omega)).trans (e1.trans g1), ?_, ?_, ?_, ?_, ?_, ?_, fun _ => (tb_off (by omega)).trans (h1.trans g1), ?_⟩ (fun c hc => by rw [sup_fr (by omega), f c (by omega)])
  · rw [sup_fr (by decide), f 32 (by omega)]; exact g2
  · rw [sup_fr (by decide), f 33 (by omega)]; exact g3
  · rw [sup_i (by decide), f 0 (by omega)]; exact g4
  · rw [sup_fr (by decide), f 34 (by omega)]; exact g5
  · rw [sup_fr (by decide), f 35 (by omega)]; exact g6
  · rw [sup_e]; rfl
  · rw [sup_fr (by decide), f 38 (by omega)]; exact g9
theorem x_on (hS : XS σ S) (w : WS S) (h : ∀ σ', XS σ' (cOn S).2 → XF σ σ' → Q (some (vI (cOn S).1)) σ') : P (d + 8) 104 [vR 0] σ Q := by
  unfold cOn at h
  refine e_X_on fun X hX => b_X_on_0 hX ?_
  rw [hS.2.2.2.2.2.2.1]
  by_cases c : S.k = 0
  · rw [if_pos c] at h ⊢
    exact x_refuse hS (by decide) (fun σ' a b => b_X_on_13 hX (h σ' a b))
  rw [if_neg c] at h ⊢
  have k1 : S.k = 1 := w.2.2.2.2.1.resolve_left c
  refine s_copyFrom isT1 isT9 (by decide) (fun σ1 h1 f => b_X_on_25 hX ?_)
  have h2 : tb σ1 1 = S.K := h1.trans (hS.2.2.2.2.2.2.2.1 k1)
  rw [show σ1 1 7 = S.K 7 0 from b7 h2]
  exact h σ1 (XS_T hS h2 f) (XF_o f)
theorem x_count {x : Int} (hS : XS σ S) (w : WS S) (h : ∀ σ', XS σ' (cCount S x).2 → XF σ σ' → Q (some (vI (cCount S x).1)) σ') : P (d + 8) 105 [vR 0, vI x] σ Q := by
  unfold cCount at h
  refine e_X_count fun X hX => b_X_count_0 hX ?_
  have tail : (∀ v, v = (if x = 0 then S.T 7 0 else if x = 1 then S.T 8 0 else if x = 2 then S.T 9 0 else if x = 3 then S.T 10 0 else if x = 4 then sm (S.T 1) (gN S.T) else if x = 5 then sm (priT S.T) (rN S.T) else if x = 6 then (S.t : Int) else if x = 7 then (S.n : Int) else -9) → Q (some (vI v)) σ) → (if x = 0 then (Q (some (vI (σ 1 7))) σ) else (if x = 1 then (Q (some (vI (σ 1 8))) σ) else (if x = 2 then (Q (some (vI (σ 1 9))) σ) else (if x = 3 then (Q (some (vI (σ 1 10))) σ) else (if x = 4 then (P (d + 7) 22 [vR 1] σ (fun r σ' => X 107 [none, none] (psh r []) σ')) else (if x = 5 then (P (d + 7) 23 [vR 1] σ (fun r σ' => X 115 [none, none] (psh r []) σ')) else (if x = 6 then (Q (some (vI (σ 0 5))) σ) else (if x = 7 then (Q (some (vI (σ 32 1))) σ) else (Q (some (vI (-9))) σ))))))))) := by
    intro g
    by_cases c : x = 0
    · rw [if_pos c]; exact g _ (by rw [if_pos c]; exact b7 hS.1)
    simp only [if_neg c] at g ⊢
    by_cases c : x = 1
    · rw [if_pos c]; exact g _ (by rw [if_pos c]; exact b8 hS.1)
    simp only [if_neg c] at g ⊢
    by_cases c : x = 2
    · rw [if_pos c]; exact g _ (by rw [if_pos c]; exact b9 hS.1)
    simp only [if_neg c] at g ⊢
    by_cases c : x = 3
    · rw [if_pos c]; exact g _ (by rw [if_pos c]; exact b10 hS.1)
    simp only [if_neg c] at g ⊢
    by_cases c : x = 4
    · rw [if_pos c]; exact s_Tmoods isT1 hS.1 w.1 (b_X_count_107 hX (g _ (by rw [if_pos c])))
    simp only [if_neg c] at g ⊢
    by_cases c : x = 5
    · rw [if_pos c]; exact s_Tprices isT1 hS.1 w.1 (b_X_count_115 hX (g _ (by rw [if_pos c])))
    simp only [if_neg c] at g ⊢
    by_cases c : x = 6
    · rw [if_pos c]; exact g _ (by rw [if_pos c]; exact hS.2.2.2.1)
    simp only [if_neg c] at g ⊢
    by_cases c : x = 7
    · rw [if_pos c]; exact g _ (by rw [if_pos c]; exact hS.2.1)
    simp only [if_neg c] at g ⊢
    exact g _ rfl
  by_cases c1 : x < 11
  · rw [if_pos c1]
    rw [if_neg (by omega)] at h
    exact tail (fun v hv => by rw [hv]; exact h σ hS (XF_r σ))
  rw [if_neg c1]
  by_cases c2 : 16 < x
  · rw [if_pos c2]
    rw [if_neg (by omega)] at h
    exact tail (fun v hv => by rw [hv]; exact h σ hS (XF_r σ))
  rw [if_neg c2]
  rw [if_pos (by omega)] at h
  rw [w32_id (by omega) (by omega)]
  refine ⟨by omega, ?_⟩
  rw [hS.2.2.2.2.2.1 _ (by omega)]
  exact h σ hS (XF_r σ)
end FY
