/-! All that is told: pure, and the class's side. -/
def apA (l : Nat → Int) (n : Nat) (T0 : Tab) : Nat → Tab → Nat → Nat → Int × Tab
  | 0, T, _, k => ((k : Int), T)
  | j + 1, T, p, k => if p < n then (match apF T (l p) (tdF l p) with
      | some T' => apA l n T0 j T' (p + szF (l p)) (k + 1)
      | none => (-2000 - (p : Int), T0)) else ((k : Int), T)
def strF (l : Nat → Int) (n : Nat) : Int := if n = 0 then 0 else fsF l n 96 0
def bTable (S : AS) : Int × Tab := if 0 ≤ strF S.l S.n then (-1000 - strF S.l S.n, S.T) else apA S.l S.n S.T 96 S.T 0 0
def cTable (S : AS) : Int × AS := ((bTable S).1, mS (bTable S).2 0 S.l S.t S.w S.f S.k S.K)
section TX1
variable {l : Nat → Int} {n p k : Nat} {T0 T T' : Tab}
theorem apA_end (j : Nat) (h : ¬ p < n) : apA l n T0 j T p k = ((k : Int), T) := by
  cases j with
  | zero => rfl
  | succ j => rw [apA, if_neg h]
theorem apA_some {j : Nat} (h : p < n) (e : apF T (l p) (tdF l p) = some T') : apA l n T0 (j + 1) T p k = apA l n T0 j T' (p + szF (l p)) (k + 1) := by
  rw [apA, if_pos h, e]
theorem apA_none {j : Nat} (h : p < n) (e : apF T (l p) (tdF l p) = none) : apA l n T0 (j + 1) T p k = (-2000 - (p : Int), T0) := by
  rw [apA, if_pos h, e]
theorem goF_b : goF l n p ≤ 8 := by
  unfold goF
  have hz := szF_b (atF l n p)
  by_cases c : szF (atF l n p) = 0
  · rw [if_pos c]; omega
  · rw [if_neg c]
    have := stF_b l n p (szF (atF l n p) - 1) 1
    omega
theorem fsF_s (j : Nat) : fsF l n (j + 1) p = if p < n then (if okF l n p = true then fsF l n j (p + szF (atF l n p)) else ((p + goF l n p : Nat) : Int)) else -1 := rfl
theorem fsF_b : ∀ (j p : Nat), fsF l n j p = -1 ∨ (0 ≤ fsF l n j p ∧ fsF l n j p ≤ p + 8 * j + 8)
  | 0, p => Or.inl rfl
  | j + 1, p => by
    have ih := fsF_b j (p + szF (atF l n p))
    have hz := szF_b (atF l n p)
    have hg := goF_b (l := l) (n := n) (p := p)
    rw [fsF_s]
    by_cases c : p < n
    · rw [if_pos c]
      by_cases c2 : okF l n p = true
      · rw [if_pos c2]; omega
      · rw [if_neg c2]; omega
    · rw [if_neg c]; exact Or.inl rfl
theorem strF_b : strF l n = -1 ∨ (0 ≤ strF l n ∧ strF l n ≤ 1000) := by
  unfold strF
  have := fsF_b (l := l) (n := n) 96 0
  by_cases c : n = 0
  · rw [if_pos c]; omega
  · rw [if_neg c]; omega
theorem fsF_ok {j : Nat} (hp : p < n) (e : fsF l n (j + 1) p = -1) : okF l n p = true ∧ fsF l n j (p + szF (l p)) = -1 := by
  rw [fsF_s, if_pos hp] at e
  by_cases c : okF l n p = true
  · rw [if_pos c, show atF l n p = l p from if_pos hp] at e
    exact ⟨c, e⟩
  · rw [if_neg c] at e
    omega
theorem WT_10 (w : WT T) {v : Int} (hv : 0 ≤ v ∧ v ≤ 9) : WT (sup T 10 0 v) := by
  obtain ⟨h1, h2, h3, h4, h5, h6⟩ := w
  refine ⟨by rw [sup_c (by decide)]; exact h1, by rw [sup_c (by decide)]; exact h2, by rw [sup_c (by decide)]; exact h3, by rw [sup_e]; exact hv, fun j hj => by rw [sup_c (by decide), sup_c (by decide)]; exact h5 j hj, fun j hj => ?_⟩
  rw [sup_c (by decide), sup_c (by decide), sup_c (by decide), sup_c (by decide), sup_c (by decide), sup_c (by decide), sup_c (by decide)]
  exact h6 j hj
theorem WT_3 (w : WT T) {r : Nat} {v : Int} (hv : 0 ≤ v ∧ v ≤ 9) : WT (sup T 3 r v) := by
  obtain ⟨h1, h2, h3, h4, h5, h6⟩ := w
  refine ⟨by rw [sup_c (by decide)]; exact h1, by rw [sup_c (by decide)]; exact h2, by rw [sup_c (by decide)]; exact h3, by rw [sup_c (by decide)]; exact h4, fun j hj => by rw [sup_c (by decide), sup_c (by decide)]; exact h5 j hj, fun j hj => ?_⟩
  have := h6 j hj
  rw [sup_c (c' := 2) (by decide), sup_c (c' := 4) (by decide), sup_c (c' := 5) (by decide), sup_c (c' := 6) (by decide), sup_c (c' := 8) (by decide), sup_c (c' := 7) (by decide)]
  refine ⟨this.1, ?_, this.2.2⟩
  by_cases e : j = r
  · subst e; rw [sup_e]; exact hv
  · rw [sup_i e]; exact this.2.1
theorem WT_7 (w : WT T) (h : T 7 0 < 6) : WT (sup T 7 0 (T 7 0 + 1)) := by
  obtain ⟨h1, h2, h3, h4, h5, h6⟩ := w
  refine ⟨by rw [sup_e]; omega, by rw [sup_c (by decide)]; exact h2, by rw [sup_c (by decide)]; exact h3, by rw [sup_c (by decide)]; exact h4, fun j hj => by rw [sup_c (by decide), sup_c (by decide)]; exact h5 j hj, fun j hj => ?_⟩
  have := h6 j hj
  rw [sup_c (c' := 2) (by decide), sup_c (c' := 3) (by decide), sup_c (c' := 4) (by decide), sup_c (c' := 5) (by decide), sup_c (c' := 6) (by decide), sup_c (c' := 8) (by decide), sup_e]
  exact ⟨this.1, this.2.1, this.2.2.1, this.2.2.2.1, this.2.2.2.2.1, fun z => by have := this.2.2.2.2.2 z; omega⟩
theorem WT_8 (w : WT T) (h : T 8 0 < 7) {r : Nat} (hr : T 8 0 = (r : Int)) (h4 : T 4 r < T 7 0) : WT (sup T 8 0 (T 8 0 + 1)) := by
  have hR := WT_r w
  obtain ⟨h1, h2, h3, h5, h6, h7⟩ := w
  refine ⟨by rw [sup_c (by decide)]; exact h1, by rw [sup_e]; omega, by rw [sup_c (by decide)]; exact h3, by rw [sup_c (by decide)]; exact h5, fun j hj => by rw [sup_c (by decide), sup_c (by decide)]; exact h6 j hj, fun j hj => ?_⟩
  have := h7 j hj
  rw [sup_c (c' := 2) (by decide), sup_c (c' := 3) (by decide), sup_c (c' := 4) (by decide), sup_c (c' := 5) (by decide), sup_c (c' := 6) (by decide), sup_c (c' := 7) (by decide), sup_e]
  refine ⟨this.1, this.2.1, this.2.2.1, this.2.2.2.1, this.2.2.2.2.1, fun z => ?_⟩
  by_cases e : (j : Int) < T 8 0
  · exact this.2.2.2.2.2 e
  · have : j = r := by omega
    rw [this]; exact h4
theorem apF_W (w : WT T) (hok : okF l n p = true) (e : apF T (l p) (tdF l p) = some T') : WT T' := by
  have hG := WT_g w
  have hR := WT_r w
  have nb0 : ∀ q m, m ≤ 3 → (∀ k, k < m → (1 ≤ q + k ∧ q + k + 1 < szF (l p)) ∧ (l p ≠ 114 ∨ q + k ≠ 1)) → 0 ≤ nuF l (p + q) m ∧ nuF l (p + q) m < 10 ^ m := by
    intro q m hm hk
    refine nuF_b hm (fun k hk2 => ?_)
    have := ok_dig hok (k := q + k) (hk k hk2).1.1 (hk k hk2).1.2 (hk k hk2).2
    rw [Nat.add_assoc]; exact this
  have nb1 : ∀ q, (1 ≤ q ∧ q + 1 < szF (l p)) → (l p ≠ 114 ∨ q ≠ 1) → 0 ≤ nuF l (p + q) 1 ∧ nuF l (p + q) 1 ≤ 9 := by
    intro q h1 h2
    have := nb0 q 1 (by decide) (fun k hk => by have : k = 0 := by omega
                                                subst this; exact ⟨h1, h2⟩)
    have e10 : (10 : Int) ^ 1 = 10 := by decide
    rw [e10] at this
    omega
  unfold apF at e
  by_cases c1 : l p = 99
  · rw [if_pos c1] at e
    have es : szF (l p) = 3 := by rw [c1]; rfl
    have et : tdF l p 0 = nuF l (p + 1) 1 := by unfold tdF; rw [c1]; rfl
    rw [et] at e
    have e' := Option.some.inj e
    subst e'
    exact WT_10 w (nb1 1 (by rw [es]; decide) (Or.inl (by rw [c1]; decide)))
  rw [if_neg c1] at e
  by_cases c2 : l p = 103
  · rw [if_pos c2] at e
    have es : szF (l p) = 7 := by rw [c2]; rfl
    have et0 : tdF l p 0 = nuF l (p + 1) 3 := by unfold tdF; rw [c2]; rfl
    have et1 : tdF l p 1 = nuF l (p + 4) 2 := by unfold tdF; rw [c2]; rfl
    rw [et0, et1] at e
    have b0 := nb0 1 3 (by decide) (fun k hk => ⟨by rw [es]; omega, Or.inl (by rw [c2]; decide)⟩)
    have b1 := nb0 4 2 (by decide) (fun k hk => ⟨by rw [es]; omega, Or.inl (by rw [c2]; decide)⟩)
    by_cases c : T 7 0 < 6 ∧ nuF l (p + 1) 3 ≤ 255 ∧ nuF l (p + 4) 2 ≤ 40
    · rw [if_pos c] at e
      have e' := Option.some.inj e
      subst e'
      have w2 : WT (sup (sup T 0 (gN T) (nuF l (p + 1) 3)) 1 (gN T) (nuF l (p + 4) 2)) := WT_01 (WT_01 w (Or.inl rfl) (by omega) (fun _ => ⟨b0.1, c.2.1⟩) (fun z => absurd z (by decide))) (Or.inr rfl) (by omega) (fun z => absurd z (by decide)) (fun _ => ⟨b1.1, c.2.2⟩)
      have := WT_7 w2 (by rw [sup_c (by decide), sup_c (by decide)]; exact c.1)
      rw [sup_c (c' := 7) (c := 1) (by decide), sup_c (c' := 7) (c := 0) (by decide)] at this
      exact this
    · rw [if_neg c] at e; exact absurd e (by intro z; cases z)
  rw [if_neg c2] at e
  by_cases c3 : l p = 109
  · rw [if_pos c3] at e
    have es : szF (l p) = 5 := by rw [c3]; rfl
    have et0 : tdF l p 0 = nuF l (p + 1) 1 := by unfold tdF; rw [c3]; rfl
    have et1 : tdF l p 1 = nuF l (p + 2) 2 := by unfold tdF; rw [c3]; rfl
    rw [et0, et1] at e
    have b1 := nb0 2 2 (by decide) (fun k hk => ⟨by rw [es]; omega, Or.inl (by rw [c3]; decide)⟩)
    by_cases c : (0 ≤ nuF l (p + 1) 1 ∧ nuF l (p + 1) 1 < T 7 0) ∧ nuF l (p + 2) 2 ≤ 40
    · rw [if_pos c] at e
      have e' := Option.some.inj e
      subst e'
      exact WT_01 w (Or.inr rfl) (by omega) (fun z => absurd z (by decide)) (fun _ => ⟨b1.1, c.2⟩)
    · rw [if_neg c] at e; exact absurd e (by intro z; cases z)
  rw [if_neg c3] at e
  by_cases c4 : l p = 114
  · rw [if_pos c4] at e
    have es : szF (l p) = 8 := by rw [c4]; rfl
    have et0 : tdF l p 0 = kdF (l (p + 1)) := by unfold tdF; rw [c4]; rfl
    have et1 : tdF l p 1 = nuF l (p + 2) 1 := by unfold tdF; rw [c4]; rfl
    have et2 : tdF l p 2 = nuF l (p + 3) 1 := by unfold tdF; rw [c4]; rfl
    have et3 : tdF l p 3 = nuF l (p + 4) 1 := by unfold tdF; rw [c4]; rfl
    have et4 : tdF l p 4 = nuF l (p + 5) 2 := by unfold tdF; rw [c4]; rfl
    rw [et0, et1, et2, et3, et4] at e
    have bk := ok_kind hok c4
    have b1 := nb1 2 (by rw [es]; decide) (Or.inr (by decide))
    have b3 := nb1 4 (by rw [es]; decide) (Or.inr (by decide))
    have b4 := nb0 5 2 (by decide) (fun k hk => ⟨by rw [es]; omega, Or.inr (by omega)⟩)
    by_cases c : T 8 0 < 7 ∧ (0 ≤ nuF l (p + 3) 1 ∧ nuF l (p + 3) 1 < T 7 0) ∧ nuF l (p + 4) 1 < 8 ∧ nuF l (p + 5) 2 ≤ 59
    · rw [if_pos c] at e
      have e' := Option.some.inj e
      subst e'
      have hr7 : rN T < 7 := by omega
      have w3 : WT (sup (sup T 2 (rN T) (kdF (l (p + 1)))) 3 (rN T) (nuF l (p + 2) 1)) := WT_3 (WT_2 w bk) b1
      have w4 : WT (sup (sup (sup T 2 (rN T) (kdF (l (p + 1)))) 3 (rN T) (nuF l (p + 2) 1)) 4 (rN T) (nuF l (p + 3) 1)) := WT_4 w3 hr7 (by rw [sup_c (by decide), sup_c (by decide)]; exact c.2.1)
      have w6 : WT (sup (sup (sup (sup (sup T 2 (rN T) (kdF (l (p + 1)))) 3 (rN T) (nuF l (p + 2) 1)) 4 (rN T) (nuF l (p + 3) 1)) 5 (rN T) (nuF l (p + 4) 1)) 6 (rN T) (nuF l (p + 5) 2)) := WT_6 (WT_5 w4 (by omega)) hr7 ⟨b4.1, c.2.2.2⟩
      have e8 : (sup (sup (sup (sup (sup T 2 (rN T) (kdF (l (p + 1)))) 3 (rN T) (nuF l (p + 2) 1)) 4 (rN T) (nuF l (p + 3) 1)) 5 (rN T) (nuF l (p + 4) 1)) 6 (rN T) (nuF l (p + 5) 2)) 8 0 = T 8 0 := by
        rw [sup_c (by decide), sup_c (by decide), sup_c (by decide), sup_c (by decide), sup_c (by decide)]
      have := WT_8 w6 (by rw [e8]; exact c.1) (r := rN T) (e8.trans hR.1) (by
        rw [sup_c (c' := 4) (c := 6) (by decide), sup_c (c' := 4) (c := 5) (by decide), sup_e, sup_c (by decide), sup_c (by decide), sup_c (by decide), sup_c (by decide), sup_c (by decide)]
        exact c.2.1.2)
      rw [e8] at this
      exact this
    · rw [if_neg c] at e; exact absurd e (by intro z; cases z)
  rw [if_neg c4] at e
  by_cases c5 : l p = 119
  · rw [if_pos c5] at e
    by_cases c : 1 ≤ tdF l p 0 ∧ tdF l p 0 ≤ 3
    · rw [if_pos c] at e
      have e' := Option.some.inj e
      subst e'
      exact WT_9 w c
    · rw [if_neg c] at e; exact absurd e (by intro z; cases z)
  rw [if_neg c5] at e
  by_cases c6 : l p = 120
  · rw [if_pos c6] at e
    by_cases c : (0 ≤ tdF l p 0 ∧ tdF l p 0 < T 7 0) ∧ (0 ≤ tdF l p 1 ∧ tdF l p 1 < T 7 0) ∧ tdF l p 0 ≠ tdF l p 1
    · rw [if_pos c] at e
      have e' := Option.some.inj e
      subst e'
      exact (WT_swp w (by omega) (by omega)).1
    · rw [if_neg c] at e; exact absurd e (by intro z; cases z)
  rw [if_neg c6] at e
  exact absurd e (by intro z; cases z)
end TX1
section TX2
variable {d : Nat} {σ : Sto} {Q : PQ} {S : AS}
theorem s_become (hS : XS σ S) (w : WS S) (h : ∀ σ', XS σ' (wT S (bTable S).2) → XF σ σ' → Q (some (vI (bTable S).1)) σ') : P (d + 7) 109 [vR 0] σ Q := by
  have h96 := w.2.1
  have hL : LX σ S.n S.l := ⟨hS.2.1, h96, hS.2.2.1⟩
  unfold bTable at h
  have hstr := strF_b (l := S.l) (n := S.n)
  refine e_X_become fun X hX => b_X_become_0 hX ?_
  refine l_first hL (b_X_become_7 hX ?_)
  show if strF S.l S.n < 0 then _ else _
  by_cases c : 0 ≤ strF S.l S.n
  · rw [if_pos c] at h
    rw [if_neg (by omega)]
    show Q (some (vI (w32 ((-1000) - strF S.l S.n)))) σ
    rw [w32_id (by omega) (by omega)]
    exact h σ hS (XF_r σ)
  · rw [if_neg c] at h
    rw [if_pos (by omega)]
    have hn0 : S.n ≠ 0 := fun z => c (by unfold strF; rw [if_pos z]; exact Int.le_refl 0)
    have e0 : fsF S.l S.n 96 0 = -1 := by
      have : strF S.l S.n = -1 := by omega
      unfold strF at this
      rw [if_neg hn0] at this
      exact this
    refine cp17 (fun σ1 h1 f1 => b_X_become_34 hX ?_)
    rw [hS.1] at h1
    have fin : ∀ (k : Nat) (T : Tab) (σi : Sto), apA S.l S.n S.T 96 S.T 0 0 = ((k : Int), T) → tb σi 17 = T → FX σ σi → P (d + 6) 8 [vR 1, vR 17] σi (fun r σ' => X 108 [none, none, none, some (vI (k : Int)), none] (psh r []) σ') := by
      intro k T σi e hT hf
      rw [e] at h
      refine s_copyFrom isT1 isT17 (by decide) (fun σ2 h2 f2 => b_X_become_108 hX ?_)
      exact h σ2 (XS_T (XS_FX hS hf) (h2.trans hT) f2) (XF_tr (XF_FX hf) (XF_o f2))
    have key : ∀ (j k p : Nat) (T : Tab) (σi : Sto), k + j = 96 → p ≤ 10 * k → fsF S.l S.n j p = -1 → apA S.l S.n S.T 96 S.T 0 0 = apA S.l S.n S.T j T p k → tb σi 17 = T → WT T → FX σ σi → X 39 [some (vR 0), none, some (vR 17), some (vI (k : Int)), some (vI (p : Int))] [] σi := by
      intro j
      induction j with
      | zero =>
        intro k p T σi hk hp e1 e2 hT wT hf
        refine b_X_become_39 hX ?_
        rw [if_neg (by omega)]
        exact fin k T σi e2 hT hf
      | succ j ih =>
        intro k p T σi hk hp e1 e2 hT wT hf
        have hLi : LX σi S.n S.l := ⟨by rw [hf 32 (by omega)]; exact hL.1, h96, fun j hj => by rw [hf 33 (by omega)]; exact hL.2.2 j hj⟩
        refine b_X_become_39 hX ?_
        rw [if_pos (by omega), hLi.1]
        by_cases cp : p < S.n
        · rw [if_pos (by omega)]
          obtain ⟨hok, e1'⟩ := fsF_ok cp e1
          have hz := szF_b (S.l p)
          refine l_tell hLi hT wT hok (fun T' ea σ2 h2 f2 => ?_) (fun ea => ?_)
          · refine b_X_become_67 hX ?_
            rw [if_neg (by decide)]
            have hL2 : LX σ2 S.n S.l := LX_o hLi f2
            refine l_at hL2 (b_X_become_88 hX ?_)
            rw [show atF S.l S.n p = S.l p from if_pos cp]
            refine l_size (b_X_become_91 hX ?_)
            rw [w32_s k (by omega), w32_id (by omega) (by omega), show (p : Int) + (szF (S.l p) : Int) = ((p + szF (S.l p) : Nat) : Int) by omega]
            exact ih (k + 1) _ T' σ2 (by omega) (by omega) e1' (e2.trans (apA_some cp ea)) h2 (apF_W wT hok ea) (FX_tr hf (out_X f2))
          · refine b_X_become_67 hX ?_
            rw [if_pos rfl, w32_id (by omega) (by omega)]
            rw [e2.trans (apA_none cp ea)] at h
            exact h σi (XS_FX hS hf) (XF_FX hf)
        · rw [if_neg (by omega)]
          exact fin k T σi (e2.trans (apA_end _ cp)) hT hf
    exact key 96 0 0 S.T σ1 rfl (by omega) e0 rfl h1 w.1 f1
theorem x_table (hS : XS σ S) (w : WS S) (h : ∀ σ', XS σ' (cTable S).2 → XF σ σ' → Q (some (vI (cTable S).1)) σ') : P (d + 8) 73 [vR 0] σ Q := by
  refine e_X_table fun X hX => b_X_table_0 hX ?_
  refine s_become hS w (fun σ1 h1 f1 => b_X_table_4 hX ?_)
  obtain ⟨g1, g2, g3, g4, g5, g6, g7, g8, g9⟩ := h1
  refine h _ ⟨(tb_off (by omega)).trans g1, ?_, fun j hj => absurd hj (Nat.not_lt_zero j), ?_, ?_, ?_, ?_, fun z => (tb_off (by omega)).trans (g8 z), ?_⟩ (XF_tr f1 (XF_s (by decide)))
  · rw [sup_e]; rfl
  · rw [sup_fr (by decide)]; exact g4
  · rw [sup_fr (by decide)]; exact g5
  · rw [sup_fr (by decide)]; exact g6
  · rw [sup_fr (by decide)]; exact g7
  · rw [sup_fr (by decide)]; exact g9
end TX2
