/-! The model's commands that think of other tables. -/
theorem pc_less : ∀ R, R < 8 → (∀ n, n < 2 ^ R - 1 → pc8 n < (R : Nat)) ∧ pc8 (2 ^ R - 1) = (R : Nat) := by decide +kernel
theorem swp_inv {T : Tab} {a b : Nat} (hab : a ≠ b) : swp (swp T a b) a b = T := by
  have e4 : ∀ (T0 : Tab) n j, swB a b T0 n 4 j = if j < n then (if T0 4 j = a then (b : Int) else if T0 4 j = b then (a : Int) else T0 4 j) else T0 4 j := by
    intro T0 n
    induction n with
    | zero => intro j; rw [if_neg (by omega)]; rfl
    | succ n ih =>
      intro j
      show sup _ 4 n _ 4 j = _
      by_cases e : j = n
      · subst e; rw [sup_e, if_pos (show j < j + 1 by omega)]
      · rw [sup_i e, ih]
        by_cases c : j < n
        · rw [if_pos c, if_pos (show j < n + 1 by omega)]
        · rw [if_neg c, if_neg (show ¬ j < n + 1 by omega)]
  have er : rN (swp T a b) = rN T := by
    unfold rN swp
    rw [swB_fr _ _ _ (by decide), sup_c (by decide), sup_c (by decide), sup_c (by decide), sup_c (by decide)]
  have h0 : ∀ (T0 : Tab) j, swp T0 a b 0 j = if j = b then T0 0 a else if j = a then T0 0 b else T0 0 j := by
    intro T0 j
    unfold swp
    rw [swB_fr _ _ _ (by decide), sup_c (by decide)]
    by_cases c : j = b
    · subst c; rw [sup_e, if_pos rfl]
    · rw [sup_i c, if_neg c, sup_c (by decide)]
      by_cases c2 : j = a
      · subst c2; rw [sup_e, if_pos rfl]
      · rw [sup_i c2, if_neg c2]
  have h1 : ∀ (T0 : Tab) j, swp T0 a b 1 j = if j = b then T0 1 a else if j = a then T0 1 b else T0 1 j := by
    intro T0 j
    unfold swp
    rw [swB_fr _ _ _ (by decide)]
    by_cases c : j = b
    · subst c; rw [sup_e, if_pos rfl]
    · rw [sup_i c, if_neg c, sup_c (by decide)]
      by_cases c2 : j = a
      · subst c2; rw [sup_e, if_pos rfl]
      · rw [sup_i c2, if_neg c2, sup_c (by decide)]
  have h4 : ∀ (T0 : Tab) j, swp T0 a b 4 j = if j < rN T0 then (if T0 4 j = a then (b : Int) else if T0 4 j = b then (a : Int) else T0 4 j) else T0 4 j := by
    intro T0 j
    unfold swp
    rw [e4]
    rfl
  have hk : ∀ (T0 : Tab) k j, k ≠ 0 → k ≠ 1 → k ≠ 4 → swp T0 a b k j = T0 k j := by
    intro T0 k j k0 k1 k4
    unfold swp
    rw [swB_fr _ _ _ k4, sup_c k1, sup_c k0, sup_c k1, sup_c k0]
  funext k j
  by_cases k0 : k = 0
  · subst k0
    rw [h0, h0, h0, h0]
    by_cases c : j = b
    · subst c; rw [if_pos rfl, if_neg hab, if_pos rfl]
    · rw [if_neg c]
      by_cases c2 : j = a
      · subst c2; rw [if_pos rfl, if_pos rfl]
      · rw [if_neg c2, if_neg c, if_neg c2]
  by_cases k1 : k = 1
  · subst k1
    rw [h1, h1, h1, h1]
    by_cases c : j = b
    · subst c; rw [if_pos rfl, if_neg hab, if_pos rfl]
    · rw [if_neg c]
      by_cases c2 : j = a
      · subst c2; rw [if_pos rfl, if_pos rfl]
      · rw [if_neg c2, if_neg c, if_neg c2]
  by_cases k4 : k = 4
  · subst k4
    rw [h4, er, h4]
    by_cases c : j < rN T
    · rw [if_pos c, if_pos c]
      by_cases c2 : T 4 j = a
      · rw [if_pos c2, if_neg (by omega), if_pos rfl, c2]
      · rw [if_neg c2]
        by_cases c3 : T 4 j = b
        · rw [if_pos c3, if_pos rfl, c3]
        · rw [if_neg c3, if_neg c2, if_neg c3]
    · rw [if_neg c, if_neg c]
  rw [hk _ _ _ k0 k1 k4, hk _ _ _ k0 k1 k4]
section FN
variable {d : Nat} {σ : Sto} {Q : PQ} {S : AS} {T : Tab}
theorem m_moodsReady {r : Nat} {m : Int} (hT : tb σ 39 = T) (w : WT T) (hr : r < rN T) (hm : 0 ≤ m ∧ m ≤ 59) (h : ∀ σ', EM σ σ' → Q (some (vI (md (sup T 6 r m) 0))) σ') : P (d + 5) 165 [vR 39, vI (r : Int), vI m] σ Q := by
  have hR := WT_r w
  refine e_Mo_moodsReady fun X hX => b_Mo_moodsReady_0 hX ?_
  refine ⟨by omega, ?_⟩
  rw [Int.toNat_natCast]
  have hT2 : tb (sup σ 46 r m) 39 = sup T 6 r m := by rw [show (46 : Nat) = 39 + 7 from rfl, ts6 (by omega), hT]
  refine m_dines (lo := 0) hT2 (WT_6 w (by omega) hm) (by decide) (fun σ1 f _ => b_Mo_moodsReady_19 hX ?_)
  refine ⟨by omega, ?_⟩
  rw [Int.toNat_natCast]
  refine h _ ⟨fun c hc hc2 => ?_, fun j hj => ?_⟩
  · by_cases e : c = 46
    · subst e
      funext j
      by_cases e2 : j = r
      · subst e2; rw [sup_e]
      · rw [sup_i e2, f.1 46 (by omega) (by omega), sup_i e2]
    · rw [sup_fr e, f.1 c hc hc2, sup_fr e]
  · rw [sup_fr (by decide), f.2 j hj, sup_fr (by decide)]
theorem y_best {r : Int} (hS : MS σ S) (w : WS S) (h : ∀ σ', MS σ' (cBest S r).2 → MG σ σ' → Q (some (vI (cBest S r).1)) σ') : P (d + 8) 166 [vR 39, vI r] σ Q := by
  unfold cBest at h
  have hR := WT_r w.1
  refine e_Mo_bestMinute fun X hX => b_Mo_bestMinute_0 hX ?_
  refine m_isRemark hS.1 (fun p1 p2 => ?_) (fun p => ?_)
  · refine b_Mo_bestMinute_5 hX ?_
    rw [if_pos ⟨p1, p2⟩] at h
    rw [if_neg (by decide)]
    obtain ⟨q, rfl⟩ : ∃ q : Nat, r = (q : Int) := ⟨r.toNat, by omega⟩
    rw [Int.toNat_natCast] at h
    have hq : q < rN S.T := by omega
    refine m_moodsReady (m := 0) hS.1 w.1 hq (by decide) (fun σ0 f0 => b_Mo_bestMinute_22 hX ?_)
    have e1 : bmF S.T q 1 = (0, md (sup S.T 6 q 0) 0) := by
      show (if (-1 : Int) < md (sup S.T 6 q 0) 0 then (((0 : Nat) : Int), md (sup S.T 6 q 0) 0) else (0, -1)) = _
      rw [if_pos (by have := md_b (WT_6 w.1 (r := q) (v := 0) (by omega) (by decide)) 0; omega)]
      rfl
    suffices z : X 26 [some (vR 39), some (vI (q : Int)), some (vI (bmF S.T q 1).1), some (vI (bmF S.T q 1).2), some (vI ((1 : Nat) : Int)), none] [] σ0 by
      rw [e1] at z; exact z
    refine upto (p := fun i => ∀ σi, EM σ σi → X 26 [some (vR 39), some (vI (q : Int)), some (vI (bmF S.T q (i + 1)).1), some (vI (bmF S.T q (i + 1)).2), some (vI ((i + 1 : Nat) : Int)), none] [] σi) 59 (fun i hi ih => ?_) ?_ σ0 f0
    · intro σi f
      refine b_Mo_bestMinute_26 hX ?_
      rw [if_pos (by omega)]
      refine m_moodsReady ((EM_T f).trans hS.1) w.1 hq (by omega) (fun σ2 f2 => b_Mo_bestMinute_40 hX ?_)
      have fin := ih σ2 (EM_tr f f2)
      have e : bmF S.T q (i + 1 + 1) = if (bmF S.T q (i + 1)).2 < md (sup S.T 6 q ((i + 1 : Nat) : Int)) 0 then (((i + 1 : Nat) : Int), md (sup S.T 6 q ((i + 1 : Nat) : Int)) 0) else bmF S.T q (i + 1) := rfl
      rw [w32_s (i + 1) (by omega)]
      by_cases c : (bmF S.T q (i + 1)).2 < md (sup S.T 6 q ((i + 1 : Nat) : Int)) 0
      · rw [if_pos c]
        rw [e, if_pos c] at fin; exact fin
      · rw [if_neg c]
        rw [e, if_neg c] at fin; exact fin
    · intro σi f
      refine b_Mo_bestMinute_26 hX ?_
      rw [if_neg (by decide)]
      exact h σi (MS_EM hS f) (MG_EM f)
  · refine b_Mo_bestMinute_5 hX ?_
    rw [if_neg p] at h
    rw [if_pos rfl]
    exact m_no hS (by decide) (fun σ' a b => b_Mo_bestMinute_13 hX (h σ' a b))
/-- what stays when only an evening and one cell of the table were touched and the table came back -/
theorem MS_back {σ' : Sto} (hS : MS σ S) (hT : tb σ' 39 = S.T) (f : ∀ c, c ≠ 39 → (c < 40 ∨ (46 < c ∧ c < 53) ∨ 57 < c) → σ' c = σ c) (f2 : ∀ j, 11 ≤ j → (j < 28 ∨ 31 < j) → σ' 39 j = σ 39 j) : MS σ' S := by
  obtain ⟨h1, h2, h3, h4, h5, h6, h7, h8⟩ := hS
  refine ⟨hT, ?_, ?_, ?_, ?_, ?_, ?_, fun z => ?_⟩
  · rw [f2 16 (by omega) (by omega)]; exact h2
  · rw [f 48 (by omega) (by omega)]; exact h3
  · rw [f2 33 (by omega) (by omega)]; exact h4
  · rw [f 58 (by omega) (by omega)]; exact h5
  · rw [f 47 (by omega) (by omega)]; exact h6
  · rw [f2 20 (by omega) (by omega)]; exact h7
  · exact Eq.trans (by unfold tbK; rw [f 52 (by omega) (by omega)]) (h8 z)
/-- an evening, or the table, may have changed -/
def EB (σ σ' : Sto) : Prop := (∀ c, c ≠ 39 → (c < 40 ∨ (46 < c ∧ c < 53) ∨ 57 < c) → σ' c = σ c) ∧ ∀ j, 11 ≤ j → (j < 28 ∨ 31 < j) → σ' 39 j = σ 39 j
theorem EB_r (σ : Sto) : EB σ σ := ⟨fun _ _ _ => rfl, fun _ _ _ => rfl⟩
theorem EB_EM {σ σ' : Sto} (f : EM σ σ') : EB σ σ' := ⟨fun c a b => f.1 c a (by omega), fun j _ b => f.2 j b⟩
theorem EB_tr {σ σ1 σ2 : Sto} (h : EB σ σ1) (h2 : EB σ1 σ2) : EB σ σ2 := ⟨fun c a b => (h2.1 c a b).trans (h.1 c a b), fun j a b => (h2.2 j a b).trans (h.2 j a b)⟩
theorem EB_c {σ : Sto} {c i : Nat} {v : Int} (h : 40 ≤ c ∧ c ≤ 46) : EB σ (sup σ c i v) := ⟨fun c' _ _ => sup_fr (by omega), fun j _ _ => by rw [sup_fr (by omega)]⟩
theorem EB_s {σ : Sto} {i : Nat} {v : Int} (h : i < 11) : EB σ (sup σ 39 i v) := ⟨fun c' h1 _ => sup_fr h1, fun j _ _ => sup_i (by omega)⟩
theorem EB_o {σ σ' : Sto} (f : ∀ c, out 39 c → σ' c = σ c) (f2 : ∀ j, 11 ≤ j → σ' 39 j = σ 39 j) : EB σ σ' := ⟨fun c a b => f c (by unfold out; omega), fun j a _ => f2 j a⟩
theorem MG_EB {σ σ' : Sto} (f : EB σ σ') : MG σ σ' := fun c hc => f.1 c (by omega) (by omega)
theorem y_enough (hS : MS σ S) (w : WS S) (h : ∀ σ', MS σ' S → MG σ σ' → Q (some (vI (enF S.T))) σ') : P (d + 8) 167 [vR 39] σ Q := by
  refine e_Mo_enough fun X hX => b_Mo_enough_0 hX ?_
  rw [b9 hS.1]
  have step : ∀ (k : Nat) (b : Int) (σi : Sto), 1 ≤ k → k ≤ 3 → EB σ σi → sup (tb σi 39) 9 0 (S.T 9 0) = S.T → (∀ σ', EB σ σ' → sup (tb σ' 39) 9 0 (S.T 9 0) = S.T → X 10 [some (vR 39), some (vI (S.T 9 0)), some (vI (if okW S.T k = true then (k : Int) else b)), some (vI ((k : Int) - 1))] [] σ') → X 10 [some (vR 39), some (vI (S.T 9 0)), some (vI b), some (vI (k : Int))] [] σi := by
    intro k b σi k1 k3 f hb g
    refine b_Mo_enough_10 hX ?_
    rw [if_pos (by omega)]
    have hT2 : tb (sup σi 39 9 k) 39 = sup S.T 9 0 k := by
      rw [ts9]
      have : sup (sup (tb σi 39) 9 0 (S.T 9 0)) 9 0 k = sup S.T 9 0 k := by rw [hb]
      rw [sup_sup] at this
      exact this
    have w2 : WT (sup S.T 9 0 k) := WT_9 w.1 (by omega)
    refine m_dines (lo := 0) hT2 w2 (by decide) (fun σ1 f1 hV => b_Mo_enough_24 hX ?_)
    have hT1 := (EM_T f1).trans hT2
    refine m_openedMany (T := sup S.T 9 0 k) (E := evg (sup S.T 9 0 k) 0) hT1 w2 (evn_I w2 61) hV.1 (b_Mo_enough_29 hX ?_)
    have fin := g σ1 (EB_tr (EB_tr f (EB_s (by omega))) (EB_EM f1)) (by rw [hT1, sup_sup, sup_self])
    have e8 : σ1 39 8 = S.T 8 0 := (b8 hT1).trans (sup_c (by decide) 0)
    have eo : okW S.T k = decide (opBy (sup S.T 9 0 k) (evg (sup S.T 9 0 k) 0) 60 = S.T 8 0) := rfl
    rw [e8, w32_id (by omega) (by omega), show (k : Int) + -1 = (k : Int) - 1 by omega]
    by_cases c : opBy (sup S.T 9 0 k) (evg (sup S.T 9 0 k) 0) 60 = S.T 8 0
    · rw [if_pos c]
      rw [eo, decide_eq_true c, if_pos rfl] at fin
      exact fin
    · rw [if_neg c]
      rw [eo, decide_eq_false c, if_neg (by decide)] at fin
      exact fin
  refine step 3 (-9) σ (by decide) (by decide) (EB_r σ) (by rw [hS.1, sup_self]) (fun σ1 f1 g1 => ?_)
  refine step 2 _ σ1 (by decide) (by decide) f1 g1 (fun σ2 f2 g2 => ?_)
  refine step 1 _ σ2 (by decide) (by decide) f2 g2 (fun σ3 f3 g3 => ?_)
  refine b_Mo_enough_10 hX ?_
  rw [if_neg (by decide)]
  have f4 := EB_tr f3 (EB_s (σ := σ3) (i := 9) (v := S.T 9 0) (by omega))
  exact h _ (MS_back hS (by rw [ts9]; exact g3) f4.1 f4.2) (MG_EB f4)
theorem y_swap (hS : MS σ S) (w : WS S) (h : ∀ σ', MS σ' S → MG σ σ' → Q (some (vI (swO S.T (gN S.T)).1)) σ') : P (d + 8) 168 [vR 39] σ Q := by
  have hG := WT_g w.1
  refine e_Mo_swap fun X hX => b_Mo_swap_0 hX ?_
  refine m_dines (lo := 0) hS.1 w.1 (by decide) (fun σ0 f0 _ => b_Mo_swap_5 hX ?_)
  refine upto (p := fun i => ∀ σi : Sto, tb σi 39 = S.T → EB σ σi → X 11 [some (vR 39), some (vI (swO S.T i).2), some (vI (swO S.T i).1), some (vI (i : Int)), none, none] [] σi) (gN S.T) (fun i hi ih => ?_) ?_ σ0 ((EM_T f0).trans hS.1) (EB_EM f0)
  · intro σi hi1 fi
    refine b_Mo_swap_11 hX ?_
    rw [b7 hi1, if_pos (by omega), w32_s i (by omega)]
    refine upto (p := fun k => ∀ σj : Sto, tb σj 39 = S.T → EB σ σj → X 24 [some (vR 39), some (vI (swI S.T i k (swO S.T i)).2), some (vI (swI S.T i k (swO S.T i)).1), some (vI (i : Int)), some (vI ((i + 1 + k : Nat) : Int)), none] [] σj) (gN S.T - (i + 1)) (fun k hk ihk => ?_) ?_ σi hi1 fi
    · intro σj hj1 fj
      refine b_Mo_swap_24 hX ?_
      rw [b7 hj1, if_pos (by omega)]
      refine m_changes hj1 w.1 (by omega) (by omega) (by omega) (fun σ1 h1 g1 g2 => b_Mo_swap_40 hX ?_)
      have ws := WT_swp w.1 (a := i) (b := i + 1 + k) (by omega) (by omega)
      refine m_dines (lo := 0) h1 ws.1 (by decide) (fun σ2 f2 _ => b_Mo_swap_45 hX ?_)
      refine m_changes ((EM_T f2).trans h1) ws.1 (by rw [ws.2.1]; omega) (by rw [ws.2.1]; omega) (by omega) (fun σ3 h3 g3 g4 => b_Mo_swap_54 hX ?_)
      rw [swp_inv (by omega)] at h3
      have fin := ihk σ3 h3 (EB_tr (EB_tr (EB_tr fj (EB_o g1 g2)) (EB_EM f2)) (EB_o g3 g4))
      have e : swI S.T i (k + 1) (swO S.T i) = if (swI S.T i k (swO S.T i)).2 < md (swp S.T i (i + 1 + k)) 0 then (10 * (i : Int) + ((i + 1 + k : Nat) : Int), md (swp S.T i (i + 1 + k)) 0) else swI S.T i k (swO S.T i) := rfl
      rw [w32_s (i + 1 + k) (by omega), w32_id (x := 10 * (i : Int)) (by omega) (by omega), w32_id (x := 10 * (i : Int) + _) (by omega) (by omega)]
      by_cases c : (swI S.T i k (swO S.T i)).2 < md (swp S.T i (i + 1 + k)) 0
      · rw [if_pos c]
        rw [e, if_pos c] at fin; exact fin
      · rw [if_neg c]
        rw [e, if_neg c] at fin; exact fin
    · intro σj hj1 fj
      refine b_Mo_swap_24 hX ?_
      rw [b7 hj1, if_neg (by omega), w32_s i (by omega)]
      exact ih σj hj1 fj
  · intro σi hi1 fi
    refine b_Mo_swap_11 hX ?_
    rw [b7 hi1, if_neg (by omega)]
    exact h σi (MS_back hS hi1 fi.1 fi.2) (MG_EB fi)
theorem y_fit (hS : MS σ S) (w : WS S) (h : ∀ σ', MS σ' S → MG σ σ' → Q (some (vI (brO S.T (rN S.T)).1)) σ') : P (d + 8) 169 [vR 39] σ Q := by
  have hG := WT_g w.1
  have hR := WT_r w.1
  refine e_Mo_fit fun X hX => b_Mo_fit_0 hX ?_
  refine m_dines (lo := 0) hS.1 w.1 (by decide) (fun σ0 f0 _ => b_Mo_fit_5 hX ?_)
  refine upto (p := fun i => ∀ σi : Sto, tb σi 39 = S.T → EB σ σi → X 11 [some (vR 39), some (vI (brO S.T i).2), some (vI (brO S.T i).1), some (vI (i : Int)), none, none, none] [] σi) (rN S.T) (fun i hi ih => ?_) ?_ σ0 ((EM_T f0).trans hS.1) (EB_EM f0)
  · intro σi hi1 fi
    refine b_Mo_fit_11 hX ?_
    rw [b8 hi1, if_pos (by omega)]
    refine ⟨by omega, ?_⟩
    rw [Int.toNat_natCast, show σi 44 i = S.T 4 i from a4 hi1 (by omega)]
    refine upto (p := fun k => ∀ σj : Sto, (∀ v, sup (tb σj 39) 4 i v = sup S.T 4 i v) → EB σ σj → X 30 [some (vR 39), some (vI (brI S.T i k (brO S.T i)).2), some (vI (brI S.T i k (brO S.T i)).1), some (vI (i : Int)), some (vI (S.T 4 i)), some (vI (k : Int)), none] [] σj) (gN S.T) (fun k hk ihk => ?_) ?_ σi (fun v => by rw [hi1]) fi
    · intro σj hj1 fj
      refine b_Mo_fit_30 hX ?_
      have e7 : σj 39 7 = S.T 7 0 := by
        have e6 : σj 39 7 = tb σj 39 7 0 := b7 rfl
        rw [e6]
        have := congrFun (congrFun (hj1 0) 7) 0
        rw [sup_c (by decide), sup_c (by decide)] at this
        exact this
      rw [e7, if_pos (by omega)]
      refine ⟨by omega, ?_⟩
      rw [Int.toNat_natCast]
      have hT2 : tb (sup σj 44 i k) 39 = sup S.T 4 i k := by rw [show (44 : Nat) = 39 + 5 from rfl, ts4 (by omega), hj1]
      refine m_dines (lo := 0) hT2 (WT_4 w.1 (by omega) (by omega)) (by decide) (fun σ2 f2 _ => b_Mo_fit_52 hX ?_)
      have fin := ihk σ2 (fun v => by rw [EM_T f2, hT2, sup_sup]) (EB_tr (EB_tr fj (EB_c (by omega))) (EB_EM f2))
      have e : brI S.T i (k + 1) (brO S.T i) = if (brI S.T i k (brO S.T i)).2 < md (sup S.T 4 i k) 0 then (10 * (i : Int) + (k : Int), md (sup S.T 4 i k) 0) else brI S.T i k (brO S.T i) := rfl
      rw [w32_s k (by omega), w32_id (x := 10 * (i : Int)) (by omega) (by omega), w32_id (x := 10 * (i : Int) + _) (by omega) (by omega)]
      by_cases c : (brI S.T i k (brO S.T i)).2 < md (sup S.T 4 i k) 0
      · rw [if_pos c]
        rw [e, if_pos c] at fin; exact fin
      · rw [if_neg c]
        rw [e, if_neg c] at fin; exact fin
    · intro σj hj1 fj
      refine b_Mo_fit_30 hX ?_
      have e7 : σj 39 7 = S.T 7 0 := by
        have e6 : σj 39 7 = tb σj 39 7 0 := b7 rfl
        rw [e6]
        have := congrFun (congrFun (hj1 0) 7) 0
        rw [sup_c (by decide), sup_c (by decide)] at this
        exact this
      rw [e7, if_neg (by omega)]
      refine ⟨by omega, ?_⟩
      rw [Int.toNat_natCast, w32_s i (by omega)]
      exact ih _ (by rw [show (44 : Nat) = 39 + 5 from rfl, ts4 (by omega), hj1, sup_self]) (EB_tr fj (EB_c (by omega)))
  · intro σi hi1 fi
    refine b_Mo_fit_11 hX ?_
    rw [b8 hi1, if_neg (by omega)]
    exact h σi (MS_back hS hi1 fi.1 fi.2) (MG_EB fi)
theorem y_could {x : Int} (hS : MS σ S) (w : WS S) (h : ∀ σ', MS σ' (cCould S x).2 → MG σ σ' → Q (some (vI (cCould S x).1)) σ') : P (d + 8) 171 [vR 39, vI x] σ Q := by
  unfold cCould at h
  refine e_Mo_could fun X hX => b_Mo_could_0 hX ?_
  refine m_isIn (fun p1 p2 => b_Mo_could_6 hX ?_) (fun p => b_Mo_could_6 hX ?_)
  · rw [if_neg (by decide)]
    refine upto (p := fun i => X 20 [some (vR 39), some (vI x), some (vI (mxl S.T i)), some (vI (i : Int)), none] [] σ) 8 (fun i hi ih => ?_) ?_
    · refine b_Mo_could_20 hX ?_
      rw [if_pos (by omega)]
      have e : mxl S.T (i + 1) = max (mxl S.T i) (cnt (fun g => lb S.T g i) (gN S.T)) := rfl
      refine m_likedBy hS.1 w.1 hi (b_Mo_could_31 hX ?_)
      by_cases c : mxl S.T i < cnt (fun g => lb S.T g i) (gN S.T)
      · rw [if_pos c]
        refine m_likedBy hS.1 w.1 hi (b_Mo_could_40 hX ?_)
        rw [w32_s i (by omega)]
        rw [e, show max (mxl S.T i) (cnt (fun g => lb S.T g i) (gN S.T)) = cnt (fun g => lb S.T g i) (gN S.T) by omega] at ih
        exact ih
      · rw [if_neg c, w32_s i (by omega)]
        rw [e, show max (mxl S.T i) (cnt (fun g => lb S.T g i) (gN S.T)) = mxl S.T i by omega] at ih
        exact ih
    · refine b_Mo_could_20 hX ?_
      rw [if_neg (by decide)]
      refine upto (p := fun i => X 56 [some (vR 39), some (vI x), some (vI (mxl S.T 8)), some (vI (mk (fun t => decide (cnt (fun g => lb S.T g t) (gN S.T) = mxl S.T 8)) i : Int)), some (vI (i : Int))] [] σ) 8 (fun i hi ih => ?_) ?_
      · refine b_Mo_could_56 hX ?_
        rw [if_pos (by omega)]
        have ho := orB (p := fun t => decide (cnt (fun g => lb S.T g t) (gN S.T) = mxl S.T 8)) (i := i) (by omega)
        refine m_likedBy hS.1 w.1 hi (b_Mo_could_70 hX ?_)
        rw [w32_s i (by omega), ishl_1 (by omega)]
        by_cases c : cnt (fun g => lb S.T g i) (gN S.T) = mxl S.T 8
        · rw [if_pos c]
          rw [decide_eq_true c, if_pos rfl] at ho
          rw [ho]; exact ih
        · rw [if_neg c]
          rw [decide_eq_false c, if_neg (by decide)] at ho
          rw [ho]; exact ih
      · refine b_Mo_could_56 hX ?_
        rw [if_neg (by decide)]
        by_cases c0 : x = 0
        · rw [if_pos c0] at h ⊢
          exact h σ hS (MG_r σ)
        · rw [if_neg c0, if_pos (by omega)] at h
          rw [if_neg c0]
          exact h σ hS (MG_r σ)
  · rw [if_neg (by omega), if_neg (by omega)] at h
    rw [if_pos rfl]
    exact m_no hS (by decide) (fun σ' a b => b_Mo_could_15 hX (h σ' a b))
theorem y_dear (hS : MS σ S) (w : WS S) (h : ∀ σ', MS σ' S → MG σ σ' → Q (some (vI (drs S.T (rN S.T)))) σ') : P (d + 8) 172 [vR 39] σ Q := by
  have hR := WT_r w.1
  refine e_Mo_dear fun X hX => b_Mo_dear_0 hX ?_
  have hd0 : 1 ≤ rN S.T → drs S.T 1 = 0 := fun _ => by
    show (if drs S.T 0 < 0 ∨ priT S.T (drs S.T 0).toNat < priT S.T 0 then ((0 : Nat) : Int) else drs S.T 0) = 0
    exact if_pos (Or.inl (show (-9 : Int) < 0 by decide))
  rw [b8 hS.1]
  by_cases c : S.T 8 0 = 0
  · rw [if_pos c]
    refine b_Mo_dear_16 hX ?_
    rw [b8 hS.1, if_neg (by omega)]
    rw [show rN S.T = 0 by omega] at h
    exact h σ hS (MG_r σ)
  · rw [if_neg c]
    have hpos : ∀ n, 1 ≤ n → 0 ≤ drs S.T n := by
      intro n hn
      rcases drs_b (T := S.T) n with z | z
      · exfalso
        cases n with
        | zero => omega
        | succ n =>
          unfold drs at z
          split at z
          · omega
          · rename_i q
            exact q (Or.inl (by omega))
      · exact z.1
    suffices z : X 16 [some (vR 39), some (vI (drs S.T 1)), some (vI ((1 : Nat) : Int))] [] σ by
      rw [hd0 (by omega)] at z; exact z
    refine upto (p := fun i => X 16 [some (vR 39), some (vI (drs S.T (i + 1))), some (vI ((i + 1 : Nat) : Int))] [] σ) (rN S.T - 1) (fun i hi ih => ?_) ?_
    · refine b_Mo_dear_16 hX ?_
      have hb := drs_b (T := S.T) (i + 1)
      have hp := hpos (i + 1) (by omega)
      have e : drs S.T (i + 1 + 1) = if drs S.T (i + 1) < 0 ∨ priT S.T (drs S.T (i + 1)).toNat < priT S.T (i + 1) then ((i + 1 : Nat) : Int) else drs S.T (i + 1) := rfl
      rw [b8 hS.1, if_pos (by omega)]
      refine m_price hS.1 w.1 (by omega) (b_Mo_dear_29 hX ?_)
      rw [show drs S.T (i + 1) = ((drs S.T (i + 1)).toNat : Int) by omega]
      refine m_price hS.1 w.1 (by omega) (b_Mo_dear_34 hX ?_)
      rw [w32_s (i + 1) (by omega), show ((drs S.T (i + 1)).toNat : Int) = drs S.T (i + 1) by omega]
      by_cases c2 : priT S.T (drs S.T (i + 1)).toNat < priT S.T (i + 1)
      · rw [if_pos c2]
        rw [e, if_pos (Or.inr c2)] at ih; exact ih
      · rw [if_neg c2]
        rw [e, if_neg (fun z => z.elim (fun y => by omega) c2)] at ih; exact ih
    · refine b_Mo_dear_16 hX ?_
      rw [b8 hS.1, if_neg (by omega), show rN S.T - 1 + 1 = rN S.T by omega]
      exact h σ hS (MG_r σ)
/-- with all left out nothing is sent back -/
theorem all_out (w : WT T) : sbN T (evg T (2 ^ rN T - 1)) = 0 := by
  have hR := WT_r w
  have hb : ∀ r, r < rN T → (2 ^ rN T - 1).testBit r = true := fun r hr => by rw [Nat.testBit_two_pow_sub_one]; exact decide_eq_true hr
  have hx : ∀ (E : Tab) (m : Int) n, n ≤ rN T → nxt T E (2 ^ rN T - 1) m n = -9 := by
    intro E m n
    induction n with
    | zero => intro _; rfl
    | succ n ih =>
      intro hn
      unfold nxt
      rw [if_neg (fun z => by rw [hb n (by omega)] at z; exact absurd z.2.1 (by decide))]
      exact ih (by omega)
  have ht : ∀ (E : Tab) (m : Int) n r, tks T (2 ^ rN T - 1) m n E 0 r = E 0 r := by
    intro E m n r
    induction n with
    | zero => rfl
    | succ n ih =>
      show tak1 T _ m (tks T _ m n E) 0 r = _
      unfold tak1
      rw [hx _ _ _ (Nat.le_refl _), if_pos (by decide)]
      exact ih
  have h9 : ∀ n r, evn T (2 ^ rN T - 1) n 0 r = -9 := by
    intro n r
    induction n with
    | zero => rfl
    | succ n ih =>
      show pas T _ n (evn T _ n) 0 r = -9
      unfold pas
      split
      · rw [ht, ops_0]; exact ih
      · rw [ops_0]; exact ih
  refine cnt_0.mpr (fun r hr => decide_eq_false (fun z => ?_))
  have hI := (evn_I (lo := 2 ^ rN T - 1) w 61).1 r (by omega)
  have h0 := h9 61 r
  have z2 : evn T (2 ^ rN T - 1) 61 2 r = 1 := z
  rcases hI.1 with y | y
  · rcases hI.2 with x | x
    · omega
    · omega
  · omega
def msF (T : Tab) : Nat → Int
  | 0 => -9
  | n + 1 => if (msF T n < 0 ∨ pc8 n < pc8 (msF T n).toNat) ∧ sbN T (evg T n) = 0 then n else msF T n
theorem msF_ls (w : WT T) : ∀ n, n ≤ 2 ^ rN T → (msF T n = -9 ∧ lsF T n = 2 ^ rN T - 1 ∧ n < 2 ^ rN T) ∨ msF T n = (lsF T n : Int)
  | 0, _ => Or.inl ⟨rfl, rfl, Nat.two_pow_pos _⟩
  | n + 1, hn => by
    have hR := WT_r w
    have ih := msF_ls w n (by omega)
    have hp := pc_less (rN T) (by omega)
    have e1 : msF T (n + 1) = if (msF T n < 0 ∨ pc8 n < pc8 (msF T n).toNat) ∧ sbN T (evg T n) = 0 then (n : Int) else msF T n := rfl
    have e2 : lsF T (n + 1) = if pc8 n < pc8 (lsF T n) ∧ sbN T (evg T n) = 0 then n else lsF T n := rfl
    rcases ih with z | z
    · rw [e1, e2, z.1, z.2.1]
      by_cases c : n = 2 ^ rN T - 1
      · right
        rw [if_pos ⟨Or.inl (by decide), by rw [c]; exact all_out w⟩]
        split <;> omega
      · have h1 := hp.1 n (by omega)
        by_cases s : sbN T (evg T n) = 0
        · right
          rw [if_pos ⟨Or.inl (by decide), s⟩, if_pos ⟨by omega, s⟩]
        · left
          rw [if_neg (fun y => s y.2), if_neg (fun y => s y.2)]
          exact ⟨rfl, rfl, by omega⟩
    · right
      rw [e1, e2, z, Int.toNat_natCast]
      by_cases c : pc8 n < pc8 (lsF T n) ∧ sbN T (evg T n) = 0
      · rw [if_pos c, if_pos ⟨Or.inr c.1, c.2⟩]
      · rw [if_neg c, if_neg (fun y => c ⟨y.1.resolve_left (by omega), y.2⟩)]
theorem y_spare {x : Int} (hS : MS σ S) (w : WS S) (h : ∀ σ', MS σ' (cSpare S x).2 → MG σ σ' → Q (some (vI (cSpare S x).1)) σ') : P (d + 8) 173 [vR 39, vI x] σ Q := by
  unfold cSpare at h
  have hR := WT_r w.1
  have h2 := two_r w.1
  have hend := (msF_ls w.1 (2 ^ rN S.T) (Nat.le_refl _)).resolve_left (fun z => by omega)
  have hlt := lsF_b S.T w.1
  refine e_Mo_spare fun X hX => b_Mo_spare_0 hX ?_
  refine m_isIn (fun p1 p2 => b_Mo_spare_6 hX ?_) (fun p => b_Mo_spare_6 hX ?_)
  · rw [if_neg (by decide)]
    refine upto (p := fun i => ∀ σi, EM σ σi → X 21 [some (vR 39), some (vI x), some (vI (msF S.T i)), some (vI (i : Int))] [] σi) (2 ^ rN S.T) (fun i hi ih => ?_) ?_ σ (EM_r σ)
    · intro σi f
      have hTi := (EM_T f).trans hS.1
      have hm := msF_ls w.1 i (by omega)
      have hl := hlt i (by omega)
      have e1 : msF S.T (i + 1) = if (msF S.T i < 0 ∨ pc8 i < pc8 (msF S.T i).toNat) ∧ sbN S.T (evg S.T i) = 0 then (i : Int) else msF S.T i := rfl
      have try1 : (msF S.T i < 0 ∨ pc8 i < pc8 (msF S.T i).toNat) → P (d + 7) 149 [vR 39, vI (i : Int)] σi (fun r σ' => X 54 [some (vR 39), some (vI x), some (vI (msF S.T i)), some (vI (i : Int))] (psh r []) σ') := by
        intro hc
        refine m_dines (lo := i) hTi w.1 (by omega) (fun σ1 f1 hV => b_Mo_spare_54 hX ?_)
        have fin := ih σ1 (EM_tr f f1)
        rw [hV.2.1.2, w32_s i (by omega)]
        have e0 : ((mk (fun q => decide (evg S.T i 2 q = 1)) (rN S.T) : Nat) : Int) = 0 ↔ sbN S.T (evg S.T i) = 0 := by
          have e3 : sbN S.T (evg S.T i) = pc8 (mk (fun q => decide (evg S.T i 2 q = 1)) (rN S.T)) := (pc8_mk _ (by omega)).symm
          constructor
          · intro z
            rw [e3, show mk (fun q => decide (evg S.T i 2 q = 1)) (rN S.T) = 0 by omega]; rfl
          · intro z
            have z2 := cnt_0.mp z
            rw [mk_congr (q := fun _ => false) (fun j hj => z2 j hj)]
            rw [mk_eq (a := 0) (fun j => by simp)]; rfl
        by_cases c : sbN S.T (evg S.T i) = 0
        · rw [if_pos (e0.mpr c)]
          rw [e1, if_pos ⟨hc, c⟩] at fin; exact fin
        · rw [if_neg (fun z => c (e0.mp z))]
          rw [e1, if_neg (fun z => c z.2)] at fin; exact fin
      refine b_Mo_spare_21 hX ?_
      rw [b8 hTi, h2.1, if_pos (by omega)]
      by_cases c0 : msF S.T i < 0
      · rw [if_pos c0]
        exact try1 (Or.inl c0)
      · rw [if_neg c0]
        have em : msF S.T i = (lsF S.T i : Int) := hm.resolve_left (fun z => by omega)
        refine m_bits (by omega) (b_Mo_spare_39 hX ?_)
        rw [em]
        refine m_bits (by omega) (b_Mo_spare_43 hX ?_)
        rw [em, Int.toNat_natCast] at try1
        by_cases c1 : pc8 i < pc8 (lsF S.T i)
        · rw [if_pos c1]
          exact try1 (Or.inr c1)
        · rw [if_neg c1, w32_s i (by omega)]
          have fin := ih σi f
          rw [e1, em, Int.toNat_natCast, if_neg (fun z => z.1.elim (by omega) c1)] at fin
          exact fin
    · intro σi f
      have hTi := (EM_T f).trans hS.1
      have hl := hlt (2 ^ rN S.T) (Nat.le_refl _)
      refine b_Mo_spare_21 hX ?_
      rw [b8 hTi, h2.1, if_neg (by omega), hend]
      by_cases c0 : x = 0
      · rw [if_pos c0] at h ⊢
        exact b_Mo_spare_86 hX (h σi (MS_EM hS f) (MG_EM f))
      · rw [if_neg c0, if_pos (by omega)] at h
        rw [if_neg c0]
        exact m_bits (by omega) (b_Mo_spare_86 hX (h σi (MS_EM hS f) (MG_EM f)))
  · rw [if_neg (by omega), if_neg (by omega)] at h
    rw [if_pos rfl]
    exact m_no hS (by decide) (fun σ' a b => b_Mo_spare_15 hX (h σ' a b))
theorem y_cold (hS : MS σ S) (w : WS S) (h : ∀ σ', MS σ' S → MG σ σ' → Q (some (vI ((cmF S.T (2 ^ rN S.T)).1 : Int))) σ') : P (d + 8) 174 [vR 39] σ Q := by
  have hR := WT_r w.1
  have h2 := two_r w.1
  have e1 : cmF S.T 1 = (0, md S.T 0) := by
    show (if (cmF S.T 0).2 < md S.T 0 ∨ (md S.T 0 = (cmF S.T 0).2 ∧ pc8 0 < pc8 (cmF S.T 0).1) then (0, md S.T 0) else cmF S.T 0) = _
    exact if_pos (Or.inl (show (-1 : Int) < md S.T 0 by have := md_b w.1 0; omega))
  refine e_Mo_cold fun X hX => b_Mo_cold_0 hX ?_
  refine m_dines (lo := 0) hS.1 w.1 (by decide) (fun σ0 f0 _ => b_Mo_cold_7 hX ?_)
  suffices z : X 10 [some (vR 39), some (vI ((cmF S.T 1).1 : Int)), some (vI (cmF S.T 1).2), some (vI ((1 : Nat) : Int)), none] [] σ0 by
    rw [e1] at z; exact z
  refine upto (p := fun i => ∀ σi, EM σ σi → X 10 [some (vR 39), some (vI ((cmF S.T (i + 1)).1 : Int)), some (vI (cmF S.T (i + 1)).2), some (vI ((i + 1 : Nat) : Int)), none] [] σi) (2 ^ rN S.T - 1) (fun i hi ih => ?_) ?_ σ0 f0
  · intro σi f
    have hTi := (EM_T f).trans hS.1
    have hb := cmF_b S.T w.1 (i + 1) (by omega)
    refine b_Mo_cold_10 hX ?_
    rw [b8 hTi, h2.1, if_pos (by omega)]
    refine m_dines (lo := i + 1) hTi w.1 (by omega) (fun σ1 f1 _ => b_Mo_cold_25 hX ?_)
    have e : cmF S.T (i + 1 + 1) = if (cmF S.T (i + 1)).2 < md S.T (i + 1) ∨ (md S.T (i + 1) = (cmF S.T (i + 1)).2 ∧ pc8 (i + 1) < pc8 (cmF S.T (i + 1)).1) then (i + 1, md S.T (i + 1)) else cmF S.T (i + 1) := rfl
    have fin := ih σ1 (EM_tr f f1)
    rw [w32_s (i + 1) (by omega)]
    by_cases c0 : md S.T (i + 1) < (cmF S.T (i + 1)).2
    · rw [if_pos c0]
      rw [e, if_neg (fun z => by omega)] at fin; exact fin
    · rw [if_neg c0]
      by_cases c1 : md S.T (i + 1) = (cmF S.T (i + 1)).2
      · rw [if_pos c1]
        refine m_bits (by omega) (b_Mo_cold_43 hX ?_)
        refine m_bits (by omega) (b_Mo_cold_47 hX ?_)
        rw [w32_s (i + 1) (by omega)]
        by_cases c2 : pc8 (i + 1) < pc8 (cmF S.T (i + 1)).1
        · rw [if_pos c2]
          rw [e, if_pos (Or.inr ⟨c1, c2⟩)] at fin; exact fin
        · rw [if_neg c2]
          rw [e, if_neg (fun z => z.elim (fun y => by omega) (fun y => c2 y.2))] at fin; exact fin
      · rw [if_neg c1]
        rw [e, if_pos (Or.inl (by omega))] at fin; exact fin
  · intro σi f
    have hTi := (EM_T f).trans hS.1
    refine b_Mo_cold_10 hX ?_
    rw [b8 hTi, h2.1, if_neg (by omega), show 2 ^ rN S.T - 1 + 1 = 2 ^ rN S.T by omega]
    exact h σi (MS_EM hS f) (MG_EM f)
theorem y_silence {x : Int} (hS : MS σ S) (w : WS S) (h : ∀ σ', MS σ' (cSilence S x).2 → MG σ σ' → Q (some (vI (cSilence S x).1)) σ') : P (d + 8) 176 [vR 39, vI x] σ Q := by
  unfold cSilence at h
  refine e_Mo_silence fun X hX => b_Mo_silence_0 hX ?_
  refine m_isIn (fun p1 p2 => b_Mo_silence_6 hX ?_) (fun p => b_Mo_silence_6 hX ?_)
  · rw [if_neg (by decide)]
    refine m_dines (lo := 0) hS.1 w.1 (by decide) (fun σ1 f hV => b_Mo_silence_21 hX ?_)
    have hT1 := (EM_T f).trans hS.1
    generalize hE : evg S.T 0 = E at *
    refine upto (p := fun i => X 33 [some (vR 39), some (vI x), some (vI (slong S.T E i)), some (vI (sfrom S.T E i)), some (vI (slen S.T E i)), some (vI (i : Int))] [] σ1) 61 (fun i hi ih => ?_) ?_
    · refine b_Mo_silence_33 hX ?_
      have b1 := slen_b (T := S.T) (E := E) i
      have b2 := slong_b (T := S.T) (E := E) i
      have e1 : slen S.T E (i + 1) = if silB S.T E i = true then slen S.T E i + 1 else 0 := rfl
      have e2 : slong S.T E (i + 1) = max (slong S.T E i) (slen S.T E (i + 1)) := rfl
      have e3 : sfrom S.T E (i + 1) = if slong S.T E i < slen S.T E (i + 1) then (i : Int) + 1 - slen S.T E (i + 1) else sfrom S.T E i := rfl
      rw [if_neg (by omega)]
      rw [e3, e2, e1] at ih
      refine m_isOpenedAt (E := E) hT1 w.1 (by rw [← hE]; exact hV.1) (fun hs => b_Mo_silence_46 hX ?_) (fun hs => b_Mo_silence_46 hX ?_)
      · rw [if_neg (by decide), if_neg (by omega), w32_s i (by omega)]
        rw [hs, if_neg (show ¬ false = true by decide), if_neg (by omega), show max (slong S.T E i) 0 = slong S.T E i by omega] at ih
        exact ih
      · rw [if_pos rfl, w32_id (x := slen S.T E i + 1) (by omega) (by omega), w32_s i (by omega)]
        rw [hs, if_pos rfl] at ih
        by_cases c : slong S.T E i < slen S.T E i + 1
        · rw [if_pos c, w32_id (by omega) (by omega), show ((i + 1 : Nat) : Int) = (i : Int) + 1 by omega]
          rw [if_pos c, show max (slong S.T E i) (slen S.T E i + 1) = slen S.T E i + 1 by omega] at ih
          exact ih
        · rw [if_neg c]
          rw [if_neg c, show max (slong S.T E i) (slen S.T E i + 1) = slong S.T E i by omega] at ih
          exact ih
    · refine b_Mo_silence_33 hX ?_
      rw [if_pos (by decide)]
      by_cases c0 : x = 0
      · rw [if_pos c0] at h ⊢
        exact h σ1 (MS_EM hS f) (MG_EM f)
      · rw [if_neg c0, if_pos (by omega)] at h
        rw [if_neg c0]
        exact h σ1 (MS_EM hS f) (MG_EM f)
  · rw [if_neg (by omega), if_neg (by omega)] at h
    rw [if_pos rfl]
    exact m_no hS (by decide) (fun σ' a b => b_Mo_silence_15 hX (h σ' a b))
end FN
