/-! The model's statements and its table. -/
def SF (k : Nat) (σ σ' : Sto) : Prop := ∀ c j, ¬ (c = 39 ∧ j = 17) → ¬ ((c = 49 ∨ c = 50) ∧ k ≤ j) → ¬ (c = 51 ∧ 5 * k ≤ j) → σ' c j = σ c j
def TF (σ σ' : Sto) : Prop := (∀ c, (c < 39 ∨ (46 < c ∧ c < 49) ∨ 52 < c) → σ' c = σ c) ∧ (∀ j, 11 ≤ j → j ≠ 16 → j ≠ 17 → j ≠ 18 → j ≠ 21 → j ≠ 22 → σ' 39 j = σ 39 j) ∧ ∀ j, j < 55 → σ' 52 j = σ 52 j
def plF (l : Nat → Int) : Nat → Nat
  | 0 => 0
  | k + 1 => plF l k + szF (l (plF l k))
section TY1
variable {d : Nat} {σ σ' σ1 : Sto} {Q : PQ} {n : Nat} {l : Nat → Int} {T : Tab} {S : AS}
theorem SF_r (k : Nat) (σ : Sto) : SF k σ σ := fun _ _ _ _ _ => rfl
theorem SF_tr {k : Nat} (h : SF k σ σ1) (h2 : SF k σ1 σ') : SF k σ σ' := fun c j a b e => (h2 c j a b e).trans (h c j a b e)
theorem SF_RF {k : Nat} (h : RF (5 * k) σ σ') : SF k σ σ' := fun c j a _ e => h c j a e
theorem LM_SF {k : Nat} (hL : LM σ n l) (f : SF k σ σ') : LM σ' n l := ⟨by rw [f 39 16 (by omega) (by omega) (by omega)]; exact hL.1, hL.2.1, fun j hj => by rw [f 48 j (by omega) (by omega) (by omega)]; exact hL.2.2 j hj⟩
theorem m_statement {p k : Nat} (hL : LM σ n l) (h17 : σ 39 17 = (p : Int)) (h18 : σ 39 18 = (k : Int)) (hk : k < 48)
    (h1 : okF l n p = true → ∀ σ', σ' 39 17 = ((p + szF (l p) : Nat) : Int) → σ' 49 k = l p → σ' 50 k = (p : Int) → (∀ i, i < ntF (l p) → σ' 51 (5 * k + i) = tdF l p i) → SF k σ σ' → Q (some (vI 1)) σ')
    (h0 : okF l n p = false → ∀ σ', σ' 39 17 = ((p + goF l n p : Nat) : Int) → SF k σ σ' → Q (some (vI 0)) σ') : P (d + 5) 131 [vR 39] σ Q := by
  have h96 := hL.2.1
  refine e_Mo_statement fun X hX => b_Mo_statement_0 hX ?_
  refine m_nextB hL h17 (b_Mo_statement_4 hX ?_)
  by_cases cz : szF (atF l n p) = 0
  · have e0 : goF l n p = 0 := by unfold goF; rw [if_pos cz]
    have eo : okF l n p = false := by unfold okF; exact decide_eq_false (fun z => z.1 cz)
    have hd : Q (some (vI 0)) σ := h0 eo σ (by rw [e0]; exact h17) (SF_r k σ)
    have ne : ∀ v : Int, szF v ≠ 0 → ¬ atF l n p = v := fun v hv e => hv (by rw [← e]; exact cz)
    rw [if_neg (ne 103 (by decide)), if_neg (ne 114 (by decide)), if_neg (ne 119 (by decide)), if_neg (ne 99 (by decide)), if_neg (ne 120 (by decide)), if_neg (ne 109 (by decide))]
    exact hd
  have hpn : p < n := by
    by_cases z : p < n
    · exact z
    · exfalso
      apply cz
      rw [show atF l n p = -1 from if_neg z]
      rfl
  have ea : atF l n p = l p := if_pos hpn
  rw [ea] at cz ⊢
  have eg : stF l n p (szF (l p) - 1) 1 = goF l n p := by unfold goF; rw [ea, if_neg cz]
  have hzb := szF_b (l p)
  have hgb := stF_b l n p (szF (l p) - 1) 1
  rw [eg] at hgb
  have go : (0 ≤ σ 39 18 ∧ σ 39 18 < 48) ∧ (P (d + 4) 130 [vR 39, vI (l p), vI (w32 (5 * (σ 39 18)))] (sup (sup (sup σ 49 (σ 39 18).toNat (l p)) 50 (σ 39 18).toNat (σ 39 17)) 39 17 (w32 ((σ 39 17) + 1))) (fun r σ' => X 87 [some (vR 39), none] (psh r []) σ')) := by
    rw [h18, h17, Int.toNat_natCast, w32_s p (by omega), w32_id (x := 5 * (k : Int)) (by omega) (by omega), show 5 * (k : Int) = ((5 * k : Nat) : Int) by omega]
    refine ⟨by omega, ?_⟩
    have f1 : SF k σ (sup (sup (sup σ 49 k (l p)) 50 k (p : Int)) 39 17 ((p + 1 : Nat) : Int)) := fun c j a b e => by
      by_cases e1 : c = 39
      · subst e1; rw [sup_i (by omega), sup_fr (by decide), sup_fr (by decide)]
      rw [sup_fr e1]
      by_cases e2 : c = 50
      · subst e2; rw [sup_i (by omega), sup_fr (by decide)]
      rw [sup_fr e2]
      by_cases e3 : c = 49
      · subst e3; rw [sup_i (by omega)]
      rw [sup_fr e3]
    have g49 : (sup (sup (sup σ 49 k (l p)) 50 k (p : Int)) 39 17 ((p + 1 : Nat) : Int)) 49 k = l p := by rw [sup_fr (by decide), sup_fr (by decide), sup_e]
    have g50 : (sup (sup (sup σ 49 k (l p)) 50 k (p : Int)) 39 17 ((p + 1 : Nat) : Int)) 50 k = (p : Int) := by rw [sup_fr (by decide), sup_e]
    have a1 : (sup (sup (sup σ 49 k (l p)) 50 k (p : Int)) 39 17 ((p + 1 : Nat) : Int)) 39 17 = ((p + 1 : Nat) : Int) := by rw [sup_e]
    generalize sup (sup (sup σ 49 k (l p)) 50 k (p : Int)) 39 17 ((p + 1 : Nat) : Int) = σ1 at f1 g49 g50 a1 ⊢
    refine m_readsAll (b := 5 * k) (LM_SF hL f1) hpn a1 (by omega) cz eg (fun q ee σ2 a2 t2 f2 L2 => ?_) (fun q σ2 a2 f2 => b_Mo_statement_87 hX ?_)
    rotate_left
    · rw [if_pos rfl]
      refine h0 ?_ σ2 a2 (SF_tr f1 (SF_RF f2))
      unfold okF
      exact decide_eq_false (fun z => by have := z.2; rw [ea] at this; omega)
    refine b_Mo_statement_87 hX ?_
    rw [if_neg (by decide)]
    refine m_nextB L2 a2 (b_Mo_statement_94 hX ?_)
    have e3 : stF l n p 1 (szF (l p) - 1) = if fitF (atF l n p) (szF (l p) - 1) (atF l n (p + (szF (l p) - 1))) = true then szF (l p) - 1 + 1 else szF (l p) - 1 := rfl
    have ef : fitF (l p) (szF (l p) - 1) (atF l n (p + (szF (l p) - 1))) = decide (atF l n (p + (szF (l p) - 1)) = 59) := by
      unfold fitF
      rw [if_pos (by omega)]
    rw [ea, ef, ee] at e3
    by_cases c59 : atF l n (p + (szF (l p) - 1)) = 59
    · rw [if_pos c59]
      rw [if_pos (decide_eq_true c59)] at e3
      have ez : goF l n p = szF (l p) := by omega
      have eo : okF l n p = true := by
        unfold okF
        exact decide_eq_true ⟨by rw [ea]; exact cz, by rw [ea]; exact ez⟩
      refine h1 eo _ ?_ ?_ ?_ (fun i hi => ?_) (SF_tr f1 (SF_tr (SF_RF f2) (SF_RF RF_a)))
      · rw [sup_e, a2, w32_s _ (by omega)]
        congr 1
        omega
      · rw [sup_fr (by decide), f2 49 k (by omega) (by omega)]; exact g49
      · rw [sup_fr (by decide), f2 50 k (by omega) (by omega)]; exact g50
      · rw [sup_fr (by decide)]; exact t2 i hi
    · rw [if_neg c59]
      rw [if_neg (by rw [decide_eq_false c59]; decide)] at e3
      refine h0 ?_ σ2 (by rw [e3]; exact a2) (SF_tr f1 (SF_RF f2))
      unfold okF
      exact decide_eq_false (fun z => by have := z.2; rw [ea] at this; omega)
  by_cases c1 : l p = 103
  · rw [if_pos c1]; exact go
  rw [if_neg c1]
  by_cases c2 : l p = 114
  · rw [if_pos c2]; exact go
  rw [if_neg c2]
  by_cases c3 : l p = 119
  · rw [if_pos c3]; exact go
  rw [if_neg c3]
  by_cases c4 : l p = 99
  · rw [if_pos c4]; exact go
  rw [if_neg c4]
  by_cases c5 : l p = 120
  · rw [if_pos c5]; exact go
  rw [if_neg c5]
  by_cases c6 : l p = 109
  · rw [if_pos c6]; exact go
  exact absurd (show szF (l p) = 0 by unfold szF; rw [if_neg c4, if_neg c1, if_neg c6, if_neg c2, if_neg c3, if_neg c5]) cz
theorem m_comesR {k : Nat} {t : Nat → Int} (hT : tb σ 39 = T) (w : WT T) (hk : k < 48) (ht : ∀ i, i < 5 → σ 51 (5 * k + i) = t i)
    (h1 : T 8 0 < 7 ∧ (0 ≤ t 2 ∧ t 2 < T 7 0) ∧ t 3 < 8 ∧ t 4 ≤ 59 → ∀ σ', tb σ' 39 = sup (sup (sup (sup (sup (sup T 2 (rN T) (t 0)) 3 (rN T) (t 1)) 4 (rN T) (t 2)) 5 (rN T) (t 3)) 6 (rN T) (t 4)) 8 0 (T 8 0 + 1) → (∀ c, out 39 c → σ' c = σ c) → (∀ j, 11 ≤ j → σ' 39 j = σ 39 j) → Q (some (vI 1)) σ')
    (h0 : ¬ (T 8 0 < 7 ∧ (0 ≤ t 2 ∧ t 2 < T 7 0) ∧ t 3 < 8 ∧ t 4 ≤ 59) → Q (some (vI 0)) σ) : P (d + 2) 132 [vR 39, vI ((5 * k : Nat) : Int)] σ Q := by
  have hR := WT_r w
  have e1 : w32 (((5 * k : Nat) : Int) + 1) = ((5 * k + 1 : Nat) : Int) := w32b (k := 1) (by omega) (by decide)
  have e2 : w32 (((5 * k : Nat) : Int) + 2) = ((5 * k + 2 : Nat) : Int) := w32b (k := 2) (by omega) (by decide)
  have e3 : w32 (((5 * k : Nat) : Int) + 3) = ((5 * k + 3 : Nat) : Int) := w32b (k := 3) (by omega) (by decide)
  have e4 : w32 (((5 * k : Nat) : Int) + 4) = ((5 * k + 4 : Nat) : Int) := w32b (k := 4) (by omega) (by decide)
  refine e_Mo_comesRemark fun X hX => b_Mo_comesRemark_0 hX ?_
  rw [e2, Int.toNat_natCast, ht 2 (by decide)]
  refine ⟨by omega, ?_⟩
  refine m_isGuest hT (fun p1 p2 => b_Mo_comesRemark_12 hX ?_) (fun p => b_Mo_comesRemark_12 hX ?_)
  rotate_left
  · rw [if_pos rfl]; exact h0 (fun z => p z.2.1)
  rw [if_neg (by decide), e1, e2, e3, e4]
  simp only [Int.toNat_natCast]
  rw [show σ 51 (5 * k) = t 0 from ht 0 (by decide), ht 1 (by decide), ht 2 (by decide), ht 3 (by decide), ht 4 (by decide), b8 hT]
  refine ⟨by omega, ?_⟩
  by_cases c3 : t 3 < 8
  · rw [if_pos c3]
    refine ⟨by omega, ?_⟩
    by_cases c4 : 59 < t 4
    · rw [if_pos c4]; exact h0 (by omega)
    rw [if_neg c4]
    by_cases c5 : T 8 0 = 7
    · rw [if_pos c5]; exact h0 (by omega)
    rw [if_neg c5]
    refine ⟨by omega, by omega, by omega, by omega, ?_⟩
    refine h1 ⟨by omega, ⟨p1, p2⟩, c3, by omega⟩ _ ?_ (fun c hc => ?_) (fun j hj => ?_)
    · have hg : (T 8 0).toNat < 7 := by omega
      show tb (sup (sup (sup (sup (sup (sup σ (39 + 3) (T 8 0).toNat (t 0)) (39 + 4) (T 8 0).toNat (t 1)) (39 + 5) (T 8 0).toNat (t 2)) (39 + 6) (T 8 0).toNat (t 3)) (39 + 7) (T 8 0).toNat (t 4)) 39 8 (w32 (T 8 0 + 1))) 39 = _
      rw [ts8, ts6 hg, ts5 hg, ts4 hg, ts3 hg, ts2 hg, hT, w32_id (by omega) (by omega)]
      rfl
    · unfold out at hc
      rw [sup_fr (by omega), sup_fr (by omega), sup_fr (by omega), sup_fr (by omega), sup_fr (by omega), sup_fr (by omega)]
    · rw [sup_i (by omega), sup_fr (by decide), sup_fr (by decide), sup_fr (by decide), sup_fr (by decide), sup_fr (by decide)]
  · rw [if_neg c3]; exact h0 (by omega)
theorem m_comes {k : Nat} {h : Int} {t : Nat → Int} (hT : tb σ 39 = T) (w : WT T) (hk : k < 48) (hh : σ 49 k = h) (hz : szF h ≠ 0) (ht : ∀ i, i < ntF h → σ 51 (5 * k + i) = t i)
    (h1 : ∀ T', apF T h t = some T' → ∀ σ', tb σ' 39 = T' → (∀ c, out 39 c → σ' c = σ c) → (∀ j, 11 ≤ j → σ' 39 j = σ 39 j) → Q (some (vI 1)) σ')
    (h0 : apF T h t = none → ∀ σ', (∀ c, out 39 c → σ' c = σ c) → (∀ j, 11 ≤ j → σ' 39 j = σ 39 j) → Q (some (vI 0)) σ') : P (d + 3) 133 [vR 39, vI (k : Int)] σ Q := by
  have hG := WT_g w
  have n1 : 1 ≤ ntF h := by unfold ntF; repeat (first | omega | split)
  have t0 : σ 51 (5 * k) = t 0 := ht 0 (by omega)
  refine e_Mo_comes fun X hX => b_Mo_comes_0 hX ?_
  rw [w32_id (x := 5 * (k : Int)) (by omega) (by omega), show 5 * (k : Int) = ((5 * k : Nat) : Int) by omega, show w32 (((5 * k : Nat) : Int) + 1) = ((5 * k + 1 : Nat) : Int) from w32b (k := 1) (by omega) (by decide)]
  simp only [Int.toNat_natCast]
  rw [hh, t0]
  refine ⟨by omega, by omega, by omega, ?_⟩
  by_cases c1 : h = 99
  · rw [if_pos c1]
    refine h1 _ (by unfold apF; rw [if_pos c1]) _ ?_ (fun c hc => ?_) (fun j hj => ?_)
    · rw [ts10, hT]
    · unfold out at hc; rw [sup_fr (by omega)]
    · rw [sup_i (by omega)]
  rw [if_neg c1]
  by_cases c2 : h = 103
  · have t1 : σ 51 (5 * k + 1) = t 1 := ht 1 (by rw [c2]; decide)
    have ep : apF T h t = (if T 7 0 < 6 ∧ t 0 ≤ 255 ∧ t 1 ≤ 40 then some (sup (sup (sup T 0 (gN T) (t 0)) 1 (gN T) (t 1)) 7 0 (T 7 0 + 1)) else none) := by unfold apF; rw [if_neg c1, if_pos c2]
    rw [if_pos c2, t1, b7 hT]
    have no : ¬ (T 7 0 < 6 ∧ t 0 ≤ 255 ∧ t 1 ≤ 40) → Q (some (vI 0)) σ := fun z => h0 (by rw [ep, if_neg z]) σ (fun _ _ => rfl) (fun _ _ => rfl)
    by_cases a1 : 255 < t 0
    · rw [if_pos a1]; exact no (by omega)
    rw [if_neg a1]
    by_cases a2 : 40 < t 1
    · rw [if_pos a2]; exact no (by omega)
    rw [if_neg a2]
    by_cases a3 : T 7 0 = 6
    · rw [if_pos a3]; exact no (by omega)
    rw [if_neg a3]
    refine ⟨by omega, ?_⟩
    refine h1 _ (by rw [ep, if_pos (by omega)]) _ ?_ (fun c hc => ?_) (fun j hj => ?_)
    · have hg : (T 7 0).toNat < 6 := by omega
      show tb (sup (sup (sup σ (39 + 1) (T 7 0).toNat (t 0)) (39 + 2) (T 7 0).toNat (t 1)) 39 7 (w32 (T 7 0 + 1))) 39 = _
      rw [ts7, ts1 hg, ts0 hg, hT, w32_id (by omega) (by omega)]
      rfl
    · unfold out at hc
      rw [sup_fr (by omega), sup_fr (by omega), sup_fr (by omega)]
    · rw [sup_i (by omega), sup_fr (by decide), sup_fr (by decide)]
  rw [if_neg c2]
  by_cases c3 : h = 114
  · have ep : apF T h t = (if T 8 0 < 7 ∧ (0 ≤ t 2 ∧ t 2 < T 7 0) ∧ t 3 < 8 ∧ t 4 ≤ 59 then some (sup (sup (sup (sup (sup (sup T 2 (rN T) (t 0)) 3 (rN T) (t 1)) 4 (rN T) (t 2)) 5 (rN T) (t 3)) 6 (rN T) (t 4)) 8 0 (T 8 0 + 1)) else none) := by unfold apF; rw [if_neg c1, if_neg c2, if_neg (by omega), if_pos c3]
    rw [if_pos c3]
    exact m_comesR hT w hk (fun i hi => ht i (by rw [c3]; exact hi)) (fun cc σ' a b c => b_Mo_comes_139 hX ⟨Or.inr rfl, h1 _ (by rw [ep, if_pos cc]) σ' a b c⟩) (fun cc => b_Mo_comes_139 hX ⟨Or.inl rfl, h0 (by rw [ep, if_neg cc]) σ (fun _ _ => rfl) (fun _ _ => rfl)⟩)
  rw [if_neg c3]
  by_cases c4 : h = 119
  · have ep : apF T h t = (if 1 ≤ t 0 ∧ t 0 ≤ 3 then some (sup T 9 0 (t 0)) else none) := by unfold apF; rw [if_neg c1, if_neg c2, if_neg (by omega), if_neg c3, if_pos c4]
    rw [if_pos c4]
    have fo : ∀ c, out 39 c → sup σ 39 9 (t 0) c = σ c := fun c hc => by unfold out at hc; rw [sup_fr (by omega)]
    have fi : ∀ j, 11 ≤ j → sup σ 39 9 (t 0) 39 j = σ 39 j := fun j hj => by rw [sup_i (by omega)]
    exact m_isIn (fun a1 a2 => b_Mo_comes_151 hX ⟨Or.inr rfl, h1 _ (by rw [ep, if_pos ⟨a1, a2⟩]) _ (by rw [ts9, hT]) fo fi⟩) (fun a => b_Mo_comes_151 hX ⟨Or.inl rfl, h0 (by rw [ep, if_neg a]) _ fo fi⟩)
  rw [if_neg c4]
  by_cases c5 : h = 120
  · have t1 : σ 51 (5 * k + 1) = t 1 := ht 1 (by rw [c5]; decide)
    have ep : apF T h t = (if (0 ≤ t 0 ∧ t 0 < T 7 0) ∧ (0 ≤ t 1 ∧ t 1 < T 7 0) ∧ t 0 ≠ t 1 then some (swp T (t 0).toNat (t 1).toNat) else none) := by unfold apF; rw [if_neg c1, if_neg c2, if_neg (by omega), if_neg c3, if_neg c4, if_pos c5]
    rw [if_pos c5, t1]
    refine m_areTwo hT (fun p1 p2 p3 p4 p5 => b_Mo_comes_165 hX ?_) (fun p => b_Mo_comes_165 hX ?_)
    · rw [if_neg (by decide)]
      obtain ⟨a, ha⟩ : ∃ a : Nat, t 0 = a := ⟨(t 0).toNat, by omega⟩
      obtain ⟨b, hb⟩ : ∃ b : Nat, t 1 = b := ⟨(t 1).toNat, by omega⟩
      have e' : apF T h t = some (swp T a b) := by rw [ep, if_pos ⟨⟨p1, p2⟩, ⟨p3, p4⟩, p5⟩, ha, hb, Int.toNat_natCast, Int.toNat_natCast]
      rw [ha, hb]
      exact m_changes hT w (by omega) (by omega) (by omega) (fun σ' a1 a2 a3 => b_Mo_comes_176 hX (h1 _ e' σ' a1 a2 a3))
    · rw [if_pos rfl]
      exact h0 (by rw [ep, if_neg p]) σ (fun _ _ => rfl) (fun _ _ => rfl)
  rw [if_neg c5]
  have c6 : h = 109 := by
    by_cases c6 : h = 109
    · exact c6
    · exact absurd (show szF h = 0 by unfold szF; rw [if_neg c1, if_neg c2, if_neg c6, if_neg c3, if_neg c4, if_neg c5]) hz
  have t1 : σ 51 (5 * k + 1) = t 1 := ht 1 (by rw [c6]; decide)
  have ep : apF T h t = (if (0 ≤ t 0 ∧ t 0 < T 7 0) ∧ t 1 ≤ 40 then some (sup T 1 (t 0).toNat (t 1)) else none) := by unfold apF; rw [if_neg c1, if_neg c2, if_pos c6]
  rw [t1]
  refine m_isGuest hT (fun p1 p2 => b_Mo_comes_183 hX ?_) (fun p => b_Mo_comes_183 hX ?_)
  rotate_left
  · rw [if_pos rfl]
    exact h0 (by rw [ep, if_neg (fun z => p z.1)]) σ (fun _ _ => rfl) (fun _ _ => rfl)
  rw [if_neg (by decide)]
  by_cases a1 : 40 < t 1
  · rw [if_pos a1]
    exact h0 (by rw [ep, if_neg (by omega)]) σ (fun _ _ => rfl) (fun _ _ => rfl)
  rw [if_neg a1]
  refine ⟨by omega, ?_⟩
  refine h1 _ (by rw [ep, if_pos (by omega)]) _ ?_ (fun c hc => ?_) (fun j hj => ?_)
  · have hg : (t 0).toNat < 6 := by omega
    show tb (sup σ (39 + 2) (t 0).toNat (t 1)) 39 = _
    rw [ts1 hg, hT]
  · unfold out at hc; rw [sup_fr (by omega)]
  · rw [sup_fr (by decide)]
end TY1
section TY2
variable {d : Nat} {σ σ' σ1 : Sto} {Q : PQ} {n : Nat} {l : Nat → Int} {T : Tab} {S : AS}
theorem TF_r (σ : Sto) : TF σ σ := ⟨fun _ _ => rfl, fun _ _ _ _ _ _ _ => rfl, fun _ _ => rfl⟩
theorem TF_tr (h : TF σ σ1) (h2 : TF σ1 σ') : TF σ σ' := ⟨fun c a => (h2.1 c a).trans (h.1 c a), fun j a b c d e f => (h2.2.1 j a b c d e f).trans (h.2.1 j a b c d e f), fun j a => (h2.2.2 j a).trans (h.2.2 j a)⟩
theorem TF_SF {k : Nat} (f : SF k σ σ') : TF σ σ' := ⟨fun c a => funext fun j => f c j (by omega) (by omega) (by omega), fun j _ _ a _ _ _ => f 39 j (by omega) (by omega) (by omega), fun j _ => f 52 j (by omega) (by omega) (by omega)⟩
theorem TF_s {i : Nat} {v : Int} (hi : i = 16 ∨ i = 17 ∨ i = 18) : TF σ (sup σ 39 i v) := ⟨fun c a => sup_fr (by omega), fun j _ a b c _ _ => sup_i (by omega), fun j _ => by rw [sup_fr (by decide)]⟩
theorem TF_o (f : ∀ c, out 39 c → σ' c = σ c) (f2 : ∀ j, 11 ≤ j → j ≠ 21 → j ≠ 22 → σ' 39 j = σ 39 j) : TF σ σ' := ⟨fun c a => f c (by unfold out; omega), fun j a _ _ _ b c => f2 j a b c, fun j _ => by rw [f 52 (by unfold out; omega)]⟩
theorem MG_TF (f : TF σ σ') : MG σ σ' := fun c hc => f.1 c (by omega)
theorem tbK_0 (h : ∀ j, j < 55 → σ' 52 j = σ 52 j) : tbK σ' 0 = tbK σ 0 := by
  funext k j
  simp only [tbK]
  by_cases h1 : k < 7
  · simp only [if_pos h1]
    by_cases h3 : j < tl k
    · have := kof_b (k := k) (by omega)
      rw [if_pos h1] at this
      rw [if_pos h3, if_pos h3, h _ (by omega)]
    · rw [if_neg h3, if_neg h3]
  · simp only [if_neg h1]
    by_cases h3 : k < 11
    · have := kof_b (k := k) h3
      rw [if_neg h1] at this
      simp only [if_pos h3, h (0 + kof k) (by omega)]
    · simp only [if_neg h3]
theorem tb_SF {k : Nat} (f : SF k σ σ') : tb σ' 39 = tb σ 39 := by
  funext k' j
  simp only [tb]
  by_cases h1 : k' < 7
  · simp only [if_pos h1]
    rw [f (39 + 1 + k') j (by omega) (by omega) (by omega)]
  · simp only [if_neg h1]
    by_cases h2 : k' < 11
    · simp only [if_pos h2]
      rw [f 39 k' (by omega) (by omega) (by omega)]
    · simp only [if_neg h2]
theorem MS_TF {T' : Tab} (hS : MS σ S) (f : TF σ σ') (hT : tb σ' 39 = T') (h16 : σ' 39 16 = 0) : MS σ' (mS T' 0 S.l S.t S.w S.f S.k S.K) := by
  obtain ⟨g1, g2, g3, g4, g5, g6, g7, g8⟩ := hS
  refine ⟨hT, h16, fun j hj => absurd hj (Nat.not_lt_zero j), ?_, ?_, ?_, ?_, fun z => (tbK_0 f.2.2).trans (g8 z)⟩
  · rw [f.2.1 33 (by decide) (by decide) (by decide) (by decide) (by decide) (by decide)]; exact g4
  · rw [f.1 58 (by omega)]; exact g5
  · rw [f.1 47 (by omega)]; exact g6
  · rw [f.2.1 20 (by decide) (by decide) (by decide) (by decide) (by decide) (by decide)]; exact g7
theorem fsF_end (j : Nat) {p : Nat} (h : ¬ p < n) : fsF l n j p = -1 := by
  cases j with
  | zero => rfl
  | succ j => rw [fsF_s, if_neg h]
theorem y_table (hS : MS σ S) (w : WS S) (h : ∀ σ', MS σ' (cTable S).2 → MG σ σ' → Q (some (vI (cTable S).1)) σ') : P (d + 8) 134 [vR 39] σ Q := by
  have h96 := w.2.1
  have hstr := strF_b (l := S.l) (n := S.n)
  refine e_Mo_table fun X hX => b_Mo_table_0 hX ?_
  let TI : Nat → Sto → Prop := fun k σi => (∀ i, i < k → okF S.l S.n (plF S.l i) = true) ∧ plF S.l k ≤ S.n ∧ 3 * k ≤ plF S.l k ∧ fsF S.l S.n 96 0 = fsF S.l S.n (96 - k) (plF S.l k) ∧ σi 39 17 = (plF S.l k : Int) ∧ σi 39 18 = (k : Int) ∧ σi 39 16 = (S.n : Int) ∧ (∀ i, i < k → σi 49 i = S.l (plF S.l i) ∧ σi 50 i = (plF S.l i : Int) ∧ ∀ j, j < ntF (S.l (plF S.l i)) → σi 51 (5 * i + j) = tdF S.l (plF S.l i) j) ∧ TF σ σi ∧ tb σi 39 = S.T
  have fin : ∀ (k : Nat) (σi : Sto), TI k σi → ¬ plF S.l k < S.n → k ≠ 0 → P (d + 7) 137 [vR 39, vI 1, vI 1] (sup σi 39 16 0) (fun r σ' => X 84 [some (vR 39), none, none] (psh r []) σ') := by
    intro k σi ⟨i1, i2, i3, i4, i5, i6, i7, i8, i9, i10⟩ hp hk
    have hn0 : S.n ≠ 0 := by omega
    have es : ¬ 0 ≤ strF S.l S.n := by
      unfold strF
      rw [if_neg hn0, i4, fsF_end _ hp]
      decide
    have hb : bTable S = apA S.l S.n S.T 96 S.T 0 0 := if_neg es
    unfold cTable at h
    rw [hb] at h
    refine m_keep (b := 1) (by decide) (fun σ2 k1 k2 k3 k4 k5 => b_Mo_table_84 hX ?_)
    have t2 : tb σ2 39 = S.T := k2.trans ((tb_own (by decide)).trans i10)
    have F2 : TF σ σ2 := TF_tr i9 (TF_tr (TF_s (i := 16) (v := 0) (by omega)) ⟨fun c a => k4 c (by omega) (by omega), fun j _ _ _ _ a b => k5 j a b, fun j hj => k3 j (Or.inl (by omega))⟩)
    have K2 : tbK σ2 55 = S.T := k1.trans ((tb_own (by decide)).trans i10)
    have s16 : σ2 39 16 = 0 := by rw [k5 16 (by decide) (by decide), sup_e]
    have s18 : σ2 39 18 = (k : Int) := by rw [k5 18 (by decide) (by decide), sup_i (by decide)]; exact i6
    have s8 : ∀ i, i < k → σ2 49 i = S.l (plF S.l i) ∧ σ2 50 i = (plF S.l i : Int) ∧ ∀ j, j < ntF (S.l (plF S.l i)) → σ2 51 (5 * i + j) = tdF S.l (plF S.l i) j := by
      intro i hi
      rw [k4 49 (by decide) (by decide), k4 50 (by decide) (by decide), k4 51 (by decide) (by decide), sup_fr (by decide), sup_fr (by decide), sup_fr (by decide)]
      exact i8 i hi
    have key : ∀ (j i : Nat) (Ti : Tab) (σi : Sto), i + j = k → tb σi 39 = Ti → WT Ti → apA S.l S.n S.T 96 S.T 0 0 = apA S.l S.n S.T (96 - i) Ti (plF S.l i) i → (∀ c, out 39 c → σi c = σ2 c) → (∀ j, 11 ≤ j → σi 39 j = σ2 39 j) → X 86 [some (vR 39), none, some (vI (i : Int))] [] σi := by
      intro j
      induction j with
      | zero =>
        intro i Ti σi hi hT wT e fo fi
        have hik : i = k := by omega
        subst hik
        refine b_Mo_table_86 hX ?_
        rw [fi 18 (by decide), s18, if_neg (by omega)]
        have F : TF σ σi := TF_tr F2 (TF_o fo (fun j a _ _ => fi j a))
        rw [e.trans (apA_end _ hp)] at h
        exact h σi (MS_TF hS F hT ((fi 16 (by decide)).trans s16)) (MG_TF F)
      | succ j ih =>
        intro i Ti σi hi hT wT e fo fi
        have hik : i < k := by omega
        have hok := i1 i hik
        have ho := ok_all hok
        obtain ⟨q1, q2, q3⟩ := s8 i hik
        have o49 : σi 49 = σ2 49 := fo 49 (by unfold out; omega)
        have o50 : σi 50 = σ2 50 := fo 50 (by unfold out; omega)
        have o51 : σi 51 = σ2 51 := fo 51 (by unfold out; omega)
        refine b_Mo_table_86 hX ?_
        rw [fi 18 (by decide), s18, if_pos (by omega)]
        have e9 : 96 - i = (96 - (i + 1)) + 1 := by omega
        rw [e9] at e
        refine m_comes (k := i) (t := tdF S.l (plF S.l i)) hT wT (by omega) ((congrFun o49 i).trans q1) ho.2.2.1 (fun m hm => (congrFun o51 _).trans (q3 m hm)) (fun T' ea σ3 h3 fo3 fi3 => b_Mo_table_99 hX ?_) (fun ea σ3 fo3 fi3 => b_Mo_table_99 hX ?_)
        · rw [if_neg (by decide), w32_s i (by omega)]
          exact ih (i + 1) T' σ3 (by omega) h3 (apF_W wT hok ea) (e.trans (apA_some ho.1 ea)) (fun c hc => (fo3 c hc).trans (fo c hc)) (fun j hj => (fi3 j hj).trans (fi j hj))
        · rw [if_pos rfl]
          refine m_putback (b := 1) (by decide) (fun σ4 h4 fo4 fi4 => b_Mo_table_111 hX ?_)
          refine ⟨by omega, ?_⟩
          have p50 : σ4 50 i = (plF S.l i : Int) := by rw [fo4 50 (by unfold out; omega), fo3 50 (by unfold out; omega), o50]; exact q2
          have eK : tbK σ3 55 = tbK σ2 55 := by unfold tbK; rw [fo3 52 (by unfold out; omega), fo 52 (by unfold out; omega)]
          have F : TF σ σ4 := TF_tr F2 (TF_tr (TF_o fo (fun j a _ _ => fi j a)) (TF_tr (TF_o fo3 (fun j a _ _ => fi3 j a)) (TF_o fo4 fi4)))
          have u16 : σ4 39 16 = 0 := (fi4 16 (by decide) (by decide) (by decide)).trans ((fi3 16 (by decide)).trans ((fi 16 (by decide)).trans s16))
          rw [Int.toNat_natCast, p50, w32_id (by omega) (by omega)]
          rw [e.trans (apA_none ho.1 ea)] at h
          exact h σ4 (MS_TF hS F (h4.trans (eK.trans K2)) u16) (MG_TF F)
    exact key k 0 S.T σ2 (by omega) t2 w.1 rfl (fun _ _ => rfl) (fun _ _ => rfl)
  have loop : ∀ (j k : Nat) (σi : Sto), k + j = 33 → TI k σi → X 12 [some (vR 39), some (vI 1), none] [] σi := by
    intro j
    induction j with
    | zero =>
      intro k σi hk ⟨i1, i2, i3, _⟩
      exfalso
      omega
    | succ j ih =>
      intro k σi hk hI
      have hI2 := hI
      obtain ⟨i1, i2, i3, i4, i5, i6, i7, i8, i9, i10⟩ := hI
      have e96 : 96 - k = (96 - (k + 1)) + 1 := by omega
      have step : (plF S.l k < S.n ∨ S.n = 0) → P (d + 7) 131 [vR 39] σi (fun r σ' => X 38 [some (vR 39), none, none] (psh r []) σ') := by
        intro hpn
        have hLi : LM σi S.n S.l := ⟨i7, h96, fun j hj => by rw [i9.1 48 (by omega)]; exact hS.2.2.1 j hj⟩
        refine m_statement hLi i5 i6 (by omega) (fun ok σ' a1 a2 a3 a4 f => b_Mo_table_38 hX ?_) (fun ok σ' a1 f => b_Mo_table_38 hX ?_)
        · rw [if_neg (by decide), f 39 18 (by omega) (by omega) (by omega), i6, w32_s k (by omega)]
          have ho := ok_all ok
          have hz := szF_b (S.l (plF S.l k))
          have hz0 := ho.2.2.1
          refine ih (k + 1) _ (by omega) ⟨fun i hi => ?_, ho.2.1, ?_, ?_, ?_, ?_, ?_, fun i hi => ?_, ?_, ?_⟩
          · by_cases e : i = k
            · subst e; exact ok
            · exact i1 i (by omega)
          · show 3 * (k + 1) ≤ plF S.l k + szF (S.l (plF S.l k))
            omega
          · rw [i4, e96, fsF_s, if_pos ho.1, if_pos ok, show atF S.l S.n (plF S.l k) = S.l (plF S.l k) from if_pos ho.1]
            rfl
          · rw [sup_i (by decide)]; exact a1
          · rw [sup_e]
          · rw [sup_i (by decide), f 39 16 (by omega) (by omega) (by omega)]; exact i7
          · rw [sup_fr (by decide), sup_fr (by decide), sup_fr (by decide)]
            by_cases e : i = k
            · subst e; exact ⟨a2, a3, a4⟩
            · have hik : i < k := by omega
              have h5 : ntF (S.l (plF S.l i)) ≤ 5 := by unfold ntF; repeat (first | omega | split)
              rw [f 49 i (by omega) (by omega) (by omega), f 50 i (by omega) (by omega) (by omega)]
              refine ⟨(i8 i hik).1, (i8 i hik).2.1, fun j hj => ?_⟩
              rw [f 51 (5 * i + j) (by omega) (by omega) (by omega)]
              exact (i8 i hik).2.2 j hj
          · exact TF_tr i9 (TF_tr (TF_SF f) (TF_s (by omega)))
          · exact (tb_own (by decide)).trans ((tb_SF f).trans i10)
        · rw [if_pos rfl]
          refine b_Mo_table_12 hX ?_
          have hg := goF_b (l := S.l) (n := S.n) (p := plF S.l k)
          rw [if_pos rfl, sup_i (by decide), a1, w32_id (x := -1000 - ((plF S.l k + goF S.l S.n (plF S.l k) : Nat) : Int)) (by omega) (by omega)]
          have es : strF S.l S.n = ((plF S.l k + goF S.l S.n (plF S.l k) : Nat) : Int) := by
            unfold strF
            by_cases c0 : S.n = 0
            · have p0 : plF S.l k = 0 := by omega
              have g0 : goF S.l 0 0 = 0 := by unfold goF; rw [show atF S.l 0 0 = -1 from rfl]; rfl
              rw [if_pos c0, p0, c0, g0]
              rfl
            · rw [if_neg c0, i4, e96, fsF_s, if_pos (hpn.resolve_right c0), if_neg (by rw [ok]; decide)]
          have hb : bTable S = (-1000 - strF S.l S.n, S.T) := if_pos (by omega)
          unfold cTable at h
          rw [hb, es] at h
          have F := TF_tr i9 (TF_tr (TF_SF f) (TF_tr (TF_s (i := 18) (v := w32 (σ' 39 18 + 0)) (by omega)) (TF_s (i := 16) (v := 0) (by omega))))
          exact h _ (MS_TF hS F ((tb_own (by decide)).trans ((tb_own (by decide)).trans ((tb_SF f).trans i10))) (by rw [sup_e])) (MG_TF F)
      refine b_Mo_table_12 hX ?_
      rw [if_neg (by decide), i5, i7]
      by_cases cp : plF S.l k < S.n
      · rw [if_pos (by omega)]; exact step (Or.inl cp)
      · rw [if_neg (by omega), i6]
        by_cases ck : k = 0
        · rw [if_pos (by omega)]
          exact step (Or.inr (by subst ck; have : plF S.l 0 = 0 := rfl; omega))
        · rw [if_neg (by omega)]; exact fin k σi hI2 cp ck
  refine loop 33 0 _ rfl ⟨fun i hi => absurd hi (Nat.not_lt_zero i), Nat.zero_le _, Nat.le_refl 0, rfl, ?_, ?_, ?_, fun i hi => absurd hi (Nat.not_lt_zero i), TF_tr (TF_s (i := 17) (by omega)) (TF_s (i := 18) (by omega)), (tb_own (by decide)).trans ((tb_own (by decide)).trans hS.1)⟩
  · rw [sup_i (by decide), sup_e]; rfl
  · rw [sup_e]; rfl
  · rw [sup_i (by decide), sup_i (by decide)]; exact hS.2.1
end TY2
