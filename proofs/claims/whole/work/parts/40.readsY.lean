/-! The model's reading of the letters. -/
def LM (σ : Sto) (n : Nat) (l : Nat → Int) : Prop := σ 39 16 = (n : Int) ∧ n ≤ 96 ∧ ∀ j, j < n → σ 48 j = l j
def RF (b : Nat) (σ σ' : Sto) : Prop := ∀ c j, ¬ (c = 39 ∧ j = 17) → ¬ (c = 51 ∧ b ≤ j) → σ' c j = σ c j
def ntF (h : Int) : Nat := if h = 103 then 2 else if h = 114 then 5 else if h = 120 then 2 else if h = 109 then 2 else 1
section LY1
variable {d : Nat} {σ σ' σ1 : Sto} {Q : PQ} {n : Nat} {l : Nat → Int}
theorem RF_r (b : Nat) (σ : Sto) : RF b σ σ := fun _ _ _ _ => rfl
theorem RF_tr {b : Nat} (h : RF b σ σ1) (h2 : RF b σ1 σ') : RF b σ σ' := fun c j a e => (h2 c j a e).trans (h c j a e)
theorem RF_m {b b' : Nat} (hb : b ≤ b') (h : RF b' σ σ') : RF b σ σ' := fun c j a e => h c j a (fun z => e ⟨z.1, by omega⟩)
theorem RF_a {b : Nat} {v : Int} : RF b σ (sup σ 39 17 v) := fun c j a _ => by
  by_cases e : c = 39
  · subst e; rw [sup_i (by omega)]
  · rw [sup_fr e]
theorem RF_w {b i : Nat} {v : Int} (hi : b ≤ i) : RF b σ (sup σ 51 i v) := fun c j _ a => by
  by_cases e : c = 51
  · subst e; rw [sup_i (by omega)]
  · rw [sup_fr e]
theorem LM_RF {b : Nat} (hL : LM σ n l) (f : RF b σ σ') : LM σ' n l := ⟨by rw [f 39 16 (by omega) (by omega)]; exact hL.1, hL.2.1, fun j hj => by rw [f 48 j (by omega) (by omega)]; exact hL.2.2 j hj⟩
theorem m_nextB (hL : LM σ n l) {p : Nat} (h17 : σ 39 17 = (p : Int)) (h : Q (some (vI (atF l n p))) σ) : P (d + 1) 126 [vR 39] σ Q := by
  obtain ⟨h1, h2, h3⟩ := hL
  unfold atF at h
  refine e_Mo_next fun X hX => b_Mo_next_0 hX ?_
  rw [h17, h1]
  by_cases c : p < n
  · rw [if_pos c] at h
    rw [if_pos (by omega)]
    refine ⟨by omega, ?_⟩
    rw [Int.toNat_natCast, h3 p c]; exact h
  · rw [if_neg c] at h
    rw [if_neg (by omega)]; exact h
theorem fit_dig {h c : Int} {k : Nat} (h1 : k + 1 < szF h) (h2 : h ≠ 114 ∨ k ≠ 1) : fitF h k c = (decide (48 ≤ c) && decide (c ≤ 57)) := by
  unfold fitF
  rw [if_neg (by omega), if_neg (by omega)]
theorem m_dig {p s m b g : Nat} (hL : LM σ n l) (hp : p < n) (hs : p + s ≤ n) (h17 : σ 39 17 = ((p + s : Nat) : Int)) (hm : m ≤ 3) (hb : b < 240)
    (hk : ∀ k, s ≤ k → k < s + m → k + 1 < szF (l p) ∧ (l p ≠ 114 ∨ k ≠ 1))
    (e : stF l n p (szF (l p) - s) s = g)
    (h1 : p + (s + m) ≤ n → stF l n p (szF (l p) - (s + m)) (s + m) = g → ∀ σ', σ' 39 17 = ((p + (s + m) : Nat) : Int) → σ' 51 b = nuF l (p + s) m → RF b σ σ' → LM σ' n l → Q (some (vI 1)) σ')
    (h0 : g < s + m → ∀ σ', σ' 39 17 = ((p + g : Nat) : Int) → RF b σ σ' → Q (some (vI 0)) σ') : P (d + 2) 127 [vR 39, vI (b : Int), vI (m : Int)] σ Q := by
  have h96 := hL.2.1
  have ea : atF l n p = l p := if_pos hp
  refine e_Mo_readsDigits fun X hX => b_Mo_readsDigits_0 hX ?_
  have key : ∀ (j i : Nat) (σi : Sto), i + j = m → p + (s + i) ≤ n → σi 39 17 = ((p + (s + i) : Nat) : Int) → RF b σ σi → stF l n p (szF (l p) - (s + i)) (s + i) = g → 0 ≤ nuF l (p + s) i ∧ nuF l (p + s) i < 10 ^ i → X 5 [some (vR 39), some (vI (b : Int)), some (vI (m : Int)), some (vI (nuF l (p + s) i)), some (vI (i : Int))] [] σi := by
    intro j
    induction j with
    | zero =>
      intro i σi hi hn h17i f ei nb
      have him : i = m := by omega
      subst him
      refine b_Mo_readsDigits_5 hX ?_
      rw [if_neg (by omega)]
      refine ⟨by omega, ?_⟩
      rw [Int.toNat_natCast]
      exact h1 hn ei _ (by rw [sup_fr (by decide)]; exact h17i) (by rw [sup_e]) (RF_tr f (RF_w (Nat.le_refl b))) (LM_RF hL (RF_tr f (RF_w (Nat.le_refl b))))
    | succ j ih =>
      intro i σi hi hn h17i f ei nb
      have hLi := LM_RF hL f
      have hki := hk (s + i) (by omega) (by omega)
      have ed : fitF (l p) (s + i) (atF l n (p + (s + i))) = (decide (48 ≤ atF l n (p + (s + i))) && decide (atF l n (p + (s + i)) ≤ 57)) := fit_dig hki.1 hki.2
      have e2 : stF l n p (szF (l p) - (s + i)) (s + i) = if fitF (atF l n p) (s + i) (atF l n (p + (s + i))) = true then stF l n p (szF (l p) - (s + (i + 1))) (s + i + 1) else s + i := by
        rw [show szF (l p) - (s + i) = (szF (l p) - (s + (i + 1))) + 1 by omega]; rfl
      rw [ea, ed] at e2
      refine b_Mo_readsDigits_5 hX ?_
      rw [if_pos (by omega)]
      refine m_nextB hLi h17i (b_Mo_readsDigits_15 hX ?_)
      refine m_isIn (fun a1 a2 => ?_) (fun a => ?_)
      · refine b_Mo_readsDigits_22 hX ?_
        rw [if_neg (by decide)]
        have hb2 := p1000 (m := i) (by omega)
        rw [w32_id (by omega) (by omega)]
        refine m_nextB hLi h17i (b_Mo_readsDigits_35 hX ?_)
        have hlt : p + (s + i) < n := by
          by_cases z : p + (s + i) < n
          · exact z
          · have : atF l n (p + (s + i)) = -1 := if_neg z
            omega
        have el : atF l n (p + (s + i)) = l (p + s + i) := by rw [show p + s + i = p + (s + i) by omega]; exact if_pos hlt
        rw [if_pos (by rw [decide_eq_true a1, decide_eq_true a2]; rfl)] at e2
        rw [el] at a1 a2 ⊢
        have en : nuF l (p + s) (i + 1) = 10 * nuF l (p + s) i + l (p + s + i) - 48 := rfl
        rw [h17i, w32_s i (by omega), w32_id (x := 10 * nuF l (p + s) i + l (p + s + i)) (by omega) (by omega), w32_id (x := 10 * nuF l (p + s) i + l (p + s + i) - 48) (by omega) (by omega), ← en, w32_s (p + (s + i)) (by omega)]
        refine ih (i + 1) _ (by omega) (by omega) (by rw [sup_e]; rfl) (RF_tr f RF_a) (e2.symm.trans ei) ?_
        rw [en, Int.pow_succ]
        omega
      · refine b_Mo_readsDigits_22 hX ?_
        rw [if_pos rfl]
        rw [if_neg (by rw [Bool.and_eq_true]; exact fun z => a ⟨of_decide_eq_true z.1, of_decide_eq_true z.2⟩)] at e2
        have eg : g = s + i := ei.symm.trans e2
        exact h0 (by omega) σi (by rw [eg]; exact h17i) f
  exact key m 0 σ (by omega) hs h17 (RF_r b σ) e ⟨Int.le_refl 0, show (0 : Int) < 10 ^ 0 by decide⟩
theorem m_kindB {c : Int} (h : Q (some (vI (kdF c))) σ) : P (d + 1) 128 [vI c] σ Q := by
  refine e_Mo_kindOf fun X hX => b_Mo_kindOf_0 hX ?_
  exact ifc (F := fun x => Q (some (vI x)) σ) h fun h => ifc (F := fun x => Q (some (vI x)) σ) h fun h => ifc (F := fun x => Q (some (vI x)) σ) h fun h => ifc (F := fun x => Q (some (vI x)) σ) h fun h => ifc (F := fun x => Q (some (vI x)) σ) h fun h => ifc (F := fun x => Q (some (vI x)) σ) h id
/-- slot numbers as they are computed -/
theorem w32b {b k : Nat} (hb : b < 240) (hk : k < 20) : w32 ((b : Int) + (k : Int)) = ((b + k : Nat) : Int) := by
  rw [w32_id (by omega) (by omega)]; omega
theorem m_remarkB {p b g : Nat} (hL : LM σ n l) (hp : p < n) (h17 : σ 39 17 = ((p + 1 : Nat) : Int)) (hb : b + 5 ≤ 240) (hh : l p = 114) (e : stF l n p 7 1 = g)
    (h1 : p + 7 ≤ n → stF l n p 1 7 = g → ∀ σ', σ' 39 17 = ((p + 7 : Nat) : Int) → (∀ i, i < 5 → σ' 51 (b + i) = tdF l p i) → RF b σ σ' → LM σ' n l → Q (some (vI 1)) σ')
    (h0 : g < 7 → ∀ σ', σ' 39 17 = ((p + g : Nat) : Int) → RF b σ σ' → Q (some (vI 0)) σ') : P (d + 3) 129 [vR 39, vI (b : Int)] σ Q := by
  have h96 := hL.2.1
  have ea : atF l n p = l p := if_pos hp
  have es : szF (l p) = 8 := by rw [hh]; rfl
  have et0 : tdF l p 0 = kdF (l (p + 1)) := by unfold tdF; rw [hh]; rfl
  have et1 : tdF l p 1 = nuF l (p + 2) 1 := by unfold tdF; rw [hh]; rfl
  have et2 : tdF l p 2 = nuF l (p + 3) 1 := by unfold tdF; rw [hh]; rfl
  have et3 : tdF l p 3 = nuF l (p + 4) 1 := by unfold tdF; rw [hh]; rfl
  have et4 : tdF l p 4 = nuF l (p + 5) 2 := by unfold tdF; rw [hh]; rfl
  refine e_Mo_readsRemark fun X hX => b_Mo_readsRemark_0 hX ?_
  refine m_nextB hL h17 (b_Mo_readsRemark_9 hX ?_)
  refine m_kindB (b_Mo_readsRemark_12 hX ?_)
  refine ⟨by omega, by omega, ?_⟩
  rw [Int.toNat_natCast, sup_e]
  have e2 : stF l n p 7 1 = if fitF (atF l n p) 1 (atF l n (p + 1)) = true then stF l n p 6 2 else 1 := rfl
  have ef : fitF (l p) 1 (atF l n (p + 1)) = decide (0 ≤ kdF (atF l n (p + 1))) := by
    unfold fitF
    rw [if_neg (by omega), if_pos ⟨hh, rfl⟩]
  rw [ea, ef] at e2
  by_cases c : kdF (atF l n (p + 1)) < 0
  · rw [if_pos c]
    rw [if_neg (by rw [decide_eq_false (by omega)]; decide)] at e2
    have eg : g = 1 := e.symm.trans e2
    exact h0 (by omega) _ (by rw [sup_fr (by decide), eg]; exact h17) (RF_w (Nat.le_refl b))
  rw [if_neg c]
  rw [if_pos (decide_eq_true (by omega))] at e2
  have hlt : p + 1 < n := by
    by_cases z : p + 1 < n
    · exact z
    · have : atF l n (p + 1) = -1 := if_neg z
      rw [this] at c
      exact absurd (show kdF (-1) < 0 by decide) c
  have ek : atF l n (p + 1) = l (p + 1) := if_pos hlt
  rw [ek, h17, w32_s (p + 1) (by omega), show w32 ((b : Int) + 1) = ((b + 1 : Nat) : Int) from w32b (k := 1) (by omega) (by decide)]
  have f1 : RF b σ (sup (sup σ 51 b (kdF (l (p + 1)))) 39 17 ((p + 1 + 1 : Nat) : Int)) := RF_tr (RF_w (Nat.le_refl b)) RF_a
  have g1 : (sup (sup σ 51 b (kdF (l (p + 1)))) 39 17 ((p + 1 + 1 : Nat) : Int)) 51 b = kdF (l (p + 1)) := by rw [sup_fr (by decide), sup_e]
  have a1 : (sup (sup σ 51 b (kdF (l (p + 1)))) 39 17 ((p + 1 + 1 : Nat) : Int)) 39 17 = ((p + 2 : Nat) : Int) := by rw [sup_e]
  generalize sup (sup σ 51 b (kdF (l (p + 1)))) 39 17 ((p + 1 + 1 : Nat) : Int) = σ1 at f1 g1 a1 ⊢
  refine m_dig (s := 2) (m := 1) (g := g) (LM_RF hL f1) hp (by omega) a1 (by decide) (by omega) (fun k k1 k2 => by rw [es]; omega) (by rw [es]; exact e2.symm.trans e) (fun q1 ee1 σ2 a2 t2 f2 L2 => ?_) (fun q σ2 a2 f2 => b_Mo_readsRemark_42 hX ?_)
  rotate_left
  · rw [if_pos rfl]; exact h0 (by omega) σ2 a2 (RF_tr f1 (RF_m (by omega) f2))
  refine b_Mo_readsRemark_42 hX ?_
  rw [if_neg (by decide), show w32 ((b : Int) + 2) = ((b + 2 : Nat) : Int) from w32b (k := 2) (by omega) (by decide)]
  refine m_dig (s := 3) (m := 1) (g := g) L2 hp (by omega) a2 (by decide) (by omega) (fun k k1 k2 => by rw [es]; omega) ee1 (fun q2 ee2 σ3 a3 t3 f3 L3 => ?_) (fun q σ3 a3 f3 => b_Mo_readsRemark_53 hX ?_)
  rotate_left
  · rw [if_pos rfl]; exact h0 (by omega) σ3 a3 (RF_tr f1 (RF_tr (RF_m (by omega) f2) (RF_m (by omega) f3)))
  refine b_Mo_readsRemark_53 hX ?_
  rw [if_neg (by decide), show w32 ((b : Int) + 3) = ((b + 3 : Nat) : Int) from w32b (k := 3) (by omega) (by decide)]
  refine m_dig (s := 4) (m := 1) (g := g) L3 hp (by omega) a3 (by decide) (by omega) (fun k k1 k2 => by rw [es]; omega) ee2 (fun q3 ee3 σ4 a4 t4 f4 L4 => ?_) (fun q σ4 a4 f4 => b_Mo_readsRemark_64 hX ?_)
  rotate_left
  · rw [if_pos rfl]; exact h0 (by omega) σ4 a4 (RF_tr f1 (RF_tr (RF_m (by omega) f2) (RF_tr (RF_m (by omega) f3) (RF_m (by omega) f4))))
  refine b_Mo_readsRemark_64 hX ?_
  rw [if_neg (by decide), show w32 ((b : Int) + 4) = ((b + 4 : Nat) : Int) from w32b (k := 4) (by omega) (by decide)]
  refine m_dig (s := 5) (m := 2) (g := g) L4 hp (by omega) a4 (by decide) (by omega) (fun k k1 k2 => by rw [es]; omega) ee3 (fun q4 ee4 σ5 a5 t5 f5 L5 => ?_) (fun q σ5 a5 f5 => b_Mo_readsRemark_75 hX ?_)
  rotate_left
  · rw [if_pos rfl]; exact h0 (by omega) σ5 a5 (RF_tr f1 (RF_tr (RF_m (by omega) f2) (RF_tr (RF_m (by omega) f3) (RF_tr (RF_m (by omega) f4) (RF_m (by omega) f5)))))
  refine b_Mo_readsRemark_75 hX ?_
  rw [if_neg (by decide)]
  rw [es] at ee4
  refine h1 q4 ee4 σ5 a5 (fun i hi => ?_) (RF_tr f1 (RF_tr (RF_m (by omega) f2) (RF_tr (RF_m (by omega) f3) (RF_tr (RF_m (by omega) f4) (RF_m (by omega) f5))))) L5
  rcases (show i = 0 ∨ i = 1 ∨ i = 2 ∨ i = 3 ∨ i = 4 by omega) with rfl | rfl | rfl | rfl | rfl
  · rw [et0, ← g1]
    exact (f5 51 _ (by omega) (by omega)).trans ((f4 51 _ (by omega) (by omega)).trans ((f3 51 _ (by omega) (by omega)).trans (f2 51 _ (by omega) (by omega))))
  · rw [et1, ← t2]
    exact (f5 51 _ (by omega) (by omega)).trans ((f4 51 _ (by omega) (by omega)).trans (f3 51 _ (by omega) (by omega)))
  · rw [et2, ← t3]
    exact (f5 51 _ (by omega) (by omega)).trans (f4 51 _ (by omega) (by omega))
  · rw [et3, ← t4]
    exact f5 51 _ (by omega) (by omega)
  · rw [et4, ← t5]
/-- two numbers, of u and v digits -/
theorem two_t {p b : Nat} {x y : Int} (e0 : tdF l p 0 = x) (e1 : tdF l p 1 = y) {σ2 σ3 : Sto} (t2 : σ2 51 b = x) (f3 : RF (b + 1) σ2 σ3) (t3 : σ3 51 (b + 1) = y) : ∀ i, i < 2 → σ3 51 (b + i) = tdF l p i := by
  intro i hi
  rcases (show i = 0 ∨ i = 1 by omega) with rfl | rfl
  · rw [e0, ← t2]; exact f3 51 _ (by omega) (by omega)
  · rw [e1, ← t3]
theorem m_readsAll {p b g : Nat} (hL : LM σ n l) (hp : p < n) (h17 : σ 39 17 = ((p + 1 : Nat) : Int)) (hb : b + 5 ≤ 240) (hz : szF (l p) ≠ 0) (e : stF l n p (szF (l p) - 1) 1 = g)
    (h1 : p + (szF (l p) - 1) ≤ n → stF l n p 1 (szF (l p) - 1) = g → ∀ σ', σ' 39 17 = ((p + (szF (l p) - 1) : Nat) : Int) → (∀ i, i < ntF (l p) → σ' 51 (b + i) = tdF l p i) → RF b σ σ' → LM σ' n l → Q (some (vI 1)) σ')
    (h0 : g < szF (l p) - 1 → ∀ σ', σ' 39 17 = ((p + g : Nat) : Int) → RF b σ σ' → Q (some (vI 0)) σ') : P (d + 4) 130 [vR 39, vI (l p), vI (b : Int)] σ Q := by
  have h96 := hL.2.1
  refine e_Mo_readsAll fun X hX => b_Mo_readsAll_0 hX ?_
  by_cases c1 : l p = 103
  · have es : szF (l p) = 7 := by rw [c1]; rfl
    have en : ntF (l p) = 2 := by rw [c1]; rfl
    have et0 : tdF l p 0 = nuF l (p + 1) 3 := by unfold tdF; rw [c1]; rfl
    have et1 : tdF l p 1 = nuF l (p + 4) 2 := by unfold tdF; rw [c1]; rfl
    rw [en] at h1
    rw [if_pos c1]
    refine m_dig (s := 1) (m := 3) (g := g) hL hp (by omega) h17 (by decide) (by omega) (fun k k1 k2 => by rw [es]; omega) e (fun q1 ee1 σ2 a2 t2 f2 L2 => ?_) (fun q σ2 a2 f2 => b_Mo_readsAll_50 hX ?_)
    rotate_left
    · rw [if_pos rfl]; exact h0 (by omega) σ2 a2 f2
    refine b_Mo_readsAll_50 hX ?_
    rw [if_neg (by decide), show w32 ((b : Int) + 1) = ((b + 1 : Nat) : Int) from w32b (k := 1) (by omega) (by decide)]
    refine m_dig (s := 4) (m := 2) (g := g) L2 hp (by omega) a2 (by decide) (by omega) (fun k k1 k2 => by rw [es]; omega) ee1 (fun q2 ee2 σ3 a3 t3 f3 L3 => ?_) (fun q σ3 a3 f3 => b_Mo_readsAll_61 hX ?_)
    rotate_left
    · rw [if_pos rfl]; exact h0 (by omega) σ3 a3 (RF_tr f2 (RF_m (by omega) f3))
    refine b_Mo_readsAll_61 hX ?_
    rw [if_neg (by decide)]
    rw [es] at ee2 h1
    exact h1 q2 ee2 σ3 a3 (two_t et0 et1 t2 f3 t3) (RF_tr f2 (RF_m (by omega) f3)) L3
  rw [if_neg c1]
  by_cases c2 : l p = 109
  · have es : szF (l p) = 5 := by rw [c2]; rfl
    have en : ntF (l p) = 2 := by rw [c2]; rfl
    have et0 : tdF l p 0 = nuF l (p + 1) 1 := by unfold tdF; rw [c2]; rfl
    have et1 : tdF l p 1 = nuF l (p + 2) 2 := by unfold tdF; rw [c2]; rfl
    rw [en] at h1
    rw [if_pos c2]
    refine m_dig (s := 1) (m := 1) (g := g) hL hp (by omega) h17 (by decide) (by omega) (fun k k1 k2 => by rw [es]; omega) e (fun q1 ee1 σ2 a2 t2 f2 L2 => ?_) (fun q σ2 a2 f2 => b_Mo_readsAll_108 hX ?_)
    rotate_left
    · rw [if_pos rfl]; exact h0 (by omega) σ2 a2 f2
    refine b_Mo_readsAll_108 hX ?_
    rw [if_neg (by decide), show w32 ((b : Int) + 1) = ((b + 1 : Nat) : Int) from w32b (k := 1) (by omega) (by decide)]
    refine m_dig (s := 2) (m := 2) (g := g) L2 hp (by omega) a2 (by decide) (by omega) (fun k k1 k2 => by rw [es]; omega) ee1 (fun q2 ee2 σ3 a3 t3 f3 L3 => ?_) (fun q σ3 a3 f3 => b_Mo_readsAll_119 hX ?_)
    rotate_left
    · rw [if_pos rfl]; exact h0 (by omega) σ3 a3 (RF_tr f2 (RF_m (by omega) f3))
    refine b_Mo_readsAll_119 hX ?_
    rw [if_neg (by decide)]
    rw [es] at ee2 h1
    exact h1 q2 ee2 σ3 a3 (two_t et0 et1 t2 f3 t3) (RF_tr f2 (RF_m (by omega) f3)) L3
  rw [if_neg c2]
  by_cases c3 : l p = 114
  · have es : szF (l p) = 8 := by rw [c3]; rfl
    have en : ntF (l p) = 5 := by rw [c3]; rfl
    rw [en, es] at h1
    rw [es] at e h0
    rw [if_pos c3]
    exact m_remarkB hL hp h17 hb c3 e (fun q ee σ' a t f L => b_Mo_readsAll_75 hX ⟨Or.inr rfl, h1 q ee σ' a t f L⟩) (fun q σ' a f => b_Mo_readsAll_75 hX ⟨Or.inl rfl, h0 q σ' a f⟩)
  rw [if_neg c3]
  by_cases c4 : l p = 120
  · have es : szF (l p) = 4 := by rw [c4]; rfl
    have en : ntF (l p) = 2 := by rw [c4]; rfl
    have et0 : tdF l p 0 = nuF l (p + 1) 1 := by unfold tdF; rw [c4]; rfl
    have et1 : tdF l p 1 = nuF l (p + 2) 1 := by unfold tdF; rw [c4]; rfl
    rw [en] at h1
    rw [if_pos c4]
    refine m_dig (s := 1) (m := 1) (g := g) hL hp (by omega) h17 (by decide) (by omega) (fun k k1 k2 => by rw [es]; omega) e (fun q1 ee1 σ2 a2 t2 f2 L2 => ?_) (fun q σ2 a2 f2 => b_Mo_readsAll_82 hX ?_)
    rotate_left
    · rw [if_pos rfl]; exact h0 (by omega) σ2 a2 f2
    refine b_Mo_readsAll_82 hX ?_
    rw [if_neg (by decide), show w32 ((b : Int) + 1) = ((b + 1 : Nat) : Int) from w32b (k := 1) (by omega) (by decide)]
    refine m_dig (s := 2) (m := 1) (g := g) L2 hp (by omega) a2 (by decide) (by omega) (fun k k1 k2 => by rw [es]; omega) ee1 (fun q2 ee2 σ3 a3 t3 f3 L3 => ?_) (fun q σ3 a3 f3 => b_Mo_readsAll_93 hX ?_)
    rotate_left
    · rw [if_pos rfl]; exact h0 (by omega) σ3 a3 (RF_tr f2 (RF_m (by omega) f3))
    refine b_Mo_readsAll_93 hX ?_
    rw [if_neg (by decide)]
    rw [es] at ee2 h1
    exact h1 q2 ee2 σ3 a3 (two_t et0 et1 t2 f3 t3) (RF_tr f2 (RF_m (by omega) f3)) L3
  rw [if_neg c4]
  have es : szF (l p) = 3 := by
    by_cases c5 : l p = 99
    · rw [c5]; rfl
    by_cases c6 : l p = 119
    · rw [c6]; rfl
    exact absurd (show szF (l p) = 0 by unfold szF; rw [if_neg c5, if_neg c1, if_neg c2, if_neg c3, if_neg c6, if_neg c4]) hz
  have en : ntF (l p) = 1 := by unfold ntF; rw [if_neg c1, if_neg c3, if_neg c4, if_neg c2]
  have et0 : tdF l p 0 = nuF l (p + 1) 1 := by unfold tdF; rw [if_neg c1, if_neg c3]; rfl
  rw [en] at h1
  refine m_dig (s := 1) (m := 1) (g := g) hL hp (by omega) h17 (by decide) (by omega) (fun k k1 k2 => ⟨by rw [es]; omega, Or.inl c3⟩) e (fun q1 ee1 σ2 a2 t2 f2 L2 => b_Mo_readsAll_134 hX ⟨Or.inr rfl, ?_⟩) (fun q σ2 a2 f2 => b_Mo_readsAll_134 hX ⟨Or.inl rfl, h0 (by omega) σ2 a2 f2⟩)
  rw [es] at ee1 h1
  exact h1 q1 ee1 σ2 a2 (fun i hi => by have : i = 0 := by omega
                                        subst this; rw [et0, ← t2]; rfl) f2 L2
end LY1
