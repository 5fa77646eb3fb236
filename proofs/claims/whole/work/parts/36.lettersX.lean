/-! The letters: pure words and the class's reading. -/
def szF (h : Int) : Nat := if h = 99 then 3 else if h = 103 then 7 else if h = 109 then 5 else if h = 114 then 8 else if h = 119 then 3 else if h = 120 then 4 else 0
def kdF (c : Int) : Int := if c = 99 then 4 else if c = 100 then 2 else if c = 104 then 5 else if c = 112 then 3 else if c = 114 then 0 else if c = 119 then 1 else -1
def atF (l : Nat → Int) (n p : Nat) : Int := if p < n then l p else -1
def fitF (h : Int) (k : Nat) (c : Int) : Bool := if k + 1 = szF h then decide (c = 59) else if h = 114 ∧ k = 1 then decide (0 ≤ kdF c) else decide (48 ≤ c) && decide (c ≤ 57)
/-- the first k from 1 on that does not fit, of those below m; or m -/
def stF (l : Nat → Int) (n p : Nat) : Nat → Nat → Nat
  | 0, k => k
  | j + 1, k => if fitF (atF l n p) k (atF l n (p + k)) = true then stF l n p j (k + 1) else k
/-- how far the statement at p goes: its size if it is good, else the place of its first stray letter -/
def goF (l : Nat → Int) (n p : Nat) : Nat := if szF (atF l n p) = 0 then 0 else stF l n p (szF (atF l n p) - 1) 1
def okF (l : Nat → Int) (n p : Nat) : Bool := decide (szF (atF l n p) ≠ 0 ∧ goF l n p = szF (atF l n p))
theorem stF_b (l : Nat → Int) (n p : Nat) : ∀ j k, k ≤ stF l n p j k ∧ stF l n p j k ≤ k + j
  | 0, k => ⟨Nat.le_refl k, Nat.le_refl k⟩
  | j + 1, k => by
    have ih := stF_b l n p j (k + 1)
    unfold stF
    split <;> omega
theorem szF_b (h : Int) : szF h = 0 ∨ (3 ≤ szF h ∧ szF h ≤ 8) := by unfold szF; repeat (first | omega | split)
/-- from place p on, at most j statements: the first stray place, or -1 -/
def fsF (l : Nat → Int) (n : Nat) : Nat → Nat → Int
  | 0, _ => -1
  | j + 1, p => if p < n then (if okF l n p = true then fsF l n j (p + szF (atF l n p)) else ((p + goF l n p : Nat) : Int)) else -1
def nuF (l : Nat → Int) (p : Nat) : Nat → Int
  | 0 => 0
  | d + 1 => 10 * nuF l p d + l (p + d) - 48
section LX
variable {d : Nat} {σ : Sto} {Q : PQ} {n : Nat} {l : Nat → Int}
def LX (σ : Sto) (n : Nat) (l : Nat → Int) : Prop := σ 32 1 = (n : Int) ∧ n ≤ 96 ∧ ∀ j, j < n → σ 33 j = l j
theorem l_at (hL : LX σ n l) {p : Nat} (h : Q (some (vI (atF l n p))) σ) : P (d + 1) 47 [vR 32, vI (p : Int)] σ Q := by
  obtain ⟨h1, h2, h3⟩ := hL
  unfold atF at h
  refine e_Lt_at fun X hX => b_Lt_at_0 hX ?_
  rw [if_neg (by omega), h1]
  by_cases c : p < n
  · rw [if_pos c] at h
    rw [if_pos (by omega)]
    refine ⟨by omega, ?_⟩
    rw [Int.toNat_natCast, h3 p c]; exact h
  · rw [if_neg c] at h
    rw [if_neg (by omega)]; exact h
theorem l_size {c : Int} (h : Q (some (vI (szF c : Int))) σ) : P (d + 1) 48 [vI c] σ Q := by
  refine e_Lt_sizeOf fun X hX => b_Lt_sizeOf_0 hX ?_
  unfold szF at h
  by_cases c1 : c = 99
  · rw [if_pos c1] at h ⊢; exact h
  rw [if_neg c1] at h ⊢
  by_cases c1 : c = 103
  · rw [if_pos c1] at h ⊢; exact h
  rw [if_neg c1] at h ⊢
  by_cases c1 : c = 109
  · rw [if_pos c1] at h ⊢; exact h
  rw [if_neg c1] at h ⊢
  by_cases c1 : c = 114
  · rw [if_pos c1] at h ⊢; exact h
  rw [if_neg c1] at h ⊢
  by_cases c1 : c = 119
  · rw [if_pos c1] at h ⊢; exact h
  rw [if_neg c1] at h ⊢
  by_cases c1 : c = 120
  · rw [if_pos c1] at h ⊢; exact h
  rw [if_neg c1] at h ⊢
  exact h
theorem l_kind {c : Int} (h : Q (some (vI (kdF c))) σ) : P (d + 1) 49 [vI c] σ Q := by
  refine e_Lt_kindOf fun X hX => b_Lt_kindOf_0 hX ?_
  exact ifc (F := fun x => Q (some (vI x)) σ) h fun h => ifc (F := fun x => Q (some (vI x)) σ) h fun h => ifc (F := fun x => Q (some (vI x)) σ) h fun h => ifc (F := fun x => Q (some (vI x)) σ) h fun h => ifc (F := fun x => Q (some (vI x)) σ) h fun h => ifc (F := fun x => Q (some (vI x)) σ) h id
theorem l_fits {c x : Int} {k : Nat} (hk : k < 100) (h1 : fitF c k x = true → Q (some (vI 1)) σ) (h0 : fitF c k x = false → Q (some (vI 0)) σ) : P (d + 2) 52 [vI c, vI (k : Int), vI x] σ Q := by
  have hz := szF_b c
  refine e_Lt_fits fun X hX => b_Lt_fits_0 hX ?_
  refine l_size (b_Lt_fits_5 hX ?_)
  have dig : ((decide (48 ≤ x) && decide (x ≤ 57)) = true → Q (some (vI 1)) σ) → ((decide (48 ≤ x) && decide (x ≤ 57)) = false → Q (some (vI 0)) σ) → (if x < 48 then (Q (some (vI 0)) σ) else (if 57 < x then (Q (some (vI 0)) σ) else (Q (some (vI 1)) σ))) := by
    intro g1 g0
    by_cases a : x < 48
    · rw [if_pos a]; exact g0 (by rw [decide_eq_false (by omega)]; rfl)
    · rw [if_neg a]
      by_cases b : 57 < x
      · rw [if_pos b]; exact g0 (by rw [decide_eq_false (p := x ≤ 57) (by omega), Bool.and_false])
      · rw [if_neg b]; exact g1 (by rw [decide_eq_true (by omega), decide_eq_true (by omega)]; rfl)
  rw [w32_id (by omega) (by omega)]
  unfold fitF at h1 h0
  by_cases c1 : k + 1 = szF c
  · rw [if_pos c1] at h1 h0
    rw [if_pos (by omega)]
    by_cases e : x = 59
    · rw [if_pos e]; exact h1 (decide_eq_true e)
    · rw [if_neg e]; exact h0 (decide_eq_false e)
  · rw [if_neg c1] at h1 h0
    rw [if_neg (by omega)]
    by_cases c2 : c = 114
    · rw [if_pos c2]
      by_cases c3 : k = 1
      · rw [if_pos ⟨c2, c3⟩] at h1 h0
        rw [if_pos (by omega)]
        refine l_kind (b_Lt_fits_37 hX ?_)
        by_cases e : kdF x < 0
        · rw [if_pos e]; exact h0 (decide_eq_false (by omega))
        · rw [if_neg e]; exact h1 (decide_eq_true (by omega))
      · rw [if_neg (fun z => c3 z.2)] at h1 h0
        rw [if_neg (by omega)]
        exact dig h1 h0
    · rw [if_neg (fun z => c2 z.1)] at h1 h0
      rw [if_neg c2]
      exact dig h1 h0
theorem l_stray (hL : LX σ n l) {p : Nat} (hp : p < n) (h1 : okF l n p = true → Q (some (vI (-1))) σ) (h0 : okF l n p = false → Q (some (vI ((p + goF l n p : Nat) : Int))) σ) : P (d + 3) 51 [vR 32, vI (p : Int)] σ Q := by
  have hz := szF_b (atF l n p)
  have h96 := hL.2.1
  refine e_Lt_strayFrom fun X hX => b_Lt_strayFrom_0 hX ?_
  refine l_at hL (b_Lt_strayFrom_5 hX (l_size (b_Lt_strayFrom_10 hX ?_)))
  unfold okF goF at h1 h0
  by_cases c : szF (atF l n p) = 0
  · rw [if_pos (by omega)]
    have := h0 (decide_eq_false (fun z => z.1 c))
    rw [if_pos c] at this
    exact this
  · rw [if_neg (by omega)]
    rw [if_neg c] at h1 h0
    generalize hh : atF l n p = hd at *
    have key : ∀ j k, k + j = szF hd → stF l n p (szF hd - 1) 1 = stF l n p j k → 1 ≤ k → X 20 [some (vR 32), some (vI (p : Int)), some (vI hd), some (vI (szF hd : Int)), some (vI (k : Int))] [] σ := by
      intro j
      induction j with
      | zero =>
        intro k hk e k1
        refine b_Lt_strayFrom_20 hX ?_
        rw [if_neg (by omega)]
        exact h1 (decide_eq_true ⟨c, by rw [e]; show k = szF hd; omega⟩)
      | succ j ih =>
        intro k hk e k1
        have e2 : stF l n p (j + 1) k = if fitF hd k (atF l n (p + k)) = true then stF l n p j (k + 1) else k := by rw [← hh]; rfl
        refine b_Lt_strayFrom_20 hX ?_
        rw [if_pos (by omega), w32_id (x := (p : Int) + (k : Int)) (by omega) (by omega), show (p : Int) + (k : Int) = ((p + k : Nat) : Int) by omega]
        refine l_at hL (b_Lt_strayFrom_37 hX ?_)
        refine l_fits (by omega) (fun f => b_Lt_strayFrom_40 hX ?_) (fun f => b_Lt_strayFrom_40 hX ?_)
        · rw [if_neg (by decide), w32_s k (by omega)]
          rw [if_pos f] at e2
          exact ih (k + 1) (by omega) (e.trans e2) (by omega)
        · rw [if_pos rfl, w32_id (by omega) (by omega), show (p : Int) + (k : Int) = ((p + k : Nat) : Int) by omega]
          rw [if_neg (by rw [f]; decide)] at e2
          have e3 := e.trans e2
          rw [e3] at h0
          exact h0 (decide_eq_false (fun z => by have := z.2; omega))
    exact key (szF hd - 1) 1 (by omega) rfl (Nat.le_refl 1)
theorem l_first (hL : LX σ n l) (h : Q (some (vI (if n = 0 then 0 else fsF l n 96 0))) σ) : P (d + 4) 50 [vR 32] σ Q := by
  have h96 := hL.2.1
  refine e_Lt_firstStray fun X hX => b_Lt_firstStray_0 hX ?_
  rw [hL.1]
  by_cases c : n = 0
  · rw [if_pos c] at h
    rw [if_pos (by omega)]; exact h
  rw [if_neg c] at h
  rw [if_neg (by omega)]
  have key : ∀ j k p : Nat, k + j = 96 → p ≤ 1000 + 10 * k → fsF l n 96 0 = fsF l n j p → X 13 [some (vR 32), some (vI (p : Int)), some (vI (k : Int)), none] [] σ := by
    intro j
    induction j with
    | zero =>
      intro k p hk hp e
      refine b_Lt_firstStray_13 hX ?_
      rw [if_neg (by omega)]
      rw [e] at h; exact h
    | succ j ih =>
      intro k p hk hp e
      have e2 : fsF l n (j + 1) p = if p < n then (if okF l n p = true then fsF l n j (p + szF (atF l n p)) else ((p + goF l n p : Nat) : Int)) else -1 := rfl
      refine b_Lt_firstStray_13 hX ?_
      rw [if_pos (by omega), hL.1]
      by_cases cp : p < n
      · rw [if_pos cp] at e2
        rw [if_pos (by omega)]
        have hz := szF_b (atF l n p)
        refine l_stray hL cp (fun f => b_Lt_firstStray_32 hX ?_) (fun f => b_Lt_firstStray_32 hX ?_)
        · rw [if_pos f] at e2
          rw [if_pos (by decide)]
          refine l_at hL (b_Lt_firstStray_45 hX (l_size (b_Lt_firstStray_48 hX ?_)))
          rw [w32_s k (by omega), w32_id (by omega) (by omega), show (p : Int) + (szF (atF l n p) : Int) = ((p + szF (atF l n p) : Nat) : Int) by omega]
          exact ih (k + 1) _ (by omega) (by omega) (e.trans e2)
        · rw [if_neg (by rw [f]; decide)] at e2
          rw [if_neg (by omega)]
          rw [e.trans e2] at h
          exact h
      · rw [if_neg cp] at e2
        rw [if_neg (by omega)]
        rw [e.trans e2] at h
        exact h
  exact key 96 0 0 (by omega) (by omega) rfl
theorem nuF_b {p : Nat} : ∀ {m : Nat}, m ≤ 3 → (∀ k, k < m → 48 ≤ l (p + k) ∧ l (p + k) ≤ 57) → 0 ≤ nuF l p m ∧ nuF l p m < 10 ^ m
  | 0, _, _ => ⟨Int.le_refl 0, show (0 : Int) < 10 ^ 0 by decide⟩
  | m + 1, hm, h => by
    have ih := nuF_b (p := p) (m := m) (by omega) (fun k hk => h k (by omega))
    have h1 := h m (by omega)
    show 0 ≤ 10 * nuF l p m + l (p + m) - 48 ∧ 10 * nuF l p m + l (p + m) - 48 < 10 ^ (m + 1)
    rw [Int.pow_succ]
    omega
theorem p1000 {m : Nat} (hm : m ≤ 3) : (10 : Int) ^ m ≤ 1000 := by
  rcases (show m = 0 ∨ m = 1 ∨ m = 2 ∨ m = 3 by omega) with rfl | rfl | rfl | rfl <;> decide
theorem l_number (hL : LX σ n l) {p m : Nat} (hm : m ≤ 3) (hp : p + m ≤ n) (hd : ∀ k, k < m → 48 ≤ l (p + k) ∧ l (p + k) ≤ 57) (h : Q (some (vI (nuF l p m))) σ) : P (d + 2) 54 [vR 32, vI (p : Int), vI (m : Int)] σ Q := by
  have h96 := hL.2.1
  refine e_Lt_number fun X hX => b_Lt_number_0 hX ?_
  refine upto (p := fun i => X 5 [some (vR 32), some (vI (p : Int)), some (vI (m : Int)), some (vI (nuF l p i)), some (vI (i : Int))] [] σ) m (fun i hi ih => ?_) ?_
  · refine b_Lt_number_5 hX ?_
    have hb := nuF_b (l := l) (p := p) (m := i) (by omega) (fun k hk => hd k (by omega))
    have hb2 := p1000 (m := i) (by omega)
    have hdi := hd i hi
    have e : nuF l p (i + 1) = 10 * nuF l p i + l (p + i) - 48 := rfl
    have ea : atF l n (p + i) = l (p + i) := if_pos (by omega)
    rw [if_pos (by omega), w32_id (x := (p : Int) + (i : Int)) (by omega) (by omega), show (p : Int) + (i : Int) = ((p + i : Nat) : Int) by omega, w32_id (x := 10 * nuF l p i) (by omega) (by omega)]
    refine l_at hL (b_Lt_number_23 hX ?_)
    rw [ea, w32_s i (by omega), w32_id (x := 10 * nuF l p i + l (p + i)) (by omega) (by omega), w32_id (by omega) (by omega), ← e]
    exact ih
  · refine b_Lt_number_5 hX ?_
    rw [if_neg (by omega)]
    exact h
end LX
