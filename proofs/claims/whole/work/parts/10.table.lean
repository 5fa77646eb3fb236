/-! The pure table, and the table's own methods. -/
abbrev Tab : Type := Nat → Nat → Int
def tl (k : Nat) : Nat := if k < 2 then 6 else 7
def tb (σ : Sto) (o : Nat) : Tab := fun k j => if k < 7 then (if j < tl k then σ (o + 1 + k) j else 0) else if k < 11 then (if j = 0 then σ o k else 0) else 0
def gN (T : Tab) : Nat := (T 7 0).toNat
def rN (T : Tab) : Nat := (T 8 0).toNat
def WT (T : Tab) : Prop := (0 ≤ T 7 0 ∧ T 7 0 ≤ 6) ∧ (0 ≤ T 8 0 ∧ T 8 0 ≤ 7) ∧ (1 ≤ T 9 0 ∧ T 9 0 ≤ 3) ∧ (0 ≤ T 10 0 ∧ T 10 0 ≤ 9) ∧ (∀ j, j < 6 → (0 ≤ T 0 j ∧ T 0 j ≤ 255) ∧ (0 ≤ T 1 j ∧ T 1 j ≤ 40)) ∧ (∀ j, j < 7 → (0 ≤ T 2 j ∧ T 2 j ≤ 5) ∧ (0 ≤ T 3 j ∧ T 3 j ≤ 9) ∧ (0 ≤ T 4 j ∧ T 4 j ≤ 5) ∧ (0 ≤ T 5 j ∧ T 5 j ≤ 7) ∧ (0 ≤ T 6 j ∧ T 6 j ≤ 59) ∧ ((j : Int) < T 8 0 → T 4 j < T 7 0))
theorem WT_g {T : Tab} (w : WT T) : T 7 0 = (gN T : Int) ∧ gN T ≤ 6 := by unfold gN; have := w.1; omega
theorem WT_r {T : Tab} (w : WT T) : T 8 0 = (rN T : Int) ∧ rN T ≤ 7 := by unfold rN; have := w.2.1; omega
section TA
variable {σ : Sto} {o j : Nat} {T : Tab}
theorem a0 (hT : tb σ o = T) (hj : j < 6) : σ (o + 1) j = T 0 j := by rw [← hT]; simp [tb, tl, hj, Nat.add_assoc]
theorem a1 (hT : tb σ o = T) (hj : j < 6) : σ (o + 2) j = T 1 j := by rw [← hT]; simp [tb, tl, hj, Nat.add_assoc]
theorem a2 (hT : tb σ o = T) (hj : j < 7) : σ (o + 3) j = T 2 j := by rw [← hT]; simp [tb, tl, hj, Nat.add_assoc]
theorem a3 (hT : tb σ o = T) (hj : j < 7) : σ (o + 4) j = T 3 j := by rw [← hT]; simp [tb, tl, hj, Nat.add_assoc]
theorem a4 (hT : tb σ o = T) (hj : j < 7) : σ (o + 5) j = T 4 j := by rw [← hT]; simp [tb, tl, hj, Nat.add_assoc]
theorem a5 (hT : tb σ o = T) (hj : j < 7) : σ (o + 6) j = T 5 j := by rw [← hT]; simp [tb, tl, hj, Nat.add_assoc]
theorem a6 (hT : tb σ o = T) (hj : j < 7) : σ (o + 7) j = T 6 j := by rw [← hT]; simp [tb, tl, hj, Nat.add_assoc]
theorem b7 (hT : tb σ o = T) : σ o 7 = T 7 0 := by rw [← hT]; simp [tb]
theorem b8 (hT : tb σ o = T) : σ o 8 = T 8 0 := by rw [← hT]; simp [tb]
theorem b9 (hT : tb σ o = T) : σ o 9 = T 9 0 := by rw [← hT]; simp [tb]
theorem b10 (hT : tb σ o = T) : σ o 10 = T 10 0 := by rw [← hT]; simp [tb]
end TA
theorem tb_sup {σ : Sto} {o k r : Nat} {v : Int} (hk : k < 7) (hr : r < tl k) : tb (sup σ (o + 1 + k) r v) o = sup (tb σ o) k r v := by
  funext k' j
  simp only [tb, sup]
  by_cases h1 : k' < 7
  · simp only [if_pos h1]
    by_cases h2 : j < tl k'
    · simp only [if_pos h2]
      by_cases e : k' = k
      · subst e; simp
      · rw [if_neg (by omega), if_neg (by omega)]
    · simp only [if_neg h2]
      rw [if_neg]
      rintro ⟨rfl, rfl⟩
      exact h2 hr
  · simp only [if_neg h1]
    rw [if_neg (show ¬ (k' = k ∧ j = r) by omega), if_neg (show ¬ (o = o + 1 + k ∧ k' = r) by omega)]
theorem tb_sup2 {σ : Sto} {o k : Nat} {v : Int} (h7 : 7 ≤ k) (hk : k < 11) : tb (sup σ o k v) o = sup (tb σ o) k 0 v := by
  funext k' j
  simp only [tb, sup]
  by_cases h1 : k' < 7
  · simp only [if_pos h1]
    rw [if_neg (show ¬ (k' = k ∧ j = 0) by omega), if_neg (show ¬ (o + 1 + k' = o ∧ j = k) by omega)]
  · simp only [if_neg h1]
    by_cases h2 : k' < 11
    · simp only [if_pos h2]
      by_cases h3 : j = 0 <;> by_cases e : k' = k <;> simp [h3, e]
    · simp only [if_neg h2]
      rw [if_neg (by omega)]
/-- a write elsewhere leaves the table -/
theorem tb_off {σ : Sto} {o c i : Nat} {v : Int} (h : c < o ∨ o + 7 < c) : tb (sup σ c i v) o = tb σ o := by
  funext k' j
  simp only [tb, sup]
  by_cases h1 : k' < 7
  · simp only [if_pos h1]
    rw [if_neg (show ¬ (o + 1 + k' = c ∧ j = i) by omega)]
  · simp only [if_neg h1]
    rw [if_neg (show ¬ (o = c ∧ k' = i) by omega)]
theorem tb_own {σ : Sto} {o i : Nat} {v : Int} (h : 11 ≤ i) : tb (sup σ o i v) o = tb σ o := by
  funext k' j
  simp only [tb, sup]
  by_cases h1 : k' < 7
  · simp only [if_pos h1]
    rw [if_neg (show ¬ (o + 1 + k' = o ∧ j = i) by omega)]
  · simp only [if_neg h1]
    by_cases h2 : k' < 11
    · simp only [if_pos h2]
      have e : ¬ k' = i := by omega
      simp [e]
    · simp only [if_neg h2]
theorem tb_same {σ σ' : Sto} {o : Nat} (h : ∀ c, o ≤ c → c ≤ o + 7 → ∀ j, σ' c j = σ c j) : tb σ' o = tb σ o := by
  funext k' j
  simp only [tb]
  by_cases h1 : k' < 7
  · simp only [if_pos h1, h (o + 1 + k') (by omega) (by omega)]
  · simp only [if_neg h1, h o (by omega) (by omega)]
theorem tb_cp {σ σ' : Sto} {o u : Nat} (h : ∀ k, k < 7 → ∀ j, j < tl k → σ' (o + 1 + k) j = σ (u + 1 + k) j) (h2 : ∀ k, 7 ≤ k → k < 11 → σ' o k = σ u k) : tb σ' o = tb σ u := by
  funext k' j
  simp only [tb]
  by_cases h1 : k' < 7
  · simp only [if_pos h1]
    by_cases h3 : j < tl k'
    · rw [if_pos h3, if_pos h3, h k' h1 j h3]
    · rw [if_neg h3, if_neg h3]
  · simp only [if_neg h1]
    by_cases h3 : k' < 11
    · simp only [if_pos h3, h2 k' (by omega) h3]
    · simp only [if_neg h3]
/-! the pure words -/
def minF (k f : Int) : Int := if k = 2 then 3 else if k = 3 then 2 else if k = 4 then 3 + f else 1
def morF (k f : Int) : Int := if k = 1 then 2 else if k = 2 then 0 else if k = 3 then f else if k = 4 then 2 else 1
def lesF (k f : Int) : Int := if k = 2 then 1 else if k = 3 then f else if k = 4 then 1 else if k = 5 then 1 else 0
def priF (k f c : Int) : Int := if k = 1 then c.tdiv 2 else if k = 2 then 2 * c else if k = 3 then c else if k = 4 then 2 * c else if k = 5 then f else c
def minT (T : Tab) (r : Nat) : Int := minF (T 2 r) (T 3 r)
def priT (T : Tab) (r : Nat) : Int := priF (T 2 r) (T 3 r) (T 10 0)
def lb (T : Tab) (g t : Nat) : Bool := (T 0 g).toNat.testBit t
def hb (T : Tab) (r g : Nat) : Bool := decide ((g : Int) ≠ T 4 r) && (decide (T 2 r ≠ 3) || decide ((g : Int) = if T 4 r + 1 < T 7 0 then T 4 r + 1 else 0))
def mxl (T : Tab) : Nat → Int
  | 0 => 0
  | t + 1 => max (mxl T t) (cnt (fun g => lb T g t) (gN T))
def drs (T : Tab) : Nat → Int
  | 0 => -9
  | r + 1 => if drs T r < 0 ∨ priT T (drs T r).toNat < priT T r then r else drs T r
def swB (a b : Int) (T : Tab) : Nat → Tab
  | 0 => T
  | r + 1 => sup (swB a b T r) 4 r (if T 4 r = a then b else if T 4 r = b then a else T 4 r)
/-- two change seats -/
def swp (T : Tab) (a b : Nat) : Tab := swB a b (sup (sup (sup (sup T 0 a (T 0 b)) 1 a (T 1 b)) 0 b (T 0 a)) 1 b (T 1 a)) (rN T)
