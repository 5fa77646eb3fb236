/-! What a statement does to a table; the class's telling. -/
def tdF (l : Nat → Int) (p j : Nat) : Int := if l p = 103 then (if j = 0 then nuF l (p + 1) 3 else nuF l (p + 4) 2) else if l p = 114 then (if j = 0 then kdF (l (p + 1)) else if j = 1 then nuF l (p + 2) 1 else if j = 2 then nuF l (p + 3) 1 else if j = 3 then nuF l (p + 4) 1 else nuF l (p + 5) 2) else if j = 0 then nuF l (p + 1) 1 else if l p = 109 then nuF l (p + 2) 2 else nuF l (p + 2) 1
def apF (T : Tab) (h : Int) (t : Nat → Int) : Option Tab :=
  if h = 99 then some (sup T 10 0 (t 0))
  else if h = 103 then (if T 7 0 < 6 ∧ t 0 ≤ 255 ∧ t 1 ≤ 40 then some (sup (sup (sup T 0 (gN T) (t 0)) 1 (gN T) (t 1)) 7 0 (T 7 0 + 1)) else none)
  else if h = 109 then (if (0 ≤ t 0 ∧ t 0 < T 7 0) ∧ t 1 ≤ 40 then some (sup T 1 (t 0).toNat (t 1)) else none)
  else if h = 114 then (if T 8 0 < 7 ∧ (0 ≤ t 2 ∧ t 2 < T 7 0) ∧ t 3 < 8 ∧ t 4 ≤ 59 then some (sup (sup (sup (sup (sup (sup T 2 (rN T) (t 0)) 3 (rN T) (t 1)) 4 (rN T) (t 2)) 5 (rN T) (t 3)) 6 (rN T) (t 4)) 8 0 (T 8 0 + 1)) else none)
  else if h = 119 then (if 1 ≤ t 0 ∧ t 0 ≤ 3 then some (sup T 9 0 (t 0)) else none)
  else if h = 120 then (if (0 ≤ t 0 ∧ t 0 < T 7 0) ∧ (0 ≤ t 1 ∧ t 1 < T 7 0) ∧ t 0 ≠ t 1 then some (swp T (t 0).toNat (t 1).toNat) else none)
  else none
theorem stF_all {l : Nat → Int} {n p : Nat} : ∀ j k, stF l n p j k = k + j → ∀ i, k ≤ i → i < k + j → fitF (atF l n p) i (atF l n (p + i)) = true
  | 0, k, _, i, h1, h2 => by omega
  | j + 1, k, h, i, h1, h2 => by
    unfold stF at h
    by_cases c : fitF (atF l n p) k (atF l n (p + k)) = true
    · rw [if_pos c] at h
      by_cases e : i = k
      · rw [e]; exact c
      · exact stF_all j (k + 1) (by omega) i (by omega) (by omega)
    · rw [if_neg c] at h
      omega
theorem ok_all {l : Nat → Int} {n p : Nat} (h : okF l n p = true) : p < n ∧ p + szF (l p) ≤ n ∧ szF (l p) ≠ 0 ∧ l (p + szF (l p) - 1) = 59 ∧ ∀ k, 1 ≤ k → k < szF (l p) → fitF (l p) k (l (p + k)) = true := by
  unfold okF at h
  have h1 := of_decide_eq_true h
  have hz := szF_b (atF l n p)
  have hp : p < n := by
    by_cases c : p < n
    · exact c
    · exfalso
      have : atF l n p = -1 := if_neg c
      rw [this] at h1
      exact h1.1 rfl
  have ea : atF l n p = l p := if_pos hp
  have h2 := h1.2
  unfold goF at h2
  rw [if_neg h1.1] at h2
  have ha := stF_all (l := l) (n := n) (p := p) (szF (atF l n p) - 1) 1 (by omega)
  rw [ea] at ha h1 hz
  have last := ha (szF (l p) - 1) (by omega) (by omega)
  unfold fitF at last
  rw [if_pos (by omega)] at last
  have l59 := of_decide_eq_true last
  have hn : p + (szF (l p) - 1) < n := by
    by_cases c : p + (szF (l p) - 1) < n
    · exact c
    · exfalso
      have : atF l n (p + (szF (l p) - 1)) = -1 := if_neg c
      rw [this] at l59
      exact absurd l59 (by decide)
  refine ⟨hp, by omega, h1.1, ?_, fun k k1 k2 => ?_⟩
  · have : atF l n (p + (szF (l p) - 1)) = l (p + (szF (l p) - 1)) := if_pos hn
    rw [this] at l59
    rw [show p + szF (l p) - 1 = p + (szF (l p) - 1) by omega]
    exact l59
  · have := ha k k1 (by omega)
    rw [show atF l n (p + k) = l (p + k) from if_pos (by omega)] at this
    exact this
theorem ok_dig {l : Nat → Int} {n p : Nat} (h : okF l n p = true) {k : Nat} (k1 : 1 ≤ k) (k2 : k + 1 < szF (l p)) (k3 : l p ≠ 114 ∨ k ≠ 1) : 48 ≤ l (p + k) ∧ l (p + k) ≤ 57 := by
  have := (ok_all h).2.2.2.2 k k1 (by omega)
  unfold fitF at this
  rw [if_neg (by omega), if_neg (by omega), Bool.and_eq_true] at this
  exact ⟨of_decide_eq_true this.1, of_decide_eq_true this.2⟩
theorem ok_kind {l : Nat → Int} {n p : Nat} (h : okF l n p = true) (h2 : l p = 114) : 0 ≤ kdF (l (p + 1)) ∧ kdF (l (p + 1)) ≤ 5 := by
  have e8 : szF (l p) = 8 := by rw [h2]; rfl
  have := (ok_all h).2.2.2.2 1 (by omega) (by omega)
  unfold fitF at this
  rw [if_neg (by omega), if_pos ⟨h2, rfl⟩] at this
  refine ⟨of_decide_eq_true this, ?_⟩
  unfold kdF
  repeat (first | omega | split)
