/-! What both sides stand for stays well formed. -/
section WSs
variable {S : AS}
theorem W_letter (w : WS S) (c : Int) : WS (cLetter S c).2 := by
  unfold cLetter
  by_cases c1 : c < 0
  · rw [if_pos c1]; exact w
  rw [if_neg c1]
  by_cases c2 : 255 < c
  · rw [if_pos c2]; exact w
  rw [if_neg c2]
  by_cases c3 : S.n < 96
  · rw [if_pos c3]
    refine ⟨w.1, by show S.n + 1 ≤ 96; omega, fun j hj => ?_, w.2.2.2⟩
    show 0 ≤ (if j = S.n then c else S.l j) ∧ (if j = S.n then c else S.l j) ≤ 255
    by_cases e : j = S.n
    · rw [if_pos e]; omega
    · rw [if_neg e]; exact w.2.2.1 j (by have : j < S.n + 1 := hj; omega)
  · rw [if_neg c3]; exact w
theorem W_guest (w : WS S) (g x : Int) : WS (cGuest S g x).2 := by
  unfold cGuest; (repeat' split) <;> exact w
theorem W_remark (w : WS S) (g x : Int) : WS (cRemark S g x).2 := by
  unfold cRemark; (repeat' split) <;> exact w
theorem W_ready (w : WS S) (r v : Int) : WS (cReady S r v).2 := by
  unfold cReady
  have hR := WT_r w.1
  by_cases c0 : 0 ≤ r ∧ r < S.T 8 0
  · rw [if_pos c0]
    by_cases c1 : v < 0
    · rw [if_pos c1]; exact w
    rw [if_neg c1]
    by_cases c2 : 59 < v
    · rw [if_pos c2]; exact w
    rw [if_neg c2]
    exact ⟨WT_6 w.1 (by omega) (by omega), w.2⟩
  · rw [if_neg c0]; exact w
theorem W_mood (w : WS S) (g v : Int) : WS (cMood S g v).2 := by
  unfold cMood
  have hG := WT_g w.1
  by_cases c0 : 0 ≤ g ∧ g < S.T 7 0
  · rw [if_pos c0]
    by_cases c1 : v < 0
    · rw [if_pos c1]; exact w
    rw [if_neg c1]
    by_cases c2 : 40 < v
    · rw [if_pos c2]; exact w
    rw [if_neg c2]
    exact ⟨WT_01 w.1 (Or.inr rfl) (by omega) (fun z => absurd z (by decide)) (fun _ => by omega), w.2⟩
  · rw [if_neg c0]; exact w
theorem W_change (w : WS S) (a b : Int) : WS (cChange S a b).2 := by
  unfold cChange
  by_cases c0 : (0 ≤ a ∧ a < S.T 7 0) ∧ (0 ≤ b ∧ b < S.T 7 0) ∧ a ≠ b
  · rw [if_pos c0]
    exact ⟨(WT_swp w.1 (by omega) (by omega)).1, w.2⟩
  · rw [if_neg c0]; exact w
theorem W_set (w : WS S) (x v : Int) : WS (cSet S x v).2 := by
  unfold cSet
  by_cases c0 : x = 0
  · rw [if_pos c0]
    by_cases c1 : v < 1
    · rw [if_pos c1]; exact w
    rw [if_neg c1]
    by_cases c2 : 3 < v
    · rw [if_pos c2]; exact w
    rw [if_neg c2]
    exact ⟨WT_9 w.1 (by omega), w.2⟩
  rw [if_neg c0]
  by_cases c3 : x = 1
  · rw [if_pos c3]
    by_cases c1 : v < 0
    · rw [if_pos c1]; exact w
    rw [if_neg c1]
    by_cases c2 : 9 < v
    · rw [if_pos c2]; exact w
    rw [if_neg c2]
    exact ⟨WT_10 w.1 (by omega), w.2⟩
  · rw [if_neg c3]; exact w
theorem W_sums (w : WS S) (x : Int) : WS (cSums S x).2 := by
  unfold cSums
  by_cases c0 : x < 0 ∨ 4 < x
  · rw [if_pos c0]; exact w
  · rw [if_neg c0]; exact w
theorem W_of (w : WS S) (r x : Int) : WS (cOf S r x).2 := by
  unfold cOf
  by_cases c0 : 0 ≤ r ∧ r < S.T 8 0
  · rw [if_pos c0]
    by_cases c1 : x < 0 ∨ 2 < x
    · rw [if_pos c1]; exact w
    · rw [if_neg c1]; exact w
  · rw [if_neg c0]; exact w
theorem W_moodAt (w : WS S) (g m : Int) : WS (cMoodAt S g m).2 := by
  unfold cMoodAt; (repeat' split) <;> exact w
theorem W_bill (w : WS S) (g : Int) : WS (cBill S g).2 := by
  unfold cBill; (repeat' split) <;> exact w
theorem W_without (w : WS S) (r : Int) : WS (cWithout S r).2 := by
  unfold cWithout; (repeat' split) <;> exact w
theorem W_best (w : WS S) (r : Int) : WS (cBest S r).2 := by
  unfold cBest; (repeat' split) <;> exact w
theorem W_could (w : WS S) (x : Int) : WS (cCould S x).2 := by
  unfold cCould; (repeat' split) <;> exact w
theorem W_spare (w : WS S) (x : Int) : WS (cSpare S x).2 := by
  unfold cSpare; (repeat' split) <;> exact w
theorem W_silence (w : WS S) (x : Int) : WS (cSilence S x).2 := by
  unfold cSilence; (repeat' split) <;> exact w
theorem W_busy (w : WS S) (x : Int) : WS (cBusy S x).2 := by
  unfold cBusy; (repeat' split) <;> exact w
theorem W_who (w : WS S) (g r x : Int) : WS (cWho S g r x).2 := by
  unfold cWho; (repeat' split) <;> exact w
theorem W_haggle (w : WS S) (a b : Int) : WS (cHaggle S a b).2 := by
  unfold cHaggle; (repeat' split) <;> exact w
theorem W_odds (w : WS S) (t v x : Int) : WS (cOdds S t v x).2 := by
  unfold cOdds; (repeat' split) <;> exact w
theorem W_row (w : WS S) (v : Int) : WS (cRow S v).2 := by
  unfold cRow
  by_cases c1 : v < 0
  · rw [if_pos c1]; exact w
  rw [if_neg c1]
  by_cases c2 : 99 < v
  · rw [if_pos c2]; exact w
  rw [if_neg c2]
  by_cases c3 : S.t < 12
  · rw [if_pos c3]
    exact ⟨w.1, w.2.1, w.2.2.1, by show S.t + 1 ≤ 12; omega, w.2.2.2.2⟩
  · rw [if_neg c3]; exact w
theorem W_judge (w : WS S) : WS (cJudge S).2 := ⟨w.1, w.2.1, w.2.2.1, Nat.zero_le _, w.2.2.2.2⟩
theorem W_clear (w : WS S) : WS (cClear S).2 := ⟨w.1, w.2.1, w.2.2.1, Nat.zero_le _, w.2.2.2.2⟩
theorem W_lots (w : WS S) (n z x : Int) : WS (cLots S n z x).2 := by
  unfold cLots; (repeat' split) <;> exact w
theorem W_image (w : WS S) : WS (cImage S).2 := ⟨w.1, w.2.1, w.2.2.1, w.2.2.2.1, Or.inr rfl, w.1⟩
theorem W_on (w : WS S) : WS (cOn S).2 := by
  unfold cOn
  by_cases c : S.k = 0
  · rw [if_pos c]; exact w
  · rw [if_neg c]; exact ⟨w.2.2.2.2.2, w.2⟩
theorem W_count (w : WS S) (x : Int) : WS (cCount S x).2 := by
  unfold cCount
  by_cases c : 11 ≤ x ∧ x ≤ 16
  · rw [if_pos c]; exact w
  · rw [if_neg c]; exact w
theorem apA_W {l : Nat → Int} {n : Nat} {T0 : Tab} (w0 : WT T0) : ∀ (j : Nat) (T : Tab) (p k : Nat), WT T → fsF l n j p = -1 → WT (apA l n T0 j T p k).2
  | 0, T, p, k, w, _ => w
  | j + 1, T, p, k, w, e => by
    by_cases hp : p < n
    · obtain ⟨ok, e1⟩ := fsF_ok hp e
      cases ea : apF T (l p) (tdF l p) with
      | none => rw [apA_none hp ea]; exact w0
      | some T' => rw [apA_some hp ea]; exact apA_W w0 j T' _ _ (apF_W w ok ea) e1
    · rw [apA_end _ hp]; exact w
theorem W_table (w : WS S) : WS (cTable S).2 := by
  refine ⟨?_, Nat.zero_le _, fun j hj => absurd hj (Nat.not_lt_zero j), w.2.2.2⟩
  show WT (bTable S).2
  unfold bTable
  by_cases c : 0 ≤ strF S.l S.n
  · rw [if_pos c]; exact w.1
  · rw [if_neg c]
    refine apA_W w.1 _ _ _ _ w.1 ?_
    have := strF_b (l := S.l) (n := S.n)
    have hn0 : S.n ≠ 0 := fun z => c (by unfold strF; rw [if_pos z]; exact Int.le_refl 0)
    have e : strF S.l S.n = -1 := by omega
    unfold strF at e
    rw [if_neg hn0] at e
    exact e
end WSs
