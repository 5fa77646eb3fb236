/-! The model's questions about an evening and a table. -/
theorem sm_add (f g : Nat → Int) : ∀ n, sm (fun i => f i + g i) n = sm f n + sm g n
  | 0 => rfl
  | n + 1 => by
    show sm _ n + (f n + g n) = (sm f n + f n) + (sm g n + g n)
    rw [sm_add f g n]; omega
theorem sm_zero : ∀ n, sm (fun _ => 0) n = 0
  | 0 => rfl
  | n + 1 => by
    show sm _ n + 0 = 0
    rw [sm_zero n]; rfl
theorem sm_one {b : Nat} {p : Int} : ∀ n, sm (fun g => if (b : Int) = (g : Int) then p else 0) n = if b < n then p else 0
  | 0 => by rw [if_neg (by omega)]; rfl
  | n + 1 => by
    show sm _ n + (if (b : Int) = (n : Int) then p else 0) = _
    rw [sm_one n]
    by_cases e : b = n
    · subst e; rw [if_neg (by omega), if_pos rfl, if_pos (by omega)]; omega
    · rw [if_neg (show ¬ (b : Int) = (n : Int) by omega)]
      by_cases e2 : b < n
      · rw [if_pos e2, if_pos (by omega)]; omega
      · rw [if_neg e2, if_neg (by omega)]; rfl
theorem sm_ex {c : Nat → Prop} [∀ r, Decidable (c r)] {p o : Nat → Int} {G : Nat} : ∀ n, (∀ r, r < n → 0 ≤ o r ∧ o r < G) → sm (fun g => sm (fun r => if c r ∧ o r = (g : Int) then p r else 0) n) G = sm (fun r => if c r then p r else 0) n
  | 0, _ => sm_zero G
  | n + 1, h => by
    show sm (fun g => sm (fun r => if c r ∧ o r = (g : Int) then p r else 0) n + (if c n ∧ o n = (g : Int) then p n else 0)) G = _
    rw [sm_add, sm_ex n (fun r hr => h r (by omega))]
    show _ = sm (fun r => if c r then p r else 0) n + (if c n then p n else 0)
    congr 1
    have hn := h n (by omega)
    obtain ⟨b, hb⟩ : ∃ b : Nat, o n = (b : Int) := ⟨(o n).toNat, by omega⟩
    rw [hb]
    by_cases hc : c n
    · rw [if_pos hc, sm_congr (g := fun g => if (b : Int) = (g : Int) then p n else 0) (fun i hi => by simp [hc]), sm_one, if_pos (by omega)]
    · rw [if_neg hc, sm_congr (g := fun _ => 0) (fun i hi => by simp [hc]), sm_zero]
section MQ
variable {d : Nat} {σ : Sto} {Q : PQ} {T E : Tab} {lo : Nat}
theorem bilA_all (w : WT T) : bilA T E = sm (fun r => if opF E 60 r ≠ -9 then priT T r else 0) (rN T) := by
  have hR := WT_r w
  have hG := WT_g w
  unfold bilA bilG
  exact sm_ex (c := fun r => opF E 60 r ≠ -9) (p := priT T) (o := T 4) (rN T) (fun r hr => by
    have w7 := w.2.2.2.2.2 r (by omega)
    omega)
theorem opF_b7 (w : WT T) (hI : EI T E 61) {r : Nat} (hr : r < rN T) : opF E 60 r = -9 ∨ (0 ≤ opF E 60 r ∧ opF E 60 r ≤ 60) := opF_b w hI (by have := WT_r w; omega)
theorem m_openedMany (hT : tb σ 39 = T) (w : WT T) (hI : EI T E 61) (hE : TK σ T E) (h : Q (some (vI (opBy T E 60))) σ) : P (d + 1) 151 [vR 39] σ Q := by
  have hR := WT_r w
  refine e_Mo_openedMany fun X hX => b_Mo_openedMany_0 hX ?_
  refine upto (p := fun i => X 4 [some (vR 39), some (vI (cnt (fun r => decide (opF E 60 r ≠ -9) && decide (opF E 60 r ≤ 60)) i)), some (vI (i : Int))] [] σ) (rN T) (fun i hi ih => ?_) ?_
  · refine b_Mo_openedMany_4 hX ?_
    have hb := cnt_b (fun r => decide (opF E 60 r ≠ -9) && decide (opF E 60 r ≤ 60)) i
    have ho := opF_b7 w hI hi
    have e := cnt_s (fun r => decide (opF E 60 r ≠ -9) && decide (opF E 60 r ≤ 60)) i
    rw [b8 hT, if_pos (by omega)]
    refine ⟨by omega, ?_⟩
    rw [Int.toNat_natCast, (hE i hi).2, w32_s i (by omega), w32_id (by omega) (by omega), w32_id (by omega) (by omega)]
    by_cases c : opF E 60 i < 0
    · rw [if_pos c]
      rw [e, decide_eq_false (p := opF E 60 i ≠ -9) (by omega)] at ih
      exact ih
    · rw [if_neg c]
      rw [e, decide_eq_true (p := opF E 60 i ≠ -9) (by omega), decide_eq_true (p := opF E 60 i ≤ 60) (by omega)] at ih
      exact ih
  · refine b_Mo_openedMany_4 hX ?_
    rw [b8 hT, if_neg (by omega)]
    exact h
theorem m_openedBy {m : Int} (hT : tb σ 39 = T) (w : WT T) (hI : EI T E 61) (hE : TK σ T E) (h : Q (some (vI (opBy T E m))) σ) : P (d + 2) 187 [vR 39, vI m] σ Q := by
  have hR := WT_r w
  refine e_Mo_openedBy fun X hX => b_Mo_openedBy_0 hX ?_
  refine upto (p := fun i => X 4 [some (vR 39), some (vI m), some (vI (cnt (fun r => decide (opF E 60 r ≠ -9) && decide (opF E 60 r ≤ m)) i)), some (vI (i : Int))] [] σ) (rN T) (fun i hi ih => ?_) ?_
  · refine b_Mo_openedBy_4 hX ?_
    have hb := cnt_b (fun r => decide (opF E 60 r ≠ -9) && decide (opF E 60 r ≤ m)) i
    have ho := opF_b7 w hI hi
    have e := cnt_s (fun r => decide (opF E 60 r ≠ -9) && decide (opF E 60 r ≤ m)) i
    rw [b8 hT, if_pos (by omega)]
    refine ⟨by omega, ?_⟩
    rw [Int.toNat_natCast, (hE i hi).2]
    refine m_isIn (fun p1 p2 => b_Mo_openedBy_24 hX ?_) (fun p => b_Mo_openedBy_24 hX ?_)
    · rw [if_neg (by decide), w32_s i (by omega), w32_id (by omega) (by omega)]
      rw [e, decide_eq_true (p := opF E 60 i ≠ -9) (by omega), decide_eq_true (p := opF E 60 i ≤ m) (by omega)] at ih
      exact ih
    · rw [if_pos rfl, w32_s i (by omega), w32_id (by omega) (by omega)]
      rw [e] at ih
      have : (decide (opF E 60 i ≠ -9) && decide (opF E 60 i ≤ m)) = false := by
        by_cases c : opF E 60 i = -9
        · simp [c]
        · rw [decide_eq_false (p := opF E 60 i ≤ m) (by omega), Bool.and_false]
      rw [this] at ih
      exact ih
  · refine b_Mo_openedBy_4 hX ?_
    rw [b8 hT, if_neg (by omega)]
    exact h
theorem bilT_b (w : WT T) (c : Nat → Prop) [∀ r, Decidable (c r)] {n : Nat} (hn : n ≤ 7) : 0 ≤ sm (fun r => if c r then priT T r else 0) n ∧ sm (fun r => if c r then priT T r else 0) n ≤ 126 := by
  have hb2 := sm_ge (f := fun r => if c r then priT T r else 0) (n := n) (fun k hk => by have := priT_b w (r := k) (by omega); show 0 ≤ if c k then priT T k else 0; split <;> omega)
  have hb := sm_le (f := fun r => if c r then priT T r else 0) (c := 18) (n := n) (fun k hk => by have := priT_b w (r := k) (by omega); show (if c k then priT T k else 0) ≤ 18; split <;> omega)
  omega
theorem m_bill {g : Int} (hT : tb σ 39 = T) (w : WT T) (hI : EI T E 61) (hE : TK σ T E) (h : Q (some (vI (if g < 0 then bilA T E else bilG T E g))) σ) : P (d + 2) 152 [vR 39, vI g] σ Q := by
  have hR := WT_r w
  have h' : Q (some (vI (sm (fun r => if opF E 60 r ≠ -9 ∧ (g < 0 ∨ T 4 r = g) then priT T r else 0) (rN T)))) σ := by
    by_cases c : g < 0
    · rw [if_pos c, bilA_all w] at h
      rw [sm_congr (g := fun r => if opF E 60 r ≠ -9 then priT T r else 0) (fun i hi => by simp [c])]
      exact h
    · rw [if_neg c] at h
      rw [sm_congr (g := fun r => if opF E 60 r ≠ -9 ∧ T 4 r = g then priT T r else 0) (fun i hi => by simp [c])]
      exact h
  refine e_Mo_billOf fun X hX => b_Mo_billOf_0 hX ?_
  refine upto (p := fun i => X 4 [some (vR 39), some (vI g), some (vI (sm (fun r => if opF E 60 r ≠ -9 ∧ (g < 0 ∨ T 4 r = g) then priT T r else 0) i)), some (vI (i : Int))] [] σ) (rN T) (fun i hi ih => ?_) ?_
  · refine b_Mo_billOf_4 hX ?_
    have ho := opF_b7 w hI hi
    have hb := bilT_b w (fun r => opF E 60 r ≠ -9 ∧ (g < 0 ∨ T 4 r = g)) (n := i) (by omega)
    have hb2 := bilT_b w (fun r => opF E 60 r ≠ -9 ∧ (g < 0 ∨ T 4 r = g)) (n := i + 1) (by omega)
    have e : sm (fun r => if opF E 60 r ≠ -9 ∧ (g < 0 ∨ T 4 r = g) then priT T r else 0) (i + 1) = sm (fun r => if opF E 60 r ≠ -9 ∧ (g < 0 ∨ T 4 r = g) then priT T r else 0) i + (if opF E 60 i ≠ -9 ∧ (g < 0 ∨ T 4 i = g) then priT T i else 0) := rfl
    generalize sm (fun r => if opF E 60 r ≠ -9 ∧ (g < 0 ∨ T 4 r = g) then priT T r else 0) i = S at *
    rw [e] at ih hb2
    have no : ¬ (opF E 60 i ≠ -9 ∧ (g < 0 ∨ T 4 i = g)) → X 4 [some (vR 39), some (vI g), some (vI (w32 (S + 0))), some (vI (w32 ((i : Int) + 1)))] [] σ := fun z => by
      rw [if_neg z] at ih
      rw [w32_s i (by omega), w32_id (by omega) (by omega)]
      exact ih
    have yes : opF E 60 i ≠ -9 ∧ (g < 0 ∨ T 4 i = g) → P (d + 1) 143 [vR 39, vI (i : Int)] σ (fun r σ' => X 41 [some (vR 39), some (vI g), none, some (vI (i : Int))] (psh r [vI S]) σ') := fun z => by
      rw [if_pos z] at ih hb2
      refine m_price hT w hi (b_Mo_billOf_41 hX ?_)
      rw [w32_s i (by omega), w32_id (by omega) (by omega)]
      exact ih
    rw [b8 hT, if_pos (by omega)]
    refine ⟨by omega, ?_⟩
    rw [Int.toNat_natCast, (hE i hi).2, show σ 44 i = T 4 i from a4 hT (by omega)]
    by_cases c : opF E 60 i < 0
    · rw [if_pos c]; exact no (fun z => by omega)
    · rw [if_neg c]
      by_cases c2 : g < 0
      · rw [if_pos c2]; exact yes ⟨by omega, Or.inl c2⟩
      · rw [if_neg c2]
        by_cases c3 : T 4 i = g
        · rw [if_pos c3]; exact yes ⟨by omega, Or.inr c3⟩
        · rw [if_neg c3]; exact no (fun z => z.2.elim c2 c3)
  · refine b_Mo_billOf_4 hX ?_
    rw [b8 hT, if_neg (by omega)]
    exact h'
theorem m_lastOpened (hT : tb σ 39 = T) (w : WT T) (hE : TK σ T E) (h : Q (some (vI (lsO E (rN T)))) σ) : P (d + 1) 159 [vR 39] σ Q := by
  have hR := WT_r w
  refine e_Mo_lastOpened fun X hX => b_Mo_lastOpened_0 hX ?_
  refine upto (p := fun i => X 5 [some (vR 39), some (vI (lsO E i)), some (vI (i : Int))] [] σ) (rN T) (fun i hi ih => ?_) ?_
  · refine b_Mo_lastOpened_5 hX ?_
    have e : lsO E (i + 1) = max (lsO E i) (opF E 60 i) := rfl
    rw [b8 hT, if_pos (by omega)]
    refine ⟨by omega, ?_⟩
    rw [Int.toNat_natCast, (hE i hi).2, w32_s i (by omega)]
    by_cases c : lsO E i < opF E 60 i
    · rw [if_pos c]
      rw [e, show max (lsO E i) (opF E 60 i) = opF E 60 i by omega] at ih
      exact ih
    · rw [if_neg c]
      rw [e, show max (lsO E i) (opF E 60 i) = lsO E i by omega] at ih
      exact ih
  · refine b_Mo_lastOpened_5 hX ?_
    rw [b8 hT, if_neg (by omega)]
    exact h
theorem m_isOpenedAt {m : Nat} (hT : tb σ 39 = T) (w : WT T) (hE : TK σ T E) (h1 : silB T E m = false → Q (some (vI 1)) σ) (h0 : silB T E m = true → Q (some (vI 0)) σ) : P (d + 1) 175 [vR 39, vI (m : Int)] σ Q := by
  have hR := WT_r w
  refine e_Mo_isOpenedAt fun X hX => b_Mo_isOpenedAt_0 hX ?_
  refine upto (p := fun i => (∀ r, r < i → opF E 60 r ≠ m) → X 2 [some (vR 39), some (vI (m : Int)), some (vI (i : Int))] [] σ) (rN T) (fun i hi ih hn => ?_) ?_ (fun r hr => absurd hr (by omega))
  · refine b_Mo_isOpenedAt_2 hX ?_
    rw [b8 hT, if_pos (by omega)]
    refine ⟨by omega, ?_⟩
    rw [Int.toNat_natCast, (hE i hi).2, w32_s i (by omega)]
    by_cases c : opF E 60 i = m
    · rw [if_pos c]
      refine h1 (decide_eq_false (fun z => ?_))
      have := cnt_0.mp z i hi
      simp [c] at this
    · rw [if_neg c]
      exact ih (fun r hr => by
        by_cases e : r = i
        · rw [e]; exact c
        · exact hn r (by omega))
  · intro hn
    refine b_Mo_isOpenedAt_2 hX ?_
    rw [b8 hT, if_neg (by omega)]
    exact h0 (decide_eq_true (cnt_0.mpr (fun i hi => decide_eq_false (hn i hi))))
theorem m_broughtBy {g : Nat} (hT : tb σ 39 = T) (w : WT T) (h : Q (some (vI (brB T g : Int))) σ) : P (d + 1) 180 [vR 39, vI (g : Int)] σ Q := by
  have hR := WT_r w
  refine e_Mo_broughtBy fun X hX => b_Mo_broughtBy_0 hX ?_
  refine upto (p := fun i => X 4 [some (vR 39), some (vI (g : Int)), some (vI (mk (fun r => decide (T 4 r = g)) i : Int)), some (vI (i : Int))] [] σ) (rN T) (fun i hi ih => ?_) ?_
  · refine b_Mo_broughtBy_4 hX ?_
    have ho := orB (p := fun r => decide (T 4 r = g)) (i := i) (by omega)
    rw [b8 hT, if_pos (by omega)]
    refine ⟨by omega, ?_⟩
    rw [Int.toNat_natCast, show σ 44 i = T 4 i from a4 hT (by omega), w32_s i (by omega), ishl_1 (by omega)]
    by_cases c : T 4 i = g
    · rw [if_pos c]
      rw [decide_eq_true c, if_pos rfl] at ho
      rw [ho]; exact ih
    · rw [if_neg c]
      rw [decide_eq_false c, if_neg (by decide)] at ho
      rw [ho]; exact ih
  · refine b_Mo_broughtBy_4 hX ?_
    rw [b8 hT, if_neg (by omega)]
    exact h
theorem m_likedBy {t : Nat} (hT : tb σ 39 = T) (w : WT T) (ht : t < 8) (h : Q (some (vI (cnt (fun g => lb T g t) (gN T)))) σ) : P (d + 1) 170 [vR 39, vI (t : Int)] σ Q := by
  have hG := WT_g w
  refine e_Mo_likedBy fun X hX => b_Mo_likedBy_0 hX ?_
  refine upto (p := fun i => X 4 [some (vR 39), some (vI (t : Int)), some (vI (cnt (fun g => lb T g t) i)), some (vI (i : Int))] [] σ) (gN T) (fun i hi ih => ?_) ?_
  · refine b_Mo_likedBy_4 hX ?_
    have hb := cnt_b (fun g => lb T g t) i
    have hl := (w.2.2.2.2.1 i (by omega)).1
    have e := cnt_s (fun g => lb T g t) i
    rw [b7 hT, if_pos (by omega)]
    refine ⟨by omega, ?_⟩
    rw [Int.toNat_natCast, show σ 40 i = T 0 i from a0 hT (by omega), show T 0 i = ((T 0 i).toNat : Int) by omega, bit_nn (by omega) (by omega), w32_s i (by omega)]
    have e2 : (if (T 0 i).toNat.testBit t = true then (1 : Int) else 0) = if lb T i t = true then 1 else 0 := rfl
    rw [e2, w32_id (by split <;> omega) (by split <;> omega), ← e]
    exact ih
  · refine b_Mo_likedBy_4 hX ?_
    rw [b7 hT, if_neg (by omega)]
    exact h
end MQ
