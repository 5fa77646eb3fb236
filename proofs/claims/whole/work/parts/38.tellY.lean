/-! The class tells a statement to its trial table. -/
section TL
variable {d : Nat} {σ : Sto} {Q : PQ} {n : Nat} {l : Nat → Int} {T : Tab}
theorem LX_o {σ' : Sto} (hL : LX σ n l) (f : ∀ c, out 17 c → σ' c = σ c) : LX σ' n l := ⟨by rw [f 32 (Or.inr (by decide))]; exact hL.1, hL.2.1, fun j hj => by rw [f 33 (Or.inr (by decide))]; exact hL.2.2 j hj⟩
theorem w32p {p k : Nat} (hp : p < 96) (hk : k < 20) : w32 ((p : Int) + (k : Int)) = ((p + k : Nat) : Int) := by
  rw [w32_id (by omega) (by omega)]; omega
theorem l_num (hL : LX σ n l) {p q m : Nat} (hok : okF l n p = true) (hm : m ≤ 3) (hm1 : 1 ≤ m) (hk : ∀ k, k < m → (1 ≤ q + k ∧ q + k + 1 < szF (l p)) ∧ (l p ≠ 114 ∨ q + k ≠ 1)) (h : Q (some (vI (nuF l (p + q) m))) σ) : P (d + 2) 54 [vR 32, vI ((p + q : Nat) : Int), vI (m : Int)] σ Q := by
  have hsz := (ok_all hok).2.1
  have hl := (hk (m - 1) (by omega)).1.2
  have hle : p + q + m ≤ n := by clear h hL hk; omega
  refine l_number hL hm hle (fun k hk2 => ?_) h
  have := ok_dig hok (k := q + k) (hk k hk2).1.1 (hk k hk2).1.2 (hk k hk2).2
  rw [Nat.add_assoc]; exact this
theorem l_tell (hL : LX σ n l) (hT : tb σ 17 = T) (w : WT T) {p : Nat} (hok : okF l n p = true)
    (h1 : ∀ T', apF T (l p) (tdF l p) = some T' → ∀ σ', tb σ' 17 = T' → (∀ c, out 17 c → σ' c = σ c) → Q (some (vI 1)) σ')
    (h0 : apF T (l p) (tdF l p) = none → Q (some (vI 0)) σ) : P (d + 4) 53 [vR 32, vR 17, vI (p : Int)] σ Q := by
  obtain ⟨hp, hsz, hne, _, _⟩ := ok_all hok
  have hp96 : p < 96 := Nat.lt_of_lt_of_le hp hL.2.1
  have ea : atF l n p = l p := if_pos hp
  have i17 : isT 17 := Or.inr (Or.inr rfl)
  refine e_Lt_tell fun X hX => b_Lt_tell_0 hX ?_
  refine l_at hL (b_Lt_tell_5 hX ?_)
  rw [ea]
  by_cases c1 : l p = 99
  · have es : szF (l p) = 3 := by rw [c1]; rfl
    have et : tdF l p 0 = nuF l (p + 1) 1 := by unfold tdF; rw [c1]; rfl
    have ep : apF T (l p) (tdF l p) = some (sup T 10 0 (nuF l (p + 1) 1)) := by unfold apF; rw [if_pos c1, et]
    rw [if_pos c1, show w32 ((p : Int) + 1) = ((p + 1 : Nat) : Int) from w32p (k := 1) hp96 (by decide)]
    refine l_num (q := 1) (m := 1) hL hok (by decide) (by decide) (fun k hk => by rw [es]; omega) (b_Lt_tell_154 hX ?_)
    exact s_charge i17 hT (fun σ' g1 g2 => b_Lt_tell_157 hX ⟨Or.inr rfl, h1 _ ep σ' g1 g2⟩)
  rw [if_neg c1]
  by_cases c2 : l p = 103
  · have es : szF (l p) = 7 := by rw [c2]; rfl
    have et0 : tdF l p 0 = nuF l (p + 1) 3 := by unfold tdF; rw [c2]; rfl
    have et1 : tdF l p 1 = nuF l (p + 4) 2 := by unfold tdF; rw [c2]; rfl
    have ep : apF T (l p) (tdF l p) = (if T 7 0 < 6 ∧ nuF l (p + 1) 3 ≤ 255 ∧ nuF l (p + 4) 2 ≤ 40 then some (sup (sup (sup T 0 (gN T) (nuF l (p + 1) 3)) 1 (gN T) (nuF l (p + 4) 2)) 7 0 (T 7 0 + 1)) else none) := by unfold apF; rw [if_neg c1, if_pos c2, et0, et1]
    rw [if_pos c2, show w32 ((p : Int) + 1) = ((p + 1 : Nat) : Int) from w32p (k := 1) hp96 (by decide)]
    refine l_num (q := 1) (m := 3) hL hok (by decide) (by decide) (fun k hk => by rw [es]; omega) (b_Lt_tell_73 hX ?_)
    rw [show w32 ((p : Int) + 4) = ((p + 4 : Nat) : Int) from w32p (k := 4) hp96 (by decide)]
    refine l_num (q := 4) (m := 2) hL hok (by decide) (by decide) (fun k hk => by rw [es]; omega) (b_Lt_tell_81 hX ?_)
    exact s_seat i17 hT w (fun a b c σ' g1 g2 => b_Lt_tell_84 hX ⟨Or.inr rfl, h1 _ (by rw [ep, if_pos ⟨a, b, c⟩]) σ' g1 g2⟩) (fun z => b_Lt_tell_84 hX ⟨Or.inl rfl, h0 (by rw [ep, if_neg z])⟩)
  rw [if_neg c2]
  by_cases c3 : l p = 109
  · have es : szF (l p) = 5 := by rw [c3]; rfl
    have et0 : tdF l p 0 = nuF l (p + 1) 1 := by unfold tdF; rw [c3]; rfl
    have et1 : tdF l p 1 = nuF l (p + 2) 2 := by unfold tdF; rw [c3]; rfl
    have ep : apF T (l p) (tdF l p) = (if (0 ≤ nuF l (p + 1) 1 ∧ nuF l (p + 1) 1 < T 7 0) ∧ nuF l (p + 2) 2 ≤ 40 then some (sup T 1 (nuF l (p + 1) 1).toNat (nuF l (p + 2) 2)) else none) := by unfold apF; rw [if_neg c1, if_neg c2, if_pos c3, et0, et1]
    rw [if_pos c3, show w32 ((p : Int) + 1) = ((p + 1 : Nat) : Int) from w32p (k := 1) hp96 (by decide)]
    refine l_num (q := 1) (m := 1) hL hok (by decide) (by decide) (fun k hk => by rw [es]; omega) (b_Lt_tell_188 hX ?_)
    rw [show w32 ((p : Int) + 2) = ((p + 2 : Nat) : Int) from w32p (k := 2) hp96 (by decide)]
    refine l_num (q := 2) (m := 2) hL hok (by decide) (by decide) (fun k hk => by rw [es]; omega) (b_Lt_tell_196 hX ?_)
    exact s_humour i17 hT w (fun a b c σ' g1 g2 => b_Lt_tell_199 hX ⟨Or.inr rfl, h1 _ (by rw [ep, if_pos ⟨⟨a, b⟩, c⟩]) σ' g1 g2⟩) (fun z => b_Lt_tell_199 hX ⟨Or.inl rfl, h0 (by rw [ep, if_neg z])⟩)
  rw [if_neg c3]
  by_cases c4 : l p = 114
  · have es : szF (l p) = 8 := by rw [c4]; rfl
    have et0 : tdF l p 0 = kdF (l (p + 1)) := by unfold tdF; rw [c4]; rfl
    have et1 : tdF l p 1 = nuF l (p + 2) 1 := by unfold tdF; rw [c4]; rfl
    have et2 : tdF l p 2 = nuF l (p + 3) 1 := by unfold tdF; rw [c4]; rfl
    have et3 : tdF l p 3 = nuF l (p + 4) 1 := by unfold tdF; rw [c4]; rfl
    have et4 : tdF l p 4 = nuF l (p + 5) 2 := by unfold tdF; rw [c4]; rfl
    have ep : apF T (l p) (tdF l p) = (if T 8 0 < 7 ∧ (0 ≤ nuF l (p + 3) 1 ∧ nuF l (p + 3) 1 < T 7 0) ∧ nuF l (p + 4) 1 < 8 ∧ nuF l (p + 5) 2 ≤ 59 then some (sup (sup (sup (sup (sup (sup T 2 (rN T) (kdF (l (p + 1)))) 3 (rN T) (nuF l (p + 2) 1)) 4 (rN T) (nuF l (p + 3) 1)) 5 (rN T) (nuF l (p + 4) 1)) 6 (rN T) (nuF l (p + 5) 2)) 8 0 (T 8 0 + 1)) else none) := by unfold apF; rw [if_neg c1, if_neg c2, if_neg c3, if_pos c4, et0, et1, et2, et3, et4]
    have hp1 : p + 1 < n := by clear ep et0 et1 et2 et3 et4; omega
    rw [if_pos c4, show w32 ((p : Int) + 1) = ((p + 1 : Nat) : Int) from w32p (k := 1) hp96 (by decide)]
    refine l_at hL (b_Lt_tell_93 hX ?_)
    rw [show atF l n (p + 1) = l (p + 1) from if_pos hp1]
    refine l_kind (b_Lt_tell_96 hX ?_)
    rw [show w32 ((p : Int) + 2) = ((p + 2 : Nat) : Int) from w32p (k := 2) hp96 (by decide)]
    refine l_num (q := 2) (m := 1) hL hok (by decide) (by decide) (fun k hk => by rw [es]; omega) (b_Lt_tell_104 hX ?_)
    rw [show w32 ((p : Int) + 3) = ((p + 3 : Nat) : Int) from w32p (k := 3) hp96 (by decide)]
    refine l_num (q := 3) (m := 1) hL hok (by decide) (by decide) (fun k hk => by rw [es]; omega) (b_Lt_tell_112 hX ?_)
    rw [show w32 ((p : Int) + 4) = ((p + 4 : Nat) : Int) from w32p (k := 4) hp96 (by decide)]
    refine l_num (q := 4) (m := 1) hL hok (by decide) (by decide) (fun k hk => by rw [es]; omega) (b_Lt_tell_120 hX ?_)
    rw [show w32 ((p : Int) + 5) = ((p + 5 : Nat) : Int) from w32p (k := 5) hp96 (by decide)]
    refine l_num (q := 5) (m := 2) hL hok (by decide) (by decide) (fun k hk => by rw [es]; omega) (b_Lt_tell_128 hX ?_)
    exact s_bring i17 hT w (fun a b c d e σ' g1 g2 => b_Lt_tell_131 hX ⟨Or.inr rfl, h1 _ (by rw [ep, if_pos ⟨a, ⟨b, c⟩, d, e⟩]) σ' g1 g2⟩) (fun z => b_Lt_tell_131 hX ⟨Or.inl rfl, h0 (by rw [ep, if_neg z])⟩)
  rw [if_neg c4]
  by_cases c5 : l p = 119
  · have es : szF (l p) = 3 := by rw [c5]; rfl
    have et0 : tdF l p 0 = nuF l (p + 1) 1 := by unfold tdF; rw [c5]; rfl
    have ep : apF T (l p) (tdF l p) = (if 1 ≤ nuF l (p + 1) 1 ∧ nuF l (p + 1) 1 ≤ 3 then some (sup T 9 0 (nuF l (p + 1) 1)) else none) := by unfold apF; rw [if_neg c1, if_neg c2, if_neg c3, if_neg c4, if_pos c5, et0]
    rw [if_pos c5, show w32 ((p : Int) + 1) = ((p + 1 : Nat) : Int) from w32p (k := 1) hp96 (by decide)]
    refine l_num (q := 1) (m := 1) hL hok (by decide) (by decide) (fun k hk => by rw [es]; omega) (b_Lt_tell_141 hX ?_)
    exact s_hire i17 hT (fun a b σ' g1 g2 => b_Lt_tell_144 hX ⟨Or.inr rfl, h1 _ (by rw [ep, if_pos ⟨a, b⟩]) σ' g1 g2⟩) (fun z => b_Lt_tell_144 hX ⟨Or.inl rfl, h0 (by rw [ep, if_neg z])⟩)
  rw [if_neg c5]
  by_cases c6 : l p = 120
  · have es : szF (l p) = 4 := by rw [c6]; rfl
    have et0 : tdF l p 0 = nuF l (p + 1) 1 := by unfold tdF; rw [c6]; rfl
    have et1 : tdF l p 1 = nuF l (p + 2) 1 := by unfold tdF; rw [c6]; rfl
    have ep : apF T (l p) (tdF l p) = (if (0 ≤ nuF l (p + 1) 1 ∧ nuF l (p + 1) 1 < T 7 0) ∧ (0 ≤ nuF l (p + 2) 1 ∧ nuF l (p + 2) 1 < T 7 0) ∧ nuF l (p + 1) 1 ≠ nuF l (p + 2) 1 then some (swp T (nuF l (p + 1) 1).toNat (nuF l (p + 2) 1).toNat) else none) := by unfold apF; rw [if_neg c1, if_neg c2, if_neg c3, if_neg c4, if_neg c5, if_pos c6, et0, et1]
    rw [if_pos c6, show w32 ((p : Int) + 1) = ((p + 1 : Nat) : Int) from w32p (k := 1) hp96 (by decide)]
    refine l_num (q := 1) (m := 1) hL hok (by decide) (by decide) (fun k hk => by rw [es]; omega) (b_Lt_tell_167 hX ?_)
    rw [show w32 ((p : Int) + 2) = ((p + 2 : Nat) : Int) from w32p (k := 2) hp96 (by decide)]
    refine l_num (q := 2) (m := 1) hL hok (by decide) (by decide) (fun k hk => by rw [es]; omega) (b_Lt_tell_175 hX ?_)
    exact s_changeSeats i17 hT w (fun a b c d e σ' g1 g2 => b_Lt_tell_178 hX ⟨Or.inr rfl, h1 _ (by rw [ep, if_pos ⟨⟨a, b⟩, ⟨c, d⟩, e⟩]) σ' g1 g2⟩) (fun z => b_Lt_tell_178 hX ⟨Or.inl rfl, h0 (by rw [ep, if_neg z])⟩)
  exfalso
  refine hne ?_
  unfold szF
  rw [if_neg c1, if_neg c2, if_neg c3, if_neg c4, if_neg c5, if_neg c6]
end TL
