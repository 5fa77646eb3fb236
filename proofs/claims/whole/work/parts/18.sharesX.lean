/-! Haggling, shares, and the class's private helpers. -/
section SX
variable {d : Nat} {σ : Sto} {Q : PQ} {T : Tab}
theorem brB_b (w : WT T) (a : Nat) : brB T a < 128 := mk_lt2 (k := 7) (WT_r w).2
theorem s_haggle (hT : tb σ 1 = T) (w : WT T) {a b : Nat} (ha : a < gN T) (hb : b < gN T) (h : ∀ σ', FX σ σ' → Q (some (vI (hgF T a b))) σ') : P (d + 7) 68 [vR 31, vR 1, vI (a : Int), vI (b : Int)] σ Q := by
  have hA := brB_b w a
  have hB := brB_b w b
  refine e_Tr_firstSettledPair fun X hX => b_Tr_firstSettledPair_0 hX ?_
  refine cp17 (fun σ1 h1 f1 => b_Tr_firstSettledPair_8 hX ?_)
  rw [hT] at h1
  refine s_broughtBy (Or.inl rfl) ((FX_T f1).trans hT) w (b_Tr_firstSettledPair_13 hX ?_)
  refine s_broughtBy (Or.inl rfl) ((FX_T f1).trans hT) w (b_Tr_firstSettledPair_20 hX ?_)
  show X 25 [some (vR 31), none, some (vI (a : Int)), some (vI (b : Int)), some (vI ((brB T a : Nat) : Int)), some (vI ((brB T b : Nat) : Int)), some (vI 0), none, none, none, none, none, none] [] σ1
  have go : ∀ (k : Nat) (x7 x8 x9 x10 : Int) (n7 n8 n9 n10 : Nat), x7 = (n7 : Int) → x8 = (n8 : Int) → x9 = (n9 : Int) → x10 = (n10 : Int) → n7 < 2 ^ 7 → n8 < 2 ^ 7 → n9 < 2 ^ 7 → n10 < 2 ^ 7 →
      hgM T a b k = n7 ||| n8 → hgM T a b (k ^^^ 2) = n9 ||| n8 → hgM T a b (k ^^^ 1) = n7 ||| n10 → ∀ σi, tb σi 17 = T → FX σ σi →
      (hgR T a b k = true → ∀ σ', FX σ σ' → Q (some (vI (w32 ((w32 (10 * (ishr (k : Int) 1))) + (iand (k : Int) 1))))) σ') →
      (hgR T a b k = false → ∀ σ', tb σ' 17 = T → FX σ σ' → X 25 [some (vR 31), none, some (vI (a : Int)), some (vI (b : Int)), some (vI ((brB T a : Nat) : Int)), some (vI ((brB T b : Nat) : Int)), some (vI (w32 ((k : Int) + 1))), none, none, none, none, none, none] [] σ') →
      P (d + 6) 69 [vR 31, vI (a : Int), vI (ior x7 x8)] σi (fun r σ' => X 85 [some (vR 31), none, some (vI (a : Int)), some (vI (b : Int)), some (vI ((brB T a : Nat) : Int)), some (vI ((brB T b : Nat) : Int)), some (vI (k : Int)), some (vI x7), some (vI x8), some (vI x9), some (vI x10), none, none] (psh r []) σ') := by
    intro k x7 x8 x9 x10 n7 n8 n9 n10 e7 e8 e9 e10 l7 l8 l9 l10 m0 m2 m1 σi hi fi hy hn
    subst e7; subst e8; subst e9; subst e10
    have o78 := Nat.or_lt_two_pow l7 l8
    have o98 := Nat.or_lt_two_pow l9 l8
    have o70 := Nat.or_lt_two_pow l7 l10
    rw [ior_nn (by omega) (by omega)]
    refine s_worth hi w ha o78 (fun σ2 h2 f2 => b_Tr_firstSettledPair_85 hX ?_)
    rw [ior_nn (by omega) (by omega)]
    refine s_worth h2 w ha o98 (fun σ3 h3 f3 => b_Tr_firstSettledPair_95 hX ?_)
    rw [ior_nn (by omega) (by omega), ← m0, ← m2]
    by_cases c1 : wor T a (hgM T a b k) < wor T a (hgM T a b (k ^^^ 2))
    · rw [if_pos c1]
      refine s_worth h3 w hb (by rw [m0]; exact o78) (fun σ4 h4 f4 => b_Tr_firstSettledPair_115 hX ?_)
      rw [ior_nn (by omega) (by omega)]
      refine s_worth h4 w hb o70 (fun σ5 h5 f5 => b_Tr_firstSettledPair_125 hX ?_)
      have fin := hn (by unfold hgR; rw [decide_eq_false (by omega)]; rfl) σ5 h5 (FX_tr fi (EF_X (EF_tr (EF_tr (EF_tr f2 f3) f4) f5)))
      rw [if_pos rfl]
      split <;> exact fin
    · rw [if_neg c1]
      refine s_worth h3 w hb (by rw [m0]; exact o78) (fun σ4 h4 f4 => b_Tr_firstSettledPair_115 hX ?_)
      rw [ior_nn (by omega) (by omega)]
      refine s_worth h4 w hb o70 (fun σ5 h5 f5 => b_Tr_firstSettledPair_125 hX ?_)
      rw [← m1]
      have f6 := FX_tr fi (EF_X (EF_tr (EF_tr (EF_tr f2 f3) f4) f5))
      by_cases c2 : wor T b (hgM T a b k) < wor T b (hgM T a b (k ^^^ 1))
      · have fin := hn (by unfold hgR; rw [decide_eq_false (p := wor T b _ ≤ _) (by omega), Bool.and_false]) σ5 h5 f6
        rw [if_pos c2, if_neg (by decide)]
        exact fin
      · rw [if_neg c2, if_neg (by decide)]
        exact hy (by unfold hgR; rw [decide_eq_true (by omega), decide_eq_true (by omega)]; rfl) σ5 f6
  have eA : ixor ((brB T a : Nat) : Int) 0 = (brB T a : Int) := by
    rw [show (0 : Int) = ((0 : Nat) : Int) from rfl, ixor_nn (by omega) (by omega), Nat.xor_zero]
  have eB : ixor ((brB T b : Nat) : Int) 0 = (brB T b : Int) := by
    rw [show (0 : Int) = ((0 : Nat) : Int) from rfl, ixor_nn (by omega) (by omega), Nat.xor_zero]
  have eAA : ixor ((brB T a : Nat) : Int) (brB T a : Int) = ((0 : Nat) : Int) := by rw [ixor_nn (by omega) (by omega), Nat.xor_self]
  have eBB : ixor ((brB T b : Nat) : Int) (brB T b : Int) = ((0 : Nat) : Int) := by rw [ixor_nn (by omega) (by omega), Nat.xor_self]
  refine b_Tr_firstSettledPair_25 hX ?_
  rw [if_pos (by decide), if_pos (by decide), if_neg (by decide +kernel)]
  refine go 0 0 0 _ _ 0 0 (brB T a) (brB T b) rfl rfl eA eB (by decide) (by decide) hA hB rfl rfl rfl σ1 h1 f1 ?_ ?_
  · intro c σ2 f2
    have := h σ2 f2
    unfold hgF at this
    rw [if_pos c] at this
    rw [show w32 ((w32 (10 * (ishr ((0 : Nat) : Int) 1))) + (iand ((0 : Nat) : Int) 1)) = 0 from by decide +kernel]
    exact this
  intro c0 σ2 h2 f2
  refine b_Tr_firstSettledPair_25 hX ?_
  rw [if_pos (by decide), if_pos (by decide), if_pos (by decide +kernel)]
  refine go 1 0 _ _ _ 0 (brB T b) (brB T a) 0 rfl rfl eA eBB (by decide) hB hA (by decide) rfl rfl rfl σ2 h2 f2 ?_ ?_
  · intro c σ2 f2
    have := h σ2 f2
    unfold hgF at this
    rw [if_neg (by rw [c0]; decide), if_pos c] at this
    rw [show w32 ((w32 (10 * (ishr ((1 : Nat) : Int) 1))) + (iand ((1 : Nat) : Int) 1)) = 1 from by decide +kernel]
    exact this
  intro c1 σ3 h3 f3
  refine b_Tr_firstSettledPair_25 hX ?_
  rw [if_pos (by decide), if_neg (by decide), if_neg (by decide +kernel)]
  refine go 2 _ 0 _ _ (brB T a) 0 0 (brB T b) rfl rfl eAA eB hA (by decide) (by decide) hB rfl rfl rfl σ3 h3 f3 ?_ ?_
  · intro c σ2 f2
    have := h σ2 f2
    unfold hgF at this
    rw [if_neg (by rw [c0]; decide), if_neg (by rw [c1]; decide), if_pos c] at this
    rw [show w32 ((w32 (10 * (ishr ((2 : Nat) : Int) 1))) + (iand ((2 : Nat) : Int) 1)) = 10 from by decide +kernel]
    exact this
  intro c2 σ4 h4 f4
  refine b_Tr_firstSettledPair_25 hX ?_
  rw [if_pos (by decide), if_neg (by decide), if_pos (by decide +kernel)]
  refine go 3 _ _ _ _ (brB T a) (brB T b) 0 0 rfl rfl eAA eBB hA hB (by decide) (by decide) rfl rfl rfl σ4 h4 f4 ?_ ?_
  · intro c σ2 f2
    have := h σ2 f2
    unfold hgF at this
    rw [if_neg (by rw [c0]; decide), if_neg (by rw [c1]; decide), if_neg (by rw [c2]; decide), if_pos c] at this
    rw [show w32 ((w32 (10 * (ishr ((3 : Nat) : Int) 1))) + (iand ((3 : Nat) : Int) 1)) = 11 from by decide +kernel]
    exact this
  intro c3 σ5 h5 f5
  refine b_Tr_firstSettledPair_25 hX ?_
  rw [if_neg (by decide)]
  have := h σ5 f5
  unfold hgF at this
  rw [if_neg (by rw [c0]; decide), if_neg (by rw [c1]; decide), if_neg (by rw [c2]; decide), if_neg (by rw [c3]; decide)] at this
  exact this
end SX
