/-! The model's image, and the commands that keep one. -/
section FO
variable {d : Nat} {σ : Sto} {Q : PQ} {S : AS} {T : Tab}
theorem kof_le {k k' : Nat} (h : k' < k) (h7 : k ≤ 7) : kof k' + tl k' ≤ kof k := by
  unfold kof tl
  repeat (first | omega | split)
theorem kof_s {k : Nat} (h7 : k < 7) : kof (k + 1) = kof k + tl k := by
  unfold kof tl
  repeat (first | omega | split)
theorem kof_b {k : Nat} (h7 : k < 11) : kof k + (if k < 7 then tl k else 1) ≤ 51 := by
  unfold kof tl
  repeat (first | omega | split)
theorem tl_A {k : Nat} (h7 : k < 7) : isA (40 + k) (tl k) := by
  unfold isA tl
  split <;> omega
/-- an array is kept -/
theorem m_passK {a al c : Nat} (ha : isA a al) (hk : σ 39 21 = 1) (hc : σ 39 22 = (c : Int)) (hl : c + al ≤ 110)
    (h : ∀ σ', (∀ j, j < al → σ' 52 (c + j) = σ a j) → (∀ i, (i < c ∨ c + al ≤ i) → σ' 52 i = σ 52 i) → σ' 39 22 = ((c + al : Nat) : Int) → (∀ x, x ≠ 39 → x ≠ 52 → σ' x = σ x) → (∀ j, j ≠ 22 → σ' 39 j = σ 39 j) → Q none σ') : P (d + 1) 135 [vR 39, vR a] σ Q := by
  have ha' : 40 ≤ a ∧ a ≤ 46 ∧ al ≤ 7 := by unfold isA at ha; omega
  refine e_Mo_passes fun X hX => b_Mo_passes_0 hX ha ?_
  refine upto (p := fun i => ∀ σi : Sto, (∀ j, j < i → σi 52 (c + j) = σ a j) → (∀ k, (k < c ∨ c + i ≤ k) → σi 52 k = σ 52 k) → σi 39 22 = ((c + i : Nat) : Int) → (∀ x, x ≠ 39 → x ≠ 52 → σi x = σ x) → (∀ j, j ≠ 22 → σi 39 j = σ 39 j) → X 2 [some (vR 39), some (vR a), some (vI (i : Int))] [] σi) al (fun i hi ih => ?_) ?_ σ (fun j hj => absurd hj (Nat.not_lt_zero j)) (fun _ _ => rfl) hc (fun _ _ _ => rfl) (fun _ _ => rfl)
  · intro σi h1 h2 h3 h4 h5
    refine b_Mo_passes_2 hX ha ?_
    rw [if_pos (show (i : Int) < Int.ofNat al from Int.ofNat_lt.mpr hi), h5 21 (by decide), hk, if_neg (by decide), h3]
    refine ⟨by omega, by omega, ?_⟩
    rw [Int.toNat_natCast, Int.toNat_natCast, w32_s i (by omega), w32_s (c + i) (by omega)]
    refine ih _ (fun j hj => ?_) (fun k hk => ?_) ?_ (fun x h39 h52 => by rw [sup_fr h39, sup_fr h52]; exact h4 x h39 h52) (fun j hj => by rw [sup_i hj, sup_fr (by decide)]; exact h5 j hj)
    · rw [sup_fr (by decide)]
      by_cases e : j = i
      · subst e; rw [sup_e, h4 a (by omega) (by omega)]
      · rw [sup_i (by omega)]; exact h1 j (by omega)
    · rw [sup_fr (by decide), sup_i (by omega)]; exact h2 k (by omega)
    · rw [sup_e, Nat.add_assoc]
  · intro σi h1 h2 h3 h4 h5
    refine b_Mo_passes_2 hX ha ?_
    rw [if_neg (show ¬ (al : Int) < Int.ofNat al from Int.lt_irrefl _)]
    exact h σi h1 h2 h3 h4 h5
/-- an array is put back -/
theorem m_passB {a al c : Nat} (ha : isA a al) (hk : σ 39 21 = 0) (hc : σ 39 22 = (c : Int)) (hl : c + al ≤ 110)
    (h : ∀ σ', (∀ j, j < al → σ' a j = σ 52 (c + j)) → σ' 39 22 = ((c + al : Nat) : Int) → (∀ x, x ≠ 39 → x ≠ a → σ' x = σ x) → (∀ j, j ≠ 22 → σ' 39 j = σ 39 j) → Q none σ') : P (d + 1) 135 [vR 39, vR a] σ Q := by
  have ha' : 40 ≤ a ∧ a ≤ 46 ∧ al ≤ 7 := by unfold isA at ha; omega
  refine e_Mo_passes fun X hX => b_Mo_passes_0 hX ha ?_
  refine upto (p := fun i => ∀ σi : Sto, (∀ j, j < i → σi a j = σ 52 (c + j)) → σi 39 22 = ((c + i : Nat) : Int) → (∀ x, x ≠ 39 → x ≠ a → σi x = σ x) → (∀ j, j ≠ 22 → σi 39 j = σ 39 j) → X 2 [some (vR 39), some (vR a), some (vI (i : Int))] [] σi) al (fun i hi ih => ?_) ?_ σ (fun j hj => absurd hj (Nat.not_lt_zero j)) hc (fun _ _ _ => rfl) (fun _ _ => rfl)
  · intro σi h1 h3 h4 h5
    refine b_Mo_passes_2 hX ha ?_
    rw [if_pos (show (i : Int) < Int.ofNat al from Int.ofNat_lt.mpr hi), h5 21 (by decide), hk, if_pos rfl, h3]
    refine ⟨by omega, by omega, ?_⟩
    rw [Int.toNat_natCast, Int.toNat_natCast, w32_s i (by omega), sup_fr (c := a) (c' := 39) (by omega), h3, w32_s (c + i) (by omega)]
    refine ih _ (fun j hj => ?_) ?_ (fun x h39 ha2 => by rw [sup_fr h39, sup_fr ha2]; exact h4 x h39 ha2) (fun j hj => by rw [sup_i hj, sup_fr (by omega)]; exact h5 j hj)
    · rw [sup_fr (by omega)]
      by_cases e : j = i
      · subst e; rw [sup_e, h4 52 (by omega) (by omega)]
      · rw [sup_i (by omega)]; exact h1 j (by omega)
    · rw [sup_e, Nat.add_assoc]
  · intro σi h1 h3 h4 h5
    refine b_Mo_passes_2 hX ha ?_
    rw [if_neg (show ¬ (al : Int) < Int.ofNat al from Int.lt_irrefl _)]
    exact h σi h1 h3 h4 h5
/-- all is kept in the half at b -/
theorem m_keep {b : Nat} (hb : b ≤ 1) (h : ∀ σ', tbK σ' (55 * b) = tb σ 39 → tb σ' 39 = tb σ 39 → (∀ i, (i < 55 * b ∨ 55 * b + 51 ≤ i) → σ' 52 i = σ 52 i) → (∀ x, x ≠ 39 → x ≠ 52 → σ' x = σ x) → (∀ j, j ≠ 21 → j ≠ 22 → σ' 39 j = σ 39 j) → Q none σ') : P (d + 2) 137 [vR 39, vI (b : Int), vI 1] σ Q := by
  refine e_Mo_passesAll fun X hX => b_Mo_passesAll_0 hX ?_
  refine ⟨Or.inr rfl, ?_⟩
  let I : Nat → Sto → Prop := fun k σi => (∀ k', k' < k → k' < 7 → ∀ j, j < tl k' → σi 52 (55 * b + kof k' + j) = σ (40 + k') j) ∧ (∀ k', k' < k → 7 ≤ k' → σi 52 (55 * b + kof k') = σ 39 k') ∧ (∀ i, (i < 55 * b ∨ 55 * b + 51 ≤ i) → σi 52 i = σ 52 i) ∧ σi 39 22 = ((55 * b + kof k : Nat) : Int) ∧ (∀ x, x ≠ 39 → x ≠ 52 → σi x = σ x) ∧ (∀ j, j ≠ 21 → j ≠ 22 → σi 39 j = σ 39 j) ∧ σi 39 21 = 1
  have stepA : ∀ (k : Nat) (Q' : PQ) (σi : Sto), k < 7 → I k σi → (∀ σ', I (k + 1) σ' → Q' none σ') → P (d + 1) 135 [vR 39, vR (40 + k)] σi Q' := by
    intro k Q' σi hk ⟨i1, i2, i3, i4, i5, i6, i7⟩ g
    have hb2 := kof_b (k := k) (by omega)
    rw [if_pos hk] at hb2
    refine m_passK (tl_A hk) i7 i4 (by omega) (fun σ' g1 g2 g3 g4 g5 => g σ' ⟨fun k' h1 h2 j hj => ?_, fun k' h1 h2 => by omega, fun i hi => ?_, ?_, fun x a c => (g4 x a c).trans (i5 x a c), fun j a c => (g5 j c).trans (i6 j a c), (g5 21 (by decide)).trans i7⟩)
    · by_cases e : k' = k
      · subst e; rw [g1 j hj, i5 _ (by omega) (by omega)]
      · have := kof_le (k := k) (k' := k') (by omega) (by omega)
        rw [g2 _ (by omega)]; exact i1 k' (by omega) h2 j hj
    · rw [g2 i (by omega)]; exact i3 i hi
    · rw [g3, kof_s hk, Nat.add_assoc]
  have stepO : ∀ (k : Nat) (Q' : PQ) (σi : Sto), 7 ≤ k → k < 11 → I k σi → (∀ σ', I (k + 1) σ' → Q' (some (vI (σ 39 k))) σ') → P (d + 1) 136 [vR 39, vI (σi 39 k)] σi Q' := by
    intro k Q' σi h7 hk ⟨i1, i2, i3, i4, i5, i6, i7⟩ g
    have e1 : kof k = 40 + k := by unfold kof; rw [if_neg (by omega), if_neg (by omega)]
    have e2 : kof (k + 1) = 40 + k + 1 := by unfold kof; rw [if_neg (by omega), if_neg (by omega)]; omega
    refine e_Mo_passOne fun X2 hX2 => b_Mo_passOne_0 hX2 ?_
    rw [i7, if_neg (by decide), i4, i6 k (by omega) (by omega)]
    refine ⟨by omega, ?_⟩
    rw [Int.toNat_natCast, w32_s _ (by omega)]
    refine g _ ⟨fun k' h1 h2 j hj => ?_, fun k' h1 h2 => ?_, fun i hi => ?_, ?_, fun x a c => by rw [sup_fr a, sup_fr c]; exact i5 x a c, fun j a c => by rw [sup_i c, sup_fr (by decide)]; exact i6 j a c, by rw [sup_i (by decide), sup_fr (by decide)]; exact i7⟩
    · have := kof_le (k := 7) (k' := k') h2 (by omega)
      have e7 : kof 7 = 47 := rfl
      rw [sup_fr (by decide), sup_i (by omega)]; exact i1 k' (by omega) h2 j hj
    · have e3 : kof k' = 40 + k' := by unfold kof; rw [if_neg (by omega), if_neg (by omega)]
      rw [sup_fr (by decide)]
      by_cases e : k' = k
      · subst e; rw [sup_e]
      · rw [sup_i (by omega)]; exact i2 k' (by omega) h2
    · rw [sup_fr (by decide), sup_i (by omega)]; exact i3 i hi
    · rw [sup_e, e1, e2]; rfl
  have same : ∀ (k : Nat) (σi : Sto), I k σi → ∀ (i : Nat) (v : Int), i < 11 → v = σ 39 i → I k (sup σi 39 i v) := by
    intro k σi ⟨i1, i2, i3, i4, i5, i6, i7⟩ i v hi hv
    refine ⟨fun k' h1 h2 j hj => by rw [sup_fr (by decide)]; exact i1 k' h1 h2 j hj, fun k' h1 h2 => by rw [sup_fr (by decide)]; exact i2 k' h1 h2, fun i hi => by rw [sup_fr (by decide)]; exact i3 i hi, by rw [sup_i (by omega)]; exact i4, fun x a c => by rw [sup_fr a]; exact i5 x a c, fun j a c => ?_, by rw [sup_i (by omega)]; exact i7⟩
    by_cases e : j = i
    · subst e; rw [sup_e]; exact hv
    · rw [sup_i e]; exact i6 j a c
  have I0 : I 0 (sup (sup σ 39 22 (w32 (55 * (b : Int)))) 39 21 1) := by
    refine ⟨fun k' h1 => by omega, fun k' h1 => by omega, fun i hi => by rw [sup_fr (by decide), sup_fr (by decide)], ?_, fun x a c => by rw [sup_fr a, sup_fr a], fun j a c => by rw [sup_i a, sup_i c], by rw [sup_e]⟩
    rw [sup_i (by decide), sup_e, w32_id (by omega) (by omega)]
    show 55 * (b : Int) = ((55 * b + 0 : Nat) : Int)
    omega
  refine stepA 0 _ _ (by decide) I0 (fun σ1 I1 => b_Mo_passesAll_21 hX ?_)
  refine stepA 1 _ _ (by decide) I1 (fun σ2 I2 => b_Mo_passesAll_29 hX ?_)
  refine stepA 2 _ _ (by decide) I2 (fun σ3 I3 => b_Mo_passesAll_37 hX ?_)
  refine stepA 3 _ _ (by decide) I3 (fun σ4 I4 => b_Mo_passesAll_45 hX ?_)
  refine stepA 4 _ _ (by decide) I4 (fun σ5 I5 => b_Mo_passesAll_53 hX ?_)
  refine stepA 5 _ _ (by decide) I5 (fun σ6 I6 => b_Mo_passesAll_61 hX ?_)
  refine stepA 6 _ _ (by decide) I6 (fun σ7 I7 => b_Mo_passesAll_69 hX ?_)
  refine stepO 7 _ _ (by decide) (by decide) I7 (fun σ8 I8 => b_Mo_passesAll_78 hX ?_)
  have J8 := same 8 σ8 I8 7 (σ 39 7) (by decide) rfl
  have f8 : σ8 39 8 = sup σ8 39 7 (σ 39 7) 39 8 := by rw [sup_i (by decide)]
  rw [f8]
  refine stepO 8 _ _ (by decide) (by decide) J8 (fun σ9 I9 => b_Mo_passesAll_90 hX ?_)
  have J9 := same 9 σ9 I9 8 (σ 39 8) (by decide) rfl
  have f9 : σ9 39 9 = sup σ9 39 8 (σ 39 8) 39 9 := by rw [sup_i (by decide)]
  rw [f9]
  refine stepO 9 _ _ (by decide) (by decide) J9 (fun σ10 I10 => b_Mo_passesAll_102 hX ?_)
  have J10 := same 10 σ10 I10 9 (σ 39 9) (by decide) rfl
  have f10 : σ10 39 10 = sup σ10 39 9 (σ 39 9) 39 10 := by rw [sup_i (by decide)]
  rw [f10]
  refine stepO 10 _ _ (by decide) (by decide) J10 (fun σ11 I11 => b_Mo_passesAll_114 hX ?_)
  obtain ⟨i1, i2, i3, i4, i5, i6, i7⟩ := same 11 σ11 I11 10 (σ 39 10) (by decide) rfl
  refine h _ ?_ ?_ i3 i5 i6
  · funext k j
    simp only [tbK, tb]
    by_cases h1 : k < 7
    · simp only [if_pos h1]
      by_cases h2 : j < tl k
      · rw [if_pos h2, if_pos h2, i1 k (by omega) h1 j h2, show 39 + 1 + k = 40 + k by omega]
      · rw [if_neg h2, if_neg h2]
    · simp only [if_neg h1]
      by_cases h2 : k < 11
      · simp only [if_pos h2]
        rw [i2 k h2 (by omega)]
      · simp only [if_neg h2]
  · funext k j
    simp only [tb]
    by_cases h1 : k < 7
    · simp only [if_pos h1, i5 (39 + 1 + k) (by omega) (by omega)]
    · simp only [if_neg h1]
      by_cases h2 : k < 11
      · simp only [if_pos h2, i6 k (by omega) (by omega)]
      · simp only [if_neg h2]
/-- all is put back from the half at b -/
theorem m_putback {b : Nat} (hb : b ≤ 1) (h : ∀ σ', tb σ' 39 = tbK σ (55 * b) → (∀ c, out 39 c → σ' c = σ c) → (∀ j, 11 ≤ j → j ≠ 21 → j ≠ 22 → σ' 39 j = σ 39 j) → Q none σ') : P (d + 2) 137 [vR 39, vI (b : Int), vI 0] σ Q := by
  refine e_Mo_passesAll fun X hX => b_Mo_passesAll_0 hX ?_
  refine ⟨Or.inl rfl, ?_⟩
  let I : Nat → Sto → Prop := fun k σi => (∀ k', k' < k → k' < 7 → ∀ j, j < tl k' → σi (40 + k') j = σ 52 (55 * b + kof k' + j)) ∧ σi 39 22 = ((55 * b + kof k : Nat) : Int) ∧ (∀ c, out 39 c → σi c = σ c) ∧ (∀ j, 11 ≤ j → j ≠ 21 → j ≠ 22 → σi 39 j = σ 39 j) ∧ σi 39 21 = 0
  have stepA : ∀ (k : Nat) (Q' : PQ) (σi : Sto), k < 7 → I k σi → (∀ σ', I (k + 1) σ' → Q' none σ') → P (d + 1) 135 [vR 39, vR (40 + k)] σi Q' := by
    intro k Q' σi hk ⟨i1, i4, i5, i6, i7⟩ g
    have hb2 := kof_b (k := k) (by omega)
    rw [if_pos hk] at hb2
    refine m_passB (tl_A hk) i7 i4 (by omega) (fun σ' g1 g3 g4 g5 => g σ' ⟨fun k' h1 h2 j hj => ?_, ?_, fun c hc => (g4 c (by unfold out at hc; omega) (by unfold out at hc; omega)).trans (i5 c hc), fun j a c e => (g5 j e).trans (i6 j a c e), (g5 21 (by decide)).trans i7⟩)
    · by_cases e : k' = k
      · subst e; rw [g1 j hj, i5 52 (Or.inr (by decide))]
      · rw [g4 _ (by omega) (by omega)]; exact i1 k' (by omega) h2 j hj
    · rw [g3, kof_s hk, Nat.add_assoc]
  have stepO : ∀ (k : Nat) (v : Int) (Q' : PQ) (σi : Sto), 7 ≤ k → k < 11 → I k σi → (∀ σ', I (k + 1) σ' → (∀ j, j < 11 → σ' 39 j = σi 39 j) → Q' (some (vI (σ 52 (55 * b + kof k)))) σ') → P (d + 1) 136 [vR 39, vI v] σi Q' := by
    intro k v Q' σi h7 hk ⟨i1, i4, i5, i6, i7⟩ g
    have e1 : kof k = 40 + k := by unfold kof; rw [if_neg (by omega), if_neg (by omega)]
    have e2 : kof (k + 1) = 40 + k + 1 := by unfold kof; rw [if_neg (by omega), if_neg (by omega)]; omega
    refine e_Mo_passOne fun X2 hX2 => b_Mo_passOne_0 hX2 ?_
    rw [i7, if_pos rfl, i4]
    refine ⟨by omega, ?_⟩
    rw [Int.toNat_natCast, w32_s _ (by omega), i5 52 (Or.inr (by decide))]
    refine g _ ⟨fun k' h1 h2 j hj => by rw [sup_fr (by omega)]; exact i1 k' (by omega) h2 j hj, ?_, fun c hc => by rw [sup_fr (by unfold out at hc; omega)]; exact i5 c hc, fun j a c e => by rw [sup_i e]; exact i6 j a c e, by rw [sup_i (by decide)]; exact i7⟩ (fun j hj => sup_i (by omega))
    rw [sup_e, e1, e2]; rfl
  have same : ∀ (k : Nat) (σi : Sto), I k σi → ∀ (i : Nat) (v : Int), i < 11 → I k (sup σi 39 i v) := by
    intro k σi ⟨i1, i4, i5, i6, i7⟩ i v hi
    exact ⟨fun k' h1 h2 j hj => by rw [sup_fr (by omega)]; exact i1 k' h1 h2 j hj, by rw [sup_i (by omega)]; exact i4, fun c hc => by rw [sup_fr (by unfold out at hc; omega)]; exact i5 c hc, fun j a c e => by rw [sup_i (by omega)]; exact i6 j a c e, by rw [sup_i (by omega)]; exact i7⟩
  have I0 : I 0 (sup (sup σ 39 22 (w32 (55 * (b : Int)))) 39 21 0) := by
    refine ⟨fun k' h1 => by omega, ?_, fun c hc => by rw [sup_fr (by unfold out at hc; omega), sup_fr (by unfold out at hc; omega)], fun j a c e => by rw [sup_i c, sup_i e], by rw [sup_e]⟩
    rw [sup_i (by decide), sup_e, w32_id (by omega) (by omega)]
    show 55 * (b : Int) = ((55 * b + 0 : Nat) : Int)
    omega
  refine stepA 0 _ _ (by decide) I0 (fun σ1 I1 => b_Mo_passesAll_21 hX ?_)
  refine stepA 1 _ _ (by decide) I1 (fun σ2 I2 => b_Mo_passesAll_29 hX ?_)
  refine stepA 2 _ _ (by decide) I2 (fun σ3 I3 => b_Mo_passesAll_37 hX ?_)
  refine stepA 3 _ _ (by decide) I3 (fun σ4 I4 => b_Mo_passesAll_45 hX ?_)
  refine stepA 4 _ _ (by decide) I4 (fun σ5 I5 => b_Mo_passesAll_53 hX ?_)
  refine stepA 5 _ _ (by decide) I5 (fun σ6 I6 => b_Mo_passesAll_61 hX ?_)
  refine stepA 6 _ _ (by decide) I6 (fun σ7 I7 => b_Mo_passesAll_69 hX ?_)
  refine stepO 7 _ _ _ (by decide) (by decide) I7 (fun σ8 I8 _ => b_Mo_passesAll_78 hX ?_)
  refine stepO 8 _ _ _ (by decide) (by decide) (same 8 σ8 I8 7 _ (by decide)) (fun σ9 I9 q9 => b_Mo_passesAll_90 hX ?_)
  refine stepO 9 _ _ _ (by decide) (by decide) (same 9 σ9 I9 8 _ (by decide)) (fun σ10 I10 q10 => b_Mo_passesAll_102 hX ?_)
  refine stepO 10 _ _ _ (by decide) (by decide) (same 10 σ10 I10 9 _ (by decide)) (fun σ11 I11 q11 => b_Mo_passesAll_114 hX ?_)
  obtain ⟨i1, i4, i5, i6, i7⟩ := same 11 σ11 I11 10 (σ 52 (55 * b + kof 10)) (by decide)
  refine h _ ?_ i5 i6
  funext k j
  simp only [tbK, tb]
  by_cases h1 : k < 7
  · simp only [if_pos h1]
    by_cases h2 : j < tl k
    · rw [if_pos h2, if_pos h2, show 39 + 1 + k = 40 + k by omega, i1 k (by omega) h1 j h2]
    · rw [if_neg h2, if_neg h2]
  · simp only [if_neg h1]
    by_cases h2 : k < 11
    · simp only [if_pos h2]
      by_cases h3 : j = 0
      · rw [if_pos h3, if_pos h3]
        rcases (show k = 7 ∨ k = 8 ∨ k = 9 ∨ k = 10 by omega) with rfl | rfl | rfl | rfl
        · rw [sup_i (by decide), q11 7 (by decide), sup_i (by decide), q10 7 (by decide), sup_i (by decide), q9 7 (by decide), sup_e]
        · rw [sup_i (by decide), q11 8 (by decide), sup_i (by decide), q10 8 (by decide), sup_e]
        · rw [sup_i (by decide), q11 9 (by decide), sup_e]
        · rw [sup_e]
      · rw [if_neg h3, if_neg h3]
    · simp only [if_neg h2]
theorem y_image (hS : MS σ S) (h : ∀ σ', MS σ' (cImage S).2 → MG σ σ' → Q (some (vI (cImage S).1)) σ') : P (d + 8) 138 [vR 39] σ Q := by
  refine e_Mo_image fun X hX => b_Mo_image_0 hX ?_
  refine m_keep (b := 0) (by decide) (fun σ1 g1 g2 g3 g4 g5 => b_Mo_image_11 hX ?_)
  obtain ⟨h1, h2, h3, h4, h5, h6, h7, h8⟩ := hS
  have hT0 : tb (sup σ 39 20 1) 39 = S.T := (tb_own (by omega)).trans h1
  have hT1 : tb σ1 39 = S.T := g2.trans hT0
  rw [show σ1 39 7 = S.T 7 0 from b7 hT1]
  refine h σ1 ⟨hT1, ?_, ?_, ?_, ?_, ?_, ?_, fun _ => g1.trans hT0⟩ (fun c hc => by rw [g4 c (by omega) (by omega), sup_fr (by omega)])
  · rw [g5 16 (by decide) (by decide), sup_i (by decide)]; exact h2
  · rw [g4 48 (by decide) (by decide), sup_fr (by decide)]; exact h3
  · rw [g5 33 (by decide) (by decide), sup_i (by decide)]; exact h4
  · rw [g4 58 (by decide) (by decide), sup_fr (by decide)]; exact h5
  · rw [g4 47 (by decide) (by decide), sup_fr (by decide)]; exact h6
  · rw [g5 20 (by decide) (by decide), sup_e]; rfl
theorem y_on (hS : MS σ S) (w : WS S) (h : ∀ σ', MS σ' (cOn S).2 → MG σ σ' → Q (some (vI (cOn S).1)) σ') : P (d + 8) 139 [vR 39] σ Q := by
  unfold cOn at h
  refine e_Mo_on fun X hX => b_Mo_on_0 hX ?_
  rw [hS.2.2.2.2.2.2.1]
  by_cases c : S.k = 0
  · rw [if_pos c] at h ⊢
    exact m_no hS (by decide) (fun σ' a b => b_Mo_on_13 hX (h σ' a b))
  rw [if_neg c] at h ⊢
  have k1 : S.k = 1 := w.2.2.2.2.1.resolve_left c
  refine m_putback (b := 0) (by decide) (fun σ1 g1 g2 g3 => b_Mo_on_20 hX ?_)
  obtain ⟨h1, h2, h3, h4, h5, h6, h7, h8⟩ := hS
  have hT1 : tb σ1 39 = S.K := g1.trans (h8 k1)
  rw [show σ1 39 7 = S.K 7 0 from b7 hT1]
  refine h σ1 ⟨hT1, ?_, ?_, ?_, ?_, ?_, ?_, fun z => ?_⟩ (MG_o g2)
  · rw [g3 16 (by decide) (by decide) (by decide)]; exact h2
  · rw [g2 48 (Or.inr (by decide))]; exact h3
  · rw [g3 33 (by decide) (by decide) (by decide)]; exact h4
  · rw [g2 58 (Or.inr (by decide))]; exact h5
  · rw [g2 47 (Or.inr (by decide))]; exact h6
  · rw [g3 20 (by decide) (by decide) (by decide)]; exact h7
  · exact Eq.trans (by unfold tbK; rw [g2 52 (Or.inr (by decide))]) (h8 z)
end FO
