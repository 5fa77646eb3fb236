/-! The shares: the pure words and the class's side. -/
def sS (f : Nat → Int) (S : Nat) (G : Nat) : Int := sm (fun g => if S.testBit g = true then f g else 0) G
def mx (c : Nat → Int) (S : Nat) : Nat → Int
  | 0 => 0
  | g + 1 => if S.testBit g = true then max (mx c S g) (c (S ^^^ 2 ^ g)) else mx c S g
def cc (f : Nat → Int) (G : Nat) : Nat → Nat → Int
  | 0, _ => 0
  | n + 1, S => if S = 0 then 0 else mx (cc f G n) S G + (if sS f S G = 0 then 1 else 0)
def CC (f : Nat → Int) (G S : Nat) : Int := cc f G S S
theorem mx_congr {c c' : Nat → Int} {S : Nat} : ∀ {n : Nat}, (∀ g, g < n → S.testBit g = true → c (S ^^^ 2 ^ g) = c' (S ^^^ 2 ^ g)) → mx c S n = mx c' S n
  | 0, _ => rfl
  | n + 1, h => by
    show (if S.testBit n = true then max (mx c S n) (c (S ^^^ 2 ^ n)) else mx c S n) = if S.testBit n = true then max (mx c' S n) (c' (S ^^^ 2 ^ n)) else mx c' S n
    rw [mx_congr (fun g hg hb => h g (by omega) hb)]
    by_cases b : S.testBit n = true
    · rw [if_pos b, if_pos b, h n (by omega) b]
    · rw [if_neg b, if_neg b]
theorem xor_less : ∀ S, S < 64 → ∀ g, g < 6 → S.testBit g = true → S ^^^ 2 ^ g < S := by decide +kernel
theorem cc_fuel {f : Nat → Int} {G : Nat} (hG : G ≤ 6) : ∀ n S, n < 64 → S ≤ n → cc f G n S = CC f G S := by
  intro n
  induction n using Nat.strongRecOn with
  | ind n ih =>
    intro S hn hS
    match n, S with
    | 0, 0 => rfl
    | 0, s + 1 => omega
    | n + 1, 0 => rfl
    | n + 1, s + 1 =>
      show (if s + 1 = 0 then 0 else mx (cc f G n) (s + 1) G + (if sS f (s + 1) G = 0 then 1 else 0)) = if s + 1 = 0 then 0 else mx (cc f G s) (s + 1) G + (if sS f (s + 1) G = 0 then 1 else 0)
      rw [if_neg (show ¬ s + 1 = 0 by omega), if_neg (show ¬ s + 1 = 0 by omega)]
      congr 1
      refine mx_congr (fun g hg hb => ?_)
      have h1 := xor_less (s + 1) (by omega) g (by omega) hb
      rw [ih n (by omega) _ (by omega) (by omega), ih s (by omega) _ (by omega) (by omega)]
theorem CC_eq {f : Nat → Int} {G S : Nat} (hG : G ≤ 6) (hS : S < 64) (h0 : S ≠ 0) : CC f G S = mx (CC f G) S G + (if sS f S G = 0 then 1 else 0) := by
  cases S with
  | zero => exact absurd rfl h0
  | succ s =>
    show (if s + 1 = 0 then 0 else mx (cc f G s) (s + 1) G + (if sS f (s + 1) G = 0 then 1 else 0)) = _
    rw [if_neg (by omega)]
    congr 1
    refine mx_congr (fun g hg hb => ?_)
    have h1 := xor_less (s + 1) hS g (by omega) hb
    exact cc_fuel hG s _ (by omega) (by omega)
theorem mx_b {c : Nat → Int} {S : Nat} {B : Int} (hB : 0 ≤ B) : ∀ {n : Nat}, (∀ g, g < n → S.testBit g = true → c (S ^^^ 2 ^ g) ≤ B) → 0 ≤ mx c S n ∧ mx c S n ≤ B
  | 0, _ => ⟨Int.le_refl 0, hB⟩
  | n + 1, h => by
    have ih := mx_b hB (n := n) (fun g hg hb => h g (by omega) hb)
    show 0 ≤ (if S.testBit n = true then max (mx c S n) (c (S ^^^ 2 ^ n)) else mx c S n) ∧ (if S.testBit n = true then max (mx c S n) (c (S ^^^ 2 ^ n)) else mx c S n) ≤ B
    by_cases b : S.testBit n = true
    · rw [if_pos b]
      have := h n (by omega) b
      omega
    · rw [if_neg b]; exact ih
theorem CC_b {f : Nat → Int} {G : Nat} (hG : G ≤ 6) : ∀ S, S < 64 → 0 ≤ CC f G S ∧ CC f G S ≤ S := by
  intro S
  induction S using Nat.strongRecOn with
  | ind S ih =>
    intro hS
    by_cases h0 : S = 0
    · subst h0; exact ⟨Int.le_refl 0, Int.le_refl 0⟩
    · rw [CC_eq hG hS h0]
      have := mx_b (c := CC f G) (S := S) (B := (S : Int) - 1) (by omega) (n := G) (fun g hg hb => by
        have h1 := xor_less S hS g (by omega) hb
        have := (ih _ h1 (by omega)).2
        omega)
      split <;> omega
theorem sS_b {f : Nat → Int} {S : Nat} (hf : ∀ g, g < 6 → -1000 ≤ f g ∧ f g ≤ 1000) : ∀ n, n ≤ 6 → -1000 * n ≤ sS f S n ∧ sS f S n ≤ 1000 * n
  | 0, _ => by simp [sS, sm]
  | n + 1, hn => by
    have ih := sS_b (S := S) hf n (by omega)
    have h1 := hf n (by omega)
    show _ ≤ sS f S n + (if S.testBit n = true then f n else 0) ∧ sS f S n + (if S.testBit n = true then f n else 0) ≤ _
    split <;> omega
def ovF (T : Tab) (g : Nat) : Int := bilG T (evg T 0) g - (bilA T (evg T 0)).tdiv (gN T) - (if (g : Int) < (bilA T (evg T 0)).tmod (gN T) then 1 else 0)
def cPay (S : AS) : Int := if gN S.T = 0 then 0 else (gN S.T : Int) - CC (ovF S.T) (gN S.T) (2 ^ gN S.T - 1)
section SY
variable {d : Nat} {σ : Sto} {Q : PQ} {S : AS} {T : Tab}
theorem bilA_b {E : Tab} (w : WT T) : 0 ≤ bilA T E ∧ bilA T E ≤ 126 := by
  rw [bilA_all w]
  exact bilT_b w (fun r => opF E 60 r ≠ -9) (WT_r w).2
theorem ovF_b (w : WT T) (h1 : 1 ≤ gN T) (g : Nat) : -1000 ≤ ovF T g ∧ ovF T g ≤ 1000 := by
  have b1 : 0 ≤ bilG T (evg T 0) g ∧ bilG T (evg T 0) g ≤ 126 := bilG_b w _ (WT_r w).2
  have b2 := bilA_b (E := evg T 0) w
  have b3 := tdiv_b b2.1 (show 1 ≤ (gN T : Int) by omega)
  unfold ovF
  split <;> omega
theorem s_over (hV : EVX σ T (evg T 0)) (w : WT T) (h1 : 1 ≤ gN T) (h : ∀ σ', (∀ g, g < gN T → σ' 37 g = ovF T g) → (∀ c, c ≠ 37 → σ' c = σ c) → Q none σ') : P (d + 5) 56 [vR 36, vI (gN T : Int), vR 25] σ Q := by
  have hG := WT_g w
  have b2 := bilA_b (E := evg T 0) w
  have b3 := tdiv_b b2.1 (show 1 ≤ (gN T : Int) by omega)
  refine e_Sh_findWhoIsOver fun X hX => b_Sh_findWhoIsOver_0 hX ?_
  refine s_Ewhole w hV (b_Sh_findWhoIsOver_4 hX ?_)
  refine ⟨by omega, ?_⟩
  refine upto (p := fun i => ∀ σi : Sto, (∀ g, g < i → σi 37 g = ovF T g) → (∀ c, c ≠ 37 → σi c = σ c) → X 13 [some (vR 36), some (vI (gN T : Int)), some (vR 25), some (vI (bilA T (evg T 0))), some (vI ((bilA T (evg T 0)).tmod (gN T))), some (vI (i : Int))] [] σi) (gN T) (fun i hi ih => ?_) ?_ σ (fun g hg => absurd hg (by omega)) (fun _ _ => rfl)
  · intro σi k1 k2
    have b1 : 0 ≤ bilG T (evg T 0) i ∧ bilG T (evg T 0) i ≤ 126 := bilG_b w _ (WT_r w).2
    have hVi : EVX σi T (evg T 0) := by
      refine ⟨(tb_same (fun c a b j => by rw [k2 c (by omega)])).trans hV.1, EX_same hV.2.1 (k2 26 (by decide)) (k2 28 (by decide)) (k2 29 (by decide)) (k2 30 (by decide)), fun j hj => by rw [k2 27 (by decide)]; exact hV.2.2.1 j hj, hV.2.2.2⟩
    refine b_Sh_findWhoIsOver_13 hX ?_
    rw [if_pos (by omega)]
    refine s_Ebill w hVi (b_Sh_findWhoIsOver_31 hX ?_)
    refine ⟨by omega, ?_⟩
    have fin : ∀ v, v = ovF T i → X 13 [some (vR 36), some (vI (gN T : Int)), some (vR 25), some (vI (bilA T (evg T 0))), some (vI ((bilA T (evg T 0)).tmod (gN T))), some (vI ((i + 1 : Nat) : Int))] [] (sup σi 37 i v) := by
      intro v hv
      refine ih _ (fun g hg => ?_) (fun c hc => by rw [sup_fr hc]; exact k2 c hc)
      by_cases e : g = i
      · subst e; rw [sup_e]; exact hv
      · rw [sup_i e]; exact k1 g (by omega)
    have eo : ovF T i = bilG T (evg T 0) i - (bilA T (evg T 0)).tdiv (gN T) - (if (i : Int) < (bilA T (evg T 0)).tmod (gN T) then 1 else 0) := rfl
    rw [Int.toNat_natCast, w32_s i (by omega), w32_id (x := (bilA T (evg T 0)).tdiv (gN T)) (by omega) (by omega), w32_id (x := bilG T (evg T 0) i - (bilA T (evg T 0)).tdiv (gN T)) (by omega) (by omega), w32_id (by omega) (by omega), w32_id (by omega) (by omega)]
    by_cases c : (i : Int) < (bilA T (evg T 0)).tmod (gN T)
    · rw [if_pos c]
      rw [if_pos c] at eo
      exact ⟨by omega, fin _ eo.symm⟩
    · rw [if_neg c]
      rw [if_neg c] at eo
      exact ⟨by omega, fin _ eo.symm⟩
  · intro σi k1 k2
    refine b_Sh_findWhoIsOver_13 hX ?_
    rw [if_neg (by omega)]
    exact h σi k1 k2
theorem s_most {f : Nat → Int} {G A : Nat} (hG : G ≤ 6) (hA : A < 64) (h0 : A ≠ 0) (hf : ∀ g, g < 6 → -1000 ≤ f g ∧ f g ≤ 1000) (h37 : ∀ g, g < G → σ 37 g = f g) (h38 : ∀ B, B < A → σ 38 B = CC f G B) (h : Q (some (vI (CC f G A))) σ) : P (d + 1) 57 [vR 36, vI (A : Int), vI (G : Int)] σ Q := by
  refine e_Sh_mostGroups fun X hX => b_Sh_mostGroups_0 hX ?_
  have hcb := CC_b (f := f) hG
  have mb : ∀ n, n ≤ G → 0 ≤ mx (CC f G) A n ∧ mx (CC f G) A n ≤ 64 := fun n hn => mx_b (by decide) (fun g hg hb => by
    have h1 := xor_less A hA g (by omega) hb
    have := (hcb _ (by omega : A ^^^ 2 ^ g < 64)).2
    omega)
  refine upto (p := fun i => X 8 [some (vR 36), some (vI (A : Int)), some (vI (G : Int)), some (vI (mx (CC f G) A i)), some (vI (sS f A i)), some (vI (i : Int))] [] σ) G (fun i hi ih => ?_) ?_
  · refine b_Sh_mostGroups_8 hX ?_
    have e1 : mx (CC f G) A (i + 1) = if A.testBit i = true then max (mx (CC f G) A i) (CC f G (A ^^^ 2 ^ i)) else mx (CC f G) A i := rfl
    have e2 : sS f A (i + 1) = sS f A i + (if A.testBit i = true then f i else 0) := rfl
    have hp : 2 ^ i < 2147483648 := Nat.pow_lt_pow_right (a := 2) (m := i) (n := 31) (by decide) (by omega)
    have hsb := sS_b (S := A) hf i (by omega)
    have hfi := hf i (by omega)
    rw [e1, e2] at ih
    rw [if_pos (by omega), bit_nn (by omega) (by omega), ishl_1 (by omega), ixor_nn (by omega) hp, w32_s i (by omega)]
    cases hb : A.testBit i with
    | true =>
      have h1 := xor_less A hA i (by omega) hb
      rw [hb, if_pos rfl, if_pos rfl] at ih
      rw [if_pos rfl, if_pos rfl]
      refine ⟨by omega, by omega, ?_⟩
      rw [Int.toNat_natCast, Int.toNat_natCast, h37 i hi, h38 _ h1, w32_id (by omega) (by omega)]
      exact ih
    | false =>
      rw [hb, if_neg (by decide), if_neg (by decide), Int.add_zero] at ih
      rw [if_neg (show ¬ (if false = true then (1 : Int) else 0) = 1 by decide)]
      exact ih
  · refine b_Sh_mostGroups_8 hX ?_
    have m6 := mb G (Nat.le_refl _)
    rw [CC_eq hG hA h0] at h
    rw [if_neg (by omega)]
    by_cases c : sS f A G = 0
    · rw [if_pos c] at h ⊢
      rw [w32_id (by omega) (by omega)]; exact h
    · rw [if_neg c] at h ⊢
      rw [w32_id (by omega) (by omega)]; exact h
theorem x_payments (hS : XS σ S) (w : WS S) (h : ∀ σ', XS σ' S → XF σ σ' → Q (some (vI (cPay S))) σ') : P (d + 8) 97 [vR 0] σ Q := by
  have hG := WT_g w.1
  unfold cPay at h
  refine e_X_payments fun X hX => b_X_payments_0 hX ?_
  refine x_eve hS.1 w.1 (fun σ1 hV f => b_X_payments_15 hX ?_)
  have hS1 := XS_FX hS f
  rw [b7 hS.1, hG.1]
  refine e_Sh_fewestPayments fun X2 hX2 => b_Sh_fewestPayments_0 hX2 ?_
  by_cases c0 : gN S.T = 0
  · rw [if_pos c0] at h
    rw [if_pos (by omega)]
    exact b_X_payments_18 hX (h σ1 hS1 (XF_FX f))
  rw [if_neg c0] at h
  rw [if_neg (by omega), if_neg (by omega)]
  refine s_over hV w.1 (by omega) (fun σ2 g1 g2 => b_Sh_fewestPayments_19 hX2 ?_)
  have hp : 2 ^ gN S.T ≤ 2 ^ 6 := Nat.pow_le_pow_right (by decide) hG.2
  have hp1 : 2 ^ 1 ≤ 2 ^ gN S.T := Nat.pow_le_pow_right (by decide) (by omega)
  have hf : ∀ g, g < 6 → -1000 ≤ ovF S.T g ∧ ovF S.T g ≤ 1000 := fun g _ => ovF_b w.1 (by omega) g
  have hcb := CC_b (f := ovF S.T) hG.2
  refine upto (p := fun i => ∀ σi : Sto, (∀ B, B < i + 1 → σi 38 B = CC (ovF S.T) (gN S.T) B) → (∀ c, c ≠ 38 → σi c = σ2 c) → X2 21 [some (vR 36), some (vI (gN S.T : Int)), none, some (vI ((i + 1 : Nat) : Int))] [] σi) (2 ^ gN S.T - 1) (fun i hi ih => ?_) ?_ σ2 (fun B hB => ?_) (fun _ _ => rfl)
  · intro σi k1 k2
    refine b_Sh_fewestPayments_21 hX2 ?_
    rw [ishl_1 (by omega), if_pos (by omega)]
    refine s_most (f := ovF S.T) hG.2 (by omega) (by omega) hf (fun g hg => by rw [k2 37 (by decide)]; exact g1 g hg) k1 (b_Sh_fewestPayments_39 hX2 ?_)
    refine ⟨by omega, ?_⟩
    rw [Int.toNat_natCast, w32_s (i + 1) (by omega)]
    refine ih _ (fun B hB => ?_) (fun c hc => by rw [sup_fr hc]; exact k2 c hc)
    by_cases e : B = i + 1
    · subst e; rw [sup_e]
    · rw [sup_i e]; exact k1 B (by omega)
  · intro σi k1 k2
    refine b_Sh_fewestPayments_21 hX2 ?_
    rw [ishl_1 (by omega), if_neg (by omega), w32_id (x := ((2 ^ gN S.T : Nat) : Int) - 1) (by omega) (by omega)]
    refine ⟨by omega, b_X_payments_18 hX ?_⟩
    have hb := hcb (2 ^ gN S.T - 1) (by omega)
    rw [show (((2 ^ gN S.T : Nat) : Int) - 1).toNat = 2 ^ gN S.T - 1 by omega, k1 _ (by omega), w32_id (by omega) (by omega)]
    have e38 : σi 38 0 = 0 := k1 0 (by omega)
    have fr : ∀ c, c ≠ 37 → c ≠ 38 → σi c = σ1 c := fun c a b => (k2 c b).trans (g2 c a)
    obtain ⟨h1, h2, h3, h4, h5, h6, h7, h8, h9⟩ := hS1
    refine h σi ⟨(tb_same (fun c a b j => by rw [fr c (by omega) (by omega)])).trans h1, ?_, ?_, ?_, ?_, ?_, ?_, fun z => (tb_same (fun c a b j => by rw [fr c (by omega) (by omega)])).trans (h8 z), e38⟩ (fun c hc => by rw [fr c (by omega) (by omega), f c (by omega)])
    · rw [fr 32 (by decide) (by decide)]; exact h2
    · rw [fr 33 (by decide) (by decide)]; exact h3
    · rw [fr 0 (by decide) (by decide)]; exact h4
    · rw [fr 34 (by decide) (by decide)]; exact h5
    · rw [fr 35 (by decide) (by decide)]; exact h6
    · rw [fr 0 (by decide) (by decide)]; exact h7
  · rw [show B = 0 by omega, g2 38 (by decide)]
    exact hS1.2.2.2.2.2.2.2.2
end SY
