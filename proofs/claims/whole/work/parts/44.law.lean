/-! The law: call by call both sides stand for the same, and answer the same. -/
def LI (xs : Nat → Int) (S : AS) (σ : Sto) : Prop := XS σ S ∧ MS σ S ∧ WS S ∧ σ 63 = xs
theorem lcm3_self (a : Int) : lcm3 a a = 0 := by
  unfold lcm3
  rw [if_neg (Int.lt_irrefl a), if_pos rfl]
theorem ite_c {c A B : Prop} [Decidable c] (f : A) (g : B) : if c then A else B := by
  by_cases h : c
  · rw [if_pos h]; exact f
  · rw [if_neg h]; exact g
section LW
variable {d n i : Nat} {Q : PQ} {X : Nat → Lo → List AV → Sto → Prop} {xs : Nat → Int} {S : AS} {σ : Sto}
theorem lc_0 (hX : Cl clsNo (P (d + 8)) (some n) cd_law Q X) (hi : i + 4 ≤ n) (hn : n ≤ 2048) (hI : LI xs S σ) (nx : ∀ S' σ', LI xs S' σ' → X 18 [some (vR 63), some (vR 0), some (vR 39), some (vI (w32 ((i : Int) + 4)))] [] σ') : (0 ≤ (w32 ((i : Int) + 1)) ∧ (w32 ((i : Int) + 1)) < (n : Nat)) ∧ (P (d + 8) 72 [vR 0, vI (σ 63 (w32 ((i : Int) + 1)).toNat)] σ (fun r σ' => X 193 [some (vR 63), some (vR 0), some (vR 39), some (vI (i : Int))] (psh r []) σ')) := by
  obtain ⟨hS, hM, w, h63⟩ := hI
  have g1 : 0 ≤ (w32 ((i : Int) + 1)) ∧ (w32 ((i : Int) + 1)) < (n : Nat) := by unfold w32; omega
  refine ⟨g1, x_letter hS w (fun σ1 h1 f1 => b_law_193 hX ?_)⟩
  have g63 : σ1 63 = σ 63 := f1 63 (by decide)
  rw [g63]
  refine ⟨g1, y_letter (MS_XF hM f1) w (fun σ2 h2 f2 => b_law_202 hX ?_)⟩
  rw [if_pos rfl]
  exact nx _ σ2 ⟨XS_MG h1 f2, h2, (W_letter w _), ((f2 63 (Or.inr rfl)).trans g63).trans h63⟩
theorem lc_1 (hX : Cl clsNo (P (d + 8)) (some n) cd_law Q X) (hi : i + 4 ≤ n) (hn : n ≤ 2048) (hI : LI xs S σ) (nx : ∀ S' σ', LI xs S' σ' → X 18 [some (vR 63), some (vR 0), some (vR 39), some (vI (w32 ((i : Int) + 4)))] [] σ') : P (d + 8) 73 [vR 0] σ (fun r σ' => X 211 [some (vR 63), some (vR 0), some (vR 39), some (vI (i : Int))] (psh r []) σ') := by
  obtain ⟨hS, hM, w, h63⟩ := hI
  refine x_table hS w (fun σ1 h1 f1 => b_law_211 hX ?_)
  have g63 : σ1 63 = σ 63 := f1 63 (by decide)
  refine y_table (MS_XF hM f1) w (fun σ2 h2 f2 => b_law_215 hX ?_)
  rw [if_pos rfl]
  exact nx _ σ2 ⟨XS_MG h1 f2, h2, (W_table w), ((f2 63 (Or.inr rfl)).trans g63).trans h63⟩
theorem lc_2 (hX : Cl clsNo (P (d + 8)) (some n) cd_law Q X) (hi : i + 4 ≤ n) (hn : n ≤ 2048) (hI : LI xs S σ) (nx : ∀ S' σ', LI xs S' σ' → X 18 [some (vR 63), some (vR 0), some (vR 39), some (vI (w32 ((i : Int) + 4)))] [] σ') : (0 ≤ (w32 ((i : Int) + 1)) ∧ (w32 ((i : Int) + 1)) < (n : Nat)) ∧ ((0 ≤ (w32 ((i : Int) + 2)) ∧ (w32 ((i : Int) + 2)) < (n : Nat)) ∧ (P (d + 8) 74 [vR 0, vI (σ 63 (w32 ((i : Int) + 1)).toNat), vI (σ 63 (w32 ((i : Int) + 2)).toNat)] σ (fun r σ' => X 234 [some (vR 63), some (vR 0), some (vR 39), some (vI (i : Int))] (psh r []) σ'))) := by
  obtain ⟨hS, hM, w, h63⟩ := hI
  have g1 : 0 ≤ (w32 ((i : Int) + 1)) ∧ (w32 ((i : Int) + 1)) < (n : Nat) := by unfold w32; omega
  have g2 : 0 ≤ (w32 ((i : Int) + 2)) ∧ (w32 ((i : Int) + 2)) < (n : Nat) := by unfold w32; omega
  refine ⟨g1, g2, x_guest hS w (fun σ1 h1 f1 => b_law_234 hX ?_)⟩
  have g63 : σ1 63 = σ 63 := f1 63 (by decide)
  rw [g63]
  refine ⟨g1, g2, y_guest (MS_XF hM f1) w (fun σ2 h2 f2 => b_law_248 hX ?_)⟩
  rw [if_pos rfl]
  exact nx _ σ2 ⟨XS_MG h1 f2, h2, (W_guest w _ _), ((f2 63 (Or.inr rfl)).trans g63).trans h63⟩
theorem lc_3 (hX : Cl clsNo (P (d + 8)) (some n) cd_law Q X) (hi : i + 4 ≤ n) (hn : n ≤ 2048) (hI : LI xs S σ) (nx : ∀ S' σ', LI xs S' σ' → X 18 [some (vR 63), some (vR 0), some (vR 39), some (vI (w32 ((i : Int) + 4)))] [] σ') : (0 ≤ (w32 ((i : Int) + 1)) ∧ (w32 ((i : Int) + 1)) < (n : Nat)) ∧ ((0 ≤ (w32 ((i : Int) + 2)) ∧ (w32 ((i : Int) + 2)) < (n : Nat)) ∧ (P (d + 8) 75 [vR 0, vI (σ 63 (w32 ((i : Int) + 1)).toNat), vI (σ 63 (w32 ((i : Int) + 2)).toNat)] σ (fun r σ' => X 267 [some (vR 63), some (vR 0), some (vR 39), some (vI (i : Int))] (psh r []) σ'))) := by
  obtain ⟨hS, hM, w, h63⟩ := hI
  have g1 : 0 ≤ (w32 ((i : Int) + 1)) ∧ (w32 ((i : Int) + 1)) < (n : Nat) := by unfold w32; omega
  have g2 : 0 ≤ (w32 ((i : Int) + 2)) ∧ (w32 ((i : Int) + 2)) < (n : Nat) := by unfold w32; omega
  refine ⟨g1, g2, x_remark hS w (fun σ1 h1 f1 => b_law_267 hX ?_)⟩
  have g63 : σ1 63 = σ 63 := f1 63 (by decide)
  rw [g63]
  refine ⟨g1, g2, y_remark (MS_XF hM f1) w (fun σ2 h2 f2 => b_law_281 hX ?_)⟩
  rw [if_pos rfl]
  exact nx _ σ2 ⟨XS_MG h1 f2, h2, (W_remark w _ _), ((f2 63 (Or.inr rfl)).trans g63).trans h63⟩
theorem lc_4 (hX : Cl clsNo (P (d + 8)) (some n) cd_law Q X) (hi : i + 4 ≤ n) (hn : n ≤ 2048) (hI : LI xs S σ) (nx : ∀ S' σ', LI xs S' σ' → X 18 [some (vR 63), some (vR 0), some (vR 39), some (vI (w32 ((i : Int) + 4)))] [] σ') : (0 ≤ (w32 ((i : Int) + 1)) ∧ (w32 ((i : Int) + 1)) < (n : Nat)) ∧ ((0 ≤ (w32 ((i : Int) + 2)) ∧ (w32 ((i : Int) + 2)) < (n : Nat)) ∧ (P (d + 8) 76 [vR 0, vI (σ 63 (w32 ((i : Int) + 1)).toNat), vI (σ 63 (w32 ((i : Int) + 2)).toNat)] σ (fun r σ' => X 300 [some (vR 63), some (vR 0), some (vR 39), some (vI (i : Int))] (psh r []) σ'))) := by
  obtain ⟨hS, hM, w, h63⟩ := hI
  have g1 : 0 ≤ (w32 ((i : Int) + 1)) ∧ (w32 ((i : Int) + 1)) < (n : Nat) := by unfold w32; omega
  have g2 : 0 ≤ (w32 ((i : Int) + 2)) ∧ (w32 ((i : Int) + 2)) < (n : Nat) := by unfold w32; omega
  refine ⟨g1, g2, x_ready hS w (fun σ1 h1 f1 => b_law_300 hX ?_)⟩
  have g63 : σ1 63 = σ 63 := f1 63 (by decide)
  rw [g63]
  refine ⟨g1, g2, y_ready (MS_XF hM f1) w (fun σ2 h2 f2 => b_law_314 hX ?_)⟩
  rw [if_pos rfl]
  exact nx _ σ2 ⟨XS_MG h1 f2, h2, (W_ready w _ _), ((f2 63 (Or.inr rfl)).trans g63).trans h63⟩
theorem lc_5 (hX : Cl clsNo (P (d + 8)) (some n) cd_law Q X) (hi : i + 4 ≤ n) (hn : n ≤ 2048) (hI : LI xs S σ) (nx : ∀ S' σ', LI xs S' σ' → X 18 [some (vR 63), some (vR 0), some (vR 39), some (vI (w32 ((i : Int) + 4)))] [] σ') : (0 ≤ (w32 ((i : Int) + 1)) ∧ (w32 ((i : Int) + 1)) < (n : Nat)) ∧ ((0 ≤ (w32 ((i : Int) + 2)) ∧ (w32 ((i : Int) + 2)) < (n : Nat)) ∧ (P (d + 8) 77 [vR 0, vI (σ 63 (w32 ((i : Int) + 1)).toNat), vI (σ 63 (w32 ((i : Int) + 2)).toNat)] σ (fun r σ' => X 333 [some (vR 63), some (vR 0), some (vR 39), some (vI (i : Int))] (psh r []) σ'))) := by
  obtain ⟨hS, hM, w, h63⟩ := hI
  have g1 : 0 ≤ (w32 ((i : Int) + 1)) ∧ (w32 ((i : Int) + 1)) < (n : Nat) := by unfold w32; omega
  have g2 : 0 ≤ (w32 ((i : Int) + 2)) ∧ (w32 ((i : Int) + 2)) < (n : Nat) := by unfold w32; omega
  refine ⟨g1, g2, x_mood hS w (fun σ1 h1 f1 => b_law_333 hX ?_)⟩
  have g63 : σ1 63 = σ 63 := f1 63 (by decide)
  rw [g63]
  refine ⟨g1, g2, y_mood (MS_XF hM f1) w (fun σ2 h2 f2 => b_law_347 hX ?_)⟩
  rw [if_pos rfl]
  exact nx _ σ2 ⟨XS_MG h1 f2, h2, (W_mood w _ _), ((f2 63 (Or.inr rfl)).trans g63).trans h63⟩
theorem lc_6 (hX : Cl clsNo (P (d + 8)) (some n) cd_law Q X) (hi : i + 4 ≤ n) (hn : n ≤ 2048) (hI : LI xs S σ) (nx : ∀ S' σ', LI xs S' σ' → X 18 [some (vR 63), some (vR 0), some (vR 39), some (vI (w32 ((i : Int) + 4)))] [] σ') : (0 ≤ (w32 ((i : Int) + 1)) ∧ (w32 ((i : Int) + 1)) < (n : Nat)) ∧ ((0 ≤ (w32 ((i : Int) + 2)) ∧ (w32 ((i : Int) + 2)) < (n : Nat)) ∧ (P (d + 8) 78 [vR 0, vI (σ 63 (w32 ((i : Int) + 1)).toNat), vI (σ 63 (w32 ((i : Int) + 2)).toNat)] σ (fun r σ' => X 366 [some (vR 63), some (vR 0), some (vR 39), some (vI (i : Int))] (psh r []) σ'))) := by
  obtain ⟨hS, hM, w, h63⟩ := hI
  have g1 : 0 ≤ (w32 ((i : Int) + 1)) ∧ (w32 ((i : Int) + 1)) < (n : Nat) := by unfold w32; omega
  have g2 : 0 ≤ (w32 ((i : Int) + 2)) ∧ (w32 ((i : Int) + 2)) < (n : Nat) := by unfold w32; omega
  refine ⟨g1, g2, x_change hS w (fun σ1 h1 f1 => b_law_366 hX ?_)⟩
  have g63 : σ1 63 = σ 63 := f1 63 (by decide)
  rw [g63]
  refine ⟨g1, g2, y_change (MS_XF hM f1) w (fun σ2 h2 f2 => b_law_380 hX ?_)⟩
  rw [if_pos rfl]
  exact nx _ σ2 ⟨XS_MG h1 f2, h2, (W_change w _ _), ((f2 63 (Or.inr rfl)).trans g63).trans h63⟩
theorem lc_7 (hX : Cl clsNo (P (d + 8)) (some n) cd_law Q X) (hi : i + 4 ≤ n) (hn : n ≤ 2048) (hI : LI xs S σ) (nx : ∀ S' σ', LI xs S' σ' → X 18 [some (vR 63), some (vR 0), some (vR 39), some (vI (w32 ((i : Int) + 4)))] [] σ') : (0 ≤ (w32 ((i : Int) + 1)) ∧ (w32 ((i : Int) + 1)) < (n : Nat)) ∧ ((0 ≤ (w32 ((i : Int) + 2)) ∧ (w32 ((i : Int) + 2)) < (n : Nat)) ∧ (P (d + 8) 79 [vR 0, vI (σ 63 (w32 ((i : Int) + 1)).toNat), vI (σ 63 (w32 ((i : Int) + 2)).toNat)] σ (fun r σ' => X 399 [some (vR 63), some (vR 0), some (vR 39), some (vI (i : Int))] (psh r []) σ'))) := by
  obtain ⟨hS, hM, w, h63⟩ := hI
  have g1 : 0 ≤ (w32 ((i : Int) + 1)) ∧ (w32 ((i : Int) + 1)) < (n : Nat) := by unfold w32; omega
  have g2 : 0 ≤ (w32 ((i : Int) + 2)) ∧ (w32 ((i : Int) + 2)) < (n : Nat) := by unfold w32; omega
  refine ⟨g1, g2, x_set hS w (fun σ1 h1 f1 => b_law_399 hX ?_)⟩
  have g63 : σ1 63 = σ 63 := f1 63 (by decide)
  rw [g63]
  refine ⟨g1, g2, y_set (MS_XF hM f1) w (fun σ2 h2 f2 => b_law_413 hX ?_)⟩
  rw [if_pos rfl]
  exact nx _ σ2 ⟨XS_MG h1 f2, h2, (W_set w _ _), ((f2 63 (Or.inr rfl)).trans g63).trans h63⟩
theorem lc_8 (hX : Cl clsNo (P (d + 8)) (some n) cd_law Q X) (hi : i + 4 ≤ n) (hn : n ≤ 2048) (hI : LI xs S σ) (nx : ∀ S' σ', LI xs S' σ' → X 18 [some (vR 63), some (vR 0), some (vR 39), some (vI (w32 ((i : Int) + 4)))] [] σ') : (0 ≤ (w32 ((i : Int) + 1)) ∧ (w32 ((i : Int) + 1)) < (n : Nat)) ∧ (P (d + 8) 80 [vR 0, vI (σ 63 (w32 ((i : Int) + 1)).toNat)] σ (fun r σ' => X 427 [some (vR 63), some (vR 0), some (vR 39), some (vI (i : Int))] (psh r []) σ')) := by
  obtain ⟨hS, hM, w, h63⟩ := hI
  have g1 : 0 ≤ (w32 ((i : Int) + 1)) ∧ (w32 ((i : Int) + 1)) < (n : Nat) := by unfold w32; omega
  refine ⟨g1, x_sums hS w (fun σ1 h1 f1 => b_law_427 hX ?_)⟩
  have g63 : σ1 63 = σ 63 := f1 63 (by decide)
  rw [g63]
  refine ⟨g1, y_sums (MS_XF hM f1) w (fun σ2 h2 f2 => b_law_436 hX ?_)⟩
  rw [if_pos rfl]
  exact nx _ σ2 ⟨XS_MG h1 f2, h2, (W_sums w _), ((f2 63 (Or.inr rfl)).trans g63).trans h63⟩
theorem lc_9 (hX : Cl clsNo (P (d + 8)) (some n) cd_law Q X) (hi : i + 4 ≤ n) (hn : n ≤ 2048) (hI : LI xs S σ) (nx : ∀ S' σ', LI xs S' σ' → X 18 [some (vR 63), some (vR 0), some (vR 39), some (vI (w32 ((i : Int) + 4)))] [] σ') : (0 ≤ (w32 ((i : Int) + 1)) ∧ (w32 ((i : Int) + 1)) < (n : Nat)) ∧ ((0 ≤ (w32 ((i : Int) + 2)) ∧ (w32 ((i : Int) + 2)) < (n : Nat)) ∧ (P (d + 8) 81 [vR 0, vI (σ 63 (w32 ((i : Int) + 1)).toNat), vI (σ 63 (w32 ((i : Int) + 2)).toNat)] σ (fun r σ' => X 455 [some (vR 63), some (vR 0), some (vR 39), some (vI (i : Int))] (psh r []) σ'))) := by
  obtain ⟨hS, hM, w, h63⟩ := hI
  have g1 : 0 ≤ (w32 ((i : Int) + 1)) ∧ (w32 ((i : Int) + 1)) < (n : Nat) := by unfold w32; omega
  have g2 : 0 ≤ (w32 ((i : Int) + 2)) ∧ (w32 ((i : Int) + 2)) < (n : Nat) := by unfold w32; omega
  refine ⟨g1, g2, x_of hS w (fun σ1 h1 f1 => b_law_455 hX ?_)⟩
  have g63 : σ1 63 = σ 63 := f1 63 (by decide)
  rw [g63]
  refine ⟨g1, g2, y_of (MS_XF hM f1) w (fun σ2 h2 f2 => b_law_469 hX ?_)⟩
  rw [if_pos rfl]
  exact nx _ σ2 ⟨XS_MG h1 f2, h2, (W_of w _ _), ((f2 63 (Or.inr rfl)).trans g63).trans h63⟩
theorem lc_10 (hX : Cl clsNo (P (d + 8)) (some n) cd_law Q X) (hi : i + 4 ≤ n) (hn : n ≤ 2048) (hI : LI xs S σ) (nx : ∀ S' σ', LI xs S' σ' → X 18 [some (vR 63), some (vR 0), some (vR 39), some (vI (w32 ((i : Int) + 4)))] [] σ') : (0 ≤ (w32 ((i : Int) + 1)) ∧ (w32 ((i : Int) + 1)) < (n : Nat)) ∧ ((0 ≤ (w32 ((i : Int) + 2)) ∧ (w32 ((i : Int) + 2)) < (n : Nat)) ∧ (P (d + 8) 82 [vR 0, vI (σ 63 (w32 ((i : Int) + 1)).toNat), vI (σ 63 (w32 ((i : Int) + 2)).toNat)] σ (fun r σ' => X 488 [some (vR 63), some (vR 0), some (vR 39), some (vI (i : Int))] (psh r []) σ'))) := by
  obtain ⟨hS, hM, w, h63⟩ := hI
  have g1 : 0 ≤ (w32 ((i : Int) + 1)) ∧ (w32 ((i : Int) + 1)) < (n : Nat) := by unfold w32; omega
  have g2 : 0 ≤ (w32 ((i : Int) + 2)) ∧ (w32 ((i : Int) + 2)) < (n : Nat) := by unfold w32; omega
  refine ⟨g1, g2, x_moodAt hS w (fun σ1 h1 f1 => b_law_488 hX ?_)⟩
  have g63 : σ1 63 = σ 63 := f1 63 (by decide)
  rw [g63]
  refine ⟨g1, g2, y_moodAt (MS_XF hM f1) w (fun σ2 h2 f2 => b_law_502 hX ?_)⟩
  rw [if_pos rfl]
  exact nx _ σ2 ⟨XS_MG h1 f2, h2, (W_moodAt w _ _), ((f2 63 (Or.inr rfl)).trans g63).trans h63⟩
theorem lc_11 (hX : Cl clsNo (P (d + 8)) (some n) cd_law Q X) (hi : i + 4 ≤ n) (hn : n ≤ 2048) (hI : LI xs S σ) (nx : ∀ S' σ', LI xs S' σ' → X 18 [some (vR 63), some (vR 0), some (vR 39), some (vI (w32 ((i : Int) + 4)))] [] σ') : (0 ≤ (w32 ((i : Int) + 1)) ∧ (w32 ((i : Int) + 1)) < (n : Nat)) ∧ (P (d + 8) 83 [vR 0, vI (σ 63 (w32 ((i : Int) + 1)).toNat)] σ (fun r σ' => X 516 [some (vR 63), some (vR 0), some (vR 39), some (vI (i : Int))] (psh r []) σ')) := by
  obtain ⟨hS, hM, w, h63⟩ := hI
  have g1 : 0 ≤ (w32 ((i : Int) + 1)) ∧ (w32 ((i : Int) + 1)) < (n : Nat) := by unfold w32; omega
  refine ⟨g1, x_bill hS w (fun σ1 h1 f1 => b_law_516 hX ?_)⟩
  have g63 : σ1 63 = σ 63 := f1 63 (by decide)
  rw [g63]
  refine ⟨g1, y_bill (MS_XF hM f1) w (fun σ2 h2 f2 => b_law_525 hX ?_)⟩
  rw [if_pos rfl]
  exact nx _ σ2 ⟨XS_MG h1 f2, h2, (W_bill w _), ((f2 63 (Or.inr rfl)).trans g63).trans h63⟩
theorem lc_12 (hX : Cl clsNo (P (d + 8)) (some n) cd_law Q X) (hi : i + 4 ≤ n) (hn : n ≤ 2048) (hI : LI xs S σ) (nx : ∀ S' σ', LI xs S' σ' → X 18 [some (vR 63), some (vR 0), some (vR 39), some (vI (w32 ((i : Int) + 4)))] [] σ') : (0 ≤ (w32 ((i : Int) + 1)) ∧ (w32 ((i : Int) + 1)) < (n : Nat)) ∧ (P (d + 8) 84 [vR 0, vI (σ 63 (w32 ((i : Int) + 1)).toNat)] σ (fun r σ' => X 539 [some (vR 63), some (vR 0), some (vR 39), some (vI (i : Int))] (psh r []) σ')) := by
  obtain ⟨hS, hM, w, h63⟩ := hI
  have g1 : 0 ≤ (w32 ((i : Int) + 1)) ∧ (w32 ((i : Int) + 1)) < (n : Nat) := by unfold w32; omega
  refine ⟨g1, x_without hS w (fun σ1 h1 f1 => b_law_539 hX ?_)⟩
  have g63 : σ1 63 = σ 63 := f1 63 (by decide)
  rw [g63]
  refine ⟨g1, y_without (MS_XF hM f1) w (fun σ2 h2 f2 => b_law_548 hX ?_)⟩
  rw [if_pos rfl]
  exact nx _ σ2 ⟨XS_MG h1 f2, h2, (W_without w _), ((f2 63 (Or.inr rfl)).trans g63).trans h63⟩
theorem lc_13 (hX : Cl clsNo (P (d + 8)) (some n) cd_law Q X) (hi : i + 4 ≤ n) (hn : n ≤ 2048) (hI : LI xs S σ) (nx : ∀ S' σ', LI xs S' σ' → X 18 [some (vR 63), some (vR 0), some (vR 39), some (vI (w32 ((i : Int) + 4)))] [] σ') : (0 ≤ (w32 ((i : Int) + 1)) ∧ (w32 ((i : Int) + 1)) < (n : Nat)) ∧ (P (d + 8) 85 [vR 0, vI (σ 63 (w32 ((i : Int) + 1)).toNat)] σ (fun r σ' => X 562 [some (vR 63), some (vR 0), some (vR 39), some (vI (i : Int))] (psh r []) σ')) := by
  obtain ⟨hS, hM, w, h63⟩ := hI
  have g1 : 0 ≤ (w32 ((i : Int) + 1)) ∧ (w32 ((i : Int) + 1)) < (n : Nat) := by unfold w32; omega
  refine ⟨g1, x_best hS w (fun σ1 h1 f1 => b_law_562 hX ?_)⟩
  have g63 : σ1 63 = σ 63 := f1 63 (by decide)
  rw [g63]
  refine ⟨g1, y_best (MS_XF hM f1) w (fun σ2 h2 f2 => b_law_571 hX ?_)⟩
  rw [if_pos rfl]
  exact nx _ σ2 ⟨XS_MG h1 f2, h2, (W_best w _), ((f2 63 (Or.inr rfl)).trans g63).trans h63⟩
theorem lc_14 (hX : Cl clsNo (P (d + 8)) (some n) cd_law Q X) (hi : i + 4 ≤ n) (hn : n ≤ 2048) (hI : LI xs S σ) (nx : ∀ S' σ', LI xs S' σ' → X 18 [some (vR 63), some (vR 0), some (vR 39), some (vI (w32 ((i : Int) + 4)))] [] σ') : P (d + 8) 86 [vR 0] σ (fun r σ' => X 580 [some (vR 63), some (vR 0), some (vR 39), some (vI (i : Int))] (psh r []) σ') := by
  obtain ⟨hS, hM, w, h63⟩ := hI
  refine x_enough hS w (fun σ1 h1 f1 => b_law_580 hX ?_)
  have g63 : σ1 63 = σ 63 := f1 63 (by decide)
  refine y_enough (MS_XF hM f1) w (fun σ2 h2 f2 => b_law_584 hX ?_)
  rw [if_pos rfl]
  exact nx _ σ2 ⟨XS_MG h1 f2, h2, w, ((f2 63 (Or.inr rfl)).trans g63).trans h63⟩
theorem lc_15 (hX : Cl clsNo (P (d + 8)) (some n) cd_law Q X) (hi : i + 4 ≤ n) (hn : n ≤ 2048) (hI : LI xs S σ) (nx : ∀ S' σ', LI xs S' σ' → X 18 [some (vR 63), some (vR 0), some (vR 39), some (vI (w32 ((i : Int) + 4)))] [] σ') : P (d + 8) 87 [vR 0] σ (fun r σ' => X 593 [some (vR 63), some (vR 0), some (vR 39), some (vI (i : Int))] (psh r []) σ') := by
  obtain ⟨hS, hM, w, h63⟩ := hI
  refine x_swap hS w (fun σ1 h1 f1 => b_law_593 hX ?_)
  have g63 : σ1 63 = σ 63 := f1 63 (by decide)
  refine y_swap (MS_XF hM f1) w (fun σ2 h2 f2 => b_law_597 hX ?_)
  rw [if_pos rfl]
  exact nx _ σ2 ⟨XS_MG h1 f2, h2, w, ((f2 63 (Or.inr rfl)).trans g63).trans h63⟩
theorem lc_16 (hX : Cl clsNo (P (d + 8)) (some n) cd_law Q X) (hi : i + 4 ≤ n) (hn : n ≤ 2048) (hI : LI xs S σ) (nx : ∀ S' σ', LI xs S' σ' → X 18 [some (vR 63), some (vR 0), some (vR 39), some (vI (w32 ((i : Int) + 4)))] [] σ') : P (d + 8) 88 [vR 0] σ (fun r σ' => X 606 [some (vR 63), some (vR 0), some (vR 39), some (vI (i : Int))] (psh r []) σ') := by
  obtain ⟨hS, hM, w, h63⟩ := hI
  refine x_fit hS w (fun σ1 h1 f1 => b_law_606 hX ?_)
  have g63 : σ1 63 = σ 63 := f1 63 (by decide)
  refine y_fit (MS_XF hM f1) w (fun σ2 h2 f2 => b_law_610 hX ?_)
  rw [if_pos rfl]
  exact nx _ σ2 ⟨XS_MG h1 f2, h2, w, ((f2 63 (Or.inr rfl)).trans g63).trans h63⟩
theorem lc_17 (hX : Cl clsNo (P (d + 8)) (some n) cd_law Q X) (hi : i + 4 ≤ n) (hn : n ≤ 2048) (hI : LI xs S σ) (nx : ∀ S' σ', LI xs S' σ' → X 18 [some (vR 63), some (vR 0), some (vR 39), some (vI (w32 ((i : Int) + 4)))] [] σ') : (0 ≤ (w32 ((i : Int) + 1)) ∧ (w32 ((i : Int) + 1)) < (n : Nat)) ∧ (P (d + 8) 89 [vR 0, vI (σ 63 (w32 ((i : Int) + 1)).toNat)] σ (fun r σ' => X 624 [some (vR 63), some (vR 0), some (vR 39), some (vI (i : Int))] (psh r []) σ')) := by
  obtain ⟨hS, hM, w, h63⟩ := hI
  have g1 : 0 ≤ (w32 ((i : Int) + 1)) ∧ (w32 ((i : Int) + 1)) < (n : Nat) := by unfold w32; omega
  refine ⟨g1, x_could hS w (fun σ1 h1 f1 => b_law_624 hX ?_)⟩
  have g63 : σ1 63 = σ 63 := f1 63 (by decide)
  rw [g63]
  refine ⟨g1, y_could (MS_XF hM f1) w (fun σ2 h2 f2 => b_law_633 hX ?_)⟩
  rw [if_pos rfl]
  exact nx _ σ2 ⟨XS_MG h1 f2, h2, (W_could w _), ((f2 63 (Or.inr rfl)).trans g63).trans h63⟩
theorem lc_18 (hX : Cl clsNo (P (d + 8)) (some n) cd_law Q X) (hi : i + 4 ≤ n) (hn : n ≤ 2048) (hI : LI xs S σ) (nx : ∀ S' σ', LI xs S' σ' → X 18 [some (vR 63), some (vR 0), some (vR 39), some (vI (w32 ((i : Int) + 4)))] [] σ') : P (d + 8) 90 [vR 0] σ (fun r σ' => X 642 [some (vR 63), some (vR 0), some (vR 39), some (vI (i : Int))] (psh r []) σ') := by
  obtain ⟨hS, hM, w, h63⟩ := hI
  refine x_dear hS w (fun σ1 h1 f1 => b_law_642 hX ?_)
  have g63 : σ1 63 = σ 63 := f1 63 (by decide)
  refine y_dear (MS_XF hM f1) w (fun σ2 h2 f2 => b_law_646 hX ?_)
  rw [if_pos rfl]
  exact nx _ σ2 ⟨XS_MG h1 f2, h2, w, ((f2 63 (Or.inr rfl)).trans g63).trans h63⟩
theorem lc_19 (hX : Cl clsNo (P (d + 8)) (some n) cd_law Q X) (hi : i + 4 ≤ n) (hn : n ≤ 2048) (hI : LI xs S σ) (nx : ∀ S' σ', LI xs S' σ' → X 18 [some (vR 63), some (vR 0), some (vR 39), some (vI (w32 ((i : Int) + 4)))] [] σ') : (0 ≤ (w32 ((i : Int) + 1)) ∧ (w32 ((i : Int) + 1)) < (n : Nat)) ∧ (P (d + 8) 91 [vR 0, vI (σ 63 (w32 ((i : Int) + 1)).toNat)] σ (fun r σ' => X 660 [some (vR 63), some (vR 0), some (vR 39), some (vI (i : Int))] (psh r []) σ')) := by
  obtain ⟨hS, hM, w, h63⟩ := hI
  have g1 : 0 ≤ (w32 ((i : Int) + 1)) ∧ (w32 ((i : Int) + 1)) < (n : Nat) := by unfold w32; omega
  refine ⟨g1, x_spare hS w (fun σ1 h1 f1 => b_law_660 hX ?_)⟩
  have g63 : σ1 63 = σ 63 := f1 63 (by decide)
  rw [g63]
  refine ⟨g1, y_spare (MS_XF hM f1) w (fun σ2 h2 f2 => b_law_669 hX ?_)⟩
  rw [if_pos rfl]
  exact nx _ σ2 ⟨XS_MG h1 f2, h2, (W_spare w _), ((f2 63 (Or.inr rfl)).trans g63).trans h63⟩
theorem lc_20 (hX : Cl clsNo (P (d + 8)) (some n) cd_law Q X) (hi : i + 4 ≤ n) (hn : n ≤ 2048) (hI : LI xs S σ) (nx : ∀ S' σ', LI xs S' σ' → X 18 [some (vR 63), some (vR 0), some (vR 39), some (vI (w32 ((i : Int) + 4)))] [] σ') : P (d + 8) 92 [vR 0] σ (fun r σ' => X 678 [some (vR 63), some (vR 0), some (vR 39), some (vI (i : Int))] (psh r []) σ') := by
  obtain ⟨hS, hM, w, h63⟩ := hI
  refine x_cold hS w (fun σ1 h1 f1 => b_law_678 hX ?_)
  have g63 : σ1 63 = σ 63 := f1 63 (by decide)
  refine y_cold (MS_XF hM f1) w (fun σ2 h2 f2 => b_law_682 hX ?_)
  rw [if_pos rfl]
  exact nx _ σ2 ⟨XS_MG h1 f2, h2, w, ((f2 63 (Or.inr rfl)).trans g63).trans h63⟩
theorem lc_21 (hX : Cl clsNo (P (d + 8)) (some n) cd_law Q X) (hi : i + 4 ≤ n) (hn : n ≤ 2048) (hI : LI xs S σ) (nx : ∀ S' σ', LI xs S' σ' → X 18 [some (vR 63), some (vR 0), some (vR 39), some (vI (w32 ((i : Int) + 4)))] [] σ') : (0 ≤ (w32 ((i : Int) + 1)) ∧ (w32 ((i : Int) + 1)) < (n : Nat)) ∧ (P (d + 8) 93 [vR 0, vI (σ 63 (w32 ((i : Int) + 1)).toNat)] σ (fun r σ' => X 696 [some (vR 63), some (vR 0), some (vR 39), some (vI (i : Int))] (psh r []) σ')) := by
  obtain ⟨hS, hM, w, h63⟩ := hI
  have g1 : 0 ≤ (w32 ((i : Int) + 1)) ∧ (w32 ((i : Int) + 1)) < (n : Nat) := by unfold w32; omega
  refine ⟨g1, x_silence hS w (fun σ1 h1 f1 => b_law_696 hX ?_)⟩
  have g63 : σ1 63 = σ 63 := f1 63 (by decide)
  rw [g63]
  refine ⟨g1, y_silence (MS_XF hM f1) w (fun σ2 h2 f2 => b_law_705 hX ?_)⟩
  rw [if_pos rfl]
  exact nx _ σ2 ⟨XS_MG h1 f2, h2, (W_silence w _), ((f2 63 (Or.inr rfl)).trans g63).trans h63⟩
theorem lc_22 (hX : Cl clsNo (P (d + 8)) (some n) cd_law Q X) (hi : i + 4 ≤ n) (hn : n ≤ 2048) (hI : LI xs S σ) (nx : ∀ S' σ', LI xs S' σ' → X 18 [some (vR 63), some (vR 0), some (vR 39), some (vI (w32 ((i : Int) + 4)))] [] σ') : (0 ≤ (w32 ((i : Int) + 1)) ∧ (w32 ((i : Int) + 1)) < (n : Nat)) ∧ (P (d + 8) 94 [vR 0, vI (σ 63 (w32 ((i : Int) + 1)).toNat)] σ (fun r σ' => X 719 [some (vR 63), some (vR 0), some (vR 39), some (vI (i : Int))] (psh r []) σ')) := by
  obtain ⟨hS, hM, w, h63⟩ := hI
  have g1 : 0 ≤ (w32 ((i : Int) + 1)) ∧ (w32 ((i : Int) + 1)) < (n : Nat) := by unfold w32; omega
  refine ⟨g1, x_busy hS w (fun σ1 h1 f1 => b_law_719 hX ?_)⟩
  have g63 : σ1 63 = σ 63 := f1 63 (by decide)
  rw [g63]
  refine ⟨g1, y_busy (MS_XF hM f1) w (fun σ2 h2 f2 => b_law_728 hX ?_)⟩
  rw [if_pos rfl]
  exact nx _ σ2 ⟨XS_MG h1 f2, h2, (W_busy w _), ((f2 63 (Or.inr rfl)).trans g63).trans h63⟩
theorem lc_23 (hX : Cl clsNo (P (d + 8)) (some n) cd_law Q X) (hi : i + 4 ≤ n) (hn : n ≤ 2048) (hI : LI xs S σ) (nx : ∀ S' σ', LI xs S' σ' → X 18 [some (vR 63), some (vR 0), some (vR 39), some (vI (w32 ((i : Int) + 4)))] [] σ') : (0 ≤ (w32 ((i : Int) + 1)) ∧ (w32 ((i : Int) + 1)) < (n : Nat)) ∧ ((0 ≤ (w32 ((i : Int) + 2)) ∧ (w32 ((i : Int) + 2)) < (n : Nat)) ∧ ((0 ≤ (w32 ((i : Int) + 3)) ∧ (w32 ((i : Int) + 3)) < (n : Nat)) ∧ (P (d + 8) 95 [vR 0, vI (σ 63 (w32 ((i : Int) + 1)).toNat), vI (σ 63 (w32 ((i : Int) + 2)).toNat), vI (σ 63 (w32 ((i : Int) + 3)).toNat)] σ (fun r σ' => X 752 [some (vR 63), some (vR 0), some (vR 39), some (vI (i : Int))] (psh r []) σ')))) := by
  obtain ⟨hS, hM, w, h63⟩ := hI
  have g1 : 0 ≤ (w32 ((i : Int) + 1)) ∧ (w32 ((i : Int) + 1)) < (n : Nat) := by unfold w32; omega
  have g2 : 0 ≤ (w32 ((i : Int) + 2)) ∧ (w32 ((i : Int) + 2)) < (n : Nat) := by unfold w32; omega
  have g3 : 0 ≤ (w32 ((i : Int) + 3)) ∧ (w32 ((i : Int) + 3)) < (n : Nat) := by unfold w32; omega
  refine ⟨g1, g2, g3, x_who hS w (fun σ1 h1 f1 => b_law_752 hX ?_)⟩
  have g63 : σ1 63 = σ 63 := f1 63 (by decide)
  rw [g63]
  refine ⟨g1, g2, g3, y_who (MS_XF hM f1) w (fun σ2 h2 f2 => b_law_771 hX ?_)⟩
  rw [if_pos rfl]
  exact nx _ σ2 ⟨XS_MG h1 f2, h2, (W_who w _ _ _), ((f2 63 (Or.inr rfl)).trans g63).trans h63⟩
theorem lc_24 (hX : Cl clsNo (P (d + 8)) (some n) cd_law Q X) (hi : i + 4 ≤ n) (hn : n ≤ 2048) (hI : LI xs S σ) (nx : ∀ S' σ', LI xs S' σ' → X 18 [some (vR 63), some (vR 0), some (vR 39), some (vI (w32 ((i : Int) + 4)))] [] σ') : (0 ≤ (w32 ((i : Int) + 1)) ∧ (w32 ((i : Int) + 1)) < (n : Nat)) ∧ ((0 ≤ (w32 ((i : Int) + 2)) ∧ (w32 ((i : Int) + 2)) < (n : Nat)) ∧ (P (d + 8) 96 [vR 0, vI (σ 63 (w32 ((i : Int) + 1)).toNat), vI (σ 63 (w32 ((i : Int) + 2)).toNat)] σ (fun r σ' => X 790 [some (vR 63), some (vR 0), some (vR 39), some (vI (i : Int))] (psh r []) σ'))) := by
  obtain ⟨hS, hM, w, h63⟩ := hI
  have g1 : 0 ≤ (w32 ((i : Int) + 1)) ∧ (w32 ((i : Int) + 1)) < (n : Nat) := by unfold w32; omega
  have g2 : 0 ≤ (w32 ((i : Int) + 2)) ∧ (w32 ((i : Int) + 2)) < (n : Nat) := by unfold w32; omega
  refine ⟨g1, g2, x_haggle hS w (fun σ1 h1 f1 => b_law_790 hX ?_)⟩
  have g63 : σ1 63 = σ 63 := f1 63 (by decide)
  rw [g63]
  refine ⟨g1, g2, y_haggle (MS_XF hM f1) w (fun σ2 h2 f2 => b_law_804 hX ?_)⟩
  rw [if_pos rfl]
  exact nx _ σ2 ⟨XS_MG h1 f2, h2, (W_haggle w _ _), ((f2 63 (Or.inr rfl)).trans g63).trans h63⟩
theorem lc_25 (hX : Cl clsNo (P (d + 8)) (some n) cd_law Q X) (hi : i + 4 ≤ n) (hn : n ≤ 2048) (hI : LI xs S σ) (nx : ∀ S' σ', LI xs S' σ' → X 18 [some (vR 63), some (vR 0), some (vR 39), some (vI (w32 ((i : Int) + 4)))] [] σ') : P (d + 8) 97 [vR 0] σ (fun r σ' => X 813 [some (vR 63), some (vR 0), some (vR 39), some (vI (i : Int))] (psh r []) σ') := by
  obtain ⟨hS, hM, w, h63⟩ := hI
  refine x_payments hS w (fun σ1 h1 f1 => b_law_813 hX ?_)
  have g63 : σ1 63 = σ 63 := f1 63 (by decide)
  refine y_payments (MS_XF hM f1) w (fun σ2 h2 f2 => b_law_817 hX ?_)
  rw [if_pos rfl]
  exact nx _ σ2 ⟨XS_MG h1 f2, h2, w, ((f2 63 (Or.inr rfl)).trans g63).trans h63⟩
theorem lc_26 (hX : Cl clsNo (P (d + 8)) (some n) cd_law Q X) (hi : i + 4 ≤ n) (hn : n ≤ 2048) (hI : LI xs S σ) (nx : ∀ S' σ', LI xs S' σ' → X 18 [some (vR 63), some (vR 0), some (vR 39), some (vI (w32 ((i : Int) + 4)))] [] σ') : (0 ≤ (w32 ((i : Int) + 1)) ∧ (w32 ((i : Int) + 1)) < (n : Nat)) ∧ ((0 ≤ (w32 ((i : Int) + 2)) ∧ (w32 ((i : Int) + 2)) < (n : Nat)) ∧ ((0 ≤ (w32 ((i : Int) + 3)) ∧ (w32 ((i : Int) + 3)) < (n : Nat)) ∧ (P (d + 8) 98 [vR 0, vI (σ 63 (w32 ((i : Int) + 1)).toNat), vI (σ 63 (w32 ((i : Int) + 2)).toNat), vI (σ 63 (w32 ((i : Int) + 3)).toNat)] σ (fun r σ' => X 841 [some (vR 63), some (vR 0), some (vR 39), some (vI (i : Int))] (psh r []) σ')))) := by
  obtain ⟨hS, hM, w, h63⟩ := hI
  have g1 : 0 ≤ (w32 ((i : Int) + 1)) ∧ (w32 ((i : Int) + 1)) < (n : Nat) := by unfold w32; omega
  have g2 : 0 ≤ (w32 ((i : Int) + 2)) ∧ (w32 ((i : Int) + 2)) < (n : Nat) := by unfold w32; omega
  have g3 : 0 ≤ (w32 ((i : Int) + 3)) ∧ (w32 ((i : Int) + 3)) < (n : Nat) := by unfold w32; omega
  refine ⟨g1, g2, g3, x_odds hS w (fun σ1 h1 f1 => b_law_841 hX ?_)⟩
  have g63 : σ1 63 = σ 63 := f1 63 (by decide)
  rw [g63]
  refine ⟨g1, g2, g3, y_odds (MS_XF hM f1) w (fun σ2 h2 f2 => b_law_860 hX ?_)⟩
  rw [if_pos (lcm3_self _)]
  exact nx _ σ2 ⟨XS_MG h1 f2, h2, (W_odds w _ _ _), ((f2 63 (Or.inr rfl)).trans g63).trans h63⟩
theorem lc_27 (hX : Cl clsNo (P (d + 8)) (some n) cd_law Q X) (hi : i + 4 ≤ n) (hn : n ≤ 2048) (hI : LI xs S σ) (nx : ∀ S' σ', LI xs S' σ' → X 18 [some (vR 63), some (vR 0), some (vR 39), some (vI (w32 ((i : Int) + 4)))] [] σ') : (0 ≤ (w32 ((i : Int) + 1)) ∧ (w32 ((i : Int) + 1)) < (n : Nat)) ∧ (P (d + 8) 99 [vR 0, vI (σ 63 (w32 ((i : Int) + 1)).toNat)] σ (fun r σ' => X 875 [some (vR 63), some (vR 0), some (vR 39), some (vI (i : Int))] (psh r []) σ')) := by
  obtain ⟨hS, hM, w, h63⟩ := hI
  have g1 : 0 ≤ (w32 ((i : Int) + 1)) ∧ (w32 ((i : Int) + 1)) < (n : Nat) := by unfold w32; omega
  refine ⟨g1, x_row hS w (fun σ1 h1 f1 => b_law_875 hX ?_)⟩
  have g63 : σ1 63 = σ 63 := f1 63 (by decide)
  rw [g63]
  refine ⟨g1, y_row (MS_XF hM f1) w (fun σ2 h2 f2 => b_law_884 hX ?_)⟩
  rw [if_pos rfl]
  exact nx _ σ2 ⟨XS_MG h1 f2, h2, (W_row w _), ((f2 63 (Or.inr rfl)).trans g63).trans h63⟩
theorem lc_28 (hX : Cl clsNo (P (d + 8)) (some n) cd_law Q X) (hi : i + 4 ≤ n) (hn : n ≤ 2048) (hI : LI xs S σ) (nx : ∀ S' σ', LI xs S' σ' → X 18 [some (vR 63), some (vR 0), some (vR 39), some (vI (w32 ((i : Int) + 4)))] [] σ') : P (d + 8) 100 [vR 0] σ (fun r σ' => X 893 [some (vR 63), some (vR 0), some (vR 39), some (vI (i : Int))] (psh r []) σ') := by
  obtain ⟨hS, hM, w, h63⟩ := hI
  refine x_judge hS w (fun σ1 h1 f1 => b_law_893 hX ?_)
  have g63 : σ1 63 = σ 63 := f1 63 (by decide)
  refine y_judge (MS_XF hM f1) w (fun σ2 h2 f2 => b_law_897 hX ?_)
  rw [if_pos rfl]
  exact nx _ σ2 ⟨XS_MG h1 f2, h2, (W_judge w), ((f2 63 (Or.inr rfl)).trans g63).trans h63⟩
theorem lc_29 (hX : Cl clsNo (P (d + 8)) (some n) cd_law Q X) (hi : i + 4 ≤ n) (hn : n ≤ 2048) (hI : LI xs S σ) (nx : ∀ S' σ', LI xs S' σ' → X 18 [some (vR 63), some (vR 0), some (vR 39), some (vI (w32 ((i : Int) + 4)))] [] σ') : P (d + 8) 101 [vR 0] σ (fun r σ' => X 906 [some (vR 63), some (vR 0), some (vR 39), some (vI (i : Int))] (psh r []) σ') := by
  obtain ⟨hS, hM, w, h63⟩ := hI
  refine x_clear hS (fun σ1 h1 f1 => b_law_906 hX ?_)
  have g63 : σ1 63 = σ 63 := f1 63 (by decide)
  refine y_clear (MS_XF hM f1) (fun σ2 h2 f2 => b_law_910 hX ?_)
  rw [if_pos rfl]
  exact nx _ σ2 ⟨XS_MG h1 f2, h2, (W_clear w), ((f2 63 (Or.inr rfl)).trans g63).trans h63⟩
theorem lc_30 (hX : Cl clsNo (P (d + 8)) (some n) cd_law Q X) (hi : i + 4 ≤ n) (hn : n ≤ 2048) (hI : LI xs S σ) (nx : ∀ S' σ', LI xs S' σ' → X 18 [some (vR 63), some (vR 0), some (vR 39), some (vI (w32 ((i : Int) + 4)))] [] σ') : (0 ≤ (w32 ((i : Int) + 1)) ∧ (w32 ((i : Int) + 1)) < (n : Nat)) ∧ ((0 ≤ (w32 ((i : Int) + 2)) ∧ (w32 ((i : Int) + 2)) < (n : Nat)) ∧ ((0 ≤ (w32 ((i : Int) + 3)) ∧ (w32 ((i : Int) + 3)) < (n : Nat)) ∧ (P (d + 8) 102 [vR 0, vI (σ 63 (w32 ((i : Int) + 1)).toNat), vI (σ 63 (w32 ((i : Int) + 2)).toNat), vI (σ 63 (w32 ((i : Int) + 3)).toNat)] σ (fun r σ' => X 934 [some (vR 63), some (vR 0), some (vR 39), some (vI (i : Int))] (psh r []) σ')))) := by
  obtain ⟨hS, hM, w, h63⟩ := hI
  have g1 : 0 ≤ (w32 ((i : Int) + 1)) ∧ (w32 ((i : Int) + 1)) < (n : Nat) := by unfold w32; omega
  have g2 : 0 ≤ (w32 ((i : Int) + 2)) ∧ (w32 ((i : Int) + 2)) < (n : Nat) := by unfold w32; omega
  have g3 : 0 ≤ (w32 ((i : Int) + 3)) ∧ (w32 ((i : Int) + 3)) < (n : Nat) := by unfold w32; omega
  refine ⟨g1, g2, g3, x_lots hS w (fun σ1 h1 f1 => b_law_934 hX ?_)⟩
  have g63 : σ1 63 = σ 63 := f1 63 (by decide)
  rw [g63]
  refine ⟨g1, g2, g3, y_lots (MS_XF hM f1) w (fun σ2 h2 f2 => b_law_953 hX ?_)⟩
  rw [if_pos rfl]
  exact nx _ σ2 ⟨XS_MG h1 f2, h2, (W_lots w _ _ _), ((f2 63 (Or.inr rfl)).trans g63).trans h63⟩
theorem lc_31 (hX : Cl clsNo (P (d + 8)) (some n) cd_law Q X) (hi : i + 4 ≤ n) (hn : n ≤ 2048) (hI : LI xs S σ) (nx : ∀ S' σ', LI xs S' σ' → X 18 [some (vR 63), some (vR 0), some (vR 39), some (vI (w32 ((i : Int) + 4)))] [] σ') : P (d + 8) 103 [vR 0] σ (fun r σ' => X 962 [some (vR 63), some (vR 0), some (vR 39), some (vI (i : Int))] (psh r []) σ') := by
  obtain ⟨hS, hM, w, h63⟩ := hI
  refine x_image hS (fun σ1 h1 f1 => b_law_962 hX ?_)
  have g63 : σ1 63 = σ 63 := f1 63 (by decide)
  refine y_image (MS_XF hM f1) (fun σ2 h2 f2 => b_law_966 hX ?_)
  rw [if_pos rfl]
  exact nx _ σ2 ⟨XS_MG h1 f2, h2, (W_image w), ((f2 63 (Or.inr rfl)).trans g63).trans h63⟩
theorem lc_32 (hX : Cl clsNo (P (d + 8)) (some n) cd_law Q X) (hi : i + 4 ≤ n) (hn : n ≤ 2048) (hI : LI xs S σ) (nx : ∀ S' σ', LI xs S' σ' → X 18 [some (vR 63), some (vR 0), some (vR 39), some (vI (w32 ((i : Int) + 4)))] [] σ') : P (d + 8) 104 [vR 0] σ (fun r σ' => X 975 [some (vR 63), some (vR 0), some (vR 39), some (vI (i : Int))] (psh r []) σ') := by
  obtain ⟨hS, hM, w, h63⟩ := hI
  refine x_on hS w (fun σ1 h1 f1 => b_law_975 hX ?_)
  have g63 : σ1 63 = σ 63 := f1 63 (by decide)
  refine y_on (MS_XF hM f1) w (fun σ2 h2 f2 => b_law_979 hX ?_)
  rw [if_pos rfl]
  exact nx _ σ2 ⟨XS_MG h1 f2, h2, (W_on w), ((f2 63 (Or.inr rfl)).trans g63).trans h63⟩
theorem lc_33 (hX : Cl clsNo (P (d + 8)) (some n) cd_law Q X) (hi : i + 4 ≤ n) (hn : n ≤ 2048) (hI : LI xs S σ) (nx : ∀ S' σ', LI xs S' σ' → X 18 [some (vR 63), some (vR 0), some (vR 39), some (vI (w32 ((i : Int) + 4)))] [] σ') : (0 ≤ (w32 ((i : Int) + 1)) ∧ (w32 ((i : Int) + 1)) < (n : Nat)) ∧ (P (d + 8) 105 [vR 0, vI (σ 63 (w32 ((i : Int) + 1)).toNat)] σ (fun r σ' => X 993 [some (vR 63), some (vR 0), some (vR 39), some (vI (i : Int))] (psh r []) σ')) := by
  obtain ⟨hS, hM, w, h63⟩ := hI
  have g1 : 0 ≤ (w32 ((i : Int) + 1)) ∧ (w32 ((i : Int) + 1)) < (n : Nat) := by unfold w32; omega
  refine ⟨g1, x_count hS w (fun σ1 h1 f1 => b_law_993 hX ?_)⟩
  have g63 : σ1 63 = σ 63 := f1 63 (by decide)
  rw [g63]
  refine ⟨g1, y_count (MS_XF hM f1) w (fun σ2 h2 f2 => b_law_1002 hX ?_)⟩
  rw [if_pos rfl]
  exact nx _ σ2 ⟨XS_MG h1 f2, h2, (W_count w _), ((f2 63 (Or.inr rfl)).trans g63).trans h63⟩
theorem law_loop (hX : Cl clsNo (P (d + 8)) (some n) cd_law Q X) (hn : n ≤ 2048) (hQ : ∀ σ, Q (some (vI 1)) σ) : ∀ (f i : Nat) (S : AS) (σ : Sto), n < i + 4 * (f + 1) → i ≤ n + 4 → LI xs S σ → X 18 [some (vR 63), some (vR 0), some (vR 39), some (vI (i : Int))] [] σ := by
  intro f
  induction f with
  | zero =>
    intro i S σ hi _ hI
    refine b_law_18 hX ?_
    rw [show Int.ofNat n = (n : Int) from rfl, w32_id (x := (n : Int) - 4) (by omega) (by omega), if_pos (by omega)]
    exact hQ σ
  | succ f ih =>
    intro i S σ hi hi2 hI
    refine b_law_18 hX ?_
    rw [show Int.ofNat n = (n : Int) from rfl, w32_id (x := (n : Int) - 4) (by omega) (by omega)]
    by_cases c : (n : Int) - 4 < (i : Int)
    · rw [if_pos c]; exact hQ σ
    rw [if_neg c]
    have hi4 : i + 4 ≤ n := by omega
    have nx : ∀ S' σ', LI xs S' σ' → X 18 [some (vR 63), some (vR 0), some (vR 39), some (vI (w32 ((i : Int) + 4)))] [] σ' := by
      intro S' σ' h
      rw [show w32 ((i : Int) + 4) = ((i + 4 : Nat) : Int) by unfold w32; omega]
      exact ih (i + 4) S' σ' (by omega) (by omega) h
    refine ⟨by omega, ?_⟩
    exact ite_c (lc_0 hX hi4 hn hI nx) (ite_c (lc_1 hX hi4 hn hI nx) (ite_c (lc_2 hX hi4 hn hI nx) (ite_c (lc_3 hX hi4 hn hI nx) (ite_c (lc_4 hX hi4 hn hI nx) (ite_c (lc_5 hX hi4 hn hI nx) (ite_c (lc_6 hX hi4 hn hI nx) (ite_c (lc_7 hX hi4 hn hI nx) (ite_c (lc_8 hX hi4 hn hI nx) (ite_c (lc_9 hX hi4 hn hI nx) (ite_c (lc_10 hX hi4 hn hI nx) (ite_c (lc_11 hX hi4 hn hI nx) (ite_c (lc_12 hX hi4 hn hI nx) (ite_c (lc_13 hX hi4 hn hI nx) (ite_c (lc_14 hX hi4 hn hI nx) (ite_c (lc_15 hX hi4 hn hI nx) (ite_c (lc_16 hX hi4 hn hI nx) (ite_c (lc_17 hX hi4 hn hI nx) (ite_c (lc_18 hX hi4 hn hI nx) (ite_c (lc_19 hX hi4 hn hI nx) (ite_c (lc_20 hX hi4 hn hI nx) (ite_c (lc_21 hX hi4 hn hI nx) (ite_c (lc_22 hX hi4 hn hI nx) (ite_c (lc_23 hX hi4 hn hI nx) (ite_c (lc_24 hX hi4 hn hI nx) (ite_c (lc_25 hX hi4 hn hI nx) (ite_c (lc_26 hX hi4 hn hI nx) (ite_c (lc_27 hX hi4 hn hI nx) (ite_c (lc_28 hX hi4 hn hI nx) (ite_c (lc_29 hX hi4 hn hI nx) (ite_c (lc_30 hX hi4 hn hI nx) (ite_c (lc_31 hX hi4 hn hI nx) (ite_c (lc_32 hX hi4 hn hI nx) (ite_c (lc_33 hX hi4 hn hI nx) (nx S σ hI))))))))))))))))))))))))))))))))))
end LW
