/-! Even groups, the second half. -/
theorem pc_one : ∀ S, S < 64 → ∀ g, g < 6 → S.testBit g = true → pc8 (S ^^^ 2 ^ g) + 1 = pc8 S := by decide +kernel
theorem pc_comp : ∀ G : Nat, G < 7 → ∀ O : Nat, O < 2 ^ G → pc8 ((2 ^ G - 1) ^^^ O) = (G : Int) - pc8 O ∧ (2 ^ G - 1) &&& O = O ∧ O &&& (2 ^ G - 1) = O := by decide +kernel
section PK2
variable {f : Nat → Int} {G O : Nat} {p : Nat → Int}
def zs (O S : Nat) : Int := pc8 (S ^^^ (S &&& O))
theorem zs_bit (O S i : Nat) : (S ^^^ (S &&& O)).testBit i = (S.testBit i && !O.testBit i) := by
  rw [Nat.testBit_xor, Nat.testBit_and]
  cases S.testBit i <;> cases O.testBit i <;> rfl
theorem zs_mono {A S : Nat} (h : A &&& S = A) : zs O A ≤ zs O S := by
  unfold zs
  refine cnt_mono (fun i _ hb => ?_)
  rw [zs_bit, Bool.and_eq_true] at hb ⊢
  exact ⟨s_bit h hb.1, hb.2⟩
theorem and_mono {A S : Nat} (h : A &&& S = A) : (A &&& O) &&& (S &&& O) = A &&& O := Nat.eq_of_testBit_eq (fun i => by
  rw [Nat.testBit_and, Nat.testBit_and, Nat.testBit_and]
  cases ha : A.testBit i with
  | true => rw [s_bit h ha]; cases O.testBit i <;> rfl
  | false => rfl)
def pp (p : Nat → Int) (S : Nat) : Int := if S = 0 then 0 else p S
theorem pp_0 (hP : isP f G O p) {S : Nat} (hS : S < 2 ^ G) : 0 ≤ pp p S := by
  unfold pp
  split
  · exact Int.le_refl 0
  · exact (hP S ‹_› hS).1.1
theorem pp_sup (hP : isP f G O p) {A B : Nat} (hB : B < 2 ^ G) (h : A &&& B = A) : pp p A + pp p (B ^^^ A) ≤ pp p B := by
  have hd := sub_d h
  by_cases a0 : A = 0
  · subst a0
    rw [Nat.xor_zero]
    unfold pp
    rw [if_pos rfl]; omega
  by_cases ab : A = B
  · subst ab
    rw [Nat.xor_self]
    unfold pp
    rw [if_pos rfl]; omega
  have b0 : B ≠ 0 := fun z => a0 (by have := sub_le h; omega)
  have hne : B ^^^ A ≠ 0 := fun z => ab (by rw [z, Nat.or_zero] at hd; exact hd.2)
  unfold pp
  rw [if_neg a0, if_neg hne, if_neg b0]
  exact (hP B b0 hB).2.1 A a0 ab h
theorem pp_mono (hP : isP f G O p) {A B : Nat} (hB : B < 2 ^ G) (h : A &&& B = A) : pp p A ≤ pp p B := by
  have h1 := pp_sup hP hB h
  have h2 : B ^^^ A < 2 ^ G := Nat.xor_lt_two_pow hB (Nat.lt_of_le_of_lt (sub_le h) hB)
  have h3 := pp_0 hP h2
  omega
theorem C_zero (hG : G ≤ 6) (hO : isO f G O) : ∀ S, S < 2 ^ G → S &&& O = 0 → pc8 S ≤ CC f G S := by
  intro S
  have h64 := p64 hG
  induction S using Nat.strongRecOn with
  | ind S ih =>
    intro hS hd
    by_cases h0 : S = 0
    · subst h0; exact Int.le_refl 0
    · obtain ⟨g, hg⟩ := has_bit h0
      have g6 : g < 6 := by have := bit_b hS hg; omega
      have hl := xor_less S (by omega) g g6 hg
      have h1 := C_ge (f := f) hG hS hg
      have hz : z1 f G S = 1 := by
        unfold z1
        rw [if_pos]
        unfold sS
        rw [sm_congr (g := fun _ => 0) (fun i hi => ?_), sm_zero]
        by_cases b : S.testBit i = true
        · rw [if_pos b]
          have := d_bit hd i
          rw [b, Bool.true_and] at this
          by_cases c : f i = 0
          · exact c
          · rw [(hO.2 i hi).mpr c] at this; exact absurd this (by decide)
        · rw [if_neg b]
      have h2 := ih (S ^^^ 2 ^ g) hl (by omega) (by
        have := sub_x hg
        refine Nat.eq_of_testBit_eq (fun i => ?_)
        rw [Nat.testBit_and, Nat.zero_testBit]
        cases hb : (S ^^^ 2 ^ g).testBit i with
        | false => rfl
        | true =>
          have h3 := s_bit this hb
          have := d_bit hd i
          rw [h3] at this; exact this)
      have h3 := pc_one S (by omega) g g6 hg
      omega
theorem sS_odd (hO : isO f G O) (D : Nat) : sS f (D &&& O) G = sS f D G := by
  unfold sS
  refine sm_congr (fun i hi => ?_)
  rw [Nat.testBit_and]
  by_cases c : f i = 0
  · rw [c]; cases D.testBit i <;> cases O.testBit i <;> rfl
  · rw [(hO.2 i hi).mpr c, Bool.and_true]
theorem C_up (hG : G ≤ 6) (hO : isO f G O) (hP : isP f G O p) : ∀ S, S < 2 ^ G → CC f G S ≤ zs O S + pp p (S &&& O) := by
  intro S
  have h64 := p64 hG
  induction S using Nat.strongRecOn with
  | ind S ih =>
    intro hS
    have hSO : S &&& O < 2 ^ G := Nat.lt_of_le_of_lt Nat.and_le_left hS
    by_cases h0 : S = 0
    · subst h0
      rw [Nat.zero_and]
      have h1 : CC f G 0 = 0 := rfl
      have h2 := (pc8_b (0 ^^^ (0 &&& O))).1
      have h3 : pp p 0 = 0 := if_pos rfl
      unfold zs
      omega
    obtain ⟨g, hg, g6, e⟩ := C_at (f := f) hG hS h0
    have hl := xor_less S (by omega) g g6 hg
    have hsub := sub_x hg
    have ihg := ih (S ^^^ 2 ^ g) hl (by omega)
    by_cases hs : sS f S G = 0
    · have hz : z1 f G S = 1 := by unfold z1; rw [if_pos hs]
      by_cases fg : O.testBit g = true
      · obtain ⟨A, a1, a2, a3⟩ := C_low (f := f) hG (S ^^^ 2 ^ g) (by omega)
        have aS := sub_tr a1 hsub
        have lA := sub_le a1
        have ihA := ih A (by omega) (by omega)
        have hd := sub_d aS
        have hsum := sS_or (f := f) (G := G) hd.1
        rw [hd.2, hs, a2] at hsum
        have hDO : sS f ((S ^^^ A) &&& O) G = 0 := by rw [sS_odd hO]; omega
        have agf : A.testBit g = false := by
          cases ha : A.testBit g with
          | false => rfl
          | true =>
            have := s_bit a1 ha
            rw [Nat.testBit_xor, hg, Nat.testBit_two_pow] at this
            simp at this
        have hne : (S ^^^ A) &&& O ≠ 0 := fun z => by
          have := congrArg (fun x => x.testBit g) z
          simp only [Nat.testBit_and, Nat.testBit_xor, hg, agf, fg, Nat.zero_testBit] at this
          exact absurd this (by decide)
        have hDl : (S ^^^ A) &&& O < 2 ^ G := Nat.lt_of_le_of_lt Nat.and_le_left (Nat.xor_lt_two_pow hS (by omega))
        have h1 := (hP _ hne hDl).1.2 hDO (by rw [Nat.and_assoc, Nat.and_self])
        have h2 := pp_sup hP hSO (and_mono (O := O) aS)
        have h3 : (S &&& O) ^^^ (A &&& O) = (S ^^^ A) &&& O := Nat.eq_of_testBit_eq (fun i => by
          simp only [Nat.testBit_and, Nat.testBit_xor]
          cases S.testBit i <;> cases A.testBit i <;> cases O.testBit i <;> rfl)
        have h4 : pp p ((S ^^^ A) &&& O) = p ((S ^^^ A) &&& O) := if_neg hne
        have h5 := zs_mono (O := O) aS
        rw [h3, h4] at h2
        omega
      · have fg' : O.testBit g = false := by rw [Bool.not_eq_true] at fg; exact fg
        have e1 : (S ^^^ 2 ^ g) &&& O = S &&& O := Nat.eq_of_testBit_eq (fun i => by
          rw [Nat.testBit_and, Nat.testBit_and, Nat.testBit_xor, Nat.testBit_two_pow]
          by_cases c : g = i
          · subst c; rw [fg', Bool.and_false, Bool.and_false]
          · simp [c])
        have e2 : zs O (S ^^^ 2 ^ g) + 1 = zs O S := by
          unfold zs
          have b : (S ^^^ (S &&& O)).testBit g = true := by rw [zs_bit, hg, fg']; rfl
          have l : S ^^^ (S &&& O) < 2 ^ G := Nat.xor_lt_two_pow hS hSO
          rw [← pc_one (S ^^^ (S &&& O)) (by omega) g g6 b]
          congr 2
          refine Nat.eq_of_testBit_eq (fun i => ?_)
          rw [zs_bit, Nat.testBit_xor, Nat.testBit_xor, Nat.testBit_xor, Nat.testBit_and, Nat.testBit_two_pow]
          by_cases c : g = i
          · subst c; rw [hg, fg']; simp
          · simp only [decide_eq_false c, Bool.xor_false]
            cases S.testBit i <;> cases O.testBit i <;> rfl
        rw [e1] at ihg
        omega
    · have hz : z1 f G S = 0 := by unfold z1; rw [if_neg hs]
      have h1 := zs_mono (O := O) hsub
      have h2 := pp_mono hP hSO (and_mono (O := O) hsub)
      omega
/-- the class's count out of the model's -/
theorem pack (hG : G ≤ 6) (hO : isO f G O) (hP : isP f G O p) : (G : Int) - CC f G (2 ^ G - 1) = pc8 O - pp p O := by
  have h64 := p64 hG
  have h1 : 1 ≤ 2 ^ G := Nat.one_le_two_pow
  have hc := pc_comp G (by omega) O hO.1
  have hfull : 2 ^ G - 1 < 2 ^ G := by omega
  have up := C_up hG hO hP (2 ^ G - 1) hfull
  have hz : zs O (2 ^ G - 1) = pc8 ((2 ^ G - 1) ^^^ O) := by unfold zs; rw [hc.2.1]
  rw [hc.2.1, hz, hc.1] at up
  have hd := sub_d hc.2.2
  have hx : (2 ^ G - 1) ^^^ O < 2 ^ G := Nat.xor_lt_two_pow hfull hO.1
  have low := C_sup (f := f) hG hx O hO.1 hd.1
  rw [hd.2] at low
  have lz := C_zero hG hO ((2 ^ G - 1) ^^^ O) hx (by rw [Nat.and_comm]; exact hd.1)
  rw [hc.1] at lz
  have lo : pp p O ≤ CC f G O := by
    unfold pp
    split
    · rename_i z; subst z; exact Int.le_refl 0
    · exact P_le hG hP O ‹_› hO.1
  omega
end PK2
