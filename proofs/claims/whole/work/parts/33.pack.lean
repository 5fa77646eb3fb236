/-! Even groups: the two ways of counting agree. -/
theorem cnt_mono {p q : Nat → Bool} : ∀ {n : Nat}, (∀ i, i < n → p i = true → q i = true) → cnt p n ≤ cnt q n
  | 0, _ => Int.le_refl 0
  | n + 1, h => by
    rw [cnt_s, cnt_s]
    have ih := cnt_mono (n := n) (fun i hi => h i (by omega))
    have h1 := h n (by omega)
    cases hp : p n with
    | true => rw [h1 hp]; simp; omega
    | false => cases q n <;> simp <;> omega
theorem pc8_mono {A B : Nat} (h : A &&& B = A) : pc8 A ≤ pc8 B := cnt_mono (fun i _ hb => by
  rw [← h, Nat.testBit_and, Bool.and_eq_true] at hb
  exact hb.2)
theorem bit_b {S G g : Nat} (hS : S < 2 ^ G) (hb : S.testBit g = true) : g < G := by
  by_cases c : g < G
  · exact c
  · rw [Nat.testBit_lt_two_pow (Nat.lt_of_lt_of_le hS (Nat.pow_le_pow_right (by decide) (by omega)))] at hb
    exact absurd hb (by decide)
theorem has_bit {S : Nat} (h : S ≠ 0) : ∃ g, S.testBit g = true := Nat.exists_testBit_of_ne_zero h
theorem d_bit {A B : Nat} (h : A &&& B = 0) (i : Nat) : (A.testBit i && B.testBit i) = false := by
  rw [← Nat.testBit_and, h, Nat.zero_testBit]
theorem s_bit {A B : Nat} (h : A &&& B = A) {i : Nat} (ha : A.testBit i = true) : B.testBit i = true := by
  rw [← h, Nat.testBit_and, Bool.and_eq_true] at ha
  exact ha.2
theorem or_x {A B g : Nat} (h : A &&& B = 0) (hg : B.testBit g = true) : (A ||| B) ^^^ 2 ^ g = A ||| (B ^^^ 2 ^ g) := Nat.eq_of_testBit_eq (fun i => by
  have hd := d_bit h i
  rw [Nat.testBit_xor, Nat.testBit_or, Nat.testBit_or, Nat.testBit_xor, Nat.testBit_two_pow]
  by_cases e : g = i
  · subst e
    rw [hg] at hd ⊢
    rw [Bool.and_true] at hd
    rw [hd]
    simp
  · simp [e])
theorem and_x {A B g : Nat} (h : A &&& B = 0) : A &&& (B ^^^ 2 ^ g) = 0 ∨ A.testBit g = true := by
  by_cases c : A.testBit g = true
  · exact Or.inr c
  · left
    refine Nat.eq_of_testBit_eq (fun i => ?_)
    have hd := d_bit h i
    rw [Nat.testBit_and, Nat.testBit_xor, Nat.testBit_two_pow, Nat.zero_testBit]
    by_cases e : g = i
    · subst e
      rw [Bool.not_eq_true] at c
      rw [c]; rfl
    · rw [decide_eq_false e, Bool.xor_false]; exact hd
theorem sub_x {S g : Nat} (hg : S.testBit g = true) : (S ^^^ 2 ^ g) &&& S = S ^^^ 2 ^ g := Nat.eq_of_testBit_eq (fun i => by
  rw [Nat.testBit_and, Nat.testBit_xor, Nat.testBit_two_pow]
  by_cases e : g = i
  · subst e; rw [hg]; simp
  · simp [e])
theorem sub_tr {A B C : Nat} (h : A &&& B = A) (h2 : B &&& C = B) : A &&& C = A := by
  rw [← h, Nat.and_assoc, h2]
theorem sub_d {A S : Nat} (h : A &&& S = A) : A &&& (S ^^^ A) = 0 ∧ A ||| (S ^^^ A) = S := by
  constructor
  · refine Nat.eq_of_testBit_eq (fun i => ?_)
    rw [Nat.testBit_and, Nat.testBit_xor, Nat.zero_testBit]
    cases ha : A.testBit i with
    | true => rw [s_bit h ha]; rfl
    | false => rfl
  · refine Nat.eq_of_testBit_eq (fun i => ?_)
    rw [Nat.testBit_or, Nat.testBit_xor]
    cases ha : A.testBit i with
    | true => rw [s_bit h ha]; rfl
    | false => simp
theorem sub_le {A S : Nat} (h : A &&& S = A) : A ≤ S := by rw [← h]; exact Nat.and_le_right
section PK
variable {f : Nat → Int} {G : Nat}
theorem sS_or {A B : Nat} (h : A &&& B = 0) : sS f (A ||| B) G = sS f A G + sS f B G := by
  unfold sS
  rw [← sm_add]
  refine sm_congr (fun i _ => ?_)
  have hd := d_bit h i
  rw [Nat.testBit_or]
  cases ha : A.testBit i <;> cases hb : B.testBit i <;> simp_all
theorem sS_0 : sS f 0 G = 0 := by
  unfold sS
  rw [sm_congr (g := fun _ => 0) (fun i _ => by rw [Nat.zero_testBit]; rfl), sm_zero]
theorem mx_ge {c : Nat → Int} {S g : Nat} (hb : S.testBit g = true) : ∀ {n : Nat}, g < n → c (S ^^^ 2 ^ g) ≤ mx c S n
  | 0, h => absurd h (by omega)
  | n + 1, h => by
    show _ ≤ if S.testBit n = true then max (mx c S n) (c (S ^^^ 2 ^ n)) else mx c S n
    by_cases e : g = n
    · subst e; rw [if_pos hb]; omega
    · have ih := mx_ge (c := c) hb (n := n) (by omega)
      split <;> omega
theorem mx_at {c : Nat → Int} {S : Nat} : ∀ {n : Nat}, mx c S n = 0 ∨ ∃ g, g < n ∧ S.testBit g = true ∧ mx c S n = c (S ^^^ 2 ^ g)
  | 0 => Or.inl rfl
  | n + 1 => by
    have e : mx c S (n + 1) = if S.testBit n = true then max (mx c S n) (c (S ^^^ 2 ^ n)) else mx c S n := rfl
    rw [e]
    by_cases b : S.testBit n = true
    · rw [if_pos b]
      by_cases l : mx c S n ≤ c (S ^^^ 2 ^ n)
      · exact Or.inr ⟨n, by omega, b, by omega⟩
      · rw [show max (mx c S n) (c (S ^^^ 2 ^ n)) = mx c S n by omega]
        rcases mx_at (c := c) (S := S) (n := n) with z | ⟨g, h1, h2, h3⟩
        · exact Or.inl z
        · exact Or.inr ⟨g, by omega, h2, h3⟩
    · rw [if_neg b]
      rcases mx_at (c := c) (S := S) (n := n) with z | ⟨g, h1, h2, h3⟩
      · exact Or.inl z
      · exact Or.inr ⟨g, by omega, h2, h3⟩
def z1 (f : Nat → Int) (G S : Nat) : Int := if sS f S G = 0 then 1 else 0
theorem z1_b (S : Nat) : 0 ≤ z1 f G S ∧ z1 f G S ≤ 1 := by unfold z1; split <;> omega
theorem p64 (hG : G ≤ 6) : 2 ^ G ≤ 64 := Nat.pow_le_pow_right (n := 2) (j := 6) (by decide) hG
theorem C_ge (hG : G ≤ 6) {S g : Nat} (hS : S < 2 ^ G) (hb : S.testBit g = true) : CC f G (S ^^^ 2 ^ g) + z1 f G S ≤ CC f G S := by
  have := p64 hG
  rw [CC_eq hG (S := S) (by omega) (fun z => by rw [z, Nat.zero_testBit] at hb; exact absurd hb (by decide))]
  have := mx_ge (c := CC f G) hb (bit_b hS hb)
  unfold z1
  omega
theorem C_at (hG : G ≤ 6) {S : Nat} (hS : S < 2 ^ G) (h0 : S ≠ 0) : ∃ g, S.testBit g = true ∧ g < 6 ∧ CC f G S = CC f G (S ^^^ 2 ^ g) + z1 f G S := by
  have h64 := p64 hG
  have e := CC_eq (f := f) hG (S := S) (by omega) h0
  rcases mx_at (c := CC f G) (S := S) (n := G) with z | ⟨g, h1, h2, h3⟩
  · obtain ⟨g, hg⟩ := has_bit h0
    have hgG := bit_b hS hg
    have h1 := mx_ge (c := CC f G) hg hgG
    have h2 := xor_less S (by omega) g (by omega) hg
    have h3 := CC_b (f := f) hG (S ^^^ 2 ^ g) (by omega)
    exact ⟨g, hg, by omega, by unfold z1; omega⟩
  · exact ⟨g, h2, by omega, by unfold z1; omega⟩
theorem C_sup0 (hG : G ≤ 6) {A : Nat} (hA : A < 2 ^ G) (hs : sS f A G = 0) : ∀ B, B < 2 ^ G → A &&& B = 0 → CC f G A + CC f G B ≤ CC f G (A ||| B) := by
  intro B
  have h64 := p64 hG
  induction B using Nat.strongRecOn with
  | ind B ih =>
    intro hB hd
    by_cases h0 : B = 0
    · subst h0
      rw [Nat.or_zero]
      have : CC f G 0 = 0 := rfl
      omega
    · obtain ⟨g, hg, g6, e⟩ := C_at (f := f) hG hB h0
      have hl := xor_less B (by omega) g g6 hg
      have hor := Nat.or_lt_two_pow hA hB
      have h1 := C_ge (f := f) hG hor (g := g) (by rw [Nat.testBit_or, hg, Bool.or_true])
      rw [or_x hd hg] at h1
      have hz : z1 f G (A ||| B) = z1 f G B := by unfold z1; rw [sS_or hd, hs, Int.zero_add]
      have h2 := ih (B ^^^ 2 ^ g) hl (by omega) ((and_x hd).resolve_right (fun z => by have := d_bit hd g; rw [z, hg] at this; exact absurd this (by decide)))
      omega
theorem C_sup (hG : G ≤ 6) {B : Nat} (hB : B < 2 ^ G) : ∀ A, A < 2 ^ G → A &&& B = 0 → CC f G A + CC f G B ≤ CC f G (A ||| B) := by
  intro A
  have h64 := p64 hG
  induction A using Nat.strongRecOn with
  | ind A ih =>
    intro hA hd
    by_cases hs : sS f A G = 0
    · exact C_sup0 hG hA hs B hB hd
    · have h0 : A ≠ 0 := fun z => hs (by rw [z]; exact sS_0)
      obtain ⟨g, hg, g6, e⟩ := C_at (f := f) hG hA h0
      have hl := xor_less A (by omega) g g6 hg
      have hor := Nat.or_lt_two_pow hA hB
      have h1 := C_ge (f := f) hG hor (g := g) (by rw [Nat.testBit_or, hg, Bool.true_or])
      have hd2 : B &&& A = 0 := by rw [Nat.and_comm]; exact hd
      rw [Nat.or_comm A B, or_x hd2 hg, Nat.or_comm] at h1
      have h2 := ih (A ^^^ 2 ^ g) hl (by omega) (by rw [Nat.and_comm]; exact (and_x hd2).resolve_right (fun z => by have := d_bit hd g; rw [z, hg] at this; exact absurd this (by decide)))
      have hz := z1_b (f := f) (G := G) (B ||| A)
      have hz0 : z1 f G A = 0 := by unfold z1; rw [if_neg hs]
      rw [Nat.or_comm A B]
      omega
theorem C_low (hG : G ≤ 6) : ∀ S, S < 2 ^ G → ∃ A, A &&& S = A ∧ sS f A G = 0 ∧ CC f G A = CC f G S := by
  intro S
  have h64 := p64 hG
  induction S using Nat.strongRecOn with
  | ind S ih =>
    intro hS
    by_cases hs : sS f S G = 0
    · exact ⟨S, Nat.and_self S, hs, rfl⟩
    · have h0 : S ≠ 0 := fun z => hs (by rw [z]; exact sS_0)
      obtain ⟨g, hg, g6, e⟩ := C_at (f := f) hG hS h0
      have hl := xor_less S (by omega) g g6 hg
      obtain ⟨A, a1, a2, a3⟩ := ih (S ^^^ 2 ^ g) hl (by omega)
      refine ⟨A, sub_tr a1 (sub_x hg), a2, ?_⟩
      have hz0 : z1 f G S = 0 := by unfold z1; rw [if_neg hs]
      omega
/-- what the model's table of groups holds -/
def isO (f : Nat → Int) (G O : Nat) : Prop := O < 2 ^ G ∧ ∀ g, g < G → (O.testBit g = true ↔ f g ≠ 0)
def isP (f : Nat → Int) (G O : Nat) (p : Nat → Int) : Prop := ∀ S, S ≠ 0 → S < 2 ^ G → (0 ≤ p S ∧ (sS f S G = 0 → S &&& O = S → 1 ≤ p S)) ∧ (∀ A, A ≠ 0 → A ≠ S → A &&& S = A → p A + p (S ^^^ A) ≤ p S) ∧ (p S = 0 ∨ (p S = 1 ∧ sS f S G = 0) ∨ ∃ A, A ≠ 0 ∧ A ≠ S ∧ A &&& S = A ∧ p S = p A + p (S ^^^ A))
theorem x_less {A S : Nat} (h : A &&& S = A) (h0 : A ≠ 0) : S ^^^ A < S := by
  have hd := sub_d h
  have h1 : (S ^^^ A) &&& S = S ^^^ A := Nat.eq_of_testBit_eq (fun i => by
    rw [Nat.testBit_and, Nat.testBit_xor]
    cases ha : A.testBit i with
    | true => rw [s_bit h ha]; rfl
    | false => simp)
  have h2 := sub_le h1
  by_cases e : S ^^^ A = S
  · exfalso
    obtain ⟨g, hg⟩ := has_bit h0
    have := congrArg (fun x => x.testBit g) e
    simp only [Nat.testBit_xor, hg, s_bit h hg] at this
    exact absurd this (by decide)
  · omega
theorem P_le (hG : G ≤ 6) {O : Nat} {p : Nat → Int} (hP : isP f G O p) : ∀ S, S ≠ 0 → S < 2 ^ G → p S ≤ CC f G S := by
  intro S
  have h64 := p64 hG
  induction S using Nat.strongRecOn with
  | ind S ih =>
    intro h0 hS
    have hc := CC_b (f := f) hG S (by omega)
    rcases (hP S h0 hS).2.2 with z | z | ⟨A, a1, a2, a3, a4⟩
    · omega
    · obtain ⟨g, hg, g6, e⟩ := C_at (f := f) hG hS h0
      have hl := xor_less S (by omega) g g6 hg
      have := CC_b (f := f) hG (S ^^^ 2 ^ g) (by omega)
      have hz : z1 f G S = 1 := by unfold z1; rw [if_pos z.2]
      omega
    · have l1 := sub_le a3
      have l2 := x_less a3 a1
      have hd := sub_d a3
      have hne : S ^^^ A ≠ 0 := fun z => a2 (by rw [z, Nat.or_zero] at hd; exact hd.2)
      have i1 := ih A (by omega) a1 (by omega)
      have i2 := ih (S ^^^ A) l2 hne (by omega)
      have h3 := C_sup (f := f) hG (B := S ^^^ A) (by omega) A (by omega) hd.1
      rw [hd.2] at h3
      omega
end PK
