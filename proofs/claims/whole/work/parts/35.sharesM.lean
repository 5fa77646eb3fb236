/-! The shares on the model's side. -/
def lw (S : Nat) : Nat := (iand (S : Int) (w32 (-(S : Int)))).toNat
theorem lw_all : ∀ S : Nat, S < 64 → S ≠ 0 → iand (S : Int) (w32 (-(S : Int))) = (lw S : Int) ∧ lw S < 64 ∧ lw S ≠ 0 ∧ lw S &&& S = lw S ∧ (lw S = S → ∃ g, g < 6 ∧ S = 2 ^ g) := by decide +kernel
def naB (s q : Nat) : Bool := ((((q - 1) &&& s) &&& s) == ((q - 1) &&& s)) && (Nat.blt ((q - 1) &&& s) q && ((q + (s ^^^ q)) == s))
theorem nxt_d : ∀ s : Nat, s < 64 → ∀ q : Nat, q < 64 → q &&& s = q → q ≠ 0 → naB s q = true := by decide +kernel
theorem nxt_a (s : Nat) (hs : s < 64) (q : Nat) (hq : q < 64) (h : q &&& s = q) (h0 : q ≠ 0) : ((q - 1) &&& s) &&& s = (q - 1) &&& s ∧ (q - 1) &&& s < q ∧ q + (s ^^^ q) = s := by
  have h1 := nxt_d s hs q hq h h0
  unfold naB at h1
  rw [Bool.and_eq_true, Bool.and_eq_true] at h1
  exact ⟨eq_of_beq h1.1, Nat.le_of_ble_eq_true h1.2.1, eq_of_beq h1.2.2⟩
def nsB (s q : Nat) : Bool := (List.range 64).all (fun A => !(A &&& s == A) || (Nat.ble q A || Nat.ble A ((q - 1) &&& s)))
theorem nxt_c : ∀ s : Nat, s < 64 → ∀ q : Nat, q < 64 → q &&& s = q → q ≠ 0 → nsB s q = true := by decide +kernel
theorem nxt_sub (s : Nat) (hs : s < 64) (q : Nat) (hq : q < 64) (h : q &&& s = q) (h0 : q ≠ 0) : ((q - 1) &&& s) &&& s = (q - 1) &&& s ∧ (q - 1) &&& s < q ∧ q + (s ^^^ q) = s ∧ ∀ A : Nat, A < 64 → A &&& s = A → A < q → A ≤ (q - 1) &&& s := by
  obtain ⟨a1, a2, a3⟩ := nxt_a s hs q hq h h0
  refine ⟨a1, a2, a3, fun A hA hAs hAq => ?_⟩
  have h1 := nxt_c s hs q hq h h0
  unfold nsB at h1
  have h2 := List.all_eq_true.mp h1 A (List.mem_range.mpr hA)
  simp only [hAs, beq_self_eq_true, Bool.not_true, Bool.false_or, Bool.or_eq_true] at h2
  rcases h2 with z | z
  · have := Nat.le_of_ble_eq_true z; omega
  · exact Nat.le_of_ble_eq_true z
section SM2
variable {d : Nat} {σ : Sto} {Q : PQ} {S : AS} {T : Tab}
theorem sS_single {f : Nat → Int} {g : Nat} : ∀ n, sS f (2 ^ g) n = if g < n then f g else 0
  | 0 => by rw [if_neg (by omega)]; rfl
  | n + 1 => by
    show sS f (2 ^ g) n + (if (2 ^ g).testBit n = true then f n else 0) = _
    rw [sS_single n, Nat.testBit_two_pow]
    by_cases e : g = n
    · subst e; rw [if_neg (by omega), if_pos (decide_eq_true rfl), if_pos (by omega), Int.zero_add]
    · rw [if_neg (show ¬ decide (g = n) = true by simp [e]), Int.add_zero]
      by_cases c : g < n
      · rw [if_pos c, if_pos (by omega)]
      · rw [if_neg c, if_neg (by omega)]
theorem y_payments (hS : MS σ S) (w : WS S) (h : ∀ σ', MS σ' S → MG σ σ' → Q (some (vI (cPay S))) σ') : P (d + 8) 183 [vR 39] σ Q := by
  have hG := WT_g w.1
  have hI := evn_I (lo := 0) w.1 61
  have h64 := p64 hG.2
  have h1G : 1 ≤ 2 ^ gN S.T := Nat.one_le_two_pow
  have b2 := bilA_b (E := evg S.T 0) w.1
  refine e_Mo_payments fun X hX => b_Mo_payments_0 hX ?_
  refine m_dines (lo := 0) hS.1 w.1 (by decide) (fun σ1 f1 hV => b_Mo_payments_5 hX ?_)
  have hT1 := (EM_T f1).trans hS.1
  refine m_bill (E := evg S.T 0) hT1 w.1 hI hV.1 (b_Mo_payments_11 hX ?_)
  rw [if_pos (show (-1 : Int) < 0 by decide)]
  let O : Nat → Nat := fun n => mk (fun g => decide (ovF S.T g ≠ 0)) n
  refine upto (p := fun i => ∀ σi : Sto, (∀ g, g < i → σi 61 (2 ^ g) = ovF S.T g) → (∀ c, c ≠ 61 → σi c = σ1 c) → X 16 [some (vR 39), some (vI (bilA S.T (evg S.T 0))), some (vI (mk (fun g => decide (ovF S.T g ≠ 0)) i : Int)), some (vI (i : Int)), none, none, none] [] σi) (gN S.T) (fun i hi ih => ?_) ?_ σ1 (fun g hg => absurd hg (by omega)) (fun _ _ => rfl)
  · intro σi k1 k2
    have hTi : tb σi 39 = S.T := (tb_same (fun c a b j => by rw [k2 c (by omega)])).trans hT1
    have b1 : 0 ≤ bilG S.T (evg S.T 0) i ∧ bilG S.T (evg S.T 0) i ≤ 126 := bilG_b w.1 _ (WT_r w.1).2
    have b3 := tdiv_b b2.1 (show 1 ≤ (gN S.T : Int) by omega)
    have hp : 2 ^ i < 64 := Nat.pow_lt_pow_right (a := 2) (m := i) (n := 6) (by decide) (by omega)
    have hpi : 0 ≤ ((2 ^ i : Nat) : Int) ∧ ((2 ^ i : Nat) : Int) < 64 := ⟨Int.natCast_nonneg _, Int.ofNat_lt.mpr hp⟩
    refine b_Mo_payments_16 hX ?_
    rw [b7 hTi, if_pos (by omega)]
    refine m_bill (E := evg S.T 0) hTi w.1 hI (fun r hr => by rw [k2 54 (by decide), k2 55 (by decide)]; exact hV.1 r hr) (b_Mo_payments_36 hX ?_)
    rw [if_neg (show ¬ (i : Int) < 0 by omega), b7 hTi, hG.1, ishl_1 (by omega)]
    refine ⟨by omega, ?_⟩
    have ho := orB (p := fun g => decide (ovF S.T g ≠ 0)) (i := i) (by omega)
    have fin : ∀ v : Int, v = ovF S.T i → if (sup σi 61 (2 ^ i) v) 61 (2 ^ i) = 0 then (X 16 [some (vR 39), some (vI (bilA S.T (evg S.T 0))), some (vI (ior (mk (fun g => decide (ovF S.T g ≠ 0)) i : Int) 0)), some (vI ((i + 1 : Nat) : Int)), none, none, none] [] (sup σi 61 (2 ^ i) v)) else (X 16 [some (vR 39), some (vI (bilA S.T (evg S.T 0))), some (vI (ior (mk (fun g => decide (ovF S.T g ≠ 0)) i : Int) ((2 ^ i : Nat) : Int))), some (vI ((i + 1 : Nat) : Int)), none, none, none] [] (sup σi 61 (2 ^ i) v)) := by
      intro v hv
      have go : X 16 [some (vR 39), some (vI (bilA S.T (evg S.T 0))), some (vI (mk (fun g => decide (ovF S.T g ≠ 0)) (i + 1) : Int)), some (vI ((i + 1 : Nat) : Int)), none, none, none] [] (sup σi 61 (2 ^ i) v) := by
        refine ih _ (fun g hg => ?_) (fun c hc => by rw [sup_fr hc]; exact k2 c hc)
        by_cases e : g = i
        · subst e; rw [sup_e]; exact hv
        · rw [sup_i (Nat.ne_of_lt (Nat.pow_lt_pow_right (by decide) (show g < i by omega)))]; exact k1 g (by omega)
      rw [sup_e]
      by_cases c : v = 0
      · rw [if_pos c]
        rw [if_neg (by rw [← hv, c]; decide)] at ho
        rw [ho]; exact go
      · rw [if_neg c]
        rw [if_pos (decide_eq_true (by rw [← hv]; exact c))] at ho
        rw [ho]; exact go
    have eo : ovF S.T i = bilG S.T (evg S.T 0) i - (bilA S.T (evg S.T 0)).tdiv (gN S.T) - (if (i : Int) < (bilA S.T (evg S.T 0)).tmod (gN S.T) then 1 else 0) := rfl
    rw [Int.toNat_natCast, w32_s i (by omega), w32_id (x := (bilA S.T (evg S.T 0)).tdiv (gN S.T)) (by omega) (by omega), w32_id (x := bilG S.T (evg S.T 0) i - (bilA S.T (evg S.T 0)).tdiv (gN S.T)) (by omega) (by omega), w32_id (by omega) (by omega), w32_id (by omega) (by omega)]
    by_cases c : (i : Int) < (bilA S.T (evg S.T 0)).tmod (gN S.T)
    · rw [if_pos c]
      rw [if_pos c] at eo
      exact ⟨hpi, hpi, fin _ eo.symm⟩
    · rw [if_neg c]
      rw [if_neg c] at eo
      exact ⟨hpi, hpi, fin _ eo.symm⟩
  intro σ2 k1 k2
  have hT2 : tb σ2 39 = S.T := (tb_same (fun c a b j => by rw [k2 c (by omega)])).trans hT1
  refine b_Mo_payments_16 hX ?_
  rw [b7 hT2, if_neg (by omega)]
  have hO : isO (ovF S.T) (gN S.T) (mk (fun g => decide (ovF S.T g ≠ 0)) (gN S.T)) := ⟨mk_lt _ _, fun g hg => by rw [mk_bit, decide_eq_true hg, Bool.true_and, decide_eq_true_iff]⟩
  generalize mk (fun g => decide (ovF S.T g ≠ 0)) (gN S.T) = O at *
  have hf : 1 ≤ gN S.T → ∀ g, g < 6 → -1000 ≤ ovF S.T g ∧ ovF S.T g ≤ 1000 := fun z g _ => ovF_b w.1 z g
  have hpk : ∀ p : Nat → Int, isP (ovF S.T) (gN S.T) O p → pc8 O - pp p O = cPay S := by
    intro p hp
    unfold cPay
    by_cases c : gN S.T = 0
    · rw [if_pos c]
      have h0 := hO.1
      rw [c] at h0
      have : O = 0 := by simp at h0; exact h0
      rw [this]
      show pc8 0 - (if (0 : Nat) = 0 then 0 else p 0) = 0
      rw [if_pos rfl]; rfl
    · rw [if_neg c]
      exact (pack hG.2 hO hp).symm
  have OX := hO.1
  refine upto (p := fun i => ∀ σi : Sto, (∀ g, g < gN S.T → σi 61 (2 ^ g) = ovF S.T g) → (∀ B, B ≠ 0 → B < i + 1 → σi 61 B = sS (ovF S.T) B (gN S.T) ∧ σi 62 B ≤ B) → (∀ c, c ≠ 61 → c ≠ 62 → σi c = σ1 c) →
      (∀ B, B ≠ 0 → B < i + 1 → (0 ≤ σi 62 B ∧ (sS (ovF S.T) B (gN S.T) = 0 → B &&& O = B → 1 ≤ σi 62 B)) ∧ (∀ A, A ≠ 0 → A ≠ B → A &&& B = A → σi 62 A + σi 62 (B ^^^ A) ≤ σi 62 B) ∧ (σi 62 B = 0 ∨ (σi 62 B = 1 ∧ sS (ovF S.T) B (gN S.T) = 0) ∨ ∃ A, A ≠ 0 ∧ A ≠ B ∧ A &&& B = A ∧ σi 62 B = σi 62 A + σi 62 (B ^^^ A))) →
      X 89 [some (vR 39), none, some (vI (O : Int)), some (vI ((i + 1 : Nat) : Int)), none, none, none] [] σi) (2 ^ gN S.T - 1) (fun i hi ih => ?_) ?_ σ2 k1 (fun B b0 bl => by omega) (fun c h61 h62 => k2 c h61) (fun B b0 bl => by omega)
  · intro σi q1 q2 q3 q4
    have hTi : tb σi 39 = S.T := (tb_same (fun c a b j => by rw [q3 c (by omega) (by omega)])).trans hT1
    obtain ⟨s, hs⟩ : ∃ s, s = i + 1 := ⟨i + 1, rfl⟩
    have hs64 : s < 64 := by omega
    have hs0 : s ≠ 0 := by omega
    have g1 : 1 ≤ gN S.T := by
      by_cases c : gN S.T = 0
      · rw [c] at hi; omega
      · omega
    have hfb := hf g1
    have sb := fun A => sS_b (S := A) hfb (gN S.T) hG.2
    rw [← hs] at q2 q4 ⊢
    obtain ⟨l1, l2, l3, l4, l5⟩ := lw_all s hs64 hs0
    have qs := nxt_sub s hs64 s hs64 (Nat.and_self s) hs0
    -- the inner loop
    have inner : ∀ (I : Int), (I = 0 ∨ I = 1) → (I = 1 → sS (ovF S.T) s (gN S.T) = 0) → (sS (ovF S.T) s (gN S.T) = 0 → s &&& O = s → I = 1) → ∀ q : Nat, q < s → q &&& s = q → ∀ σj : Sto, (∀ g, g < gN S.T → σj 61 (2 ^ g) = ovF S.T g) → (∀ B, B ≠ 0 → B < s + 1 → σj 61 B = sS (ovF S.T) B (gN S.T)) → (∀ c, c ≠ 61 → c ≠ 62 → σj c = σ1 c) → (∀ B, B ≠ s → σj 62 B = σi 62 B) →
        0 ≤ σj 62 s → σj 62 s ≤ s → I ≤ σj 62 s → (∀ A, A ≠ 0 → A ≠ s → A &&& s = A → q < A → σi 62 A + σi 62 (s ^^^ A) ≤ σj 62 s) → (σj 62 s = I ∨ ∃ A, A ≠ 0 ∧ A ≠ s ∧ A &&& s = A ∧ σj 62 s = σi 62 A + σi 62 (s ^^^ A)) →
        X 180 [some (vR 39), none, some (vI (O : Int)), some (vI (s : Int)), none, some (vI (q : Int)), none] [] σj := by
      intro I hI01 hI1 hI2 q
      induction q using Nat.strongRecOn with
      | ind q ihq =>
        intro hq hqs σj r1 r2 r3 r4 r5 r6 r7 r8 r9
        refine b_Mo_payments_180 hX ?_
        by_cases c0 : q = 0
        · subst c0
          rw [if_neg (show ¬ (0 : Int) < ((0 : Nat) : Int) by decide), w32_s s (by omega), hs]
          refine ih σj r1 (fun B b0 bl => ?_) r3 (fun B b0 bl => ?_)
          · refine ⟨r2 B b0 (by omega), ?_⟩
            by_cases e : B = s
            · subst e; exact r6
            · rw [r4 B e]; exact (q2 B b0 (by omega)).2
          · by_cases e : B = s
            · subst e
              refine ⟨⟨r5, fun z1 z2 => by have := hI2 z1 z2; omega⟩, fun A a0 aB aS => ?_, ?_⟩
              · have xl := x_less aS a0
                have al := sub_le aS
                rw [r4 A aB, r4 _ (by omega)]
                exact r8 A a0 aB aS (by omega)
              · rcases r9 with z | ⟨A, a0, aB, aS, e⟩
                · rcases hI01 with y | y
                  · exact Or.inl (z.trans y)
                  · exact Or.inr (Or.inl ⟨z.trans y, hI1 y⟩)
                · have xl := x_less aS a0
                  exact Or.inr (Or.inr ⟨A, a0, aB, aS, by rw [e, r4 A aB, r4 _ (by omega)]⟩)
            · have h4 := q4 B b0 (by omega)
              have sub : ∀ A, A ≠ 0 → A &&& B = A → A ≠ s ∧ B ^^^ A ≠ s := fun A a0 aS => by
                have xl := x_less aS a0
                have al := sub_le aS
                omega
              rw [r4 B e]
              refine ⟨h4.1, fun A a0 aB aS => ?_, h4.2.2.imp id (Or.imp id (fun ⟨A, a0, aB, aS, e2⟩ => ⟨A, a0, aB, aS, ?_⟩))⟩
              · rw [r4 A (sub A a0 aS).1, r4 _ (sub A a0 aS).2]
                exact h4.2.1 A a0 aB aS
              · rw [r4 A (sub A a0 aS).1, r4 _ (sub A a0 aS).2]
                exact e2
        · obtain ⟨n1, n2, n3, n4⟩ := nxt_sub s hs64 q (by omega) hqs c0
          have xl := x_less hqs c0
          have xne : s ^^^ q ≠ 0 := fun z => by omega
          have eq1 : s &&& q = q := by rw [Nat.and_comm]; exact hqs
          have pq := q4 q c0 hq
          have px := q4 (s ^^^ q) xne xl
          have uq := (q2 q c0 hq).2
          have ux := (q2 (s ^^^ q) xne xl).2
          have eb : σj 62 q + σj 62 (s ^^^ q) = σi 62 q + σi 62 (s ^^^ q) := by rw [r4 q (by omega), r4 _ (by omega)]
          rw [if_pos (by omega), andn_nn (by omega) (by omega), eq1]
          refine ⟨by omega, by omega, by omega, ?_⟩
          rw [Int.toNat_natCast, Int.toNat_natCast, Int.toNat_natCast, eb, w32_id (x := σi 62 q + σi 62 (s ^^^ q)) (by omega) (by omega), w32_id (x := (q : Int) - 1) (by omega) (by omega), show (q : Int) - 1 = ((q - 1 : Nat) : Int) by omega, iand_nn (by omega)]
          have fin : ∀ v : Int, 0 ≤ v → v ≤ s → I ≤ v → (∀ A, A ≠ 0 → A ≠ s → A &&& s = A → q < A → σi 62 A + σi 62 (s ^^^ A) ≤ v) → σi 62 q + σi 62 (s ^^^ q) ≤ v → (v = I ∨ ∃ A, A ≠ 0 ∧ A ≠ s ∧ A &&& s = A ∧ v = σi 62 A + σi 62 (s ^^^ A)) → X 180 [some (vR 39), none, some (vI (O : Int)), some (vI (s : Int)), none, some (vI ((q - 1 &&& s : Nat) : Int)), none] [] (sup σj 62 s v) := by
            intro v v0 v1 v2 v3 v4 v5
            refine ihq _ n2 (by omega) n1 _ (fun g hg => by rw [sup_fr (by decide)]; exact r1 g hg) (fun B b0 bl => by rw [sup_fr (by decide)]; exact r2 B b0 bl) (fun c h1 h2 => by rw [sup_fr h2]; exact r3 c h1 h2) (fun B hB => by rw [sup_i hB]; exact r4 B hB) (by rw [sup_e]; exact v0) (by rw [sup_e]; exact v1) (by rw [sup_e]; exact v2) (fun A a0 aB aS aq => ?_) (by rw [sup_e]; exact v5)
            rw [sup_e]
            by_cases e : A = q
            · subst e; exact v4
            · by_cases l : q < A
              · exact v3 A a0 aB aS l
              · have := n4 A (by omega) aS (by omega)
                omega
          by_cases c : σj 62 s < σi 62 q + σi 62 (s ^^^ q)
          · rw [if_pos c]
            exact fin _ (by omega) (by omega) (by omega) (fun A a0 aB aS al => by have := r8 A a0 aB aS al; omega) (Int.le_refl _) (Or.inr ⟨q, c0, by omega, hqs, rfl⟩)
          · rw [if_neg c]
            exact fin _ r5 r6 r7 r8 (by omega) r9
    have start : ∀ (v : Int), v = sS (ovF S.T) s (gN S.T) → if (sup σi 61 s v) 61 s = 0 then (if (iand (s : Int) (ixor (O : Int) (-1))) = 0 then (X 180 [some (vR 39), none, some (vI (O : Int)), some (vI (s : Int)), none, some (vI (iand (w32 ((s : Int) - 1)) (s : Int))), none] [] (sup (sup σi 61 s v) 62 s 1)) else (X 180 [some (vR 39), none, some (vI (O : Int)), some (vI (s : Int)), none, some (vI (iand (w32 ((s : Int) - 1)) (s : Int))), none] [] (sup (sup σi 61 s v) 62 s 0))) else (X 180 [some (vR 39), none, some (vI (O : Int)), some (vI (s : Int)), none, some (vI (iand (w32 ((s : Int) - 1)) (s : Int))), none] [] (sup (sup σi 61 s v) 62 s 0)) := by
      intro v hv
      rw [w32_id (x := (s : Int) - 1) (by omega) (by omega), show (s : Int) - 1 = ((s - 1 : Nat) : Int) by omega, iand_nn (by omega), andn_nn (by omega) (by omega), sup_e]
      have go : ∀ I : Int, (I = 0 ∨ I = 1) → (I = 1 → sS (ovF S.T) s (gN S.T) = 0) → (sS (ovF S.T) s (gN S.T) = 0 → s &&& O = s → I = 1) → X 180 [some (vR 39), none, some (vI (O : Int)), some (vI (s : Int)), none, some (vI ((s - 1 &&& s : Nat) : Int)), none] [] (sup (sup σi 61 s v) 62 s I) := by
        intro I i1 i2 i3
        refine inner I i1 i2 i3 _ qs.2.1 qs.1 _ (fun g hg => ?_) (fun B b0 bl => ?_) (fun c h1 h2 => by rw [sup_fr h2, sup_fr h1]; exact q3 c h1 h2) (fun B hB => by rw [sup_i hB, sup_fr (by decide)]) (by rw [sup_e]; omega) (by rw [sup_e]; omega) (by rw [sup_e]; exact Int.le_refl _) (fun A a0 aB aS al => ?_) (by rw [sup_e]; exact Or.inl rfl)
        · rw [sup_fr (by decide)]
          by_cases e : 2 ^ g = s
          · rw [e, sup_e, hv, ← e, sS_single, if_pos hg]
          · rw [sup_i e]; exact q1 g hg
        · rw [sup_fr (by decide)]
          by_cases e : B = s
          · subst e; rw [sup_e]; exact hv
          · rw [sup_i e]; exact (q2 B b0 (by omega)).1
        · have al2 := sub_le aS
          have := qs.2.2.2 A (by omega) aS (by omega)
          omega
      have ex : (((s ^^^ (s &&& O) : Nat) : Int) = 0) ↔ s &&& O = s := by
        constructor
        · intro z
          have z2 : s ^^^ (s &&& O) = 0 := by omega
          have := congrArg (fun x => s ^^^ x) z2
          simp only [← Nat.xor_assoc, Nat.xor_self, Nat.zero_xor, Nat.xor_zero] at this
          exact this
        · intro z
          rw [z, Nat.xor_self]; rfl
      by_cases c : v = 0
      · rw [if_pos c]
        by_cases c2 : s &&& O = s
        · rw [if_pos (ex.mpr c2)]
          exact go 1 (Or.inr rfl) (fun _ => by rw [← hv]; exact c) (fun _ _ => rfl)
        · rw [if_neg (fun z => c2 (ex.mp z))]
          exact go 0 (Or.inl rfl) (fun z => absurd z (by decide)) (fun _ z => absurd z c2)
      · rw [if_neg c]
        exact go 0 (Or.inl rfl) (fun z => absurd z (by decide)) (fun z _ => absurd (hv.trans z) c)
    refine b_Mo_payments_89 hX ?_
    rw [b7 hTi, hG.1, ishl_1 (by omega), if_pos (by omega), l1]
    by_cases c : (s : Int) = (lw s : Int)
    · rw [if_pos c]
      refine ⟨by omega, ?_⟩
      rw [Int.toNat_natCast]
      obtain ⟨g, g6, eg⟩ := l5 (by omega)
      have gG : g < gN S.T := bit_b (S := s) (by omega) (by rw [eg, Nat.testBit_two_pow]; exact decide_eq_true rfl)
      have e61 : σi 61 s = sS (ovF S.T) s (gN S.T) := by
        rw [eg, q1 g gG, sS_single, if_pos gG]
      exact start (σi 61 s) e61
    · rw [if_neg c]
      have eq1 : s &&& lw s = lw s := by rw [Nat.and_comm]; exact l4
      have hd := sub_d l4
      have xl := x_less l4 l3
      have ll := sub_le l4
      have hne : s ^^^ lw s ≠ 0 := fun z => by rw [z, Nat.or_zero] at hd; omega
      rw [andn_nn (by omega) (by omega), eq1]
      refine ⟨by omega, by omega, by omega, ?_⟩
      rw [Int.toNat_natCast, Int.toNat_natCast, Int.toNat_natCast]
      have ea := (q2 (lw s) l3 (by omega)).1
      have eb := (q2 (s ^^^ lw s) hne xl).1
      have es := sS_or (f := ovF S.T) (G := gN S.T) hd.1
      rw [hd.2] at es
      have sb1 := sb s
      rw [ea, eb, ← es, w32_id (by omega) (by omega)]
      exact start _ rfl
  · intro σi q1 q2 q3 q4
    have hTi : tb σi 39 = S.T := (tb_same (fun c a b j => by rw [q3 c (by omega) (by omega)])).trans hT1
    have hp := hpk (σi 62) (fun B b0 bl => q4 B b0 (by omega))
    have hMF : MF σ1 σi := ⟨fun c _ b => q3 c (by omega) (by omega), fun j _ => by rw [q3 39 (by decide) (by decide)]⟩
    have fin := h σi (MS_MF (MS_EM hS f1) hMF) (MG_tr (MG_EM f1) (MG_MF hMF))
    refine b_Mo_payments_89 hX ?_
    rw [b7 hTi, hG.1, ishl_1 (by omega), if_neg (by omega)]
    by_cases c : O = 0
    · rw [if_pos (by omega)]
      rw [c, show pp (σi 62) 0 = 0 from if_pos rfl, show pc8 0 = 0 from rfl] at hp
      rw [← hp] at fin
      exact fin
    · rw [if_neg (by omega)]
      refine m_bits (by omega) (b_Mo_payments_263 hX ?_)
      refine ⟨by omega, ?_⟩
      have hb := pc8_b O
      have h4 := (q4 O c (by omega)).1.1
      have h5 := (q2 O c (by omega)).2
      rw [show pp (σi 62) O = σi 62 O from if_neg c] at hp
      rw [Int.toNat_natCast, w32_id (by omega) (by omega), hp]
      exact fin
end SM2
