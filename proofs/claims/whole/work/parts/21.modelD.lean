/-! The model's openings and its whole evening. -/
theorem ops_2 {T E : Tab} {m : Int} {r : Nat} : ∀ n, n ≤ r → ops T m n E 2 r = E 2 r
  | 0, _ => rfl
  | n + 1, hn => by
    show (if ops T m n E 1 n = m then opn T n (ops T m n E) else ops T m n E) 2 r = _
    split
    · unfold opn
      split
      · rw [sup_i (by omega)]; exact ops_2 n (by omega)
      · show (if (2 : Nat) = 3 ∧ r < gN T then _ else if (2 : Nat) = 2 ∧ r = n then 0 else ops T m n E 2 r) = _
        rw [if_neg (by omega), if_neg (by omega)]; exact ops_2 n (by omega)
    · exact ops_2 n (by omega)
section MO
variable {d : Nat} {σ : Sto} {Q : PQ} {T E : Tab} {lo : Nat}
/-- moods and what was sent back -/
def MB (σ : Sto) (T E : Tab) : Prop := (∀ g, g < gN T → σ 53 g = E 3 g) ∧ σ 39 29 = (mk (fun q => decide (E 2 q = 1)) (rN T) : Int)
theorem m_opens {r : Nat} (hT : tb σ 39 = T) (w : WT T) (hB : MB σ T E) (hm : ∀ j, j < 6 → 0 ≤ E 3 j ∧ E 3 j ≤ 40) (hr : r < rN T) (h2 : E 2 r = 0)
    (h : ∀ σ', EM σ σ' → MB σ' T (opn T r E) → (∀ c, c ≠ 39 → c ≠ 53 → σ' c = σ c) → (∀ j, j ≠ 29 → σ' 39 j = σ 39 j) → Q none σ') : P (d + 2) 146 [vR 39, vI (r : Int)] σ Q := by
  have hR := WT_r w
  have hG := WT_g w
  have hr7 : r < 7 := by omega
  have w7 := w.2.2.2.2.2 r hr7
  have hmh : mk (hb T r) (gN T) < 2147483648 := mk_lt31 _ (by omega)
  have hlk : ∀ g, g < 6 → (T 0 g).toNat < 2147483648 ∧ T 0 g = ((T 0 g).toNat : Int) := fun g hg => by have := (w.2.2.2.2.1 g hg).1; omega
  have ht : tpc T r < 31 ∧ T 5 r = (tpc T r : Int) := by unfold tpc; omega
  refine e_Mo_opens fun X hX => b_Mo_opens_0 hX ?_
  refine m_hears hT w hr (b_Mo_opens_5 hX ?_)
  refine upto (p := fun i => X 11 [some (vR 39), some (vI (r : Int)), some (vI (mk (hb T r) (gN T) : Int)), some (vI (cnt (fun g => hb T r g && lb T g (tpc T r)) i)), some (vI (i : Int)), none] [] σ) (gN T) (fun i hi ih => ?_) ?_
  · refine b_Mo_opens_11 hX ?_
    have hcb := cnt_b (fun g => hb T r g && lb T g (tpc T r)) i
    have e := cnt_s (fun g => hb T r g && lb T g (tpc T r)) i
    rw [b7 hT, if_pos (by omega)]
    refine m_has hmh (by omega) (fun t1 => ?_) (fun t0 => ?_)
    · refine b_Mo_opens_27 hX ?_
      rw [mk_bit, decide_eq_true hi, Bool.true_and] at t1
      rw [if_neg (by decide)]
      refine ⟨by omega, by omega, ?_⟩
      rw [Int.toNat_natCast, Int.toNat_natCast, show σ 40 i = T 0 i from a0 hT (by omega), show σ 45 r = T 5 r from a5 hT hr7, (hlk i (by omega)).2, ht.2]
      refine m_has (hlk i (by omega)).1 ht.1 (fun q1 => ?_) (fun q0 => ?_)
      · refine b_Mo_opens_46 hX ?_
        rw [if_neg (by decide), w32_s i (by omega), w32_id (by omega) (by omega)]
        rw [e, t1, show lb T i (tpc T r) = true from q1] at ih
        exact ih
      · refine b_Mo_opens_46 hX ?_
        rw [if_pos rfl, w32_s i (by omega), w32_id (by omega) (by omega)]
        rw [e, t1, show lb T i (tpc T r) = false from q0] at ih
        exact ih
    · refine b_Mo_opens_27 hX ?_
      rw [mk_bit, decide_eq_true hi, Bool.true_and] at t0
      rw [if_pos rfl, w32_s i (by omega), w32_id (by omega) (by omega)]
      rw [e, t0] at ih
      exact ih
  · refine b_Mo_opens_11 hX ?_
    rw [b7 hT, if_neg (by omega)]
    refine m_bitsM (by omega) (b_Mo_opens_66 hX ?_)
    have e1 := cnt_split (hb T r) (fun g => lb T g (tpc T r)) (gN T)
    have e2 : cnt (hb T r) (gN T) = lkN T r + nlN T r := e1
    have e3 : cnt (fun g => hb T r g && lb T g (tpc T r)) (gN T) = lkN T r := rfl
    have b1 : 0 ≤ lkN T r ∧ lkN T r ≤ gN T := cnt_b _ _
    have b2 : 0 ≤ nlN T r ∧ nlN T r ≤ gN T := cnt_b _ _
    rw [e3, e2, w32_id (by omega) (by omega)]
    by_cases c : lkN T r < nlN T r
    · rw [if_pos (by omega)]
      have eo : opn T r E = sup E 2 r 1 := by unfold opn; rw [if_pos c]
      have hml : mk (fun q => decide (E 2 q = 1)) (rN T) < 2147483648 := mk_lt31 _ (by omega)
      have hp : 2 ^ r < 2147483648 := Nat.pow_lt_pow_right (a := 2) (m := r) (n := 31) (by decide) (by omega)
      refine h _ (EM_s (by omega)) ⟨fun g hg => ?_, ?_⟩ (fun c hc _ => sup_fr hc) (fun j hj => sup_i hj)
      · rw [sup_fr (by decide), eo, sup_c (by decide)]; exact hB.1 g hg
      · rw [sup_e, hB.2, ishl_1 (by omega), ior_nn hml hp, eo]
        congr 1
        symm
        refine mk_eq (fun i => ?_)
        rw [Nat.testBit_or, mk_bit, Nat.testBit_two_pow]
        by_cases ei : i = r
        · subst ei
          rw [sup_e]
          simp [hr]
        · rw [sup_i ei]
          simp [Ne.symm ei]
    · rw [if_neg (by omega)]
      have eo : opn T r E = fun k j => if k = 3 ∧ j < gN T then mdF T r j (E 3 j) else if k = 2 ∧ j = r then 0 else E k j := by unfold opn; rw [if_neg c]
      have e29 : (mk (fun q => decide (opn T r E 2 q = 1)) (rN T) : Int) = (mk (fun q => decide (E 2 q = 1)) (rN T) : Int) := by
        rw [eo]
        congr 1
        refine mk_congr (fun i hi => ?_)
        by_cases ei : i = r
        · subst ei; simp [h2]
        · simp [ei]
      refine upto (p := fun i => ∀ σi : Sto, EM σ σi → (∀ g, g < gN T → σi 53 g = if g < i then mdF T r g (E 3 g) else E 3 g) → (∀ c, c ≠ 53 → σi c = σ c) → X 88 [some (vR 39), some (vI (r : Int)), some (vI (mk (hb T r) (gN T) : Int)), none, some (vI (i : Int)), none] [] σi) (gN T) (fun i hi ih => ?_) ?_ σ (EM_r σ) (fun g hg => by rw [if_neg (by omega)]; exact hB.1 g hg) (fun _ _ => rfl)
      · intro σi k1 k2 k3
        have hTi : tb σi 39 = T := (EM_T k1).trans hT
        refine b_Mo_opens_88 hX ?_
        rw [b7 hTi, if_pos (by omega)]
        have em : ∀ x, mdF T r i x = if hb T r i = true then max 0 (min 40 (x + (if lb T i (tpc T r) = true then morT T r else -lesT T r))) else x := fun _ => rfl
        have h40 := hm i (by omega)
        have b3 := morT_b w hr7
        have b4 := lesT_b w hr7
        have fin : ∀ v, v = mdF T r i (E 3 i) → X 88 [some (vR 39), some (vI (r : Int)), some (vI (mk (hb T r) (gN T) : Int)), none, some (vI ((i + 1 : Nat) : Int)), none] [] (sup σi 53 i v) := by
          intro v hv
          refine ih _ (EM_tr k1 (EM_c (by omega))) (fun g hg => ?_) (fun c hc => by rw [sup_fr hc]; exact k3 c hc)
          by_cases e : g = i
          · subst e; rw [sup_e, if_pos (by omega), hv]
          · rw [sup_i e, k2 g hg]
            by_cases e2 : g < i
            · rw [if_pos e2, if_pos (by omega)]
            · rw [if_neg e2, if_neg (by omega)]
        have fin0 : mdF T r i (E 3 i) = E 3 i → X 88 [some (vR 39), some (vI (r : Int)), some (vI (mk (hb T r) (gN T) : Int)), none, some (vI ((i + 1 : Nat) : Int)), none] [] σi := by
          intro hv
          have := fin (σi 53 i) (by rw [k2 i hi, if_neg (by omega), hv])
          rwa [sup_self] at this
        refine m_has hmh (by omega) (fun t1 => ?_) (fun t0 => ?_)
        · refine b_Mo_opens_103 hX ?_
          rw [mk_bit, decide_eq_true hi, Bool.true_and] at t1
          rw [if_neg (by decide)]
          refine ⟨by omega, by omega, ?_⟩
          rw [Int.toNat_natCast, Int.toNat_natCast, show σi 40 i = T 0 i from a0 hTi (by omega), show σi 45 r = T 5 r from a5 hTi hr7, (hlk i (by omega)).2, ht.2, k2 i hi, if_neg (by omega)]
          have em2 := em (E 3 i)
          rw [if_pos t1] at em2
          refine m_has (hlk i (by omega)).1 ht.1 (fun q1 => ?_) (fun q0 => ?_)
          · refine b_Mo_opens_132 hX ?_
            rw [if_neg (by decide)]
            refine m_more hTi w hr (b_Mo_opens_140 hX ?_)
            rw [if_pos (show lb T i (tpc T r) = true from q1)] at em2
            rw [w32_id (x := E 3 i + morT T r) (by omega) (by omega), w32_s i (by omega), Int.toNat_natCast]
            by_cases c1 : E 3 i + morT T r < 0
            · rw [if_pos c1]; exact ⟨by omega, fin _ (by omega)⟩
            · rw [if_neg c1]
              by_cases c2 : 40 < E 3 i + morT T r
              · rw [if_pos c2]; exact ⟨by omega, fin _ (by omega)⟩
              · rw [if_neg c2]; exact ⟨by omega, fin _ (by omega)⟩
          · refine b_Mo_opens_132 hX ?_
            rw [if_pos rfl]
            refine m_less hTi w hr (b_Mo_opens_148 hX ?_)
            rw [if_neg (show ¬ lb T i (tpc T r) = true by unfold lb; rw [q0]; decide)] at em2
            rw [w32_id (x := -lesT T r) (by omega) (by omega), w32_id (x := E 3 i + -lesT T r) (by omega) (by omega), w32_s i (by omega), Int.toNat_natCast]
            by_cases c1 : E 3 i + -lesT T r < 0
            · rw [if_pos c1]; exact ⟨by omega, fin _ (by omega)⟩
            · rw [if_neg c1]
              by_cases c2 : 40 < E 3 i + -lesT T r
              · rw [if_pos c2]; exact ⟨by omega, fin _ (by omega)⟩
              · rw [if_neg c2]; exact ⟨by omega, fin _ (by omega)⟩
        · refine b_Mo_opens_103 hX ?_
          rw [mk_bit, decide_eq_true hi, Bool.true_and] at t0
          rw [if_pos rfl, w32_s i (by omega)]
          exact fin0 (by rw [em, if_neg (by rw [t0]; decide)])
      · intro σi k1 k2 k3
        have hTi : tb σi 39 = T := (EM_T k1).trans hT
        refine b_Mo_opens_88 hX ?_
        rw [b7 hTi, if_neg (by omega)]
        refine h σi k1 ⟨fun g hg => ?_, ?_⟩ (fun c _ hc => k3 c hc) (fun j _ => by rw [k3 39 (by decide)])
        · rw [k2 g hg, if_pos hg, eo]
          simp [hg]
        · rw [e29, k3 39 (by decide)]; exact hB.2
end MO
