/-! The table's writers. -/
theorem sup_fr {σ : Sto} {c i c' : Nat} {v : Int} (h : c' ≠ c) : sup σ c i v c' = σ c' := by funext j; simp [sup, h]
theorem sup_self {σ : Sto} {c i : Nat} : sup σ c i (σ c i) = σ := by
  funext c' j
  simp only [sup]
  split
  · rename_i h; rw [h.1, h.2]
  · rfl
section TW
variable {d : Nat} {o u : Nat} {σ : Sto} {Q : PQ} {T : Tab}
theorem ts0 {r : Nat} {v : Int} (hr : r < 6) : tb (sup σ (o + 1) r v) o = sup (tb σ o) 0 r v := tb_sup (k := 0) (by decide) hr
theorem ts1 {r : Nat} {v : Int} (hr : r < 6) : tb (sup σ (o + 2) r v) o = sup (tb σ o) 1 r v := tb_sup (k := 1) (by decide) hr
theorem ts2 {r : Nat} {v : Int} (hr : r < 7) : tb (sup σ (o + 3) r v) o = sup (tb σ o) 2 r v := tb_sup (k := 2) (by decide) hr
theorem ts3 {r : Nat} {v : Int} (hr : r < 7) : tb (sup σ (o + 4) r v) o = sup (tb σ o) 3 r v := tb_sup (k := 3) (by decide) hr
theorem ts4 {r : Nat} {v : Int} (hr : r < 7) : tb (sup σ (o + 5) r v) o = sup (tb σ o) 4 r v := tb_sup (k := 4) (by decide) hr
theorem ts5 {r : Nat} {v : Int} (hr : r < 7) : tb (sup σ (o + 6) r v) o = sup (tb σ o) 5 r v := tb_sup (k := 5) (by decide) hr
theorem ts6 {r : Nat} {v : Int} (hr : r < 7) : tb (sup σ (o + 7) r v) o = sup (tb σ o) 6 r v := tb_sup (k := 6) (by decide) hr
theorem ts7 {v : Int} : tb (sup σ o 7 v) o = sup (tb σ o) 7 0 v := tb_sup2 (by decide) (by decide)
theorem ts8 {v : Int} : tb (sup σ o 8 v) o = sup (tb σ o) 8 0 v := tb_sup2 (by decide) (by decide)
theorem ts9 {v : Int} : tb (sup σ o 9 v) o = sup (tb σ o) 9 0 v := tb_sup2 (by decide) (by decide)
theorem ts10 {v : Int} : tb (sup σ o 10 v) o = sup (tb σ o) 10 0 v := tb_sup2 (by decide) (by decide)
/-- outside a table at o -/
def out (o c : Nat) : Prop := c < o ∨ o + 7 < c
theorem s_copyFrom (ho : isT o) (hu : isT u) (hne : o ≠ u) (h : ∀ σ' : Sto, tb σ' o = tb σ u → (∀ c, out o c → σ' c = σ c) → Q none σ') : P (d + 1) 8 [vR o, vR u] σ Q := by
  have dis : o + 7 < u ∨ u + 7 < o := by unfold isT at ho hu; omega
  refine e_Tb_copyFrom fun X hX => b_Tb_copyFrom_0 hX ho hu hne ?_
  refine upto (p := fun i => ∀ σi : Sto, (∀ j, j < i → σi (o + 1) j = σ (u + 1) j ∧ σi (o + 2) j = σ (u + 2) j) → (∀ c, c ≠ o + 1 → c ≠ o + 2 → σi c = σ c) → X 2 [some (vR o), some (vR u), some (vI (i : Int))] [] σi) 6 (fun i hi ih => ?_) ?_ σ (fun j hj => absurd hj (by omega)) (fun _ _ _ => rfl)
  · intro σi h1 h2
    refine b_Tb_copyFrom_2 hX ho hu hne ?_
    rw [if_pos (by omega)]
    refine ⟨by omega, ?_⟩
    rw [Int.toNat_natCast, w32_s i (by omega)]
    refine ih _ (fun j hj => ?_) (fun c hc1 hc2 => ?_)
    · have e1 : σi (u + 1) = σ (u + 1) := h2 _ (by omega) (by omega)
      have e2 : σi (u + 2) = σ (u + 2) := h2 _ (by omega) (by omega)
      by_cases e : j = i
      · subst e
        refine ⟨?_, ?_⟩
        · rw [sup_fr (by omega), sup_e, e1]
        · rw [sup_e, e2]
      · have := h1 j (by omega)
        refine ⟨?_, ?_⟩
        · rw [sup_fr (by omega), sup_i e]; exact this.1
        · rw [sup_i e, sup_fr (by omega)]; exact this.2
    · rw [sup_fr hc2, sup_fr hc1]; exact h2 c hc1 hc2
  · intro σ1 h1 h2
    refine b_Tb_copyFrom_2 hX ho hu hne ?_
    rw [if_neg (by omega)]
    refine upto (p := fun i => ∀ σi : Sto, (∀ j, j < i → σi (o + 3) j = σ (u + 3) j ∧ σi (o + 4) j = σ (u + 4) j ∧ σi (o + 5) j = σ (u + 5) j ∧ σi (o + 6) j = σ (u + 6) j ∧ σi (o + 7) j = σ (u + 7) j) → (∀ c, (c < o + 3 ∨ o + 7 < c) → σi c = σ1 c) → X 40 [some (vR o), some (vR u), some (vI (i : Int))] [] σi) 7 (fun i hi ih => ?_) ?_ σ1 (fun j hj => absurd hj (by omega)) (fun _ _ => rfl)
    · intro σi h3 h4
      refine b_Tb_copyFrom_40 hX ho hu hne ?_
      rw [if_pos (by omega)]
      refine ⟨by omega, ?_⟩
      rw [Int.toNat_natCast, w32_s i (by omega)]
      have eu : ∀ k, σi (u + k + 3) = σ (u + k + 3) ∨ 4 < k := fun k => by
        by_cases hk : k ≤ 4
        · exact Or.inl ((h4 _ (by omega)).trans (h2 _ (by omega) (by omega)))
        · exact Or.inr (by omega)
      have f3 : σi (u + 3) = σ (u + 3) := (h4 _ (by omega)).trans (h2 _ (by omega) (by omega))
      have f4 : σi (u + 4) = σ (u + 4) := (h4 _ (by omega)).trans (h2 _ (by omega) (by omega))
      have f5 : σi (u + 5) = σ (u + 5) := (h4 _ (by omega)).trans (h2 _ (by omega) (by omega))
      have f6 : σi (u + 6) = σ (u + 6) := (h4 _ (by omega)).trans (h2 _ (by omega) (by omega))
      have f7 : σi (u + 7) = σ (u + 7) := (h4 _ (by omega)).trans (h2 _ (by omega) (by omega))
      refine ih _ (fun j hj => ?_) (fun c hc => ?_)
      · by_cases e : j = i
        · subst e
          simp [sup, f3, f4, f5, f6, f7]
        · have := h3 j (by omega)
          simp [sup, e, this]
      · rw [sup_fr (by omega), sup_fr (by omega), sup_fr (by omega), sup_fr (by omega), sup_fr (by omega)]
        exact h4 c hc
    · intro σ2 h3 h4
      refine b_Tb_copyFrom_40 hX ho hu hne ?_
      rw [if_neg (by omega)]
      have gu : σ2 u = σ u := (h4 _ (by omega)).trans (h2 _ (by omega) (by omega))
      refine h _ (tb_cp (fun k hk j hj => ?_) (fun k h7 h11 => ?_)) (fun c hc => ?_)
      · have fr : ∀ c, c ≠ o → sup (sup (sup (sup σ2 o 7 (σ2 u 7)) o 8 (σ2 u 8)) o 9 (σ2 u 9)) o 10 (σ2 u 10) c = σ2 c := fun c hc => by
          rw [sup_fr hc, sup_fr hc, sup_fr hc, sup_fr hc]
        rw [fr _ (by omega)]
        match k, hk with
        | 0, _ => exact (congrFun (h4 (o + 1) (by omega)) j).trans (h1 j hj).1
        | 1, _ => exact (congrFun (h4 (o + 2) (by omega)) j).trans (h1 j hj).2
        | 2, _ => exact (h3 j hj).1
        | 3, _ => exact (h3 j hj).2.1
        | 4, _ => exact (h3 j hj).2.2.1
        | 5, _ => exact (h3 j hj).2.2.2.1
        | 6, _ => exact (h3 j hj).2.2.2.2
      · rcases (show k = 7 ∨ k = 8 ∨ k = 9 ∨ k = 10 by omega) with rfl | rfl | rfl | rfl <;> simp [sup, gu]
      · unfold out at hc
        rw [sup_fr (by omega), sup_fr (by omega), sup_fr (by omega), sup_fr (by omega), h4 c (by omega), h2 c (by omega) (by omega)]
theorem s_seat (ho : isT o) (hT : tb σ o = T) (w : WT T) {a b : Int} (h1 : T 7 0 < 6 → a ≤ 255 → b ≤ 40 → ∀ σ', tb σ' o = sup (sup (sup T 0 (gN T) a) 1 (gN T) b) 7 0 (T 7 0 + 1) → (∀ c, out o c → σ' c = σ c) → Q (some (vI 1)) σ')
    (h0 : ¬ (T 7 0 < 6 ∧ a ≤ 255 ∧ b ≤ 40) → Q (some (vI 0)) σ) : P (d + 1) 12 [vR o, vI a, vI b] σ Q := by
  have hG := WT_g w
  refine e_Tb_seat fun X hX => b_Tb_seat_0 hX ho ?_
  rw [b7 hT]
  split
  · split
    · exact h0 (by omega)
    · split
      · exact h0 (by omega)
      · refine ⟨by omega, ?_⟩
        refine h1 (by omega) (by omega) (by omega) _ ?_ (fun c hc => ?_)
        · have hg : (T 7 0).toNat < 6 := by omega
          rw [ts7, ts1 hg, ts0 hg, hT, w32_id (by omega) (by omega)]
          rfl
        · unfold out at hc
          rw [sup_fr (by omega), sup_fr (by omega), sup_fr (by omega)]
  · exact h0 (by omega)
theorem s_bring (ho : isT o) (hT : tb σ o = T) (w : WT T) {a b g t m : Int} (h1 : T 8 0 < 7 → 0 ≤ g → g < T 7 0 → t < 8 → m ≤ 59 → ∀ σ', tb σ' o = sup (sup (sup (sup (sup (sup T 2 (rN T) a) 3 (rN T) b) 4 (rN T) g) 5 (rN T) t) 6 (rN T) m) 8 0 (T 8 0 + 1) → (∀ c, out o c → σ' c = σ c) → Q (some (vI 1)) σ')
    (h0 : ¬ (T 8 0 < 7 ∧ (0 ≤ g ∧ g < T 7 0) ∧ t < 8 ∧ m ≤ 59) → Q (some (vI 0)) σ) : P (d + 2) 13 [vR o, vI a, vI b, vI g, vI t, vI m] σ Q := by
  have hR := WT_r w
  refine e_Tb_bring fun X hX => b_Tb_bring_0 hX ho ?_
  rw [b8 hT]
  split
  · refine s_hasGuest ho hT (fun p1 p2 => ?_) (fun p => ?_)
    · refine b_Tb_bring_14 hX ho ?_
      rw [if_neg (by decide), b8 hT]
      split
      · split
        · exact h0 (by omega)
        · refine ⟨by omega, ?_⟩
          refine h1 (by omega) p1 p2 (by omega) (by omega) _ ?_ (fun c hc => ?_)
          · have hg : (T 8 0).toNat < 7 := by omega
            rw [ts8, ts6 hg, ts5 hg, ts4 hg, ts3 hg, ts2 hg, hT, w32_id (by omega) (by omega)]
            rfl
          · unfold out at hc
            rw [sup_fr (by omega), sup_fr (by omega), sup_fr (by omega), sup_fr (by omega), sup_fr (by omega), sup_fr (by omega)]
      · exact h0 (by omega)
    · refine b_Tb_bring_14 hX ho ?_
      rw [if_pos rfl]
      exact h0 (by omega)
  · exact h0 (by omega)
theorem s_hire (ho : isT o) (hT : tb σ o = T) {a : Int} (h1 : 1 ≤ a → a ≤ 3 → ∀ σ', tb σ' o = sup T 9 0 a → (∀ c, out o c → σ' c = σ c) → Q (some (vI 1)) σ') (h0 : ¬ (1 ≤ a ∧ a ≤ 3) → Q (some (vI 0)) σ) : P (d + 1) 14 [vR o, vI a] σ Q := by
  refine e_Tb_hire fun X hX => b_Tb_hire_0 hX ho ?_
  split
  · exact h0 (by omega)
  · split
    · exact h0 (by omega)
    · exact h1 (by omega) (by omega) _ (by rw [ts9, hT]) (fun c hc => by unfold out at hc; rw [sup_fr (by omega)])
theorem s_charge (ho : isT o) (hT : tb σ o = T) {a : Int} (h1 : ∀ σ', tb σ' o = sup T 10 0 a → (∀ c, out o c → σ' c = σ c) → Q (some (vI 1)) σ') : P (d + 1) 15 [vR o, vI a] σ Q := by
  refine e_Tb_charge fun X hX => b_Tb_charge_0 hX ho ?_
  exact h1 _ (by rw [ts10, hT]) (fun c hc => by unfold out at hc; rw [sup_fr (by omega)])
theorem s_humour (ho : isT o) (hT : tb σ o = T) (w : WT T) {g a : Int} (h1 : 0 ≤ g → g < T 7 0 → a ≤ 40 → ∀ σ', tb σ' o = sup T 1 g.toNat a → (∀ c, out o c → σ' c = σ c) → Q (some (vI 1)) σ') (h0 : ¬ ((0 ≤ g ∧ g < T 7 0) ∧ a ≤ 40) → Q (some (vI 0)) σ) : P (d + 2) 16 [vR o, vI g, vI a] σ Q := by
  have hG := WT_g w
  refine e_Tb_humour fun X hX => b_Tb_humour_0 hX ho ?_
  refine s_hasGuest ho hT (fun p1 p2 => ?_) (fun p => ?_)
  · refine b_Tb_humour_5 hX ho ?_
    rw [if_neg (by decide)]
    split
    · exact h0 (by omega)
    · refine ⟨by omega, ?_⟩
      exact h1 p1 p2 (by omega) _ (by rw [ts1 (by omega), hT]) (fun c hc => by unfold out at hc; rw [sup_fr (by omega)])
  · refine b_Tb_humour_5 hX ho ?_
    rw [if_pos rfl]
    exact h0 (by omega)
theorem swB_fr {a b : Int} : ∀ (n k j : Nat), k ≠ 4 → swB a b T n k j = T k j
  | 0, _, _, _ => rfl
  | n + 1, k, j, h => by
    show sup _ 4 n _ k j = _
    rw [sup_c h]
    exact swB_fr n k j h
theorem s_changeSeats (ho : isT o) (hT : tb σ o = T) (w : WT T) {a b : Int} (h1 : 0 ≤ a → a < T 7 0 → 0 ≤ b → b < T 7 0 → a ≠ b → ∀ σ', tb σ' o = swp T a.toNat b.toNat → (∀ c, out o c → σ' c = σ c) → Q (some (vI 1)) σ')
    (h0 : ¬ ((0 ≤ a ∧ a < T 7 0) ∧ (0 ≤ b ∧ b < T 7 0) ∧ a ≠ b) → Q (some (vI 0)) σ) : P (d + 3) 17 [vR o, vI a, vI b] σ Q := by
  have hG := WT_g w
  have hR := WT_r w
  refine e_Tb_changeSeats fun X hX => b_Tb_changeSeats_0 hX ho ?_
  refine s_hasTwo ho hT (fun p1 p2 p3 p4 p5 => ?_) (fun p => ?_)
  · refine b_Tb_changeSeats_6 hX ho ?_
    rw [if_neg (by decide)]
    refine ⟨by omega, by omega, ?_⟩
    have ha : a.toNat < 6 := by omega
    have hb : b.toNat < 6 := by omega
    rw [a0 hT ha, a0 hT hb, a1 hT ha, a1 hT hb]
    generalize hT1 : sup (sup (sup (sup T 0 a.toNat (T 0 b.toNat)) 1 a.toNat (T 1 b.toNat)) 0 b.toNat (T 0 a.toNat)) 1 b.toNat (T 1 a.toNat) = T1
    have e4 : ∀ j, T1 4 j = T 4 j := fun j => by rw [← hT1, sup_c (by decide), sup_c (by decide), sup_c (by decide), sup_c (by decide)]
    have e8 : T1 8 0 = T 8 0 := by rw [← hT1, sup_c (by decide), sup_c (by decide), sup_c (by decide), sup_c (by decide)]
    refine upto (p := fun i => ∀ σi : Sto, tb σi o = swB a b T1 i → (∀ c, out o c → σi c = σ c) → X 68 [some (vR o), some (vI a), some (vI b), none, none, some (vI (i : Int))] [] σi) (rN T) (fun i hi ih => ?_) ?_ _ (by rw [ts1 hb, ts0 hb, ts1 ha, ts0 ha, hT, hT1]; rfl) (fun c hc => by unfold out at hc; rw [sup_fr (by omega), sup_fr (by omega), sup_fr (by omega), sup_fr (by omega)])
    · intro σi hi1 hi2
      refine b_Tb_changeSeats_68 hX ho ?_
      have h7 : i < 7 := by omega
      rw [b8 hi1, swB_fr _ _ _ (by decide), e8, if_pos (by omega)]
      refine ⟨by omega, ?_⟩
      have e5 : swB a b T1 i 4 i = T1 4 i := by
        have key : ∀ n j, n ≤ j → swB a b T1 n 4 j = T1 4 j := by
          intro n
          induction n with
          | zero => intros; rfl
          | succ n ihn =>
            intro j hj
            show sup _ 4 n _ 4 j = _
            rw [sup_i (by omega)]
            exact ihn j (by omega)
        exact key i i (Nat.le_refl i)
      rw [Int.toNat_natCast, a4 hi1 h7, e5, w32_s i (by omega)]
      have fin : ∀ v : Int, (if T1 4 i = a then b else if T1 4 i = b then a else T1 4 i) = v → X 68 [some (vR o), some (vI a), some (vI b), none, none, some (vI ((i + 1 : Nat) : Int))] [] (sup σi (o + 5) i v) := by
        intro v hv
        refine ih _ ?_ (fun c hc => ?_)
        · rw [ts4 h7, hi1]
          show _ = sup _ 4 i _
          rw [hv]
        · have := hi2 c hc
          unfold out at hc
          rw [sup_fr (by omega)]; exact this
      by_cases q1 : T1 4 i = a
      · rw [if_pos q1]
        exact fin b (by rw [if_pos q1])
      · rw [if_neg q1]
        by_cases q2 : T1 4 i = b
        · rw [if_pos q2]
          exact fin a (by rw [if_neg q1, if_pos q2])
        · rw [if_neg q2]
          have := fin (T1 4 i) (by rw [if_neg q1, if_neg q2])
          have e6 : T1 4 i = σi (o + 5) i := by rw [a4 hi1 h7, e5]
          rw [e6, sup_self] at this
          exact this
    · intro σi hi1 hi2
      refine b_Tb_changeSeats_68 hX ho ?_
      rw [b8 hi1, swB_fr _ _ _ (by decide), e8, if_neg (by omega)]
      refine h1 p1 p2 p3 p4 p5 σi ?_ hi2
      rw [hi1]
      unfold swp
      rw [hT1, show ((a.toNat : Nat) : Int) = a by omega, show ((b.toNat : Nat) : Int) = b by omega]
  · refine b_Tb_changeSeats_6 hX ho ?_
    rw [if_pos rfl]
    exact h0 (by omega)
end TW
