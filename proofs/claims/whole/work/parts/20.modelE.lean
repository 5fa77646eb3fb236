/-! The model's evening: minute by minute, to the same words. -/
theorem cnt_upd {p p' : Nat → Bool} {i : Nat} (h : ∀ j, j ≠ i → p' j = p j) (hp : p i = false) : ∀ {n : Nat}, i < n → cnt p' n = cnt p n + (if p' i = true then 1 else 0)
  | 0, hn => absurd hn (by omega)
  | n + 1, hn => by
    rw [cnt_s, cnt_s]
    by_cases e : i = n
    · subst e
      rw [cnt_congr (p := p') (q := p) (fun j hj => h j (by omega)), hp]
      simp
    · rw [cnt_upd h hp (n := n) (by omega), h n (by omega)]
      omega
theorem cnt_not {p q : Nat → Bool} (h : ∀ j, q j = !p j) : ∀ n : Nat, cnt q n = n - cnt p n
  | 0 => rfl
  | n + 1 => by
    rw [cnt_s, cnt_s, cnt_not h n, h n]
    cases p n <;> simp <;> omega
theorem cnt_split (p q : Nat → Bool) : ∀ n, cnt p n = cnt (fun i => p i && q i) n + cnt (fun i => p i && !q i) n
  | 0 => rfl
  | n + 1 => by
    rw [cnt_s, cnt_s, cnt_s, cnt_split p q n]
    cases p n <;> cases q n <;> simp <;> omega
/-- what an evening of the model may change -/
def EM (σ σ' : Sto) : Prop := (∀ c, c ≠ 39 → (c < 53 ∨ 57 < c) → σ' c = σ c) ∧ ∀ j, (j < 28 ∨ 31 < j) → σ' 39 j = σ 39 j
theorem EM_r (σ : Sto) : EM σ σ := ⟨fun _ _ _ => rfl, fun _ _ => rfl⟩
theorem EM_tr {σ σ1 σ2 : Sto} (h : EM σ σ1) (h2 : EM σ1 σ2) : EM σ σ2 := ⟨fun c a b => (h2.1 c a b).trans (h.1 c a b), fun j a => (h2.2 j a).trans (h.2 j a)⟩
theorem EM_T {σ σ' : Sto} (h : EM σ σ') : tb σ' 39 = tb σ 39 := by
  funext k' j
  simp only [tb]
  by_cases h1 : k' < 7
  · simp only [if_pos h1, h.1 (39 + 1 + k') (by omega) (by omega)]
  · simp only [if_neg h1]
    by_cases h2 : k' < 11
    · rw [h.2 k' (by omega)]
    · simp only [if_neg h2]
theorem EM_c {σ : Sto} {c i : Nat} {v : Int} (h : 53 ≤ c ∧ c ≤ 57) : EM σ (sup σ c i v) := ⟨fun c' _ _ => sup_fr (by omega), fun j _ => by rw [sup_fr (by omega)]⟩
theorem EM_s {σ : Sto} {i : Nat} {v : Int} (h : 28 ≤ i ∧ i ≤ 31) : EM σ (sup σ 39 i v) := ⟨fun c' h1 _ => sup_fr h1, fun j _ => sup_i (by omega)⟩
section ME
variable {d : Nat} {σ : Sto} {Q : PQ} {T E : Tab} {lo : Nat}
theorem m_all (hT : tb σ 39 = T) (w : WT T) (hm : ∀ g, g < gN T → σ 53 g = E 3 g ∧ 0 ≤ E 3 g ∧ E 3 g ≤ 40) (h : Q (some (vI (sm (E 3) (gN T)))) σ) : P (d + 1) 150 [vR 39] σ Q := by
  have hG := WT_g w
  refine e_Mo_all fun X hX => b_Mo_all_0 hX ?_
  refine upto (p := fun i => X 4 [some (vR 39), some (vI (sm (E 3) i)), some (vI (i : Int))] [] σ) (gN T) (fun i hi ih => ?_) ?_
  · refine b_Mo_all_4 hX ?_
    have hb := sm_le (f := E 3) (c := 40) (n := i) (fun k hk => (hm k (by omega)).2.2)
    have hb2 := sm_ge (f := E 3) (n := i) (fun k hk => (hm k (by omega)).2.1)
    have hi2 := hm i hi
    rw [b7 hT, if_pos (by omega)]
    refine ⟨by omega, ?_⟩
    rw [Int.toNat_natCast, hi2.1, w32_s i (by omega), w32_id (by omega) (by omega)]
    exact ih
  · refine b_Mo_all_4 hX ?_
    rw [b7 hT, if_neg (by omega)]
    exact h
theorem m_next {m : Int} (hT : tb σ 39 = T) (w : WT T) (hE : ∀ r, r < rN T → σ 54 r = E 0 r ∧ (E 0 r = -9 ∨ 0 ≤ E 0 r)) (hlo : lo < 128) (hl : σ 39 28 = (lo : Int)) (h : Q (some (vI (nxt T E lo m (rN T)))) σ) : P (d + 2) 147 [vR 39, vI m] σ Q := by
  have hR := WT_r w
  refine e_Mo_nextReady fun X hX => b_Mo_nextReady_0 hX ?_
  refine upto (p := fun i => X 5 [some (vR 39), some (vI m), some (vI (nxt T E lo m i)), some (vI (i : Int))] [] σ) (rN T) (fun i hi ih => ?_) ?_
  · refine b_Mo_nextReady_5 hX ?_
    have h7 : i < 7 := by omega
    have hb := nxt_b (T := T) (E := E) (lo := lo) (m := m) i
    have e : nxt T E lo m (i + 1) = if E 0 i = -9 ∧ lo.testBit i = false ∧ T 6 i ≤ m ∧ (nxt T E lo m i < 0 ∨ T 6 i < T 6 (nxt T E lo m i).toNat) then (i : Int) else nxt T E lo m i := rfl
    rw [b8 hT, if_pos (by omega), hl]
    refine m_has (by omega) (by omega) (fun hb1 => ?_) (fun hb0 => ?_)
    · refine b_Mo_nextReady_21 hX ?_
      rw [if_neg (by decide), w32_s i (by omega)]
      rw [e, if_neg (fun z => by rw [hb1] at z; exact absurd z.2.1 (by decide))] at ih
      exact ih
    · refine b_Mo_nextReady_21 hX ?_
      have hi2 := hE i hi
      rw [if_pos rfl]
      refine ⟨by omega, ?_⟩
      rw [Int.toNat_natCast, hi2.1, w32_s i (by omega), show σ 46 i = T 6 i from a6 hT h7]
      by_cases c0 : E 0 i < 0
      · rw [if_pos c0]
        by_cases c1 : m < T 6 i
        · rw [if_pos c1]
          rw [e, if_neg (fun z => by omega)] at ih
          exact ih
        · rw [if_neg c1]
          by_cases c2 : nxt T E lo m i < 0
          · rw [if_pos c2]
            rw [e, if_pos ⟨by omega, hb0, by omega, Or.inl c2⟩] at ih
            exact ih
          · rw [if_neg c2]
            refine ⟨by omega, ?_⟩
            rw [show σ 46 (nxt T E lo m i).toNat = T 6 (nxt T E lo m i).toNat from a6 hT (by omega)]
            by_cases c3 : T 6 i < T 6 (nxt T E lo m i).toNat
            · rw [if_pos c3]
              rw [e, if_pos ⟨by omega, hb0, by omega, Or.inr c3⟩] at ih
              exact ih
            · rw [if_neg c3]
              rw [e, if_neg (fun z => z.2.2.2.elim c2 c3)] at ih
              exact ih
      · rw [if_neg c0]
        rw [e, if_neg (fun z => by omega)] at ih
        exact ih
  · refine b_Mo_nextReady_5 hX ?_
    rw [b8 hT, if_neg (by omega)]
    exact h
/-- the waiters' clocks say how many remarks are under way -/
def FA (σ : Sto) (T E : Tab) (m : Int) : Prop := ∀ t : Int, m ≤ t → cnt (fun v => decide (t < σ 56 v)) (T 9 0).toNat = cnt (fun r => decide (E 0 r ≠ -9) && decide (t < E 1 r)) (rN T)
def TK (σ : Sto) (T E : Tab) : Prop := ∀ r, r < rN T → σ 54 r = E 0 r ∧ σ 55 r = opF E 60 r
theorem bsy_FA {m : Int} (hK : EK T E m) (w : WT T) : bsy T E m = cnt (fun r => decide (E 0 r ≠ -9) && decide (m < E 1 r)) (rN T) := by
  have hR := WT_r w
  unfold bsy
  refine cnt_congr (fun r hr => ?_)
  unfold uw
  rcases (hK.1 r (by omega)).1 with z | z
  · rw [z.1]; rfl
  · rw [decide_eq_true (p := E 0 r ≤ m) (by omega), Bool.true_and]
theorem m_takes {m : Nat} (hT : tb σ 39 = T) (w : WT T) (hE : TK σ T E) (hK : EK T E m) (hF : FA σ T E m) (hlo : lo < 128) (hl : σ 39 28 = (lo : Int)) (hm : m < 60) (h3 : 0 ≤ σ 39 30 ∧ σ 39 30 ≤ 100) (h4 : 0 ≤ σ 39 31 ∧ σ 39 31 ≤ 100)
    (h : ∀ σ', EM σ σ' → TK σ' T (tks T lo m (T 9 0 - bsy T E m).toNat E) → FA σ' T (tks T lo m (T 9 0 - bsy T E m).toNat E) m → σ' 39 30 = σ 39 30 + (if decide (1 ≤ bsy T (tks T lo m (T 9 0 - bsy T E m).toNat E) m) = true then 1 else 0) → σ' 39 31 = σ 39 31 + (if decide (T 9 0 ≤ bsy T (tks T lo m (T 9 0 - bsy T E m).toNat E) m) = true then 1 else 0) →
      σ' 39 28 = σ 39 28 → σ' 39 29 = σ 39 29 → σ' 53 = σ 53 → σ' 57 = σ 57 → Q none σ') : P (d + 3) 148 [vR 39, vI (m : Int)] σ Q := by
  have hR := WT_r w
  have hW := w.2.2.1
  obtain ⟨W, hWe⟩ : ∃ W : Nat, T 9 0 = (W : Int) := ⟨(T 9 0).toNat, by omega⟩
  have hWn : (T 9 0).toNat = W := by omega
  refine e_Mo_takes fun X hX => b_Mo_takes_0 hX ?_
  refine upto (p := fun i => ∀ σi : Sto, EM σ σi → σi 39 = σ 39 → σi 53 = σ 53 → σi 57 = σ 57 → (∀ v, i ≤ v → σi 56 v = σ 56 v) → TK σi T (tks T lo m (cnt (fun v => decide (σ 56 v ≤ m)) i).toNat E) → FA σi T (tks T lo m (cnt (fun v => decide (σ 56 v ≤ m)) i).toNat E) m →
      X 4 [some (vR 39), some (vI (m : Int)), some (vI (cnt (fun v => decide ((m : Int) < σi 56 v)) i)), some (vI (i : Int)), none] [] σi) W (fun i hi ih => ?_) ?_ σ (EM_r σ) rfl rfl rfl (fun _ _ => rfl) hE hF
  · intro σi k1 k2 k3 k4 k5 k6 k7
    have hTi : tb σi 39 = T := (EM_T k1).trans hT
    have hc := cnt_b (fun v => decide ((m : Int) < σi 56 v)) i
    have hc2 := cnt_b (fun v => decide (σ 56 v ≤ m)) i
    refine b_Mo_takes_4 hX ?_
    rw [b9 hTi, if_pos (by omega)]
    refine ⟨by omega, ?_⟩
    rw [Int.toNat_natCast, w32_s i (by omega), k5 i (Nat.le_refl i)]
    by_cases c0 : (m : Int) < σ 56 i
    · rw [if_pos c0, w32_id (by omega) (by omega)]
      have e1 : cnt (fun v => decide (σ 56 v ≤ m)) (i + 1) = cnt (fun v => decide (σ 56 v ≤ m)) i := by
        rw [cnt_s, decide_eq_false (by omega)]; simp
      have fin := ih σi k1 k2 k3 k4 (fun v hv => k5 v (by omega)) (by rw [e1]; exact k6) (by rw [e1]; exact k7)
      rw [cnt_s, k5 i (Nat.le_refl i), decide_eq_true c0, if_pos rfl] at fin
      exact fin
    · rw [if_neg c0]
      have e1 : (cnt (fun v => decide (σ 56 v ≤ m)) (i + 1)).toNat = (cnt (fun v => decide (σ 56 v ≤ m)) i).toNat + 1 := by
        rw [cnt_s, decide_eq_true (by omega), if_pos rfl]; omega
      generalize hEi : tks T lo m (cnt (fun v => decide (σ 56 v ≤ m)) i).toNat E = Ei at *
      have hKi : EK T Ei m := by rw [← hEi]; exact tks_K w hK (by omega) _
      have e2 : tks T lo m (cnt (fun v => decide (σ 56 v ≤ m)) (i + 1)).toNat E = tak1 T lo m Ei := by
        rw [e1, ← hEi]; rfl
      have hsp : ∀ r, r < rN T → σi 54 r = Ei 0 r ∧ (Ei 0 r = -9 ∨ 0 ≤ Ei 0 r) := fun r hr => ⟨(k6 r hr).1, (hKi.1 r (by omega)).1.imp (fun z => z.1) (fun z => z.2.1)⟩
      refine m_next (m := (m : Int)) hTi w hsp hlo (by rw [k2]; exact hl) (b_Mo_takes_27 hX ?_)
      have hb := nxt_b (T := T) (E := Ei) (lo := lo) (m := (m : Int)) (rN T)
      have hw := nxt_w (T := T) (E := Ei) (lo := lo) (m := (m : Int)) (rN T)
      have e3 : tak1 T lo m Ei = if nxt T Ei lo m (rN T) < 0 then Ei else sup (sup Ei 0 (nxt T Ei lo m (rN T)).toNat m) 1 (nxt T Ei lo m (rN T)).toNat (m + minT T (nxt T Ei lo m (rN T)).toNat) := rfl
      generalize nxt T Ei lo m (rN T) = n at *
      by_cases c1 : n < 0
      · rw [if_pos c1]
        refine ⟨by omega, ?_⟩
        rw [Int.toNat_natCast, k5 i (Nat.le_refl i), if_neg c0, w32_s i (by omega), w32_id (by omega) (by omega)]
        rw [if_pos c1] at e3
        have fin := ih σi k1 k2 k3 k4 (fun v hv => k5 v (by omega)) (by rw [e2, e3]; exact k6) (by rw [e2, e3]; exact k7)
        rw [cnt_s, k5 i (Nat.le_refl i), decide_eq_false c0] at fin
        exact fin
      · rw [if_neg c1]
        rw [if_neg c1] at e3
        refine ⟨by omega, ?_⟩
        obtain ⟨q, rfl⟩ : ∃ q : Nat, n = (q : Int) := ⟨n.toNat, by omega⟩
        rw [Int.toNat_natCast] at e3 hw ⊢
        have hq : q < rN T := by omega
        have hq7 : q < 7 := by omega
        have hT2 : tb (sup σi 54 q m) 39 = T := (tb_off (by omega)).trans hTi
        have hmb := minT_b w hq7
        refine m_minutes hT2 w hq (b_Mo_takes_59 hX ?_)
        refine ⟨by omega, by omega, ?_⟩
        rw [Int.toNat_natCast, Int.toNat_natCast, w32_id (x := (m : Int) + minT T q) (by omega) (by omega), w32_s i (by omega), sup_e]
        have fr : ∀ v2 : Int, EM σi (sup (sup (sup σi 54 q m) 56 i (m + minT T q)) 55 q v2) := fun v2 => EM_tr (EM_tr (EM_c (by omega)) (EM_c (by omega))) (EM_c (by omega))
        have hi0 := (hKi.1 q hq7).1
        have hw1 := (hw (by omega)).1
        have h56 : ∀ v2 : Int, ∀ v, sup (sup (sup σi 54 q m) 56 i (m + minT T q)) 55 q v2 56 v = if v = i then m + minT T q else σi 56 v := by
          intro v2 v
          by_cases e : v = i <;> simp [sup, e]
        have fin : ∀ v2 : Int, v2 = opF (tak1 T lo m Ei) 60 q → X 4 [some (vR 39), some (vI (m : Int)), some (vI (cnt (fun v => decide ((m : Int) < σi 56 v)) i + 1)), some (vI ((i + 1 : Nat) : Int)), none] [] (sup (sup (sup σi 54 q m) 56 i (m + minT T q)) 55 q v2) := by
          intro v2 hv2
          have := ih (sup (sup (sup σi 54 q m) 56 i (m + minT T q)) 55 q v2) (EM_tr k1 (fr v2)) (by rw [sup_fr (by decide), sup_fr (by decide), sup_fr (by decide)]; exact k2) (by rw [sup_fr (by decide), sup_fr (by decide), sup_fr (by decide)]; exact k3) (by rw [sup_fr (by decide), sup_fr (by decide), sup_fr (by decide)]; exact k4) (fun v hv => by rw [h56, if_neg (by omega)]; exact k5 v (by omega)) ?_ ?_
          · rw [cnt_s, h56, if_pos rfl, decide_eq_true (by omega), if_pos rfl] at this
            rw [cnt_congr (q := fun v => decide ((m : Int) < σi 56 v)) (fun v hv => by show decide ((m : Int) < sup _ 55 q v2 56 v) = _; rw [h56, if_neg (by omega)])] at this
            exact this
          · rw [e2]
            intro r hr
            refine ⟨?_, ?_⟩
            · rw [sup_fr (by decide), sup_fr (by decide), e3, sup_c (c' := 0) (by decide)]
              by_cases e : r = q
              · subst e; rw [sup_e, sup_e]
              · rw [sup_i e, sup_i e]; exact (k6 r hr).1
            · by_cases e : r = q
              · subst e; rw [sup_e]; exact hv2
              · rw [sup_i e, sup_fr (by decide), sup_fr (by decide), (k6 r hr).2, e3]
                unfold opF
                rw [sup_i e, sup_c (c' := 1) (by decide)]
          · rw [e2]
            intro t ht
            have hft := k7 t ht
            rw [hWn] at hft ⊢
            rw [cnt_upd (p := fun v => decide (t < σi 56 v)) (i := i) (fun v hv => by show decide (t < sup _ 55 q v2 56 v) = _; rw [h56, if_neg hv]) (by rw [k5 i (Nat.le_refl i)]; exact decide_eq_false (by omega)) hi, hft]
            rw [cnt_upd (p' := fun r => decide (tak1 T lo m Ei 0 r ≠ -9) && decide (t < tak1 T lo m Ei 1 r)) (p := fun r => decide (Ei 0 r ≠ -9) && decide (t < Ei 1 r)) (i := q) (fun r hr => by show (decide (tak1 T lo m Ei 0 r ≠ -9) && decide (t < tak1 T lo m Ei 1 r)) = _; rw [e3, sup_c (c' := 0) (by decide), sup_i hr, sup_i hr, sup_c (c' := 1) (by decide)]) (by rw [hw1]; rfl) hq]
            congr 1
            show (if decide (t < sup _ 55 q v2 56 i) = true then (1 : Int) else 0) = if (decide (tak1 T lo m Ei 0 q ≠ -9) && decide (t < tak1 T lo m Ei 1 q)) = true then 1 else 0
            rw [h56, if_pos rfl, e3, sup_c (c' := 0) (by decide), sup_e, sup_e, decide_eq_true (p := (m : Int) ≠ -9) (by omega), Bool.true_and]
        have o1 : opF (tak1 T lo m Ei) 60 q = if (m : Int) + minT T q ≤ 60 then (m : Int) + minT T q else -9 := by
          unfold opF
          rw [e3, sup_e]
        by_cases c2 : 60 < (m : Int) + minT T q
        · rw [if_pos c2]
          refine ⟨by omega, ?_⟩
          rw [if_pos (by omega), w32_id (by omega) (by omega)]
          rw [if_neg (by omega)] at o1
          exact fin _ o1.symm
        · rw [if_neg c2]
          refine ⟨by omega, ?_⟩
          rw [if_pos (by omega), w32_id (by omega) (by omega)]
          rw [if_pos (by omega)] at o1
          exact fin _ o1.symm
  · intro σi k1 k2 k3 k4 k5 k6 k7
    have hTi : tb σi 39 = T := (EM_T k1).trans hT
    have e1 : cnt (fun v => decide (σ 56 v ≤ m)) W = T 9 0 - bsy T E m := by
      rw [cnt_not (p := fun v => decide ((m : Int) < σ 56 v)) (fun j => by by_cases c : (m : Int) < σ 56 j <;> simp [c] <;> omega) W, bsy_FA hK w, ← hF m (Int.le_refl _), hWn, hWe]
    rw [e1] at k6 k7
    have hK2 : EK T (tks T lo m (T 9 0 - bsy T E m).toNat E) m := tks_K w hK (by omega) _
    have e2 : cnt (fun v => decide ((m : Int) < σi 56 v)) W = bsy T (tks T lo m (T 9 0 - bsy T E m).toNat E) m := by
      rw [bsy_FA hK2 w, ← k7 m (Int.le_refl _), hWn]
    have hc := cnt_b (fun v => decide ((m : Int) < σi 56 v)) W
    rw [e2] at hc ⊢
    refine b_Mo_takes_4 hX ?_
    rw [b9 hTi, if_neg (by omega), k2]
    generalize bsy T (tks T lo m (T 9 0 - bsy T E m).toNat E) m = B at *
    have fin : ∀ u v : Int, u = σ 39 30 + (if decide (1 ≤ B) = true then 1 else 0) → v = σ 39 31 + (if decide (T 9 0 ≤ B) = true then 1 else 0) → Q none (sup (sup σi 39 30 u) 39 31 v) := by
      intro u v hu hv
      refine h _ (EM_tr (EM_tr k1 (EM_s (by omega))) (EM_s (by omega))) ?_ ?_ ?_ ?_ ?_ ?_ ?_ ?_
      · intro r hr
        rw [sup_fr (by decide), sup_fr (by decide), sup_fr (by decide), sup_fr (by decide)]
        exact k6 r hr
      · intro t ht
        rw [sup_fr (by decide), sup_fr (by decide)]
        exact k7 t ht
      · rw [sup_i (by decide), sup_e]; exact hu
      · rw [sup_e]; exact hv
      · rw [sup_i (by decide), sup_i (by decide), k2]
      · rw [sup_i (by decide), sup_i (by decide), k2]
      · rw [sup_fr (by decide), sup_fr (by decide)]; exact k3
      · rw [sup_fr (by decide), sup_fr (by decide)]; exact k4
    have f1 : w32 (σ 39 30 + 1) = σ 39 30 + 1 := w32_id (by omega) (by omega)
    have f2 : w32 (σ 39 30 + 0) = σ 39 30 + 0 := w32_id (by omega) (by omega)
    have f3 : w32 (σ 39 31 + 1) = σ 39 31 + 1 := w32_id (by omega) (by omega)
    have f4 : w32 (σ 39 31 + 0) = σ 39 31 + 0 := w32_id (by omega) (by omega)
    rw [f1, f2, f3, f4]
    by_cases c0 : 0 < B
    · rw [if_pos c0]
      by_cases c1 : B = T 9 0
      · rw [if_pos c1]
        exact fin _ _ (by rw [decide_eq_true (by omega), if_pos rfl]) (by rw [decide_eq_true (by omega), if_pos rfl])
      · rw [if_neg c1]
        exact fin _ _ (by rw [decide_eq_true (by omega), if_pos rfl]) (by rw [decide_eq_false (by omega)]; rfl)
    · rw [if_neg c0]
      by_cases c1 : B = T 9 0
      · rw [if_pos c1]
        exact fin _ _ (by rw [decide_eq_false (by omega)]; rfl) (by rw [decide_eq_true (by omega), if_pos rfl])
      · rw [if_neg c1]
        exact fin _ _ (by rw [decide_eq_false (by omega)]; rfl) (by rw [decide_eq_false (by omega)]; rfl)
end ME
