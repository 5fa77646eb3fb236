/-! The model's small methods and its table queries, to the same words. -/
theorem hr_all : ∀ G, G < 7 → ∀ b, b < G → G ≠ 1 → ishl 1 ((w32 (((b : Nat) : Int) + 1)).tmod ((G : Nat) : Int)) = (mk (fun g => decide (g ≠ b) && decide (g = if b + 1 < G then b + 1 else 0)) G : Int) := by decide +kernel
section MT
variable {d : Nat} {σ : Sto} {Q : PQ} {T : Tab}
theorem m_isIn {a b c : Int} (h1 : b ≤ a → a ≤ c → Q (some (vI 1)) σ) (h0 : ¬ (b ≤ a ∧ a ≤ c) → Q (some (vI 0)) σ) : P (d + 1) 118 [vI a, vI b, vI c] σ Q := by
  refine e_Mo_isIn fun X hX => b_Mo_isIn_0 hX ?_
  split
  · exact h0 (by omega)
  · split
    · exact h0 (by omega)
    · exact h1 (by omega) (by omega)
def bnd (a b c : Int) : Int := if a < b then -4 else if c < a then -6 else 0
theorem m_bound {a b c : Int} (h : Q (some (vI (bnd a b c))) σ) : P (d + 1) 119 [vI a, vI b, vI c] σ Q := by
  refine e_Mo_bound fun X hX => b_Mo_bound_0 hX ?_
  exact ifc (F := fun x => Q (some (vI x)) σ) h fun h => ifc (F := fun x => Q (some (vI x)) σ) h id
theorem m_has {a k : Nat} (ha : a < 2147483648) (hk : k < 31) (h1 : a.testBit k = true → Q (some (vI 1)) σ) (h0 : a.testBit k = false → Q (some (vI 0)) σ) : P (d + 1) 120 [vI (a : Int), vI (k : Int)] σ Q := by
  refine e_Mo_has fun X hX => b_Mo_has_0 hX ?_
  rw [bit_nn ha hk]
  cases hb : a.testBit k with
  | true => rw [if_pos rfl, if_pos rfl]; exact h1 hb
  | false => rw [if_neg (show ¬ false = true by decide), if_neg (by decide)]; exact h0 hb
theorem pc_31 {a : Nat} (ha : a < 256) : cnt (fun i => a.testBit i) 31 = pc8 a := by
  unfold pc8
  exact cnt_drop (n := 8) 23 (fun i hi => Nat.testBit_lt_two_pow (Nat.lt_of_lt_of_le ha (Nat.pow_le_pow_right (n := 2) (by decide) hi)))
theorem m_bits {a : Nat} (ha : a < 256) (h : Q (some (vI (pc8 a))) σ) : P (d + 1) 121 [vI (a : Int)] σ Q := by
  refine e_Mo_bits fun X hX => b_Mo_bits_0 hX ?_
  refine upto (p := fun i => X 4 [some (vI (a : Int)), some (vI (cnt (fun k => a.testBit k) i)), some (vI (i : Int))] [] σ) 31 (fun i hi ih => ?_) ?_
  · refine b_Mo_bits_4 hX ?_
    have hb := cnt_b (fun k => a.testBit k) i
    have hb2 := cnt_b (fun k => a.testBit k) (i + 1)
    rw [if_pos (by omega), bit_nn (by omega) hi, w32_s i (by omega), w32_id (by split <;> omega) (by split <;> omega)]
    exact ih
  · refine b_Mo_bits_4 hX ?_
    rw [if_neg (by decide), pc_31 ha]
    exact h
theorem m_bitsM {p : Nat → Bool} {n : Nat} (hn : n ≤ 8) (h : Q (some (vI (cnt p n))) σ) : P (d + 1) 121 [vI (mk p n : Int)] σ Q :=
  m_bits (Nat.lt_of_lt_of_le (mk_lt p n) (Nat.pow_le_pow_right (by decide) hn)) (by rw [pc8_mk p hn]; exact h)
theorem m_isGuest (hT : tb σ 39 = T) {g : Int} (h1 : 0 ≤ g → g < T 7 0 → Q (some (vI 1)) σ) (h0 : ¬ (0 ≤ g ∧ g < T 7 0) → Q (some (vI 0)) σ) : P (d + 1) 122 [vR 39, vI g] σ Q := by
  refine e_Mo_isGuest fun X hX => b_Mo_isGuest_0 hX ?_
  rw [b7 hT]
  split
  · exact h0 (by omega)
  · split
    · exact h1 (by omega) ‹_›
    · exact h0 (by omega)
theorem m_isRemark (hT : tb σ 39 = T) {g : Int} (h1 : 0 ≤ g → g < T 8 0 → Q (some (vI 1)) σ) (h0 : ¬ (0 ≤ g ∧ g < T 8 0) → Q (some (vI 0)) σ) : P (d + 1) 124 [vR 39, vI g] σ Q := by
  refine e_Mo_isRemark fun X hX => b_Mo_isRemark_0 hX ?_
  rw [b8 hT]
  split
  · exact h0 (by omega)
  · split
    · exact h1 (by omega) ‹_›
    · exact h0 (by omega)
theorem m_areTwo (hT : tb σ 39 = T) {a b : Int} (h1 : 0 ≤ a → a < T 7 0 → 0 ≤ b → b < T 7 0 → a ≠ b → Q (some (vI 1)) σ) (h0 : ¬ ((0 ≤ a ∧ a < T 7 0) ∧ (0 ≤ b ∧ b < T 7 0) ∧ a ≠ b) → Q (some (vI 0)) σ) : P (d + 2) 123 [vR 39, vI a, vI b] σ Q := by
  refine e_Mo_areTwo fun X hX => b_Mo_areTwo_0 hX ?_
  refine m_isGuest hT (fun p1 p2 => ?_) (fun p => ?_)
  · refine b_Mo_areTwo_5 hX ?_
    rw [if_neg (by decide)]
    refine m_isGuest hT (fun p3 p4 => ?_) (fun p => ?_)
    · refine b_Mo_areTwo_13 hX ?_
      rw [if_neg (by decide)]
      split
      · exact h0 (by omega)
      · exact h1 p1 p2 p3 p4 ‹_›
    · refine b_Mo_areTwo_13 hX ?_
      rw [if_pos rfl]
      exact h0 (by omega)
  · refine b_Mo_areTwo_5 hX ?_
    rw [if_pos rfl]
    exact h0 (by omega)
theorem m_minutes (hT : tb σ 39 = T) (w : WT T) {r : Nat} (hr : r < rN T) (h : Q (some (vI (minT T r))) σ) : P (d + 1) 140 [vR 39, vI (r : Int)] σ Q := by
  have hR := WT_r w
  have h7 : r < 7 := by omega
  refine e_Mo_minutesOf fun X hX => b_Mo_minutesOf_0 hX ?_
  refine ⟨by omega, ?_⟩
  rw [Int.toNat_natCast, show σ 42 r = T 2 r from a2 hT h7, show σ 43 r = T 3 r from a3 hT h7]
  have w7 := w.2.2.2.2.2 r h7
  rw [w32_id (x := 3 + T 3 r) (by omega) (by omega)]
  exact ifc (F := fun x => Q (some (vI x)) σ) h fun h => ifc (F := fun x => Q (some (vI x)) σ) h fun h => ifc (F := fun x => Q (some (vI x)) σ) h id
theorem m_more (hT : tb σ 39 = T) (w : WT T) {r : Nat} (hr : r < rN T) (h : Q (some (vI (morT T r))) σ) : P (d + 1) 141 [vR 39, vI (r : Int)] σ Q := by
  have hR := WT_r w
  have h7 : r < 7 := by omega
  refine e_Mo_moreOf fun X hX => b_Mo_moreOf_0 hX ?_
  refine ⟨by omega, ?_⟩
  rw [Int.toNat_natCast, show σ 42 r = T 2 r from a2 hT h7, show σ 43 r = T 3 r from a3 hT h7]
  have e : morT T r = if T 2 r = 1 then 2 else if T 2 r = 4 then 2 else if T 2 r = 2 then 0 else if T 2 r = 3 then T 3 r else 1 := by
    unfold morT morF
    repeat (first | omega | split)
  rw [e] at h
  exact ifc (F := fun x => Q (some (vI x)) σ) h fun h => ifc (F := fun x => Q (some (vI x)) σ) h fun h => ifc (F := fun x => Q (some (vI x)) σ) h fun h => ifc (F := fun x => Q (some (vI x)) σ) h id
theorem m_less (hT : tb σ 39 = T) (w : WT T) {r : Nat} (hr : r < rN T) (h : Q (some (vI (lesT T r))) σ) : P (d + 1) 142 [vR 39, vI (r : Int)] σ Q := by
  have hR := WT_r w
  have h7 : r < 7 := by omega
  have w7 := w.2.2.2.2.2 r h7
  refine e_Mo_lessOf fun X hX => b_Mo_lessOf_0 hX ?_
  refine ⟨by omega, ?_⟩
  rw [Int.toNat_natCast, show σ 42 r = T 2 r from a2 hT h7, show σ 43 r = T 3 r from a3 hT h7]
  have e : lesT T r = if T 2 r < 2 then 0 else if T 2 r = 3 then T 3 r else 1 := by
    unfold lesT lesF
    repeat (first | omega | split)
  rw [e] at h
  exact ifc (F := fun x => Q (some (vI x)) σ) h fun h => ifc (F := fun x => Q (some (vI x)) σ) h id
theorem m_price (hT : tb σ 39 = T) (w : WT T) {r : Nat} (hr : r < rN T) (h : Q (some (vI (priT T r))) σ) : P (d + 1) 143 [vR 39, vI (r : Int)] σ Q := by
  have hR := WT_r w
  have h7 : r < 7 := by omega
  have hc := w.2.2.2.1
  refine e_Mo_priceOf fun X hX => b_Mo_priceOf_0 hX ?_
  refine ⟨by omega, ?_⟩
  rw [Int.toNat_natCast, show σ 42 r = T 2 r from a2 hT h7, show σ 43 r = T 3 r from a3 hT h7, b10 hT]
  have e1 : w32 ((T 10 0).tdiv 2) = (T 10 0).tdiv 2 := w32_id (by have := Int.tdiv_nonneg hc.1 (show (0 : Int) ≤ 2 by decide); omega) (by have := Int.tdiv_le_self 2 hc.1; omega)
  rw [e1, w32_id (x := 2 * T 10 0) (by omega) (by omega)]
  exact ifc (F := fun x => Q (some (vI x)) σ) h fun h => ifc (F := fun x => Q (some (vI x)) σ) h fun h => ifc (F := fun x => Q (some (vI x)) σ) h fun h => ifc (F := fun x => Q (some (vI x)) σ) h fun h => ifc (F := fun x => Q (some (vI x)) σ) h id
theorem m_hears (hT : tb σ 39 = T) (w : WT T) {r : Nat} (hr : r < rN T) (h : Q (some (vI (mk (hb T r) (gN T) : Int))) σ) : P (d + 1) 144 [vR 39, vI (r : Int)] σ Q := by
  have hR := WT_r w
  have hG := WT_g w
  have h7 : r < 7 := by omega
  have w7 := w.2.2.2.2.2 r h7
  obtain ⟨b, hb'⟩ : ∃ b : Nat, T 4 r = (b : Int) := ⟨(T 4 r).toNat, by omega⟩
  have hbG : b < gN T := by omega
  refine e_Mo_hears fun X hX => b_Mo_hears_0 hX ?_
  refine ⟨by omega, ?_⟩
  rw [Int.toNat_natCast, show σ 42 r = T 2 r from a2 hT h7, show σ 44 r = T 4 r from a4 hT h7, b7 hT, hG.1, hb']
  by_cases k3 : T 2 r = 3
  · rw [if_pos k3]
    by_cases g1 : gN T = 1
    · rw [if_pos (by omega)]
      have e : mk (hb T r) (gN T) = 0 := by
        rw [g1]
        show 0 + (if hb T r 0 = true then 2 ^ 0 else 0) = 0
        rw [if_neg]
        unfold hb
        rw [decide_eq_false (p := ((0 : Nat) : Int) ≠ T 4 r) (by omega), Bool.false_and]
        decide
      rw [e] at h
      exact h
    · rw [if_neg (by omega)]
      refine ⟨by omega, ?_⟩
      rw [hr_all (gN T) (by omega) b hbG g1]
      rw [mk_congr (q := hb T r) (fun g hg => ?_)]
      · exact h
      · unfold hb
        rw [k3, hb', hG.1]
        by_cases c1 : b + 1 < gN T
        · rw [if_pos c1, if_pos (by omega)]
          by_cases c2 : g = b <;> by_cases c3 : g = b + 1 <;> simp [c2, c3] <;> omega
        · rw [if_neg c1, if_neg (by omega)]
          by_cases c2 : g = b <;> by_cases c3 : g = 0 <;> simp [c2, c3] <;> omega
  · rw [if_neg k3]
    rw [oth_all (gN T) (by omega) b (by omega)]
    rw [mk_congr (q := hb T r) (fun g hg => ?_)]
    · exact h
    · unfold hb
      rw [hb', decide_eq_true (p := T 2 r ≠ 3) k3, Bool.true_or, Bool.and_true]
      by_cases c2 : g = b <;> simp [c2] <;> omega
theorem swB_own {a b : Int} : ∀ n j, n ≤ j → swB a b T n 4 j = T 4 j
  | 0, _, _ => rfl
  | n + 1, j, hn => by
    show sup _ 4 n _ 4 j = _
    rw [sup_i (by omega)]
    exact swB_own n j (by omega)
theorem m_changes (hT : tb σ 39 = T) (w : WT T) {a b : Nat} (ha : a < gN T) (hb : b < gN T) (hab : a ≠ b) (h : ∀ σ', tb σ' 39 = swp T a b → (∀ c, out 39 c → σ' c = σ c) → (∀ j, 11 ≤ j → σ' 39 j = σ 39 j) → Q none σ') : P (d + 1) 145 [vR 39, vI (a : Int), vI (b : Int)] σ Q := by
  have hR := WT_r w
  have hG := WT_g w
  refine e_Mo_changes fun X hX => b_Mo_changes_0 hX ?_
  refine ⟨by omega, by omega, ?_⟩
  rw [Int.toNat_natCast, Int.toNat_natCast]
  have ha6 : a < 6 := by omega
  have hb6 : b < 6 := by omega
  refine upto (p := fun i => ∀ σi : Sto, tb σi 39 = swB a b (sup (sup (sup (sup T 0 a (T 0 b)) 1 a (T 1 b)) 0 b (T 0 a)) 1 b (T 1 a)) i → (∀ c, out 39 c → σi c = σ c) → σi 39 = σ 39 → X 55 [some (vR 39), some (vI (a : Int)), some (vI (b : Int)), none, some (vI (i : Int))] [] σi) (rN T) (fun i hi ih => ?_) ?_ _ ?_ ?_ ?_
  · intro σi h1 h2 h3
    refine b_Mo_changes_55 hX ?_
    have h7 : i < 7 := by omega
    have e8 : σi 39 8 = T 8 0 := by rw [h3]; exact b8 hT
    rw [e8, if_pos (by omega)]
    refine ⟨by omega, ?_⟩
    rw [Int.toNat_natCast, w32_s i (by omega)]
    have e4 : σi 44 i = T 4 i := by
      have : σi 44 i = swB a b (sup (sup (sup (sup T 0 a (T 0 b)) 1 a (T 1 b)) 0 b (T 0 a)) 1 b (T 1 a)) i 4 i := a4 h1 h7
      rw [this, swB_own i i (Nat.le_refl i)]
      simp [sup]
    have go : ∀ v, v = (if T 4 i = a then (b : Int) else if T 4 i = b then (a : Int) else T 4 i) → X 55 [some (vR 39), some (vI (a : Int)), some (vI (b : Int)), none, some (vI ((i + 1 : Nat) : Int))] [] (sup σi 44 i v) := by
      intro v hv
      refine ih _ ?_ (fun c hc => ?_) ?_
      · rw [show (44 : Nat) = 39 + 5 from rfl, ts4 h7, h1, hv]
        show _ = sup _ 4 i _
        congr 1
      · unfold out at hc
        rw [sup_fr (by omega)]; exact h2 c hc
      · rw [sup_fr (by decide)]; exact h3
    rw [e4]
    split
    · exact go _ (by rw [if_pos ‹_›])
    · split
      · exact go _ (by rw [if_neg ‹_›, if_pos ‹_›])
      · exact go _ (by rw [if_neg ‹_›, if_neg ‹_›])
  · intro σi h1 h2 h3
    refine b_Mo_changes_55 hX ?_
    have e8 : σi 39 8 = T 8 0 := by rw [h3]; exact b8 hT
    rw [e8, if_neg (by omega)]
    exact h σi h1 h2 (fun j _ => by rw [h3])
  · have e1 : ∀ v u, sup (sup (sup (sup σ 40 a (σ 40 b)) 40 b v) 41 a (σ 41 b)) 41 b u = sup (sup (sup (sup σ (39 + 1) a (σ 40 b)) (39 + 1) b v) (39 + 2) a (σ 41 b)) (39 + 2) b u := fun _ _ => rfl
    rw [e1, ts1 hb6, ts1 ha6, ts0 hb6, ts0 ha6, hT, show σ 40 a = T 0 a from a0 hT ha6, show σ 40 b = T 0 b from a0 hT hb6, show σ 41 a = T 1 a from a1 hT ha6, show σ 41 b = T 1 b from a1 hT hb6]
    show _ = sup (sup (sup (sup T 0 a (T 0 b)) 1 a (T 1 b)) 0 b (T 0 a)) 1 b (T 1 a)
    funext k j
    simp only [sup]
    by_cases k0 : k = 0 <;> by_cases k1 : k = 1 <;> simp [k0, k1] <;> omega
  · intro c hc
    unfold out at hc
    rw [sup_fr (by omega), sup_fr (by omega), sup_fr (by omega), sup_fr (by omega)]
  · rw [sup_fr (by decide), sup_fr (by decide), sup_fr (by decide), sup_fr (by decide)]
end MT
