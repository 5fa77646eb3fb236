/-! The methods of kinds and of the table. -/
def bcE (a : Int) : Int := iand (w32 ((w32 ((iand (w32 ((w32 ((iand (w32 (a - (iand (iushr a 1) 1431655765))) 858993459) + (iand (iushr (w32 (a - (iand (iushr a 1) 1431655765))) 2) 858993459))) + (iushr (w32 ((iand (w32 (a - (iand (iushr a 1) 1431655765))) 858993459) + (iand (iushr (w32 (a - (iand (iushr a 1) 1431655765))) 2) 858993459))) 4))) 252645135) + (iushr (iand (w32 ((w32 ((iand (w32 (a - (iand (iushr a 1) 1431655765))) 858993459) + (iand (iushr (w32 (a - (iand (iushr a 1) 1431655765))) 2) 858993459))) + (iushr (w32 ((iand (w32 (a - (iand (iushr a 1) 1431655765))) 858993459) + (iand (iushr (w32 (a - (iand (iushr a 1) 1431655765))) 2) 858993459))) 4))) 252645135) 8))) + (iushr (w32 ((iand (w32 ((w32 ((iand (w32 (a - (iand (iushr a 1) 1431655765))) 858993459) + (iand (iushr (w32 (a - (iand (iushr a 1) 1431655765))) 2) 858993459))) + (iushr (w32 ((iand (w32 (a - (iand (iushr a 1) 1431655765))) 858993459) + (iand (iushr (w32 (a - (iand (iushr a 1) 1431655765))) 2) 858993459))) 4))) 252645135) + (iushr (iand (w32 ((w32 ((iand (w32 (a - (iand (iushr a 1) 1431655765))) 858993459) + (iand (iushr (w32 (a - (iand (iushr a 1) 1431655765))) 2) 858993459))) + (iushr (w32 ((iand (w32 (a - (iand (iushr a 1) 1431655765))) 858993459) + (iand (iushr (w32 (a - (iand (iushr a 1) 1431655765))) 2) 858993459))) 4))) 252645135) 8))) 16))) 63
theorem bcE_all : ∀ a : Nat, a < 256 → bcE a = pc8 a := by decide +kernel
section SP
variable {d : Nat} {o u : Nat} {σ : Sto} {Q : PQ} {T : Tab}
theorem s_bitCount {a : Nat} (ha : a < 256) (h : Q (some (vI (pc8 a))) σ) : P (d + 1) 0 [vI (a : Int)] σ Q :=
  e_In_bitCount fun X hX => b_In_bitCount_0 hX (by rw [← bcE_all a ha] at h; exact h)
theorem s_bitCountM {p : Nat → Bool} {n : Nat} (hn : n ≤ 8) (h : Q (some (vI (cnt p n))) σ) : P (d + 1) 0 [vI (mk p n : Int)] σ Q :=
  s_bitCount (Nat.lt_of_lt_of_le (mk_lt p n) (Nat.pow_le_pow_right (by decide) hn)) (by rw [pc8_mk p hn]; exact h)
theorem ifc {c : Prop} [Decidable c] {F : Int → Prop} {a b : Int} {B : Prop} (h : F (if c then a else b)) (g : F b → B) : if c then F a else B := by
  split
  · rwa [if_pos ‹_›] at h
  · rw [if_neg ‹_›] at h; exact g h
theorem s_Kmin {k f : Int} (hf : 0 ≤ f ∧ f ≤ 9) (h : Q (some (vI (minF k f))) σ) : P (d + 1) 4 [vI k, vI f] σ Q := by
  refine e_Kd_minutesFor fun X hX => b_Kd_minutesFor_0 hX ?_
  rw [w32_id (x := 3 + f) (by omega) (by omega)]
  exact ifc (F := fun x => Q (some (vI x)) σ) h fun h => ifc (F := fun x => Q (some (vI x)) σ) h fun h => ifc (F := fun x => Q (some (vI x)) σ) h id
theorem s_Kmor {k f : Int} (h : Q (some (vI (morF k f))) σ) : P (d + 1) 5 [vI k, vI f] σ Q := by
  refine e_Kd_moreMood fun X hX => b_Kd_moreMood_0 hX ?_
  exact ifc (F := fun x => Q (some (vI x)) σ) h fun h => ifc (F := fun x => Q (some (vI x)) σ) h fun h => ifc (F := fun x => Q (some (vI x)) σ) h fun h => ifc (F := fun x => Q (some (vI x)) σ) h id
theorem s_Kles {k f : Int} (h : Q (some (vI (lesF k f))) σ) : P (d + 1) 6 [vI k, vI f] σ Q := by
  refine e_Kd_lessMood fun X hX => b_Kd_lessMood_0 hX ?_
  exact ifc (F := fun x => Q (some (vI x)) σ) h fun h => ifc (F := fun x => Q (some (vI x)) σ) h fun h => ifc (F := fun x => Q (some (vI x)) σ) h fun h => ifc (F := fun x => Q (some (vI x)) σ) h id
theorem s_Kpri {k f c : Int} (hc : 0 ≤ c ∧ c ≤ 9) (h : Q (some (vI (priF k f c))) σ) : P (d + 1) 7 [vI k, vI f, vI c] σ Q := by
  refine e_Kd_price fun X hX => b_Kd_price_0 hX ?_
  have e1 : w32 (c.tdiv 2) = c.tdiv 2 := w32_id (by have := Int.tdiv_nonneg hc.1 (show (0 : Int) ≤ 2 by decide); omega) (by have := Int.tdiv_le_self 2 hc.1; omega)
  rw [e1, w32_id (x := 2 * c) (by omega) (by omega)]
  exact ifc (F := fun x => Q (some (vI x)) σ) h fun h => ifc (F := fun x => Q (some (vI x)) σ) h fun h => ifc (F := fun x => Q (some (vI x)) σ) h fun h => ifc (F := fun x => Q (some (vI x)) σ) h fun h => ifc (F := fun x => Q (some (vI x)) σ) h id
theorem s_hasGuest (ho : isT o) (hT : tb σ o = T) {g : Int} (h1 : 0 ≤ g → g < T 7 0 → Q (some (vI 1)) σ) (h0 : ¬ (0 ≤ g ∧ g < T 7 0) → Q (some (vI 0)) σ) : P (d + 1) 9 [vR o, vI g] σ Q := by
  refine e_Tb_hasGuest fun X hX => b_Tb_hasGuest_0 hX ho ?_
  rw [b7 hT]
  split
  · exact h0 (by omega)
  · split
    · exact h1 (by omega) ‹_›
    · exact h0 (by omega)
theorem s_hasRemark (ho : isT o) (hT : tb σ o = T) {g : Int} (h1 : 0 ≤ g → g < T 8 0 → Q (some (vI 1)) σ) (h0 : ¬ (0 ≤ g ∧ g < T 8 0) → Q (some (vI 0)) σ) : P (d + 1) 11 [vR o, vI g] σ Q := by
  refine e_Tb_hasRemark fun X hX => b_Tb_hasRemark_0 hX ho ?_
  rw [b8 hT]
  split
  · exact h0 (by omega)
  · split
    · exact h1 (by omega) ‹_›
    · exact h0 (by omega)
theorem s_hasTwo (ho : isT o) (hT : tb σ o = T) {a b : Int} (h1 : 0 ≤ a → a < T 7 0 → 0 ≤ b → b < T 7 0 → a ≠ b → Q (some (vI 1)) σ) (h0 : ¬ ((0 ≤ a ∧ a < T 7 0) ∧ (0 ≤ b ∧ b < T 7 0) ∧ a ≠ b) → Q (some (vI 0)) σ) : P (d + 2) 10 [vR o, vI a, vI b] σ Q := by
  refine e_Tb_hasTwo fun X hX => b_Tb_hasTwo_0 hX ho ?_
  refine s_hasGuest ho hT (fun p1 p2 => ?_) (fun p => ?_)
  · refine b_Tb_hasTwo_5 hX ho ?_
    rw [if_neg (by decide)]
    refine s_hasGuest ho hT (fun p3 p4 => ?_) (fun p => ?_)
    · refine b_Tb_hasTwo_13 hX ho ?_
      rw [if_neg (by decide)]
      split
      · exact h0 (by omega)
      · exact h1 p1 p2 p3 p4 ‹_›
    · refine b_Tb_hasTwo_13 hX ho ?_
      rw [if_pos rfl]
      exact h0 (by omega)
  · refine b_Tb_hasTwo_5 hX ho ?_
    rw [if_pos rfl]
    exact h0 (by omega)
theorem s_Tmin (ho : isT o) (hT : tb σ o = T) (w : WT T) {r : Nat} (hr : r < rN T) (h : Q (some (vI (minT T r))) σ) : P (d + 2) 18 [vR o, vI (r : Int)] σ Q := by
  have hR := WT_r w
  have h7 : r < 7 := by omega
  refine e_Tb_minutesFor fun X hX => b_Tb_minutesFor_0 hX ho ?_
  refine s_hasRemark ho hT (fun _ _ => ?_) (fun q => absurd q (by omega))
  refine b_Tb_minutesFor_5 hX ho ?_
  rw [if_neg (by decide)]
  refine ⟨by omega, ?_⟩
  rw [Int.toNat_natCast, a2 hT h7, a3 hT h7]
  have w7 := w.2.2.2.2.2 r h7
  exact s_Kmin w7.2.1 (b_Tb_minutesFor_23 hX ho h)
theorem s_Tpri (ho : isT o) (hT : tb σ o = T) (w : WT T) {r : Nat} (hr : r < rN T) (h : Q (some (vI (priT T r))) σ) : P (d + 2) 19 [vR o, vI (r : Int)] σ Q := by
  have hR := WT_r w
  have h7 : r < 7 := by omega
  refine e_Tb_priceOf fun X hX => b_Tb_priceOf_0 hX ho ?_
  refine s_hasRemark ho hT (fun _ _ => ?_) (fun q => absurd q (by omega))
  refine b_Tb_priceOf_5 hX ho ?_
  rw [if_neg (by decide)]
  refine ⟨by omega, ?_⟩
  rw [Int.toNat_natCast, a2 hT h7, a3 hT h7, b10 hT]
  exact s_Kpri w.2.2.2.1 (b_Tb_priceOf_27 hX ho h)
theorem priT_b (w : WT T) {r : Nat} (hr : r < 7) : 0 ≤ priT T r ∧ priT T r ≤ 18 := by
  have w7 := w.2.2.2.2.2 r hr
  have hc := w.2.2.2.1
  have e1 : 0 ≤ (T 10 0).tdiv 2 ∧ (T 10 0).tdiv 2 ≤ 18 := ⟨Int.tdiv_nonneg hc.1 (by decide), by have := Int.tdiv_le_self 2 hc.1; omega⟩
  unfold priT priF
  repeat (first | omega | split)
theorem s_Tmoods (ho : isT o) (hT : tb σ o = T) (w : WT T) (h : Q (some (vI (sm (T 1) (gN T)))) σ) : P (d + 1) 22 [vR o] σ Q := by
  have hG := WT_g w
  refine e_Tb_moodsTogether fun X hX => b_Tb_moodsTogether_0 hX ho ?_
  refine upto (p := fun i => X 4 [some (vR o), some (vI (sm (T 1) i)), some (vI (i : Int))] [] σ) (gN T) (fun i hi ih => ?_) ?_
  · refine b_Tb_moodsTogether_4 hX ho ?_
    have h6 : i < 6 := by omega
    have hb := sm_le (f := T 1) (c := 40) (n := i) (fun k hk => (w.2.2.2.2.1 k (by omega)).2.2)
    have hb2 := sm_ge (f := T 1) (n := i) (fun k hk => (w.2.2.2.2.1 k (by omega)).2.1)
    have hi2 := (w.2.2.2.2.1 i h6).2
    rw [b7 hT, if_pos (by omega)]
    refine ⟨by omega, ?_⟩
    rw [Int.toNat_natCast, a1 hT h6, w32_s i (by omega), w32_id (by omega) (by omega)]
    exact ih
  · refine b_Tb_moodsTogether_4 hX ho ?_
    rw [b7 hT, if_neg (by omega)]
    exact h
theorem s_Tprices (ho : isT o) (hT : tb σ o = T) (w : WT T) (h : Q (some (vI (sm (priT T) (rN T)))) σ) : P (d + 3) 23 [vR o] σ Q := by
  have hR := WT_r w
  refine e_Tb_allPrices fun X hX => b_Tb_allPrices_0 hX ho ?_
  refine upto (p := fun i => X 4 [some (vR o), some (vI (sm (priT T) i)), some (vI (i : Int))] [] σ) (rN T) (fun i hi ih => ?_) ?_
  · refine b_Tb_allPrices_4 hX ho ?_
    have hb := sm_le (f := priT T) (c := 18) (n := i) (fun k hk => (priT_b w (by omega)).2)
    have hb2 := sm_ge (f := priT T) (n := i) (fun k hk => (priT_b w (by omega)).1)
    have hi2 := priT_b w (r := i) (by omega)
    rw [b8 hT, if_pos (by omega)]
    refine s_Tpri ho hT w hi (b_Tb_allPrices_18 hX ho ?_)
    rw [w32_s i (by omega), w32_id (by omega) (by omega)]
    exact ih
  · refine b_Tb_allPrices_4 hX ho ?_
    rw [b8 hT, if_neg (by omega)]
    exact h
/-- masks, as the code makes them -/
theorem mk_lt2 {p : Nat → Bool} {n k : Nat} (h : n ≤ k) : mk p n < 2 ^ k := Nat.lt_of_lt_of_le (mk_lt p n) (Nat.pow_le_pow_right (by decide) h)
theorem orB {p : Nat → Bool} {i : Nat} (hi : i < 20) : ior (mk p i : Int) (if p i = true then ((2 ^ i : Nat) : Int) else 0) = (mk p (i + 1) : Int) := by
  have h1 := mk_lt31 p (n := i) (by omega)
  have h2 : 2 ^ i < 2147483648 := Nat.pow_lt_pow_right (a := 2) (m := i) (n := 31) (by decide) (by omega)
  rw [mk_or]
  split
  · rw [ior_nn h1 h2]
  · have := ior_nn (a := mk p i) (b := 0) h1 (by decide)
    exact this
theorem bit01 (c : Bool) {i : Nat} (hi : i < 30) : ishl (if c = true then 1 else 0) (i : Int) = if c = true then ((2 ^ i : Nat) : Int) else 0 := by
  cases c with
  | true => exact ishl_1 (by omega)
  | false => 
    have := ishl_nn (a := 0) (k := i) (by omega) (by simp)
    simpa using this
theorem s_likers (ho : isT o) (hT : tb σ o = T) (w : WT T) {t : Nat} (ht : t < 8) (h : Q (some (vI (mk (fun g => lb T g t) (gN T) : Int))) σ) : P (d + 1) 21 [vR o, vI (t : Int)] σ Q := by
  have hG := WT_g w
  refine e_Tb_likersOf fun X hX => b_Tb_likersOf_0 hX ho ?_
  refine upto (p := fun i => X 4 [some (vR o), some (vI (t : Int)), some (vI (mk (fun g => lb T g t) i : Int)), some (vI (i : Int))] [] σ) (gN T) (fun i hi ih => ?_) ?_
  · refine b_Tb_likersOf_4 hX ho ?_
    have h6 : i < 6 := by omega
    have hl := (w.2.2.2.2.1 i h6).1
    rw [b7 hT, if_pos (by omega)]
    refine ⟨by omega, ?_⟩
    rw [Int.toNat_natCast, a0 hT h6, w32_s i (by omega)]
    have e : T 0 i = ((T 0 i).toNat : Int) := by omega
    rw [e, bit_nn (by omega) (by omega), bit01 _ (by omega)]
    have eo : ior (mk (fun g => lb T g t) i : Int) (if (T 0 i).toNat.testBit t = true then ((2 ^ i : Nat) : Int) else 0) = (mk (fun g => lb T g t) (i + 1) : Int) := orB (p := fun g => lb T g t) (i := i) (by omega)
    rw [eo]
    exact ih
  · refine b_Tb_likersOf_4 hX ho ?_
    rw [b7 hT, if_neg (by omega)]
    exact h
theorem oth_all : ∀ G, G < 7 → ∀ b, b < 7 → iand (w32 (ishl 1 ((G : Nat) : Int) - 1)) (ixor (ishl 1 ((b : Nat) : Int)) (-1)) = (mk (fun g => decide (g ≠ b)) G : Int) := by decide +kernel
theorem nxt_all : ∀ G, G < 7 → ∀ b, b < 7 → ∀ n, n < 7 → iand (iand (w32 (ishl 1 ((G : Nat) : Int) - 1)) (ixor (ishl 1 ((b : Nat) : Int)) (-1))) (ishl 1 ((n : Nat) : Int)) = (mk (fun g => decide (g ≠ b) && decide (g = n)) G : Int) := by decide +kernel
theorem s_hearers (ho : isT o) (hT : tb σ o = T) (w : WT T) {r : Nat} (hr : r < rN T) (h : Q (some (vI (mk (hb T r) (gN T) : Int))) σ) : P (d + 2) 20 [vR o, vI (r : Int)] σ Q := by
  have hR := WT_r w
  have hG := WT_g w
  have h7 : r < 7 := by omega
  have w7 := w.2.2.2.2.2 r h7
  refine e_Tb_hearersOf fun X hX => b_Tb_hearersOf_0 hX ho ?_
  refine s_hasRemark ho hT (fun _ _ => ?_) (fun q => absurd q (by omega))
  refine b_Tb_hearersOf_5 hX ho ?_
  rw [if_neg (by decide)]
  refine ⟨by omega, ?_⟩
  rw [Int.toNat_natCast, a2 hT h7, a4 hT h7, b7 hT]
  have eb : T 4 r = ((T 4 r).toNat : Int) := by omega
  have hbl : (T 4 r).toNat < 7 := by omega
  rw [w32_id (x := T 4 r + 1) (by omega) (by omega)]
  have e2 : T 4 r + 1 = (((T 4 r).toNat + 1 : Nat) : Int) := by omega
  split
  · rename_i h3
    split
    · rename_i hlt
      have := nxt_all (gN T) (by omega) (T 4 r).toNat hbl ((T 4 r).toNat + 1) (by omega)
      rw [← e2, ← eb, ← hG.1] at this
      have hm : mk (fun g => decide (g ≠ (T 4 r).toNat) && decide (g = (T 4 r).toNat + 1)) (gN T) = mk (hb T r) (gN T) := mk_congr fun g hg => by
        simp only [hb, h3, hlt, if_true]
        rw [Bool.eq_iff_iff]
        simp
        omega
      rw [this, hm]
      exact h
    · rename_i hlt
      have := nxt_all (gN T) (by omega) (T 4 r).toNat hbl 0 (by omega)
      rw [← eb, ← hG.1] at this
      have hm : mk (fun g => decide (g ≠ (T 4 r).toNat) && decide (g = 0)) (gN T) = mk (hb T r) (gN T) := mk_congr fun g hg => by
        simp only [hb, h3, hlt, if_false]
        rw [Bool.eq_iff_iff]
        simp
        omega
      rw [show ishl 1 0 = ishl 1 ((0 : Nat) : Int) from rfl, this, hm]
      exact h
  · rename_i h3
    have := oth_all (gN T) (by omega) (T 4 r).toNat hbl
    rw [← eb, ← hG.1] at this
    have hm : mk (fun g => decide (g ≠ (T 4 r).toNat)) (gN T) = mk (hb T r) (gN T) := mk_congr fun g hg => by
      simp only [hb]
      rw [Bool.eq_iff_iff]
      simp [h3]
      omega
    rw [this, hm]
    exact h
theorem s_mostLikers (ho : isT o) (hT : tb σ o = T) (w : WT T) (h : Q (some (vI (mxl T 8))) σ) : P (d + 2) 24 [vR o] σ Q := by
  have hG := WT_g w
  refine e_Tb_mostLikers fun X hX => b_Tb_mostLikers_0 hX ho ?_
  refine upto (p := fun i => X 4 [some (vR o), some (vI (mxl T i)), some (vI (i : Int))] [] σ) 8 (fun i hi ih => ?_) ?_
  · refine b_Tb_mostLikers_4 hX ho ?_
    rw [if_pos (by omega)]
    refine s_likers ho hT w (by omega) (b_Tb_mostLikers_16 hX ho ?_)
    refine s_bitCountM (by omega) (b_Tb_mostLikers_19 hX ho ?_)
    rw [w32_s i (by omega)]
    exact ih
  · refine b_Tb_mostLikers_4 hX ho ?_
    rw [if_neg (by decide)]
    exact h
theorem s_topics (ho : isT o) (hT : tb σ o = T) (w : WT T) {k : Int} (h : Q (some (vI (mk (fun t => decide (cnt (fun g => lb T g t) (gN T) = k)) 8 : Int))) σ) : P (d + 2) 25 [vR o, vI k] σ Q := by
  have hG := WT_g w
  refine e_Tb_topicsLikedBy fun X hX => b_Tb_topicsLikedBy_0 hX ho ?_
  refine upto (p := fun i => X 4 [some (vR o), some (vI k), some (vI (mk (fun t => decide (cnt (fun g => lb T g t) (gN T) = k)) i : Int)), some (vI (i : Int))] [] σ) 8 (fun i hi ih => ?_) ?_
  · refine b_Tb_topicsLikedBy_4 hX ho ?_
    rw [if_pos (by omega)]
    refine s_likers ho hT w (by omega) (b_Tb_topicsLikedBy_16 hX ho ?_)
    refine s_bitCountM (by omega) (b_Tb_topicsLikedBy_19 hX ho ?_)
    rw [w32_s i (by omega)]
    rw [← orB (by omega)] at ih
    split
    · rw [if_pos (decide_eq_true ‹_›)] at ih
      rw [ishl_1 (by omega)]
      exact ih
    · rw [if_neg (by simpa using ‹_›)] at ih
      exact ih
  · refine b_Tb_topicsLikedBy_4 hX ho ?_
    rw [if_neg (by decide)]
    exact h
theorem s_broughtBy (ho : isT o) (hT : tb σ o = T) (w : WT T) {g : Int} (h : Q (some (vI (mk (fun r => decide (T 4 r = g)) (rN T) : Int))) σ) : P (d + 1) 27 [vR o, vI g] σ Q := by
  have hR := WT_r w
  refine e_Tb_broughtBy fun X hX => b_Tb_broughtBy_0 hX ho ?_
  refine upto (p := fun i => X 4 [some (vR o), some (vI g), some (vI (mk (fun r => decide (T 4 r = g)) i : Int)), some (vI (i : Int))] [] σ) (rN T) (fun i hi ih => ?_) ?_
  · refine b_Tb_broughtBy_4 hX ho ?_
    rw [b8 hT, if_pos (by omega)]
    refine ⟨by omega, ?_⟩
    rw [Int.toNat_natCast, a4 hT (by omega), w32_s i (by omega)]
    rw [← orB (by omega)] at ih
    split
    · rw [if_pos (decide_eq_true ‹_›)] at ih
      rw [ishl_1 (by omega)]
      exact ih
    · rw [if_neg (by simpa using ‹_›)] at ih
      exact ih
  · refine b_Tb_broughtBy_4 hX ho ?_
    rw [b8 hT, if_neg (by omega)]
    exact h
theorem drs_b : ∀ n, drs T n = -9 ∨ (0 ≤ drs T n ∧ drs T n < n)
  | 0 => Or.inl rfl
  | n + 1 => by
    have := drs_b n
    unfold drs
    split <;> omega
theorem s_dearest (ho : isT o) (hT : tb σ o = T) (w : WT T) (h : Q (some (vI (drs T (rN T)))) σ) : P (d + 3) 26 [vR o] σ Q := by
  have hR := WT_r w
  refine e_Tb_dearest fun X hX => b_Tb_dearest_0 hX ho ?_
  refine upto (p := fun i => X 7 [some (vR o), some (vI (drs T i)), some (vI (if drs T i < 0 then -1 else priT T (drs T i).toNat)), some (vI (i : Int))] [] σ) (rN T) (fun i hi ih => ?_) ?_
  · refine b_Tb_dearest_7 hX ho ?_
    have hb := drs_b (T := T) i
    have hp := priT_b w (r := i) (by omega)
    rw [b8 hT, if_pos (by omega)]
    refine s_Tpri ho hT w hi (b_Tb_dearest_20 hX ho ?_)
    have e : drs T (i + 1) = if drs T i < 0 ∨ priT T (drs T i).toNat < priT T i then (i : Int) else drs T i := rfl
    rw [w32_s i (by omega)]
    by_cases hlt : (if drs T i < 0 then -1 else priT T (drs T i).toNat) < priT T i
    · rw [if_pos hlt]
      refine s_Tpri ho hT w hi (b_Tb_dearest_29 hX ho ?_)
      have e2 : drs T (i + 1) = i := by
        rw [e, if_pos]
        split at hlt
        · left; assumption
        · right; assumption
      rw [e2, if_neg (by omega), Int.toNat_natCast] at ih
      rw [w32_s i (by omega)]
      exact ih
    · rw [if_neg hlt]
      have e2 : drs T (i + 1) = drs T i := by
        rw [e, if_neg]
        split at hlt
        · omega
        · omega
      rw [e2] at ih
      exact ih
  · refine b_Tb_dearest_7 hX ho ?_
    rw [b8 hT, if_neg (by omega)]
    exact h
end SP
