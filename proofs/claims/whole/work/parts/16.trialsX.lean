/-! What would be: the pure words, and the class's trials. -/
def md (T : Tab) (lo : Nat) : Int := sm (evg T lo 3) (gN T)
def st2 (v c : Int) (s : Int × Int) : Int × Int := if s.2 < v then (c, v) else s
def bmF (T : Tab) (r : Nat) : Nat → Int × Int
  | 0 => (0, -1)
  | n + 1 => st2 (md (sup T 6 r n) 0) n (bmF T r n)
def okW (T : Tab) (k : Int) : Bool := decide (opBy (sup T 9 0 k) (evg (sup T 9 0 k) 0) 60 = T 8 0)
def enF (T : Tab) : Int := if okW T 1 = true then 1 else if okW T 2 = true then 2 else if okW T 3 = true then 3 else -9
def swI (T : Tab) (a : Nat) : Nat → Int × Int → Int × Int
  | 0, s => s
  | k + 1, s => st2 (md (swp T a (a + 1 + k)) 0) (10 * (a : Int) + ((a + 1 + k : Nat) : Int)) (swI T a k s)
def swO (T : Tab) : Nat → Int × Int
  | 0 => (-9, md T 0)
  | n + 1 => swI T n (gN T - (n + 1)) (swO T n)
def brI (T : Tab) (r : Nat) : Nat → Int × Int → Int × Int
  | 0, s => s
  | k + 1, s => st2 (md (sup T 4 r k) 0) (10 * (r : Int) + (k : Int)) (brI T r k s)
def brO (T : Tab) : Nat → Int × Int
  | 0 => (-9, md T 0)
  | n + 1 => brI T n (gN T) (brO T n)
def lsF (T : Tab) : Nat → Nat
  | 0 => 2 ^ rN T - 1
  | n + 1 => if pc8 n < pc8 (lsF T n) ∧ sbN T (evg T n) = 0 then n else lsF T n
def cmF (T : Tab) : Nat → Nat × Int
  | 0 => (0, -1)
  | n + 1 => if (cmF T n).2 < md T n ∨ (md T n = (cmF T n).2 ∧ pc8 n < pc8 (cmF T n).1) then (n, md T n) else cmF T n
def asT (T : Tab) (g : Nat) (row : Nat → Int) (n : Nat) : Bool := decide (cnt (fun k => decide (evn T 0 (k + 1) 3 g ≠ row k)) n = 0)
def wor (T : Tab) (g lo : Nat) : Int := evg T lo 3 g - bilG T (evg T lo) g
def brB (T : Tab) (g : Nat) : Nat := mk (fun r => decide (T 4 r = g)) (rN T)
def hgM (T : Tab) (a b k : Nat) : Nat := (if 2 ≤ k then brB T a else 0) ||| (if k % 2 = 1 then brB T b else 0)
def hgR (T : Tab) (a b k : Nat) : Bool := decide (wor T a (hgM T a b (k ^^^ 2)) ≤ wor T a (hgM T a b k)) && decide (wor T b (hgM T a b (k ^^^ 1)) ≤ wor T b (hgM T a b k))
def hgF (T : Tab) (a b : Nat) : Int := if hgR T a b 0 = true then 0 else if hgR T a b 1 = true then 1 else if hgR T a b 2 = true then 10 else if hgR T a b 3 = true then 11 else -9
def pw (b : Int) : Nat → Int
  | 0 => 1
  | n + 1 => pw b n * b
def wyF (T : Tab) (t v : Int) : Nat → Int
  | 0 => 0
  | n + 1 => wyF T t v n + (if md T n < v then 0 else pw (t - 1) (T 8 0 - pc8 n).toNat)
def ltz (z : Int) : Int := w32 (w32 (z * 1664525) + 1013904223)
def drw (z : Int) : Int := (w32 ((iand z 2147483647).tdiv 256)).tmod 60
def ltI : Nat → Int × Tab → Int × Tab
  | 0, s => s
  | r + 1, s => (ltz (ltI r s).1, sup (ltI r s).2 6 r (drw (ltz (ltI r s).1)))
def ltO (T : Tab) (z : Int) : Nat → Int × Tab
  | 0 => (z, T)
  | n + 1 => ltI (rN T) (ltO T z n)
def ltV (what : Int) (T : Tab) : Int := if what = 0 then md T 0 else sbN T (evg T 0)
def ltS (T : Tab) (z what : Int) : Nat → Int
  | 0 => 0
  | n + 1 => ltS T z what n + ltV what (ltO T z (n + 1)).2
def FX (σ σ' : Sto) : Prop := ∀ c, (c < 17 ∨ 30 < c) → σ' c = σ c
theorem EF_X {σ σ' : Sto} (h : EF σ σ') : FX σ σ' := fun c hc => h c (by omega)
theorem FX_tr {σ σ1 σ2 : Sto} (h : FX σ σ1) (h2 : FX σ1 σ2) : FX σ σ2 := fun c hc => (h2 c hc).trans (h c hc)
theorem FX_sup {σ : Sto} {c i : Nat} {v : Int} (h : 17 ≤ c ∧ c ≤ 30) : FX σ (sup σ c i v) := fun c' hc => sup_fr (by omega)
theorem FX_T {σ σ' : Sto} (h : FX σ σ') : tb σ' 1 = tb σ 1 := tb_same (fun c h1 h2 j => by rw [h c (by omega)])
theorem out_X {σ σ' : Sto} (h : ∀ c, out 17 c → σ' c = σ c) : FX σ σ' := fun c hc => h c (by unfold out; omega)
theorem sup_sup {σ : Sto} {c i : Nat} {v u : Int} : sup (sup σ c i v) c i u = sup σ c i u := by
  funext c' j
  simp only [sup]
  split <;> rfl
section WTs
variable {T : Tab}
theorem WT_6 (w : WT T) {r : Nat} {v : Int} (hr : r < 7) (hv : 0 ≤ v ∧ v ≤ 59) : WT (sup T 6 r v) := by
  obtain ⟨h1, h2, h3, h4, h5, h6⟩ := w
  refine ⟨by rw [sup_c (by decide)]; exact h1, by rw [sup_c (by decide)]; exact h2, by rw [sup_c (by decide)]; exact h3, by rw [sup_c (by decide)]; exact h4, fun j hj => by rw [sup_c (by decide), sup_c (by decide)]; exact h5 j hj, fun j hj => ?_⟩
  have := h6 j hj
  rw [sup_c (c' := 2) (by decide), sup_c (c' := 3) (by decide), sup_c (c' := 4) (by decide), sup_c (c' := 5) (by decide), sup_c (c' := 8) (by decide), sup_c (c' := 7) (by decide)]
  refine ⟨this.1, this.2.1, this.2.2.1, this.2.2.2.1, ?_, this.2.2.2.2.2⟩
  by_cases e : j = r
  · subst e; rw [sup_e]; exact hv
  · rw [sup_i e]; exact this.2.2.2.2.1
theorem WT_9 (w : WT T) {v : Int} (hv : 1 ≤ v ∧ v ≤ 3) : WT (sup T 9 0 v) := by
  obtain ⟨h1, h2, h3, h4, h5, h6⟩ := w
  refine ⟨by rw [sup_c (by decide)]; exact h1, by rw [sup_c (by decide)]; exact h2, by rw [sup_e]; exact hv, by rw [sup_c (by decide)]; exact h4, fun j hj => by rw [sup_c (by decide), sup_c (by decide)]; exact h5 j hj, fun j hj => ?_⟩
  rw [sup_c (by decide), sup_c (by decide), sup_c (by decide), sup_c (by decide), sup_c (by decide), sup_c (by decide), sup_c (by decide)]
  exact h6 j hj
theorem WT_4 (w : WT T) {r : Nat} {v : Int} (hr : r < 7) (hv : 0 ≤ v ∧ v < T 7 0) : WT (sup T 4 r v) := by
  obtain ⟨h1, h2, h3, h4, h5, h6⟩ := w
  refine ⟨by rw [sup_c (by decide)]; exact h1, by rw [sup_c (by decide)]; exact h2, by rw [sup_c (by decide)]; exact h3, by rw [sup_c (by decide)]; exact h4, fun j hj => by rw [sup_c (by decide), sup_c (by decide)]; exact h5 j hj, fun j hj => ?_⟩
  have := h6 j hj
  rw [sup_c (c' := 2) (by decide), sup_c (c' := 3) (by decide), sup_c (c' := 5) (by decide), sup_c (c' := 6) (by decide), sup_c (c' := 8) (by decide), sup_c (c' := 7) (by decide)]
  refine ⟨this.1, this.2.1, ?_, this.2.2.2.1, this.2.2.2.2.1, ?_⟩
  · by_cases e : j = r
    · subst e; rw [sup_e]; omega
    · rw [sup_i e]; exact this.2.2.1
  · by_cases e : j = r
    · subst e; rw [sup_e]; omega
    · rw [sup_i e]; exact this.2.2.2.2.2
theorem WT_01 (w : WT T) {k r : Nat} {v : Int} (hk : k = 0 ∨ k = 1) (hr : r < 6) (h0 : k = 0 → 0 ≤ v ∧ v ≤ 255) (h1 : k = 1 → 0 ≤ v ∧ v ≤ 40) : WT (sup T k r v) := by
  obtain ⟨g1, g2, g3, g4, g5, g6⟩ := w
  refine ⟨by rw [sup_c (by omega)]; exact g1, by rw [sup_c (by omega)]; exact g2, by rw [sup_c (by omega)]; exact g3, by rw [sup_c (by omega)]; exact g4, fun j hj => ?_, fun j hj => ?_⟩
  · have := g5 j hj
    rcases hk with rfl | rfl
    · rw [sup_c (c' := 1) (by decide)]
      refine ⟨?_, this.2⟩
      by_cases e : j = r
      · subst e; rw [sup_e]; exact h0 rfl
      · rw [sup_i e]; exact this.1
    · rw [sup_c (c' := 0) (by decide)]
      refine ⟨this.1, ?_⟩
      by_cases e : j = r
      · subst e; rw [sup_e]; exact h1 rfl
      · rw [sup_i e]; exact this.2
  · have := g6 j hj
    rw [sup_c (by omega), sup_c (by omega), sup_c (by omega), sup_c (by omega), sup_c (by omega), sup_c (by omega), sup_c (by omega)]
    exact this
theorem WT_swB (w : WT T) {a b : Nat} (ha : (a : Int) < T 7 0) (hb : (b : Int) < T 7 0) {T0 : Tab} (h0 : ∀ r : Nat, r < 7 → (r : Int) < T 8 0 → 0 ≤ T0 4 r ∧ T0 4 r < T 7 0) (hT : ∀ n, swB a b T0 n 7 0 = T 7 0) (w0 : WT T0) (e8 : T0 8 0 = T 8 0) : ∀ n, n ≤ rN T → WT (swB a b T0 n)
  | 0, _ => w0
  | n + 1, hn => by
    have hR := WT_r w
    have ih := WT_swB w ha hb h0 hT w0 e8 n (by omega)
    refine WT_4 ih (by omega) ?_
    rw [hT n]
    have := h0 n (by omega) (by omega)
    split
    · omega
    · split <;> omega
theorem WT_swp (w : WT T) {a b : Nat} (ha : (a : Int) < T 7 0) (hb : (b : Int) < T 7 0) : WT (swp T a b) ∧ gN (swp T a b) = gN T ∧ rN (swp T a b) = rN T := by
  have hG := WT_g w
  have ga := w.2.2.2.2.1 a (by omega)
  have gb := w.2.2.2.2.1 b (by omega)
  unfold swp
  generalize hT1 : sup (sup (sup (sup T 0 a (T 0 b)) 1 a (T 1 b)) 0 b (T 0 a)) 1 b (T 1 a) = T1
  have w1 : WT T1 := by
    rw [← hT1]
    refine WT_01 (WT_01 (WT_01 (WT_01 w (Or.inl rfl) (by omega) (fun _ => gb.1) (fun z => by cases z)) (Or.inr rfl) (by omega) (fun z => by cases z) (fun _ => gb.2)) (Or.inl rfl) (by omega) (fun _ => ga.1) (fun z => by cases z)) (Or.inr rfl) (by omega) (fun z => by cases z) (fun _ => ga.2)
  have o : ∀ k j, k ≠ 0 → k ≠ 1 → T1 k j = T k j := fun k j k0 k1 => by
    rw [← hT1, sup_c k1, sup_c k0, sup_c k1, sup_c k0]
  have e7 : ∀ n, swB a b T1 n 7 0 = T 7 0 := fun n => by rw [swB_fr _ _ _ (by decide), o _ _ (by decide) (by decide)]
  refine ⟨WT_swB w ha hb (fun r hr hr2 => ?_) e7 w1 (o _ _ (by decide) (by decide)) _ (Nat.le_refl _), ?_, ?_⟩
  · rw [o _ _ (by decide) (by decide)]
    have := w.2.2.2.2.2 r hr
    omega
  · unfold gN; rw [e7]
  · unfold rN; rw [swB_fr _ _ _ (by decide), o _ _ (by decide) (by decide)]
end WTs
theorem md_b {T : Tab} (w : WT T) (lo : Nat) : 0 ≤ md T lo ∧ md T lo ≤ 240 := by
  have hG := WT_g w
  have hI := evn_I (lo := lo) w 61
  have h1 := sm_ge (f := evg T lo 3) (n := gN T) (fun k hk => (hI.2 k (by omega)).1)
  have h2 := sm_le (f := evg T lo 3) (c := 40) (n := gN T) (fun k hk => (hI.2 k (by omega)).2)
  unfold md
  omega
theorem and_mask (x : Int) : 0 ≤ iand x 2147483647 ∧ iand x 2147483647 ≤ 2147483647 := by
  unfold iand
  have e := pk_and (Int32.ofInt x) (m := Int32.ofInt 2147483647) 31 (by decide +kernel)
  rw [e, nI_ti (by have := Nat.mod_lt (Int32.ofInt x).toBitVec.toNat (show 2 ^ 31 > 0 by decide); omega)]
  have := Nat.mod_lt (Int32.ofInt x).toBitVec.toNat (show 2 ^ 31 > 0 by decide)
  omega
theorem drw_b (z : Int) : 0 ≤ drw z ∧ drw z ≤ 59 := by
  have h := and_mask z
  unfold drw
  have h1 : 0 ≤ (iand z 2147483647).tdiv 256 := Int.tdiv_nonneg h.1 (by decide)
  have h2 : (iand z 2147483647).tdiv 256 ≤ iand z 2147483647 := Int.tdiv_le_self 256 h.1
  rw [w32_id (by omega) (by omega)]
  have h3 := Int.tmod_nonneg 60 h1
  have h4 := Int.tmod_lt_of_pos ((iand z 2147483647).tdiv 256) (show (0 : Int) < 60 by decide)
  omega
section TX
variable {d : Nat} {σ : Sto} {Q : PQ} {T : Tab} {lo : Nat}
theorem s_moodsL (hT : tb σ 17 = T) (w : WT T) (hlo : lo < 128) (h : ∀ σ', tb σ' 17 = T → EF σ σ' → Q (some (vI (md T lo))) σ') : P (d + 6) 58 [vR 31, vI (lo : Int)] σ Q := by
  refine e_Tr_moodsLeaving fun X hX => b_Tr_moodsLeaving_0 hX ?_
  refine s_run hT w hlo (fun σ1 hV hF => b_Tr_moodsLeaving_8 hX ?_)
  exact s_Emoods w hV (b_Tr_moodsLeaving_15 hX (h σ1 hV.1 hF))
theorem cp17 (h : ∀ σ', tb σ' 17 = tb σ 1 → FX σ σ' → Q none σ') : P (d + 1) 8 [vR 17, vR 1] σ Q :=
  s_copyFrom isT17 (Or.inl rfl) (by decide) (fun σ' h1 h2 => h σ' h1 (out_X h2))
theorem s_without (hT : tb σ 1 = T) (w : WT T) {r : Nat} (hr : r < rN T) (h : ∀ σ', FX σ σ' → Q (some (vI (md T (2 ^ r) - md T 0))) σ') : P (d + 7) 60 [vR 31, vR 1, vI (r : Int)] σ Q := by
  have hR := WT_r w
  have hp : 2 ^ r < 128 := Nat.pow_lt_pow_right (a := 2) (m := r) (n := 7) (by decide) (by omega)
  refine e_Tr_moreWithout fun X hX => b_Tr_moreWithout_0 hX ?_
  refine cp17 (fun σ1 h1 f1 => b_Tr_moreWithout_8 hX ?_)
  rw [hT] at h1
  rw [ishl_1 (by omega)]
  refine s_moodsL h1 w hp (fun σ2 h2 f2 => b_Tr_moreWithout_15 hX ?_)
  refine s_moodsL (lo := 0) h2 w (by decide) (fun σ3 h3 f3 => b_Tr_moreWithout_20 hX ?_)
  have b1 := md_b w (2 ^ r)
  have b2 := md_b w 0
  rw [w32_id (by omega) (by omega)]
  exact h σ3 (FX_tr f1 (FX_tr (EF_X f2) (EF_X f3)))
theorem s_bestMin (hT : tb σ 1 = T) (w : WT T) {r : Nat} (hr : r < rN T) (h : ∀ σ', FX σ σ' → Q (some (vI (bmF T r 60).1)) σ') : P (d + 7) 61 [vR 31, vR 1, vI (r : Int)] σ Q := by
  have hR := WT_r w
  have h7 : r < 7 := by omega
  refine e_Tr_minuteOfMostMoods fun X hX => b_Tr_minuteOfMostMoods_0 hX ?_
  refine s_hasRemark (Or.inl rfl) hT (fun _ _ => ?_) (fun q => absurd q (by omega))
  refine b_Tr_minuteOfMostMoods_5 hX ?_
  rw [if_neg (by decide)]
  refine cp17 (fun σ1 h1 f1 => b_Tr_minuteOfMostMoods_19 hX ?_)
  rw [hT] at h1
  refine upto (p := fun i => ∀ σi : Sto, (∃ v, sup (tb σi 17) 6 r v = sup T 6 r v) → FX σ σi → X 27 [some (vR 31), none, some (vI (r : Int)), some (vI (bmF T r i).1), some (vI (bmF T r i).2), some (vI (i : Int)), none] [] σi) 60 (fun i hi ih => ?_) ?_ σ1 ⟨0, by rw [h1]⟩ f1
  · intro σi hv fi
    refine b_Tr_minuteOfMostMoods_27 hX ?_
    rw [if_neg (by omega)]
    refine ⟨by omega, ?_⟩
    rw [Int.toNat_natCast]
    have hTi : tb (sup σi 24 r i) 17 = sup T 6 r i := by
      rw [show (24 : Nat) = 17 + 7 from rfl, ts6 h7]
      obtain ⟨v, hv⟩ := hv
      rw [← sup_sup (σ := tb σi 17) (v := v), hv, sup_sup]
    have wi : WT (sup T 6 r i) := WT_6 w h7 (by omega)
    refine s_moodsL (lo := 0) hTi wi (by decide) (fun σ2 h2 f2 => b_Tr_minuteOfMostMoods_50 hX ?_)
    have e : bmF T r (i + 1) = st2 (md (sup T 6 r i) 0) i (bmF T r i) := rfl
    unfold st2 at e
    rw [w32_s i (by omega)]
    have fin := ih σ2 ⟨0, by rw [h2, sup_sup]⟩ (FX_tr fi (FX_tr (FX_sup (by omega)) (EF_X f2)))
    by_cases hc : (bmF T r i).2 < md (sup T 6 r i) 0
    · rw [if_pos hc]
      rw [e, if_pos hc] at fin; exact fin
    · rw [if_neg hc]
      rw [e, if_neg hc] at fin; exact fin
  · intro σi hv fi
    refine b_Tr_minuteOfMostMoods_27 hX ?_
    rw [if_pos (by decide)]
    exact h σi fi
theorem s_enough (hT : tb σ 1 = T) (w : WT T) (h : ∀ σ', FX σ σ' → Q (some (vI (enF T))) σ') : P (d + 7) 62 [vR 31, vR 1] σ Q := by
  have hR := WT_r w
  refine e_Tr_leastWaiters fun X hX => b_Tr_leastWaiters_0 hX ?_
  refine cp17 (fun σ1 h1 f1 => b_Tr_leastWaiters_8 hX ?_)
  rw [hT] at h1
  have one : ∀ (k : Int) (σi : Sto), 1 ≤ k → k ≤ 3 → (∃ v, tb σi 17 = sup T 9 0 v) → FX σ σi → (okW T k = true → ∀ σ', FX σ σ' → Q (some (vI k)) σ') → (okW T k = false → ∀ σ', (∃ v, tb σ' 17 = sup T 9 0 v) → FX σ σ' → X 10 [some (vR 31), some (vR 1), some (vI (k + 1))] [] σ') → X 10 [some (vR 31), some (vR 1), some (vI k)] [] σi := by
    intro k σi k1 k3 hv fi hyes hno
    refine b_Tr_leastWaiters_10 hX ?_
    rw [if_neg (by omega)]
    obtain ⟨v, hv⟩ := hv
    have hTi : tb (sup σi 17 9 k) 17 = sup T 9 0 k := by rw [ts9, hv, sup_sup]
    have wi : WT (sup T 9 0 k) := WT_9 w ⟨k1, k3⟩
    refine s_run (lo := 0) hTi wi (by decide) (fun σ2 hV f2 => b_Tr_leastWaiters_31 hX ?_)
    refine s_EopBy wi hV (b_Tr_leastWaiters_40 hX ?_)
    have f3 : FX σ σ2 := FX_tr fi (FX_tr (FX_sup (by omega)) (EF_X f2))
    have e8 : σ2 1 8 = T 8 0 := by rw [f3 1 (by omega)]; exact b8 hT
    rw [e8]
    by_cases hc : opBy (sup T 9 0 k) (evg (sup T 9 0 k) 0) 60 = T 8 0
    · rw [if_pos hc]
      exact hyes (decide_eq_true hc) σ2 f3
    · rw [if_neg hc, w32_id (by omega) (by omega)]
      exact hno (decide_eq_false hc) σ2 ⟨k, hV.1⟩ f3
  unfold enF at h
  refine one 1 σ1 (by decide) (by decide) ⟨T 9 0, by rw [h1, sup_self]⟩ f1 (fun q σ' f => ?_) (fun q1 σ2 v2 f2 => ?_)
  · have := h σ' f
    rw [if_pos q] at this; exact this
  · refine one 2 σ2 (by decide) (by decide) v2 f2 (fun q σ' f => ?_) (fun q2 σ3 v3 f3 => ?_)
    · have := h σ' f
      rw [if_neg (by simp [q1]), if_pos q] at this; exact this
    · refine one 3 σ3 (by decide) (by decide) v3 f3 (fun q σ' f => ?_) (fun q3 σ4 v4 f4 => ?_)
      · have := h σ' f
        rw [if_neg (by simp [q1]), if_neg (by simp [q2]), if_pos q] at this; exact this
      · refine b_Tr_leastWaiters_10 hX ?_
        rw [if_pos (by decide)]
        have := h σ4 f4
        rw [if_neg (by simp [q1]), if_neg (by simp [q2]), if_neg (by simp [q3])] at this; exact this
theorem s_swap (hT : tb σ 1 = T) (w : WT T) (h : ∀ σ', FX σ σ' → Q (some (vI (swO T (gN T)).1)) σ') : P (d + 7) 63 [vR 31, vR 1] σ Q := by
  have hG := WT_g w
  refine e_Tr_seatsOfMostMoods fun X hX => b_Tr_seatsOfMostMoods_0 hX ?_
  refine cp17 (fun σ1 h1 f1 => b_Tr_seatsOfMostMoods_8 hX ?_)
  rw [hT] at h1
  refine s_moodsL (lo := 0) h1 w (by decide) (fun σ2 h2 f2 => b_Tr_seatsOfMostMoods_16 hX ?_)
  refine upto (p := fun i => ∀ σi : Sto, FX σ σi → X 20 [some (vR 31), some (vR 1), some (vI (swO T i).1), some (vI (swO T i).2), some (vI (i : Int)), none, none] [] σi) (gN T) (fun i hi ih => ?_) ?_ σ2 (FX_tr f1 (EF_X f2))
  · intro σi fi
    refine b_Tr_seatsOfMostMoods_20 hX ?_
    have e7 : ∀ σj, FX σ σj → σj 1 7 = T 7 0 := fun σj fj => by rw [fj 1 (by omega)]; exact b7 hT
    rw [e7 σi fi, if_pos (by omega), w32_s i (by omega)]
    refine upto (p := fun k => ∀ σj : Sto, FX σ σj → X 35 [some (vR 31), some (vR 1), some (vI (swI T i k (swO T i)).1), some (vI (swI T i k (swO T i)).2), some (vI (i : Int)), some (vI ((i + 1 + k : Nat) : Int)), none] [] σj) (gN T - (i + 1)) (fun k hk ihk => ?_) ?_ σi fi
    · intro σj fj
      refine b_Tr_seatsOfMostMoods_35 hX ?_
      rw [e7 σj fj, if_pos (by omega)]
      refine cp17 (fun σ3 h3 f3 => b_Tr_seatsOfMostMoods_52 hX ?_)
      rw [FX_T fj, hT] at h3
      have hsw := WT_swp w (a := i) (b := i + 1 + k) (by omega) (by omega)
      refine s_changeSeats isT17 h3 w (fun _ _ _ _ _ σ4 h4 f4 => b_Tr_seatsOfMostMoods_63 hX ?_) (fun q => absurd q (by omega))
      rw [Int.toNat_natCast, Int.toNat_natCast] at h4
      refine s_moodsL (lo := 0) h4 hsw.1 (by decide) (fun σ5 h5 f5 => b_Tr_seatsOfMostMoods_69 hX ?_)
      have e : swI T i (k + 1) (swO T i) = st2 (md (swp T i (i + 1 + k)) 0) (10 * (i : Int) + ((i + 1 + k : Nat) : Int)) (swI T i k (swO T i)) := rfl
      unfold st2 at e
      have fin := ihk σ5 (FX_tr fj (FX_tr f3 (FX_tr (out_X f4) (EF_X f5))))
      rw [w32_s (i + 1 + k) (by omega), w32_id (x := 10 * (i : Int)) (by omega) (by omega), w32_id (x := 10 * (i : Int) + _) (by omega) (by omega)]
      by_cases hc : (swI T i k (swO T i)).2 < md (swp T i (i + 1 + k)) 0
      · rw [if_pos hc]
        rw [e, if_pos hc] at fin; exact fin
      · rw [if_neg hc]
        rw [e, if_neg hc] at fin; exact fin
    · intro σj fj
      refine b_Tr_seatsOfMostMoods_35 hX ?_
      rw [e7 σj fj, if_neg (by omega), w32_s i (by omega)]
      exact ih σj fj
  · intro σi fi
    refine b_Tr_seatsOfMostMoods_20 hX ?_
    have e7 : σi 1 7 = T 7 0 := by rw [fi 1 (by omega)]; exact b7 hT
    rw [e7, if_neg (by omega)]
    exact h σi fi
theorem s_fit (hT : tb σ 1 = T) (w : WT T) (h : ∀ σ', FX σ σ' → Q (some (vI (brO T (rN T)).1)) σ') : P (d + 7) 64 [vR 31, vR 1] σ Q := by
  have hG := WT_g w
  have hR := WT_r w
  refine e_Tr_bringerOfMostMoods fun X hX => b_Tr_bringerOfMostMoods_0 hX ?_
  refine cp17 (fun σ1 h1 f1 => b_Tr_bringerOfMostMoods_8 hX ?_)
  rw [hT] at h1
  refine s_moodsL (lo := 0) h1 w (by decide) (fun σ2 h2 f2 => b_Tr_bringerOfMostMoods_16 hX ?_)
  refine upto (p := fun i => ∀ σi : Sto, FX σ σi → X 20 [some (vR 31), some (vR 1), some (vI (brO T i).1), some (vI (brO T i).2), some (vI (i : Int)), none, none] [] σi) (rN T) (fun i hi ih => ?_) ?_ σ2 (FX_tr f1 (EF_X f2))
  · intro σi fi
    refine b_Tr_bringerOfMostMoods_20 hX ?_
    have e7 : ∀ σj, FX σ σj → σj 1 7 = T 7 0 := fun σj fj => by rw [fj 1 (by omega)]; exact b7 hT
    have e8 : ∀ σj, FX σ σj → σj 1 8 = T 8 0 := fun σj fj => by rw [fj 1 (by omega)]; exact b8 hT
    rw [e8 σi fi, if_pos (by omega)]
    refine cp17 (fun σ3 h3 f3 => b_Tr_bringerOfMostMoods_37 hX ?_)
    rw [FX_T fi, hT] at h3
    have h7 : i < 7 := by omega
    refine upto (p := fun k => ∀ σj : Sto, (∃ v, tb σj 17 = sup T 4 i v) → FX σ σj → X 40 [some (vR 31), some (vR 1), some (vI (brI T i k (brO T i)).1), some (vI (brI T i k (brO T i)).2), some (vI (i : Int)), some (vI (k : Int)), none] [] σj) (gN T) (fun k hk ihk => ?_) ?_ σ3 ⟨T 4 i, by rw [h3, sup_self]⟩ (FX_tr fi f3)
    · intro σj vj fj
      refine b_Tr_bringerOfMostMoods_40 hX ?_
      rw [e7 σj fj, if_pos (by omega)]
      refine ⟨by omega, ?_⟩
      rw [Int.toNat_natCast]
      obtain ⟨v, vj⟩ := vj
      have hTi : tb (sup σj 22 i k) 17 = sup T 4 i k := by
        rw [show (22 : Nat) = 17 + 5 from rfl, ts4 h7, vj, sup_sup]
      have wi : WT (sup T 4 i k) := WT_4 w h7 (by omega)
      refine s_moodsL (lo := 0) hTi wi (by decide) (fun σ5 h5 f5 => b_Tr_bringerOfMostMoods_66 hX ?_)
      have e : brI T i (k + 1) (brO T i) = st2 (md (sup T 4 i k) 0) (10 * (i : Int) + (k : Int)) (brI T i k (brO T i)) := rfl
      unfold st2 at e
      have fin := ihk σ5 ⟨k, h5⟩ (FX_tr fj (FX_tr (FX_sup (by omega)) (EF_X f5)))
      rw [w32_s k (by omega), w32_id (x := 10 * (i : Int)) (by omega) (by omega), w32_id (x := 10 * (i : Int) + _) (by omega) (by omega)]
      by_cases hc : (brI T i k (brO T i)).2 < md (sup T 4 i k) 0
      · rw [if_pos hc]
        rw [e, if_pos hc] at fin; exact fin
      · rw [if_neg hc]
        rw [e, if_neg hc] at fin; exact fin
    · intro σj vj fj
      refine b_Tr_bringerOfMostMoods_40 hX ?_
      rw [e7 σj fj, if_neg (by omega), w32_s i (by omega)]
      exact ih σj fj
  · intro σi fi
    refine b_Tr_bringerOfMostMoods_20 hX ?_
    have e8 : σi 1 8 = T 8 0 := by rw [fi 1 (by omega)]; exact b8 hT
    rw [e8, if_neg (by omega)]
    exact h σi fi
end TX
