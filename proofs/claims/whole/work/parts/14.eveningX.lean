/-! The class's evening: its cells hold the pure one. -/
def EX (σ : Sto) (E : Tab) : Prop := (∀ j, j < 7 → σ 26 j = E 0 j ∧ σ 30 j = E 1 j ∧ σ 28 j = E 2 j) ∧ ∀ j, j < 6 → σ 29 j = E 3 j
theorem isT17 : isT 17 := Or.inr (Or.inr rfl)
theorem EX_same {σ σ' : Sto} {E : Tab} (h : EX σ E) (h26 : σ' 26 = σ 26) (h28 : σ' 28 = σ 28) (h29 : σ' 29 = σ 29) (h30 : σ' 30 = σ 30) : EX σ' E := by
  unfold EX
  rw [h26, h28, h29, h30]; exact h
section EVX
variable {d : Nat} {σ : Sto} {Q : PQ} {T E : Tab} {lo : Nat}
theorem s_next {m : Nat} (hT : tb σ 17 = T) (w : WT T) (hE : EX σ E) (hlo : lo < 128) (hl : σ 25 6 = (lo : Int)) (hm : m < 60) (h : Q (some (vI (nxt T E lo m (rN T)))) σ) : P (d + 1) 34 [vR 25, vI (m : Int)] σ Q := by
  have hR := WT_r w
  refine e_Ev_nextToTake fun X hX => b_Ev_nextToTake_0 hX ?_
  rw [w32_s m (by omega)]
  refine upto (p := fun i => X 10 [some (vR 25), none, some (vI (nxt T E lo m i)), some (vI (if nxt T E lo m i < 0 then ((m + 1 : Nat) : Int) else T 6 (nxt T E lo m i).toNat)), some (vI (i : Int)), none] [] σ) (rN T) (fun i hi ih => ?_) ?_
  · refine b_Ev_nextToTake_10 hX ?_
    have h7 : i < 7 := by omega
    have hb := nxt_b (T := T) (E := E) (lo := lo) (m := (m : Int)) i
    have hw := nxt_w (T := T) (E := E) (lo := lo) (m := (m : Int)) i
    have e : nxt T E lo m (i + 1) = if E 0 i = -9 ∧ lo.testBit i = false ∧ T 6 i ≤ m ∧ (nxt T E lo m i < 0 ∨ T 6 i < T 6 (nxt T E lo m i).toNat) then (i : Int) else nxt T E lo m i := rfl
    rw [show σ 17 8 = T 8 0 from b8 hT, if_pos (by omega)]
    refine ⟨by omega, ?_⟩
    rw [Int.toNat_natCast, (hE.1 i h7).1, hl, bit_nn (by omega) (by omega), w32_s i (by omega), show σ 24 i = T 6 i from a6 hT h7]
    have keep : (¬ (E 0 i = -9 ∧ lo.testBit i = false ∧ T 6 i ≤ m ∧ (nxt T E lo m i < 0 ∨ T 6 i < T 6 (nxt T E lo m i).toNat))) → X 10 [some (vR 25), none, some (vI (nxt T E lo m i)), some (vI (if nxt T E lo m i < 0 then ((m + 1 : Nat) : Int) else T 6 (nxt T E lo m i).toNat)), some (vI ((i + 1 : Nat) : Int)), none] [] σ := fun hn => by
      rw [e, if_neg hn] at ih; exact ih
    by_cases h1 : E 0 i = -9
    · rw [if_pos h1]
      by_cases h2 : lo.testBit i = true
      · rw [if_neg (by rw [if_pos h2]; decide)]
        exact keep (fun z => by rw [h2] at z; exact absurd z.2.1 (by decide))
      · have h2' : lo.testBit i = false := by simpa using h2
        rw [if_pos (by rw [if_neg h2])]
        by_cases h3 : T 6 i < (if nxt T E lo m i < 0 then ((m + 1 : Nat) : Int) else T 6 (nxt T E lo m i).toNat)
        · rw [if_pos h3]
          have hc : E 0 i = -9 ∧ lo.testBit i = false ∧ T 6 i ≤ m ∧ (nxt T E lo m i < 0 ∨ T 6 i < T 6 (nxt T E lo m i).toNat) := by
            refine ⟨h1, h2', ?_⟩
            by_cases q : nxt T E lo m i < 0
            · rw [if_pos q] at h3
              exact ⟨by omega, Or.inl q⟩
            · rw [if_neg q] at h3
              have := hw (by omega)
              exact ⟨by omega, Or.inr h3⟩
          rw [e, if_pos hc, if_neg (by omega), Int.toNat_natCast] at ih
          exact ih
        · rw [if_neg h3]
          refine keep (fun z => h3 ?_)
          by_cases q : nxt T E lo m i < 0
          · rw [if_pos q]; omega
          · rw [if_neg q]; rcases z.2.2.2 with y | y
            · exact absurd y q
            · exact y
    · rw [if_neg h1]
      exact keep (fun z => h1 z.1)
  · refine b_Ev_nextToTake_10 hX ?_
    rw [show σ 17 8 = T 8 0 from b8 hT, if_neg (by omega)]
    exact h
theorem s_busy {m : Int} (hT : tb σ 17 = T) (w : WT T) (hE : EX σ E) (h : Q (some (vI (bsy T E m))) σ) : P (d + 1) 35 [vR 25, vI m] σ Q := by
  have hR := WT_r w
  refine e_Ev_busyAt fun X hX => b_Ev_busyAt_0 hX ?_
  refine upto (p := fun i => X 4 [some (vR 25), some (vI m), some (vI (cnt (uw E m) i)), some (vI (i : Int))] [] σ) (rN T) (fun i hi ih => ?_) ?_
  · refine b_Ev_busyAt_4 hX ?_
    have h7 : i < 7 := by omega
    have hb := cnt_b (uw E m) i
    rw [show σ 17 8 = T 8 0 from b8 hT, if_pos (by omega)]
    refine ⟨by omega, ?_⟩
    rw [Int.toNat_natCast, (hE.1 i h7).1, (hE.1 i h7).2.1, w32_s i (by omega), w32_id (x := cnt (uw E m) i + 1) (by omega) (by omega)]
    rw [cnt_s] at ih
    by_cases h1 : E 0 i = -9
    · rw [if_pos h1]
      rw [if_neg (by simp [uw, h1]), Int.add_zero] at ih; exact ih
    · rw [if_neg h1]
      by_cases h2 : m < E 0 i
      · rw [if_pos h2]
        rw [if_neg (by simp [uw]; omega), Int.add_zero] at ih; exact ih
      · rw [if_neg h2]
        by_cases h3 : m < E 1 i
        · rw [if_pos h3]
          rw [if_pos (by simp [uw, h1, h3]; omega)] at ih; exact ih
        · rw [if_neg h3]
          rw [if_neg (by simp [uw, h3]), Int.add_zero] at ih; exact ih
  · refine b_Ev_busyAt_4 hX ?_
    rw [show σ 17 8 = T 8 0 from b8 hT, if_neg (by omega)]
    exact h
theorem bsy_b (w : WT T) {m : Int} : 0 ≤ bsy T E m ∧ bsy T E m ≤ 7 := by
  have hR := WT_r w
  have := cnt_b (uw E m) (rN T)
  unfold bsy
  omega
theorem s_takes {m : Nat} (hT : tb σ 17 = T) (w : WT T) (hE : EX σ E) (hK : EK T E m) (hlo : lo < 128) (hl : σ 25 6 = (lo : Int)) (hm : m < 60)
    (h : ∀ σ', EX σ' (tks T lo m (T 9 0 - bsy T E m).toNat E) → (∀ c, c ≠ 26 → c ≠ 30 → σ' c = σ c) → Q none σ') : P (d + 3) 33 [vR 25, vI (m : Int)] σ Q := by
  have hR := WT_r w
  have hbs := bsy_b (E := E) w (m := (m : Int))
  have hw9 := w.2.2.1
  refine e_Ev_takeWhatIsReady fun X hX => b_Ev_takeWhatIsReady_0 hX ?_
  refine s_busy hT w hE (b_Ev_takeWhatIsReady_12 hX ?_)
  rw [show σ 17 9 = T 9 0 from b9 hT, w32_id (by omega) (by omega)]
  refine upto (p := fun i => ∀ σi : Sto, EX σi (tks T lo m i E) → (∀ c, c ≠ 26 → c ≠ 30 → σi c = σ c) → X 16 [some (vR 25), some (vI (m : Int)), some (vI (T 9 0 - bsy T E m)), some (vI (i : Int)), none] [] σi) (T 9 0 - bsy T E m).toNat (fun i hi ih => ?_) ?_ σ hE (fun _ _ _ => rfl)
  · intro σi h1 h2
    have hTi : tb σi 17 = T := (tb_same (fun c q1 q2 j => by rw [h2 c (by omega) (by omega)])).trans hT
    have hKi := tks_K (lo := lo) w hK (by omega) i
    refine b_Ev_takeWhatIsReady_16 hX ?_
    rw [if_pos (by omega)]
    refine s_next hTi w h1 hlo (by rw [h2 25 (by decide) (by decide)]; exact hl) hm (b_Ev_takeWhatIsReady_26 hX ?_)
    have hb := nxt_b (T := T) (E := tks T lo m i E) (lo := lo) (m := (m : Int)) (rN T)
    have e : tks T lo m (i + 1) E = tak1 T lo m (tks T lo m i E) := rfl
    unfold tak1 at e
    refine s_hasRemark isT17 hTi (fun p1 p2 => ?_) (fun p => ?_)
    · refine b_Ev_takeWhatIsReady_37 hX ?_
      rw [if_neg (by decide)]
      refine ⟨by omega, ?_⟩
      obtain ⟨k, hk⟩ : ∃ k : Nat, nxt T (tks T lo m i E) lo m (rN T) = k := ⟨_, (Int.toNat_of_nonneg p1).symm⟩
      rw [hk] at p2 e ⊢
      rw [if_neg (by omega), Int.toNat_natCast] at e
      rw [Int.toNat_natCast]
      have hkR : k < rN T := by omega
      have hTs : tb (sup σi 26 k m) 17 = T := (tb_off (by omega)).trans hTi
      have hmt := minT_b w (r := k) (by omega)
      refine s_Tmin isT17 hTs w hkR (b_Ev_takeWhatIsReady_64 hX ?_)
      refine ⟨by omega, ?_⟩
      rw [Int.toNat_natCast, w32_s i (by omega), w32_id (by omega) (by omega)]
      refine ih _ ?_ (fun c hc1 hc2 => by rw [sup_fr hc2, sup_fr hc1]; exact h2 c hc1 hc2)
      rw [e]
      refine ⟨fun j hj => ?_, fun j hj => ?_⟩
      · have := h1.1 j hj
        by_cases q : j = k
        · subst q
          refine ⟨?_, ?_, ?_⟩
          · rw [sup_c (by decide), sup_e, sup_c (by decide), sup_e]
          · rw [sup_e, sup_e]
          · rw [sup_c (by decide), sup_c (by decide), sup_c (by decide), sup_c (by decide)]; exact this.2.2
        · refine ⟨?_, ?_, ?_⟩
          · rw [sup_c (by decide), sup_i q, sup_c (by decide), sup_i q]; exact this.1
          · rw [sup_i q, sup_c (by decide), sup_i q, sup_c (by decide)]; exact this.2.1
          · rw [sup_c (by decide), sup_c (by decide), sup_c (by decide), sup_c (by decide)]; exact this.2.2
      · rw [sup_c (by decide), sup_c (by decide), sup_c (by decide), sup_c (by decide)]; exact h1.2 j hj
    · refine b_Ev_takeWhatIsReady_37 hX ?_
      rw [if_pos rfl, w32_s i (by omega)]
      refine ih σi ?_ h2
      rw [e, if_pos (by omega)]
      exact h1
  · intro σi h1 h2
    refine b_Ev_takeWhatIsReady_16 hX ?_
    rw [if_neg (by omega)]
    exact h σi h1 h2
theorem s_changeMoods {p : Nat → Bool} {b : Int} (hT : tb σ 17 = T) (w : WT T) (hb : -10 ≤ b ∧ b ≤ 10) (hm : ∀ j, j < 6 → 0 ≤ σ 29 j ∧ σ 29 j ≤ 40)
    (h : ∀ σ', (∀ j, j < 6 → σ' 29 j = if j < gN T ∧ p j = true then max 0 (min 40 (σ 29 j + b)) else σ 29 j) → (∀ c, c ≠ 29 → σ' c = σ c) → Q none σ') : P (d + 1) 32 [vR 25, vI (mk p (gN T) : Int), vI b] σ Q := by
  have hG := WT_g w
  refine e_Ev_changeMoods fun X hX => b_Ev_changeMoods_0 hX ?_
  refine upto (p := fun i => ∀ σi : Sto, (∀ j, j < 6 → σi 29 j = if j < i ∧ p j = true then max 0 (min 40 (σ 29 j + b)) else σ 29 j) → (∀ c, c ≠ 29 → σi c = σ c) → X 2 [some (vR 25), some (vI (mk p (gN T) : Int)), some (vI b), some (vI (i : Int))] [] σi) (gN T) (fun i hi ih => ?_) ?_ σ (fun j hj => by rw [if_neg (by omega)]) (fun _ _ => rfl)
  · intro σi h1 h2
    refine b_Ev_changeMoods_2 hX ?_
    have h6 : i < 6 := by omega
    have hTi : tb σi 17 = T := (tb_same (fun c q1 q2 j => by rw [h2 c (by omega)])).trans hT
    have hmi := hm i h6
    have h1i := h1 i h6
    rw [if_neg (by omega)] at h1i
    rw [show σi 17 7 = T 7 0 from b7 hTi, if_pos (by omega), bit_nn (mk_lt31 p (by omega)) (by omega), mk_bit, w32_s i (by omega)]
    have hd : decide (i < gN T) = true := decide_eq_true hi
    rw [hd, Bool.true_and]
    by_cases hp : p i = true
    · rw [if_pos (by rw [if_pos hp])]
      refine ⟨by omega, ?_⟩
      rw [Int.toNat_natCast, h1i, w32_id (by omega) (by omega)]
      refine ih _ (fun j hj => ?_) (fun c hc => by rw [sup_fr hc]; exact h2 c hc)
      by_cases q : j = i
      · subst q
        rw [sup_e, if_pos ⟨by omega, hp⟩]
      · rw [sup_i q, h1 j hj]
        by_cases q2 : j < i
        · by_cases q3 : p j = true
          · rw [if_pos ⟨q2, q3⟩, if_pos ⟨by omega, q3⟩]
          · rw [if_neg (fun z => q3 z.2), if_neg (fun z => q3 z.2)]
        · rw [if_neg (by omega), if_neg (by omega)]
    · rw [if_neg (by rw [if_neg hp]; decide)]
      refine ih σi (fun j hj => ?_) h2
      rw [h1 j hj]
      by_cases q : j = i
      · subst q
        rw [if_neg (by omega), if_neg (fun z => hp z.2)]
      · by_cases q2 : j < i
        · by_cases q3 : p j = true
          · rw [if_pos ⟨q2, q3⟩, if_pos ⟨by omega, q3⟩]
          · rw [if_neg (fun z => q3 z.2), if_neg (fun z => q3 z.2)]
        · rw [if_neg (by omega), if_neg (by omega)]
  · intro σi h1 h2
    refine b_Ev_changeMoods_2 hX ?_
    have hTi : tb σi 17 = T := (tb_same (fun c q1 q2 j => by rw [h2 c (by omega)])).trans hT
    rw [show σi 17 7 = T 7 0 from b7 hTi, if_neg (by omega)]
    exact h σi h1 h2
theorem s_opens {m : Int} {r : Nat} (hT : tb σ 17 = T) (w : WT T) (hE : EX σ E) (hm : ∀ j, j < 6 → 0 ≤ E 3 j ∧ E 3 j ≤ 40) (hr : r < rN T)
    (h : ∀ σ', EX σ' (opn T r E) → σ' 27 r = m → (∀ j, j ≠ r → σ' 27 j = σ 27 j) → (∀ c, c ≠ 27 → c ≠ 28 → c ≠ 29 → σ' c = σ c) → Q none σ') : P (d + 3) 31 [vR 25, vI (r : Int), vI m] σ Q := by
  have hR := WT_r w
  have hG := WT_g w
  have h7 : r < 7 := by omega
  have w7 := w.2.2.2.2.2 r h7
  refine e_Ev_open fun X hX => b_Ev_open_0 hX ?_
  refine s_hasRemark isT17 hT (fun _ _ => ?_) (fun q => absurd q (by omega))
  refine b_Ev_open_8 hX ?_
  rw [if_neg (by decide)]
  refine s_hearers isT17 hT w hr (b_Ev_open_20 hX ?_)
  refine ⟨by omega, ?_⟩
  rw [Int.toNat_natCast, show σ 23 r = T 5 r from a5 hT h7]
  have e5 : T 5 r = (tpc T r : Int) := by unfold tpc; omega
  rw [e5]
  refine s_likers isT17 hT w (by omega) (b_Ev_open_37 hX ?_)
  refine ⟨by omega, ?_⟩
  have hTs : tb (sup σ 27 r m) 17 = T := (tb_off (by omega)).trans hT
  rw [Int.toNat_natCast, andn_nn (mk_lt31 _ (by omega)) (mk_lt31 _ (by omega)), mk_andn]
  refine s_bitCountM (by omega) (b_Ev_open_60 hX ?_)
  rw [iand_nn (mk_lt31 _ (by omega)), mk_and]
  refine s_bitCountM (by omega) (b_Ev_open_67 hX ?_)
  simp only [Int.toNat_natCast, sup_e]
  have hE2 : opn T r E = opn T r E := rfl
  unfold opn at hE2
  by_cases hc : lkN T r < nlN T r
  · have hc' : cnt (fun i => hb T r i && lb T i (tpc T r)) (gN T) < cnt (fun i => hb T r i && !lb T i (tpc T r)) (gN T) := hc
    rw [if_pos hc']
    refine ⟨by omega, by omega, ?_⟩
    refine b_Ev_open_140 hX ?_
    refine h _ ?_ ?_ (fun j hj => ?_) (fun c h1 h2 h3 => ?_)
    · unfold opn
      rw [if_pos hc]
      refine ⟨fun j hj => ?_, fun j hj => ?_⟩
      · have := hE.1 j hj
        rw [sup_c (by decide), sup_c (by decide), sup_c (by decide), sup_c (by decide), sup_c (by decide), sup_c (by decide)]
        refine ⟨this.1, this.2.1, ?_⟩
        by_cases q : j = r
        · subst q; rw [sup_e, sup_e]
        · rw [sup_i q, sup_c (by decide), sup_i q]; exact this.2.2
      · rw [sup_c (by decide), sup_c (by decide), sup_c (by decide)]; exact hE.2 j hj
    · rw [sup_c (by decide), sup_e]
    · rw [sup_c (by decide), sup_i hj]
    · rw [sup_fr h2, sup_fr h1]
  · have hc' : ¬ cnt (fun i => hb T r i && lb T i (tpc T r)) (gN T) < cnt (fun i => hb T r i && !lb T i (tpc T r)) (gN T) := hc
    rw [if_neg hc']
    refine ⟨by omega, by omega, ?_⟩
    rw [if_pos trivial]
    have hTs2 : tb (sup (sup σ 27 r m) 28 r 0) 17 = T := (tb_off (by omega)).trans hTs
    have ek : sup σ 27 r m 20 r = T 2 r := by rw [sup_c (by decide)]; exact a2 hT h7
    have ef : sup σ 27 r m 21 r = T 3 r := by rw [sup_c (by decide)]; exact a3 hT h7
    rw [ek, ef]
    refine s_Kmor (b_Ev_open_119 hX ?_)
    rw [iand_nn (mk_lt31 _ (by omega)), mk_and]
    have hmo := morT_b w h7
    have hle := lesT_b w h7
    have m29 : ∀ j, j < 6 → sup (sup σ 27 r m) 28 r 0 29 j = E 3 j := fun j hj => by rw [sup_c (by decide), sup_c (by decide)]; exact hE.2 j hj
    refine s_changeMoods hTs2 w (by unfold morT at hmo; omega) (fun j hj => by rw [m29 j hj]; exact hm j hj) (fun σ1 g1 g2 => b_Ev_open_122 hX ?_)
    refine s_Kles (b_Ev_open_136 hX ?_)
    rw [andn_nn (mk_lt31 _ (by omega)) (mk_lt31 _ (by omega)), mk_andn]
    have hTs3 : tb σ1 17 = T := (tb_same (fun c q1 q2 j => by rw [g2 c (by omega)])).trans hTs2
    have hl : lesF (T 2 r) (T 3 r) = lesT T r := rfl
    have hmm : morF (T 2 r) (T 3 r) = morT T r := rfl
    rw [hl, w32_id (x := -lesT T r) (by omega) (by omega)]
    rw [hmm] at g1
    refine s_changeMoods hTs3 w (by omega) (fun j hj => ?_) (fun σ2 g3 g4 => b_Ev_open_140 hX ?_)
    · rw [g1 j hj, m29 j hj]
      have := hm j hj
      split <;> omega
    · refine h σ2 ?_ ?_ (fun j hj => ?_) (fun c h1 h2 h3 => ?_)
      · unfold opn
        rw [if_neg hc]
        refine ⟨fun j hj => ?_, fun j hj => ?_⟩
        · have := hE.1 j hj
          rw [g4 26 (by decide), g4 30 (by decide), g4 28 (by decide), g2 26 (by decide), g2 30 (by decide), g2 28 (by decide)]
          rw [sup_c (by decide), sup_c (by decide), sup_c (by decide), sup_c (by decide)]
          refine ⟨this.1, this.2.1, ?_⟩
          show _ = if (2 : Nat) = 3 ∧ j < gN T then _ else if (2 : Nat) = 2 ∧ j = r then 0 else E 2 j
          rw [if_neg (by omega)]
          by_cases q : j = r
          · subst q; rw [sup_e, if_pos ⟨rfl, rfl⟩]
          · rw [sup_i q, sup_c (by decide), if_neg (by omega)]; exact this.2.2
        · show _ = if (3 : Nat) = 3 ∧ j < gN T then mdF T r j (E 3 j) else if (3 : Nat) = 2 ∧ j = r then 0 else E 3 j
          rw [g3 j hj, g1 j hj, m29 j hj]
          by_cases q : j < gN T
          · rw [if_pos (show (3 : Nat) = 3 ∧ j < gN T from ⟨rfl, q⟩)]
            unfold mdF
            cases e1 : hb T r j <;> cases e2 : lb T j (tpc T r) <;> simp [q, Int.sub_eq_add_neg]
          · rw [if_neg (show ¬ ((3 : Nat) = 3 ∧ j < gN T) by omega), if_neg (show ¬ ((3 : Nat) = 2 ∧ j = r) by omega), if_neg (by omega), if_neg (by omega)]
      · rw [g4 27 (by decide), g2 27 (by decide), sup_c (by decide), sup_e]
      · rw [g4 27 (by decide), g2 27 (by decide), sup_c (by decide), sup_i hj]
      · rw [g4 c h3, g2 c h3, sup_fr h2, sup_fr h1]
end EVX
