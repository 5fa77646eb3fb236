/-! The class's evening whole, and what is asked of it. -/
section EQ1
variable {T E : Tab} {lo : Nat} {m : Int}
theorem tak1_op (w : WT T) (h : EK T E m) (h0 : 0 ≤ m) {r : Nat} (hr : r < 7) : opF (tak1 T lo m E) m r = opF E m r := by
  unfold tak1
  split
  · rfl
  · rename_i hn
    have hb := nxt_b (T := T) (E := E) (lo := lo) (m := m) (rN T)
    have hw := nxt_w (T := T) (E := E) (lo := lo) (m := m) (rN T) (by omega)
    have hR := WT_r w
    generalize hk : (nxt T E lo m (rN T)).toNat = k at *
    have hm := minT_b w (r := k) (by omega)
    unfold opF
    by_cases e : r = k
    · subst e
      have := (h.1 r hr).1
      rw [sup_e, if_neg (by omega)]
      rcases this with z | z
      · rw [z.2]; split <;> rfl
      · omega
    · rw [sup_i e, sup_c (by decide)]
theorem tks_op (w : WT T) (h : EK T E m) (h0 : 0 ≤ m) {r : Nat} (hr : r < 7) : ∀ n, opF (tks T lo m n E) m r = opF E m r
  | 0 => rfl
  | n + 1 => (tak1_op w (tks_K w h h0 n) h0 hr).trans (tks_op w h h0 hr n)
/-- what is asked of an evening at its end -/
def bilG (T E : Tab) (g : Int) : Int := sm (fun r => if opF E 60 r ≠ -9 ∧ T 4 r = g then priT T r else 0) (rN T)
def bilA (T E : Tab) : Int := sm (fun g => bilG T E g) (gN T)
def opBy (T E : Tab) (m : Int) : Int := cnt (fun r => decide (opF E 60 r ≠ -9) && decide (opF E 60 r ≤ m)) (rN T)
def sbN (T E : Tab) : Int := cnt (fun r => decide (E 2 r = 1)) (rN T)
def lsO (E : Tab) : Nat → Int
  | 0 => -9
  | r + 1 => max (lsO E r) (opF E 60 r)
def silB (T E : Tab) (m : Nat) : Bool := decide (cnt (fun r => decide (opF E 60 r = m)) (rN T) = 0)
def slen (T E : Tab) : Nat → Int
  | 0 => 0
  | n + 1 => if silB T E n = true then slen T E n + 1 else 0
def slong (T E : Tab) : Nat → Int
  | 0 => 0
  | n + 1 => max (slong T E n) (slen T E (n + 1))
def sfrom (T E : Tab) : Nat → Int
  | 0 => -9
  | n + 1 => if slong T E n < slen T E (n + 1) then n + 1 - slen T E (n + 1) else sfrom T E n
def bzN (T E : Tab) (k : Int) : Int := cnt (fun m => decide (k ≤ bsy T E m)) 60
theorem slen_b : ∀ n, 0 ≤ slen T E n ∧ slen T E n ≤ n
  | 0 => by simp [slen]
  | n + 1 => by
    have := slen_b n
    unfold slen
    split <;> omega
theorem slong_b : ∀ n, 0 ≤ slong T E n ∧ slong T E n ≤ n
  | 0 => by simp [slong]
  | n + 1 => by
    have := slong_b n
    have := slen_b (T := T) (E := E) (n + 1)
    unfold slong
    omega
theorem slong_mono : ∀ k n, slong T E n ≤ slong T E (n + k)
  | 0, n => Int.le_refl _
  | k + 1, n => by
    have := slong_mono k n
    show _ ≤ max (slong T E (n + k)) _
    omega
theorem sfrom_stop {n : Nat} : ∀ k, slong T E (n + k) ≤ slong T E n → sfrom T E (n + k) = sfrom T E n
  | 0, _ => rfl
  | k + 1, h => by
    have h1 : slong T E (n + k + 1) = max (slong T E (n + k)) (slen T E (n + k + 1)) := rfl
    have h2 := slong_mono (T := T) (E := E) k n
    have h3 : n + (k + 1) = n + k + 1 := rfl
    rw [h3] at h
    show (if slong T E (n + k) < slen T E (n + k + 1) then _ else sfrom T E (n + k)) = _
    rw [if_neg (by omega)]
    exact sfrom_stop k (by omega)
theorem lsO_b (h : ∀ r, r < 7 → -9 ≤ opF E 60 r ∧ opF E 60 r ≤ 60) : ∀ n, n ≤ 7 → -9 ≤ lsO E n ∧ lsO E n ≤ 60
  | 0, _ => by simp [lsO]
  | n + 1, hn => by
    have h1 := lsO_b h n (by omega)
    have h2 := h n (by omega)
    unfold lsO
    omega
theorem cnt_0 {p : Nat → Bool} : ∀ {n : Nat}, (cnt p n = 0 ↔ ∀ i, i < n → p i = false)
  | 0 => by simp [cnt, sm]
  | n + 1 => by
    have h1 := cnt_0 (p := p) (n := n)
    have h2 := cnt_b p n
    rw [cnt_s]
    constructor
    · intro h i hi
      cases hp : p n with
      | true => rw [hp] at h; simp at h; omega
      | false =>
        rw [hp] at h
        by_cases e : i = n
        · rw [e]; exact hp
        · exact h1.mp (by simpa using h) i (by omega)
    · intro h
      rw [h1.mpr (fun i hi => h i (by omega)), h n (by omega)]
      rfl
end EQ1
def EF (σ σ' : Sto) : Prop := ∀ c, (c < 25 ∨ 30 < c) → σ' c = σ c
def OX (σ : Sto) (E : Tab) (m : Int) : Prop := ∀ j, j < 7 → σ 27 j = opF E m j
/-- the evening's cells at its end -/
def EVX (σ : Sto) (T E : Tab) : Prop := tb σ 17 = T ∧ EX σ E ∧ OX σ E 60 ∧ EI T E 61
theorem EF_T {σ σ' : Sto} {T : Tab} (h : EF σ σ') (hT : tb σ 17 = T) : tb σ' 17 = T := (tb_same (fun c h1 h2 j => by rw [h c (by omega)])).trans hT
theorem EF_tr {σ σ1 σ2 : Sto} (h : EF σ σ1) (h2 : EF σ1 σ2) : EF σ σ2 := fun c hc => (h2 c hc).trans (h c hc)
section EQ2
variable {d : Nat} {σ : Sto} {Q : PQ} {T E : Tab} {lo : Nat}
theorem s_begin {l : Int} (hT : tb σ 17 = T) (h : ∀ σ', EX σ' (bgn T) → (∀ j, j < 7 → σ' 27 j = -9) → σ' 25 6 = l → EF σ σ' → Q none σ') : P (d + 1) 29 [vR 25, vI l] σ Q := by
  refine e_Ev_begin fun X hX => b_Ev_begin_0 hX ?_
  refine upto (p := fun i => ∀ σi : Sto, (∀ j, j < i → σi 26 j = -9 ∧ σi 27 j = -9 ∧ σi 30 j = -9 ∧ σi 28 j = 0) → σi 25 6 = l → EF σ σi → X 7 [some (vR 25), none, some (vI (i : Int))] [] σi) 7 (fun i hi ih => ?_) ?_ (sup σ 25 6 l) (fun j hj => absurd hj (by omega)) (sup_e) (fun c hc => sup_fr (by omega))
  · intro σi h1 h2 h3
    refine b_Ev_begin_7 hX ?_
    rw [if_pos (by omega)]
    refine ⟨by omega, by omega, ?_⟩
    rw [Int.toNat_natCast, w32_s i (by omega)]
    refine ih _ (fun j hj => ?_) ?_ (fun c hc => ?_)
    · by_cases e : j = i
      · subst e; simp [sup]
      · have := h1 j (by omega)
        simp [sup, e, this]
    · rw [sup_c (by decide), sup_c (by decide), sup_c (by decide), sup_c (by decide)]; exact h2
    · rw [sup_fr (by omega), sup_fr (by omega), sup_fr (by omega), sup_fr (by omega)]; exact h3 c hc
  · intro σ1 h1 h2 h3
    refine b_Ev_begin_7 hX ?_
    rw [if_neg (by omega)]
    refine upto (p := fun i => ∀ σi : Sto, (∀ j, j < i → σi 29 j = T 1 j) → (∀ c, c ≠ 29 → σi c = σ1 c) → X 52 [some (vR 25), none, some (vI (i : Int))] [] σi) 6 (fun i hi ih => ?_) ?_ σ1 (fun j hj => absurd hj (by omega)) (fun _ _ => rfl)
    · intro σi h4 h5
      refine b_Ev_begin_52 hX ?_
      rw [if_pos (by omega)]
      refine ⟨by omega, ?_⟩
      rw [Int.toNat_natCast, w32_s i (by omega)]
      have e19 : σi 19 i = T 1 i := by
        rw [h5 19 (by decide)]
        exact a1 (EF_T h3 hT) hi
      refine ih _ (fun j hj => ?_) (fun c hc => by rw [sup_fr hc]; exact h5 c hc)
      by_cases e : j = i
      · subst e; rw [sup_e, e19]
      · rw [sup_i e]; exact h4 j (by omega)
    · intro σ2 h4 h5
      refine b_Ev_begin_52 hX ?_
      rw [if_neg (by omega)]
      refine h σ2 ⟨fun j hj => ?_, fun j hj => h4 j hj⟩ (fun j hj => ?_) ?_ (fun c hc => ?_)
      · rw [h5 26 (by decide), h5 30 (by decide), h5 28 (by decide)]
        have := h1 j hj
        exact ⟨this.1, this.2.2.1, this.2.2.2⟩
      · rw [h5 27 (by decide)]; exact (h1 j hj).2.1
      · rw [h5 25 (by decide)]; exact h2
      · rw [h5 c (by omega)]; exact h3 c hc
theorem s_pass {m : Nat} (hT : tb σ 17 = T) (w : WT T) (hE : EX σ E) (hI : EI T E m) (hO : OX σ E ((m : Int) - 1)) (hlo : lo < 128) (hl : σ 25 6 = (lo : Int)) (hm : m ≤ 60)
    (h : ∀ σ', EX σ' (pas T lo m E) → OX σ' (pas T lo m E) m → σ' 25 6 = (lo : Int) → EF σ σ' → Q none σ') : P (d + 4) 30 [vR 25, vI (m : Int)] σ Q := by
  have hR := WT_r w
  refine e_Ev_pass fun X hX => b_Ev_pass_0 hX ?_
  refine upto (p := fun i => ∀ σi : Sto, EX σi (ops T m i E) → (∀ j, j < 7 → σi 27 j = if j < i then opF E m j else opF E ((m : Int) - 1) j) → (∀ c, c ≠ 27 → c ≠ 28 → c ≠ 29 → σi c = σ c) → X 2 [some (vR 25), some (vI (m : Int)), some (vI (i : Int))] [] σi) (rN T) (fun i hi ih => ?_) ?_ σ hE (fun j hj => by rw [if_neg (by omega)]; exact hO j hj) (fun _ _ _ _ => rfl)
  · intro σi h1 h2 h3
    have hTi : tb σi 17 = T := (tb_same (fun c q1 q2 j => by rw [h3 c (by omega) (by omega) (by omega)])).trans hT
    have hJ := ops_J (EI_J hI) (by omega) i
    have e : ops T m (i + 1) E = if ops T m i E 1 i = m then opn T i (ops T m i E) else ops T m i E := rfl
    refine b_Ev_pass_2 hX ?_
    rw [show σi 17 8 = T 8 0 from b8 hTi, if_pos (by omega)]
    refine ⟨by omega, ?_⟩
    rw [Int.toNat_natCast, (h1.1 i (by omega)).2.1]
    have e1 : ops T (m : Int) i E 1 i = E 1 i := ops_1 i i
    by_cases hc : ops T m i E 1 i = m
    · rw [if_pos hc]
      rw [if_pos hc] at e
      refine s_opens hTi w h1 hJ.2 hi (fun σ' g1 g2 g3 g4 => b_Ev_pass_29 hX ?_)
      rw [w32_s i (by omega)]
      refine ih σ' (by rw [e]; exact g1) (fun j hj => ?_) (fun c c1 c2 c3 => (g4 c c1 c2 c3).trans (h3 c c1 c2 c3))
      by_cases q : j = i
      · subst q
        rw [g2, if_pos (by omega)]
        unfold opF
        rw [e1] at hc
        rw [hc, if_pos (Int.le_refl _)]
      · rw [g3 j q, h2 j hj]
        by_cases q2 : j < i
        · rw [if_pos q2, if_pos (by omega)]
        · rw [if_neg q2, if_neg (by omega)]
    · rw [if_neg hc]
      rw [if_neg hc] at e
      refine b_Ev_pass_29 hX ?_
      rw [w32_s i (by omega)]
      refine ih σi (by rw [e]; exact h1) (fun j hj => ?_) h3
      rw [h2 j hj]
      by_cases q : j = i
      · subst q
        rw [if_neg (by omega), if_pos (by omega)]
        unfold opF
        rw [e1] at hc
        by_cases y : E 1 j ≤ (m : Int) - 1
        · rw [if_pos y, if_pos (by omega)]
        · rw [if_neg y, if_neg (by omega)]
      · by_cases q2 : j < i
        · rw [if_pos q2, if_pos (by omega)]
        · rw [if_neg q2, if_neg (by omega)]
  · intro σ1 h1 h2 h3
    have hT1 : tb σ1 17 = T := (tb_same (fun c q1 q2 j => by rw [h3 c (by omega) (by omega) (by omega)])).trans hT
    have hJ := ops_J (EI_J hI) (by omega) (rN T)
    have hO1 : OX σ1 (ops T m (rN T) E) m := fun j hj => by
      rw [h2 j hj]
      have e1 : ops T (m : Int) (rN T) E 1 j = E 1 j := ops_1 j _
      have hij := (hI.1 j hj).1
      unfold opF
      rw [e1]
      by_cases q : j < rN T
      · rw [if_pos q]
      · rw [if_neg q]
        rcases hij with z | z
        · rw [z.2]; split <;> split <;> rfl
        · omega
    refine b_Ev_pass_2 hX ?_
    rw [show σ1 17 8 = T 8 0 from b8 hT1, if_neg (by omega)]
    by_cases hc : m < 60
    · rw [if_pos (by omega)]
      refine s_takes hT1 w h1 (EJ_K hJ) hlo (by rw [h3 25 (by decide) (by decide) (by decide)]; exact hl) hc (fun σ2 g1 g2 => b_Ev_pass_46 hX ?_)
      have ep : pas T lo m E = tks T lo m (T 9 0 - bsy T (ops T m (rN T) E) m).toNat (ops T m (rN T) E) := by unfold pas; rw [if_pos hc]
      refine h σ2 (by rw [ep]; exact g1) (fun j hj => ?_) ?_ (fun c hcc => ?_)
      · rw [ep, tks_op w (EJ_K hJ) (by omega) hj, g2 27 (by decide) (by decide)]; exact hO1 j hj
      · rw [g2 25 (by decide) (by decide), h3 25 (by decide) (by decide) (by decide)]; exact hl
      · rw [g2 c (by omega) (by omega), h3 c (by omega) (by omega) (by omega)]
    · rw [if_neg (by omega)]
      have ep : pas T lo m E = ops T m (rN T) E := by unfold pas; rw [if_neg hc]
      refine b_Ev_pass_46 hX (h σ1 (by rw [ep]; exact h1) (by rw [ep]; exact hO1) ?_ (fun c hcc => ?_))
      · rw [h3 25 (by decide) (by decide) (by decide)]; exact hl
      · exact h3 c (by omega) (by omega) (by omega)
theorem s_run (hT : tb σ 17 = T) (w : WT T) (hlo : lo < 128) (h : ∀ σ', EVX σ' T (evg T lo) → EF σ σ' → Q none σ') : P (d + 5) 28 [vR 25, vI (lo : Int)] σ Q := by
  refine e_Ev_run fun X hX => b_Ev_run_0 hX ?_
  refine s_begin hT (fun σ0 g1 g2 g3 g4 => b_Ev_run_5 hX ?_)
  refine upto (p := fun i => ∀ σi : Sto, EX σi (evn T lo i) → OX σi (evn T lo i) ((i : Int) - 1) → σi 25 6 = (lo : Int) → EF σ σi → X 7 [some (vR 25), none, some (vI (i : Int))] [] σi) 61 (fun i hi ih => ?_) ?_ σ0 g1 (fun j hj => by rw [g2 j hj]; unfold opF; split <;> rfl) g3 g4
  · intro σi h1 h2 h3 h4
    refine b_Ev_run_7 hX ?_
    rw [if_neg (by omega)]
    refine s_pass (EF_T h4 hT) w h1 (evn_I w i) h2 hlo h3 (by omega) (fun σ' k1 k2 k3 k4 => b_Ev_run_18 hX ?_)
    rw [w32_s i (by omega)]
    exact ih σ' k1 (by rw [show ((i + 1 : Nat) : Int) - 1 = (i : Int) by omega]; exact k2) k3 (EF_tr h4 k4)
  · intro σi h1 h2 h3 h4
    refine b_Ev_run_7 hX ?_
    rw [if_pos (by decide)]
    exact h σi ⟨EF_T h4 hT, h1, h2, evn_I w 61⟩ h4
theorem opF_b (w : WT T) (h : EI T E 61) {r : Nat} (hr : r < 7) : opF E 60 r = -9 ∨ (0 ≤ opF E 60 r ∧ opF E 60 r ≤ 60) := by
  have := (h.1 r hr).1
  have hm := minT_b w hr
  unfold opF
  split
  · rcases this with z | z
    · left; exact z.2
    · right
      exact ⟨by omega, ‹_›⟩
  · left; rfl
theorem bilG_b (w : WT T) (g : Int) {n : Nat} (hn : n ≤ 7) : 0 ≤ sm (fun r => if opF E 60 r ≠ -9 ∧ T 4 r = g then priT T r else 0) n ∧ sm (fun r => if opF E 60 r ≠ -9 ∧ T 4 r = g then priT T r else 0) n ≤ 126 := by
  have key : ∀ i, i < n → 0 ≤ (if opF E 60 i ≠ -9 ∧ T 4 i = g then priT T i else 0) ∧ (if opF E 60 i ≠ -9 ∧ T 4 i = g then priT T i else 0) ≤ 18 := fun i hi => by
    have := priT_b w (r := i) (by omega)
    split <;> omega
  have h1 := sm_ge (n := n) (fun i hi => (key i hi).1)
  have h2 := sm_le (n := n) (fun i hi => (key i hi).2)
  omega
theorem s_Emoods (w : WT T) (hV : EVX σ T E) (h : Q (some (vI (sm (E 3) (gN T)))) σ) : P (d + 1) 37 [vR 25] σ Q := by
  obtain ⟨hT, hE, hO, hI⟩ := hV
  have hG := WT_g w
  refine e_Ev_moodsTogether fun X hX => b_Ev_moodsTogether_0 hX ?_
  refine upto (p := fun i => X 4 [some (vR 25), some (vI (sm (E 3) i)), some (vI (i : Int))] [] σ) (gN T) (fun i hi ih => ?_) ?_
  · refine b_Ev_moodsTogether_4 hX ?_
    have h6 : i < 6 := by omega
    have hb := sm_le (f := E 3) (c := 40) (n := i) (fun k hk => (hI.2 k (by omega)).2)
    have hb2 := sm_ge (f := E 3) (n := i) (fun k hk => (hI.2 k (by omega)).1)
    have hi2 := hI.2 i h6
    rw [show σ 17 7 = T 7 0 from b7 hT, if_pos (by omega)]
    refine ⟨by omega, ?_⟩
    rw [Int.toNat_natCast, hE.2 i h6, w32_s i (by omega), w32_id (by omega) (by omega)]
    exact ih
  · refine b_Ev_moodsTogether_4 hX ?_
    rw [show σ 17 7 = T 7 0 from b7 hT, if_neg (by omega)]
    exact h
theorem s_Ebill (w : WT T) (hV : EVX σ T E) {g : Int} (h : Q (some (vI (bilG T E g))) σ) : P (d + 3) 38 [vR 25, vI g] σ Q := by
  obtain ⟨hT, hE, hO, hI⟩ := hV
  have hR := WT_r w
  refine e_Ev_billOf fun X hX => b_Ev_billOf_0 hX ?_
  refine upto (p := fun i => X 4 [some (vR 25), some (vI g), some (vI (sm (fun r => if opF E 60 r ≠ -9 ∧ T 4 r = g then priT T r else 0) i)), some (vI (i : Int))] [] σ) (rN T) (fun i hi ih => ?_) ?_
  · refine b_Ev_billOf_4 hX ?_
    have h7 : i < 7 := by omega
    have hb := bilG_b (E := E) w g (n := i) (by omega)
    have hb2 := bilG_b (E := E) w g (n := i + 1) (by omega)
    have e : sm (fun r => if opF E 60 r ≠ -9 ∧ T 4 r = g then priT T r else 0) (i + 1) = sm (fun r => if opF E 60 r ≠ -9 ∧ T 4 r = g then priT T r else 0) i + (if opF E 60 i ≠ -9 ∧ T 4 i = g then priT T i else 0) := rfl
    rw [show σ 17 8 = T 8 0 from b8 hT, if_pos (by omega)]
    refine ⟨by omega, ?_⟩
    rw [Int.toNat_natCast, hO i h7, show σ 22 i = T 4 i from a4 hT h7, w32_s i (by omega), Int.add_zero, w32_id (by omega) (by omega)]
    by_cases h1 : opF E 60 i = -9
    · rw [if_pos h1]
      rw [e, if_neg (fun z => z.1 h1), Int.add_zero] at ih; exact ih
    · rw [if_neg h1]
      by_cases h2 : T 4 i = g
      · rw [if_pos h2]
        refine s_Tpri isT17 hT w hi (b_Ev_billOf_48 hX ?_)
        rw [if_pos ⟨h1, h2⟩] at e
        rw [w32_s i (by omega), ← e, w32_id (by omega) (by omega)]
        exact ih
      · rw [if_neg h2]
        rw [e, if_neg (fun z => h2 z.2), Int.add_zero] at ih; exact ih
  · refine b_Ev_billOf_4 hX ?_
    rw [show σ 17 8 = T 8 0 from b8 hT, if_neg (by omega)]
    exact h
theorem s_Ewhole (w : WT T) (hV : EVX σ T E) (h : Q (some (vI (bilA T E))) σ) : P (d + 4) 39 [vR 25] σ Q := by
  have hV' := hV
  obtain ⟨hT, hE, hO, hI⟩ := hV
  have hG := WT_g w
  have hR := WT_r w
  refine e_Ev_wholeBill fun X hX => b_Ev_wholeBill_0 hX ?_
  refine upto (p := fun i => X 4 [some (vR 25), some (vI (sm (fun g => bilG T E g) i)), some (vI (i : Int))] [] σ) (gN T) (fun i hi ih => ?_) ?_
  · refine b_Ev_wholeBill_4 hX ?_
    have hb := sm_le (f := fun g : Nat => bilG T E g) (c := 126) (n := i) (fun k hk => (bilG_b w _ (by omega)).2)
    have hb2 := sm_ge (f := fun g : Nat => bilG T E g) (n := i) (fun k hk => (bilG_b w _ (by omega)).1)
    have hi2 : 0 ≤ bilG T E i ∧ bilG T E i ≤ 126 := bilG_b w _ (by omega)
    rw [show σ 17 7 = T 7 0 from b7 hT, if_pos (by omega)]
    refine s_Ebill w hV' (b_Ev_wholeBill_21 hX ?_)
    rw [w32_s i (by omega), w32_id (by omega) (by omega)]
    exact ih
  · refine b_Ev_wholeBill_4 hX ?_
    rw [show σ 17 7 = T 7 0 from b7 hT, if_neg (by omega)]
    exact h
theorem s_EopBy (w : WT T) (hV : EVX σ T E) {m : Int} (h : Q (some (vI (opBy T E m))) σ) : P (d + 1) 40 [vR 25, vI m] σ Q := by
  obtain ⟨hT, hE, hO, hI⟩ := hV
  have hR := WT_r w
  refine e_Ev_openedBy fun X hX => b_Ev_openedBy_0 hX ?_
  refine upto (p := fun i => X 4 [some (vR 25), some (vI m), some (vI (cnt (fun r => decide (opF E 60 r ≠ -9) && decide (opF E 60 r ≤ m)) i)), some (vI (i : Int))] [] σ) (rN T) (fun i hi ih => ?_) ?_
  · refine b_Ev_openedBy_4 hX ?_
    have h7 : i < 7 := by omega
    have hb := cnt_b (fun r => decide (opF E 60 r ≠ -9) && decide (opF E 60 r ≤ m)) i
    rw [cnt_s] at ih
    rw [show σ 17 8 = T 8 0 from b8 hT, if_pos (by omega)]
    refine ⟨by omega, ?_⟩
    rw [Int.toNat_natCast, hO i h7, w32_s i (by omega), Int.add_zero, w32_id (x := cnt _ i) (by omega) (by omega), w32_id (x := cnt _ i + 1) (by omega) (by omega)]
    by_cases h1 : opF E 60 i = -9
    · rw [if_pos h1]
      rw [if_neg (by simp [h1]), Int.add_zero] at ih; exact ih
    · rw [if_neg h1]
      by_cases h2 : m < opF E 60 i
      · rw [if_pos h2]
        rw [if_neg (by simp [h1]; omega), Int.add_zero] at ih; exact ih
      · rw [if_neg h2]
        rw [if_pos (by simp [h1]; omega)] at ih; exact ih
  · refine b_Ev_openedBy_4 hX ?_
    rw [show σ 17 8 = T 8 0 from b8 hT, if_neg (by omega)]
    exact h
theorem s_Esent (w : WT T) (hV : EVX σ T E) (h : Q (some (vI (sbN T E))) σ) : P (d + 1) 41 [vR 25] σ Q := by
  obtain ⟨hT, hE, hO, hI⟩ := hV
  have hR := WT_r w
  refine e_Ev_howManySentBack fun X hX => b_Ev_howManySentBack_0 hX ?_
  refine upto (p := fun i => X 4 [some (vR 25), some (vI (cnt (fun r => decide (E 2 r = 1)) i)), some (vI (i : Int))] [] σ) (rN T) (fun i hi ih => ?_) ?_
  · refine b_Ev_howManySentBack_4 hX ?_
    have h7 : i < 7 := by omega
    have hb := cnt_b (fun r => decide (E 2 r = 1)) i
    rw [cnt_s] at ih
    rw [show σ 17 8 = T 8 0 from b8 hT, if_pos (by omega)]
    refine ⟨by omega, ?_⟩
    rw [Int.toNat_natCast, (hE.1 i h7).2.2, w32_s i (by omega), Int.add_zero, w32_id (x := cnt _ i) (by omega) (by omega), w32_id (x := cnt _ i + 1) (by omega) (by omega)]
    rcases (hI.1 i h7).2 with z | z
    · rw [if_pos z]
      rw [if_neg (by simp [z]), Int.add_zero] at ih; exact ih
    · rw [if_neg (by omega)]
      rw [if_pos (by simp [z.1])] at ih; exact ih
  · refine b_Ev_howManySentBack_4 hX ?_
    rw [show σ 17 8 = T 8 0 from b8 hT, if_neg (by omega)]
    exact h
theorem s_Elast (w : WT T) (hV : EVX σ T E) (h : Q (some (vI (lsO E (rN T)))) σ) : P (d + 1) 42 [vR 25] σ Q := by
  obtain ⟨hT, hE, hO, hI⟩ := hV
  have hR := WT_r w
  refine e_Ev_lastOpening fun X hX => b_Ev_lastOpening_0 hX ?_
  refine upto (p := fun i => X 5 [some (vR 25), some (vI (lsO E i)), some (vI (i : Int))] [] σ) (rN T) (fun i hi ih => ?_) ?_
  · refine b_Ev_lastOpening_5 hX ?_
    rw [show σ 17 8 = T 8 0 from b8 hT, if_pos (by omega)]
    refine ⟨by omega, ?_⟩
    rw [Int.toNat_natCast, hO i (by omega), w32_s i (by omega)]
    exact ih
  · refine b_Ev_lastOpening_5 hX ?_
    rw [show σ 17 8 = T 8 0 from b8 hT, if_neg (by omega)]
    exact h
theorem s_Esilent (w : WT T) (hV : EVX σ T E) {m : Nat} (h1 : silB T E m = true → Q (some (vI 1)) σ) (h0 : silB T E m = false → Q (some (vI 0)) σ) : P (d + 1) 43 [vR 25, vI (m : Int)] σ Q := by
  obtain ⟨hT, hE, hO, hI⟩ := hV
  have hR := WT_r w
  refine e_Ev_isSilent fun X hX => b_Ev_isSilent_0 hX ?_
  refine upto (p := fun i => (∀ r, r < i → opF E 60 r ≠ m) → X 2 [some (vR 25), some (vI (m : Int)), some (vI (i : Int))] [] σ) (rN T) (fun i hi ih => ?_) ?_ (fun r hr => absurd hr (by omega))
  · intro hp
    refine b_Ev_isSilent_2 hX ?_
    rw [show σ 17 8 = T 8 0 from b8 hT, if_pos (by omega)]
    refine ⟨by omega, ?_⟩
    rw [Int.toNat_natCast, hO i (by omega), w32_s i (by omega)]
    by_cases hc : opF E 60 i = m
    · rw [if_pos hc]
      refine h0 ?_
      unfold silB
      refine decide_eq_false (fun z => ?_)
      have := cnt_0.mp z i hi
      simp [hc] at this
    · rw [if_neg hc]
      exact ih (fun r hr => by
        by_cases e : r = i
        · rw [e]; exact hc
        · exact hp r (by omega))
  · intro hp
    refine b_Ev_isSilent_2 hX ?_
    rw [show σ 17 8 = T 8 0 from b8 hT, if_neg (by omega)]
    refine h1 ?_
    unfold silB
    exact decide_eq_true (cnt_0.mpr (fun i hi => by simpa using hp i hi))
theorem s_Elong (w : WT T) (hV : EVX σ T E) (h : Q (some (vI (slong T E 61))) σ) : P (d + 2) 44 [vR 25] σ Q := by
  refine e_Ev_longestSilence fun X hX => b_Ev_longestSilence_0 hX ?_
  refine upto (p := fun i => X 6 [some (vR 25), some (vI (slong T E i)), some (vI (slen T E i)), some (vI (i : Int))] [] σ) 61 (fun i hi ih => ?_) ?_
  · refine b_Ev_longestSilence_6 hX ?_
    have hb := slen_b (T := T) (E := E) i
    rw [if_neg (by omega)]
    have e2 : slong T E (i + 1) = max (slong T E i) (slen T E (i + 1)) := rfl
    have e3 : slen T E (i + 1) = if silB T E i = true then slen T E i + 1 else 0 := rfl
    refine s_Esilent w hV (fun hs => b_Ev_longestSilence_17 hX ?_) (fun hs => b_Ev_longestSilence_17 hX ?_)
    · rw [if_neg (by decide), w32_s i (by omega), w32_id (x := slen T E i + 1) (by omega) (by omega)]
      rw [if_pos hs] at e3
      rw [e2, e3] at ih; exact ih
    · rw [if_pos rfl, w32_s i (by omega)]
      rw [if_neg (by simp [hs])] at e3
      rw [e2, e3] at ih; exact ih
  · refine b_Ev_longestSilence_6 hX ?_
    rw [if_pos (by decide)]
    exact h
theorem s_Estart (w : WT T) (hV : EVX σ T E) (h : Q (some (vI (sfrom T E 61))) σ) : P (d + 2) 45 [vR 25, vI (slong T E 61)] σ Q := by
  refine e_Ev_startOfSilence fun X hX => b_Ev_startOfSilence_0 hX ?_
  have hL := slong_b (T := T) (E := E) 61
  by_cases h0 : slong T E 61 = 0
  · refine b_Ev_startOfSilence_4 hX ?_
    rw [if_neg (by decide), if_neg (by omega)]
    have := sfrom_stop (T := T) (E := E) (n := 0) 61 (by show slong T E (0 + 61) ≤ 0; rw [Nat.zero_add]; omega)
    rw [Nat.zero_add] at this
    rw [this] at h
    exact h
  · refine upto (p := fun i => slong T E i < slong T E 61 → X 4 [some (vR 25), some (vI (slong T E 61)), some (vI (slen T E i)), some (vI (i : Int))] [] σ) 61 (fun i hi ih => ?_) ?_ (by show (0 : Int) < _; omega)
    · intro hlt
      refine b_Ev_startOfSilence_4 hX ?_
      have hb := slen_b (T := T) (E := E) i
      rw [if_neg (by omega), if_pos (by omega)]
      have e2 : slong T E (i + 1) = max (slong T E i) (slen T E (i + 1)) := rfl
      have e3 : slen T E (i + 1) = if silB T E i = true then slen T E i + 1 else 0 := rfl
      have hmono := slong_mono (T := T) (E := E) (61 - (i + 1)) (i + 1)
      rw [show i + 1 + (61 - (i + 1)) = 61 by omega] at hmono
      have fin : slen T E (i + 1) = slong T E 61 → sfrom T E 61 = (i : Int) + 1 - slong T E 61 := by
        intro q
        have h1 := sfrom_stop (T := T) (E := E) (n := i + 1) (61 - (i + 1)) (by rw [show i + 1 + (61 - (i + 1)) = 61 by omega]; omega)
        rw [show i + 1 + (61 - (i + 1)) = 61 by omega] at h1
        rw [h1]
        show (if slong T E i < slen T E (i + 1) then ((i : Nat) : Int) + 1 - slen T E (i + 1) else sfrom T E i) = _
        rw [if_pos (by omega), q]
      refine s_Esilent w hV (fun hs => b_Ev_startOfSilence_19 hX ?_) (fun hs => b_Ev_startOfSilence_19 hX ?_)
      · rw [if_pos hs] at e3
        rw [if_neg (by decide), w32_s i (by omega), w32_id (x := slen T E i + 1) (by omega) (by omega), ← e3]
        by_cases q : slen T E (i + 1) = slong T E 61
        · rw [if_pos q]
          rw [w32_id (x := (i : Int) - slen T E (i + 1)) (by omega) (by omega), w32_id (by omega) (by omega)]
          rw [fin q] at h
          rw [show (i : Int) - slen T E (i + 1) + 1 = (i : Int) + 1 - slong T E 61 by omega]
          exact h
        · rw [if_neg q]
          exact ih (by omega)
      · rw [if_neg (by simp [hs])] at e3
        rw [if_pos rfl, if_neg (by omega), w32_s i (by omega)]
        rw [e3] at ih
        exact ih (by omega)
    · intro hlt
      omega
theorem s_Ebusy (w : WT T) (hV : EVX σ T E) {k : Int} (h : Q (some (vI (bzN T E k))) σ) : P (d + 2) 36 [vR 25, vI k] σ Q := by
  obtain ⟨hT, hE, hO, hI⟩ := hV
  refine e_Ev_minutesWithBusy fun X hX => b_Ev_minutesWithBusy_0 hX ?_
  refine upto (p := fun i => X 4 [some (vR 25), some (vI k), some (vI (cnt (fun m => decide (k ≤ bsy T E m)) i)), some (vI (i : Int))] [] σ) 60 (fun i hi ih => ?_) ?_
  · refine b_Ev_minutesWithBusy_4 hX ?_
    have hb := cnt_b (fun m : Nat => decide (k ≤ bsy T E m)) i
    rw [cnt_s] at ih
    rw [if_pos (by omega)]
    refine s_busy hT w hE (b_Ev_minutesWithBusy_16 hX ?_)
    rw [w32_s i (by omega), Int.add_zero, w32_id (x := cnt _ i) (by omega) (by omega), w32_id (x := cnt _ i + 1) (by omega) (by omega)]
    by_cases hc : bsy T E i < k
    · rw [if_pos hc]
      rw [if_neg (by simp; omega), Int.add_zero] at ih; exact ih
    · rw [if_neg hc]
      rw [if_pos (by simp; omega)] at ih; exact ih
  · refine b_Ev_minutesWithBusy_4 hX ?_
    rw [if_neg (by decide)]
    exact h
end EQ2
