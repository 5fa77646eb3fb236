/-! The class's commands. -/
section FXs
variable {d : Nat} {σ : Sto} {Q : PQ} {S : AS}
theorem isT1 : isT 1 := Or.inl rfl
theorem isT9 : isT 9 := Or.inr (Or.inl rfl)
theorem XS_T {σ' : Sto} {T' : Tab} (h : XS σ S) (hT : tb σ' 1 = T') (f : ∀ c, out 1 c → σ' c = σ c) : XS σ' (wT S T') := by
  obtain ⟨h1, h2, h3, h4, h5, h6, h7, h8, h9⟩ := h
  unfold out at f
  refine ⟨hT, ?_, ?_, ?_, ?_, ?_, ?_, fun z => (tb_same (fun c a b j => by rw [f c (by omega)])).trans (h8 z), ?_⟩
  · rw [f 32 (by omega)]; exact h2
  · rw [f 33 (by omega)]; exact h3
  · rw [f 0 (by omega)]; exact h4
  · rw [f 34 (by omega)]; exact h5
  · rw [f 35 (by omega)]; exact h6
  · rw [f 0 (by omega)]; exact h7
  · rw [f 38 (by omega)]; exact h9
theorem XF_o {σ' : Sto} (f : ∀ c, out 1 c → σ' c = σ c) : XF σ σ' := fun c hc => f c (by unfold out; omega)
theorem XF_s {c i : Nat} {v : Int} (h : c < 39) : XF σ (sup σ c i v) := fun c' hc => sup_fr (by omega)
theorem x_refuse {e : Int} (hS : XS σ S) (he : -6 ≤ e ∧ e ≤ -1) (h : ∀ σ', XS σ' (rf S e) → XF σ σ' → Q (some (vI e)) σ') : P (d + 1) 106 [vR 0, vI e] σ Q := by
  refine e_X_refuse fun X hX => b_X_refuse_0 hX ?_
  rw [w32_id (x := -e) (by omega) (by omega), if_neg (by omega), if_pos (by omega)]
  refine ⟨by omega, ?_⟩
  refine h _ ?_ (XF_s (by decide))
  obtain ⟨h1, h2, h3, h4, h5, h6, h7, h8, h9⟩ := hS
  refine ⟨(tb_off (by omega)).trans h1, ?_, ?_, ?_, ?_, fun j hj => ?_, ?_, fun z => (tb_off (by omega)).trans (h8 z), ?_⟩
  · rw [sup_fr (by decide)]; exact h2
  · rw [sup_fr (by decide)]; exact h3
  · rw [sup_fr (by decide)]; exact h4
  · rw [sup_fr (by decide)]; exact h5
  · show _ = if j = (-e).toNat then w32 (S.f j + 1) else S.f j
    by_cases c : j = (-e).toNat
    · subst c; rw [sup_e, if_pos rfl, h6 _ hj]
    · rw [sup_i c, if_neg c]; exact h6 j hj
  · rw [sup_fr (by decide)]; exact h7
  · rw [sup_fr (by decide)]; exact h9
theorem x_eve {T : Tab} (hT : tb σ 1 = T) (w : WT T) (h : ∀ σ', EVX σ' T (evg T 0) → FX σ σ' → Q (some (vR 25)) σ') : P (d + 6) 108 [vR 0] σ Q := by
  refine e_X_eveningNow fun X hX => b_X_eveningNow_0 hX ?_
  refine cp17 (fun σ1 h1 f1 => b_X_eveningNow_14 hX ?_)
  rw [hT] at h1
  exact s_run (lo := 0) h1 w (by decide) (fun σ2 hV f2 => b_X_eveningNow_25 hX (h σ2 hV (FX_tr f1 (EF_X f2))))
theorem x_letter {c : Int} (hS : XS σ S) (w : WS S) (h : ∀ σ', XS σ' (cLetter S c).2 → XF σ σ' → Q (some (vI (cLetter S c).1)) σ') : P (d + 8) 72 [vR 0, vI c] σ Q := by
  unfold cLetter at h
  have hn := hS.2.1
  have h96 := w.2.1
  refine e_X_letter fun X hX => b_X_letter_0 hX ?_
  by_cases c1 : c < 0
  · rw [if_pos c1] at h ⊢
    exact x_refuse hS (by decide) (fun σ' a b => b_X_letter_10 hX (h σ' a b))
  rw [if_neg c1] at h ⊢
  by_cases c2 : 255 < c
  · rw [if_pos c2] at h ⊢
    exact x_refuse hS (by decide) (fun σ' a b => b_X_letter_36 hX (h σ' a b))
  rw [if_neg c2] at h ⊢
  by_cases c3 : S.n < 96
  · rw [if_pos c3] at h
    rw [if_pos (by omega)]
    refine e_Lt_add fun X2 hX2 => b_Lt_add_0 hX2 ?_
    rw [if_neg (by omega), if_pos (by omega)]
    refine ⟨by omega, b_X_letter_45 hX ?_⟩
    rw [sup_e, hn, w32_s S.n (by omega), Int.toNat_natCast]
    obtain ⟨h1, h2, h3, h4, h5, h6, h7, h8, h9⟩ := hS
    have := h (sup (sup σ 33 S.n c) 32 1 ((S.n + 1 : Nat) : Int)) ⟨(tb_off (by omega)).trans ((tb_off (by omega)).trans h1), ?_, fun j hj => ?_, ?_, ?_, ?_, ?_, fun z => (tb_off (by omega)).trans ((tb_off (by omega)).trans (h8 z)), ?_⟩ (fun c' hc' => by rw [sup_fr (by omega), sup_fr (by omega)])
    · exact this
    · rw [sup_e]
    · rw [sup_fr (by decide)]
      show _ = if j = S.n then c else S.l j
      by_cases e : j = S.n
      · rw [e, sup_e, if_pos rfl]
      · rw [sup_i e, if_neg e]; exact h3 j (by have : j < S.n + 1 := hj; omega)
    · rw [sup_fr (by decide), sup_fr (by decide)]; exact h4
    · rw [sup_fr (by decide), sup_fr (by decide)]; exact h5
    · rw [sup_fr (by decide), sup_fr (by decide)]; exact h6
    · rw [sup_fr (by decide), sup_fr (by decide)]; exact h7
    · rw [sup_fr (by decide), sup_fr (by decide)]; exact h9
  · rw [if_neg c3] at h
    rw [if_neg (by omega)]
    exact x_refuse hS (by decide) (fun σ' a b => b_X_letter_36 hX (h σ' a b))
theorem x_guest {g x : Int} (hS : XS σ S) (w : WS S) (h : ∀ σ', XS σ' (cGuest S g x).2 → XF σ σ' → Q (some (vI (cGuest S g x).1)) σ') : P (d + 8) 74 [vR 0, vI g, vI x] σ Q := by
  unfold cGuest at h
  have hG := WT_g w.1
  refine e_X_guest fun X hX => b_X_guest_0 hX ?_
  refine s_hasGuest isT1 hS.1 (fun p1 p2 => ?_) (fun p => ?_)
  · refine b_X_guest_8 hX ?_
    rw [if_pos ⟨p1, p2⟩] at h
    rw [if_neg (by decide)]
    by_cases c1 : x = 0
    · rw [if_pos c1] at h ⊢
      refine ⟨by omega, ?_⟩
      rw [show σ 2 g.toNat = S.T 0 g.toNat from a0 hS.1 (by omega)]
      exact h σ hS (XF_r σ)
    rw [if_neg c1] at h ⊢
    by_cases c2 : x = 1
    · rw [if_pos c2] at h ⊢
      refine ⟨by omega, ?_⟩
      rw [show σ 3 g.toNat = S.T 1 g.toNat from a1 hS.1 (by omega)]
      exact h σ hS (XF_r σ)
    rw [if_neg c2] at h ⊢
    exact x_refuse hS (by decide) (fun σ' a b => b_X_guest_70 hX (h σ' a b))
  · refine b_X_guest_8 hX ?_
    rw [if_neg p] at h
    rw [if_pos rfl]
    exact x_refuse hS (by decide) (fun σ' a b => b_X_guest_16 hX (h σ' a b))
theorem x_remark {r x : Int} (hS : XS σ S) (w : WS S) (h : ∀ σ', XS σ' (cRemark S r x).2 → XF σ σ' → Q (some (vI (cRemark S r x).1)) σ') : P (d + 8) 75 [vR 0, vI r, vI x] σ Q := by
  unfold cRemark at h
  have hR := WT_r w.1
  refine e_X_remark fun X hX => b_X_remark_0 hX ?_
  refine s_hasRemark isT1 hS.1 (fun p1 p2 => ?_) (fun p => ?_)
  · refine b_X_remark_8 hX ?_
    rw [if_pos ⟨p1, p2⟩] at h
    rw [if_neg (by decide)]
    have e : r = (r.toNat : Int) := by omega
    by_cases c0 : x = 0
    · rw [if_pos c0] at h ⊢
      refine ⟨by omega, ?_⟩
      rw [show σ 4 r.toNat = S.T 2 r.toNat from a2 hS.1 (by omega)]
      exact h σ hS (XF_r σ)
    rw [if_neg c0] at h ⊢
    by_cases c1 : x = 1
    · rw [if_pos c1] at h ⊢
      refine ⟨by omega, ?_⟩
      rw [show σ 5 r.toNat = S.T 3 r.toNat from a3 hS.1 (by omega)]
      exact h σ hS (XF_r σ)
    rw [if_neg c1] at h ⊢
    by_cases c2 : x = 2
    · rw [if_pos c2] at h ⊢
      refine ⟨by omega, ?_⟩
      rw [show σ 6 r.toNat = S.T 4 r.toNat from a4 hS.1 (by omega)]
      exact h σ hS (XF_r σ)
    rw [if_neg c2] at h ⊢
    by_cases c3 : x = 3
    · rw [if_pos c3] at h ⊢
      refine ⟨by omega, ?_⟩
      rw [show σ 7 r.toNat = S.T 5 r.toNat from a5 hS.1 (by omega)]
      exact h σ hS (XF_r σ)
    rw [if_neg c3] at h ⊢
    by_cases c4 : x = 4
    · rw [if_pos c4] at h ⊢
      refine ⟨by omega, ?_⟩
      rw [show σ 8 r.toNat = S.T 6 r.toNat from a6 hS.1 (by omega)]
      exact h σ hS (XF_r σ)
    rw [if_neg c4] at h ⊢
    by_cases c5 : x = 5
    · rw [if_pos c5] at h ⊢
      rw [e]
      exact s_Tmin isT1 hS.1 w.1 (by omega) (b_X_remark_122 hX (h σ hS (XF_r σ)))
    rw [if_neg c5] at h ⊢
    by_cases c6 : x = 6
    · rw [if_pos c6] at h ⊢
      rw [e]
      exact s_Tpri isT1 hS.1 w.1 (by omega) (b_X_remark_131 hX (h σ hS (XF_r σ)))
    rw [if_neg c6] at h ⊢
    by_cases c7 : x = 7
    · rw [if_pos c7] at h ⊢
      rw [e]
      exact s_hearers isT1 hS.1 w.1 (by omega) (b_X_remark_140 hX (h σ hS (XF_r σ)))
    rw [if_neg c7] at h ⊢
    exact x_refuse hS (by decide) (fun σ' a b => b_X_remark_147 hX (h σ' a b))
  · refine b_X_remark_8 hX ?_
    rw [if_neg p] at h
    rw [if_pos rfl]
    exact x_refuse hS (by decide) (fun σ' a b => b_X_remark_16 hX (h σ' a b))
theorem x_ready {r v : Int} (hS : XS σ S) (w : WS S) (h : ∀ σ', XS σ' (cReady S r v).2 → XF σ σ' → Q (some (vI (cReady S r v).1)) σ') : P (d + 8) 76 [vR 0, vI r, vI v] σ Q := by
  unfold cReady at h
  have hR := WT_r w.1
  refine e_X_ready fun X hX => b_X_ready_0 hX ?_
  refine s_hasRemark isT1 hS.1 (fun p1 p2 => ?_) (fun p => ?_)
  · refine b_X_ready_8 hX ?_
    rw [if_pos ⟨p1, p2⟩] at h
    rw [if_neg (by decide)]
    by_cases c1 : v < 0
    · rw [if_pos c1] at h ⊢
      exact x_refuse hS (by decide) (fun σ' a b => b_X_ready_27 hX (h σ' a b))
    rw [if_neg c1] at h ⊢
    by_cases c2 : 59 < v
    · rw [if_pos c2] at h ⊢
      exact x_refuse hS (by decide) (fun σ' a b => b_X_ready_40 hX (h σ' a b))
    rw [if_neg c2] at h ⊢
    refine ⟨by omega, ?_⟩
    rw [show σ 8 r.toNat = S.T 6 r.toNat from a6 hS.1 (by omega)]
    have f : ∀ c, out 1 c → sup σ 8 r.toNat v c = σ c := fun c hc => sup_fr (by unfold out at hc; omega)
    exact h _ (XS_T hS (by rw [show (8 : Nat) = 1 + 7 from rfl, ts6 (by omega), hS.1]) f) (XF_o f)
  · refine b_X_ready_8 hX ?_
    rw [if_neg p] at h
    rw [if_pos rfl]
    exact x_refuse hS (by decide) (fun σ' a b => b_X_ready_16 hX (h σ' a b))
theorem x_mood {g v : Int} (hS : XS σ S) (w : WS S) (h : ∀ σ', XS σ' (cMood S g v).2 → XF σ σ' → Q (some (vI (cMood S g v).1)) σ') : P (d + 8) 77 [vR 0, vI g, vI v] σ Q := by
  unfold cMood at h
  have hG := WT_g w.1
  refine e_X_mood fun X hX => b_X_mood_0 hX ?_
  refine s_hasGuest isT1 hS.1 (fun p1 p2 => ?_) (fun p => ?_)
  · refine b_X_mood_8 hX ?_
    rw [if_pos ⟨p1, p2⟩] at h
    rw [if_neg (by decide)]
    by_cases c1 : v < 0
    · rw [if_pos c1] at h ⊢
      exact x_refuse hS (by decide) (fun σ' a b => b_X_mood_27 hX (h σ' a b))
    rw [if_neg c1] at h ⊢
    by_cases c2 : 40 < v
    · rw [if_pos c2] at h ⊢
      exact x_refuse hS (by decide) (fun σ' a b => b_X_mood_40 hX (h σ' a b))
    rw [if_neg c2] at h ⊢
    refine ⟨by omega, ?_⟩
    rw [show σ 3 g.toNat = S.T 1 g.toNat from a1 hS.1 (by omega)]
    have f : ∀ c, out 1 c → sup σ 3 g.toNat v c = σ c := fun c hc => sup_fr (by unfold out at hc; omega)
    exact h _ (XS_T hS (by rw [show (3 : Nat) = 1 + 2 from rfl, ts1 (by omega), hS.1]) f) (XF_o f)
  · refine b_X_mood_8 hX ?_
    rw [if_neg p] at h
    rw [if_pos rfl]
    exact x_refuse hS (by decide) (fun σ' a b => b_X_mood_16 hX (h σ' a b))
theorem x_change {a b : Int} (hS : XS σ S) (w : WS S) (h : ∀ σ', XS σ' (cChange S a b).2 → XF σ σ' → Q (some (vI (cChange S a b).1)) σ') : P (d + 8) 78 [vR 0, vI a, vI b] σ Q := by
  unfold cChange at h
  have hG := WT_g w.1
  refine e_X_change fun X hX => b_X_change_0 hX ?_
  refine s_changeSeats isT1 hS.1 w.1 (fun p1 p2 p3 p4 p5 σ1 hT f => ?_) (fun p => ?_)
  · refine b_X_change_9 hX ?_
    rw [if_pos ⟨⟨p1, p2⟩, ⟨p3, p4⟩, p5⟩] at h
    rw [if_neg (by decide)]
    refine ⟨by omega, ?_⟩
    rw [show σ1 2 a.toNat = swp S.T a.toNat b.toNat 0 a.toNat from a0 hT (by omega)]
    exact h σ1 (XS_T hS hT f) (XF_o f)
  · refine b_X_change_9 hX ?_
    rw [if_neg p] at h
    rw [if_pos rfl]
    exact x_refuse hS (by decide) (fun σ' a b => b_X_change_17 hX (h σ' a b))
theorem x_set {x v : Int} (hS : XS σ S) (w : WS S) (h : ∀ σ', XS σ' (cSet S x v).2 → XF σ σ' → Q (some (vI (cSet S x v).1)) σ') : P (d + 8) 79 [vR 0, vI x, vI v] σ Q := by
  unfold cSet at h
  have f : ∀ i, ∀ c, out 1 c → sup σ 1 i v c = σ c := fun i c hc => sup_fr (by unfold out at hc; omega)
  refine e_X_set fun X hX => b_X_set_0 hX ?_
  by_cases c0 : x = 0
  · rw [if_pos c0] at h ⊢
    by_cases c1 : v < 1
    · rw [if_pos c1] at h ⊢
      exact x_refuse hS (by decide) (fun σ' a b => b_X_set_35 hX (h σ' a b))
    rw [if_neg c1] at h ⊢
    by_cases c2 : 3 < v
    · rw [if_pos c2] at h ⊢
      exact x_refuse hS (by decide) (fun σ' a b => b_X_set_56 hX (h σ' a b))
    rw [if_neg c2] at h ⊢
    rw [b9 hS.1]
    exact h _ (XS_T hS (by rw [ts9, hS.1]) (f 9)) (XF_o (f 9))
  rw [if_neg c0] at h ⊢
  by_cases c1 : x = 1
  · rw [if_pos c1] at h ⊢
    by_cases c1 : v < 0
    · rw [if_pos c1] at h ⊢
      exact x_refuse hS (by decide) (fun σ' a b => b_X_set_35 hX (h σ' a b))
    rw [if_neg c1] at h ⊢
    by_cases c2 : 9 < v
    · rw [if_pos c2] at h ⊢
      exact x_refuse hS (by decide) (fun σ' a b => b_X_set_56 hX (h σ' a b))
    rw [if_neg c2] at h ⊢
    rw [b10 hS.1]
    exact h _ (XS_T hS (by rw [ts10, hS.1]) (f 10)) (XF_o (f 10))
  rw [if_neg c1] at h ⊢
  exact x_refuse hS (by decide) (fun σ' a b => b_X_set_15 hX (h σ' a b))
theorem x_sums {x : Int} (hS : XS σ S) (w : WS S) (h : ∀ σ', XS σ' (cSums S x).2 → XF σ σ' → Q (some (vI (cSums S x).1)) σ') : P (d + 8) 80 [vR 0, vI x] σ Q := by
  unfold cSums at h
  refine e_X_sums fun X hX => b_X_sums_0 hX ?_
  by_cases c0 : x < 0
  · rw [if_pos (Or.inl c0)] at h
    rw [if_pos c0]
    exact x_refuse hS (by decide) (fun σ' a b => b_X_sums_15 hX (h σ' a b))
  rw [if_neg c0]
  by_cases c1 : 4 < x
  · rw [if_pos (Or.inr c1)] at h
    rw [if_pos c1]
    exact x_refuse hS (by decide) (fun σ' a b => b_X_sums_15 hX (h σ' a b))
  rw [if_neg c1]
  rw [if_neg (by omega)] at h
  refine x_eve hS.1 w.1 (fun σ1 hV f => b_X_sums_20 hX ?_)
  have g := h σ1 (XS_FX hS f) (XF_FX f)
  by_cases c : x = 0
  · simp only [if_pos c] at g ⊢
    exact s_Emoods w.1 hV (b_X_sums_56 hX g)
  simp only [if_neg c] at g ⊢
  by_cases c : x = 1
  · simp only [if_pos c] at g ⊢
    exact s_Ewhole w.1 hV (b_X_sums_61 hX g)
  simp only [if_neg c] at g ⊢
  by_cases c : x = 2
  · simp only [if_pos c] at g ⊢
    exact s_EopBy w.1 hV (b_X_sums_68 hX g)
  simp only [if_neg c] at g ⊢
  by_cases c : x = 3
  · simp only [if_pos c] at g ⊢
    exact s_Esent w.1 hV (b_X_sums_73 hX g)
  simp only [if_neg c] at g ⊢
  exact s_Elast w.1 hV (b_X_sums_78 hX g)
theorem x_of {r x : Int} (hS : XS σ S) (w : WS S) (h : ∀ σ', XS σ' (cOf S r x).2 → XF σ σ' → Q (some (vI (cOf S r x).1)) σ') : P (d + 8) 81 [vR 0, vI r, vI x] σ Q := by
  unfold cOf at h
  have hR := WT_r w.1
  refine e_X_of fun X hX => b_X_of_0 hX ?_
  refine s_hasRemark isT1 hS.1 (fun p1 p2 => ?_) (fun p => ?_)
  · refine b_X_of_8 hX ?_
    rw [if_pos ⟨p1, p2⟩] at h
    rw [if_neg (by decide)]
    by_cases c0 : x < 0
    · rw [if_pos (Or.inl c0)] at h
      rw [if_pos c0]
      exact x_refuse hS (by decide) (fun σ' a b => b_X_of_32 hX (h σ' a b))
    rw [if_neg c0]
    by_cases c1 : 2 < x
    · rw [if_pos (Or.inr c1)] at h
      rw [if_pos c1]
      exact x_refuse hS (by decide) (fun σ' a b => b_X_of_32 hX (h σ' a b))
    rw [if_neg c1]
    rw [if_neg (by omega)] at h
    refine x_eve hS.1 w.1 (fun σ1 hV f => b_X_of_37 hX ?_)
    have g := h σ1 (XS_FX hS f) (XF_FX f)
    have hE := hV.2.1.1 r.toNat (by omega)
    by_cases c : x = 0
    · simp only [if_pos c] at g ⊢
      rw [hE.1]
      exact ⟨by omega, g⟩
    simp only [if_neg c] at g ⊢
    by_cases c : x = 1
    · simp only [if_pos c] at g ⊢
      rw [hV.2.2.1 r.toNat (by omega)]
      exact ⟨by omega, g⟩
    simp only [if_neg c] at g ⊢
    rw [hE.2.2]
    refine ⟨by omega, ?_⟩
    by_cases c : evg S.T 0 2 r.toNat = 0
    · simp only [if_pos c] at g ⊢
      exact g
    · simp only [if_neg c] at g ⊢
      exact g
  · refine b_X_of_8 hX ?_
    rw [if_neg p] at h
    rw [if_pos rfl]
    exact x_refuse hS (by decide) (fun σ' a b => b_X_of_16 hX (h σ' a b))
theorem x_bill {g : Int} (hS : XS σ S) (w : WS S) (h : ∀ σ', XS σ' (cBill S g).2 → XF σ σ' → Q (some (vI (cBill S g).1)) σ') : P (d + 8) 83 [vR 0, vI g] σ Q := by
  unfold cBill at h
  refine e_X_bill fun X hX => b_X_bill_0 hX ?_
  refine s_hasGuest isT1 hS.1 (fun p1 p2 => ?_) (fun p => ?_)
  · refine b_X_bill_8 hX ?_
    rw [if_pos ⟨p1, p2⟩] at h
    rw [if_neg (by decide)]
    refine x_eve hS.1 w.1 (fun σ1 hV f => b_X_bill_21 hX ?_)
    exact s_Ebill w.1 hV (b_X_bill_25 hX (h σ1 (XS_FX hS f) (XF_FX f)))
  · refine b_X_bill_8 hX ?_
    rw [if_neg p] at h
    rw [if_pos rfl]
    exact x_refuse hS (by decide) (fun σ' a b => b_X_bill_16 hX (h σ' a b))
theorem x_without {r : Int} (hS : XS σ S) (w : WS S) (h : ∀ σ', XS σ' (cWithout S r).2 → XF σ σ' → Q (some (vI (cWithout S r).1)) σ') : P (d + 8) 84 [vR 0, vI r] σ Q := by
  unfold cWithout at h
  have hR := WT_r w.1
  refine e_X_without fun X hX => b_X_without_0 hX ?_
  refine s_hasRemark isT1 hS.1 (fun p1 p2 => ?_) (fun p => ?_)
  · refine b_X_without_8 hX ?_
    rw [if_pos ⟨p1, p2⟩] at h
    rw [if_neg (by decide), show r = (r.toNat : Int) by omega]
    exact s_without hS.1 w.1 (by omega) (fun σ' f => b_X_without_32 hX (h σ' (XS_FX hS f) (XF_FX f)))
  · refine b_X_without_8 hX ?_
    rw [if_neg p] at h
    rw [if_pos rfl]
    exact x_refuse hS (by decide) (fun σ' a b => b_X_without_18 hX (h σ' a b))
theorem x_best {r : Int} (hS : XS σ S) (w : WS S) (h : ∀ σ', XS σ' (cBest S r).2 → XF σ σ' → Q (some (vI (cBest S r).1)) σ') : P (d + 8) 85 [vR 0, vI r] σ Q := by
  unfold cBest at h
  have hR := WT_r w.1
  refine e_X_bestMinute fun X hX => b_X_bestMinute_0 hX ?_
  refine s_hasRemark isT1 hS.1 (fun p1 p2 => ?_) (fun p => ?_)
  · refine b_X_bestMinute_8 hX ?_
    rw [if_pos ⟨p1, p2⟩] at h
    rw [if_neg (by decide), show r = (r.toNat : Int) by omega]
    exact s_bestMin hS.1 w.1 (by omega) (fun σ' f => b_X_bestMinute_29 hX (h σ' (XS_FX hS f) (XF_FX f)))
  · refine b_X_bestMinute_8 hX ?_
    rw [if_neg p] at h
    rw [if_pos rfl]
    exact x_refuse hS (by decide) (fun σ' a b => b_X_bestMinute_16 hX (h σ' a b))
theorem x_enough (hS : XS σ S) (w : WS S) (h : ∀ σ', XS σ' S → XF σ σ' → Q (some (vI (enF S.T))) σ') : P (d + 8) 86 [vR 0] σ Q :=
  e_X_enough fun X hX => b_X_enough_0 hX (s_enough hS.1 w.1 (fun σ' f => b_X_enough_11 hX (h σ' (XS_FX hS f) (XF_FX f))))
theorem x_swap (hS : XS σ S) (w : WS S) (h : ∀ σ', XS σ' S → XF σ σ' → Q (some (vI (swO S.T (gN S.T)).1)) σ') : P (d + 8) 87 [vR 0] σ Q :=
  e_X_swap fun X hX => b_X_swap_0 hX (s_swap hS.1 w.1 (fun σ' f => b_X_swap_11 hX (h σ' (XS_FX hS f) (XF_FX f))))
theorem x_fit (hS : XS σ S) (w : WS S) (h : ∀ σ', XS σ' S → XF σ σ' → Q (some (vI (brO S.T (rN S.T)).1)) σ') : P (d + 8) 88 [vR 0] σ Q :=
  e_X_fit fun X hX => b_X_fit_0 hX (s_fit hS.1 w.1 (fun σ' f => b_X_fit_11 hX (h σ' (XS_FX hS f) (XF_FX f))))
theorem x_dear (hS : XS σ S) (w : WS S) (h : ∀ σ', XS σ' S → XF σ σ' → Q (some (vI (drs S.T (rN S.T)))) σ') : P (d + 8) 90 [vR 0] σ Q :=
  e_X_dear fun X hX => b_X_dear_0 hX (s_dearest isT1 hS.1 w.1 (b_X_dear_7 hX (h σ hS (XF_r σ))))
theorem x_cold (hS : XS σ S) (w : WS S) (h : ∀ σ', XS σ' S → XF σ σ' → Q (some (vI ((cmF S.T (2 ^ rN S.T)).1 : Int))) σ') : P (d + 8) 92 [vR 0] σ Q :=
  e_X_cold fun X hX => b_X_cold_0 hX (s_cold hS.1 w.1 (fun σ' f => b_X_cold_11 hX (h σ' (XS_FX hS f) (XF_FX f))))
theorem x_could {x : Int} (hS : XS σ S) (w : WS S) (h : ∀ σ', XS σ' (cCould S x).2 → XF σ σ' → Q (some (vI (cCould S x).1)) σ') : P (d + 8) 89 [vR 0, vI x] σ Q := by
  unfold cCould at h
  refine e_X_could fun X hX => b_X_could_0 hX ?_
  by_cases c0 : x = 0
  · rw [if_pos c0] at h ⊢
    refine s_mostLikers isT1 hS.1 w.1 (b_X_could_23 hX ?_)
    rw [if_pos c0]
    exact s_topics isT1 hS.1 w.1 (b_X_could_36 hX (h σ hS (XF_r σ)))
  rw [if_neg c0] at h ⊢
  by_cases c1 : x = 1
  · rw [if_pos c1] at h ⊢
    refine s_mostLikers isT1 hS.1 w.1 (b_X_could_23 hX ?_)
    rw [if_neg c0]
    exact h σ hS (XF_r σ)
  rw [if_neg c1] at h ⊢
  exact x_refuse hS (by decide) (fun σ' a b => b_X_could_15 hX (h σ' a b))
theorem x_spare {x : Int} (hS : XS σ S) (w : WS S) (h : ∀ σ', XS σ' (cSpare S x).2 → XF σ σ' → Q (some (vI (cSpare S x).1)) σ') : P (d + 8) 91 [vR 0, vI x] σ Q := by
  unfold cSpare at h
  refine e_X_spare fun X hX => b_X_spare_0 hX ?_
  by_cases c0 : x = 0
  · rw [if_pos c0] at h ⊢
    refine s_spare hS.1 w.1 (fun σ' f => b_X_spare_27 hX ?_)
    rw [if_pos c0]
    exact b_X_spare_40 hX (h σ' (XS_FX hS f) (XF_FX f))
  rw [if_neg c0] at h ⊢
  by_cases c1 : x = 1
  · rw [if_pos c1] at h ⊢
    refine s_spare hS.1 w.1 (fun σ' f => b_X_spare_27 hX ?_)
    rw [if_neg c0]
    exact s_bitCount (by have := lsF_b S.T w.1 (2 ^ rN S.T) (Nat.le_refl _); omega) (b_X_spare_40 hX (h σ' (XS_FX hS f) (XF_FX f)))
  rw [if_neg c1] at h ⊢
  exact x_refuse hS (by decide) (fun σ' a b => b_X_spare_15 hX (h σ' a b))
theorem x_silence {x : Int} (hS : XS σ S) (w : WS S) (h : ∀ σ', XS σ' (cSilence S x).2 → XF σ σ' → Q (some (vI (cSilence S x).1)) σ') : P (d + 8) 93 [vR 0, vI x] σ Q := by
  unfold cSilence at h
  refine e_X_silence fun X hX => b_X_silence_0 hX ?_
  by_cases c0 : x = 0
  · rw [if_pos c0] at h ⊢
    refine x_eve hS.1 w.1 (fun σ' hV f => b_X_silence_20 hX (s_Elong w.1 hV (b_X_silence_25 hX ?_)))
    rw [if_pos c0]
    exact b_X_silence_39 hX (h σ' (XS_FX hS f) (XF_FX f))
  rw [if_neg c0] at h ⊢
  by_cases c1 : x = 1
  · rw [if_pos c1] at h ⊢
    refine x_eve hS.1 w.1 (fun σ' hV f => b_X_silence_20 hX (s_Elong w.1 hV (b_X_silence_25 hX ?_)))
    rw [if_neg c0]
    exact s_Estart w.1 hV (b_X_silence_39 hX (h σ' (XS_FX hS f) (XF_FX f)))
  rw [if_neg c1] at h ⊢
  exact x_refuse hS (by decide) (fun σ' a b => b_X_silence_15 hX (h σ' a b))
theorem x_busy {x : Int} (hS : XS σ S) (w : WS S) (h : ∀ σ', XS σ' (cBusy S x).2 → XF σ σ' → Q (some (vI (cBusy S x).1)) σ') : P (d + 8) 94 [vR 0, vI x] σ Q := by
  unfold cBusy at h
  refine e_X_busy fun X hX => b_X_busy_0 hX ?_
  by_cases c0 : x = 0
  · rw [if_pos c0] at h ⊢
    refine x_eve hS.1 w.1 (fun σ' hV f => b_X_busy_20 hX ?_)
    rw [if_pos c0]
    exact s_Ebusy w.1 hV (b_X_busy_38 hX (h σ' (XS_FX hS f) (XF_FX f)))
  rw [if_neg c0] at h ⊢
  by_cases c1 : x = 1
  · rw [if_pos c1] at h ⊢
    refine x_eve hS.1 w.1 (fun σ' hV f => b_X_busy_20 hX ?_)
    rw [if_neg c0, b9 (XS_FX hS f).1]
    exact s_Ebusy w.1 hV (b_X_busy_38 hX (h σ' (XS_FX hS f) (XF_FX f)))
  rw [if_neg c1] at h ⊢
  exact x_refuse hS (by decide) (fun σ' a b => b_X_busy_15 hX (h σ' a b))
theorem x_haggle {a b : Int} (hS : XS σ S) (w : WS S) (h : ∀ σ', XS σ' (cHaggle S a b).2 → XF σ σ' → Q (some (vI (cHaggle S a b).1)) σ') : P (d + 8) 96 [vR 0, vI a, vI b] σ Q := by
  unfold cHaggle at h
  have hG := WT_g w.1
  refine e_X_haggle fun X hX => b_X_haggle_0 hX ?_
  refine s_hasTwo isT1 hS.1 (fun p1 p2 p3 p4 p5 => ?_) (fun p => ?_)
  · refine b_X_haggle_9 hX ?_
    rw [if_pos ⟨⟨p1, p2⟩, ⟨p3, p4⟩, p5⟩] at h
    rw [if_neg (by decide), show a = (a.toNat : Int) by omega, show b = (b.toNat : Int) by omega]
    exact s_haggle hS.1 w.1 (by omega) (by omega) (fun σ' f => b_X_haggle_31 hX (h σ' (XS_FX hS f) (XF_FX f)))
  · refine b_X_haggle_9 hX ?_
    rw [if_neg p] at h
    rw [if_pos rfl]
    exact x_refuse hS (by decide) (fun σ' a b => b_X_haggle_17 hX (h σ' a b))
end FXs
