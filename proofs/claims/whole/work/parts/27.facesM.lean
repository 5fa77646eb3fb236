/-! The model's commands. -/
section FM
variable {d : Nat} {σ : Sto} {Q : PQ} {S : AS} {T : Tab}
theorem MS_T {σ' : Sto} {T' : Tab} (h : MS σ S) (hT : tb σ' 39 = T') (f : ∀ c, out 39 c → σ' c = σ c) (f2 : ∀ j, 11 ≤ j → σ' 39 j = σ 39 j) : MS σ' (wT S T') := by
  obtain ⟨h1, h2, h3, h4, h5, h6, h7, h8⟩ := h
  unfold out at f
  refine ⟨hT, ?_, ?_, ?_, ?_, ?_, ?_, fun z => ?_⟩
  · rw [f2 16 (by omega)]; exact h2
  · rw [f 48 (by omega)]; exact h3
  · rw [f2 33 (by omega)]; exact h4
  · rw [f 58 (by omega)]; exact h5
  · rw [f 47 (by omega)]; exact h6
  · rw [f2 20 (by omega)]; exact h7
  · exact Eq.trans (by unfold tbK; rw [f 52 (by omega)]) (h8 z)
theorem MG_o {σ' : Sto} (f : ∀ c, out 39 c → σ' c = σ c) : MG σ σ' := fun c hc => f c (by unfold out; omega)
theorem MG_s {c i : Nat} {v : Int} (h : 39 ≤ c ∧ c ≠ 63) : MG σ (sup σ c i v) := fun c' hc => sup_fr (by omega)
theorem MS_rf {e : Int} (hS : MS σ S) (he : -6 ≤ e ∧ e ≤ -1) : MS (sup σ 47 (-e).toNat (w32 (σ 47 (-e).toNat + 1))) (rf S e) := by
  obtain ⟨h1, h2, h3, h4, h5, h6, h7, h8⟩ := hS
  refine ⟨(tb_off (by omega)).trans h1, ?_, ?_, ?_, ?_, fun j hj => ?_, ?_, fun z => ?_⟩
  · rw [sup_fr (by decide)]; exact h2
  · rw [sup_fr (by decide)]; exact h3
  · rw [sup_fr (by decide)]; exact h4
  · rw [sup_fr (by decide)]; exact h5
  · show _ = if j = (-e).toNat then w32 (S.f j + 1) else S.f j
    by_cases c : j = (-e).toNat
    · subst c; rw [sup_e, if_pos rfl, h6 _ hj]
    · rw [sup_i c, if_neg c]; exact h6 j hj
  · rw [sup_fr (by decide)]; exact h7
  · exact Eq.trans (by unfold tbK; rw [sup_fr (by decide)]) (h8 z)
theorem m_no {e : Int} (hS : MS σ S) (he : -6 ≤ e ∧ e ≤ -1) (h : ∀ σ', MS σ' (rf S e) → MG σ σ' → Q (some (vI e)) σ') : P (d + 1) 115 [vR 39, vI e] σ Q := by
  refine e_Mo_no fun X hX => b_Mo_no_0 hX ?_
  rw [w32_id (x := -e) (by omega) (by omega)]
  exact ⟨by omega, h _ (MS_rf hS he) (MG_s (by decide))⟩
theorem m_lower {e : Int} (hS : MS σ S) (he : -6 ≤ e ∧ e ≤ -1) (h : ∀ σ', MS σ' (rf S e) → MG σ σ' → Q (some (vI (1000000000 - e))) σ') : P (d + 1) 116 [vR 39, vI e] σ Q := by
  refine e_Mo_lower fun X hX => b_Mo_lower_0 hX ?_
  rw [w32_id (x := -e) (by omega) (by omega), w32_id (by omega) (by omega)]
  exact ⟨by omega, h _ (MS_rf hS he) (MG_s (by decide))⟩
theorem m_lowest {e : Int} (hS : MS σ S) (he : -6 ≤ e ∧ e ≤ -1) (h : ∀ σ', MS σ' (rf S e) → MG σ σ' → Q (some (vL (4000000000000000000 - e))) σ') : P (d + 1) 117 [vR 39, vI e] σ Q := by
  refine e_Mo_lowest fun X hX => b_Mo_lowest_0 hX ?_
  rw [w32_id (x := -e) (by omega) (by omega), w64_id (by omega) (by omega)]
  exact ⟨by omega, h _ (MS_rf hS he) (MG_s (by decide))⟩
theorem bnd_1 {a b c : Int} (h : a < b) : bnd a b c = -4 := if_pos h
theorem bnd_2 {a b c : Int} (h : ¬ a < b) (h2 : c < a) : bnd a b c = -6 := by unfold bnd; rw [if_neg h, if_pos h2]
theorem bnd_3 {a b c : Int} (h : ¬ a < b) (h2 : ¬ c < a) : bnd a b c = 0 := by unfold bnd; rw [if_neg h, if_neg h2]
theorem y_letter {c : Int} (hS : MS σ S) (w : WS S) (h : ∀ σ', MS σ' (cLetter S c).2 → MG σ σ' → Q (some (vI (cLetter S c).1)) σ') : P (d + 8) 125 [vR 39, vI c] σ Q := by
  unfold cLetter at h
  have hn := hS.2.1
  have h96 := w.2.1
  refine e_Mo_letter fun X hX => b_Mo_letter_0 hX ?_
  refine m_bound (b_Mo_letter_8 hX ?_)
  by_cases c1 : c < 0
  · rw [if_pos c1] at h
    rw [bnd_1 c1, if_neg (by decide)]
    exact m_no hS (by decide) (fun σ' a b => b_Mo_letter_34 hX (h σ' a b))
  rw [if_neg c1] at h
  by_cases c2 : 255 < c
  · rw [if_pos c2] at h
    rw [bnd_2 c1 c2, if_neg (by decide)]
    exact m_no hS (by decide) (fun σ' a b => b_Mo_letter_34 hX (h σ' a b))
  rw [if_neg c2] at h
  rw [bnd_3 c1 c2, if_pos rfl, hn]
  by_cases c3 : S.n < 96
  · rw [if_pos c3] at h
    rw [if_neg (by omega)]
    refine ⟨by omega, ?_⟩
    rw [w32_s S.n (by omega), Int.toNat_natCast]
    obtain ⟨h1, h2, h3, h4, h5, h6, h7, h8⟩ := hS
    have := h (sup (sup σ 48 S.n c) 39 16 ((S.n + 1 : Nat) : Int)) ⟨(tb_own (by omega)).trans ((tb_off (by omega)).trans h1), ?_, fun j hj => ?_, ?_, ?_, ?_, ?_, fun z => ?_⟩ (MG_tr (MG_s (by decide)) (MG_s (by decide)))
    · exact this
    · rw [sup_e]
    · rw [sup_fr (by decide)]
      show _ = if j = S.n then c else S.l j
      by_cases e : j = S.n
      · rw [e, sup_e, if_pos rfl]
      · rw [sup_i e, if_neg e]; exact h3 j (by have : j < S.n + 1 := hj; omega)
    · rw [sup_i (by decide), sup_fr (by decide)]; exact h4
    · rw [sup_fr (by decide), sup_fr (by decide)]; exact h5
    · rw [sup_fr (by decide), sup_fr (by decide)]; exact h6
    · rw [sup_i (by decide), sup_fr (by decide)]; exact h7
    · exact Eq.trans (by unfold tbK; rw [sup_fr (by decide), sup_fr (by decide)]) (h8 z)
  · rw [if_neg c3] at h
    rw [if_pos (by omega)]
    exact m_no hS (by decide) (fun σ' a b => b_Mo_letter_34 hX (h σ' a b))
theorem y_guest {g x : Int} (hS : MS σ S) (w : WS S) (h : ∀ σ', MS σ' (cGuest S g x).2 → MG σ σ' → Q (some (vI (cGuest S g x).1)) σ') : P (d + 8) 153 [vR 39, vI g, vI x] σ Q := by
  unfold cGuest at h
  have hG := WT_g w.1
  refine e_Mo_guest fun X hX => b_Mo_guest_0 hX ?_
  refine m_isGuest hS.1 (fun p1 p2 => ?_) (fun p => ?_)
  · refine b_Mo_guest_5 hX ?_
    rw [if_pos ⟨p1, p2⟩] at h
    rw [if_neg (by decide)]
    by_cases c1 : x = 0
    · rw [if_pos c1] at h ⊢
      refine ⟨by omega, b_Mo_guest_47 hX ?_⟩
      rw [show σ 40 g.toNat = S.T 0 g.toNat from a0 hS.1 (by omega)]
      exact h σ hS (MG_r σ)
    rw [if_neg c1] at h ⊢
    by_cases c2 : x = 1
    · rw [if_pos c2] at h ⊢
      refine ⟨by omega, b_Mo_guest_47 hX ?_⟩
      rw [show σ 41 g.toNat = S.T 1 g.toNat from a1 hS.1 (by omega)]
      exact h σ hS (MG_r σ)
    rw [if_neg c2] at h ⊢
    exact m_no hS (by decide) (fun σ' a b => b_Mo_guest_47 hX (h σ' a b))
  · refine b_Mo_guest_5 hX ?_
    rw [if_neg p] at h
    rw [if_pos rfl]
    exact m_no hS (by decide) (fun σ' a b => b_Mo_guest_13 hX (h σ' a b))
theorem y_remark {r x : Int} (hS : MS σ S) (w : WS S) (h : ∀ σ', MS σ' (cRemark S r x).2 → MG σ σ' → Q (some (vI (cRemark S r x).1)) σ') : P (d + 8) 154 [vR 39, vI r, vI x] σ Q := by
  unfold cRemark at h
  have hR := WT_r w.1
  refine e_Mo_remark fun X hX => b_Mo_remark_0 hX ?_
  refine m_isRemark hS.1 (fun p1 p2 => ?_) (fun p => ?_)
  · refine b_Mo_remark_5 hX ?_
    rw [if_pos ⟨p1, p2⟩] at h
    rw [if_neg (by decide)]
    have e : r = (r.toNat : Int) := by omega
    by_cases c0 : x = 0
    · rw [if_pos c0] at h ⊢
      refine ⟨by omega, ?_⟩
      rw [show σ 42 r.toNat = S.T 2 r.toNat from a2 hS.1 (by omega)]
      exact h σ hS (MG_r σ)
    rw [if_neg c0] at h ⊢
    by_cases c1 : x = 1
    · rw [if_pos c1] at h ⊢
      refine ⟨by omega, ?_⟩
      rw [show σ 43 r.toNat = S.T 3 r.toNat from a3 hS.1 (by omega)]
      exact h σ hS (MG_r σ)
    rw [if_neg c1] at h ⊢
    by_cases c2 : x = 2
    · rw [if_pos c2] at h ⊢
      refine ⟨by omega, ?_⟩
      rw [show σ 44 r.toNat = S.T 4 r.toNat from a4 hS.1 (by omega)]
      exact h σ hS (MG_r σ)
    rw [if_neg c2] at h ⊢
    by_cases c3 : x = 3
    · rw [if_pos c3] at h ⊢
      refine ⟨by omega, ?_⟩
      rw [show σ 45 r.toNat = S.T 5 r.toNat from a5 hS.1 (by omega)]
      exact h σ hS (MG_r σ)
    rw [if_neg c3] at h ⊢
    by_cases c4 : x = 4
    · rw [if_pos c4] at h ⊢
      refine ⟨by omega, ?_⟩
      rw [show σ 46 r.toNat = S.T 6 r.toNat from a6 hS.1 (by omega)]
      exact h σ hS (MG_r σ)
    rw [if_neg c4] at h ⊢
    by_cases c5 : x = 5
    · rw [if_pos c5] at h ⊢
      rw [e]
      exact m_minutes hS.1 w.1 (by omega) (b_Mo_remark_100 hX (h σ hS (MG_r σ)))
    rw [if_neg c5] at h ⊢
    by_cases c6 : x = 6
    · rw [if_pos c6] at h ⊢
      rw [e]
      exact m_price hS.1 w.1 (by omega) (b_Mo_remark_106 hX (h σ hS (MG_r σ)))
    rw [if_neg c6] at h ⊢
    by_cases c7 : x = 7
    · rw [if_pos c7] at h ⊢
      rw [e]
      exact m_hears hS.1 w.1 (by omega) (b_Mo_remark_112 hX (h σ hS (MG_r σ)))
    rw [if_neg c7] at h ⊢
    exact m_no hS (by decide) (fun σ' a b => b_Mo_remark_119 hX (h σ' a b))
  · refine b_Mo_remark_5 hX ?_
    rw [if_neg p] at h
    rw [if_pos rfl]
    exact m_no hS (by decide) (fun σ' a b => b_Mo_remark_13 hX (h σ' a b))
theorem y_ready {r v : Int} (hS : MS σ S) (w : WS S) (h : ∀ σ', MS σ' (cReady S r v).2 → MG σ σ' → Q (some (vI (cReady S r v).1)) σ') : P (d + 8) 155 [vR 39, vI r, vI v] σ Q := by
  unfold cReady at h
  have hR := WT_r w.1
  refine e_Mo_ready fun X hX => b_Mo_ready_0 hX ?_
  refine m_isRemark hS.1 (fun p1 p2 => ?_) (fun p => ?_)
  · refine b_Mo_ready_5 hX ?_
    rw [if_pos ⟨p1, p2⟩] at h
    rw [if_neg (by decide)]
    refine m_bound (b_Mo_ready_19 hX ?_)
    by_cases c1 : v < 0
    · rw [if_pos c1] at h
      rw [bnd_1 c1, if_neg (by decide)]
      exact m_no hS (by decide) (fun σ' a b => b_Mo_ready_29 hX (h σ' a b))
    rw [if_neg c1] at h
    by_cases c2 : 59 < v
    · rw [if_pos c2] at h
      rw [bnd_2 c1 c2, if_neg (by decide)]
      exact m_no hS (by decide) (fun σ' a b => b_Mo_ready_29 hX (h σ' a b))
    rw [if_neg c2] at h
    rw [bnd_3 c1 c2, if_pos rfl]
    refine ⟨by omega, ?_⟩
    rw [show σ 46 r.toNat = S.T 6 r.toNat from a6 hS.1 (by omega)]
    have f : ∀ c, out 39 c → sup σ 46 r.toNat v c = σ c := fun c hc => sup_fr (by unfold out at hc; omega)
    exact h _ (MS_T hS (by rw [show (46 : Nat) = 39 + 7 from rfl, ts6 (by omega), hS.1]) f (fun j _ => by rw [sup_fr (by decide)])) (MG_o f)
  · refine b_Mo_ready_5 hX ?_
    rw [if_neg p] at h
    rw [if_pos rfl]
    refine b_Mo_ready_19 hX ?_
    rw [if_neg (by decide)]
    exact m_no hS (by decide) (fun σ' a b => b_Mo_ready_29 hX (h σ' a b))
theorem y_mood {g v : Int} (hS : MS σ S) (w : WS S) (h : ∀ σ', MS σ' (cMood S g v).2 → MG σ σ' → Q (some (vI (cMood S g v).1)) σ') : P (d + 8) 156 [vR 39, vI g, vI v] σ Q := by
  unfold cMood at h
  have hG := WT_g w.1
  refine e_Mo_mood fun X hX => b_Mo_mood_0 hX ?_
  refine m_isGuest hS.1 (fun p1 p2 => ?_) (fun p => ?_)
  · refine b_Mo_mood_5 hX ?_
    rw [if_pos ⟨p1, p2⟩] at h
    rw [if_neg (by decide)]
    refine m_bound (b_Mo_mood_19 hX ?_)
    by_cases c1 : v < 0
    · rw [if_pos c1] at h
      rw [bnd_1 c1, if_neg (by decide)]
      exact m_no hS (by decide) (fun σ' a b => b_Mo_mood_29 hX (h σ' a b))
    rw [if_neg c1] at h
    by_cases c2 : 40 < v
    · rw [if_pos c2] at h
      rw [bnd_2 c1 c2, if_neg (by decide)]
      exact m_no hS (by decide) (fun σ' a b => b_Mo_mood_29 hX (h σ' a b))
    rw [if_neg c2] at h
    rw [bnd_3 c1 c2, if_pos rfl]
    refine ⟨by omega, ?_⟩
    rw [show σ 41 g.toNat = S.T 1 g.toNat from a1 hS.1 (by omega)]
    have f : ∀ c, out 39 c → sup σ 41 g.toNat v c = σ c := fun c hc => sup_fr (by unfold out at hc; omega)
    exact h _ (MS_T hS (by rw [show (41 : Nat) = 39 + 2 from rfl, ts1 (by omega), hS.1]) f (fun j _ => by rw [sup_fr (by decide)])) (MG_o f)
  · refine b_Mo_mood_5 hX ?_
    rw [if_neg p] at h
    rw [if_pos rfl]
    refine b_Mo_mood_19 hX ?_
    rw [if_neg (by decide)]
    exact m_no hS (by decide) (fun σ' a b => b_Mo_mood_29 hX (h σ' a b))
theorem y_change {a b : Int} (hS : MS σ S) (w : WS S) (h : ∀ σ', MS σ' (cChange S a b).2 → MG σ σ' → Q (some (vI (cChange S a b).1)) σ') : P (d + 8) 157 [vR 39, vI a, vI b] σ Q := by
  unfold cChange at h
  have hG := WT_g w.1
  refine e_Mo_change fun X hX => b_Mo_change_0 hX ?_
  refine m_areTwo hS.1 (fun p1 p2 p3 p4 p5 => ?_) (fun p => ?_)
  · refine b_Mo_change_6 hX ?_
    rw [if_pos ⟨⟨p1, p2⟩, ⟨p3, p4⟩, p5⟩] at h
    rw [if_neg (by decide)]
    obtain ⟨a', rfl⟩ : ∃ q : Nat, a = (q : Int) := ⟨a.toNat, by omega⟩
    obtain ⟨b', rfl⟩ : ∃ q : Nat, b = (q : Int) := ⟨b.toNat, by omega⟩
    rw [Int.toNat_natCast, Int.toNat_natCast] at h
    refine m_changes hS.1 w.1 (by omega) (by omega) (by omega) (fun σ1 hT f f2 => b_Mo_change_21 hX ?_)
    refine ⟨by omega, ?_⟩
    rw [Int.toNat_natCast, show σ1 40 a' = swp S.T a' b' 0 a' from a0 hT (by omega)]
    exact h σ1 (MS_T hS hT f f2) (MG_o f)
  · refine b_Mo_change_6 hX ?_
    rw [if_neg p] at h
    rw [if_pos rfl]
    exact m_no hS (by decide) (fun σ' a b => b_Mo_change_14 hX (h σ' a b))
theorem y_set {x v : Int} (hS : MS σ S) (w : WS S) (h : ∀ σ', MS σ' (cSet S x v).2 → MG σ σ' → Q (some (vI (cSet S x v).1)) σ') : P (d + 8) 158 [vR 39, vI x, vI v] σ Q := by
  unfold cSet at h
  have f : ∀ i, ∀ c, out 39 c → sup σ 39 i v c = σ c := fun i c hc => sup_fr (by unfold out at hc; omega)
  refine e_Mo_set fun X hX => b_Mo_set_0 hX ?_
  refine m_isIn (fun p1 p2 => b_Mo_set_6 hX ?_) (fun p => b_Mo_set_6 hX ?_)
  · rw [if_neg (by decide)]
    by_cases c0 : x = 0
    · rw [if_pos c0] at h ⊢
      refine m_bound (b_Mo_set_24 hX (b_Mo_set_34 hX ?_))
      by_cases c1 : v < 1
      · rw [if_pos c1] at h
        rw [bnd_1 c1, if_neg (by decide)]
        exact m_no hS (by decide) (fun σ' a b => b_Mo_set_44 hX (h σ' a b))
      rw [if_neg c1] at h
      by_cases c2 : 3 < v
      · rw [if_pos c2] at h
        rw [bnd_2 c1 c2, if_neg (by decide)]
        exact m_no hS (by decide) (fun σ' a b => b_Mo_set_44 hX (h σ' a b))
      rw [if_neg c2] at h
      rw [bnd_3 c1 c2, if_pos rfl, if_pos c0, b9 hS.1]
      exact h _ (MS_T hS (by rw [ts9, hS.1]) (f 9) (fun j hj => sup_i (by omega))) (MG_o (f 9))
    rw [if_neg c0] at h ⊢
    rw [if_pos (show x = 1 by omega)] at h
    refine m_bound (b_Mo_set_34 hX ?_)
    by_cases c1 : v < 0
    · rw [if_pos c1] at h
      rw [bnd_1 c1, if_neg (by decide)]
      exact m_no hS (by decide) (fun σ' a b => b_Mo_set_44 hX (h σ' a b))
    rw [if_neg c1] at h
    by_cases c2 : 9 < v
    · rw [if_pos c2] at h
      rw [bnd_2 c1 c2, if_neg (by decide)]
      exact m_no hS (by decide) (fun σ' a b => b_Mo_set_44 hX (h σ' a b))
    rw [if_neg c2] at h
    rw [bnd_3 c1 c2, if_pos rfl, if_neg c0, b10 hS.1]
    exact h _ (MS_T hS (by rw [ts10, hS.1]) (f 10) (fun j hj => sup_i (by omega))) (MG_o (f 10))
  · rw [if_pos rfl]
    rw [if_neg (by omega), if_neg (by omega)] at h
    refine b_Mo_set_34 hX ?_
    rw [if_neg (by decide)]
    exact m_no hS (by decide) (fun σ' a b => b_Mo_set_44 hX (h σ' a b))
theorem y_row {v : Int} (hS : MS σ S) (w : WS S) (h : ∀ σ', MS σ' (cRow S v).2 → MG σ σ' → Q (some (vI (cRow S v).1)) σ') : P (d + 8) 186 [vR 39, vI v] σ Q := by
  unfold cRow at h
  have hn := hS.2.2.2.1
  have h12 := w.2.2.2.1
  refine e_Mo_row fun X hX => b_Mo_row_0 hX ?_
  refine m_bound (b_Mo_row_7 hX ?_)
  by_cases c1 : v < 0
  · rw [if_pos c1] at h
    rw [bnd_1 c1, if_neg (by decide)]
    exact m_no hS (by decide) (fun σ' a b => b_Mo_row_33 hX (h σ' a b))
  rw [if_neg c1] at h
  by_cases c2 : 99 < v
  · rw [if_pos c2] at h
    rw [bnd_2 c1 c2, if_neg (by decide)]
    exact m_no hS (by decide) (fun σ' a b => b_Mo_row_33 hX (h σ' a b))
  rw [if_neg c2] at h
  rw [bnd_3 c1 c2, if_pos rfl, hn]
  by_cases c3 : S.t < 12
  · rw [if_pos c3] at h
    rw [if_neg (by omega)]
    refine ⟨by omega, ?_⟩
    rw [w32_s S.t (by omega), Int.toNat_natCast]
    obtain ⟨h1, h2, h3, h4, h5, h6, h7, h8⟩ := hS
    have := h (sup (sup σ 58 S.t v) 39 33 ((S.t + 1 : Nat) : Int)) ⟨(tb_own (by omega)).trans ((tb_off (by omega)).trans h1), ?_, ?_, ?_, fun j hj => ?_, ?_, ?_, fun z => ?_⟩ (MG_tr (MG_s (by decide)) (MG_s (by decide)))
    · exact this
    · rw [sup_i (by decide), sup_fr (by decide)]; exact h2
    · rw [sup_fr (by decide), sup_fr (by decide)]; exact h3
    · rw [sup_e]
    · rw [sup_fr (by decide)]
      show _ = if j = S.t then v else S.w j
      by_cases e : j = S.t
      · rw [e, sup_e, if_pos rfl]
      · rw [sup_i e, if_neg e]; exact h5 j (by have : j < S.t + 1 := hj; omega)
    · rw [sup_fr (by decide), sup_fr (by decide)]; exact h6
    · rw [sup_i (by decide), sup_fr (by decide)]; exact h7
    · exact Eq.trans (by unfold tbK; rw [sup_fr (by decide), sup_fr (by decide)]) (h8 z)
  · rw [if_neg c3] at h
    rw [if_pos (by omega)]
    exact m_no hS (by decide) (fun σ' a b => b_Mo_row_33 hX (h σ' a b))
theorem MS_t0 (hS : MS σ S) : MS (sup σ 39 33 0) (mS S.T S.n S.l 0 S.w S.f S.k S.K) := by
  obtain ⟨h1, h2, h3, h4, h5, h6, h7, h8⟩ := hS
  refine ⟨(tb_own (by omega)).trans h1, ?_, ?_, ?_, fun j hj => absurd hj (Nat.not_lt_zero j), ?_, ?_, fun z => ?_⟩
  · rw [sup_i (by decide)]; exact h2
  · rw [sup_fr (by decide)]; exact h3
  · rw [sup_e]; rfl
  · rw [sup_fr (by decide)]; exact h6
  · rw [sup_i (by decide)]; exact h7
  · exact Eq.trans (by unfold tbK; rw [sup_fr (by decide)]) (h8 z)
theorem y_clear (hS : MS σ S) (h : ∀ σ', MS σ' (cClear S).2 → MG σ σ' → Q (some (vI (cClear S).1)) σ') : P (d + 8) 189 [vR 39] σ Q :=
  e_Mo_clear fun X hX => b_Mo_clear_0 hX (by rw [hS.2.2.2.1]; exact h _ (MS_t0 hS) (MG_s (by decide)))
theorem y_sums {x : Int} (hS : MS σ S) (w : WS S) (h : ∀ σ', MS σ' (cSums S x).2 → MG σ σ' → Q (some (vI (cSums S x).1)) σ') : P (d + 8) 160 [vR 39, vI x] σ Q := by
  unfold cSums at h
  have hI := evn_I (lo := 0) w.1 61
  refine e_Mo_sums fun X hX => b_Mo_sums_0 hX ?_
  refine m_isIn (fun p1 p2 => b_Mo_sums_6 hX ?_) (fun p => b_Mo_sums_6 hX ?_)
  · rw [if_neg (by omega)] at h
    rw [if_neg (by decide)]
    refine m_dines (lo := 0) hS.1 w.1 (by decide) (fun σ1 f hV => b_Mo_sums_21 hX ?_)
    have g := h σ1 (MS_EM hS f) (MG_EM f)
    have hT1 := (EM_T f).trans hS.1
    by_cases c : x = 0
    · simp only [if_pos c] at g ⊢
      exact b_Mo_sums_74 hX g
    simp only [if_neg c] at g ⊢
    by_cases c : x = 1
    · simp only [if_pos c] at g ⊢
      exact m_bill hT1 w.1 hI hV.1 (b_Mo_sums_40 hX (b_Mo_sums_74 hX (by rw [if_pos (by decide)]; exact g)))
    simp only [if_neg c] at g ⊢
    by_cases c : x = 2
    · simp only [if_pos c] at g ⊢
      exact m_openedMany hT1 w.1 hI hV.1 (b_Mo_sums_52 hX (b_Mo_sums_74 hX g))
    simp only [if_neg c] at g ⊢
    by_cases c : x = 3
    · simp only [if_pos c] at g ⊢
      rw [hV.2.1.2]
      exact m_bitsM (by have := WT_r w.1; omega) (b_Mo_sums_67 hX (b_Mo_sums_74 hX g))
    simp only [if_neg c] at g ⊢
    exact m_lastOpened hT1 w.1 hV.1 (b_Mo_sums_74 hX g)
  · rw [if_pos (by omega)] at h
    rw [if_pos rfl]
    exact m_no hS (by decide) (fun σ' a b => b_Mo_sums_15 hX (h σ' a b))
theorem E2_01 (w : WT T) {lo r : Nat} (hr : r < 7) : evg T lo 2 r = 0 ∨ evg T lo 2 r = 1 := ((evn_I (lo := lo) w 61).1 r hr).2.imp id (fun z => z.1)
theorem y_of {r x : Int} (hS : MS σ S) (w : WS S) (h : ∀ σ', MS σ' (cOf S r x).2 → MG σ σ' → Q (some (vI (cOf S r x).1)) σ') : P (d + 8) 161 [vR 39, vI r, vI x] σ Q := by
  unfold cOf at h
  have hR := WT_r w.1
  refine e_Mo_of fun X hX => b_Mo_of_0 hX ?_
  refine m_isRemark hS.1 (fun p1 p2 => ?_) (fun p => ?_)
  · refine b_Mo_of_5 hX ?_
    rw [if_pos ⟨p1, p2⟩] at h
    rw [if_neg (by decide)]
    refine m_isIn (fun p3 p4 => b_Mo_of_18 hX ?_) (fun p => b_Mo_of_18 hX ?_)
    · rw [if_neg (by omega)] at h
      rw [if_neg (by decide)]
      refine m_dines (lo := 0) hS.1 w.1 (by decide) (fun σ1 f hV => b_Mo_of_43 hX ?_)
      have g := h σ1 (MS_EM hS f) (MG_EM f)
      by_cases c : x = 0
      · simp only [if_pos c] at g ⊢
        rw [(hV.1 r.toNat (by omega)).1]
        exact ⟨by omega, g⟩
      simp only [if_neg c] at g ⊢
      by_cases c : x = 1
      · simp only [if_pos c] at g ⊢
        rw [(hV.1 r.toNat (by omega)).2]
        exact ⟨by omega, g⟩
      simp only [if_neg c] at g ⊢
      rw [hV.2.1.2, show r = (r.toNat : Int) by omega, bit_nn (mk_lt31 _ (by omega)) (by omega), mk_bit, decide_eq_true (by omega), Bool.true_and]
      rcases E2_01 w.1 (lo := 0) (r := r.toNat) (by omega) with z | z
      · rw [z]
        simp only [z] at g
        exact g
      · rw [z]
        simp only [z] at g
        exact g
    · rw [if_pos (by omega)] at h
      rw [if_pos rfl]
      exact m_no hS (by decide) (fun σ' a b => b_Mo_of_37 hX (h σ' a b))
  · refine b_Mo_of_5 hX ?_
    rw [if_neg p] at h
    rw [if_pos rfl]
    exact m_no hS (by decide) (fun σ' a b => b_Mo_of_37 hX (h σ' a b))
theorem y_moodAt {g m : Int} (hS : MS σ S) (w : WS S) (h : ∀ σ', MS σ' (cMoodAt S g m).2 → MG σ σ' → Q (some (vI (cMoodAt S g m).1)) σ') : P (d + 8) 162 [vR 39, vI g, vI m] σ Q := by
  unfold cMoodAt at h
  have hG := WT_g w.1
  refine e_Mo_moodAt fun X hX => b_Mo_moodAt_0 hX ?_
  refine m_isGuest hS.1 (fun p1 p2 => ?_) (fun p => ?_)
  · refine b_Mo_moodAt_5 hX ?_
    rw [if_pos ⟨p1, p2⟩] at h
    rw [if_neg (by decide)]
    refine m_bound (b_Mo_moodAt_19 hX ?_)
    by_cases c1 : m < 0
    · rw [if_pos c1] at h
      rw [bnd_1 c1, if_neg (by decide)]
      exact m_no hS (by decide) (fun σ' a b => b_Mo_moodAt_29 hX (h σ' a b))
    rw [if_neg c1] at h
    by_cases c2 : 60 < m
    · rw [if_pos c2] at h
      rw [bnd_2 c1 c2, if_neg (by decide)]
      exact m_no hS (by decide) (fun σ' a b => b_Mo_moodAt_29 hX (h σ' a b))
    rw [if_neg c2] at h
    rw [bnd_3 c1 c2, if_pos rfl]
    refine m_dines (lo := 0) hS.1 w.1 (by decide) (fun σ1 f hV => b_Mo_moodAt_35 hX ?_)
    rw [w32_id (x := 6 * m) (by omega) (by omega), w32_id (x := 6 * m + g) (by omega) (by omega)]
    refine ⟨by omega, ?_⟩
    rw [show (6 * m + g).toNat = 6 * m.toNat + g.toNat by omega, hV.2.2.2.2 m.toNat (by omega) g.toNat (by omega)]
    exact h σ1 (MS_EM hS f) (MG_EM f)
  · refine b_Mo_moodAt_5 hX ?_
    rw [if_neg p] at h
    rw [if_pos rfl]
    refine b_Mo_moodAt_19 hX ?_
    rw [if_neg (by decide)]
    exact m_no hS (by decide) (fun σ' a b => b_Mo_moodAt_29 hX (h σ' a b))
theorem y_bill {g : Int} (hS : MS σ S) (w : WS S) (h : ∀ σ', MS σ' (cBill S g).2 → MG σ σ' → Q (some (vI (cBill S g).1)) σ') : P (d + 8) 163 [vR 39, vI g] σ Q := by
  unfold cBill at h
  have hI := evn_I (lo := 0) w.1 61
  refine e_Mo_bill fun X hX => b_Mo_bill_0 hX ?_
  refine m_isGuest hS.1 (fun p1 p2 => ?_) (fun p => ?_)
  · refine b_Mo_bill_5 hX ?_
    rw [if_pos ⟨p1, p2⟩] at h
    rw [if_neg (by decide)]
    refine m_dines (lo := 0) hS.1 w.1 (by decide) (fun σ1 f hV => b_Mo_bill_19 hX ?_)
    exact m_bill ((EM_T f).trans hS.1) w.1 hI hV.1 (b_Mo_bill_25 hX (by rw [if_neg (by omega)]; exact h σ1 (MS_EM hS f) (MG_EM f)))
  · refine b_Mo_bill_5 hX ?_
    rw [if_neg p] at h
    rw [if_pos rfl]
    exact m_no hS (by decide) (fun σ' a b => b_Mo_bill_13 hX (h σ' a b))
theorem y_without {r : Int} (hS : MS σ S) (w : WS S) (h : ∀ σ', MS σ' (cWithout S r).2 → MG σ σ' → Q (some (vI (cWithout S r).1)) σ') : P (d + 8) 164 [vR 39, vI r] σ Q := by
  unfold cWithout at h
  have hR := WT_r w.1
  refine e_Mo_without fun X hX => b_Mo_without_0 hX ?_
  refine m_isRemark hS.1 (fun p1 p2 => ?_) (fun p => ?_)
  · refine b_Mo_without_5 hX ?_
    rw [if_pos ⟨p1, p2⟩] at h
    rw [if_neg (by decide)]
    refine m_dines (lo := 0) hS.1 w.1 (by decide) (fun σ1 f hV => b_Mo_without_19 hX ?_)
    rw [show r = (r.toNat : Int) by omega, ishl_1 (by omega)]
    have h2 : 2 ^ r.toNat < 2 ^ 7 := Nat.pow_lt_pow_right (by decide) (by omega)
    refine m_dines (lo := 2 ^ r.toNat) ((EM_T f).trans hS.1) w.1 h2 (fun σ2 f2 _ => b_Mo_without_27 hX ?_)
    have b1 := md_b w.1 0
    have b2 := md_b w.1 (2 ^ r.toNat)
    rw [w32_id (by omega) (by omega)]
    exact h σ2 (MS_EM hS (EM_tr f f2)) (MG_EM (EM_tr f f2))
  · refine b_Mo_without_5 hX ?_
    rw [if_neg p] at h
    rw [if_pos rfl]
    exact m_lower hS (by decide) (fun σ' a b => b_Mo_without_13 hX (h σ' a b))
theorem y_busy {x : Int} (hS : MS σ S) (w : WS S) (h : ∀ σ', MS σ' (cBusy S x).2 → MG σ σ' → Q (some (vI (cBusy S x).1)) σ') : P (d + 8) 177 [vR 39, vI x] σ Q := by
  unfold cBusy at h
  refine e_Mo_busy fun X hX => b_Mo_busy_0 hX ?_
  refine m_isIn (fun p1 p2 => b_Mo_busy_6 hX ?_) (fun p => b_Mo_busy_6 hX ?_)
  · rw [if_neg (by decide)]
    refine m_dines (lo := 0) hS.1 w.1 (by decide) (fun σ1 f hV => b_Mo_busy_21 hX ?_)
    have g := h σ1 
    by_cases c : x = 0
    · rw [if_pos c] at g ⊢
      rw [hV.2.2.1]
      exact g (MS_EM hS f) (MG_EM f)
    rw [if_neg c, if_pos (by omega)] at g
    rw [if_neg c, hV.2.2.2.1]
    exact g (MS_EM hS f) (MG_EM f)
  · rw [if_neg (by omega), if_neg (by omega)] at h
    rw [if_pos rfl]
    exact m_no hS (by decide) (fun σ' a b => b_Mo_busy_15 hX (h σ' a b))
theorem y_judge (hS : MS σ S) (w : WS S) (h : ∀ σ', MS σ' (cJudge S).2 → MG σ σ' → Q (some (vI (cJudge S).1)) σ') : P (d + 8) 188 [vR 39] σ Q := by
  unfold cJudge at h
  have h12 := w.2.2.2.1
  have hI := evn_I (lo := 0) w.1 61
  refine e_Mo_judge fun X hX => b_Mo_judge_0 hX ?_
  rw [hS.2.2.2.1]
  have hS0 := MS_t0 hS
  refine m_dines (lo := 0) hS0.1 w.1 (by decide) (fun σ1 f hV => b_Mo_judge_15 hX ?_)
  have hS1 := MS_EM hS0 f
  have fin := h σ1 hS1 (MG_tr (MG_s (by decide)) (MG_EM f))
  have e58 : ∀ i, i < S.t → σ1 58 i = S.w i := fun i hi => by rw [f.1 58 (by omega) (by omega), sup_fr (by decide)]; exact hS.2.2.2.2.1 i hi
  have key : ∀ k i, i + k = S.t → (jdF S.T (evg S.T 0) S.w 0 S.t = jdF S.T (evg S.T 0) S.w i k) → X 18 [some (vR 39), some (vI (S.t : Int)), some (vI (i : Int))] [] σ1 := by
    intro k
    induction k with
    | zero =>
      intro i hi e
      refine b_Mo_judge_18 hX ?_
      rw [if_neg (by omega)]
      rw [e] at fin
      exact fin
    | succ k ih =>
      intro i hi e
      have e2 : jdF S.T (evg S.T 0) S.w i (k + 1) = if S.w i = opBy S.T (evg S.T 0) (5 * ((i : Int) + 1)) then jdF S.T (evg S.T 0) S.w (i + 1) k else i := rfl
      refine b_Mo_judge_18 hX ?_
      rw [if_pos (by omega), w32_id (x := 5 * (i : Int)) (by omega) (by omega), w32_id (by omega) (by omega), show 5 * (i : Int) + 5 = 5 * ((i : Int) + 1) by omega]
      refine m_openedBy (T := S.T) (E := evg S.T 0) hS1.1 w.1 hI hV.1 (b_Mo_judge_32 hX ?_)
      refine ⟨by omega, ?_⟩
      rw [Int.toNat_natCast, e58 i (by omega)]
      by_cases c : S.w i = opBy S.T (evg S.T 0) (5 * ((i : Int) + 1))
      · rw [if_pos c.symm, w32_s i (by omega)]
        rw [if_pos c] at e2
        exact ih (i + 1) (by omega) (e.trans e2)
      · rw [if_neg (fun z => c z.symm)]
        rw [if_neg c] at e2
        rw [e, e2] at fin
        exact fin
  exact key S.t 0 (by omega) rfl
end FM
