/-! Who, haggle, lots, count on the model's side. -/
def MF (σ σ' : Sto) : Prop := (∀ c, c ≠ 39 → (c < 53 ∨ c = 58 ∨ 62 < c) → σ' c = σ c) ∧ ∀ j, (j < 28 ∨ 31 < j) → σ' 39 j = σ 39 j
theorem MF_r (σ : Sto) : MF σ σ := ⟨fun _ _ _ => rfl, fun _ _ => rfl⟩
theorem MF_EM {σ σ' : Sto} (f : EM σ σ') : MF σ σ' := ⟨fun c a b => f.1 c a (by omega), f.2⟩
theorem MF_tr {σ σ1 σ2 : Sto} (h : MF σ σ1) (h2 : MF σ1 σ2) : MF σ σ2 := ⟨fun c a b => (h2.1 c a b).trans (h.1 c a b), fun j a => (h2.2 j a).trans (h.2 j a)⟩
theorem MF_c {σ : Sto} {c i : Nat} {v : Int} (h : 59 ≤ c ∧ c ≤ 62) : MF σ (sup σ c i v) := ⟨fun c' _ _ => sup_fr (by omega), fun j _ => by rw [sup_fr (by omega)]⟩
theorem MF_T {σ σ' : Sto} (h : MF σ σ') : tb σ' 39 = tb σ 39 := by
  funext k' j
  simp only [tb]
  by_cases h1 : k' < 7
  · simp only [if_pos h1, h.1 (39 + 1 + k') (by omega) (by omega)]
  · simp only [if_neg h1]
    by_cases h2 : k' < 11
    · rw [h.2 k' (by omega)]
    · simp only [if_neg h2]
theorem MG_MF {σ σ' : Sto} (f : MF σ σ') : MG σ σ' := fun c hc => f.1 c (by omega) (by omega)
theorem MS_MF {σ σ' : Sto} {S : AS} (hS : MS σ S) (f : MF σ σ') : MS σ' S := by
  obtain ⟨h1, h2, h3, h4, h5, h6, h7, h8⟩ := hS
  refine ⟨(MF_T f).trans h1, ?_, ?_, ?_, ?_, ?_, ?_, fun z => ?_⟩
  · rw [f.2 16 (by omega)]; exact h2
  · rw [f.1 48 (by omega) (by omega)]; exact h3
  · rw [f.2 33 (by omega)]; exact h4
  · rw [f.1 58 (by omega) (by omega)]; exact h5
  · rw [f.1 47 (by omega) (by omega)]; exact h6
  · rw [f.2 20 (by omega)]; exact h7
  · exact Eq.trans (by unfold tbK; rw [f.1 52 (by omega) (by omega)]) (h8 z)
section FP
variable {d : Nat} {σ : Sto} {Q : PQ} {S : AS} {T : Tab}
theorem m_isSo {g n : Nat} {row : Nat → Int} (hT : tb σ 39 = T) (w : WT T) (hg : g < gN T) (hn : n ≤ 12) (h33 : σ 39 33 = (n : Int)) (hrow : ∀ k, k < n → σ 58 k = row k)
    (h1 : asT T g row n = true → ∀ σ', EM σ σ' → Q (some (vI 1)) σ') (h0 : asT T g row n = false → ∀ σ', EM σ σ' → Q (some (vI 0)) σ') : P (d + 5) 178 [vR 39, vI (g : Int)] σ Q := by
  have hG := WT_g w
  refine e_Mo_isSo fun X hX => b_Mo_isSo_0 hX ?_
  refine m_dines (lo := 0) hT w (by decide) (fun σ1 f hV => b_Mo_isSo_5 hX ?_)
  refine upto (p := fun i => (∀ k, k < i → evn T 0 (k + 1) 3 g = row k) → X 8 [some (vR 39), some (vI (g : Int)), some (vI (i : Int))] [] σ1) n (fun i hi ih hp => ?_) ?_ (fun k hk => absurd hk (by omega))
  · refine b_Mo_isSo_8 hX ?_
    rw [f.2 33 (by omega), h33, if_pos (by omega), w32_id (x := 6 * (i : Int)) (by omega) (by omega), w32_id (x := 6 * (i : Int) + (g : Int)) (by omega) (by omega)]
    refine ⟨by omega, by omega, ?_⟩
    rw [show (6 * (i : Int) + (g : Int)).toNat = 6 * i + g by omega, Int.toNat_natCast, hV.2.2.2.2 i (by omega) g hg, f.1 58 (by omega) (by omega), hrow i hi, w32_s i (by omega)]
    by_cases hc : evn T 0 (i + 1) 3 g = row i
    · rw [if_pos hc]
      exact ih (fun k hk => by
        by_cases e : k = i
        · rw [e]; exact hc
        · exact hp k (by omega))
    · rw [if_neg hc]
      refine h0 ?_ σ1 f
      unfold asT
      refine decide_eq_false (fun z => ?_)
      have := cnt_0.mp z i hi
      simp only [decide_eq_false_iff_not, Classical.not_not] at this
      exact hc this
  · intro hp
    refine b_Mo_isSo_8 hX ?_
    rw [f.2 33 (by omega), h33, if_neg (by omega)]
    refine h1 ?_ σ1 f
    unfold asT
    exact decide_eq_true (cnt_0.mpr (fun i hi => by simp [hp i hi]))
theorem y_who {g r x : Int} (hS : MS σ S) (w : WS S) (h : ∀ σ', MS σ' (cWho S g r x).2 → MG σ σ' → Q (some (vI (cWho S g r x).1)) σ') : P (d + 8) 179 [vR 39, vI g, vI r, vI x] σ Q := by
  unfold cWho at h
  have hG := WT_g w.1
  have hR := WT_r w.1
  refine e_Mo_who fun X hX => b_Mo_who_0 hX ?_
  refine m_isGuest hS.1 (fun p1 p2 => ?_) (fun p => ?_)
  · refine b_Mo_who_5 hX ?_
    rw [if_neg (by decide)]
    refine m_isRemark hS.1 (fun p3 p4 => ?_) (fun p => ?_)
    · refine b_Mo_who_13 hX ?_
      rw [if_pos ⟨⟨p1, p2⟩, ⟨p3, p4⟩⟩] at h
      rw [if_neg (by decide)]
      refine m_isIn (fun p5 p6 => b_Mo_who_26 hX ?_) (fun p => b_Mo_who_26 hX ?_)
      · rw [if_neg (by decide)]
        obtain ⟨q, rfl⟩ : ∃ q : Nat, r = (q : Int) := ⟨r.toNat, by omega⟩
        obtain ⟨e, rfl⟩ : ∃ q : Nat, g = (q : Int) := ⟨g.toNat, by omega⟩
        rw [Int.toNat_natCast, Int.toNat_natCast] at h
        refine ⟨by omega, ?_⟩
        rw [Int.toNat_natCast, show σ 42 q = S.T 2 q from a2 hS.1 (by omega), show σ 45 q = S.T 5 q from a5 hS.1 (by omega)]
        have back : ∀ σi : Sto, EB σ σi → sup (sup (tb σi 39) 2 q (S.T 2 q)) 5 q (S.T 5 q) = S.T → MS (sup (sup σi 42 q (S.T 2 q)) 45 q (S.T 5 q)) S ∧ MG σ (sup (sup σi 42 q (S.T 2 q)) 45 q (S.T 5 q)) := by
          intro σi f hb
          have f2 := EB_tr (EB_tr f (EB_c (σ := σi) (c := 42) (i := q) (v := S.T 2 q) (by omega))) (EB_c (c := 45) (i := q) (v := S.T 5 q) (by omega))
          refine ⟨MS_back hS ?_ f2.1 f2.2, MG_EB f2⟩
          rw [show (45 : Nat) = 39 + 6 from rfl, ts5 (by omega), show (42 : Nat) = 39 + 3 from rfl, ts2 (by omega)]
          exact hb
        by_cases c0 : x = 0
        · rw [if_pos c0] at h
          refine upto (p := fun i => ∀ σi : Sto, (∀ v, sup (tb σi 39) 2 q v = sup S.T 2 q v) → EB σ σi → X 71 [some (vR 39), some (vI (e : Int)), some (vI (q : Int)), some (vI x), none, some (vI (S.T 2 q)), some (vI (S.T 5 q)), some (vI (mk (fun v => asT (sup S.T 2 q v) e S.w S.t) i : Int)), some (vI (i : Int))] [] σi) 6 (fun i hi ih => ?_) ?_ σ (fun v => by rw [hS.1]) (EB_r σ)
          · intro σi k1 k2
            refine b_Mo_who_71 hX ?_
            rw [if_pos c0, if_pos (by omega)]
            refine ⟨by omega, ?_⟩
            rw [Int.toNat_natCast]
            have hT2 : tb (sup σi 42 q i) 39 = sup S.T 2 q i := by
              rw [show (42 : Nat) = 39 + 3 from rfl, ts2 (by omega), k1]
            have wT2 : WT (sup S.T 2 q i) := WT_2 w.1 (by omega)
            have ho := orB (p := fun v => asT (sup S.T 2 q v) e S.w S.t) (i := i) (by omega)
            have f2 : EB σ (sup σi 42 q i) := EB_tr k2 (EB_c (by omega))
            have fin : ∀ σ', EM (sup σi 42 q i) σ' → X 71 [some (vR 39), some (vI (e : Int)), some (vI (q : Int)), some (vI x), none, some (vI (S.T 2 q)), some (vI (S.T 5 q)), some (vI (mk (fun v => asT (sup S.T 2 q v) e S.w S.t) (i + 1) : Int)), some (vI ((i + 1 : Nat) : Int))] [] σ' := fun σ' f => ih σ' (fun v => by rw [EM_T f, hT2, sup_sup]) (EB_tr f2 (EB_EM f))
            refine m_isSo (row := S.w) hT2 wT2 (by show e < gN S.T; omega) w.2.2.2.1 (by rw [f2.2 33 (by omega) (by omega)]; exact hS.2.2.2.1) (fun k hk => by rw [f2.1 58 (by omega) (by omega)]; exact hS.2.2.2.2.1 k hk) (fun ha σ' f => b_Mo_who_117 hX ?_) (fun ha σ' f => b_Mo_who_117 hX ?_)
            · rw [if_neg (by decide), ishl_1 (by omega), w32_s i (by omega)]
              rw [if_pos ha] at ho
              rw [ho]; exact fin σ' f
            · rw [if_pos rfl, w32_s i (by omega)]
              rw [if_neg (by rw [ha]; decide)] at ho
              rw [ho]; exact fin σ' f
          · intro σi k1 k2
            refine b_Mo_who_71 hX ?_
            rw [if_pos c0, if_neg (by decide)]
            refine ⟨by omega, ?_⟩
            rw [Int.toNat_natCast]
            have hb := back σi k2 (by rw [k1, sup_self, sup_self])
            exact h _ hb.1 hb.2
        · rw [if_neg c0, if_pos (by omega)] at h
          refine upto (p := fun i => ∀ σi : Sto, (∀ v, sup (tb σi 39) 5 q v = sup S.T 5 q v) → EB σ σi → X 71 [some (vR 39), some (vI (e : Int)), some (vI (q : Int)), some (vI x), none, some (vI (S.T 2 q)), some (vI (S.T 5 q)), some (vI (mk (fun v => asT (sup S.T 5 q v) e S.w S.t) i : Int)), some (vI (i : Int))] [] σi) 8 (fun i hi ih => ?_) ?_ σ (fun v => by rw [hS.1]) (EB_r σ)
          · intro σi k1 k2
            refine b_Mo_who_71 hX ?_
            rw [if_neg c0, if_pos (by omega)]
            refine ⟨by omega, ?_⟩
            rw [Int.toNat_natCast]
            have hT2 : tb (sup σi 45 q i) 39 = sup S.T 5 q i := by
              rw [show (45 : Nat) = 39 + 6 from rfl, ts5 (by omega), k1]
            have wT2 : WT (sup S.T 5 q i) := WT_5 w.1 (by omega)
            have ho := orB (p := fun v => asT (sup S.T 5 q v) e S.w S.t) (i := i) (by omega)
            have f2 : EB σ (sup σi 45 q i) := EB_tr k2 (EB_c (by omega))
            have fin : ∀ σ', EM (sup σi 45 q i) σ' → X 71 [some (vR 39), some (vI (e : Int)), some (vI (q : Int)), some (vI x), none, some (vI (S.T 2 q)), some (vI (S.T 5 q)), some (vI (mk (fun v => asT (sup S.T 5 q v) e S.w S.t) (i + 1) : Int)), some (vI ((i + 1 : Nat) : Int))] [] σ' := fun σ' f => ih σ' (fun v => by rw [EM_T f, hT2, sup_sup]) (EB_tr f2 (EB_EM f))
            refine m_isSo (row := S.w) hT2 wT2 (by show e < gN S.T; omega) w.2.2.2.1 (by rw [f2.2 33 (by omega) (by omega)]; exact hS.2.2.2.1) (fun k hk => by rw [f2.1 58 (by omega) (by omega)]; exact hS.2.2.2.2.1 k hk) (fun ha σ' f => b_Mo_who_117 hX ?_) (fun ha σ' f => b_Mo_who_117 hX ?_)
            · rw [if_neg (by decide), ishl_1 (by omega), w32_s i (by omega)]
              rw [if_pos ha] at ho
              rw [ho]; exact fin σ' f
            · rw [if_pos rfl, w32_s i (by omega)]
              rw [if_neg (by rw [ha]; decide)] at ho
              rw [ho]; exact fin σ' f
          · intro σi k1 k2
            refine b_Mo_who_71 hX ?_
            rw [if_neg c0, if_neg (by decide)]
            refine ⟨by omega, ?_⟩
            rw [Int.toNat_natCast]
            have e2 : sup (tb σi 39) 2 q (S.T 2 q) = tb σi 39 := by
              have := congrFun (congrFun (k1 0) 2) q
              rw [sup_c (by decide), sup_c (by decide)] at this
              rw [← this, sup_self]
            have hb := back σi k2 (by rw [e2, k1, sup_self])
            exact h _ hb.1 hb.2
      · rw [if_neg (by omega), if_neg (by omega)] at h
        rw [if_pos rfl]
        exact m_no hS (by decide) (fun σ' a b => b_Mo_who_48 hX (h σ' a b))
    · refine b_Mo_who_13 hX ?_
      rw [if_neg (fun z => p z.2)] at h
      rw [if_pos rfl]
      exact m_no hS (by decide) (fun σ' a b => b_Mo_who_48 hX (h σ' a b))
  · refine b_Mo_who_5 hX ?_
    rw [if_neg (fun z => p z.1)] at h
    rw [if_pos rfl]
    exact m_no hS (by decide) (fun σ' a b => b_Mo_who_48 hX (h σ' a b))
theorem m_rests {a b k : Nat} (hk : k < 4) (h59 : ∀ i, i < 4 → σ 59 i = wor T a (hgM T a b i)) (h60 : ∀ i, i < 4 → σ 60 i = wor T b (hgM T a b i)) (h1 : hgR T a b k = true → Q (some (vI 1)) σ) (h0 : hgR T a b k = false → Q (some (vI 0)) σ) : P (d + 1) 181 [vR 39, vI (k : Int)] σ Q := by
  have x2 : k ^^^ 2 < 4 := Nat.xor_lt_two_pow (n := 2) hk (by decide)
  have x1 : k ^^^ 1 < 4 := Nat.xor_lt_two_pow (n := 2) hk (by decide)
  refine e_Mo_rests fun X hX => b_Mo_rests_0 hX ?_
  rw [show (2 : Int) = ((2 : Nat) : Int) from rfl, ixor_nn (a := k) (b := 2) (by omega) (by omega), show (1 : Int) = ((1 : Nat) : Int) from rfl, ixor_nn (a := k) (b := 1) (by omega) (by omega)]
  refine ⟨by omega, by omega, ?_⟩
  rw [Int.toNat_natCast, Int.toNat_natCast, Int.toNat_natCast, h59 k hk, h59 _ x2, h60 k hk, h60 _ x1]
  by_cases c1 : wor T a (hgM T a b k) < wor T a (hgM T a b (k ^^^ 2))
  · rw [if_pos c1]
    exact h0 (by unfold hgR; rw [decide_eq_false (by omega)]; rfl)
  · rw [if_neg c1]
    refine ⟨by omega, ?_⟩
    by_cases c2 : wor T b (hgM T a b k) < wor T b (hgM T a b (k ^^^ 1))
    · rw [if_pos c2]
      exact h0 (by unfold hgR; rw [decide_eq_false (p := wor T b _ ≤ _) (by omega), Bool.and_false])
    · rw [if_neg c2]
      exact h1 (by unfold hgR; rw [decide_eq_true (by omega), decide_eq_true (by omega)]; rfl)
theorem y_haggle {a b : Int} (hS : MS σ S) (w : WS S) (h : ∀ σ', MS σ' (cHaggle S a b).2 → MG σ σ' → Q (some (vI (cHaggle S a b).1)) σ') : P (d + 8) 182 [vR 39, vI a, vI b] σ Q := by
  unfold cHaggle at h
  have hG := WT_g w.1
  refine e_Mo_haggle fun X hX => b_Mo_haggle_0 hX ?_
  refine m_areTwo hS.1 (fun p1 p2 p3 p4 p5 => ?_) (fun p => ?_)
  · refine b_Mo_haggle_6 hX ?_
    rw [if_pos ⟨⟨p1, p2⟩, ⟨p3, p4⟩, p5⟩] at h
    rw [if_neg (by decide)]
    obtain ⟨u, rfl⟩ : ∃ q : Nat, a = (q : Int) := ⟨a.toNat, by omega⟩
    obtain ⟨v, rfl⟩ : ∃ q : Nat, b = (q : Int) := ⟨b.toNat, by omega⟩
    rw [Int.toNat_natCast, Int.toNat_natCast] at h
    have hu : u < gN S.T := by omega
    have hv : v < gN S.T := by omega
    have bA := brB_b w.1 u
    have bB := brB_b w.1 v
    have hM : ∀ k, hgM S.T u v k < 2 ^ 7 := fun k => by
      unfold hgM
      exact Nat.or_lt_two_pow (by split <;> omega) (by split <;> omega)
    have go : ∀ (k : Nat) (σi : Sto), k < 4 → MF σ σi → (∀ i, i < k → σi 59 i = wor S.T u (hgM S.T u v i)) → (∀ i, i < k → σi 60 i = wor S.T v (hgM S.T u v i)) →
        (∀ σ', MF σ σ' → (∀ i, i < k + 1 → σ' 59 i = wor S.T u (hgM S.T u v i)) → (∀ i, i < k + 1 → σ' 60 i = wor S.T v (hgM S.T u v i)) → X 17 [some (vR 39), some (vI (u : Int)), some (vI (v : Int)), some (vI ((k + 1 : Nat) : Int))] [] σ') →
        P (d + 7) 149 [vR 39, vI (hgM S.T u v k : Int)] σi (fun r σ' => X 59 [some (vR 39), some (vI (u : Int)), some (vI (v : Int)), some (vI (k : Int))] (psh r []) σ') := by
      intro k σi hk f q1 q2 g
      have hTi := (MF_T f).trans hS.1
      refine m_dines hTi w.1 (hM k) (fun σ1 f1 hV => b_Mo_haggle_59 hX ?_)
      have hT1 := (EM_T f1).trans hTi
      have hI := evn_I (lo := hgM S.T u v k) w.1 61
      have wa := wor_b w.1 (g := u) (by omega) (hgM S.T u v k)
      have wb := wor_b w.1 (g := v) (by omega) (hgM S.T u v k)
      refine ⟨by omega, ?_⟩
      rw [Int.toNat_natCast]
      refine m_bill (E := evg S.T (hgM S.T u v k)) hT1 w.1 hI hV.1 (b_Mo_haggle_76 hX ?_)
      refine ⟨by omega, by omega, ?_⟩
      rw [if_neg (show ¬ (u : Int) < 0 by omega), Int.toNat_natCast, Int.toNat_natCast, hV.2.1.1 u hu]
      rw [show evg S.T (hgM S.T u v k) 3 u - bilG S.T (evg S.T (hgM S.T u v k)) (u : Int) = wor S.T u (hgM S.T u v k) from rfl, w32_id (by omega) (by omega)]
      have f2 : MF σ1 (sup σ1 59 k (wor S.T u (hgM S.T u v k))) := MF_c (by omega)
      refine m_bill (E := evg S.T (hgM S.T u v k)) ((MF_T f2).trans hT1) w.1 hI (fun r hr => by rw [sup_fr (by decide), sup_fr (by decide)]; exact hV.1 r hr) (b_Mo_haggle_94 hX ?_)
      refine ⟨by omega, ?_⟩
      rw [if_neg (show ¬ (v : Int) < 0 by omega), Int.toNat_natCast, hV.2.1.1 v hv]
      rw [show evg S.T (hgM S.T u v k) 3 v - bilG S.T (evg S.T (hgM S.T u v k)) (v : Int) = wor S.T v (hgM S.T u v k) from rfl, w32_id (x := wor S.T v (hgM S.T u v k)) (by omega) (by omega), w32_s k (by omega)]
      refine g _ (MF_tr (MF_tr (MF_tr f (MF_EM f1)) f2) (MF_c (by omega))) (fun i hi => ?_) (fun i hi => ?_)
      · rw [sup_fr (by decide)]
        by_cases e : i = k
        · subst e; rw [sup_e]
        · rw [sup_i e, f1.1 59 (by omega) (by omega)]; exact q1 i (by omega)
      · by_cases e : i = k
        · subst e; rw [sup_e]
        · rw [sup_i e, sup_fr (by decide), f1.1 60 (by omega) (by omega)]; exact q2 i (by omega)
    have e0 : (hgM S.T u v 0 : Int) = ior 0 0 := by
      have : hgM S.T u v 0 = 0 ||| 0 := rfl
      rw [this]
      decide +kernel
    have e1 : (hgM S.T u v 1 : Int) = ior 0 (brB S.T v : Int) := by
      rw [show (0 : Int) = ((0 : Nat) : Int) from rfl, ior_nn (by omega) (by omega)]; rfl
    have e2 : (hgM S.T u v 2 : Int) = ior (brB S.T u : Int) 0 := by
      rw [show (0 : Int) = ((0 : Nat) : Int) from rfl, ior_nn (by omega) (by omega)]; rfl
    have e3 : (hgM S.T u v 3 : Int) = ior (brB S.T u : Int) (brB S.T v : Int) := by
      rw [ior_nn (by omega) (by omega)]; rfl
    refine b_Mo_haggle_17 hX ?_
    rw [if_pos (by decide), if_neg (by decide), if_neg (by decide), ← e0]
    refine go 0 σ (by decide) (MF_r σ) (fun i hi => absurd hi (by omega)) (fun i hi => absurd hi (by omega)) (fun σ1 f1 q1 r1 => b_Mo_haggle_17 hX ?_)
    rw [if_pos (by decide), if_neg (by decide), if_pos (by decide)]
    refine m_broughtBy ((MF_T f1).trans hS.1) w.1 (b_Mo_haggle_51 hX ?_)
    rw [← e1]
    refine go 1 σ1 (by decide) f1 q1 r1 (fun σ2 f2 q2 r2 => b_Mo_haggle_17 hX ?_)
    rw [if_pos (by decide), if_pos (by decide)]
    refine m_broughtBy ((MF_T f2).trans hS.1) w.1 (b_Mo_haggle_35 hX ?_)
    rw [if_neg (by decide), ← e2]
    refine go 2 σ2 (by decide) f2 q2 r2 (fun σ3 f3 q3 r3 => b_Mo_haggle_17 hX ?_)
    rw [if_pos (by decide), if_pos (by decide)]
    refine m_broughtBy ((MF_T f3).trans hS.1) w.1 (b_Mo_haggle_35 hX ?_)
    rw [if_pos (by decide)]
    refine m_broughtBy ((MF_T f3).trans hS.1) w.1 (b_Mo_haggle_51 hX ?_)
    rw [← e3]
    refine go 3 σ3 (by decide) f3 q3 r3 (fun σ4 f4 q4 r4 => b_Mo_haggle_17 hX ?_)
    rw [if_neg (by decide)]
    have h' := h σ4 (MS_MF hS f4) (MG_MF f4)
    unfold hgF at h'
    refine b_Mo_haggle_104 hX ?_
    rw [if_pos (by decide)]
    refine m_rests (k := 0) (by decide) q4 r4 (fun c => b_Mo_haggle_114 hX ?_) (fun c0 => b_Mo_haggle_114 hX ?_)
    · rw [if_pos c] at h'
      rw [if_neg (by decide)]
      exact h'
    rw [if_neg (by rw [c0]; decide)] at h'
    rw [if_pos rfl]
    refine b_Mo_haggle_104 hX ?_
    rw [if_pos (by decide)]
    refine m_rests (k := 1) (by decide) q4 r4 (fun c => b_Mo_haggle_114 hX ?_) (fun c0 => b_Mo_haggle_114 hX ?_)
    · rw [if_pos c] at h'
      rw [if_neg (by decide)]
      exact h'
    rw [if_neg (by rw [c0]; decide)] at h'
    rw [if_pos rfl]
    refine b_Mo_haggle_104 hX ?_
    rw [if_pos (by decide)]
    refine m_rests (k := 2) (by decide) q4 r4 (fun c => b_Mo_haggle_114 hX ?_) (fun c0 => b_Mo_haggle_114 hX ?_)
    · rw [if_pos c] at h'
      rw [if_neg (by decide)]
      exact h'
    rw [if_neg (by rw [c0]; decide)] at h'
    rw [if_pos rfl]
    refine b_Mo_haggle_104 hX ?_
    rw [if_pos (by decide)]
    refine m_rests (k := 3) (by decide) q4 r4 (fun c => b_Mo_haggle_114 hX ?_) (fun c0 => b_Mo_haggle_114 hX ?_)
    · rw [if_pos c] at h'
      rw [if_neg (by decide)]
      exact h'
    rw [if_neg (by rw [c0]; decide)] at h'
    rw [if_pos rfl]
    refine b_Mo_haggle_104 hX ?_
    rw [if_neg (by decide)]
    exact h'
  · refine b_Mo_haggle_6 hX ?_
    rw [if_neg p] at h
    rw [if_pos rfl]
    exact m_no hS (by decide) (fun σ' a b => b_Mo_haggle_14 hX (h σ' a b))
theorem y_lots {n z x : Int} (hS : MS σ S) (w : WS S) (h : ∀ σ', MS σ' (cLots S n z x).2 → MG σ σ' → Q (some (vI (cLots S n z x).1)) σ') : P (d + 8) 190 [vR 39, vI n, vI z, vI x] σ Q := by
  unfold cLots at h
  have hR := WT_r w.1
  refine e_Mo_lots fun X hX => b_Mo_lots_0 hX ?_
  refine m_bound (b_Mo_lots_7 hX ?_)
  by_cases c1 : n < 1
  · rw [if_pos c1] at h
    rw [bnd_1 c1, if_neg (by decide)]
    exact m_no hS (by decide) (fun σ' a b => b_Mo_lots_38 hX (h σ' a b))
  rw [if_neg c1] at h
  by_cases c2 : 20 < n
  · rw [if_pos c2] at h
    rw [bnd_2 c1 c2, if_neg (by decide)]
    exact m_no hS (by decide) (fun σ' a b => b_Mo_lots_38 hX (h σ' a b))
  rw [if_neg c2] at h
  rw [bnd_3 c1 c2, if_pos rfl]
  refine m_isIn (fun p1 p2 => b_Mo_lots_20 hX ?_) (fun p => b_Mo_lots_20 hX ?_)
  · have hx : x = 0 ∨ x = 1 := by omega
    rw [if_pos hx] at h
    rw [if_neg (by decide), if_pos rfl]
    obtain ⟨N, rfl⟩ : ∃ q : Nat, n = (q : Int) := ⟨n.toNat, by omega⟩
    rw [Int.toNat_natCast] at h
    refine m_keep (b := 1) (by decide) (fun σk g1 g2 g3 g4 g5 => b_Mo_lots_45 hX ?_)
    have hTk : tb σk 39 = S.T := g2.trans hS.1
    refine upto (p := fun i => ∀ σi : Sto, tb σi 39 = (ltO S.T z i).2 → EB σk σi → X 57 [some (vR 39), some (vI (N : Int)), none, some (vI x), none, some (vI (ltO S.T z i).1), some (vI (ltS S.T z 0 i)), some (vI (ltS S.T z 1 i)), some (vI (i : Int)), none] [] σi) N (fun i hi ih => ?_) ?_ σk hTk (EB_r σk)
    · intro σi hi1 fi
      refine b_Mo_lots_57 hX ?_
      rw [if_pos (by omega)]
      have wO := ltO_W w.1 (z := z) i
      have e8 : ∀ k, (ltI k (ltO S.T z i)).2 8 0 = S.T 8 0 := fun k => (ltI_7 (by decide) k 0).trans (ltO_7 (by decide) i 0)
      refine upto (p := fun k => ∀ σj : Sto, tb σj 39 = (ltI k (ltO S.T z i)).2 → EB σk σj → X 66 [some (vR 39), some (vI (N : Int)), none, some (vI x), none, some (vI (ltI k (ltO S.T z i)).1), some (vI (ltS S.T z 0 i)), some (vI (ltS S.T z 1 i)), some (vI (i : Int)), some (vI (k : Int))] [] σj) (rN S.T) (fun k hk ihk => ?_) ?_ σi hi1 fi
      · intro σj hj1 fj
        refine b_Mo_lots_66 hX ?_
        rw [show σj 39 8 = S.T 8 0 from (b8 hj1).trans (e8 k), if_pos (by omega)]
        refine ⟨by omega, ?_⟩
        rw [Int.toNat_natCast, w32_s k (by omega)]
        refine ihk _ ?_ (EB_tr fj (EB_c (by omega)))
        rw [show (46 : Nat) = 39 + 7 from rfl, ts6 (by omega), hj1]
        rfl
      · intro σj hj1 fj
        refine b_Mo_lots_66 hX ?_
        rw [show σj 39 8 = S.T 8 0 from (b8 hj1).trans (e8 _), if_neg (by omega)]
        have wI : WT (ltO S.T z (i + 1)).2 := ltO_W w.1 (i + 1)
        have hj2 : tb σj 39 = (ltO S.T z (i + 1)).2 := hj1
        refine m_dines (lo := 0) hj2 wI (by decide) (fun σ2 f2 hV => b_Mo_lots_120 hX ?_)
        have fin := ih σ2 ((EM_T f2).trans hj2) (EB_tr fj (EB_EM f2))
        have hb0 := ltS_b w.1 z 0 i
        have hb1 := ltS_b w.1 z 1 i
        have hv0 := ltV_b wI 0
        have hv1 := ltV_b wI 1
        have e0 : ltS S.T z 0 (i + 1) = ltS S.T z 0 i + ltV 0 (ltO S.T z (i + 1)).2 := rfl
        have e1 : ltS S.T z 1 (i + 1) = ltS S.T z 1 i + ltV 1 (ltO S.T z (i + 1)).2 := rfl
        have v0 : ltV 0 (ltO S.T z (i + 1)).2 = md (ltO S.T z (i + 1)).2 0 := rfl
        have v1 : ltV 1 (ltO S.T z (i + 1)).2 = sbN (ltO S.T z (i + 1)).2 (evg (ltO S.T z (i + 1)).2 0) := rfl
        rw [hV.2.1.2, ← v0, w32_id (by omega) (by omega), ← e0]
        refine m_bitsM (by have := (WT_r wI).2; omega) (b_Mo_lots_132 hX ?_)
        rw [show cnt (fun q => decide (evg (ltO S.T z (i + 1)).2 0 2 q = 1)) (rN (ltO S.T z (i + 1)).2) = ltV 1 (ltO S.T z (i + 1)).2 from v1.symm, w32_s i (by omega), w32_id (by omega) (by omega), ← e1]
        exact fin
    · intro σi hi1 fi
      refine b_Mo_lots_57 hX ?_
      rw [if_neg (by omega)]
      refine m_putback (b := 1) (by decide) (fun σ2 q1 q2 q3 => b_Mo_lots_147 hX ?_)
      have hT2 : tb σ2 39 = S.T := by
        rw [q1]
        have : tbK σi (55 * 1) = tbK σk (55 * 1) := by unfold tbK; rw [fi.1 52 (by omega) (by omega)]
        rw [this, g1, hS.1]
      have fin : MS σ2 S := by
        obtain ⟨h1, h2, h3, h4, h5, h6, h7, h8⟩ := hS
        refine ⟨hT2, ?_, ?_, ?_, ?_, ?_, ?_, fun zz => ?_⟩
        · rw [q3 16 (by decide) (by decide) (by decide), fi.2 16 (by omega) (by omega), g5 16 (by decide) (by decide)]; exact h2
        · rw [q2 48 (Or.inr (by decide)), fi.1 48 (by omega) (by omega), g4 48 (by decide) (by decide)]; exact h3
        · rw [q3 33 (by decide) (by decide) (by decide), fi.2 33 (by omega) (by omega), g5 33 (by decide) (by decide)]; exact h4
        · rw [q2 58 (Or.inr (by decide)), fi.1 58 (by omega) (by omega), g4 58 (by decide) (by decide)]; exact h5
        · rw [q2 47 (Or.inr (by decide)), fi.1 47 (by omega) (by omega), g4 47 (by decide) (by decide)]; exact h6
        · rw [q3 20 (by decide) (by decide) (by decide), fi.2 20 (by omega) (by omega), g5 20 (by decide) (by decide)]; exact h7
        · rw [← h8 zz]
          have e52 : σ2 52 = σk 52 := by rw [q2 52 (Or.inr (by decide)), fi.1 52 (by omega) (by omega)]
          funext k j
          simp only [tbK, e52]
          by_cases k7 : k < 7
          · simp only [if_pos k7]
            by_cases hj : j < tl k
            · have := kof_b (k := k) (by omega)
              rw [if_pos k7] at this
              rw [if_pos hj, if_pos hj, g3 _ (by omega)]
            · rw [if_neg hj, if_neg hj]
          · simp only [if_neg k7]
            by_cases k11 : k < 11
            · have := kof_b (k := k) k11
              rw [if_neg k7] at this
              simp only [if_pos k11]
              rw [g3 _ (by omega)]
            · simp only [if_neg k11]
      have fg : MG σ σ2 := fun c hc => by rw [q2 c (by unfold out; omega), fi.1 c (by omega) (by omega), g4 c (by omega) (by omega)]
      have h' := h σ2 fin fg
      rcases hx with rfl | rfl
      · rw [if_pos rfl]; exact h'
      · rw [if_neg (by decide)]; exact h'
  · rw [if_neg (by omega)] at h
    rw [if_pos rfl]
    exact m_no hS (by decide) (fun σ' a b => b_Mo_lots_38 hX (h σ' a b))
theorem y_count {x : Int} (hS : MS σ S) (w : WS S) (h : ∀ σ', MS σ' (cCount S x).2 → MG σ σ' → Q (some (vI (cCount S x).1)) σ') : P (d + 8) 191 [vR 39, vI x] σ Q := by
  unfold cCount at h
  have hG := WT_g w.1
  have hR := WT_r w.1
  refine e_Mo_count fun X hX => b_Mo_count_0 hX ?_
  refine m_isIn (fun p1 p2 => b_Mo_count_8 hX ?_) (fun p => b_Mo_count_8 hX ?_)
  · rw [if_pos ⟨p1, p2⟩] at h
    rw [if_neg (by decide), w32_id (by omega) (by omega)]
    refine ⟨by omega, ?_⟩
    rw [hS.2.2.2.2.2.1 _ (by omega)]
    exact h σ hS (MG_r σ)
  · rw [if_neg p] at h
    have g := h σ hS (MG_r σ)
    rw [if_pos rfl]
    by_cases c : x = 0
    · simp only [if_pos c] at g ⊢
      rw [b7 hS.1]; exact g
    simp only [if_neg c] at g ⊢
    by_cases c : x = 1
    · simp only [if_pos c] at g ⊢
      rw [b8 hS.1]; exact g
    simp only [if_neg c] at g ⊢
    by_cases c : x = 2
    · simp only [if_pos c] at g ⊢
      rw [b9 hS.1]; exact g
    simp only [if_neg c] at g ⊢
    by_cases c : x = 3
    · simp only [if_pos c] at g ⊢
      rw [b10 hS.1]; exact g
    simp only [if_neg c] at g ⊢
    by_cases c : x = 4
    · simp only [if_pos c] at g ⊢
      refine upto (p := fun i => X 94 [some (vR 39), none, some (vI (sm (S.T 1) i)), some (vI (i : Int))] [] σ) (gN S.T) (fun i hi ih => ?_) ?_
      · refine b_Mo_count_94 hX ?_
        have hb := sm_le (f := S.T 1) (c := 40) (n := i) (fun k hk => (w.1.2.2.2.2.1 k (by omega)).2.2)
        have hb2 := sm_ge (f := S.T 1) (n := i) (fun k hk => (w.1.2.2.2.2.1 k (by omega)).2.1)
        have hi2 := (w.1.2.2.2.2.1 i (by omega)).2
        rw [b7 hS.1, if_pos (by omega)]
        refine ⟨by omega, ?_⟩
        rw [Int.toNat_natCast, show σ 41 i = S.T 1 i from a1 hS.1 (by omega), w32_s i (by omega), w32_id (by omega) (by omega)]
        exact ih
      · refine b_Mo_count_94 hX ?_
        rw [b7 hS.1, if_neg (by omega)]
        exact g
    simp only [if_neg c] at g ⊢
    by_cases c : x = 5
    · simp only [if_pos c] at g ⊢
      refine upto (p := fun i => X 121 [some (vR 39), none, some (vI (sm (priT S.T) i)), some (vI (i : Int))] [] σ) (rN S.T) (fun i hi ih => ?_) ?_
      · refine b_Mo_count_121 hX ?_
        have hb := sm_le (f := priT S.T) (c := 18) (n := i) (fun k hk => (priT_b w.1 (by omega)).2)
        have hb2 := sm_ge (f := priT S.T) (n := i) (fun k hk => (priT_b w.1 (by omega)).1)
        have hi2 := priT_b w.1 (r := i) (by omega)
        rw [b8 hS.1, if_pos (by omega)]
        refine m_price hS.1 w.1 hi (b_Mo_count_135 hX ?_)
        rw [w32_s i (by omega), w32_id (by omega) (by omega)]
        exact ih
      · refine b_Mo_count_121 hX ?_
        rw [b8 hS.1, if_neg (by omega)]
        exact g
    simp only [if_neg c] at g ⊢
    by_cases c : x = 6
    · simp only [if_pos c] at g ⊢
      rw [hS.2.2.2.1]; exact g
    simp only [if_neg c] at g ⊢
    by_cases c : x = 7
    · simp only [if_pos c] at g ⊢
      rw [hS.2.1]; exact g
    simp only [if_neg c] at g ⊢
    exact g
end FP
