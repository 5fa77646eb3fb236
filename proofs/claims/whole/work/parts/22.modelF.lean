/-! The model's whole evening. -/
theorem tks_23 {T E : Tab} {lo : Nat} {m : Int} {k : Nat} (hk : 2 ≤ k) (r : Nat) : ∀ n, tks T lo m n E k r = E k r
  | 0 => rfl
  | n + 1 => by
    show tak1 T lo m (tks T lo m n E) k r = _
    unfold tak1
    split
    · exact tks_23 hk r n
    · rw [sup_c (by omega), sup_c (by omega)]; exact tks_23 hk r n
/-- what was taken stays, what is taken later has a later minute -/
theorem tks_st {T E : Tab} {lo : Nat} {m : Int} (r : Nat) : ∀ n, ((tks T lo m n E 0 r = E 0 r ∧ tks T lo m n E 1 r = E 1 r) ∨ (E 0 r = -9 ∧ tks T lo m n E 0 r = m))
  | 0 => Or.inl ⟨rfl, rfl⟩
  | n + 1 => by
    have ih := tks_st (T := T) (lo := lo) (m := m) (E := E) r n
    show ((tak1 T lo m (tks T lo m n E) 0 r = _ ∧ tak1 T lo m (tks T lo m n E) 1 r = _) ∨ (_ ∧ tak1 T lo m (tks T lo m n E) 0 r = m))
    unfold tak1
    split
    · exact ih
    · rename_i hn
      have hw := nxt_w (T := T) (E := tks T lo m n E) (lo := lo) (m := m) (rN T) (by omega)
      generalize (nxt T (tks T lo m n E) lo m (rN T)).toNat = q at *
      by_cases e : r = q
      · subst e
        right
        rw [sup_c (by decide), sup_e]
        refine ⟨?_, rfl⟩
        rcases ih with z | z
        · rw [← z.1]; exact hw.1
        · exact z.1
      · rw [sup_c (by decide), sup_i e, sup_i e, sup_c (by decide)]
        exact ih
theorem pas_st {T E : Tab} {lo m : Nat} (r : Nat) : ((pas T lo m E 0 r = E 0 r ∧ pas T lo m E 1 r = E 1 r) ∨ (E 0 r = -9 ∧ pas T lo m E 0 r = m)) := by
  unfold pas
  split
  · have := tks_st (T := T) (lo := lo) (m := (m : Int)) (E := ops T m (rN T) E) r (T 9 0 - bsy T (ops T m (rN T) E) m).toNat
    rw [ops_0, ops_1] at this
    exact this
  · exact Or.inl ⟨ops_0 _ _, ops_1 _ _⟩
theorem evn_st {T : Tab} {lo m r : Nat} : ∀ k, ((evn T lo (m + k) 0 r = evn T lo m 0 r ∧ evn T lo (m + k) 1 r = evn T lo m 1 r) ∨ (evn T lo m 0 r = -9 ∧ (m : Int) ≤ evn T lo (m + k) 0 r))
  | 0 => Or.inl ⟨rfl, rfl⟩
  | k + 1 => by
    have ih := evn_st (T := T) (lo := lo) (m := m) (r := r) k
    have hp : ((evn T lo (m + (k + 1)) 0 r = evn T lo (m + k) 0 r ∧ evn T lo (m + (k + 1)) 1 r = evn T lo (m + k) 1 r) ∨ (evn T lo (m + k) 0 r = -9 ∧ evn T lo (m + (k + 1)) 0 r = (m + k : Nat))) := pas_st r
    rcases hp with p | p
    · rw [p.1, p.2]; exact ih
    · right
      rcases ih with z | z
      · rw [p.2, ← z.1]
        exact ⟨p.1, by omega⟩
      · exact ⟨z.1, by rw [p.2]; omega⟩
theorem bsy_st {T : Tab} {lo m : Nat} (hm : m < 60) : bsy T (evn T lo (m + 1)) m = bsy T (evg T lo) m := by
  unfold bsy
  refine cnt_congr (fun r hr => ?_)
  have := evn_st (T := T) (lo := lo) (m := m + 1) (r := r) (60 - m)
  rw [show m + 1 + (60 - m) = 61 by omega] at this
  unfold uw evg
  rcases this with z | z
  · rw [z.1, z.2]
  · rw [z.1, decide_eq_false (p := evn T lo 61 0 r ≤ m) (by omega)]
    simp
section MD
variable {d : Nat} {σ : Sto} {Q : PQ} {T E : Tab} {lo : Nat}
def bzM (T : Tab) (lo : Nat) (k : Int) (n : Nat) : Int := cnt (fun m => decide (k ≤ bsy T (evn T lo (m + 1)) m)) n
theorem bzM_N {k : Int} : bzM T lo k 60 = bzN T (evg T lo) k := cnt_congr (fun i hi => by rw [bsy_st hi])
def MI (σ : Sto) (T : Tab) (lo n : Nat) : Prop := TK σ T (evn T lo n) ∧ MB σ T (evn T lo n) ∧ FA σ T (evn T lo n) n ∧ σ 39 28 = (lo : Int) ∧ σ 39 30 = bzM T lo 1 (min n 60) ∧ σ 39 31 = bzM T lo (T 9 0) (min n 60) ∧ ∀ k, k < n → ∀ g, g < gN T → σ 57 (6 * k + g) = evn T lo (k + 1) 3 g
def MV (σ : Sto) (T : Tab) (lo : Nat) : Prop := TK σ T (evg T lo) ∧ MB σ T (evg T lo) ∧ σ 39 30 = bzN T (evg T lo) 1 ∧ σ 39 31 = bzN T (evg T lo) (T 9 0) ∧ ∀ k, k < 61 → ∀ g, g < gN T → σ 57 (6 * k + g) = evn T lo (k + 1) 3 g
theorem MB_sup {c i : Nat} {v : Int} (h : MB σ T E) (h1 : c ≠ 53) (h2 : c ≠ 39 ∨ i ≠ 29) : MB (sup σ c i v) T E := by
  refine ⟨fun g hg => by rw [sup_fr (by omega)]; exact h.1 g hg, ?_⟩
  rcases h2 with z | z
  · rw [sup_fr (by omega)]; exact h.2
  · by_cases e : c = 39
    · subst e; rw [sup_i (by omega)]; exact h.2
    · rw [sup_fr (by omega)]; exact h.2
theorem m_dines (hT : tb σ 39 = T) (w : WT T) (hlo : lo < 128) (h : ∀ σ', EM σ σ' → MV σ' T lo → Q (some (vI (md T lo))) σ') : P (d + 4) 149 [vR 39, vI (lo : Int)] σ Q := by
  have hR := WT_r w
  have hG := WT_g w
  have hW := w.2.2.1
  refine e_Mo_dines fun X hX => b_Mo_dines_0 hX ?_
  -- moods
  refine upto (p := fun i => ∀ σi : Sto, EM σ σi → σi 39 28 = (lo : Int) → σi 39 29 = 0 → σi 39 30 = 0 → σi 39 31 = 0 → (∀ g, g < i → σi 53 g = T 1 g) → X 22 [some (vR 39), none, some (vI (i : Int)), none] [] σi) (gN T) (fun i hi ih => ?_) ?_ _ (EM_tr (EM_tr (EM_tr (EM_s (by omega)) (EM_s (by omega))) (EM_s (by omega))) (EM_s (by omega))) (by rw [sup_i (by decide), sup_i (by decide), sup_i (by decide), sup_e]) (by rw [sup_i (by decide), sup_i (by decide), sup_e]) (by rw [sup_i (by decide), sup_e]) (by rw [sup_e]) (fun g hg => absurd hg (by omega))
  · intro σi k1 k2 k3 k4 k5 k6
    have hTi : tb σi 39 = T := (EM_T k1).trans hT
    refine b_Mo_dines_22 hX ?_
    rw [b7 hTi, if_pos (by omega)]
    refine ⟨by omega, ?_⟩
    rw [Int.toNat_natCast, w32_s i (by omega)]
    refine ih _ (EM_tr k1 (EM_c (by omega))) (by rw [sup_fr (by decide)]; exact k2) (by rw [sup_fr (by decide)]; exact k3) (by rw [sup_fr (by decide)]; exact k4) (by rw [sup_fr (by decide)]; exact k5) (fun g hg => ?_)
    by_cases e : g = i
    · subst e; rw [sup_e]; exact a1 hTi (by omega)
    · rw [sup_i e]; exact k6 g (by omega)
  intro σ1 k1 k2 k3 k4 k5 k6
  have hT1 : tb σ1 39 = T := (EM_T k1).trans hT
  refine b_Mo_dines_22 hX ?_
  rw [b7 hT1, if_neg (by omega)]
  refine upto (p := fun i => ∀ σi : Sto, EM σ σi → σi 39 = σ1 39 → σi 53 = σ1 53 → (∀ g, g < i → σi 54 g = -9 ∧ σi 55 g = -9) → X 50 [some (vR 39), none, some (vI (i : Int)), none] [] σi) (rN T) (fun i hi ih => ?_) ?_ σ1 k1 rfl rfl (fun g hg => absurd hg (by omega))
  · intro σi j1 j2 j3 j4
    have hTi : tb σi 39 = T := (EM_T j1).trans hT
    refine b_Mo_dines_50 hX ?_
    rw [b8 hTi, if_pos (by omega)]
    refine ⟨by omega, ?_⟩
    rw [Int.toNat_natCast, w32_s i (by omega)]
    refine ih _ (EM_tr (EM_tr j1 (EM_c (by omega))) (EM_c (by omega))) (by rw [sup_fr (by decide), sup_fr (by decide)]; exact j2) (by rw [sup_fr (by decide), sup_fr (by decide)]; exact j3) (fun g hg => ?_)
    by_cases e : g = i
    · subst e; rw [sup_fr (c' := 54) (by decide), sup_e, sup_e]; exact ⟨rfl, rfl⟩
    · rw [sup_fr (c' := 54) (by decide), sup_i e, sup_i e, sup_fr (by decide)]; exact j4 g (by omega)
  intro σ2 j1 j2 j3 j4
  have hT2 : tb σ2 39 = T := (EM_T j1).trans hT
  refine b_Mo_dines_50 hX ?_
  rw [b8 hT2, if_neg (by omega)]
  refine upto (p := fun i => ∀ σi : Sto, EM σ σi → (∀ c, c ≠ 56 → σi c = σ2 c) → (∀ g, g < i → σi 56 g = 0) → X 82 [some (vR 39), none, some (vI (i : Int)), none] [] σi) 3 (fun i hi ih => ?_) ?_ σ2 j1 (fun _ _ => rfl) (fun g hg => absurd hg (by omega))
  · intro σi l1 l2 l3
    refine b_Mo_dines_82 hX ?_
    rw [if_pos (by omega)]
    refine ⟨by omega, ?_⟩
    rw [Int.toNat_natCast, w32_s i (by omega)]
    refine ih _ (EM_tr l1 (EM_c (by omega))) (fun c hc => by rw [sup_fr hc]; exact l2 c hc) (fun g hg => ?_)
    by_cases e : g = i
    · subst e; rw [sup_e]
    · rw [sup_i e]; exact l3 g (by omega)
  intro σ3 l1 l2 l3
  refine b_Mo_dines_82 hX ?_
  rw [if_neg (by decide)]
  refine upto (p := fun n => ∀ σi : Sto, EM σ σi → MI σi T lo n → X 102 [some (vR 39), none, some (vI (n : Int)), none] [] σi) 61 (fun n hn ih => ?_) ?_ σ3 l1 ?_
  · intro σi m1 ⟨i1, i2, i3, i4, i5, i6, i7⟩
    have hTi : tb σi 39 = T := (EM_T m1).trans hT
    have hI := evn_I (lo := lo) w n
    have hpas : evn T lo (n + 1) = pas T lo n (evn T lo n) := rfl
    generalize hE : evn T lo n = E at *
    refine b_Mo_dines_102 hX ?_
    rw [if_neg (by omega)]
    -- the openings
    refine upto (p := fun i => ∀ σj : Sto, EM σi σj → MB σj T (ops T n i E) → (∀ c, c ≠ 39 → c ≠ 53 → σj c = σi c) → (∀ j, j ≠ 29 → σj 39 j = σi 39 j) → X 110 [some (vR 39), none, some (vI (n : Int)), some (vI (i : Int))] [] σj) (rN T) (fun i hi ihr => ?_) ?_ σi (EM_r σi) i2 (fun _ _ _ => rfl) (fun _ _ => rfl)
    · intro σj n1 n2 n3 n4
      have hTj : tb σj 39 = T := (EM_T n1).trans hTi
      have hi7 : i < 7 := by omega
      refine b_Mo_dines_110 hX ?_
      rw [b8 hTj, if_pos (by omega)]
      refine ⟨by omega, ?_⟩
      rw [Int.toNat_natCast, n3 55 (by decide) (by decide), (i1 i hi).2]
      have eo : ops T n (i + 1) E = if E 1 i = n then opn T i (ops T n i E) else ops T n i E := by
        show (if ops T n i E 1 i = n then opn T i (ops T n i E) else ops T n i E) = _
        rw [ops_1]
      have hop : opF E 60 i = (n : Int) ↔ E 1 i = n := by
        unfold opF
        split <;> omega
      by_cases c : E 1 i = n
      · rw [if_pos (hop.mpr c)]
        rw [if_pos c] at eo
        have h2 : ops T n i E 2 i = 0 := by
          rw [ops_2 i (Nat.le_refl i)]
          rcases (hI.1 i hi7).2 with z | z
          · exact z
          · omega
        refine m_opens hTj w n2 (ops_J (EI_J hI) (by omega) i).2 hi h2 (fun σ4 p1 p2 p3 p4 => b_Mo_dines_133 hX ?_)
        rw [w32_s i (by omega)]
        exact ihr σ4 (EM_tr n1 p1) (by rw [eo]; exact p2) (fun c hc hc2 => (p3 c hc hc2).trans (n3 c hc hc2)) (fun j hj => (p4 j hj).trans (n4 j hj))
      · rw [if_neg (fun z => c (hop.mp z))]
        rw [if_neg c] at eo
        refine b_Mo_dines_133 hX ?_
        rw [w32_s i (by omega)]
        exact ihr σj n1 (by rw [eo]; exact n2) n3 n4
    intro σj n1 n2 n3 n4
    have hTj : tb σj 39 = T := (EM_T n1).trans hTi
    refine b_Mo_dines_110 hX ?_
    rw [b8 hTj, if_neg (by omega)]
    have g1 : TK σj T (ops T n (rN T) E) := fun r hr => by
      rw [n3 54 (by decide) (by decide), n3 55 (by decide) (by decide), ops_0]
      refine ⟨(i1 r hr).1, ?_⟩
      rw [(i1 r hr).2]
      unfold opF
      rw [ops_1]
    have g3 : FA σj T (ops T n (rN T) E) n := fun t ht => by
      rw [n3 56 (by decide) (by decide), i3 t ht]
      exact cnt_congr (fun r _ => by rw [ops_0, ops_1])
    have hJ := ops_J (EI_J hI) (by omega) (rN T)
    have b5 := cnt_b (fun m => decide (1 ≤ bsy T (evn T lo (m + 1)) m)) (min n 60)
    have b6 := cnt_b (fun m => decide (T 9 0 ≤ bsy T (evn T lo (m + 1)) m)) (min n 60)
    -- the moods behind
    have tail : ∀ σ4 : Sto, EM σ σ4 → TK σ4 T (evn T lo (n + 1)) → MB σ4 T (evn T lo (n + 1)) → FA σ4 T (evn T lo (n + 1)) n → σ4 39 28 = (lo : Int) → σ4 39 30 = bzM T lo 1 (min (n + 1) 60) → σ4 39 31 = bzM T lo (T 9 0) (min (n + 1) 60) → σ4 57 = σi 57 → X 150 [some (vR 39), none, some (vI (n : Int)), none] [] σ4 := by
      intro σ4 q1 q2 q3 q4 q5 q6 q7 q8
      refine b_Mo_dines_150 hX ?_
      refine upto (p := fun i => ∀ σk : Sto, EM σ σk → (∀ c, c ≠ 57 → σk c = σ4 c) → (∀ k, k < n → ∀ g, g < gN T → σk 57 (6 * k + g) = evn T lo (k + 1) 3 g) → (∀ g, g < i → σk 57 (6 * n + g) = evn T lo (n + 1) 3 g) → X 152 [some (vR 39), none, some (vI (n : Int)), some (vI (i : Int))] [] σk) (gN T) (fun i hi ihg => ?_) ?_ σ4 q1 (fun _ _ => rfl) (fun k hk g hg => by rw [q8]; exact i7 k hk g hg) (fun g hg => absurd hg (by omega))
      · intro σk r1 r2 r3 r4
        have hTk : tb σk 39 = T := (EM_T r1).trans hT
        refine b_Mo_dines_152 hX ?_
        rw [b7 hTk, if_pos (by omega), w32_id (x := 6 * (n : Int)) (by omega) (by omega), w32_id (x := 6 * (n : Int) + (i : Int)) (by omega) (by omega), w32_s i (by omega)]
        refine ⟨by omega, by omega, ?_⟩
        rw [show (6 * (n : Int) + (i : Int)).toNat = 6 * n + i by omega, Int.toNat_natCast]
        refine ihg _ (EM_tr r1 (EM_c (by omega))) (fun c hc => by rw [sup_fr hc]; exact r2 c hc) (fun k hk g hg => ?_) (fun g hg => ?_)
        · rw [sup_i (by omega)]; exact r3 k hk g hg
        · by_cases e : g = i
          · subst e; rw [sup_e, r2 53 (by decide)]; exact q3.1 g hi
          · rw [sup_i (by omega)]; exact r4 g (by omega)
      · intro σk r1 r2 r3 r4
        have hTk : tb σk 39 = T := (EM_T r1).trans hT
        refine b_Mo_dines_152 hX ?_
        rw [b7 hTk, if_neg (by omega), w32_s n (by omega)]
        refine ih σk r1 ⟨fun r hr => by rw [r2 54 (by decide), r2 55 (by decide)]; exact q2 r hr, ⟨fun g hg => by rw [r2 53 (by decide)]; exact q3.1 g hg, by rw [r2 39 (by decide)]; exact q3.2⟩, fun t ht => by rw [r2 56 (by decide)]; exact q4 t (by omega), by rw [r2 39 (by decide)]; exact q5, by rw [r2 39 (by decide)]; exact q6, by rw [r2 39 (by decide)]; exact q7, fun k hk g hg => ?_⟩
        by_cases e : k = n
        · subst e; exact r4 g hg
        · exact r3 k (by omega) g hg
    by_cases c60 : n < 60
    · rw [if_pos (by omega)]
      have ep : evn T lo (n + 1) = tks T lo n (T 9 0 - bsy T (ops T n (rN T) E) n).toNat (ops T n (rN T) E) := by
        rw [hpas]; unfold pas; rw [if_pos c60]
      have u5 : σj 39 30 = bzM T lo 1 (min n 60) := (n4 30 (by decide)).trans i5
      have u6 : σj 39 31 = bzM T lo (T 9 0) (min n 60) := (n4 31 (by decide)).trans i6
      unfold bzM at u5 u6
      refine m_takes hTj w g1 (EJ_K hJ) g3 hlo ((n4 28 (by decide)).trans i4) c60 (by omega) (by omega) (fun σ4 p1 p2 p3 p4 p5 p6 p7 p8 p9 => ?_)
      rw [← ep] at p2 p3 p4 p5
      refine tail σ4 (EM_tr (EM_tr m1 n1) p1) p2 ⟨fun g hg => ?_, ?_⟩ p3 (by rw [p6, n4 28 (by decide)]; exact i4) ?_ ?_ (by rw [p9]; exact n3 57 (by decide) (by decide))
      · rw [p8, n2.1 g hg, ep, tks_23 (by decide)]
      · rw [p7, n2.2, ep]
        congr 1
        exact mk_congr (fun q _ => by rw [tks_23 (by decide)])
      · rw [p4, u5, show min n 60 = n by omega, show min (n + 1) 60 = n + 1 by omega]; rfl
      · rw [p5, u6, show min n 60 = n by omega, show min (n + 1) 60 = n + 1 by omega]; rfl
    · rw [if_neg (by omega)]
      have ep : evn T lo (n + 1) = ops T n (rN T) E := by
        rw [hpas]; unfold pas; rw [if_neg c60]
      rw [ep] at tail
      refine tail σj (EM_tr m1 n1) g1 n2 g3 ((n4 28 (by decide)).trans i4) ?_ ?_ (n3 57 (by decide) (by decide))
      · rw [n4 30 (by decide), i5, show min n 60 = min (n + 1) 60 by omega]
      · rw [n4 31 (by decide), i6, show min n 60 = min (n + 1) 60 by omega]
  · intro σi m1 ⟨i1, i2, i3, i4, i5, i6, i7⟩
    refine b_Mo_dines_102 hX ?_
    rw [if_pos (by decide)]
    have hI := evn_I (lo := lo) w 61
    have m2 : EM σ (sup σi 39 28 0) := EM_tr m1 (EM_s (by omega))
    refine m_all (E := evg T lo) ((EM_T m2).trans hT) w (fun g hg => ⟨?_, hI.2 g (by omega)⟩) (b_Mo_dines_198 hX ?_)
    · rw [sup_fr (by decide)]; exact i2.1 g hg
    · refine h _ m2 ⟨fun r hr => ?_, MB_sup i2 (by decide) (Or.inr (by decide)), ?_, ?_, fun k hk g hg => ?_⟩
      · rw [sup_fr (by decide), sup_fr (by decide)]; exact i1 r hr
      · rw [sup_i (by decide), i5]; exact bzM_N
      · rw [sup_i (by decide), i6]; exact bzM_N
      · rw [sup_fr (by decide)]; exact i7 k hk g hg
  · have f39 : σ3 39 = σ1 39 := (l2 39 (by decide)).trans j2
    refine ⟨fun r hr => ?_, ⟨fun g hg => ?_, ?_⟩, fun t ht => ?_, by rw [f39]; exact k2, by rw [f39]; exact k4, by rw [f39]; exact k5, fun k hk => absurd hk (by omega)⟩
    · rw [l2 54 (by decide), l2 55 (by decide)]
      exact ⟨(j4 r hr).1, (j4 r hr).2.trans rfl⟩
    · rw [l2 53 (by decide), j3]; exact k6 g hg
    · rw [f39, k3]
      have : mk (fun q => decide (evn T lo 0 2 q = 1)) (rN T) = 0 := mk_eq (fun i => by rw [Nat.zero_testBit]; show false = (_ && decide ((0 : Int) = 1)); simp)
      rw [this]; rfl
    · have e1 : cnt (fun v => decide (t < σ3 56 v)) (T 9 0).toNat = 0 := cnt_0.mpr (fun i hi => by rw [l3 i (by omega)]; exact decide_eq_false (by omega))
      have e2 : cnt (fun r => decide (evn T lo 0 0 r ≠ -9) && decide (t < evn T lo 0 1 r)) (rN T) = 0 := cnt_0.mpr (fun i hi => rfl)
      rw [e1, e2]
end MD
