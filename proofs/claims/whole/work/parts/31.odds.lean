/-! The odds, on both sides. -/
def eno : Nat → Int → Int → Prop
  | 0, _, b => b = 0
  | n + 1, a, b => b = 0 ∨ eno n b (a.tmod b)
theorem tmod_b {a b : Int} (ha : 0 ≤ a) (hb : 0 < b) : 0 ≤ a.tmod b ∧ a.tmod b < b := ⟨Int.tmod_nonneg b ha, Int.tmod_lt_of_pos a hb⟩
theorem half {a b : Int} (ha : 0 ≤ a) (hb : 0 < b) (hab : b ≤ a) : 2 * a.tmod b < a ∨ a.tmod b = 0 := by
  rw [Int.tmod_eq_emod_of_nonneg ha]
  have h1 := Int.emod_nonneg a (show b ≠ 0 by omega)
  have h2 := Int.emod_lt_of_pos a hb
  have h3 := Int.mul_ediv_add_emod a b
  have h4 : 1 ≤ a / b := Int.le_ediv_of_mul_le hb (by omega)
  have h5 : b * 1 ≤ b * (a / b) := Int.mul_le_mul_of_nonneg_left h4 (by omega)
  omega
theorem eno_all : ∀ (k : Nat) (a b : Int), 0 ≤ a → 0 ≤ b → b < 2 ^ k → eno (2 * k + 2) a b
  | 0, a, b, _, hb, h => Or.inl (by simp at h; omega)
  | k + 1, a, b, ha, hb, h => by
    show b = 0 ∨ (a.tmod b = 0 ∨ eno (2 * k + 2) (a.tmod b) (b.tmod (a.tmod b)))
    by_cases c : b = 0
    · exact Or.inl c
    right
    have h1 := tmod_b (a := a) (b := b) ha (by omega)
    by_cases c2 : a.tmod b = 0
    · exact Or.inl c2
    right
    have h2 := tmod_b (a := b) (b := a.tmod b) hb (by omega)
    have h3 := half (a := b) (b := a.tmod b) hb (by omega) (by omega)
    refine eno_all k _ _ h1.1 h2.1 ?_
    rw [Int.pow_succ] at h
    have h4 : (0 : Int) < 2 ^ k := Int.pow_pos (by decide)
    omega
theorem gd_pos : ∀ (n : Nat) (a b : Int), eno n a b → 0 ≤ a → 0 ≤ b → (1 ≤ a ∨ 1 ≤ b) → 1 ≤ gdF n a b
  | 0, a, b, h, ha, hb, h1 => by
    have : b = 0 := h
    show 1 ≤ a
    omega
  | n + 1, a, b, h, ha, hb, h1 => by
    show 1 ≤ if b = 0 then a else gdF n b (a.tmod b)
    by_cases c : b = 0
    · rw [if_pos c]; omega
    · rw [if_neg c]
      have h2 := tmod_b (a := a) (b := b) ha (by omega)
      exact gd_pos n b _ (h.resolve_left c) hb h2.1 (Or.inl (by omega))
section OD
variable {d : Nat} {σ : Sto} {Q : PQ} {S : AS} {T : Tab}
theorem pwt {t : Int} (ht : 2 ≤ t ∧ t ≤ 20) {n : Nat} (hn : n ≤ 7) : 1 ≤ pw t n ∧ pw t n ≤ 1280000000 := by
  have h1 := pw_b (b := t) (by omega) ht.2 n
  have h2 := pw20 n (by omega)
  refine ⟨?_, by omega⟩
  clear h1 h2
  induction n with
  | zero => exact Int.le_refl 1
  | succ n ih =>
    have h3 := ih (by omega)
    have h4 : 1 * 1 ≤ pw t n * t := Int.mul_le_mul h3 (by omega) (by decide) (by omega)
    exact h4
theorem gcd_ok (w : WT T) {t v : Int} (ht : 2 ≤ t ∧ t ≤ 20) : eno 100 (wyF T t v (2 ^ rN T)) (pw t (rN T)) ∧ 1 ≤ gdF 100 (wyF T t v (2 ^ rN T)) (pw t (rN T)) := by
  have hR := WT_r w
  have h2 := two_r w
  have hw := wyF_b (v := v) ht w (2 ^ rN T) (by omega)
  have hp := pwt ht (n := rN T) (by omega)
  have e := eno_all 49 (wyF T t v (2 ^ rN T)) (pw t (rN T)) hw.1 (by omega) (Int.lt_of_le_of_lt hp.2 (by decide))
  exact ⟨e, gd_pos _ _ _ e hw.1 (by omega) (Or.inr hp.1)⟩
theorem gcd'_eq (w : WT T) {t v : Int} (ht : 2 ≤ t ∧ t ≤ 20) : gcd' (wyF T t v (2 ^ rN T)) (pw t (rN T)) = gdF 100 (wyF T t v (2 ^ rN T)) (pw t (rN T)) := by
  have := (gcd_ok (v := v) w ht).2
  unfold gcd'
  omega
theorem tdiv_b {a g : Int} (ha : 0 ≤ a) (hg : 1 ≤ g) : 0 ≤ a.tdiv g ∧ a.tdiv g ≤ a := ⟨Int.tdiv_nonneg ha (by omega), Int.tdiv_le_self g ha⟩
theorem x_refuseLong {e : Int} (hS : XS σ S) (he : -6 ≤ e ∧ e ≤ -1) (h : ∀ σ', XS σ' (rf S e) → XF σ σ' → Q (some (vL (4000000000000000000 - e))) σ') : P (d + 2) 107 [vR 0, vI e] σ Q := by
  refine e_X_refuseLong fun X hX => b_X_refuseLong_0 hX ?_
  refine x_refuse hS he (fun σ' a b => b_X_refuseLong_8 hX ?_)
  rw [w64_id (by omega) (by omega)]
  exact h σ' a b
theorem x_odds {t v x : Int} (hS : XS σ S) (w : WS S) (h : ∀ σ', XS σ' (cOdds S t v x).2 → XF σ σ' → Q (some (vL (cOdds S t v x).1)) σ') : P (d + 8) 98 [vR 0, vI t, vI v, vI x] σ Q := by
  unfold cOdds at h
  have hR := WT_r w.1
  have h2 := two_r w.1
  refine e_X_odds fun X hX => b_X_odds_0 hX ?_
  by_cases c1 : t < 2
  · rw [if_pos (Or.inl c1)] at h
    rw [if_pos c1]
    exact x_refuseLong hS (by decide) (fun σ' a b => b_X_odds_15 hX (h σ' a b))
  rw [if_neg c1]
  by_cases c2 : v < 0
  · rw [if_pos (Or.inr c2)] at h
    rw [if_pos c2]
    exact x_refuseLong hS (by decide) (fun σ' a b => b_X_odds_15 hX (h σ' a b))
  rw [if_neg c2]
  rw [if_neg (fun z => z.elim c1 c2)] at h
  by_cases c3 : 20 < t
  · rw [if_pos (Or.inl c3)] at h
    rw [if_pos c3]
    exact x_refuseLong hS (by decide) (fun σ' a b => b_X_odds_35 hX (h σ' a b))
  rw [if_neg c3]
  by_cases c4 : 240 < v
  · rw [if_pos (Or.inr c4)] at h
    rw [if_pos c4]
    exact x_refuseLong hS (by decide) (fun σ' a b => b_X_odds_35 hX (h σ' a b))
  rw [if_neg c4]
  rw [if_neg (fun z => z.elim c3 c4)] at h
  have ht : 2 ≤ t ∧ t ≤ 20 := by omega
  have hw := wyF_b (v := v) ht w.1 (2 ^ rN S.T) (by omega)
  have hp := pwt ht (n := rN S.T) (by omega)
  have hg := (gcd_ok (v := v) w.1 ht).2
  have q1 := tdiv_b hw.1 hg
  have q2 := tdiv_b (a := pw t (rN S.T)) (by omega) hg
  rw [gcd'_eq w.1 ht] at h
  have body : x = 0 ∨ x = 1 → P (d + 7) 70 [vR 31, vR 1, vI t, vI v] σ (fun r σ' => X 65 [some (vR 0), some (vI t), none, some (vI x), none, none, none, none, none, none] (psh r []) σ') := by
    intro hx
    refine s_ways hS.1 w.1 ht (fun σ1 f => b_X_odds_65 hX ?_)
    have hS1 := XS_FX hS f
    rw [b8 hS1.1, hR.1]
    refine s_power (by omega) (by omega) (b_X_odds_79 hX ?_)
    refine s_gcd (b_X_odds_89 hX ?_)
    have h' := h σ1
    generalize gdF 100 (wyF S.T t v (2 ^ rN S.T)) (pw t (rN S.T)) = g at *
    rw [show max (1 : Int) g = g by omega]
    by_cases c : x = 0
    · rw [if_pos c] at h' ⊢
      refine ⟨by omega, ?_⟩
      rw [w64_id (by omega) (by omega)]
      exact h' hS1 (XF_FX f)
    · rw [if_neg c, if_pos (by omega)] at h'
      rw [if_neg c]
      refine ⟨by omega, ?_⟩
      rw [w64_id (by omega) (by omega)]
      exact h' hS1 (XF_FX f)
  by_cases c5 : x = 0
  · rw [if_pos c5]; exact body (Or.inl c5)
  rw [if_neg c5]
  by_cases c6 : x = 1
  · rw [if_pos c6]; exact body (Or.inr c6)
  rw [if_neg c6]
  rw [if_neg c5, if_neg c6] at h
  exact x_refuseLong hS (by decide) (fun σ' a b => b_X_odds_51 hX (h σ' a b))
theorem m_divisor {a b : Int} (n : Nat) (he : eno n a b) (h : Q (some (vL (gdF n a b))) σ) : P (d + 1) 184 [vL a, vL b] σ Q := by
  refine e_Mo_divisor fun X hX => b_Mo_divisor_0 hX ?_
  have e3 : ∀ b : Int, lcm3 b 0 = 0 ↔ b = 0 := by
    intro b
    unfold lcm3
    by_cases p : 0 < b <;> by_cases q : b = 0 <;> simp [p, q] <;> omega
  have key : ∀ (n : Nat) (a b : Int), eno n a b → Q (some (vL (gdF n a b))) σ → X 6 [none, none, none, none, some (vL a), none, some (vL b), none, none, none] [] σ := by
    intro n
    induction n with
    | zero =>
      intro a b he hq
      refine b_Mo_divisor_6 hX ?_
      rw [if_pos ((e3 b).mpr he)]
      exact hq
    | succ n ih =>
      intro a b he hq
      refine b_Mo_divisor_6 hX ?_
      have e : gdF (n + 1) a b = if b = 0 then a else gdF n b (a.tmod b) := rfl
      by_cases hb : b = 0
      · rw [if_pos ((e3 b).mpr hb)]
        rw [e, if_pos hb] at hq; exact hq
      · rw [if_neg (fun z => hb ((e3 b).mp z))]
        rw [e, if_neg hb] at hq
        exact ⟨hb, ih b _ (he.resolve_left hb) hq⟩
  exact key n a b he h
def pz (t : Int) (o : Nat) : Nat → Int
  | 0 => 1
  | r + 1 => pz t o r * (if o.testBit r = true then 1 else t - 1)
theorem pz_pw (t : Int) (o : Nat) : ∀ n : Nat, pz t o n = pw (t - 1) ((n : Int) - cnt (fun k => o.testBit k) n).toNat
  | 0 => rfl
  | n + 1 => by
    have ih := pz_pw t o n
    have hb := cnt_b (fun k => o.testBit k) n
    show pz t o n * (if o.testBit n = true then 1 else t - 1) = _
    rw [ih, cnt_s]
    cases ho : o.testBit n with
    | true =>
      rw [if_pos rfl, if_pos rfl, Int.mul_one]
      congr 1
      omega
    | false =>
      rw [if_neg (by decide), if_neg (by decide), show (((n + 1 : Nat) : Int) - (cnt (fun k => o.testBit k) n + 0)).toNat = ((n : Int) - cnt (fun k => o.testBit k) n).toNat + 1 by omega]
      rfl
theorem y_odds {t v x : Int} (hS : MS σ S) (w : WS S) (h : ∀ σ', MS σ' (cOdds S t v x).2 → MG σ σ' → Q (some (vL (cOdds S t v x).1)) σ') : P (d + 8) 185 [vR 39, vI t, vI v, vI x] σ Q := by
  unfold cOdds at h
  have hR := WT_r w.1
  have h2 := two_r w.1
  refine e_Mo_odds fun X hX => b_Mo_odds_0 hX ?_
  by_cases c1 : t < 2
  · rw [if_pos (Or.inl c1)] at h
    rw [if_pos c1]
    exact m_lowest hS (by decide) (fun σ' a b => b_Mo_odds_60 hX (h σ' a b))
  rw [if_neg c1]
  by_cases c2 : v < 0
  · rw [if_pos (Or.inr c2)] at h
    rw [if_pos c2]
    exact m_lowest hS (by decide) (fun σ' a b => b_Mo_odds_60 hX (h σ' a b))
  rw [if_neg c2]
  rw [if_neg (fun z => z.elim c1 c2)] at h
  by_cases c3 : 20 < t
  · rw [if_pos (Or.inl c3)] at h
    rw [if_pos c3]
    exact m_lowest hS (by decide) (fun σ' a b => b_Mo_odds_60 hX (h σ' a b))
  rw [if_neg c3]
  by_cases c4 : 240 < v
  · rw [if_pos (Or.inr c4)] at h
    rw [if_pos c4]
    exact m_lowest hS (by decide) (fun σ' a b => b_Mo_odds_60 hX (h σ' a b))
  rw [if_neg c4]
  rw [if_neg (fun z => z.elim c3 c4)] at h
  have ht : 2 ≤ t ∧ t ≤ 20 := by omega
  have hw := wyF_b (v := v) ht w.1 (2 ^ rN S.T) (by omega)
  have hp := pwt ht (n := rN S.T) (by omega)
  have hg := gcd_ok (v := v) w.1 ht
  have q1 := tdiv_b hw.1 hg.2
  have q2 := tdiv_b (a := pw t (rN S.T)) (by omega) hg.2
  rw [gcd'_eq w.1 ht] at h
  refine m_isIn (fun p1 p2 => b_Mo_odds_38 hX ?_) (fun p => b_Mo_odds_38 hX ?_)
  · rw [if_neg (by decide)]
    refine upto (p := fun i => X 70 [some (vR 39), some (vI t), some (vI v), some (vI x), none, some (vL 0), none, some (vL (pw t i)), none, some (vI (i : Int)), none, none, none] [] σ) (rN S.T) (fun i hi ih => ?_) ?_
    · refine b_Mo_odds_70 hX ?_
      have hp1 := pwt ht (n := i + 1) (by omega)
      have e : pw t (i + 1) = pw t i * t := rfl
      rw [b8 hS.1, if_pos (by omega), w32_s i (by omega), ← e, w64_id (by omega) (by omega)]
      exact ih
    refine b_Mo_odds_70 hX ?_
    rw [b8 hS.1, if_neg (by omega)]
    refine upto (p := fun i => ∀ σi, EM σ σi → X 95 [some (vR 39), some (vI t), some (vI v), some (vI x), none, some (vL (wyF S.T t v i)), none, some (vL (pw t (rN S.T))), none, some (vI (i : Int)), none, none, none] [] σi) (2 ^ rN S.T) (fun i hi ih => ?_) ?_ σ (EM_r σ)
    · intro σi f
      have hTi := (EM_T f).trans hS.1
      refine b_Mo_odds_95 hX ?_
      rw [b8 hTi, h2.1, if_pos (by omega)]
      have pzb : ∀ n, n ≤ 7 → 0 ≤ pz t i n ∧ pz t i n ≤ 1280000000 := by
        intro n hn
        have hb := cnt_b (fun k => i.testBit k) n
        rw [pz_pw]
        have a1 := pw_b (b := t - 1) (by omega) (by omega) ((n : Int) - cnt (fun k => i.testBit k) n).toNat
        have a2 := pw20 ((n : Int) - cnt (fun k => i.testBit k) n).toNat (by omega)
        omega
      refine upto (p := fun k => X 112 [some (vR 39), some (vI t), some (vI v), some (vI x), none, some (vL (wyF S.T t v i)), none, some (vL (pw t (rN S.T))), none, some (vI (i : Int)), some (vL (pz t i k)), none, some (vI (k : Int))] [] σi) (rN S.T) (fun k hk ihk => ?_) ?_
      · refine b_Mo_odds_112 hX ?_
        have e : pz t i (k + 1) = pz t i k * (if i.testBit k = true then 1 else t - 1) := rfl
        have hb1 := pzb (k + 1) (by omega)
        rw [b8 hTi, if_pos (by omega)]
        refine m_has (by omega) (by omega) (fun t1 => b_Mo_odds_130 hX ?_) (fun t0 => b_Mo_odds_130 hX ?_)
        · rw [t1, if_pos rfl] at e
          rw [if_neg (by decide), w32_s k (by omega), ← e, w64_id (by omega) (by omega)]
          exact ihk
        · rw [t0, if_neg (by decide)] at e
          rw [if_pos rfl, w32_s k (by omega), w32_id (x := t - 1) (by omega) (by omega), ← e, w64_id (by omega) (by omega)]
          exact ihk
      · refine b_Mo_odds_112 hX ?_
        rw [b8 hTi, if_neg (by omega)]
        refine m_dines (lo := i) hTi w.1 (by omega) (fun σ1 f1 _ => b_Mo_odds_158 hX ?_)
        have fin := ih σ1 (EM_tr f f1)
        have e : wyF S.T t v (i + 1) = wyF S.T t v i + (if md S.T i < v then 0 else pw (t - 1) (S.T 8 0 - pc8 i).toNat) := rfl
        have ep : pz t i (rN S.T) = pw (t - 1) (S.T 8 0 - pc8 i).toNat := by
          rw [pz_pw, hR.1]
          have : pc8 i = cnt (fun k => i.testBit k) (rN S.T) := by
            rw [← pc8_mk _ (by omega : rN S.T ≤ 8), mk_self hi]
          rw [this]
        have hb1 := wyF_b (T := S.T) (v := v) ht w.1 (i + 1) (by omega)
        rw [w32_s i (by omega)]
        by_cases c : md S.T i < v
        · rw [if_pos c]
          rw [e, if_pos c] at fin hb1
          rw [w64_id (by omega) (by omega)]
          exact fin
        · rw [if_neg c]
          rw [e, if_neg c, ← ep] at fin hb1
          rw [w64_id (by omega) (by omega)]
          exact fin
    · intro σi f
      have hTi := (EM_T f).trans hS.1
      refine b_Mo_odds_95 hX ?_
      rw [b8 hTi, h2.1, if_neg (by omega)]
      have h' := h σi
      by_cases c : x = 0
      · rw [if_pos c] at h' ⊢
        refine m_divisor 100 hg.1 (b_Mo_odds_195 hX ?_)
        refine ⟨by omega, ?_⟩
        rw [w64_id (by omega) (by omega)]
        exact h' (MS_EM hS f) (MG_EM f)
      · rw [if_neg c, if_pos (by omega)] at h'
        rw [if_neg c]
        refine m_divisor 100 hg.1 (b_Mo_odds_195 hX ?_)
        refine ⟨by omega, ?_⟩
        rw [w64_id (by omega) (by omega)]
        exact h' (MS_EM hS f) (MG_EM f)
  · rw [if_neg (by omega), if_neg (by omega)] at h
    rw [if_pos rfl]
    exact m_lowest hS (by decide) (fun σ' a b => b_Mo_odds_60 hX (h σ' a b))
end OD
