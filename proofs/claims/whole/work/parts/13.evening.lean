/-! The evening, as words of a table: E 0 taken, E 1 done, E 2 sent back, E 3 moods. -/
def nxt (T E : Tab) (lo : Nat) (m : Int) : Nat → Int
  | 0 => -9
  | r + 1 => if E 0 r = -9 ∧ lo.testBit r = false ∧ T 6 r ≤ m ∧ (nxt T E lo m r < 0 ∨ T 6 r < T 6 (nxt T E lo m r).toNat) then r else nxt T E lo m r
def tak1 (T : Tab) (lo : Nat) (m : Int) (E : Tab) : Tab := if nxt T E lo m (rN T) < 0 then E else sup (sup E 0 (nxt T E lo m (rN T)).toNat m) 1 (nxt T E lo m (rN T)).toNat (m + minT T (nxt T E lo m (rN T)).toNat)
def tks (T : Tab) (lo : Nat) (m : Int) : Nat → Tab → Tab
  | 0, E => E
  | n + 1, E => tak1 T lo m (tks T lo m n E)
def uw (E : Tab) (m : Int) (r : Nat) : Bool := decide (E 0 r ≠ -9) && (decide (E 0 r ≤ m) && decide (m < E 1 r))
def bsy (T E : Tab) (m : Int) : Int := cnt (uw E m) (rN T)
def tpc (T : Tab) (r : Nat) : Nat := (T 5 r).toNat
def morT (T : Tab) (r : Nat) : Int := morF (T 2 r) (T 3 r)
def lesT (T : Tab) (r : Nat) : Int := lesF (T 2 r) (T 3 r)
def lkN (T : Tab) (r : Nat) : Int := cnt (fun g => hb T r g && lb T g (tpc T r)) (gN T)
def nlN (T : Tab) (r : Nat) : Int := cnt (fun g => hb T r g && !lb T g (tpc T r)) (gN T)
def mdF (T : Tab) (r g : Nat) (x : Int) : Int := if hb T r g = true then max 0 (min 40 (x + (if lb T g (tpc T r) = true then morT T r else -lesT T r))) else x
def opn (T : Tab) (r : Nat) (E : Tab) : Tab := if lkN T r < nlN T r then sup E 2 r 1 else fun k j => if k = 3 ∧ j < gN T then mdF T r j (E 3 j) else if k = 2 ∧ j = r then 0 else E k j
def ops (T : Tab) (m : Int) : Nat → Tab → Tab
  | 0, E => E
  | r + 1, E => if ops T m r E 1 r = m then opn T r (ops T m r E) else ops T m r E
def pas (T : Tab) (lo : Nat) (m : Nat) (E : Tab) : Tab := if m < 60 then tks T lo m (T 9 0 - bsy T (ops T m (rN T) E) m).toNat (ops T m (rN T) E) else ops T m (rN T) E
def bgn (T : Tab) : Tab := fun k j => if k = 3 then T 1 j else if k = 2 then 0 else -9
/-- behind the minutes below m -/
def evn (T : Tab) (lo : Nat) : Nat → Tab
  | 0 => bgn T
  | m + 1 => pas T lo m (evn T lo m)
def EI (T E : Tab) (m : Int) : Prop := (∀ r, r < 7 → ((E 0 r = -9 ∧ E 1 r = -9) ∨ (r < rN T ∧ 0 ≤ E 0 r ∧ E 0 r < m ∧ E 1 r = E 0 r + minT T r)) ∧ (E 2 r = 0 ∨ (E 2 r = 1 ∧ 0 ≤ E 1 r ∧ E 1 r < m))) ∧ ∀ g, g < 6 → 0 ≤ E 3 g ∧ E 3 g ≤ 40
section EV
variable {T E : Tab} {lo : Nat} {m : Int}
theorem minT_b (w : WT T) {r : Nat} (hr : r < 7) : 1 ≤ minT T r ∧ minT T r ≤ 12 := by
  have w7 := w.2.2.2.2.2 r hr
  unfold minT minF
  repeat (first | omega | split)
theorem morT_b (w : WT T) {r : Nat} (hr : r < 7) : 0 ≤ morT T r ∧ morT T r ≤ 9 := by
  have w7 := w.2.2.2.2.2 r hr
  unfold morT morF
  repeat (first | omega | split)
theorem lesT_b (w : WT T) {r : Nat} (hr : r < 7) : 0 ≤ lesT T r ∧ lesT T r ≤ 9 := by
  have w7 := w.2.2.2.2.2 r hr
  unfold lesT lesF
  repeat (first | omega | split)
theorem nxt_b : ∀ n, nxt T E lo m n = -9 ∨ (0 ≤ nxt T E lo m n ∧ nxt T E lo m n < n)
  | 0 => Or.inl rfl
  | n + 1 => by
    have := nxt_b n
    unfold nxt
    split <;> omega
theorem nxt_w : ∀ n, 0 ≤ nxt T E lo m n → E 0 (nxt T E lo m n).toNat = -9 ∧ lo.testBit (nxt T E lo m n).toNat = false ∧ T 6 (nxt T E lo m n).toNat ≤ m
  | 0, h => by simp [nxt] at h
  | n + 1, h => by
    unfold nxt at h ⊢
    split
    · rename_i q
      rw [Int.toNat_natCast]
      exact ⟨q.1, q.2.1, q.2.2.1⟩
    · rename_i q
      rw [if_neg q] at h
      exact nxt_w n h
theorem ops_1 (r n : Nat) : ops T m n E 1 r = E 1 r := by
  induction n with
  | zero => rfl
  | succ n ih =>
    show (if ops T m n E 1 n = m then opn T n (ops T m n E) else ops T m n E) 1 r = _
    split
    · unfold opn
      split
      · rw [sup_c (by decide)]; exact ih
      · show (if (1 : Nat) = 3 ∧ r < gN T then _ else if (1 : Nat) = 2 ∧ r = n then _ else ops T m n E 1 r) = _
        rw [if_neg (by omega), if_neg (by omega)]; exact ih
    · exact ih
theorem ops_0 (r n : Nat) : ops T m n E 0 r = E 0 r := by
  induction n with
  | zero => rfl
  | succ n ih =>
    show (if ops T m n E 1 n = m then opn T n (ops T m n E) else ops T m n E) 0 r = _
    split
    · unfold opn
      split
      · rw [sup_c (by decide)]; exact ih
      · show (if (0 : Nat) = 3 ∧ r < gN T then _ else if (0 : Nat) = 2 ∧ r = n then _ else ops T m n E 0 r) = _
        rw [if_neg (by omega), if_neg (by omega)]; exact ih
    · exact ih
/-- what holds of the evening before minute m, with the openings of m done for the remarks below n -/
def EJ (T E : Tab) (m : Int) : Prop := (∀ r, r < 7 → ((E 0 r = -9 ∧ E 1 r = -9) ∨ (r < rN T ∧ 0 ≤ E 0 r ∧ E 0 r < m ∧ E 1 r = E 0 r + minT T r)) ∧ (E 2 r = 0 ∨ (E 2 r = 1 ∧ 0 ≤ E 1 r ∧ E 1 r ≤ m))) ∧ ∀ g, g < 6 → 0 ≤ E 3 g ∧ E 3 g ≤ 40
theorem EI_J (h : EI T E m) : EJ T E m := ⟨fun r hr => ⟨(h.1 r hr).1, (h.1 r hr).2.imp id (fun q => ⟨q.1, q.2.1, by omega⟩)⟩, h.2⟩
theorem opn_J {r : Nat} (h : EJ T E m) (h0 : 0 ≤ m) (hr : E 1 r = m) : EJ T (opn T r E) m := by
  unfold opn
  split
  · refine ⟨fun q hq => ?_, fun g hg => ?_⟩
    · have := h.1 q hq
      rw [sup_c (by decide), sup_c (by decide)]
      refine ⟨this.1, ?_⟩
      by_cases e : q = r
      · subst e; rw [sup_e]; exact Or.inr ⟨rfl, by omega, by omega⟩
      · rw [sup_i e]; exact this.2
    · rw [sup_c (by decide)]; exact h.2 g hg
  · refine ⟨fun q hq => ?_, fun g hg => ?_⟩
    · have := h.1 q hq
      refine ⟨this.1, ?_⟩
      show (if (2 : Nat) = 3 ∧ q < gN T then _ else if (2 : Nat) = 2 ∧ q = r then 0 else E 2 q) = 0 ∨ _
      rw [if_neg (by omega)]
      by_cases e : q = r
      · left; rw [if_pos ⟨rfl, e⟩]
      · rw [if_neg (by omega)]
        rcases this.2 with z | z
        · exact Or.inl z
        · right
          refine ⟨?_, z.2⟩
          show (if (2 : Nat) = 3 ∧ q < gN T then _ else if (2 : Nat) = 2 ∧ q = r then 0 else E 2 q) = 1
          rw [if_neg (by omega), if_neg (by omega)]; exact z.1
    · have := h.2 g hg
      show 0 ≤ (if (3 : Nat) = 3 ∧ g < gN T then mdF T r g (E 3 g) else if (3 : Nat) = 2 ∧ g = r then 0 else E 3 g) ∧ (if (3 : Nat) = 3 ∧ g < gN T then mdF T r g (E 3 g) else if (3 : Nat) = 2 ∧ g = r then 0 else E 3 g) ≤ 40
      by_cases e : g < gN T
      · rw [if_pos ⟨rfl, e⟩]
        unfold mdF
        split
        · omega
        · exact this
      · rw [if_neg (by omega), if_neg (by omega)]; exact this
theorem ops_J (h : EJ T E m) (h0 : 0 ≤ m) : ∀ n, EJ T (ops T m n E) m
  | 0 => h
  | n + 1 => by
    show EJ T (if ops T m n E 1 n = m then opn T n (ops T m n E) else ops T m n E) m
    split
    · exact opn_J (ops_J h h0 n) h0 ‹_›
    · exact ops_J h h0 n
def EK (T E : Tab) (m : Int) : Prop := (∀ r, r < 7 → ((E 0 r = -9 ∧ E 1 r = -9) ∨ (r < rN T ∧ 0 ≤ E 0 r ∧ E 0 r ≤ m ∧ E 1 r = E 0 r + minT T r)) ∧ (E 2 r = 0 ∨ (E 2 r = 1 ∧ 0 ≤ E 1 r ∧ E 1 r ≤ m))) ∧ ∀ g, g < 6 → 0 ≤ E 3 g ∧ E 3 g ≤ 40
theorem EJ_K (h : EJ T E m) : EK T E m := ⟨fun r hr => ⟨(h.1 r hr).1.imp id (fun q => ⟨q.1, q.2.1, by omega, q.2.2.2⟩), (h.1 r hr).2⟩, h.2⟩
theorem EK_I (h : EK T E m) : EI T E (m + 1) := ⟨fun r hr => ⟨(h.1 r hr).1.imp id (fun q => ⟨q.1, q.2.1, by omega, q.2.2.2⟩), (h.1 r hr).2.imp id (fun q => ⟨q.1, q.2.1, by omega⟩)⟩, h.2⟩
theorem tak1_K (w : WT T) (h : EK T E m) (h0 : 0 ≤ m) : EK T (tak1 T lo m E) m := by
  unfold tak1
  split
  · exact h
  · rename_i hn
    have hb := nxt_b (T := T) (E := E) (lo := lo) (m := m) (rN T)
    have hw := nxt_w (T := T) (E := E) (lo := lo) (m := m) (rN T) (by omega)
    have hR := WT_r w
    generalize hk : (nxt T E lo m (rN T)).toNat = k at *
    have hk7 : k < rN T := by omega
    refine ⟨fun q hq => ?_, fun g hg => ?_⟩
    · have := h.1 q hq
      by_cases e : q = k
      · subst e
        have h2 : E 2 q = 0 := by
          rcases this.2 with z | z
          · exact z
          · exfalso
            rcases this.1 with y | y
            · omega
            · omega
        refine ⟨Or.inr ⟨hk7, ?_, ?_, ?_⟩, Or.inl ?_⟩
        · rw [sup_c (by decide), sup_e]; exact h0
        · rw [sup_c (by decide), sup_e]; omega
        · rw [sup_e, sup_c (by decide), sup_e]
        · rw [sup_c (by decide), sup_c (by decide)]; exact h2
      · rw [sup_c (by decide), sup_i e, sup_i e, sup_c (by decide), sup_c (by decide), sup_c (by decide)]
        exact this
    · rw [sup_c (by decide), sup_c (by decide)]; exact h.2 g hg
theorem tks_K (w : WT T) (h : EK T E m) (h0 : 0 ≤ m) : ∀ n, EK T (tks T lo m n E) m
  | 0 => h
  | n + 1 => tak1_K w (tks_K w h h0 n) h0
theorem pas_I (w : WT T) {m : Nat} (h : EI T E m) : EI T (pas T lo m E) (m + 1) := by
  unfold pas
  have h1 := ops_J (EI_J h) (by omega) (rN T)
  split
  · exact EK_I (tks_K w (EJ_K h1) (by omega) _)
  · exact EK_I (EJ_K h1)
theorem bgn_I (w : WT T) : EI T (bgn T) 0 := ⟨fun r hr => ⟨Or.inl ⟨rfl, rfl⟩, Or.inl rfl⟩, fun g hg => (w.2.2.2.2.1 g hg).2⟩
theorem evn_I (w : WT T) : ∀ n : Nat, EI T (evn T lo n) n
  | 0 => bgn_I w
  | n + 1 => by
    have := pas_I (lo := lo) w (evn_I w n)
    rw [Int.natCast_add]
    exact this
/-- when it is opened, as it is seen behind minute m -/
def opF (E : Tab) (m : Int) (r : Nat) : Int := if E 1 r ≤ m then E 1 r else -9
end EV
/-- the whole evening -/
def evg (T : Tab) (lo : Nat) : Tab := evn T lo 61
