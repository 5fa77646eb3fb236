/-! What both sides stand for, and what each command does to it. -/
abbrev AS : Type := Tab × Nat × (Nat → Int) × Nat × (Nat → Int) × (Nat → Int) × Int × Tab
abbrev AS.T (S : AS) : Tab := S.1
abbrev AS.n (S : AS) : Nat := S.2.1
abbrev AS.l (S : AS) : Nat → Int := S.2.2.1
abbrev AS.t (S : AS) : Nat := S.2.2.2.1
abbrev AS.w (S : AS) : Nat → Int := S.2.2.2.2.1
abbrev AS.f (S : AS) : Nat → Int := S.2.2.2.2.2.1
abbrev AS.k (S : AS) : Int := S.2.2.2.2.2.2.1
abbrev AS.K (S : AS) : Tab := S.2.2.2.2.2.2.2
abbrev mS (T : Tab) (n : Nat) (l : Nat → Int) (t : Nat) (w f : Nat → Int) (k : Int) (K : Tab) : AS := (T, n, l, t, w, f, k, K)
def WS (S : AS) : Prop := WT S.T ∧ S.n ≤ 96 ∧ (∀ j, j < S.n → 0 ≤ S.l j ∧ S.l j ≤ 255) ∧ S.t ≤ 12 ∧ (S.k = 0 ∨ S.k = 1) ∧ WT S.K
def XS (σ : Sto) (S : AS) : Prop := tb σ 1 = S.T ∧ σ 32 1 = (S.n : Int) ∧ (∀ j, j < S.n → σ 33 j = S.l j) ∧ σ 0 5 = (S.t : Int) ∧ (∀ j, j < S.t → σ 34 j = S.w j) ∧ (∀ j, j < 7 → σ 35 j = S.f j) ∧ σ 0 2 = S.k ∧ (S.k = 1 → tb σ 9 = S.K) ∧ σ 38 0 = 0
def kof (k : Nat) : Nat := if k < 2 then 6 * k else if k < 7 then 7 * k - 2 else 40 + k
def tbK (σ : Sto) (b : Nat) : Tab := fun k j => if k < 7 then (if j < tl k then σ 52 (b + kof k + j) else 0) else if k < 11 then (if j = 0 then σ 52 (b + kof k) else 0) else 0
def MS (σ : Sto) (S : AS) : Prop := tb σ 39 = S.T ∧ σ 39 16 = (S.n : Int) ∧ (∀ j, j < S.n → σ 48 j = S.l j) ∧ σ 39 33 = (S.t : Int) ∧ (∀ j, j < S.t → σ 58 j = S.w j) ∧ (∀ j, j < 7 → σ 47 j = S.f j) ∧ σ 39 20 = S.k ∧ (S.k = 1 → tbK σ 0 = S.K)
def XF (σ σ' : Sto) : Prop := ∀ c, 39 ≤ c → σ' c = σ c
def MG (σ σ' : Sto) : Prop := ∀ c, (c < 39 ∨ c = 63) → σ' c = σ c
theorem XS_MG {σ σ' : Sto} {S : AS} (h : XS σ S) (f : MG σ σ') : XS σ' S := by
  obtain ⟨h1, h2, h3, h4, h5, h6, h7, h8, h9⟩ := h
  refine ⟨(tb_same (fun c a b j => by rw [f c (by omega)])).trans h1, ?_, ?_, ?_, ?_, ?_, ?_, fun z => (tb_same (fun c a b j => by rw [f c (by omega)])).trans (h8 z), ?_⟩
  · rw [f 32 (by omega)]; exact h2
  · rw [f 33 (by omega)]; exact h3
  · rw [f 0 (by omega)]; exact h4
  · rw [f 34 (by omega)]; exact h5
  · rw [f 35 (by omega)]; exact h6
  · rw [f 0 (by omega)]; exact h7
  · rw [f 38 (by omega)]; exact h9
theorem XS_FX {σ σ' : Sto} {S : AS} (h : XS σ S) (f : FX σ σ') : XS σ' S := by
  obtain ⟨h1, h2, h3, h4, h5, h6, h7, h8, h9⟩ := h
  refine ⟨(tb_same (fun c a b j => by rw [f c (by omega)])).trans h1, ?_, ?_, ?_, ?_, ?_, ?_, fun z => (tb_same (fun c a b j => by rw [f c (by omega)])).trans (h8 z), ?_⟩
  · rw [f 32 (by omega)]; exact h2
  · rw [f 33 (by omega)]; exact h3
  · rw [f 0 (by omega)]; exact h4
  · rw [f 34 (by omega)]; exact h5
  · rw [f 35 (by omega)]; exact h6
  · rw [f 0 (by omega)]; exact h7
  · rw [f 38 (by omega)]; exact h9
theorem MS_XF {σ σ' : Sto} {S : AS} (h : MS σ S) (f : XF σ σ') : MS σ' S := by
  obtain ⟨h1, h2, h3, h4, h5, h6, h7, h8⟩ := h
  refine ⟨(tb_same (fun c a b j => by rw [f c (by omega)])).trans h1, ?_, ?_, ?_, ?_, ?_, ?_, fun z => ?_⟩
  · rw [f 39 (by omega)]; exact h2
  · rw [f 48 (by omega)]; exact h3
  · rw [f 39 (by omega)]; exact h4
  · rw [f 58 (by omega)]; exact h5
  · rw [f 47 (by omega)]; exact h6
  · rw [f 39 (by omega)]; exact h7
  · rw [← h8 z]; unfold tbK; rw [f 52 (by omega)]
theorem MS_EM {σ σ' : Sto} {S : AS} (h : MS σ S) (f : EM σ σ') : MS σ' S := by
  obtain ⟨h1, h2, h3, h4, h5, h6, h7, h8⟩ := h
  refine ⟨(EM_T f).trans h1, ?_, ?_, ?_, ?_, ?_, ?_, fun z => ?_⟩
  · rw [f.2 16 (by omega)]; exact h2
  · rw [f.1 48 (by omega) (by omega)]; exact h3
  · rw [f.2 33 (by omega)]; exact h4
  · rw [f.1 58 (by omega) (by omega)]; exact h5
  · rw [f.1 47 (by omega) (by omega)]; exact h6
  · rw [f.2 20 (by omega)]; exact h7
  · rw [← h8 z]; unfold tbK; rw [f.1 52 (by omega) (by omega)]
theorem XF_FX {σ σ' : Sto} (f : FX σ σ') : XF σ σ' := fun c hc => f c (by omega)
theorem XF_r (σ : Sto) : XF σ σ := fun _ _ => rfl
theorem MG_r (σ : Sto) : MG σ σ := fun _ _ => rfl
theorem MG_EM {σ σ' : Sto} (f : EM σ σ') : MG σ σ' := fun c hc => f.1 c (by omega) (by omega)
theorem MG_tr {σ σ1 σ2 : Sto} (h : MG σ σ1) (h2 : MG σ1 σ2) : MG σ σ2 := fun c hc => (h2 c hc).trans (h c hc)
theorem XF_tr {σ σ1 σ2 : Sto} (h : XF σ σ1) (h2 : XF σ1 σ2) : XF σ σ2 := fun c hc => (h2 c hc).trans (h c hc)
def rf (S : AS) (e : Int) : AS := mS S.T S.n S.l S.t S.w (fun j => if j = (-e).toNat then w32 (S.f j + 1) else S.f j) S.k S.K
def rj (S : AS) (e : Int) : Int × AS := (e, rf S e)
def wT (S : AS) (T : Tab) : AS := mS T S.n S.l S.t S.w S.f S.k S.K
abbrev isG (S : AS) (g : Int) : Prop := 0 ≤ g ∧ g < S.T 7 0
abbrev isR (S : AS) (g : Int) : Prop := 0 ≤ g ∧ g < S.T 8 0
abbrev isTwo (S : AS) (a b : Int) : Prop := (0 ≤ a ∧ a < S.T 7 0) ∧ (0 ≤ b ∧ b < S.T 7 0) ∧ a ≠ b
def cLetter (S : AS) (c : Int) : Int × AS := if c < 0 then rj S (-4) else if 255 < c then rj S (-6) else if S.n < 96 then ((S.n : Int) + 1, mS S.T (S.n + 1) (fun j => if j = S.n then c else S.l j) S.t S.w S.f S.k S.K) else rj S (-6)
def cGuest (S : AS) (g x : Int) : Int × AS := if isG S g then (if x = 0 then (S.T 0 g.toNat, S) else if x = 1 then (S.T 1 g.toNat, S) else rj S (-2)) else rj S (-1)
def cRemark (S : AS) (r x : Int) : Int × AS := if isR S r then (if x = 0 then (S.T 2 r.toNat, S) else if x = 1 then (S.T 3 r.toNat, S) else if x = 2 then (S.T 4 r.toNat, S) else if x = 3 then (S.T 5 r.toNat, S) else if x = 4 then (S.T 6 r.toNat, S) else if x = 5 then (minT S.T r.toNat, S) else if x = 6 then (priT S.T r.toNat, S) else if x = 7 then ((mk (hb S.T r.toNat) (gN S.T) : Int), S) else rj S (-2)) else rj S (-1)
def cReady (S : AS) (r v : Int) : Int × AS := if isR S r then (if v < 0 then rj S (-4) else if 59 < v then rj S (-6) else (S.T 6 r.toNat, wT S (sup S.T 6 r.toNat v))) else rj S (-1)
def cMood (S : AS) (g v : Int) : Int × AS := if isG S g then (if v < 0 then rj S (-4) else if 40 < v then rj S (-6) else (S.T 1 g.toNat, wT S (sup S.T 1 g.toNat v))) else rj S (-1)
def cChange (S : AS) (a b : Int) : Int × AS := if isTwo S a b then (swp S.T a.toNat b.toNat 0 a.toNat, wT S (swp S.T a.toNat b.toNat)) else rj S (-1)
def cSet (S : AS) (x v : Int) : Int × AS := if x = 0 then (if v < 1 then rj S (-4) else if 3 < v then rj S (-6) else (S.T 9 0, wT S (sup S.T 9 0 v))) else if x = 1 then (if v < 0 then rj S (-4) else if 9 < v then rj S (-6) else (S.T 10 0, wT S (sup S.T 10 0 v))) else rj S (-2)
def cSums (S : AS) (x : Int) : Int × AS := if x < 0 ∨ 4 < x then rj S (-2) else (if x = 0 then md S.T 0 else if x = 1 then bilA S.T (evg S.T 0) else if x = 2 then opBy S.T (evg S.T 0) 60 else if x = 3 then sbN S.T (evg S.T 0) else lsO (evg S.T 0) (rN S.T), S)
def cOf (S : AS) (r x : Int) : Int × AS := if isR S r then (if x < 0 ∨ 2 < x then rj S (-2) else (if x = 0 then evg S.T 0 0 r.toNat else if x = 1 then opF (evg S.T 0) 60 r.toNat else if evg S.T 0 2 r.toNat = 0 then 0 else 1, S)) else rj S (-1)
def cMoodAt (S : AS) (g m : Int) : Int × AS := if isG S g then (if m < 0 then rj S (-4) else if 60 < m then rj S (-6) else (evn S.T 0 (m.toNat + 1) 3 g.toNat, S)) else rj S (-1)
def cBill (S : AS) (g : Int) : Int × AS := if isG S g then (bilG S.T (evg S.T 0) g, S) else rj S (-1)
def cWithout (S : AS) (r : Int) : Int × AS := if isR S r then (md S.T (2 ^ r.toNat) - md S.T 0, S) else (1000000001, rf S (-1))
def cBest (S : AS) (r : Int) : Int × AS := if isR S r then ((bmF S.T r.toNat 60).1, S) else rj S (-1)
def cCould (S : AS) (x : Int) : Int × AS := if x = 0 then ((mk (fun t => decide (cnt (fun g => lb S.T g t) (gN S.T) = mxl S.T 8)) 8 : Int), S) else if x = 1 then (mxl S.T 8, S) else rj S (-2)
def cSpare (S : AS) (x : Int) : Int × AS := if x = 0 then ((lsF S.T (2 ^ rN S.T) : Int), S) else if x = 1 then (pc8 (lsF S.T (2 ^ rN S.T)), S) else rj S (-2)
def cSilence (S : AS) (x : Int) : Int × AS := if x = 0 then (slong S.T (evg S.T 0) 61, S) else if x = 1 then (sfrom S.T (evg S.T 0) 61, S) else rj S (-2)
def cBusy (S : AS) (x : Int) : Int × AS := if x = 0 then (bzN S.T (evg S.T 0) 1, S) else if x = 1 then (bzN S.T (evg S.T 0) (S.T 9 0), S) else rj S (-2)
def whK (S : AS) (g r : Nat) : Nat := mk (fun v => asT (sup S.T 2 r v) g S.w S.t) 6
def whT (S : AS) (g r : Nat) : Nat := mk (fun v => asT (sup S.T 5 r v) g S.w S.t) 8
def cWho (S : AS) (g r x : Int) : Int × AS := if isG S g ∧ isR S r then (if x = 0 then ((whK S g.toNat r.toNat : Int), S) else if x = 1 then ((whT S g.toNat r.toNat : Int), S) else rj S (-2)) else rj S (-1)
def cHaggle (S : AS) (a b : Int) : Int × AS := if isTwo S a b then (hgF S.T a.toNat b.toNat, S) else rj S (-1)
def cRow (S : AS) (v : Int) : Int × AS := if v < 0 then rj S (-4) else if 99 < v then rj S (-6) else if S.t < 12 then ((S.t : Int) + 1, mS S.T S.n S.l (S.t + 1) (fun j => if j = S.t then v else S.w j) S.f S.k S.K) else rj S (-6)
def jdF (T E : Tab) (w : Nat → Int) (i : Nat) : Nat → Int
  | 0 => -9
  | n + 1 => if w i = opBy T E (5 * ((i : Int) + 1)) then jdF T E w (i + 1) n else i
def cJudge (S : AS) : Int × AS := (jdF S.T (evg S.T 0) S.w 0 S.t, mS S.T S.n S.l 0 S.w S.f S.k S.K)
def cClear (S : AS) : Int × AS := (S.t, mS S.T S.n S.l 0 S.w S.f S.k S.K)
def cLots (S : AS) (n z x : Int) : Int × AS := if n < 1 then rj S (-4) else if 20 < n then rj S (-6) else if x = 0 ∨ x = 1 then (ltS S.T z x n.toNat, S) else rj S (-2)
def cImage (S : AS) : Int × AS := (S.T 7 0, mS S.T S.n S.l S.t S.w S.f 1 S.T)
def cOn (S : AS) : Int × AS := if S.k = 0 then rj S (-3) else (S.K 7 0, wT S S.K)
def cCount (S : AS) (x : Int) : Int × AS := if 11 ≤ x ∧ x ≤ 16 then (S.f (x - 10).toNat, S) else (if x = 0 then S.T 7 0 else if x = 1 then S.T 8 0 else if x = 2 then S.T 9 0 else if x = 3 then S.T 10 0 else if x = 4 then sm (S.T 1) (gN S.T) else if x = 5 then sm (priT S.T) (rN S.T) else if x = 6 then (S.t : Int) else if x = 7 then (S.n : Int) else -9, S)
def gcd' (a b : Int) : Int := max 1 (gdF 100 a b)
def cOdds (S : AS) (t v x : Int) : Int × AS := if t < 2 ∨ v < 0 then (4000000000000000004, rf S (-4)) else if 20 < t ∨ 240 < v then (4000000000000000006, rf S (-6)) else if x = 0 then ((wyF S.T t v (2 ^ rN S.T)).tdiv (gcd' (wyF S.T t v (2 ^ rN S.T)) (pw t (rN S.T))), S) else if x = 1 then ((pw t (rN S.T)).tdiv (gcd' (wyF S.T t v (2 ^ rN S.T)) (pw t (rN S.T))), S) else (4000000000000000002, rf S (-2))
