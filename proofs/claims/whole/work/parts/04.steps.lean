/-! The small machine's steps are the machine's. -/
theorem w32_bm (x : Int) : w32 x = x.bmod (2 ^ 32) := by
  have h : Int.bmod x (2 ^ 32) = (if x % 4294967296 < (4294967296 + 1) / 2 then x % 4294967296 else x % 4294967296 - 4294967296) := rfl
  rw [h]; unfold w32; split <;> omega
theorem w64_bm (x : Int) : w64 x = x.bmod (2 ^ 64) := by
  have h : Int.bmod x (2 ^ 64) = (if x % 18446744073709551616 < (18446744073709551616 + 1) / 2 then x % 18446744073709551616 else x % 18446744073709551616 - 18446744073709551616) := rfl
  rw [h]; unfold w64; split <;> omega
def toI (τ : Nat → Nat → Int32) : Sto := fun c j => (τ c j).toInt
def upT (τ : Nat → Nat → Int32) (c i : Nat) (x : Int32) : Nat → Nat → Int32 := fun c' i' => if c' = c ∧ i' = i then x else τ c' i'
theorem toI_up (τ : Nat → Nat → Int32) (c i : Nat) (x : Int32) : sup (toI τ) c i x.toInt = toI (upT τ c i x) := by
  funext c' i'; simp only [toI, upT, sup]; split <;> rfl
theorem upT_ne {τ : Nat → Nat → Int32} {c i : Nat} {x : Int32} {c' : Nat} (h : c' ≠ c) : upT τ c i x c' = τ c' := by
  funext j; simp [upT, h]
theorem upT_eq {τ : Nat → Nat → Int32} {c i : Nat} {x : Int32} : upT τ c i x c = upd (τ c) i x := by
  funext j; simp [upT, upd]
def VR (ad : Nat → Nat) (v : AV) (w : Value) : Prop := match v with
  | .inl n => ∃ x : Int32, w = .int x ∧ x.toInt = n
  | .inr (.inl k) => w = .ref (ad k)
  | .inr (.inr n) => ∃ x : Int64, w = .long x ∧ x.toInt = n
def SR (ad : Nat → Nat) : List AV → List Value → Prop
  | [], vs => vs = []
  | v :: S, vs => ∃ w r, vs = w :: r ∧ VR ad v w ∧ SR ad S r
def OR (ad : Nat → Nat) (r : Option AV) (rv : Option Value) : Prop := match r, rv with
  | none, none => True
  | some v, some w => VR ad v w
  | _, _ => False
theorem SR_I {ad : Nat → Nat} {n : Int} {S : List AV} {vs : List Value} (h : SR ad (.inl n :: S) vs) : ∃ (x : Int32) (r : List Value), vs = .int x :: r ∧ x.toInt = n ∧ SR ad S r := by
  obtain ⟨w, r, rfl, ⟨x, rfl, hx⟩, h⟩ := h
  exact ⟨x, r, rfl, hx, h⟩
theorem SR_L {ad : Nat → Nat} {n : Int} {S : List AV} {vs : List Value} (h : SR ad (.inr (.inr n) :: S) vs) : ∃ (x : Int64) (r : List Value), vs = .long x :: r ∧ x.toInt = n ∧ SR ad S r := by
  obtain ⟨w, r, rfl, ⟨x, rfl, hx⟩, h⟩ := h
  exact ⟨x, r, rfl, hx, h⟩
theorem SR_R {ad : Nat → Nat} {k : Nat} {S : List AV} {vs : List Value} (h : SR ad (.inr (.inl k) :: S) vs) : ∃ (r : List Value), vs = .ref (ad k) :: r ∧ SR ad S r := by
  obtain ⟨w, r, rfl, rfl, h⟩ := h
  exact ⟨r, rfl, h⟩
theorem SR_i {ad : Nat → Nat} {n : Int} {S : List AV} {vs : List Value} (x : Int32) (hx : x.toInt = n) (h : SR ad S vs) : SR ad (.inl n :: S) (.int x :: vs) := ⟨_, _, rfl, ⟨x, rfl, hx⟩, h⟩
theorem SR_l {ad : Nat → Nat} {n : Int} {S : List AV} {vs : List Value} (x : Int64) (hx : x.toInt = n) (h : SR ad S vs) : SR ad (.inr (.inr n) :: S) (.long x :: vs) := ⟨_, _, rfl, ⟨x, rfl, hx⟩, h⟩
theorem SR_r {ad : Nat → Nat} {k : Nat} {S : List AV} {vs : List Value} (h : SR ad S vs) : SR ad (.inr (.inl k) :: S) (.ref (ad k) :: vs) := ⟨_, _, rfl, rfl, h⟩
theorem SR_len {ad : Nat → Nat} : ∀ {S : List AV} {vs : List Value}, SR ad S vs → S.length = vs.length
  | [], vs, h => by rw [show vs = [] from h]; rfl
  | v :: S, vs, h => by
    obtain ⟨w, r, rfl, -, h⟩ := h
    simp [SR_len h]
theorem SR_split {ad : Nat → Nat} : ∀ (b : Nat) {S : List AV} {vs : List Value}, SR ad S vs → SR ad (S.take b) (vs.take b) ∧ SR ad (S.drop b) (vs.drop b)
  | 0, S, vs, h => ⟨by simp [SR], by simpa using h⟩
  | b + 1, [], vs, h => by rw [show vs = [] from h]; exact ⟨by simp [SR], by simp [SR]⟩
  | b + 1, v :: S, vs, h => by
    obtain ⟨w, r, rfl, hw, h⟩ := h
    obtain ⟨h1, h2⟩ := SR_split b h
    exact ⟨⟨w, _, rfl, hw, h1⟩, h2⟩
theorem SR_app {ad : Nat → Nat} : ∀ {S S' : List AV} {vs vs' : List Value}, SR ad S vs → SR ad S' vs' → SR ad (S ++ S') (vs ++ vs')
  | [], S', vs, vs', h, h' => by rw [show vs = [] from h]; exact h'
  | v :: S, S', vs, vs', h, h' => by
    obtain ⟨w, r, rfl, hw, h⟩ := h
    exact ⟨w, _, rfl, hw, SR_app h h'⟩
theorem SR_rev {ad : Nat → Nat} : ∀ {S : List AV} {vs : List Value}, SR ad S vs → SR ad S.reverse vs.reverse
  | [], vs, h => by rw [show vs = [] from h]; rfl
  | v :: S, vs, h => by
    obtain ⟨w, r, rfl, hw, h⟩ := h
    rw [List.reverse_cons, List.reverse_cons]
    exact SR_app (SR_rev h) ⟨w, [], rfl, hw, rfl⟩
theorem SR_nth {ad : Nat → Nat} : ∀ (b : Nat) {S : List AV} {vs : List Value} {k : Nat}, SR ad S vs → nth S b = some (.inr (.inl k)) → vs.drop b = .ref (ad k) :: vs.drop (b + 1)
  | _, [], vs, k, h, h1 => by simp [nth] at h1
  | 0, v :: S, vs, k, h, h1 => by
    simp only [nth, Option.some.injEq] at h1
    subst h1
    obtain ⟨r, rfl, -⟩ := SR_R h
    rfl
  | b + 1, v :: S, vs, k, h, h1 => by
    obtain ⟨w, r, rfl, -, h⟩ := h
    exact SR_nth b h h1
theorem nth_get {α : Type} : ∀ (l : List α) (i : Nat), nth l i = l[i]?
  | [], i => by simp [nth]
  | a :: l, 0 => by simp [nth]
  | a :: l, i + 1 => by simp [nth, nth_get l i]
theorem nth_lt {α : Type} {l : List α} {i : Nat} {v : α} (h : nth l i = some v) : i < l.length := by
  rw [nth_get] at h
  exact (List.getElem?_eq_some_iff.mp h).1
theorem lk_mem : ∀ {cd : List (Nat × En)} {pc : Nat} {x : En}, lk cd pc = some x → (pc, x) ∈ cd
  | [], _, _, h => by simp [lk] at h
  | (q, y) :: t, pc, x, h => by
    unfold lk at h
    cases hq : Nat.beq q pc with
    | true =>
      rw [hq] at h
      have e1 : q = pc := Nat.eq_of_beq_eq_true hq
      simp only [cond_true, Option.some.injEq] at h
      subst e1; subst h
      exact List.mem_cons_self
    | false =>
      rw [hq] at h
      exact List.mem_cons_of_mem _ (lk_mem h)
/-- the locals: those that are known -/
def LR (ad : Nat → Nat) (nL : Nat) (L : Lo) (ls : Array Slot) : Prop := L.length = nL ∧ ∃ lv, lv_has ls nL lv ∧ ∀ i v, nth L i = some (some v) → ∃ w, (i, w) ∈ lv ∧ VR ad v w
theorem LR_none {ad : Nat → Nat} {nL : Nat} {L : Lo} {ls : Array Slot} (j : Nat) (h : LR ad nL L ls) : LR ad nL (L.set j none) ls := by
  obtain ⟨h1, lv, h2, h3⟩ := h
  refine ⟨by rw [List.length_set]; exact h1, lv, h2, fun i v hi => h3 i v ?_⟩
  rw [nth_get] at hi ⊢
  rw [List.getElem?_set] at hi
  split at hi
  · split at hi <;> simp at hi
  · exact hi
theorem LR_get {ad : Nat → Nat} {nL : Nat} {L : Lo} {ls : Array Slot} {i : Nat} {v : AV} (h : LR ad nL L ls) (hi : nth L i = some (some v)) : ∃ w, ls[i]? = some (.val w) ∧ VR ad v w := by
  obtain ⟨h1, lv, h2, h3⟩ := h
  obtain ⟨w, hw, hv⟩ := h3 i v hi
  exact ⟨w, h2.2.2 (i, w) hw, hv⟩
theorem LR_size {ad : Nat → Nat} {nL : Nat} {L : Lo} {ls : Array Slot} (h : LR ad nL L ls) : ls.size = nL := by
  obtain ⟨-, lv, h2, -⟩ := h
  exact h2.1
theorem VR_cat {ad : Nat → Nat} {v : AV} {w : Value} (h : VR ad v w) (hc : w.category = 2) : ∃ n, v = .inr (.inr n) := by
  match v, h with
  | .inl n, ⟨x, hx, _⟩ => rw [hx] at hc; simp [Value.category] at hc
  | .inr (.inl k), hx => rw [show w = Value.ref (ad k) from hx] at hc; simp [Value.category] at hc
  | .inr (.inr n), _ => exact ⟨n, rfl⟩
theorem kil_len (L : Lo) (i : Nat) : (kil L i).length = L.length := by
  unfold kil
  split
  · rfl
  · split
    · rw [List.length_set]
    · rfl
theorem kil_nth {L : Lo} {i j : Nat} {v : AV} (h : nth (kil L i) j = some (some v)) : nth L j = some (some v) ∧ ¬ (j + 1 = i ∧ ∃ n, v = .inr (.inr n)) := by
  unfold kil at h
  split at h
  · exact ⟨h, fun q => by omega⟩
  · rename_i j0
    split at h
    · rename_i n hn
      rw [nth_get, List.getElem?_set] at h
      split at h
      · split at h <;> simp at h
      · rename_i hne
        exact ⟨by rw [nth_get]; exact h, fun q => hne (by omega)⟩
    · rename_i hno
      refine ⟨h, fun q => ?_⟩
      obtain ⟨q1, n, rfl⟩ := q
      have e : j = j0 := by omega
      subst e
      exact hno n h
theorem LR_set1 {ad : Nat → Nat} {nL : Nat} {L : Lo} {ls : Array Slot} {i : Nat} {v : AV} {w : Value} (h : LR ad nL L ls) (hv : VR ad v w) : ∃ lv, lv_has ls nL lv ∧ ∀ ls' : Array Slot, lv_has ls' nL ((i, w) :: lv.filter (fun q => !(q.1 == i) && !(q.1 + 1 == i && q.2.category == 2))) → LR ad nL (set1 L i v) ls' := by
  obtain ⟨h1, lv, h2, h3⟩ := h
  refine ⟨lv, h2, fun ls' h' => ⟨by rw [set1, List.length_set, kil_len]; exact h1, _, h', fun j u hj => ?_⟩⟩
  rw [set1, nth_get, List.getElem?_set] at hj
  split at hj
  · rename_i e
    subst e
    split at hj
    · simp only [Option.some.injEq] at hj
      subst hj
      exact ⟨w, List.mem_cons_self, hv⟩
    · simp at hj
  · rename_i hne
    obtain ⟨g1, g2⟩ := kil_nth (by rw [nth_get]; exact hj)
    obtain ⟨z, hz, hzv⟩ := h3 j u g1
    refine ⟨z, List.mem_cons_of_mem _ (List.mem_filter.mpr ⟨hz, ?_⟩), hzv⟩
    have n1 : ¬ j = i := fun q => hne q.symm
    simp only [Bool.and_eq_true, Bool.not_eq_true', beq_eq_false_iff_ne, ne_eq, Bool.and_eq_false_iff]
    refine ⟨n1, ?_⟩
    by_cases q : j + 1 = i
    · right
      intro hc
      exact g2 ⟨q, VR_cat hzv hc⟩
    · left; exact q
theorem LR_set2 {ad : Nat → Nat} {nL : Nat} {L : Lo} {ls : Array Slot} {i : Nat} {v : AV} {w : Value} (h : LR ad nL L ls) (hv : VR ad v w) : ∃ lv, lv_has ls nL lv ∧ ∀ ls' : Array Slot, lv_has ls' nL ((i, w) :: lv.filter (fun q => !(q.1 == i) && (!(q.1 == i + 1) && !(q.1 + 1 == i && q.2.category == 2)))) → LR ad nL (set2 L i v) ls' := by
  obtain ⟨h1, lv, h2, h3⟩ := h
  refine ⟨lv, h2, fun ls' h' => ⟨by rw [set2, List.length_set, List.length_set, kil_len]; exact h1, _, h', fun j u hj => ?_⟩⟩
  rw [set2, nth_get, List.getElem?_set] at hj
  split at hj
  · split at hj <;> simp at hj
  · rename_i hne2
    rw [List.getElem?_set] at hj
    split at hj
    · rename_i e
      subst e
      split at hj
      · simp only [Option.some.injEq] at hj
        subst hj
        exact ⟨w, List.mem_cons_self, hv⟩
      · simp at hj
    · rename_i hne
      obtain ⟨g1, g2⟩ := kil_nth (by rw [nth_get]; exact hj)
      obtain ⟨z, hz, hzv⟩ := h3 j u g1
      refine ⟨z, List.mem_cons_of_mem _ (List.mem_filter.mpr ⟨hz, ?_⟩), hzv⟩
      have n1 : ¬ j = i := fun q => hne q.symm
      have n2 : ¬ j = i + 1 := fun q => hne2 q.symm
      simp only [Bool.and_eq_true, Bool.not_eq_true', beq_eq_false_iff_ne, ne_eq, Bool.and_eq_false_iff]
      refine ⟨n1, n2, ?_⟩
      by_cases q : j + 1 = i
      · right
        intro hc
        exact g2 ⟨q, VR_cat hzv hc⟩
      · left; exact q
/-! the world -/
def fval (ad : Nat → Nat) (τ : Nat → Nat → Int32) (c k : Nat) : Value := match rfs c k with
  | some c' => .ref (ad c')
  | none => .int (τ c k)
def celO (ad : Nat → Nat) (cI cB : ClassId) (τ : Nat → Nat → Int32) (c : Nat) : va_E := match nth shapes c with
  | some (.inl (ci, fl)) => .inr (ci, (List.range fl.length).map fun k => fval ad τ c k)
  | some (.inr (bo, n)) => .inl (cond bo cB cI, n, .inl (τ c))
  | none => .inr (0, [])
def wsf (ad : Nat → Nat) (cI cB : ClassId) (τ : Nat → Nat → Int32) : va_W := (List.range 63).map fun c => (ad c, celO ad cI cB τ c)
theorem wsf_at {ad : Nat → Nat} {cI cB : ClassId} {τ : Nat → Nat → Int32} {c : Nat} (hc : c < 63) : (wsf ad cI cB τ)[c]? = some (ad c, celO ad cI cB τ c) := by
  simp [wsf, List.getElem?_range, hc]
theorem celO_ne {ad : Nat → Nat} {cI cB : ClassId} {τ : Nat → Nat → Int32} {c i : Nat} {x : Int32} {c' : Nat} (h : c' ≠ c) : celO ad cI cB (upT τ c i x) c' = celO ad cI cB τ c' := by
  unfold celO fval
  rw [upT_ne h]
theorem wsf_up {ad : Nat → Nat} {cI cB : ClassId} {τ : Nat → Nat → Int32} {c i : Nat} {x : Int32} {E : va_E} (hc : c < 63) (hE : celO ad cI cB (upT τ c i x) c = E) : (wsf ad cI cB τ).set c (ad c, E) = wsf ad cI cB (upT τ c i x) := by
  apply List.ext_getElem?
  intro k
  rw [List.getElem?_set]
  have hlen : (wsf ad cI cB τ).length = 63 := by simp [wsf]
  by_cases hk : k < 63
  · rw [wsf_at hk, wsf_at hk]
    by_cases e : c = k
    · subst e
      rw [if_pos rfl, if_pos (by rw [hlen]; exact hk), hE]
    · rw [if_neg e, celO_ne (fun q => e q.symm)]
  · rw [if_neg (by omega)]
    rw [List.getElem?_eq_none (by rw [hlen]; omega), List.getElem?_eq_none (by simp [wsf]; omega)]
theorem sh_lt {c : Nat} {x : Sh} (h : nth shapes c = some x) : c < 63 := by
  have := nth_lt h
  exact Nat.lt_of_lt_of_le this (Nat.le_of_ble_eq_true rfl)
theorem cof_sh {c a : Nat} (h : cof c = a) (ha : a < 7) : ∃ fl, nth shapes c = some (.inl (a, fl)) := by
  unfold cof at h
  split at h
  · rename_i ci fl hx
    subst h
    exact ⟨fl, hx⟩
  · omega
def shOk (c : Nat) : Bool := match nth shapes c with
  | some (.inl (a, fl)) => Nat.blt a 7 && Nat.beq fl.length (fldT a).2.2
  | _ => true
theorem shOk_all : ∀ c, c < 63 → shOk c = true := by decide +kernel
theorem sh_len {c a : Nat} {fl : List (Option Nat)} (h : nth shapes c = some (.inl (a, fl))) : fl.length = (fldT a).2.2 := by
  have h1 := shOk_all c (sh_lt h)
  unfold shOk at h1
  rw [h] at h1
  simp only [Bool.and_eq_true] at h1
  exact Nat.eq_of_beq_eq_true h1.2
theorem cls9_get : ∀ {a : Nat}, a < 7 → cls9[a]? = some (fldT a)
  | 0, _ => rfl
  | 1, _ => rfl
  | 2, _ => rfl
  | 3, _ => rfl
  | 4, _ => rfl
  | 5, _ => rfl
  | 6, _ => rfl
  | n + 7, h => absurd h (by omega)
theorem fld_ok : ∀ {a : Nat}, a < 7 → (∀ w ∈ u_ws (fldT a).1 (fldT a).2.1 (fldT a).2.2, w ∈ lw_tbl) ∧ ∃ ty : Nat → FieldType, (∀ k, k < (fldT a).2.2 → parseFieldDescriptor ((fldT a).2.1 k).2.2.1 = some (ty k)) ∧ (∀ x, x < (fldT a).2.2 → ∀ y, y < (fldT a).2.2 → x ≠ y → ((fldT a).2.1 x).2.1 ≠ ((fldT a).2.1 y).2.1)
  | 0, _ => ⟨i_X, t_X, t_X_ok, n_X⟩
  | 1, _ => ⟨i_Tb, t_Tb, t_Tb_ok, n_Tb⟩
  | 2, _ => ⟨i_Lt, t_Lt, t_Lt_ok, n_Lt⟩
  | 3, _ => ⟨i_Ev, t_Ev, t_Ev_ok, n_Ev⟩
  | 4, _ => ⟨i_Tr, t_Tr, t_Tr_ok, n_Tr⟩
  | 5, _ => ⟨i_Sh, t_Sh, t_Sh_ok, n_Sh⟩
  | 6, _ => ⟨i_Mo, t_Mo, t_Mo_ok, n_Mo⟩
  | n + 7, h => absurd h (by omega)
def lw_g : List Cond := lw_tbl.filter goodWord
theorem g_mem {w : Cond} (h : w ∈ lw_tbl) (hg : goodWord w = true) : w ∈ lw_g := List.mem_filter.mpr ⟨h, hg⟩
theorem g_tab {i : Nat} {w : Cond} (h : tables_1[i]? = some w) (hg : goodWord w = true) : w ∈ lw_g := g_mem (List.mem_append_right _ (List.mem_of_getElem? h)) hg
theorem good_sub {Ts ws : List Cond} (hT : ∀ w ∈ lw_g, w ∈ Ts) (h : ∀ w ∈ ws, w ∈ lw_g) : GoodIn Ts ws := fun w hw => ⟨hT w (h w hw), good_of_word (List.mem_filter.mp (h w hw)).2⟩
theorem lay_good (C : String) (T : u_T) (k : Nat) : goodWord (u_lay C T k) = true := by
  unfold u_lay
  split <;> rfl
theorem uws_g {C : String} {T : u_T} {N : Nat} (h : ∀ w ∈ u_ws C T N, w ∈ lw_tbl) : ∀ w ∈ u_ws C T N, w ∈ lw_g := fun w hw => g_mem (h w hw) (by
  obtain ⟨k, -, rfl⟩ := List.mem_map.mp hw
  exact lay_good C T k)
def nestA (U : State) : Prop := ∀ o x y h, Cond.methodLinkNest o x y h ∈ lw_tbl → va_Nw (.methodLinkNest o x y h) U
theorem LR_set1H {ad : Nat → Nat} {nL : Nat} {L : Lo} {lv : List (Nat × Value)} {i : Nat} {v : AV} {w : Value} (h1 : L.length = nL) (h3 : ∀ i v, nth L i = some (some v) → ∃ w, (i, w) ∈ lv ∧ VR ad v w) (hv : VR ad v w) {ls' : Array Slot} (h' : lv_has ls' nL ((i, w) :: lv.filter (fun q => !(q.1 == i) && !(q.1 + 1 == i && q.2.category == 2)))) : LR ad nL (set1 L i v) ls' := by
  refine ⟨by rw [set1, List.length_set, kil_len]; exact h1, _, h', fun j u hj => ?_⟩
  rw [set1, nth_get, List.getElem?_set] at hj
  split at hj
  · rename_i e
    subst e
    split at hj
    · simp only [Option.some.injEq] at hj
      subst hj
      exact ⟨w, List.mem_cons_self, hv⟩
    · simp at hj
  · rename_i hne
    obtain ⟨g1, g2⟩ := kil_nth (by rw [nth_get]; exact hj)
    obtain ⟨z, hz, hzv⟩ := h3 j u g1
    refine ⟨z, List.mem_cons_of_mem _ (List.mem_filter.mpr ⟨hz, ?_⟩), hzv⟩
    have n1 : ¬ j = i := fun q => hne q.symm
    simp only [Bool.and_eq_true, Bool.not_eq_true', beq_eq_false_iff_ne, ne_eq, Bool.and_eq_false_iff]
    refine ⟨n1, ?_⟩
    by_cases q : j + 1 = i
    · right
      intro hc
      exact g2 ⟨q, VR_cat hzv hc⟩
    · left; exact q
theorem rem64 (x y : Int64) : (x - (x / y) * y).toInt = x.toInt.tmod y.toInt := by
  rw [← Int64.toInt_mod]
  have h1 := Int64.le_toInt (x % y)
  have h2 := Int64.toInt_lt (x % y)
  rw [Int64.toInt_sub, Int64.toInt_mul, Int64.toInt_div, Int.bmod_mul_bmod, Int.sub_bmod_bmod, Int.mul_comm (x.toInt.tdiv y.toInt), ← Int.tmod_def, ← Int64.toInt_mod]
  exact Int.bmod_eq_of_le_mul_two (by omega) (by omega)
theorem lcm_cmp (x y : Int64) : (lg_cmp x y).toInt = lcm3 x.toInt y.toInt := by
  unfold lg_cmp lcm3
  simp only [gt_iff_lt, Int64.lt_iff_toInt_lt, ← Int64.toInt_inj]
  split
  · rfl
  · split <;> rfl
theorem if_max (x y : Int32) : (if x < y then y else x).toInt = max x.toInt y.toInt := by
  simp only [Int32.lt_iff_toInt_lt]
  split <;> omega
theorem if_min (x y : Int32) : (if y < x then y else x).toInt = min x.toInt y.toInt := by
  simp only [Int32.lt_iff_toInt_lt]
  split <;> omega
theorem if_maxL (x y : Int64) : (if y < x then x else y).toInt = max x.toInt y.toInt := by
  simp only [Int64.lt_iff_toInt_lt]
  split <;> omega
theorem cat_le : ∀ (r : List Value), (r.map fun v => v.category).sum ≤ 2 * r.length
  | [] => by simp
  | v :: r => by
    have h1 := cat_le r
    have h2 : v.category ≤ 2 := by rcases lv_cat v with h | h <;> omega
    simp only [List.map_cons, List.sum_cons, List.length_cons]
    omega
theorem SR_cat {ad : Nat → Nat} : ∀ {S : List AV} {vs : List Value}, SR ad S vs → (vs.map fun v => v.category).sum = catS S
  | [], vs, h => by rw [show vs = [] from h]; rfl
  | .inl n :: S, vs, h => by
    obtain ⟨x, r, rfl, -, h'⟩ := SR_I h
    have := SR_cat h'
    simp only [List.map_cons, List.sum_cons, catS, Value.category] at this ⊢
    omega
  | .inr (.inl k) :: S, vs, h => by
    obtain ⟨r, rfl, h'⟩ := SR_R h
    have := SR_cat h'
    simp only [List.map_cons, List.sum_cons, catS, Value.category] at this ⊢
    omega
  | .inr (.inr n) :: S, vs, h => by
    obtain ⟨x, r, rfl, -, h'⟩ := SR_L h
    have := SR_cat h'
    simp only [List.map_cons, List.sum_cons, catS, Value.category] at this ⊢
    omega
theorem vp_of {j : Int32} {n : Nat} (h : 0 ≤ j.toInt ∧ j.toInt < n) : vp_in j n := by
  unfold vp_in
  rw [Int32.lt_iff_toInt_lt]
  have h0 : (0 : Int32).toInt = 0 := rfl
  have h1 : j.toNatClampNeg = j.toInt.toNat := rfl
  omega
theorem swt_in {ks : List (Int × Nat)} {d : Nat} {x : Int} {X : Nat → Prop} (h : swt ks d x X) : ((∀ q ∈ ks, q.1 ≠ x) ∧ X d) ∨ ∃ (n : Nat) (v : Int) (t : Nat), ks[n]? = some (v, t) ∧ x = v ∧ X t := by
  induction ks with
  | nil => exact Or.inl ⟨fun q hq => absurd hq List.not_mem_nil, h⟩
  | cons a r ih =>
    obtain ⟨v, t⟩ := a
    unfold swt at h
    split at h
    · rename_i e
      exact Or.inr ⟨0, v, t, rfl, e, h⟩
    · rename_i e
      rcases ih h with ⟨h1, h2⟩ | ⟨n, v', t', h1, h2, h3⟩
      · refine Or.inl ⟨fun q hq => ?_, h2⟩
        rcases List.mem_cons.mp hq with rfl | hq
        · exact fun z => e z.symm
        · exact h1 q hq
      · exact Or.inr ⟨n + 1, v', t', h1, h2, h3⟩
theorem swt_off {pc : Nat} {d x : Int} {a : Nat} (ht : (pc : Int) + d = a) {X : Nat → Prop} : ∀ {ks : List (Int × Nat)} {ps : List (Int × Int)}, ks.map (fun q => (q.1, (q.2 : Int))) = ps.map (fun q => (q.1, (pc : Int) + q.2)) → swt ks a x X → ∃ t : Nat, (pc : Int) + Op.lookupswitch.offset ps d x = t ∧ X t
  | [], [], _, h => ⟨a, ht, h⟩
  | [], _ :: _, h, _ => by simp at h
  | _ :: _, [], h, _ => by simp at h
  | (v, t) :: ks, (v', o) :: ps, h, hx => by
    simp only [List.map_cons, List.cons.injEq, Prod.mk.injEq] at h
    obtain ⟨⟨h1, h2⟩, h3⟩ := h
    subst h1
    unfold swt at hx
    rw [Op.lookupswitch.offset_cons]
    split at hx
    · rename_i e
      rw [if_pos e.symm]
      exact ⟨t, h2.symm, hx⟩
    · rename_i e
      rw [if_neg (fun z => e z.symm)]
      exact swt_off ht h3 hx
theorem arr_at {ad : Nat → Nat} {cI cB : ClassId} {τ : Nat → Nat → Int32} {k0 n : Nat} {bo : Bool} (h : alen k0 = some (bo, n)) : k0 < 63 ∧ (wsf ad cI cB τ)[k0]? = some (ad k0, .inl (cond bo cB cI, n, .inl (τ k0))) := by
  unfold alen at h
  split at h
  · rename_i x hx
    simp only [Option.some.injEq] at h
    subst h
    refine ⟨sh_lt hx, ?_⟩
    rw [wsf_at (sh_lt hx)]
    simp only [celO, hx]
  · simp at h
theorem arr_up {ad : Nat → Nat} {cI cB : ClassId} {τ : Nat → Nat → Int32} {k0 n i : Nat} {x : Int32} {bo : Bool} (h : alen k0 = some (bo, n)) : celO ad cI cB (upT τ k0 i x) k0 = .inl (cond bo cB cI, n, .inl (upd (τ k0) i x)) := by
  unfold alen at h
  split at h
  · rename_i y hy
    simp only [Option.some.injEq] at h
    subst h
    simp only [celO, hy, upT_eq]
  · simp at h
def smOk (c : Nat) : Bool := match alen c with
  | some (_, n) => Nat.ble n 1000
  | none => true
theorem smOk_all : ∀ c, c < 63 → smOk c = true := by decide +kernel
theorem alen_small {k0 n : Nat} {bo : Bool} (h : alen k0 = some (bo, n)) : n ≤ 1000 := by
  have h1 := smOk_all k0 (arr_at (ad := id) (cI := 0) (cB := 0) (τ := fun _ _ => 0) h).1
  unfold smOk at h1
  rw [h] at h1
  exact Nat.le_of_ble_eq_true h1
theorem mathW : ∀ (j : Nat), j = 1 ∨ j = 2 ∨ j = 3 → Cond.code (yOf j) (bOf j) (maxOf j) (retOf j) ∈ lw_g ∧ Cond.initialized (yOf j).cls ∈ lw_g ∧ Cond.static (yOf j) ∈ lw_g := by
  intro j hj
  have h := okM_all j (by omega)
  unfold okM at h
  have hs : (rc j).2.2.2.2.1 = 1 := by rcases hj with rfl | rfl | rfl <;> decide +kernel
  simp only [Bool.and_eq_true, decide_eq_true_eq, hs] at h
  obtain ⟨⟨⟨⟨⟨h1, h2⟩, -⟩, -⟩, -⟩, h3⟩ := h
  exact ⟨g_tab h1 rfl, g_tab h2 rfl, g_tab h3 rfl⟩
def wmO (k : Nat) : List Cond := Cond.code (yOf k) (bOf k) (maxOf k) (retOf k) :: lw_g
abbrev tyIB (cI cB : ClassId) : List (ClassId × FieldType) := [(cI, .int), (cB, .boolean)]
def QR (D : va_G) (ad : Nat → Nat) (cI cB : ClassId) (A : Nat → Prop) (xs : Nat → Int32) (Q : PQ) : Array Value → State → Outcome → State → Prop := fun _ st oc t =>
  (∃ (r : Option AV) (rv : Option Value) (τ : Nat → Nat → Int32), oc = .returned rv ∧ OR ad r rv ∧ Q r (toI τ) ∧ τ 63 = xs ∧ va_P D cls9 (wsf ad cI cB τ) t.heap) ∧ va_F A st t
def PU (D : va_G) (ad : Nat → Nat) (cI cB : ClassId) (τ : Nat → Nat → Int32) (U : State) : Prop := va_P D cls9 (wsf ad cI cB τ) U.heap ∧ va_K D cls9 (tyIB cI cB) U ∧ nestA U
def AMX (p : Program) (l : Launch) (e : Env) (R : Room) (s : State) (m : MethodId) (args : Array Value) (below : List Frame) (meth : Method) (c : Code) (cells slots : Nat) (Qe : State → Prop) (nL : Nat) (D : va_G) (ad : Nat → Nat) (cI cB : ClassId) (A0 : Nat → Prop) (H0 : Heap) (xs : Nat → Int32) : Nat → Lo → List AV → Sto → Prop := fun pc L S σ =>
  ∀ (H : Heap) (locs : List Loc) (ls : Array Slot) (vs : List Value) (τ : Nat → Nat → Int32), σ = toI τ → τ 63 = xs → LR ad nL L ls → SR ad S vs → va_P D cls9 (wsf ad cI cB τ) H → va_S A0 H0 H locs → W p l e R s m args below meth c H locs cells slots Qe (F0 m pc ls vs)
def AMC (p : Program) (R : Room) (s : State) (m : MethodId) (args : Array Value) (c : Code) (cells slots : Nat) (own : String) (bytes : ByteArray) (nL : Nat) (Ts : List Cond) (D : va_G) (ad : Nat → Nat) (cI cB : ClassId) (A A0 : Nat → Prop) (H0 : Heap) (xs : Nat → Int32) (sl : Option Nat) : Prop :=
  p.tables.exec = Jvm.exec ∧ c.code = bytes ∧ c.maxLocals = nL ∧ s.vm.findClass own = some m.cls ∧ (∀ w ∈ Ts, w.before args s = true) ∧ (∀ w ∈ lw_g, w ∈ Ts) ∧ va_K D cls9 (tyIB cI cB) s ∧ (∀ τ, va_D A0 (wsf ad cI cB τ)) ∧ ((∀ q, A q → A0 q) ∧ nestA s) ∧ (∀ n, sl = some n → (va_X (ad 63) n xs s H0 ∧ ad 63 < H0.size ∧ ¬ A0 (ad 63) ∧ n ≤ 2048)) ∧ (cells ≤ R.cells ∧ slots ≤ R.slots ∧ 1 ≤ R.frames ∧ 34 ≤ R.locals)
section AMs
variable {p : Program} {l : Launch} {e : Env} {R : Room} {s : State} {m : MethodId} {args : Array Value} {below : List Frame} {meth : Method} {c : Code} {cells slots : Nat} {Qe : State → Prop} {own : String} {bytes : ByteArray} {nL : Nat} {Ts : List Cond} {D : va_G} {ad : Nat → Nat} {cI cB : ClassId} {A A0 : Nat → Prop} {H0 : Heap} {xs : Nat → Int32} {sl : Option Nat}
variable {pc : Nat} {L : Lo} {S : List AV} {σ : Sto}
theorem a_iconst (hc : (AMC p R s m args c cells slots own bytes nL Ts D ad cI cB A A0 H0 xs sl)) {n : Int} (hd : decode bytes pc = .ok (.iconst n, 1)) (hn : -1 ≤ n ∧ n ≤ 5) (k : (AMX p l e R s m args below meth c cells slots Qe nL D ad cI cB A0 H0 xs) (pc + 1) L (vI n :: S) σ) : (AMX p l e R s m args below meth c cells slots Qe nL D ad cI cB A0 H0 xs) pc L S σ := by
  intro H locs ls vs0 τ hσ hxs hL hS0 hP hV
  exact lv_iconst hc.1 hc.2.1 hd rfl (k H locs ls _ τ hσ hxs hL (SR_i (Int32.ofInt n) (by rw [Int32.toInt_ofInt_of_le (by omega) (by omega)]) hS0) hP hV)
theorem a_bipush (hc : (AMC p R s m args c cells slots own bytes nL Ts D ad cI cB A A0 H0 xs sl)) {n : Int} (hd : decode bytes pc = .ok (.bipush n, 2)) (hn : -128 ≤ n ∧ n ≤ 127) (k : (AMX p l e R s m args below meth c cells slots Qe nL D ad cI cB A0 H0 xs) (pc + 2) L (vI n :: S) σ) : (AMX p l e R s m args below meth c cells slots Qe nL D ad cI cB A0 H0 xs) pc L S σ := by
  intro H locs ls vs0 τ hσ hxs hL hS0 hP hV
  exact lv_bipush hc.1 hc.2.1 hd rfl (k H locs ls _ τ hσ hxs hL (SR_i ((Int8.ofInt n).toInt32) (by rw [Int8.toInt_toInt32, Int8.toInt_ofInt_of_le (by omega) (by omega)]) hS0) hP hV)
theorem a_sipush (hc : (AMC p R s m args c cells slots own bytes nL Ts D ad cI cB A A0 H0 xs sl)) {n : Int} (hd : decode bytes pc = .ok (.sipush n, 3)) (hn : -32768 ≤ n ∧ n ≤ 32767) (k : (AMX p l e R s m args below meth c cells slots Qe nL D ad cI cB A0 H0 xs) (pc + 3) L (vI n :: S) σ) : (AMX p l e R s m args below meth c cells slots Qe nL D ad cI cB A0 H0 xs) pc L S σ := by
  intro H locs ls vs0 τ hσ hxs hL hS0 hP hV
  exact lv_sipush hc.1 hc.2.1 hd rfl (k H locs ls _ τ hσ hxs hL (SR_i ((Int16.ofInt n).toInt32) (by rw [Int16.toInt_toInt32, Int16.toInt_ofInt_of_le (by omega) (by omega)]) hS0) hP hV)
theorem a_lconst (hc : (AMC p R s m args c cells slots own bytes nL Ts D ad cI cB A A0 H0 xs sl)) {n : Fin 2} (hd : decode bytes pc = .ok (.lconst n, 1)) (k : (AMX p l e R s m args below meth c cells slots Qe nL D ad cI cB A0 H0 xs) (pc + 1) L (vL (Int.ofNat n.val) :: S) σ) : (AMX p l e R s m args below meth c cells slots Qe nL D ad cI cB A0 H0 xs) pc L S σ := by
  intro H locs ls vs0 τ hσ hxs hL hS0 hP hV
  exact lv_lconst hc.1 hc.2.1 hd rfl (k H locs ls _ τ hσ hxs hL (SR_l (Int64.ofNat n.val) (by rw [Int64.toInt_ofNat_of_lt (by have := n.isLt; omega)]; rfl) hS0) hP hV)
theorem a_ldc (hc : (AMC p R s m args c cells slots own bytes nL Ts D ad cI cB A A0 H0 xs sl)) {x : Nat} {v : Int} (hd : decode bytes pc = .ok (.ldc x, 2)) (hw : Cond.constant own x (Int32.ofInt v) ∈ lw_g) (hv : (Int32.ofInt v).toInt = v) (k : (AMX p l e R s m args below meth c cells slots Qe nL D ad cI cB A0 H0 xs) (pc + 2) L (vI v :: S) σ) : (AMX p l e R s m args below meth c cells slots Qe nL D ad cI cB A0 H0 xs) pc L S σ := by
  intro H locs ls vs0 τ hσ hxs hL hS0 hP hV
  exact lv_ldc hc.1 hc.2.1 hc.2.2.2.1 (hc.2.2.2.2.1 _ (hc.2.2.2.2.2.1 _ hw)) hd (k H locs ls _ τ hσ hxs hL (SR_i _ hv hS0) hP hV)
theorem a_ldc_w (hc : (AMC p R s m args c cells slots own bytes nL Ts D ad cI cB A A0 H0 xs sl)) {x : Nat} {v : Int} (hd : decode bytes pc = .ok (.ldc_w x, 3)) (hw : Cond.constant own x (Int32.ofInt v) ∈ lw_g) (hv : (Int32.ofInt v).toInt = v) (k : (AMX p l e R s m args below meth c cells slots Qe nL D ad cI cB A0 H0 xs) (pc + 3) L (vI v :: S) σ) : (AMX p l e R s m args below meth c cells slots Qe nL D ad cI cB A0 H0 xs) pc L S σ := by
  intro H locs ls vs0 τ hσ hxs hL hS0 hP hV
  exact lv_ldcw hc.1 hc.2.1 hc.2.2.2.1 (hc.2.2.2.2.1 _ (hc.2.2.2.2.2.1 _ hw)) hd (k H locs ls _ τ hσ hxs hL (SR_i _ hv hS0) hP hV)
theorem a_ldc2_w (hc : (AMC p R s m args c cells slots own bytes nL Ts D ad cI cB A A0 H0 xs sl)) {x : Nat} {v : Int} (hd : decode bytes pc = .ok (.ldc2_w x, 3)) (hw : Cond.constantLong own x (Int64.ofInt v) ∈ lw_g) (hv : (Int64.ofInt v).toInt = v) (k : (AMX p l e R s m args below meth c cells slots Qe nL D ad cI cB A0 H0 xs) (pc + 3) L (vL v :: S) σ) : (AMX p l e R s m args below meth c cells slots Qe nL D ad cI cB A0 H0 xs) pc L S σ := by
  intro H locs ls vs0 τ hσ hxs hL hS0 hP hV
  exact lv_ldc2 hc.1 hc.2.1 hc.2.2.2.1 (hc.2.2.2.2.1 _ (hc.2.2.2.2.2.1 _ hw)) hd (k H locs ls _ τ hσ hxs hL (SR_l _ hv hS0) hP hV)
theorem a_iload_n (hc : (AMC p R s m args c cells slots own bytes nL Ts D ad cI cB A A0 H0 xs sl)) {n : Fin 4} {v : Int} (hd : decode bytes pc = .ok (.iload_n n, 1)) (hv : nth L n.val = some (some (vI v))) (k : (AMX p l e R s m args below meth c cells slots Qe nL D ad cI cB A0 H0 xs) (pc + 1) L (vI v :: S) σ) : (AMX p l e R s m args below meth c cells slots Qe nL D ad cI cB A0 H0 xs) pc L S σ := by
  intro H locs ls vs0 τ hσ hxs hL hS0 hP hV
  obtain ⟨w, hw, hv⟩ := LR_get hL hv
  obtain ⟨x, rfl, hx⟩ := hv
  exact lv_iload_n hc.1 hc.2.1 hd rfl hw (k H locs ls _ τ hσ hxs hL (SR_i x hx hS0) hP hV)
theorem a_iload (hc : (AMC p R s m args c cells slots own bytes nL Ts D ad cI cB A A0 H0 xs sl)) {n : Nat} {v : Int} (hd : decode bytes pc = .ok (.iload n, 2)) (hv : nth L n = some (some (vI v))) (k : (AMX p l e R s m args below meth c cells slots Qe nL D ad cI cB A0 H0 xs) (pc + 2) L (vI v :: S) σ) : (AMX p l e R s m args below meth c cells slots Qe nL D ad cI cB A0 H0 xs) pc L S σ := by
  intro H locs ls vs0 τ hσ hxs hL hS0 hP hV
  obtain ⟨w, hw, hv⟩ := LR_get hL hv
  obtain ⟨x, rfl, hx⟩ := hv
  exact lv_iload hc.1 hc.2.1 hd hw (k H locs ls _ τ hσ hxs hL (SR_i x hx hS0) hP hV)
theorem a_lload_n (hc : (AMC p R s m args c cells slots own bytes nL Ts D ad cI cB A A0 H0 xs sl)) {n : Fin 4} {v : Int} (hd : decode bytes pc = .ok (.lload_n n, 1)) (hv : nth L n.val = some (some (vL v))) (k : (AMX p l e R s m args below meth c cells slots Qe nL D ad cI cB A0 H0 xs) (pc + 1) L (vL v :: S) σ) : (AMX p l e R s m args below meth c cells slots Qe nL D ad cI cB A0 H0 xs) pc L S σ := by
  intro H locs ls vs0 τ hσ hxs hL hS0 hP hV
  obtain ⟨w, hw, hv⟩ := LR_get hL hv
  obtain ⟨x, rfl, hx⟩ := hv
  exact lv_lload_n hc.1 hc.2.1 hd rfl hw (k H locs ls _ τ hσ hxs hL (SR_l x hx hS0) hP hV)
theorem a_lload (hc : (AMC p R s m args c cells slots own bytes nL Ts D ad cI cB A A0 H0 xs sl)) {n : Nat} {v : Int} (hd : decode bytes pc = .ok (.lload n, 2)) (hv : nth L n = some (some (vL v))) (k : (AMX p l e R s m args below meth c cells slots Qe nL D ad cI cB A0 H0 xs) (pc + 2) L (vL v :: S) σ) : (AMX p l e R s m args below meth c cells slots Qe nL D ad cI cB A0 H0 xs) pc L S σ := by
  intro H locs ls vs0 τ hσ hxs hL hS0 hP hV
  obtain ⟨w, hw, hv⟩ := LR_get hL hv
  obtain ⟨x, rfl, hx⟩ := hv
  exact lv_lload hc.1 hc.2.1 hd hw (k H locs ls _ τ hσ hxs hL (SR_l x hx hS0) hP hV)
theorem a_aload_n (hc : (AMC p R s m args c cells slots own bytes nL Ts D ad cI cB A A0 H0 xs sl)) {n : Fin 4} {v : Nat} (hd : decode bytes pc = .ok (.aload_n n, 1)) (hv : nth L n.val = some (some (vR v))) (k : (AMX p l e R s m args below meth c cells slots Qe nL D ad cI cB A0 H0 xs) (pc + 1) L (vR v :: S) σ) : (AMX p l e R s m args below meth c cells slots Qe nL D ad cI cB A0 H0 xs) pc L S σ := by
  intro H locs ls vs0 τ hσ hxs hL hS0 hP hV
  obtain ⟨w, hw, hv⟩ := LR_get hL hv
  obtain rfl := hv
  exact lv_aload_n hc.1 hc.2.1 hd rfl hw (k H locs ls _ τ hσ hxs hL (SR_r hS0) hP hV)
theorem a_aload (hc : (AMC p R s m args c cells slots own bytes nL Ts D ad cI cB A A0 H0 xs sl)) {n : Nat} {v : Nat} (hd : decode bytes pc = .ok (.aload n, 2)) (hv : nth L n = some (some (vR v))) (k : (AMX p l e R s m args below meth c cells slots Qe nL D ad cI cB A0 H0 xs) (pc + 2) L (vR v :: S) σ) : (AMX p l e R s m args below meth c cells slots Qe nL D ad cI cB A0 H0 xs) pc L S σ := by
  intro H locs ls vs0 τ hσ hxs hL hS0 hP hV
  obtain ⟨w, hw, hv⟩ := LR_get hL hv
  obtain rfl := hv
  exact lv_aload hc.1 hc.2.1 hd hw (k H locs ls _ τ hσ hxs hL (SR_r hS0) hP hV)
theorem a_istore_n (hc : (AMC p R s m args c cells slots own bytes nL Ts D ad cI cB A A0 H0 xs sl)) {n : Fin 4} {v : Int} (hd : decode bytes pc = .ok (.istore_n n, 1)) (hn : n.val < L.length) (k : (AMX p l e R s m args below meth c cells slots Qe nL D ad cI cB A0 H0 xs) (pc + 1) (set1 L n.val (vI v)) S σ) : (AMX p l e R s m args below meth c cells slots Qe nL D ad cI cB A0 H0 xs) pc L (vI v :: S) σ := by
  intro H locs ls vs0 τ hσ hxs hL hS0 hP hV
  obtain ⟨x, vs1, rfl, rfl, hS1⟩ := SR_I hS0
  obtain ⟨lv, h1, h2⟩ := LR_set1 (i := n.val) (v := vI _) hL ⟨x, rfl, rfl⟩
  exact lv_istore_n hc.1 hc.2.1 hd rfl h1 (by rw [← hL.1]; exact hn) rfl (fun ls' h' => k H locs ls' _ τ hσ hxs (h2 ls' h') hS1 hP hV)
theorem a_istore (hc : (AMC p R s m args c cells slots own bytes nL Ts D ad cI cB A A0 H0 xs sl)) {n : Nat} {v : Int} (hd : decode bytes pc = .ok (.istore n, 2)) (hn : n < L.length) (k : (AMX p l e R s m args below meth c cells slots Qe nL D ad cI cB A0 H0 xs) (pc + 2) (set1 L n (vI v)) S σ) : (AMX p l e R s m args below meth c cells slots Qe nL D ad cI cB A0 H0 xs) pc L (vI v :: S) σ := by
  intro H locs ls vs0 τ hσ hxs hL hS0 hP hV
  obtain ⟨x, vs1, rfl, rfl, hS1⟩ := SR_I hS0
  obtain ⟨lv, h1, h2⟩ := LR_set1 (i := n) (v := vI _) hL ⟨x, rfl, rfl⟩
  exact lv_istore hc.1 hc.2.1 hd h1 (by rw [← hL.1]; exact hn) rfl (fun ls' h' => k H locs ls' _ τ hσ hxs (h2 ls' h') hS1 hP hV)
theorem a_astore_n (hc : (AMC p R s m args c cells slots own bytes nL Ts D ad cI cB A A0 H0 xs sl)) {n : Fin 4} {v : Nat} (hd : decode bytes pc = .ok (.astore_n n, 1)) (hn : n.val < L.length) (k : (AMX p l e R s m args below meth c cells slots Qe nL D ad cI cB A0 H0 xs) (pc + 1) (set1 L n.val (vR v)) S σ) : (AMX p l e R s m args below meth c cells slots Qe nL D ad cI cB A0 H0 xs) pc L (vR v :: S) σ := by
  intro H locs ls vs0 τ hσ hxs hL hS0 hP hV
  obtain ⟨vs1, rfl, hS1⟩ := SR_R hS0
  obtain ⟨lv, h1, h2⟩ := LR_set1 (i := n.val) (v := vR _) hL rfl
  exact lv_astore_n hc.1 hc.2.1 hd rfl h1 (by rw [← hL.1]; exact hn) rfl (fun ls' h' => k H locs ls' _ τ hσ hxs (h2 ls' h') hS1 hP hV)
theorem a_astore (hc : (AMC p R s m args c cells slots own bytes nL Ts D ad cI cB A A0 H0 xs sl)) {n : Nat} {v : Nat} (hd : decode bytes pc = .ok (.astore n, 2)) (hn : n < L.length) (k : (AMX p l e R s m args below meth c cells slots Qe nL D ad cI cB A0 H0 xs) (pc + 2) (set1 L n (vR v)) S σ) : (AMX p l e R s m args below meth c cells slots Qe nL D ad cI cB A0 H0 xs) pc L (vR v :: S) σ := by
  intro H locs ls vs0 τ hσ hxs hL hS0 hP hV
  obtain ⟨vs1, rfl, hS1⟩ := SR_R hS0
  obtain ⟨lv, h1, h2⟩ := LR_set1 (i := n) (v := vR _) hL rfl
  exact lv_astore hc.1 hc.2.1 hd h1 (by rw [← hL.1]; exact hn) rfl (fun ls' h' => k H locs ls' _ τ hσ hxs (h2 ls' h') hS1 hP hV)
theorem a_lstore_n (hc : (AMC p R s m args c cells slots own bytes nL Ts D ad cI cB A A0 H0 xs sl)) {n : Fin 4} {v : Int} (hd : decode bytes pc = .ok (.lstore_n n, 1)) (hn : n.val + 1 < L.length) (k : (AMX p l e R s m args below meth c cells slots Qe nL D ad cI cB A0 H0 xs) (pc + 1) (set2 L n.val (vL v)) S σ) : (AMX p l e R s m args below meth c cells slots Qe nL D ad cI cB A0 H0 xs) pc L (vL v :: S) σ := by
  intro H locs ls vs0 τ hσ hxs hL hS0 hP hV
  obtain ⟨x, vs1, rfl, rfl, hS1⟩ := SR_L hS0
  obtain ⟨lv, h1, h2⟩ := LR_set2 (i := n.val) (v := vL _) hL ⟨x, rfl, rfl⟩
  exact lv_lstore_n hc.1 hc.2.1 hd rfl h1 (by rw [← hL.1]; exact hn) rfl (fun ls' h' => k H locs ls' _ τ hσ hxs (h2 ls' h') hS1 hP hV)
theorem a_lstore (hc : (AMC p R s m args c cells slots own bytes nL Ts D ad cI cB A A0 H0 xs sl)) {n : Nat} {v : Int} (hd : decode bytes pc = .ok (.lstore n, 2)) (hn : n + 1 < L.length) (k : (AMX p l e R s m args below meth c cells slots Qe nL D ad cI cB A0 H0 xs) (pc + 2) (set2 L n (vL v)) S σ) : (AMX p l e R s m args below meth c cells slots Qe nL D ad cI cB A0 H0 xs) pc L (vL v :: S) σ := by
  intro H locs ls vs0 τ hσ hxs hL hS0 hP hV
  obtain ⟨x, vs1, rfl, rfl, hS1⟩ := SR_L hS0
  obtain ⟨lv, h1, h2⟩ := LR_set2 (i := n) (v := vL _) hL ⟨x, rfl, rfl⟩
  exact lv_lstore hc.1 hc.2.1 hd h1 (by rw [← hL.1]; exact hn) rfl (fun ls' h' => k H locs ls' _ τ hσ hxs (h2 ls' h') hS1 hP hV)
theorem a_iinc (hc : (AMC p R s m args c cells slots own bytes nL Ts D ad cI cB A A0 H0 xs sl)) {n : Nat} {d v : Int} (hd : decode bytes pc = .ok (.iinc n d, 3)) (hr : -128 ≤ d ∧ d ≤ 127) (hv : nth L n = some (some (vI v))) (k : (AMX p l e R s m args below meth c cells slots Qe nL D ad cI cB A0 H0 xs) (pc + 3) (set1 L n (vI (w32 (v + d)))) S σ) : (AMX p l e R s m args below meth c cells slots Qe nL D ad cI cB A0 H0 xs) pc L S σ := by
  intro H locs ls vs0 τ hσ hxs hL hS0 hP hV
  obtain ⟨h1, lv, h2, h3⟩ := id hL
  obtain ⟨w, hw, x, rfl, rfl⟩ := h3 n _ hv
  obtain ⟨i, hi⟩ := List.getElem?_of_mem hw
  have hx : VR ad (vI (w32 (x.toInt + d))) (Value.int (x + Int32.ofInt d)) := ⟨_, rfl, by rw [Int32.toInt_add, w32_bm, Int32.toInt_ofInt_of_le (by omega) (by omega)]⟩
  refine lv_iinc hc.1 hc.2.1 hd h2 hi rfl (by rw [← h1]; exact nth_lt hv) rfl (fun ls' h' => k H locs ls' _ τ hσ hxs ?_ hS0 hP hV)
  exact LR_set1H h1 h3 hx h'
theorem a_iadd (hc : (AMC p R s m args c cells slots own bytes nL Ts D ad cI cB A A0 H0 xs sl)) {x y : Int} (hd : decode bytes pc = .ok (.iadd, 1)) (k : (AMX p l e R s m args below meth c cells slots Qe nL D ad cI cB A0 H0 xs) (pc + 1) L (vI (w32 (x + y)) :: S) σ) : (AMX p l e R s m args below meth c cells slots Qe nL D ad cI cB A0 H0 xs) pc L (vI y :: vI x :: S) σ := by
  intro H locs ls vs0 τ hσ hxs hL hS0 hP hV
  obtain ⟨y, vs1, rfl, rfl, hS1⟩ := SR_I hS0
  obtain ⟨x, vs2, rfl, rfl, hS2⟩ := SR_I hS1
  exact lv_iadd hc.1 hc.2.1 hd (k H locs ls _ τ hσ hxs hL (SR_i (x + y) (by rw [Int32.toInt_add, w32_bm]) hS2) hP hV)
theorem a_isub (hc : (AMC p R s m args c cells slots own bytes nL Ts D ad cI cB A A0 H0 xs sl)) {x y : Int} (hd : decode bytes pc = .ok (.isub, 1)) (k : (AMX p l e R s m args below meth c cells slots Qe nL D ad cI cB A0 H0 xs) (pc + 1) L (vI (w32 (x - y)) :: S) σ) : (AMX p l e R s m args below meth c cells slots Qe nL D ad cI cB A0 H0 xs) pc L (vI y :: vI x :: S) σ := by
  intro H locs ls vs0 τ hσ hxs hL hS0 hP hV
  obtain ⟨y, vs1, rfl, rfl, hS1⟩ := SR_I hS0
  obtain ⟨x, vs2, rfl, rfl, hS2⟩ := SR_I hS1
  exact lv_isub hc.1 hc.2.1 hd (k H locs ls _ τ hσ hxs hL (SR_i (x - y) (by rw [Int32.toInt_sub, w32_bm]) hS2) hP hV)
theorem a_imul (hc : (AMC p R s m args c cells slots own bytes nL Ts D ad cI cB A A0 H0 xs sl)) {x y : Int} (hd : decode bytes pc = .ok (.imul, 1)) (k : (AMX p l e R s m args below meth c cells slots Qe nL D ad cI cB A0 H0 xs) (pc + 1) L (vI (w32 (x * y)) :: S) σ) : (AMX p l e R s m args below meth c cells slots Qe nL D ad cI cB A0 H0 xs) pc L (vI y :: vI x :: S) σ := by
  intro H locs ls vs0 τ hσ hxs hL hS0 hP hV
  obtain ⟨y, vs1, rfl, rfl, hS1⟩ := SR_I hS0
  obtain ⟨x, vs2, rfl, rfl, hS2⟩ := SR_I hS1
  exact lv_imul hc.1 hc.2.1 hd (k H locs ls _ τ hσ hxs hL (SR_i (x * y) (by rw [Int32.toInt_mul, w32_bm]) hS2) hP hV)
theorem a_idiv (hc : (AMC p R s m args c cells slots own bytes nL Ts D ad cI cB A A0 H0 xs sl)) {x y : Int} (hd : decode bytes pc = .ok (.idiv, 1)) (hy : ¬ y = 0) (k : (AMX p l e R s m args below meth c cells slots Qe nL D ad cI cB A0 H0 xs) (pc + 1) L (vI (w32 (x.tdiv y)) :: S) σ) : (AMX p l e R s m args below meth c cells slots Qe nL D ad cI cB A0 H0 xs) pc L (vI y :: vI x :: S) σ := by
  intro H locs ls vs0 τ hσ hxs hL hS0 hP hV
  obtain ⟨y, vs1, rfl, rfl, hS1⟩ := SR_I hS0
  obtain ⟨x, vs2, rfl, rfl, hS2⟩ := SR_I hS1
  exact lv_idiv hc.1 hc.2.1 hd (fun q => hy (by rw [q]; rfl)) (k H locs ls _ τ hσ hxs hL (SR_i (x / y) (by rw [Int32.toInt_div, w32_bm]) hS2) hP hV)
theorem a_irem (hc : (AMC p R s m args c cells slots own bytes nL Ts D ad cI cB A A0 H0 xs sl)) {x y : Int} (hd : decode bytes pc = .ok (.irem, 1)) (hy : ¬ y = 0) (k : (AMX p l e R s m args below meth c cells slots Qe nL D ad cI cB A0 H0 xs) (pc + 1) L (vI (x.tmod y) :: S) σ) : (AMX p l e R s m args below meth c cells slots Qe nL D ad cI cB A0 H0 xs) pc L (vI y :: vI x :: S) σ := by
  intro H locs ls vs0 τ hσ hxs hL hS0 hP hV
  obtain ⟨y, vs1, rfl, rfl, hS1⟩ := SR_I hS0
  obtain ⟨x, vs2, rfl, rfl, hS2⟩ := SR_I hS1
  exact lv_irem hc.1 hc.2.1 hd (fun q => hy (by rw [q]; rfl)) (k H locs ls _ τ hσ hxs hL (SR_i (x - x / y * y) (rem_toInt x y) hS2) hP hV)
theorem a_iand (hc : (AMC p R s m args c cells slots own bytes nL Ts D ad cI cB A A0 H0 xs sl)) {x y : Int} (hd : decode bytes pc = .ok (.iand, 1)) (k : (AMX p l e R s m args below meth c cells slots Qe nL D ad cI cB A0 H0 xs) (pc + 1) L (vI (iand x y) :: S) σ) : (AMX p l e R s m args below meth c cells slots Qe nL D ad cI cB A0 H0 xs) pc L (vI y :: vI x :: S) σ := by
  intro H locs ls vs0 τ hσ hxs hL hS0 hP hV
  obtain ⟨y, vs1, rfl, rfl, hS1⟩ := SR_I hS0
  obtain ⟨x, vs2, rfl, rfl, hS2⟩ := SR_I hS1
  exact lv_iand hc.1 hc.2.1 hd (k H locs ls _ τ hσ hxs hL (SR_i (x &&& y) (by simp only [iand, Int32.ofInt_toInt]) hS2) hP hV)
theorem a_ior (hc : (AMC p R s m args c cells slots own bytes nL Ts D ad cI cB A A0 H0 xs sl)) {x y : Int} (hd : decode bytes pc = .ok (.ior, 1)) (k : (AMX p l e R s m args below meth c cells slots Qe nL D ad cI cB A0 H0 xs) (pc + 1) L (vI (ior x y) :: S) σ) : (AMX p l e R s m args below meth c cells slots Qe nL D ad cI cB A0 H0 xs) pc L (vI y :: vI x :: S) σ := by
  intro H locs ls vs0 τ hσ hxs hL hS0 hP hV
  obtain ⟨y, vs1, rfl, rfl, hS1⟩ := SR_I hS0
  obtain ⟨x, vs2, rfl, rfl, hS2⟩ := SR_I hS1
  exact lv_ior hc.1 hc.2.1 hd (k H locs ls _ τ hσ hxs hL (SR_i (x ||| y) (by simp only [ior, Int32.ofInt_toInt]) hS2) hP hV)
theorem a_ixor (hc : (AMC p R s m args c cells slots own bytes nL Ts D ad cI cB A A0 H0 xs sl)) {x y : Int} (hd : decode bytes pc = .ok (.ixor, 1)) (k : (AMX p l e R s m args below meth c cells slots Qe nL D ad cI cB A0 H0 xs) (pc + 1) L (vI (ixor x y) :: S) σ) : (AMX p l e R s m args below meth c cells slots Qe nL D ad cI cB A0 H0 xs) pc L (vI y :: vI x :: S) σ := by
  intro H locs ls vs0 τ hσ hxs hL hS0 hP hV
  obtain ⟨y, vs1, rfl, rfl, hS1⟩ := SR_I hS0
  obtain ⟨x, vs2, rfl, rfl, hS2⟩ := SR_I hS1
  exact lv_ixor hc.1 hc.2.1 hd (k H locs ls _ τ hσ hxs hL (SR_i (x ^^^ y) (by simp only [ixor, Int32.ofInt_toInt]) hS2) hP hV)
theorem a_ishl (hc : (AMC p R s m args c cells slots own bytes nL Ts D ad cI cB A A0 H0 xs sl)) {x y : Int} (hd : decode bytes pc = .ok (.ishl, 1)) (k : (AMX p l e R s m args below meth c cells slots Qe nL D ad cI cB A0 H0 xs) (pc + 1) L (vI (ishl x y) :: S) σ) : (AMX p l e R s m args below meth c cells slots Qe nL D ad cI cB A0 H0 xs) pc L (vI y :: vI x :: S) σ := by
  intro H locs ls vs0 τ hσ hxs hL hS0 hP hV
  obtain ⟨y, vs1, rfl, rfl, hS1⟩ := SR_I hS0
  obtain ⟨x, vs2, rfl, rfl, hS2⟩ := SR_I hS1
  exact lv_ishl hc.1 hc.2.1 hd (k H locs ls _ τ hσ hxs hL (SR_i (x <<< (y &&& 31)) (by simp only [ishl, Int32.ofInt_toInt]) hS2) hP hV)
theorem a_ishr (hc : (AMC p R s m args c cells slots own bytes nL Ts D ad cI cB A A0 H0 xs sl)) {x y : Int} (hd : decode bytes pc = .ok (.ishr, 1)) (k : (AMX p l e R s m args below meth c cells slots Qe nL D ad cI cB A0 H0 xs) (pc + 1) L (vI (ishr x y) :: S) σ) : (AMX p l e R s m args below meth c cells slots Qe nL D ad cI cB A0 H0 xs) pc L (vI y :: vI x :: S) σ := by
  intro H locs ls vs0 τ hσ hxs hL hS0 hP hV
  obtain ⟨y, vs1, rfl, rfl, hS1⟩ := SR_I hS0
  obtain ⟨x, vs2, rfl, rfl, hS2⟩ := SR_I hS1
  exact lv_ishr hc.1 hc.2.1 hd (k H locs ls _ τ hσ hxs hL (SR_i (x >>> (y &&& 31)) (by simp only [ishr, Int32.ofInt_toInt]) hS2) hP hV)
theorem a_iushr (hc : (AMC p R s m args c cells slots own bytes nL Ts D ad cI cB A A0 H0 xs sl)) {x y : Int} (hd : decode bytes pc = .ok (.iushr, 1)) (k : (AMX p l e R s m args below meth c cells slots Qe nL D ad cI cB A0 H0 xs) (pc + 1) L (vI (iushr x y) :: S) σ) : (AMX p l e R s m args below meth c cells slots Qe nL D ad cI cB A0 H0 xs) pc L (vI y :: vI x :: S) σ := by
  intro H locs ls vs0 τ hσ hxs hL hS0 hP hV
  obtain ⟨y, vs1, rfl, rfl, hS1⟩ := SR_I hS0
  obtain ⟨x, vs2, rfl, rfl, hS2⟩ := SR_I hS1
  exact lv_iushr hc.1 hc.2.1 hd rfl (k H locs ls _ τ hσ hxs hL (SR_i ((x.toUInt32 >>> (y.toUInt32 &&& Int32.toUInt32 31)).toInt32) (by simp only [iushr, Int32.ofInt_toInt]) hS2) hP hV)
theorem a_ladd (hc : (AMC p R s m args c cells slots own bytes nL Ts D ad cI cB A A0 H0 xs sl)) {x y : Int} (hd : decode bytes pc = .ok (.ladd, 1)) (k : (AMX p l e R s m args below meth c cells slots Qe nL D ad cI cB A0 H0 xs) (pc + 1) L (vL (w64 (x + y)) :: S) σ) : (AMX p l e R s m args below meth c cells slots Qe nL D ad cI cB A0 H0 xs) pc L (vL y :: vL x :: S) σ := by
  intro H locs ls vs0 τ hσ hxs hL hS0 hP hV
  obtain ⟨y, vs1, rfl, rfl, hS1⟩ := SR_L hS0
  obtain ⟨x, vs2, rfl, rfl, hS2⟩ := SR_L hS1
  exact lv_ladd hc.1 hc.2.1 hd (k H locs ls _ τ hσ hxs hL (SR_l (x + y) (by rw [Int64.toInt_add, w64_bm]) hS2) hP hV)
theorem a_lsub (hc : (AMC p R s m args c cells slots own bytes nL Ts D ad cI cB A A0 H0 xs sl)) {x y : Int} (hd : decode bytes pc = .ok (.lsub, 1)) (k : (AMX p l e R s m args below meth c cells slots Qe nL D ad cI cB A0 H0 xs) (pc + 1) L (vL (w64 (x - y)) :: S) σ) : (AMX p l e R s m args below meth c cells slots Qe nL D ad cI cB A0 H0 xs) pc L (vL y :: vL x :: S) σ := by
  intro H locs ls vs0 τ hσ hxs hL hS0 hP hV
  obtain ⟨y, vs1, rfl, rfl, hS1⟩ := SR_L hS0
  obtain ⟨x, vs2, rfl, rfl, hS2⟩ := SR_L hS1
  exact lv_lsub hc.1 hc.2.1 hd (k H locs ls _ τ hσ hxs hL (SR_l (x - y) (by rw [Int64.toInt_sub, w64_bm]) hS2) hP hV)
theorem a_lmul (hc : (AMC p R s m args c cells slots own bytes nL Ts D ad cI cB A A0 H0 xs sl)) {x y : Int} (hd : decode bytes pc = .ok (.lmul, 1)) (k : (AMX p l e R s m args below meth c cells slots Qe nL D ad cI cB A0 H0 xs) (pc + 1) L (vL (w64 (x * y)) :: S) σ) : (AMX p l e R s m args below meth c cells slots Qe nL D ad cI cB A0 H0 xs) pc L (vL y :: vL x :: S) σ := by
  intro H locs ls vs0 τ hσ hxs hL hS0 hP hV
  obtain ⟨y, vs1, rfl, rfl, hS1⟩ := SR_L hS0
  obtain ⟨x, vs2, rfl, rfl, hS2⟩ := SR_L hS1
  exact lv_lmul hc.1 hc.2.1 hd (k H locs ls _ τ hσ hxs hL (SR_l (x * y) (by rw [Int64.toInt_mul, w64_bm]) hS2) hP hV)
theorem a_ldiv (hc : (AMC p R s m args c cells slots own bytes nL Ts D ad cI cB A A0 H0 xs sl)) {x y : Int} (hd : decode bytes pc = .ok (.ldiv, 1)) (hy : ¬ y = 0) (k : (AMX p l e R s m args below meth c cells slots Qe nL D ad cI cB A0 H0 xs) (pc + 1) L (vL (w64 (x.tdiv y)) :: S) σ) : (AMX p l e R s m args below meth c cells slots Qe nL D ad cI cB A0 H0 xs) pc L (vL y :: vL x :: S) σ := by
  intro H locs ls vs0 τ hσ hxs hL hS0 hP hV
  obtain ⟨y, vs1, rfl, rfl, hS1⟩ := SR_L hS0
  obtain ⟨x, vs2, rfl, rfl, hS2⟩ := SR_L hS1
  exact lv_ldiv hc.1 hc.2.1 hd (fun q => hy (by rw [q]; rfl)) (k H locs ls _ τ hσ hxs hL (SR_l (x / y) (by rw [Int64.toInt_div, w64_bm]) hS2) hP hV)
theorem a_lrem (hc : (AMC p R s m args c cells slots own bytes nL Ts D ad cI cB A A0 H0 xs sl)) {x y : Int} (hd : decode bytes pc = .ok (.lrem, 1)) (hy : ¬ y = 0) (k : (AMX p l e R s m args below meth c cells slots Qe nL D ad cI cB A0 H0 xs) (pc + 1) L (vL (x.tmod y) :: S) σ) : (AMX p l e R s m args below meth c cells slots Qe nL D ad cI cB A0 H0 xs) pc L (vL y :: vL x :: S) σ := by
  intro H locs ls vs0 τ hσ hxs hL hS0 hP hV
  obtain ⟨y, vs1, rfl, rfl, hS1⟩ := SR_L hS0
  obtain ⟨x, vs2, rfl, rfl, hS2⟩ := SR_L hS1
  exact lv_lrem hc.1 hc.2.1 hd (fun q => hy (by rw [q]; rfl)) (k H locs ls _ τ hσ hxs hL (SR_l (x - x / y * y) (rem64 x y) hS2) hP hV)
theorem a_lcmp (hc : (AMC p R s m args c cells slots own bytes nL Ts D ad cI cB A A0 H0 xs sl)) {x y : Int} (hd : decode bytes pc = .ok (.lcmp, 1)) (k : (AMX p l e R s m args below meth c cells slots Qe nL D ad cI cB A0 H0 xs) (pc + 1) L (vI (lcm3 x y) :: S) σ) : (AMX p l e R s m args below meth c cells slots Qe nL D ad cI cB A0 H0 xs) pc L (vL y :: vL x :: S) σ := by
  intro H locs ls vs0 τ hσ hxs hL hS0 hP hV
  obtain ⟨y, vs1, rfl, rfl, hS1⟩ := SR_L hS0
  obtain ⟨x, vs2, rfl, rfl, hS2⟩ := SR_L hS1
  exact W.lcmp hc.1 hc.2.1 hd (k H locs ls _ τ hσ hxs hL (SR_i (lg_cmp x y) (lcm_cmp x y) hS2) hP hV)
theorem a_ineg (hc : (AMC p R s m args c cells slots own bytes nL Ts D ad cI cB A A0 H0 xs sl)) {x : Int} (hd : decode bytes pc = .ok (.ineg, 1)) (k : (AMX p l e R s m args below meth c cells slots Qe nL D ad cI cB A0 H0 xs) (pc + 1) L (vI (w32 (-x)) :: S) σ) : (AMX p l e R s m args below meth c cells slots Qe nL D ad cI cB A0 H0 xs) pc L (vI x :: S) σ := by
  intro H locs ls vs0 τ hσ hxs hL hS0 hP hV
  obtain ⟨x, vs1, rfl, rfl, hS1⟩ := SR_I hS0
  exact lv_ineg hc.1 hc.2.1 hd (k H locs ls _ τ hσ hxs hL (SR_i (-x) (by rw [Int32.toInt_neg, w32_bm]) hS1) hP hV)
theorem a_i2l (hc : (AMC p R s m args c cells slots own bytes nL Ts D ad cI cB A A0 H0 xs sl)) {x : Int} (hd : decode bytes pc = .ok (.i2l, 1)) (k : (AMX p l e R s m args below meth c cells slots Qe nL D ad cI cB A0 H0 xs) (pc + 1) L (vL x :: S) σ) : (AMX p l e R s m args below meth c cells slots Qe nL D ad cI cB A0 H0 xs) pc L (vI x :: S) σ := by
  intro H locs ls vs0 τ hσ hxs hL hS0 hP hV
  obtain ⟨x, vs1, rfl, rfl, hS1⟩ := SR_I hS0
  exact lv_i2l hc.1 hc.2.1 hd rfl (k H locs ls _ τ hσ hxs hL (SR_l x.toInt64 (Int32.toInt_toInt64 x) hS1) hP hV)
theorem a_dupI (hc : (AMC p R s m args c cells slots own bytes nL Ts D ad cI cB A A0 H0 xs sl)) {x : Int} (hd : decode bytes pc = .ok (.dup, 1)) (k : (AMX p l e R s m args below meth c cells slots Qe nL D ad cI cB A0 H0 xs) (pc + 1) L (vI x :: vI x :: S) σ) : (AMX p l e R s m args below meth c cells slots Qe nL D ad cI cB A0 H0 xs) pc L (vI x :: S) σ := by
  intro H locs ls vs0 τ hσ hxs hL hS0 hP hV
  obtain ⟨x, vs1, rfl, rfl, hS1⟩ := SR_I hS0
  exact lv_dup hc.1 hc.2.1 hd rfl (k H locs ls _ τ hσ hxs hL (SR_i x rfl (SR_i x rfl hS1)) hP hV)
theorem a_dupR (hc : (AMC p R s m args c cells slots own bytes nL Ts D ad cI cB A A0 H0 xs sl)) {x : Nat} (hd : decode bytes pc = .ok (.dup, 1)) (k : (AMX p l e R s m args below meth c cells slots Qe nL D ad cI cB A0 H0 xs) (pc + 1) L (vR x :: vR x :: S) σ) : (AMX p l e R s m args below meth c cells slots Qe nL D ad cI cB A0 H0 xs) pc L (vR x :: S) σ := by
  intro H locs ls vs0 τ hσ hxs hL hS0 hP hV
  obtain ⟨vs1, rfl, hS1⟩ := SR_R hS0
  exact lv_dup hc.1 hc.2.1 hd rfl (k H locs ls _ τ hσ hxs hL (SR_r (SR_r hS1)) hP hV)
theorem a_dup2 (hc : (AMC p R s m args c cells slots own bytes nL Ts D ad cI cB A A0 H0 xs sl)) {y : Int} {x : Nat} (hd : decode bytes pc = .ok (.dup2, 1)) (k : (AMX p l e R s m args below meth c cells slots Qe nL D ad cI cB A0 H0 xs) (pc + 1) L (vI y :: vR x :: vI y :: vR x :: S) σ) : (AMX p l e R s m args below meth c cells slots Qe nL D ad cI cB A0 H0 xs) pc L (vI y :: vR x :: S) σ := by
  intro H locs ls vs0 τ hσ hxs hL hS0 hP hV
  obtain ⟨y, vs1, rfl, rfl, hS1⟩ := SR_I hS0
  obtain ⟨vs2, rfl, hS2⟩ := SR_R hS1
  exact lv_dup2_11 hc.1 hc.2.1 hd rfl rfl (k H locs ls _ τ hσ hxs hL (SR_i y rfl (SR_r (SR_i y rfl (SR_r hS2)))) hP hV)
theorem a_popI (hc : (AMC p R s m args c cells slots own bytes nL Ts D ad cI cB A A0 H0 xs sl)) {x : Int} (hd : decode bytes pc = .ok (.pop, 1)) (k : (AMX p l e R s m args below meth c cells slots Qe nL D ad cI cB A0 H0 xs) (pc + 1) L S σ) : (AMX p l e R s m args below meth c cells slots Qe nL D ad cI cB A0 H0 xs) pc L (vI x :: S) σ := by
  intro H locs ls vs0 τ hσ hxs hL hS0 hP hV
  obtain ⟨x, vs1, rfl, rfl, hS1⟩ := SR_I hS0
  exact lv_pop hc.1 hc.2.1 hd rfl (k H locs ls _ τ hσ hxs hL hS1 hP hV)
theorem a_popR (hc : (AMC p R s m args c cells slots own bytes nL Ts D ad cI cB A A0 H0 xs sl)) {x : Nat} (hd : decode bytes pc = .ok (.pop, 1)) (k : (AMX p l e R s m args below meth c cells slots Qe nL D ad cI cB A0 H0 xs) (pc + 1) L S σ) : (AMX p l e R s m args below meth c cells slots Qe nL D ad cI cB A0 H0 xs) pc L (vR x :: S) σ := by
  intro H locs ls vs0 τ hσ hxs hL hS0 hP hV
  obtain ⟨vs1, rfl, hS1⟩ := SR_R hS0
  exact lv_pop hc.1 hc.2.1 hd rfl (k H locs ls _ τ hσ hxs hL hS1 hP hV)
theorem a_goto (hc : (AMC p R s m args c cells slots own bytes nL Ts D ad cI cB A A0 H0 xs sl)) {off : Int} {a : Nat} (hd : decode bytes pc = .ok (.goto off, 3)) (ht : (pc : Int) + off = a) (k : (AMX p l e R s m args below meth c cells slots Qe nL D ad cI cB A0 H0 xs) a L S σ) : (AMX p l e R s m args below meth c cells slots Qe nL D ad cI cB A0 H0 xs) pc L S σ := by
  intro H locs ls vs0 τ hσ hxs hL hS0 hP hV
  exact lv_goto hc.1 hc.2.1 hd ht (k H locs ls _ τ hσ hxs hL hS0 hP hV)
theorem a_if_eq (hc : (AMC p R s m args c cells slots own bytes nL Ts D ad cI cB A A0 H0 xs sl)) {off x : Int} {a : Nat} (hd : decode bytes pc = .ok (.ifCond .eq off, 3)) (ht : (pc : Int) + off = a) (k : if x = 0 then (AMX p l e R s m args below meth c cells slots Qe nL D ad cI cB A0 H0 xs) a L S σ else (AMX p l e R s m args below meth c cells slots Qe nL D ad cI cB A0 H0 xs) (pc + 3) L S σ) : (AMX p l e R s m args below meth c cells slots Qe nL D ad cI cB A0 H0 xs) pc L (vI x :: S) σ := by
  intro H locs ls vs0 τ hσ hxs hL hS0 hP hV
  obtain ⟨x, vs1, rfl, rfl, hS1⟩ := SR_I hS0
  refine lv_if_eq hc.1 hc.2.1 hd ht (fun q => ?_) (fun q => ?_)
  · rw [if_pos (show x.toInt = 0 from by rw [q]; rfl)] at k
    exact k H locs ls _ τ hσ hxs hL hS1 hP hV
  · rw [if_neg (show ¬ x.toInt = 0 from fun z => q (by first | exact Int32.lt_iff_toInt_lt.mpr z | exact Int32.toInt_inj.mp (z.trans (show (0 : Int32).toInt = 0 from rfl).symm)))] at k
    exact k H locs ls _ τ hσ hxs hL hS1 hP hV
theorem a_if_ne (hc : (AMC p R s m args c cells slots own bytes nL Ts D ad cI cB A A0 H0 xs sl)) {off x : Int} {a : Nat} (hd : decode bytes pc = .ok (.ifCond .ne off, 3)) (ht : (pc : Int) + off = a) (k : if x = 0 then (AMX p l e R s m args below meth c cells slots Qe nL D ad cI cB A0 H0 xs) (pc + 3) L S σ else (AMX p l e R s m args below meth c cells slots Qe nL D ad cI cB A0 H0 xs) a L S σ) : (AMX p l e R s m args below meth c cells slots Qe nL D ad cI cB A0 H0 xs) pc L (vI x :: S) σ := by
  intro H locs ls vs0 τ hσ hxs hL hS0 hP hV
  obtain ⟨x, vs1, rfl, rfl, hS1⟩ := SR_I hS0
  by_cases z : x.toInt = 0
  · rw [if_pos z] at k
    refine lv_if_ne hc.1 hc.2.1 hd ht (fun q => absurd z ?_) (fun q => k H locs ls _ τ hσ hxs hL hS1 hP hV)
    exact fun z => q (Int32.toInt_inj.mp (z.trans (show (0 : Int32).toInt = 0 from rfl).symm))
  · rw [if_neg z] at k
    refine lv_if_ne hc.1 hc.2.1 hd ht (fun q => k H locs ls _ τ hσ hxs hL hS1 hP hV) (fun q => absurd ?_ z)
    rw [q]; rfl
theorem a_if_lt (hc : (AMC p R s m args c cells slots own bytes nL Ts D ad cI cB A A0 H0 xs sl)) {off x : Int} {a : Nat} (hd : decode bytes pc = .ok (.ifCond .lt off, 3)) (ht : (pc : Int) + off = a) (k : if x < 0 then (AMX p l e R s m args below meth c cells slots Qe nL D ad cI cB A0 H0 xs) a L S σ else (AMX p l e R s m args below meth c cells slots Qe nL D ad cI cB A0 H0 xs) (pc + 3) L S σ) : (AMX p l e R s m args below meth c cells slots Qe nL D ad cI cB A0 H0 xs) pc L (vI x :: S) σ := by
  intro H locs ls vs0 τ hσ hxs hL hS0 hP hV
  obtain ⟨x, vs1, rfl, rfl, hS1⟩ := SR_I hS0
  refine lv_if_lt hc.1 hc.2.1 hd ht (fun q => ?_) (fun q => ?_)
  · rw [if_pos (show x.toInt < 0 from Int32.lt_iff_toInt_lt.mp q)] at k
    exact k H locs ls _ τ hσ hxs hL hS1 hP hV
  · rw [if_neg (show ¬ x.toInt < 0 from fun z => q (by first | exact Int32.lt_iff_toInt_lt.mpr z | exact Int32.toInt_inj.mp (z.trans (show (0 : Int32).toInt = 0 from rfl).symm)))] at k
    exact k H locs ls _ τ hσ hxs hL hS1 hP hV
theorem a_if_ge (hc : (AMC p R s m args c cells slots own bytes nL Ts D ad cI cB A A0 H0 xs sl)) {off x : Int} {a : Nat} (hd : decode bytes pc = .ok (.ifCond .ge off, 3)) (ht : (pc : Int) + off = a) (k : if x < 0 then (AMX p l e R s m args below meth c cells slots Qe nL D ad cI cB A0 H0 xs) (pc + 3) L S σ else (AMX p l e R s m args below meth c cells slots Qe nL D ad cI cB A0 H0 xs) a L S σ) : (AMX p l e R s m args below meth c cells slots Qe nL D ad cI cB A0 H0 xs) pc L (vI x :: S) σ := by
  intro H locs ls vs0 τ hσ hxs hL hS0 hP hV
  obtain ⟨x, vs1, rfl, rfl, hS1⟩ := SR_I hS0
  by_cases z : x.toInt < 0
  · rw [if_pos z] at k
    refine lv_if_ge hc.1 hc.2.1 hd ht (fun q => absurd z ?_) (fun q => k H locs ls _ τ hσ hxs hL hS1 hP hV)
    simp only [Int32.le_iff_toInt_le] at q; have : (0 : Int32).toInt = 0 := rfl; omega
  · rw [if_neg z] at k
    refine lv_if_ge hc.1 hc.2.1 hd ht (fun q => k H locs ls _ τ hσ hxs hL hS1 hP hV) (fun q => absurd ?_ z)
    simp only [Int32.le_iff_toInt_le] at q; have : (0 : Int32).toInt = 0 := rfl; omega
theorem a_if_gt (hc : (AMC p R s m args c cells slots own bytes nL Ts D ad cI cB A A0 H0 xs sl)) {off x : Int} {a : Nat} (hd : decode bytes pc = .ok (.ifCond .gt off, 3)) (ht : (pc : Int) + off = a) (k : if 0 < x then (AMX p l e R s m args below meth c cells slots Qe nL D ad cI cB A0 H0 xs) a L S σ else (AMX p l e R s m args below meth c cells slots Qe nL D ad cI cB A0 H0 xs) (pc + 3) L S σ) : (AMX p l e R s m args below meth c cells slots Qe nL D ad cI cB A0 H0 xs) pc L (vI x :: S) σ := by
  intro H locs ls vs0 τ hσ hxs hL hS0 hP hV
  obtain ⟨x, vs1, rfl, rfl, hS1⟩ := SR_I hS0
  refine lv_if_gt hc.1 hc.2.1 hd ht (fun q => ?_) (fun q => ?_)
  · rw [if_pos (show 0 < x.toInt from Int32.lt_iff_toInt_lt.mp q)] at k
    exact k H locs ls _ τ hσ hxs hL hS1 hP hV
  · rw [if_neg (show ¬ 0 < x.toInt from fun z => q (by first | exact Int32.lt_iff_toInt_lt.mpr z | exact Int32.toInt_inj.mp (z.trans (show (0 : Int32).toInt = 0 from rfl).symm)))] at k
    exact k H locs ls _ τ hσ hxs hL hS1 hP hV
theorem a_if_le (hc : (AMC p R s m args c cells slots own bytes nL Ts D ad cI cB A A0 H0 xs sl)) {off x : Int} {a : Nat} (hd : decode bytes pc = .ok (.ifCond .le off, 3)) (ht : (pc : Int) + off = a) (k : if 0 < x then (AMX p l e R s m args below meth c cells slots Qe nL D ad cI cB A0 H0 xs) (pc + 3) L S σ else (AMX p l e R s m args below meth c cells slots Qe nL D ad cI cB A0 H0 xs) a L S σ) : (AMX p l e R s m args below meth c cells slots Qe nL D ad cI cB A0 H0 xs) pc L (vI x :: S) σ := by
  intro H locs ls vs0 τ hσ hxs hL hS0 hP hV
  obtain ⟨x, vs1, rfl, rfl, hS1⟩ := SR_I hS0
  by_cases z : 0 < x.toInt
  · rw [if_pos z] at k
    refine lv_if_le hc.1 hc.2.1 hd ht (fun q => absurd z ?_) (fun q => k H locs ls _ τ hσ hxs hL hS1 hP hV)
    simp only [Int32.le_iff_toInt_le] at q; have : (0 : Int32).toInt = 0 := rfl; omega
  · rw [if_neg z] at k
    refine lv_if_le hc.1 hc.2.1 hd ht (fun q => k H locs ls _ τ hσ hxs hL hS1 hP hV) (fun q => absurd ?_ z)
    simp only [Int32.le_iff_toInt_le] at q; have : (0 : Int32).toInt = 0 := rfl; omega
theorem a_icmp_eq (hc : (AMC p R s m args c cells slots own bytes nL Ts D ad cI cB A A0 H0 xs sl)) {off x y : Int} {a : Nat} (hd : decode bytes pc = .ok (.if_icmp .eq off, 3)) (ht : (pc : Int) + off = a) (k : if x = y then (AMX p l e R s m args below meth c cells slots Qe nL D ad cI cB A0 H0 xs) a L S σ else (AMX p l e R s m args below meth c cells slots Qe nL D ad cI cB A0 H0 xs) (pc + 3) L S σ) : (AMX p l e R s m args below meth c cells slots Qe nL D ad cI cB A0 H0 xs) pc L (vI y :: vI x :: S) σ := by
  intro H locs ls vs0 τ hσ hxs hL hS0 hP hV
  obtain ⟨y, vs1, rfl, rfl, hS1⟩ := SR_I hS0
  obtain ⟨x, vs2, rfl, rfl, hS2⟩ := SR_I hS1
  by_cases z : x.toInt = y.toInt
  · rw [if_pos z] at k
    refine lv_icmp_eq hc.1 hc.2.1 hd ht (fun q => k H locs ls _ τ hσ hxs hL hS2 hP hV) (fun q => absurd z ?_)
    exact fun z => q (Int32.toInt_inj.mp z)
  · rw [if_neg z] at k
    refine lv_icmp_eq hc.1 hc.2.1 hd ht (fun q => absurd ?_ z) (fun q => k H locs ls _ τ hσ hxs hL hS2 hP hV)
    rw [q]
theorem a_icmp_ne (hc : (AMC p R s m args c cells slots own bytes nL Ts D ad cI cB A A0 H0 xs sl)) {off x y : Int} {a : Nat} (hd : decode bytes pc = .ok (.if_icmp .ne off, 3)) (ht : (pc : Int) + off = a) (k : if x = y then (AMX p l e R s m args below meth c cells slots Qe nL D ad cI cB A0 H0 xs) (pc + 3) L S σ else (AMX p l e R s m args below meth c cells slots Qe nL D ad cI cB A0 H0 xs) a L S σ) : (AMX p l e R s m args below meth c cells slots Qe nL D ad cI cB A0 H0 xs) pc L (vI y :: vI x :: S) σ := by
  intro H locs ls vs0 τ hσ hxs hL hS0 hP hV
  obtain ⟨y, vs1, rfl, rfl, hS1⟩ := SR_I hS0
  obtain ⟨x, vs2, rfl, rfl, hS2⟩ := SR_I hS1
  by_cases z : x.toInt = y.toInt
  · rw [if_pos z] at k
    refine lv_icmp_ne hc.1 hc.2.1 hd ht (fun q => absurd z ?_) (fun q => k H locs ls _ τ hσ hxs hL hS2 hP hV)
    exact fun z => q (Int32.toInt_inj.mp z)
  · rw [if_neg z] at k
    refine lv_icmp_ne hc.1 hc.2.1 hd ht (fun q => k H locs ls _ τ hσ hxs hL hS2 hP hV) (fun q => absurd ?_ z)
    rw [q]
theorem a_icmp_lt (hc : (AMC p R s m args c cells slots own bytes nL Ts D ad cI cB A A0 H0 xs sl)) {off x y : Int} {a : Nat} (hd : decode bytes pc = .ok (.if_icmp .lt off, 3)) (ht : (pc : Int) + off = a) (k : if x < y then (AMX p l e R s m args below meth c cells slots Qe nL D ad cI cB A0 H0 xs) a L S σ else (AMX p l e R s m args below meth c cells slots Qe nL D ad cI cB A0 H0 xs) (pc + 3) L S σ) : (AMX p l e R s m args below meth c cells slots Qe nL D ad cI cB A0 H0 xs) pc L (vI y :: vI x :: S) σ := by
  intro H locs ls vs0 τ hσ hxs hL hS0 hP hV
  obtain ⟨y, vs1, rfl, rfl, hS1⟩ := SR_I hS0
  obtain ⟨x, vs2, rfl, rfl, hS2⟩ := SR_I hS1
  by_cases z : x.toInt < y.toInt
  · rw [if_pos z] at k
    refine lv_icmp_lt hc.1 hc.2.1 hd ht (fun q => k H locs ls _ τ hσ hxs hL hS2 hP hV) (fun q => absurd z ?_)
    simp only [Int32.le_iff_toInt_le, Int32.lt_iff_toInt_lt] at q; omega
  · rw [if_neg z] at k
    refine lv_icmp_lt hc.1 hc.2.1 hd ht (fun q => absurd ?_ z) (fun q => k H locs ls _ τ hσ hxs hL hS2 hP hV)
    simp only [Int32.le_iff_toInt_le, Int32.lt_iff_toInt_lt] at q; omega
theorem a_icmp_ge (hc : (AMC p R s m args c cells slots own bytes nL Ts D ad cI cB A A0 H0 xs sl)) {off x y : Int} {a : Nat} (hd : decode bytes pc = .ok (.if_icmp .ge off, 3)) (ht : (pc : Int) + off = a) (k : if x < y then (AMX p l e R s m args below meth c cells slots Qe nL D ad cI cB A0 H0 xs) (pc + 3) L S σ else (AMX p l e R s m args below meth c cells slots Qe nL D ad cI cB A0 H0 xs) a L S σ) : (AMX p l e R s m args below meth c cells slots Qe nL D ad cI cB A0 H0 xs) pc L (vI y :: vI x :: S) σ := by
  intro H locs ls vs0 τ hσ hxs hL hS0 hP hV
  obtain ⟨y, vs1, rfl, rfl, hS1⟩ := SR_I hS0
  obtain ⟨x, vs2, rfl, rfl, hS2⟩ := SR_I hS1
  by_cases z : x.toInt < y.toInt
  · rw [if_pos z] at k
    refine lv_icmp_ge hc.1 hc.2.1 hd ht (fun q => absurd z ?_) (fun q => k H locs ls _ τ hσ hxs hL hS2 hP hV)
    simp only [Int32.le_iff_toInt_le, Int32.lt_iff_toInt_lt] at q; omega
  · rw [if_neg z] at k
    refine lv_icmp_ge hc.1 hc.2.1 hd ht (fun q => k H locs ls _ τ hσ hxs hL hS2 hP hV) (fun q => absurd ?_ z)
    simp only [Int32.le_iff_toInt_le, Int32.lt_iff_toInt_lt] at q; omega
theorem a_icmp_gt (hc : (AMC p R s m args c cells slots own bytes nL Ts D ad cI cB A A0 H0 xs sl)) {off x y : Int} {a : Nat} (hd : decode bytes pc = .ok (.if_icmp .gt off, 3)) (ht : (pc : Int) + off = a) (k : if y < x then (AMX p l e R s m args below meth c cells slots Qe nL D ad cI cB A0 H0 xs) a L S σ else (AMX p l e R s m args below meth c cells slots Qe nL D ad cI cB A0 H0 xs) (pc + 3) L S σ) : (AMX p l e R s m args below meth c cells slots Qe nL D ad cI cB A0 H0 xs) pc L (vI y :: vI x :: S) σ := by
  intro H locs ls vs0 τ hσ hxs hL hS0 hP hV
  obtain ⟨y, vs1, rfl, rfl, hS1⟩ := SR_I hS0
  obtain ⟨x, vs2, rfl, rfl, hS2⟩ := SR_I hS1
  by_cases z : y.toInt < x.toInt
  · rw [if_pos z] at k
    refine lv_icmp_gt hc.1 hc.2.1 hd ht (fun q => k H locs ls _ τ hσ hxs hL hS2 hP hV) (fun q => absurd z ?_)
    simp only [Int32.le_iff_toInt_le, Int32.lt_iff_toInt_lt] at q; omega
  · rw [if_neg z] at k
    refine lv_icmp_gt hc.1 hc.2.1 hd ht (fun q => absurd ?_ z) (fun q => k H locs ls _ τ hσ hxs hL hS2 hP hV)
    simp only [Int32.le_iff_toInt_le, Int32.lt_iff_toInt_lt] at q; omega
theorem a_icmp_le (hc : (AMC p R s m args c cells slots own bytes nL Ts D ad cI cB A A0 H0 xs sl)) {off x y : Int} {a : Nat} (hd : decode bytes pc = .ok (.if_icmp .le off, 3)) (ht : (pc : Int) + off = a) (k : if y < x then (AMX p l e R s m args below meth c cells slots Qe nL D ad cI cB A0 H0 xs) (pc + 3) L S σ else (AMX p l e R s m args below meth c cells slots Qe nL D ad cI cB A0 H0 xs) a L S σ) : (AMX p l e R s m args below meth c cells slots Qe nL D ad cI cB A0 H0 xs) pc L (vI y :: vI x :: S) σ := by
  intro H locs ls vs0 τ hσ hxs hL hS0 hP hV
  obtain ⟨y, vs1, rfl, rfl, hS1⟩ := SR_I hS0
  obtain ⟨x, vs2, rfl, rfl, hS2⟩ := SR_I hS1
  by_cases z : y.toInt < x.toInt
  · rw [if_pos z] at k
    refine lv_icmp_le hc.1 hc.2.1 hd ht (fun q => absurd z ?_) (fun q => k H locs ls _ τ hσ hxs hL hS2 hP hV)
    simp only [Int32.le_iff_toInt_le, Int32.lt_iff_toInt_lt] at q; omega
  · rw [if_neg z] at k
    refine lv_icmp_le hc.1 hc.2.1 hd ht (fun q => k H locs ls _ τ hσ hxs hL hS2 hP hV) (fun q => absurd ?_ z)
    simp only [Int32.le_iff_toInt_le, Int32.lt_iff_toInt_lt] at q; omega
theorem a_table (hc : (AMC p R s m args c cells slots own bytes nL Ts D ad cI cB A A0 H0 xs sl)) {d lo hi x : Int} {offs : Array Int} {len a : Nat} {ks : List (Int × Nat)} (hd : decode bytes pc = .ok (.tableswitch d lo hi offs, len)) (ht : (pc : Int) + d = a) (hk : ks.map (fun q => (q.2 : Int)) = offs.toList.map (fun f => (pc : Int) + f)) (hk2 : ks.map (fun q => q.1) = (List.range offs.size).map (fun (n : Nat) => lo + (n : Int))) (hh : hi = lo + (offs.size : Int) - 1) (k : swt ks a x fun t => (AMX p l e R s m args below meth c cells slots Qe nL D ad cI cB A0 H0 xs) t L S σ) : (AMX p l e R s m args below meth c cells slots Qe nL D ad cI cB A0 H0 xs) pc L (vI x :: S) σ := by
  intro H locs ls vs0 τ hσ hxs hL hS0 hP hV
  obtain ⟨x, vs1, rfl, rfl, hS1⟩ := SR_I hS0
  have hlen : ks.length = offs.size := by have := congrArg List.length hk2; simpa using this
  rcases swt_in k with ⟨h1, k⟩ | ⟨n, v, t, h1, rfl, k⟩
  · refine lv_tableOut hc.1 hc.2.1 hd ?_ ht (k H locs ls _ τ hσ hxs hL hS1 hP hV)
    by_cases g1 : x.toInt < lo
    · exact Or.inl g1
    · by_cases g2 : hi < x.toInt
      · exact Or.inr g2
      · exfalso
        have hn : (x.toInt - lo).toNat < ks.length := by omega
        refine h1 ks[(x.toInt - lo).toNat] (List.getElem_mem hn) ?_
        have e := congrArg (fun z => z[(x.toInt - lo).toNat]?) hk2
        simp only [List.getElem?_map, List.getElem?_eq_getElem hn, Option.map_some, List.getElem?_range (show (x.toInt - lo).toNat < offs.size by omega), Option.some.injEq] at e
        rw [e]; omega
  · have hn : n < ks.length := (List.getElem?_eq_some_iff.mp h1).1
    have e := congrArg (fun z => z[n]?) hk2
    simp only [List.getElem?_map, h1, Option.map_some, List.getElem?_range (show n < offs.size by omega), Option.some.injEq] at e
    have e2 := congrArg (fun z => z[n]?) hk
    simp only [List.getElem?_map, h1, Option.map_some, List.getElem?_eq_getElem (show n < offs.toList.length by simpa using (by omega : n < offs.size)), Option.some.injEq] at e2
    refine lv_tableIn hc.1 hc.2.1 hd (by omega) (by omega) (off := offs.toList[n]'(by simpa using (by omega : n < offs.size))) ?_ e2.symm (k H locs ls _ τ hσ hxs hL hS1 hP hV)
    rw [show (x.toInt - lo).toNat = n by omega]
    rw [← Array.getElem?_toList, List.getElem?_eq_getElem]
theorem a_lookup (hc : (AMC p R s m args c cells slots own bytes nL Ts D ad cI cB A A0 H0 xs sl)) {d x : Int} {ps : Array (Int × Int)} {len a : Nat} {ks : List (Int × Nat)} (hd : decode bytes pc = .ok (.lookupswitch d ps, len)) (ht : (pc : Int) + d = a) (hk : ks.map (fun q => (q.1, (q.2 : Int))) = ps.toList.map (fun q => (q.1, (pc : Int) + q.2))) (hs : (ps.toList.zip (ps.toList.drop 1)).all (fun (x, next) => x.1 < next.1) = true) (k : swt ks a x fun t => (AMX p l e R s m args below meth c cells slots Qe nL D ad cI cB A0 H0 xs) t L S σ) : (AMX p l e R s m args below meth c cells slots Qe nL D ad cI cB A0 H0 xs) pc L (vI x :: S) σ := by
  intro H locs ls vs0 τ hσ hxs hL hS0 hP hV
  obtain ⟨x, vs1, rfl, rfl, hS1⟩ := SR_I hS0
  obtain ⟨t, h1, k⟩ := swt_off (d := d) ht hk k
  exact lv_lookup hc.1 hc.2.1 hd hs rfl h1 (k H locs ls _ τ hσ hxs hL hS1 hP hV)
theorem a_getR (hc : (AMC p R s m args c cells slots own bytes nL Ts D ad cI cB A A0 H0 xs sl)) {x a b k0 k1 : Nat} (hd : decode bytes pc = .ok (.getfield x, 3)) (ha : a < 7) (hb : b < (fldT a).2.2) (hw : Cond.fieldLink own x ((fldT a).2.1 b).1 ((fldT a).2.1 b).2.1 ((fldT a).2.1 b).2.2.1 ∈ lw_g) (hco : cof k0 = a) (hr : rfs k0 b = some k1) (k : (AMX p l e R s m args below meth c cells slots Qe nL D ad cI cB A0 H0 xs) (pc + 3) L (vR k1 :: S) σ) : (AMX p l e R s m args below meth c cells slots Qe nL D ad cI cB A0 H0 xs) pc L (vR k0 :: S) σ := by
  intro H locs ls vs0 τ hσ hxs hL hS0 hP hV
  obtain ⟨vs1, rfl, hS1⟩ := SR_R hS0
  obtain ⟨fl, hfl⟩ := cof_sh hco ha
  have hc63 := sh_lt hfl
  have hlen := sh_len hfl
  have hat : (wsf ad cI cB τ)[k0]? = some (ad k0, .inr (a, (List.range fl.length).map fun k => fval ad τ k0 k)) := by rw [wsf_at hc63]; simp only [celO, hfl]
  obtain ⟨hin, ty, hty, hnm⟩ := fld_ok ha
  exact va_get hc.1 hc.2.1 hc.2.2.2.2.1 (fun w h => hc.2.2.2.2.2.1 w (uws_g hin w h)) hc.2.2.2.1 hc.2.2.2.2.2.2.1 hP k0 hat (cls9_get ha) b hb (hc.2.2.2.2.1 _ (hc.2.2.2.2.2.1 _ hw)) (fun _ h => h) (v := .ref (ad k1)) (by simp [List.getElem?_map, List.getElem?_range (show b < fl.length by omega), fval, hr]) hd (k H locs ls _ τ hσ hxs hL (SR_r hS1) hP hV)
theorem a_getI (hc : (AMC p R s m args c cells slots own bytes nL Ts D ad cI cB A A0 H0 xs sl)) {x a b k0 : Nat} (hd : decode bytes pc = .ok (.getfield x, 3)) (ha : a < 7) (hb : b < (fldT a).2.2) (hw : Cond.fieldLink own x ((fldT a).2.1 b).1 ((fldT a).2.1 b).2.1 ((fldT a).2.1 b).2.2.1 ∈ lw_g) (hco : cof k0 = a) (hr : rfs k0 b = none) (k : (AMX p l e R s m args below meth c cells slots Qe nL D ad cI cB A0 H0 xs) (pc + 3) L (vI (σ k0 b) :: S) σ) : (AMX p l e R s m args below meth c cells slots Qe nL D ad cI cB A0 H0 xs) pc L (vR k0 :: S) σ := by
  intro H locs ls vs0 τ hσ hxs hL hS0 hP hV
  obtain ⟨vs1, rfl, hS1⟩ := SR_R hS0
  obtain ⟨fl, hfl⟩ := cof_sh hco ha
  have hc63 := sh_lt hfl
  have hlen := sh_len hfl
  have hat : (wsf ad cI cB τ)[k0]? = some (ad k0, .inr (a, (List.range fl.length).map fun k => fval ad τ k0 k)) := by rw [wsf_at hc63]; simp only [celO, hfl]
  obtain ⟨hin, ty, hty, hnm⟩ := fld_ok ha
  exact va_get hc.1 hc.2.1 hc.2.2.2.2.1 (fun w h => hc.2.2.2.2.2.1 w (uws_g hin w h)) hc.2.2.2.1 hc.2.2.2.2.2.2.1 hP k0 hat (cls9_get ha) b hb (hc.2.2.2.2.1 _ (hc.2.2.2.2.2.1 _ hw)) (fun _ h => h) (v := .int (τ k0 b)) (by simp [List.getElem?_map, List.getElem?_range (show b < fl.length by omega), fval, hr]) hd (k H locs ls _ τ hσ hxs hL (SR_i (τ k0 b) (by rw [hσ]; rfl) hS1) hP hV)
theorem a_put (hc : (AMC p R s m args c cells slots own bytes nL Ts D ad cI cB A A0 H0 xs sl)) {x a b k0 : Nat} {v : Int} (hd : decode bytes pc = .ok (.putfield x, 3)) (ha : a < 7) (hb : b < (fldT a).2.2) (hw : Cond.fieldLink own x ((fldT a).2.1 b).1 ((fldT a).2.1 b).2.1 ((fldT a).2.1 b).2.2.1 ∈ lw_g) (hfin : ((fldT a).2.1 b).2.2.2 = false) (hdd : ((fldT a).2.1 b).2.2.1 = if isB a b = true then "Z" else "I") (hv : isB a b = true → v = 0 ∨ v = 1) (hco : cof k0 = a) (hr : rfs k0 b = none) (k : (AMX p l e R s m args below meth c cells slots Qe nL D ad cI cB A0 H0 xs) (pc + 3) L S (sup σ k0 b v)) : (AMX p l e R s m args below meth c cells slots Qe nL D ad cI cB A0 H0 xs) pc L (vI v :: vR k0 :: S) σ := by
  intro H locs ls vs0 τ hσ hxs hL hS0 hP hV
  obtain ⟨x, vs1, rfl, rfl, hS1⟩ := SR_I hS0
  obtain ⟨vs2, rfl, hS2⟩ := SR_R hS1
  obtain ⟨fl, hfl⟩ := cof_sh hco ha
  have hc63 := sh_lt hfl
  have hlen := sh_len hfl
  have hat : (wsf ad cI cB τ)[k0]? = some (ad k0, .inr (a, (List.range fl.length).map fun k => fval ad τ k0 k)) := by rw [wsf_at hc63]; simp only [celO, hfl]
  obtain ⟨hin, ty, hty, hnm⟩ := fld_ok ha
  have hty2 : ∃ ty0 : FieldType, parseFieldDescriptor ((fldT a).2.1 b).2.2.1 = some ty0 ∧ narrow ty0 (.int x) = .int x ∧ fits ty0 (.int x) = true := by
    rw [hdd]
    cases hB : isB a b with
    | true =>
      refine ⟨.boolean, by decide +kernel, ?_⟩
      rcases hv hB with h | h
      · rw [show x = 0 from Int32.toInt_inj.mp h]; exact ⟨by decide +kernel, by decide +kernel⟩
      · rw [show x = 1 from Int32.toInt_inj.mp h]; exact ⟨by decide +kernel, by decide +kernel⟩
    | false => exact ⟨.int, by decide +kernel, rfl, rfl⟩
  obtain ⟨ty0, hp0, hn0, hf0⟩ := hty2
  refine va_put hc.1 hc.2.1 hc.2.2.2.2.1 (fun w h => hc.2.2.2.2.2.1 w (uws_g hin w h)) ty hty hnm hc.2.2.2.1 hc.2.2.2.2.2.2.1 hP (hc.2.2.2.2.2.2.2.1 τ) hV k0 hat (cls9_get ha) b hb (hc.2.2.2.2.1 _ (hc.2.2.2.2.2.1 _ hw)) (fun _ h => h) hfin hp0 hn0 hf0 (by simp; omega) hd (fun H1 locs1 hP1 _ hV1 => ?_)
  refine k H1 locs1 ls _ (upT τ k0 b x) (by rw [hσ]; exact toI_up τ k0 b x) (by rw [upT_ne (by omega)]; exact hxs) hL hS2 ?_ hV1
  rw [← wsf_up hc63 (E := .inr (a, ((List.range fl.length).map fun k => fval ad τ k0 k).set b (.int x)))]
  · exact hP1
  · simp only [celO, hfl]
    congr 2
    apply List.ext_getElem?
    intro q
    rw [List.getElem?_set]
    by_cases hq : q < fl.length
    · by_cases e : b = q
      · subst e
        rw [if_pos rfl, if_pos (by simp; omega)]
        simp [List.getElem?_range, hq, fval, hr, upT]
      · rw [if_neg e]
        simp only [List.getElem?_map, List.getElem?_range hq, Option.map_some, fval, upT]
        have e2 : ¬ q = b := fun z => e z.symm
        simp only [e2, and_false, if_false]
    · rw [if_neg (by omega)]
      simp [List.getElem?_range, hq]
-- end of simple arms
theorem a_iald (hc : (AMC p R s m args c cells slots own bytes nL Ts D ad cI cB A A0 H0 xs sl)) {k0 n : Nat} {j : Int} (hd : decode bytes pc = .ok (.iaload, 1)) (hn : alen k0 = some (false, n)) (hj : 0 ≤ j ∧ j < n) (k : (AMX p l e R s m args below meth c cells slots Qe nL D ad cI cB A0 H0 xs) (pc + 1) L (vI (σ k0 j.toNat) :: S) σ) : (AMX p l e R s m args below meth c cells slots Qe nL D ad cI cB A0 H0 xs) pc L (vI j :: vR k0 :: S) σ := by
  intro H locs ls vs0 τ hσ hxs hL hS0 hP hV
  obtain ⟨j, vs1, rfl, rfl, hS1⟩ := SR_I hS0
  obtain ⟨vs2, rfl, hS2⟩ := SR_R hS1
  obtain ⟨hc63, hat⟩ := arr_at (ad := ad) (cI := cI) (cB := cB) (τ := τ) hn
  refine va_iald hc.1 hc.2.1 hc.2.2.2.2.2.2.1 hP k0 0 hat rfl (vp_of hj) hd (k H locs ls _ τ hσ hxs hL (SR_i (τ k0 j.toNatClampNeg) (by rw [hσ]; rfl) hS2) hP hV)
theorem a_scr (hc : (AMC p R s m args c cells slots own bytes nL Ts D ad cI cB A A0 H0 xs sl)) {n : Nat} {j : Int} (hd : decode bytes pc = .ok (.iaload, 1)) (hn : sl = some n) (hj : 0 ≤ j ∧ j < n) (k : (AMX p l e R s m args below meth c cells slots Qe nL D ad cI cB A0 H0 xs) (pc + 1) L (vI (σ 63 j.toNat) :: S) σ) : (AMX p l e R s m args below meth c cells slots Qe nL D ad cI cB A0 H0 xs) pc L (vI j :: vR 63 :: S) σ := by
  intro H locs ls vs0 τ hσ hxs hL hS0 hP hV
  obtain ⟨j, vs1, rfl, rfl, hS1⟩ := SR_I hS0
  obtain ⟨vs2, rfl, hS2⟩ := SR_R hS1
  obtain ⟨hX, hl1, hl2, -⟩ := hc.2.2.2.2.2.2.2.2.2.1 n hn
  exact va_sld hc.1 hc.2.1 hX hl1 hl2 hV (vp_of hj) hd (k H locs ls _ τ hσ hxs hL (SR_i (xs j.toNatClampNeg) (by rw [hσ, ← hxs]; rfl) hS2) hP hV)
theorem a_zald (hc : (AMC p R s m args c cells slots own bytes nL Ts D ad cI cB A A0 H0 xs sl)) {k0 n : Nat} {j : Int} (hd : decode bytes pc = .ok (.baload, 1)) (hn : alen k0 = some (true, n)) (hj : 0 ≤ j ∧ j < n) (k : (AMX p l e R s m args below meth c cells slots Qe nL D ad cI cB A0 H0 xs) (pc + 1) L (vI (σ k0 j.toNat) :: S) σ) : (AMX p l e R s m args below meth c cells slots Qe nL D ad cI cB A0 H0 xs) pc L (vI j :: vR k0 :: S) σ := by
  intro H locs ls vs0 τ hσ hxs hL hS0 hP hV
  obtain ⟨j, vs1, rfl, rfl, hS1⟩ := SR_I hS0
  obtain ⟨vs2, rfl, hS2⟩ := SR_R hS1
  obtain ⟨hc63, hat⟩ := arr_at (ad := ad) (cI := cI) (cB := cB) (τ := τ) hn
  refine va_zald hc.1 hc.2.1 hc.2.2.2.2.2.2.1 hP k0 1 hat rfl (vp_of hj) hd (k H locs ls _ τ hσ hxs hL (SR_i (τ k0 j.toNatClampNeg) (by rw [hσ]; rfl) hS2) hP hV)
theorem a_iast (hc : (AMC p R s m args c cells slots own bytes nL Ts D ad cI cB A A0 H0 xs sl)) {k0 n : Nat} {j v : Int} (hd : decode bytes pc = .ok (.iastore, 1)) (hn : alen k0 = some (false, n)) (hj : 0 ≤ j ∧ j < n) (k : (AMX p l e R s m args below meth c cells slots Qe nL D ad cI cB A0 H0 xs) (pc + 1) L S (sup σ k0 j.toNat v)) : (AMX p l e R s m args below meth c cells slots Qe nL D ad cI cB A0 H0 xs) pc L (vI v :: vI j :: vR k0 :: S) σ := by
  intro H locs ls vs0 τ hσ hxs hL hS0 hP hV
  obtain ⟨x, vs1, rfl, rfl, hS1⟩ := SR_I hS0
  obtain ⟨j, vs2, rfl, rfl, hS2⟩ := SR_I hS1
  obtain ⟨vs3, rfl, hS3⟩ := SR_R hS2
  obtain ⟨hc63, hat⟩ := arr_at (ad := ad) (cI := cI) (cB := cB) (τ := τ) hn
  refine va_iast hc.1 hc.2.1 hc.2.2.2.2.2.2.1 hP (hc.2.2.2.2.2.2.2.1 τ) hV k0 0 hat rfl (vp_of hj) hd (fun H1 locs1 hP1 _ hV1 => ?_)
  refine k H1 locs1 ls _ (upT τ k0 j.toNatClampNeg x) (by rw [hσ]; exact toI_up τ k0 j.toNatClampNeg x) (by rw [upT_ne (by omega)]; exact hxs) hL hS3 ?_ hV1
  rw [← wsf_up hc63 (E := .inl (cond false cB cI, n, .inl (upd (τ k0) j.toNatClampNeg x)))]
  · exact hP1
  · exact arr_up hn
theorem a_zast (hc : (AMC p R s m args c cells slots own bytes nL Ts D ad cI cB A A0 H0 xs sl)) {k0 n : Nat} {j v : Int} (hd : decode bytes pc = .ok (.bastore, 1)) (hn : alen k0 = some (true, n)) (hj : 0 ≤ j ∧ j < n) (hb : v = 0 ∨ v = 1) (k : (AMX p l e R s m args below meth c cells slots Qe nL D ad cI cB A0 H0 xs) (pc + 1) L S (sup σ k0 j.toNat v)) : (AMX p l e R s m args below meth c cells slots Qe nL D ad cI cB A0 H0 xs) pc L (vI v :: vI j :: vR k0 :: S) σ := by
  intro H locs ls vs0 τ hσ hxs hL hS0 hP hV
  obtain ⟨x, vs1, rfl, rfl, hS1⟩ := SR_I hS0
  obtain ⟨j, vs2, rfl, rfl, hS2⟩ := SR_I hS1
  obtain ⟨vs3, rfl, hS3⟩ := SR_R hS2
  obtain ⟨hc63, hat⟩ := arr_at (ad := ad) (cI := cI) (cB := cB) (τ := τ) hn
  have hnar : vp_nar .boolean x = x := by
    rcases hb with h | h
    · rw [show x = 0 from Int32.toInt_inj.mp h]; decide +kernel
    · rw [show x = 1 from Int32.toInt_inj.mp h]; decide +kernel
  refine va_zast hc.1 hc.2.1 hc.2.2.2.2.2.2.1 hP (hc.2.2.2.2.2.2.2.1 τ) hV k0 1 hat rfl (vp_of hj) hd (fun H1 locs1 hP1 _ hV1 => ?_)
  rw [hnar] at hP1
  refine k H1 locs1 ls _ (upT τ k0 j.toNatClampNeg x) (by rw [hσ]; exact toI_up τ k0 j.toNatClampNeg x) (by rw [upT_ne (by omega)]; exact hxs) hL hS3 ?_ hV1
  rw [← wsf_up hc63 (E := .inl (cond true cB cI, n, .inl (upd (τ k0) j.toNatClampNeg x)))]
  · exact hP1
  · exact arr_up hn
theorem a_alen (hc : (AMC p R s m args c cells slots own bytes nL Ts D ad cI cB A A0 H0 xs sl)) {k0 n : Nat} {bo : Bool} (hd : decode bytes pc = .ok (.arraylength, 1)) (hn : alen k0 = some (bo, n)) (k : (AMX p l e R s m args below meth c cells slots Qe nL D ad cI cB A0 H0 xs) (pc + 1) L (vI (Int.ofNat n) :: S) σ) : (AMX p l e R s m args below meth c cells slots Qe nL D ad cI cB A0 H0 xs) pc L (vR k0 :: S) σ := by
  intro H locs ls vs0 τ hσ hxs hL hS0 hP hV
  obtain ⟨vs1, rfl, hS1⟩ := SR_R hS0
  obtain ⟨hc63, hat⟩ := arr_at (ad := ad) (cI := cI) (cB := cB) (τ := τ) hn
  have hn2 := alen_small hn
  cases bo with
  | false => exact va_alen hc.1 hc.2.1 hc.2.2.2.2.2.2.1 hP k0 0 hat rfl rfl hd (k H locs ls _ τ hσ hxs hL (SR_i (Int32.ofNat n) (Int32.toInt_ofNat_of_lt (by omega)) hS1) hP hV)
  | true => exact va_alen hc.1 hc.2.1 hc.2.2.2.2.2.2.1 hP k0 1 hat rfl rfl hd (k H locs ls _ τ hσ hxs hL (SR_i (Int32.ofNat n) (Int32.toInt_ofNat_of_lt (by omega)) hS1) hP hV)
theorem a_slen (hc : (AMC p R s m args c cells slots own bytes nL Ts D ad cI cB A A0 H0 xs sl)) {n : Nat} (hd : decode bytes pc = .ok (.arraylength, 1)) (hn : sl = some n) (k : (AMX p l e R s m args below meth c cells slots Qe nL D ad cI cB A0 H0 xs) (pc + 1) L (vI (Int.ofNat n) :: S) σ) : (AMX p l e R s m args below meth c cells slots Qe nL D ad cI cB A0 H0 xs) pc L (vR 63 :: S) σ := by
  intro H locs ls vs0 τ hσ hxs hL hS0 hP hV
  obtain ⟨vs1, rfl, hS1⟩ := SR_R hS0
  obtain ⟨hX, hl1, hl2, hle⟩ := hc.2.2.2.2.2.2.2.2.2.1 n hn
  exact va_slen hc.1 hc.2.1 hX hl1 hl2 hV hd (k H locs ls _ τ hσ hxs hL (SR_i (Int32.ofNat n) (Int32.toInt_ofNat_of_lt (by omega)) hS1) hP hV)
theorem a_max (hc : (AMC p R s m args c cells slots own bytes nL Ts D ad cI cB A A0 H0 xs sl)) {x0 : Nat} {x y : Int} (hd : decode bytes pc = .ok (.invokestatic x0, 3)) (hw : Cond.methodLink own x0 (yOf 1) ∈ lw_g) (hlen : catS S ≤ 8) (k : (AMX p l e R s m args below meth c cells slots Qe nL D ad cI cB A0 H0 xs) (pc + 3) L (vI (max x y) :: S) σ) : (AMX p l e R s m args below meth c cells slots Qe nL D ad cI cB A0 H0 xs) pc L (vI y :: vI x :: S) σ := by
  intro H locs ls vs0 τ hσ hxs hL hS0 hP hV
  obtain ⟨y, vs1, rfl, rfl, hS1⟩ := SR_I hS0
  obtain ⟨x, vs2, rfl, rfl, hS2⟩ := SR_I hS1
  have hcat := SR_cat hS2
  obtain ⟨g1, g2, g3⟩ := mathW 1 (by omega)
  have T : ∀ w ∈ lw_g, w.before args s = true := fun w h => hc.2.2.2.2.1 w (hc.2.2.2.2.2.1 w h)
  exact va_mmax hc.1 hc.2.1 (hc.2.2.1.trans (LR_size hL).symm) hc.2.2.2.1 (T _ hw) (T _ g3) (T _ g2) (T _ g1) hc.2.2.2.2.2.2.2.2.2.2.2.2.1 (by have := hc.2.2.2.2.2.2.2.2.2.2.2.2.2; omega) hc.2.2.2.2.2.2.2.2.2.2.1 hc.2.2.2.2.2.2.2.2.2.2.2.1 hd (k H locs ls _ τ hσ hxs hL (SR_i (if x < y then y else x) (if_max x y) hS2) hP hV)
theorem a_min (hc : (AMC p R s m args c cells slots own bytes nL Ts D ad cI cB A A0 H0 xs sl)) {x0 : Nat} {x y : Int} (hd : decode bytes pc = .ok (.invokestatic x0, 3)) (hw : Cond.methodLink own x0 (yOf 3) ∈ lw_g) (hlen : catS S ≤ 8) (k : (AMX p l e R s m args below meth c cells slots Qe nL D ad cI cB A0 H0 xs) (pc + 3) L (vI (min x y) :: S) σ) : (AMX p l e R s m args below meth c cells slots Qe nL D ad cI cB A0 H0 xs) pc L (vI y :: vI x :: S) σ := by
  intro H locs ls vs0 τ hσ hxs hL hS0 hP hV
  obtain ⟨y, vs1, rfl, rfl, hS1⟩ := SR_I hS0
  obtain ⟨x, vs2, rfl, rfl, hS2⟩ := SR_I hS1
  have hcat := SR_cat hS2
  obtain ⟨g1, g2, g3⟩ := mathW 3 (by omega)
  have T : ∀ w ∈ lw_g, w.before args s = true := fun w h => hc.2.2.2.2.1 w (hc.2.2.2.2.2.1 w h)
  exact va_mmin hc.1 hc.2.1 (hc.2.2.1.trans (LR_size hL).symm) hc.2.2.2.1 (T _ hw) (T _ g3) (T _ g2) (T _ g1) hc.2.2.2.2.2.2.2.2.2.2.2.2.1 (by have := hc.2.2.2.2.2.2.2.2.2.2.2.2.2; omega) hc.2.2.2.2.2.2.2.2.2.2.1 hc.2.2.2.2.2.2.2.2.2.2.2.1 hd (k H locs ls _ τ hσ hxs hL (SR_i (if y < x then y else x) (if_min x y) hS2) hP hV)
theorem a_maxL (hc : (AMC p R s m args c cells slots own bytes nL Ts D ad cI cB A A0 H0 xs sl)) {x0 : Nat} {x y : Int} (hd : decode bytes pc = .ok (.invokestatic x0, 3)) (hw : Cond.methodLink own x0 (yOf 2) ∈ lw_g) (hlen : catS S ≤ 8) (k : (AMX p l e R s m args below meth c cells slots Qe nL D ad cI cB A0 H0 xs) (pc + 3) L (vL (max x y) :: S) σ) : (AMX p l e R s m args below meth c cells slots Qe nL D ad cI cB A0 H0 xs) pc L (vL y :: vL x :: S) σ := by
  intro H locs ls vs0 τ hσ hxs hL hS0 hP hV
  obtain ⟨y, vs1, rfl, rfl, hS1⟩ := SR_L hS0
  obtain ⟨x, vs2, rfl, rfl, hS2⟩ := SR_L hS1
  have hcat := SR_cat hS2
  obtain ⟨g1, g2, g3⟩ := mathW 2 (by omega)
  have T : ∀ w ∈ lw_g, w.before args s = true := fun w h => hc.2.2.2.2.1 w (hc.2.2.2.2.2.1 w h)
  exact va_mmax_long hc.1 hc.2.1 (hc.2.2.1.trans (LR_size hL).symm) hc.2.2.2.1 (T _ hw) (T _ g3) (T _ g2) (T _ g1) hc.2.2.2.2.2.2.2.2.2.2.2.2.1 (by have := hc.2.2.2.2.2.2.2.2.2.2.2.2.2; omega) hc.2.2.2.2.2.2.2.2.2.2.1 hc.2.2.2.2.2.2.2.2.2.2.2.1 hd (k H locs ls _ τ hσ hxs hL (SR_l (if y < x then x else y) (if_maxL x y) hS2) hP hV)
end AMs
