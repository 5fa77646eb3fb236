/-! What the constructors need. -/
def CP (D : va_G) (cI cB : ClassId) (h0 : Nat) (E : va_E) (sz : Nat) (U : State) : Prop := U.heap.size = sz ∧ va_P D cls9 [(h0, E)] U.heap ∧ va_K D cls9 (tyIB cI cB) U ∧ nestA U
theorem CP_blind {D : va_G} {cI cB : ClassId} {h0 sz : Nat} {E : va_E} {avs : List Value} : FrameBlind (va_Pc avs (CP D cI cB h0 E sz)) := by
  intro a U g mk ⟨h1, h2, h3, h4, h5⟩
  exact ⟨h1, h2, h3, va_K.moved (u := U) (U := U.calling g mk a) (Vm.Alike.refl U.vm) h4, fun o x y h hw => va_Nw.same rfl (u := U) (U := U.calling g mk a) rfl (h5 o x y h hw)⟩
theorem CP_to {D : va_G} {cI cB : ClassId} {h0 : Nat} {E : va_E} {s U : State} {H : Heap} (hU : U.heap = H) (hW : s.WarmedH U.vm) (hP : va_P D cls9 [(h0, E)] H) (hK : va_K D cls9 (tyIB cI cB) s) (hN : nestA s) : CP D cI cB h0 E H.size U := ⟨by rw [hU], by rw [hU]; exact hP, va_K.moved hW.alike hK, fun o y z h hz => va_Nw.warmM hW (hN o y z h hz)⟩
theorem vD1 {h0 sz : Nat} {E : va_E} : va_D (va_A [(h0, E)] sz) [(h0, E)] := by
  refine ⟨fun i j p q hi hj _ => ?_, fun k q hk => va_A.in hk⟩
  have h1 : i < 1 := (List.getElem?_eq_some_iff.mp hi).1
  have h2 : j < 1 := (List.getElem?_eq_some_iff.mp hj).1
  omega
theorem va_D_w {A : Nat → Prop} {ad : Nat → Nat} {cI cB : ClassId} {τ τ' : Nat → Nat → Int32} (h : va_D A (wsf ad cI cB τ)) : va_D A (wsf ad cI cB τ') := by
  have hlen : ∀ τ, (wsf ad cI cB τ).length = 63 := fun τ => by simp [wsf]
  have key : ∀ (k : Nat) (q : Nat × va_E), (wsf ad cI cB τ')[k]? = some q → (wsf ad cI cB τ)[k]? = some (q.1, celO ad cI cB τ k) := by
    intro k q hk
    have hk63 : k < 63 := by
      have := (List.getElem?_eq_some_iff.mp hk).1
      rw [hlen] at this
      exact this
    rw [wsf_at hk63] at hk ⊢
    rw [← Option.some.inj hk]
  exact ⟨fun i j p q hi hj e => h.1 i j (p.1, celO ad cI cB τ i) (q.1, celO ad cI cB τ j) (key i p hi) (key j q hj) e, fun k q hk => h.2 k (q.1, celO ad cI cB τ k) (key k q hk)⟩
section NI
variable {p : Program} {l : Launch} {e : Env} {R : Room} {s : State} {m : MethodId} {args : Array Value} {below : List Frame} {meth : Method} {c : Code} {H : Heap} {locs : List Loc} {cells slots : Nat} {Q : State → Prop}
variable {cc : ByteArray} {pc : Nat} {ls : Array Slot} {rest : List Value} {D : va_G} {cl : List vw_C} {A : Nat → Prop} {tys : List (ClassId × FieldType)} {ws : va_W} {H0 : Heap}
/-- a new array, of the class that is known -/
theorem va_newI (hexec : p.tables.exec = Jvm.exec) (hb : c.code = cc) {atype : ArrayType} (harr : (Cond.arrayClass (newarray.typeOf atype)).before args s = true) {ty : FieldType} (hty : newarray.typeOf atype = ty) (hK : va_K D cl tys s) (hP : va_P D cl ws H) (hD : va_D A ws) (hS : va_S A H0 H locs) (hA : ∀ q, H0.size ≤ q → A q) {cA0 : ClassId} (t0 : Nat) (ht : tys[t0]? = some (cA0, ty)) (hty2 : ty = .int ∨ ty = .boolean)
    {n : Int32} {N' : Nat} {a0 : vp_A} (ha : ∀ cA : ClassId, vp_cell cA a0 = arrV cA N' (fun _ => defaultValue ty)) (hn : ¬ n < 0) (hN : n.toNatClampNeg = N') (hbytes : N' * componentBytes ty ≤ 536870912) (hcells : cells + 1 ≤ R.cells) (hslots : slots + N' ≤ R.slots) (hdg : decode cc pc = .ok (.newarray atype, 2))
    (kk : ∀ (q : Nat) (H1 : Heap), va_P D cl (ws ++ [(q, .inl (cA0, a0))]) H1 → va_D A (ws ++ [(q, .inl (cA0, a0))]) → va_S A H0 H1 locs →
      W p l e R s m args below meth c H1 locs (cells + 1) (slots + N') Q (F0 m (pc + 2) ls (.ref q :: rest))) : W p l e R s m args below meth c H locs cells slots Q (F0 m pc ls (.int n :: rest)) := by
  refine va_newa (atype := atype) hexec hb harr hty hK hP hD hS hA ha hn hN hbytes hcells hslots hdg (fun q cA H1 hK1 hP1 hD1 hS1 => ?_)
  have e1 := (hK1.2 tys.length (cA, ty) (by simp)).2
  have e2 := (hK.2 t0 _ ht).2
  have e3 : cA = cA0 := by
    rcases hty2 with rfl | rfl
    · exact Option.some.inj ((show s.vm.findClass _ = some cA from e1).symm.trans e2)
    · exact Option.some.inj ((show s.vm.findClass _ = some cA from e1).symm.trans e2)
  subst e3
  exact kk q H1 hP1 hD1 hS1
end NI
def y_Tb : MethodName := ⟨R_Tb, "<init>", "()V"⟩
abbrev z_Tb : va_E := .inr (1, [.null, .null, .null, .null, .null, .null, .null, .int 0, .int 0, .int 0, .int 0])
theorem zf_Tb : ∀ j, j < 11 → defaultValue (t_Tb j) = vp_V [.null, .null, .null, .null, .null, .null, .null, .int 0, .int 0, .int 0, .int 0] j := by
  intro j hj
  rcases (show j = 0 ∨ j = 1 ∨ j = 2 ∨ j = 3 ∨ j = 4 ∨ j = 5 ∨ j = 6 ∨ j = 7 ∨ j = 8 ∨ j = 9 ∨ j = 10 by omega) with rfl | rfl | rfl | rfl | rfl | rfl | rfl | rfl | rfl | rfl | rfl <;> rfl
theorem wg_Tb : ∀ w ∈ (Cond.code y_Tb prog_6_method_1_code 1 none :: lw_g), w ∈ lw_g := fun w h => by
  rcases List.mem_cons.mp h with rfl | h
  · exact g_tab (i := 23) (by decide +kernel) rfl
  · exact h
def y_Lt : MethodName := ⟨R_Lt, "<init>", "()V"⟩
abbrev z_Lt : va_E := .inr (2, [.null, .int 0])
theorem zf_Lt : ∀ j, j < 2 → defaultValue (t_Lt j) = vp_V [.null, .int 0] j := by
  intro j hj
  rcases (show j = 0 ∨ j = 1 by omega) with rfl | rfl <;> rfl
theorem wg_Lt : ∀ w ∈ (Cond.code y_Lt prog_4_method_1_code 1 none :: lw_g), w ∈ lw_g := fun w h => by
  rcases List.mem_cons.mp h with rfl | h
  · exact g_tab (i := 89) (by decide +kernel) rfl
  · exact h
def y_Ev : MethodName := ⟨R_Ev, "<init>", "()V"⟩
abbrev z_Ev : va_E := .inr (3, [.null, .null, .null, .null, .null, .null, .int 0])
theorem zf_Ev : ∀ j, j < 7 → defaultValue (t_Ev j) = vp_V [.null, .null, .null, .null, .null, .null, .int 0] j := by
  intro j hj
  rcases (show j = 0 ∨ j = 1 ∨ j = 2 ∨ j = 3 ∨ j = 4 ∨ j = 5 ∨ j = 6 by omega) with rfl | rfl | rfl | rfl | rfl | rfl | rfl <;> rfl
theorem wg_Ev : ∀ w ∈ (Cond.code y_Ev prog_2_method_1_code 1 none :: lw_g), w ∈ lw_g := fun w h => by
  rcases List.mem_cons.mp h with rfl | h
  · exact g_tab (i := 109) (by decide +kernel) rfl
  · exact h
def y_Tr : MethodName := ⟨R_Tr, "<init>", "()V"⟩
abbrev z_Tr : va_E := .inr (4, [.null, .null])
theorem zf_Tr : ∀ j, j < 2 → defaultValue (t_Tr j) = vp_V [.null, .null] j := by
  intro j hj
  rcases (show j = 0 ∨ j = 1 by omega) with rfl | rfl <;> rfl
theorem wg_Tr : ∀ w ∈ (Cond.code y_Tr prog_7_method_1_code 1 none :: lw_g), w ∈ lw_g := fun w h => by
  rcases List.mem_cons.mp h with rfl | h
  · exact g_tab (i := 103) (by decide +kernel) rfl
  · exact h
def y_Sh : MethodName := ⟨R_Sh, "<init>", "()V"⟩
abbrev z_Sh : va_E := .inr (5, [.null, .null])
theorem zf_Sh : ∀ j, j < 2 → defaultValue (t_Sh j) = vp_V [.null, .null] j := by
  intro j hj
  rcases (show j = 0 ∨ j = 1 by omega) with rfl | rfl <;> rfl
theorem wg_Sh : ∀ w ∈ (Cond.code y_Sh prog_5_method_1_code 1 none :: lw_g), w ∈ lw_g := fun w h => by
  rcases List.mem_cons.mp h with rfl | h
  · exact g_tab (i := 154) (by decide +kernel) rfl
  · exact h
def y_X : MethodName := ⟨R_X, "<init>", "()V"⟩
abbrev z_X : va_E := .inr (0, [.null, .null, .int 0, .null, .null, .int 0, .null, .null, .null])
theorem zf_X : ∀ j, j < 9 → defaultValue (t_X j) = vp_V [.null, .null, .int 0, .null, .null, .int 0, .null, .null, .null] j := by
  intro j hj
  rcases (show j = 0 ∨ j = 1 ∨ j = 2 ∨ j = 3 ∨ j = 4 ∨ j = 5 ∨ j = 6 ∨ j = 7 ∨ j = 8 by omega) with rfl | rfl | rfl | rfl | rfl | rfl | rfl | rfl | rfl <;> rfl
theorem wg_X : ∀ w ∈ (Cond.code y_X prog_1_method_1_code 1 none :: lw_g), w ∈ lw_g := fun w h => by
  rcases List.mem_cons.mp h with rfl | h
  · exact g_tab (i := 15) (by decide +kernel) rfl
  · exact h
def y_Mo : MethodName := ⟨R_Mo, "<init>", "()V"⟩
abbrev z_Mo : va_E := .inr (6, [.null, .null, .null, .null, .null, .null, .null, .int 0, .int 0, .int 0, .int 0, .null, .null, .null, .null, .null, .int 0, .int 0, .int 0, .null, .int 0, .int 0, .int 0, .null, .null, .null, .null, .null, .int 0, .int 0, .int 0, .int 0, .null, .int 0, .null, .null, .null, .null])
theorem zf_Mo : ∀ j, j < 38 → defaultValue (t_Mo j) = vp_V [.null, .null, .null, .null, .null, .null, .null, .int 0, .int 0, .int 0, .int 0, .null, .null, .null, .null, .null, .int 0, .int 0, .int 0, .null, .int 0, .int 0, .int 0, .null, .null, .null, .null, .null, .int 0, .int 0, .int 0, .int 0, .null, .int 0, .null, .null, .null, .null] j := by
  intro j hj
  rcases (show j = 0 ∨ j = 1 ∨ j = 2 ∨ j = 3 ∨ j = 4 ∨ j = 5 ∨ j = 6 ∨ j = 7 ∨ j = 8 ∨ j = 9 ∨ j = 10 ∨ j = 11 ∨ j = 12 ∨ j = 13 ∨ j = 14 ∨ j = 15 ∨ j = 16 ∨ j = 17 ∨ j = 18 ∨ j = 19 ∨ j = 20 ∨ j = 21 ∨ j = 22 ∨ j = 23 ∨ j = 24 ∨ j = 25 ∨ j = 26 ∨ j = 27 ∨ j = 28 ∨ j = 29 ∨ j = 30 ∨ j = 31 ∨ j = 32 ∨ j = 33 ∨ j = 34 ∨ j = 35 ∨ j = 36 ∨ j = 37 by omega) with rfl | rfl | rfl | rfl | rfl | rfl | rfl | rfl | rfl | rfl | rfl | rfl | rfl | rfl | rfl | rfl | rfl | rfl | rfl | rfl | rfl | rfl | rfl | rfl | rfl | rfl | rfl | rfl | rfl | rfl | rfl | rfl | rfl | rfl | rfl | rfl | rfl | rfl <;> rfl
theorem wg_Mo : ∀ w ∈ (Cond.code y_Mo prog_9_method_1_code 1 none :: lw_g), w ∈ lw_g := fun w h => by
  rcases List.mem_cons.mp h with rfl | h
  · exact g_tab (i := 682) (by decide +kernel) rfl
  · exact h
