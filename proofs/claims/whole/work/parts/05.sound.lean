/-! Calls, ends, and the whole: what the small machine says of a method is the method's contract. -/
def RI (bytes : ByteArray) (ret : Option FieldType) (pc : Nat) (rv : Option Value) : Prop :=
  (decode bytes pc = .ok (.ireturn, 1) ∧ ∃ x : Int32, rv = some (.int x) ∧ (ret = some .int ∨ (ret = some .boolean ∧ (x = 0 ∨ x = 1)))) ∨ (decode bytes pc = .ok (.lreturn, 1) ∧ ∃ x : Int64, rv = some (.long x) ∧ ret = some .long) ∨ (decode bytes pc = .ok (.areturn, 1) ∧ ∃ k : Nat, rv = some (.ref k) ∧ ret = some (.object "CorkageOnRemarks$Evening")) ∨ (decode bytes pc = .ok (.return_, 1) ∧ rv = none ∧ ret = none)
def AMR (p : Program) (l : Launch) (e : Env) (R : Room) (s : State) (m : MethodId) (args : Array Value) (below : List Frame) (meth : Method) (c : Code) (cells slots : Nat) (Qe : State → Prop) (bytes : ByteArray) (ret : Option FieldType) (D : va_G) (ad : Nat → Nat) (cI cB : ClassId) (A0 : Nat → Prop) (H0 : Heap) (xs : Nat → Int32) (Q : PQ) : Prop :=
  ∀ (pc : Nat) (H : Heap) (locs : List Loc) (ls : Array Slot) (τ : Nat → Nat → Int32) (r : Option AV) (rv : Option Value), Q r (toI τ) → OR ad r rv → τ 63 = xs → va_P D cls9 (wsf ad cI cB τ) H → va_S A0 H0 H locs → RI bytes ret pc rv → W p l e R s m args below meth c H locs cells slots Qe (F0 m pc ls rv.toList)
def rmD (d : Nat) : Room := { frames := d, cells := 0, slots := 0, locals := 34 * d }
theorem PU_blind {D : va_G} {ad : Nat → Nat} {cI cB : ClassId} {τ : Nat → Nat → Int32} {avs : List Value} : FrameBlind (va_Pc avs (PU D ad cI cB τ)) := by
  intro a U g mk ⟨h1, h2, h3, h4⟩
  exact ⟨h1, h2, va_K.moved (u := U) (U := U.calling g mk a) (Vm.Alike.refl U.vm) h3, fun o x y h hw => va_Nw.same rfl (u := U) (U := U.calling g mk a) rfl (h4 o x y h hw)⟩
theorem cof_lt (c : Nat) : cof c < 7 ∨ cof c = 99 := by
  unfold cof
  split
  · rename_i ci fl hx
    have h1 := shOk_all c (sh_lt hx)
    unfold shOk at h1
    rw [hx] at h1
    simp only [Bool.and_eq_true] at h1
    exact Or.inl (by have := h1.1; simp only [Nat.blt, Nat.ble_eq] at this; omega)
  · exact Or.inr rfl
def cnOk (a : Nat) : Bool := Nat.blt (clsNo a) 99 && (!(Nat.blt (clsNo a) 7) || decide ((fldT (clsNo a)).1 = (yOf a).cls))
theorem cnOk_all : ∀ a, a < 192 → cnOk a = true := by decide +kernel
theorem okM_facts {a : Nat} (ha : a < 192) : Cond.code (yOf a) (bOf a) (maxOf a) (retOf a) ∈ lw_g ∧ Cond.initialized (yOf a).cls ∈ lw_g ∧ ((yOf a).cls ≠ "java/lang/invoke/MethodHandle" ∧ (yOf a).cls ≠ "java/lang/invoke/VarHandle" ∧ (parseMethodDescriptor (yOf a).desc).map (fun d => d.parameters.length) = some (argN a)) ∧ maxOf a ≤ 15 ∧ (stOf a = 1 → Cond.static (yOf a) ∈ lw_g) ∧ (stOf a ≠ 1 → Cond.instanceMethod (yOf a) ∈ lw_g ∧ Cond.selects (yOf a).cls (yOf a) (yOf a) ∈ lw_g) ∧ (a = 1 ∨ a = 2 ∨ a = 3 ∨ plainName (yOf a).cls = true) := by
  have h := okM_all a ha
  unfold okM at h
  simp only [Bool.and_eq_true, decide_eq_true_eq] at h
  obtain ⟨⟨⟨⟨⟨h1, h2⟩, h3⟩, h4⟩, h5⟩, h6⟩ := h
  refine ⟨g_tab h1 rfl, g_tab h2 rfl, h4, Nat.le_of_ble_eq_true h5, fun hs => ?_, fun hs => ?_, ?_⟩
  · have hs : (rc a).2.2.2.2.1 = 1 := hs
    rw [hs] at h6
    simp only [decide_eq_true_eq] at h6
    exact g_tab h6 rfl
  · have hs : (rc a).2.2.2.2.1 ≠ 1 := hs
    split at h6
    · rename_i hx; exact absurd hx hs
    · simp only [Bool.and_eq_true, decide_eq_true_eq] at h6
      refine ⟨g_tab h6.1 rfl, g_mem (List.mem_append_left _ ?_) rfl⟩
      obtain ⟨q, hq, he⟩ := List.mem_map.mp (List.mem_of_getElem? h6.2)
      exact List.mem_map.mpr ⟨q, hq, by rw [he]; rfl⟩
    · simp only [Bool.and_eq_true, decide_eq_true_eq] at h6
      exact ⟨g_tab h6.1 rfl, g_tab h6.2 rfl⟩
  · simp only [Bool.or_eq_true, decide_eq_true_eq] at h3
    rcases h3 with ((h | h) | h) | h
    · exact Or.inl (Nat.eq_of_beq_eq_true h)
    · exact Or.inr (Or.inl (Nat.eq_of_beq_eq_true h))
    · exact Or.inr (Or.inr (Or.inl (Nat.eq_of_beq_eq_true h)))
    · exact Or.inr (Or.inr (Or.inr h))
theorem wm_sub {a : Nat} (ha : a < 192) : ∀ w ∈ wmO a, w ∈ lw_g := fun w hw => by
  rcases List.mem_cons.mp hw with rfl | h
  · exact (okM_facts ha).1
  · exact h
theorem mathN (j : Nat) (hj : j = 1 ∨ j = 2 ∨ j = 3) {o : String} {x pos : Nat} : ¬ tables_1[pos]? = some (Cond.methodLinkNest o x (yOf j) "CorkageOnRemarks") := by
  intro h
  have hm := List.mem_of_getElem? h
  have key : tables_1.all (fun w => match w with
    | .methodLinkNest _ _ y _ => decide (y ≠ yOf 1 ∧ y ≠ yOf 2 ∧ y ≠ yOf 3)
    | _ => true) = true := by decide +kernel
  have := List.all_eq_true.mp key _ hm
  simp only [decide_eq_true_eq] at this
  rcases hj with rfl | rfl | rfl
  · exact this.1 rfl
  · exact this.2.1 rfl
  · exact this.2.2 rfl
section AMt
variable {p : Program} {l : Launch} {e : Env} {R : Room} {s : State} {m : MethodId} {args : Array Value} {below : List Frame} {meth : Method} {c : Code} {cells slots : Nat} {Qe : State → Prop} {own : String} {bytes : ByteArray} {nL : Nat} {Ts : List Cond} {D : va_G} {ad : Nat → Nat} {cI cB : ClassId} {A A0 : Nat → Prop} {H0 : Heap} {xs : Nat → Int32} {sl : Option Nat}
variable {pc : Nat} {L : Lo} {S : List AV} {σ : Sto}
theorem after_run {H : Heap} {locs : List Loc} {ls : Array Slot} {st0 rest : List Value} {Q' : PQ} {aa : Array Value} (hr : va_Run p l e R s m args below meth c H locs cells slots 0 0 (F0 m pc ls st0) rest (QR D ad cI cB A xs Q' aa) A) (hV : va_S A0 H0 H locs) (hAA : ∀ q, A q → A0 q)
    (kk : ∀ (r : Option AV) (rv : Option Value) (τ' : Nat → Nat → Int32) (H1 : Heap) (locs1 : List Loc), OR ad r rv → Q' r (toI τ') → τ' 63 = xs → va_P D cls9 (wsf ad cI cB τ') H1 → va_S A0 H0 H1 locs1 → W p l e R s m args below meth c H1 locs1 cells slots Qe (F0 m (pc + 3) ls (rv.toList ++ rest))) : W p l e R s m args below meth c H locs cells slots Qe (F0 m pc ls st0) := by
  intro T hT X
  obtain ⟨v, st₀, t, T', L, h0, X', hL, e1, e2, ⟨⟨r, rv, τ', hv, hor, hq, hx, hp⟩, hz, hk⟩, st⟩ := hr T hT X
  cases hv
  rw [h0] at hz hk
  obtain ⟨t2, a1, b1⟩ := kk r v τ' T'.heap (locs ++ L) hor hq hx (by rw [e1]; exact hp) ⟨Nat.le_trans hV.1 (by rw [e1]; exact hz), fun q h1 h2 => by rw [e1, hk q (Nat.lt_of_lt_of_le h1 hV.1) (fun z => h2 (hAA q z))]; exact hV.2.1 q h1 h2, fun q hq => by
    rcases List.mem_append.mp hq with h | h
    · exact hV.2.2 q h
    · exact hAA _ (hL q h)⟩ T' rfl X'
  exact ⟨t2, st t2 a1, b1⟩
theorem SR_psh {r : Option AV} {rv : Option Value} {vs : List Value} (ho : OR ad r rv) (h : SR ad S vs) : SR ad (psh r S) (rv.toList ++ vs) := by
  match r, rv, ho with
  | none, none, _ => exact h
  | some v, some w, ho => exact ⟨w, vs, rfl, ho, h⟩
theorem a_invV (hc : (AMC p R s m args c cells slots own bytes nL Ts D ad cI cB A A0 H0 xs sl)) {x a b k0 : Nat} {rm : Room} (hd : decode bytes pc = .ok (.invokevirtual x, 3)) (ha : a < 192) (hb : b = argN a) (hst : stOf a ≠ 1) (hw : Cond.methodLink own x (yOf a) ∈ lw_g) (hrm : rm.cells = 0 ∧ rm.slots = 0 ∧ rm.frames + 1 ≤ R.frames ∧ 34 + rm.locals ≤ R.locals)
    (hM : ∀ avs τ, SR ad (vR k0 :: (S.take b).reverse) avs → σ = toI τ → τ 63 = xs → Met l (yOf a) (wmO a) rm (va_Pc avs (PU D ad cI cB τ)) (QR D ad cI cB A xs (fun r σ' => (AMX p l e R s m args below meth c cells slots Qe nL D ad cI cB A0 H0 xs) (pc + 3) L (psh r (S.drop (b + 1))) σ')) 0 0 A)
    (hk : nth S b = some (.inr (.inl k0))) (hlen : catS (S.drop (b + 1)) ≤ 8) (hcl : cof k0 = clsNo a) : (AMX p l e R s m args below meth c cells slots Qe nL D ad cI cB A0 H0 xs) pc L S σ := by
  intro H locs ls vs τ hσ hxs hL hS hP hV
  have hdrop := SR_nth b hS hk
  obtain ⟨hS1, hS2⟩ := SR_split b hS
  have hS3 := (SR_split (b + 1) hS).2
  have hlv := SR_len hS
  have hbl := nth_lt hk
  obtain ⟨g1, g2, g3, g4, -, g6, -⟩ := okM_facts ha
  obtain ⟨g7, g8⟩ := g6 hst
  have hcn := cnOk_all a ha
  unfold cnOk at hcn
  simp only [Bool.and_eq_true, Bool.or_eq_true, Bool.not_eq_true', decide_eq_true_eq] at hcn
  have hlt : clsNo a < 7 := by
    rcases cof_lt k0 with h | h
    · omega
    · have := hcn.1
      simp only [Nat.blt, Nat.ble_eq] at this
      omega
  have hname : (fldT (clsNo a)).1 = (yOf a).cls := by
    rcases hcn.2 with h | h
    · exfalso
      have h2 : Nat.blt (clsNo a) 7 = true := by simp only [Nat.blt, Nat.ble_eq]; omega
      rw [h2] at h; cases h
    · exact h
  obtain ⟨fl, hfl⟩ := cof_sh hcl hlt
  have hc63 := sh_lt hfl
  have hat : (wsf ad cI cB τ)[k0]? = some (ad k0, .inr (clsNo a, (List.range fl.length).map fun k => fval ad τ k0 k)) := by rw [wsf_at hc63]; simp only [celO, hfl]
  have hrecv := va_recv hc.2.2.2.2.2.2.1 hP (cls9_get hlt) hat
  rw [hname] at hrecv
  have hargs : SR ad (vR k0 :: (S.take b).reverse) (.ref (ad k0) :: (vs.take b).reverse) := SR_r (SR_rev hS1)
  have hMM := hM _ τ hargs hσ hxs
  have hts := hc.2.2.2.2.1
  have hsub := hc.2.2.2.2.2.1
  have hg : GoodIn Ts (wsV own x (yOf a).cls (yOf a) (wmO a)) := good_sub hsub (fun w h => by
    unfold wsV at h
    rcases List.mem_append.mp h with h | h
    · simp only [List.mem_cons, List.not_mem_nil, or_false] at h
      rcases h with rfl | rfl | rfl | rfl
      · exact hw
      · exact g7
      · exact g8
      · exact g2
    · exact wm_sub ha w h)
  refine after_run (va_runV (As := (vs.take b).reverse) (rest := vs.drop (b + 1)) ⟨hc.1, hc.2.1, hc.2.2.1, hc.2.2.2.1, hts⟩ hMM (cwV b hts hg rfl hrm.1 hrm.2.1 ⟨rfl, g3.1, g3.2.1, by rw [hb]; exact g3.2.2⟩ ⟨hrm.2.2.1, by omega⟩)
    ⟨PU_blind, hrecv, fun U hU hW => ⟨rfl, by rw [hU]; exact hP, va_K.moved hW.alike hc.2.2.2.2.2.2.1, fun o y z h hz => va_Nw.warmM hW (hc.2.2.2.2.2.2.2.2.1.2 o y z h hz)⟩⟩ rfl (by rw [List.length_reverse, List.length_take]; omega) (LR_size hL) ?_ (lv_room (by rw [SR_cat hS3]; exact hlen)) hd ⟨hc.2.2.2.2.2.2.2.2.2.2.1, hc.2.2.2.2.2.2.2.2.2.2.2.1⟩) hV hc.2.2.2.2.2.2.2.2.1.1 ?_
  · show vs = _
    rw [List.reverse_reverse, ← hdrop, List.take_append_drop]
  · intro r rv τ' H1 locs1 hor hq hx hp hv'
    exact hq H1 locs1 ls _ τ' rfl hx hL (SR_psh hor hS3) hp hv'
theorem a_invS (hc : (AMC p R s m args c cells slots own bytes nL Ts D ad cI cB A A0 H0 xs sl)) {x a b : Nat} {rm : Room} (hd : decode bytes pc = .ok (.invokestatic x, 3)) (ha : a < 192) (hb : b = argN a) (hst : stOf a = 1) (hw : Cond.methodLink own x (yOf a) ∈ lw_g ∨ Cond.methodLinkNest own x (yOf a) "CorkageOnRemarks" ∈ lw_tbl) (hrm : rm.cells = 0 ∧ rm.slots = 0 ∧ rm.frames + 1 ≤ R.frames ∧ 34 + rm.locals ≤ R.locals)
    (hM : ∀ avs τ, SR ad ((S.take b).reverse) avs → σ = toI τ → τ 63 = xs → Met l (yOf a) (wmO a) rm (va_Pc avs (PU D ad cI cB τ)) (QR D ad cI cB A xs (fun r σ' => (AMX p l e R s m args below meth c cells slots Qe nL D ad cI cB A0 H0 xs) (pc + 3) L (psh r (S.drop b)) σ')) 0 0 A)
    (hbl : b ≤ S.length) (hlen : catS (S.drop b) ≤ 8) : (AMX p l e R s m args below meth c cells slots Qe nL D ad cI cB A0 H0 xs) pc L S σ := by
  intro H locs ls vs τ hσ hxs hL hS hP hV
  obtain ⟨hS1, hS2⟩ := SR_split b hS
  have hlv := SR_len hS
  obtain ⟨g1, g2, g3, g4, g5, -, -⟩ := okM_facts ha
  have g7 := g5 hst
  have hMM := hM _ τ (SR_rev hS1) hσ hxs
  have hts := hc.2.2.2.2.1
  have hsub := hc.2.2.2.2.2.1
  have pre : PreS s H (va_Pc (vs.take b).reverse (PU D ad cI cB τ)) (vs.take b).reverse := ⟨PU_blind, fun U hU hW => ⟨rfl, by rw [hU]; exact hP, va_K.moved hW.alike hc.2.2.2.2.2.2.1, fun o y z h hz => va_Nw.warmM hW (hc.2.2.2.2.2.2.2.2.1.2 o y z h hz)⟩⟩
  have hstk : vs = (vs.take b).reverse.reverse ++ vs.drop b := by rw [List.reverse_reverse, List.take_append_drop]
  have fin : ∀ (r : Option AV) (rv : Option Value) (τ' : Nat → Nat → Int32) (H1 : Heap) (locs1 : List Loc), OR ad r rv → (AMX p l e R s m args below meth c cells slots Qe nL D ad cI cB A0 H0 xs) (pc + 3) L (psh r (S.drop b)) (toI τ') → τ' 63 = xs → va_P D cls9 (wsf ad cI cB τ') H1 → va_S A0 H0 H1 locs1 → W p l e R s m args below meth c H1 locs1 cells slots Qe (F0 m (pc + 3) ls (rv.toList ++ vs.drop b)) := by
    intro r rv τ' H1 locs1 hor hq hx hp hv'
    exact hq H1 locs1 ls _ τ' rfl hx hL (SR_psh hor hS2) hp hv'
  have hroom : 2 * (F0 m pc ls vs).monitorRoom + ((vs.drop b).map fun v => v.category).sum ≤ 8 := lv_room (by rw [SR_cat hS2]; exact hlen)
  have hdd : (yOf a).cls ≠ "java/lang/invoke/MethodHandle" ∧ (yOf a).cls ≠ "java/lang/invoke/VarHandle" ∧ (parseMethodDescriptor (yOf a).desc).map (fun d => d.parameters.length) = some b := ⟨g3.1, g3.2.1, by rw [hb]; exact g3.2.2⟩
  have hn : (vs.take b).reverse.length = b := by rw [List.length_reverse, List.length_take]; omega
  rcases hw with hw | hw
  · have hg : GoodIn Ts (va_wsS own x (yOf a) (wmO a)) := good_sub hsub (fun w h => by
      unfold va_wsS at h
      rcases List.mem_append.mp h with h | h
      · simp only [List.mem_cons, List.not_mem_nil, or_false] at h
        rcases h with rfl | rfl | rfl
        · exact hw
        · exact g7
        · exact g2
      · exact wm_sub ha w h)
    exact after_run (va_runS (As := (vs.take b).reverse) (rest := vs.drop b) ⟨hc.1, hc.2.1, hc.2.2.1, hc.2.2.2.1, hts⟩ hMM (va_cwS b hts hg rfl hrm.1 hrm.2.1 hdd ⟨hrm.2.2.1, by omega⟩) pre rfl hn (LR_size hL) hstk hroom hd ⟨hc.2.2.2.2.2.2.2.2.2.2.1, hc.2.2.2.2.2.2.2.2.2.2.2.1⟩) hV hc.2.2.2.2.2.2.2.2.1.1 fin
  · have hg : GoodIn Ts (wmO a) := good_sub hsub (wm_sub ha)
    exact after_run (va_runSN (As := (vs.take b).reverse) (rest := vs.drop b) ⟨hc.1, hc.2.1, hc.2.2.1, hc.2.2.2.1, hts⟩ hMM ⟨va_cnB b hts hg rfl hrm.1 hrm.2.1 (hc.2.2.2.2.2.2.2.2.1.2 _ _ _ _ hw) (hts _ (hsub _ g2)) hdd ⟨hrm.2.2.1, by omega⟩, hts _ (hsub _ g7), trivial⟩ pre rfl hn (LR_size hL) hstk hroom hd ⟨hc.2.2.2.2.2.2.2.2.2.2.1, hc.2.2.2.2.2.2.2.2.2.2.2.1⟩) hV hc.2.2.2.2.2.2.2.2.1.1 fin
theorem p1_s {S : List AV} {k : Int → List AV → Prop} (h : p1I S k) : ∃ x st, S = vI x :: st ∧ k x st := by
  unfold p1I at h
  split at h
  · exact ⟨_, _, rfl, h⟩
  · exact h.elim
theorem p2_s {S : List AV} {k : Int → Int → List AV → Prop} (h : p2I S k) : ∃ x y st, S = vI y :: vI x :: st ∧ k x y st := by
  unfold p2I at h
  split at h
  · exact ⟨_, _, _, rfl, h⟩
  · exact h.elim
theorem p2l_s {S : List AV} {k : Int → Int → List AV → Prop} (h : p2L S k) : ∃ x y st, S = vL y :: vL x :: st ∧ k x y st := by
  unfold p2L at h
  split at h
  · exact ⟨_, _, _, rfl, h⟩
  · exact h.elim
theorem ldI_s {L : Lo} {i : Nat} {k : Int → Prop} (h : ldI L i k) : ∃ v, nth L i = some (some (vI v)) ∧ k v := by
  unfold ldI at h
  split at h
  · rename_i n hn; exact ⟨n, hn, h⟩
  · exact h.elim
theorem ldR_s {L : Lo} {i : Nat} {k : Nat → Prop} (h : ldR L i k) : ∃ v, nth L i = some (some (vR v)) ∧ k v := by
  unfold ldR at h
  split at h
  · rename_i n hn; exact ⟨n, hn, h⟩
  · exact h.elim
theorem ldL_s {L : Lo} {i : Nat} {k : Int → Prop} (h : ldL L i k) : ∃ v, nth L i = some (some (vL v)) ∧ k v := by
  unfold ldL at h
  split at h
  · rename_i n hn; exact ⟨n, hn, h⟩
  · exact h.elim
theorem cond_s {b : Bool} {P : Prop} (h : cond b P False) : b = true ∧ P := by
  cases b with
  | true => exact ⟨rfl, h⟩
  | false => exact h.elim
theorem blt_s {a b : Nat} (h : Nat.blt a b = true) : a < b := by
  simp only [Nat.blt, Nat.ble_eq] at h; omega
theorem ln_s {a b : Nat} (h : Nat.beq a b = true) : a = b := Nat.eq_of_beq_eq_true h
theorem alS_s {sl : Option Nat} {c n : Nat} {bo : Bool} (h : alenS sl c = some (bo, n)) : (c = 63 ∧ sl = some n ∧ bo = false) ∨ (c ≠ 63 ∧ alen c = some (bo, n)) := by
  unfold alenS at h
  cases hc : Nat.beq c 63 with
  | true =>
    rw [hc] at h
    simp only [cond_true] at h
    split at h
    · simp only [Option.some.injEq, Prod.mk.injEq] at h
      exact Or.inl ⟨ln_s hc, by rw [h.2], h.1.symm⟩
    · cases h
  | false =>
    rw [hc] at h
    exact Or.inr ⟨fun z => absurd hc (by rw [z]; decide), h⟩
set_option maxHeartbeats 4000000 in
theorem am_arm (hc : (AMC p R s m args c cells slots own bytes nL Ts D ad cI cB A A0 H0 xs sl)) {C : Nat → List AV → Sto → PQ → Prop} {rm : Room} {ret : Option FieldType} {Q : PQ} (hrm : rm.cells = 0 ∧ rm.slots = 0 ∧ rm.frames + 1 ≤ R.frames ∧ 34 + rm.locals ≤ R.locals)
    (hC : ∀ (j : Nat) (a : List AV) (σ : Sto) (Q' : PQ), j < 192 → ¬ (j = 1 ∨ j = 2 ∨ j = 3) → C j a σ Q' → ∀ avs τ, SR ad a avs → σ = toI τ → τ 63 = xs → Met l (yOf j) (wmO j) rm (va_Pc avs (PU D ad cI cB τ)) (QR D ad cI cB A xs Q') 0 0 A)
    (hR : AMR p l e R s m args below meth c cells slots Qe bytes ret D ad cI cB A0 H0 xs Q) (i : Instr) (len a b pos : Nat) (ks : List (Int × Nat)) (hd : decode bytes pc = .ok (i, len)) (hl : lenOk i len = true) (hr : resOk own ret pc i a b pos ks = true)
    (h : arm clsNo C sl (AMX p l e R s m args below meth c cells slots Qe nL D ad cI cB A0 H0 xs) Q pc L S σ i a b ks) : (AMX p l e R s m args below meth c cells slots Qe nL D ad cI cB A0 H0 xs) pc L S σ := by
  cases i
  case iconst n => exact a_iconst hc (by rw [ln_s hl] at hd; exact hd) (by simpa [resOk] using hr) h
  case bipush n => exact a_bipush hc (by rw [ln_s hl] at hd; exact hd) (by simpa [resOk] using hr) h
  case sipush n => exact a_sipush hc (by rw [ln_s hl] at hd; exact hd) (by simpa [resOk] using hr) h
  case lconst n => exact a_lconst hc (by rw [ln_s hl] at hd; exact hd) h
  case ldc x => 
    match ks, h, hr with
    | (v, _) :: _, h, hr =>
      simp only [resOk, Bool.and_eq_true, decide_eq_true_eq] at hr
      exact a_ldc hc (by rw [ln_s hl] at hd; exact hd) (g_tab hr.1 rfl) hr.2 h
    | [], h, _ => exact h.elim
  case ldc_w x => 
    match ks, h, hr with
    | (v, _) :: _, h, hr =>
      simp only [resOk, Bool.and_eq_true, decide_eq_true_eq] at hr
      exact a_ldc_w hc (by rw [ln_s hl] at hd; exact hd) (g_tab hr.1 rfl) hr.2 h
    | [], h, _ => exact h.elim
  case ldc2_w x => 
    match ks, h, hr with
    | (v, _) :: _, h, hr =>
      simp only [resOk, Bool.and_eq_true, decide_eq_true_eq] at hr
      exact a_ldc2_w hc (by rw [ln_s hl] at hd; exact hd) (g_tab hr.1 rfl) hr.2 h
    | [], h, _ => exact h.elim
  case iload_n n => 
    obtain ⟨v, hv, h⟩ := ldI_s h
    exact a_iload_n hc (by rw [ln_s hl] at hd; exact hd) hv h
  case iload n => 
    obtain ⟨v, hv, h⟩ := ldI_s h
    exact a_iload hc (by rw [ln_s hl] at hd; exact hd) hv h
  case lload_n n => 
    obtain ⟨v, hv, h⟩ := ldL_s h
    exact a_lload_n hc (by rw [ln_s hl] at hd; exact hd) hv h
  case lload n => 
    obtain ⟨v, hv, h⟩ := ldL_s h
    exact a_lload hc (by rw [ln_s hl] at hd; exact hd) hv h
  case aload_n n => 
    obtain ⟨v, hv, h⟩ := ldR_s h
    exact a_aload_n hc (by rw [ln_s hl] at hd; exact hd) hv h
  case aload n => 
    obtain ⟨v, hv, h⟩ := ldR_s h
    exact a_aload hc (by rw [ln_s hl] at hd; exact hd) hv h
  case istore_n n => 
    obtain ⟨x, st, rfl, h⟩ := p1_s h
    obtain ⟨h1, h⟩ := cond_s h
    exact a_istore_n hc (by rw [ln_s hl] at hd; exact hd) (blt_s h1) h
  case astore_n n => 
    match S, h with
    | .inr (.inl x) :: st, h =>
      obtain ⟨h1, h⟩ := cond_s h
      exact a_astore_n hc (by rw [ln_s hl] at hd; exact hd) (blt_s h1) h
    | .inl _ :: _, h => exact h.elim
    | .inr (.inr _) :: _, h => exact h.elim
    | [], h => exact h.elim
  case lstore_n n => 
    match S, h with
    | .inr (.inr x) :: st, h =>
      obtain ⟨h1, h⟩ := cond_s h
      exact a_lstore_n hc (by rw [ln_s hl] at hd; exact hd) (blt_s h1) h
    | .inl _ :: _, h => exact h.elim
    | .inr (.inl _) :: _, h => exact h.elim
    | [], h => exact h.elim
  case istore n => 
    obtain ⟨x, st, rfl, h⟩ := p1_s h
    obtain ⟨h1, h⟩ := cond_s h
    exact a_istore hc (by rw [ln_s hl] at hd; exact hd) (blt_s h1) h
  case astore n => 
    match S, h with
    | .inr (.inl x) :: st, h =>
      obtain ⟨h1, h⟩ := cond_s h
      exact a_astore hc (by rw [ln_s hl] at hd; exact hd) (blt_s h1) h
    | .inl _ :: _, h => exact h.elim
    | .inr (.inr _) :: _, h => exact h.elim
    | [], h => exact h.elim
  case lstore n => 
    match S, h with
    | .inr (.inr x) :: st, h =>
      obtain ⟨h1, h⟩ := cond_s h
      exact a_lstore hc (by rw [ln_s hl] at hd; exact hd) (blt_s h1) h
    | .inl _ :: _, h => exact h.elim
    | .inr (.inl _) :: _, h => exact h.elim
    | [], h => exact h.elim
  case iinc n k => 
    obtain ⟨v, hv, h⟩ := ldI_s h
    exact a_iinc hc (by rw [ln_s hl] at hd; exact hd) (by simpa [resOk] using hr) hv h
  case iadd => 
    obtain ⟨x, y, st, rfl, h⟩ := p2_s h
    exact a_iadd hc (by rw [ln_s hl] at hd; exact hd) h
  case isub => 
    obtain ⟨x, y, st, rfl, h⟩ := p2_s h
    exact a_isub hc (by rw [ln_s hl] at hd; exact hd) h
  case imul => 
    obtain ⟨x, y, st, rfl, h⟩ := p2_s h
    exact a_imul hc (by rw [ln_s hl] at hd; exact hd) h
  case iand => 
    obtain ⟨x, y, st, rfl, h⟩ := p2_s h
    exact a_iand hc (by rw [ln_s hl] at hd; exact hd) h
  case ior => 
    obtain ⟨x, y, st, rfl, h⟩ := p2_s h
    exact a_ior hc (by rw [ln_s hl] at hd; exact hd) h
  case ixor => 
    obtain ⟨x, y, st, rfl, h⟩ := p2_s h
    exact a_ixor hc (by rw [ln_s hl] at hd; exact hd) h
  case ishl => 
    obtain ⟨x, y, st, rfl, h⟩ := p2_s h
    exact a_ishl hc (by rw [ln_s hl] at hd; exact hd) h
  case ishr => 
    obtain ⟨x, y, st, rfl, h⟩ := p2_s h
    exact a_ishr hc (by rw [ln_s hl] at hd; exact hd) h
  case iushr => 
    obtain ⟨x, y, st, rfl, h⟩ := p2_s h
    exact a_iushr hc (by rw [ln_s hl] at hd; exact hd) h
  case idiv => 
    obtain ⟨x, y, st, rfl, h1, h⟩ := p2_s h
    exact a_idiv hc (by rw [ln_s hl] at hd; exact hd) h1 h
  case irem => 
    obtain ⟨x, y, st, rfl, h1, h⟩ := p2_s h
    exact a_irem hc (by rw [ln_s hl] at hd; exact hd) h1 h
  case ladd => 
    obtain ⟨x, y, st, rfl, h⟩ := p2l_s h
    exact a_ladd hc (by rw [ln_s hl] at hd; exact hd) h
  case lsub => 
    obtain ⟨x, y, st, rfl, h⟩ := p2l_s h
    exact a_lsub hc (by rw [ln_s hl] at hd; exact hd) h
  case lmul => 
    obtain ⟨x, y, st, rfl, h⟩ := p2l_s h
    exact a_lmul hc (by rw [ln_s hl] at hd; exact hd) h
  case lcmp => 
    obtain ⟨x, y, st, rfl, h⟩ := p2l_s h
    exact a_lcmp hc (by rw [ln_s hl] at hd; exact hd) h
  case ldiv => 
    obtain ⟨x, y, st, rfl, h1, h⟩ := p2l_s h
    exact a_ldiv hc (by rw [ln_s hl] at hd; exact hd) h1 h
  case lrem => 
    obtain ⟨x, y, st, rfl, h1, h⟩ := p2l_s h
    exact a_lrem hc (by rw [ln_s hl] at hd; exact hd) h1 h
  case ineg => 
    obtain ⟨x, st, rfl, h⟩ := p1_s h
    exact a_ineg hc (by rw [ln_s hl] at hd; exact hd) h
  case i2l => 
    obtain ⟨x, st, rfl, h⟩ := p1_s h
    exact a_i2l hc (by rw [ln_s hl] at hd; exact hd) h
  case dup => 
    match S, h with
    | .inl x :: st, h => exact a_dupI hc (by rw [ln_s hl] at hd; exact hd) h
    | .inr (.inl x) :: st, h => exact a_dupR hc (by rw [ln_s hl] at hd; exact hd) h
    | .inr (.inr _) :: _, h => exact h.elim
    | [], h => exact h.elim
  case pop => 
    match S, h with
    | .inl x :: st, h => exact a_popI hc (by rw [ln_s hl] at hd; exact hd) h
    | .inr (.inl x) :: st, h => exact a_popR hc (by rw [ln_s hl] at hd; exact hd) h
    | .inr (.inr _) :: _, h => exact h.elim
    | [], h => exact h.elim
  case dup2 => 
    match S, h with
    | .inl x :: .inr (.inl y) :: st, h => exact a_dup2 hc (by rw [ln_s hl] at hd; exact hd) h
    | .inl _ :: .inl _ :: _, h => exact h.elim
    | .inl _ :: .inr (.inr _) :: _, h => exact h.elim
    | [.inl _], h => exact h.elim
    | .inr _ :: _, h => exact h.elim
    | [], h => exact h.elim
  case goto off => exact a_goto hc (by rw [ln_s hl] at hd; exact hd) (by simpa [resOk] using hr) h
  case ifCond cn off => 
    cases cn
    all_goals obtain ⟨x, st, rfl, h⟩ := p1_s h
    · exact a_if_eq hc (by rw [ln_s hl] at hd; exact hd) (by simpa [resOk] using hr) h
    · exact a_if_ne hc (by rw [ln_s hl] at hd; exact hd) (by simpa [resOk] using hr) h
    · exact a_if_lt hc (by rw [ln_s hl] at hd; exact hd) (by simpa [resOk] using hr) h
    · exact a_if_ge hc (by rw [ln_s hl] at hd; exact hd) (by simpa [resOk] using hr) h
    · exact a_if_gt hc (by rw [ln_s hl] at hd; exact hd) (by simpa [resOk] using hr) h
    · exact a_if_le hc (by rw [ln_s hl] at hd; exact hd) (by simpa [resOk] using hr) h
  case if_icmp cn off => 
    cases cn
    all_goals obtain ⟨x, y, st, rfl, h⟩ := p2_s h
    · exact a_icmp_eq hc (by rw [ln_s hl] at hd; exact hd) (by simpa [resOk] using hr) h
    · exact a_icmp_ne hc (by rw [ln_s hl] at hd; exact hd) (by simpa [resOk] using hr) h
    · exact a_icmp_lt hc (by rw [ln_s hl] at hd; exact hd) (by simpa [resOk] using hr) h
    · exact a_icmp_ge hc (by rw [ln_s hl] at hd; exact hd) (by simpa [resOk] using hr) h
    · exact a_icmp_gt hc (by rw [ln_s hl] at hd; exact hd) (by simpa [resOk] using hr) h
    · exact a_icmp_le hc (by rw [ln_s hl] at hd; exact hd) (by simpa [resOk] using hr) h
  case tableswitch d lo hi offs => 
    obtain ⟨x, st, rfl, h⟩ := p1_s h
    simp only [resOk, Bool.and_eq_true, decide_eq_true_eq] at hr
    exact a_table hc hd hr.1.1.1 hr.1.1.2 hr.1.2 hr.2 h
  case lookupswitch d ps => 
    obtain ⟨x, st, rfl, h⟩ := p1_s h
    simp only [resOk, Bool.and_eq_true, decide_eq_true_eq] at hr
    exact a_lookup hc hd hr.1.1 hr.1.2 hr.2 h
  case getfield x => 
    simp only [resOk, Bool.and_eq_true, decide_eq_true_eq] at hr
    match S, h with
    | .inr (.inl k0) :: st, h =>
      obtain ⟨h1, h⟩ := cond_s h
      split at h
      · rename_i k1 hk1
        exact a_getR hc (by rw [ln_s hl] at hd; exact hd) (blt_s hr.1.1) (blt_s hr.1.2) (g_tab hr.2 rfl) (ln_s h1) hk1 h
      · rename_i hk1
        exact a_getI hc (by rw [ln_s hl] at hd; exact hd) (blt_s hr.1.1) (blt_s hr.1.2) (g_tab hr.2 rfl) (ln_s h1) hk1 h
    | .inl _ :: _, h => exact h.elim
    | .inr (.inr _) :: _, h => exact h.elim
    | [], h => exact h.elim
  case putfield x => 
    simp only [resOk, Bool.and_eq_true, decide_eq_true_eq, Bool.not_eq_true'] at hr
    match S, h with
    | .inl v :: .inr (.inl k0) :: st, h =>
      obtain ⟨h1, h⟩ := cond_s h
      split at h
      · exact h.elim
      · rename_i hk1
        cases hB : isB a b with
        | true =>
          rw [hB] at h
          exact a_put hc (by rw [ln_s hl] at hd; exact hd) (blt_s hr.1.1.1.1) (blt_s hr.1.1.1.2) (g_tab hr.1.1.2 rfl) hr.1.2 hr.2 (fun _ => h.1) (ln_s h1) hk1 h.2
        | false =>
          rw [hB] at h
          exact a_put hc (by rw [ln_s hl] at hd; exact hd) (blt_s hr.1.1.1.1) (blt_s hr.1.1.1.2) (g_tab hr.1.1.2 rfl) hr.1.2 hr.2 (fun q => by rw [hB] at q; cases q) (ln_s h1) hk1 h
    | .inl _ :: .inl _ :: _, h => exact h.elim
    | .inl _ :: .inr (.inr _) :: _, h => exact h.elim
    | [.inl _], h => exact h.elim
    | .inr _ :: _, h => exact h.elim
    | [], h => exact h.elim
  case iaload => 
    match S, h with
    | .inl j :: .inr (.inl k0) :: st, h =>
      simp only [arm] at h
      split at h
      · rename_i n hn
        rcases alS_s hn with ⟨rfl, h2, -⟩ | ⟨-, h2⟩
        · exact a_scr hc (by rw [ln_s hl] at hd; exact hd) h2 h.1 h.2
        · exact a_iald hc (by rw [ln_s hl] at hd; exact hd) h2 h.1 h.2
      · exact h.elim
    | .inl _ :: .inl _ :: _, h => exact h.elim
    | .inl _ :: .inr (.inr _) :: _, h => exact h.elim
    | [.inl _], h => exact h.elim
    | .inr _ :: _, h => exact h.elim
    | [], h => exact h.elim
  case baload => 
    match S, h with
    | .inl j :: .inr (.inl k0) :: st, h =>
      simp only [arm] at h
      split at h
      · rename_i n hn
        exact a_zald hc (by rw [ln_s hl] at hd; exact hd) hn h.1 h.2
      · exact h.elim
    | .inl _ :: .inl _ :: _, h => exact h.elim
    | .inl _ :: .inr (.inr _) :: _, h => exact h.elim
    | [.inl _], h => exact h.elim
    | .inr _ :: _, h => exact h.elim
    | [], h => exact h.elim
  case iastore => 
    match S, h with
    | .inl x :: .inl j :: .inr (.inl k0) :: st, h =>
      simp only [arm] at h
      split at h
      · rename_i n hn
        exact a_iast hc (by rw [ln_s hl] at hd; exact hd) hn h.1 h.2
      · exact h.elim
    | .inl _ :: .inl _ :: .inl _ :: _, h => exact h.elim
    | .inl _ :: .inl _ :: .inr (.inr _) :: _, h => exact h.elim
    | [.inl _, .inl _], h => exact h.elim
    | .inl _ :: .inr _ :: _, h => exact h.elim
    | [.inl _], h => exact h.elim
    | .inr _ :: _, h => exact h.elim
    | [], h => exact h.elim
  case bastore => 
    match S, h with
    | .inl x :: .inl j :: .inr (.inl k0) :: st, h =>
      simp only [arm] at h
      split at h
      · rename_i n hn
        exact a_zast hc (by rw [ln_s hl] at hd; exact hd) hn h.1.1 h.1.2 h.2
      · exact h.elim
    | .inl _ :: .inl _ :: .inl _ :: _, h => exact h.elim
    | .inl _ :: .inl _ :: .inr (.inr _) :: _, h => exact h.elim
    | [.inl _, .inl _], h => exact h.elim
    | .inl _ :: .inr _ :: _, h => exact h.elim
    | [.inl _], h => exact h.elim
    | .inr _ :: _, h => exact h.elim
    | [], h => exact h.elim
  case arraylength => 
    match S, h with
    | .inr (.inl k0) :: st, h =>
      simp only [arm] at h
      split at h
      · rename_i bo n hn
        rcases alS_s hn with ⟨rfl, h2, -⟩ | ⟨-, h2⟩
        · exact a_slen hc (by rw [ln_s hl] at hd; exact hd) h2 h
        · exact a_alen hc (by rw [ln_s hl] at hd; exact hd) h2 h
      · exact h.elim
    | .inl _ :: _, h => exact h.elim
    | .inr (.inr _) :: _, h => exact h.elim
    | [], h => exact h.elim
  case invokevirtual x => 
    simp only [resOk, Bool.and_eq_true, decide_eq_true_eq, Bool.not_eq_true'] at hr
    simp only [arm] at h
    split at h
    · rename_i k0 hk0
      obtain ⟨h1, h⟩ := cond_s h
      simp only [Bool.and_eq_true] at h1
      have ha := blt_s hr.1.1.1
      have hst : stOf a ≠ 1 := fun z => by rw [z] at hr; exact absurd hr.1.2 (by decide)
      exact a_invV hc (by rw [ln_s hl] at hd; exact hd) ha (ln_s hr.1.1.2) hst (g_tab hr.2 rfl) hrm (hC a _ σ _ ha (fun z => hst (by rcases z with rfl | rfl | rfl <;> decide +kernel)) h) hk0 (Nat.le_of_ble_eq_true h1.1) (ln_s h1.2)
    · exact h.elim
  case invokestatic x => 
    simp only [resOk, Bool.and_eq_true, Bool.or_eq_true, decide_eq_true_eq] at hr
    obtain ⟨h1, h⟩ := cond_s h
    simp only [Bool.and_eq_true] at h1
    have ha := blt_s hr.1.1.1
    have hb := ln_s hr.1.1.2
    have hbl := Nat.le_of_ble_eq_true h1.1
    have hlen := Nat.le_of_ble_eq_true h1.2
    by_cases e1 : a = 1
    · subst e1
      obtain ⟨x, y, st, rfl, h⟩ := p2_s h
      have e : b = 2 := hb.trans (by decide +kernel)
      refine a_max hc (by rw [ln_s hl] at hd; exact hd) (g_tab (hr.2.resolve_right (mathN 1 (by omega))) rfl) (by rw [e] at hlen; exact hlen) h
    · by_cases e2 : a = 2
      · subst e2
        obtain ⟨x, y, st, rfl, h⟩ := p2l_s h
        have e : b = 2 := hb.trans (by decide +kernel)
        refine a_maxL hc (by rw [ln_s hl] at hd; exact hd) (g_tab (hr.2.resolve_right (mathN 2 (by omega))) rfl) (by rw [e] at hlen; exact hlen) h
      · by_cases e3 : a = 3
        · subst e3
          obtain ⟨x, y, st, rfl, h⟩ := p2_s h
          have e : b = 2 := hb.trans (by decide +kernel)
          refine a_min hc (by rw [ln_s hl] at hd; exact hd) (g_tab (hr.2.resolve_right (mathN 3 (by omega))) rfl) (by rw [e] at hlen; exact hlen) h
        · have f : ∀ n, a ≠ n → Nat.beq a n = false := fun n hn => by
            cases hq : Nat.beq a n with
            | true => exact absurd (ln_s hq) hn
            | false => rfl
          rw [f 1 e1, f 2 e2, f 3 e3] at h
          exact a_invS hc (by rw [ln_s hl] at hd; exact hd) ha hb (ln_s hr.1.2) (hr.2.imp (fun z => g_tab z rfl) (fun z => List.mem_append_right _ (List.mem_of_getElem? z))) hrm (hC a _ σ _ ha (fun z => by omega) h) hbl hlen
  case ireturn => 
    simp only [resOk] at hr
    match S, h with
    | [.inl x], h =>
      intro H locs ls vs τ hσ hxs hL hS hP hV
      obtain ⟨y, r, rfl, rfl, hS1⟩ := SR_I hS
      rw [show r = [] from hS1]
      cases ha : Nat.beq a 1 with
      | true =>
        rw [ha] at hr
        simp only [arm, ha, cond_true] at h
        simp only [cond_true, decide_eq_true_eq] at hr
        exact hR pc H locs ls τ (some (vI y.toInt)) (some (.int y)) (by rw [hσ] at h; exact h.2) ⟨y, rfl, rfl⟩ hxs hP hV (Or.inl ⟨by rw [ln_s hl] at hd; exact hd, y, rfl, Or.inr ⟨hr, h.1.imp (fun z => Int32.toInt_inj.mp z) (fun z => Int32.toInt_inj.mp z)⟩⟩)
      | false =>
        rw [ha] at hr
        simp only [arm, ha, cond_false] at h
        simp only [cond_false, decide_eq_true_eq] at hr
        exact hR pc H locs ls τ (some (vI y.toInt)) (some (.int y)) (by rw [hσ] at h; exact h) ⟨y, rfl, rfl⟩ hxs hP hV (Or.inl ⟨by rw [ln_s hl] at hd; exact hd, y, rfl, Or.inl hr⟩)
    | .inl _ :: _ :: _, h => exact h.elim
    | .inr _ :: _, h => exact h.elim
    | [], h => exact h.elim
  case lreturn => 
    simp only [resOk, decide_eq_true_eq] at hr
    match S, h with
    | [.inr (.inr x)], h =>
      intro H locs ls vs τ hσ hxs hL hS hP hV
      obtain ⟨y, r, rfl, rfl, hS1⟩ := SR_L hS
      rw [show r = [] from hS1]
      exact hR pc H locs ls τ (some (vL y.toInt)) (some (.long y)) (by rw [hσ] at h; exact h) ⟨y, rfl, rfl⟩ hxs hP hV (Or.inr (Or.inl ⟨by rw [ln_s hl] at hd; exact hd, y, rfl, hr⟩))
    | .inr (.inr _) :: _ :: _, h => exact h.elim
    | .inr (.inl _) :: _, h => exact h.elim
    | .inl _ :: _, h => exact h.elim
    | [], h => exact h.elim
  case areturn => 
    simp only [resOk, decide_eq_true_eq] at hr
    match S, h with
    | [.inr (.inl x)], h =>
      intro H locs ls vs τ hσ hxs hL hS hP hV
      obtain ⟨r, rfl, hS1⟩ := SR_R hS
      rw [show r = [] from hS1]
      exact hR pc H locs ls τ (some (vR x)) (some (.ref (ad x))) (by rw [hσ] at h; exact h) rfl hxs hP hV (Or.inr (Or.inr (Or.inl ⟨by rw [ln_s hl] at hd; exact hd, _, rfl, hr⟩)))
    | .inr (.inl _) :: _ :: _, h => exact h.elim
    | .inr (.inr _) :: _, h => exact h.elim
    | .inl _ :: _, h => exact h.elim
    | [], h => exact h.elim
  case return_ => 
    simp only [resOk, decide_eq_true_eq] at hr
    match S, h with
    | [], h =>
      intro H locs ls vs τ hσ hxs hL hS hP hV
      rw [show vs = [] from hS]
      exact hR pc H locs ls τ none none (by rw [hσ] at h; exact h) trivial hxs hP hV (Or.inr (Or.inr (Or.inr ⟨by rw [ln_s hl] at hd; exact hd, rfl, hr⟩)))
    | _ :: _, h => exact h.elim
  all_goals exact h.elim
theorem am_step (hc : (AMC p R s m args c cells slots own bytes nL Ts D ad cI cB A A0 H0 xs sl)) {C : Nat → List AV → Sto → PQ → Prop} {rm : Room} {ret : Option FieldType} {Q : PQ} {cd : List (Nat × En)} (hrm : rm.cells = 0 ∧ rm.slots = 0 ∧ rm.frames + 1 ≤ R.frames ∧ 34 + rm.locals ≤ R.locals)
    (hC : ∀ (j : Nat) (a : List AV) (σ : Sto) (Q' : PQ), j < 192 → ¬ (j = 1 ∨ j = 2 ∨ j = 3) → C j a σ Q' → ∀ avs τ, SR ad a avs → σ = toI τ → τ 63 = xs → Met l (yOf j) (wmO j) rm (va_Pc avs (PU D ad cI cB τ)) (QR D ad cI cB A xs Q') 0 0 A)
    (hR : AMR p l e R s m args below meth c cells slots Qe bytes ret D ad cI cB A0 H0 xs Q) (hk : okC own bytes ret cd = true) : Cl clsNo C sl cd Q (AMX p l e R s m args below meth c cells slots Qe nL D ad cI cB A0 H0 xs) := by
  refine ⟨fun pc L S σ h => ?_, fun j pc L S σ h => ?_⟩
  · split at h
    · exact h.elim
    · rename_i x hx
      have hk1 := List.all_eq_true.mp hk _ (lk_mem hx)
      obtain ⟨i, len, a, b, pos, ks⟩ := x
      simp only [okE, Bool.and_eq_true, decide_eq_true_eq] at hk1
      exact am_arm hc hrm hC hR i len a b pos ks hk1.1.1 hk1.1.2 hk1.2 h
  · intro H locs ls vs τ hσ hxs hL hS hP hV
    exact h H locs ls vs τ hσ hxs (LR_none j hL) hS hP hV
end AMt
theorem ini_ge : ∀ (args : List AV) (n : Nat) {ad : Nat → Nat} {vs : List Value}, SR ad args vs → (lg_sl vs).length ≤ (iniL n args).length
  | [], n, ad, vs, h => by rw [show vs = [] from h]; simp [lg_sl]
  | (.inl v) :: t, n, ad, vs, h => by
    obtain ⟨x, r, rfl, -, h⟩ := SR_I h
    have := ini_ge t (n - 1) h
    simp only [lg_sl, List.flatMap_cons, Value.category, iniL, List.length_append, List.length_cons] at this ⊢
    simp at this ⊢; omega
  | (.inr (.inl v)) :: t, n, ad, vs, h => by
    obtain ⟨r, rfl, h'⟩ := SR_R h
    have := ini_ge t (n - 1) h'
    simp only [lg_sl, List.flatMap_cons, Value.category, iniL, List.length_append, List.length_cons] at this ⊢
    simp at this ⊢; omega
  | (.inr (.inr v)) :: t, n, ad, vs, h => by
    obtain ⟨x, r, rfl, -, h⟩ := SR_L h
    have := ini_ge t (n - 2) h
    simp only [lg_sl, List.flatMap_cons, Value.category, iniL, List.length_append, List.length_cons] at this ⊢
    simp at this ⊢; omega
theorem ini_at : ∀ (args : List AV) (n o i : Nat) {ad : Nat → Nat} {vs : List Value} {v : AV}, SR ad args vs → nth (iniL n args) i = some (some v) → ∃ w, (o + i, w) ∈ lv_args o vs ∧ VR ad v w
  | [], n, o, i, ad, vs, v, h, hi => by
    rw [iniL, nth_get] at hi
    have := List.mem_of_getElem? hi
    simp at this
  | (.inl z) :: t, n, o, i, ad, vs, v, h, hi => by
    obtain ⟨x, r, rfl, hx, h⟩ := SR_I h
    cases i with
    | zero =>
      simp only [iniL, nth, Option.some.injEq] at hi
      subst hi
      exact ⟨.int x, by simp [lv_args], x, rfl, hx⟩
    | succ i =>
      simp only [iniL, nth] at hi
      obtain ⟨w, h1, h2⟩ := ini_at t (n - 1) (o + 1) i h hi
      exact ⟨w, by simp only [lv_args, Value.category]; exact List.mem_cons_of_mem _ (by rw [show o + (i + 1) = o + 1 + i by omega]; exact h1), h2⟩
  | (.inr (.inl z)) :: t, n, o, i, ad, vs, v, h, hi => by
    obtain ⟨r, rfl, h'⟩ := SR_R h
    cases i with
    | zero =>
      simp only [iniL, nth, Option.some.injEq] at hi
      subst hi
      exact ⟨.ref (ad z), by simp [lv_args], rfl⟩
    | succ i =>
      simp only [iniL, nth] at hi
      obtain ⟨w, h1, h2⟩ := ini_at t (n - 1) (o + 1) i h' hi
      exact ⟨w, by simp only [lv_args, Value.category]; exact List.mem_cons_of_mem _ (by rw [show o + (i + 1) = o + 1 + i by omega]; exact h1), h2⟩
  | (.inr (.inr z)) :: t, n, o, i, ad, vs, v, h, hi => by
    obtain ⟨x, r, rfl, hx, h⟩ := SR_L h
    match i, hi with
    | 0, hi =>
      simp only [iniL, nth, Option.some.injEq] at hi
      subst hi
      exact ⟨.long x, by simp [lv_args], x, rfl, hx⟩
    | 1, hi => simp [iniL, nth] at hi
    | i + 2, hi =>
      simp only [iniL, nth] at hi
      obtain ⟨w, h1, h2⟩ := ini_at t (n - 2) (o + 2) i h hi
      exact ⟨w, by simp only [lv_args, Value.category]; exact List.mem_cons_of_mem _ (by rw [show o + (i + 2) = o + 2 + i by omega]; exact h1), h2⟩
set_option maxHeartbeats 4000000 in
/-- what the small machine says of a method is so -/
theorem P_sound (l : Launch) (D : va_G) (ad : Nat → Nat) (cI cB : ClassId) (A : Nat → Prop) (xs : Nat → Int32) (hA : ∀ τ, va_D A (wsf ad cI cB τ)) : ∀ (d j : Nat) (a : List AV) (σ : Sto) (Q : PQ), j < 192 → ¬ (j = 1 ∨ j = 2 ∨ j = 3) → P d j a σ Q → ∀ avs τ, SR ad a avs → σ = toI τ → τ 63 = xs → Met l (yOf j) (wmO j) (rmD d) (va_Pc avs (PU D ad cI cB τ)) (QR D ad cI cB A xs Q) 0 0 A
  | 0, _, _, _, _, _, _, h => h.elim
  | d + 1, j, a, σ, Q, hj, hm, h => by
    obtain ⟨hlen, h⟩ := h
    intro avs τ hSR hσ hxs
    obtain ⟨g1, g2, g3, g4, g5, g6, g7⟩ := okM_facts hj
    have hplain : plainName (yOf j).cls = true := by
      rcases g7 with z | z | z | z
      · exact absurd (Or.inl z) hm
      · exact absurd (Or.inr (Or.inl z)) hm
      · exact absurd (Or.inr (Or.inr z)) hm
      · exact z
    refine Met.ofW (cc := bOf j) (maxL := maxOf j) (ret := retOf j) hplain rfl ?_
    intro p e s m args below meth c s₁ B hml hv
    obtain ⟨rfl, hP, hK, hN⟩ := hv
    have hr := B.returns
    have hts := atoms_spec (ws := wmO j) B.pre
    have hown : s.vm.findClass (yOf j).cls = some m.cls := findClass_of_methodNamed B.named
    have hlocks := B.notSynchronized
    have hc : AMC p (rmD (d + 1)) s m avs.toArray c 0 0 (yOf j).cls (bOf j) (maxOf j) (wmO j) D ad cI cB A A s.heap xs none :=
      ⟨B.exec, B.bytes, hml, hown, hts, fun w hw => List.mem_cons_of_mem _ hw, hK, hA, ⟨fun _ h => h, hN⟩, fun n h => (nomatch h), Nat.zero_le _, Nat.zero_le _, by show 1 ≤ d + 1; omega, by show 34 ≤ 34 * (d + 1); omega⟩
    have hge := ini_ge a (maxOf j) hSR
    have hl := lv_entry avs (n := maxOf j) (by omega)
    rw [lg_entry_eq]
    generalize (lg_sl avs ++ List.replicate (maxOf j - (lg_sl avs).length) Slot.unset).toArray = ls at hl ⊢
    have hLR : LR ad (maxOf j) (iniL (maxOf j) a) ls := ⟨hlen, _, hl, fun i v hi => by
      obtain ⟨w, h1, h2⟩ := ini_at a (maxOf j) 0 i hSR hi
      exact ⟨w, by rw [Nat.zero_add] at h1; exact h1, h2⟩⟩
    have hRet : AMR p l e (rmD (d + 1)) s m avs.toArray below meth c 0 0 (MQ below (QR D ad cI cB A xs Q) avs.toArray s 0 0 A) (bOf j) (retOf j) D ad cI cB A s.heap xs Q := by
      intro pc H locs ls τ r rv hq hor hx hp hv hRI
      have hq' : ∀ t : State, t.heap = H → s.WarmedH t.vm → QR D ad cI cB A xs Q avs.toArray s (.returned rv) t := fun t ht hW => ⟨⟨r, rv, τ, rfl, hor, hq, hx, by rw [ht]; exact hp⟩, hv.F ht⟩
      rcases hRI with ⟨hd, x, rfl, hty⟩ | ⟨hd, x, rfl, hty⟩ | ⟨hd, x, rfl, hty⟩ | ⟨hd, rfl, hty⟩
      · rcases hty with hty | ⟨hty, hx01⟩
        · exact W.iret B.exec B.bytes (hr.trans hty) hq' hv.2.2 hd
        · refine W.zret (ty := .boolean) B.exec B.bytes (hr.trans hty) ?_ hq' hv.2.2 hd
          rcases hx01 with rfl | rfl <;> decide +kernel
      · exact W.lret B.exec B.bytes (hr.trans hty) hq' hv.2.2 hd
      · exact W.aret B.exec B.bytes (hr.trans hty) (Or.inl ⟨_, rfl⟩) (Or.inr ⟨x, rfl⟩) hq' hv.2.2 hd
      · exact W.vret B.exec B.bytes (hr.trans hty) hq' hv.2.2 hd
    exact h _ (am_step hc (rm := rmD d) ⟨rfl, rfl, by show d + 1 ≤ d + 1; omega, by show 34 + 34 * d ≤ 34 * (d + 1); omega⟩ (fun j' a' σ' Q' h1 h2 h3 => P_sound l D ad cI cB A xs hA d j' a' σ' Q' h1 h2 h3) hRet (okK_all j hj)) s.heap [] ls [] τ hσ hxs hLR rfl hP va_S.rf
