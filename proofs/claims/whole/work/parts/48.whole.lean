/-! The law from its entry. -/
def isW (c : Nat) : Bool := Nat.beq c 1 || (Nat.beq c 9 || (Nat.beq c 17 || Nat.beq c 39))
/-- what stands in the cells behind the constructors -/
def tau0 (xs : Nat → Int32) : Nat → Nat → Int32 := fun c => cond (Nat.beq c 63) xs (cond (isW c) (fun j => cond (Nat.beq j 9) 1 (cond (Nat.beq j 10) 3 0)) (fun _ => 0))
def S0 (xs : Nat → Int32) : AS := mS (tb (toI (tau0 xs)) 1) 0 (fun _ => 0) 0 (fun _ => 0) (fun _ => 0) 0 (tb (toI (tau0 xs)) 1)
theorem tb0_39 (xs : Nat → Int32) : tb (toI (tau0 xs)) 39 = tb (toI (tau0 xs)) 1 := by
  refine tb_cp (fun k hk j hj => ?_) (fun k h1 h2 => ?_)
  · rcases (show k = 0 ∨ k = 1 ∨ k = 2 ∨ k = 3 ∨ k = 4 ∨ k = 5 ∨ k = 6 by omega) with rfl | rfl | rfl | rfl | rfl | rfl | rfl <;> rfl
  · rcases (show k = 7 ∨ k = 8 ∨ k = 9 ∨ k = 10 by omega) with rfl | rfl | rfl | rfl <;> rfl
theorem WT0 (xs : Nat → Int32) : WT (tb (toI (tau0 xs)) 1) := by
  have e7 : tb (toI (tau0 xs)) 1 7 0 = 0 := (b7 rfl).symm.trans rfl
  have e8 : tb (toI (tau0 xs)) 1 8 0 = 0 := (b8 rfl).symm.trans rfl
  have e9 : tb (toI (tau0 xs)) 1 9 0 = 1 := (b9 rfl).symm.trans rfl
  have e10 : tb (toI (tau0 xs)) 1 10 0 = 3 := (b10 rfl).symm.trans rfl
  refine ⟨by rw [e7]; decide, by rw [e8]; decide, by rw [e9]; decide, by rw [e10]; decide, fun j hj => ?_, fun j hj => ?_⟩
  · rw [show tb (toI (tau0 xs)) 1 0 j = 0 from (a0 rfl hj).symm.trans rfl, show tb (toI (tau0 xs)) 1 1 j = 0 from (a1 rfl hj).symm.trans rfl]
    decide
  · rw [show tb (toI (tau0 xs)) 1 2 j = 0 from (a2 rfl hj).symm.trans rfl, show tb (toI (tau0 xs)) 1 3 j = 0 from (a3 rfl hj).symm.trans rfl, show tb (toI (tau0 xs)) 1 4 j = 0 from (a4 rfl hj).symm.trans rfl, show tb (toI (tau0 xs)) 1 5 j = 0 from (a5 rfl hj).symm.trans rfl, show tb (toI (tau0 xs)) 1 6 j = 0 from (a6 rfl hj).symm.trans rfl, e7, e8]
    refine ⟨by decide, by decide, by decide, by decide, by decide, fun z => ?_⟩
    omega
theorem LI0 (xs : Nat → Int32) : LI (toI (tau0 xs) 63) (S0 xs) (toI (tau0 xs)) := by
  refine ⟨⟨rfl, rfl, fun j hj => absurd hj (Nat.not_lt_zero j), rfl, fun j hj => absurd hj (Nat.not_lt_zero j), fun j hj => rfl, rfl, fun z => ?_, rfl⟩, ⟨tb0_39 xs, rfl, fun j hj => absurd hj (Nat.not_lt_zero j), rfl, fun j hj => absurd hj (Nat.not_lt_zero j), fun j hj => rfl, rfl, fun z => ?_⟩, ⟨WT0 xs, Nat.zero_le _, fun j hj => absurd hj (Nat.not_lt_zero j), Nat.zero_le _, Or.inl rfl, WT0 xs⟩, rfl⟩
  · exact absurd (show (0 : Int) = 1 from z) (by decide)
  · exact absurd (show (0 : Int) = 1 from z) (by decide)
theorem d_law_0 : decode code 0 = .ok (.new 7, 3) := by decide +kernel
theorem d_law_3 : decode code 3 = .ok (.dup, 1) := by decide +kernel
theorem d_law_4 : decode code 4 = .ok (.invokespecial 9, 3) := by decide +kernel
theorem d_law_7 : decode code 7 = .ok (.astore_n 1, 1) := by decide +kernel
theorem d_law_8 : decode code 8 = .ok (.new 10, 3) := by decide +kernel
theorem d_law_11 : decode code 11 = .ok (.dup, 1) := by decide +kernel
theorem d_law_12 : decode code 12 = .ok (.invokespecial 12, 3) := by decide +kernel
theorem d_law_15 : decode code 15 = .ok (.astore_n 2, 1) := by decide +kernel
set_option maxHeartbeats 4000000 in
set_option maxRecDepth 100000 in
theorem law_end {p : Program} {e : Env} {s : State} {m : MethodId} {below : List Frame} {meth : Method} {c : Code} (l : Launch) {b L : Nat} {xs : Nat → Int32} (hL : L ≤ 2048) (C0 : lw_At p s m meth c b L xs) {D : va_G} {ad : Nat → Nat} {cI cB : ClassId} (hb63 : ad 63 = b) (hK : va_K D cls9 (tyIB cI cB) s) (hN : nestA s) {H : Heap} {locs : List Loc} {ls : Array Slot} (hP : va_P D cls9 (wsf ad cI cB (tau0 xs)) H) (hD : va_D (fun q : Nat => s.heap.size ≤ q) (wsf ad cI cB (tau0 xs))) (hS : va_S (fun q : Nat => s.heap.size ≤ q) s.heap H locs) (hl : lv_has ls 4 [(2, .ref (ad 39)), (1, .ref (ad 0)), (0, .ref (ad 63))]) : W p l e room_1 s m #[Value.ref b] below meth c H locs 63 1586 (lw_Z below #[Value.ref b] s) (F0 m 16 ls []) := by
  obtain ⟨hx, hb, hr, hml, hown, hts, hX, hbl, hlocks, hgv⟩ := C0
  have hbA : ¬ (fun q : Nat => s.heap.size ≤ q) b := Nat.not_le.mpr hbl
  have hDA : ∀ τ, va_D (fun q : Nat => s.heap.size ≤ q) (wsf ad cI cB τ) := fun τ => va_D_w hD
  have hc : AMC p room_1 s m #[Value.ref b] c 63 1586 R_law code 4 lw_tbl D ad cI cB (fun q : Nat => s.heap.size ≤ q) (fun q : Nat => s.heap.size ≤ q) s.heap xs (some L) :=
    ⟨hx, hb, hml, hown, hts, fun w hw => (List.mem_filter.mp hw).1, hK, hDA, ⟨fun _ h => h, hN⟩, fun n hn => by cases hn; rw [hb63]; exact ⟨hX, hbl, hbA, hL⟩, Nat.le_of_ble_eq_true rfl, Nat.le_of_ble_eq_true rfl, Nat.le_of_ble_eq_true rfl, Nat.le_of_ble_eq_true rfl⟩
  have hR : AMR p l e room_1 s m #[Value.ref b] below meth c 63 1586 (lw_Z below #[Value.ref b] s) code ret D ad cI cB (fun q : Nat => s.heap.size ≤ q) s.heap xs (fun r _ => r = some (vI 1)) := by
    intro pc H locs ls τ r rv hq hor hx63 hp hv hRI
    subst hq
    match rv, hor, hRI with
    | some w, hor, hRI =>
      obtain ⟨y, rfl, hy⟩ := hor
      have hy1 : y = 1 := Int32.toInt_inj.mp (hy.trans rfl)
      subst hy1
      rcases hRI with ⟨hd, _⟩ | ⟨hd, z, hz, _⟩ | ⟨hd, z, hz, _⟩ | ⟨hd, hz, _⟩
      · refine va_forget (fun q hq => hv.2.2 q hq) ?_
        exact lw_ret hx hb hr hlocks hd
      · cases hz
      · cases hz
      · cases hz
    | none, hor, hRI => exact hor.elim
  have hCl := am_step (C := P 8) (rm := rmD 8) hc ⟨rfl, rfl, Nat.le_of_ble_eq_true rfl, Nat.le_of_ble_eq_true rfl⟩ (fun j a σ Q' hj hm hp => P_sound l D ad cI cB (fun q : Nat => s.heap.size ≤ q) xs hDA 8 j a σ Q' hj hm hp) hR okC_law
  have key := law_loop (d := 0) hCl hL (fun _ => rfl) (L + 1) 0 (S0 xs) (toI (tau0 xs)) (by omega) (by omega) (LI0 xs)
  refine b_law_16 hCl key H locs ls [] (tau0 xs) rfl rfl ⟨rfl, _, hl, fun i v hi => ?_⟩ rfl hP hS
  match i, hi with
  | 0, hi => cases hi; exact ⟨.ref (ad 63), by simp, rfl⟩
  | 1, hi => cases hi; exact ⟨.ref (ad 0), by simp, rfl⟩
  | 2, hi => cases hi; exact ⟨.ref (ad 39), by simp, rfl⟩
  | 3, hi => cases hi
  | i + 4, hi => cases hi
set_option maxHeartbeats 4000000 in
set_option maxRecDepth 100000 in
/-- THE LAW, from its entry -/
theorem whole_start {p : Program} {e : Env} {s : State} {m : MethodId} {below : List Frame} {meth : Method} {c : Code} (l : Launch) (hflags : l.flags = flags0) {b L : Nat} {xs : Nat → Int32} (hL : L ≤ 2048) (C0 : lw_At p s m meth c b L xs) : W p l e room_1 s m #[Value.ref b] below meth c s.heap [] 0 0 (lw_Z below #[Value.ref b] s) (entryFrame m ([Value.ref b] : List Value).toArray 4) := by
  obtain ⟨hx, hb, hr, hml, hown, hts, hX, hbl, hlocks, hgv⟩ := id C0
  have hA : ∀ q : Nat, s.heap.size ≤ q → (fun q : Nat => s.heap.size ≤ q) q := fun _ h => h
  have hsub : ∀ w ∈ lw_g, w ∈ lw_tbl := fun w hw => (List.mem_filter.mp hw).1
  obtain ⟨c0, iS0, hKn0⟩ := u_known (C := R_X) (T := F_X) (N := 9) (n := 9) hts i_X (hts (Cond.instantiable R_X 9) (List.mem_append_right _ (List.mem_of_getElem? (i := 12) (by decide +kernel))))
  obtain ⟨c1, iS1, hKn1⟩ := u_known (C := R_Tb) (T := F_Tb) (N := 11) (n := 11) hts i_Tb (hts (Cond.instantiable R_Tb 11) (List.mem_append_right _ (List.mem_of_getElem? (i := 20) (by decide +kernel))))
  obtain ⟨c2, iS2, hKn2⟩ := u_known (C := R_Lt) (T := F_Lt) (N := 2) (n := 2) hts i_Lt (hts (Cond.instantiable R_Lt 2) (List.mem_append_right _ (List.mem_of_getElem? (i := 86) (by decide +kernel))))
  obtain ⟨c3, iS3, hKn3⟩ := u_known (C := R_Ev) (T := F_Ev) (N := 7) (n := 7) hts i_Ev (hts (Cond.instantiable R_Ev 7) (List.mem_append_right _ (List.mem_of_getElem? (i := 106) (by decide +kernel))))
  obtain ⟨c4, iS4, hKn4⟩ := u_known (C := R_Tr) (T := F_Tr) (N := 2) (n := 2) hts i_Tr (hts (Cond.instantiable R_Tr 2) (List.mem_append_right _ (List.mem_of_getElem? (i := 100) (by decide +kernel))))
  obtain ⟨c5, iS5, hKn5⟩ := u_known (C := R_Sh) (T := F_Sh) (N := 2) (n := 2) hts i_Sh (hts (Cond.instantiable R_Sh 2) (List.mem_append_right _ (List.mem_of_getElem? (i := 151) (by decide +kernel))))
  obtain ⟨c6, iS6, hKn6⟩ := u_known (C := R_Mo) (T := F_Mo) (N := 38) (n := 38) hts i_Mo (hts (Cond.instantiable R_Mo 38) (List.mem_append_right _ (List.mem_of_getElem? (i := 679) (by decide +kernel))))
  obtain ⟨dC, dI, hKc⟩ : ∃ (dC : Nat → ClassId) (dI : Nat → Nat → Nat), ∀ (k : Nat) (q : vw_C), cls9[k]? = some q → u_Kn s q.1 q.2.1 q.2.2 (dC k) (dI k) := by
    refine ⟨fun k => if k = 0 then c0 else if k = 1 then c1 else if k = 2 then c2 else if k = 3 then c3 else if k = 4 then c4 else if k = 5 then c5 else c6, fun k => if k = 0 then iS0 else if k = 1 then iS1 else if k = 2 then iS2 else if k = 3 then iS3 else if k = 4 then iS4 else if k = 5 then iS5 else iS6, ?_⟩
    intro k q hq
    match k, hq with
    | 0, hq => cases hq; exact hKn0
    | 1, hq => cases hq; exact hKn1
    | 2, hq => cases hq; exact hKn2
    | 3, hq => cases hq; exact hKn3
    | 4, hq => cases hq; exact hKn4
    | 5, hq => cases hq; exact hKn5
    | 6, hq => cases hq; exact hKn6
    | k + 7, hq => simp [cls9] at hq
  obtain ⟨cI, kI, oI, hI1, hI2, hI3⟩ := Cond.arrayClass_spec (hts (Cond.arrayClass .int) (List.mem_append_right _ (List.mem_of_getElem? (i := 84) (by decide +kernel))))
  obtain ⟨cB, kB, oB, hB1, hB2, hB3⟩ := Cond.arrayClass_spec (hts (Cond.arrayClass .boolean) (List.mem_append_right _ (List.mem_of_getElem? (i := 140) (by decide +kernel))))
  have hS : va_S (fun q : Nat => s.heap.size ≤ q) s.heap s.heap [] := va_S.rf
  have hK : va_K (dC, dI) cls9 (tyIB cI cB) s := by
    refine ⟨hKc, fun k q h => ?_⟩
    match k, h with
    | 0, h => cases h; exact ⟨fun n z => ⟨fun k h => (by cases h), kI, hI2, oI, hI3⟩, hI1⟩
    | 1, h => cases h; exact ⟨fun n z => ⟨fun k h => (by cases h), kB, hB2, oB, hB3⟩, hB1⟩
    | k + 2, h => simp [tyIB] at h
  have hN : nestA s := fun o x y h hw => va_Nw.of rfl (hts _ hw)
  have hP : va_P (dC, dI) cls9 [] s.heap := fun k q h => by simp at h
  have hD : va_D (fun q : Nat => s.heap.size ≤ q) [] := ⟨fun i j p q h => by simp at h, fun k q h => by simp at h⟩
  have hl := lv_entry ([.ref b]) (n := 4) (Nat.le_of_ble_eq_true rfl)
  rw [lg_entry_eq]
  generalize (lg_sl ([.ref b]) ++ List.replicate (4 - (lg_sl ([.ref b])).length) Slot.unset).toArray = ls at hl ⊢
  have hl : lv_has ls 4 [(0, .ref b)] := hl
  refine va_new (ci := 0) (fs := [.null, .null, .int 0, .null, .null, .int 0, .null, .null, .null]) (C := R_X) (T := F_X) (N := 9) hx hb hts i_X t_X t_X_ok hown (hts (Cond.classLink R_law 7 R_X) (List.mem_append_right _ (List.mem_of_getElem? (i := 11) (by decide +kernel)))) (hts (Cond.instantiable R_X 9) (List.mem_append_right _ (List.mem_of_getElem? (i := 12) (by decide +kernel)))) (hts (Cond.initialized R_X) (List.mem_append_right _ (List.mem_of_getElem? (i := 1) (by decide +kernel)))) hK hP hD hS hA rfl zf_X (Nat.le_of_ble_eq_true rfl) (Nat.le_of_ble_eq_true rfl) d_law_0 (fun x0 H hP hD hS => ?_)
  refine W.widen (k := 1) (n := 9) (by omega) (by omega) ?_
  have hP : va_P (dC, dI) cls9 [(x0, .inr (0, [.null, .null, .int 0, .null, .null, .int 0, .null, .null, .null]))] H := hP
  have hD : va_D (fun q : Nat => s.heap.size ≤ q) [(x0, .inr (0, [.null, .null, .int 0, .null, .null, .int 0, .null, .null, .null]))] := hD
  refine lv_dup hx hb d_law_3 rfl ?_
  have hPc := hP.sub (ws' := [(x0, z_X)]) [0] rfl
  have hFc := va_free (wc := [(x0, z_X)]) hD hS hA [0] rfl
  refine va_callv (va_runI (As := []) (rest := [.ref x0]) ⟨hx, hb, hml, hown, hts⟩ (c_X l (dC, dI) cI cB x0 H.size) (cwI 0 hts (good_sub hsub wg_X) rfl rfl rfl (hts (Cond.initialized R_X) (List.mem_append_right _ (List.mem_of_getElem? (i := 1) (by decide +kernel)))) (hts (Cond.methodLink R_law 9 y_X) (List.mem_append_right _ (List.mem_of_getElem? (i := 13) (by decide +kernel)))) (hts (Cond.instanceMethod y_X) (List.mem_append_right _ (List.mem_of_getElem? (i := 14) (by decide +kernel)))) rfl (by decide +kernel) ⟨Nat.le_of_ble_eq_true rfl, Nat.le_of_ble_eq_true rfl⟩) ⟨CP_blind, fun U hU hW => ⟨rfl, CP_to hU hW hPc hK hN⟩⟩ rfl rfl hl.1 rfl (lv_room (Nat.le_of_ble_eq_true rfl)) d_law_4 ⟨Nat.le_of_ble_eq_true rfl, Nat.le_of_ble_eq_true rfl⟩) hS (fun q _ h => hFc q h) hFc (fun _ t H1 locs ht _ _ hB hz1 hk1 hS => ?_)
  obtain ⟨a1, a2, a3, a4, a5, a6, a7, a8, a9, a10, a11, a12, a13, a14, a15, a16, a17, a18, a19, a20, a21, a22, a23, a24, a25, a26, a27, a28, a29, a30, a31, a32, a33, a34, a35, a36, a37, a38, hP1, hD1⟩ := hB
  rw [ht] at hP1
  obtain ⟨hP, hD⟩ := va_join (wr := []) (w1 := w_X cI cB x0 a1 a2 a3 a4 a5 a6 a7 a8 a9 a10 a11 a12 a13 a14 a15 a16 a17 a18 a19 a20 a21 a22 a23 a24 a25 a26 a27 a28 a29 a30 a31 a32 a33 a34 a35 a36 a37 a38) hP hD [0] [] rfl rfl (by decide) (by decide) hk1 hFc hP1 hD1
  generalize H1 = H at hP hS ⊢
  refine W.widen (k := 39) (n := 415) (by omega) (by omega) ?_
  have hP : va_P (dC, dI) cls9 [(x0, .inr (0, [.ref a1, .ref a9, .int 0, .ref a17, .ref a19, .int 0, .ref a20, .ref a21, .ref a36])), (a1, .inr (1, [.ref a2, .ref a3, .ref a4, .ref a5, .ref a6, .ref a7, .ref a8, .int 0, .int 0, .int 1, .int 3])), (a2, .inl (cI, 6, .inl (fun _ => 0))), (a3, .inl (cI, 6, .inl (fun _ => 0))), (a4, .inl (cI, 7, .inl (fun _ => 0))), (a5, .inl (cI, 7, .inl (fun _ => 0))), (a6, .inl (cI, 7, .inl (fun _ => 0))), (a7, .inl (cI, 7, .inl (fun _ => 0))), (a8, .inl (cI, 7, .inl (fun _ => 0))), (a9, .inr (1, [.ref a10, .ref a11, .ref a12, .ref a13, .ref a14, .ref a15, .ref a16, .int 0, .int 0, .int 1, .int 3])), (a10, .inl (cI, 6, .inl (fun _ => 0))), (a11, .inl (cI, 6, .inl (fun _ => 0))), (a12, .inl (cI, 7, .inl (fun _ => 0))), (a13, .inl (cI, 7, .inl (fun _ => 0))), (a14, .inl (cI, 7, .inl (fun _ => 0))), (a15, .inl (cI, 7, .inl (fun _ => 0))), (a16, .inl (cI, 7, .inl (fun _ => 0))), (a17, .inr (2, [.ref a18, .int 0])), (a18, .inl (cI, 96, .inl (fun _ => 0))), (a19, .inl (cI, 12, .inl (fun _ => 0))), (a20, .inl (cI, 7, .inl (fun _ => 0))), (a21, .inr (4, [.ref a22, .ref a23])), (a22, .inr (3, [.ref a23, .ref a31, .ref a32, .ref a33, .ref a34, .ref a35, .int 0])), (a23, .inr (1, [.ref a24, .ref a25, .ref a26, .ref a27, .ref a28, .ref a29, .ref a30, .int 0, .int 0, .int 1, .int 3])), (a24, .inl (cI, 6, .inl (fun _ => 0))), (a25, .inl (cI, 6, .inl (fun _ => 0))), (a26, .inl (cI, 7, .inl (fun _ => 0))), (a27, .inl (cI, 7, .inl (fun _ => 0))), (a28, .inl (cI, 7, .inl (fun _ => 0))), (a29, .inl (cI, 7, .inl (fun _ => 0))), (a30, .inl (cI, 7, .inl (fun _ => 0))), (a31, .inl (cI, 7, .inl (fun _ => 0))), (a32, .inl (cI, 7, .inl (fun _ => 0))), (a33, .inl (cB, 7, .inl (fun _ => 0))), (a34, .inl (cI, 6, .inl (fun _ => 0))), (a35, .inl (cI, 7, .inl (fun _ => 0))), (a36, .inr (5, [.ref a37, .ref a38])), (a37, .inl (cI, 6, .inl (fun _ => 0))), (a38, .inl (cI, 64, .inl (fun _ => 0)))] H := hP
  have hD : va_D (fun q : Nat => s.heap.size ≤ q) [(x0, .inr (0, [.ref a1, .ref a9, .int 0, .ref a17, .ref a19, .int 0, .ref a20, .ref a21, .ref a36])), (a1, .inr (1, [.ref a2, .ref a3, .ref a4, .ref a5, .ref a6, .ref a7, .ref a8, .int 0, .int 0, .int 1, .int 3])), (a2, .inl (cI, 6, .inl (fun _ => 0))), (a3, .inl (cI, 6, .inl (fun _ => 0))), (a4, .inl (cI, 7, .inl (fun _ => 0))), (a5, .inl (cI, 7, .inl (fun _ => 0))), (a6, .inl (cI, 7, .inl (fun _ => 0))), (a7, .inl (cI, 7, .inl (fun _ => 0))), (a8, .inl (cI, 7, .inl (fun _ => 0))), (a9, .inr (1, [.ref a10, .ref a11, .ref a12, .ref a13, .ref a14, .ref a15, .ref a16, .int 0, .int 0, .int 1, .int 3])), (a10, .inl (cI, 6, .inl (fun _ => 0))), (a11, .inl (cI, 6, .inl (fun _ => 0))), (a12, .inl (cI, 7, .inl (fun _ => 0))), (a13, .inl (cI, 7, .inl (fun _ => 0))), (a14, .inl (cI, 7, .inl (fun _ => 0))), (a15, .inl (cI, 7, .inl (fun _ => 0))), (a16, .inl (cI, 7, .inl (fun _ => 0))), (a17, .inr (2, [.ref a18, .int 0])), (a18, .inl (cI, 96, .inl (fun _ => 0))), (a19, .inl (cI, 12, .inl (fun _ => 0))), (a20, .inl (cI, 7, .inl (fun _ => 0))), (a21, .inr (4, [.ref a22, .ref a23])), (a22, .inr (3, [.ref a23, .ref a31, .ref a32, .ref a33, .ref a34, .ref a35, .int 0])), (a23, .inr (1, [.ref a24, .ref a25, .ref a26, .ref a27, .ref a28, .ref a29, .ref a30, .int 0, .int 0, .int 1, .int 3])), (a24, .inl (cI, 6, .inl (fun _ => 0))), (a25, .inl (cI, 6, .inl (fun _ => 0))), (a26, .inl (cI, 7, .inl (fun _ => 0))), (a27, .inl (cI, 7, .inl (fun _ => 0))), (a28, .inl (cI, 7, .inl (fun _ => 0))), (a29, .inl (cI, 7, .inl (fun _ => 0))), (a30, .inl (cI, 7, .inl (fun _ => 0))), (a31, .inl (cI, 7, .inl (fun _ => 0))), (a32, .inl (cI, 7, .inl (fun _ => 0))), (a33, .inl (cB, 7, .inl (fun _ => 0))), (a34, .inl (cI, 6, .inl (fun _ => 0))), (a35, .inl (cI, 7, .inl (fun _ => 0))), (a36, .inr (5, [.ref a37, .ref a38])), (a37, .inl (cI, 6, .inl (fun _ => 0))), (a38, .inl (cI, 64, .inl (fun _ => 0)))] := hD
  refine lv_astore_n (lv' := [(1, .ref x0), (0, .ref b)]) hx hb d_law_7 rfl hl (by decide) rfl (fun ls hl => ?_)
  refine va_new (ci := 6) (fs := [.null, .null, .null, .null, .null, .null, .null, .int 0, .int 0, .int 0, .int 0, .null, .null, .null, .null, .null, .int 0, .int 0, .int 0, .null, .int 0, .int 0, .int 0, .null, .null, .null, .null, .null, .int 0, .int 0, .int 0, .int 0, .null, .int 0, .null, .null, .null, .null]) (C := R_Mo) (T := F_Mo) (N := 38) hx hb hts i_Mo t_Mo t_Mo_ok hown (hts (Cond.classLink R_law 10 R_Mo) (List.mem_append_right _ (List.mem_of_getElem? (i := 678) (by decide +kernel)))) (hts (Cond.instantiable R_Mo 38) (List.mem_append_right _ (List.mem_of_getElem? (i := 679) (by decide +kernel)))) (hts (Cond.initialized R_Mo) (List.mem_append_right _ (List.mem_of_getElem? (i := 7) (by decide +kernel)))) hK hP hD hS hA rfl zf_Mo (Nat.le_of_ble_eq_true rfl) (Nat.le_of_ble_eq_true rfl) d_law_8 (fun m0 H hP hD hS => ?_)
  refine W.widen (k := 40) (n := 453) (by omega) (by omega) ?_
  have hP : va_P (dC, dI) cls9 [(x0, .inr (0, [.ref a1, .ref a9, .int 0, .ref a17, .ref a19, .int 0, .ref a20, .ref a21, .ref a36])), (a1, .inr (1, [.ref a2, .ref a3, .ref a4, .ref a5, .ref a6, .ref a7, .ref a8, .int 0, .int 0, .int 1, .int 3])), (a2, .inl (cI, 6, .inl (fun _ => 0))), (a3, .inl (cI, 6, .inl (fun _ => 0))), (a4, .inl (cI, 7, .inl (fun _ => 0))), (a5, .inl (cI, 7, .inl (fun _ => 0))), (a6, .inl (cI, 7, .inl (fun _ => 0))), (a7, .inl (cI, 7, .inl (fun _ => 0))), (a8, .inl (cI, 7, .inl (fun _ => 0))), (a9, .inr (1, [.ref a10, .ref a11, .ref a12, .ref a13, .ref a14, .ref a15, .ref a16, .int 0, .int 0, .int 1, .int 3])), (a10, .inl (cI, 6, .inl (fun _ => 0))), (a11, .inl (cI, 6, .inl (fun _ => 0))), (a12, .inl (cI, 7, .inl (fun _ => 0))), (a13, .inl (cI, 7, .inl (fun _ => 0))), (a14, .inl (cI, 7, .inl (fun _ => 0))), (a15, .inl (cI, 7, .inl (fun _ => 0))), (a16, .inl (cI, 7, .inl (fun _ => 0))), (a17, .inr (2, [.ref a18, .int 0])), (a18, .inl (cI, 96, .inl (fun _ => 0))), (a19, .inl (cI, 12, .inl (fun _ => 0))), (a20, .inl (cI, 7, .inl (fun _ => 0))), (a21, .inr (4, [.ref a22, .ref a23])), (a22, .inr (3, [.ref a23, .ref a31, .ref a32, .ref a33, .ref a34, .ref a35, .int 0])), (a23, .inr (1, [.ref a24, .ref a25, .ref a26, .ref a27, .ref a28, .ref a29, .ref a30, .int 0, .int 0, .int 1, .int 3])), (a24, .inl (cI, 6, .inl (fun _ => 0))), (a25, .inl (cI, 6, .inl (fun _ => 0))), (a26, .inl (cI, 7, .inl (fun _ => 0))), (a27, .inl (cI, 7, .inl (fun _ => 0))), (a28, .inl (cI, 7, .inl (fun _ => 0))), (a29, .inl (cI, 7, .inl (fun _ => 0))), (a30, .inl (cI, 7, .inl (fun _ => 0))), (a31, .inl (cI, 7, .inl (fun _ => 0))), (a32, .inl (cI, 7, .inl (fun _ => 0))), (a33, .inl (cB, 7, .inl (fun _ => 0))), (a34, .inl (cI, 6, .inl (fun _ => 0))), (a35, .inl (cI, 7, .inl (fun _ => 0))), (a36, .inr (5, [.ref a37, .ref a38])), (a37, .inl (cI, 6, .inl (fun _ => 0))), (a38, .inl (cI, 64, .inl (fun _ => 0))), (m0, .inr (6, [.null, .null, .null, .null, .null, .null, .null, .int 0, .int 0, .int 0, .int 0, .null, .null, .null, .null, .null, .int 0, .int 0, .int 0, .null, .int 0, .int 0, .int 0, .null, .null, .null, .null, .null, .int 0, .int 0, .int 0, .int 0, .null, .int 0, .null, .null, .null, .null]))] H := hP
  have hD : va_D (fun q : Nat => s.heap.size ≤ q) [(x0, .inr (0, [.ref a1, .ref a9, .int 0, .ref a17, .ref a19, .int 0, .ref a20, .ref a21, .ref a36])), (a1, .inr (1, [.ref a2, .ref a3, .ref a4, .ref a5, .ref a6, .ref a7, .ref a8, .int 0, .int 0, .int 1, .int 3])), (a2, .inl (cI, 6, .inl (fun _ => 0))), (a3, .inl (cI, 6, .inl (fun _ => 0))), (a4, .inl (cI, 7, .inl (fun _ => 0))), (a5, .inl (cI, 7, .inl (fun _ => 0))), (a6, .inl (cI, 7, .inl (fun _ => 0))), (a7, .inl (cI, 7, .inl (fun _ => 0))), (a8, .inl (cI, 7, .inl (fun _ => 0))), (a9, .inr (1, [.ref a10, .ref a11, .ref a12, .ref a13, .ref a14, .ref a15, .ref a16, .int 0, .int 0, .int 1, .int 3])), (a10, .inl (cI, 6, .inl (fun _ => 0))), (a11, .inl (cI, 6, .inl (fun _ => 0))), (a12, .inl (cI, 7, .inl (fun _ => 0))), (a13, .inl (cI, 7, .inl (fun _ => 0))), (a14, .inl (cI, 7, .inl (fun _ => 0))), (a15, .inl (cI, 7, .inl (fun _ => 0))), (a16, .inl (cI, 7, .inl (fun _ => 0))), (a17, .inr (2, [.ref a18, .int 0])), (a18, .inl (cI, 96, .inl (fun _ => 0))), (a19, .inl (cI, 12, .inl (fun _ => 0))), (a20, .inl (cI, 7, .inl (fun _ => 0))), (a21, .inr (4, [.ref a22, .ref a23])), (a22, .inr (3, [.ref a23, .ref a31, .ref a32, .ref a33, .ref a34, .ref a35, .int 0])), (a23, .inr (1, [.ref a24, .ref a25, .ref a26, .ref a27, .ref a28, .ref a29, .ref a30, .int 0, .int 0, .int 1, .int 3])), (a24, .inl (cI, 6, .inl (fun _ => 0))), (a25, .inl (cI, 6, .inl (fun _ => 0))), (a26, .inl (cI, 7, .inl (fun _ => 0))), (a27, .inl (cI, 7, .inl (fun _ => 0))), (a28, .inl (cI, 7, .inl (fun _ => 0))), (a29, .inl (cI, 7, .inl (fun _ => 0))), (a30, .inl (cI, 7, .inl (fun _ => 0))), (a31, .inl (cI, 7, .inl (fun _ => 0))), (a32, .inl (cI, 7, .inl (fun _ => 0))), (a33, .inl (cB, 7, .inl (fun _ => 0))), (a34, .inl (cI, 6, .inl (fun _ => 0))), (a35, .inl (cI, 7, .inl (fun _ => 0))), (a36, .inr (5, [.ref a37, .ref a38])), (a37, .inl (cI, 6, .inl (fun _ => 0))), (a38, .inl (cI, 64, .inl (fun _ => 0))), (m0, .inr (6, [.null, .null, .null, .null, .null, .null, .null, .int 0, .int 0, .int 0, .int 0, .null, .null, .null, .null, .null, .int 0, .int 0, .int 0, .null, .int 0, .int 0, .int 0, .null, .null, .null, .null, .null, .int 0, .int 0, .int 0, .int 0, .null, .int 0, .null, .null, .null, .null]))] := hD
  refine lv_dup hx hb d_law_11 rfl ?_
  have hPc := hP.sub (ws' := [(m0, z_Mo)]) [39] rfl
  have hFc := va_free (wc := [(m0, z_Mo)]) hD hS hA [39] rfl
  refine va_callv (va_runI (As := []) (rest := [.ref m0]) ⟨hx, hb, hml, hown, hts⟩ (c_Mo l (dC, dI) cI cB m0 H.size) (cwI 0 hts (good_sub hsub wg_Mo) rfl rfl rfl (hts (Cond.initialized R_Mo) (List.mem_append_right _ (List.mem_of_getElem? (i := 7) (by decide +kernel)))) (hts (Cond.methodLink R_law 12 y_Mo) (List.mem_append_right _ (List.mem_of_getElem? (i := 680) (by decide +kernel)))) (hts (Cond.instanceMethod y_Mo) (List.mem_append_right _ (List.mem_of_getElem? (i := 681) (by decide +kernel)))) rfl (by decide +kernel) ⟨Nat.le_of_ble_eq_true rfl, Nat.le_of_ble_eq_true rfl⟩) ⟨CP_blind, fun U hU hW => ⟨rfl, CP_to hU hW hPc hK hN⟩⟩ rfl rfl hl.1 rfl (lv_room (Nat.le_of_ble_eq_true rfl)) d_law_12 ⟨Nat.le_of_ble_eq_true rfl, Nat.le_of_ble_eq_true rfl⟩) hS (fun q _ h => hFc q h) hFc (fun _ t H1 locs ht _ _ hB hz1 hk1 hS => ?_)
  obtain ⟨b1, b2, b3, b4, b5, b6, b7, b8, b9, b10, b11, b12, b13, b14, b15, b16, b17, b18, b19, b20, b21, b22, b23, hP1, hD1⟩ := hB
  rw [ht] at hP1
  obtain ⟨hP, hD⟩ := va_join (wr := [(x0, .inr (0, [.ref a1, .ref a9, .int 0, .ref a17, .ref a19, .int 0, .ref a20, .ref a21, .ref a36])), (a1, .inr (1, [.ref a2, .ref a3, .ref a4, .ref a5, .ref a6, .ref a7, .ref a8, .int 0, .int 0, .int 1, .int 3])), (a2, .inl (cI, 6, .inl (fun _ => 0))), (a3, .inl (cI, 6, .inl (fun _ => 0))), (a4, .inl (cI, 7, .inl (fun _ => 0))), (a5, .inl (cI, 7, .inl (fun _ => 0))), (a6, .inl (cI, 7, .inl (fun _ => 0))), (a7, .inl (cI, 7, .inl (fun _ => 0))), (a8, .inl (cI, 7, .inl (fun _ => 0))), (a9, .inr (1, [.ref a10, .ref a11, .ref a12, .ref a13, .ref a14, .ref a15, .ref a16, .int 0, .int 0, .int 1, .int 3])), (a10, .inl (cI, 6, .inl (fun _ => 0))), (a11, .inl (cI, 6, .inl (fun _ => 0))), (a12, .inl (cI, 7, .inl (fun _ => 0))), (a13, .inl (cI, 7, .inl (fun _ => 0))), (a14, .inl (cI, 7, .inl (fun _ => 0))), (a15, .inl (cI, 7, .inl (fun _ => 0))), (a16, .inl (cI, 7, .inl (fun _ => 0))), (a17, .inr (2, [.ref a18, .int 0])), (a18, .inl (cI, 96, .inl (fun _ => 0))), (a19, .inl (cI, 12, .inl (fun _ => 0))), (a20, .inl (cI, 7, .inl (fun _ => 0))), (a21, .inr (4, [.ref a22, .ref a23])), (a22, .inr (3, [.ref a23, .ref a31, .ref a32, .ref a33, .ref a34, .ref a35, .int 0])), (a23, .inr (1, [.ref a24, .ref a25, .ref a26, .ref a27, .ref a28, .ref a29, .ref a30, .int 0, .int 0, .int 1, .int 3])), (a24, .inl (cI, 6, .inl (fun _ => 0))), (a25, .inl (cI, 6, .inl (fun _ => 0))), (a26, .inl (cI, 7, .inl (fun _ => 0))), (a27, .inl (cI, 7, .inl (fun _ => 0))), (a28, .inl (cI, 7, .inl (fun _ => 0))), (a29, .inl (cI, 7, .inl (fun _ => 0))), (a30, .inl (cI, 7, .inl (fun _ => 0))), (a31, .inl (cI, 7, .inl (fun _ => 0))), (a32, .inl (cI, 7, .inl (fun _ => 0))), (a33, .inl (cB, 7, .inl (fun _ => 0))), (a34, .inl (cI, 6, .inl (fun _ => 0))), (a35, .inl (cI, 7, .inl (fun _ => 0))), (a36, .inr (5, [.ref a37, .ref a38])), (a37, .inl (cI, 6, .inl (fun _ => 0))), (a38, .inl (cI, 64, .inl (fun _ => 0)))]) (w1 := w_Mo cI cB m0 b1 b2 b3 b4 b5 b6 b7 b8 b9 b10 b11 b12 b13 b14 b15 b16 b17 b18 b19 b20 b21 b22 b23) hP hD [39] [0, 1, 2, 3, 4, 5, 6, 7, 8, 9, 10, 11, 12, 13, 14, 15, 16, 17, 18, 19, 20, 21, 22, 23, 24, 25, 26, 27, 28, 29, 30, 31, 32, 33, 34, 35, 36, 37, 38] rfl rfl (by decide) (by decide) hk1 hFc hP1 hD1
  generalize H1 = H at hP hS ⊢
  refine W.widen (k := 63) (n := 1586) (by omega) (by omega) ?_
  have hP : va_P (dC, dI) cls9 [(x0, .inr (0, [.ref a1, .ref a9, .int 0, .ref a17, .ref a19, .int 0, .ref a20, .ref a21, .ref a36])), (a1, .inr (1, [.ref a2, .ref a3, .ref a4, .ref a5, .ref a6, .ref a7, .ref a8, .int 0, .int 0, .int 1, .int 3])), (a2, .inl (cI, 6, .inl (fun _ => 0))), (a3, .inl (cI, 6, .inl (fun _ => 0))), (a4, .inl (cI, 7, .inl (fun _ => 0))), (a5, .inl (cI, 7, .inl (fun _ => 0))), (a6, .inl (cI, 7, .inl (fun _ => 0))), (a7, .inl (cI, 7, .inl (fun _ => 0))), (a8, .inl (cI, 7, .inl (fun _ => 0))), (a9, .inr (1, [.ref a10, .ref a11, .ref a12, .ref a13, .ref a14, .ref a15, .ref a16, .int 0, .int 0, .int 1, .int 3])), (a10, .inl (cI, 6, .inl (fun _ => 0))), (a11, .inl (cI, 6, .inl (fun _ => 0))), (a12, .inl (cI, 7, .inl (fun _ => 0))), (a13, .inl (cI, 7, .inl (fun _ => 0))), (a14, .inl (cI, 7, .inl (fun _ => 0))), (a15, .inl (cI, 7, .inl (fun _ => 0))), (a16, .inl (cI, 7, .inl (fun _ => 0))), (a17, .inr (2, [.ref a18, .int 0])), (a18, .inl (cI, 96, .inl (fun _ => 0))), (a19, .inl (cI, 12, .inl (fun _ => 0))), (a20, .inl (cI, 7, .inl (fun _ => 0))), (a21, .inr (4, [.ref a22, .ref a23])), (a22, .inr (3, [.ref a23, .ref a31, .ref a32, .ref a33, .ref a34, .ref a35, .int 0])), (a23, .inr (1, [.ref a24, .ref a25, .ref a26, .ref a27, .ref a28, .ref a29, .ref a30, .int 0, .int 0, .int 1, .int 3])), (a24, .inl (cI, 6, .inl (fun _ => 0))), (a25, .inl (cI, 6, .inl (fun _ => 0))), (a26, .inl (cI, 7, .inl (fun _ => 0))), (a27, .inl (cI, 7, .inl (fun _ => 0))), (a28, .inl (cI, 7, .inl (fun _ => 0))), (a29, .inl (cI, 7, .inl (fun _ => 0))), (a30, .inl (cI, 7, .inl (fun _ => 0))), (a31, .inl (cI, 7, .inl (fun _ => 0))), (a32, .inl (cI, 7, .inl (fun _ => 0))), (a33, .inl (cB, 7, .inl (fun _ => 0))), (a34, .inl (cI, 6, .inl (fun _ => 0))), (a35, .inl (cI, 7, .inl (fun _ => 0))), (a36, .inr (5, [.ref a37, .ref a38])), (a37, .inl (cI, 6, .inl (fun _ => 0))), (a38, .inl (cI, 64, .inl (fun _ => 0))), (m0, .inr (6, [.ref b2, .ref b3, .ref b4, .ref b5, .ref b6, .ref b7, .ref b8, .int 0, .int 0, .int 1, .int 3, .ref b1, .ref b9, .ref b10, .ref b11, .ref b12, .int 0, .int 0, .int 0, .ref b13, .int 0, .int 0, .int 0, .ref b14, .ref b15, .ref b16, .ref b17, .ref b18, .int 0, .int 0, .int 0, .int 0, .ref b19, .int 0, .ref b20, .ref b21, .ref b22, .ref b23])), (b1, .inl (cI, 7, .inl (fun _ => 0))), (b2, .inl (cI, 6, .inl (fun _ => 0))), (b3, .inl (cI, 6, .inl (fun _ => 0))), (b4, .inl (cI, 7, .inl (fun _ => 0))), (b5, .inl (cI, 7, .inl (fun _ => 0))), (b6, .inl (cI, 7, .inl (fun _ => 0))), (b7, .inl (cI, 7, .inl (fun _ => 0))), (b8, .inl (cI, 7, .inl (fun _ => 0))), (b9, .inl (cI, 96, .inl (fun _ => 0))), (b10, .inl (cI, 48, .inl (fun _ => 0))), (b11, .inl (cI, 48, .inl (fun _ => 0))), (b12, .inl (cI, 240, .inl (fun _ => 0))), (b13, .inl (cI, 110, .inl (fun _ => 0))), (b14, .inl (cI, 6, .inl (fun _ => 0))), (b15, .inl (cI, 7, .inl (fun _ => 0))), (b16, .inl (cI, 7, .inl (fun _ => 0))), (b17, .inl (cI, 3, .inl (fun _ => 0))), (b18, .inl (cI, 366, .inl (fun _ => 0))), (b19, .inl (cI, 12, .inl (fun _ => 0))), (b20, .inl (cI, 4, .inl (fun _ => 0))), (b21, .inl (cI, 4, .inl (fun _ => 0))), (b22, .inl (cI, 64, .inl (fun _ => 0))), (b23, .inl (cI, 64, .inl (fun _ => 0)))] H := hP
  have hD : va_D (fun q : Nat => s.heap.size ≤ q) [(x0, .inr (0, [.ref a1, .ref a9, .int 0, .ref a17, .ref a19, .int 0, .ref a20, .ref a21, .ref a36])), (a1, .inr (1, [.ref a2, .ref a3, .ref a4, .ref a5, .ref a6, .ref a7, .ref a8, .int 0, .int 0, .int 1, .int 3])), (a2, .inl (cI, 6, .inl (fun _ => 0))), (a3, .inl (cI, 6, .inl (fun _ => 0))), (a4, .inl (cI, 7, .inl (fun _ => 0))), (a5, .inl (cI, 7, .inl (fun _ => 0))), (a6, .inl (cI, 7, .inl (fun _ => 0))), (a7, .inl (cI, 7, .inl (fun _ => 0))), (a8, .inl (cI, 7, .inl (fun _ => 0))), (a9, .inr (1, [.ref a10, .ref a11, .ref a12, .ref a13, .ref a14, .ref a15, .ref a16, .int 0, .int 0, .int 1, .int 3])), (a10, .inl (cI, 6, .inl (fun _ => 0))), (a11, .inl (cI, 6, .inl (fun _ => 0))), (a12, .inl (cI, 7, .inl (fun _ => 0))), (a13, .inl (cI, 7, .inl (fun _ => 0))), (a14, .inl (cI, 7, .inl (fun _ => 0))), (a15, .inl (cI, 7, .inl (fun _ => 0))), (a16, .inl (cI, 7, .inl (fun _ => 0))), (a17, .inr (2, [.ref a18, .int 0])), (a18, .inl (cI, 96, .inl (fun _ => 0))), (a19, .inl (cI, 12, .inl (fun _ => 0))), (a20, .inl (cI, 7, .inl (fun _ => 0))), (a21, .inr (4, [.ref a22, .ref a23])), (a22, .inr (3, [.ref a23, .ref a31, .ref a32, .ref a33, .ref a34, .ref a35, .int 0])), (a23, .inr (1, [.ref a24, .ref a25, .ref a26, .ref a27, .ref a28, .ref a29, .ref a30, .int 0, .int 0, .int 1, .int 3])), (a24, .inl (cI, 6, .inl (fun _ => 0))), (a25, .inl (cI, 6, .inl (fun _ => 0))), (a26, .inl (cI, 7, .inl (fun _ => 0))), (a27, .inl (cI, 7, .inl (fun _ => 0))), (a28, .inl (cI, 7, .inl (fun _ => 0))), (a29, .inl (cI, 7, .inl (fun _ => 0))), (a30, .inl (cI, 7, .inl (fun _ => 0))), (a31, .inl (cI, 7, .inl (fun _ => 0))), (a32, .inl (cI, 7, .inl (fun _ => 0))), (a33, .inl (cB, 7, .inl (fun _ => 0))), (a34, .inl (cI, 6, .inl (fun _ => 0))), (a35, .inl (cI, 7, .inl (fun _ => 0))), (a36, .inr (5, [.ref a37, .ref a38])), (a37, .inl (cI, 6, .inl (fun _ => 0))), (a38, .inl (cI, 64, .inl (fun _ => 0))), (m0, .inr (6, [.ref b2, .ref b3, .ref b4, .ref b5, .ref b6, .ref b7, .ref b8, .int 0, .int 0, .int 1, .int 3, .ref b1, .ref b9, .ref b10, .ref b11, .ref b12, .int 0, .int 0, .int 0, .ref b13, .int 0, .int 0, .int 0, .ref b14, .ref b15, .ref b16, .ref b17, .ref b18, .int 0, .int 0, .int 0, .int 0, .ref b19, .int 0, .ref b20, .ref b21, .ref b22, .ref b23])), (b1, .inl (cI, 7, .inl (fun _ => 0))), (b2, .inl (cI, 6, .inl (fun _ => 0))), (b3, .inl (cI, 6, .inl (fun _ => 0))), (b4, .inl (cI, 7, .inl (fun _ => 0))), (b5, .inl (cI, 7, .inl (fun _ => 0))), (b6, .inl (cI, 7, .inl (fun _ => 0))), (b7, .inl (cI, 7, .inl (fun _ => 0))), (b8, .inl (cI, 7, .inl (fun _ => 0))), (b9, .inl (cI, 96, .inl (fun _ => 0))), (b10, .inl (cI, 48, .inl (fun _ => 0))), (b11, .inl (cI, 48, .inl (fun _ => 0))), (b12, .inl (cI, 240, .inl (fun _ => 0))), (b13, .inl (cI, 110, .inl (fun _ => 0))), (b14, .inl (cI, 6, .inl (fun _ => 0))), (b15, .inl (cI, 7, .inl (fun _ => 0))), (b16, .inl (cI, 7, .inl (fun _ => 0))), (b17, .inl (cI, 3, .inl (fun _ => 0))), (b18, .inl (cI, 366, .inl (fun _ => 0))), (b19, .inl (cI, 12, .inl (fun _ => 0))), (b20, .inl (cI, 4, .inl (fun _ => 0))), (b21, .inl (cI, 4, .inl (fun _ => 0))), (b22, .inl (cI, 64, .inl (fun _ => 0))), (b23, .inl (cI, 64, .inl (fun _ => 0)))] := hD
  refine lv_astore_n (lv' := [(2, .ref m0), (1, .ref x0), (0, .ref b)]) hx hb d_law_15 rfl hl (by decide) rfl (fun ls hl => ?_)
  exact law_end (ad := fun k => nthD [x0, a1, a2, a3, a4, a5, a6, a7, a8, a9, a10, a11, a12, a13, a14, a15, a16, a23, a24, a25, a26, a27, a28, a29, a30, a22, a31, a32, a33, a34, a35, a21, a17, a18, a19, a20, a36, a37, a38, m0, b2, b3, b4, b5, b6, b7, b8, b1, b9, b10, b11, b12, b13, b14, b15, b16, b17, b18, b19, b20, b21, b22, b23, b] k 0) l hL C0 rfl hK hN (hP.sub [0, 1, 2, 3, 4, 5, 6, 7, 8, 9, 10, 11, 12, 13, 14, 15, 16, 23, 24, 25, 26, 27, 28, 29, 30, 22, 31, 32, 33, 34, 35, 21, 17, 18, 19, 20, 36, 37, 38, 39, 41, 42, 43, 44, 45, 46, 47, 40, 48, 49, 50, 51, 52, 53, 54, 55, 56, 57, 58, 59, 60, 61, 62] rfl) (hD.sub [0, 1, 2, 3, 4, 5, 6, 7, 8, 9, 10, 11, 12, 13, 14, 15, 16, 23, 24, 25, 26, 27, 28, 29, 30, 22, 31, 32, 33, 34, 35, 21, 17, 18, 19, 20, 36, 37, 38, 39, 41, 42, 43, 44, 45, 46, 47, 40, 48, 49, 50, 51, 52, 53, 54, 55, 56, 57, 58, 59, 60, 61, 62] (by decide) rfl) hS hl
set_option maxHeartbeats 4000000 in
theorem lw_walk (l : Launch) (hflags : l.flags = flags0) (b : Addr) (xs : List Int32) : MetFree l x (headSpec (Jvm.Cond.code x code maxLocals ret :: tables_1) room_1) (lw_P b xs) (fun _ _ _ _ _ => True) lw_Q := by
  refine MetFree.of_bodyS (code := code) (maxLocals := maxLocals) (ret := ret) (by decide) ?_ ?_
  · intro args s m h hn
    obtain ⟨meth, c, h1, h2, h3, h4, h5, h6, -, -⟩ := Cond.code_spec hn (atoms_spec (ws := Jvm.Cond.code x code maxLocals ret :: tables_1) h _ List.mem_cons_self)
    exact ⟨meth, c, h1, h2, h3, h4, h5, h6⟩
  · intro p e s m args below meth c s₁ B hml0 hP _
    obtain ⟨rfl, hx, hbd, hgv⟩ := hP
    obtain ⟨scr, harrAt, hlist, hof, hsmall⟩ := hx
    obtain ⟨hcb, hkn, -, -⟩ := State.arrayAt?_spec harrAt
    have hown : s.vm.findClass R_law = some m.cls := findClass_of_methodNamed B.named
    have hts0 : ∀ c ∈ (Jvm.Cond.code x code maxLocals ret :: tables_1), c.before #[Value.ref b] s = true := atoms_spec (ws := Jvm.Cond.code x code maxLocals ret :: tables_1) B.pre
    have hts : ∀ w ∈ lw_tbl, w.before #[Value.ref b] s = true := k2_hts_sels lw_privs (fun w hw => hts0 w (List.mem_cons_of_mem _ hw)) lw_privs_ok
    have hml : c.maxLocals = 4 := B.maxLocals_eq (hts0 _ List.mem_cons_self)
    have X₀ : Stand p l e room_1 s m #[Value.ref b] below meth c s₁ [] 0 0 := Stand.of_body B
    have hh0 : s₁.heap = s.heap := by rw [B.state]; rfl
    have hsz : scr.slots.size = xs.length := by rw [← Array.length_toList, hlist, List.length_map]
    have hval : ∀ j : Nat, j < xs.length → scr.slots[j]? = some (.int (xs.getD j 0)) := fun j hj => by
      rw [← Array.getElem?_toList, hlist]
      simp [hj]
    have hbl : b < s.heap.size := (Array.getElem?_eq_some_iff.mp hcb).1
    have hX : va_X b xs.length (fun j => xs.getD j 0) s s.heap := ⟨scr, hcb, hof, hkn, hsz, hval⟩
    have K : W p l e room_1 s m #[Value.ref b] below meth c s₁.heap [] 0 0 (lw_Z below #[Value.ref b] s) (entryFrame m ([Value.ref b] : List Value).toArray 4) := by
      rw [hh0]
      exact whole_start l hflags hbd ⟨B.exec, B.bytes, B.returns, hml, hown, hts, hX, hbl, B.notSynchronized, hgv⟩
    obtain ⟨t, a1, o, b1, b2, b3⟩ := K s₁ rfl X₀
    exact ⟨t, o, a1, b1, b2, b3⟩
theorem lw_pre_spec {args : Array Value} {s : State} (h : (Jvm.Cond.and given_1 narrow_1).before args s = true) (hr : rest_1_c.before args s = true) : ∃ (b : Addr) (xs : List Int32), lw_P b xs args s := by
  have hs := flat_of_before _ h
  have hq := flat_of_before _ hr
  have hc : (Cond.count 1).before args s = true := hs _ (by decide +kernel)
  have harr : (Cond.arrayOf (.arg 0) .int).before args s = true := hs _ (by decide +kernel)
  have hle : (Cond.le (.length (.arg 0)) (.int 2048)).before args s = true := hs _ (by decide +kernel)
  have hlen : (Cond.isInt (.length (.arg 0))).before args s = true := hq _ (by decide +kernel)
  have hall : (Cond.all (.arg 0) (.isInt (.elem (.arg 0) (.index 0)))).before args s = true := hq _ (by decide +kernel)
  obtain ⟨b, xs, hb, hx⟩ := State.ints_of_pre rfl harr hlen hall
  have hsm : xs.length < 2 ^ 31 := hx.choose_spec.2.2.2
  have hev : (Term.length (.arg 0)).eval args s none [] s = some (.int xs.length.toInt32) := hx.length_eval hb
  have hv := Cond.le_ints hev (show (Term.int 2048).eval args s none [] s = some (.int 2048) from rfl)
  have hd : xs.length.toInt32 ≤ 2048 := by
    simpa [Cond.before, Cond.holds, hv] using hle
  have hN : xs.length ≤ 2048 := (Int32.ofNat_le_ofNat hsm (by decide)).mp (show Int32.ofNat xs.length ≤ Int32.ofNat 2048 from hd)
  exact ⟨b, xs, Cond.one_arg hc (show args[0]? = some (.ref b) from hb), hx, hN, h⟩
theorem lw_comes (l : Launch) (hflags : l.flags = flags0) : Comes l x (Jvm.Cond.code x code maxLocals ret :: tables_1) room_1 (fun tb e args s => Calls_1 tb e args s ∧ rest_1 tb e args s ∧ Pre_1 tb e args s)
    (fun _ _ args s o t => lw_Q args s o t) := by
  intro p e ha hc hk s m args below hf hfit hheap happ hpre
  obtain ⟨b, xs, hP⟩ := lw_pre_spec hpre.2.2 hpre.2.1
  obtain ⟨k, o, h1, h2, h3, hQ⟩ := lw_walk l hflags b xs p e ha hc hk s m args below hf ((Spec.applies_iff_loose hf).mp happ).1 hP trivial
  exact ⟨k, o, h1, h2, h3, hQ⟩
theorem lw_frame {s t : State} {o : Outcome} {args : Array Value} (h : Framed s o t [] 63 1586) :
    Framed s o t (fieldLocs frame_1_writes args s ++ arrayLocs frame_1_arrays args s ++ staticLocs frame_1_statics s) 63 1586 := h
theorem lw_limb (L : Cond) (hL : ∀ (args : Array Value) (s t : State), L.after args s (.returned (some (.int 1))) t = true) :
    ArmFor flags0 classFile x code maxLocals ret World_1 tables_1 room_1 Calls_1 rest_1 Pre_1
      (fun tb e a s o t => postC L tb e a s o t ∧ Framed s o t (fieldLocs frame_1_writes a s ++ arrayLocs frame_1_arrays a s ++ staticLocs frame_1_statics s) 63 1586) := by
  intro l hflags _ _ p e ha hc hk s m args below hf hfit hheap happ hpre
  obtain ⟨k, o, h1, h2, h3, rfl, hF⟩ := lw_comes l hflags p e ha hc hk s m args below hf hfit hheap happ hpre
  exact ⟨k, _, h1, h2, h3, hL args s _, lw_frame hF⟩
theorem i_vc : Claimed_1_1 ∧ Claimed_1_2 := ⟨lw_limb limb_1_1 (fun args s t => by simp [limb_1_1, Cond.after, Cond.holds, Cond.value]), lw_limb limb_1_2 (fun args s t => Cond.after_iff.mpr (by
  first | (rw [show limb_1_2 = Cond.eq .result (.int 1) from rfl, Cond.eq_ints (x := 1) (y := 1) rfl rfl]; simp; done) | (simp [limb_1_2, Cond.value, Term.eval]; done)))⟩

