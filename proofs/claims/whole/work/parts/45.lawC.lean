/-! The law's code against its bytes. -/
theorem all_chunks {α : Type} {f : α → Bool} {l : List α} {n : Nat} (hn : 0 < n) {m : Nat} (hl : l.length ≤ n * m) (h : ∀ i, i < m → ((l.drop (n * i)).take n).all f = true) : l.all f = true := by
  rw [List.all_eq_true]
  intro x hx
  obtain ⟨j, hj⟩ := List.mem_iff_getElem?.mp hx
  have hjl : j < l.length := (List.getElem?_eq_some_iff.mp hj).1
  have hd := Nat.div_add_mod j n
  have hm := Nat.mod_lt j hn
  have hi : j / n < m := Nat.div_lt_of_lt_mul (Nat.lt_of_lt_of_le hjl hl)
  refine List.all_eq_true.mp (h (j / n) hi) x (List.mem_of_getElem? (i := j % n) ?_)
  rw [List.getElem?_take, if_pos hm, List.getElem?_drop, hd]
  exact hj
set_option maxRecDepth 100000 in
theorem okL_0 : ((cd_law.drop (25 * 0)).take 25).all (okE R_law code ret) = true := by decide +kernel
set_option maxRecDepth 100000 in
theorem okL_1 : ((cd_law.drop (25 * 1)).take 25).all (okE R_law code ret) = true := by decide +kernel
set_option maxRecDepth 100000 in
theorem okL_2 : ((cd_law.drop (25 * 2)).take 25).all (okE R_law code ret) = true := by decide +kernel
set_option maxRecDepth 100000 in
theorem okL_3 : ((cd_law.drop (25 * 3)).take 25).all (okE R_law code ret) = true := by decide +kernel
set_option maxRecDepth 100000 in
theorem okL_4 : ((cd_law.drop (25 * 4)).take 25).all (okE R_law code ret) = true := by decide +kernel
set_option maxRecDepth 100000 in
theorem okL_5 : ((cd_law.drop (25 * 5)).take 25).all (okE R_law code ret) = true := by decide +kernel
set_option maxRecDepth 100000 in
theorem okL_6 : ((cd_law.drop (25 * 6)).take 25).all (okE R_law code ret) = true := by decide +kernel
set_option maxRecDepth 100000 in
theorem okL_7 : ((cd_law.drop (25 * 7)).take 25).all (okE R_law code ret) = true := by decide +kernel
set_option maxRecDepth 100000 in
theorem okL_8 : ((cd_law.drop (25 * 8)).take 25).all (okE R_law code ret) = true := by decide +kernel
set_option maxRecDepth 100000 in
theorem okL_9 : ((cd_law.drop (25 * 9)).take 25).all (okE R_law code ret) = true := by decide +kernel
set_option maxRecDepth 100000 in
theorem okL_10 : ((cd_law.drop (25 * 10)).take 25).all (okE R_law code ret) = true := by decide +kernel
set_option maxRecDepth 100000 in
theorem okL_11 : ((cd_law.drop (25 * 11)).take 25).all (okE R_law code ret) = true := by decide +kernel
set_option maxRecDepth 100000 in
theorem okL_12 : ((cd_law.drop (25 * 12)).take 25).all (okE R_law code ret) = true := by decide +kernel
set_option maxRecDepth 100000 in
theorem okL_13 : ((cd_law.drop (25 * 13)).take 25).all (okE R_law code ret) = true := by decide +kernel
set_option maxRecDepth 100000 in
theorem okL_14 : ((cd_law.drop (25 * 14)).take 25).all (okE R_law code ret) = true := by decide +kernel
set_option maxRecDepth 100000 in
theorem okL_15 : ((cd_law.drop (25 * 15)).take 25).all (okE R_law code ret) = true := by decide +kernel
set_option maxRecDepth 100000 in
theorem okL_16 : ((cd_law.drop (25 * 16)).take 25).all (okE R_law code ret) = true := by decide +kernel
set_option maxRecDepth 100000 in
theorem okL_17 : ((cd_law.drop (25 * 17)).take 25).all (okE R_law code ret) = true := by decide +kernel
set_option maxRecDepth 100000 in
theorem okL_18 : ((cd_law.drop (25 * 18)).take 25).all (okE R_law code ret) = true := by decide +kernel
set_option maxRecDepth 100000 in
theorem okL_19 : ((cd_law.drop (25 * 19)).take 25).all (okE R_law code ret) = true := by decide +kernel
set_option maxRecDepth 100000 in
theorem okL_20 : ((cd_law.drop (25 * 20)).take 25).all (okE R_law code ret) = true := by decide +kernel
set_option maxRecDepth 100000 in
theorem okL_21 : ((cd_law.drop (25 * 21)).take 25).all (okE R_law code ret) = true := by decide +kernel
set_option maxRecDepth 100000 in
theorem okL_22 : ((cd_law.drop (25 * 22)).take 25).all (okE R_law code ret) = true := by decide +kernel
set_option maxRecDepth 100000 in
theorem okL_23 : ((cd_law.drop (25 * 23)).take 25).all (okE R_law code ret) = true := by decide +kernel
set_option maxRecDepth 100000 in
theorem okL_24 : ((cd_law.drop (25 * 24)).take 25).all (okE R_law code ret) = true := by decide +kernel
set_option maxRecDepth 100000 in
theorem okL_25 : ((cd_law.drop (25 * 25)).take 25).all (okE R_law code ret) = true := by decide +kernel
set_option maxRecDepth 100000 in
theorem okC_law : okC R_law code ret cd_law = true := by
  refine all_chunks (n := 25) (m := 26) (by decide) (by decide +kernel) (fun i hi => ?_)
  match i, hi with
  | 0, _ => exact okL_0
  | 1, _ => exact okL_1
  | 2, _ => exact okL_2
  | 3, _ => exact okL_3
  | 4, _ => exact okL_4
  | 5, _ => exact okL_5
  | 6, _ => exact okL_6
  | 7, _ => exact okL_7
  | 8, _ => exact okL_8
  | 9, _ => exact okL_9
  | 10, _ => exact okL_10
  | 11, _ => exact okL_11
  | 12, _ => exact okL_12
  | 13, _ => exact okL_13
  | 14, _ => exact okL_14
  | 15, _ => exact okL_15
  | 16, _ => exact okL_16
  | 17, _ => exact okL_17
  | 18, _ => exact okL_18
  | 19, _ => exact okL_19
  | 20, _ => exact okL_20
  | 21, _ => exact okL_21
  | 22, _ => exact okL_22
  | 23, _ => exact okL_23
  | 24, _ => exact okL_24
  | 25, _ => exact okL_25
  | i + 26, hi => exact absurd hi (by omega)
