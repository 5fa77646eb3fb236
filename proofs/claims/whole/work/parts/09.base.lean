/-! Plain facts for the methods' specs: wrapped ints, writes, loops, bits, sums. -/
theorem w32_id {x : Int} (h1 : -2147483648 ≤ x) (h2 : x < 2147483648) : w32 x = x := by unfold w32; omega
theorem w32_s (i : Nat) (h : i < 1000000) : w32 ((i : Int) + 1) = ((i + 1 : Nat) : Int) := by unfold w32; omega
theorem w64_id {x : Int} (h1 : -9223372036854775808 ≤ x) (h2 : x < 9223372036854775808) : w64 x = x := by unfold w64; omega
theorem sup_c {σ : Sto} {c i c' : Nat} {v : Int} (h : c' ≠ c) (j : Nat) : sup σ c i v c' j = σ c' j := by simp [sup, h]
theorem sup_i {σ : Sto} {c i i' : Nat} {v : Int} (h : i' ≠ i) : sup σ c i v c i' = σ c i' := by simp [sup, h]
theorem sup_e {σ : Sto} {c i : Nat} {v : Int} : sup σ c i v c i = v := by simp [sup]
theorem upto {p : Nat → Prop} (N : Nat) (hs : ∀ i, i < N → p (i + 1) → p i) (hN : p N) : p 0 := by
  have key : ∀ k, k ≤ N → p (N - k) := by
    intro k
    induction k with
    | zero => intro _; exact hN
    | succ k ih =>
      intro hk
      have h1 := ih (by omega)
      have e : N - k = (N - (k + 1)) + 1 := by omega
      rw [e] at h1
      exact hs _ (by omega) h1
  have := key N (Nat.le_refl N)
  rwa [Nat.sub_self] at this
theorem ofI_nat (a : Nat) : Int32.ofInt (a : Int) = nI a := rfl
theorem nI_ti {a : Nat} (h : a < 2147483648) : (nI a).toInt = (a : Int) := Int32.toInt_ofNat_of_lt h
theorem bb_and (a b : Nat) : nI a &&& nI b = nI (a &&& b) := by
  apply Int32.toBitVec_inj.1
  show BitVec.ofNat 32 a &&& BitVec.ofNat 32 b = BitVec.ofNat 32 (a &&& b)
  apply BitVec.eq_of_getLsbD_eq
  intro i hi
  simp [hi]
theorem bb_or (a b : Nat) : nI a ||| nI b = nI (a ||| b) := by
  apply Int32.toBitVec_inj.1
  show BitVec.ofNat 32 a ||| BitVec.ofNat 32 b = BitVec.ofNat 32 (a ||| b)
  apply BitVec.eq_of_getLsbD_eq
  intro i hi
  simp [hi]
theorem bb_xor (a b : Nat) : nI a ^^^ nI b = nI (a ^^^ b) := by
  apply Int32.toBitVec_inj.1
  show BitVec.ofNat 32 a ^^^ BitVec.ofNat 32 b = BitVec.ofNat 32 (a ^^^ b)
  apply BitVec.eq_of_getLsbD_eq
  intro i hi
  simp [hi]
theorem iand_nn {a b : Nat} (ha : a < 2147483648) : iand a b = ((a &&& b : Nat) : Int) := by
  unfold iand
  rw [ofI_nat, ofI_nat, bb_and, nI_ti (Nat.lt_of_le_of_lt Nat.and_le_left ha)]
theorem ior_nn {a b : Nat} (ha : a < 2147483648) (hb : b < 2147483648) : ior a b = ((a ||| b : Nat) : Int) := by
  unfold ior
  rw [ofI_nat, ofI_nat, bb_or, nI_ti (Nat.or_lt_two_pow (n := 31) ha hb)]
theorem ixor_nn {a b : Nat} (ha : a < 2147483648) (hb : b < 2147483648) : ixor a b = ((a ^^^ b : Nat) : Int) := by
  unfold ixor
  rw [ofI_nat, ofI_nat, bb_xor, nI_ti (Nat.xor_lt_two_pow (n := 31) ha hb)]
theorem sm31 : ∀ k, k < 31 → ((nI k &&& 31).toBitVec.smod 32).toNat = k := by decide +kernel
theorem ishl_nn {a k : Nat} (hk : k < 31) (h : a * 2 ^ k < 2147483648) : ishl a k = ((a * 2 ^ k : Nat) : Int) := by
  unfold ishl
  rw [ofI_nat, ofI_nat, pk_shlN _ k (sm31 k hk) (by omega), nI_ti h]
theorem ishl_1 {k : Nat} (hk : k < 31) : ishl 1 k = ((2 ^ k : Nat) : Int) := by
  have h : 2 ^ k < 2147483648 := Nat.pow_lt_pow_right (by decide) hk
  have := ishl_nn (a := 1) hk (by omega)
  rw [Nat.one_mul] at this
  exact this
theorem ishr_nn {a k : Nat} (ha : a < 2147483648) (hk : k < 31) : ishr a k = ((a / 2 ^ k : Nat) : Int) := by
  unfold ishr
  rw [ofI_nat, ofI_nat, pk_shrN (by omega) _ k (sm31 k hk), nI_ti (Nat.lt_of_le_of_lt (Nat.div_le_self _ _) ha)]
/-- the bit of a mask, as the code reads it -/
theorem bit_nn {a k : Nat} (ha : a < 2147483648) (hk : k < 31) : iand (ishr a k) 1 = if a.testBit k = true then 1 else 0 := by
  rw [ishr_nn ha hk]
  have := iand_nn (a := a / 2 ^ k) (b := 1) (Nat.lt_of_le_of_lt (Nat.div_le_self _ _) ha)
  rw [show (1 : Int) = ((1 : Nat) : Int) from rfl, this, Nat.and_one_is_mod, Nat.testBit, Nat.shiftRight_eq_div_pow, Nat.one_and_eq_mod_two]
  rcases Nat.mod_two_eq_zero_or_one (a / 2 ^ k) with h | h <;> simp [h]
/-- the complement, as the code writes it, behind an and -/
theorem andn_nn {a b : Nat} (ha : a < 2147483648) (hb : b < 2147483648) : iand a (ixor b (-1)) = ((a ^^^ (a &&& b) : Nat) : Int) := by
  unfold iand ixor
  rw [Int32.ofInt_toInt, ofI_nat, ofI_nat, show Int32.ofInt (-1) = -1 from rfl]
  have hlt : a ^^^ (a &&& b) < 2147483648 := Nat.xor_lt_two_pow (n := 31) ha (Nat.lt_of_le_of_lt Nat.and_le_left ha)
  rw [← nI_ti hlt]
  congr 1
  apply Int32.toBitVec_inj.1
  show BitVec.ofNat 32 a &&& (BitVec.ofNat 32 b ^^^ BitVec.allOnes 32) = BitVec.ofNat 32 (a ^^^ (a &&& b))
  apply BitVec.eq_of_getLsbD_eq
  intro i hi
  rw [BitVec.getLsbD_and, BitVec.getLsbD_xor, BitVec.getLsbD_allOnes, BitVec.getLsbD_ofNat, BitVec.getLsbD_ofNat, BitVec.getLsbD_ofNat]
  simp only [hi, decide_true, Bool.true_and, Nat.testBit_xor, Nat.testBit_and]
  cases a.testBit i <;> cases b.testBit i <;> rfl
/-! sums and masks -/
def sm (f : Nat → Int) : Nat → Int
  | 0 => 0
  | n + 1 => sm f n + f n
theorem sm_congr {f g : Nat → Int} : ∀ {n : Nat}, (∀ i, i < n → f i = g i) → sm f n = sm g n
  | 0, _ => rfl
  | n + 1, h => by
    show sm f n + f n = sm g n + g n
    rw [sm_congr (fun i hi => h i (by omega)), h n (by omega)]
theorem sm_le {f : Nat → Int} {c : Int} : ∀ {n : Nat}, (∀ i, i < n → f i ≤ c) → sm f n ≤ n * c
  | 0, _ => by simp [sm]
  | n + 1, h => by
    have h1 := sm_le (n := n) (fun i hi => h i (by omega))
    have h2 := h n (by omega)
    show sm f n + f n ≤ ((n + 1 : Nat) : Int) * c
    rw [Int.natCast_add, Int.add_mul]
    simp
    omega
theorem sm_ge {f : Nat → Int} : ∀ {n : Nat}, (∀ i, i < n → 0 ≤ f i) → 0 ≤ sm f n
  | 0, _ => by simp [sm]
  | n + 1, h => by
    have h1 := sm_ge (n := n) (fun i hi => h i (by omega))
    have h2 := h n (by omega)
    show 0 ≤ sm f n + f n
    omega
def cnt (p : Nat → Bool) (n : Nat) : Int := sm (fun i => if p i = true then 1 else 0) n
theorem cnt_s (p : Nat → Bool) (n : Nat) : cnt p (n + 1) = cnt p n + (if p n = true then 1 else 0) := rfl
theorem cnt_b (p : Nat → Bool) (n : Nat) : 0 ≤ cnt p n ∧ cnt p n ≤ n := by
  constructor
  · exact sm_ge (fun i _ => by by_cases h : p i = true <;> simp [h])
  · have := sm_le (f := fun i => if p i = true then 1 else 0) (c := 1) (n := n) (fun i _ => by by_cases h : p i = true <;> simp [h])
    rw [Int.mul_one] at this
    exact this
theorem cnt_congr {p q : Nat → Bool} {n : Nat} (h : ∀ i, i < n → p i = q i) : cnt p n = cnt q n := sm_congr (fun i hi => by rw [h i hi])
def mk (p : Nat → Bool) : Nat → Nat
  | 0 => 0
  | n + 1 => mk p n + (if p n = true then 2 ^ n else 0)
theorem mk_lt (p : Nat → Bool) : ∀ n, mk p n < 2 ^ n
  | 0 => by simp [mk]
  | n + 1 => by
    have := mk_lt p n
    show mk p n + (if p n = true then 2 ^ n else 0) < 2 ^ (n + 1)
    rw [Nat.pow_succ]
    split <;> omega
theorem mk_or (p : Nat → Bool) (n : Nat) : mk p (n + 1) = mk p n ||| (if p n = true then 2 ^ n else 0) := by
  show mk p n + (if p n = true then 2 ^ n else 0) = _
  split
  · have := Nat.two_pow_add_eq_or_of_lt (mk_lt p n) 1
    rw [Nat.mul_one] at this
    rw [Nat.add_comm, this, Nat.or_comm]
  · simp
theorem mk_bit (p : Nat → Bool) : ∀ n i, (mk p n).testBit i = (decide (i < n) && p i)
  | 0, i => by simp [mk]
  | n + 1, i => by
    rw [mk_or, Nat.testBit_or, mk_bit p n i]
    by_cases hi : i = n
    · subst hi
      split <;> simp_all
    · have h2 : (if p n = true then 2 ^ n else 0).testBit i = false := by
        split
        · rw [Nat.testBit_two_pow]; simp; omega
        · simp
      rw [h2, Bool.or_false]
      have : decide (i < n + 1) = decide (i < n) := by
        by_cases h : i < n
        · simp [h]; omega
        · simp [h]; omega
      rw [this]
theorem mk_eq {p : Nat → Bool} {n a : Nat} (h : ∀ i, a.testBit i = (decide (i < n) && p i)) : mk p n = a := Nat.eq_of_testBit_eq (fun i => by rw [mk_bit, h])
theorem mk_congr {p q : Nat → Bool} {n : Nat} (h : ∀ i, i < n → p i = q i) : mk p n = mk q n := Nat.eq_of_testBit_eq (fun i => by
  rw [mk_bit, mk_bit]
  by_cases hi : i < n
  · rw [h i hi]
  · simp [hi])
theorem mk_and (p q : Nat → Bool) (n : Nat) : mk p n &&& mk q n = mk (fun i => p i && q i) n := Nat.eq_of_testBit_eq (fun i => by
  rw [Nat.testBit_and, mk_bit, mk_bit, mk_bit]
  cases decide (i < n) <;> simp)
theorem mk_andn (p q : Nat → Bool) (n : Nat) : mk p n ^^^ (mk p n &&& mk q n) = mk (fun i => p i && !q i) n := Nat.eq_of_testBit_eq (fun i => by
  rw [Nat.testBit_xor, Nat.testBit_and, mk_bit, mk_bit, mk_bit]
  cases decide (i < n) <;> cases p i <;> cases q i <;> rfl)
theorem mk_lt31 (p : Nat → Bool) {n : Nat} (h : n ≤ 30) : mk p n < 2147483648 := Nat.lt_of_lt_of_le (mk_lt p n) (Nat.pow_le_pow_right (by decide) (show n ≤ 31 by omega))
/-- a natural number below 2^n is the mask of its bits -/
theorem mk_self {a n : Nat} (h : a < 2 ^ n) : mk (fun i => a.testBit i) n = a := mk_eq (fun i => by
  by_cases hi : i < n
  · simp [hi]
  · rw [Nat.testBit_lt_two_pow (Nat.lt_of_lt_of_le h (Nat.pow_le_pow_right (by decide) (by omega)))]; simp [hi])
/-- how many bits -/
def pc8 (a : Nat) : Int := cnt (fun i => a.testBit i) 8
theorem cnt_drop {p : Nat → Bool} {n : Nat} : ∀ k, (∀ i, n ≤ i → p i = false) → cnt p (n + k) = cnt p n
  | 0, _ => rfl
  | k + 1, h => by
    rw [← Nat.add_assoc, cnt_s, cnt_drop k h, h (n + k) (by omega)]
    simp
theorem pc8_mk (p : Nat → Bool) {n : Nat} (h : n ≤ 8) : pc8 (mk p n) = cnt p n := by
  unfold pc8
  obtain ⟨k, hk⟩ : ∃ k, 8 = n + k := ⟨8 - n, by omega⟩
  rw [hk, cnt_drop k (fun i hi => by rw [mk_bit, show decide (i < n) = false from decide_eq_false (by omega)]; rfl)]
  exact cnt_congr (fun i hi => by rw [mk_bit]; simp [hi])
