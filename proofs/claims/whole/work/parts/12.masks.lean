/-! masks: an int whose bit i (below 16) says p i -/
def bt (x : Int32) (i : Nat) : Bool := x.toBitVec.getLsbD i
theorem b_ext {x y : Int32} (h : ∀ i, i < 32 → bt x i = bt y i) : x = y := Int32.toBitVec_inj.mp (BitVec.eq_of_getLsbD_eq (fun i hi => h i hi))
theorem b_or (x y : Int32) (i : Nat) : bt (x ||| y) i = (bt x i || bt y i) := by unfold bt; rw [Int32.toBitVec_or, BitVec.getLsbD_or]
theorem b_and (x y : Int32) (i : Nat) : bt (x &&& y) i = (bt x i && bt y i) := by unfold bt; rw [Int32.toBitVec_and, BitVec.getLsbD_and]
theorem b_xor (x y : Int32) (i : Nat) : bt (x ^^^ y) i = (bt x i ^^ bt y i) := by unfold bt; rw [Int32.toBitVec_xor, BitVec.getLsbD_xor]
theorem b_nI (m i : Nat) : bt (nI m) i = (decide (i < 32) && m.testBit i) := by
  show (BitVec.ofNat 32 m).getLsbD i = _
  rw [BitVec.getLsbD_ofNat]
theorem b_m1 {i : Nat} (h : i < 32) : bt (-1) i = true := by
  have : ∀ i, i < 32 → bt (-1) i = true := by decide
  exact this i h
def mkm (p : Nat → Bool) : Nat → Nat
  | 0 => 0
  | k + 1 => mkm p k ||| (if p k then 2 ^ k else 0)
theorem mkm_lt (p : Nat → Bool) : ∀ k, mkm p k < 2 ^ k
  | 0 => by simp [mkm]
  | k + 1 => by
    have h1 : mkm p k < 2 ^ (k + 1) := Nat.lt_of_lt_of_le (mkm_lt p k) (Nat.pow_le_pow_right (by decide) (Nat.le_succ k))
    have h2 : (if p k then 2 ^ k else 0) < 2 ^ (k + 1) := by
      split
      · exact Nat.pow_lt_pow_right (by decide) (Nat.lt_succ_self k)
      · exact Nat.pow_pos (by decide)
    exact Nat.or_lt_two_pow h1 h2
theorem mkm_bit (p : Nat → Bool) : ∀ k i, (mkm p k).testBit i = (decide (i < k) && p i)
  | 0, i => by simp [mkm]
  | k + 1, i => by
    unfold mkm
    rw [Nat.testBit_or, mkm_bit p k i]
    by_cases hi : i = k
    · subst hi
      by_cases hp : p i = true
      · simp [hp, Nat.testBit_two_pow]
      · simp [hp]
    · have e : (if p k then 2 ^ k else 0 : Nat).testBit i = false := by
        split
        · rw [Nat.testBit_two_pow]; simp; omega
        · simp
      rw [e, Bool.or_false]
      congr 1
      simp only [decide_eq_decide]
      omega
theorem mkm_cong {p q : Nat → Bool} : ∀ {k}, (∀ i, i < k → p i = q i) → mkm p k = mkm q k
  | 0, _ => rfl
  | k + 1, h => by unfold mkm; rw [mkm_cong (fun i hi => h i (by omega)), h k (by omega)]
def zmask (p : Nat → Bool) : Int32 := nI (mkm p 16)
theorem zm_bt (p : Nat → Bool) (i : Nat) : bt (zmask p) i = (decide (i < 16) && p i) := by
  unfold zmask
  rw [b_nI, mkm_bit]
  by_cases h : i < 16
  · simp [h, show i < 32 by omega]
  · simp [h]
theorem zm_cong {p q : Nat → Bool} (h : ∀ i, i < 16 → p i = q i) : zmask p = zmask q := by unfold zmask; rw [mkm_cong h]
theorem zm_eq {p q : Nat → Bool} : zmask p = zmask q ↔ ∀ i, i < 16 → p i = q i := by
  constructor
  · intro h i hi
    have := congrArg (fun x => bt x i) h
    simpa [zm_bt, hi] using this
  · exact zm_cong
theorem zm_and (p q : Nat → Bool) : zmask p &&& zmask q = zmask (fun i => p i && q i) := by
  apply b_ext
  intro i _
  rw [b_and, zm_bt, zm_bt, zm_bt]
  by_cases h : i < 16 <;> simp [h]
theorem zm_or (p q : Nat → Bool) : zmask p ||| zmask q = zmask (fun i => p i || q i) := by
  apply b_ext
  intro i _
  rw [b_or, zm_bt, zm_bt, zm_bt]
  by_cases h : i < 16 <;> simp [h]
theorem zm_not (p q : Nat → Bool) : zmask p &&& (zmask q ^^^ (-1)) = zmask (fun i => p i && !q i) := by
  apply b_ext
  intro i hi
  rw [b_and, b_xor, b_m1 hi, zm_bt, zm_bt, zm_bt]
  by_cases h : i < 16 <;> simp [h]
theorem zm_0 : zmask (fun _ => false) = 0 := by decide
theorem zm_z {p : Nat → Bool} : zmask p = 0 ↔ ∀ i, i < 16 → p i = false := by
  rw [← zm_0, zm_eq]
theorem zm_1 {a : Nat} (h : a < 16) : (1 : Int32) <<< (nI a &&& 31) = zmask (fun i => decide (i = a)) := by
  have e : ∀ a, a < 16 → (1 : Int32) <<< (nI a &&& 31) = zmask (fun i => decide (i = a)) := by decide +kernel
  exact e a h
theorem zm_h {p : Nat → Bool} {a : Nat} (h : a < 16) : (zmask p &&& ((1 : Int32) <<< (nI a &&& 31)) = 0) ↔ p a = false := by
  rw [zm_1 h, zm_and, zm_z]
  constructor
  · intro hq
    have := hq a h
    simpa using this
  · intro hp i _
    by_cases e : i = a
    · subst e; simp [hp]
    · simp [e]
theorem zm_sr {p : Nat → Bool} {a : Nat} (h : a < 16) : (zmask p >>> (nI a &&& 31)) &&& 1 = if p a then 1 else 0 := by
  have hs : ∀ a, a < 16 → ((nI a &&& 31).toBitVec.smod 32).toNat = a := by decide +kernel
  have hl : mkm p 16 < 2 ^ 31 := Nat.lt_of_lt_of_le (mkm_lt p 16) (by decide)
  unfold zmask
  rw [pk_shrN hl (nI a &&& 31) a (hs a h)]
  have e1 : (nI (mkm p 16 / 2 ^ a) &&& 1) = nI (mkm p 16 / 2 ^ a % 2) := by
    rw [pk_andN (Nat.lt_of_le_of_lt (Nat.div_le_self _ _) (Nat.lt_of_lt_of_le (mkm_lt p 16) (by decide))) 1 (by decide)]
  rw [e1]
  have e2 := mkm_bit p 16 a
  rw [Nat.testBit_eq_decide_div_mod_eq] at e2
  simp only [h, decide_true, Bool.true_and] at e2
  by_cases hp : p a = true
  · rw [hp] at e2 ⊢
    have : mkm p 16 / 2 ^ a % 2 = 1 := by simpa using e2
    rw [this]
    rfl
  · have hp : p a = false := by simpa using hp
    rw [hp] at e2 ⊢
    have : mkm p 16 / 2 ^ a % 2 = 0 := by
      have : ¬ mkm p 16 / 2 ^ a % 2 = 1 := by simpa using e2
      omega
    rw [this]
    rfl
theorem zm_s1 {p : Nat → Bool} {a : Nat} (h : a < 16) : ((zmask p >>> (nI a &&& 31)) &&& 1 = 1) ↔ p a = true := by
  rw [zm_sr h]
  cases p a <;> simp <;> decide
theorem zm_all {n : Nat} (h : n < 16) : (1 : Int32) <<< (nI n &&& 31) - 1 = zmask (fun i => decide (i < n)) := by
  have e : ∀ a, a < 16 → (1 : Int32) <<< (nI a &&& 31) - 1 = zmask (fun i => decide (i < a)) := by decide +kernel
  exact e n h
/-- how many below k -/
def cnt (p : Nat → Bool) : Nat → Nat
  | 0 => 0
  | k + 1 => cnt p k + (if p k then 1 else 0)
theorem cnt_le (p : Nat → Bool) : ∀ k, cnt p k ≤ k
  | 0 => Nat.le_refl 0
  | k + 1 => by
    have := cnt_le p k
    unfold cnt
    split <;> omega
theorem cnt_cong {p q : Nat → Bool} : ∀ {k}, (∀ i, i < k → p i = q i) → cnt p k = cnt q k
  | 0, _ => rfl
  | k + 1, h => by unfold cnt; rw [cnt_cong (fun i hi => h i (by omega)), h k (by omega)]
theorem zm_bc {p : Nat → Bool} (h : ∀ i, 10 ≤ i → p i = false) : zbc (zmask p) = nI (cnt p 10) := by
  have e : ∀ m, m < 1024 → zbc (nI m) = nI (cnt (fun i => m.testBit i) 10) := by decide +kernel
  have e2 : mkm p 16 = mkm p 10 := by
    apply Nat.eq_of_testBit_eq
    intro i
    rw [mkm_bit, mkm_bit]
    by_cases hi : i < 10
    · simp [hi, show i < 16 by omega]
    · simp [hi, h i (by omega)]
  unfold zmask
  rw [e2, e _ (mkm_lt p 10)]
  congr 1
  apply cnt_cong
  intro i hi
  rw [mkm_bit]
  simp [hi]
theorem zm_nI (p : Nat → Bool) : ∃ m, m < 65536 ∧ zmask p = nI m := ⟨mkm p 16, mkm_lt p 16, rfl⟩
theorem zm_ltI {p q : Nat → Bool} : zmask p < zmask q ↔ mkm p 16 < mkm q 16 := nI_ltI (Nat.lt_of_lt_of_le (mkm_lt p 16) (by decide)) (Nat.lt_of_lt_of_le (mkm_lt q 16) (by decide))
/-- of two different sets the one whose greatest differing member is the other's is less -/
theorem mkm_ltI {p q : Nat → Bool} : ∀ {k : Nat}, mkm p k < mkm q k ↔ ∃ i, i < k ∧ p i = false ∧ q i = true ∧ ∀ j, i < j → j < k → p j = q j
  | 0 => by simp [mkm]
  | k + 1 => by
    have ih := mkm_ltI (p := p) (q := q) (k := k)
    have hp := mkm_lt p k
    have hq := mkm_lt q k
    have e : ∀ r : Nat → Bool, mkm r (k + 1) = mkm r k + (if r k then 2 ^ k else 0) := by
      intro r
      show mkm r k ||| (if r k then 2 ^ k else 0) = _
      split
      · have h2 := Nat.two_pow_add_eq_or_of_lt (mkm_lt r k) 1
        rw [Nat.mul_one] at h2
        rw [Nat.or_comm, ← h2, Nat.add_comm]
      · simp
    rw [e, e]
    cases hpk : p k <;> cases hqk : q k
    · simp only [Bool.false_eq_true, if_false, Nat.add_zero]
      rw [ih]
      constructor
      · rintro ⟨i, h1, h2, h3, h4⟩
        refine ⟨i, by omega, h2, h3, fun j hj hk => ?_⟩
        rcases Nat.lt_or_ge j k with h | h
        · exact h4 j hj h
        · rw [show j = k by omega, hpk, hqk]
      · rintro ⟨i, h1, h2, h3, h4⟩
        have : i ≠ k := fun e => by rw [e, hqk] at h3; cases h3
        exact ⟨i, by omega, h2, h3, fun j hj hk => h4 j hj (by omega)⟩
    · simp only [Bool.false_eq_true, if_false, if_true, Nat.add_zero]
      constructor
      · intro _
        exact ⟨k, by omega, hpk, hqk, fun j h1 h2 => absurd h2 (by omega)⟩
      · intro _
        omega
    · simp only [Bool.false_eq_true, if_false, if_true, Nat.add_zero]
      constructor
      · intro h
        omega
      · rintro ⟨i, h1, h2, h3, h4⟩
        exfalso
        rcases Nat.lt_or_ge i k with h | h
        · have := h4 k h (by omega)
          rw [hpk, hqk] at this
          cases this
        · have : i = k := by omega
          rw [this, hpk] at h2
          cases h2
    · simp only [if_true, Nat.add_lt_add_iff_right]
      rw [ih]
      constructor
      · rintro ⟨i, h1, h2, h3, h4⟩
        refine ⟨i, by omega, h2, h3, fun j hj hk => ?_⟩
        rcases Nat.lt_or_ge j k with h | h
        · exact h4 j hj h
        · rw [show j = k by omega, hpk, hqk]
      · rintro ⟨i, h1, h2, h3, h4⟩
        have : i ≠ k := fun e => by rw [e, hpk] at h2; cases h2
        exact ⟨i, by omega, h2, h3, fun j hj hk => h4 j hj (by omega)⟩
