/-! the least number of waits from a job to a, and the RING by it -/
section RINGM
variable {n a : Nat} {w : Nat → Nat → Bool}
def rc (w : Nat → Nat → Bool) (n a : Nat) : Nat → Nat → Bool
  | 0 => fun c => decide (c = a)
  | k + 1 => fun c => rc w n a k c || anyb (fun d => w c d && rc w n a k d) n
theorem rc_s {k c : Nat} : rc w n a (k + 1) c = true ↔ rc w n a k c = true ∨ ∃ d, d < n ∧ w c d = true ∧ rc w n a k d = true := by
  show (rc w n a k c || anyb (fun d => w c d && rc w n a k d) n) = true ↔ _
  rw [Bool.or_eq_true, anyb_iff]
  simp only [Bool.and_eq_true]
theorem rc_mono {c : Nat} : ∀ {k l : Nat}, k ≤ l → rc w n a k c = true → rc w n a l c = true
  | k, 0, h, hr => by rw [show k = 0 by omega] at hr; exact hr
  | k, l + 1, h, hr => by
    by_cases e : k = l + 1
    · rw [← e]; exact hr
    · exact rc_s.mpr (Or.inl (rc_mono (show k ≤ l by omega) hr))
theorem rc_a {k : Nat} : rc w n a k a = true := rc_mono (Nat.zero_le k) (decide_eq_true rfl)
theorem cnt_anti {p : Nat → Bool} (h : ∀ i j, i ≤ j → p j = true → p i = true) : ∀ {m k : Nat}, k < m → (p k = false ↔ cnt p m ≤ k) := by
  intro m k hk
  constructor
  · intro hp
    have : ∀ m, cnt p m ≤ k := by
      intro m
      induction m with
      | zero => exact Nat.zero_le _
      | succ m ih =>
        by_cases hm : m < k
        · have := cnt_le p (m + 1); omega
        · have : p m = false := by
            cases hq : p m with
            | false => rfl
            | true => rw [h k m (by omega) hq] at hp; cases hp
          rw [cnt_f this]; exact ih
    exact this m
  · intro hc
    cases hp : p k with
    | false => rfl
    | true =>
      have h1 : ∀ q, q ≤ k + 1 → cnt p q = q := by
        intro q
        induction q with
        | zero => intro _; rfl
        | succ q ih =>
          intro hq
          show cnt p q + (if p q = true then 1 else 0) = q + 1
          rw [ih (by omega), if_pos (h q k (by omega) hp)]
      have h2 : ∀ q, k + 1 ≤ q → k + 1 ≤ cnt p q := by
        intro q
        induction q with
        | zero => intro hq; omega
        | succ q ih =>
          intro hq
          by_cases e : k = q
          · rw [← e, h1 (k + 1) (Nat.le_refl _)]; exact Nat.le_refl _
          · have := ih (by omega)
            show k + 1 ≤ cnt p q + (if p q = true then 1 else 0)
            omega
      have := h2 m (by omega)
      omega
def dst (w : Nat → Nat → Bool) (n a c : Nat) : Nat := cnt (fun k => !rc w n a k c) 10
theorem dst_iff {k c : Nat} (hk : k < 10) : rc w n a k c = true ↔ dst w n a c ≤ k := by
  have := cnt_anti (p := fun k => !rc w n a k c) (fun i j hij hj => by
    simp only [Bool.not_eq_true'] at hj ⊢
    cases hi : rc w n a i c with
    | false => rfl
    | true => rw [rc_mono hij hi] at hj; cases hj) hk
  simp only [Bool.not_eq_false'] at this
  exact this
theorem dst_le10 {c : Nat} : dst w n a c ≤ 10 := cnt_le _ 10
theorem dst_0 {c : Nat} : dst w n a c = 0 ↔ c = a := by
  have := dst_iff (w := w) (n := n) (a := a) (c := c) (show 0 < 10 by decide)
  have e : rc w n a 0 c = decide (c = a) := rfl
  rw [e, decide_eq_true_eq] at this
  rw [this]
  omega
theorem dst_step {c k : Nat} (h : dst w n a c = k + 1) (hk : k + 1 < 10) : ∃ d, d < n ∧ w c d = true ∧ dst w n a d = k := by
  have h1 := (dst_iff (w := w) (n := n) (a := a) (c := c) hk).mpr (by omega)
  rcases rc_s.mp h1 with q | ⟨d, hd, hw, hr⟩
  · have := (dst_iff (by omega)).mp q
    omega
  · refine ⟨d, hd, hw, ?_⟩
    have h2 := (dst_iff (by omega)).mp hr
    apply Classical.byContradiction
    intro hne
    obtain ⟨j, rfl⟩ : ∃ j, k = j + 1 := ⟨k - 1, by omega⟩
    have h3 : rc w n a j d = true := (dst_iff (by omega)).mpr (by omega)
    have h4 : rc w n a (j + 1) c = true := rc_s.mpr (Or.inr ⟨d, hd, hw, h3⟩)
    have := (dst_iff (by omega)).mp h4
    omega
theorem rc_stable (ha : a < n) : ∀ k, (∃ j, j < k ∧ ∀ c, c < n → rc w n a (j + 1) c = true → rc w n a j c = true) ∨ k + 1 ≤ cnt (rc w n a k) n := by
  intro k
  induction k with
  | zero =>
    right
    have : cnt (rc w n a 0) n = 1 := by
      rw [cnt_one (p := rc w n a 0) (a := a) (fun x => by simp [rc]), if_pos ha]
    omega
  | succ k ih =>
    rcases ih with ⟨j, hj, h⟩ | h
    · exact Or.inl ⟨j, by omega, h⟩
    · by_cases hs : ∀ c, c < n → rc w n a (k + 1) c = true → rc w n a k c = true
      · exact Or.inl ⟨k, by omega, hs⟩
      · right
        have hex : ∃ c, c < n ∧ rc w n a k c = false ∧ rc w n a (k + 1) c = true := by
          apply Classical.byContradiction
          intro hno
          apply hs
          intro c hc h1
          cases h2 : rc w n a k c with
          | true => rfl
          | false => exact absurd ⟨c, hc, h2, h1⟩ hno
        have := cnt_lt (p := rc w n a k) (q := rc w n a (k + 1)) (k := n) (fun i _ h => rc_s.mpr (Or.inl h)) hex
        omega
theorem dst_ring (hn : n ≤ 10) (hs : ∀ a b, a < n → w a b = true → b < n) {b : Nat} (ha : a < n) (hb : b < n) (h : wR w n b a = true) : dst w n a b < n := by
  rcases rc_stable (w := w) ha n with ⟨j, hj, hc⟩ | h1
  · have := (wR_min (T := fun x y => rc w n a j y = true → rc w n a j x = true) hs (fun x y hx hxy hy => hc x hx (rc_s.mpr (Or.inr ⟨y, hs x y hx hxy, hxy, hy⟩))) (fun _ _ _ _ _ _ h1 h2 h3 => h1 (h2 h3)) n b a (Nat.le_refl _) hb h).2 rc_a
    have := (dst_iff (by omega)).mp this
    omega
  · have := cnt_le (rc w n a n) n
    omega
/-- the first from k on -/
def lo (p : Nat → Bool) : Nat → Nat → Nat
  | k, 0 => k
  | k, q + 1 => if p k = true then k else lo p (k + 1) q
theorem lo_spec {p : Nat → Bool} : ∀ {q k : Nat}, (∃ i, k ≤ i ∧ i < k + q ∧ p i = true) → k ≤ lo p k q ∧ lo p k q < k + q ∧ p (lo p k q) = true
  | 0, k, ⟨i, h1, h2, _⟩ => by omega
  | q + 1, k, ⟨i, h1, h2, h3⟩ => by
    unfold lo
    by_cases hp : p k = true
    · rw [if_pos hp]
      exact ⟨Nat.le_refl _, by omega, hp⟩
    · rw [if_neg hp]
      have hi : i ≠ k := fun e => hp (by rw [← e]; exact h3)
      have := lo_spec (p := p) (q := q) (k := k + 1) ⟨i, by omega, by omega, h3⟩
      exact ⟨by omega, by omega, this.2.2⟩
theorem lo_cong {p p' : Nat → Bool} : ∀ {q k : Nat}, (∀ i, k ≤ i → i < k + q → p i = p' i) → lo p k q = lo p' k q
  | 0, k, _ => rfl
  | q + 1, k, h => by
    unfold lo
    rw [h k (Nat.le_refl _) (by omega), lo_cong (fun i h1 h2 => h i (by omega) (by omega))]
/-- the way from b to a -/
def wkp (w : Nat → Nat → Bool) (n a x : Nat) : Nat → Bool := fun d => w x d && decide (dst w n a d + 1 = dst w n a x)
def wk (w : Nat → Nat → Bool) (n a b : Nat) : Nat → Nat
  | 0 => b
  | j + 1 => lo (wkp w n a (wk w n a b j)) 0 n
theorem wkp_ex {x k : Nat} (h : dst w n a x = k + 1) (hk : k + 1 < 10) : ∃ i, 0 ≤ i ∧ i < 0 + n ∧ wkp w n a x i = true := by
  obtain ⟨d, h1, h2, h3⟩ := dst_step h hk
  refine ⟨d, Nat.zero_le _, by omega, ?_⟩
  unfold wkp
  rw [h2, h3, h]
  simp
theorem wk_spec {b D : Nat} (hb : b < n) (hD : dst w n a b = D) (h9 : D < 10) : ∀ j, j ≤ D → wk w n a b j < n ∧ dst w n a (wk w n a b j) + j = D := by
  intro j
  induction j with
  | zero => intro _; exact ⟨hb, hD⟩
  | succ j ih =>
    intro hj
    obtain ⟨h1, h2⟩ := ih (by omega)
    obtain ⟨k1, k2, k3⟩ := lo_spec (wkp_ex (show dst w n a (wk w n a b j) = (D - j - 1) + 1 by omega) (by omega))
    refine ⟨by show lo _ 0 n < n; omega, ?_⟩
    have k3 : wkp w n a (wk w n a b j) (wk w n a b (j + 1)) = true := k3
    unfold wkp at k3
    rw [Bool.and_eq_true, decide_eq_true_eq] at k3
    omega
theorem rc_cong {w' : Nat → Nat → Bool} (h : ∀ c d, c ≠ a → d < n → w' c d = w c d) : ∀ k c, rc w' n a k c = rc w n a k c := by
  intro k
  induction k with
  | zero => intro c; rfl
  | succ k ih =>
    intro c
    by_cases e : c = a
    · rw [e, rc_a, rc_a]
    · rw [Bool.eq_iff_iff, rc_s, rc_s, ih c]
      constructor
      · rintro (q | ⟨d, h1, h2, h3⟩)
        · exact Or.inl q
        · exact Or.inr ⟨d, h1, by rw [← h c d e h1]; exact h2, by rw [← ih d]; exact h3⟩
      · rintro (q | ⟨d, h1, h2, h3⟩)
        · exact Or.inl q
        · exact Or.inr ⟨d, h1, by rw [h c d e h1]; exact h2, by rw [ih d]; exact h3⟩
theorem dst_cong {w' : Nat → Nat → Bool} (h : ∀ c d, c ≠ a → d < n → w' c d = w c d) (c : Nat) : dst w' n a c = dst w n a c := cnt_cong (fun k _ => by rw [rc_cong h])
theorem wk_cong {w' : Nat → Nat → Bool} (h : ∀ c d, c ≠ a → d < n → w' c d = w c d) {b : Nat} (hb : b < n) (h9 : dst w n a b < 10) : ∀ j, j ≤ dst w n a b → wk w' n a b j = wk w n a b j := by
  intro j
  induction j with
  | zero => intro _; rfl
  | succ j ih =>
    intro hj
    have e := ih (by omega)
    obtain ⟨h1, h2⟩ := wk_spec hb rfl h9 j (by omega)
    have hne : wk w n a b j ≠ a := fun q => by
      have := (dst_0 (w := w) (n := n)).mpr q
      omega
    show lo (wkp w' n a (wk w' n a b j)) 0 n = lo (wkp w n a (wk w n a b j)) 0 n
    rw [e]
    refine lo_cong (fun i _ hi => ?_)
    unfold wkp
    rw [h _ i hne (by omega), dst_cong h, dst_cong h]
/-- the RING: how many, and who -/
def rgF (w : Nat → Nat → Bool) (n a b : Nat) : Nat → Int32 := fun k => if k = 0 then nI a else nI (wk w n a b (k - 1))
def rgN (w : Nat → Nat → Bool) (n a b : Nat) : Nat := dst w n a b + 1
end RINGM
