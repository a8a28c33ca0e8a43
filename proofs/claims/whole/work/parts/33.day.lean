/-! THE DAY by LABELS of a set s -/
section DAY
variable {n : Nat} {r : Nat → Nat → Bool}
/-- none of left is ahead of a -/
def rdy (r : Nat → Nat → Bool) (left : Nat → Bool) (a : Nat) : Bool := !anyb (fun x => r a x && left x) 16
def grt (r : Nat → Nat → Bool) (lab : Nat → Nat) (set left : Nat → Bool) : Nat → Option Nat
  | 0 => none
  | k + 1 => match grt r lab set left k with
    | none => if (set k && rdy r left k) = true then some k else none
    | some b => if (set k && rdy r left k) = true ∧ lab b < lab k then some k else some b
theorem grt_none {lab : Nat → Nat} {set left : Nat → Bool} : ∀ {k : Nat}, grt r lab set left k = none → ∀ b, b < k → (set b && rdy r left b) = false := by
  intro k
  induction k with
  | zero => intro _ b hb; omega
  | succ k ih =>
    intro hk b hb
    unfold grt at hk
    cases hq : grt r lab set left k with
    | none =>
      rw [hq] at hk
      simp only at hk
      by_cases hc : (set k && rdy r left k) = true
      · rw [if_pos hc] at hk; cases hk
      · rcases Nat.lt_or_ge b k with h2 | h2
        · exact ih hq b h2
        · rw [show b = k by omega]
          exact Bool.eq_false_iff.mpr hc
    | some c =>
      rw [hq] at hk
      simp only at hk
      split at hk <;> cases hk
theorem grt_some {lab : Nat → Nat} {set left : Nat → Bool} : ∀ {k a : Nat}, grt r lab set left k = some a → a < k ∧ (set a && rdy r left a) = true ∧ ∀ b, b < k → (set b && rdy r left b) = true → lab b ≤ lab a := by
  intro k
  induction k with
  | zero => intro a h; cases h
  | succ k ih =>
    intro a h
    unfold grt at h
    cases hq : grt r lab set left k with
    | none =>
      rw [hq] at h
      simp only at h
      by_cases hc : (set k && rdy r left k) = true
      · rw [if_pos hc] at h
        cases h
        refine ⟨by omega, hc, fun b hb hb2 => ?_⟩
        rcases Nat.lt_or_ge b k with h2 | h2
        · rw [grt_none hq b h2] at hb2; cases hb2
        · rw [show b = k by omega]; exact Nat.le_refl _
      · rw [if_neg hc] at h; cases h
    | some c =>
      rw [hq] at h
      simp only at h
      obtain ⟨h1, h2, h3⟩ := ih hq
      by_cases hc : (set k && rdy r left k) = true ∧ lab c < lab k
      · rw [if_pos hc] at h
        cases h
        refine ⟨by omega, hc.1, fun b hb hb2 => ?_⟩
        rcases Nat.lt_or_ge b k with h4 | h4
        · have := h3 b h4 hb2; omega
        · rw [show b = k by omega]; exact Nat.le_refl _
      · rw [if_neg hc] at h
        cases h
        refine ⟨by omega, h2, fun b hb hb2 => ?_⟩
        rcases Nat.lt_or_ge b k with h4 | h4
        · exact h3 b h4 hb2
        · have e : b = k := by omega
          subst e
          have : ¬ lab a < lab b := fun q => hc ⟨hb2, q⟩
          omega
/-- the greatest is the one that grt finds -/
theorem grt_eq {lab : Nat → Nat} {set left : Nat → Bool} {k a : Nat} (ha : a < k) (h1 : (set a && rdy r left a) = true) (h2 : ∀ b, b < k → (set b && rdy r left b) = true → lab b ≤ lab a) (h3 : ∀ b, b < k → set b = true → lab b = lab a → b = a) : grt r lab set left k = some a := by
  cases hq : grt r lab set left k with
  | none => rw [grt_none hq a ha] at h1; cases h1
  | some b =>
    obtain ⟨k1, k2, k3⟩ := grt_some hq
    have e1 := k3 a ha h1
    have e2 := h2 b k1 k2
    rw [h3 b k1 (by simp only [Bool.and_eq_true] at k2; exact k2.1) (by omega)]
theorem grt_no {lab : Nat → Nat} {set left : Nat → Bool} {k : Nat} (h : ∀ b, b < k → (set b && rdy r left b) = false) : grt r lab set left k = none := by
  cases hq : grt r lab set left k with
  | none => rfl
  | some b =>
    obtain ⟨k1, k2, k3⟩ := grt_some hq
    rw [h b k1] at k2; cases k2
def rmv (left : Nat → Bool) (a : Nat) : Nat → Bool := fun x => left x && !decide (x = a)
def rmo (left : Nat → Bool) (o : Option Nat) : Nat → Bool := match o with
  | none => left
  | some a => rmv left a
def fstD (n : Nat) (r : Nat → Nat → Bool) (lab : Nat → Nat) (left : Nat → Bool) : Option Nat := grt r lab left left n
def sndD (n : Nat) (r : Nat → Nat → Bool) (lab : Nat → Nat) (left : Nat → Bool) : Option Nat := grt r lab (rmo left (fstD n r lab left)) left n
/-- what is left after h HOURS -/
def lfs (n : Nat) (r : Nat → Nat → Bool) (lab : Nat → Nat) (s : Nat → Bool) : Nat → Nat → Bool
  | 0 => fun a => decide (a < n) && s a
  | h + 1 => rmo (rmo (lfs n r lab s h) (fstD n r lab (lfs n r lab s h))) (sndD n r lab (lfs n r lab s h))
theorem rmo_le {left : Nat → Bool} {o : Option Nat} {x : Nat} (h : rmo left o x = true) : left x = true := by
  cases o with
  | none => exact h
  | some a =>
    simp only [rmo, rmv, Bool.and_eq_true] at h
    exact h.1
theorem lfs_le {lab : Nat → Nat} {s : Nat → Bool} {h x : Nat} (hx : lfs n r lab s (h + 1) x = true) : lfs n r lab s h x = true := rmo_le (rmo_le hx)
theorem lfs_le2 {lab : Nat → Nat} {s : Nat → Bool} {x : Nat} : ∀ {d h : Nat}, lfs n r lab s (h + d) x = true → lfs n r lab s h x = true
  | 0, _, hx => hx
  | d + 1, h, hx => lfs_le2 (d := d) (lfs_le hx)
theorem lfs_in {lab : Nat → Nat} {s : Nat → Bool} {h x : Nat} (hx : lfs n r lab s h x = true) : x < n ∧ s x = true := by
  have := lfs_le2 (n := n) (r := r) (lab := lab) (s := s) (x := x) (d := h) (h := 0) (by rw [Nat.zero_add]; exact hx)
  simp only [lfs, Bool.and_eq_true, decide_eq_true_eq] at this
  exact this
/-- how many a is BEHIND -/
def cp (n : Nat) (r : Nat → Nat → Bool) (a : Nat) : Nat := cnt (fun c => r a c) n
theorem cp_lt (h : Ord n r) {a c : Nat} (ha : a < n) (hc : c < n) (hr : r a c = true) : cp n r c < cp n r a :=
  cnt_lt (fun i hi hic => h.2.2 a c i ha hc hr hic) ⟨c, hc, h.2.1 c hc, hr⟩
theorem rdy_ex (ho : Ord n r) {left : Nat → Bool} (hl : ∀ x, left x = true → x < n) : ∀ (m a : Nat), cp n r a ≤ m → left a = true → ∃ b, left b = true ∧ rdy r left b = true := by
  intro m
  induction m with
  | zero =>
    intro a hm ha
    refine ⟨a, ha, ?_⟩
    unfold rdy
    rw [Bool.not_eq_true', anyb_f]
    intro x _
    cases hx : (r a x && left x) with
    | false => rfl
    | true =>
      simp only [Bool.and_eq_true] at hx
      have := cp_lt ho (hl a ha) (hl x hx.2) hx.1
      omega
  | succ m ih =>
    intro a hm ha
    cases hr : rdy r left a with
    | true => exact ⟨a, ha, hr⟩
    | false =>
      unfold rdy at hr
      rw [Bool.not_eq_false', anyb_iff] at hr
      obtain ⟨x, -, hx⟩ := hr
      simp only [Bool.and_eq_true] at hx
      have := cp_lt ho (hl a ha) (hl x hx.2) hx.1
      exact ih x (by omega) hx.2
theorem fst_ex (ho : Ord n r) {lab : Nat → Nat} {left : Nat → Bool} (hl : ∀ x, left x = true → x < n) {a : Nat} (ha : left a = true) : ∃ b, fstD n r lab left = some b ∧ left b = true ∧ rdy r left b = true := by
  obtain ⟨b, hb1, hb2⟩ := rdy_ex ho hl _ a (Nat.le_refl _) ha
  unfold fstD
  cases hq : grt r lab left left n with
  | none =>
    have := grt_none hq b (hl b hb1)
    rw [hb1, hb2] at this; cases this
  | some c =>
    obtain ⟨k1, k2, k3⟩ := grt_some hq
    simp only [Bool.and_eq_true] at k2
    exact ⟨c, rfl, k2.1, k2.2⟩
theorem lfs_dec (ho : Ord n r) {lab : Nat → Nat} {s : Nat → Bool} {h a : Nat} (ha : lfs n r lab s h a = true) : cnt (lfs n r lab s (h + 1)) n < cnt (lfs n r lab s h) n := by
  obtain ⟨b, hb1, hb2, hb3⟩ := fst_ex (lab := lab) ho (fun x hx => (lfs_in hx).1) ha
  refine cnt_lt (fun i _ hi => lfs_le hi) ⟨b, (lfs_in hb2).1, ?_, hb2⟩
  cases hh : lfs n r lab s (h + 1) b with
  | false => rfl
  | true =>
    have h2 : rmo (lfs n r lab s h) (fstD n r lab (lfs n r lab s h)) b = true := rmo_le (o := sndD n r lab (lfs n r lab s h)) hh
    rw [hb1] at h2
    simp [rmo, rmv] at h2
theorem lfs_bound (ho : Ord n r) {lab : Nat → Nat} {s : Nat → Bool} : ∀ (h : Nat), h ≤ n → (∃ a, lfs n r lab s h a = true) → cnt (lfs n r lab s h) n + h ≤ n
  | 0, _, _ => by have := cnt_le (lfs n r lab s 0) n; omega
  | h + 1, hh, ⟨a, ha⟩ => by
    have h1 := lfs_bound ho (lab := lab) (s := s) h (by omega) ⟨a, lfs_le ha⟩
    have h2 := lfs_dec ho (lfs_le ha)
    omega
theorem lfs_end (ho : Ord n r) {lab : Nat → Nat} {s : Nat → Bool} (a : Nat) : lfs n r lab s n a = false := by
  cases hh : lfs n r lab s n a with
  | false => rfl
  | true =>
    have h1 := lfs_bound ho (lab := lab) (s := s) n (Nat.le_refl n) ⟨a, hh⟩
    have h2 : 0 < cnt (lfs n r lab s n) n := Nat.lt_of_le_of_lt (Nat.zero_le (cnt (fun _ => false) n)) (cnt_lt (fun i _ hi => by cases hi) ⟨a, (lfs_in hh).1, rfl, hh⟩)
    omega
/-- a falling row of truths is counted by its end -/
theorem cnt_fall {p : Nat → Bool} (hp : ∀ h, p (h + 1) = true → p h = true) : ∀ {k : Nat}, p k = false → ∀ h, p h = true ↔ h < cnt p k := by
  have down : ∀ (d h : Nat), p (h + d) = true → p h = true := by
    intro d
    induction d with
    | zero => intro h hh; exact hh
    | succ d ih => intro h hh; exact ih h (hp _ hh)
  have full : ∀ k, (∀ i, i < k → p i = true) → cnt p k = k := by
    intro k
    induction k with
    | zero => intro _; rfl
    | succ k ih =>
      intro h
      unfold cnt
      rw [ih (fun i hi => h i (by omega)), h k (by omega)]
      rfl
  intro k
  induction k with
  | zero =>
    intro h0 h
    constructor
    · intro hh
      have := down h 0 (by rw [Nat.zero_add]; exact hh)
      rw [h0] at this; cases this
    · intro hh; exact absurd hh (Nat.not_lt_zero h)
  | succ k ih =>
    intro hk h
    unfold cnt
    cases hpk : p k with
    | false =>
      simp only [Bool.false_eq_true, if_false, Nat.add_zero]
      exact ih hpk h
    | true =>
      have hf : cnt p k = k := full k (fun i hi => down (k - i) i (by rw [show i + (k - i) = k by omega]; exact hpk))
      simp only [if_true, hf]
      constructor
      · intro hh
        rcases Nat.lt_or_ge h (k + 1) with q | q
        · exact q
        · have := down (h - (k + 1)) (k + 1) (by rw [show k + 1 + (h - (k + 1)) = h by omega]; exact hh)
          rw [hk] at this; cases this
      · intro hh
        exact down (k - h) h (by rw [show h + (k - h) = k by omega]; exact hpk)
/-- the HOUR of a, and the LENGTH -/
def hrD (n : Nat) (r : Nat → Nat → Bool) (lab : Nat → Nat) (s : Nat → Bool) (a : Nat) : Nat := cnt (fun h => lfs n r lab s h a) n
def lenD (n : Nat) (r : Nat → Nat → Bool) (lab : Nat → Nat) (s : Nat → Bool) : Nat := cnt (fun h => anyb (lfs n r lab s h) n) n
theorem hrD_iff (ho : Ord n r) {lab : Nat → Nat} {s : Nat → Bool} {h a : Nat} : lfs n r lab s h a = true ↔ h < hrD n r lab s a :=
  cnt_fall (p := fun h => lfs n r lab s h a) (fun _ hh => lfs_le hh) (lfs_end ho a) h
theorem lenD_iff (ho : Ord n r) {lab : Nat → Nat} {s : Nat → Bool} {h : Nat} : anyb (lfs n r lab s h) n = true ↔ h < lenD n r lab s := by
  refine cnt_fall (p := fun h => anyb (lfs n r lab s h) n) (fun h hh => ?_) (anyb_f.mpr (fun i _ => lfs_end ho i)) h
  obtain ⟨i, hi, hi2⟩ := anyb_iff.mp hh
  exact anyb_iff.mpr ⟨i, hi, lfs_le hi2⟩
theorem lenD_le {lab : Nat → Nat} {s : Nat → Bool} : lenD n r lab s ≤ n := cnt_le _ n
theorem hrD_le {lab : Nat → Nat} {s : Nat → Bool} {a : Nat} : hrD n r lab s a ≤ n := cnt_le _ n
end DAY
