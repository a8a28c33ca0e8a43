/-! LABELS of a set s of jobs: pick by pick -/
section LAB
variable {n : Nat} {r : Nat → Nat → Bool} {s : Nat → Bool}
/-- may get the next LABEL -/
def cand (n : Nat) (r : Nat → Nat → Bool) (s : Nat → Bool) (lab : Nat → Nat) (a : Nat) : Bool := ((decide (a < n) && s a) && decide (lab a = 0)) && !anyb (fun x => nxs n r s a x && decide (lab x = 0)) 16
/-- the row of LABELS as a set of bits -/
def rowp (n : Nat) (r : Nat → Nat → Bool) (s : Nat → Bool) (lab : Nat → Nat) (a : Nat) : Nat → Bool := fun l => anyb (fun x => nxs n r s a x && decide (lab x = l)) n
def rowv (n : Nat) (r : Nat → Nat → Bool) (s : Nat → Bool) (lab : Nat → Nat) (a : Nat) : Nat := mkm (rowp n r s lab a) 16
/-- the first of the least rows, of those below k -/
def pick (n : Nat) (r : Nat → Nat → Bool) (s : Nat → Bool) (lab : Nat → Nat) : Nat → Option Nat
  | 0 => none
  | k + 1 => match pick n r s lab k with
    | none => if cand n r s lab k = true then some k else none
    | some b => if cand n r s lab k = true ∧ rowv n r s lab k < rowv n r s lab b then some k else some b
theorem pick_some {lab : Nat → Nat} : ∀ {k a : Nat}, pick n r s lab k = some a → a < k ∧ cand n r s lab a = true ∧ ∀ b, b < k → cand n r s lab b = true → rowv n r s lab a ≤ rowv n r s lab b ∧ (rowv n r s lab a = rowv n r s lab b → a ≤ b)
  | 0, a, h => by cases h
  | k + 1, a, h => by
    unfold pick at h
    cases hp : pick n r s lab k with
    | none =>
      rw [hp] at h
      simp only at h
      have none_no : ∀ {k : Nat}, pick n r s lab k = none → ∀ b, b < k → cand n r s lab b = false := by
        intro k
        induction k with
        | zero => intro _ b hb; omega
        | succ k ih =>
          intro hk b hb
          unfold pick at hk
          cases hq : pick n r s lab k with
          | none =>
            rw [hq] at hk
            simp only at hk
            by_cases hc : cand n r s lab k = true
            · rw [if_pos hc] at hk; cases hk
            · rcases Nat.lt_or_ge b k with h2 | h2
              · exact ih hq b h2
              · rw [show b = k by omega]; simpa using hc
          | some c =>
            rw [hq] at hk
            simp only at hk
            split at hk <;> cases hk
      by_cases hc : cand n r s lab k = true
      · rw [if_pos hc] at h
        cases h
        refine ⟨by omega, hc, fun b hb hcb => ?_⟩
        rcases Nat.lt_or_ge b k with h2 | h2
        · rw [none_no hp b h2] at hcb; cases hcb
        · rw [show b = k by omega]; exact ⟨Nat.le_refl _, fun _ => Nat.le_refl _⟩
      · rw [if_neg hc] at h; cases h
    | some c =>
      rw [hp] at h
      simp only at h
      obtain ⟨h1, h2, h3⟩ := pick_some hp
      by_cases hc : cand n r s lab k = true ∧ rowv n r s lab k < rowv n r s lab c
      · rw [if_pos hc] at h
        cases h
        refine ⟨by omega, hc.1, fun b hb hcb => ?_⟩
        rcases Nat.lt_or_ge b k with h4 | h4
        · have := (h3 b h4 hcb).1
          exact ⟨by omega, fun e => by omega⟩
        · rw [show b = k by omega]; exact ⟨Nat.le_refl _, fun _ => Nat.le_refl _⟩
      · rw [if_neg hc] at h
        cases h
        refine ⟨by omega, h2, fun b hb hcb => ?_⟩
        rcases Nat.lt_or_ge b k with h4 | h4
        · exact h3 b h4 hcb
        · have e : b = k := by omega
          subst e
          have : ¬ rowv n r s lab b < rowv n r s lab a := fun q => hc ⟨hcb, q⟩
          exact ⟨by omega, fun _ => by omega⟩
theorem pick_none {lab : Nat → Nat} : ∀ {k : Nat}, pick n r s lab k = none → ∀ b, b < k → cand n r s lab b = false := by
  intro k
  induction k with
  | zero => intro _ b hb; omega
  | succ k ih =>
    intro hk b hb
    unfold pick at hk
    cases hq : pick n r s lab k with
    | none =>
      rw [hq] at hk
      simp only at hk
      by_cases hc : cand n r s lab k = true
      · rw [if_pos hc] at hk; cases hk
      · rcases Nat.lt_or_ge b k with h2 | h2
        · exact ih hq b h2
        · rw [show b = k by omega]; simpa using hc
    | some c =>
      rw [hq] at hk
      simp only at hk
      split at hk <;> cases hk
/-- labels after l picks -/
def labs (n : Nat) (r : Nat → Nat → Bool) (s : Nat → Bool) : Nat → Nat → Nat
  | 0 => fun _ => 0
  | l + 1 => match pick n r s (labs n r s l) n with
    | none => labs n r s l
    | some a => va_up (labs n r s l) a (l + 1)
theorem nxs_r {b a : Nat} (h : nxs n r s b a = true) : a < n ∧ s a = true ∧ r a b = true := by
  unfold nxs fls at h
  simp only [Bool.and_eq_true, decide_eq_true_eq] at h
  exact ⟨h.1.1.1, h.1.1.2, h.1.2⟩
/-- while one has no LABEL, one may get it -/
theorem cand_ex (ho : Ord n r) {lab : Nat → Nat} : ∀ (m a : Nat), cf n r a ≤ m → a < n → s a = true → lab a = 0 → ∃ b, b < n ∧ cand n r s lab b = true := by
  intro m
  induction m with
  | zero =>
    intro a hm ha hs hl
    refine ⟨a, ha, ?_⟩
    unfold cand
    simp only [ha, hs, hl, decide_true, Bool.true_and, Bool.not_eq_true']
    rw [anyb_f]
    intro x _
    cases hx : nxs n r s a x with
    | false => rfl
    | true =>
      obtain ⟨h1, h2, h3⟩ := nxs_r hx
      have := cf_lt ho ha h1 h3
      omega
  | succ m ih =>
    intro a hm ha hs hl
    cases hc : cand n r s lab a with
    | true => exact ⟨a, ha, hc⟩
    | false =>
      unfold cand at hc
      simp only [ha, hs, hl, decide_true, Bool.true_and, Bool.not_eq_false'] at hc
      obtain ⟨x, hx, hx2⟩ := anyb_iff.mp hc
      simp only [Bool.and_eq_true, decide_eq_true_eq] at hx2
      obtain ⟨h1, h2, h3⟩ := nxs_r hx2.1
      have := cf_lt ho ha h1 h3
      exact ih x (by omega) h1 h2 hx2.2
/-- after l picks: labels are 1..l, different, on s; and l is how many have one -/
theorem labs_inv (ho : Ord n r) : ∀ (l : Nat), l ≤ cnt (fun a => s a) n → (∀ a, labs n r s l a ≤ l) ∧ (∀ a, labs n r s l a ≠ 0 → a < n ∧ s a = true) ∧ (∀ a b, labs n r s l a ≠ 0 → labs n r s l a = labs n r s l b → a = b) ∧ cnt (fun a => decide (labs n r s l a ≠ 0)) n = l ∧ (∀ q, 1 ≤ q → q ≤ l → ∃ a, labs n r s l a = q) := by
  intro l
  induction l with
  | zero =>
    intro _
    refine ⟨fun a => Nat.le_refl 0, fun a h => absurd rfl h, fun a b h => absurd rfl h, ?_, fun q h1 h2 => absurd h1 (by omega)⟩
    have : ∀ k, cnt (fun a => decide (labs n r s 0 a ≠ 0)) k = 0 := by
      intro k
      induction k with
      | zero => rfl
      | succ k ih => unfold cnt; rw [ih]; simp [labs]
    exact this n
  | succ l ih =>
    intro hl
    obtain ⟨i1, i2, i3, i4, i5⟩ := ih (by omega)
    -- someone is left
    have hex : ∃ a, a < n ∧ s a = true ∧ labs n r s l a = 0 := by
      apply Classical.byContradiction
      intro hno
      have : cnt (fun a => s a) n ≤ cnt (fun a => decide (labs n r s l a ≠ 0)) n := by
        have mono : ∀ k, k ≤ n → cnt (fun a => s a) k ≤ cnt (fun a => decide (labs n r s l a ≠ 0)) k := by
          intro k
          induction k with
          | zero => intro _; exact Nat.le_refl _
          | succ k ihk =>
            intro hk
            have := ihk (by omega)
            unfold cnt
            by_cases hs : s k = true
            · have h0 : labs n r s l k ≠ 0 := fun q => hno ⟨k, by omega, hs, q⟩
              have hd : decide (labs n r s l k ≠ 0) = true := decide_eq_true h0
              simp only [hs, hd, if_true]
              omega
            · simp only [hs, if_false, Bool.false_eq_true]
              omega
        exact mono n (Nat.le_refl n)
      omega
    obtain ⟨a0, ha0, hs0, hl0⟩ := hex
    obtain ⟨b0, hb0, hc0⟩ := cand_ex ho _ a0 (Nat.le_refl _) ha0 hs0 hl0
    cases hp : pick n r s (labs n r s l) n with
    | none => rw [pick_none hp b0 hb0] at hc0; cases hc0
    | some a =>
      obtain ⟨h1, h2, h3⟩ := pick_some hp
      have e : labs n r s (l + 1) = va_up (labs n r s l) a (l + 1) := by
        show (match pick n r s (labs n r s l) n with | none => labs n r s l | some a => va_up (labs n r s l) a (l + 1)) = _
        rw [hp]
      have hca : a < n ∧ s a = true ∧ labs n r s l a = 0 := by
        unfold cand at h2
        simp only [Bool.and_eq_true, decide_eq_true_eq] at h2
        exact ⟨h2.1.1.1, h2.1.1.2, h2.1.2⟩
      have ee : ∀ x, labs n r s (l + 1) x = if x = a then l + 1 else labs n r s l x := fun x => by rw [e]; rfl
      refine ⟨fun x => ?_, fun x hx => ?_, fun x y hx hxy => ?_, ?_, fun q hq1 hq2 => ?_⟩
      · rw [ee]; split
        · omega
        · have := i1 x; omega
      · rw [ee] at hx
        by_cases hxa : x = a
        · rw [hxa]; exact ⟨hca.1, hca.2.1⟩
        · rw [if_neg hxa] at hx; exact i2 x hx
      · rw [ee] at hx
        rw [ee, ee] at hxy
        by_cases hxa : x = a
        · by_cases hya : y = a
          · rw [hxa, hya]
          · rw [if_pos hxa, if_neg hya] at hxy
            have := i1 y
            omega
        · rw [if_neg hxa] at hx hxy
          by_cases hya : y = a
          · rw [if_pos hya] at hxy
            have := i1 x
            omega
          · rw [if_neg hya] at hxy
            exact i3 x y hx hxy
      · have key : ∀ k, k ≤ n → cnt (fun x => decide (labs n r s (l + 1) x ≠ 0)) k = cnt (fun x => decide (labs n r s l x ≠ 0)) k + (if a < k then 1 else 0) := by
          intro k
          induction k with
          | zero => intro _; simp [cnt]
          | succ k ihk =>
            intro hk
            have := ihk (by omega)
            unfold cnt
            rw [this]
            by_cases hka : k = a
            · subst hka
              rw [ee, if_pos rfl]
              simp [hca.2.2]
            · rw [ee, if_neg hka]
              by_cases h5 : a < k
              · simp [h5, show a < k + 1 by omega]; omega
              · simp [h5, show ¬ a < k + 1 by omega]
        rw [key n (Nat.le_refl n), i4, if_pos hca.1]
      · by_cases hql : q = l + 1
        · exact ⟨a, by rw [ee, if_pos rfl, hql]⟩
        · obtain ⟨x, hx⟩ := i5 q hq1 (by omega)
          refine ⟨x, ?_⟩
          rw [ee, if_neg, hx]
          intro hxa
          rw [hxa, hca.2.2] at hx
          omega
theorem labs_step (ho : Ord n r) {l : Nat} (hl : l < cnt (fun a => s a) n) : ∃ a, pick n r s (labs n r s l) n = some a ∧ labs n r s (l + 1) = va_up (labs n r s l) a (l + 1) ∧ a < n ∧ s a = true ∧ labs n r s l a = 0 := by
  have h1 := labs_inv (s := s) ho (l + 1) (by omega)
  have h0 := labs_inv (s := s) ho l (by omega)
  cases hp : pick n r s (labs n r s l) n with
  | none =>
    have e : labs n r s (l + 1) = labs n r s l := by
      show (match pick n r s (labs n r s l) n with | none => labs n r s l | some a => va_up (labs n r s l) a (l + 1)) = _
      rw [hp]
    have := h1.2.2.2.1
    rw [e, h0.2.2.2.1] at this
    omega
  | some a =>
    obtain ⟨k1, k2, k3⟩ := pick_some hp
    unfold cand at k2
    simp only [Bool.and_eq_true, decide_eq_true_eq] at k2
    refine ⟨a, rfl, ?_, k2.1.1.1, k2.1.1.2, k2.1.2⟩
    show (match pick n r s (labs n r s l) n with | none => labs n r s l | some a => va_up (labs n r s l) a (l + 1)) = _
    rw [hp]
/-- the LABELS -/
def lbl (n : Nat) (r : Nat → Nat → Bool) (s : Nat → Bool) : Nat → Nat := labs n r s (cnt (fun a => s a) n)
theorem labs_mono (ho : Ord n r) : ∀ (d l : Nat), l + d = cnt (fun a => s a) n → ∀ a, labs n r s l a = if lbl n r s a ≤ l then lbl n r s a else 0 := by
  intro d
  induction d with
  | zero =>
    intro l hl a
    have e : l = cnt (fun a => s a) n := by omega
    have := (labs_inv (s := s) ho l (by omega)).1 a
    unfold lbl
    rw [← e, if_pos this]
  | succ d ih =>
    intro l hl a
    obtain ⟨b, h1, h2, h3, h4, h5⟩ := labs_step (s := s) ho (l := l) (by omega)
    have h6 := ih (l + 1) (by omega) a
    have h7 := (labs_inv (s := s) ho l (by omega)).1 a
    have ee : labs n r s (l + 1) a = if a = b then l + 1 else labs n r s l a := by rw [h2]; rfl
    rw [ee] at h6
    by_cases hab : a = b
    · rw [if_pos hab] at h6
      rw [hab] at h6 ⊢
      rw [h5]
      by_cases hq : lbl n r s b ≤ l
      · rw [if_pos (by omega)] at h6; omega
      · rw [if_neg hq]
    · rw [if_neg hab] at h6
      rw [h6]
      by_cases hq : lbl n r s a ≤ l
      · rw [if_pos (by omega), if_pos hq]
      · rw [if_neg hq]
        by_cases hq2 : lbl n r s a ≤ l + 1
        · rw [if_pos hq2] at h6
          omega
        · rw [if_neg hq2]
theorem lbl_pos (ho : Ord n r) {a : Nat} (ha : a < n) (hs : s a = true) : 1 ≤ lbl n r s a := by
  have h := labs_inv (s := s) ho _ (Nat.le_refl _)
  apply Classical.byContradiction
  intro h0
  have h0 : lbl n r s a = 0 := by omega
  have : cnt (fun x => decide (lbl n r s x ≠ 0)) n < cnt (fun x => s x) n := cnt_lt (fun i _ hi => (h.2.1 i (of_decide_eq_true hi)).2) ⟨a, ha, by simp [h0], hs⟩
  have e := h.2.2.2.1
  unfold lbl at this
  omega
theorem lbl_zero (ho : Ord n r) {a : Nat} (hs : ¬ (a < n ∧ s a = true)) : lbl n r s a = 0 := by
  have h := labs_inv (s := s) ho _ (Nat.le_refl _)
  apply Classical.byContradiction
  intro h0
  exact hs (h.2.1 a h0)
theorem lbl_le (ho : Ord n r) (a : Nat) : lbl n r s a ≤ cnt (fun a => s a) n := (labs_inv (s := s) ho _ (Nat.le_refl _)).1 a
theorem lbl_inj (ho : Ord n r) {a b : Nat} (h0 : lbl n r s a ≠ 0) (h : lbl n r s a = lbl n r s b) : a = b := (labs_inv (s := s) ho _ (Nat.le_refl _)).2.2.1 a b h0 h
theorem lbl_surj (ho : Ord n r) {q : Nat} (h1 : 1 ≤ q) (h2 : q ≤ cnt (fun a => s a) n) : ∃ a, a < n ∧ s a = true ∧ lbl n r s a = q := by
  have h := labs_inv (s := s) ho _ (Nat.le_refl _)
  obtain ⟨a, ha⟩ := h.2.2.2.2 q h1 h2
  obtain ⟨k1, k2⟩ := h.2.1 a (by omega)
  exact ⟨a, k1, k2, ha⟩
end LAB
