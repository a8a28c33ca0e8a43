/-! what the LABELS of all jobs are like (Coffman, Graham) -/
section CG
variable {n : Nat} {r : Nat → Nat → Bool}
/-- the job with label b is picked when the lesser labels are given -/
theorem lba_pick (ho : Ord n r) {b : Nat} (hb : b < n) : pick n r (alln n) (fun x => if lba n r x < lba n r b then lba n r x else 0) n = some b := by
  have hN : cnt (fun a => alln n a) n = n := cnt_all n
  have h1 := lba_pos ho hb
  have h2 := lba_le ho (n := n) (r := r) b
  obtain ⟨l, hl⟩ : ∃ l, lba n r b = l + 1 := ⟨lba n r b - 1, by omega⟩
  obtain ⟨x, hx1, hx2, hxn, -, hx5⟩ := labs_step (s := alln n) ho (l := l) (by rw [hN]; omega)
  have hxl : lba n r x = l + 1 := by
    have e := labs_mono (s := alln n) ho (n - (l + 1)) (l + 1) (by rw [hN]; omega) x
    rw [hx2] at e
    have e1 : va_up (labs n r (alln n) l) x (l + 1) x = l + 1 := va_up_s
    rw [e1] at e
    by_cases hq : lbl n r (alln n) x ≤ l + 1
    · rw [if_pos hq] at e; exact e.symm
    · rw [if_neg hq] at e; omega
  have ex : x = b := lba_inj ho hxn (hxl.trans hl.symm)
  have ef : labs n r (alln n) l = fun x => if lba n r x < lba n r b then lba n r x else 0 := by
    funext y
    rw [labs_mono (s := alln n) ho (n - l) l (by rw [hN]; omega) y, hl]
    by_cases hq : lbl n r (alln n) y ≤ l
    · have hq2 : lba n r y < l + 1 := Nat.lt_succ_of_le hq
      rw [if_pos hq, if_pos hq2]
    · have hq2 : ¬ lba n r y < l + 1 := fun q => hq (Nat.le_of_lt_succ q)
      rw [if_neg hq, if_neg hq2]
  rw [← ef, hx1, ex]
theorem nxt_r {b a : Nat} (h : nxt n r b a = true) : a < n ∧ r a b = true := by
  unfold nxt flw at h
  simp only [Bool.and_eq_true, decide_eq_true_eq] at h
  exact ⟨h.1.1, h.1.2⟩
theorem nxt_lt (ho : Ord n r) (hn : n ≤ 10) {b a : Nat} (hb : b < n) (h : nxt n r b a = true) : lba n r a < lba n r b := by
  obtain ⟨h1, h2, -⟩ := pick_some (lba_pick ho hb)
  unfold cand at h2
  rw [Bool.and_eq_true, Bool.not_eq_true', anyb_f, nxs_all] at h2
  have han := (nxt_r h).1
  apply Classical.byContradiction
  intro hno
  have := h2.2 a (by omega)
  rw [h, Bool.true_and, decide_eq_false_iff_not] at this
  exact this (if_neg hno)
/-- between b and one BEHIND it stands one NEXT behind b -/
theorem nxt_ex (ho : Ord n r) (hn : n ≤ 10) {b : Nat} (hb : b < n) : ∀ (m a : Nat), cp n r a ≤ m → a < n → r a b = true → ∃ x, nxt n r b x = true ∧ (x = a ∨ r a x = true) := by
  intro m
  induction m with
  | zero =>
    intro a hm ha hr
    have := cp_lt ho ha hb hr
    omega
  | succ m ih =>
    intro a hm ha hr
    cases hx : nxt n r b a with
    | true => exact ⟨a, hx, Or.inl rfl⟩
    | false =>
      unfold nxt at hx
      have hf : flw n r b a = true := by unfold flw; simp [ha, hr]
      rw [hf, Bool.true_and, Bool.not_eq_false', anyb_iff] at hx
      obtain ⟨i, -, hi⟩ := hx
      rw [Bool.and_eq_true] at hi
      have hi2 := hi.2
      unfold flw at hi2
      simp only [Bool.and_eq_true, decide_eq_true_eq] at hi2
      have hlt := cp_lt ho ha hi2.1 hi.1
      obtain ⟨x, hx1, hx2⟩ := ih i (by omega) hi2.1 hi2.2
      refine ⟨x, hx1, Or.inr ?_⟩
      rcases hx2 with e | e
      · rw [e]; exact hi.1
      · exact ho.2.2 a i x ha hi2.1 hi.1 e
/-- who is BEHIND has the lesser label -/
theorem lba_lt (ho : Ord n r) (hn : n ≤ 10) : ∀ (m a b : Nat), cf n r b ≤ m → a < n → b < n → r a b = true → lba n r a < lba n r b := by
  intro m
  induction m with
  | zero =>
    intro a b hm ha hb hr
    have := cf_lt ho hb ha hr
    omega
  | succ m ih =>
    intro a b hm ha hb hr
    obtain ⟨x, hx1, hx2⟩ := nxt_ex ho hn hb _ a (Nat.le_refl _) ha hr
    have h1 := nxt_lt ho hn hb hx1
    obtain ⟨hxn, hxr⟩ := nxt_r hx1
    rcases hx2 with e | e
    · rw [← e]; exact h1
    · have hlt := cf_lt ho hb hxn hxr
      have := ih a x (by omega) ha hxn e
      omega
/-- the row of labels of the nexts, as a number -/
def rwL (n : Nat) (r : Nat → Nat → Bool) (a : Nat) : Nat → Bool := fun q => anyb (fun x => nxt n r a x && decide (lba n r x = q)) n
theorem rwL_iff {a q : Nat} : rwL n r a q = true ↔ ∃ x, x < n ∧ nxt n r a x = true ∧ lba n r x = q := by
  unfold rwL
  rw [anyb_iff]
  simp only [Bool.and_eq_true, decide_eq_true_eq]
/-- the lesser label has no greater row -/
theorem rwL_le (ho : Ord n r) (hn : n ≤ 10) {a b : Nat} (ha : a < n) (hb : b < n) (hl : lba n r b < lba n r a) : mkm (rwL n r b) 16 ≤ mkm (rwL n r a) 16 := by
  obtain ⟨h1, h2, h3⟩ := pick_some (lba_pick ho hb)
  have rowb : ∀ c, c < n → (∀ x, nxt n r c x = true → lba n r x < lba n r b) → rowv n r (alln n) (fun x => if lba n r x < lba n r b then lba n r x else 0) c = mkm (rwL n r c) 16 := by
    intro c hc hx
    unfold rowv
    apply mkm_cong
    intro q _
    unfold rowp rwL
    rw [nxs_all, Bool.eq_iff_iff, anyb_iff, anyb_iff]
    constructor
    · rintro ⟨x, hxn, hx2⟩
      simp only [Bool.and_eq_true, decide_eq_true_eq] at hx2
      rw [if_pos (hx x hx2.1)] at hx2
      exact ⟨x, hxn, by simp [hx2.1, hx2.2]⟩
    · rintro ⟨x, hxn, hx2⟩
      simp only [Bool.and_eq_true, decide_eq_true_eq] at hx2
      refine ⟨x, hxn, ?_⟩
      rw [hx2.1, Bool.true_and, decide_eq_true_eq]
      show (if lba n r x < lba n r b then lba n r x else 0) = q
      rw [if_pos (hx x hx2.1)]
      exact hx2.2
  by_cases hall : ∀ x, nxt n r a x = true → lba n r x < lba n r b
  · have hca : cand n r (alln n) (fun x => if lba n r x < lba n r b then lba n r x else 0) a = true := by
      unfold cand
      rw [nxs_all, Bool.and_eq_true, Bool.not_eq_true', anyb_f]
      refine ⟨?_, fun x _ => ?_⟩
      · show ((decide (a < n) && decide (a < n)) && decide ((if lba n r a < lba n r b then lba n r a else 0) = 0)) = true
        rw [if_neg (by omega)]
        simp [ha]
      · cases hx : nxt n r a x with
        | false => rfl
        | true =>
          have := lba_pos ho (nxt_r hx).1
          rw [Bool.true_and, decide_eq_false_iff_not]
          show ¬ (if lba n r x < lba n r b then lba n r x else 0) = 0
          rw [if_pos (hall x hx)]
          omega
    have := (h3 a ha hca).1
    rw [rowb a ha hall, rowb b hb (fun x hx => nxt_lt ho hn hb hx)] at this
    exact this
  · have hex : ∃ x, nxt n r a x = true ∧ ¬ lba n r x < lba n r b := by
      apply Classical.byContradiction
      intro hno
      exact hall (fun x hx => Classical.byContradiction (fun q => hno ⟨x, hx, q⟩))
    obtain ⟨x, hx1, hx2⟩ := hex
    have hxn := (nxt_r hx1).1
    -- a label in a's row is above all of b's row
    have hx10 : lba n r x ≤ n := lba_le ho x
    rcases Nat.lt_or_ge (mkm (rwL n r a) 16) (mkm (rwL n r b) 16) with q | q
    · rw [mkm_ltI] at q
      obtain ⟨i, i1, i2, i3, i4⟩ := q
      obtain ⟨y, hyn, hy1, hy2⟩ := rwL_iff.mp i3
      have hyb := nxt_lt ho hn hb hy1
      have h5 := i4 (lba n r x) (by omega) (by omega)
      have h6 : rwL n r a (lba n r x) = true := rwL_iff.mpr ⟨x, hxn, hx1, rfl⟩
      rw [h6] at h5
      obtain ⟨z, hzn, hz1, hz2⟩ := rwL_iff.mp h5.symm
      have := nxt_lt ho hn hb hz1
      omega
    · exact q
/-- the first of an HOUR has the greatest label of all that is left -/
theorem fst_max (ho : Ord n r) (hn : n ≤ 10) {left : Nat → Bool} (hl : ∀ x, left x = true → x < n) {a : Nat} (hf : fstD n r (lba n r) left = some a) : ∀ (m x : Nat), cp n r x ≤ m → left x = true → lba n r x ≤ lba n r a := by
  obtain ⟨h1, h2, h3⟩ := grt_some (show grt r (lba n r) left left n = some a from hf)
  intro m
  induction m with
  | zero =>
    intro x hm hx
    refine h3 x (hl x hx) ?_
    rw [hx, Bool.true_and]
    unfold rdy
    rw [Bool.not_eq_true', anyb_f]
    intro y _
    cases hy : (r x y && left y) with
    | false => rfl
    | true =>
      rw [Bool.and_eq_true] at hy
      have := cp_lt ho (hl x hx) (hl y hy.2) hy.1
      omega
  | succ m ih =>
    intro x hm hx
    cases hr : rdy r left x with
    | true => exact h3 x (hl x hx) (by rw [hx, hr]; rfl)
    | false =>
      unfold rdy at hr
      rw [Bool.not_eq_false', anyb_iff] at hr
      obtain ⟨y, -, hy⟩ := hr
      rw [Bool.and_eq_true] at hy
      have hlt := cp_lt ho (hl x hx) (hl y hy.2) hy.1
      have := ih y (by omega) hy.2
      have := lba_lt ho hn _ x y (Nat.le_refl _) (hl x hx) (hl y hy.2) hy.1
      omega
end CG
