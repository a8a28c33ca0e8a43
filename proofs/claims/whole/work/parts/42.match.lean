/-! the greatest set of PAIRS by trying the lowest job -/
section MATCH
variable {n : Nat} {r : Nat → Nat → Bool}
def bst (r : Nat → Nat → Bool) (P : (Nat → Bool) → Nat) (S : Nat → Bool) (a : Nat) : Nat → Nat
  | 0 => P (rmv S a)
  | k + 1 => if a < k ∧ S k = true ∧ r a k = false ∧ r k a = false then max (bst r P S a k) (1 + P (rmv (rmv S a) k)) else bst r P S a k
/-- P keeps to the rule of the lowest job -/
def PRule (n : Nat) (r : Nat → Nat → Bool) (P : (Nat → Bool) → Nat) : Prop :=
  (∀ S : Nat → Bool, (∀ x, S x = false) → P S = 0) ∧
  ∀ (S : Nat → Bool) (a : Nat), (∀ x, S x = true → x < n) → S a = true → (∀ x, x < a → S x = false) → P S = bst r P S a n
theorem bst_le {P : (Nat → Bool) → Nat} {S : Nat → Bool} {a M : Nat} (h0 : P (rmv S a) ≤ M) : ∀ k, (∀ b, b < k → a < b → S b = true → r a b = false → r b a = false → 1 + P (rmv (rmv S a) b) ≤ M) → bst r P S a k ≤ M
  | 0, _ => h0
  | k + 1, h => by
    have ih := bst_le (S := S) h0 k (fun b hb => h b (by omega))
    unfold bst
    split
    · rename_i hc
      exact Nat.max_le.mpr ⟨ih, h k (by omega) hc.1 hc.2.1 hc.2.2.1 hc.2.2.2⟩
    · exact ih
theorem bst_ge0 {P : (Nat → Bool) → Nat} {S : Nat → Bool} {a : Nat} : ∀ k, P (rmv S a) ≤ bst r P S a k
  | 0 => Nat.le_refl _
  | k + 1 => by
    have ih := bst_ge0 (P := P) (S := S) (a := a) k
    unfold bst
    split
    · exact Nat.le_trans ih (Nat.le_max_left _ _)
    · exact ih
theorem bst_ge1 {P : (Nat → Bool) → Nat} {S : Nat → Bool} {a b : Nat} (hab : a < b) (hb : S b = true) (h1 : r a b = false) (h2 : r b a = false) : ∀ k, b < k → 1 + P (rmv (rmv S a) b) ≤ bst r P S a k
  | 0, h => by omega
  | k + 1, h => by
    by_cases e : b = k
    · subst e
      unfold bst
      rw [if_pos ⟨hab, hb, h1, h2⟩]
      exact Nat.le_max_right _ _
    · have ih := bst_ge1 (P := P) (S := S) hab hb h1 h2 k (by omega)
      unfold bst
      split
      · exact Nat.le_trans ih (Nat.le_max_left _ _)
      · exact ih
theorem rmv_c {S : Nat → Bool} {a b : Nat} : rmv (rmv S a) b = rmv (rmv S b) a := by
  funext x
  have : ∀ s p q : Bool, ((s && !p) && !q) = ((s && !q) && !p) := by decide
  exact this _ _ _
theorem rmv_t {S : Nat → Bool} {a x : Nat} : rmv S a x = true ↔ S x = true ∧ x ≠ a := by
  unfold rmv
  simp
theorem low_ex {S : Nat → Bool} {x : Nat} : ∀ m, x ≤ m → S x = true → ∃ a, S a = true ∧ ∀ y, y < a → S y = false := by
  intro m
  induction m generalizing x with
  | zero =>
    intro hx hs
    exact ⟨x, hs, fun y hy => by omega⟩
  | succ m ih =>
    intro hx hs
    by_cases h : ∃ y, y < x ∧ S y = true
    · obtain ⟨y, hy, hy2⟩ := h
      exact ih (by omega) hy2
    · refine ⟨x, hs, fun y hy => ?_⟩
      cases hq : S y with
      | false => rfl
      | true => exact absurd ⟨y, hy, hq⟩ h
theorem PR_up {P : (Nat → Bool) → Nat} (hP : PRule n r P) {f : (Nat → Bool) → Nat} (f1 : ∀ S S' : Nat → Bool, (∀ x, S x = true → S' x = true) → f S ≤ f S') (f2 : ∀ S a b, a ≠ b → a < n → b < n → S a = true → S b = true → r a b = false → r b a = false → f (rmv (rmv S a) b) + 1 ≤ f S) : ∀ (m : Nat) (S : Nat → Bool), (∀ x, S x = true → x < n) → cnt S n ≤ m → P S ≤ f S := by
  intro m
  induction m with
  | zero =>
    intro S hS hm
    have : ∀ x, S x = false := fun x => by
      cases hx : S x with
      | false => rfl
      | true => have := cnt_del (hS x hx) hx; omega
    rw [hP.1 S this]
    exact Nat.zero_le _
  | succ m ih =>
    intro S hS hm
    by_cases h : ∃ x, S x = true
    · obtain ⟨x, hx⟩ := h
      obtain ⟨a, ha, hlow⟩ := low_ex _ (Nat.le_refl _) hx
      rw [hP.2 S a hS ha hlow]
      have hc := cnt_del (hS a ha) ha
      have hS1 : ∀ x, rmv S a x = true → x < n := fun x hx => hS x (rmv_t.mp hx).1
      refine bst_le ?_ n (fun b hb hab hSb h1 h2 => ?_)
      · exact Nat.le_trans (ih _ hS1 (by omega)) (f1 _ _ (fun x hx => (rmv_t.mp hx).1))
      · have hc2 := cnt_del (p := rmv S a) hb (rmv_t.mpr ⟨hSb, by omega⟩)
        have := ih (rmv (rmv S a) b) (fun x hx => hS1 x (rmv_t.mp hx).1) (by omega)
        have := f2 S a b (by omega) (hS a ha) hb ha hSb h1 h2
        omega
    · have : ∀ x, S x = false := fun x => by
        cases hx : S x with
        | false => rfl
        | true => exact absurd ⟨x, hx⟩ h
      rw [hP.1 S this]
      exact Nat.zero_le _
/-- one job less: no more pairs -/
theorem PR_one {P : (Nat → Bool) → Nat} (hP : PRule n r P) : ∀ (m : Nat) (S : Nat → Bool) (x : Nat), (∀ x, S x = true → x < n) → cnt S n ≤ m → S x = true → P (rmv S x) ≤ P S := by
  intro m
  induction m with
  | zero =>
    intro S x hS hm hx
    have := cnt_del (hS x hx) hx
    omega
  | succ m ih =>
    intro S x hS hm hx
    obtain ⟨a, ha, hlow⟩ := low_ex _ (Nat.le_refl _) hx
    have hc := cnt_del (hS a ha) ha
    have hS1 : ∀ y, rmv S a y = true → y < n := fun x hx => hS x (rmv_t.mp hx).1
    have hg0 : P (rmv S a) ≤ P S := by rw [hP.2 S a hS ha hlow]; exact bst_ge0 n
    by_cases hxa : x = a
    · rw [hxa]; exact hg0
    · rw [hP.2 (rmv S x) a (fun y hy => hS y (rmv_t.mp hy).1) (rmv_t.mpr ⟨ha, fun e => hxa e.symm⟩) (fun y hy => by unfold rmv; rw [hlow y hy]; rfl)]
      refine bst_le ?_ n (fun b hb hab hSb h1 h2 => ?_)
      · rw [rmv_c]
        exact Nat.le_trans (ih (rmv S a) x hS1 (by omega) (rmv_t.mpr ⟨hx, hxa⟩)) hg0
      · obtain ⟨hb1, hb2⟩ := rmv_t.mp hSb
        have hc2 := cnt_del (p := rmv S a) hb (rmv_t.mpr ⟨hb1, by omega⟩)
        have h3 := ih (rmv (rmv S a) b) x (fun y hy => hS1 y (rmv_t.mp hy).1) (by omega) (rmv_t.mpr ⟨rmv_t.mpr ⟨hx, hxa⟩, fun e => hb2 e.symm⟩)
        have h4 : 1 + P (rmv (rmv S a) b) ≤ P S := by rw [hP.2 S a hS ha hlow]; exact bst_ge1 hab hb1 h1 h2 n hb
        rw [rmv_c (S := S) (a := x) (b := a), rmv_c (S := rmv S a) (a := x) (b := b)]
        omega
/-- one PAIR less: one pair less -/
theorem PR_two {P : (Nat → Bool) → Nat} (hP : PRule n r P) : ∀ (m : Nat) (S : Nat → Bool) (x y : Nat), (∀ x, S x = true → x < n) → cnt S n ≤ m → S x = true → S y = true → x ≠ y → r x y = false → r y x = false → 1 + P (rmv (rmv S x) y) ≤ P S := by
  intro m
  induction m with
  | zero =>
    intro S x y hS hm hx
    have := cnt_del (hS x hx) hx
    omega
  | succ m ih =>
    intro S x y hS hm hx hy hxy r1 r2
    obtain ⟨a, ha, hlow⟩ := low_ex _ (Nat.le_refl _) hx
    have hc := cnt_del (hS a ha) ha
    have hS1 : ∀ y, rmv S a y = true → y < n := fun x hx => hS x (rmv_t.mp hx).1
    have hg0 : P (rmv S a) ≤ P S := by rw [hP.2 S a hS ha hlow]; exact bst_ge0 n
    have hlow' : ∀ z, S z = true → a ≤ z := fun z hz => by
      apply Classical.byContradiction
      intro q
      rw [hlow z (by omega)] at hz; cases hz
    by_cases hxa : x = a
    · subst hxa
      rw [hP.2 S x hS ha hlow]
      exact bst_ge1 (by have := hlow' y hy; omega) hy r1 r2 n (hS y hy)
    by_cases hya : y = a
    · subst hya
      rw [hP.2 S y hS ha hlow, rmv_c]
      exact bst_ge1 (by have := hlow' x hx; omega) hx r2 r1 n (hS x hx)
    have goal : P (rmv (rmv S x) y) ≤ P S - 1 := by
      rw [hP.2 (rmv (rmv S x) y) a (fun z hz => hS z (rmv_sub hz)) (rmv_t.mpr ⟨rmv_t.mpr ⟨ha, fun e => hxa e.symm⟩, fun e => hya e.symm⟩) (fun z hz => by unfold rmv; rw [hlow z hz]; rfl)]
      have comm1 : rmv (rmv (rmv S x) y) a = rmv (rmv (rmv S a) x) y := by
        rw [rmv_c (S := rmv S x) (a := y) (b := a), rmv_c (S := S) (a := x) (b := a)]
      refine bst_le ?_ n (fun b hb hab hSb h1 h2 => ?_)
      · rw [comm1]
        have := ih (rmv S a) x y hS1 (by omega) (rmv_t.mpr ⟨hx, hxa⟩) (rmv_t.mpr ⟨hy, hya⟩) hxy r1 r2
        omega
      · obtain ⟨hb0, hb3⟩ := rmv_t.mp hSb
        obtain ⟨hb1, hb2⟩ := rmv_t.mp hb0
        have hc2 := cnt_del (p := rmv S a) hb (rmv_t.mpr ⟨hb1, by omega⟩)
        have h3 := ih (rmv (rmv S a) b) x y (fun y hy => hS1 y (rmv_t.mp hy).1) (by omega) (rmv_t.mpr ⟨rmv_t.mpr ⟨hx, hxa⟩, fun e => hb2 e.symm⟩) (rmv_t.mpr ⟨rmv_t.mpr ⟨hy, hya⟩, fun e => hb3 e.symm⟩) hxy r1 r2
        have h4 : 1 + P (rmv (rmv S a) b) ≤ P S := by rw [hP.2 S a hS ha hlow]; exact bst_ge1 hab hb1 h1 h2 n hb
        have comm2 : rmv (rmv (rmv (rmv S x) y) a) b = rmv (rmv (rmv (rmv S a) b) x) y := by
          rw [comm1, rmv_c (S := rmv (rmv S a) x) (a := y) (b := b), rmv_c (S := rmv S a) (a := x) (b := b)]
        rw [comm2]
        omega
    have : 1 ≤ P S := by
      have := ih (rmv S a) x y hS1 (by omega) (rmv_t.mpr ⟨hx, hxa⟩) (rmv_t.mpr ⟨hy, hya⟩) hxy r1 r2
      omega
    omega
/-- the pairs of THE DAY -/
theorem PR_day {P : (Nat → Bool) → Nat} (ho : Ord n r) (hn : n ≤ 10) (hP : PRule n r P) : ∀ (d h : Nat), h + d = lnA n r → cnt (lfa n r h) n ≤ P (lfa n r h) + d := by
  intro d
  induction d with
  | zero =>
    intro h hh
    have : cnt (lfa n r h) n = cnt (fun _ => false) n := cnt_cong (fun x _ => lfa_end ho (by omega) x)
    rw [this, cnt_ff]
    exact Nat.zero_le _
  | succ d ih =>
    intro h hh
    have h1 := ih (h + 1) (by omega)
    obtain ⟨a, hf, ha⟩ := fst_at ho (h := h) (by omega)
    cases hs : sndD n r (lba n r) (lfa n r h) with
    | none =>
      have e : lfa n r (h + 1) = rmv (lfa n r h) a := by
        show rmo (rmo (lfa n r h) (fstD n r (lba n r) (lfa n r h))) (sndD n r (lba n r) (lfa n r h)) = _
        rw [hs, hf]; rfl
      have h2 := lfa_cnt0 hf ha hs
      have h3 := PR_one hP _ (lfa n r h) a (fun x hx => lfa_in hx) (Nat.le_refl _) ha
      rw [← e] at h3
      omega
    | some q =>
      have e : lfa n r (h + 1) = rmv (rmv (lfa n r h) a) q := by
        show rmo (rmo (lfa n r h) (fstD n r (lba n r) (lfa n r h))) (sndD n r (lba n r) (lfa n r h)) = _
        rw [hs, hf]; rfl
      have h2 := lfa_cnt2 hf ha hs
      obtain ⟨hq, hqa⟩ := snd_at hf hs
      have ra := (grt_some (show grt r (lba n r) (lfa n r h) (lfa n r h) n = some a from hf)).2.1
      have rq := (grt_some (show grt r (lba n r) (rmo (lfa n r h) (fstD n r (lba n r) (lfa n r h))) (lfa n r h) n = some q from hs)).2.1
      rw [Bool.and_eq_true] at ra rq
      have ra2 := ra.2
      have rq2 := rq.2
      unfold rdy at ra2 rq2
      rw [Bool.not_eq_true', anyb_f] at ra2 rq2
      have r1 : r a q = false := by
        have := ra2 q (by first | exact lfa_in hq | (have := lfa_in hq; omega))
        rw [hq, Bool.and_true] at this
        exact this
      have r2 : r q a = false := by
        have := rq2 a (by first | exact lfa_in ha | (have := lfa_in ha; omega))
        rw [ha, Bool.and_true] at this
        exact this
      have h3 := PR_two hP _ (lfa n r h) a q (fun x hx => lfa_in hx) (Nat.le_refl _) ha hq (fun e => hqa e.symm) r1 r2
      rw [← e] at h3
      omega
/-- PAIRS and LENGTH together are the JOBS -/
theorem PR_fin {P : (Nat → Bool) → Nat} (ho : Ord n r) (hn : n ≤ 10) (hP : PRule n r P) : P (alln n) + lnA n r = n := by
  obtain ⟨f, f1, f2, f3⟩ := pot_fin ho hn
  have h1 := PR_up hP f1 f2 _ (alln n) (fun x hx => by simpa using hx) (Nat.le_refl _)
  have h2 := PR_day ho hn hP (lnA n r) 0 (by omega)
  have e : lfa n r 0 = alln n := by
    funext x
    show (decide (x < n) && decide (x < n)) = decide (x < n)
    exact Bool.and_self _
  rw [e, cnt_all n] at h2
  omega
end MATCH
