/-! the order: transitive, without rings; counts and depths -/
def anyb (p : Nat → Bool) : Nat → Bool
  | 0 => false
  | k + 1 => anyb p k || p k
theorem anyb_iff {p : Nat → Bool} : ∀ {k : Nat}, anyb p k = true ↔ ∃ i, i < k ∧ p i = true
  | 0 => by simp [anyb]
  | k + 1 => by
    unfold anyb
    rw [Bool.or_eq_true, anyb_iff]
    constructor
    · rintro (⟨i, h1, h2⟩ | h)
      · exact ⟨i, by omega, h2⟩
      · exact ⟨k, by omega, h⟩
    · rintro ⟨i, h1, h2⟩
      rcases Nat.lt_or_ge i k with h | h
      · exact Or.inl ⟨i, h, h2⟩
      · rw [show i = k by omega] at h2
        exact Or.inr h2
theorem anyb_f {p : Nat → Bool} {k : Nat} : anyb p k = false ↔ ∀ i, i < k → p i = false := by
  constructor
  · intro h i hi
    cases hp : p i with
    | false => rfl
    | true =>
      have := anyb_iff.mpr ⟨i, hi, hp⟩
      rw [h] at this
      cases this
  · intro h
    cases ha : anyb p k with
    | false => rfl
    | true =>
      obtain ⟨i, hi, hp⟩ := anyb_iff.mp ha
      rw [h i hi] at hp
      cases hp
def Ord (n : Nat) (r : Nat → Nat → Bool) : Prop := (∀ a b, a < n → r a b = true → b < n) ∧ (∀ a, a < n → r a a = false) ∧ ∀ a b c, a < n → b < n → r a b = true → r b c = true → r a c = true
theorem wR_tr (w : Nat → Nat → Bool) : ∀ (c k a b : Nat), k < c → wR w c a k = true → wR w c k b = true → wR w c a b = true
  | 0, k, a, b, h, _, _ => absurd h (Nat.not_lt_zero k)
  | c + 1, k, a, b, h, h1, h2 => by
    have ih := wR_tr w c
    show (wR w c a b || (wR w c a c && wR w c c b)) = true
    have h1 : (wR w c a k || (wR w c a c && wR w c c k)) = true := h1
    have h2 : (wR w c k b || (wR w c k c && wR w c c b)) = true := h2
    rw [Bool.or_eq_true, Bool.and_eq_true] at h1 h2 ⊢
    rcases Nat.lt_or_ge k c with hk | hk
    · rcases h1 with h1 | ⟨h1, h1'⟩ <;> rcases h2 with h2 | ⟨h2, h2'⟩
      · exact Or.inl (ih k a b hk h1 h2)
      · exact Or.inr ⟨ih k a c hk h1 h2, h2'⟩
      · exact Or.inr ⟨h1, ih k c b hk h1' h2⟩
      · exact Or.inr ⟨h1, h2'⟩
    · have e : k = c := by omega
      subst e
      rcases h1 with h1 | ⟨h1, h1'⟩ <;> rcases h2 with h2 | ⟨h2, h2'⟩
      · exact Or.inr ⟨h1, h2⟩
      · exact Or.inr ⟨h1, h2'⟩
      · exact Or.inr ⟨h1, h2⟩
      · exact Or.inr ⟨h1, h2'⟩
theorem wR_sub {w : Nat → Nat → Bool} : ∀ {c a b : Nat}, w a b = true → wR w c a b = true
  | 0, _, _, h => h
  | c + 1, a, b, h => by
    show (wR w c a b || _) = true
    rw [wR_sub h, Bool.true_or]
/-- whatever holds of the waits and goes on along them, holds of BEHIND -/
theorem wR_min {w : Nat → Nat → Bool} {n : Nat} {T : Nat → Nat → Prop} (hs : ∀ a b, a < n → w a b = true → b < n) (hw : ∀ a b, a < n → w a b = true → T a b) (ht : ∀ a b c, a < n → b < n → c < n → T a b → T b c → T a c) : ∀ (c a b : Nat), c ≤ n → a < n → wR w c a b = true → b < n ∧ T a b
  | 0, a, b, _, ha, h => ⟨hs a b ha h, hw a b ha h⟩
  | c + 1, a, b, hc, ha, h => by
    have ih := wR_min hs hw ht c
    have h : (wR w c a b || (wR w c a c && wR w c c b)) = true := h
    rw [Bool.or_eq_true, Bool.and_eq_true] at h
    rcases h with h | ⟨h1, h2⟩
    · exact ih a b (by omega) ha h
    · obtain ⟨k1, k2⟩ := ih a c (by omega) ha h1
      obtain ⟨k3, k4⟩ := ih c b (by omega) (by omega) h2
      exact ⟨k3, ht a c b ha (by omega) k3 k2 k4⟩
theorem bhd_ord {c : Core} (h : cOk c) : Ord (cN c) (bhd c) := by
  obtain ⟨h1, h2, h3, h4⟩ := h
  refine ⟨fun a b ha hab => ?_, h4, fun a b d _ hb h1 h2 => wR_tr (cW c) (cN c) b a d hb h1 h2⟩
  exact (wR_min (T := fun _ _ => True) h3 (fun _ _ _ _ => trivial) (fun _ _ _ _ _ _ _ _ => trivial) (cN c) a b (Nat.le_refl _) ha hab).1
/-- those BEHIND b -/
def flw (n : Nat) (r : Nat → Nat → Bool) (b : Nat) : Nat → Bool := fun a => decide (a < n) && r a b
/-- those NEXT behind b -/
def nxt (n : Nat) (r : Nat → Nat → Bool) (b : Nat) : Nat → Bool := fun a => flw n r b a && !anyb (fun i => r a i && flw n r b i) 16
theorem cnt_lt {p q : Nat → Bool} : ∀ {k : Nat}, (∀ i, i < k → p i = true → q i = true) → (∃ i, i < k ∧ p i = false ∧ q i = true) → cnt p k < cnt q k
  | 0, _, h => by obtain ⟨i, h1, _⟩ := h; omega
  | k + 1, h, hx => by
    have mono : ∀ {k : Nat}, (∀ i, i < k → p i = true → q i = true) → cnt p k ≤ cnt q k := by
      intro k
      induction k with
      | zero => intro _; exact Nat.le_refl _
      | succ k ih =>
        intro h
        have := ih (fun i hi => h i (by omega))
        unfold cnt
        have hk := h k (by omega)
        cases hp : p k <;> cases hq : q k <;> simp [hp, hq] at hk ⊢ <;> omega
    obtain ⟨i, h1, h2, h3⟩ := hx
    unfold cnt
    rcases Nat.lt_or_ge i k with hi | hi
    · have := cnt_lt (k := k) (fun j hj => h j (by omega)) ⟨i, hi, h2, h3⟩
      have hk := h k (by omega)
      cases hp : p k <;> cases hq : q k <;> simp [hp, hq] at hk ⊢ <;> omega
    · have e : i = k := by omega
      subst e
      have := mono (k := i) (fun j hj => h j (by omega))
      rw [h2, h3]
      simp
      omega
/-- how many are BEHIND a -/
def cf (n : Nat) (r : Nat → Nat → Bool) (a : Nat) : Nat := cnt (fun c => r c a) n
theorem cf_lt {n : Nat} {r : Nat → Nat → Bool} (h : Ord n r) {a c : Nat} (ha : a < n) (hc : c < n) (hr : r c a = true) : cf n r c < cf n r a :=
  cnt_lt (fun i hi hic => h.2.2 i c a hi hc hic hr) ⟨c, hc, h.2.1 c hc, hr⟩
/-- the greatest f of those with p -/
def mxo (p : Nat → Bool) (f : Nat → Nat) : Nat → Nat
  | 0 => 0
  | k + 1 => if p k = true ∧ mxo p f k < f k then f k else mxo p f k
theorem mxo_le {p : Nat → Bool} {f : Nat → Nat} {d : Nat} : ∀ {k : Nat}, mxo p f k ≤ d ↔ ∀ c, c < k → p c = true → f c ≤ d
  | 0 => by simp [mxo]
  | k + 1 => by
    have ih := mxo_le (p := p) (f := f) (d := d) (k := k)
    unfold mxo
    constructor
    · intro h c hc hp
      by_cases hh : p k = true ∧ mxo p f k < f k
      · rw [if_pos hh] at h
        rcases Nat.lt_or_ge c k with h2 | h2
        · exact ih.mp (by omega) c h2 hp
        · rw [show c = k by omega]; exact h
      · rw [if_neg hh] at h
        rcases Nat.lt_or_ge c k with h2 | h2
        · exact ih.mp h c h2 hp
        · have e : c = k := by omega
          subst e
          have : ¬ mxo p f c < f c := fun q => hh ⟨hp, q⟩
          omega
    · intro h
      by_cases hh : p k = true ∧ mxo p f k < f k
      · rw [if_pos hh]; exact h k (by omega) hh.1
      · rw [if_neg hh]; exact ih.mpr (fun c hc => h c (by omega))
theorem mxo_cong {p q : Nat → Bool} {f g : Nat → Nat} {k : Nat} (hp : ∀ c, c < k → p c = q c) (hf : ∀ c, c < k → p c = true → f c = g c) : mxo p f k = mxo q g k := by
  apply Nat.le_antisymm
  · rw [mxo_le]
    intro c hc h
    rw [hf c hc h]
    exact mxo_le.mp (Nat.le_refl _) c hc (by rw [← hp c hc]; exact h)
  · rw [mxo_le]
    intro c hc h
    have h' : p c = true := by rw [hp c hc]; exact h
    rw [← hf c hc h']
    exact mxo_le.mp (Nat.le_refl _) c hc h'
def Dk (n : Nat) (r : Nat → Nat → Bool) : Nat → Nat → Nat
  | 0 => fun _ => 1
  | k + 1 => fun a => 1 + mxo (fun c => r c a) (Dk n r k) n
/-- DEPTH -/
def dep (n : Nat) (r : Nat → Nat → Bool) (a : Nat) : Nat := Dk n r (cf n r a) a
theorem Dk_st {n : Nat} {r : Nat → Nat → Bool} (h : Ord n r) : ∀ (m a k : Nat), cf n r a ≤ m → a < n → cf n r a ≤ k → Dk n r k a = dep n r a := by
  intro m
  induction m with
  | zero =>
    intro a k hm ha hk
    have h0 : cf n r a = 0 := by omega
    have hz : ∀ c, c < n → r c a = false := by
      intro c hc
      cases hr : r c a with
      | false => rfl
      | true =>
        have := cf_lt h ha hc hr
        omega
    unfold dep
    rw [h0]
    cases k with
    | zero => rfl
    | succ k =>
      show 1 + mxo (fun c => r c a) (Dk n r k) n = 1
      have : mxo (fun c => r c a) (Dk n r k) n ≤ 0 := mxo_le.mpr (fun c hc hr => by rw [hz c hc] at hr; cases hr)
      omega
  | succ m ih =>
    intro a k hm ha hk
    cases hcf : cf n r a with
    | zero => exact ih a k (by omega) ha hk
    | succ f =>
      obtain ⟨k', rfl⟩ : ∃ k', k = k' + 1 := ⟨k - 1, by omega⟩
      unfold dep
      rw [hcf]
      show 1 + mxo (fun c => r c a) (Dk n r k') n = 1 + mxo (fun c => r c a) (Dk n r f) n
      congr 1
      refine mxo_cong (fun _ _ => rfl) (fun c hc hr => ?_)
      have hlt := cf_lt h ha hc hr
      rw [ih c k' (by omega) hc (by omega), ih c f (by omega) hc (by omega)]
theorem dep_fp {n : Nat} {r : Nat → Nat → Bool} (h : Ord n r) {a : Nat} (ha : a < n) : dep n r a = 1 + mxo (fun c => r c a) (dep n r) n := by
  rw [← Dk_st h _ a (cf n r a + 1) (Nat.le_refl _) ha (by omega)]
  show 1 + mxo (fun c => r c a) (Dk n r (cf n r a)) n = _
  congr 1
  refine mxo_cong (fun _ _ => rfl) (fun c hc hr => ?_)
  have := cf_lt h ha hc hr
  exact Dk_st h _ c _ (Nat.le_refl _) hc (by omega)
theorem dep_le {n : Nat} {r : Nat → Nat → Bool} (h : Ord n r) {a d : Nat} (ha : a < n) : dep n r a ≤ d + 1 ↔ ∀ c, c < n → r c a = true → dep n r c ≤ d := by
  rw [dep_fp h ha]
  have : 1 + mxo (fun c => r c a) (dep n r) n ≤ d + 1 ↔ mxo (fun c => r c a) (dep n r) n ≤ d := by omega
  rw [this, mxo_le]
theorem dep_pos {n : Nat} {r : Nat → Nat → Bool} (h : Ord n r) {a : Nat} (ha : a < n) : 1 ≤ dep n r a := by
  rw [dep_fp h ha]
  omega
theorem dep_cf {n : Nat} {r : Nat → Nat → Bool} (h : Ord n r) : ∀ (m a : Nat), cf n r a ≤ m → a < n → dep n r a ≤ cf n r a + 1 := by
  intro m
  induction m with
  | zero =>
    intro a hm ha
    rw [dep_le h ha]
    intro c hc hr
    have := cf_lt h ha hc hr
    omega
  | succ m ih =>
    intro a hm ha
    rw [dep_le h ha]
    intro c hc hr
    have h1 := cf_lt h ha hc hr
    have h2 := ih c (by omega) hc
    omega
theorem dep_n {n : Nat} {r : Nat → Nat → Bool} (h : Ord n r) {a : Nat} (ha : a < n) : dep n r a ≤ n := by
  have h1 := dep_cf h _ a (Nat.le_refl _) ha
  have h2 : cf n r a < n := by
    have := cnt_lt (p := fun c => r c a) (q := fun _ => true) (k := n) (fun _ _ _ => rfl) ⟨a, ha, h.2.1 a ha, rfl⟩
    have h3 := cnt_le (fun _ => true) n
    unfold cf
    omega
  omega
/-- the greatest DEPTH -/
def gdep (n : Nat) (r : Nat → Nat → Bool) : Nat := mxo (fun _ => true) (dep n r) n
