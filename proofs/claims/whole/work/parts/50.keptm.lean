/-! THE KEPT DAY: mathematics -/
noncomputable def tb (P : Prop) : Bool := @decide P (Classical.propDecidable P)
theorem tb_t {P : Prop} : tb P = true ↔ P := by
  unfold tb
  exact @decide_eq_true_iff P (Classical.propDecidable P)
theorem tb_f {P : Prop} : tb P = false ↔ ¬ P := by
  unfold tb
  exact @decide_eq_false_iff_not P (Classical.propDecidable P)
/-- the first below k with p, else k -/
def fnd (p : Nat → Bool) : Nat → Nat
  | 0 => 0
  | k + 1 => if anyb p k = true then fnd p k else if p k = true then k else k + 1
theorem fnd_spec {p : Nat → Bool} : ∀ k, (fnd p k = k ∧ ∀ i, i < k → p i = false) ∨ (fnd p k < k ∧ p (fnd p k) = true ∧ ∀ i, i < fnd p k → p i = false)
  | 0 => Or.inl ⟨rfl, fun i hi => absurd hi (Nat.not_lt_zero i)⟩
  | k + 1 => by
    have ih := fnd_spec (p := p) k
    unfold fnd
    cases ha : anyb p k with
    | true =>
      rw [if_pos rfl]
      obtain ⟨j, hj, hpj⟩ := anyb_iff.mp ha
      rcases ih with ih | ih
      · rw [ih.2 j hj] at hpj; cases hpj
      · exact Or.inr ⟨by omega, ih.2.1, ih.2.2⟩
    | false =>
      rw [if_neg (by decide)]
      have hno := anyb_f.mp ha
      cases hk : p k with
      | true =>
        rw [if_pos rfl]
        exact Or.inr ⟨by omega, hk, hno⟩
      | false =>
        rw [if_neg (by decide)]
        refine Or.inl ⟨rfl, fun i hi => ?_⟩
        rcases Nat.lt_or_eq_of_le (Nat.le_of_lt_succ hi) with q | q
        · exact hno i q
        · rw [q]; exact hk
theorem fnd_eq {p : Nat → Bool} {j k : Nat} (hj : j < k) (hp : p j = true) (hl : ∀ i, i < j → p i = false) : fnd p k = j := by
  rcases fnd_spec (p := p) k with h | h
  · rw [h.2 j hj] at hp; cases hp
  · rcases Nat.lt_trichotomy (fnd p k) j with q | q | q
    · rw [hl _ q] at h; cases h.2.1
    · exact q
    · rw [h.2.2 j q] at hp; cases hp
theorem fnd_no {p : Nat → Bool} {k : Nat} (hl : ∀ i, i < k → p i = false) : fnd p k = k := by
  rcases fnd_spec (p := p) k with h | h
  · exact h.1
  · rw [hl _ h.1] at h; cases h.2.1
theorem least_ex {P : Nat → Prop} {x : Nat} (hx : P x) : ∃ m, P m ∧ ∀ y, y < m → ¬ P y := by
  have h : ∀ k x, x ≤ k → P x → ∃ m, P m ∧ ∀ y, y < m → ¬ P y := by
    intro k
    induction k with
    | zero => intro x hx h; exact ⟨x, h, fun y hy => by omega⟩
    | succ k ih =>
      intro x hx h
      by_cases e : ∃ y, y < x ∧ P y
      · obtain ⟨y, h1, h2⟩ := e
        exact ih y (by omega) h2
      · exact ⟨x, h, fun y hy q => e ⟨y, hy, q⟩⟩
  exact h x x (Nat.le_refl x) hx
/-- BEGIN and END as the class keeps them; 10 is nobody -/
def bN (c : Core) (a : Nat) : Nat := if a = 10 then 1 else (xB (cB c a)).toNatClampNeg
def eN (c : Core) (a : Nat) : Nat := if a = 10 then 64 else (xE (cE c a)).toNatClampNeg
abbrev sB (c : Core) (a b : Nat) : Prop := cH c a ≠ -3 ∧ cH c a = cH c b
def may (c : Core) (h : Nat) (S : Nat → Bool) (a : Nat) : Prop := S a = false ∧ (∀ i, i < cN c → bhd c a i = true → S i = true) ∧ bN c a ≤ h ∧ h ≤ eN c a
/-- x alone (y is 10), or x and y, in hour h behind S -/
def okU (c : Core) (h : Nat) (S : Nat → Bool) (x y : Nat) : Prop := x < cN c ∧ may c h S x ∧ (y = 10 ∨ (y < cN c ∧ y ≠ x ∧ may c h S y ∧ ¬ sB c x y))
def thn (S : Nat → Bool) (x y : Nat) : Nat → Bool := fun i => S i || decide (i = x) || (decide (i = y) && decide (i < 10))
/-- all can be done in d hours more, S is done in hour h -/
def rch (c : Core) : Nat → Nat → (Nat → Bool) → Prop
  | 0, _, S => ∀ i, i < cN c → S i = true
  | d + 1, h, S => rch c d (h + 1) S ∨ ∃ x y, okU c (h + 1) S x y ∧ rch c d (h + 1) (thn S x y)
theorem rch_up {c : Core} : ∀ (d h : Nat) (S : Nat → Bool), rch c d h S → rch c (d + 1) h S
  | 0, _, _, hr => Or.inl hr
  | d + 1, h, S, hr => by
    rcases hr with hr | ⟨x, y, h1, h2⟩
    · exact Or.inl (rch_up d (h + 1) S hr)
    · exact Or.inr ⟨x, y, h1, rch_up d (h + 1) _ h2⟩
theorem rch_up2 {c : Core} {d h : Nat} {S : Nat → Bool} (hr : rch c d h S) : ∀ e, rch c (d + e) h S
  | 0 => hr
  | e + 1 => rch_up _ _ _ (rch_up2 hr e)
theorem thn_t {S : Nat → Bool} {x y i : Nat} : thn S x y i = true ↔ S i = true ∨ i = x ∨ (i = y ∧ i < 10) := by
  unfold thn
  simp [or_assoc]
theorem thn_comm {S : Nat → Bool} {x y : Nat} (hx : x < 10) (hy : y < 10) : thn S x y = thn S y x := by
  funext i
  rw [Bool.eq_iff_iff, thn_t, thn_t]
  constructor
  · rintro (h | h | h)
    · exact Or.inl h
    · exact Or.inr (Or.inr ⟨h, by omega⟩)
    · exact Or.inr (Or.inl h.1)
  · rintro (h | h | h)
    · exact Or.inl h
    · exact Or.inr (Or.inr ⟨h, by omega⟩)
    · exact Or.inr (Or.inl h.1)
theorem okU_comm {c : Core} {h x y : Nat} {S : Nat → Bool} (hy : y ≠ 10) (ho : okU c h S x y) : okU c h S y x := by
  obtain ⟨h1, h2, h3 | ⟨h3, h4, h5, h6⟩⟩ := ho
  · exact absurd h3 hy
  · exact ⟨h3, h5, Or.inr ⟨h1, fun e => h4 e.symm, h2, fun q => h6 ⟨fun e => q.1 (q.2.trans e), q.2.symm⟩⟩⟩
/-- jobs that could change places in every day -/
def tw (c : Core) (a b : Nat) : Prop := a < cN c ∧ b < cN c ∧ (∀ i, i < cN c → bhd c a i = bhd c b i) ∧ (∀ i, i < cN c → bhd c i a = bhd c i b) ∧ bN c a = bN c b ∧ eN c a = eN c b ∧ cH c a = cH c b
theorem tw_rf {c : Core} {a : Nat} (h : a < cN c) : tw c a a := ⟨h, h, fun _ _ => rfl, fun _ _ => rfl, rfl, rfl, rfl⟩
theorem tw_sy {c : Core} {a b : Nat} (h : tw c a b) : tw c b a := ⟨h.2.1, h.1, fun i hi => (h.2.2.1 i hi).symm, fun i hi => (h.2.2.2.1 i hi).symm, h.2.2.2.2.1.symm, h.2.2.2.2.2.1.symm, h.2.2.2.2.2.2.symm⟩
theorem tw_tr {c : Core} {a b d : Nat} (h : tw c a b) (g : tw c b d) : tw c a d := ⟨h.1, g.2.1, fun i hi => (h.2.2.1 i hi).trans (g.2.2.1 i hi), fun i hi => (h.2.2.2.1 i hi).trans (g.2.2.2.1 i hi), h.2.2.2.2.1.trans g.2.2.2.2.1, h.2.2.2.2.2.1.trans g.2.2.2.2.2.1, h.2.2.2.2.2.2.trans g.2.2.2.2.2.2⟩
def swp (p q i : Nat) : Nat := if i = p then q else if i = q then p else i
theorem sw_p {p q : Nat} : swp p q p = q := if_pos rfl
theorem sw_q {p q : Nat} : swp p q q = p := by
  unfold swp
  by_cases e : q = p
  · rw [if_pos e]; exact e
  · rw [if_neg e, if_pos rfl]
theorem sw_o {p q i : Nat} (h1 : i ≠ p) (h2 : i ≠ q) : swp p q i = i := by unfold swp; rw [if_neg h1, if_neg h2]
theorem sw_sw {p q i : Nat} : swp p q (swp p q i) = i := by
  by_cases h1 : i = p
  · rw [h1, sw_p, sw_q]
  · by_cases h2 : i = q
    · rw [h2, sw_q, sw_p]
    · rw [sw_o h1 h2, sw_o h1 h2]
theorem sw_lt {p q i n : Nat} (hp : p < n) (hq : q < n) (hi : i < n) : swp p q i < n := by
  unfold swp
  by_cases h1 : i = p
  · rw [if_pos h1]; exact hq
  · rw [if_neg h1]
    by_cases h2 : i = q
    · rw [if_pos h2]; exact hp
    · rw [if_neg h2]; exact hi
section TW
variable {c : Core} {p q : Nat}
theorem tw_r (hc : cOk c) (t : tw c p q) {i j : Nat} (hi : i < cN c) (hj : j < cN c) : bhd c (swp p q i) (swp p q j) = bhd c i j := by
  have ir := (bhd_ord hc).2.1
  have hpp := ir p t.1
  have hqq := ir q t.2.1
  have hpq : bhd c p q = false := by rw [t.2.2.1 q t.2.1]; exact hqq
  have hqp : bhd c q p = false := by rw [← t.2.2.1 p t.1]; exact hpp
  by_cases h1 : i = p
  · subst h1
    rw [sw_p]
    by_cases h3 : j = i
    · subst h3; rw [sw_p, hqq, hpp]
    · by_cases h4 : j = q
      · subst h4; rw [sw_q, hqp, hpq]
      · rw [sw_o h3 h4]; exact (t.2.2.1 j hj).symm
  · by_cases h2 : i = q
    · subst h2
      rw [sw_q]
      by_cases h3 : j = p
      · subst h3; rw [sw_p, hpq, hqp]
      · by_cases h4 : j = i
        · subst h4; rw [sw_q, hpp, hqq]
        · rw [sw_o h3 h4]; exact t.2.2.1 j hj
    · rw [sw_o h1 h2]
      by_cases h3 : j = p
      · subst h3; rw [sw_p]; exact (t.2.2.2.1 i hi).symm
      · by_cases h4 : j = q
        · subst h4; rw [sw_q]; exact t.2.2.2.1 i hi
        · rw [sw_o h3 h4]
theorem tw_f {α : Type} {f : Nat → α} (e : f p = f q) (i : Nat) : f (swp p q i) = f i := by
  by_cases h1 : i = p
  · rw [h1, sw_p]; exact e.symm
  · by_cases h2 : i = q
    · rw [h2, sw_q]; exact e
    · rw [sw_o h1 h2]
def swS (p q : Nat) (S : Nat → Bool) : Nat → Bool := fun i => S (swp p q i)
theorem swS_id {S : Nat → Bool} (e : S p = S q) : swS p q S = S := by
  funext i
  exact tw_f e i
theorem may_sw (hc : cOk c) (t : tw c p q) {h x : Nat} {S : Nat → Bool} (hx : x < cN c) (hm : may c h S x) : may c h (swS p q S) (swp p q x) := by
  refine ⟨?_, fun i hi hr => ?_, ?_, ?_⟩
  · show S (swp p q (swp p q x)) = false
    rw [sw_sw]; exact hm.1
  · have hi' := sw_lt t.1 t.2.1 hi
    refine hm.2.1 _ hi' ?_
    rw [← tw_r hc t hx hi', sw_sw]
    exact hr
  · rw [tw_f t.2.2.2.2.1]; exact hm.2.2.1
  · rw [tw_f t.2.2.2.2.2.1]; exact hm.2.2.2
theorem sw_10 (hc : cOk c) (t : tw c p q) : swp p q 10 = 10 := sw_o (by have := hc.1; have := t.1; omega) (by have := hc.1; have := t.2.1; omega)
theorem okU_sw (hc : cOk c) (t : tw c p q) {h x y : Nat} {S : Nat → Bool} (ho : okU c h S x y) : okU c h (swS p q S) (swp p q x) (swp p q y) := by
  obtain ⟨h1, h2, h3⟩ := ho
  refine ⟨sw_lt t.1 t.2.1 h1, may_sw hc t h1 h2, ?_⟩
  rcases h3 with h3 | ⟨h3, h4, h5, h6⟩
  · exact Or.inl (by rw [h3]; exact sw_10 hc t)
  · refine Or.inr ⟨sw_lt t.1 t.2.1 h3, fun e => h4 ?_, may_sw hc t h3 h5, fun k => h6 ?_⟩
    · have := congrArg (swp p q) e
      rw [sw_sw, sw_sw] at this
      exact this
    · unfold sB at k
      rw [tw_f (f := cH c) t.2.2.2.2.2.2, tw_f (f := cH c) t.2.2.2.2.2.2] at k
      exact k
theorem thn_sw (hc : cOk c) (t : tw c p q) {x y : Nat} {S : Nat → Bool} (hy : y = 10 ∨ y < cN c) : swS p q (thn S x y) = thn (swS p q S) (swp p q x) (swp p q y) := by
  have hn := hc.1
  have hp := t.1
  have hq := t.2.1
  funext i
  rw [Bool.eq_iff_iff]
  show thn S x y (swp p q i) = true ↔ _
  rw [thn_t, thn_t]
  have e : ∀ z, swp p q i = z ↔ i = swp p q z := fun z => ⟨fun h => by rw [← h, sw_sw], fun h => by rw [h, sw_sw]⟩
  rw [e x, e y]
  constructor
  · rintro (h | h | h)
    · exact Or.inl h
    · exact Or.inr (Or.inl h)
    · refine Or.inr (Or.inr ⟨h.1, ?_⟩)
      rcases hy with hy | hy
      · have h1 : swp p q i = y := (e y).mpr h.1
        omega
      · have := sw_lt hp hq hy
        omega
  · rintro (h | h | h)
    · exact Or.inl h
    · exact Or.inr (Or.inl h)
    · refine Or.inr (Or.inr ⟨h.1, ?_⟩)
      have h1 : swp p q i = y := (e y).mpr h.1
      rcases hy with hy | hy
      · rw [hy, sw_10 hc t] at h
        omega
      · omega
theorem okU_y {h x y : Nat} {S : Nat → Bool} (ho : okU c h S x y) : y = 10 ∨ y < cN c := ho.2.2.elim Or.inl (fun k => Or.inr k.1)
theorem rch_sw (hc : cOk c) (t : tw c p q) : ∀ (d h : Nat) (S : Nat → Bool), rch c d h S → rch c d h (swS p q S)
  | 0, _, _, hr => fun i hi => hr _ (sw_lt t.1 t.2.1 hi)
  | d + 1, h, S, hr => by
    rcases hr with hr | ⟨x, y, h1, h2⟩
    · exact Or.inl (rch_sw hc t d (h + 1) S hr)
    · refine Or.inr ⟨_, _, okU_sw hc t h1, ?_⟩
      rw [← thn_sw hc t (okU_y h1)]
      exact rch_sw hc t d (h + 1) _ h2
/-- change two twins that are both not done -/
theorem chg (hc : cOk c) (t : tw c p q) {d h x y : Nat} {S : Nat → Bool} (hp : S p = false) (hq : S q = false) (ho : okU c h S x y) (hr : rch c d h (thn S x y)) : okU c h S (swp p q x) (swp p q y) ∧ rch c d h (thn S (swp p q x) (swp p q y)) := by
  have e : swS p q S = S := swS_id (hp.trans hq.symm)
  have h1 := okU_sw hc t ho
  have h2 := rch_sw hc t d h _ hr
  rw [thn_sw hc t (okU_y ho), e] at h2
  rw [e] at h1
  exact ⟨h1, h2⟩
end TW
/-- with each job its lesser twins -/
def tc (c : Core) (S : Nat → Bool) : Prop := ∀ a b, tw c a b → b < a → S a = true → S b = true
def stp (c : Core) (h : Nat) (S T : Nat → Bool) : Prop := ∃ x y, okU c h S x y ∧ T = thn S x y ∧ tc c T
def trch (c : Core) : Nat → Nat → (Nat → Bool) → Prop
  | 0, _, S => ∀ i, i < cN c → S i = true
  | d + 1, h, S => trch c d (h + 1) S ∨ ∃ T, stp c (h + 1) S T ∧ trch c d (h + 1) T
theorem rch_of {c : Core} : ∀ {d h : Nat} {S : Nat → Bool}, trch c d h S → rch c d h S
  | 0, _, _, hr => hr
  | d + 1, h, S, hr => by
    rcases hr with hr | ⟨T, ⟨x, y, h1, h2, _⟩, h4⟩
    · exact Or.inl (rch_of hr)
    · exact Or.inr ⟨x, y, h1, by rw [← h2]; exact rch_of h4⟩
theorem trch_of {c : Core} (hc : cOk c) : ∀ (d h : Nat) (S : Nat → Bool), tc c S → rch c d h S → trch c d h S
  | 0, _, _, _, hr => hr
  | d + 1, h, S, hS, hr => by
    rcases hr with hr | ⟨x, y, h1, h2⟩
    · exact Or.inl (trch_of hc d (h + 1) S hS hr)
    · obtain ⟨p, ⟨p1, p2⟩, p3⟩ := least_ex (P := fun p => tw c p x ∧ S p = false) (x := x) ⟨tw_rf h1.1, h1.2.1.1⟩
      obtain ⟨g1, g2⟩ := chg hc p1 p2 h1.2.1.1 h1 h2
      rw [sw_q] at g1 g2
      have lp : ∀ b, tw c p b → b < p → S b = true := fun b tb hb => by
        cases e : S b with
        | true => rfl
        | false => exact absurd ⟨tw_tr (tw_sy tb) p1, e⟩ (p3 b hb)
      by_cases hy : swp p x y = 10
      · rw [hy] at g1 g2
        have ht : tc c (thn S p 10) := fun a b tab hb ha => by
          rw [thn_t] at ha ⊢
          rcases ha with ha | ha | ha
          · exact Or.inl (hS a b tab hb ha)
          · subst ha; exact Or.inl (lp b tab hb)
          · omega
        exact Or.inr ⟨_, ⟨p, 10, g1, rfl, ht⟩, trch_of hc d (h + 1) _ ht g2⟩
      · generalize swp p x y = z at g1 g2 hy
        obtain ⟨z1, z2, z3, -⟩ := g1.2.2.resolve_left hy
        obtain ⟨u, ⟨u1, u2, u3⟩, u4⟩ := least_ex (P := fun u => tw c u z ∧ S u = false ∧ u ≠ p) (x := z) ⟨tw_rf z1, z3.1, z2⟩
        obtain ⟨k1, k2⟩ := chg hc u1 u2 z3.1 g1 g2
        rw [sw_q, sw_o (fun e => u3 e.symm) (fun e => z2 e.symm)] at k1 k2
        have hn := hc.1
        have ht : tc c (thn S p u) := fun a b tab hb ha => by
          rw [thn_t] at ha ⊢
          rcases ha with ha | ha | ha
          · exact Or.inl (hS a b tab hb ha)
          · subst ha; exact Or.inl (lp b tab hb)
          · obtain ⟨ha, -⟩ := ha
            subst ha
            by_cases e : b = p
            · exact Or.inr (Or.inl e)
            · cases e2 : S b with
              | true => exact Or.inl rfl
              | false => exact absurd ⟨tw_tr (tw_sy tab) u1, e2, e⟩ (u4 b hb)
        exact Or.inr ⟨_, ⟨p, u, k1, rfl, ht⟩, trch_of hc d (h + 1) _ ht k2⟩
/-- what can be done at the end of hour h -/
def Fw (c : Core) : Nat → (Nat → Bool) → Prop
  | 0, S => S = fun _ => false
  | h + 1, S => Fw c h S ∨ ∃ T, Fw c h T ∧ stp c (h + 1) T S
theorem Fw_up {c : Core} {h : Nat} {S : Nat → Bool} (hf : Fw c h S) : ∀ e, Fw c (h + e) S
  | 0 => hf
  | e + 1 => Or.inl (Fw_up hf e)
theorem Fw_le {c : Core} {h g : Nat} {S : Nat → Bool} (hf : Fw c h S) (hg : h ≤ g) : Fw c g S := by
  have := Fw_up hf (g - h)
  rwa [show h + (g - h) = g by omega] at this
theorem tc_0 {c : Core} : tc c (fun _ => false) := fun _ _ _ _ h => by cases h
theorem Fw_tc {c : Core} : ∀ {h : Nat} {S : Nat → Bool}, Fw c h S → tc c S
  | 0, S, hf => by
    have hf : S = fun _ => false := hf
    rw [hf]; exact tc_0
  | h + 1, S, hf => by
    rcases hf with hf | ⟨T, _, x, y, _, _, h3⟩
    · exact Fw_tc hf
    · exact h3
theorem Fw_sup {c : Core} : ∀ {h : Nat} {S : Nat → Bool}, Fw c h S → ∀ i, S i = true → i < cN c
  | 0, S, hf, i, hi => by
    have hf : S = fun _ => false := hf
    rw [hf] at hi; cases hi
  | h + 1, S, hf, i, hi => by
    rcases hf with hf | ⟨T, h1, x, y, h2, h3, _⟩
    · exact Fw_sup hf i hi
    · rw [h3, thn_t] at hi
      rcases hi with hi | hi | hi
      · exact Fw_sup h1 i hi
      · rw [hi]; exact h2.1
      · rcases h2.2.2 with e | e
        · omega
        · rw [hi.1]; exact e.1
theorem Fw_rch {c : Core} : ∀ (d h : Nat), (∃ S, Fw c h S ∧ trch c d h S) ↔ ∃ S, Fw c (h + d) S ∧ ∀ i, i < cN c → S i = true
  | 0, h => Iff.rfl
  | d + 1, h => by
    rw [show h + (d + 1) = h + 1 + d by omega, ← Fw_rch d (h + 1)]
    constructor
    · rintro ⟨S, h1, h2 | ⟨T, h2, h3⟩⟩
      · exact ⟨S, Or.inl h1, h2⟩
      · exact ⟨T, Or.inr ⟨S, h1, h2⟩, h3⟩
    · rintro ⟨S, h1 | ⟨T, h1, h2⟩, h3⟩
      · exact ⟨S, h1, Or.inl h3⟩
      · exact ⟨T, h1, Or.inr ⟨S, h2, h3⟩⟩
/-- of the sets below n just the whole one is full -/
theorem full_all {n : Nat} {S : Nat → Bool} (h1 : ∀ i, S i = true → i < n) (h2 : ∀ i, i < n → S i = true) : S = alln n := by
  funext i
  rw [Bool.eq_iff_iff]
  simp only [decide_eq_true_eq]
  exact ⟨h1 i, h2 i⟩
theorem Fw_L {c : Core} (hc : cOk c) {L : Nat} : rch c L 0 (fun _ => false) ↔ Fw c L (alln (cN c)) := by
  have h := Fw_rch (c := c) L 0
  rw [show 0 + L = L by omega] at h
  constructor
  · intro hr
    obtain ⟨S, h1, h2⟩ := h.mp ⟨_, rfl, trch_of hc L 0 _ tc_0 hr⟩
    rw [← full_all (Fw_sup h1) h2]
    exact h1
  · intro hf
    obtain ⟨S, h1, h2⟩ := h.mpr ⟨_, hf, fun i hi => by simp [hi]⟩
    have h1 : S = fun _ => false := h1
    rw [← h1]
    exact rch_of h2
/-- code k may be taken in hour h + 1 behind S, if LENGTH L is to be kept -/
def kcan (c : Core) (L h : Nat) (S : Nat → Bool) (k : Nat) : Prop := okU c (h + 1) S (k / 11) (k % 11) ∧ k / 11 < k % 11 ∧ rch c (L - (h + 1)) (h + 1) (thn S (k / 11) (k % 11))
noncomputable def kcd (c : Core) (L h : Nat) (S : Nat → Bool) : Nat := fnd (fun k => tb (kcan c L h S k)) 120
theorem cd_ab {a b : Nat} (hb : b < 11) : (11 * a + b) / 11 = a ∧ (11 * a + b) % 11 = b := by omega
theorem kcan_of {c : Core} (hc : cOk c) {L h x y : Nat} {S : Nat → Bool} (ho : okU c (h + 1) S x y) (hr : rch c (L - (h + 1)) (h + 1) (thn S x y)) : ∃ a b, kcan c L h S (11 * a + b) ∧ a < b ∧ b < 11 ∧ ((a = x ∧ b = y) ∨ (a = y ∧ b = x)) := by
  have hn := hc.1
  have hx := ho.1
  by_cases e : y = 10
  · refine ⟨x, y, ?_, by omega, by omega, Or.inl ⟨rfl, rfl⟩⟩
    unfold kcan
    rw [(cd_ab (a := x) (b := y) (by omega)).1, (cd_ab (a := x) (b := y) (by omega)).2]
    exact ⟨ho, by omega, hr⟩
  · obtain ⟨z1, z2, z3, z4⟩ := ho.2.2.resolve_left e
    rcases Nat.lt_trichotomy x y with q | q | q
    · refine ⟨x, y, ?_, q, by omega, Or.inl ⟨rfl, rfl⟩⟩
      unfold kcan
      rw [(cd_ab (a := x) (b := y) (by omega)).1, (cd_ab (a := x) (b := y) (by omega)).2]
      exact ⟨ho, q, hr⟩
    · exact absurd q.symm z2
    · refine ⟨y, x, ?_, q, by omega, Or.inr ⟨rfl, rfl⟩⟩
      unfold kcan
      rw [(cd_ab (a := y) (b := x) (by omega)).1, (cd_ab (a := y) (b := x) (by omega)).2]
      exact ⟨okU_comm e ho, q, by rw [thn_comm (by omega) (by omega)]; exact hr⟩
/-- the least code that may be taken keeps the twins in their order -/
theorem least_tc {c : Core} (hc : cOk c) {L h k : Nat} {S : Nat → Bool} (hS : tc c S) (hk : kcan c L h S k) (hl : ∀ j, j < k → ¬ kcan c L h S j) : tc c (thn S (k / 11) (k % 11)) := by
  intro u v tuv hv hu
  have hn := hc.1
  have hb11 : k % 11 < 11 := Nat.mod_lt _ (by decide)
  have hk2 : k = 11 * (k / 11) + k % 11 := by omega
  obtain ⟨h1, h2, h3⟩ := hk
  generalize k / 11 = a at *
  generalize k % 11 = b at *
  apply Classical.byContradiction
  intro hno
  rw [thn_t] at hu hno
  have n1 : ¬ S v = true := fun q => hno (Or.inl q)
  have n2 : v ≠ a := fun q => hno (Or.inr (Or.inl q))
  have n3 : v ≠ b := fun q => hno (Or.inr (Or.inr ⟨q, by have := tuv.2.1; omega⟩))
  have sv : S v = false := by simpa using n1
  have nb : ∀ (x y : Nat), ((x = v ∧ y = b ∧ u = a) ∨ (x = a ∧ y = v ∧ u = b)) → okU c (h + 1) S x y → rch c (L - (h + 1)) (h + 1) (thn S x y) → False := by
    intro x y hxy o1 o2
    obtain ⟨a', b', c1, c2, c3, c4⟩ := kcan_of hc o1 o2
    refine hl _ ?_ c1
    rcases hxy with ⟨e1, e2, e3⟩ | ⟨e1, e2, e3⟩ <;> rcases c4 with ⟨e4, e5⟩ | ⟨e4, e5⟩ <;> omega
  rcases hu with hu | hu | hu
  · exact n1 (hS u v tuv hv hu)
  · subst hu
    obtain ⟨g1, g2⟩ := chg hc tuv h1.2.1.1 sv h1 h3
    rw [sw_p, sw_o (by omega) (fun e => n3 e.symm)] at g1 g2
    exact nb v b (Or.inl ⟨rfl, rfl, rfl⟩) g1 g2
  · obtain ⟨hu, hu10⟩ := hu
    subst hu
    obtain ⟨z1, z2, z3, z4⟩ := h1.2.2.resolve_left (by omega)
    obtain ⟨g1, g2⟩ := chg hc tuv z3.1 sv h1 h3
    rw [sw_p, sw_o (by omega) (fun e => n2 e.symm)] at g1 g2
    exact nb a v (Or.inr ⟨rfl, rfl, rfl⟩) g1 g2
