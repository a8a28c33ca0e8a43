/-! the state of both sides, and what each call does to it -/
abbrev Ab : Type := Shs × (Nat × (Nat → Core)) × (Nat × (Nat → Int32))
abbrev aS (a : Ab) : Shs := a.1
abbrev aM (a : Ab) : Nat := a.2.1.1
abbrev aH (a : Ab) : Nat → Core := a.2.1.2
abbrev aC (a : Ab) : Core := a.2.1.2 a.2.1.1
abbrev aR (a : Ab) : Nat := a.2.2.1
abbrev aF (a : Ab) : Nat → Int32 := a.2.2.2
def AOk (a : Ab) : Prop := SO (aS a) ∧ JOk (aM a) (aH a) ∧ aR a ≤ 10
theorem AOk.c {a : Ab} (h : AOk a) : cOk (aC a) := h.2.1.2 _ (Nat.le_refl _)
def old (x : Int32) (v : Nat) : Prop := x = -1 ∨ ∃ k, k ≤ v ∧ x = nI k
theorem old_up {x : Int32} {v : Nat} (h : old x v) : old x (v + 1) := h.elim Or.inl (fun ⟨k, h1, h2⟩ => Or.inr ⟨k, by omega, h2⟩)
theorem old_no {x : Int32} {v : Nat} (h : old x v) (hv : v < 60000) : x ≠ nI (v + 1) := fun e => by
  rcases h with h | ⟨k, h1, h2⟩
  · rw [h] at e
    have := congrArg Int32.toInt e
    rw [nI_toInt (by omega), show (-1 : Int32).toInt = -1 from rfl] at this
    omega
  · rw [h2, nI_eq (by omega) (by omega)] at e
    omega
def XI (σ : zSt) (a : Ab) (v : Nat) : Prop := XS σ (aS a) ∧ XJ σ (aM a) (aH a) v ∧ XRing σ (aR a) (aF a) ∧ (σ 10 6 = nI v → XOrd σ (aC a)) ∧ (σ 15 9 = nI v → XDay σ (cN (aC a)) (bhd (aC a))) ∧ (σ 22 13 = nI v → XKept σ (aC a)) ∧ old (σ 10 6) v ∧ old (σ 15 9) v ∧ old (σ 22 13) v
def MI (σ : zSt) (a : Ab) : Prop := MS σ (aS a) ∧ MJ σ (aM a) (aH a) ∧ MRing σ (aR a) (aF a) ∧ (σ 47 14 = 0 ∨ (σ 47 14 = 1 ∧ MKept σ (aC a)))
theorem XS_cong {σ t : zSt} {ss : Shs} (h : XS σ ss) (e : ∀ d, 35 ≤ d → d < 47 → t d = σ d) : XS t ss := fun j hj => by
  rw [e (35 + 2 * j) (by omega) (by omega), e (36 + 2 * j) (by omega) (by omega)]
  exact h j hj
theorem XRing_cong {σ t : zSt} {r : Nat} {f : Nat → Int32} (h : XRing σ r f) (e : ∀ d, d = 32 ∨ d = 33 → t d = σ d) : XRing t r f := ⟨by rw [e 32 (by decide)]; exact h.1, fun k hk => by rw [e 33 (by decide)]; exact h.2 k hk⟩
theorem XOrd_cong {σ t : zSt} {c : Core} (h : XOrd σ c) (e : ∀ d, 10 ≤ d → d < 15 → t d = σ d) : XOrd t c := ⟨fun a ha => by
  rw [e 11 (by decide) (by decide), e 12 (by decide) (by decide), e 13 (by decide) (by decide), e 14 (by decide) (by decide)]
  exact h.1 a ha, by rw [e 10 (by decide) (by decide)]; exact h.2⟩
theorem XDay_cong {σ t : zSt} {n : Nat} {r : Nat → Nat → Bool} (h : XDay σ n r) (e : ∀ d, 15 ≤ d → d < 22 → t d = σ d) : XDay t n r := ⟨fun a ha => by
  rw [e 16 (by decide) (by decide), e 17 (by decide) (by decide)]
  exact h.1 a ha, fun q hq => by
  rw [e 18 (by decide) (by decide), e 19 (by decide) (by decide)]
  exact h.2.1 q hq, by rw [e 15 (by decide) (by decide)]; exact h.2.2⟩
theorem XKept_cong {σ t : zSt} {c : Core} (h : XKept σ c) (e : ∀ d, 22 ≤ d → d < 32 → t d = σ d) : XKept t c := ⟨by rw [e 22 (by decide) (by decide)]; exact h.1, fun g g1 g2 => by
  rw [e 23 (by decide) (by decide)]
  exact h.2.1 g g1 g2, fun a ha => by rw [e 24 (by decide) (by decide)]; exact h.2.2 a ha⟩
/-- nothing but the sheets has changed -/
theorem XI_sh {σ t : zSt} {a : Ab} {v : Nat} {ss : Shs} (h : XI σ a v) (hs : XS t ss) (e : ∀ d, d < 35 ∨ 47 ≤ d → t d = σ d) : XI t (ss, a.2) v := by
  obtain ⟨h1, h2, h3, h4, h5, h6, h7, h8, h9⟩ := h
  refine ⟨hs, XJ_cong h2 (fun d hd => e d (by omega)), XRing_cong h3 (fun d hd => e d (by omega)), ?_, ?_, ?_, ?_, ?_, ?_⟩
  · rw [e 10 (by decide)]; exact fun q => XOrd_cong (h4 q) (fun d _ _ => e d (by omega))
  · rw [e 15 (by decide)]; exact fun q => XDay_cong (h5 q) (fun d _ _ => e d (by omega))
  · rw [e 22 (by decide)]; exact fun q => XKept_cong (h6 q) (fun d _ _ => e d (by omega))
  · rw [e 10 (by decide)]; exact h7
  · rw [e 15 (by decide)]; exact h8
  · rw [e 22 (by decide)]; exact h9
theorem XI_any {σ t : zSt} {a : Ab} {v : Nat} (h : XI σ a v) (hq : XAny σ t (aC a) (nI v)) : XI t a v ∧ ∀ d, 47 ≤ d → t d = σ d := by
  obtain ⟨h1, h2, h3, h4, h5, h6, h7, h8, h9⟩ := id h
  rcases hq with rfl | ⟨q1, q2, q3⟩ | ⟨q1, q2, q3, q4, q5⟩ | ⟨q1, q2, q3, q4, q5⟩
  · exact ⟨h, fun _ _ => rfl⟩
  · refine ⟨⟨XS_cong h1 (fun d _ _ => q3 d (by omega)), XJ_cong h2 (fun d hd => q3 d (by omega)), XRing_cong h3 (fun d hd => q3 d (by omega)), fun _ => q1, ?_, ?_, Or.inr ⟨v, Nat.le_refl v, q2⟩, ?_, ?_⟩, fun d hd => q3 d (by omega)⟩
    · rw [q3 15 (by decide)]; exact fun q => XDay_cong (h5 q) (fun d _ _ => q3 d (by omega))
    · rw [q3 22 (by decide)]; exact fun q => XKept_cong (h6 q) (fun d _ _ => q3 d (by omega))
    · rw [q3 15 (by decide)]; exact h8
    · rw [q3 22 (by decide)]; exact h9
  · refine ⟨⟨XS_cong h1 (fun d _ _ => q5 d (by omega)), XJ_cong h2 (fun d hd => q5 d (by omega)), XRing_cong h3 (fun d hd => q5 d (by omega)), q3, fun _ => q1, ?_, ?_, Or.inr ⟨v, Nat.le_refl v, q2⟩, ?_⟩, fun d hd => q5 d (by omega)⟩
    · rw [q5 22 (by decide)]; exact fun q => XKept_cong (h6 q) (fun d _ _ => q5 d (by omega))
    · rcases q4 with q4 | q4
      · exact Or.inr ⟨v, Nat.le_refl v, q4⟩
      · rw [q4]; exact h7
    · rw [q5 22 (by decide)]; exact h9
  · refine ⟨⟨XS_cong h1 (fun d _ _ => q5 d (by omega)), XJ_cong h2 (fun d hd => q5 d (by omega)), XRing_cong h3 (fun d hd => q5 d (by omega)), q3, ?_, fun _ => q1, ?_, ?_, Or.inr ⟨v, Nat.le_refl v, q2⟩⟩, fun d hd => q5 d (by omega)⟩
    · rw [q5 15 (by decide)]; exact fun q => XDay_cong (h5 q) (fun d _ _ => q5 d (by omega))
    · rcases q4 with q4 | q4
      · exact Or.inr ⟨v, Nat.le_refl v, q4⟩
      · rw [q4]; exact h7
    · rw [q5 15 (by decide)]; exact h8
/-- the jobs have changed -/
theorem XI_ch {σ t : zSt} {a : Ab} {v m' : Nat} {H' : Nat → Core} (h : XI σ a v) (hv : v < 60000) (hj : XJ t m' H' (v + 1)) (e : FJ t σ) : XI t (aS a, (m', H'), a.2.2) (v + 1) := by
  obtain ⟨h1, h2, h3, h4, h5, h6, h7, h8, h9⟩ := h
  refine ⟨XS_cong h1 (fun d _ _ => e d (by omega)), hj, XRing_cong h3 (fun d hd => e d (by omega)), ?_, ?_, ?_, ?_, ?_, ?_⟩
  · rw [e 10 (by decide)]; exact fun q => absurd q (old_no h7 hv)
  · rw [e 15 (by decide)]; exact fun q => absurd q (old_no h8 hv)
  · rw [e 22 (by decide)]; exact fun q => absurd q (old_no h9 hv)
  · rw [e 10 (by decide)]; exact old_up h7
  · rw [e 15 (by decide)]; exact old_up h8
  · rw [e 22 (by decide)]; exact old_up h9
theorem XI_ord {σ t : zSt} {a : Ab} {v : Nat} (h : XI σ a v) (h1 : XO σ t (aC a) (nI v)) (h2 : FO t σ) : XI t a v := by
  obtain ⟨g1, g2, g3, g4, g5, g6, g7, g8, g9⟩ := h
  refine ⟨XS_cong g1 (fun d _ _ => h2 d (by omega)), XJ_cong g2 (fun d hd => h2 d (by omega)), XRing_cong g3 (fun d hd => h2 d (by omega)), h1.1, ?_, ?_, ?_, ?_, ?_⟩
  · rw [h2 15 (by decide)]; exact fun q => XDay_cong (g5 q) (fun d _ _ => h2 d (by omega))
  · rw [h2 22 (by decide)]; exact fun q => XKept_cong (g6 q) (fun d _ _ => h2 d (by omega))
  · rcases h1.2 with q | q
    · exact Or.inr ⟨v, Nat.le_refl v, q⟩
    · rw [q]; exact g7
  · rw [h2 15 (by decide)]; exact g8
  · rw [h2 22 (by decide)]; exact g9
/-- after and read -/
def gAct (a : Ab) (c : Act) : Int32 × Ab := (c.1, match c.2.1 with
  | some pq => (aS a, (aM a, aH a), (rgN (cW (aC a)) (cN (aC a)) pq.1 pq.2, rgF (cW (aC a)) (cN (aC a)) pq.1 pq.2))
  | none => match c.2.2 with
    | some pf => (aS a, (pushN (aM a), pushH (aM a) (aH a) (wC (aC a) pf.1 pf.2)), a.2.2)
    | none => a)
theorem XI_act {σ t : zSt} {a : Ab} {v : Nat} {c : Act} (h : XI σ a v) (hv : v < 60000) (hc : XAct σ t (aM a) (aH a) v c) : (∃ v', v' ≤ v + 1 ∧ XI t (gAct a c).2 v') ∧ ∀ d, 47 ≤ d → t d = σ d := by
  obtain ⟨t1, h1, h2, h3⟩ := hc
  have hI := XI_ord h h1 h2
  obtain ⟨x, o1, o2⟩ := c
  unfold gAct
  cases o1 with
  | some pq =>
    obtain ⟨r1, r2⟩ := h3
    obtain ⟨g1, g2, g3, g4, g5, g6, g7, g8, g9⟩ := hI
    have e : ∀ d, d ≠ 32 → d ≠ 33 → d ≠ 34 → t d = t1 d := r2.1
    refine ⟨⟨v, by omega, XS_cong g1 (fun d _ _ => e d (by omega) (by omega) (by omega)), XJ_cong g2 (fun d hd => e d (by omega) (by omega) (by omega)), r1, ?_, ?_, ?_, ?_, ?_, ?_⟩, fun d hd => by rw [e d (by omega) (by omega) (by omega)]; exact h2 d (by omega)⟩
    · rw [e 10 (by decide) (by decide) (by decide)]; exact fun q => XOrd_cong (g4 q) (fun d _ _ => e d (by omega) (by omega) (by omega))
    · rw [e 15 (by decide) (by decide) (by decide)]; exact fun q => XDay_cong (g5 q) (fun d _ _ => e d (by omega) (by omega) (by omega))
    · rw [e 22 (by decide) (by decide) (by decide)]; exact fun q => XKept_cong (g6 q) (fun d _ _ => e d (by omega) (by omega) (by omega))
    · rw [e 10 (by decide) (by decide) (by decide)]; exact g7
    · rw [e 15 (by decide) (by decide) (by decide)]; exact g8
    · rw [e 22 (by decide) (by decide) (by decide)]; exact g9
  | none =>
    cases o2 with
    | some pf =>
      obtain ⟨r1, r2⟩ := h3
      exact ⟨⟨v + 1, Nat.le_refl _, XI_ch hI hv r1 r2⟩, fun d hd => by rw [r2 d (by omega)]; exact h2 d (by omega)⟩
    | none =>
      have h3 : t = t1 := h3
      subst h3
      exact ⟨⟨v, by omega, hI⟩, fun d hd => h2 d (by omega)⟩
/-! the reference -/
theorem MS_cong {σ t : zSt} {ss : Shs} (h : MS σ ss) (e : ∀ d, 48 ≤ d → d < 51 → t d = σ d) : MS t ss := fun j hj => by
  rw [e 48 (by decide) (by decide), e 49 (by decide) (by decide), e 50 (by decide) (by decide)]
  exact h j hj
theorem MRing_cong {σ t : zSt} {r : Nat} {f : Nat → Int32} (h : MRing σ r f) (e : t 47 11 = σ 47 11) (e2 : t 57 = σ 57) : MRing t r f := ⟨e.trans h.1, fun k hk => by rw [e2]; exact h.2 k hk⟩
theorem MKept_cong {σ t : zSt} {c : Core} (h : MKept σ c) (e : t 47 25 = σ 47 25) (e6 : t 66 = σ 66) (e7 : t 67 = σ 67) : MKept t c := ⟨e.trans h.1, fun g g1 g2 => by rw [e6]; exact h.2.1 g g1 g2, fun a ha => by rw [e7]; exact h.2.2 a ha⟩
theorem MI_sh {σ t : zSt} {a : Ab} {ss : Shs} (h : MI σ a) (hs : MS t ss) (e : FMs t σ) : MI t (ss, a.2) := by
  obtain ⟨h1, h2, h3, h4⟩ := h
  have e47 : t 47 = σ 47 := e 47 (by decide) (by decide) (by decide) (by decide)
  refine ⟨hs, MJ_cong h2 (fun d _ _ => e d (by omega) (by omega) (by omega) (by omega)) (by rw [e47]) (by rw [e47]), MRing_cong h3 (by rw [e47]) (e 57 (by decide) (by decide) (by decide) (by decide)), ?_⟩
  rw [e47]
  exact h4.elim Or.inl (fun q => Or.inr ⟨q.1, MKept_cong q.2 (by rw [e47]) (e 66 (by decide) (by decide) (by decide) (by decide)) (e 67 (by decide) (by decide) (by decide) (by decide))⟩)
theorem MI_FQ {σ t : zSt} {a : Ab} (h : MI σ a) (e : FQ t σ) : MI t a := by
  obtain ⟨h1, h2, h3, h4⟩ := h
  refine ⟨MS_cong h1 (fun d _ _ => e.1 d (by omega) (by omega) (by omega) (by omega) (by omega) (by omega)), MJ_cong h2 (fun d _ _ => e.1 d (by omega) (by omega) (by omega) (by omega) (by omega) (by omega)) (e.2 3 (by decide)) (e.2 9 (by decide)), MRing_cong h3 (e.2 11 (by decide)) (e.1 57 (by decide) (by decide) (by decide) (by decide) (by decide) (by decide)), ?_⟩
  rw [e.2 14 (by decide)]
  exact h4.elim Or.inl (fun q => Or.inr ⟨q.1, MKept_FQ q.2 e⟩)
theorem MI_MK {σ t : zSt} {a : Ab} (h : MI σ a) (e : MKq σ t (aC a)) : MI t a := by
  obtain ⟨h1, h2, h3, h4⟩ := h
  obtain ⟨k1, k2, k3, k4⟩ := e
  exact ⟨MS_cong h1 (fun d _ _ => k3 d (by omega) (by omega) (by omega) (by omega) (by omega)), MJ_cong h2 (fun d _ _ => k3 d (by omega) (by omega) (by omega) (by omega) (by omega)) (k4 3 (by decide) (by decide) (by decide) (by decide)) (k4 9 (by decide) (by decide) (by decide) (by decide)), MRing_cong h3 (k4 11 (by decide) (by decide) (by decide) (by decide)) (k3 57 (by decide) (by decide) (by decide) (by decide) (by decide)), Or.inr ⟨k2, k1⟩⟩
theorem MI_any {σ t : zSt} {a : Ab} (h : MI σ a) (e : MAny σ t (aC a)) : MI t a ∧ ∀ d, d < 47 → t d = σ d := by
  rcases e with e | ⟨u, e1, e2⟩
  · exact ⟨MI_FQ h e, fun d hd => e.1 d (by omega) (by omega) (by omega) (by omega) (by omega) (by omega)⟩
  · exact ⟨MI_MK (MI_FQ h e1) e2, fun d hd => by rw [e2.2.2.1 d (by omega) (by omega) (by omega) (by omega) (by omega)]; exact e1.1 d (by omega) (by omega) (by omega) (by omega) (by omega) (by omega)⟩
theorem MI_ch {σ t : zSt} {a : Ab} {m' : Nat} {H' : Nat → Core} (h : MI σ a) (hj : MJ t m' H') (h14 : t 47 14 = 0) (e : FMJ t σ) : MI t (aS a, (m', H'), a.2.2) ∧ ∀ d, d < 47 → t d = σ d := by
  obtain ⟨h1, h2, h3, h4⟩ := h
  obtain ⟨e1, e2, e3, e4⟩ := e
  exact ⟨⟨MS_cong h1 (fun d _ _ => e2 d (by omega) (by omega)), hj, MRing_cong h3 (e4 11 (by decide) (by decide) (by decide)) (e3 57 (by decide)), Or.inl h14⟩, e1⟩
theorem MI_act {σ t : zSt} {a : Ab} {c : Act} (h : MI σ a) (hc : MAct σ t (aM a) (aH a) c) : MI t (gAct a c).2 ∧ ∀ d, d < 47 → t d = σ d := by
  obtain ⟨h1, h2, h3, h4⟩ := h
  obtain ⟨e1, e2, e3⟩ := hc
  refine ⟨?_, fun d hd => e1 d (Or.inl hd)⟩
  have hS : MS t (aS a) := MS_cong h1 (fun d _ _ => e1 d (by omega))
  have hK : t 47 14 = σ 47 14 → (t 47 14 = 0 ∨ (t 47 14 = 1 ∧ MKept t (aC a))) := fun q => by
    rw [q]
    exact h4.elim Or.inl (fun z => Or.inr ⟨z.1, MKept_cong z.2 e2 (e1 66 (by decide)) (e1 67 (by decide))⟩)
  obtain ⟨x, o1, o2⟩ := c
  unfold gAct
  cases o1 with
  | some pq => exact ⟨hS, e3.2.1, e3.1, hK e3.2.2⟩
  | none =>
    obtain ⟨f1, f2, f3⟩ := e3
    cases o2 with
    | some pf => exact ⟨hS, f3.1, MRing_cong h3 f1 f2, Or.inl f3.2⟩
    | none => exact ⟨hS, f3.1, MRing_cong h3 f1 f2, hK f3.2⟩
/-! the state stays sound -/
theorem addC_ok {c : Core} {k a b : Int32} (hc : cOk c) (hn : cN c < 10) (hk : kdOk k a b) : cOk (addC c k a b) := by
  have hw : ∀ x y, x < cN c + 1 → cW (addC c k a b) x y = true → x < cN c ∧ cW c x y = true := fun x y hx h => by
    rw [addC_W] at h
    by_cases e : x = cN c
    · rw [if_pos e] at h; cases h
    · rw [if_neg e] at h; exact ⟨by omega, h⟩
  refine ⟨by rw [addC_N]; omega, fun q hq => ?_, fun x y hx h => ?_, fun x hx => ?_⟩
  · rw [addC_N] at hq
    rw [addC_K, addC_B, addC_E, addC_H]
    by_cases e : q = cN c
    · rw [if_pos e, if_pos e, if_pos e, if_pos e]
      rcases hk with rfl | ⟨rfl, h1⟩ | ⟨rfl, h1, h2, h3⟩ | ⟨rfl, h1⟩
      · exact Or.inl ⟨rfl, rfl, rfl, rfl⟩
      · exact Or.inr (Or.inl ⟨rfl, rfl, h1, rfl⟩)
      · exact Or.inr (Or.inr (Or.inl ⟨rfl, h1, h2, h3, rfl⟩))
      · exact Or.inr (Or.inr (Or.inr ⟨rfl, rfl, rfl, h1⟩))
    · rw [if_neg e, if_neg e, if_neg e, if_neg e]
      exact hc.2.1 q (by omega)
  · rw [addC_N] at hx ⊢
    obtain ⟨h1, h2⟩ := hw x y hx h
    have := hc.2.2.1 x y h1 h2
    omega
  · rw [addC_N] at hx
    cases hb : bhd (addC c k a b) x x with
    | false => rfl
    | true =>
      have hT := (wR_min (w := cW (addC c k a b)) (n := cN c + 1) (T := fun x y => (x < cN c ∧ y < cN c) ∧ bhd c x y = true) (fun x y hx h => by
        obtain ⟨h1, h2⟩ := hw x y hx h
        have := hc.2.2.1 x y h1 h2
        omega) (fun x y hx h => by
        obtain ⟨h1, h2⟩ := hw x y hx h
        exact ⟨⟨h1, hc.2.2.1 x y h1 h2⟩, wR_sub h2⟩) (fun x y z _ _ _ h1 h2 => ⟨⟨h1.1.1, h2.1.2⟩, (bhd_ord hc).2.2 x y z h1.1.1 h1.1.2 h1.2 h2.2⟩) (cN c + 1) x x (Nat.le_refl _) hx hb).2
      rw [(bhd_ord hc).2.1 x hT.1.1] at hT
      cases hT.2
theorem free_ok {c : Core} {p q : Nat} (hc : cOk c) : cOk (wC c p (fun i => cW c p i && !decide (i = q))) := by
  have hw : ∀ x y, cW (wC c p (fun i => cW c p i && !decide (i = q))) x y = true → cW c x y = true := fun x y h => by
    rw [wC_W] at h
    by_cases e : x = p
    · rw [if_pos e] at h
      have h : (cW c p y && !decide (y = q)) = true := h
      rw [Bool.and_eq_true] at h
      rw [e]; exact h.1
    · rw [if_neg e] at h; exact h
  refine ⟨hc.1, hc.2.1, fun x y hx h => hc.2.2.1 x y hx (hw x y h), fun x hx => ?_⟩
  have hx : x < cN c := hx
  cases hb : bhd (wC c p (fun i => cW c p i && !decide (i = q))) x x with
  | false => rfl
  | true =>
    have hT := (wR_min (w := cW (wC c p (fun i => cW c p i && !decide (i = q)))) (n := cN c) (T := fun x y => bhd c x y = true) (fun x y hx h => hc.2.2.1 x y hx (hw x y h)) (fun x y hx h => wR_sub (hw x y h)) (fun x y z hx hy _ h1 h2 => (bhd_ord hc).2.2 x y z hx hy h1 h2) (cN c) x x (Nat.le_refl _) hx hb).2
    rw [(bhd_ord hc).2.1 x hx] at hT
    cases hT
def ActOk (c : Core) (x : Act) : Prop := (∀ pq, x.2.1 = some pq → pq.1 < cN c ∧ pq.2 < cN c ∧ rfs c pq.1 pq.2) ∧ ∀ pf, x.2.2 = some pf → cOk (wC c pf.1 pf.2)
theorem act_ok {a : Ab} {x : Act} (h : AOk a) (hx : ActOk (aC a) x) : AOk (gAct a x).2 := by
  have hc := h.c
  obtain ⟨x0, o1, o2⟩ := x
  unfold gAct
  cases o1 with
  | some pq =>
    obtain ⟨h1, h2, h3⟩ := hx.1 pq rfl
    refine ⟨h.1, h.2.1, ?_⟩
    show rgN (cW (aC a)) (cN (aC a)) pq.1 pq.2 ≤ 10
    have hn := hc.1
    have : dst (cW (aC a)) (cN (aC a)) pq.1 pq.2 < cN (aC a) := by
      rcases h3 with e | e
      · rw [dst_0.mpr e.symm]; omega
      · exact dst_ring hn hc.2.2.1 h1 h2 e
    unfold rgN
    omega
  | none =>
    cases o2 with
    | some pf => exact ⟨h.1, push_ok h.2.1 (hx.2 pf rfl), h.2.2⟩
    | none => exact h
theorem ActOk_0 {c : Core} {x : Int32} : ActOk c (x, none, none) := ⟨fun _ h => (by cases h), fun _ h => (by cases h)⟩
theorem after_ok {c : Core} {a b : Int32} (hc : cOk c) : ActOk c (spAfter c a b) := by
  have hn := hc.1
  unfold spAfter
  by_cases h : isJb (cN c) a ∧ isJb (cN c) b
  · rw [if_pos h]
    obtain ⟨p, hp, rfl⟩ := isJb_ix h.1 hn
    obtain ⟨q, hq, rfl⟩ := isJb_ix h.2 hn
    rw [nI_clamp (by omega), nI_clamp (by omega)]
    by_cases h2 : rfs c p q
    · rw [if_pos h2]
      exact ⟨fun pq e => by cases e; exact ⟨hp, hq, h2⟩, fun _ e => by cases e⟩
    · rw [if_neg h2]
      by_cases h3 : cW c p q = true
      · rw [if_pos h3]; exact ActOk_0
      · rw [if_neg h3]
        refine ⟨fun _ e => (by cases e), fun pf e => ?_⟩
        cases e
        exact wA_ok hc (fun i hi => by
          have : i = q := by simpa using hi
          rw [this]; exact ⟨hq, h2⟩)
  · rw [if_neg h]; exact ActOk_0
theorem rdGo_ok {c : Core} {p : Nat} {f : Nat → Int32} (hn : cN c ≤ 10) : ∀ (q k : Nat) (o : Nat → Bool), (∀ i, o i = true → i < cN c ∧ ¬ rfs c p i) → (∀ i, (rdGo c p f k q o).2.2 i = true → i < cN c ∧ ¬ rfs c p i) ∧ ((rdGo c p f k q o).1 = -4 → (rdGo c p f k q o).2.1 < cN c ∧ rfs c p (rdGo c p f k q o).2.1) := by
  intro q
  induction q with
  | zero => intro k o ho; exact ⟨ho, fun h => absurd (show (0 : Int32) = -4 from h) (by decide)⟩
  | succ q ih =>
    intro k o ho
    show (∀ i, (if isJb (cN c) (f k) then (if rfs c p (f k).toNatClampNeg then ((-4 : Int32), (f k).toNatClampNeg, o) else rdGo c p f (k + 1) q (fun i => o i || decide (i = (f k).toNatClampNeg))) else (-15, 0, o)).2.2 i = true → _) ∧ ((if isJb (cN c) (f k) then (if rfs c p (f k).toNatClampNeg then ((-4 : Int32), (f k).toNatClampNeg, o) else rdGo c p f (k + 1) q (fun i => o i || decide (i = (f k).toNatClampNeg))) else (-15, 0, o)).1 = -4 → (if isJb (cN c) (f k) then (if rfs c p (f k).toNatClampNeg then ((-4 : Int32), (f k).toNatClampNeg, o) else rdGo c p f (k + 1) q (fun i => o i || decide (i = (f k).toNatClampNeg))) else (-15, 0, o)).2.1 < cN c ∧ rfs c p (if isJb (cN c) (f k) then (if rfs c p (f k).toNatClampNeg then ((-4 : Int32), (f k).toNatClampNeg, o) else rdGo c p f (k + 1) q (fun i => o i || decide (i = (f k).toNatClampNeg))) else (-15, 0, o)).2.1)
    by_cases h1 : isJb (cN c) (f k)
    · rw [if_pos h1]
      obtain ⟨b, hb, e⟩ := isJb_ix h1 hn
      have eb : (f k).toNatClampNeg = b := by rw [e]; exact nI_clamp (by omega)
      rw [eb]
      by_cases h2 : rfs c p b
      · rw [if_pos h2]
        exact ⟨ho, fun _ => ⟨hb, h2⟩⟩
      · rw [if_neg h2]
        refine ih (k + 1) _ (fun i hi => ?_)
        rcases Bool.or_eq_true_iff.mp hi with z | z
        · exact ho i z
        · have z : i = b := by simpa using z
          rw [z]; exact ⟨hb, h2⟩
    · rw [if_neg h1]
      exact ⟨ho, fun h => absurd (show (-15 : Int32) = -4 from h) (by decide)⟩
theorem read_ok {c : Core} {ss : Shs} {a r i n : Int32} (hc : cOk c) : ActOk c (spRead c ss a r i n) := by
  have hn := hc.1
  unfold spRead
  by_cases h1 : isJb (cN c) a ∧ isSh r
  · rw [if_pos h1]
    by_cases h2 : ss.1 r.toNatClampNeg = -1
    · rw [if_pos h2]; exact ActOk_0
    · rw [if_neg h2]
      by_cases h3 : n < 0
      · rw [if_pos h3]; exact ActOk_0
      · rw [if_neg h3]
        by_cases h4 : 0 ≤ i.toInt ∧ i.toInt + n.toInt ≤ ss.2.1 r.toNatClampNeg
        · rw [if_pos h4]
          obtain ⟨p, hp, rfl⟩ := isJb_ix h1.1 hn
          rw [nI_clamp (by omega)]
          obtain ⟨g1, g2⟩ := rdGo_ok (c := c) (p := p) (f := fun k => ss.2.2 r.toNatClampNeg (i.toNatClampNeg + k)) hn n.toNatClampNeg 0 (fun _ => false) (fun i hi => by cases hi)
          generalize rdGo c p (fun k => ss.2.2 r.toNatClampNeg (i.toNatClampNeg + k)) 0 n.toNatClampNeg (fun _ => false) = R at *
          unfold spEnd
          by_cases e1 : R.1 = -15
          · rw [if_pos e1]; exact ActOk_0
          · rw [if_neg e1]
            by_cases e2 : R.1 = -4
            · rw [if_pos e2]
              obtain ⟨k1, k2⟩ := g2 e2
              exact ⟨fun pq e => by cases e; exact ⟨hp, k1, k2⟩, fun _ e => by cases e⟩
            · rw [if_neg e2]
              refine ⟨fun _ e => (by cases e), fun pf e => ?_⟩
              by_cases e3 : anyb (fun i => R.2.2 i && !cW c p i) 16 = true
              · simp only [if_pos e3] at e
                cases e
                exact wA_ok hc g1
              · simp only [if_neg e3] at e
                cases e
        · rw [if_neg h4]; exact ActOk_0
  · rw [if_neg h1]; exact ActOk_0
