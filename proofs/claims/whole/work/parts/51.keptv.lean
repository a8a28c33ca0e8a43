/-! THE KEPT DAY by values, as the reference works it out -/
def Vl (c : Core) (h : Nat) (S : Nat → Bool) (v : Nat) : Prop := (v = 99 ∧ ∀ d, h + d ≤ 60 → ¬ rch c d h S) ∨ (h ≤ v ∧ v ≤ 60 ∧ rch c (v - h) h S ∧ ∀ d, h + d < v → ¬ rch c d h S)
theorem Vl_un {c : Core} {h v w : Nat} {S : Nat → Bool} (a : Vl c h S v) (b : Vl c h S w) : v = w := by
  rcases a with ⟨a1, a2⟩ | ⟨a1, a2, a3, a4⟩ <;> rcases b with ⟨b1, b2⟩ | ⟨b1, b2, b3, b4⟩
  · omega
  · exact absurd b3 (a2 (w - h) (by omega))
  · exact absurd a3 (b2 (v - h) (by omega))
  · rcases Nat.lt_trichotomy v w with q | q | q
    · exact absurd a3 (b4 (v - h) (by omega))
    · exact q
    · exact absurd b3 (a4 (w - h) (by omega))
theorem Vl_99 {c : Core} {h v : Nat} {S : Nat → Bool} (a : Vl c h S v) : v ≤ 99 := by
  rcases a with ⟨a1, _⟩ | ⟨_, a2, _⟩ <;> omega
/-- what can be done in L hours has a value of L at most -/
theorem Vl_le {c : Core} {h v L : Nat} {S : Nat → Bool} (a : Vl c h S v) (hL : L ≤ 60) (hh : h ≤ L) : rch c (L - h) h S ↔ v ≤ L := by
  rcases a with ⟨a1, a2⟩ | ⟨a1, a2, a3, a4⟩
  · constructor
    · intro q; exact absurd q (a2 (L - h) (by omega))
    · intro q; omega
  · constructor
    · intro q
      apply Classical.byContradiction
      intro hno
      exact a4 (L - h) (by omega) q
    · intro q
      have := rch_up2 a3 (L - v)
      rwa [show v - h + (L - v) = L - h by omega] at this
/-- the best of all that hour h + 1 may hold: code k leads to T, with value v -/
def Best (c : Core) (h : Nat) (S : Nat → Bool) (v k : Nat) (T : Nat → Bool) (P : Nat → Nat → Prop) : Prop := ((k = 120 ∧ T = S) ∨ (k < 120 ∧ k / 11 < k % 11 ∧ okU c (h + 1) S (k / 11) (k % 11) ∧ T = thn S (k / 11) (k % 11))) ∧ Vl c (h + 1) T v ∧ (∀ w, Vl c (h + 1) S w → v ≤ w) ∧ ∀ a b, okU c (h + 1) S a b → a < b → P a b → ∀ w, Vl c (h + 1) (thn S a b) w → v < w ∨ (v = w ∧ k ≤ 11 * a + b)
section BEST
variable {c : Core} {h v k : Nat} {S T : Nat → Bool}
/-- in whatever order two stand: the one with the lesser number first -/
theorem ord_of (hc : cOk c) {x y g : Nat} (ho : okU c g S x y) : ∃ a b, okU c g S a b ∧ a < b ∧ thn S a b = thn S x y := by
  have hn := hc.1
  have hx := ho.1
  by_cases e : y = 10
  · exact ⟨x, y, ho, by omega, rfl⟩
  · obtain ⟨z1, z2, z3, z4⟩ := ho.2.2.resolve_left e
    rcases Nat.lt_trichotomy x y with q | q | q
    · exact ⟨x, y, ho, q, rfl⟩
    · exact absurd q.symm z2
    · exact ⟨y, x, okU_comm e ho, q, thn_comm (by omega) (by omega)⟩
theorem Best_Vl (hc : cOk c) (hb : Best c h S v k T (fun _ _ => True)) (hS : ¬ ∀ i, i < cN c → S i = true) (hval : ∀ a b, okU c (h + 1) S a b → ∃ w, Vl c (h + 1) (thn S a b) w) (hvS : ∃ w, Vl c (h + 1) S w) : Vl c h S v := by
  obtain ⟨b1, b2, b3, b4⟩ := hb
  obtain ⟨w0, hw0⟩ := hvS
  have l0 := b3 w0 hw0
  -- nothing is done sooner than v
  have low : ∀ d, h + d < v → h + d ≤ 60 → ¬ rch c d h S := by
    intro d hd hd6 hr
    cases d with
    | zero => exact hS hr
    | succ e =>
      rcases hr with hr | ⟨x, y, h1, h2⟩
      · have := (Vl_le (L := h + (e + 1)) hw0 hd6 (by omega)).mp (by rwa [show h + (e + 1) - (h + 1) = e by omega])
        omega
      · obtain ⟨a, b, o1, o2, o3⟩ := ord_of hc h1
        obtain ⟨w, hw⟩ := hval a b o1
        rw [← o3] at h2
        have h5 := (Vl_le (L := h + (e + 1)) hw hd6 (by omega)).mp (by rwa [show h + (e + 1) - (h + 1) = e by omega])
        rcases b4 a b o1 o2 trivial w hw with q | q <;> omega
  rcases b2 with ⟨a1, a2⟩ | ⟨a1, a2, a3, a4⟩
  · exact Or.inl ⟨a1, fun d hd => low d (by omega) hd⟩
  · refine Or.inr ⟨by omega, a2, ?_, fun d hd => low d hd (by omega)⟩
    rw [show v - h = v - (h + 1) + 1 by omega]
    rcases b1 with ⟨_, e⟩ | ⟨_, _, e1, e2⟩
    · rw [e] at a3; exact Or.inl a3
    · exact Or.inr ⟨_, _, e1, by rw [← e2]; exact a3⟩
/-- THE KEPT DAY, hour by hour -/
noncomputable def kT (c : Core) (L h : Nat) (S : Nat → Bool) : Nat → Bool := if kcd c L h S = 120 then S else thn S (kcd c L h S / 11) (kcd c L h S % 11)
noncomputable def kSq (c : Core) (L : Nat) : Nat → Nat → Bool
  | 0 => fun _ => false
  | h + 1 => kT c L h (kSq c L h)
noncomputable def kHs (c : Core) (L : Nat) : Nat → Nat → Int32
  | 0 => fun _ => -3
  | h + 1 => fun a => if (kSq c L (h + 1) a && !kSq c L h a) = true then nI (h + 1) else kHs c L h a
noncomputable def kL (c : Core) : Nat := fnd (fun L => tb (rch c L 0 (fun _ => false))) 61
theorem Best_cd (hb : Best c h S v k T (fun _ _ => True)) (hv : v ≤ 60) (hval : ∀ a b, okU c (h + 1) S a b → ∃ w, Vl c (h + 1) (thn S a b) w) : kcd c v h S = k ∧ kT c v h S = T := by
  obtain ⟨b1, b2, b3, b4⟩ := hb
  have hv1 : h + 1 ≤ v := by
    rcases b2 with ⟨a1, _⟩ | ⟨a1, _⟩ <;> omega
  have none_ : ∀ j, j < k → ¬ kcan c v h S j := by
    intro j hj hk
    obtain ⟨h1, h2, h3⟩ := hk
    obtain ⟨w, hw⟩ := hval _ _ h1
    have := (Vl_le hw hv hv1).mp h3
    rcases b4 _ _ h1 h2 trivial w hw with q | q <;> omega
  have e : kcd c v h S = k := by
    unfold kcd
    rcases b1 with ⟨e1, _⟩ | ⟨e1, e2, e3, e4⟩
    · rw [e1] at none_ ⊢
      exact fnd_no (fun i hi => tb_f.mpr (none_ i hi))
    · refine fnd_eq e1 (tb_t.mpr ⟨e3, e2, ?_⟩) (fun i hi => tb_f.mpr (none_ i hi))
      rw [← e4]
      exact (Vl_le b2 hv hv1).mpr (Nat.le_refl v)
  refine ⟨e, ?_⟩
  unfold kT
  rw [e]
  rcases b1 with ⟨e1, e2⟩ | ⟨e1, _, _, e4⟩
  · rw [if_pos e1]; exact e2.symm
  · rw [if_neg (by omega)]; exact e4.symm
theorem kL_Vl (hv : Vl c 0 (fun _ => false) v) : (v = 99 ∧ kL c = 61) ∨ (v ≤ 60 ∧ kL c = v) := by
  unfold kL
  rcases hv with ⟨a1, a2⟩ | ⟨a1, a2, a3, a4⟩
  · exact Or.inl ⟨a1, fnd_no (fun i hi => tb_f.mpr (a2 i (by omega)))⟩
  · exact Or.inr ⟨a2, fnd_eq (by omega) (tb_t.mpr a3) (fun i hi => tb_f.mpr (a4 i (by omega)))⟩
end BEST
theorem mkm_n {S : Nat → Bool} {n : Nat} (hS : ∀ i, S i = true → i < n) : mkm S 16 < 2 ^ n := Nat.lt_pow_two_of_testBit _ (fun i hi => by
  rw [mkm_bit]
  cases hx : S i with
  | false => simp
  | true => have := hS i hx; omega)
theorem pw10 {n : Nat} (hn : n ≤ 10) : 2 ^ n ≤ 1024 := Nat.le_trans (Nat.pow_le_pow_right (by decide) hn) (by decide)
theorem thn_sup {c : Core} {h x y : Nat} {S : Nat → Bool} (hS : ∀ i, S i = true → i < cN c) (ho : okU c h S x y) : ∀ i, thn S x y i = true → i < cN c := fun i hi => by
  rw [thn_t] at hi
  rcases hi with hi | hi | hi
  · exact hS i hi
  · rw [hi]; exact ho.1
  · rcases okU_y ho with q | q <;> omega
/-- the bounds of a job, as both sides keep them -/
theorem bE_ok {c : Core} (hc : cOk c) {a : Nat} (ha : a < cN c) : xB (cB c a) = nI (bN c a) ∧ xE (cE c a) = nI (eN c a) ∧ 1 ≤ bN c a ∧ bN c a ≤ 40 ∧ 1 ≤ eN c a ∧ eN c a ≤ 64 ∧ (cB c a = -3 → bN c a = 1) ∧ (cB c a ≠ -3 → cB c a = nI (bN c a)) ∧ (cE c a = -3 → eN c a = 64) ∧ (cE c a ≠ -3 → cE c a = nI (eN c a)) := by
  have hn := hc.1
  have hx : ∀ x : Int32, isHr x → ∃ k, 1 ≤ k ∧ k ≤ 40 ∧ x = nI k := by
    intro x hx
    obtain ⟨h1, h2⟩ := hx
    obtain ⟨k, hk, e⟩ := zix (x := x) (N := 41) (by rw [fa_le] at h1 ⊢; have : (1 : Int32).toInt = 1 := rfl; have : (0 : Int32).toInt = 0 := rfl; omega) (by rw [fa_lt]; rw [fa_le] at h2; have : (40 : Int32).toInt = 40 := rfl; have : (nI 41).toInt = 41 := rfl; omega) (by decide)
    refine ⟨k, ?_, by omega, e⟩
    rw [e, show (1 : Int32) = nI 1 from rfl, nI_leI (by decide) (by omega)] at h1
    exact h1
  have B : xB (cB c a) = nI (bN c a) ∧ 1 ≤ bN c a ∧ bN c a ≤ 40 ∧ (cB c a = -3 → bN c a = 1) ∧ (cB c a ≠ -3 → cB c a = nI (bN c a)) := by
    unfold bN
    rw [if_neg (by omega)]
    by_cases e : cB c a = -3
    · rw [e]
      exact ⟨by decide, by decide, by decide, fun _ => by decide, fun q => absurd rfl q⟩
    · have : isHr (cB c a) := by
        rcases hc.2.1 a ha with k | k | k | k
        · exact absurd k.2.1 e
        · exact absurd k.2.1 e
        · exact k.2.1
        · exact absurd k.2.1 e
      obtain ⟨k, k1, k2, k3⟩ := hx _ this
      have ex : xB (cB c a) = nI k := by unfold xB; rw [if_neg e]; exact k3
      rw [ex, nI_clamp (by omega)]
      exact ⟨rfl, k1, k2, fun q => absurd q e, fun _ => k3⟩
  have E : xE (cE c a) = nI (eN c a) ∧ 1 ≤ eN c a ∧ eN c a ≤ 64 ∧ (cE c a = -3 → eN c a = 64) ∧ (cE c a ≠ -3 → cE c a = nI (eN c a)) := by
    unfold eN
    rw [if_neg (by omega)]
    by_cases e : cE c a = -3
    · rw [e]
      exact ⟨by decide, by decide, by decide, fun _ => by decide, fun q => absurd rfl q⟩
    · have : isHr (cE c a) := by
        rcases hc.2.1 a ha with k | k | k | k
        · exact absurd k.2.2.1 e
        · exact k.2.2.1
        · exact k.2.2.1
        · exact absurd k.2.2.1 e
      obtain ⟨k, k1, k2, k3⟩ := hx _ this
      have ex : xE (cE c a) = nI k := by unfold xE; rw [if_neg e]; exact k3
      rw [ex, nI_clamp (by omega)]
      exact ⟨rfl, k1, by omega, fun q => absurd q e, fun _ => k3⟩
  exact ⟨B.1, E.1, B.2.1, B.2.2.1, E.2.1, E.2.2.1, B.2.2.2.1, B.2.2.2.2, E.2.2.2.1, E.2.2.2.2⟩
