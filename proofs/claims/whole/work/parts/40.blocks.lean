/-! blocks of THE DAY: all of a later block is BEHIND all of an earlier one -/
section BLK
variable {n : Nat} {r : Nat → Nat → Bool}
abbrev lfa (n : Nat) (r : Nat → Nat → Bool) : Nat → Nat → Bool := lfs n r (lba n r) (alln n)
/-- what stays: neither the first nor the second of the hour -/
theorem lfa_stay {t x V : Nat} (hf : fstD n r (lba n r) (lfa n r t) = some V) (hx : lfa n r t x = true) (h1 : x ≠ V) (h2 : ∀ w, sndD n r (lba n r) (lfa n r t) = some w → x ≠ w) : lfa n r (t + 1) x = true := by
  show rmo (rmo (lfa n r t) (fstD n r (lba n r) (lfa n r t))) (sndD n r (lba n r) (lfa n r t)) x = true
  have k1 : rmo (lfa n r t) (fstD n r (lba n r) (lfa n r t)) x = true := by
    rw [hf]
    simp [rmo, rmv, hx, h1]
  cases hs : sndD n r (lba n r) (lfa n r t) with
  | none => exact k1
  | some w =>
    have := h2 w hs
    show rmv (rmo (lfa n r t) (fstD n r (lba n r) (lfa n r t))) w x = true
    unfold rmv
    rw [k1]
    simp [this]
theorem lfa_ne {t x V : Nat} (hf : fstD n r (lba n r) (lfa n r t) = some V) (hx : lfa n r (t + 1) x = true) : x ≠ V := by
  intro e
  have h2 : rmo (lfa n r t) (fstD n r (lba n r) (lfa n r t)) x = true := rmo_le (o := sndD n r (lba n r) (lfa n r t)) hx
  rw [hf, e] at h2
  simp [rmo, rmv] at h2
/-- those left behind hour t with labels from lv on, where the second of hour t has none such, are all BEHIND the first of hour t -/
theorem blk1 (ho : Ord n r) (hn : n ≤ 10) {t V lv : Nat} (hf : fstD n r (lba n r) (lfa n r t) = some V) (hw : ∀ w, sndD n r (lba n r) (lfa n r t) = some w → lba n r w < lv) : ∀ (m x : Nat), cp n r x ≤ m → lfa n r (t + 1) x = true → lv ≤ lba n r x → r x V = true := by
  intro m
  induction m with
  | zero =>
    intro x hm hx hl
    have hx0 : lfa n r t x = true := lfs_le hx
    have hxn := (lfs_in hx0).1
    have hrd : rdy r (lfa n r t) x = true := by
      unfold rdy
      rw [Bool.not_eq_true', anyb_f]
      intro y _
      cases hy : (r x y && lfa n r t y) with
      | false => rfl
      | true =>
        rw [Bool.and_eq_true] at hy
        have := cp_lt ho hxn (lfs_in hy.2).1 hy.1
        omega
    exfalso
    cases hs : sndD n r (lba n r) (lfa n r t) with
    | none =>
      have := grt_none (show grt r (lba n r) (rmo (lfa n r t) (fstD n r (lba n r) (lfa n r t))) (lfa n r t) n = none from hs) x hxn
      rw [hf, hrd] at this
      simp [rmo, rmv, hx0, lfa_ne hf hx] at this
    | some w =>
      have := (grt_some (show grt r (lba n r) (rmo (lfa n r t) (fstD n r (lba n r) (lfa n r t))) (lfa n r t) n = some w from hs)).2.2 x hxn (by
        rw [hf, hrd]
        simp [rmo, rmv, hx0, lfa_ne hf hx])
      have := hw w hs
      omega
  | succ m ih =>
    intro x hm hx hl
    have hx0 : lfa n r t x = true := lfs_le hx
    have hxn := (lfs_in hx0).1
    cases hrd : rdy r (lfa n r t) x with
    | true =>
      exfalso
      cases hs : sndD n r (lba n r) (lfa n r t) with
      | none =>
        have := grt_none (show grt r (lba n r) (rmo (lfa n r t) (fstD n r (lba n r) (lfa n r t))) (lfa n r t) n = none from hs) x hxn
        rw [hf, hrd] at this
        simp [rmo, rmv, hx0, lfa_ne hf hx] at this
      | some w =>
        have := (grt_some (show grt r (lba n r) (rmo (lfa n r t) (fstD n r (lba n r) (lfa n r t))) (lfa n r t) n = some w from hs)).2.2 x hxn (by
          rw [hf, hrd]
          simp [rmo, rmv, hx0, lfa_ne hf hx])
        have := hw w hs
        omega
    | false =>
      unfold rdy at hrd
      rw [Bool.not_eq_false', anyb_iff] at hrd
      obtain ⟨y, -, hy⟩ := hrd
      rw [Bool.and_eq_true] at hy
      have hyn := (lfs_in hy.2).1
      have hlt := lba_lt ho hn _ x y (Nat.le_refl _) hxn hyn hy.1
      by_cases hyV : y = V
      · rw [← hyV]; exact hy.1
      · have hy1 := lfa_stay hf hy.2 hyV (fun w hs e => by have := hw w hs; rw [e] at hlt; omega)
        have hc := cp_lt ho hxn hyn hy.1
        exact ho.2.2 x y V hxn hyn hy.1 (ih y (by omega) hy1 (by omega))
/-- one that nobody of the set is ahead of -/
theorem min_ex (ho : Ord n r) {P : Nat → Prop} (hP : ∀ x, P x → x < n) : ∀ (m x : Nat), cp n r x ≤ m → P x → ∃ y, P y ∧ (y = x ∨ r x y = true) ∧ ∀ z, P z → r y z = false := by
  intro m
  induction m with
  | zero =>
    intro x hm hx
    refine ⟨x, hx, Or.inl rfl, fun z hz => ?_⟩
    cases hr : r x z with
    | false => rfl
    | true =>
      have := cp_lt ho (hP x hx) (hP z hz) hr
      omega
  | succ m ih =>
    intro x hm hx
    by_cases h : ∃ z, P z ∧ r x z = true
    · obtain ⟨z, hz, hr⟩ := h
      have hc := cp_lt ho (hP x hx) (hP z hz) hr
      obtain ⟨y, hy1, hy2, hy3⟩ := ih z (by omega) hz
      refine ⟨y, hy1, Or.inr ?_, hy3⟩
      rcases hy2 with e | e
      · rw [e]; exact hr
      · exact ho.2.2 x z y (hP x hx) (hP z hz) hr e
    · refine ⟨x, hx, Or.inl rfl, fun z hz => ?_⟩
      cases hr : r x z with
      | false => rfl
      | true => exact absurd ⟨z, hz, hr⟩ h
/-- the later block (left behind hour t, labels from lv on) is BEHIND the earlier one (left behind hour u, labels from that of the first of hour t on) -/
theorem blk2 (ho : Ord n r) (hn : n ≤ 10) {u t V lv : Nat} (hf : fstD n r (lba n r) (lfa n r t) = some V) (hw : ∀ w, sndD n r (lba n r) (lfa n r t) = some w → lba n r w < lv) (hut : u ≤ t) (hbt : ∀ z, lfa n r u z = true → lfa n r t z = false → lba n r V ≤ lba n r z) :
    ∀ (m J x : Nat), cf n r J ≤ m → lfa n r u J = true → lba n r V ≤ lba n r J → lfa n r (t + 1) x = true → lv ≤ lba n r x → r x J = true := by
  have hVt : lfa n r t V = true := by
    have := (grt_some (show grt r (lba n r) (lfa n r t) (lfa n r t) n = some V from hf)).2.1
    simp only [Bool.and_eq_true] at this
    exact this.1
  have hVn := (lfs_in hVt).1
  have hPn : ∀ x, (lfa n r (t + 1) x = true ∧ lv ≤ lba n r x) → x < n := fun x hx => (lfs_in hx.1).1
  -- the least of the later block are NEXT behind V
  have hA : ∀ y, (lfa n r (t + 1) y = true ∧ lv ≤ lba n r y) → (∀ z, (lfa n r (t + 1) z = true ∧ lv ≤ lba n r z) → r y z = false) → nxt n r V y = true := by
    intro y hy hmin
    have hyV := blk1 ho hn hf hw _ y (Nat.le_refl _) hy.1 hy.2
    have hyn := hPn y hy
    unfold nxt flw
    simp only [hyn, hyV, decide_true, Bool.and_self, Bool.true_and, Bool.not_eq_true']
    rw [anyb_f]
    intro i _
    cases hi : (r y i && (decide (i < n) && r i V)) with
    | false => rfl
    | true =>
      simp only [Bool.and_eq_true, decide_eq_true_eq] at hi
      exfalso
      have hit := lfs_up (lab := lba n r) ho hn t V i hi.2.1 hVt hi.2.2
      have hl1 := lba_lt ho hn _ y i (Nat.le_refl _) hyn hi.2.1 hi.1
      have hiV : i ≠ V := fun e => by
        have := ho.2.1 V hVn
        rw [e, this] at hi
        cases hi.2.2
      have his := lfa_stay hf hit hiV (fun w hs e => by have := hw w hs; have h9 := hy.2; rw [e] at hl1; omega)
      have := hmin i ⟨his, by have := hy.2; omega⟩
      rw [hi.1] at this
      cases this
  have ofRow : ∀ J y, y < n → rwL n r J (lba n r y) = true → nxt n r J y = true := by
    intro J y hy h
    obtain ⟨z, hz1, hz2, hz3⟩ := rwL_iff.mp h
    rw [← lba_inj ho hz1 hz3]
    exact hz2
  have step : ∀ (J x : Nat), (∀ z, lfa n r u z = true → lba n r V ≤ lba n r z → r z J = true → r x z = true) → lfa n r u J = true → lba n r V ≤ lba n r J → lfa n r (t + 1) x = true → lv ≤ lba n r x → r x J = true := by
    intro J x hH hJ hJl hx hxl
    have hJn := (lfs_in hJ).1
    have hxn := (lfs_in hx).1
    by_cases hz : ∃ z, lfa n r u z = true ∧ lba n r V ≤ lba n r z ∧ r z J = true
    · obtain ⟨z, z1, z2, z3⟩ := hz
      exact ho.2.2 x z J hxn (lfs_in z1).1 (hH z z1 z2 z3) z3
    · by_cases hJV : J = V
      · rw [hJV]; exact blk1 ho hn hf hw _ x (Nat.le_refl _) hx hxl
      · have hlt : lba n r V < lba n r J := by
          have : lba n r V ≠ lba n r J := fun e => hJV (lba_inj ho hVn e).symm
          omega
        have hrow := rwL_le ho hn hJn hVn hlt
        obtain ⟨y0, hy0, hy0x, hmin⟩ := min_ex (P := fun x => lfa n r (t + 1) x = true ∧ lv ≤ lba n r x) ho hPn _ x (Nat.le_refl _) ⟨hx, hxl⟩
        have hy0n := hPn y0 hy0
        have hVy0 := hA y0 hy0 hmin
        have hRy0 : rwL n r V (lba n r y0) = true := rwL_iff.mpr ⟨y0, hy0n, hVy0, rfl⟩
        have h16 : ∀ y, lba n r y < 16 := fun y => by have := lba_le ho (n := n) (r := r) y; omega
        have suff : nxt n r J y0 = true → r x J = true := by
          intro h
          have h1 := (nxt_r h).2
          rcases hy0x with e | e
          · rw [← e]; exact h1
          · exact ho.2.2 x y0 J hxn hy0n e h1
        rcases Nat.lt_or_ge (mkm (rwL n r V) 16) (mkm (rwL n r J) 16) with hq | hq
        · rw [mkm_ltI] at hq
          obtain ⟨i, i1, i2, i3, i4⟩ := hq
          rcases Nat.lt_trichotomy i (lba n r y0) with q | q | q
          · exact suff (ofRow J y0 hy0n (by rw [← i4 _ q (h16 y0)]; exact hRy0))
          · rw [q, hRy0] at i2; cases i2
          · exfalso
            obtain ⟨y, hyn, hy1, hy2⟩ := rwL_iff.mp i3
            have hyJ := (nxt_r hy1).2
            have hyu := lfs_up (lab := lba n r) ho hn u J y hyn hJ hyJ
            have hyV : lba n r y < lba n r V := Nat.lt_of_not_le (fun q => hz ⟨y, hyu, q, hyJ⟩)
            have hyt : lfa n r t y = true := by
              cases h9 : lfa n r t y with
              | true => rfl
              | false => have := hbt y hyu h9; omega
            have hy0l := hy0.2
            have hys := lfa_stay hf hyt (fun e => by rw [e] at hyV; omega) (fun w hs e => by have := hw w hs; rw [← e] at this; omega)
            have hyc : lfa n r (t + 1) y = true ∧ lv ≤ lba n r y := ⟨hys, by omega⟩
            obtain ⟨y1, hy1c, hy1y, hmin1⟩ := min_ex (P := fun x => lfa n r (t + 1) x = true ∧ lv ≤ lba n r x) ho hPn _ y (Nat.le_refl _) hyc
            have hy1n := hPn y1 hy1c
            have hVy1 := hA y1 hy1c hmin1
            have hRy1 : rwL n r V (lba n r y1) = true := rwL_iff.mpr ⟨y1, hy1n, hVy1, rfl⟩
            rcases hy1y with e | e
            · rw [e, hy2, i2] at hRy1; cases hRy1
            · have hl := lba_lt ho hn _ y y1 (Nat.le_refl _) hyn hy1n e
              have hJy1 := ofRow J y1 hy1n (by rw [← i4 _ (by omega) (h16 y1)]; exact hRy1)
              unfold nxt at hy1
              rw [Bool.and_eq_true, Bool.not_eq_true', anyb_f] at hy1
              have := hy1.2 y1 (by omega)
              unfold flw at this
              rw [e, (nxt_r hJy1).2] at this
              simp [hy1n] at this
        · have e9 : mkm (rwL n r V) 16 = mkm (rwL n r J) 16 := by omega
          have := congrArg (fun z => z.testBit (lba n r y0)) e9
          simp only [mkm_bit, h16 y0, decide_true, Bool.true_and] at this
          exact suff (ofRow J y0 hy0n (by rw [← this]; exact hRy0))
  intro m
  induction m with
  | zero =>
    intro J x hm hJ hJl hx hxl
    refine step J x (fun z z1 z2 z3 => ?_) hJ hJl hx hxl
    have := cf_lt ho (lfs_in hJ).1 (lfs_in z1).1 z3
    omega
  | succ m ih =>
    intro J x hm hJ hJl hx hxl
    refine step J x (fun z z1 z2 z3 => ?_) hJ hJl hx hxl
    have := cf_lt ho (lfs_in hJ).1 (lfs_in z1).1 z3
    exact ih z x (by omega) z1 z2 hx hxl
end BLK
