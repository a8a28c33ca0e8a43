/-! questions on THE DAY -/
def XL (σ t : zSt) (c : Core) (v : Int32) : Prop := XDay t (cN c) (bhd c) ∧ t 15 9 = v ∧ (t 10 6 = v → XOrd t c) ∧ (t 10 6 = v ∨ t 10 6 = σ 10 6) ∧ FL t σ
def XP (σ : zSt) (c : Core) (v : Int32) : Prop := XCore σ c ∧ cOk c ∧ σ 2 7 = v ∧ (σ 10 6 = v → XOrd σ c) ∧ (σ 15 9 = v → XDay σ (cN c) (bhd c))
theorem tLD {σ : zSt} {c : Core} {v : Int32} (h : XP σ c v) : zO mX6_labelDayNow [.ref 0] SH σ 15 (fun t => XL σ t c v) := tX6_labelDayNow h.1 h.2.1 h.2.2.1 h.2.2.2.1 h.2.2.2.2
/-- of the jobs of c: LENGTH, what stands in hour h + 1, who is idle -/
abbrev dLen (c : Core) : Nat := lenD (cN c) (bhd c) (lba (cN c) (bhd c)) (alln (cN c))
abbrev dLf (c : Core) : Nat → Nat → Bool := lfs (cN c) (bhd c) (lba (cN c) (bhd c)) (alln (cN c))
abbrev dF (c : Core) (h : Nat) : Option Nat := fstD (cN c) (bhd c) (lba (cN c) (bhd c)) (dLf c h)
abbrev dS (c : Core) (h : Nat) : Option Nat := sndD (cN c) (bhd c) (lba (cN c) (bhd c)) (dLf c h)
abbrev dHr (c : Core) : Nat → Nat := hrD (cN c) (bhd c) (lba (cN c) (bhd c)) (alln (cN c))
def idl (c : Core) : Nat → Bool := fun h => decide (dS c h = none)
/-- who stands in hour h + 1 -/
theorem dHr_iff {c : Core} (hc : cOk c) {h a : Nat} (ha : a < cN c) : dHr c a = h + 1 ↔ dF c h = some a ∨ dS c h = some a := by
  have ho := bhd_ord hc
  have e1 := hrD_iff (lab := lba (cN c) (bhd c)) (s := alln (cN c)) (h := h) (a := a) ho
  have e2 := hrD_iff (lab := lba (cN c) (bhd c)) (s := alln (cN c)) (h := h + 1) (a := a) ho
  have es : dLf c (h + 1) = rmo (rmo (dLf c h) (dF c h)) (dS c h) := rfl
  constructor
  · intro hh
    have h1 : dLf c h a = true := e1.mpr (by show h < dHr c a; omega)
    have h2 : ¬ dLf c (h + 1) a = true := fun q => by
      have : h + 1 < dHr c a := e2.mp q
      omega
    apply Classical.byContradiction
    intro hno
    apply h2
    rw [es]
    have k1 : rmo (dLf c h) (dF c h) a = true := by
      cases hf : dF c h with
      | none => exact h1
      | some b =>
        have : a ≠ b := fun e => hno (Or.inl (by rw [hf, e]))
        simp [rmo, rmv, h1, this]
    cases hs : dS c h with
    | none => exact k1
    | some b =>
      have : a ≠ b := fun e => hno (Or.inr (by rw [hs, e]))
      show rmv (rmo (dLf c h) (dF c h)) b a = true
      unfold rmv
      rw [k1]
      simp [this]
  · intro hh
    have h1 : dLf c h a = true := by
      rcases hh with hh | hh
      · have := (grt_some (show grt (bhd c) (lba (cN c) (bhd c)) (dLf c h) (dLf c h) (cN c) = some a from hh)).2.1
        simp only [Bool.and_eq_true] at this
        exact this.1
      · have := (grt_some (show grt (bhd c) (lba (cN c) (bhd c)) (rmo (dLf c h) (dF c h)) (dLf c h) (cN c) = some a from hh)).2.1
        simp only [Bool.and_eq_true] at this
        exact rmo_le this.1
    have h2 : dLf c (h + 1) a = false := by
      rw [es]
      rcases hh with hh | hh
      · cases hq : rmo (rmo (dLf c h) (dF c h)) (dS c h) a with
        | false => rfl
        | true =>
          have := rmo_le hq
          rw [hh] at this
          simp [rmo, rmv] at this
      · rw [hh]
        simp [rmo, rmv]
    have k1 : h < dHr c a := e1.mp h1
    have k2 : ¬ h + 1 < dHr c a := fun q => by
      have : dLf c (h + 1) a = true := e2.mpr q
      rw [h2] at this; cases this
    omega
/-- the second has the lesser LABEL -/
theorem dS_lt {c : Core} (hc : cOk c) {h a b : Nat} (hf : dF c h = some a) (hs : dS c h = some b) : a < cN c ∧ b < cN c ∧ a ≠ b ∧ lba (cN c) (bhd c) b < lba (cN c) (bhd c) a := by
  have ho := bhd_ord hc
  obtain ⟨k1, k2, k3⟩ := grt_some (show grt (bhd c) (lba (cN c) (bhd c)) (dLf c h) (dLf c h) (cN c) = some a from hf)
  obtain ⟨l1, l2, l3⟩ := grt_some (show grt (bhd c) (lba (cN c) (bhd c)) (rmo (dLf c h) (dF c h)) (dLf c h) (cN c) = some b from hs)
  rw [hf] at l2
  have hne : a ≠ b := by
    intro e
    rw [e] at l2
    simp [rmo, rmv] at l2
  have l4 : (dLf c h b && rdy (bhd c) (dLf c h) b) = true := by
    simp only [Bool.and_eq_true] at l2 ⊢
    exact ⟨rmo_le l2.1, l2.2⟩
  have := k3 b l1 l4
  have hne2 : lba (cN c) (bhd c) b ≠ lba (cN c) (bhd c) a := fun e => hne (lba_inj ho l1 e).symm
  exact ⟨k1, l1, hne, by omega⟩
theorem dF_ex {c : Core} (hc : cOk c) {h : Nat} (hh : h < dLen c) : ∃ a, dF c h = some a ∧ a < cN c := by
  have ho := bhd_ord hc
  obtain ⟨x, hx, hx1⟩ := anyb_iff.mp ((lenD_iff (lab := lba (cN c) (bhd c)) (s := alln (cN c)) (h := h) ho).mpr hh)
  obtain ⟨a, ha1, ha2, -⟩ := fst_ex (lab := lba (cN c) (bhd c)) (left := dLf c h) ho (fun x hx => (lfs_in hx).1) hx1
  exact ⟨a, ha1, (lfs_in ha2).1⟩
theorem dHr_le {c : Core} (hc : cOk c) {a : Nat} (ha : a < cN c) : 1 ≤ dHr c a ∧ dHr c a ≤ dLen c := by
  have ho := bhd_ord hc
  have h0 : dLf c 0 a = true := by
    show (decide (a < cN c) && alln (cN c) a) = true
    simp [ha]
  have h1 : 0 < dHr c a := (hrD_iff ho).mp h0
  refine ⟨h1, ?_⟩
  have h2 : dLf c (dHr c a - 1) a = true := (hrD_iff ho).mpr (by show dHr c a - 1 < dHr c a; omega)
  have h3 : dHr c a - 1 < dLen c := (lenD_iff ho).mp (anyb_iff.mpr ⟨a, ha, h2⟩)
  omega
theorem tX6_least {σ : zSt} {c : Core} {v : Int32} (h : XP σ c v) : zI mX6_least [.ref 0] SH σ (fun x t => x = nI (dLen c) ∧ XL σ t c v) := by
  refine zI_of (ls := [some (.ref 0)]) (by decide) rfl rfl ?_
  refine za_aload_n (pc := 0) dX6_least_0 rfl ?_
  refine za_cV0r (pc := 1) (μ' := mX6_labelDayNow) dX6_least_1 c_X6_160 rfl rfl rfl ⟨rfl, rfl⟩ ⟨rfl, rfl⟩ rfl rfl rfl (tLD h) (fun t_1 h_1 => ?_)
  refine za_getI (pc := 4) dX6_least_4 lk_X6_187 rfl rfl ?_
  refine za_ri (pc := 7) dX6_least_7 rfl rfl rfl ?_
  exact ⟨h_1.1.2.2, h_1⟩
theorem tX7_all {σ : zSt} {n : Nat} (hn : n ≤ 10) (hj : σ 47 3 = nI n) : zI mX7_all [.ref 47] SH σ (fun x t => x = zmask (alln n) ∧ t = σ) := by
  refine zI_of (ls := [some (.ref 47)]) (by decide) rfl rfl ?_
  refine za_iconst (pc := 0) (1) dX7_all_0 (by decide) ?_
  refine za_aload_n (pc := 1) dX7_all_1 rfl ?_
  refine za_getI (pc := 2) dX7_all_2 lk_X7_91 rfl rfl ?_
  refine za_ishl (pc := 5) dX7_all_5 ?_
  refine za_iconst (pc := 6) (1) dX7_all_6 (by decide) ?_
  refine za_isub (pc := 7) dX7_all_7 ?_
  refine za_ri (pc := 8) dX7_all_8 rfl rfl rfl ?_
  rw [hj, zm_all (by omega)]
  exact ⟨rfl, rfl⟩
/-- the reference's jobs as its private methods need them -/
def MP (σ : zSt) (c : Core) : Prop := MCore σ c ∧ cOk c
theorem tMD {σ : zSt} {c : Core} {s : Nat → Bool} (h : MP σ c) (hs : ∀ a, a < 16 → s a = true → a < cN c) : zV mX7_layDay [.ref 47, .int (zmask s)] SH σ (fun t => MDay t (cN c) (bhd c) s ∧ FMD t σ) := tX7_layDay (bhd_ord h.2) h.2.1 hs h.1.1 (fun a ha => (h.1.2 a ha).2.2.2.2)
theorem tMA {σ : zSt} {c : Core} (h : MP σ c) : zV mX7_layDay [.ref 47, .int (zmask (alln (cN c)))] SH σ (fun t => MDay t (cN c) (bhd c) (alln (cN c)) ∧ FMD t σ) := tMD h (fun a _ ha => by simpa using ha)
theorem tX7_least {σ : zSt} {c : Core} (h : MP σ c) : zI mX7_least [.ref 47] SH σ (fun x t => x = nI (dLen c) ∧ FMD t σ) := by
  refine zI_of (ls := [some (.ref 47)]) (by decide) rfl rfl ?_
  refine za_aload_n (pc := 0) dX7_least_0 rfl ?_
  refine za_aload_n (pc := 1) dX7_least_1 rfl ?_
  refine za_cV0i (pc := 2) (μ' := mX7_all) dX7_least_2 c_X7_161 rfl rfl rfl ⟨rfl, rfl⟩ ⟨rfl, rfl⟩ rfl rfl rfl (tX7_all h.2.1 h.1.1) (fun x_2 t_2 h_2 => ?_)
  obtain ⟨rfl, h9⟩ := h_2
  have h9 := h9.symm
  subst h9
  refine za_cV1v (pc := 5) (μ' := mX7_layDay) dX7_least_5 c_X7_168 rfl rfl rfl ⟨rfl, rfl⟩ ⟨rfl, rfl⟩ rfl rfl rfl (tMA h) (fun t_5 h_5 => ?_)
  obtain ⟨d1, d2⟩ := h_5
  refine za_aload_n (pc := 8) dX7_least_8 rfl ?_
  refine za_getI (pc := 9) dX7_least_9 lk_X7_146 rfl rfl ?_
  refine za_ri (pc := 12) dX7_least_12 rfl rfl rfl ?_
  exact ⟨d1.2.2.2, d2⟩
def spDay (c : Core) (h i : Int32) : Int32 := if h < 1 ∨ i < 0 ∨ 1 < i then -1 else if (dLen c : Int) < h.toInt then -3 else if i = 0 then pkB (dF c (h.toNatClampNeg - 1)) else pkB (dS c (h.toNatClampNeg - 1))
theorem hour_ix {c : Core} {h : Int32} (hl : dLen c ≤ 10) (h1 : ¬ h < 1) (h2 : ¬ (dLen c : Int) < h.toInt) : ∃ k, k < dLen c ∧ h = nI (k + 1) := by
  rw [fa_lt] at h1
  have e1 : (1 : Int32).toInt = 1 := rfl
  obtain ⟨j, hj, rfl⟩ := vp_in_of (x := h) (n := 11) (vp_in_iff.mpr (by omega)) (by omega)
  rw [nI_toInt (by omega)] at h1 h2
  exact ⟨j - 1, by omega, by congr 1; omega⟩
theorem dLen10 {c : Core} (hc : cOk c) : dLen c ≤ 10 := Nat.le_trans lenD_le hc.1
theorem tX6_day {σ : zSt} {c : Core} {v h i : Int32} (hp : XP σ c v) : zI mX6_day [.ref 0, .int h, .int i] SH σ (fun x t => x = spDay c h i ∧ (t = σ ∨ XL σ t c v)) := by
  have hl := dLen10 hp.2.1
  refine zI_of (ls := [some (.ref 0), some (.int h), some (.int i), none]) (by decide) rfl rfl ?_
  refine za_iload_n (pc := 0) dX6_day_0 rfl ?_
  refine za_iconst (pc := 1) (1) dX6_day_1 (by decide) ?_
  refine za_icmp_lt (pc := 2) 14 dX6_day_2 (by decide) (fun c2 => ?_) (fun c2 => ?_)
  · refine za_iconst (pc := 14) (-1) dX6_day_14 (by decide) ?_
    refine za_ri (pc := 15) dX6_day_15 rfl rfl rfl ?_
    exact ⟨by rw [spDay, if_pos (Or.inl c2)], Or.inl rfl⟩
  refine za_iload_n (pc := 5) dX6_day_5 rfl ?_
  refine za_if_lt (pc := 6) 14 dX6_day_6 (by decide) (fun c6 => ?_) (fun c6 => ?_)
  · refine za_iconst (pc := 14) (-1) dX6_day_14 (by decide) ?_
    refine za_ri (pc := 15) dX6_day_15 rfl rfl rfl ?_
    exact ⟨by rw [spDay, if_pos (Or.inr (Or.inl c6))], Or.inl rfl⟩
  refine za_iload_n (pc := 9) dX6_day_9 rfl ?_
  refine za_iconst (pc := 10) (1) dX6_day_10 (by decide) ?_
  refine za_icmp_le (pc := 11) 16 dX6_day_11 (by decide) (fun c11 => ?_) (fun c11 => ?_)
  · have hb : ¬ (h < 1 ∨ i < 0 ∨ 1 < i) := fun q => q.elim c2 (fun q => q.elim c6 (fun q => absurd c11 (Int32.not_le.mpr q)))
    refine za_aload_n (pc := 16) dX6_day_16 rfl ?_
    refine za_cV0r (pc := 17) (μ' := mX6_labelDayNow) dX6_day_17 c_X6_160 rfl rfl rfl ⟨rfl, rfl⟩ ⟨rfl, rfl⟩ rfl rfl rfl (tLD hp) (fun t_17 h_17 => ?_)
    refine za_as3n (pc := 20) dX6_day_20 rfl ?_
    refine za_iload_n (pc := 21) dX6_day_21 rfl ?_
    refine za_aload_n (pc := 22) dX6_day_22 rfl ?_
    refine za_getI (pc := 23) dX6_day_23 lk_X6_187 rfl rfl ?_
    rw [show t_17 15 4 = nI (dLen c) from h_17.1.2.2]
    refine za_icmp_le (pc := 26) 32 dX6_day_26 (by decide) (fun c26 => ?_) (fun c26 => ?_)
    · have h2 : ¬ (dLen c : Int) < h.toInt := by rw [fa_le, nI_toInt (by omega)] at c26; omega
      obtain ⟨k, hk, rfl⟩ := hour_ix hl c2 h2
      have ek : (nI (k + 1)).toNatClampNeg = k + 1 := nI_clamp (by omega)
      have vk : vp_in (nI (k + 1)) 11 := vp_in_nI (by omega) (by decide)
      obtain ⟨d1, d2⟩ := h_17.1.2.1 k hk
      refine za_iload_n (pc := 32) dX6_day_32 rfl ?_
      refine za_if_ne (pc := 33) 45 dX6_day_33 (by decide) (fun c33 => ?_) (fun c33 => ?_)
      · refine za_aload_n (pc := 45) dX6_day_45 rfl ?_
        refine za_getR (pc := 46) dX6_day_46 lk_X6_193 rfl rfl ?_
        refine za_iload_n (pc := 49) dX6_day_49 rfl ?_
        refine za_iald (pc := 50) dX6_day_50 rfl vk ?_
        refine za_ri (pc := 51) dX6_day_51 rfl rfl rfl ?_
        rw [ek]
        exact ⟨by rw [spDay, if_neg hb, if_neg h2, if_neg c33, ek, Nat.add_sub_cancel]; exact d2, Or.inr h_17⟩
      · refine za_aload_n (pc := 36) dX6_day_36 rfl ?_
        refine za_getR (pc := 37) dX6_day_37 lk_X6_190 rfl rfl ?_
        refine za_iload_n (pc := 40) dX6_day_40 rfl ?_
        refine za_iald (pc := 41) dX6_day_41 rfl vk ?_
        refine za_goto (pc := 42) 51 dX6_day_42 (by decide) ?_
        refine za_ri (pc := 51) dX6_day_51 rfl rfl rfl ?_
        rw [ek]
        exact ⟨by rw [spDay, if_neg hb, if_neg h2, if_pos c33, ek, Nat.add_sub_cancel]; exact d1, Or.inr h_17⟩
    · have h2 : (dLen c : Int) < h.toInt := by rw [fa_le, nI_toInt (by omega)] at c26; omega
      refine za_bipush (pc := 29) (-3) dX6_day_29 (by decide) ?_
      refine za_ri (pc := 31) dX6_day_31 rfl rfl rfl ?_
      exact ⟨by rw [spDay, if_neg hb, if_pos h2], Or.inr h_17⟩
  · refine za_iconst (pc := 14) (-1) dX6_day_14 (by decide) ?_
    refine za_ri (pc := 15) dX6_day_15 rfl rfl rfl ?_
    exact ⟨by rw [spDay, if_pos (Or.inr (Or.inr (Int32.not_le.mp c11)))], Or.inl rfl⟩
/-- the first and the second of hour k + 1 among the jobs below q -/
def sF (c : Core) (k q : Nat) : Option Nat := match dF c k with
  | some a => if a < q then some a else (match dS c k with
    | some b => if b < q then some b else none
    | none => none)
  | none => none
def sS (c : Core) (k q : Nat) : Option Nat := match dF c k with
  | some a => if a < q then (match dS c k with
    | some b => if b < q then some b else none
    | none => none) else none
  | none => none
theorem tX7_day {σ : zSt} {c : Core} {h i : Int32} (hp : MP σ c) : zI mX7_day [.ref 47, .int h, .int i] SH σ (fun x t => x = spDay c h i ∧ (t = σ ∨ FMD t σ)) := by
  have hl := dLen10 hp.2
  have hn := hp.2.1
  refine zI_of (ls := [some (.ref 47), some (.int h), some (.int i), none, none, none, none]) (by decide) rfl rfl ?_
  refine za_iload_n (pc := 0) dX7_day_0 rfl ?_
  refine za_iconst (pc := 1) (1) dX7_day_1 (by decide) ?_
  refine za_icmp_lt (pc := 2) 15 dX7_day_2 (by decide) (fun c2 => ?_) (fun c2 => ?_)
  · refine za_iconst (pc := 15) (-1) dX7_day_15 (by decide) ?_
    refine za_ri (pc := 16) dX7_day_16 rfl rfl rfl ?_
    exact ⟨by rw [spDay, if_pos (Or.inl c2)], Or.inl rfl⟩
  refine za_iload_n (pc := 5) dX7_day_5 rfl ?_
  refine za_i2l (pc := 6) dX7_day_6 ?_
  refine za_lconst (pc := 7) (0) dX7_day_7 (by decide) ?_
  refine za_lconst (pc := 8) (1) dX7_day_8 (by decide) ?_
  refine za_cS3i (pc := 9) (μ' := mX7_in) dX7_day_9 c_X7_73 rfl ⟨rfl, rfl⟩ ⟨rfl, rfl⟩ rfl rfl rfl (tX7_in) (fun x_9 t_9 h_9 => ?_)
  obtain ⟨rfl, h9⟩ := h_9
  have h9 := h9.symm
  subst h9
  rw [zin_if (lo := 0) (hi := 1) (L := 0) (H := 1) rfl rfl]
  by_cases hi : 0 ≤ i ∧ i ≤ 1
  · rw [if_pos hi]
    have hb : ¬ (h < 1 ∨ i < 0 ∨ 1 < i) := fun q => q.elim c2 (fun q => q.elim (fun q => absurd hi.1 (Int32.not_le.mpr q)) (fun q => absurd hi.2 (Int32.not_le.mpr q)))
    refine za_if_ne (pc := 12) 17 dX7_day_12 (by decide) (fun c12 => ?_) (fun c12 => ?_)
    · refine za_aload_n (pc := 17) dX7_day_17 rfl ?_
      refine za_aload_n (pc := 18) dX7_day_18 rfl ?_
      refine za_cV0i (pc := 19) (μ' := mX7_all) dX7_day_19 c_X7_161 rfl rfl rfl ⟨rfl, rfl⟩ ⟨rfl, rfl⟩ rfl rfl rfl (tX7_all hn hp.1.1) (fun x_19 t_19 h_19 => ?_)
      obtain ⟨rfl, h9⟩ := h_19
      have h9 := h9.symm
      subst h9
      refine za_cV1v (pc := 22) (μ' := mX7_layDay) dX7_day_22 c_X7_168 rfl rfl rfl ⟨rfl, rfl⟩ ⟨rfl, rfl⟩ rfl rfl rfl (tMA hp) (fun t_22 h_22 => ?_)
      obtain ⟨d1, d2⟩ := h_22
      refine za_bipush (pc := 25) (-3) dX7_day_25 (by decide) ?_
      refine za_is3n (pc := 27) dX7_day_27 rfl ?_
      refine za_bipush (pc := 28) (-3) dX7_day_28 (by decide) ?_
      refine za_is4 (pc := 30) dX7_day_30 rfl ?_
      refine za_iconst (pc := 32) (0) dX7_day_32 (by decide) ?_
      refine za_is5 (pc := 33) dX7_day_33 rfl ?_
      generalize t_22 = t at *
      have tj : t 47 3 = nI (cN c) := by rw [d2.2 3 (by decide)]; exact hp.1.1
      have t61 : ∀ a, a < 10 → t 61 a = nI (lba (cN c) (bhd c) a) := d1.2.1
      have t62 : ∀ a, a < 10 → t 62 a = nI (dHr c a) := d1.2.2.1
      have hh10 : ∀ a, dHr c a ≤ 10 := fun a => Nat.le_trans hrD_le hn
      have fin : ∀ (x1 x2 : Int32), (i = 0 → x1 = spDay c h i) → (¬ i = 0 → x2 = spDay c h i) → ∀ y z, zA (zZ mX7_day (zQI SH (fun x t => x = spDay c h i ∧ (t = σ ∨ FMD t σ)))) mX7_day none 0 0 115 [some (.ref 47), some (.int h), some (.int i), some (.int x1), some (.int x2), y, z] [] SH t := by
        intro x1 x2 e1 e2 y z
        refine za_iload_n (pc := 115) dX7_day_115 rfl ?_
        refine za_if_ne (pc := 116) 123 dX7_day_116 (by decide) (fun c116 => ?_) (fun c116 => ?_)
        · refine za_iload (pc := 123) dX7_day_123 rfl ?_
          refine za_ri (pc := 125) dX7_day_125 rfl rfl rfl ?_
          exact ⟨e2 c116, Or.inr d2⟩
        · refine za_iload_n (pc := 119) dX7_day_119 rfl ?_
          refine za_goto (pc := 120) 125 dX7_day_120 (by decide) ?_
          refine za_ri (pc := 125) dX7_day_125 rfl rfl rfl ?_
          exact ⟨e1 c116, Or.inr d2⟩
      by_cases h2 : (dLen c : Int) < h.toInt
      · -- no job stands in that hour
        have loop : ∀ (q k : Nat), k + q = cN c → zA (zZ mX7_day (zQI SH (fun x t => x = spDay c h i ∧ (t = σ ∨ FMD t σ)))) mX7_day none 0 0 35 [some (.ref 47), some (.int h), some (.int i), some (.int (-3)), some (.int (-3)), some (.int (nI k)), none] [] SH t := by
          intro q
          induction q with
          | zero =>
            intro k hk
            refine za_iload (pc := 35) dX7_day_35 rfl ?_
            refine za_aload_n (pc := 37) dX7_day_37 rfl ?_
            refine za_getI (pc := 38) dX7_day_38 lk_X7_91 rfl rfl ?_
            rw [tj]
            refine za_icmp_ge (pc := 41) 115 dX7_day_41 (by decide) (fun c41 => ?_) (fun c41 => ?_)
            · exact fin _ _ (fun _ => by rw [spDay, if_neg hb, if_pos h2]) (fun _ => by rw [spDay, if_neg hb, if_pos h2]) _ _
            · exact absurd (nI_le (show cN c ≤ k by omega) (by omega)) c41
          | succ q ih =>
            intro k hk
            have vk : vp_in (nI k) 10 := vp_in_nI (by omega) (by decide)
            have ek : (nI k).toNatClampNeg = k := nI_clamp (by omega)
            refine za_iload (pc := 35) dX7_day_35 rfl ?_
            refine za_aload_n (pc := 37) dX7_day_37 rfl ?_
            refine za_getI (pc := 38) dX7_day_38 lk_X7_91 rfl rfl ?_
            rw [tj]
            refine za_icmp_ge (pc := 41) 115 dX7_day_41 (by decide) (fun c41 => ?_) (fun c41 => ?_)
            · exact absurd c41 (nI_ge (show k < cN c by omega) (by omega))
            · refine za_aload_n (pc := 44) dX7_day_44 rfl ?_
              refine za_getR (pc := 45) dX7_day_45 lk_X7_52 rfl rfl ?_
              refine za_iload (pc := 48) dX7_day_48 rfl ?_
              refine za_iald (pc := 50) dX7_day_50 rfl vk ?_
              refine za_iload_n (pc := 51) dX7_day_51 rfl ?_
              rw [ek, t62 k (by omega)]
              refine za_icmp_ne (pc := 52) 109 dX7_day_52 (by decide) (fun c52 => ?_) (fun c52 => ?_)
              · refine za_ii5 (pc := 109) (1) dX7_day_109 (by decide) rfl ?_
                refine za_goto (pc := 112) 35 dX7_day_112 (by decide) ?_
                rw [nI_1]
                exact ih (k + 1) (by omega)
              · have := (dHr_le hp.2 (show k < cN c by omega)).2
                have h9 := hh10 k
                rw [← c52, nI_toInt (by omega)] at h2
                omega
        exact loop (cN c) 0 (by omega)
      · obtain ⟨k, hk, rfl⟩ := hour_ix hl c2 h2
        have ek1 : (nI (k + 1)).toNatClampNeg = k + 1 := nI_clamp (by omega)
        obtain ⟨a, haF, han⟩ := dF_ex hp.2 hk
        have loop : ∀ (q x : Nat) (z : Option Value), x + q = cN c → zA (zZ mX7_day (zQI SH (fun x t => x = spDay c (nI (k + 1)) i ∧ (t = σ ∨ FMD t σ)))) mX7_day none 0 0 35 [some (.ref 47), some (.int (nI (k + 1))), some (.int i), some (.int (pkB (sF c k x))), some (.int (pkB (sS c k x))), some (.int (nI x)), none] [] SH t := by
          intro q
          induction q with
          | zero =>
            intro x z hx
            refine za_iload (pc := 35) dX7_day_35 rfl ?_
            refine za_aload_n (pc := 37) dX7_day_37 rfl ?_
            refine za_getI (pc := 38) dX7_day_38 lk_X7_91 rfl rfl ?_
            rw [tj]
            refine za_icmp_ge (pc := 41) 115 dX7_day_41 (by decide) (fun c41 => ?_) (fun c41 => ?_)
            · refine fin _ _ (fun e => ?_) (fun e => ?_) _ _
              · rw [spDay, if_neg hb, if_neg h2, if_pos e, ek1, Nat.add_sub_cancel, sF, haF]
                simp only
                rw [if_pos (by omega)]
              · rw [spDay, if_neg hb, if_neg h2, if_neg e, ek1, Nat.add_sub_cancel, sS, haF]
                simp only
                rw [if_pos (by omega)]
                cases hS : dS c k with
                | none => rfl
                | some b =>
                  simp only
                  rw [if_pos (by have := (dS_lt hp.2 haF hS).2.1; omega)]
            · exact absurd (nI_le (show cN c ≤ x by omega) (by omega)) c41
          | succ q ih =>
            intro x z hx
            have vx : vp_in (nI x) 10 := vp_in_nI (by omega) (by decide)
            have ex : (nI x).toNatClampNeg = x := nI_clamp (by omega)
            have hxn : x < cN c := by omega
            have next : ∀ (x1 x2 : Int32) (y : Option Value), x1 = pkB (sF c k (x + 1)) → x2 = pkB (sS c k (x + 1)) → zA (zZ mX7_day (zQI SH (fun x t => x = spDay c (nI (k + 1)) i ∧ (t = σ ∨ FMD t σ)))) mX7_day none 0 0 109 [some (.ref 47), some (.int (nI (k + 1))), some (.int i), some (.int x1), some (.int x2), some (.int (nI x)), y] [] SH t := by
              intro x1 x2 y e1 e2
              refine za_ii5 (pc := 109) (1) dX7_day_109 (by decide) rfl ?_
              refine za_goto (pc := 112) 35 dX7_day_112 (by decide) ?_
              rw [nI_1, e1, e2]
              exact za_fg (by simp [zSub]) (ih (x + 1) none (by omega))
            have put : ∀ (m : Int32) (x1 x2 : Int32), (m = 0 ∨ m = 1) → (m = 1 → nI x = pkB (sF c k (x + 1)) ∧ x1 = pkB (sS c k (x + 1))) → (m = 0 → x1 = pkB (sF c k (x + 1)) ∧ nI x = pkB (sS c k (x + 1))) → zA (zZ mX7_day (zQI SH (fun x t => x = spDay c (nI (k + 1)) i ∧ (t = σ ∨ FMD t σ)))) mX7_day none 0 0 82 [some (.ref 47), some (.int (nI (k + 1))), some (.int i), some (.int x1), some (.int x2), some (.int (nI x)), none] [.int m] SH t := by
              intro m x1 x2 hm e1 e0
              refine za_is6 (pc := 82) dX7_day_82 rfl ?_
              refine za_iload (pc := 84) dX7_day_84 rfl ?_
              refine za_if_eq (pc := 86) 93 dX7_day_86 (by decide) (fun c86 => ?_) (fun c86 => ?_)
              · obtain ⟨e3, e4⟩ := e0 c86
                refine za_iload (pc := 93) dX7_day_93 rfl ?_
                refine za_is4 (pc := 95) dX7_day_95 rfl ?_
                refine za_iload (pc := 97) dX7_day_97 rfl ?_
                refine za_if_eq (pc := 99) 107 dX7_day_99 (by decide) (fun c99 => ?_) (fun c99 => ?_)
                · refine za_iload_n (pc := 107) dX7_day_107 rfl ?_
                  refine za_is3n (pc := 108) dX7_day_108 rfl ?_
                  exact next _ _ _ e3 e4
                · exact absurd c86 c99
              · obtain ⟨e3, e4⟩ := e1 (hm.elim (fun q => absurd q c86) id)
                refine za_iload_n (pc := 89) dX7_day_89 rfl ?_
                refine za_goto (pc := 90) 95 dX7_day_90 (by decide) ?_
                refine za_is4 (pc := 95) dX7_day_95 rfl ?_
                refine za_iload (pc := 97) dX7_day_97 rfl ?_
                refine za_if_eq (pc := 99) 107 dX7_day_99 (by decide) (fun c99 => ?_) (fun c99 => ?_)
                · exact absurd c99 c86
                · refine za_iload (pc := 102) dX7_day_102 rfl ?_
                  refine za_goto (pc := 104) 108 dX7_day_104 (by decide) ?_
                  refine za_is3n (pc := 108) dX7_day_108 rfl ?_
                  exact next _ _ _ e3 e4
            refine za_iload (pc := 35) dX7_day_35 rfl ?_
            refine za_aload_n (pc := 37) dX7_day_37 rfl ?_
            refine za_getI (pc := 38) dX7_day_38 lk_X7_91 rfl rfl ?_
            rw [tj]
            refine za_icmp_ge (pc := 41) 115 dX7_day_41 (by decide) (fun c41 => ?_) (fun c41 => ?_)
            · exact absurd c41 (nI_ge (show x < cN c by omega) (by omega))
            · refine za_aload_n (pc := 44) dX7_day_44 rfl ?_
              refine za_getR (pc := 45) dX7_day_45 lk_X7_52 rfl rfl ?_
              refine za_iload (pc := 48) dX7_day_48 rfl ?_
              refine za_iald (pc := 50) dX7_day_50 rfl vx ?_
              refine za_iload_n (pc := 51) dX7_day_51 rfl ?_
              rw [ex, t62 x (by omega)]
              refine za_icmp_ne (pc := 52) 109 dX7_day_52 (by decide) (fun c52 => ?_) (fun c52 => ?_)
              · have hno : ¬ (dF c k = some x ∨ dS c k = some x) := fun q => c52 (by rw [(dHr_iff hp.2 hxn).mpr q])
                have hax : a ≠ x := fun e => hno (Or.inl (by rw [haF, e]))
                refine next _ _ _ ?_ ?_
                · unfold sF
                  rw [haF]
                  simp only
                  cases hS : dS c k with
                  | none => simp only; by_cases h9 : a < x <;> simp [h9, show (a < x + 1) ↔ a < x by omega]
                  | some b =>
                    have hbx : b ≠ x := fun e => hno (Or.inr (by rw [hS, e]))
                    simp only [show (a < x + 1) ↔ a < x by omega, show (b < x + 1) ↔ b < x by omega]
                · unfold sS
                  rw [haF]
                  simp only
                  cases hS : dS c k with
                  | none => simp only; by_cases h9 : a < x <;> simp [h9, show (a < x + 1) ↔ a < x by omega]
                  | some b =>
                    have hbx : b ≠ x := fun e => hno (Or.inr (by rw [hS, e]))
                    simp only [show (a < x + 1) ↔ a < x by omega, show (b < x + 1) ↔ b < x by omega]
              · have h9 := hh10 x
                have hyes := (dHr_iff hp.2 hxn).mp ((nI_eq (by omega) (by omega)).mp c52)
                by_cases hxa : x = a
                · -- the first comes
                  subst hxa
                  cases hS : dS c k with
                  | none =>
                    have e1 : sF c k x = none := by unfold sF; rw [haF, hS]; simp
                    have e2 : sF c k (x + 1) = some x := by unfold sF; rw [haF, hS]; simp
                    have e3 : sS c k (x + 1) = none := by unfold sS; rw [haF, hS]; simp
                    rw [e1]
                    refine za_iload_n (pc := 55) dX7_day_55 rfl ?_
                    refine za_bipush (pc := 56) (-3) dX7_day_56 (by decide) ?_
                    refine za_icmp_eq (pc := 58) 77 dX7_day_58 (by decide) (fun c58 => ?_) (fun c58 => ?_)
                    · refine za_iconst (pc := 77) (1) dX7_day_77 (by decide) ?_
                      refine za_goto (pc := 78) 82 dX7_day_78 (by decide) ?_
                      exact put 1 _ _ (Or.inr rfl) (fun _ => ⟨by rw [e2]; rfl, by rw [e3]⟩) (fun q => absurd q (by decide))
                    · exact absurd rfl c58
                  | some b =>
                    obtain ⟨-, hbn, hne, hlt⟩ := dS_lt hp.2 haF hS
                    by_cases hbx : b < x
                    · have e1 : sF c k x = some b := by unfold sF; rw [haF, hS]; simp [hbx]
                      have e2 : sF c k (x + 1) = some x := by unfold sF; rw [haF, hS]; simp
                      have e3 : sS c k (x + 1) = some b := by unfold sS; rw [haF, hS]; simp; omega
                      have vb : vp_in (nI b) 10 := vp_in_nI (by omega) (by decide)
                      have eb : (nI b).toNatClampNeg = b := nI_clamp (by omega)
                      have l1 := Nat.le_trans (lba_le (bhd_ord hp.2) x) hn
                      have l2 := Nat.le_trans (lba_le (bhd_ord hp.2) b) hn
                      rw [e1, show pkB (some b) = nI b from rfl]
                      refine za_iload_n (pc := 55) dX7_day_55 rfl ?_
                      refine za_bipush (pc := 56) (-3) dX7_day_56 (by decide) ?_
                      refine za_icmp_eq (pc := 58) 77 dX7_day_58 (by decide) (fun c58 => ?_) (fun c58 => ?_)
                      · exact absurd c58 (pkB_ne (by omega))
                      · refine za_aload_n (pc := 61) dX7_day_61 rfl ?_
                        refine za_getR (pc := 62) dX7_day_62 lk_X7_49 rfl rfl ?_
                        refine za_iload (pc := 65) dX7_day_65 rfl ?_
                        refine za_iald (pc := 67) dX7_day_67 rfl vx ?_
                        refine za_aload_n (pc := 68) dX7_day_68 rfl ?_
                        refine za_getR (pc := 69) dX7_day_69 lk_X7_49 rfl rfl ?_
                        refine za_iload_n (pc := 72) dX7_day_72 rfl ?_
                        refine za_iald (pc := 73) dX7_day_73 rfl vb ?_
                        rw [ex, eb, t61 x (by omega), t61 b (by omega)]
                        refine za_icmp_le (pc := 74) 81 dX7_day_74 (by decide) (fun c74 => ?_) (fun c74 => ?_)
                        · rw [nI_leI (by omega) (by omega)] at c74
                          omega
                        · refine za_iconst (pc := 77) (1) dX7_day_77 (by decide) ?_
                          refine za_goto (pc := 78) 82 dX7_day_78 (by decide) ?_
                          exact put 1 _ _ (Or.inr rfl) (fun _ => ⟨by rw [e2]; rfl, by rw [e3]; rfl⟩) (fun q => absurd q (by decide))
                    · have e1 : sF c k x = none := by unfold sF; rw [haF, hS]; simp [hbx]
                      have e2 : sF c k (x + 1) = some x := by unfold sF; rw [haF, hS]; simp
                      have e3 : sS c k (x + 1) = none := by unfold sS; rw [haF, hS]; simp; omega
                      rw [e1]
                      refine za_iload_n (pc := 55) dX7_day_55 rfl ?_
                      refine za_bipush (pc := 56) (-3) dX7_day_56 (by decide) ?_
                      refine za_icmp_eq (pc := 58) 77 dX7_day_58 (by decide) (fun c58 => ?_) (fun c58 => ?_)
                      · refine za_iconst (pc := 77) (1) dX7_day_77 (by decide) ?_
                        refine za_goto (pc := 78) 82 dX7_day_78 (by decide) ?_
                        exact put 1 _ _ (Or.inr rfl) (fun _ => ⟨by rw [e2]; rfl, by rw [e3]⟩) (fun q => absurd q (by decide))
                      · exact absurd rfl c58
                · -- the second comes
                  have hS : dS c k = some x := hyes.elim (fun q => absurd (Option.some.inj (haF.symm.trans q)).symm hxa) id
                  obtain ⟨-, -, hne, hlt⟩ := dS_lt hp.2 haF hS
                  by_cases hax : a < x
                  · have e1 : sF c k x = some a := by unfold sF; rw [haF]; simp [hax]
                    have e2 : sF c k (x + 1) = some a := by unfold sF; rw [haF]; simp; omega
                    have e3 : sS c k (x + 1) = some x := by unfold sS; rw [haF, hS]; simp; omega
                    have va : vp_in (nI a) 10 := vp_in_nI (by omega) (by decide)
                    have ea : (nI a).toNatClampNeg = a := nI_clamp (by omega)
                    have l1 := Nat.le_trans (lba_le (bhd_ord hp.2) x) hn
                    have l2 := Nat.le_trans (lba_le (bhd_ord hp.2) a) hn
                    rw [e1, show pkB (some a) = nI a from rfl]
                    refine za_iload_n (pc := 55) dX7_day_55 rfl ?_
                    refine za_bipush (pc := 56) (-3) dX7_day_56 (by decide) ?_
                    refine za_icmp_eq (pc := 58) 77 dX7_day_58 (by decide) (fun c58 => ?_) (fun c58 => ?_)
                    · exact absurd c58 (pkB_ne (by omega))
                    · refine za_aload_n (pc := 61) dX7_day_61 rfl ?_
                      refine za_getR (pc := 62) dX7_day_62 lk_X7_49 rfl rfl ?_
                      refine za_iload (pc := 65) dX7_day_65 rfl ?_
                      refine za_iald (pc := 67) dX7_day_67 rfl vx ?_
                      refine za_aload_n (pc := 68) dX7_day_68 rfl ?_
                      refine za_getR (pc := 69) dX7_day_69 lk_X7_49 rfl rfl ?_
                      refine za_iload_n (pc := 72) dX7_day_72 rfl ?_
                      refine za_iald (pc := 73) dX7_day_73 rfl va ?_
                      rw [ex, ea, t61 x (by omega), t61 a (by omega)]
                      refine za_icmp_le (pc := 74) 81 dX7_day_74 (by decide) (fun c74 => ?_) (fun c74 => ?_)
                      · refine za_iconst (pc := 81) (0) dX7_day_81 (by decide) ?_
                        exact put 0 _ _ (Or.inl rfl) (fun q => absurd q (by decide)) (fun _ => ⟨by rw [e2]; rfl, by rw [e3]; rfl⟩)
                      · rw [nI_leI (by omega) (by omega)] at c74
                        omega
                  · have e1 : sF c k x = none := by unfold sF; rw [haF, hS]; simp [hax]
                    have e2 : sF c k (x + 1) = some x := by unfold sF; rw [haF, hS]; simp; omega
                    have e3 : sS c k (x + 1) = none := by unfold sS; rw [haF, hS]; simp; omega
                    rw [e1]
                    refine za_iload_n (pc := 55) dX7_day_55 rfl ?_
                    refine za_bipush (pc := 56) (-3) dX7_day_56 (by decide) ?_
                    refine za_icmp_eq (pc := 58) 77 dX7_day_58 (by decide) (fun c58 => ?_) (fun c58 => ?_)
                    · refine za_iconst (pc := 77) (1) dX7_day_77 (by decide) ?_
                      refine za_goto (pc := 78) 82 dX7_day_78 (by decide) ?_
                      exact put 1 _ _ (Or.inr rfl) (fun _ => ⟨by rw [e2]; rfl, by rw [e3]⟩) (fun q => absurd q (by decide))
                    · exact absurd rfl c58
        have goal := loop (cN c) 0 none (by omega)
        have f0 : sF c k 0 = none := by
          unfold sF
          rw [haF]
          cases dS c k <;> simp
        have s0 : sS c k 0 = none := by
          unfold sS
          rw [haF]
          simp
        rw [f0, s0] at goal
        exact goal
    · exact absurd c12 (by decide)
  · rw [if_neg hi]
    refine za_if_ne (pc := 12) 17 dX7_day_12 (by decide) (fun c12 => ?_) (fun c12 => ?_)
    · exact absurd rfl c12
    · refine za_iconst (pc := 15) (-1) dX7_day_15 (by decide) ?_
      refine za_ri (pc := 16) dX7_day_16 rfl rfl rfl ?_
      refine ⟨?_, Or.inl rfl⟩
      rw [spDay, if_pos]
      rcases Int32.lt_or_le i 0 with q | q
      · exact Or.inr (Or.inl q)
      · exact Or.inr (Or.inr (Int32.not_le.mp (fun q2 => hi ⟨q, q2⟩)))
