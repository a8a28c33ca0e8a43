/-! IDLE HOURS -/
def idR (L : Nat) (p : Nat → Bool) (i x : Int32) : Prop := (∃ h, h < L ∧ p h = true ∧ i = nI (cnt p h) ∧ x = nI (h + 1)) ∨ ((∀ h, h < L → p h = true → ¬ i = nI (cnt p h)) ∧ x = -3)
theorem cnt_ltp {p : Nat → Bool} {h k : Nat} (hp : p h = true) (hk : h < k) : cnt p h < cnt p k := by
  induction k with
  | zero => omega
  | succ k ih =>
    show cnt p h < cnt p k + (if p k = true then 1 else 0)
    rcases Nat.lt_or_ge h k with q | q
    · have := ih q; omega
    · rw [show k = h by omega, hp, if_pos rfl]
      omega
theorem cnt_t {p : Nat → Bool} {h : Nat} (hp : p h = true) : cnt p (h + 1) = cnt p h + 1 := by
  show cnt p h + (if p h = true then 1 else 0) = _
  rw [hp, if_pos rfl]
theorem cnt_f {p : Nat → Bool} {h : Nat} (hp : p h = false) : cnt p (h + 1) = cnt p h := by
  show cnt p h + (if p h = true then 1 else 0) = _
  rw [hp, if_neg (by decide), Nat.add_zero]
theorem idR_fun {L : Nat} {p : Nat → Bool} {i x y : Int32} (hL : L ≤ 10) (hx : idR L p i x) (hy : idR L p i y) : x = y := by
  rcases hx with ⟨h, h1, h2, h3, rfl⟩ | ⟨h1, rfl⟩ <;> rcases hy with ⟨k, k1, k2, k3, rfl⟩ | ⟨k1, rfl⟩
  · have e : cnt p h = cnt p k := (nI_eq (by have := cnt_le p h; omega) (by have := cnt_le p k; omega)).mp (h3.symm.trans k3)
    rcases Nat.lt_trichotomy h k with q | q | q
    · have := cnt_ltp h2 q; omega
    · rw [q]
    · have := cnt_ltp k2 q; omega
  · exact absurd h3 (k1 h h1 h2)
  · exact absurd k3 (h1 k k1 k2)
  · rfl
theorem pkB_no {o : Option Nat} (h : ∀ a, o = some a → a < 10) : pkB o = -3 ↔ o = none := by
  cases o with
  | none => exact ⟨fun _ => rfl, fun _ => rfl⟩
  | some a => exact ⟨fun q => absurd q (pkB_ne (h a rfl)), fun q => by cases q⟩
theorem dS_10 {c : Core} (hc : cOk c) {h a : Nat} (hs : dS c h = some a) : a < 10 := by
  have := (grt_some (show grt (bhd c) (lba (cN c) (bhd c)) (rmo (dLf c h) (dF c h)) (dLf c h) (cN c) = some a from hs)).1
  have := hc.1
  omega
theorem tX1_idleHour {σ : zSt} {c : Core} {i : Int32} (hc : cOk c) (hD : XDay σ (cN c) (bhd c)) : zI mX1_idleHour [.ref 15, .int i] SH σ (fun x t => idR (dLen c) (idl c) i x ∧ t = σ) := by
  have hl := dLen10 hc
  have hlen : σ 15 4 = nI (dLen c) := hD.2.2
  refine zI_of (ls := [some (.ref 15), some (.int i), none, none]) (by decide) rfl rfl ?_
  refine za_iconst (pc := 0) (0) dX1_idleHour_0 (by decide) ?_
  refine za_is2n (pc := 1) dX1_idleHour_1 rfl ?_
  refine za_iconst (pc := 2) (1) dX1_idleHour_2 (by decide) ?_
  refine za_is3n (pc := 3) dX1_idleHour_3 rfl ?_
  have loop : ∀ (q h : Nat), h + q = dLen c → (∀ k, k < h → idl c k = true → ¬ i = nI (cnt (idl c) k)) → zA (zZ mX1_idleHour (zQI SH (fun x t => idR (dLen c) (idl c) i x ∧ t = σ))) mX1_idleHour none 0 0 4 [some (.ref 15), some (.int i), some (.int (nI (cnt (idl c) h))), some (.int (nI (h + 1)))] [] SH σ := by
    intro q
    induction q with
    | zero =>
      intro h hh hno
      refine za_iload_n (pc := 4) dX1_idleHour_4 rfl ?_
      refine za_aload_n (pc := 5) dX1_idleHour_5 rfl ?_
      refine za_getI (pc := 6) dX1_idleHour_6 lk_X1_24 rfl rfl ?_
      rw [hlen]
      refine za_icmp_gt (pc := 9) 39 dX1_idleHour_9 (by decide) (fun c9 => ?_) (fun c9 => ?_)
      · refine za_bipush (pc := 39) (-3) dX1_idleHour_39 (by decide) ?_
        refine za_ri (pc := 41) dX1_idleHour_41 rfl rfl rfl ?_
        exact ⟨Or.inr ⟨fun k hk => hno k (by omega), rfl⟩, rfl⟩
      · exact absurd (nI_lt (show dLen c < h + 1 by omega) (by omega)) c9
    | succ q ih =>
      intro h hh hno
      have vh : vp_in (nI (h + 1)) 11 := vp_in_nI (by omega) (by decide)
      have eh : (nI (h + 1)).toNatClampNeg = h + 1 := nI_clamp (by omega)
      have d2 := (hD.2.1 h (by show h < dLen c; omega)).2
      have d2 : σ 19 (h + 1) = pkB (dS c h) := d2
      refine za_iload_n (pc := 4) dX1_idleHour_4 rfl ?_
      refine za_aload_n (pc := 5) dX1_idleHour_5 rfl ?_
      refine za_getI (pc := 6) dX1_idleHour_6 lk_X1_24 rfl rfl ?_
      rw [hlen]
      refine za_icmp_gt (pc := 9) 39 dX1_idleHour_9 (by decide) (fun c9 => ?_) (fun c9 => ?_)
      · exact absurd c9 (nI_nlt (show h + 1 ≤ dLen c by omega) (by omega))
      · refine za_aload_n (pc := 12) dX1_idleHour_12 rfl ?_
        refine za_getR (pc := 13) dX1_idleHour_13 lk_X1_21 rfl rfl ?_
        refine za_iload_n (pc := 16) dX1_idleHour_16 rfl ?_
        refine za_iald (pc := 17) dX1_idleHour_17 rfl vh ?_
        refine za_bipush (pc := 18) (-3) dX1_idleHour_18 (by decide) ?_
        rw [eh, d2]
        refine za_icmp_ne (pc := 20) 33 dX1_idleHour_20 (by decide) (fun c20 => ?_) (fun c20 => ?_)
        · have hid : idl c h = false := by
            unfold idl
            rw [pkB_no (fun a ha => dS_10 hc ha)] at c20
            simp [c20]
          refine za_ii3 (pc := 33) (1) dX1_idleHour_33 (by decide) rfl ?_
          refine za_goto (pc := 36) 4 dX1_idleHour_36 (by decide) ?_
          rw [nI_1]
          have := ih (h + 1) (by omega) (fun k hk hk2 => by
            rcases Nat.lt_or_ge k h with q | q
            · exact hno k q hk2
            · rw [show k = h by omega, hid] at hk2; cases hk2)
          rw [cnt_f hid] at this
          exact this
        · have hid : idl c h = true := by
            unfold idl
            rw [pkB_no (fun a ha => dS_10 hc ha)] at c20
            simp [c20]
          refine za_iload_n (pc := 23) dX1_idleHour_23 rfl ?_
          refine za_iload_n (pc := 24) dX1_idleHour_24 rfl ?_
          refine za_icmp_ne (pc := 25) 30 dX1_idleHour_25 (by decide) (fun c25 => ?_) (fun c25 => ?_)
          · refine za_ii2 (pc := 30) (1) dX1_idleHour_30 (by decide) rfl ?_
            refine za_ii3 (pc := 33) (1) dX1_idleHour_33 (by decide) rfl ?_
            refine za_goto (pc := 36) 4 dX1_idleHour_36 (by decide) ?_
            rw [nI_1, nI_1]
            have := ih (h + 1) (by omega) (fun k hk hk2 => by
              rcases Nat.lt_or_ge k h with q | q
              · exact hno k q hk2
              · rw [show k = h by omega]; exact fun e => c25 e.symm)
            rw [cnt_t hid] at this
            exact this
          · refine za_iload_n (pc := 28) dX1_idleHour_28 rfl ?_
            refine za_ri (pc := 29) dX1_idleHour_29 rfl rfl rfl ?_
            exact ⟨Or.inl ⟨h, by omega, hid, c25.symm, rfl⟩, rfl⟩
  exact loop (dLen c) 0 (by omega) (fun k hk => absurd hk (by omega))
theorem tX1_countIdle {σ : zSt} {c : Core} (hc : cOk c) (hD : XDay σ (cN c) (bhd c)) : zI mX1_countIdle [.ref 15] SH σ (fun x t => x = nI (cnt (idl c) (dLen c)) ∧ t = σ) := by
  have hl := dLen10 hc
  have hlen : σ 15 4 = nI (dLen c) := hD.2.2
  refine zI_of (ls := [some (.ref 15), none, none]) (by decide) rfl rfl ?_
  refine za_iconst (pc := 0) (0) dX1_countIdle_0 (by decide) ?_
  refine za_is1n (pc := 1) dX1_countIdle_1 rfl ?_
  refine za_iconst (pc := 2) (1) dX1_countIdle_2 (by decide) ?_
  refine za_is2n (pc := 3) dX1_countIdle_3 rfl ?_
  have loop : ∀ (q h : Nat), h + q = dLen c → zA (zZ mX1_countIdle (zQI SH (fun x t => x = nI (cnt (idl c) (dLen c)) ∧ t = σ))) mX1_countIdle none 0 0 4 [some (.ref 15), some (.int (nI (cnt (idl c) h))), some (.int (nI (h + 1)))] [] SH σ := by
    intro q
    induction q with
    | zero =>
      intro h hh
      refine za_iload_n (pc := 4) dX1_countIdle_4 rfl ?_
      refine za_aload_n (pc := 5) dX1_countIdle_5 rfl ?_
      refine za_getI (pc := 6) dX1_countIdle_6 lk_X1_24 rfl rfl ?_
      rw [hlen]
      refine za_icmp_gt (pc := 9) 32 dX1_countIdle_9 (by decide) (fun c9 => ?_) (fun c9 => ?_)
      · refine za_iload_n (pc := 32) dX1_countIdle_32 rfl ?_
        refine za_ri (pc := 33) dX1_countIdle_33 rfl rfl rfl ?_
        rw [show h = dLen c by omega]
        exact ⟨rfl, rfl⟩
      · exact absurd (nI_lt (show dLen c < h + 1 by omega) (by omega)) c9
    | succ q ih =>
      intro h hh
      have vh : vp_in (nI (h + 1)) 11 := vp_in_nI (by omega) (by decide)
      have eh : (nI (h + 1)).toNatClampNeg = h + 1 := nI_clamp (by omega)
      have d2 : σ 19 (h + 1) = pkB (dS c h) := (hD.2.1 h (by show h < dLen c; omega)).2
      refine za_iload_n (pc := 4) dX1_countIdle_4 rfl ?_
      refine za_aload_n (pc := 5) dX1_countIdle_5 rfl ?_
      refine za_getI (pc := 6) dX1_countIdle_6 lk_X1_24 rfl rfl ?_
      rw [hlen]
      refine za_icmp_gt (pc := 9) 32 dX1_countIdle_9 (by decide) (fun c9 => ?_) (fun c9 => ?_)
      · exact absurd c9 (nI_nlt (show h + 1 ≤ dLen c by omega) (by omega))
      · refine za_aload_n (pc := 12) dX1_countIdle_12 rfl ?_
        refine za_getR (pc := 13) dX1_countIdle_13 lk_X1_21 rfl rfl ?_
        refine za_iload_n (pc := 16) dX1_countIdle_16 rfl ?_
        refine za_iald (pc := 17) dX1_countIdle_17 rfl vh ?_
        refine za_bipush (pc := 18) (-3) dX1_countIdle_18 (by decide) ?_
        rw [eh, d2]
        refine za_icmp_ne (pc := 20) 26 dX1_countIdle_20 (by decide) (fun c20 => ?_) (fun c20 => ?_)
        · have hid : idl c h = false := by
            unfold idl
            rw [pkB_no (fun a ha => dS_10 hc ha)] at c20
            simp [c20]
          refine za_ii2 (pc := 26) (1) dX1_countIdle_26 (by decide) rfl ?_
          refine za_goto (pc := 29) 4 dX1_countIdle_29 (by decide) ?_
          rw [nI_1]
          have := ih (h + 1) (by omega)
          rw [cnt_f hid] at this
          exact this
        · have hid : idl c h = true := by
            unfold idl
            rw [pkB_no (fun a ha => dS_10 hc ha)] at c20
            simp [c20]
          refine za_ii1 (pc := 23) (1) dX1_countIdle_23 (by decide) rfl ?_
          refine za_ii2 (pc := 26) (1) dX1_countIdle_26 (by decide) rfl ?_
          refine za_goto (pc := 29) 4 dX1_countIdle_29 (by decide) ?_
          rw [nI_1, nI_1]
          have := ih (h + 1) (by omega)
          rw [cnt_t hid] at this
          exact this
  exact loop (dLen c) 0 (by omega)
theorem tX6_idle {σ : zSt} {c : Core} {v i : Int32} (hp : XP σ c v) : zI mX6_idle [.ref 0, .int i] SH σ (fun x t => ((i < 0 ∧ x = -1) ∨ (¬ i < 0 ∧ idR (dLen c) (idl c) i x)) ∧ (t = σ ∨ XL σ t c v)) := by
  refine zI_of (ls := [some (.ref 0), some (.int i)]) (by decide) rfl rfl ?_
  refine za_iload_n (pc := 0) dX6_idle_0 rfl ?_
  refine za_if_ge (pc := 1) 8 dX6_idle_1 (by decide) (fun c1 => ?_) (fun c1 => ?_)
  · refine za_aload_n (pc := 8) dX6_idle_8 rfl ?_
    refine za_cV0r (pc := 9) (μ' := mX6_labelDayNow) dX6_idle_9 c_X6_160 rfl rfl rfl ⟨rfl, rfl⟩ ⟨rfl, rfl⟩ rfl rfl rfl (tLD hp) (fun t_9 h_9 => ?_)
    refine za_iload_n (pc := 12) dX6_idle_12 rfl ?_
    refine za_cV1i (pc := 13) (μ' := mX1_idleHour) dX6_idle_13 c_X6_196 rfl rfl rfl ⟨rfl, rfl⟩ ⟨rfl, rfl⟩ rfl rfl rfl (tX1_idleHour hp.2.1 h_9.1) (fun x_13 t_13 h_13 => ?_)
    obtain ⟨k1, h9⟩ := h_13
    have h9 := h9.symm
    subst h9
    refine za_ri (pc := 16) dX6_idle_16 rfl rfl rfl ?_
    exact ⟨Or.inr ⟨Int32.not_lt.mpr c1, k1⟩, Or.inr h_9⟩
  · refine za_iconst (pc := 4) (-1) dX6_idle_4 (by decide) ?_
    refine za_goto (pc := 5) 16 dX6_idle_5 (by decide) ?_
    refine za_ri (pc := 16) dX6_idle_16 rfl rfl rfl ?_
    exact ⟨Or.inl ⟨Int32.not_le.mp c1, rfl⟩, Or.inl rfl⟩
theorem cnt_one {p : Nat → Bool} {a : Nat} (h : ∀ x, p x = true ↔ x = a) : ∀ k, cnt p k = if a < k then 1 else 0 := by
  intro k
  induction k with
  | zero => simp [cnt]
  | succ k ih =>
    unfold cnt
    rw [ih]
    by_cases hk : k = a
    · rw [(h k).mpr hk]
      simp [hk]
    · have : p k = false := by
        cases hp : p k with
        | false => rfl
        | true => exact absurd ((h k).mp hp) hk
      rw [this]
      by_cases h1 : a < k
      · simp [h1, show a < k + 1 by omega]
      · simp [h1, show ¬ a < k + 1 by omega]
theorem cnt_or {p q : Nat → Bool} : ∀ k, (∀ x, x < k → ¬ (p x = true ∧ q x = true)) → cnt (fun x => p x || q x) k = cnt p k + cnt q k := by
  intro k
  induction k with
  | zero => intro _; rfl
  | succ k ih =>
    intro h
    unfold cnt
    rw [ih (fun x hx => h x (by omega))]
    have := h k (by omega)
    cases hp : p k <;> cases hq : q k <;> simp [hp, hq] at this ⊢ <;> omega
/-- one job alone in its hour: no second -/
theorem inH {c : Core} (hc : cOk c) {h : Nat} (hh : h < dLen c) : cnt (fun a => decide (dHr c a = h + 1)) (cN c) = if dS c h = none then 1 else 2 := by
  obtain ⟨a, haF, han⟩ := dF_ex hc hh
  cases hS : dS c h with
  | none =>
    rw [if_pos rfl]
    rw [show cnt (fun x => decide (dHr c x = h + 1)) (cN c) = cnt (fun x => decide (x = a)) (cN c) from cnt_cong (fun x hx => by
      rw [decide_eq_decide, dHr_iff hc hx, haF, hS]
      exact ⟨fun q => q.elim (fun e => (Option.some.inj e).symm) (fun e => by cases e), fun e => Or.inl (by rw [e])⟩)]
    rw [cnt_one (a := a) (fun x => by simp), if_pos han]
  | some b =>
    obtain ⟨-, hbn, hne, -⟩ := dS_lt hc haF hS
    rw [if_neg (by simp)]
    rw [show cnt (fun x => decide (dHr c x = h + 1)) (cN c) = cnt (fun x => decide (x = a) || decide (x = b)) (cN c) from cnt_cong (fun x hx => by
      have e := dHr_iff hc (h := h) hx
      rw [haF, hS] at e
      by_cases h1 : x = a
      · simp [h1, (dHr_iff hc (h := h) han).mpr (Or.inl haF)]
      · by_cases h2 : x = b
        · simp [h2, (dHr_iff hc (h := h) hbn).mpr (Or.inr hS)]
        · have : ¬ dHr c x = h + 1 := fun q => (e.mp q).elim (fun e => h1 (Option.some.inj e).symm) (fun e => h2 (Option.some.inj e).symm)
          simp [h1, h2, this])]
    rw [cnt_or _ (fun x _ q => hne (by have h1 := of_decide_eq_true q.1; have h2 := of_decide_eq_true q.2; rw [← h1, h2])), cnt_one (a := a) (fun x => by simp), cnt_one (a := b) (fun x => by simp), if_pos han, if_pos hbn]
theorem tX7_inHour {σ : zSt} {n : Nat} {f : Nat → Nat} {h : Nat} (hn : n ≤ 10) (hh : h ≤ 11) (hj : σ 47 3 = nI n) (hf : ∀ a, a < n → σ 62 a = nI (f a) ∧ f a ≤ 10) : zI mX7_inHour [.ref 47, .int (nI h)] SH σ (fun x t => x = nI (cnt (fun a => decide (f a = h)) n) ∧ t = σ) := by
  refine zI_of (ls := [some (.ref 47), some (.int (nI h)), none, none]) (by decide) rfl rfl ?_
  refine za_iconst (pc := 0) (0) dX7_inHour_0 (by decide) ?_
  refine za_is2n (pc := 1) dX7_inHour_1 rfl ?_
  refine za_iconst (pc := 2) (0) dX7_inHour_2 (by decide) ?_
  refine za_is3n (pc := 3) dX7_inHour_3 rfl ?_
  have loop : ∀ (q k : Nat), k + q = n → zA (zZ mX7_inHour (zQI SH (fun x t => x = nI (cnt (fun a => decide (f a = h)) n) ∧ t = σ))) mX7_inHour none 0 0 4 [some (.ref 47), some (.int (nI h)), some (.int (nI (cnt (fun a => decide (f a = h)) k))), some (.int (nI k))] [] SH σ := by
    intro q
    induction q with
    | zero =>
      intro k hk
      refine za_iload_n (pc := 4) dX7_inHour_4 rfl ?_
      refine za_aload_n (pc := 5) dX7_inHour_5 rfl ?_
      refine za_getI (pc := 6) dX7_inHour_6 lk_X7_91 rfl rfl ?_
      rw [hj]
      refine za_icmp_ge (pc := 9) 36 dX7_inHour_9 (by decide) (fun c9 => ?_) (fun c9 => ?_)
      · refine za_iload_n (pc := 36) dX7_inHour_36 rfl ?_
        refine za_ri (pc := 37) dX7_inHour_37 rfl rfl rfl ?_
        rw [show k = n by omega]
        exact ⟨rfl, rfl⟩
      · exact absurd (nI_le (show n ≤ k by omega) (by omega)) c9
    | succ q ih =>
      intro k hk
      have vk : vp_in (nI k) 10 := vp_in_nI (by omega) (by decide)
      have ek : (nI k).toNatClampNeg = k := nI_clamp (by omega)
      obtain ⟨f1, f2⟩ := hf k (by omega)
      refine za_iload_n (pc := 4) dX7_inHour_4 rfl ?_
      refine za_aload_n (pc := 5) dX7_inHour_5 rfl ?_
      refine za_getI (pc := 6) dX7_inHour_6 lk_X7_91 rfl rfl ?_
      rw [hj]
      refine za_icmp_ge (pc := 9) 36 dX7_inHour_9 (by decide) (fun c9 => ?_) (fun c9 => ?_)
      · exact absurd c9 (nI_ge (show k < n by omega) (by omega))
      · refine za_iload_n (pc := 12) dX7_inHour_12 rfl ?_
        refine za_aload_n (pc := 13) dX7_inHour_13 rfl ?_
        refine za_getR (pc := 14) dX7_inHour_14 lk_X7_52 rfl rfl ?_
        refine za_iload_n (pc := 17) dX7_inHour_17 rfl ?_
        refine za_iald (pc := 18) dX7_inHour_18 rfl vk ?_
        refine za_iload_n (pc := 19) dX7_inHour_19 rfl ?_
        rw [ek, f1]
        refine za_icmp_ne (pc := 20) 27 dX7_inHour_20 (by decide) (fun c20 => ?_) (fun c20 => ?_)
        · have hne : ¬ f k = h := fun e => c20 (by rw [e])
          refine za_iconst (pc := 27) (0) dX7_inHour_27 (by decide) ?_
          refine za_iadd (pc := 28) dX7_inHour_28 ?_
          refine za_is2n (pc := 29) dX7_inHour_29 rfl ?_
          refine za_ii3 (pc := 30) (1) dX7_inHour_30 (by decide) rfl ?_
          refine za_goto (pc := 33) 4 dX7_inHour_33 (by decide) ?_
          have := ih (k + 1) (by omega)
          rw [show cnt (fun a => decide (f a = h)) (k + 1) = cnt (fun a => decide (f a = h)) k by rw [cnt]; simp [hne]] at this
          have e0 : ∀ z : Nat, nI z + 0 = nI z := fun z => by show nI z + nI 0 = _; rw [nI_add]; rfl
          rw [nI_1, e0]
          exact this
        · have he : f k = h := (nI_eq (by omega) (by omega)).mp c20
          refine za_iconst (pc := 23) (1) dX7_inHour_23 (by decide) ?_
          refine za_goto (pc := 24) 28 dX7_inHour_24 (by decide) ?_
          refine za_iadd (pc := 28) dX7_inHour_28 ?_
          refine za_is2n (pc := 29) dX7_inHour_29 rfl ?_
          refine za_ii3 (pc := 30) (1) dX7_inHour_30 (by decide) rfl ?_
          refine za_goto (pc := 33) 4 dX7_inHour_33 (by decide) ?_
          have := ih (k + 1) (by omega)
          rw [show cnt (fun a => decide (f a = h)) (k + 1) = cnt (fun a => decide (f a = h)) k + 1 by rw [cnt]; simp [he]] at this
          rw [nI_1, nI_1]
          exact this
  exact loop n 0 (by omega)
theorem tX7_idle {σ : zSt} {c : Core} {i : Int32} (hp : MP σ c) : zI mX7_idle [.ref 47, .int i] SH σ (fun x t => ((i < 0 ∧ x = -1) ∨ (¬ i < 0 ∧ idR (dLen c) (idl c) i x)) ∧ (t = σ ∨ FMD t σ)) := by
  have hl := dLen10 hp.2
  have hn := hp.2.1
  refine zI_of (ls := [some (.ref 47), some (.int i), none, none]) (by decide) rfl rfl ?_
  refine za_iload_n (pc := 0) dX7_idle_0 rfl ?_
  refine za_if_ge (pc := 1) 6 dX7_idle_1 (by decide) (fun c1 => ?_) (fun c1 => ?_)
  · refine za_aload_n (pc := 6) dX7_idle_6 rfl ?_
    refine za_aload_n (pc := 7) dX7_idle_7 rfl ?_
    refine za_cV0i (pc := 8) (μ' := mX7_all) dX7_idle_8 c_X7_161 rfl rfl rfl ⟨rfl, rfl⟩ ⟨rfl, rfl⟩ rfl rfl rfl (tX7_all hn hp.1.1) (fun x_8 t_8 h_8 => ?_)
    obtain ⟨rfl, h9⟩ := h_8
    have h9 := h9.symm
    subst h9
    refine za_cV1v (pc := 11) (μ' := mX7_layDay) dX7_idle_11 c_X7_168 rfl rfl rfl ⟨rfl, rfl⟩ ⟨rfl, rfl⟩ rfl rfl rfl (tMA hp) (fun t_11 h_11 => ?_)
    obtain ⟨d1, d2⟩ := h_11
    refine za_iload_n (pc := 14) dX7_idle_14 rfl ?_
    refine za_is2n (pc := 15) dX7_idle_15 rfl ?_
    refine za_iconst (pc := 16) (1) dX7_idle_16 (by decide) ?_
    refine za_is3n (pc := 17) dX7_idle_17 rfl ?_
    generalize t_11 = t at *
    have tj : t 47 3 = nI (cN c) := by rw [d2.2 3 (by decide)]; exact hp.1.1
    have t62 : ∀ a, a < cN c → t 62 a = nI (dHr c a) ∧ dHr c a ≤ 10 := fun a ha => ⟨d1.2.2.1 a (by omega), Nat.le_trans hrD_le hn⟩
    have tl : t 47 19 = nI (dLen c) := d1.2.2.2
    have hi0 := c1
    rw [fa_le] at hi0
    have hi0 : 0 ≤ i.toInt := hi0
    have hir := fb_rng i
    have loop : ∀ (q h : Nat) (lf : Int32), h + q = dLen c → lf.toInt + cnt (idl c) h = i.toInt → 0 ≤ lf.toInt → (∀ k, k < h → idl c k = true → ¬ i = nI (cnt (idl c) k)) → zA (zZ mX7_idle (zQI SH (fun x t => ((i < 0 ∧ x = -1) ∨ (¬ i < 0 ∧ idR (dLen c) (idl c) i x)) ∧ (t = σ ∨ FMD t σ)))) mX7_idle none 0 0 18 [some (.ref 47), some (.int i), some (.int lf), some (.int (nI (h + 1)))] [] SH t := by
      intro q
      induction q with
      | zero =>
        intro h lf hh hlf hlf0 hno
        refine za_iload_n (pc := 18) dX7_idle_18 rfl ?_
        refine za_aload_n (pc := 19) dX7_idle_19 rfl ?_
        refine za_getI (pc := 20) dX7_idle_20 lk_X7_146 rfl rfl ?_
        rw [tl]
        refine za_icmp_gt (pc := 23) 50 dX7_idle_23 (by decide) (fun c23 => ?_) (fun c23 => ?_)
        · refine za_bipush (pc := 50) (-3) dX7_idle_50 (by decide) ?_
          refine za_ri (pc := 52) dX7_idle_52 rfl rfl rfl ?_
          exact ⟨Or.inr ⟨Int32.not_lt.mpr c1, Or.inr ⟨fun k hk => hno k (by omega), rfl⟩⟩, Or.inr d2⟩
        · exact absurd (nI_lt (show dLen c < h + 1 by omega) (by omega)) c23
      | succ q ih =>
        intro h lf hh hlf hlf0 hno
        have h20 : h ≤ 20 := by omega
        have hcl : cnt (idl c) h ≤ 20 := Nat.le_trans (cnt_le (idl c) h) h20
        have hin := inH hp.2 (show h < dLen c by omega)
        refine za_iload_n (pc := 18) dX7_idle_18 rfl ?_
        refine za_aload_n (pc := 19) dX7_idle_19 rfl ?_
        refine za_getI (pc := 20) dX7_idle_20 lk_X7_146 rfl rfl ?_
        rw [tl]
        refine za_icmp_gt (pc := 23) 50 dX7_idle_23 (by decide) (fun c23 => ?_) (fun c23 => ?_)
        · exact absurd c23 (nI_nlt (show h + 1 ≤ dLen c by omega) (by omega))
        · refine za_aload_n (pc := 26) dX7_idle_26 rfl ?_
          refine za_iload_n (pc := 27) dX7_idle_27 rfl ?_
          refine za_cV1i (pc := 28) (μ' := mX7_inHour) dX7_idle_28 c_X7_174 rfl rfl rfl ⟨rfl, rfl⟩ ⟨rfl, rfl⟩ rfl rfl rfl (tX7_inHour (f := dHr c) hn (show h + 1 ≤ 11 by omega) tj t62) (fun x_28 t_28 h_28 => ?_)
          obtain ⟨rfl, h9⟩ := h_28
          have h9 := h9.symm
          subst h9
          refine za_iconst (pc := 31) (1) dX7_idle_31 (by decide) ?_
          rw [hin]
          by_cases hS : dS c h = none
          · rw [if_pos hS]
            have hid : idl c h = true := by simp [idl, hS]
            refine za_icmp_ne (pc := 32) 44 dX7_idle_32 (by decide) (fun c32 => ?_) (fun c32 => ?_)
            · exact absurd rfl c32
            refine za_iload_n (pc := 35) dX7_idle_35 rfl ?_
            refine za_if_ne (pc := 36) 41 dX7_idle_36 (by decide) (fun c36 => ?_) (fun c36 => ?_)
            · have hne : lf.toInt ≠ 0 := fun e => c36 (by rw [fa_eq, e]; rfl)
              have e1 : ((-1 : Int32)).toInt = -1 := rfl
              have hlr := fb_rng lf
              have ea : (lf + -1).toInt = lf.toInt - 1 := by
                clear hlf hin hcl hno ih
                rw [fb_addI (by omega) (by omega), e1]
                omega
              have k1 : ∀ z : Nat, lf.toInt + (z : Int) = i.toInt → (lf + -1).toInt + ((z + 1 : Nat) : Int) = i.toInt := by
                clear hlf hin hcl hno ih
                intro z hz
                rw [ea]
                omega
              have k2 : 0 ≤ (lf + -1).toInt := by
                clear hlf hin hcl hno ih
                rw [ea]
                omega
              have k3 : ∀ z : Nat, z ≤ 20 → lf.toInt + (z : Int) = i.toInt → ¬ i = nI z := by
                clear hlf hin hcl hno ih
                intro z hz hz2 e
                rw [fa_eq, nI_toInt (by omega)] at e
                omega
              refine za_ii2 (pc := 41) (-1) dX7_idle_41 (by decide) rfl ?_
              refine za_ii3 (pc := 44) (1) dX7_idle_44 (by decide) rfl ?_
              refine za_goto (pc := 47) 18 dX7_idle_47 (by decide) ?_
              rw [nI_1]
              have hcs : cnt (idl c) (h + 1) = cnt (idl c) h + 1 := cnt_t hid
              refine ih (h + 1) _ (by omega) (by rw [hcs]; exact k1 _ hlf) k2 (fun k hk hk2 => ?_)
              rcases Nat.lt_or_ge k h with q | q
              · exact hno k q hk2
              · rw [show k = h by omega]
                exact k3 _ hcl hlf
            · refine za_iload_n (pc := 39) dX7_idle_39 rfl ?_
              refine za_ri (pc := 40) dX7_idle_40 rfl rfl rfl ?_
              refine ⟨Or.inr ⟨Int32.not_lt.mpr c1, Or.inl ⟨h, by omega, hid, ?_, rfl⟩⟩, Or.inr d2⟩
              rw [fa_eq, nI_toInt (Nat.lt_of_le_of_lt hcl (by decide)), ← hlf, c36]
              exact Int.zero_add _
          · rw [if_neg hS]
            have hid : idl c h = false := by simp [idl, hS]
            refine za_icmp_ne (pc := 32) 44 dX7_idle_32 (by decide) (fun c32 => ?_) (fun c32 => ?_)
            · refine za_ii3 (pc := 44) (1) dX7_idle_44 (by decide) rfl ?_
              refine za_goto (pc := 47) 18 dX7_idle_47 (by decide) ?_
              rw [nI_1]
              have hcs : cnt (idl c) (h + 1) = cnt (idl c) h := cnt_f hid
              refine ih (h + 1) _ (by omega) (by rw [hcs]; exact hlf) hlf0 (fun k hk hk2 => ?_)
              rcases Nat.lt_or_ge k h with q | q
              · exact hno k q hk2
              · rw [show k = h by omega, hid] at hk2; cases hk2
            · exact absurd c32 (by decide)
    exact loop (dLen c) 0 i (by omega) (by simp [cnt]) hi0 (fun k hk => absurd hk (by omega))
  · refine za_iconst (pc := 4) (-1) dX7_idle_4 (by decide) ?_
    refine za_ri (pc := 5) dX7_idle_5 rfl rfl rfl ?_
    exact ⟨Or.inl ⟨Int32.not_le.mp c1, rfl⟩, Or.inl rfl⟩
