/-! THE KEPT DAY of the class: its blocks -/
theorem X_bE {σ : zSt} {c : Core} (hX : XCore σ c) (hc : cOk c) {b : Nat} (hb : b = 10 ∨ b < cN c) : σ 4 b = nI (bN c b) ∧ σ 5 b = nI (eN c b) ∧ 1 ≤ bN c b ∧ bN c b ≤ 40 ∧ 1 ≤ eN c b ∧ eN c b ≤ 64 := by
  rcases hb with rfl | hb
  · have e1 : bN c 10 = 1 := if_pos rfl
    have e2 : eN c 10 = 64 := if_pos rfl
    rw [e1, e2]
    exact ⟨hX.2.2.1, hX.2.2.2.1, by decide, by decide, by decide, by decide⟩
  · obtain ⟨p1, p2, p3, p4, p5, p6, -⟩ := bE_ok hc hb
    obtain ⟨-, q2, q3, -, -⟩ := hX.2.1 b hb
    exact ⟨by rw [q2, p1], by rw [q3, p2], p3, p4, p5, p6⟩
theorem nI_max {a b : Nat} (ha : a < 65536) (hb : b < 65536) : (if nI a < nI b then nI b else nI a) = nI (max a b) := by
  by_cases e : a < b
  · rw [if_pos ((nI_ltI (by omega) (by omega)).mpr e), Nat.max_eq_right (by omega)]
  · rw [if_neg (fun q => e ((nI_ltI (by omega) (by omega)).mp q)), Nat.max_eq_left (by omega)]
theorem nI_min {a b : Nat} (ha : a < 65536) (hb : b < 65536) : (if nI b < nI a then nI b else nI a) = nI (min a b) := by
  by_cases e : b < a
  · rw [if_pos ((nI_ltI (by omega) (by omega)).mpr e), Nat.min_eq_right (by omega)]
  · rw [if_neg (fun q => e ((nI_ltI (by omega) (by omega)).mp q)), Nat.min_eq_left (by omega)]
theorem tX5_ownedAlike {σ : zSt} {c : Core} {a b : Nat} (hX : XCore σ c) (hn : cN c ≤ 10) (ha : a < cN c) (hb : b < cN c) : zI mX5_ownedAlike [.ref 2, .int (nI a), .int (nI b)] SH σ (fun x t => ((x = 1 ∧ sB c a b) ∨ (x = 0 ∧ ¬ sB c a b)) ∧ t = σ) := by
  obtain ⟨-, -, -, m4, -⟩ := hX.2.1 a ha
  obtain ⟨-, -, -, n4, -⟩ := hX.2.1 b hb
  have va : vp_in (nI a) 11 := vp_in_nI (by omega) (by decide)
  have ea : (nI a).toNatClampNeg = a := nI_clamp (by omega)
  have vb : vp_in (nI b) 11 := vp_in_nI (by omega) (by decide)
  have eb : (nI b).toNatClampNeg = b := nI_clamp (by omega)
  refine zI_of (ls := [some (.ref 2), some (.int (nI a)), some (.int (nI b))]) (by decide) rfl rfl ?_
  refine za_aload_n (pc := 0) dX5_ownedAlike_0 rfl ?_
  refine za_getR (pc := 1) dX5_ownedAlike_1 lk_X5_21 rfl rfl ?_
  refine za_iload_n (pc := 4) dX5_ownedAlike_4 rfl ?_
  refine za_iald (pc := 5) dX5_ownedAlike_5 rfl va ?_
  refine za_bipush (pc := 6) (-3) dX5_ownedAlike_6 (by decide) ?_
  rw [ea, m4]
  refine za_icmp_eq (pc := 8) 30 dX5_ownedAlike_8 (by decide) (fun c8 => ?_) (fun c8 => ?_)
  · refine za_iconst (pc := 30) (0) dX5_ownedAlike_30 (by decide) ?_
    refine za_rz (pc := 31) dX5_ownedAlike_31 rfl rfl rfl rfl ?_
    exact ⟨Or.inr ⟨rfl, fun q => q.1 c8⟩, rfl⟩
  · refine za_aload_n (pc := 11) dX5_ownedAlike_11 rfl ?_
    refine za_getR (pc := 12) dX5_ownedAlike_12 lk_X5_21 rfl rfl ?_
    refine za_iload_n (pc := 15) dX5_ownedAlike_15 rfl ?_
    refine za_iald (pc := 16) dX5_ownedAlike_16 rfl va ?_
    refine za_aload_n (pc := 17) dX5_ownedAlike_17 rfl ?_
    refine za_getR (pc := 18) dX5_ownedAlike_18 lk_X5_21 rfl rfl ?_
    refine za_iload_n (pc := 21) dX5_ownedAlike_21 rfl ?_
    refine za_iald (pc := 22) dX5_ownedAlike_22 rfl vb ?_
    rw [ea, eb, m4, n4]
    refine za_icmp_ne (pc := 23) 30 dX5_ownedAlike_23 (by decide) (fun c23 => ?_) (fun c23 => ?_)
    · refine za_iconst (pc := 30) (0) dX5_ownedAlike_30 (by decide) ?_
      refine za_rz (pc := 31) dX5_ownedAlike_31 rfl rfl rfl rfl ?_
      exact ⟨Or.inr ⟨rfl, fun q => c23 q.2⟩, rfl⟩
    · refine za_iconst (pc := 26) (1) dX5_ownedAlike_26 (by decide) ?_
      refine za_goto (pc := 27) 31 dX5_ownedAlike_27 (by decide) ?_
      refine za_rz (pc := 31) dX5_ownedAlike_31 rfl rfl rfl rfl ?_
      exact ⟨Or.inl ⟨rfl, c8, c23⟩, rfl⟩
theorem tX5_areTwins {σ : zSt} {a b : Nat} (ha : a < 10) (hb : b < 10) : zI mX5_areTwins [.ref 2, .int (nI a), .int (nI b)] SH σ (fun x t => ((x = 1 ∧ σ 4 a = σ 4 b ∧ σ 5 a = σ 5 b ∧ σ 6 a = σ 6 b) ∨ (x = 0 ∧ ¬ (σ 4 a = σ 4 b ∧ σ 5 a = σ 5 b ∧ σ 6 a = σ 6 b))) ∧ t = σ) := by
  have va : vp_in (nI a) 11 := vp_in_nI (by omega) (by decide)
  have ea : (nI a).toNatClampNeg = a := nI_clamp (by omega)
  have vb : vp_in (nI b) 11 := vp_in_nI (by omega) (by decide)
  have eb : (nI b).toNatClampNeg = b := nI_clamp (by omega)
  refine zI_of (ls := [some (.ref 2), some (.int (nI a)), some (.int (nI b))]) (by decide) rfl rfl ?_
  refine za_aload_n (pc := 0) dX5_areTwins_0 rfl ?_
  refine za_getR (pc := 1) dX5_areTwins_1 lk_X5_15 rfl rfl ?_
  refine za_iload_n (pc := 4) dX5_areTwins_4 rfl ?_
  refine za_iald (pc := 5) dX5_areTwins_5 rfl va ?_
  refine za_aload_n (pc := 6) dX5_areTwins_6 rfl ?_
  refine za_getR (pc := 7) dX5_areTwins_7 lk_X5_15 rfl rfl ?_
  refine za_iload_n (pc := 10) dX5_areTwins_10 rfl ?_
  refine za_iald (pc := 11) dX5_areTwins_11 rfl vb ?_
  rw [ea, eb]
  refine za_icmp_ne (pc := 12) 49 dX5_areTwins_12 (by decide) (fun c12 => ?_) (fun c12 => ?_)
  · refine za_iconst (pc := 49) (0) dX5_areTwins_49 (by decide) ?_
    refine za_rz (pc := 50) dX5_areTwins_50 rfl rfl rfl rfl ?_
    exact ⟨Or.inr ⟨rfl, fun q => c12 q.1⟩, rfl⟩
  refine za_aload_n (pc := 15) dX5_areTwins_15 rfl ?_
  refine za_getR (pc := 16) dX5_areTwins_16 lk_X5_18 rfl rfl ?_
  refine za_iload_n (pc := 19) dX5_areTwins_19 rfl ?_
  refine za_iald (pc := 20) dX5_areTwins_20 rfl va ?_
  refine za_aload_n (pc := 21) dX5_areTwins_21 rfl ?_
  refine za_getR (pc := 22) dX5_areTwins_22 lk_X5_18 rfl rfl ?_
  refine za_iload_n (pc := 25) dX5_areTwins_25 rfl ?_
  refine za_iald (pc := 26) dX5_areTwins_26 rfl vb ?_
  rw [ea, eb]
  refine za_icmp_ne (pc := 27) 49 dX5_areTwins_27 (by decide) (fun c27 => ?_) (fun c27 => ?_)
  · refine za_iconst (pc := 49) (0) dX5_areTwins_49 (by decide) ?_
    refine za_rz (pc := 50) dX5_areTwins_50 rfl rfl rfl rfl ?_
    exact ⟨Or.inr ⟨rfl, fun q => c27 q.2.1⟩, rfl⟩
  refine za_aload_n (pc := 30) dX5_areTwins_30 rfl ?_
  refine za_getR (pc := 31) dX5_areTwins_31 lk_X5_21 rfl rfl ?_
  refine za_iload_n (pc := 34) dX5_areTwins_34 rfl ?_
  refine za_iald (pc := 35) dX5_areTwins_35 rfl va ?_
  refine za_aload_n (pc := 36) dX5_areTwins_36 rfl ?_
  refine za_getR (pc := 37) dX5_areTwins_37 lk_X5_21 rfl rfl ?_
  refine za_iload_n (pc := 40) dX5_areTwins_40 rfl ?_
  refine za_iald (pc := 41) dX5_areTwins_41 rfl vb ?_
  rw [ea, eb]
  refine za_icmp_ne (pc := 42) 49 dX5_areTwins_42 (by decide) (fun c42 => ?_) (fun c42 => ?_)
  · refine za_iconst (pc := 49) (0) dX5_areTwins_49 (by decide) ?_
    refine za_rz (pc := 50) dX5_areTwins_50 rfl rfl rfl rfl ?_
    exact ⟨Or.inr ⟨rfl, fun q => c42 q.2.2⟩, rfl⟩
  · refine za_iconst (pc := 45) (1) dX5_areTwins_45 (by decide) ?_
    refine za_goto (pc := 46) 50 dX5_areTwins_46 (by decide) ?_
    refine za_rz (pc := 50) dX5_areTwins_50 rfl rfl rfl rfl ?_
    exact ⟨Or.inl ⟨rfl, c12, c27, c42⟩, rfl⟩
/-- the lesser twins of a -/
noncomputable def ltw (c : Core) (a : Nat) : Nat → Bool := fun b => decide (b < a) && tb (tw c a b)
theorem ltw_t {c : Core} {a b : Nat} : ltw c a b = true ↔ b < a ∧ tw c a b := by
  unfold ltw
  rw [Bool.and_eq_true, decide_eq_true_eq, tb_t]
theorem tw_iff {σ : zSt} {c : Core} (hX : XCore σ c) (hc : cOk c) (hO : XOrd σ c) {a b : Nat} (ha : a < cN c) (hb : b < cN c) : ((σ 11 a = σ 11 b ∧ σ 12 a = σ 12 b) ∧ (σ 4 a = σ 4 b ∧ σ 5 a = σ 5 b ∧ σ 6 a = σ 6 b)) ↔ tw c a b := by
  have hn := hc.1
  obtain ⟨a1, a2, -, -⟩ := hO.1 a ha
  obtain ⟨b1, b2, -, -⟩ := hO.1 b hb
  obtain ⟨a3, a4, a5, a6, a7, a8⟩ := X_bE hX hc (Or.inr ha)
  obtain ⟨b3, b4, b5, b6, b7, b8⟩ := X_bE hX hc (Or.inr hb)
  obtain ⟨-, -, -, a9, -⟩ := hX.2.1 a ha
  obtain ⟨-, -, -, b9, -⟩ := hX.2.1 b hb
  rw [a1, a2, a3, a4, a9, b1, b2, b3, b4, b9, zm_eq, zm_eq, nI_eq (by omega) (by omega), nI_eq (by omega) (by omega)]
  constructor
  · rintro ⟨⟨h1, h2⟩, h3, h4, h5⟩
    refine ⟨ha, hb, fun i hi => h1 i (by omega), fun i hi => ?_, h3, h4, h5⟩
    have := h2 i (by omega)
    unfold flw at this
    simpa [hi] using this
  · rintro ⟨_, _, h1, h2, h3, h4, h5⟩
    refine ⟨⟨fun i hi => ?_, fun i hi => ?_⟩, h3, h4, h5⟩
    · by_cases e : i < cN c
      · exact h1 i e
      · have no : ∀ x, x < cN c → bhd c x i = false := fun x hx => by
          cases hq : bhd c x i with
          | false => rfl
          | true => exact absurd ((bhd_ord hc).1 x i hx hq) e
        rw [no a ha, no b hb]
    · unfold flw
      by_cases e : i < cN c
      · rw [h2 i e]
      · simp [e]
theorem tX0_lesserTwins {σ : zSt} {c : Core} {a : Nat} (hX : XCore σ c) (hc : cOk c) (hO : XOrd σ c) (ha : a < cN c) : zI mX0_lesserTwins [.ref 22, .int (nI a)] SH σ (fun x t => x = zmask (ltw c a) ∧ t = σ) := by
  have hn := hc.1
  refine zI_of (ls := [some (.ref 22), some (.int (nI a)), none, none]) (by decide) rfl rfl ?_
  refine za_iconst (pc := 0) (0) dX0_lesserTwins_0 (by decide) ?_
  refine za_is2n (pc := 1) dX0_lesserTwins_1 rfl ?_
  refine za_iconst (pc := 2) (0) dX0_lesserTwins_2 (by decide) ?_
  refine za_is3n (pc := 3) dX0_lesserTwins_3 rfl ?_
  have loop : ∀ (q b : Nat), b + q = a → zA (zZ mX0_lesserTwins (zQI SH (fun x t => x = zmask (ltw c a) ∧ t = σ))) mX0_lesserTwins none 0 0 4 [some (.ref 22), some (.int (nI a)), some (.int (zmask (fun i => decide (i < b) && ltw c a i))), some (.int (nI b))] [] SH σ := by
    intro q
    induction q with
    | zero =>
      intro b hb
      refine za_iload_n (pc := 4) dX0_lesserTwins_4 rfl ?_
      refine za_iload_n (pc := 5) dX0_lesserTwins_5 rfl ?_
      refine za_icmp_ge (pc := 6) 46 dX0_lesserTwins_6 (by decide) (fun c6 => ?_) (fun c6 => ?_)
      · refine za_iload_n (pc := 46) dX0_lesserTwins_46 rfl ?_
        refine za_ri (pc := 47) dX0_lesserTwins_47 rfl rfl rfl ?_
        refine ⟨zm_cong (fun i _ => ?_), rfl⟩
        have : b = a := by omega
        subst this
        unfold ltw
        cases hq : decide (i < b) <;> rfl
      · exact absurd (nI_le (show a ≤ b by omega) (by omega)) c6
    | succ q ih =>
      intro b hb
      have hbn : b < cN c := by omega
      have next : ∀ (m : Nat → Bool), (∀ i, m i = (decide (i < b + 1) && ltw c a i)) → zA (zZ mX0_lesserTwins (zQI SH (fun x t => x = zmask (ltw c a) ∧ t = σ))) mX0_lesserTwins none 0 0 40 [some (.ref 22), some (.int (nI a)), some (.int (zmask m)), some (.int (nI b))] [] SH σ := by
        intro m hm
        refine za_ii3 (pc := 40) (1) dX0_lesserTwins_40 (by decide) rfl ?_
        refine za_goto (pc := 43) 4 dX0_lesserTwins_43 (by decide) ?_
        rw [nI_1, zm_cong (fun i _ => hm i)]
        exact ih (b + 1) (by omega)
      have no : ltw c a b = false → zA (zZ mX0_lesserTwins (zQI SH (fun x t => x = zmask (ltw c a) ∧ t = σ))) mX0_lesserTwins none 0 0 40 [some (.ref 22), some (.int (nI a)), some (.int (zmask (fun i => decide (i < b) && ltw c a i))), some (.int (nI b))] [] SH σ := by
        intro hno
        refine next _ (fun i => ?_)
        by_cases e : i = b
        · rw [e, hno]; simp
        · congr 1; simp; omega
      have nt : ¬ tw c a b → ltw c a b = false := fun q => by
        cases hq : ltw c a b with
        | false => rfl
        | true => exact absurd (ltw_t.mp hq).2 q
      refine za_iload_n (pc := 4) dX0_lesserTwins_4 rfl ?_
      refine za_iload_n (pc := 5) dX0_lesserTwins_5 rfl ?_
      refine za_icmp_ge (pc := 6) 46 dX0_lesserTwins_6 (by decide) (fun c6 => ?_) (fun c6 => ?_)
      · exact absurd c6 (nI_ge (show b < a by omega) (by omega))
      refine za_aload_n (pc := 9) dX0_lesserTwins_9 rfl ?_
      refine za_getR (pc := 10) dX0_lesserTwins_10 lk_X0_53 rfl rfl ?_
      refine za_iload_n (pc := 13) dX0_lesserTwins_13 rfl ?_
      refine za_iload_n (pc := 14) dX0_lesserTwins_14 rfl ?_
      refine za_cV2i (pc := 15) (μ' := mX2_areTwins) dX0_lesserTwins_15 c_X0_113 rfl rfl rfl ⟨rfl, rfl⟩ ⟨rfl, rfl⟩ rfl rfl rfl (tX2_areTwins (a := a) (b := b) (by omega) (by omega)) (fun x_15 t_15 h_15 => ?_)
      obtain ⟨rfl, h9⟩ := h_15
      have h9 := h9.symm
      subst h9
      by_cases h1 : σ 11 a = σ 11 b ∧ σ 12 a = σ 12 b
      · rw [if_pos h1]
        refine za_if_eq (pc := 18) 40 dX0_lesserTwins_18 (by decide) (fun c18 => ?_) (fun c18 => ?_)
        · exact absurd c18 (by decide)
        refine za_aload_n (pc := 21) dX0_lesserTwins_21 rfl ?_
        refine za_getR (pc := 22) dX0_lesserTwins_22 lk_X0_49 rfl rfl ?_
        refine za_iload_n (pc := 25) dX0_lesserTwins_25 rfl ?_
        refine za_iload_n (pc := 26) dX0_lesserTwins_26 rfl ?_
        refine za_cV2i (pc := 27) (μ' := mX5_areTwins) dX0_lesserTwins_27 c_X0_116 rfl rfl rfl ⟨rfl, rfl⟩ ⟨rfl, rfl⟩ rfl rfl rfl (tX5_areTwins (a := a) (b := b) (by omega) (by omega)) (fun x_27 t_27 h_27 => ?_)
        obtain ⟨o1, o2⟩ := h_27
        have o2 := o2.symm
        subst o2
        rcases o1 with ⟨rfl, h2⟩ | ⟨rfl, h2⟩
        · have ht := (tw_iff hX hc hO ha hbn).mp ⟨h1, h2⟩
          have hl : ltw c a b = true := ltw_t.mpr ⟨by omega, ht⟩
          refine za_if_eq (pc := 30) 40 dX0_lesserTwins_30 (by decide) (fun c30 => ?_) (fun c30 => ?_)
          · exact absurd c30 (by decide)
          refine za_iload_n (pc := 33) dX0_lesserTwins_33 rfl ?_
          refine za_iload_n (pc := 34) dX0_lesserTwins_34 rfl ?_
          refine za_cSN1i (pc := 35) (μ' := mX6_bit) dX0_lesserTwins_35 c_X0_106 rfl ⟨rfl, rfl⟩ ⟨rfl, rfl⟩ rfl rfl rfl (tX6_bit) (fun x_35 t_35 h_35 => ?_)
          obtain ⟨rfl, h9⟩ := h_35
          have h9 := h9.symm
          subst h9
          rw [zm_1 (by omega)]
          refine za_ior (pc := 38) dX0_lesserTwins_38 ?_
          rw [zm_or]
          refine za_is2n (pc := 39) dX0_lesserTwins_39 rfl ?_
          refine next _ (fun i => ?_)
          by_cases e : i = b
          · rw [e, hl]; simp
          · have : (decide (i < b)) = decide (i < b + 1) := by simp; omega
            rw [this]; simp [e]
        · refine za_if_eq (pc := 30) 40 dX0_lesserTwins_30 (by decide) (fun c30 => ?_) (fun c30 => ?_)
          · exact no (nt (fun q => h2 ((tw_iff hX hc hO ha hbn).mpr q).2))
          · exact absurd rfl c30
      · rw [if_neg h1]
        refine za_if_eq (pc := 18) 40 dX0_lesserTwins_18 (by decide) (fun c18 => ?_) (fun c18 => ?_)
        · exact no (nt (fun q => h1 ((tw_iff hX hc hO ha hbn).mpr q).1))
        · exact absurd rfl c18
  have := loop a 0 (by omega)
  have ez : zmask (fun i => decide (i < 0) && ltw c a i) = 0 := by rw [← zm_0]; exact zm_cong (fun i _ => by simp)
  rw [ez] at this
  exact this
/-- one more block -/
def addT (σ t : zSt) (c : Core) (nb a b : Nat) (k d : Nat → Bool) : Prop := (∀ e, e ≠ 22 → e ≠ 25 → e ≠ 26 → e ≠ 27 → e ≠ 28 → e ≠ 29 → t e = σ e) ∧ (∀ i, i ≠ 10 → t 22 i = σ 22 i) ∧ t 22 10 = nI (nb + 1) ∧ (∀ q, q ≠ nb → t 25 q = σ 25 q ∧ t 26 q = σ 26 q ∧ t 27 q = σ 27 q ∧ t 28 q = σ 28 q ∧ t 29 q = σ 29 q) ∧ t 25 nb = zmask (fun i => d i && !k i) ∧ t 26 nb = zmask (fun i => d i || k i) ∧ t 27 nb = nI (max (bN c a) (bN c b)) ∧ t 28 nb = nI (min (eN c a) (eN c b)) ∧ t 29 nb = nI (11 * a + b)
theorem tX0_addBlock {σ : zSt} {c : Core} {nb a b : Nat} {k d : Nat → Bool} (hX : XCore σ c) (hc : cOk c) (ha : a < cN c) (hb : b = 10 ∨ b < cN c) (hnb : σ 22 10 = nI nb) (h55 : nb < 55) : zV mX0_addBlock [.ref 22, .int (nI a), .int (nI b), .int (zmask k), .int (zmask d)] SH σ (fun t => (max (bN c a) (bN c b) ≤ min (eN c a) (eN c b) ∧ addT σ t c nb a b k d) ∨ (¬ max (bN c a) (bN c b) ≤ min (eN c a) (eN c b) ∧ t = σ)) := by
  have hn := hc.1
  obtain ⟨a3, a4, a5, a6, a7, a8⟩ := X_bE hX hc (Or.inr ha)
  obtain ⟨b3, b4, b5, b6, b7, b8⟩ := X_bE hX hc hb
  have va : vp_in (nI a) 11 := vp_in_nI (by omega) (by decide)
  have ea : (nI a).toNatClampNeg = a := nI_clamp (by omega)
  have vb : vp_in (nI b) 11 := vp_in_nI (by omega) (by decide)
  have eb : (nI b).toNatClampNeg = b := nI_clamp (by omega)
  have vn : vp_in (nI nb) 55 := vp_in_nI h55 (by decide)
  have en : (nI nb).toNatClampNeg = nb := nI_clamp (by omega)
  refine zV_of (ls := [some (.ref 22), some (.int (nI a)), some (.int (nI b)), some (.int (zmask k)), some (.int (zmask d)), none, none]) (by decide) rfl rfl ?_
  refine za_aload_n (pc := 0) dX0_addBlock_0 rfl ?_
  refine za_getR (pc := 1) dX0_addBlock_1 lk_X0_49 rfl rfl ?_
  refine za_getR (pc := 4) dX0_addBlock_4 lk_X0_117 rfl rfl ?_
  refine za_iload_n (pc := 7) dX0_addBlock_7 rfl ?_
  refine za_iald (pc := 8) dX0_addBlock_8 rfl va ?_
  refine za_aload_n (pc := 9) dX0_addBlock_9 rfl ?_
  refine za_getR (pc := 10) dX0_addBlock_10 lk_X0_49 rfl rfl ?_
  refine za_getR (pc := 13) dX0_addBlock_13 lk_X0_117 rfl rfl ?_
  refine za_iload_n (pc := 16) dX0_addBlock_16 rfl ?_
  refine za_iald (pc := 17) dX0_addBlock_17 rfl vb ?_
  refine za_cS2i (pc := 18) (μ' := mJ9_max_7cf53) dX0_addBlock_18 c_X0_120 rfl ⟨rfl, rfl⟩ ⟨rfl, rfl⟩ rfl rfl rfl (tJ9_max_7cf53) (fun x_18 t_18 h_18 => ?_)
  obtain ⟨rfl, h9⟩ := h_18
  have h9 := h9.symm
  subst h9
  rw [ea, eb, a3, b3, nI_max (by omega) (by omega)]
  refine za_is5 (pc := 21) dX0_addBlock_21 rfl ?_
  refine za_aload_n (pc := 23) dX0_addBlock_23 rfl ?_
  refine za_getR (pc := 24) dX0_addBlock_24 lk_X0_49 rfl rfl ?_
  refine za_getR (pc := 27) dX0_addBlock_27 lk_X0_126 rfl rfl ?_
  refine za_iload_n (pc := 30) dX0_addBlock_30 rfl ?_
  refine za_iald (pc := 31) dX0_addBlock_31 rfl va ?_
  refine za_aload_n (pc := 32) dX0_addBlock_32 rfl ?_
  refine za_getR (pc := 33) dX0_addBlock_33 lk_X0_49 rfl rfl ?_
  refine za_getR (pc := 36) dX0_addBlock_36 lk_X0_126 rfl rfl ?_
  refine za_iload_n (pc := 39) dX0_addBlock_39 rfl ?_
  refine za_iald (pc := 40) dX0_addBlock_40 rfl vb ?_
  refine za_cS2i (pc := 41) (μ' := mJ9_min_7cf53) dX0_addBlock_41 c_X0_129 rfl ⟨rfl, rfl⟩ ⟨rfl, rfl⟩ rfl rfl rfl (tJ9_min_7cf53) (fun x_41 t_41 h_41 => ?_)
  obtain ⟨rfl, h9⟩ := h_41
  have h9 := h9.symm
  subst h9
  rw [ea, eb, a4, b4, nI_min (by omega) (by omega)]
  refine za_is6 (pc := 44) dX0_addBlock_44 rfl ?_
  refine za_iload (pc := 46) dX0_addBlock_46 rfl ?_
  refine za_iload (pc := 48) dX0_addBlock_48 rfl ?_
  refine za_icmp_gt (pc := 50) 62 dX0_addBlock_50 (by decide) (fun c50 => ?_) (fun c50 => ?_)
  · rw [nI_ltI (by omega) (by omega)] at c50
    refine za_rv (pc := 62) dX0_addBlock_62 rfl rfl rfl ?_
    exact Or.inr ⟨by omega, rfl⟩
  rw [nI_ltI (by omega) (by omega)] at c50
  refine za_aload_n (pc := 53) dX0_addBlock_53 rfl ?_
  refine za_getI (pc := 54) dX0_addBlock_54 lk_X0_37 rfl rfl ?_
  refine za_bipush (pc := 57) (55) dX0_addBlock_57 (by decide) ?_
  rw [hnb]
  refine za_icmp_lt (pc := 59) 63 dX0_addBlock_59 (by decide) (fun c59 => ?_) (fun c59 => ?_)
  · refine za_aload_n (pc := 63) dX0_addBlock_63 rfl ?_
    refine za_getR (pc := 64) dX0_addBlock_64 lk_X0_22 rfl rfl ?_
    refine za_aload_n (pc := 67) dX0_addBlock_67 rfl ?_
    refine za_getI (pc := 68) dX0_addBlock_68 lk_X0_37 rfl rfl ?_
    refine za_iload (pc := 71) dX0_addBlock_71 rfl ?_
    refine za_iload_n (pc := 73) dX0_addBlock_73 rfl ?_
    refine za_iconst (pc := 74) (-1) dX0_addBlock_74 (by decide) ?_
    refine za_ixor (pc := 75) dX0_addBlock_75 ?_
    refine za_iand (pc := 76) dX0_addBlock_76 ?_
    rw [zm_not, hnb]
    refine za_iast (pc := 77) dX0_addBlock_77 rfl vn ?_
    refine za_aload_n (pc := 78) dX0_addBlock_78 rfl ?_
    refine za_getR (pc := 79) dX0_addBlock_79 lk_X0_25 rfl rfl ?_
    refine za_aload_n (pc := 82) dX0_addBlock_82 rfl ?_
    refine za_getI (pc := 83) dX0_addBlock_83 lk_X0_37 rfl rfl ?_
    refine za_iload (pc := 86) dX0_addBlock_86 rfl ?_
    refine za_iload_n (pc := 88) dX0_addBlock_88 rfl ?_
    refine za_ior (pc := 89) dX0_addBlock_89 ?_
    rw [zm_or, en, zup_n (by decide), hnb]
    refine za_iast (pc := 90) dX0_addBlock_90 rfl vn ?_
    refine za_aload_n (pc := 91) dX0_addBlock_91 rfl ?_
    refine za_getR (pc := 92) dX0_addBlock_92 lk_X0_28 rfl rfl ?_
    refine za_aload_n (pc := 95) dX0_addBlock_95 rfl ?_
    refine za_getI (pc := 96) dX0_addBlock_96 lk_X0_37 rfl rfl ?_
    refine za_iload (pc := 99) dX0_addBlock_99 rfl ?_
    rw [en, zup_n (by decide), zup_n (by decide), hnb]
    refine za_iast (pc := 101) dX0_addBlock_101 rfl vn ?_
    refine za_aload_n (pc := 102) dX0_addBlock_102 rfl ?_
    refine za_getR (pc := 103) dX0_addBlock_103 lk_X0_31 rfl rfl ?_
    refine za_aload_n (pc := 106) dX0_addBlock_106 rfl ?_
    refine za_getI (pc := 107) dX0_addBlock_107 lk_X0_37 rfl rfl ?_
    refine za_iload (pc := 110) dX0_addBlock_110 rfl ?_
    rw [en, zup_n (by decide), zup_n (by decide), zup_n (by decide), hnb]
    refine za_iast (pc := 112) dX0_addBlock_112 rfl vn ?_
    refine za_aload_n (pc := 113) dX0_addBlock_113 rfl ?_
    refine za_getR (pc := 114) dX0_addBlock_114 lk_X0_34 rfl rfl ?_
    refine za_aload_n (pc := 117) dX0_addBlock_117 rfl ?_
    refine za_getI (pc := 118) dX0_addBlock_118 lk_X0_37 rfl rfl ?_
    refine za_bipush (pc := 121) (11) dX0_addBlock_121 (by decide) ?_
    refine za_iload_n (pc := 123) dX0_addBlock_123 rfl ?_
    refine za_imul (pc := 124) dX0_addBlock_124 ?_
    refine za_iload_n (pc := 125) dX0_addBlock_125 rfl ?_
    refine za_iadd (pc := 126) dX0_addBlock_126 ?_
    rw [en, m11, zup_n (by decide), zup_n (by decide), zup_n (by decide), zup_n (by decide), hnb]
    refine za_iast (pc := 127) dX0_addBlock_127 rfl vn ?_
    refine za_aload_n (pc := 128) dX0_addBlock_128 rfl ?_
    refine za_dup (pc := 129) dX0_addBlock_129 rfl ?_
    refine za_getI (pc := 130) dX0_addBlock_130 lk_X0_37 rfl rfl ?_
    refine za_iconst (pc := 133) (1) dX0_addBlock_133 (by decide) ?_
    refine za_iadd (pc := 134) dX0_addBlock_134 ?_
    rw [en, zup_n (by decide), zup_n (by decide), zup_n (by decide), zup_n (by decide), zup_n (by decide), hnb, nI_1]
    refine za_putI (pc := 135) dX0_addBlock_135 lp_X0_37 rfl rfl ?_
    refine za_rv (pc := 138) dX0_addBlock_138 rfl rfl rfl ?_
    refine Or.inl ⟨by omega, fun e e1 e2 e3 e4 e5 e6 => ?_, fun i hi => ?_, ?_, fun q hq => ⟨?_, ?_, ?_, ?_, ?_⟩, ?_, ?_, ?_, ?_, ?_⟩
    · rw [zup_n e1, zup_n e6, zup_n e5, zup_n e4, zup_n e3, zup_n e2]
    · rw [zup_b hi, zup_n (by decide), zup_n (by decide), zup_n (by decide), zup_n (by decide), zup_n (by decide)]
    · rw [zup_a]
    · rw [zup_n (by decide), zup_n (by decide), zup_n (by decide), zup_n (by decide), zup_n (by decide), zup_b hq]
    · rw [zup_n (by decide), zup_n (by decide), zup_n (by decide), zup_n (by decide), zup_b hq, zup_n (by decide)]
    · rw [zup_n (by decide), zup_n (by decide), zup_n (by decide), zup_b hq, zup_n (by decide), zup_n (by decide)]
    · rw [zup_n (by decide), zup_n (by decide), zup_b hq, zup_n (by decide), zup_n (by decide), zup_n (by decide)]
    · rw [zup_n (by decide), zup_b hq, zup_n (by decide), zup_n (by decide), zup_n (by decide), zup_n (by decide)]
    · rw [zup_n (by decide), zup_n (by decide), zup_n (by decide), zup_n (by decide), zup_n (by decide), zup_a]
    · rw [zup_n (by decide), zup_n (by decide), zup_n (by decide), zup_n (by decide), zup_a]
    · rw [zup_n (by decide), zup_n (by decide), zup_n (by decide), zup_a]
    · rw [zup_n (by decide), zup_n (by decide), zup_a]
    · rw [zup_n (by decide), zup_a]
  · exact absurd (nI_lt h55 (by decide)) c59
