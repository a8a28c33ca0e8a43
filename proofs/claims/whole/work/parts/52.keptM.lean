/-! THE KEPT DAY of the reference: what an hour may hold -/
theorem tX7_may {σ : zSt} {c : Core} {a h : Nat} {S : Nat → Bool} (hM : MCore σ c) (hc : cOk c) (ha : a < cN c) (hb : σ 59 a = zmask (bhd c a)) (hh1 : 1 ≤ h) (hh : h ≤ 60) : zI mX7_may [.ref 47, .int (nI a), .int (nI h), .int (zmask S)] SH σ (fun x t => ((x = 1 ∧ may c h S a) ∨ (x = 0 ∧ ¬ may c h S a)) ∧ t = σ) := by
  have hn := hc.1
  obtain ⟨-, -, p1, p2, q1, q2, b1, b2, e1, e2⟩ := bE_ok hc ha
  obtain ⟨-, m2, m3, -, -⟩ := hM.2 a ha
  have va : vp_in (nI a) 10 := vp_in_nI (by omega) (by decide)
  have ea : (nI a).toNatClampNeg = a := nI_clamp (by omega)
  have no : ¬ may c h S a → zA (zZ mX7_may (zQI SH (fun x t => ((x = 1 ∧ may c h S a) ∨ (x = 0 ∧ ¬ may c h S a)) ∧ t = σ))) mX7_may none 0 0 67 [some (.ref 47), some (.int (nI a)), some (.int (nI h)), some (.int (zmask S))] [] SH σ := by
    intro q
    refine za_iconst (pc := 67) (0) dX7_may_67 (by decide) ?_
    refine za_rz (pc := 68) dX7_may_68 rfl rfl rfl rfl ?_
    exact ⟨Or.inr ⟨rfl, q⟩, rfl⟩
  have yes : may c h S a → zA (zZ mX7_may (zQI SH (fun x t => ((x = 1 ∧ may c h S a) ∨ (x = 0 ∧ ¬ may c h S a)) ∧ t = σ))) mX7_may none 0 0 63 [some (.ref 47), some (.int (nI a)), some (.int (nI h)), some (.int (zmask S))] [] SH σ := by
    intro q
    refine za_iconst (pc := 63) (1) dX7_may_63 (by decide) ?_
    refine za_goto (pc := 64) 68 dX7_may_64 (by decide) ?_
    refine za_rz (pc := 68) dX7_may_68 rfl rfl rfl rfl ?_
    exact ⟨Or.inl ⟨rfl, q⟩, rfl⟩
  refine zI_of (ls := [some (.ref 47), some (.int (nI a)), some (.int (nI h)), some (.int (zmask S))]) (by decide) rfl rfl ?_
  refine za_iload_n (pc := 0) dX7_may_0 rfl ?_
  refine za_iload_n (pc := 1) dX7_may_1 rfl ?_
  refine za_ishr (pc := 2) dX7_may_2 ?_
  refine za_iconst (pc := 3) (1) dX7_may_3 (by decide) ?_
  refine za_iand (pc := 4) dX7_may_4 ?_
  rw [zm_sr (by omega)]
  cases hS : S a with
  | true =>
    rw [if_pos rfl]
    refine za_if_ne (pc := 5) 67 dX7_may_5 (by decide) (fun c5 => ?_) (fun c5 => ?_)
    · exact no (fun q => by rw [q.1] at hS; cases hS)
    · exact absurd c5 (by decide)
  | false =>
    rw [if_neg (by decide)]
    refine za_if_ne (pc := 5) 67 dX7_may_5 (by decide) (fun c5 => ?_) (fun c5 => ?_)
    · exact absurd rfl c5
    refine za_aload_n (pc := 8) dX7_may_8 rfl ?_
    refine za_getR (pc := 9) dX7_may_9 lk_X7_43 rfl rfl ?_
    refine za_iload_n (pc := 12) dX7_may_12 rfl ?_
    refine za_iald (pc := 13) dX7_may_13 rfl va ?_
    refine za_iload_n (pc := 14) dX7_may_14 rfl ?_
    refine za_iconst (pc := 15) (-1) dX7_may_15 (by decide) ?_
    refine za_ixor (pc := 16) dX7_may_16 ?_
    refine za_iand (pc := 17) dX7_may_17 ?_
    rw [ea, hb, zm_not]
    refine za_if_ne (pc := 18) 67 dX7_may_18 (by decide) (fun c18 => ?_) (fun c18 => ?_)
    · rw [zm_z] at c18
      refine no (fun q => c18 (fun i hi => ?_))
      cases hr : bhd c a i with
      | false => rfl
      | true => rw [q.2.1 i ((bhd_ord hc).1 a i ha hr) hr]; rfl
    rw [zm_z] at c18
    have hbe : ∀ i, i < cN c → bhd c a i = true → S i = true := fun i hi hr => by
      have := c18 i (by omega)
      rw [hr] at this
      simpa using this
    have at42 : bN c a ≤ h → zA (zZ mX7_may (zQI SH (fun x t => ((x = 1 ∧ may c h S a) ∨ (x = 0 ∧ ¬ may c h S a)) ∧ t = σ))) mX7_may none 0 0 42 [some (.ref 47), some (.int (nI a)), some (.int (nI h)), some (.int (zmask S))] [] SH σ := by
      intro hB
      refine za_aload_n (pc := 42) dX7_may_42 rfl ?_
      refine za_getR (pc := 43) dX7_may_43 lk_X7_25 rfl rfl ?_
      refine za_iload_n (pc := 46) dX7_may_46 rfl ?_
      refine za_iald (pc := 47) dX7_may_47 rfl va ?_
      refine za_bipush (pc := 48) (-3) dX7_may_48 (by decide) ?_
      rw [ea, m3]
      refine za_icmp_eq (pc := 50) 63 dX7_may_50 (by decide) (fun c50 => ?_) (fun c50 => ?_)
      · exact yes ⟨hS, hbe, hB, by rw [e1 c50]; omega⟩
      · refine za_iload_n (pc := 53) dX7_may_53 rfl ?_
        refine za_aload_n (pc := 54) dX7_may_54 rfl ?_
        refine za_getR (pc := 55) dX7_may_55 lk_X7_25 rfl rfl ?_
        refine za_iload_n (pc := 58) dX7_may_58 rfl ?_
        refine za_iald (pc := 59) dX7_may_59 rfl va ?_
        rw [ea, m3]
        refine za_icmp_gt (pc := 60) 67 dX7_may_60 (by decide) (fun c60 => ?_) (fun c60 => ?_)
        · rw [e2 c50, nI_ltI (by omega) (by omega)] at c60
          exact no (fun q => by have := q.2.2.2; omega)
        · rw [e2 c50, nI_ltI (by omega) (by omega)] at c60
          exact yes ⟨hS, hbe, hB, by omega⟩
    refine za_aload_n (pc := 21) dX7_may_21 rfl ?_
    refine za_getR (pc := 22) dX7_may_22 lk_X7_22 rfl rfl ?_
    refine za_iload_n (pc := 25) dX7_may_25 rfl ?_
    refine za_iald (pc := 26) dX7_may_26 rfl va ?_
    refine za_bipush (pc := 27) (-3) dX7_may_27 (by decide) ?_
    rw [ea, m2]
    refine za_icmp_eq (pc := 29) 42 dX7_may_29 (by decide) (fun c29 => ?_) (fun c29 => ?_)
    · exact at42 (by rw [b1 c29]; omega)
    · refine za_iload_n (pc := 32) dX7_may_32 rfl ?_
      refine za_aload_n (pc := 33) dX7_may_33 rfl ?_
      refine za_getR (pc := 34) dX7_may_34 lk_X7_22 rfl rfl ?_
      refine za_iload_n (pc := 37) dX7_may_37 rfl ?_
      refine za_iald (pc := 38) dX7_may_38 rfl va ?_
      rw [ea, m2]
      refine za_icmp_lt (pc := 39) 67 dX7_may_39 (by decide) (fun c39 => ?_) (fun c39 => ?_)
      · rw [b2 c29, nI_ltI (by omega) (by omega)] at c39
        exact no (fun q => by have := q.2.2.1; omega)
      · rw [b2 c29, nI_ltI (by omega) (by omega)] at c39
        exact at42 (by omega)
theorem tX7_may2 {σ : zSt} {c : Core} {a b : Nat} (hM : MCore σ c) (hn : cN c ≤ 10) (ha : a < cN c) (hb : b < cN c) : zI mX7_may2 [.ref 47, .int (nI a), .int (nI b)] SH σ (fun x t => ((x = 1 ∧ ¬ sB c a b) ∨ (x = 0 ∧ sB c a b)) ∧ t = σ) := by
  obtain ⟨-, -, -, m4, -⟩ := hM.2 a ha
  obtain ⟨-, -, -, n4, -⟩ := hM.2 b hb
  have va : vp_in (nI a) 10 := vp_in_nI (by omega) (by decide)
  have ea : (nI a).toNatClampNeg = a := nI_clamp (by omega)
  have vb : vp_in (nI b) 10 := vp_in_nI (by omega) (by decide)
  have eb : (nI b).toNatClampNeg = b := nI_clamp (by omega)
  refine zI_of (ls := [some (.ref 47), some (.int (nI a)), some (.int (nI b))]) (by decide) rfl rfl ?_
  refine za_aload_n (pc := 0) dX7_may2_0 rfl ?_
  refine za_getR (pc := 1) dX7_may2_1 lk_X7_28 rfl rfl ?_
  refine za_iload_n (pc := 4) dX7_may2_4 rfl ?_
  refine za_iald (pc := 5) dX7_may2_5 rfl va ?_
  refine za_bipush (pc := 6) (-3) dX7_may2_6 (by decide) ?_
  rw [ea, m4]
  refine za_icmp_eq (pc := 8) 26 dX7_may2_8 (by decide) (fun c8 => ?_) (fun c8 => ?_)
  · refine za_iconst (pc := 26) (1) dX7_may2_26 (by decide) ?_
    refine za_goto (pc := 27) 31 dX7_may2_27 (by decide) ?_
    refine za_rz (pc := 31) dX7_may2_31 rfl rfl rfl rfl ?_
    exact ⟨Or.inl ⟨rfl, fun q => q.1 c8⟩, rfl⟩
  · refine za_aload_n (pc := 11) dX7_may2_11 rfl ?_
    refine za_getR (pc := 12) dX7_may2_12 lk_X7_28 rfl rfl ?_
    refine za_iload_n (pc := 15) dX7_may2_15 rfl ?_
    refine za_iald (pc := 16) dX7_may2_16 rfl va ?_
    refine za_aload_n (pc := 17) dX7_may2_17 rfl ?_
    refine za_getR (pc := 18) dX7_may2_18 lk_X7_28 rfl rfl ?_
    refine za_iload_n (pc := 21) dX7_may2_21 rfl ?_
    refine za_iald (pc := 22) dX7_may2_22 rfl vb ?_
    rw [ea, eb, m4, n4]
    refine za_icmp_eq (pc := 23) 30 dX7_may2_23 (by decide) (fun c23 => ?_) (fun c23 => ?_)
    · refine za_iconst (pc := 30) (0) dX7_may2_30 (by decide) ?_
      refine za_rz (pc := 31) dX7_may2_31 rfl rfl rfl rfl ?_
      exact ⟨Or.inr ⟨rfl, c8, c23⟩, rfl⟩
    · refine za_iconst (pc := 26) (1) dX7_may2_26 (by decide) ?_
      refine za_goto (pc := 27) 31 dX7_may2_27 (by decide) ?_
      refine za_rz (pc := 31) dX7_may2_31 rfl rfl rfl rfl ?_
      exact ⟨Or.inl ⟨rfl, fun q => c23 q.2⟩, rfl⟩
theorem m11 {a b : Nat} : (11 : Int32) * nI a + nI b = nI (11 * a + b) := by
  show nI 11 * nI a + nI b = _
  rw [show nI 11 * nI a = nI (11 * a) from (Int32.ofNat_mul 11 a).symm, nI_add]
theorem m1024 {a b : Nat} : (1024 : Int32) * nI a + nI b = nI (1024 * a + b) := by
  show nI 1024 * nI a + nI b = _
  rw [show nI 1024 * nI a = nI (1024 * a) from (Int32.ofNat_mul 1024 a).symm, nI_add]
theorem tX7_codeOf {S : List zSh} {σ : zSt} {a b : Nat} {y : Int32} (ha : a < 10) (hb : (b = 10 ∧ y = -3) ∨ (b < 10 ∧ y = nI b)) : zI mX7_codeOf [.int (nI a), .int y] S σ (fun x t => x = nI (11 * a + b) ∧ t = σ) := by
  have na : ∀ k, k < 10 → nI k ≠ -3 := by decide
  refine zI_of (ls := [some (.int (nI a)), some (.int y)]) (by decide) rfl rfl ?_
  refine za_iload_n (pc := 0) dX7_codeOf_0 rfl ?_
  refine za_bipush (pc := 1) (-3) dX7_codeOf_1 (by decide) ?_
  refine za_icmp_ne (pc := 3) 11 dX7_codeOf_3 (by decide) (fun c3 => ?_) (fun c3 => ?_)
  · refine za_iload_n (pc := 11) dX7_codeOf_11 rfl ?_
    refine za_bipush (pc := 12) (-3) dX7_codeOf_12 (by decide) ?_
    rcases hb with ⟨rfl, rfl⟩ | ⟨hb, rfl⟩
    · refine za_icmp_ne (pc := 14) 27 dX7_codeOf_14 (by decide) (fun c14 => ?_) (fun c14 => ?_)
      · exact absurd rfl c14
      · refine za_bipush (pc := 17) (11) dX7_codeOf_17 (by decide) ?_
        refine za_iload_n (pc := 19) dX7_codeOf_19 rfl ?_
        refine za_imul (pc := 20) dX7_codeOf_20 ?_
        refine za_bipush (pc := 21) (10) dX7_codeOf_21 (by decide) ?_
        refine za_iadd (pc := 23) dX7_codeOf_23 ?_
        refine za_goto (pc := 24) 33 dX7_codeOf_24 (by decide) ?_
        refine za_ri (pc := 33) dX7_codeOf_33 rfl rfl rfl ?_
        exact ⟨m11 (b := 10), rfl⟩
    · refine za_icmp_ne (pc := 14) 27 dX7_codeOf_14 (by decide) (fun c14 => ?_) (fun c14 => ?_)
      · refine za_bipush (pc := 27) (11) dX7_codeOf_27 (by decide) ?_
        refine za_iload_n (pc := 29) dX7_codeOf_29 rfl ?_
        refine za_imul (pc := 30) dX7_codeOf_30 ?_
        refine za_iload_n (pc := 31) dX7_codeOf_31 rfl ?_
        refine za_iadd (pc := 32) dX7_codeOf_32 ?_
        refine za_ri (pc := 33) dX7_codeOf_33 rfl rfl rfl ?_
        exact ⟨m11, rfl⟩
      · exact absurd c14 (na b hb)
  · exact absurd c3 (na a ha)
