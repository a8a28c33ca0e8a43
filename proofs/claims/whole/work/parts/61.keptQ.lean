/-! questions on THE KEPT DAY -/
noncomputable def spCode (c : Core) (h : Int32) : Int32 := if h < 1 then -1 else if kL c = 61 ∨ (kL c : Int) < h.toInt then -3 else nI (kcd c (kL c) (h.toNatClampNeg - 1) (kSq c (kL c) (h.toNatClampNeg - 1)))
def XKq (σ t : zSt) (c : Core) (v : Int32) : Prop := XKept t c ∧ t 22 13 = v ∧ (t 10 6 = v → XOrd t c) ∧ (t 10 6 = v ∨ t 10 6 = σ 10 6) ∧ FK t σ
theorem kL_le (c : Core) : kL c ≤ 61 := by
  unfold kL
  rcases fnd_spec (p := fun L => tb (rch c L 0 (fun _ => false))) 61 with q | q <;> omega
theorem tX6_keptDayNow {σ : zSt} {c : Core} {v : Int32} (hX : XCore σ c) (hc : cOk c) (hv : σ 2 7 = v) (hO : σ 10 6 = v → XOrd σ c) (hK : σ 22 13 = v → XKept σ c) : zO mX6_keptDayNow [.ref 0] SH σ 22 (fun t => XKq σ t c v) := by
  refine zO_of (ls := [some (.ref 0)]) (by decide) rfl rfl ?_
  refine za_aload_n (pc := 0) dX6_keptDayNow_0 rfl ?_
  refine za_getR (pc := 1) dX6_keptDayNow_1 lk_X6_43 rfl rfl ?_
  refine za_cV0v (pc := 4) (μ' := mX0_renew) dX6_keptDayNow_4 c_X6_245 rfl rfl rfl ⟨rfl, rfl⟩ ⟨rfl, rfl⟩ rfl rfl rfl (tX0_renew hX hc hv hO hK) (fun t_4 h_4 => ?_)
  refine za_aload_n (pc := 7) dX6_keptDayNow_7 rfl ?_
  refine za_getR (pc := 8) dX6_keptDayNow_8 lk_X6_43 rfl rfl ?_
  refine za_ra (pc := 11) dX6_keptDayNow_11 rfl rfl rfl ?_
  exact h_4
theorem tX6_kept {σ : zSt} {c : Core} {v : Int32} (hX : XCore σ c) (hc : cOk c) (hv : σ 2 7 = v) (hO : σ 10 6 = v → XOrd σ c) (hK : σ 22 13 = v → XKept σ c) : zI mX6_kept [.ref 0] SH σ (fun x t => x = spKept c ∧ XKq σ t c v) := by
  refine zI_of (ls := [some (.ref 0)]) (by decide) rfl rfl ?_
  refine za_aload_n (pc := 0) dX6_kept_0 rfl ?_
  refine za_cV0r (pc := 1) (μ' := mX6_keptDayNow) dX6_kept_1 c_X6_170 rfl rfl rfl ⟨rfl, rfl⟩ ⟨rfl, rfl⟩ rfl rfl rfl (tX6_keptDayNow hX hc hv hO hK) (fun t_1 h_1 => ?_)
  refine za_getI (pc := 4) dX6_kept_4 lk_X6_204 rfl rfl ?_
  refine za_ri (pc := 7) dX6_kept_7 rfl rfl rfl ?_
  exact ⟨h_1.1.1, h_1⟩
theorem hour_k {L : Nat} {h : Int32} (hL : L ≤ 60) (h1 : ¬ h < 1) (h2 : ¬ (L : Int) < h.toInt) : ∃ k, k < L ∧ h = nI (k + 1) := by
  have e1 : (1 : Int32).toInt = 1 := rfl
  rw [fa_lt, e1] at h1
  obtain ⟨j, hj, e⟩ := zix (x := h) (N := 61) (by rw [fa_le]; have : (0 : Int32).toInt = 0 := rfl; omega) (by rw [fa_lt, show (nI 61).toInt = 61 from rfl]; omega) (by decide)
  subst e
  rw [nI_toInt (by omega)] at h1 h2
  exact ⟨j - 1, by omega, by rw [show j - 1 + 1 = j by omega]⟩
theorem tX6_code {σ : zSt} {c : Core} {v h : Int32} (hX : XCore σ c) (hc : cOk c) (hv : σ 2 7 = v) (hO : σ 10 6 = v → XOrd σ c) (hK : σ 22 13 = v → XKept σ c) : zI mX6_code [.ref 0, .int h] SH σ (fun x t => x = spCode c h ∧ (t = σ ∨ XKq σ t c v)) := by
  have hk := kL_le c
  have e1 : (1 : Int32).toInt = 1 := rfl
  refine zI_of (ls := [some (.ref 0), some (.int h), none]) (by decide) rfl rfl ?_
  refine za_iload_n (pc := 0) dX6_code_0 rfl ?_
  refine za_iconst (pc := 1) (1) dX6_code_1 (by decide) ?_
  refine za_icmp_ge (pc := 2) 7 dX6_code_2 (by decide) (fun c2 => ?_) (fun c2 => ?_)
  · have h1 : ¬ h < 1 := Int32.not_lt.mpr c2
    refine za_aload_n (pc := 7) dX6_code_7 rfl ?_
    refine za_cV0r (pc := 8) (μ' := mX6_keptDayNow) dX6_code_8 c_X6_170 rfl rfl rfl ⟨rfl, rfl⟩ ⟨rfl, rfl⟩ rfl rfl rfl (tX6_keptDayNow hX hc hv hO hK) (fun t_8 h_8 => ?_)
    have hq := h_8
    obtain ⟨⟨k1, k2, k3⟩, -⟩ := h_8
    refine za_as2n (pc := 11) dX6_code_11 rfl ?_
    refine za_iload_n (pc := 12) dX6_code_12 rfl ?_
    refine za_aload_n (pc := 13) dX6_code_13 rfl ?_
    refine za_getI (pc := 14) dX6_code_14 lk_X6_204 rfl rfl ?_
    rw [k1]
    by_cases hL : kL c = 61
    · have e : spKept c = -3 := by unfold spKept; rw [if_pos hL]
      rw [e]
      refine za_icmp_gt (pc := 17) 29 dX6_code_17 (by decide) (fun c17 => ?_) (fun c17 => ?_)
      · refine za_bipush (pc := 29) (-3) dX6_code_29 (by decide) ?_
        refine za_ri (pc := 31) dX6_code_31 rfl rfl rfl ?_
        exact ⟨by unfold spCode; rw [if_neg h1, if_pos (Or.inl hL)], Or.inr hq⟩
      · exfalso
        rw [fa_lt] at c17 h1
        have : (-3 : Int32).toInt = -3 := rfl
        omega
    · have e : spKept c = nI (kL c) := by unfold spKept; rw [if_neg hL]
      rw [e]
      refine za_icmp_gt (pc := 17) 29 dX6_code_17 (by decide) (fun c17 => ?_) (fun c17 => ?_)
      · refine za_bipush (pc := 29) (-3) dX6_code_29 (by decide) ?_
        refine za_ri (pc := 31) dX6_code_31 rfl rfl rfl ?_
        rw [fa_lt, nI_toInt (by omega)] at c17
        exact ⟨by unfold spCode; rw [if_neg h1, if_pos (Or.inr c17)], Or.inr hq⟩
      · rw [fa_lt, nI_toInt (by omega)] at c17
        obtain ⟨k, hkL, rfl⟩ := hour_k (show kL c ≤ 60 by omega) h1 c17
        have ek : (nI (k + 1)).toNatClampNeg = k + 1 := nI_clamp (by omega)
        refine za_aload_n (pc := 20) dX6_code_20 rfl ?_
        refine za_getR (pc := 21) dX6_code_21 lk_X6_205 rfl rfl ?_
        refine za_iload_n (pc := 24) dX6_code_24 rfl ?_
        refine za_iald (pc := 25) dX6_code_25 rfl (vp_in_nI (show k + 1 < 61 by omega) (by decide)) ?_
        refine za_goto (pc := 26) 31 dX6_code_26 (by decide) ?_
        refine za_ri (pc := 31) dX6_code_31 rfl rfl rfl ?_
        refine ⟨?_, Or.inr hq⟩
        unfold spCode
        rw [if_neg h1, if_neg (fun q => q.elim hL c17), ek, k2 k (by omega) hkL, Nat.add_sub_cancel]
  · refine za_iconst (pc := 5) (-1) dX6_code_5 (by decide) ?_
    refine za_ri (pc := 6) dX6_code_6 rfl rfl rfl ?_
    exact ⟨by unfold spCode; rw [if_pos (Int32.not_le.mp c2)], Or.inl rfl⟩
def MKq (σ t : zSt) (c : Core) : Prop := MKept t c ∧ t 47 14 = 1 ∧ FMK t σ
theorem tX7_kept {σ : zSt} {c : Core} (hP : MP σ c) (hI : σ 47 14 = 0 ∨ (σ 47 14 = 1 ∧ MKept σ c)) : zI mX7_kept [.ref 47] SH σ (fun x t => x = spKept c ∧ MKq σ t c) := by
  refine zI_of (ls := [some (.ref 47)]) (by decide) rfl rfl ?_
  refine za_aload_n (pc := 0) dX7_kept_0 rfl ?_
  refine za_cV0v (pc := 1) (μ' := mX7_layKept) dX7_kept_1 c_X7_171 rfl rfl rfl ⟨rfl, rfl⟩ ⟨rfl, rfl⟩ rfl rfl rfl (tX7_layKept hP hI) (fun t_1 h_1 => ?_)
  refine za_aload_n (pc := 4) dX7_kept_4 rfl ?_
  refine za_getI (pc := 5) dX7_kept_5 lk_X7_197 rfl rfl ?_
  refine za_ri (pc := 8) dX7_kept_8 rfl rfl rfl ?_
  exact ⟨h_1.1.1, h_1⟩
theorem tX7_code {σ : zSt} {c : Core} {h : Int32} (hP : MP σ c) (hI : σ 47 14 = 0 ∨ (σ 47 14 = 1 ∧ MKept σ c)) : zI mX7_code [.ref 47, .int h] SH σ (fun x t => x = spCode c h ∧ (t = σ ∨ MKq σ t c)) := by
  have hk := kL_le c
  refine zI_of (ls := [some (.ref 47), some (.int h)]) (by decide) rfl rfl ?_
  refine za_iload_n (pc := 0) dX7_code_0 rfl ?_
  refine za_iconst (pc := 1) (1) dX7_code_1 (by decide) ?_
  refine za_icmp_ge (pc := 2) 7 dX7_code_2 (by decide) (fun c2 => ?_) (fun c2 => ?_)
  · have h1 : ¬ h < 1 := Int32.not_lt.mpr c2
    refine za_aload_n (pc := 7) dX7_code_7 rfl ?_
    refine za_cV0v (pc := 8) (μ' := mX7_layKept) dX7_code_8 c_X7_171 rfl rfl rfl ⟨rfl, rfl⟩ ⟨rfl, rfl⟩ rfl rfl rfl (tX7_layKept hP hI) (fun t_8 h_8 => ?_)
    have hq := h_8
    obtain ⟨⟨k1, k2, k3⟩, -⟩ := h_8
    refine za_aload_n (pc := 11) dX7_code_11 rfl ?_
    refine za_getI (pc := 12) dX7_code_12 lk_X7_197 rfl rfl ?_
    refine za_bipush (pc := 15) (-3) dX7_code_15 (by decide) ?_
    rw [k1]
    by_cases hL : kL c = 61
    · have e : spKept c = -3 := by unfold spKept; rw [if_pos hL]
      rw [e]
      refine za_icmp_eq (pc := 17) 28 dX7_code_17 (by decide) (fun c17 => ?_) (fun c17 => ?_)
      · refine za_bipush (pc := 28) (-3) dX7_code_28 (by decide) ?_
        refine za_goto (pc := 30) 39 dX7_code_30 (by decide) ?_
        refine za_ri (pc := 39) dX7_code_39 rfl rfl rfl ?_
        exact ⟨by unfold spCode; rw [if_neg h1, if_pos (Or.inl hL)], Or.inr hq⟩
      · exact absurd rfl c17
    · have e : spKept c = nI (kL c) := by unfold spKept; rw [if_neg hL]
      rw [e]
      refine za_icmp_eq (pc := 17) 28 dX7_code_17 (by decide) (fun c17 => ?_) (fun c17 => ?_)
      · exact absurd c17 (fun q => by
          have := congrArg Int32.toInt q
          rw [nI_toInt (by omega)] at this
          have h3 : (-3 : Int32).toInt = -3 := rfl
          omega)
      refine za_iload_n (pc := 20) dX7_code_20 rfl ?_
      refine za_aload_n (pc := 21) dX7_code_21 rfl ?_
      refine za_getI (pc := 22) dX7_code_22 lk_X7_197 rfl rfl ?_
      rw [k1, e]
      refine za_icmp_le (pc := 25) 33 dX7_code_25 (by decide) (fun c25 => ?_) (fun c25 => ?_)
      · have c17 : ¬ (kL c : Int) < h.toInt := by
          rw [fa_le, nI_toInt (by omega)] at c25
          omega
        obtain ⟨k, hkL, rfl⟩ := hour_k (show kL c ≤ 60 by omega) h1 c17
        have ek : (nI (k + 1)).toNatClampNeg = k + 1 := nI_clamp (by omega)
        refine za_aload_n (pc := 33) dX7_code_33 rfl ?_
        refine za_getR (pc := 34) dX7_code_34 lk_X7_65 rfl rfl ?_
        refine za_iload_n (pc := 37) dX7_code_37 rfl ?_
        refine za_iald (pc := 38) dX7_code_38 rfl (vp_in_nI (show k + 1 < 61 by omega) (by decide)) ?_
        refine za_ri (pc := 39) dX7_code_39 rfl rfl rfl ?_
        refine ⟨?_, Or.inr hq⟩
        unfold spCode
        rw [if_neg h1, if_neg (fun q => q.elim hL c17), ek, k2 k (by omega) hkL, Nat.add_sub_cancel]
      · refine za_bipush (pc := 28) (-3) dX7_code_28 (by decide) ?_
        refine za_goto (pc := 30) 39 dX7_code_30 (by decide) ?_
        refine za_ri (pc := 39) dX7_code_39 rfl rfl rfl ?_
        rw [fa_le, nI_toInt (by omega)] at c25
        exact ⟨by unfold spCode; rw [if_neg h1, if_pos (Or.inr (by omega))], Or.inr hq⟩
  · refine za_iconst (pc := 5) (-1) dX7_code_5 (by decide) ?_
    refine za_ri (pc := 6) dX7_code_6 rfl rfl rfl ?_
    exact ⟨by unfold spCode; rw [if_pos (Int32.not_le.mp c2)], Or.inl rfl⟩
/-! check: the hour of job a in six bits -/
def hN (x : Int64) (a : Nat) : Nat := mkm (fun i => x.toBitVec.getLsbD (6 * a + i)) 6
theorem hN_lt (x : Int64) (a : Nat) : hN x a < 64 := mkm_lt _ 6
theorem b_63 : ∀ i, i < 32 → bt 63 i = decide (i < 6) := by decide
theorem and63 {y : Int32} {p : Nat → Bool} (h : ∀ i, i < 6 → bt y i = p i) : y &&& 63 = nI (mkm p 6) := by
  apply b_ext
  intro i hi
  rw [b_and, b_63 i hi, b_nI, mkm_bit]
  by_cases e : i < 6
  · rw [h i e]; simp [e, hi]
  · simp [e]
theorem shU : ∀ a, a < 10 → ((((6 : Int32) * nI a).toInt64.toUInt64 &&& Int64.toUInt64 63).toBitVec % 64).toNat = 6 * a := by decide
theorem shS : ∀ a, a < 10 → ((((6 : Int32) * nI a).toInt64 &&& 63).toBitVec.smod 64).toNat = 6 * a := by decide
theorem hr_X {x : Int64} {a : Nat} (ha : a < 10) : ((x.toUInt64 >>> (((6 : Int32) * nI a).toInt64.toUInt64 &&& Int64.toUInt64 63)).toInt64.toInt32) &&& 63 = nI (hN x a) := by
  refine and63 (fun i hi => ?_)
  unfold bt
  rw [Int64.toBitVec_toInt32, BitVec.getLsbD_signExtend, UInt64.toBitVec_toInt64, UInt64.toBitVec_shiftRight, BitVec.ushiftRight_eq', BitVec.getLsbD_ushiftRight, Int64.toBitVec_toUInt64, shU a ha]
  have h1 : i < 32 := by omega
  have h2 : i < 64 := by omega
  simp [h1, h2]
theorem b64_63 : ∀ i, i < 6 → (63 : Int64).toBitVec.getLsbD i = true := by decide
theorem b64_64 : ∀ i, i < 32 → 6 ≤ i → (63 : Int64).toBitVec.getLsbD i = false := by decide
theorem hr_M {x : Int64} {a : Nat} (ha : a < 10) : ((x >>> (((6 : Int32) * nI a).toInt64 &&& 63)) &&& 63).toInt32 = nI (hN x a) := by
  apply b_ext
  intro i hi
  rw [b_nI]
  unfold hN
  rw [mkm_bit]
  unfold bt
  rw [Int64.toBitVec_toInt32, BitVec.getLsbD_signExtend, Int64.toBitVec_and, BitVec.getLsbD_and, Int64.toBitVec_shiftRight, BitVec.sshiftRight_eq', BitVec.getLsbD_sshiftRight, shS a ha]
  have h2 : i < 64 := by omega
  have h3 : ¬ 64 ≤ i := by omega
  by_cases e : i < 6
  · have h4 : 6 * a + i < 64 := by omega
    rw [b64_63 i e]
    simp [hi, h2, h3, h4, e]
  · rw [b64_64 i hi (by omega)]
    simp [e, h2]
theorem tX6_hourIn {S : List zSh} {σ : zSt} {x : Int64} {a : Nat} (ha : a < 10) : zI mX6_hourIn [.long x, .int (nI a)] S σ (fun y t => y = nI (hN x a) ∧ t = σ) := by
  refine zI_of (ls := [some (.long x), none, some (.int (nI a))]) (by decide) rfl rfl ?_
  refine za_lload_n (pc := 0) dX6_hourIn_0 rfl ?_
  refine za_bipush (pc := 1) (6) dX6_hourIn_1 (by decide) ?_
  refine za_iload_n (pc := 3) dX6_hourIn_3 rfl ?_
  refine za_imul (pc := 4) dX6_hourIn_4 ?_
  refine za_lushr (pc := 5) dX6_hourIn_5 ?_
  refine za_l2i (pc := 6) dX6_hourIn_6 ?_
  refine za_bipush (pc := 7) (63) dX6_hourIn_7 (by decide) ?_
  refine za_iand (pc := 9) dX6_hourIn_9 ?_
  refine za_ri (pc := 10) dX6_hourIn_10 rfl rfl rfl ?_
  exact ⟨hr_X ha, rfl⟩
