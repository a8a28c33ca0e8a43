/-! count of both sides -/
def sumW (c : Core) : Nat → Nat
  | 0 => 0
  | a + 1 => sumW c a + cnt (cW c a) 10
theorem sumW_le (c : Core) : ∀ k, sumW c k ≤ 10 * k
  | 0 => Nat.le_refl 0
  | k + 1 => by
    have := sumW_le c k
    have := cnt_le (cW c k) 10
    show sumW c k + cnt (cW c k) 10 ≤ _
    omega
noncomputable def ctV (c : Core) (m : Nat) : Nat → Int32
  | 0 => nI (cN c)
  | 1 => nI (sumW c (cN c))
  | 2 => nI m
  | 3 => nI (cnt (idl c) (dLen c))
  | _ => nI (gdep (cN c) (bhd c))
noncomputable def spCount (c : Core) (m : Nat) (what : Int32) : Int32 := if 0 ≤ what ∧ what < 5 then ctV c m what.toNatClampNeg else -1
theorem w5_ix {w : Int32} (h : 0 ≤ w ∧ w < 5) : w = nI 0 ∨ w = nI 1 ∨ w = nI 2 ∨ w = nI 3 ∨ w = nI 4 := by
  obtain ⟨k, hk, e⟩ := zix (x := w) (N := 5) h.1 h.2 (by decide)
  have : k = 0 ∨ k = 1 ∨ k = 2 ∨ k = 3 ∨ k = 4 := by omega
  rcases this with rfl | rfl | rfl | rfl | rfl <;> simp [e]
theorem w5_out {w : Int32} (h : ¬ (0 ≤ w ∧ w < 5)) : w.toInt < 0 ∨ 4 < w.toInt := by
  rw [fa_le, fa_lt, show (0 : Int32).toInt = 0 from rfl, show (5 : Int32).toInt = 5 from rfl] at h
  omega
theorem tX5_countWaits {σ : zSt} {c : Core} (hX : XCore σ c) (hc : cOk c) : zI mX5_countWaits [.ref 2] SH σ (fun x t => x = nI (sumW c (cN c)) ∧ t = σ) := by
  have hn := hc.1
  have hj := hX.1
  refine zI_of (ls := [some (.ref 2), none, none]) (by decide) rfl rfl ?_
  refine za_iconst (pc := 0) (0) dX5_countWaits_0 (by decide) ?_
  refine za_is1n (pc := 1) dX5_countWaits_1 rfl ?_
  refine za_iconst (pc := 2) (0) dX5_countWaits_2 (by decide) ?_
  refine za_is2n (pc := 3) dX5_countWaits_3 rfl ?_
  have loop : ∀ (q a : Nat), a + q = cN c → zA (zZ mX5_countWaits (zQI SH (fun x t => x = nI (sumW c (cN c)) ∧ t = σ))) mX5_countWaits none 0 0 4 [some (.ref 2), some (.int (nI (sumW c a))), some (.int (nI a))] [] SH σ := by
    intro q
    induction q with
    | zero =>
      intro a ha
      refine za_iload_n (pc := 4) dX5_countWaits_4 rfl ?_
      refine za_aload_n (pc := 5) dX5_countWaits_5 rfl ?_
      refine za_getI (pc := 6) dX5_countWaits_6 lk_X5_27 rfl rfl ?_
      rw [hj]
      refine za_icmp_ge (pc := 9) 30 dX5_countWaits_9 (by decide) (fun c9 => ?_) (fun c9 => ?_)
      · refine za_iload_n (pc := 30) dX5_countWaits_30 rfl ?_
        refine za_ri (pc := 31) dX5_countWaits_31 rfl rfl rfl ?_
        rw [show a = cN c by omega]
        exact ⟨rfl, rfl⟩
      · exact absurd (nI_le (show cN c ≤ a by omega) (by omega)) c9
    | succ q ih =>
      intro a ha
      have hac : a < cN c := by omega
      have va : vp_in (nI a) 10 := vp_in_nI (by omega) (by decide)
      have ea : (nI a).toNatClampNeg = a := nI_clamp (by omega)
      refine za_iload_n (pc := 4) dX5_countWaits_4 rfl ?_
      refine za_aload_n (pc := 5) dX5_countWaits_5 rfl ?_
      refine za_getI (pc := 6) dX5_countWaits_6 lk_X5_27 rfl rfl ?_
      rw [hj]
      refine za_icmp_ge (pc := 9) 30 dX5_countWaits_9 (by decide) (fun c9 => ?_) (fun c9 => ?_)
      · exact absurd c9 (nI_ge hac (by omega))
      refine za_iload_n (pc := 12) dX5_countWaits_12 rfl ?_
      refine za_aload_n (pc := 13) dX5_countWaits_13 rfl ?_
      refine za_getR (pc := 14) dX5_countWaits_14 lk_X5_24 rfl rfl ?_
      refine za_iload_n (pc := 17) dX5_countWaits_17 rfl ?_
      refine za_iald (pc := 18) dX5_countWaits_18 rfl va ?_
      refine za_cS1i (pc := 19) (μ' := mJ6_bitCount_0f7a4) dX5_countWaits_19 c_X5_57 rfl ⟨rfl, rfl⟩ ⟨rfl, rfl⟩ rfl rfl rfl (tJ6_bitCount_0f7a4) (fun x_19 t_19 h_19 => ?_)
      obtain ⟨rfl, h9⟩ := h_19
      have h9 := h9.symm
      subst h9
      rw [ea, (hX.2.1 a hac).2.2.2.2, zm_bc (fun i hi => by
        cases hq : cW c a i with
        | false => rfl
        | true => have := hc.2.2.1 a i hac hq; omega)]
      refine za_iadd (pc := 22) dX5_countWaits_22 ?_
      rw [nI_add]
      refine za_is1n (pc := 23) dX5_countWaits_23 rfl ?_
      refine za_ii2 (pc := 24) (1) dX5_countWaits_24 (by decide) rfl ?_
      refine za_goto (pc := 27) 4 dX5_countWaits_27 (by decide) ?_
      rw [nI_1]
      exact ih (a + 1) (by omega)
  exact loop (cN c) 0 (by omega)
theorem tX6_count {σ : zSt} {c : Core} {v what : Int32} {m : Nat} (h : XA σ c v) (hm : σ 2 6 = nI m) : zI mX6_count [.ref 0, .int what] SH σ (fun x t => x = spCount c m what ∧ XAny σ t c v) := by
  obtain ⟨⟨hX, hc, hv, hO, hD⟩, hK⟩ := h
  have hn := hc.1
  refine zI_of (ls := [some (.ref 0), some (.int what)]) (by decide) rfl rfl ?_
  refine za_iload_n (pc := 0) dX6_count_0 rfl ?_
  by_cases h2 : 0 ≤ what ∧ what < 5
  · have eA : spCount c m what = ctV c m what.toNatClampNeg := by unfold spCount; rw [if_pos h2]
    rw [eA]
    rcases w5_ix h2 with rfl | rfl | rfl | rfl | rfl
    · refine za_tableIn (pc := 1) (off := 35) 36 dX6_count_1 (by decide) (by decide) (by decide) (by decide) ?_
      refine za_aload_n (pc := 36) dX6_count_36 rfl ?_
      refine za_getR (pc := 37) dX6_count_37 lk_X6_18 rfl rfl ?_
      refine za_getI (pc := 40) dX6_count_40 lk_X6_98 rfl rfl ?_
      refine za_ri (pc := 43) dX6_count_43 rfl rfl rfl ?_
      exact ⟨hX.1, Or.inl rfl⟩
    · refine za_tableIn (pc := 1) (off := 43) 44 dX6_count_1 (by decide) (by decide) (by decide) (by decide) ?_
      refine za_aload_n (pc := 44) dX6_count_44 rfl ?_
      refine za_getR (pc := 45) dX6_count_45 lk_X6_18 rfl rfl ?_
      refine za_cV0i (pc := 48) (μ' := mX5_countWaits) dX6_count_48 c_X6_215 rfl rfl rfl ⟨rfl, rfl⟩ ⟨rfl, rfl⟩ rfl rfl rfl (tX5_countWaits hX hc) (fun x_48 t_48 h_48 => ?_)
      obtain ⟨rfl, h9⟩ := h_48
      have h9 := h9.symm
      subst h9
      refine za_ri (pc := 51) dX6_count_51 rfl rfl rfl ?_
      exact ⟨rfl, Or.inl rfl⟩
    · refine za_tableIn (pc := 1) (off := 51) 52 dX6_count_1 (by decide) (by decide) (by decide) (by decide) ?_
      refine za_aload_n (pc := 52) dX6_count_52 rfl ?_
      refine za_getR (pc := 53) dX6_count_53 lk_X6_18 rfl rfl ?_
      refine za_getI (pc := 56) dX6_count_56 lk_X6_219 rfl rfl ?_
      refine za_ri (pc := 59) dX6_count_59 rfl rfl rfl ?_
      exact ⟨hm, Or.inl rfl⟩
    · refine za_tableIn (pc := 1) (off := 59) 60 dX6_count_1 (by decide) (by decide) (by decide) (by decide) ?_
      refine za_aload_n (pc := 60) dX6_count_60 rfl ?_
      refine za_cV0r (pc := 61) (μ' := mX6_labelDayNow) dX6_count_61 c_X6_160 rfl rfl rfl ⟨rfl, rfl⟩ ⟨rfl, rfl⟩ rfl rfl rfl (tX6_labelDayNow hX hc hv hO hD) (fun t_61 h_61 => ?_)
      refine za_cV0i (pc := 64) (μ' := mX1_countIdle) dX6_count_64 c_X6_222 rfl rfl rfl ⟨rfl, rfl⟩ ⟨rfl, rfl⟩ rfl rfl rfl (tX1_countIdle hc h_61.1) (fun x_64 t_64 h_64 => ?_)
      obtain ⟨rfl, h9⟩ := h_64
      have h9 := h9.symm
      subst h9
      refine za_ri (pc := 67) dX6_count_67 rfl rfl rfl ?_
      exact ⟨rfl, Or.inr (Or.inr (Or.inl h_61))⟩
    · refine za_tableIn (pc := 1) (off := 67) 68 dX6_count_1 (by decide) (by decide) (by decide) (by decide) ?_
      refine za_aload_n (pc := 68) dX6_count_68 rfl ?_
      refine za_cV0r (pc := 69) (μ' := mX6_orderNow) dX6_count_69 c_X6_144 rfl rfl rfl ⟨rfl, rfl⟩ ⟨rfl, rfl⟩ rfl rfl rfl (tX6_orderNow hX hc hv hO) (fun t_69 h_69 => ?_)
      refine za_getI (pc := 72) dX6_count_72 lk_X6_225 rfl rfl ?_
      refine za_ri (pc := 75) dX6_count_75 rfl rfl rfl ?_
      exact ⟨h_69.1.2, Or.inr (Or.inl h_69)⟩
  · refine za_tableOut (pc := 1) 76 dX6_count_1 (w5_out h2) (by decide) ?_
    refine za_iconst (pc := 76) (-1) dX6_count_76 (by decide) ?_
    refine za_ri (pc := 77) dX6_count_77 rfl rfl rfl ?_
    exact ⟨by unfold spCount; rw [if_neg h2], Or.inl rfl⟩
theorem tX7_count {σ : zSt} {c : Core} {what : Int32} {m : Nat} (h : MA σ c) (hm : σ 47 9 = nI m) : zI mX7_count [.ref 47, .int what] SH σ (fun x t => x = spCount c m what ∧ FQ t σ) := by
  obtain ⟨⟨hM, hc⟩, hI⟩ := h
  have hn := hc.1
  have hj := hM.1
  refine zI_of (ls := [some (.ref 47), some (.int what), none, none]) (by decide) rfl rfl ?_
  refine za_iconst (pc := 0) (0) dX7_count_0 (by decide) ?_
  refine za_is2n (pc := 1) dX7_count_1 rfl ?_
  refine za_iload_n (pc := 2) dX7_count_2 rfl ?_
  by_cases h2 : 0 ≤ what ∧ what < 5
  · have eA : spCount c m what = ctV c m what.toNatClampNeg := by unfold spCount; rw [if_pos h2]
    rw [eA]
    rcases w5_ix h2 with rfl | rfl | rfl | rfl | rfl
    · refine za_tableIn (pc := 3) (off := 33) 36 dX7_count_3 (by decide) (by decide) (by decide) (by decide) ?_
      refine za_aload_n (pc := 36) dX7_count_36 rfl ?_
      refine za_getI (pc := 37) dX7_count_37 lk_X7_91 rfl rfl ?_
      refine za_ri (pc := 40) dX7_count_40 rfl rfl rfl ?_
      exact ⟨hj, FQ_rf σ⟩
    · refine za_tableIn (pc := 3) (off := 38) 41 dX7_count_3 (by decide) (by decide) (by decide) (by decide) ?_
      refine za_iconst (pc := 41) (0) dX7_count_41 (by decide) ?_
      refine za_is3n (pc := 42) dX7_count_42 rfl ?_
      have loop : ∀ (q a : Nat), a + q = cN c → zA (zZ mX7_count (zQI SH (fun x t => x = nI (sumW c (cN c)) ∧ FQ t σ))) mX7_count none 0 0 43 [some (.ref 47), some (.int (nI 1)), some (.int (nI (sumW c a))), some (.int (nI a))] [] SH σ := by
        intro q
        induction q with
        | zero =>
          intro a ha
          refine za_iload_n (pc := 43) dX7_count_43 rfl ?_
          refine za_aload_n (pc := 44) dX7_count_44 rfl ?_
          refine za_getI (pc := 45) dX7_count_45 lk_X7_91 rfl rfl ?_
          rw [hj]
          refine za_icmp_ge (pc := 48) 69 dX7_count_48 (by decide) (fun c48 => ?_) (fun c48 => ?_)
          · refine za_iload_n (pc := 69) dX7_count_69 rfl ?_
            refine za_ri (pc := 70) dX7_count_70 rfl rfl rfl ?_
            rw [show a = cN c by omega]
            exact ⟨rfl, FQ_rf σ⟩
          · exact absurd (nI_le (show cN c ≤ a by omega) (by omega)) c48
        | succ q ih =>
          intro a ha
          have hac : a < cN c := by omega
          have va : vp_in (nI a) 10 := vp_in_nI (by omega) (by decide)
          have ea : (nI a).toNatClampNeg = a := nI_clamp (by omega)
          refine za_iload_n (pc := 43) dX7_count_43 rfl ?_
          refine za_aload_n (pc := 44) dX7_count_44 rfl ?_
          refine za_getI (pc := 45) dX7_count_45 lk_X7_91 rfl rfl ?_
          rw [hj]
          refine za_icmp_ge (pc := 48) 69 dX7_count_48 (by decide) (fun c48 => ?_) (fun c48 => ?_)
          · exact absurd c48 (nI_ge hac (by omega))
          refine za_iload_n (pc := 51) dX7_count_51 rfl ?_
          refine za_aload_n (pc := 52) dX7_count_52 rfl ?_
          refine za_getR (pc := 53) dX7_count_53 lk_X7_31 rfl rfl ?_
          refine za_iload_n (pc := 56) dX7_count_56 rfl ?_
          refine za_iald (pc := 57) dX7_count_57 rfl va ?_
          rw [ea, (hM.2 a hac).2.2.2.2]
          refine za_cS1i (pc := 58) (μ' := mX7_bits) dX7_count_58 c_X7_132 rfl ⟨rfl, rfl⟩ ⟨rfl, rfl⟩ rfl rfl rfl (tX7_bits) (fun x_58 t_58 h_58 => ?_)
          obtain ⟨rfl, h9⟩ := h_58
          have h9 := h9.symm
          subst h9
          refine za_iadd (pc := 61) dX7_count_61 ?_
          rw [nI_add]
          refine za_is2n (pc := 62) dX7_count_62 rfl ?_
          refine za_ii3 (pc := 63) (1) dX7_count_63 (by decide) rfl ?_
          refine za_goto (pc := 66) 43 dX7_count_66 (by decide) ?_
          rw [nI_1]
          exact ih (a + 1) (by omega)
      exact loop (cN c) 0 (by omega)
    · refine za_tableIn (pc := 3) (off := 68) 71 dX7_count_3 (by decide) (by decide) (by decide) (by decide) ?_
      refine za_aload_n (pc := 71) dX7_count_71 rfl ?_
      refine za_getI (pc := 72) dX7_count_72 lk_X7_95 rfl rfl ?_
      refine za_ri (pc := 75) dX7_count_75 rfl rfl rfl ?_
      exact ⟨hm, FQ_rf σ⟩
    · refine za_tableIn (pc := 3) (off := 73) 76 dX7_count_3 (by decide) (by decide) (by decide) (by decide) ?_
      refine za_aload_n (pc := 76) dX7_count_76 rfl ?_
      refine za_aload_n (pc := 77) dX7_count_77 rfl ?_
      refine za_cV0i (pc := 78) (μ' := mX7_all) dX7_count_78 c_X7_161 rfl rfl rfl ⟨rfl, rfl⟩ ⟨rfl, rfl⟩ rfl rfl rfl (tX7_all hn hj) (fun x_78 t_78 h_78 => ?_)
      obtain ⟨rfl, h9⟩ := h_78
      have h9 := h9.symm
      subst h9
      refine za_cV1v (pc := 81) (μ' := mX7_layDay) dX7_count_81 c_X7_168 rfl rfl rfl ⟨rfl, rfl⟩ ⟨rfl, rfl⟩ rfl rfl rfl (tMA ⟨hM, hc⟩) (fun t_81 h_81 => ?_)
      obtain ⟨g1, g2⟩ := h_81
      have fq : FQ t_81 σ := FQ_MD (fun _ _ => rfl) g2
      have tj : t_81 47 3 = nI (cN c) := by rw [g2.2 3 (by decide)]; exact hj
      have hl := dLen10 hc
      have tl : t_81 47 19 = nI (dLen c) := g1.2.2.2
      have t62 : ∀ a, a < cN c → t_81 62 a = nI (dHr c a) ∧ dHr c a ≤ 10 := fun a ha => ⟨g1.2.2.1 a (by omega), by have := (dHr_le hc ha).2; omega⟩
      have loop : ∀ (q h : Nat), h + q = dLen c → zA (zZ mX7_count (zQI SH (fun x t => x = nI (cnt (idl c) (dLen c)) ∧ FQ t σ))) mX7_count none 0 0 86 [some (.ref 47), some (.int (nI 3)), some (.int (nI (cnt (idl c) h))), some (.int (nI (h + 1)))] [] SH t_81 := by
        intro q
        induction q with
        | zero =>
          intro h hh
          refine za_iload_n (pc := 86) dX7_count_86 rfl ?_
          refine za_aload_n (pc := 87) dX7_count_87 rfl ?_
          refine za_getI (pc := 88) dX7_count_88 lk_X7_146 rfl rfl ?_
          rw [tl]
          refine za_icmp_gt (pc := 91) 117 dX7_count_91 (by decide) (fun c91 => ?_) (fun c91 => ?_)
          · refine za_iload_n (pc := 117) dX7_count_117 rfl ?_
            refine za_ri (pc := 118) dX7_count_118 rfl rfl rfl ?_
            rw [show h = dLen c by omega]
            exact ⟨rfl, fq⟩
          · exact absurd (nI_lt (show dLen c < h + 1 by omega) (by omega)) c91
        | succ q ih =>
          intro h hh
          have hhl : h < dLen c := by omega
          have next : ∀ (k : Nat), k = cnt (idl c) (h + 1) → zA (zZ mX7_count (zQI SH (fun x t => x = nI (cnt (idl c) (dLen c)) ∧ FQ t σ))) mX7_count none 0 0 110 [some (.ref 47), some (.int (nI 3)), some (.int (nI (cnt (idl c) h))), some (.int (nI (h + 1)))] [.int (nI k)] SH t_81 := by
            intro k hk
            refine za_is2n (pc := 110) dX7_count_110 rfl ?_
            refine za_ii3 (pc := 111) (1) dX7_count_111 (by decide) rfl ?_
            refine za_goto (pc := 114) 86 dX7_count_114 (by decide) ?_
            rw [nI_1, hk]
            exact ih (h + 1) (by omega)
          refine za_iload_n (pc := 86) dX7_count_86 rfl ?_
          refine za_aload_n (pc := 87) dX7_count_87 rfl ?_
          refine za_getI (pc := 88) dX7_count_88 lk_X7_146 rfl rfl ?_
          rw [tl]
          refine za_icmp_gt (pc := 91) 117 dX7_count_91 (by decide) (fun c91 => ?_) (fun c91 => ?_)
          · rw [nI_ltI (by omega) (by omega)] at c91
            omega
          refine za_iload_n (pc := 94) dX7_count_94 rfl ?_
          refine za_aload_n (pc := 95) dX7_count_95 rfl ?_
          refine za_iload_n (pc := 96) dX7_count_96 rfl ?_
          refine za_cV1i (pc := 97) (μ' := mX7_inHour) dX7_count_97 c_X7_174 rfl rfl rfl ⟨rfl, rfl⟩ ⟨rfl, rfl⟩ rfl rfl rfl (tX7_inHour (f := dHr c) hn (show h + 1 ≤ 11 by omega) tj t62) (fun x_97 t_97 h_97 => ?_)
          obtain ⟨rfl, h9⟩ := h_97
          have h9 := h9.symm
          subst h9
          refine za_iconst (pc := 100) (1) dX7_count_100 (by decide) ?_
          rw [inH hc hhl]
          by_cases hS : dS c h = none
          · rw [if_pos hS]
            have hi : idl c h = true := decide_eq_true hS
            refine za_icmp_ne (pc := 101) 108 dX7_count_101 (by decide) (fun c101 => ?_) (fun c101 => ?_)
            · exact absurd rfl c101
            refine za_iconst (pc := 104) (1) dX7_count_104 (by decide) ?_
            refine za_goto (pc := 105) 109 dX7_count_105 (by decide) ?_
            refine za_iadd (pc := 109) dX7_count_109 ?_
            rw [nI_1]
            exact next _ (cnt_t hi).symm
          · rw [if_neg hS]
            have hi : idl c h = false := decide_eq_false hS
            refine za_icmp_ne (pc := 101) 108 dX7_count_101 (by decide) (fun c101 => ?_) (fun c101 => ?_)
            · refine za_iconst (pc := 108) (0) dX7_count_108 (by decide) ?_
              refine za_iadd (pc := 109) dX7_count_109 ?_
              rw [Int32.add_zero]
              exact next _ (cnt_f hi).symm
            · exact absurd c101 (by decide)
      refine za_iconst (pc := 84) (1) dX7_count_84 (by decide) ?_
      refine za_is3n (pc := 85) dX7_count_85 rfl ?_
      exact loop (dLen c) 0 (by omega)
    · refine za_tableIn (pc := 3) (off := 116) 119 dX7_count_3 (by decide) (by decide) (by decide) (by decide) ?_
      refine za_aload_n (pc := 119) dX7_count_119 rfl ?_
      refine za_cV0v (pc := 120) (μ' := mX7_layDepths) dX7_count_120 c_X7_165 rfl rfl rfl ⟨rfl, rfl⟩ ⟨rfl, rfl⟩ rfl rfl rfl (tX7_layDepths (bhd_ord hc) hn hj (fun a ha => (hM.2 a ha).2.2.2.2)) (fun t_120 h_120 => ?_)
      obtain ⟨g1, g2, g3⟩ := h_120
      have fq : FQ t_120 σ := ⟨fun d d1 d2 d3 d4 d5 d6 => g1 d d2 d5, fun i _ => by rw [g1 47 (by decide) (by decide)]⟩
      have tj : t_120 47 3 = nI (cN c) := by rw [g1 47 (by decide) (by decide)]; exact hj
      have hd : ∀ a, a < cN c → dep (cN c) (bhd c) a ≤ 10 := fun a ha => Nat.le_trans (dep_n (bhd_ord hc) ha) hn
      have mle : ∀ k, k ≤ cN c → mxo (fun _ => true) (dep (cN c) (bhd c)) k ≤ 10 := fun k hk => mxo_le.mpr (fun a ha _ => hd a (by omega))
      have loop : ∀ (q a : Nat), a + q = cN c → zA (zZ mX7_count (zQI SH (fun x t => x = nI (gdep (cN c) (bhd c)) ∧ FQ t σ))) mX7_count none 0 0 125 [some (.ref 47), some (.int (nI 4)), some (.int (nI (mxo (fun _ => true) (dep (cN c) (bhd c)) a))), some (.int (nI a))] [] SH t_120 := by
        intro q
        induction q with
        | zero =>
          intro a ha
          refine za_iload_n (pc := 125) dX7_count_125 rfl ?_
          refine za_aload_n (pc := 126) dX7_count_126 rfl ?_
          refine za_getI (pc := 127) dX7_count_127 lk_X7_91 rfl rfl ?_
          rw [tj]
          refine za_icmp_ge (pc := 130) 160 dX7_count_130 (by decide) (fun c130 => ?_) (fun c130 => ?_)
          · refine za_iload_n (pc := 160) dX7_count_160 rfl ?_
            refine za_ri (pc := 161) dX7_count_161 rfl rfl rfl ?_
            rw [show a = cN c by omega]
            exact ⟨rfl, fq⟩
          · exact absurd (nI_le (show cN c ≤ a by omega) (by omega)) c130
        | succ q ih =>
          intro a ha
          have hac : a < cN c := by omega
          have va : vp_in (nI a) 10 := vp_in_nI (by omega) (by decide)
          have ea : (nI a).toNatClampNeg = a := nI_clamp (by omega)
          have d1 := hd a hac
          have d2 := mle a (by omega)
          have next : ∀ (k : Nat), k = mxo (fun _ => true) (dep (cN c) (bhd c)) (a + 1) → zA (zZ mX7_count (zQI SH (fun x t => x = nI (gdep (cN c) (bhd c)) ∧ FQ t σ))) mX7_count none 0 0 153 [some (.ref 47), some (.int (nI 4)), some (.int (nI (mxo (fun _ => true) (dep (cN c) (bhd c)) a))), some (.int (nI a))] [.int (nI k)] SH t_120 := by
            intro k hk
            refine za_is2n (pc := 153) dX7_count_153 rfl ?_
            refine za_ii3 (pc := 154) (1) dX7_count_154 (by decide) rfl ?_
            refine za_goto (pc := 157) 125 dX7_count_157 (by decide) ?_
            rw [nI_1, hk]
            exact ih (a + 1) (by omega)
          have em : mxo (fun _ => true) (dep (cN c) (bhd c)) (a + 1) = if true = true ∧ mxo (fun _ => true) (dep (cN c) (bhd c)) a < dep (cN c) (bhd c) a then dep (cN c) (bhd c) a else mxo (fun _ => true) (dep (cN c) (bhd c)) a := rfl
          refine za_iload_n (pc := 125) dX7_count_125 rfl ?_
          refine za_aload_n (pc := 126) dX7_count_126 rfl ?_
          refine za_getI (pc := 127) dX7_count_127 lk_X7_91 rfl rfl ?_
          rw [tj]
          refine za_icmp_ge (pc := 130) 160 dX7_count_130 (by decide) (fun c130 => ?_) (fun c130 => ?_)
          · exact absurd c130 (nI_ge hac (by omega))
          have g3a := g3 a hac
          refine za_aload_n (pc := 133) dX7_count_133 rfl ?_
          refine za_getR (pc := 134) dX7_count_134 lk_X7_55 rfl rfl ?_
          refine za_iload_n (pc := 137) dX7_count_137 rfl ?_
          refine za_iald (pc := 138) dX7_count_138 rfl va ?_
          refine za_iload_n (pc := 139) dX7_count_139 rfl ?_
          rw [ea, g3a]
          generalize dep (cN c) (bhd c) a = dd at *
          generalize mxo (fun _ => true) (dep (cN c) (bhd c)) a = mm at *
          refine za_icmp_le (pc := 140) 152 dX7_count_140 (by decide) (fun c140 => ?_) (fun c140 => ?_)
          · rw [nI_leI (by omega) (by omega)] at c140
            refine za_iload_n (pc := 152) dX7_count_152 rfl ?_
            exact next mm (by rw [em, if_neg (by omega)])
          · rw [nI_leI (by omega) (by omega)] at c140
            refine za_aload_n (pc := 143) dX7_count_143 rfl ?_
            refine za_getR (pc := 144) dX7_count_144 lk_X7_55 rfl rfl ?_
            refine za_iload_n (pc := 147) dX7_count_147 rfl ?_
            refine za_iald (pc := 148) dX7_count_148 rfl va ?_
            refine za_goto (pc := 149) 153 dX7_count_149 (by decide) ?_
            rw [ea, g3a]
            exact next dd (by rw [em, if_pos ⟨rfl, by omega⟩])
      refine za_iconst (pc := 123) (0) dX7_count_123 (by decide) ?_
      refine za_is3n (pc := 124) dX7_count_124 rfl ?_
      exact loop (cN c) 0 (by omega)
  · refine za_tableOut (pc := 3) 162 dX7_count_3 (w5_out h2) (by decide) ?_
    refine za_iconst (pc := 162) (-1) dX7_count_162 (by decide) ?_
    refine za_ri (pc := 163) dX7_count_163 rfl rfl rfl ?_
    exact ⟨by unfold spCount; rw [if_neg h2], FQ_rf σ⟩
