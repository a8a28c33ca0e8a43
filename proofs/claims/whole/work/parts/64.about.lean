/-! about and count of both sides -/
noncomputable def abV (c : Core) (p : Nat) : Nat → Int32
  | 0 => cK c p
  | 1 => cB c p
  | 2 => cE c p
  | 3 => cH c p
  | 4 => zmask (cW c p)
  | 5 => zmask (bhd c p)
  | 6 => zmask (flw (cN c) (bhd c) p)
  | 7 => zmask (nxt (cN c) (bhd c) p)
  | 8 => nI (dep (cN c) (bhd c) p)
  | 9 => nI (lba (cN c) (bhd c) p)
  | 10 => nI (dHr c p)
  | _ => kHr c p
noncomputable def spAbout (c : Core) (a what : Int32) : Int32 := if isJb (cN c) a ∧ (0 ≤ what ∧ what < 12) then abV c a.toNatClampNeg what.toNatClampNeg else -9
/-- the class was asked: what may be worked out since -/
def XAny (σ t : zSt) (c : Core) (v : Int32) : Prop := t = σ ∨ (XOrd t c ∧ t 10 6 = v ∧ FO t σ) ∨ XL σ t c v ∨ XKq σ t c v
def XA (σ : zSt) (c : Core) (v : Int32) : Prop := XP σ c v ∧ (σ 22 13 = v → XKept σ c)
theorem tX5_beginOf {σ : zSt} {c : Core} {a : Nat} (hX : XCore σ c) (hc : cOk c) (ha : a < cN c) : zI mX5_beginOf [.ref 2, .int (nI a)] SH σ (fun x t => x = cB c a ∧ t = σ) := by
  have hn := hc.1
  have va : vp_in (nI a) 10 := vp_in_nI (by omega) (by decide)
  have va1 : vp_in (nI a) 11 := vp_in_nI (by omega) (by decide)
  have ea : (nI a).toNatClampNeg = a := nI_clamp (by omega)
  obtain ⟨a1, a2, a3, a4, a5⟩ := hX.2.1 a ha
  refine zI_of (ls := [some (.ref 2), some (.int (nI a))]) (by decide) rfl rfl ?_
  refine za_aload_n (pc := 0) dX5_beginOf_0 rfl ?_
  refine za_getR (pc := 1) dX5_beginOf_1 lk_X5_9 rfl rfl ?_
  refine za_iload_n (pc := 4) dX5_beginOf_4 rfl ?_
  refine za_iald (pc := 5) dX5_beginOf_5 rfl va ?_
  refine za_iconst (pc := 6) (2) dX5_beginOf_6 (by decide) ?_
  rw [ea, a1]
  refine za_icmp_ne (pc := 7) 19 dX5_beginOf_7 (by decide) (fun c7 => ?_) (fun c7 => ?_)
  · refine za_bipush (pc := 19) (-3) dX5_beginOf_19 (by decide) ?_
    refine za_ri (pc := 21) dX5_beginOf_21 rfl rfl rfl ?_
    refine ⟨?_, rfl⟩
    rcases hc.2.1 a ha with k | k | k | k
    · exact k.2.1.symm
    · exact k.2.1.symm
    · exact absurd k.1 c7
    · exact k.2.1.symm
  · refine za_aload_n (pc := 10) dX5_beginOf_10 rfl ?_
    refine za_getR (pc := 11) dX5_beginOf_11 lk_X5_15 rfl rfl ?_
    refine za_iload_n (pc := 14) dX5_beginOf_14 rfl ?_
    refine za_iald (pc := 15) dX5_beginOf_15 rfl va1 ?_
    refine za_goto (pc := 16) 21 dX5_beginOf_16 (by decide) ?_
    refine za_ri (pc := 21) dX5_beginOf_21 rfl rfl rfl ?_
    refine ⟨?_, rfl⟩
    rw [ea, a2]
    rcases hc.2.1 a ha with k | k | k | k
    · rw [k.1] at c7; exact absurd c7 (by decide)
    · rw [k.1] at c7; exact absurd c7 (by decide)
    · unfold xB
      rw [if_neg]
      intro q
      rw [q] at k
      exact absurd k.2.1.1 (by decide)
    · rw [k.1] at c7; exact absurd c7 (by decide)
theorem tX5_endOf {σ : zSt} {c : Core} {a : Nat} (hX : XCore σ c) (hc : cOk c) (ha : a < cN c) : zI mX5_endOf [.ref 2, .int (nI a)] SH σ (fun x t => x = cE c a ∧ t = σ) := by
  have hn := hc.1
  have va1 : vp_in (nI a) 11 := vp_in_nI (by omega) (by decide)
  have ea : (nI a).toNatClampNeg = a := nI_clamp (by omega)
  obtain ⟨a1, a2, a3, a4, a5⟩ := hX.2.1 a ha
  have h64 : cE c a ≠ 64 := fun q => by
    rcases hc.2.1 a ha with k | k | k | k
    · rw [k.2.2.1] at q; exact absurd q (by decide)
    · have := k.2.2.1.2; rw [q] at this; exact absurd this (by decide)
    · have := k.2.2.1.2; rw [q] at this; exact absurd this (by decide)
    · rw [k.2.2.1] at q; exact absurd q (by decide)
  refine zI_of (ls := [some (.ref 2), some (.int (nI a))]) (by decide) rfl rfl ?_
  refine za_aload_n (pc := 0) dX5_endOf_0 rfl ?_
  refine za_getR (pc := 1) dX5_endOf_1 lk_X5_18 rfl rfl ?_
  refine za_iload_n (pc := 4) dX5_endOf_4 rfl ?_
  refine za_iald (pc := 5) dX5_endOf_5 rfl va1 ?_
  refine za_bipush (pc := 6) (64) dX5_endOf_6 (by decide) ?_
  rw [ea, a3]
  by_cases e : cE c a = -3
  · have ex : xE (cE c a) = 64 := by unfold xE; rw [if_pos e]
    rw [ex]
    refine za_icmp_ne (pc := 8) 16 dX5_endOf_8 (by decide) (fun c8 => ?_) (fun c8 => ?_)
    · exact absurd rfl c8
    · refine za_bipush (pc := 11) (-3) dX5_endOf_11 (by decide) ?_
      refine za_goto (pc := 13) 22 dX5_endOf_13 (by decide) ?_
      refine za_ri (pc := 22) dX5_endOf_22 rfl rfl rfl ?_
      exact ⟨e.symm, rfl⟩
  · have ex : xE (cE c a) = cE c a := by unfold xE; rw [if_neg e]
    rw [ex]
    refine za_icmp_ne (pc := 8) 16 dX5_endOf_8 (by decide) (fun c8 => ?_) (fun c8 => ?_)
    · refine za_aload_n (pc := 16) dX5_endOf_16 rfl ?_
      refine za_getR (pc := 17) dX5_endOf_17 lk_X5_18 rfl rfl ?_
      refine za_iload_n (pc := 20) dX5_endOf_20 rfl ?_
      refine za_iald (pc := 21) dX5_endOf_21 rfl va1 ?_
      refine za_ri (pc := 22) dX5_endOf_22 rfl rfl rfl ?_
      rw [ea, a3, ex]
      exact ⟨rfl, rfl⟩
    · exact absurd c8 h64
theorem wh_ix {w : Int32} (h : 0 ≤ w ∧ w < 12) : w = nI 0 ∨ w = nI 1 ∨ w = nI 2 ∨ w = nI 3 ∨ w = nI 4 ∨ w = nI 5 ∨ w = nI 6 ∨ w = nI 7 ∨ w = nI 8 ∨ w = nI 9 ∨ w = nI 10 ∨ w = nI 11 := by
  obtain ⟨k, hk, e⟩ := zix (x := w) (N := 12) h.1 h.2 (by decide)
  have : k = 0 ∨ k = 1 ∨ k = 2 ∨ k = 3 ∨ k = 4 ∨ k = 5 ∨ k = 6 ∨ k = 7 ∨ k = 8 ∨ k = 9 ∨ k = 10 ∨ k = 11 := by omega
  rcases this with rfl | rfl | rfl | rfl | rfl | rfl | rfl | rfl | rfl | rfl | rfl | rfl <;> simp [e]
theorem wh_out {w : Int32} (h : ¬ (0 ≤ w ∧ w < 12)) : w.toInt < 0 ∨ 11 < w.toInt := by
  rw [fa_le, fa_lt, show (0 : Int32).toInt = 0 from rfl, show (12 : Int32).toInt = 12 from rfl] at h
  omega
theorem tX6_about {σ : zSt} {c : Core} {v a what : Int32} (h : XA σ c v) : zI mX6_about [.ref 0, .int a, .int what] SH σ (fun x t => x = spAbout c a what ∧ XAny σ t c v) := by
  obtain ⟨⟨hX, hc, hv, hO, hD⟩, hK⟩ := h
  have hn := hc.1
  refine zI_of (ls := [some (.ref 0), some (.int a), some (.int what)]) (by decide) rfl rfl ?_
  refine za_aload_n (pc := 0) dX6_about_0 rfl ?_
  refine za_getR (pc := 1) dX6_about_1 lk_X6_18 rfl rfl ?_
  refine za_iload_n (pc := 4) dX6_about_4 rfl ?_
  refine za_cV1i (pc := 5) (μ' := mX5_has) dX6_about_5 c_X6_105 rfl rfl rfl ⟨rfl, rfl⟩ ⟨rfl, rfl⟩ rfl rfl rfl (tX5_has hX.1) (fun x_5 t_5 h_5 => ?_)
  obtain ⟨rfl, h9⟩ := h_5
  have h9 := h9.symm
  subst h9
  by_cases h1 : isJb (cN c) a
  · rw [if_pos h1]
    refine za_if_ne (pc := 8) 14 dX6_about_8 (by decide) (fun c8 => ?_) (fun c8 => ?_)
    · obtain ⟨p, hp, rfl⟩ := isJb_ix h1 hn
      have vp : vp_in (nI p) 10 := vp_in_nI (by omega) (by decide)
      have vp1 : vp_in (nI p) 11 := vp_in_nI (by omega) (by decide)
      have ep : (nI p).toNatClampNeg = p := nI_clamp (by omega)
      obtain ⟨a1, a2, a3, a4, a5⟩ := hX.2.1 p hp
      refine za_iload_n (pc := 14) dX6_about_14 rfl ?_
      by_cases h2 : 0 ≤ what ∧ what < 12
      · have eA : spAbout c (nI p) what = abV c p what.toNatClampNeg := by unfold spAbout; rw [if_pos ⟨h1, h2⟩, ep]
        rw [eA]
        rcases wh_ix h2 with rfl | rfl | rfl | rfl | rfl | rfl | rfl | rfl | rfl | rfl | rfl | rfl
        · refine za_tableIn (pc := 15) (off := 61) 76 dX6_about_15 (by decide) (by decide) (by decide) (by decide) ?_
          refine za_aload_n (pc := 76) dX6_about_76 rfl ?_
          refine za_getR (pc := 77) dX6_about_77 lk_X6_18 rfl rfl ?_
          refine za_getR (pc := 80) dX6_about_80 lk_X6_129 rfl rfl ?_
          refine za_iload_n (pc := 83) dX6_about_83 rfl ?_
          refine za_iald (pc := 84) dX6_about_84 rfl vp ?_
          refine za_ri (pc := 85) dX6_about_85 rfl rfl rfl ?_
          rw [ep, a1]
          exact ⟨rfl, Or.inl rfl⟩
        · refine za_tableIn (pc := 15) (off := 71) 86 dX6_about_15 (by decide) (by decide) (by decide) (by decide) ?_
          refine za_aload_n (pc := 86) dX6_about_86 rfl ?_
          refine za_getR (pc := 87) dX6_about_87 lk_X6_18 rfl rfl ?_
          refine za_iload_n (pc := 90) dX6_about_90 rfl ?_
          refine za_cV1i (pc := 91) (μ' := mX5_beginOf) dX6_about_91 c_X6_132 rfl rfl rfl ⟨rfl, rfl⟩ ⟨rfl, rfl⟩ rfl rfl rfl (tX5_beginOf hX hc hp) (fun x_91 t_91 h_91 => ?_)
          obtain ⟨rfl, h9⟩ := h_91
          have h9 := h9.symm
          subst h9
          refine za_ri (pc := 94) dX6_about_94 rfl rfl rfl ?_
          exact ⟨rfl, Or.inl rfl⟩
        · refine za_tableIn (pc := 15) (off := 80) 95 dX6_about_15 (by decide) (by decide) (by decide) (by decide) ?_
          refine za_aload_n (pc := 95) dX6_about_95 rfl ?_
          refine za_getR (pc := 96) dX6_about_96 lk_X6_18 rfl rfl ?_
          refine za_iload_n (pc := 99) dX6_about_99 rfl ?_
          refine za_cV1i (pc := 100) (μ' := mX5_endOf) dX6_about_100 c_X6_135 rfl rfl rfl ⟨rfl, rfl⟩ ⟨rfl, rfl⟩ rfl rfl rfl (tX5_endOf hX hc hp) (fun x_100 t_100 h_100 => ?_)
          obtain ⟨rfl, h9⟩ := h_100
          have h9 := h9.symm
          subst h9
          refine za_ri (pc := 103) dX6_about_103 rfl rfl rfl ?_
          exact ⟨rfl, Or.inl rfl⟩
        · refine za_tableIn (pc := 15) (off := 89) 104 dX6_about_15 (by decide) (by decide) (by decide) (by decide) ?_
          refine za_aload_n (pc := 104) dX6_about_104 rfl ?_
          refine za_getR (pc := 105) dX6_about_105 lk_X6_18 rfl rfl ?_
          refine za_getR (pc := 108) dX6_about_108 lk_X6_138 rfl rfl ?_
          refine za_iload_n (pc := 111) dX6_about_111 rfl ?_
          refine za_iald (pc := 112) dX6_about_112 rfl vp1 ?_
          refine za_ri (pc := 113) dX6_about_113 rfl rfl rfl ?_
          rw [ep, a4]
          exact ⟨rfl, Or.inl rfl⟩
        · refine za_tableIn (pc := 15) (off := 99) 114 dX6_about_15 (by decide) (by decide) (by decide) (by decide) ?_
          refine za_aload_n (pc := 114) dX6_about_114 rfl ?_
          refine za_getR (pc := 115) dX6_about_115 lk_X6_18 rfl rfl ?_
          refine za_getR (pc := 118) dX6_about_118 lk_X6_141 rfl rfl ?_
          refine za_iload_n (pc := 121) dX6_about_121 rfl ?_
          refine za_iald (pc := 122) dX6_about_122 rfl vp ?_
          refine za_ri (pc := 123) dX6_about_123 rfl rfl rfl ?_
          rw [ep, a5]
          exact ⟨rfl, Or.inl rfl⟩
        · refine za_tableIn (pc := 15) (off := 109) 124 dX6_about_15 (by decide) (by decide) (by decide) (by decide) ?_
          refine za_aload_n (pc := 124) dX6_about_124 rfl ?_
          refine za_cV0r (pc := 125) (μ' := mX6_orderNow) dX6_about_125 c_X6_144 rfl rfl rfl ⟨rfl, rfl⟩ ⟨rfl, rfl⟩ rfl rfl rfl (tX6_orderNow hX hc hv hO) (fun t_125 h_125 => ?_)
          refine za_getR (pc := 128) dX6_about_128 lk_X6_148 rfl rfl ?_
          refine za_iload_n (pc := 131) dX6_about_131 rfl ?_
          refine za_iald (pc := 132) dX6_about_132 rfl vp ?_
          refine za_ri (pc := 133) dX6_about_133 rfl rfl rfl ?_
          rw [ep, (h_125.1.1 p hp).1]
          exact ⟨rfl, Or.inr (Or.inl h_125)⟩
        · refine za_tableIn (pc := 15) (off := 119) 134 dX6_about_15 (by decide) (by decide) (by decide) (by decide) ?_
          refine za_aload_n (pc := 134) dX6_about_134 rfl ?_
          refine za_cV0r (pc := 135) (μ' := mX6_orderNow) dX6_about_135 c_X6_144 rfl rfl rfl ⟨rfl, rfl⟩ ⟨rfl, rfl⟩ rfl rfl rfl (tX6_orderNow hX hc hv hO) (fun t_135 h_135 => ?_)
          refine za_getR (pc := 138) dX6_about_138 lk_X6_151 rfl rfl ?_
          refine za_iload_n (pc := 141) dX6_about_141 rfl ?_
          refine za_iald (pc := 142) dX6_about_142 rfl vp ?_
          refine za_ri (pc := 143) dX6_about_143 rfl rfl rfl ?_
          rw [ep, (h_135.1.1 p hp).2.1]
          exact ⟨rfl, Or.inr (Or.inl h_135)⟩
        · refine za_tableIn (pc := 15) (off := 129) 144 dX6_about_15 (by decide) (by decide) (by decide) (by decide) ?_
          refine za_aload_n (pc := 144) dX6_about_144 rfl ?_
          refine za_cV0r (pc := 145) (μ' := mX6_orderNow) dX6_about_145 c_X6_144 rfl rfl rfl ⟨rfl, rfl⟩ ⟨rfl, rfl⟩ rfl rfl rfl (tX6_orderNow hX hc hv hO) (fun t_145 h_145 => ?_)
          refine za_getR (pc := 148) dX6_about_148 lk_X6_154 rfl rfl ?_
          refine za_iload_n (pc := 151) dX6_about_151 rfl ?_
          refine za_iald (pc := 152) dX6_about_152 rfl vp ?_
          refine za_ri (pc := 153) dX6_about_153 rfl rfl rfl ?_
          rw [ep, (h_145.1.1 p hp).2.2.1]
          exact ⟨rfl, Or.inr (Or.inl h_145)⟩
        · refine za_tableIn (pc := 15) (off := 139) 154 dX6_about_15 (by decide) (by decide) (by decide) (by decide) ?_
          refine za_aload_n (pc := 154) dX6_about_154 rfl ?_
          refine za_cV0r (pc := 155) (μ' := mX6_orderNow) dX6_about_155 c_X6_144 rfl rfl rfl ⟨rfl, rfl⟩ ⟨rfl, rfl⟩ rfl rfl rfl (tX6_orderNow hX hc hv hO) (fun t_155 h_155 => ?_)
          refine za_getR (pc := 158) dX6_about_158 lk_X6_157 rfl rfl ?_
          refine za_iload_n (pc := 161) dX6_about_161 rfl ?_
          refine za_iald (pc := 162) dX6_about_162 rfl vp ?_
          refine za_ri (pc := 163) dX6_about_163 rfl rfl rfl ?_
          rw [ep, (h_155.1.1 p hp).2.2.2]
          exact ⟨rfl, Or.inr (Or.inl h_155)⟩
        · refine za_tableIn (pc := 15) (off := 149) 164 dX6_about_15 (by decide) (by decide) (by decide) (by decide) ?_
          refine za_aload_n (pc := 164) dX6_about_164 rfl ?_
          refine za_cV0r (pc := 165) (μ' := mX6_labelDayNow) dX6_about_165 c_X6_160 rfl rfl rfl ⟨rfl, rfl⟩ ⟨rfl, rfl⟩ rfl rfl rfl (tX6_labelDayNow hX hc hv hO hD) (fun t_165 h_165 => ?_)
          refine za_getR (pc := 168) dX6_about_168 lk_X6_164 rfl rfl ?_
          refine za_iload_n (pc := 171) dX6_about_171 rfl ?_
          refine za_iald (pc := 172) dX6_about_172 rfl vp ?_
          refine za_ri (pc := 173) dX6_about_173 rfl rfl rfl ?_
          rw [ep, (h_165.1.1 p hp).1]
          exact ⟨rfl, Or.inr (Or.inr (Or.inl h_165))⟩
        · refine za_tableIn (pc := 15) (off := 159) 174 dX6_about_15 (by decide) (by decide) (by decide) (by decide) ?_
          refine za_aload_n (pc := 174) dX6_about_174 rfl ?_
          refine za_cV0r (pc := 175) (μ' := mX6_labelDayNow) dX6_about_175 c_X6_160 rfl rfl rfl ⟨rfl, rfl⟩ ⟨rfl, rfl⟩ rfl rfl rfl (tX6_labelDayNow hX hc hv hO hD) (fun t_175 h_175 => ?_)
          refine za_getR (pc := 178) dX6_about_178 lk_X6_167 rfl rfl ?_
          refine za_iload_n (pc := 181) dX6_about_181 rfl ?_
          refine za_iald (pc := 182) dX6_about_182 rfl vp ?_
          refine za_ri (pc := 183) dX6_about_183 rfl rfl rfl ?_
          rw [ep, (h_175.1.1 p hp).2]
          exact ⟨rfl, Or.inr (Or.inr (Or.inl h_175))⟩
        · refine za_tableIn (pc := 15) (off := 169) 184 dX6_about_15 (by decide) (by decide) (by decide) (by decide) ?_
          refine za_aload_n (pc := 184) dX6_about_184 rfl ?_
          refine za_cV0r (pc := 185) (μ' := mX6_keptDayNow) dX6_about_185 c_X6_170 rfl rfl rfl ⟨rfl, rfl⟩ ⟨rfl, rfl⟩ rfl rfl rfl (tX6_keptDayNow hX hc hv hO hK) (fun t_185 h_185 => ?_)
          refine za_getR (pc := 188) dX6_about_188 lk_X6_174 rfl rfl ?_
          refine za_iload_n (pc := 191) dX6_about_191 rfl ?_
          refine za_iald (pc := 192) dX6_about_192 rfl vp ?_
          refine za_ri (pc := 193) dX6_about_193 rfl rfl rfl ?_
          rw [ep, h_185.1.2.2 p hp]
          exact ⟨rfl, Or.inr (Or.inr (Or.inr h_185))⟩
      · refine za_tableOut (pc := 15) 194 dX6_about_15 (wh_out h2) (by decide) ?_
        refine za_bipush (pc := 194) (-9) dX6_about_194 (by decide) ?_
        refine za_ri (pc := 196) dX6_about_196 rfl rfl rfl ?_
        exact ⟨by unfold spAbout; rw [if_neg (fun q => h2 q.2)], Or.inl rfl⟩
    · exact absurd c8 (by decide)
  · rw [if_neg h1]
    refine za_if_ne (pc := 8) 14 dX6_about_8 (by decide) (fun c8 => ?_) (fun c8 => ?_)
    · exact absurd rfl c8
    · refine za_bipush (pc := 11) (-9) dX6_about_11 (by decide) ?_
      refine za_ri (pc := 13) dX6_about_13 rfl rfl rfl ?_
      exact ⟨by unfold spAbout; rw [if_neg (fun q => h1 q.1)], Or.inl rfl⟩
/-- the reference was asked -/
def FQ (t σ : zSt) : Prop := (∀ d, d ≠ 47 → d ≠ 59 → d ≠ 61 → d ≠ 62 → d ≠ 63 → d ≠ 64 → t d = σ d) ∧ ∀ i, i ≠ 19 → t 47 i = σ 47 i
def MAny (σ t : zSt) (c : Core) : Prop := FQ t σ ∨ ∃ u, FQ u σ ∧ MKq u t c
def MA (σ : zSt) (c : Core) : Prop := MP σ c ∧ (σ 47 14 = 0 ∨ (σ 47 14 = 1 ∧ MKept σ c))
theorem FQ_59 {t σ : zSt} (h : ∀ d, d ≠ 59 → t d = σ d) : FQ t σ := ⟨fun d _ h2 _ _ _ _ => h d h2, fun i _ => by rw [h 47 (by decide)]⟩
theorem FQ_MD {t u σ : zSt} (h : ∀ d, d ≠ 59 → u d = σ d) (h2 : FMD t u) : FQ t σ := ⟨fun d d1 d2 d3 d4 d5 d6 => by rw [h2.1 d d1 d2 d3 d4]; exact h d d2, fun i hi => by rw [h2.2 i hi, h 47 (by decide)]⟩
theorem FQ_rf (σ : zSt) : FQ σ σ := ⟨fun _ _ _ _ _ _ _ => rfl, fun _ _ => rfl⟩
theorem MKept_FQ {t σ : zSt} {c : Core} (h : MKept σ c) (e : FQ t σ) : MKept t c := by
  obtain ⟨h1, h2, h3⟩ := h
  refine ⟨by rw [e.2 25 (by decide)]; exact h1, fun g g1 g2 => ?_, fun a ha => ?_⟩
  · rw [e.1 66 (by decide) (by decide) (by decide) (by decide) (by decide) (by decide)]; exact h2 g g1 g2
  · rw [e.1 67 (by decide) (by decide) (by decide) (by decide) (by decide) (by decide)]; exact h3 a ha
theorem MP_FQ {t σ : zSt} {c : Core} (h : MP σ c) (e : FQ t σ) : MP t c := ⟨MCore_cong h.1 (fun d d1 d2 => e.1 d (by omega) (by omega) (by omega) (by omega) (by omega) (by omega)) (e.2 3 (by decide)), h.2⟩
theorem MA_FQ {t σ : zSt} {c : Core} (h : MA σ c) (e : FQ t σ) : MA t c := ⟨MP_FQ h.1 e, by
  rw [e.2 14 (by decide)]
  exact h.2.elim Or.inl (fun q => Or.inr ⟨q.1, MKept_FQ q.2 e⟩)⟩
theorem tX7_about {σ : zSt} {c : Core} {a what : Int32} (h : MA σ c) : zI mX7_about [.ref 47, .int a, .int what] SH σ (fun x t => x = spAbout c a what ∧ MAny σ t c) := by
  have hh := h
  obtain ⟨⟨hM, hc⟩, hI⟩ := h
  have hn := hc.1
  have bad : ¬ (isJb (cN c) a ∧ (0 ≤ what ∧ what < 12)) → zA (zZ mX7_about (zQI SH (fun x t => x = spAbout c a what ∧ MAny σ t c))) mX7_about none 0 0 20 [some (.ref 47), some (.int a), some (.int what)] [] SH σ := by
    intro q
    refine za_bipush (pc := 20) (-9) dX7_about_20 (by decide) ?_
    refine za_ri (pc := 22) dX7_about_22 rfl rfl rfl ?_
    exact ⟨by unfold spAbout; rw [if_neg q], Or.inl (FQ_rf σ)⟩
  refine zI_of (ls := [some (.ref 47), some (.int a), some (.int what)]) (by decide) rfl rfl ?_
  refine za_aload_n (pc := 0) dX7_about_0 rfl ?_
  refine za_iload_n (pc := 1) dX7_about_1 rfl ?_
  refine za_cV1i (pc := 2) (μ' := mX7_isJob) dX7_about_2 c_X7_122 rfl rfl rfl ⟨rfl, rfl⟩ ⟨rfl, rfl⟩ rfl rfl rfl (tX7_isJob hM.1 hn) (fun x_2 t_2 h_2 => ?_)
  obtain ⟨rfl, h9⟩ := h_2
  have h9 := h9.symm
  subst h9
  by_cases h1 : isJb (cN c) a
  · rw [if_pos h1]
    refine za_if_eq (pc := 5) 20 dX7_about_5 (by decide) (fun c5 => ?_) (fun c5 => ?_)
    · exact absurd c5 (by decide)
    refine za_iload_n (pc := 8) dX7_about_8 rfl ?_
    refine za_i2l (pc := 9) dX7_about_9 ?_
    refine za_lconst (pc := 10) (0) dX7_about_10 (by decide) ?_
    refine za_ldc2_w (pc := 11) (11) dX7_about_11 k_X7_156 ?_
    refine za_cS3i (pc := 14) (μ' := mX7_in) dX7_about_14 c_X7_73 rfl ⟨rfl, rfl⟩ ⟨rfl, rfl⟩ rfl rfl rfl (tX7_in) (fun x_14 t_14 h_14 => ?_)
    obtain ⟨rfl, h9⟩ := h_14
    have h9 := h9.symm
    subst h9
    have e12 : ((0 : Int64) ≤ what.toInt64 ∧ what.toInt64 ≤ 11) ↔ (0 ≤ what ∧ what < 12) := by
      rw [show (0 : Int64) = (0 : Int32).toInt64 from rfl, show (11 : Int64) = (11 : Int32).toInt64 from rfl, fa_wide_le, fa_wide_le, fa_le, fa_le, fa_lt, show (11 : Int32).toInt = 11 from rfl, show (12 : Int32).toInt = 12 from rfl]
      omega
    by_cases h2 : 0 ≤ what ∧ what < 12
    · rw [if_pos (e12.mpr h2)]
      refine za_if_ne (pc := 17) 23 dX7_about_17 (by decide) (fun c17 => ?_) (fun c17 => ?_)
      · obtain ⟨p, hp, rfl⟩ := isJb_ix h1 hn
        have vp : vp_in (nI p) 10 := vp_in_nI (by omega) (by decide)
        have ep : (nI p).toNatClampNeg = p := nI_clamp (by omega)
        refine za_aload_n (pc := 23) dX7_about_23 rfl ?_
        refine za_cV0v (pc := 24) (μ' := mX7_layBehind) dX7_about_24 c_X7_115 rfl rfl rfl ⟨rfl, rfl⟩ ⟨rfl, rfl⟩ rfl rfl rfl (tX7_layBehind hn hM.1 (fun a ha => (hM.2 a ha).2.2.2.2)) (fun t_24 h_24 => ?_)
        obtain ⟨q1, q2, -⟩ := h_24
        have f1 : FQ t_24 σ := FQ_59 q1
        have hA1 := MA_FQ hh f1
        obtain ⟨b1, b2, b3, b4, b5⟩ := hA1.1.1.2 p hp
        refine za_iload_n (pc := 27) dX7_about_27 rfl ?_
        have eA : spAbout c (nI p) what = abV c p what.toNatClampNeg := by unfold spAbout; rw [if_pos ⟨h1, h2⟩, ep]
        rw [eA]
        rcases wh_ix h2 with rfl | rfl | rfl | rfl | rfl | rfl | rfl | rfl | rfl | rfl | rfl | rfl
        · refine za_tableIn (pc := 28) (off := 60) 88 dX7_about_28 (by decide) (by decide) (by decide) (by decide) ?_
          refine za_aload_n (pc := 88) dX7_about_88 rfl ?_
          refine za_getR (pc := 89) dX7_about_89 lk_X7_19 rfl rfl ?_
          refine za_iload_n (pc := 92) dX7_about_92 rfl ?_
          refine za_iald (pc := 93) dX7_about_93 rfl vp ?_
          refine za_ri (pc := 94) dX7_about_94 rfl rfl rfl ?_
          rw [ep, b1]
          exact ⟨rfl, Or.inl f1⟩
        · refine za_tableIn (pc := 28) (off := 67) 95 dX7_about_28 (by decide) (by decide) (by decide) (by decide) ?_
          refine za_aload_n (pc := 95) dX7_about_95 rfl ?_
          refine za_getR (pc := 96) dX7_about_96 lk_X7_22 rfl rfl ?_
          refine za_iload_n (pc := 99) dX7_about_99 rfl ?_
          refine za_iald (pc := 100) dX7_about_100 rfl vp ?_
          refine za_ri (pc := 101) dX7_about_101 rfl rfl rfl ?_
          rw [ep, b2]
          exact ⟨rfl, Or.inl f1⟩
        · refine za_tableIn (pc := 28) (off := 74) 102 dX7_about_28 (by decide) (by decide) (by decide) (by decide) ?_
          refine za_aload_n (pc := 102) dX7_about_102 rfl ?_
          refine za_getR (pc := 103) dX7_about_103 lk_X7_25 rfl rfl ?_
          refine za_iload_n (pc := 106) dX7_about_106 rfl ?_
          refine za_iald (pc := 107) dX7_about_107 rfl vp ?_
          refine za_ri (pc := 108) dX7_about_108 rfl rfl rfl ?_
          rw [ep, b3]
          exact ⟨rfl, Or.inl f1⟩
        · refine za_tableIn (pc := 28) (off := 81) 109 dX7_about_28 (by decide) (by decide) (by decide) (by decide) ?_
          refine za_aload_n (pc := 109) dX7_about_109 rfl ?_
          refine za_getR (pc := 110) dX7_about_110 lk_X7_28 rfl rfl ?_
          refine za_iload_n (pc := 113) dX7_about_113 rfl ?_
          refine za_iald (pc := 114) dX7_about_114 rfl vp ?_
          refine za_ri (pc := 115) dX7_about_115 rfl rfl rfl ?_
          rw [ep, b4]
          exact ⟨rfl, Or.inl f1⟩
        · refine za_tableIn (pc := 28) (off := 88) 116 dX7_about_28 (by decide) (by decide) (by decide) (by decide) ?_
          refine za_aload_n (pc := 116) dX7_about_116 rfl ?_
          refine za_getR (pc := 117) dX7_about_117 lk_X7_31 rfl rfl ?_
          refine za_iload_n (pc := 120) dX7_about_120 rfl ?_
          refine za_iald (pc := 121) dX7_about_121 rfl vp ?_
          refine za_ri (pc := 122) dX7_about_122 rfl rfl rfl ?_
          rw [ep, b5]
          exact ⟨rfl, Or.inl f1⟩
        · refine za_tableIn (pc := 28) (off := 95) 123 dX7_about_28 (by decide) (by decide) (by decide) (by decide) ?_
          refine za_aload_n (pc := 123) dX7_about_123 rfl ?_
          refine za_getR (pc := 124) dX7_about_124 lk_X7_43 rfl rfl ?_
          refine za_iload_n (pc := 127) dX7_about_127 rfl ?_
          refine za_iald (pc := 128) dX7_about_128 rfl vp ?_
          refine za_ri (pc := 129) dX7_about_129 rfl rfl rfl ?_
          rw [ep, q2 p hp]
          exact ⟨rfl, Or.inl f1⟩
        · refine za_tableIn (pc := 28) (off := 102) 130 dX7_about_28 (by decide) (by decide) (by decide) (by decide) ?_
          refine za_aload_n (pc := 130) dX7_about_130 rfl ?_
          refine za_iload_n (pc := 131) dX7_about_131 rfl ?_
          refine za_cV1i (pc := 132) (μ' := mX7_behindOf) dX7_about_132 c_X7_158 rfl rfl rfl ⟨rfl, rfl⟩ ⟨rfl, rfl⟩ rfl rfl rfl (tX7_behindOf hn hp hA1.1.1.1 q2) (fun x_132 t_132 h_132 => ?_)
          obtain ⟨rfl, h9⟩ := h_132
          have h9 := h9.symm
          subst h9
          refine za_ri (pc := 135) dX7_about_135 rfl rfl rfl ?_
          exact ⟨rfl, Or.inl f1⟩
        · refine za_tableIn (pc := 28) (off := 108) 136 dX7_about_28 (by decide) (by decide) (by decide) (by decide) ?_
          refine za_aload_n (pc := 136) dX7_about_136 rfl ?_
          refine za_iload_n (pc := 137) dX7_about_137 rfl ?_
          refine za_aload_n (pc := 138) dX7_about_138 rfl ?_
          refine za_cV0i (pc := 139) (μ' := mX7_all) dX7_about_139 c_X7_161 rfl rfl rfl ⟨rfl, rfl⟩ ⟨rfl, rfl⟩ rfl rfl rfl (tX7_all hn hA1.1.1.1) (fun x_139 t_139 h_139 => ?_)
          obtain ⟨rfl, h9⟩ := h_139
          have h9 := h9.symm
          subst h9
          refine za_cV2i (pc := 142) (μ' := mX7_nextOf) dX7_about_142 c_X7_136 rfl rfl rfl ⟨rfl, rfl⟩ ⟨rfl, rfl⟩ rfl rfl rfl (tX7_nextOf hn hp hA1.1.1.1 q2) (fun x_142 t_142 h_142 => ?_)
          obtain ⟨rfl, h9⟩ := h_142
          have h9 := h9.symm
          subst h9
          refine za_ri (pc := 145) dX7_about_145 rfl rfl rfl ?_
          exact ⟨congrArg zmask (nxs_all p), Or.inl f1⟩
        · refine za_tableIn (pc := 28) (off := 118) 146 dX7_about_28 (by decide) (by decide) (by decide) (by decide) ?_
          refine za_aload_n (pc := 146) dX7_about_146 rfl ?_
          refine za_cV0v (pc := 147) (μ' := mX7_layDepths) dX7_about_147 c_X7_165 rfl rfl rfl ⟨rfl, rfl⟩ ⟨rfl, rfl⟩ rfl rfl rfl (tX7_layDepths (bhd_ord hc) hn hA1.1.1.1 (fun a ha => (hA1.1.1.2 a ha).2.2.2.2)) (fun t_147 h_147 => ?_)
          obtain ⟨g1, g2, g3⟩ := h_147
          refine za_aload_n (pc := 150) dX7_about_150 rfl ?_
          refine za_getR (pc := 151) dX7_about_151 lk_X7_55 rfl rfl ?_
          refine za_iload_n (pc := 154) dX7_about_154 rfl ?_
          refine za_iald (pc := 155) dX7_about_155 rfl vp ?_
          refine za_ri (pc := 156) dX7_about_156 rfl rfl rfl ?_
          rw [ep, g3 p hp]
          exact ⟨rfl, Or.inl ⟨fun d d1 d2 d3 d4 d5 d6 => by rw [g1 d d2 d5]; exact q1 d d2, fun i _ => by rw [g1 47 (by decide) (by decide), q1 47 (by decide)]⟩⟩
        · refine za_tableIn (pc := 28) (off := 129) 157 dX7_about_28 (by decide) (by decide) (by decide) (by decide) ?_
          refine za_aload_n (pc := 157) dX7_about_157 rfl ?_
          refine za_aload_n (pc := 158) dX7_about_158 rfl ?_
          refine za_cV0i (pc := 159) (μ' := mX7_all) dX7_about_159 c_X7_161 rfl rfl rfl ⟨rfl, rfl⟩ ⟨rfl, rfl⟩ rfl rfl rfl (tX7_all hn hA1.1.1.1) (fun x_159 t_159 h_159 => ?_)
          obtain ⟨rfl, h9⟩ := h_159
          have h9 := h9.symm
          subst h9
          refine za_cV1v (pc := 162) (μ' := mX7_layDay) dX7_about_162 c_X7_168 rfl rfl rfl ⟨rfl, rfl⟩ ⟨rfl, rfl⟩ rfl rfl rfl (tMA hA1.1) (fun t_162 h_162 => ?_)
          obtain ⟨g1, g2⟩ := h_162
          refine za_aload_n (pc := 165) dX7_about_165 rfl ?_
          refine za_getR (pc := 166) dX7_about_166 lk_X7_49 rfl rfl ?_
          refine za_iload_n (pc := 169) dX7_about_169 rfl ?_
          refine za_iald (pc := 170) dX7_about_170 rfl vp ?_
          refine za_ri (pc := 171) dX7_about_171 rfl rfl rfl ?_
          rw [ep, g1.2.1 p (by omega)]
          exact ⟨rfl, Or.inl (FQ_MD q1 g2)⟩
        · refine za_tableIn (pc := 28) (off := 144) 172 dX7_about_28 (by decide) (by decide) (by decide) (by decide) ?_
          refine za_aload_n (pc := 172) dX7_about_172 rfl ?_
          refine za_aload_n (pc := 173) dX7_about_173 rfl ?_
          refine za_cV0i (pc := 174) (μ' := mX7_all) dX7_about_174 c_X7_161 rfl rfl rfl ⟨rfl, rfl⟩ ⟨rfl, rfl⟩ rfl rfl rfl (tX7_all hn hA1.1.1.1) (fun x_174 t_174 h_174 => ?_)
          obtain ⟨rfl, h9⟩ := h_174
          have h9 := h9.symm
          subst h9
          refine za_cV1v (pc := 177) (μ' := mX7_layDay) dX7_about_177 c_X7_168 rfl rfl rfl ⟨rfl, rfl⟩ ⟨rfl, rfl⟩ rfl rfl rfl (tMA hA1.1) (fun t_177 h_177 => ?_)
          obtain ⟨g1, g2⟩ := h_177
          refine za_aload_n (pc := 180) dX7_about_180 rfl ?_
          refine za_getR (pc := 181) dX7_about_181 lk_X7_52 rfl rfl ?_
          refine za_iload_n (pc := 184) dX7_about_184 rfl ?_
          refine za_iald (pc := 185) dX7_about_185 rfl vp ?_
          refine za_ri (pc := 186) dX7_about_186 rfl rfl rfl ?_
          rw [ep, g1.2.2.1 p (by omega)]
          exact ⟨rfl, Or.inl (FQ_MD q1 g2)⟩
        · refine za_tableOut (pc := 28) 187 dX7_about_28 (by decide) (by decide) ?_
          refine za_aload_n (pc := 187) dX7_about_187 rfl ?_
          refine za_cV0v (pc := 188) (μ' := mX7_layKept) dX7_about_188 c_X7_171 rfl rfl rfl ⟨rfl, rfl⟩ ⟨rfl, rfl⟩ rfl rfl rfl (tX7_layKept hA1.1 hA1.2) (fun t_188 h_188 => ?_)
          have hq := h_188
          refine za_aload_n (pc := 191) dX7_about_191 rfl ?_
          refine za_getR (pc := 192) dX7_about_192 lk_X7_68 rfl rfl ?_
          refine za_iload_n (pc := 195) dX7_about_195 rfl ?_
          refine za_iald (pc := 196) dX7_about_196 rfl vp ?_
          refine za_ri (pc := 197) dX7_about_197 rfl rfl rfl ?_
          rw [ep, hq.1.2.2 p hp]
          exact ⟨rfl, Or.inr ⟨t_24, f1, hq⟩⟩
      · exact absurd c17 (by decide)
    · rw [if_neg (fun q => h2 (e12.mp q))]
      refine za_if_ne (pc := 17) 23 dX7_about_17 (by decide) (fun c17 => ?_) (fun c17 => ?_)
      · exact absurd rfl c17
      · exact bad (fun q => h2 q.2)
  · rw [if_neg h1]
    refine za_if_eq (pc := 5) 20 dX7_about_5 (by decide) (fun c5 => ?_) (fun c5 => ?_)
    · exact bad (fun q => h1 q.1)
    · exact absurd rfl c5
