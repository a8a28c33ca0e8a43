/-! jobs of the reference -/
def MJ (σ : zSt) (m : Nat) (H : Nat → Core) : Prop := MCore σ (H m) ∧ MHist σ m H
theorem m5 {x a j : Nat} : nI x + nI j + (5 : Int32) * nI a = nI (x + (j + 5 * a)) := by
  show nI x + nI j + nI 5 * nI a = _
  rw [pk_mul, nI_add, nI_add, Nat.add_assoc]
theorem tX7_isJob {σ : zSt} {a : Int32} {n : Nat} (hn : σ 47 3 = nI n) (h : n ≤ 10) : zI mX7_isJob [.ref 47, .int a] SH σ (fun x t => x = (if isJb n a then 1 else 0) ∧ t = σ) := by
  refine zI_of (ls := [some (.ref 47), some (.int a)]) (by decide) rfl rfl ?_
  refine za_iload_n (pc := 0) dX7_isJob_0 rfl ?_
  refine za_i2l (pc := 1) dX7_isJob_1 ?_
  refine za_lconst (pc := 2) (0) dX7_isJob_2 (by decide) ?_
  refine za_aload_n (pc := 3) dX7_isJob_3 rfl ?_
  refine za_getI (pc := 4) dX7_isJob_4 lk_X7_91 rfl rfl ?_
  refine za_iconst (pc := 7) (1) dX7_isJob_7 (by decide) ?_
  refine za_isub (pc := 8) dX7_isJob_8 ?_
  refine za_i2l (pc := 9) dX7_isJob_9 ?_
  refine za_cS3i (pc := 10) (μ' := mX7_in) dX7_isJob_10 c_X7_73 rfl ⟨rfl, rfl⟩ ⟨rfl, rfl⟩ rfl rfl rfl (tX7_in) (fun x_10 t_10 h_10 => ?_)
  obtain ⟨rfl, h9⟩ := h_10
  have h9 := h9.symm
  subst h9
  have es : (nI n - 1).toInt = (n : Int) - 1 := by
    rw [fb_subI (by rw [nI_toInt (by omega)]; show _ ≤ _ - (1 : Int); omega) (by rw [nI_toInt (by omega)]; show _ - (1 : Int) < _; omega), nI_toInt (by omega)]
    rfl
  have e : (if (0 : Int64) ≤ a.toInt64 ∧ a.toInt64 ≤ (σ 47 3 - 1).toInt64 then (1 : Int32) else 0) = if isJb n a then 1 else 0 := by
    rw [hn, zin_if (lo := 0) (hi := nI n - 1) (L := 0) rfl rfl]
    have : (0 ≤ a ∧ a ≤ nI n - 1) ↔ isJb n a := by
      unfold isJb
      rw [fa_le, fa_le, fa_lt, es, nI_toInt (by omega)]
      omega
    simp only [this]
  rw [e]
  refine za_rz (pc := 13) dX7_isJob_13 rfl rfl rfl (by split <;> rfl) ?_
  exact ⟨rfl, rfl⟩
theorem Snap_cong {σ t : zSt} {k k' : Nat} {c : Core} (h : Snap σ k c) (hc : cN c ≤ 10) (e : ∀ u, u < 51 → t 56 (51 * k' + u) = σ 56 (51 * k + u)) : Snap t k' c := by
  obtain ⟨h1, h2⟩ := h
  refine ⟨?_, fun a ha => ?_⟩
  · have := e 0 (by omega)
    rw [Nat.add_zero, Nat.add_zero] at this
    rw [this]; exact h1
  · obtain ⟨a1, a2, a3, a4, a5⟩ := h2 a ha
    exact ⟨by rw [e _ (by omega)]; exact a1, by rw [e _ (by omega)]; exact a2, by rw [e _ (by omega)]; exact a3, by rw [e _ (by omega)]; exact a4, by rw [e _ (by omega)]; exact a5⟩
theorem tX7_keep {σ : zSt} {m : Nat} {H : Nat → Core} (h : MJ σ m H) (ho : JOk m H) : zV mX7_keep [.ref 47] SH σ (fun t => (∀ c, c ≠ 47 → c ≠ 56 → t c = σ c) ∧ (∀ i, i ≠ 9 → i ≠ 14 → t 47 i = σ 47 i) ∧ t 47 14 = 0 ∧ t 47 9 = nI (pushN m) ∧ ∀ c' k, k < pushN m → Snap t k (pushH m H c' k)) := by
  obtain ⟨⟨c1, c2⟩, hm, hs⟩ := h
  have hm20 := ho.1
  have hN : cN (H m) ≤ 10 := (ho.2 m (Nat.le_refl m)).1
  -- from 49 on, with room for one more
  have tail : ∀ (p : Nat) (σ1 : zSt), p < 20 → pushN m = p + 1 → σ1 47 9 = nI p → (∀ c, c ≠ 47 → c ≠ 56 → σ1 c = σ c) → (∀ i, i ≠ 9 → σ1 47 i = σ 47 i) → (∀ c' k, k < p → Snap σ1 k (pushH m H c' k)) → (∀ c', pushH m H c' p = H m) → zA (zZ mX7_keep (zQV SH (fun t => (∀ c, c ≠ 47 → c ≠ 56 → t c = σ c) ∧ (∀ i, i ≠ 9 → i ≠ 14 → t 47 i = σ 47 i) ∧ t 47 14 = 0 ∧ t 47 9 = nI (pushN m) ∧ ∀ c' k, k < pushN m → Snap t k (pushH m H c' k)))) mX7_keep none 0 0 49 [some (.ref 47), none, none] [] SH σ1 ∧ zA (zZ mX7_keep (zQV SH (fun t => (∀ c, c ≠ 47 → c ≠ 56 → t c = σ c) ∧ (∀ i, i ≠ 9 → i ≠ 14 → t 47 i = σ 47 i) ∧ t 47 14 = 0 ∧ t 47 9 = nI (pushN m) ∧ ∀ c' k, k < pushN m → Snap t k (pushH m H c' k)))) mX7_keep none 0 0 49 [some (.ref 47), some (.int (nI 969)), none] [] SH σ1 := by
    intro p σ1 hp epn f9 fC f47 fS fT
    have key : ∀ (x : Option Value), zNl [some (.ref 47), x, none] 1 = true → zA (zZ mX7_keep (zQV SH (fun t => (∀ c, c ≠ 47 → c ≠ 56 → t c = σ c) ∧ (∀ i, i ≠ 9 → i ≠ 14 → t 47 i = σ 47 i) ∧ t 47 14 = 0 ∧ t 47 9 = nI (pushN m) ∧ ∀ c' k, k < pushN m → Snap t k (pushH m H c' k)))) mX7_keep none 0 0 49 [some (.ref 47), x, none] [] SH σ1 := by
      intro x hx
      refine za_bipush (pc := 49) (51) dX7_keep_49 (by decide) ?_
      refine za_aload_n (pc := 51) dX7_keep_51 rfl ?_
      refine za_getI (pc := 52) dX7_keep_52 lk_X7_95 rfl rfl ?_
      rw [f9]
      refine za_imul (pc := 55) dX7_keep_55 ?_
      have e51 : (51 : Int32) * nI p = nI (51 * p) := by
        show nI 51 * nI p = _
        rw [pk_mul]
      rw [e51]
      refine za_is1n (pc := 56) dX7_keep_56 hx ?_
      refine za_aload_n (pc := 57) dX7_keep_57 rfl ?_
      refine za_getR (pc := 58) dX7_keep_58 lk_X7_34 rfl rfl ?_
      refine za_iload_n (pc := 61) dX7_keep_61 rfl ?_
      refine za_aload_n (pc := 62) dX7_keep_62 rfl ?_
      refine za_getI (pc := 63) dX7_keep_63 lk_X7_91 rfl rfl ?_
      refine za_iast (pc := 66) dX7_keep_66 rfl (vp_in_nI (show 51 * p < 1020 by omega) (by decide)) ?_
      refine za_iconst (pc := 67) (0) dX7_keep_67 (by decide) ?_
      refine za_is2n (pc := 68) dX7_keep_68 rfl ?_
      rw [nI_clamp (by omega), f47 3 (by decide), c1]
      have loop : ∀ (q a : Nat) (σ2 : zSt), a + q = 10 → (∀ c, c ≠ 56 → σ2 c = σ1 c) → σ2 56 (51 * p) = nI (cN (H m)) → (∀ u, (u < 51 * p ∨ 51 * p + 51 ≤ u) → σ2 56 u = σ1 56 u) → (∀ i, i < a → σ2 56 (51 * p + (1 + 5 * i)) = σ 51 i ∧ σ2 56 (51 * p + (2 + 5 * i)) = σ 52 i ∧ σ2 56 (51 * p + (3 + 5 * i)) = σ 53 i ∧ σ2 56 (51 * p + (4 + 5 * i)) = σ 54 i ∧ σ2 56 (51 * p + (5 + 5 * i)) = σ 55 i) → zA (zZ mX7_keep (zQV SH (fun t => (∀ c, c ≠ 47 → c ≠ 56 → t c = σ c) ∧ (∀ i, i ≠ 9 → i ≠ 14 → t 47 i = σ 47 i) ∧ t 47 14 = 0 ∧ t 47 9 = nI (pushN m) ∧ ∀ c' k, k < pushN m → Snap t k (pushH m H c' k)))) mX7_keep none 0 0 69 [some (.ref 47), some (.int (nI (51 * p))), some (.int (nI a))] [] SH σ2 := by
        intro q
        induction q with
        | zero =>
          intro a σ2 ha g1 g2 g3 g4
          refine za_iload_n (pc := 69) dX7_keep_69 rfl ?_
          refine za_bipush (pc := 70) (10) dX7_keep_70 (by decide) ?_
          refine za_icmp_ge (pc := 72) 171 dX7_keep_72 (by decide) (fun c => ?_) (fun c => ?_)
          · refine za_aload_n (pc := 171) dX7_keep_171 rfl ?_
            refine za_dup (pc := 172) dX7_keep_172 rfl ?_
            refine za_getI (pc := 173) dX7_keep_173 lk_X7_95 rfl rfl ?_
            refine za_iconst (pc := 176) (1) dX7_keep_176 (by decide) ?_
            refine za_iadd (pc := 177) dX7_keep_177 ?_
            refine za_putI (pc := 178) dX7_keep_178 lp_X7_95 rfl rfl ?_
            refine za_aload_n (pc := 181) dX7_keep_181 rfl ?_
            refine za_iconst (pc := 182) (0) dX7_keep_182 (by decide) ?_
            refine za_putX (pc := 183) dX7_keep_183 lp_X7_98 rfl rfl rfl rfl ?_
            refine za_rv (pc := 186) dX7_keep_186 rfl rfl rfl ?_
            have r : ∀ c, c ≠ 47 → zup (zup σ2 47 9 (σ2 47 9 + 1)) 47 14 0 c = σ2 c := fun c hc => by rw [zup_n hc, zup_n hc]
            refine ⟨fun c h47 h56 => by rw [r c h47, g1 c h56, fC c h47 h56], fun i h9 h14 => by rw [zup_b h14, zup_b h9, g1 47 (by decide), f47 i h9], by rw [zup_a], by rw [zup_b (by decide), zup_a, g1 47 (by decide), f9, nI_1, epn], fun c' k hk => ?_⟩
            rcases Nat.lt_or_ge k p with hk2 | hk2
            · have hok : cN (pushH m H c' k) ≤ 10 := by
                have := (fS c' k hk2).1
                unfold pushH
                by_cases e : m = 20
                · rw [if_pos e]; simp only [if_pos (show k < 20 by omega)]; exact (ho.2 (k + 1) (by omega)).1
                · rw [if_neg e]
                  have : pushN m = m + 1 := if_neg e
                  simp only [if_pos (show k ≤ m by omega)]; exact (ho.2 k (by omega)).1
              exact Snap_cong (fS c' k hk2) hok (fun u hu => by rw [r 56 (by decide), g3 _ (by omega)])
            · have : k = p := by omega
              subst this
              rw [fT c']
              refine ⟨by rw [r 56 (by decide)]; exact g2, fun i hi => ?_⟩
              obtain ⟨b1, b2, b3, b4, b5⟩ := c2 i hi
              obtain ⟨d1, d2, d3, d4, d5⟩ := g4 i (by omega)
              rw [r 56 (by decide)]
              exact ⟨d1.trans b1, d2.trans b2, d3.trans b3, d4.trans b4, d5.trans b5⟩
          · exact absurd (nI_le (a := 10) (b := a) (by omega) (by omega)) c
        | succ q ih =>
          intro a σ2 ha g1 g2 g3 g4
          have va : vp_in (nI a) 10 := vp_in_nI (by omega) (by decide)
          have ea : (nI a).toNatClampNeg = a := nI_clamp (by omega)
          have m1 : nI (51 * p) + 1 + 5 * nI a = nI (51 * p + (1 + 5 * a)) := m5 (j := 1)
          have m2 : nI (51 * p) + 2 + 5 * nI a = nI (51 * p + (2 + 5 * a)) := m5 (j := 2)
          have m3 : nI (51 * p) + 3 + 5 * nI a = nI (51 * p + (3 + 5 * a)) := m5 (j := 3)
          have m4 : nI (51 * p) + 4 + 5 * nI a = nI (51 * p + (4 + 5 * a)) := m5 (j := 4)
          have m6 : nI (51 * p) + 5 + 5 * nI a = nI (51 * p + (5 + 5 * a)) := m5 (j := 5)
          refine za_iload_n (pc := 69) dX7_keep_69 rfl ?_
          refine za_bipush (pc := 70) (10) dX7_keep_70 (by decide) ?_
          refine za_icmp_ge (pc := 72) 171 dX7_keep_72 (by decide) (fun c => ?_) (fun c => ?_)
          · exact absurd c (nI_ge (a := a) (b := 10) (by omega) (by omega))
          · refine za_aload_n (pc := 75) dX7_keep_75 rfl ?_
            refine za_getR (pc := 76) dX7_keep_76 lk_X7_34 rfl rfl ?_
            refine za_iload_n (pc := 79) dX7_keep_79 rfl ?_
            refine za_iconst (pc := 80) (1) dX7_keep_80 (by decide) ?_
            refine za_iadd (pc := 81) dX7_keep_81 ?_
            refine za_iconst (pc := 82) (5) dX7_keep_82 (by decide) ?_
            refine za_iload_n (pc := 83) dX7_keep_83 rfl ?_
            refine za_imul (pc := 84) dX7_keep_84 ?_
            refine za_iadd (pc := 85) dX7_keep_85 ?_
            rw [m1]
            refine za_aload_n (pc := 86) dX7_keep_86 rfl ?_
            refine za_getR (pc := 87) dX7_keep_87 lk_X7_19 rfl rfl ?_
            refine za_iload_n (pc := 90) dX7_keep_90 rfl ?_
            refine za_iald (pc := 91) dX7_keep_91 rfl va ?_
            refine za_iast (pc := 92) dX7_keep_92 rfl (vp_in_nI (show 51 * p + (1 + 5 * a) < 1020 by omega) (by decide)) ?_
            refine za_aload_n (pc := 93) dX7_keep_93 rfl ?_
            refine za_getR (pc := 94) dX7_keep_94 lk_X7_34 rfl rfl ?_
            refine za_iload_n (pc := 97) dX7_keep_97 rfl ?_
            refine za_iconst (pc := 98) (2) dX7_keep_98 (by decide) ?_
            refine za_iadd (pc := 99) dX7_keep_99 ?_
            refine za_iconst (pc := 100) (5) dX7_keep_100 (by decide) ?_
            refine za_iload_n (pc := 101) dX7_keep_101 rfl ?_
            refine za_imul (pc := 102) dX7_keep_102 ?_
            refine za_iadd (pc := 103) dX7_keep_103 ?_
            rw [m2]
            refine za_aload_n (pc := 104) dX7_keep_104 rfl ?_
            refine za_getR (pc := 105) dX7_keep_105 lk_X7_22 rfl rfl ?_
            refine za_iload_n (pc := 108) dX7_keep_108 rfl ?_
            refine za_iald (pc := 109) dX7_keep_109 rfl va ?_
            refine za_iast (pc := 110) dX7_keep_110 rfl (vp_in_nI (show 51 * p + (2 + 5 * a) < 1020 by omega) (by decide)) ?_
            refine za_aload_n (pc := 111) dX7_keep_111 rfl ?_
            refine za_getR (pc := 112) dX7_keep_112 lk_X7_34 rfl rfl ?_
            refine za_iload_n (pc := 115) dX7_keep_115 rfl ?_
            refine za_iconst (pc := 116) (3) dX7_keep_116 (by decide) ?_
            refine za_iadd (pc := 117) dX7_keep_117 ?_
            refine za_iconst (pc := 118) (5) dX7_keep_118 (by decide) ?_
            refine za_iload_n (pc := 119) dX7_keep_119 rfl ?_
            refine za_imul (pc := 120) dX7_keep_120 ?_
            refine za_iadd (pc := 121) dX7_keep_121 ?_
            rw [m3]
            refine za_aload_n (pc := 122) dX7_keep_122 rfl ?_
            refine za_getR (pc := 123) dX7_keep_123 lk_X7_25 rfl rfl ?_
            refine za_iload_n (pc := 126) dX7_keep_126 rfl ?_
            refine za_iald (pc := 127) dX7_keep_127 rfl va ?_
            refine za_iast (pc := 128) dX7_keep_128 rfl (vp_in_nI (show 51 * p + (3 + 5 * a) < 1020 by omega) (by decide)) ?_
            refine za_aload_n (pc := 129) dX7_keep_129 rfl ?_
            refine za_getR (pc := 130) dX7_keep_130 lk_X7_34 rfl rfl ?_
            refine za_iload_n (pc := 133) dX7_keep_133 rfl ?_
            refine za_iconst (pc := 134) (4) dX7_keep_134 (by decide) ?_
            refine za_iadd (pc := 135) dX7_keep_135 ?_
            refine za_iconst (pc := 136) (5) dX7_keep_136 (by decide) ?_
            refine za_iload_n (pc := 137) dX7_keep_137 rfl ?_
            refine za_imul (pc := 138) dX7_keep_138 ?_
            refine za_iadd (pc := 139) dX7_keep_139 ?_
            rw [m4]
            refine za_aload_n (pc := 140) dX7_keep_140 rfl ?_
            refine za_getR (pc := 141) dX7_keep_141 lk_X7_28 rfl rfl ?_
            refine za_iload_n (pc := 144) dX7_keep_144 rfl ?_
            refine za_iald (pc := 145) dX7_keep_145 rfl va ?_
            refine za_iast (pc := 146) dX7_keep_146 rfl (vp_in_nI (show 51 * p + (4 + 5 * a) < 1020 by omega) (by decide)) ?_
            refine za_aload_n (pc := 147) dX7_keep_147 rfl ?_
            refine za_getR (pc := 148) dX7_keep_148 lk_X7_34 rfl rfl ?_
            refine za_iload_n (pc := 151) dX7_keep_151 rfl ?_
            refine za_iconst (pc := 152) (5) dX7_keep_152 (by decide) ?_
            refine za_iadd (pc := 153) dX7_keep_153 ?_
            refine za_iconst (pc := 154) (5) dX7_keep_154 (by decide) ?_
            refine za_iload_n (pc := 155) dX7_keep_155 rfl ?_
            refine za_imul (pc := 156) dX7_keep_156 ?_
            refine za_iadd (pc := 157) dX7_keep_157 ?_
            rw [m6]
            refine za_aload_n (pc := 158) dX7_keep_158 rfl ?_
            refine za_getR (pc := 159) dX7_keep_159 lk_X7_31 rfl rfl ?_
            refine za_iload_n (pc := 162) dX7_keep_162 rfl ?_
            refine za_iald (pc := 163) dX7_keep_163 rfl va ?_
            refine za_iast (pc := 164) dX7_keep_164 rfl (vp_in_nI (show 51 * p + (5 + 5 * a) < 1020 by omega) (by decide)) ?_
            refine za_ii2 (pc := 165) (1) dX7_keep_165 (by decide) rfl ?_
            refine za_goto (pc := 168) 69 dX7_keep_168 (by decide) ?_
            rw [nI_1, ea, nI_clamp (show 51 * p + (1 + 5 * a) < 2 ^ 31 by omega), nI_clamp (show 51 * p + (2 + 5 * a) < 2 ^ 31 by omega), nI_clamp (show 51 * p + (3 + 5 * a) < 2 ^ 31 by omega), nI_clamp (show 51 * p + (4 + 5 * a) < 2 ^ 31 by omega), nI_clamp (show 51 * p + (5 + 5 * a) < 2 ^ 31 by omega)]
            have s1 : ∀ i, σ2 51 i = σ 51 i := fun i => by rw [g1 51 (by decide), fC 51 (by decide) (by decide)]
            have s2 : ∀ i, σ2 52 i = σ 52 i := fun i => by rw [g1 52 (by decide), fC 52 (by decide) (by decide)]
            have s3 : ∀ i, σ2 53 i = σ 53 i := fun i => by rw [g1 53 (by decide), fC 53 (by decide) (by decide)]
            have s4 : ∀ i, σ2 54 i = σ 54 i := fun i => by rw [g1 54 (by decide), fC 54 (by decide) (by decide)]
            have s5 : ∀ i, σ2 55 i = σ 55 i := fun i => by rw [g1 55 (by decide), fC 55 (by decide) (by decide)]
            simp only [zup_n (show (52 : Nat) ≠ 56 by decide), zup_n (show (53 : Nat) ≠ 56 by decide), zup_n (show (54 : Nat) ≠ 56 by decide), zup_n (show (55 : Nat) ≠ 56 by decide)]
            rw [s1, s2, s3, s4, s5]
            refine ih (a + 1) _ (by omega) (fun c hc => by rw [zup_n hc, zup_n hc, zup_n hc, zup_n hc, zup_n hc]; exact g1 c hc) (by rw [zup_b (by omega), zup_b (by omega), zup_b (by omega), zup_b (by omega), zup_b (by omega)]; exact g2) (fun u hu => by rw [zup_b (by omega), zup_b (by omega), zup_b (by omega), zup_b (by omega), zup_b (by omega)]; exact g3 u hu) (fun i hi => ?_)
            by_cases e : i = a
            · subst e
              refine ⟨?_, ?_, ?_, ?_, ?_⟩
              · rw [zup_b (by omega), zup_b (by omega), zup_b (by omega), zup_b (by omega), zup_a]
              · rw [zup_b (by omega), zup_b (by omega), zup_b (by omega), zup_a]
              · rw [zup_b (by omega), zup_b (by omega), zup_a]
              · rw [zup_b (by omega), zup_a]
              · rw [zup_a]
            · obtain ⟨d1, d2, d3, d4, d5⟩ := g4 i (by omega)
              refine ⟨?_, ?_, ?_, ?_, ?_⟩
              · rw [zup_b (by omega), zup_b (by omega), zup_b (by omega), zup_b (by omega), zup_b (by omega)]; exact d1
              · rw [zup_b (by omega), zup_b (by omega), zup_b (by omega), zup_b (by omega), zup_b (by omega)]; exact d2
              · rw [zup_b (by omega), zup_b (by omega), zup_b (by omega), zup_b (by omega), zup_b (by omega)]; exact d3
              · rw [zup_b (by omega), zup_b (by omega), zup_b (by omega), zup_b (by omega), zup_b (by omega)]; exact d4
              · rw [zup_b (by omega), zup_b (by omega), zup_b (by omega), zup_b (by omega), zup_b (by omega)]; exact d5
      exact loop 10 0 _ (by omega) (fun c hc => zup_n hc) zup_a (fun u hu => zup_b (by omega)) (fun i hi => absurd hi (by omega))
    exact ⟨key none rfl, key _ rfl⟩
  refine zV_of (ls := [some (.ref 47), none, none]) (by decide) rfl rfl ?_
  refine za_aload_n (pc := 0) dX7_keep_0 rfl ?_
  refine za_getI (pc := 1) dX7_keep_1 lk_X7_95 rfl rfl ?_
  refine za_bipush (pc := 4) (20) dX7_keep_4 (by decide) ?_
  rw [hm]
  refine za_icmp_ne (pc := 6) 49 dX7_keep_6 (by decide) (fun c6 => ?_) (fun c6 => ?_)
  · have e20 : m ≠ 20 := fun e => c6 (by rw [e]; rfl)
    have ep : pushN m = m + 1 := if_neg e20
    refine (tail m σ (by omega) ep hm (fun _ _ _ => rfl) (fun _ _ => rfl) (fun c' k hk => ?_) (fun c' => ?_)).1
    · unfold pushH
      rw [if_neg e20]
      simp only [if_pos (show k ≤ m by omega)]
      exact hs k hk
    · unfold pushH
      rw [if_neg e20]
      simp only [if_pos (Nat.le_refl m)]
  · have e20 : m = 20 := (nI_eq (by omega) (by decide)).mp c6
    subst e20
    refine za_iconst (pc := 9) (0) dX7_keep_9 (by decide) ?_
    refine za_is1n (pc := 10) dX7_keep_10 rfl ?_
    have loop : ∀ (q k : Nat) (σ1 : zSt), k + q = 969 → (∀ c, c ≠ 56 → σ1 c = σ c) → (∀ u, u < k → σ1 56 u = σ 56 (u + 51)) → (∀ u, k ≤ u → σ1 56 u = σ 56 u) → zA (zZ mX7_keep (zQV SH (fun t => (∀ c, c ≠ 47 → c ≠ 56 → t c = σ c) ∧ (∀ i, i ≠ 9 → i ≠ 14 → t 47 i = σ 47 i) ∧ t 47 14 = 0 ∧ t 47 9 = nI (pushN 20) ∧ ∀ c' k, k < pushN 20 → Snap t k (pushH 20 H c' k)))) mX7_keep none 0 0 11 [some (.ref 47), some (.int (nI k)), none] [] SH σ1 := by
      intro q
      induction q with
      | zero =>
        intro k σ1 hk g1 g2 g3
        refine za_iload_n (pc := 11) dX7_keep_11 rfl ?_
        refine za_sipush (pc := 12) (969) dX7_keep_12 (by decide) ?_
        refine za_icmp_ge (pc := 15) 39 dX7_keep_15 (by decide) (fun c => ?_) (fun c => ?_)
        · refine za_aload_n (pc := 39) dX7_keep_39 rfl ?_
          refine za_dup (pc := 40) dX7_keep_40 rfl ?_
          refine za_getI (pc := 41) dX7_keep_41 lk_X7_95 rfl rfl ?_
          refine za_iconst (pc := 44) (1) dX7_keep_44 (by decide) ?_
          refine za_isub (pc := 45) dX7_keep_45 ?_
          refine za_putI (pc := 46) dX7_keep_46 lp_X7_95 rfl rfl ?_
          have ek : k = 969 := by omega
          subst ek
          rw [g1 47 (by decide), hm, show nI 20 - 1 = nI 19 from rfl]
          refine (tail 19 _ (by decide) rfl zup_a (fun c h47 h56 => by rw [zup_n h47, g1 c h56]) (fun i h9 => by rw [zup_b h9, g1 47 (by decide)]) (fun c' k hk => ?_) (fun c' => ?_)).2
          · have eH : pushH 20 H c' k = H (k + 1) := by
              unfold pushH
              rw [if_pos rfl]
              simp only [if_pos (show k < 20 by omega)]
            rw [eH]
            exact Snap_cong (hs (k + 1) (by omega)) (ho.2 (k + 1) (by omega)).1 (fun u hu => by rw [zup_n (by decide), g2 _ (by omega)]; congr 1; omega)
          · unfold pushH
            rw [if_pos rfl]
            simp
        · exact absurd (nI_le (a := 969) (b := k) (by omega) (by omega)) c
      | succ q ih =>
        intro k σ1 hk g1 g2 g3
        refine za_iload_n (pc := 11) dX7_keep_11 rfl ?_
        refine za_sipush (pc := 12) (969) dX7_keep_12 (by decide) ?_
        refine za_icmp_ge (pc := 15) 39 dX7_keep_15 (by decide) (fun c => ?_) (fun c => ?_)
        · exact absurd c (nI_ge (a := k) (b := 969) (by omega) (by omega))
        · have e51 : nI k + 51 = nI (k + 51) := by
            show nI k + nI 51 = _
            rw [nI_add]
          refine za_aload_n (pc := 18) dX7_keep_18 rfl ?_
          refine za_getR (pc := 19) dX7_keep_19 lk_X7_34 rfl rfl ?_
          refine za_iload_n (pc := 22) dX7_keep_22 rfl ?_
          refine za_aload_n (pc := 23) dX7_keep_23 rfl ?_
          refine za_getR (pc := 24) dX7_keep_24 lk_X7_34 rfl rfl ?_
          refine za_iload_n (pc := 27) dX7_keep_27 rfl ?_
          refine za_bipush (pc := 28) (51) dX7_keep_28 (by decide) ?_
          refine za_iadd (pc := 30) dX7_keep_30 ?_
          rw [e51]
          refine za_iald (pc := 31) dX7_keep_31 rfl (vp_in_nI (show k + 51 < 1020 by omega) (by decide)) ?_
          refine za_iast (pc := 32) dX7_keep_32 rfl (vp_in_nI (show k < 1020 by omega) (by decide)) ?_
          refine za_ii1 (pc := 33) (1) dX7_keep_33 (by decide) rfl ?_
          refine za_goto (pc := 36) 11 dX7_keep_36 (by decide) ?_
          rw [nI_1, nI_clamp (show k + 51 < 2 ^ 31 by omega), nI_clamp (show k < 2 ^ 31 by omega), g3 (k + 51) (by omega)]
          refine ih (k + 1) _ (by omega) (fun c hc => by rw [zup_n hc]; exact g1 c hc) (fun u hu => ?_) (fun u hu => by rw [zup_b (by omega)]; exact g3 u (by omega))
          by_cases e : u = k
          · rw [e, zup_a]
          · rw [zup_b e]; exact g2 u (by omega)
    exact loop 969 0 σ (by omega) (fun _ _ => rfl) (fun u hu => absurd hu (by omega)) (fun _ _ => rfl)
