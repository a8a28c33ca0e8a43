theorem z64add (a b c : Int32) : (c.toInt64 < a.toInt64 + b.toInt64) ↔ c.toInt < a.toInt + b.toInt := by
  have ha := fb_rng a
  have hb := fb_rng b
  rw [Int64.lt_iff_toInt_lt, Int64.toInt_add, Int32.toInt_toInt64, Int32.toInt_toInt64, Int32.toInt_toInt64]
  have e : (a.toInt + b.toInt).bmod (2 ^ 64) = a.toInt + b.toInt := by rw [Int.bmod_def]; split <;> omega
  rw [e]
theorem m16b {j a i : Nat} (hj : j < 6) (ha : a ≤ 16) (hi : i ≤ 16) : (16 : Int32) * nI j + nI a + nI i = nI (16 * j + (a + i)) := by
  show nI 16 * nI j + nI a + nI i = _
  rw [pk_mul, nI_add, nI_add, Nat.add_assoc]
theorem tX7_copy {σ : zSt} {ss : Shs} {r i t j n : Int32} (h : MS σ ss) (ho : SO ss) : zI mX7_copy [.ref 47, .int r, .int i, .int t, .int j, .int n] SH σ (fun x u => x = (spCopy r i t j n ss).1 ∧ MS u (spCopy r i t j n ss).2 ∧ FMs u σ) := by
  have e0 : (0 : Int32).toInt = 0 := rfl
  refine zI_of (ls := [some (.ref 47), some (.int r), some (.int i), some (.int t), some (.int j), some (.int n), none]) (by decide) rfl rfl ?_
  refine za_iload_n (pc := 0) dX7_copy_0 rfl ?_
  refine za_cS1i (pc := 1) (μ' := mX7_isSheet) dX7_copy_1 c_X7_77 rfl ⟨rfl, rfl⟩ ⟨rfl, rfl⟩ rfl rfl rfl (tX7_isSheet) (fun x_1 t_1 h_1 => ?_)
  obtain ⟨rfl, h9⟩ := h_1
  have h9 := h9.symm
  subst h9
  by_cases h1 : isSh r ∧ isSh t
  · obtain ⟨h1r, h1t⟩ := id h1
    rw [if_pos h1r]
    refine za_if_eq (pc := 4) 14 dX7_copy_4 (by decide) (fun c4 => ?_) (fun c4 => ?_)
    · exact absurd c4 (by decide)
    refine za_iload_n (pc := 7) dX7_copy_7 rfl ?_
    refine za_cS1i (pc := 8) (μ' := mX7_isSheet) dX7_copy_8 c_X7_77 rfl ⟨rfl, rfl⟩ ⟨rfl, rfl⟩ rfl rfl rfl (tX7_isSheet) (fun x_8 t_8 h_8 => ?_)
    obtain ⟨rfl, h9⟩ := h_8
    have h9 := h9.symm
    subst h9
    rw [if_pos h1t]
    refine za_if_ne (pc := 11) 16 dX7_copy_11 (by decide) (fun c11 => ?_) (fun c11 => ?_)
    · obtain ⟨a, ha, rfl⟩ := isSh_ix h1r
      obtain ⟨b, hb, rfl⟩ := isSh_ix h1t
      have ea : (nI a).toNatClampNeg = a := nI_clamp (by omega)
      have eb : (nI b).toNatClampNeg = b := nI_clamp (by omega)
      have va : vp_in (nI a) 6 := vp_in_nI ha (by decide)
      have vb : vp_in (nI b) 6 := vp_in_nI hb (by decide)
      obtain ⟨k1, k2, k3⟩ := h a ha
      obtain ⟨l1, l2, l3⟩ := h b hb
      have hsa := (ho a ha).1
      have hsb := (ho b hb).1
      refine za_aload_n (pc := 16) dX7_copy_16 rfl ?_
      refine za_getR (pc := 17) dX7_copy_17 lk_X7_7 rfl rfl ?_
      refine za_iload_n (pc := 20) dX7_copy_20 rfl ?_
      refine za_iald (pc := 21) dX7_copy_21 rfl va ?_
      rw [ea, k1]
      refine za_if_lt (pc := 22) 34 dX7_copy_22 (by decide) (fun c22 => ?_) (fun c22 => ?_)
      · refine za_bipush (pc := 34) (-11) dX7_copy_34 (by decide) ?_
        refine za_ri (pc := 36) dX7_copy_36 rfl rfl rfl ?_
        rw [spCopy, if_pos h1, ea, eb, if_pos (Or.inl ((sk_neg ho ha).mp c22))]
        exact ⟨rfl, h, fun _ _ _ _ _ => rfl⟩
      have hma : ¬ ss.1 a = -1 := fun q => c22 ((sk_neg ho ha).mpr q)
      refine za_aload_n (pc := 25) dX7_copy_25 rfl ?_
      refine za_getR (pc := 26) dX7_copy_26 lk_X7_7 rfl rfl ?_
      refine za_iload_n (pc := 29) dX7_copy_29 rfl ?_
      refine za_iald (pc := 30) dX7_copy_30 rfl vb ?_
      rw [eb, l1]
      refine za_if_ge (pc := 31) 37 dX7_copy_31 (by decide) (fun c31 => ?_) (fun c31 => ?_)
      · have hmb : ¬ ss.1 b = -1 := fun q => absurd c31 (by rw [q]; decide)
        have hmm : ¬ (ss.1 a = -1 ∨ ss.1 b = -1) := fun q => q.elim hma hmb
        refine za_aload_n (pc := 37) dX7_copy_37 rfl ?_
        refine za_getR (pc := 38) dX7_copy_38 lk_X7_7 rfl rfl ?_
        refine za_iload_n (pc := 41) dX7_copy_41 rfl ?_
        refine za_iald (pc := 42) dX7_copy_42 rfl va ?_
        refine za_aload_n (pc := 43) dX7_copy_43 rfl ?_
        refine za_getR (pc := 44) dX7_copy_44 lk_X7_7 rfl rfl ?_
        refine za_iload_n (pc := 47) dX7_copy_47 rfl ?_
        refine za_iald (pc := 48) dX7_copy_48 rfl vb ?_
        rw [ea, k1, eb, l1]
        refine za_icmp_eq (pc := 49) 55 dX7_copy_49 (by decide) (fun c49 => ?_) (fun c49 => ?_)
        · have bad : ∀ hp : ¬ ((0 ≤ i.toInt ∧ 0 ≤ n.toInt ∧ i.toInt + n.toInt ≤ ss.2.1 a) ∧ (0 ≤ j.toInt ∧ 0 ≤ n.toInt ∧ j.toInt + n.toInt ≤ ss.2.1 b)), zA (zZ mX7_copy (zQI SH (fun x u => x = (spCopy (nI a) i (nI b) j n ss).1 ∧ MS u (spCopy (nI a) i (nI b) j n ss).2 ∧ FMs u σ))) mX7_copy none 0 0 104 [some (.ref 47), some (.int (nI a)), some (.int i), some (.int (nI b)), some (.int j), some (.int n), none] [] SH σ := by
            intro hp
            refine za_bipush (pc := 104) (-12) dX7_copy_104 (by decide) ?_
            refine za_ri (pc := 106) dX7_copy_106 rfl rfl rfl ?_
            rw [spCopy, if_pos h1, ea, eb, if_neg hmm, if_pos c49, if_neg hp]
            exact ⟨rfl, h, fun _ _ _ _ _ => rfl⟩
          refine za_iload (pc := 55) dX7_copy_55 rfl ?_
          refine za_if_lt (pc := 57) 104 dX7_copy_57 (by decide) (fun c57 => ?_) (fun c57 => ?_)
          · exact bad (by rw [fa_lt, e0] at c57; omega)
          refine za_iload_n (pc := 60) dX7_copy_60 rfl ?_
          refine za_if_lt (pc := 61) 104 dX7_copy_61 (by decide) (fun c61 => ?_) (fun c61 => ?_)
          · exact bad (by rw [fa_lt, e0] at c61; omega)
          refine za_iload (pc := 64) dX7_copy_64 rfl ?_
          refine za_if_lt (pc := 66) 104 dX7_copy_66 (by decide) (fun c66 => ?_) (fun c66 => ?_)
          · exact bad (by rw [fa_lt, e0] at c66; omega)
          rw [fa_lt, e0] at c57 c61 c66
          refine za_iload_n (pc := 69) dX7_copy_69 rfl ?_
          refine za_i2l (pc := 70) dX7_copy_70 ?_
          refine za_iload (pc := 71) dX7_copy_71 rfl ?_
          refine za_i2l (pc := 73) dX7_copy_73 ?_
          refine za_ladd (pc := 74) dX7_copy_74 ?_
          refine za_aload_n (pc := 75) dX7_copy_75 rfl ?_
          refine za_getR (pc := 76) dX7_copy_76 lk_X7_13 rfl rfl ?_
          refine za_iload_n (pc := 79) dX7_copy_79 rfl ?_
          refine za_iald (pc := 80) dX7_copy_80 rfl va ?_
          refine za_i2l (pc := 81) dX7_copy_81 ?_
          refine za_lcmp (pc := 82) dX7_copy_82 ?_
          rw [ea, k2]
          refine za_if_gt (pc := 83) 104 dX7_copy_83 (by decide) (fun c83 => ?_) (fun c83 => ?_)
          · rw [lg_gt, z64add, nI_toInt (by omega)] at c83
            exact bad (by omega)
          rw [lg_gt, z64add, nI_toInt (by omega)] at c83
          refine za_iload (pc := 86) dX7_copy_86 rfl ?_
          refine za_i2l (pc := 88) dX7_copy_88 ?_
          refine za_iload (pc := 89) dX7_copy_89 rfl ?_
          refine za_i2l (pc := 91) dX7_copy_91 ?_
          refine za_ladd (pc := 92) dX7_copy_92 ?_
          refine za_aload_n (pc := 93) dX7_copy_93 rfl ?_
          refine za_getR (pc := 94) dX7_copy_94 lk_X7_13 rfl rfl ?_
          refine za_iload_n (pc := 97) dX7_copy_97 rfl ?_
          refine za_iald (pc := 98) dX7_copy_98 rfl vb ?_
          refine za_i2l (pc := 99) dX7_copy_99 ?_
          refine za_lcmp (pc := 100) dX7_copy_100 ?_
          rw [eb, l2]
          refine za_if_le (pc := 101) 107 dX7_copy_101 (by decide) (fun c101 => ?_) (fun c101 => ?_)
          · rw [lg_le, ← Int64.not_lt, z64add, nI_toInt (by omega)] at c101
            obtain ⟨i', hi', rfl⟩ := vp_in_of (x := i) (n := 17) (vp_in_iff.mpr (by omega)) (by omega)
            obtain ⟨j', hj', rfl⟩ := vp_in_of (x := j) (n := 17) (vp_in_iff.mpr (by omega)) (by omega)
            obtain ⟨n', hn', rfl⟩ := vp_in_of (x := n) (n := 17) (vp_in_iff.mpr (by omega)) (by omega)
            rw [nI_toInt (show i' < 2 ^ 31 by omega)] at c83 c61
            rw [nI_toInt (show j' < 2 ^ 31 by omega)] at c101 c66
            rw [nI_toInt (show n' < 2 ^ 31 by omega)] at c101 c83 c57
            have esp : spCopy (nI a) (nI i') (nI b) (nI j') (nI n') ss = (0, (ss.1, ss.2.1, va_up ss.2.2 b (va_cpy (ss.2.2 a) (ss.2.2 b) i' j' n'))) := by
              rw [spCopy, if_pos h1, ea, eb, if_neg hmm, if_pos c49, if_pos (by rw [nI_toInt (show i' < 2 ^ 31 by omega), nI_toInt (show j' < 2 ^ 31 by omega), nI_toInt (show n' < 2 ^ 31 by omega)]; omega), nI_clamp (by omega), nI_clamp (by omega), nI_clamp (by omega)]
            rw [esp]
            refine za_iconst (pc := 107) (0) dX7_copy_107 (by decide) ?_
            refine za_is6 (pc := 108) dX7_copy_108 rfl ?_
            have loop2 : ∀ (q k : Nat) (σ1 : zSt), k + q = n' → (∀ c, c ≠ 50 → c ≠ 58 → σ1 c = σ c) → (∀ u, u < n' → σ1 58 u = σ 50 (16 * a + (i' + u))) → (∀ u, u < k → σ1 50 (16 * b + (j' + u)) = σ 50 (16 * a + (i' + u))) → (∀ u, (u < 16 * b + j' ∨ 16 * b + j' + k ≤ u) → σ1 50 u = σ 50 u) → zA (zZ mX7_copy (zQI SH (fun x u => x = (0 : Int32) ∧ MS u (ss.1, ss.2.1, va_up ss.2.2 b (va_cpy (ss.2.2 a) (ss.2.2 b) i' j' n')) ∧ FMs u σ))) mX7_copy none 0 0 147 [some (.ref 47), some (.int (nI a)), some (.int (nI i')), some (.int (nI b)), some (.int (nI j')), some (.int (nI n')), some (.int (nI k))] [] SH σ1 := by
              intro q
              induction q with
              | zero =>
                intro k σ1 hk f1 f2 f3 f4
                refine za_iload (pc := 147) dX7_copy_147 rfl ?_
                refine za_iload (pc := 149) dX7_copy_149 rfl ?_
                refine za_icmp_ge (pc := 151) 182 dX7_copy_151 (by decide) (fun c => ?_) (fun c => ?_)
                · refine za_iconst (pc := 182) (0) dX7_copy_182 (by decide) ?_
                  refine za_ri (pc := 183) dX7_copy_183 rfl rfl rfl ?_
                  refine ⟨rfl, MS_row h hb (f1 48 (by decide) (by decide)) (f1 49 (by decide) (by decide)) (fun u hu => ?_) (fun q u hq hne hu => f4 _ (by omega)), fun c _ _ h5 h8 => f1 c h5 h8⟩
                  unfold va_cpy
                  by_cases hu2 : j' ≤ u ∧ u < j' + n'
                  · rw [if_pos hu2]
                    have := f3 (u - j') (by omega)
                    rw [show 16 * b + (j' + (u - j')) = 16 * b + u by omega] at this
                    rw [this]
                    exact k3 _ (by omega)
                  · rw [if_neg hu2, f4 _ (by omega)]
                    exact l3 u hu
                · exact absurd (nI_le (show n' ≤ k by omega) (by omega)) c
              | succ q ih =>
                intro k σ1 hk f1 f2 f3 f4
                refine za_iload (pc := 147) dX7_copy_147 rfl ?_
                refine za_iload (pc := 149) dX7_copy_149 rfl ?_
                refine za_icmp_ge (pc := 151) 182 dX7_copy_151 (by decide) (fun c => ?_) (fun c => ?_)
                · exact absurd c (nI_ge (show k < n' by omega) (by omega))
                · refine za_aload_n (pc := 154) dX7_copy_154 rfl ?_
                  refine za_getR (pc := 155) dX7_copy_155 lk_X7_16 rfl rfl ?_
                  refine za_bipush (pc := 158) (16) dX7_copy_158 (by decide) ?_
                  refine za_iload_n (pc := 160) dX7_copy_160 rfl ?_
                  refine za_imul (pc := 161) dX7_copy_161 ?_
                  refine za_iload (pc := 162) dX7_copy_162 rfl ?_
                  refine za_iadd (pc := 164) dX7_copy_164 ?_
                  refine za_iload (pc := 165) dX7_copy_165 rfl ?_
                  refine za_iadd (pc := 167) dX7_copy_167 ?_
                  rw [m16b hb (by omega) (by omega)]
                  refine za_aload_n (pc := 168) dX7_copy_168 rfl ?_
                  refine za_getR (pc := 169) dX7_copy_169 lk_X7_40 rfl rfl ?_
                  refine za_iload (pc := 172) dX7_copy_172 rfl ?_
                  refine za_iald (pc := 174) dX7_copy_174 rfl (vp_in_nI (show k < 16 by omega) (by decide)) ?_
                  refine za_iast (pc := 175) dX7_copy_175 rfl (vp_in_nI (show 16 * b + (j' + k) < 96 by omega) (by decide)) ?_
                  refine za_ii6 (pc := 176) (1) dX7_copy_176 (by decide) rfl ?_
                  refine za_goto (pc := 179) 147 dX7_copy_179 (by decide) ?_
                  rw [nI_1, nI_clamp (show k < 2 ^ 31 by omega), nI_clamp (by omega), f2 k (by omega)]
                  refine ih (k + 1) _ (by omega) (fun c h5 h8 => by rw [zup_n h5]; exact f1 c h5 h8) (fun u hu => by rw [zup_n (by decide)]; exact f2 u hu) (fun u hu => ?_) (fun u hu => by rw [zup_b (by omega)]; exact f4 u (by omega))
                  by_cases e : u = k
                  · rw [e, zup_a]
                  · rw [zup_b (by omega)]; exact f3 u (by omega)
            have loop1 : ∀ (q k : Nat) (σ1 : zSt), k + q = n' → (∀ c, c ≠ 58 → σ1 c = σ c) → (∀ u, u < k → σ1 58 u = σ 50 (16 * a + (i' + u))) → zA (zZ mX7_copy (zQI SH (fun x u => x = (0 : Int32) ∧ MS u (ss.1, ss.2.1, va_up ss.2.2 b (va_cpy (ss.2.2 a) (ss.2.2 b) i' j' n')) ∧ FMs u σ))) mX7_copy none 0 0 110 [some (.ref 47), some (.int (nI a)), some (.int (nI i')), some (.int (nI b)), some (.int (nI j')), some (.int (nI n')), some (.int (nI k))] [] SH σ1 := by
              intro q
              induction q with
              | zero =>
                intro k σ1 hk f1 f2
                refine za_iload (pc := 110) dX7_copy_110 rfl ?_
                refine za_iload (pc := 112) dX7_copy_112 rfl ?_
                refine za_icmp_ge (pc := 114) 144 dX7_copy_114 (by decide) (fun c => ?_) (fun c => ?_)
                · refine za_iconst (pc := 144) (0) dX7_copy_144 (by decide) ?_
                  refine za_is6 (pc := 145) dX7_copy_145 rfl ?_
                  exact loop2 n' 0 σ1 (by omega) (fun c _ h8 => f1 c h8) (fun u hu => f2 u (by omega)) (fun u hu => absurd hu (by omega)) (fun u _ => by rw [f1 50 (by decide)])
                · exact absurd (nI_le (show n' ≤ k by omega) (by omega)) c
              | succ q ih =>
                intro k σ1 hk f1 f2
                refine za_iload (pc := 110) dX7_copy_110 rfl ?_
                refine za_iload (pc := 112) dX7_copy_112 rfl ?_
                refine za_icmp_ge (pc := 114) 144 dX7_copy_114 (by decide) (fun c => ?_) (fun c => ?_)
                · exact absurd c (nI_ge (show k < n' by omega) (by omega))
                · refine za_aload_n (pc := 117) dX7_copy_117 rfl ?_
                  refine za_getR (pc := 118) dX7_copy_118 lk_X7_40 rfl rfl ?_
                  refine za_iload (pc := 121) dX7_copy_121 rfl ?_
                  refine za_aload_n (pc := 123) dX7_copy_123 rfl ?_
                  refine za_getR (pc := 124) dX7_copy_124 lk_X7_16 rfl rfl ?_
                  refine za_bipush (pc := 127) (16) dX7_copy_127 (by decide) ?_
                  refine za_iload_n (pc := 129) dX7_copy_129 rfl ?_
                  refine za_imul (pc := 130) dX7_copy_130 ?_
                  refine za_iload_n (pc := 131) dX7_copy_131 rfl ?_
                  refine za_iadd (pc := 132) dX7_copy_132 ?_
                  refine za_iload (pc := 133) dX7_copy_133 rfl ?_
                  refine za_iadd (pc := 135) dX7_copy_135 ?_
                  rw [m16b ha (by omega) (by omega)]
                  refine za_iald (pc := 136) dX7_copy_136 rfl (vp_in_nI (show 16 * a + (i' + k) < 96 by omega) (by decide)) ?_
                  refine za_iast (pc := 137) dX7_copy_137 rfl (vp_in_nI (show k < 16 by omega) (by decide)) ?_
                  refine za_ii6 (pc := 138) (1) dX7_copy_138 (by decide) rfl ?_
                  refine za_goto (pc := 141) 110 dX7_copy_141 (by decide) ?_
                  rw [nI_1, nI_clamp (show k < 2 ^ 31 by omega), nI_clamp (by omega), f1 50 (by decide)]
                  refine ih (k + 1) _ (by omega) (fun c h8 => by rw [zup_n h8]; exact f1 c h8) (fun u hu => ?_)
                  by_cases e : u = k
                  · rw [e, zup_a]
                  · rw [zup_b (by omega)]; exact f2 u (by omega)
            exact loop1 n' 0 σ (by omega) (fun _ _ => rfl) (fun u hu => absurd hu (by omega))
          · rw [lg_le, ← Int64.not_lt, z64add, nI_toInt (by omega)] at c101
            exact bad (by omega)
        · refine za_bipush (pc := 52) (-14) dX7_copy_52 (by decide) ?_
          refine za_ri (pc := 54) dX7_copy_54 rfl rfl rfl ?_
          rw [spCopy, if_pos h1, ea, eb, if_neg hmm, if_neg c49]
          exact ⟨rfl, h, fun _ _ _ _ _ => rfl⟩
      · have hmb : ss.1 b = -1 := (sk_neg ho hb).mp (by rw [fa_lt]; rw [fa_le] at c31; omega)
        refine za_bipush (pc := 34) (-11) dX7_copy_34 (by decide) ?_
        refine za_ri (pc := 36) dX7_copy_36 rfl rfl rfl ?_
        rw [spCopy, if_pos h1, ea, eb, if_pos (Or.inr hmb)]
        exact ⟨rfl, h, fun _ _ _ _ _ => rfl⟩
    · exact absurd c11 (by decide)
  · by_cases h1r : 0 ≤ r ∧ r < 6
    · rw [if_pos h1r]
      refine za_if_eq (pc := 4) 14 dX7_copy_4 (by decide) (fun c4 => ?_) (fun c4 => ?_)
      · exact absurd c4 (by decide)
      refine za_iload_n (pc := 7) dX7_copy_7 rfl ?_
      refine za_cS1i (pc := 8) (μ' := mX7_isSheet) dX7_copy_8 c_X7_77 rfl ⟨rfl, rfl⟩ ⟨rfl, rfl⟩ rfl rfl rfl (tX7_isSheet) (fun x_8 t_8 h_8 => ?_)
      obtain ⟨rfl, h9⟩ := h_8
      have h9 := h9.symm
      subst h9
      have h1t : ¬ (0 ≤ t ∧ t < 6) := fun q => h1 ⟨h1r, q⟩
      rw [if_neg h1t]
      refine za_if_ne (pc := 11) 16 dX7_copy_11 (by decide) (fun c11 => ?_) (fun c11 => ?_)
      · exact absurd rfl c11
      · refine za_iconst (pc := 14) (-1) dX7_copy_14 (by decide) ?_
        refine za_ri (pc := 15) dX7_copy_15 rfl rfl rfl ?_
        rw [spCopy, if_neg h1]
        exact ⟨rfl, h, fun _ _ _ _ _ => rfl⟩
    · rw [if_neg h1r]
      refine za_if_eq (pc := 4) 14 dX7_copy_4 (by decide) (fun c4 => ?_) (fun c4 => ?_)
      · refine za_iconst (pc := 14) (-1) dX7_copy_14 (by decide) ?_
        refine za_ri (pc := 15) dX7_copy_15 rfl rfl rfl ?_
        rw [spCopy, if_neg h1]
        exact ⟨rfl, h, fun _ _ _ _ _ => rfl⟩
      · exact absurd rfl c4
theorem SO_sheet {r kd n : Int32} {ss : Shs} (ho : SO ss) : SO (spSheet r kd n ss).2 := by
  unfold spSheet
  have key : ∀ (j : Nat) (k : Int32) (m : Nat), m ≤ 16 → (k = -1 ∨ k = 0 ∨ k = 1 ∨ k = 2) → SO (shSet ss j k m (fun _ => 0)) := by
    intro j k m hm hk q hq
    by_cases e : q = j
    · subst e
      simp only [shSet, va_up, if_true]
      exact ⟨hm, hk⟩
    · simp only [shSet, va_up, if_neg e]
      exact ho q hq
  split
  · rename_i h1
    split
    · exact key _ _ _ (by omega) (Or.inl rfl)
    · rename_i h2
      split
      · exact ho
      · rename_i h3
        split
        · exact ho
        · rename_i h4
          refine key _ _ _ ?_ (Or.inr ?_)
          · rw [fa_lt] at h3 h4
            have e16 : (16 : Int32).toInt = 16 := rfl
            have e0 : (0 : Int32).toInt = 0 := rfl
            obtain ⟨m, hm, rfl⟩ := vp_in_of (x := n) (n := 17) (vp_in_iff.mpr (by omega)) (by omega)
            rw [nI_clamp (by omega)]
            omega
          · obtain ⟨-, a1, a2⟩ := h1
            rw [fa_le] at a1 a2
            rw [fa_eq] at h2
            have em : (-1 : Int32).toInt = -1 := rfl
            have e2 : (2 : Int32).toInt = 2 := rfl
            rw [fa_eq, fa_eq, fa_eq]
            show kd.toInt = 0 ∨ kd.toInt = 1 ∨ kd.toInt = 2
            omega
  · exact ho
theorem SO_put {r i v : Int32} {ss : Shs} (ho : SO ss) : SO (spPut r i v ss).2 := by
  unfold spPut
  split
  · split
    · exact ho
    · split
      · exact ho
      · exact ho
  · exact ho
theorem SO_copy {r i t j n : Int32} {ss : Shs} (ho : SO ss) : SO (spCopy r i t j n ss).2 := by
  unfold spCopy
  split
  · split
    · exact ho
    · split
      · split
        · exact ho
        · exact ho
      · exact ho
  · exact ho
