theorem tX6_copy {σ : zSt} {ss : Shs} {r i t j n : Int32} (h : XS σ ss) (ho : SO ss) : zI mX6_copy [.ref 0, .int r, .int i, .int t, .int j, .int n] SH σ (fun x u => x = (spCopy r i t j n ss).1 ∧ XS u (spCopy r i t j n ss).2 ∧ ∀ c, c < 35 ∨ 47 ≤ c → u c = σ c) := by
  refine zI_of (ls := [some (.ref 0), some (.int r), some (.int i), some (.int t), some (.int j), some (.int n), none, none]) (by decide) rfl rfl ?_
  refine za_iload_n (pc := 0) dX6_copy_0 rfl ?_
  refine za_cS1i (pc := 1) (μ' := mX6_isSheet) dX6_copy_1 c_X6_55 rfl ⟨rfl, rfl⟩ ⟨rfl, rfl⟩ rfl rfl rfl (tX6_isSheet) (fun x_1 t_1 h_1 => ?_)
  obtain ⟨rfl, h9⟩ := h_1
  have h9 := h9.symm
  subst h9
  by_cases h1 : isSh r ∧ isSh t
  · obtain ⟨h1r, h1t⟩ := id h1
    rw [if_pos h1r]
    refine za_if_eq (pc := 4) 14 dX6_copy_4 (by decide) (fun c4 => ?_) (fun c4 => ?_)
    · exact absurd c4 (by decide)
    refine za_iload_n (pc := 7) dX6_copy_7 rfl ?_
    refine za_cS1i (pc := 8) (μ' := mX6_isSheet) dX6_copy_8 c_X6_55 rfl ⟨rfl, rfl⟩ ⟨rfl, rfl⟩ rfl rfl rfl (tX6_isSheet) (fun x_8 t_8 h_8 => ?_)
    obtain ⟨rfl, h9⟩ := h_8
    have h9 := h9.symm
    subst h9
    rw [if_pos h1t]
    refine za_if_ne (pc := 11) 16 dX6_copy_11 (by decide) (fun c11 => ?_) (fun c11 => ?_)
    · obtain ⟨a, ha, rfl⟩ := isSh_ix h1r
      obtain ⟨b, hb, rfl⟩ := isSh_ix h1t
      have ea : (nI a).toNatClampNeg = a := nI_clamp (by omega)
      have eb : (nI b).toNatClampNeg = b := nI_clamp (by omega)
      obtain ⟨k1, k2, k3⟩ := h a ha
      obtain ⟨l1, l2, l3⟩ := h b hb
      have hsa := (ho a ha).1
      have hsb := (ho b hb).1
      have hSa := SHb ha
      have hSb := SHb hb
      have oa : zokv SH.length (.ref (35 + 2 * a)) = true := zokR (by omega)
      have ob : zokv SH.length (.ref (35 + 2 * b)) = true := zokR (by omega)
      have oa' : zokv SH.length (.ref (36 + 2 * a)) = true := zokR (by omega)
      refine za_aload_n (pc := 16) dX6_copy_16 rfl ?_
      refine za_getR (pc := 17) dX6_copy_17 lk_X6_11 rfl rfl ?_
      refine za_iload_n (pc := 20) dX6_copy_20 rfl ?_
      refine za_aald (pc := 21) dX6_copy_21 rfl (vp_in_nI ha (by decide)) (SHa ha) ?_
      refine za_as6 (pc := 22) dX6_copy_22 rfl ?_
      refine za_aload_n (pc := 24) dX6_copy_24 rfl ?_
      refine za_getR (pc := 25) dX6_copy_25 lk_X6_11 rfl rfl ?_
      refine za_iload_n (pc := 28) dX6_copy_28 rfl ?_
      refine za_aald (pc := 29) dX6_copy_29 rfl (vp_in_nI hb (by decide)) (SHa hb) ?_
      refine za_as7 (pc := 30) dX6_copy_30 rfl ?_
      refine za_aload (pc := 32) dX6_copy_32 rfl ?_
      refine za_cV0i (pc := 34) (μ' := mX4_isMissing) dX6_copy_34 c_X6_63 hSa rfl rfl ⟨rfl, rfl⟩ ⟨rfl, rfl⟩ rfl (by simp [zokS, zokI, zokR, oa, ob]) rfl (tX4_isMissing ha) (fun x_34 t_34 h_34 => ?_)
      obtain ⟨rfl, h9⟩ := h_34
      have h9 := h9.symm
      subst h9
      by_cases hma : ss.1 a = -1
      · rw [if_pos (k1.trans hma)]
        refine za_if_ne (pc := 37) 48 dX6_copy_37 (by decide) (fun c37 => ?_) (fun c37 => ?_)
        · refine za_bipush (pc := 48) (-11) dX6_copy_48 (by decide) ?_
          refine za_ri (pc := 50) dX6_copy_50 rfl rfl rfl ?_
          rw [spCopy, if_pos h1, ea, eb, if_pos (Or.inl hma)]
          exact ⟨rfl, h, fun _ _ => rfl⟩
        · exact absurd c37 (by decide)
      · rw [if_neg (fun q => hma (k1.symm.trans q))]
        refine za_if_ne (pc := 37) 48 dX6_copy_37 (by decide) (fun c37 => ?_) (fun c37 => ?_)
        · exact absurd rfl c37
        refine za_aload (pc := 40) dX6_copy_40 rfl ?_
        refine za_cV0i (pc := 42) (μ' := mX4_isMissing) dX6_copy_42 c_X6_63 hSb rfl rfl ⟨rfl, rfl⟩ ⟨rfl, rfl⟩ rfl (by simp [zokS, zokI, zokR, oa, ob]) rfl (tX4_isMissing hb) (fun x_42 t_42 h_42 => ?_)
        obtain ⟨rfl, h9⟩ := h_42
        have h9 := h9.symm
        subst h9
        by_cases hmb : ss.1 b = -1
        · rw [if_pos (l1.trans hmb)]
          refine za_if_eq (pc := 45) 51 dX6_copy_45 (by decide) (fun c45 => ?_) (fun c45 => ?_)
          · exact absurd c45 (by decide)
          · refine za_bipush (pc := 48) (-11) dX6_copy_48 (by decide) ?_
            refine za_ri (pc := 50) dX6_copy_50 rfl rfl rfl ?_
            rw [spCopy, if_pos h1, ea, eb, if_pos (Or.inr hmb)]
            exact ⟨rfl, h, fun _ _ => rfl⟩
        · rw [if_neg (fun q => hmb (l1.symm.trans q))]
          have hmm : ¬ (ss.1 a = -1 ∨ ss.1 b = -1) := fun q => q.elim hma hmb
          refine za_if_eq (pc := 45) 51 dX6_copy_45 (by decide) (fun c45 => ?_) (fun c45 => ?_)
          · refine za_aload (pc := 51) dX6_copy_51 rfl ?_
            refine za_getI (pc := 53) dX6_copy_53 lk_X6_74 hSa rfl ?_
            refine za_aload (pc := 56) dX6_copy_56 rfl ?_
            refine za_getI (pc := 58) dX6_copy_58 lk_X6_74 hSb rfl ?_
            refine za_icmp_eq (pc := 61) 67 dX6_copy_61 (by decide) (fun c61 => ?_) (fun c61 => ?_)
            · rw [k1, l1] at c61
              refine za_aload (pc := 67) dX6_copy_67 rfl ?_
              refine za_iload_n (pc := 69) dX6_copy_69 rfl ?_
              refine za_iload (pc := 70) dX6_copy_70 rfl ?_
              refine za_cV2i (pc := 72) (μ' := mX4_hasPlaces) dX6_copy_72 c_X6_67 hSa rfl rfl ⟨rfl, rfl⟩ ⟨rfl, rfl⟩ rfl (by simp [zokS, zokI, zokR, oa, ob]) rfl (tX4_hasPlaces ha k2 hsa) (fun x_72 t_72 h_72 => ?_)
              obtain ⟨rfl, h9⟩ := h_72
              have h9 := h9.symm
              subst h9
              by_cases hpa : 0 ≤ i.toInt ∧ 0 ≤ n.toInt ∧ i.toInt + n.toInt ≤ ss.2.1 a
              · rw [if_pos hpa]
                refine za_if_eq (pc := 75) 90 dX6_copy_75 (by decide) (fun c75 => ?_) (fun c75 => ?_)
                · exact absurd c75 (by decide)
                refine za_aload (pc := 78) dX6_copy_78 rfl ?_
                refine za_iload (pc := 80) dX6_copy_80 rfl ?_
                refine za_iload (pc := 82) dX6_copy_82 rfl ?_
                refine za_cV2i (pc := 84) (μ' := mX4_hasPlaces) dX6_copy_84 c_X6_67 hSb rfl rfl ⟨rfl, rfl⟩ ⟨rfl, rfl⟩ rfl (by simp [zokS, zokI, zokR, oa, ob]) rfl (tX4_hasPlaces hb l2 hsb) (fun x_84 t_84 h_84 => ?_)
                obtain ⟨rfl, h9⟩ := h_84
                have h9 := h9.symm
                subst h9
                by_cases hpb : 0 ≤ j.toInt ∧ 0 ≤ n.toInt ∧ j.toInt + n.toInt ≤ ss.2.1 b
                · rw [if_pos hpb]
                  refine za_if_ne (pc := 87) 93 dX6_copy_87 (by decide) (fun c87 => ?_) (fun c87 => ?_)
                  · have ei : (i.toNatClampNeg : Int) = i.toInt := by
                      obtain ⟨q, hq, rfl⟩ := vp_in_of (x := i) (n := 17) (vp_in_iff.mpr (by omega)) (by omega)
                      rw [nI_clamp (by omega), nI_toInt (by omega)]
                    have ejj : (j.toNatClampNeg : Int) = j.toInt := by
                      obtain ⟨q, hq, rfl⟩ := vp_in_of (x := j) (n := 17) (vp_in_iff.mpr (by omega)) (by omega)
                      rw [nI_clamp (by omega), nI_toInt (by omega)]
                    have en : (n.toNatClampNeg : Int) = n.toInt := by
                      obtain ⟨q, hq, rfl⟩ := vp_in_of (x := n) (n := 17) (vp_in_iff.mpr (by omega)) (by omega)
                      rw [nI_clamp (by omega), nI_toInt (by omega)]
                    have e0 : (0 : Int32).toInt = 0 := rfl
                    refine za_aload (pc := 93) dX6_copy_93 rfl ?_
                    refine za_getR (pc := 95) dX6_copy_95 lk_X6_78 hSa rfl ?_
                    refine za_iload_n (pc := 98) dX6_copy_98 rfl ?_
                    refine za_aload (pc := 99) dX6_copy_99 rfl ?_
                    refine za_getR (pc := 101) dX6_copy_101 lk_X6_78 hSb rfl ?_
                    refine za_iload (pc := 104) dX6_copy_104 rfl ?_
                    refine za_iload (pc := 106) dX6_copy_106 rfl ?_
                    refine za_copy (pc := 108) dX6_copy_108 ac_X6_82 (SHr ha) (SHr hb) (by rw [fa_lt, e0]; omega) (by rw [fa_lt, e0]; omega) (by rw [fa_lt, e0]; omega) (by omega) (by omega) (by decide) (by decide) ?_
                    refine za_iconst (pc := 111) (0) dX6_copy_111 (by decide) ?_
                    refine za_ri (pc := 112) dX6_copy_112 rfl rfl rfl ?_
                    rw [spCopy, if_pos h1, ea, eb, if_neg hmm, if_pos c61, if_pos ⟨hpa, hpb⟩]
                    refine ⟨rfl, XS_frame h hb (fun q hq => ?_), fun c hc => zrow_n (by omega)⟩
                    unfold va_cpy
                    by_cases hq2 : j.toNatClampNeg ≤ q ∧ q < j.toNatClampNeg + n.toNatClampNeg
                    · rw [if_pos hq2, if_pos hq2, k3 _ (by omega)]
                    · rw [if_neg hq2, if_neg hq2, l3 q hq]
                  · exact absurd c87 (by decide)
                · rw [if_neg hpb]
                  refine za_if_ne (pc := 87) 93 dX6_copy_87 (by decide) (fun c87 => ?_) (fun c87 => ?_)
                  · exact absurd rfl c87
                  · refine za_bipush (pc := 90) (-12) dX6_copy_90 (by decide) ?_
                    refine za_ri (pc := 92) dX6_copy_92 rfl rfl rfl ?_
                    rw [spCopy, if_pos h1, ea, eb, if_neg hmm, if_pos c61, if_neg (fun q => hpb q.2)]
                    exact ⟨rfl, h, fun _ _ => rfl⟩
              · rw [if_neg hpa]
                refine za_if_eq (pc := 75) 90 dX6_copy_75 (by decide) (fun c75 => ?_) (fun c75 => ?_)
                · refine za_bipush (pc := 90) (-12) dX6_copy_90 (by decide) ?_
                  refine za_ri (pc := 92) dX6_copy_92 rfl rfl rfl ?_
                  rw [spCopy, if_pos h1, ea, eb, if_neg hmm, if_pos c61, if_neg (fun q => hpa q.1)]
                  exact ⟨rfl, h, fun _ _ => rfl⟩
                · exact absurd rfl c75
            · rw [k1, l1] at c61
              refine za_bipush (pc := 64) (-14) dX6_copy_64 (by decide) ?_
              refine za_ri (pc := 66) dX6_copy_66 rfl rfl rfl ?_
              rw [spCopy, if_pos h1, ea, eb, if_neg hmm, if_neg c61]
              exact ⟨rfl, h, fun _ _ => rfl⟩
          · exact absurd rfl c45
    · exact absurd c11 (by decide)
  · by_cases h1r : 0 ≤ r ∧ r < 6
    · rw [if_pos h1r]
      refine za_if_eq (pc := 4) 14 dX6_copy_4 (by decide) (fun c4 => ?_) (fun c4 => ?_)
      · exact absurd c4 (by decide)
      refine za_iload_n (pc := 7) dX6_copy_7 rfl ?_
      refine za_cS1i (pc := 8) (μ' := mX6_isSheet) dX6_copy_8 c_X6_55 rfl ⟨rfl, rfl⟩ ⟨rfl, rfl⟩ rfl rfl rfl (tX6_isSheet) (fun x_8 t_8 h_8 => ?_)
      obtain ⟨rfl, h9⟩ := h_8
      have h9 := h9.symm
      subst h9
      have h1t : ¬ (0 ≤ t ∧ t < 6) := fun q => h1 ⟨h1r, q⟩
      rw [if_neg h1t]
      refine za_if_ne (pc := 11) 16 dX6_copy_11 (by decide) (fun c11 => ?_) (fun c11 => ?_)
      · exact absurd rfl c11
      · refine za_iconst (pc := 14) (-1) dX6_copy_14 (by decide) ?_
        refine za_ri (pc := 15) dX6_copy_15 rfl rfl rfl ?_
        rw [spCopy, if_neg h1]
        exact ⟨rfl, h, fun _ _ => rfl⟩
    · rw [if_neg h1r]
      refine za_if_eq (pc := 4) 14 dX6_copy_4 (by decide) (fun c4 => ?_) (fun c4 => ?_)
      · refine za_iconst (pc := 14) (-1) dX6_copy_14 (by decide) ?_
        refine za_ri (pc := 15) dX6_copy_15 rfl rfl rfl ?_
        rw [spCopy, if_neg h1]
        exact ⟨rfl, h, fun _ _ => rfl⟩
      · exact absurd rfl c4
