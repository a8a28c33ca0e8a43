/-- what a change of the reference's jobs may touch -/
def FMJ (t σ : zSt) : Prop := (∀ c, c < 47 → t c = σ c) ∧ (∀ c, 47 < c → c < 51 → t c = σ c) ∧ (∀ c, 57 ≤ c → t c = σ c) ∧ ∀ i, i ≠ 3 → i ≠ 9 → i ≠ 14 → t 47 i = σ 47 i
theorem tX7_undo {σ : zSt} {m : Nat} {H : Nat → Core} (h : MJ σ m H) (ho : JOk m H) : zI mX7_undo [.ref 47] SH σ (fun x t => (m = 0 ∧ x = -3 ∧ t = σ) ∨ (m ≠ 0 ∧ x = 1 ∧ MJ t (m - 1) H ∧ t 47 14 = 0 ∧ FMJ t σ)) := by
  obtain ⟨⟨c1, c2⟩, hm, hs⟩ := h
  have hm20 := ho.1
  refine zI_of (ls := [some (.ref 47), none, none]) (by decide) rfl rfl ?_
  refine za_aload_n (pc := 0) dX7_undo_0 rfl ?_
  refine za_getI (pc := 1) dX7_undo_1 lk_X7_95 rfl rfl ?_
  rw [hm]
  refine za_if_ne (pc := 4) 10 dX7_undo_4 (by decide) (fun c4 => ?_) (fun c4 => ?_)
  · have hm0 : m ≠ 0 := fun e => c4 (by rw [e]; rfl)
    obtain ⟨p, rfl⟩ : ∃ p, m = p + 1 := ⟨m - 1, by omega⟩
    rw [Nat.add_sub_cancel]
    have hN : cN (H p) ≤ 10 := (ho.2 p (by omega)).1
    obtain ⟨s1, s2⟩ := hs p (by omega)
    refine za_aload_n (pc := 10) dX7_undo_10 rfl ?_
    refine za_dup (pc := 11) dX7_undo_11 rfl ?_
    refine za_getI (pc := 12) dX7_undo_12 lk_X7_95 rfl rfl ?_
    refine za_iconst (pc := 15) (1) dX7_undo_15 (by decide) ?_
    refine za_isub (pc := 16) dX7_undo_16 ?_
    refine za_putI (pc := 17) dX7_undo_17 lp_X7_95 rfl rfl ?_
    refine za_bipush (pc := 20) (51) dX7_undo_20 (by decide) ?_
    refine za_aload_n (pc := 22) dX7_undo_22 rfl ?_
    refine za_getI (pc := 23) dX7_undo_23 lk_X7_95 rfl rfl ?_
    rw [hm, nI_pred, zup_a]
    refine za_imul (pc := 26) dX7_undo_26 ?_
    have e51 : (51 : Int32) * nI p = nI (51 * p) := by
      show nI 51 * nI p = _
      rw [pk_mul]
    rw [e51]
    refine za_is1n (pc := 27) dX7_undo_27 rfl ?_
    refine za_aload_n (pc := 28) dX7_undo_28 rfl ?_
    refine za_aload_n (pc := 29) dX7_undo_29 rfl ?_
    refine za_getR (pc := 30) dX7_undo_30 lk_X7_34 rfl rfl ?_
    refine za_iload_n (pc := 33) dX7_undo_33 rfl ?_
    refine za_iald (pc := 34) dX7_undo_34 rfl (vp_in_nI (show 51 * p < 1020 by omega) (by decide)) ?_
    refine za_putI (pc := 35) dX7_undo_35 lp_X7_91 rfl rfl ?_
    refine za_iconst (pc := 38) (0) dX7_undo_38 (by decide) ?_
    refine za_is2n (pc := 39) dX7_undo_39 rfl ?_
    rw [nI_clamp (by omega), zup_n (by decide), s1]
    have loop : ∀ (q a : Nat) (σ2 : zSt), a + q = 10 → (∀ c, c < 47 → σ2 c = σ c) → (∀ c, 47 < c → c < 51 → σ2 c = σ c) → (∀ c, 56 ≤ c → σ2 c = σ c) → (∀ i, i ≠ 3 → i ≠ 9 → σ2 47 i = σ 47 i) → σ2 47 3 = nI (cN (H p)) → σ2 47 9 = nI p → (∀ i, i < a → σ2 51 i = σ 56 (51 * p + (1 + 5 * i)) ∧ σ2 52 i = σ 56 (51 * p + (2 + 5 * i)) ∧ σ2 53 i = σ 56 (51 * p + (3 + 5 * i)) ∧ σ2 54 i = σ 56 (51 * p + (4 + 5 * i)) ∧ σ2 55 i = σ 56 (51 * p + (5 + 5 * i))) → zA (zZ mX7_undo (zQI SH (fun x t => (p + 1 = 0 ∧ x = -3 ∧ t = σ) ∨ (p + 1 ≠ 0 ∧ x = 1 ∧ MJ t p H ∧ t 47 14 = 0 ∧ FMJ t σ)))) mX7_undo none 0 0 40 [some (.ref 47), some (.int (nI (51 * p))), some (.int (nI a))] [] SH σ2 := by
      intro q
      induction q with
      | zero =>
        intro a σ2 ha g1 g2 g3 g4 g5 g6 g7
        refine za_iload_n (pc := 40) dX7_undo_40 rfl ?_
        refine za_bipush (pc := 41) (10) dX7_undo_41 (by decide) ?_
        refine za_icmp_ge (pc := 43) 142 dX7_undo_43 (by decide) (fun c => ?_) (fun c => ?_)
        · refine za_aload_n (pc := 142) dX7_undo_142 rfl ?_
          refine za_iconst (pc := 143) (0) dX7_undo_143 (by decide) ?_
          refine za_putX (pc := 144) dX7_undo_144 lp_X7_98 rfl rfl rfl rfl ?_
          refine za_iconst (pc := 147) (1) dX7_undo_147 (by decide) ?_
          refine za_ri (pc := 148) dX7_undo_148 rfl rfl rfl ?_
          refine Or.inr ⟨hm0, rfl, ⟨⟨by rw [zup_b (by decide)]; exact g5, fun i hi => ?_⟩, by rw [zup_b (by decide)]; exact g6, fun k hk => Snap_cong (hs k (by omega)) (ho.2 k (by omega)).1 (fun u _ => by rw [zup_n (by decide), g3 56 (by decide)])⟩, zup_a, fun c hc => by rw [zup_n (by omega)]; exact g1 c hc, fun c h1 h2 => by rw [zup_n (by omega)]; exact g2 c h1 h2, fun c hc => by rw [zup_n (by omega)]; exact g3 c (by omega), fun i h3 h9 h14 => by rw [zup_b h14]; exact g4 i h3 h9⟩
          obtain ⟨d1, d2, d3, d4, d5⟩ := g7 i (by omega)
          obtain ⟨b1, b2, b3, b4, b5⟩ := s2 i hi
          rw [zup_n (by decide), zup_n (by decide), zup_n (by decide), zup_n (by decide), zup_n (by decide)]
          exact ⟨d1.trans b1, d2.trans b2, d3.trans b3, d4.trans b4, d5.trans b5⟩
        · exact absurd (nI_le (a := 10) (b := a) (by omega) (by omega)) c
      | succ q ih =>
        intro a σ2 ha g1 g2 g3 g4 g5 g6 g7
        have va : vp_in (nI a) 10 := vp_in_nI (by omega) (by decide)
        have ea : (nI a).toNatClampNeg = a := nI_clamp (by omega)
        have m1 : nI (51 * p) + 1 + 5 * nI a = nI (51 * p + (1 + 5 * a)) := m5 (j := 1)
        have m2 : nI (51 * p) + 2 + 5 * nI a = nI (51 * p + (2 + 5 * a)) := m5 (j := 2)
        have m3 : nI (51 * p) + 3 + 5 * nI a = nI (51 * p + (3 + 5 * a)) := m5 (j := 3)
        have m4 : nI (51 * p) + 4 + 5 * nI a = nI (51 * p + (4 + 5 * a)) := m5 (j := 4)
        have m6 : nI (51 * p) + 5 + 5 * nI a = nI (51 * p + (5 + 5 * a)) := m5 (j := 5)
        refine za_iload_n (pc := 40) dX7_undo_40 rfl ?_
        refine za_bipush (pc := 41) (10) dX7_undo_41 (by decide) ?_
        refine za_icmp_ge (pc := 43) 142 dX7_undo_43 (by decide) (fun c => ?_) (fun c => ?_)
        · exact absurd c (nI_ge (a := a) (b := 10) (by omega) (by omega))
        · refine za_aload_n (pc := 46) dX7_undo_46 rfl ?_
          refine za_getR (pc := 47) dX7_undo_47 lk_X7_19 rfl rfl ?_
          refine za_iload_n (pc := 50) dX7_undo_50 rfl ?_
          refine za_aload_n (pc := 51) dX7_undo_51 rfl ?_
          refine za_getR (pc := 52) dX7_undo_52 lk_X7_34 rfl rfl ?_
          refine za_iload_n (pc := 55) dX7_undo_55 rfl ?_
          refine za_iconst (pc := 56) (1) dX7_undo_56 (by decide) ?_
          refine za_iadd (pc := 57) dX7_undo_57 ?_
          refine za_iconst (pc := 58) (5) dX7_undo_58 (by decide) ?_
          refine za_iload_n (pc := 59) dX7_undo_59 rfl ?_
          refine za_imul (pc := 60) dX7_undo_60 ?_
          refine za_iadd (pc := 61) dX7_undo_61 ?_
          rw [m1]
          refine za_iald (pc := 62) dX7_undo_62 rfl (vp_in_nI (show 51 * p + (1 + 5 * a) < 1020 by omega) (by decide)) ?_
          refine za_iast (pc := 63) dX7_undo_63 rfl va ?_
          refine za_aload_n (pc := 64) dX7_undo_64 rfl ?_
          refine za_getR (pc := 65) dX7_undo_65 lk_X7_22 rfl rfl ?_
          refine za_iload_n (pc := 68) dX7_undo_68 rfl ?_
          refine za_aload_n (pc := 69) dX7_undo_69 rfl ?_
          refine za_getR (pc := 70) dX7_undo_70 lk_X7_34 rfl rfl ?_
          refine za_iload_n (pc := 73) dX7_undo_73 rfl ?_
          refine za_iconst (pc := 74) (2) dX7_undo_74 (by decide) ?_
          refine za_iadd (pc := 75) dX7_undo_75 ?_
          refine za_iconst (pc := 76) (5) dX7_undo_76 (by decide) ?_
          refine za_iload_n (pc := 77) dX7_undo_77 rfl ?_
          refine za_imul (pc := 78) dX7_undo_78 ?_
          refine za_iadd (pc := 79) dX7_undo_79 ?_
          rw [m2]
          refine za_iald (pc := 80) dX7_undo_80 rfl (vp_in_nI (show 51 * p + (2 + 5 * a) < 1020 by omega) (by decide)) ?_
          refine za_iast (pc := 81) dX7_undo_81 rfl va ?_
          refine za_aload_n (pc := 82) dX7_undo_82 rfl ?_
          refine za_getR (pc := 83) dX7_undo_83 lk_X7_25 rfl rfl ?_
          refine za_iload_n (pc := 86) dX7_undo_86 rfl ?_
          refine za_aload_n (pc := 87) dX7_undo_87 rfl ?_
          refine za_getR (pc := 88) dX7_undo_88 lk_X7_34 rfl rfl ?_
          refine za_iload_n (pc := 91) dX7_undo_91 rfl ?_
          refine za_iconst (pc := 92) (3) dX7_undo_92 (by decide) ?_
          refine za_iadd (pc := 93) dX7_undo_93 ?_
          refine za_iconst (pc := 94) (5) dX7_undo_94 (by decide) ?_
          refine za_iload_n (pc := 95) dX7_undo_95 rfl ?_
          refine za_imul (pc := 96) dX7_undo_96 ?_
          refine za_iadd (pc := 97) dX7_undo_97 ?_
          rw [m3]
          refine za_iald (pc := 98) dX7_undo_98 rfl (vp_in_nI (show 51 * p + (3 + 5 * a) < 1020 by omega) (by decide)) ?_
          refine za_iast (pc := 99) dX7_undo_99 rfl va ?_
          refine za_aload_n (pc := 100) dX7_undo_100 rfl ?_
          refine za_getR (pc := 101) dX7_undo_101 lk_X7_28 rfl rfl ?_
          refine za_iload_n (pc := 104) dX7_undo_104 rfl ?_
          refine za_aload_n (pc := 105) dX7_undo_105 rfl ?_
          refine za_getR (pc := 106) dX7_undo_106 lk_X7_34 rfl rfl ?_
          refine za_iload_n (pc := 109) dX7_undo_109 rfl ?_
          refine za_iconst (pc := 110) (4) dX7_undo_110 (by decide) ?_
          refine za_iadd (pc := 111) dX7_undo_111 ?_
          refine za_iconst (pc := 112) (5) dX7_undo_112 (by decide) ?_
          refine za_iload_n (pc := 113) dX7_undo_113 rfl ?_
          refine za_imul (pc := 114) dX7_undo_114 ?_
          refine za_iadd (pc := 115) dX7_undo_115 ?_
          rw [m4]
          refine za_iald (pc := 116) dX7_undo_116 rfl (vp_in_nI (show 51 * p + (4 + 5 * a) < 1020 by omega) (by decide)) ?_
          refine za_iast (pc := 117) dX7_undo_117 rfl va ?_
          refine za_aload_n (pc := 118) dX7_undo_118 rfl ?_
          refine za_getR (pc := 119) dX7_undo_119 lk_X7_31 rfl rfl ?_
          refine za_iload_n (pc := 122) dX7_undo_122 rfl ?_
          refine za_aload_n (pc := 123) dX7_undo_123 rfl ?_
          refine za_getR (pc := 124) dX7_undo_124 lk_X7_34 rfl rfl ?_
          refine za_iload_n (pc := 127) dX7_undo_127 rfl ?_
          refine za_iconst (pc := 128) (5) dX7_undo_128 (by decide) ?_
          refine za_iadd (pc := 129) dX7_undo_129 ?_
          refine za_iconst (pc := 130) (5) dX7_undo_130 (by decide) ?_
          refine za_iload_n (pc := 131) dX7_undo_131 rfl ?_
          refine za_imul (pc := 132) dX7_undo_132 ?_
          refine za_iadd (pc := 133) dX7_undo_133 ?_
          rw [m6]
          refine za_iald (pc := 134) dX7_undo_134 rfl (vp_in_nI (show 51 * p + (5 + 5 * a) < 1020 by omega) (by decide)) ?_
          refine za_iast (pc := 135) dX7_undo_135 rfl va ?_
          refine za_ii2 (pc := 136) (1) dX7_undo_136 (by decide) rfl ?_
          refine za_goto (pc := 139) 40 dX7_undo_139 (by decide) ?_
          rw [nI_1, ea, nI_clamp (show 51 * p + (1 + 5 * a) < 2 ^ 31 by omega), nI_clamp (show 51 * p + (2 + 5 * a) < 2 ^ 31 by omega), nI_clamp (show 51 * p + (3 + 5 * a) < 2 ^ 31 by omega), nI_clamp (show 51 * p + (4 + 5 * a) < 2 ^ 31 by omega), nI_clamp (show 51 * p + (5 + 5 * a) < 2 ^ 31 by omega)]
          simp only [zup_n (show (56 : Nat) ≠ 51 by decide), zup_n (show (56 : Nat) ≠ 52 by decide), zup_n (show (56 : Nat) ≠ 53 by decide), zup_n (show (56 : Nat) ≠ 54 by decide)]
          rw [g3 56 (by decide)]
          have r : ∀ (c : Nat) (x1 x2 x3 x4 x5 : Int32), c ≠ 51 → c ≠ 52 → c ≠ 53 → c ≠ 54 → c ≠ 55 → zup (zup (zup (zup (zup σ2 51 a x1) 52 a x2) 53 a x3) 54 a x4) 55 a x5 c = σ2 c := fun c x1 x2 x3 x4 x5 h1 h2 h3 h4 h5 => by rw [zup_n h5, zup_n h4, zup_n h3, zup_n h2, zup_n h1]
          refine ih (a + 1) _ (by omega) (fun c hc => by rw [r c _ _ _ _ _ (by omega) (by omega) (by omega) (by omega) (by omega)]; exact g1 c hc) (fun c h1 h2 => by rw [r c _ _ _ _ _ (by omega) (by omega) (by omega) (by omega) (by omega)]; exact g2 c h1 h2) (fun c hc => by rw [r c _ _ _ _ _ (by omega) (by omega) (by omega) (by omega) (by omega)]; exact g3 c hc) (fun i h3 h9 => by rw [r 47 _ _ _ _ _ (by decide) (by decide) (by decide) (by decide) (by decide)]; exact g4 i h3 h9) (by rw [r 47 _ _ _ _ _ (by decide) (by decide) (by decide) (by decide) (by decide)]; exact g5) (by rw [r 47 _ _ _ _ _ (by decide) (by decide) (by decide) (by decide) (by decide)]; exact g6) (fun i hi => ?_)
          rw [zup_n (show (51 : Nat) ≠ 55 by decide), zup_n (show (51 : Nat) ≠ 54 by decide), zup_n (show (51 : Nat) ≠ 53 by decide), zup_n (show (51 : Nat) ≠ 52 by decide), zup_n (show (52 : Nat) ≠ 55 by decide), zup_n (show (52 : Nat) ≠ 54 by decide), zup_n (show (52 : Nat) ≠ 53 by decide), zup_n (show (53 : Nat) ≠ 55 by decide), zup_n (show (53 : Nat) ≠ 54 by decide), zup_n (show (54 : Nat) ≠ 55 by decide)]
          by_cases e : i = a
          · subst e
            exact ⟨zup_a, zup_a, zup_a, zup_a, zup_a⟩
          · obtain ⟨d1, d2, d3, d4, d5⟩ := g7 i (by omega)
            rw [zup_b e, zup_b e, zup_b e, zup_b e, zup_b e, zup_n (by decide), zup_n (by decide), zup_n (by decide), zup_n (by decide), zup_n (by decide), zup_n (by decide), zup_n (by decide), zup_n (by decide), zup_n (by decide), zup_n (by decide)]
            exact ⟨d1, d2, d3, d4, d5⟩
    exact loop 10 0 _ (by omega) (fun c hc => by rw [zup_n (by omega), zup_n (by omega)]) (fun c h1 h2 => by rw [zup_n (by omega), zup_n (by omega)]) (fun c hc => by rw [zup_n (by omega), zup_n (by omega)]) (fun i h3 h9 => by rw [zup_b h3, zup_b h9]) zup_a (by rw [zup_b (by decide), zup_a]) (fun i hi => absurd hi (by omega))
  · have hm0 : m = 0 := (nI_eq (by omega) (by decide)).mp c4
    refine za_bipush (pc := 7) (-3) dX7_undo_7 (by decide) ?_
    refine za_ri (pc := 9) dX7_undo_9 rfl rfl rfl ?_
    exact Or.inl ⟨hm0, rfl, rfl⟩
theorem tX7_isHour {S : List zSh} {σ : zSt} {a : Int32} : zI mX7_isHour [.int a] S σ (fun x t => x = (if isHr a then 1 else 0) ∧ t = σ) := by
  refine zI_of (ls := [some (.int a)]) (by decide) rfl rfl ?_
  refine za_iload_n (pc := 0) dX7_isHour_0 rfl ?_
  refine za_i2l (pc := 1) dX7_isHour_1 ?_
  refine za_lconst (pc := 2) (1) dX7_isHour_2 (by decide) ?_
  refine za_ldc2_w (pc := 3) (40) dX7_isHour_3 k_X7_102 ?_
  refine za_cS3i (pc := 6) (μ' := mX7_in) dX7_isHour_6 c_X7_73 rfl ⟨rfl, rfl⟩ ⟨rfl, rfl⟩ rfl rfl rfl (tX7_in) (fun x_6 t_6 h_6 => ?_)
  obtain ⟨rfl, h9⟩ := h_6
  have h9 := h9.symm
  subst h9
  rw [zin_if (lo := 1) (hi := 40) (L := 1) (H := 40) rfl rfl]
  refine za_rz (pc := 9) dX7_isHour_9 rfl rfl rfl (by split <;> rfl) ?_
  exact ⟨rfl, rfl⟩
theorem FMJ_keep {σ t : zSt} (n1 : ∀ c, c ≠ 47 → c ≠ 56 → t c = σ c) (n2 : ∀ i, i ≠ 9 → i ≠ 14 → t 47 i = σ 47 i) : FMJ t σ := ⟨fun c hc => n1 c (by omega) (by omega), fun c h1 h2 => n1 c (by omega) (by omega), fun c hc => n1 c (by omega) (by omega), fun i _ h9 h14 => n2 i h9 h14⟩
theorem tX7_bits {S : List zSh} {σ : zSt} {p : Nat → Bool} : zI mX7_bits [.int (zmask p)] S σ (fun x t => x = nI (cnt p 10) ∧ t = σ) := by
  refine zI_of (ls := [some (.int (zmask p)), none, none]) (by decide) rfl rfl ?_
  refine za_iconst (pc := 0) (0) dX7_bits_0 (by decide) ?_
  refine za_is1n (pc := 1) dX7_bits_1 rfl ?_
  refine za_iconst (pc := 2) (0) dX7_bits_2 (by decide) ?_
  refine za_is2n (pc := 3) dX7_bits_3 rfl ?_
  have loop : ∀ (q k : Nat), k + q = 10 → zA (zZ mX7_bits (zQI S (fun x t => x = nI (cnt p 10) ∧ t = σ))) mX7_bits none 0 0 4 [some (.int (zmask p)), some (.int (nI (cnt p k))), some (.int (nI k))] [] S σ := by
    intro q
    induction q with
    | zero =>
      intro k hk
      refine za_iload_n (pc := 4) dX7_bits_4 rfl ?_
      refine za_bipush (pc := 5) (10) dX7_bits_5 (by decide) ?_
      refine za_icmp_ge (pc := 7) 24 dX7_bits_7 (by decide) (fun c => ?_) (fun c => ?_)
      · refine za_iload_n (pc := 24) dX7_bits_24 rfl ?_
        refine za_ri (pc := 25) dX7_bits_25 rfl rfl rfl ?_
        rw [show k = 10 by omega]
        exact ⟨rfl, rfl⟩
      · exact absurd (nI_le (a := 10) (b := k) (by omega) (by omega)) c
    | succ q ih =>
      intro k hk
      refine za_iload_n (pc := 4) dX7_bits_4 rfl ?_
      refine za_bipush (pc := 5) (10) dX7_bits_5 (by decide) ?_
      refine za_icmp_ge (pc := 7) 24 dX7_bits_7 (by decide) (fun c => ?_) (fun c => ?_)
      · exact absurd c (nI_ge (a := k) (b := 10) (by omega) (by omega))
      · refine za_iload_n (pc := 10) dX7_bits_10 rfl ?_
        refine za_iload_n (pc := 11) dX7_bits_11 rfl ?_
        refine za_iload_n (pc := 12) dX7_bits_12 rfl ?_
        refine za_ishr (pc := 13) dX7_bits_13 ?_
        refine za_iconst (pc := 14) (1) dX7_bits_14 (by decide) ?_
        refine za_iand (pc := 15) dX7_bits_15 ?_
        rw [zm_sr (by omega)]
        refine za_iadd (pc := 16) dX7_bits_16 ?_
        refine za_is1n (pc := 17) dX7_bits_17 rfl ?_
        refine za_ii2 (pc := 18) (1) dX7_bits_18 (by decide) rfl ?_
        refine za_goto (pc := 21) 4 dX7_bits_21 (by decide) ?_
        rw [nI_1]
        have e : nI (cnt p k) + (if p k = true then (1 : Int32) else 0) = nI (cnt p (k + 1)) := by
          show _ = nI (cnt p k + (if p k = true then 1 else 0))
          rw [← nI_add]
          congr 1
          split <;> rfl
        rw [e]
        exact ih (k + 1) (by omega)
  exact loop 10 0 (by omega)
theorem tX7_free {σ : zSt} {m : Nat} {H : Nat → Core} {a b : Int32} (h : MJ σ m H) (ho : JOk m H) : zI mX7_free [.ref 47, .int a, .int b] SH σ (fun x t => (¬ (isJb (cN (H m)) a ∧ isJb (cN (H m)) b) ∧ x = -1 ∧ t = σ) ∨ ∃ p q, p < cN (H m) ∧ q < cN (H m) ∧ a = nI p ∧ b = nI q ∧ ((cW (H m) p q = false ∧ x = 0 ∧ t = σ) ∨ (cW (H m) p q = true ∧ x = 1 ∧ MJ t (pushN m) (pushH m H (wC (H m) p (fun i => cW (H m) p i && !decide (i = q)))) ∧ t 47 14 = 0 ∧ FMJ t σ))) := by
  have hn : cN (H m) ≤ 10 := (ho.2 m (Nat.le_refl m)).1
  refine zI_of (ls := [some (.ref 47), some (.int a), some (.int b)]) (by decide) rfl rfl ?_
  refine za_aload_n (pc := 0) dX7_free_0 rfl ?_
  refine za_iload_n (pc := 1) dX7_free_1 rfl ?_
  refine za_cV1i (pc := 2) (μ' := mX7_isJob) dX7_free_2 c_X7_122 rfl rfl rfl ⟨rfl, rfl⟩ ⟨rfl, rfl⟩ rfl rfl rfl (tX7_isJob h.1.1 hn) (fun x_2 t_2 h_2 => ?_)
  obtain ⟨rfl, h9⟩ := h_2
  have h9 := h9.symm
  subst h9
  by_cases ha : isJb (cN (H m)) a
  · rw [if_pos ha]
    refine za_if_eq (pc := 5) 16 dX7_free_5 (by decide) (fun c5 => ?_) (fun c5 => ?_)
    · exact absurd c5 (by decide)
    refine za_aload_n (pc := 8) dX7_free_8 rfl ?_
    refine za_iload_n (pc := 9) dX7_free_9 rfl ?_
    refine za_cV1i (pc := 10) (μ' := mX7_isJob) dX7_free_10 c_X7_122 rfl rfl rfl ⟨rfl, rfl⟩ ⟨rfl, rfl⟩ rfl rfl rfl (tX7_isJob h.1.1 hn) (fun x_10 t_10 h_10 => ?_)
    obtain ⟨rfl, h9⟩ := h_10
    have h9 := h9.symm
    subst h9
    by_cases hb : isJb (cN (H m)) b
    · rw [if_pos hb]
      refine za_if_ne (pc := 13) 18 dX7_free_13 (by decide) (fun c13 => ?_) (fun c13 => ?_)
      · obtain ⟨p, hp, rfl⟩ := isJb_ix ha hn
        obtain ⟨q, hq, rfl⟩ := isJb_ix hb hn
        have vp : vp_in (nI p) 10 := vp_in_nI (by omega) (by decide)
        have ep : (nI p).toNatClampNeg = p := nI_clamp (by omega)
        obtain ⟨a1, a2, a3, a4, a5⟩ := h.1.2 p hp
        refine za_aload_n (pc := 18) dX7_free_18 rfl ?_
        refine za_getR (pc := 19) dX7_free_19 lk_X7_31 rfl rfl ?_
        refine za_iload_n (pc := 22) dX7_free_22 rfl ?_
        refine za_iald (pc := 23) dX7_free_23 rfl vp ?_
        refine za_iload_n (pc := 24) dX7_free_24 rfl ?_
        refine za_ishr (pc := 25) dX7_free_25 ?_
        refine za_iconst (pc := 26) (1) dX7_free_26 (by decide) ?_
        refine za_iand (pc := 27) dX7_free_27 ?_
        rw [ep, a5, zm_sr (by omega)]
        by_cases hw : cW (H m) p q = true
        · rw [if_pos hw]
          refine za_if_ne (pc := 28) 33 dX7_free_28 (by decide) (fun c28 => ?_) (fun c28 => ?_)
          · refine za_aload_n (pc := 33) dX7_free_33 rfl ?_
            refine za_cV0v (pc := 34) (μ' := mX7_keep) dX7_free_34 c_X7_109 rfl rfl rfl ⟨rfl, rfl⟩ ⟨rfl, rfl⟩ rfl rfl rfl (tX7_keep h ho) (fun t_34 h_34 => ?_)
            obtain ⟨n1, n2, n3, n4, n5⟩ := h_34
            refine za_aload_n (pc := 37) dX7_free_37 rfl ?_
            refine za_getR (pc := 38) dX7_free_38 lk_X7_31 rfl rfl ?_
            refine za_iload_n (pc := 41) dX7_free_41 rfl ?_
            refine za_dup2 (pc := 42) dX7_free_42 rfl rfl ?_
            refine za_iald (pc := 43) dX7_free_43 rfl vp ?_
            refine za_iconst (pc := 44) (1) dX7_free_44 (by decide) ?_
            refine za_iload_n (pc := 45) dX7_free_45 rfl ?_
            refine za_ishl (pc := 46) dX7_free_46 ?_
            refine za_iconst (pc := 47) (-1) dX7_free_47 (by decide) ?_
            refine za_ixor (pc := 48) dX7_free_48 ?_
            rw [ep, n1 55 (by decide) (by decide), a5, zm_1 (by omega)]
            refine za_iand (pc := 49) dX7_free_49 ?_
            rw [zm_not]
            refine za_iast (pc := 50) dX7_free_50 rfl vp ?_
            refine za_iconst (pc := 51) (1) dX7_free_51 (by decide) ?_
            refine za_ri (pc := 52) dX7_free_52 rfl rfl rfl ?_
            rw [ep]
            refine Or.inr ⟨p, q, hp, hq, rfl, rfl, Or.inr ⟨hw, rfl, ⟨?_, by rw [zup_n (by decide)]; exact n4, fun k hk => ?_⟩, by rw [zup_n (by decide)]; exact n3, ?_⟩⟩
            · rw [push_top]
              refine ⟨by rw [zup_n (by decide), n2 3 (by decide) (by decide)]; exact h.1.1, fun i hi => ?_⟩
              obtain ⟨b1, b2, b3, b4, b5⟩ := h.1.2 i hi
              rw [zup_n (by decide), zup_n (by decide), zup_n (by decide), zup_n (by decide), n1 51 (by decide) (by decide), n1 52 (by decide) (by decide), n1 53 (by decide) (by decide), n1 54 (by decide) (by decide), wC_W]
              refine ⟨b1, b2, b3, b4, ?_⟩
              by_cases e : i = p
              · rw [e, zup_a, if_pos rfl]
              · rw [zup_b e, if_neg e, n1 55 (by decide) (by decide)]; exact b5
            · exact Snap_cong (k := k) (n5 _ k hk) (push_ok ho (c := H m) (ho.2 m (Nat.le_refl m)) |>.2 k (by omega) |>.1 |> fun h9 => by
                have := n5 (H m) k hk
                unfold pushH at h9 ⊢
                by_cases e : m = 20
                · rw [if_pos e] at h9 ⊢; have e2 : pushN m = 20 := if_pos e; simp only [if_pos (show k < 20 by omega)] at h9 ⊢; exact h9
                · rw [if_neg e] at h9 ⊢; have e2 : pushN m = m + 1 := if_neg e; simp only [if_pos (show k ≤ m by omega)] at h9 ⊢; exact h9) (fun u _ => by rw [zup_n (by decide)])
            · obtain ⟨f1, f2, f3, f4⟩ := FMJ_keep n1 n2
              exact ⟨fun c hc => by rw [zup_n (by omega)]; exact f1 c hc, fun c h1 h2 => by rw [zup_n (by omega)]; exact f2 c h1 h2, fun c hc => by rw [zup_n (by omega)]; exact f3 c hc, fun i h3 h9 h14 => by rw [zup_n (by decide)]; exact f4 i h3 h9 h14⟩
          · exact absurd c28 (by decide)
        · rw [if_neg hw]
          refine za_if_ne (pc := 28) 33 dX7_free_28 (by decide) (fun c28 => ?_) (fun c28 => ?_)
          · exact absurd rfl c28
          · refine za_iconst (pc := 31) (0) dX7_free_31 (by decide) ?_
            refine za_ri (pc := 32) dX7_free_32 rfl rfl rfl ?_
            exact Or.inr ⟨p, q, hp, hq, rfl, rfl, Or.inl ⟨by simpa using hw, rfl, rfl⟩⟩
      · exact absurd c13 (by decide)
    · rw [if_neg hb]
      refine za_if_ne (pc := 13) 18 dX7_free_13 (by decide) (fun c13 => ?_) (fun c13 => ?_)
      · exact absurd rfl c13
      · refine za_iconst (pc := 16) (-1) dX7_free_16 (by decide) ?_
        refine za_ri (pc := 17) dX7_free_17 rfl rfl rfl ?_
        exact Or.inl ⟨fun q => hb q.2, rfl, rfl⟩
  · rw [if_neg ha]
    refine za_if_eq (pc := 5) 16 dX7_free_5 (by decide) (fun c5 => ?_) (fun c5 => ?_)
    · refine za_iconst (pc := 16) (-1) dX7_free_16 (by decide) ?_
      refine za_ri (pc := 17) dX7_free_17 rfl rfl rfl ?_
      exact Or.inl ⟨fun q => ha q.1, rfl, rfl⟩
    · exact absurd rfl c5
