def spAg (r i : Int32) (ss : Shs) : Int32 :=
  if isSh r then
    if ss.1 r.toNatClampNeg = -1 then -11
    else if 0 ≤ i.toInt ∧ i.toInt < ss.2.1 r.toNatClampNeg then 0
    else -12
  else -1
theorem sk_neg {ss : Shs} {j : Nat} (ho : SO ss) (hj : j < 6) : (ss.1 j < 0) ↔ ss.1 j = -1 := by
  rcases (ho j hj).2 with h | h | h | h <;> rw [h] <;> decide
theorem tX7_against {σ : zSt} {ss : Shs} {r i : Int32} (h : MS σ ss) (ho : SO ss) : zI mX7_against [.ref 47, .int r, .int i] SH σ (fun x t => x = spAg r i ss ∧ t = σ) := by
  have e0 : (0 : Int32).toInt = 0 := rfl
  refine zI_of (ls := [some (.ref 47), some (.int r), some (.int i)]) (by decide) rfl rfl ?_
  refine za_iload_n (pc := 0) dX7_against_0 rfl ?_
  refine za_cS1i (pc := 1) (μ' := mX7_isSheet) dX7_against_1 c_X7_77 rfl ⟨rfl, rfl⟩ ⟨rfl, rfl⟩ rfl rfl rfl (tX7_isSheet) (fun x_1 t_1 h_1 => ?_)
  obtain ⟨rfl, h9⟩ := h_1
  have h9 := h9.symm
  subst h9
  by_cases h1 : 0 ≤ r ∧ r < 6
  · rw [if_pos h1]
    refine za_if_ne (pc := 4) 11 dX7_against_4 (by decide) (fun c4 => ?_) (fun c4 => ?_)
    · obtain ⟨j, hj, rfl⟩ := isSh_ix h1
      have ej : (nI j).toNatClampNeg = j := nI_clamp (by omega)
      have hv6 : vp_in (nI j) 6 := vp_in_nI hj (by decide)
      obtain ⟨k1, k2, k3⟩ := h j hj
      have hsz := (ho j hj).1
      refine za_aload_n (pc := 11) dX7_against_11 rfl ?_
      refine za_getR (pc := 12) dX7_against_12 lk_X7_7 rfl rfl ?_
      refine za_iload_n (pc := 15) dX7_against_15 rfl ?_
      refine za_iald (pc := 16) dX7_against_16 rfl hv6 ?_
      rw [ej, k1]
      refine za_if_ge (pc := 17) 25 dX7_against_17 (by decide) (fun c17 => ?_) (fun c17 => ?_)
      · have hm : ¬ ss.1 j = -1 := fun q => absurd c17 (by rw [q]; decide)
        refine za_iload_n (pc := 25) dX7_against_25 rfl ?_
        refine za_i2l (pc := 26) dX7_against_26 ?_
        refine za_lconst (pc := 27) (0) dX7_against_27 (by decide) ?_
        refine za_aload_n (pc := 28) dX7_against_28 rfl ?_
        refine za_getR (pc := 29) dX7_against_29 lk_X7_13 rfl rfl ?_
        refine za_iload_n (pc := 32) dX7_against_32 rfl ?_
        refine za_iald (pc := 33) dX7_against_33 rfl hv6 ?_
        refine za_iconst (pc := 34) (1) dX7_against_34 (by decide) ?_
        refine za_isub (pc := 35) dX7_against_35 ?_
        refine za_i2l (pc := 36) dX7_against_36 ?_
        rw [ej, k2]
        refine za_cS3i (pc := 37) (μ' := mX7_in) dX7_against_37 c_X7_73 rfl ⟨rfl, rfl⟩ ⟨rfl, rfl⟩ rfl rfl rfl (tX7_in) (fun x_37 t_37 h_37 => ?_)
        obtain ⟨rfl, h9⟩ := h_37
        have h9 := h9.symm
        subst h9
        have es : (nI (ss.2.1 j) - 1).toInt = (ss.2.1 j : Int) - 1 := by
          rw [fb_subI (by rw [nI_toInt (by omega)]; show _ ≤ _ - (1 : Int); omega) (by rw [nI_toInt (by omega)]; show _ - (1 : Int) < _; omega), nI_toInt (by omega)]
          rfl
        have e : (if (0 : Int64) ≤ i.toInt64 ∧ i.toInt64 ≤ (nI (ss.2.1 j) - 1).toInt64 then (1 : Int32) else 0) = if 0 ≤ i.toInt ∧ i.toInt < ss.2.1 j then 1 else 0 := by
          rw [zin_if (lo := 0) (hi := nI (ss.2.1 j) - 1) (L := 0) rfl rfl]
          have : (0 ≤ i ∧ i ≤ nI (ss.2.1 j) - 1) ↔ (0 ≤ i.toInt ∧ i.toInt < ss.2.1 j) := by
            rw [fa_le, fa_le, es, e0]
            omega
          simp only [this]
        rw [e]
        by_cases hi : 0 ≤ i.toInt ∧ i.toInt < ss.2.1 j
        · rw [if_pos hi]
          refine za_if_ne (pc := 40) 48 dX7_against_40 (by decide) (fun c40 => ?_) (fun c40 => ?_)
          · refine za_iconst (pc := 48) (0) dX7_against_48 (by decide) ?_
            refine za_ri (pc := 49) dX7_against_49 rfl rfl rfl ?_
            rw [spAg, if_pos h1, ej, if_neg hm, if_pos hi]
            exact ⟨rfl, rfl⟩
          · exact absurd c40 (by decide)
        · rw [if_neg hi]
          refine za_if_ne (pc := 40) 48 dX7_against_40 (by decide) (fun c40 => ?_) (fun c40 => ?_)
          · exact absurd rfl c40
          · refine za_bipush (pc := 43) (-12) dX7_against_43 (by decide) ?_
            refine za_goto (pc := 45) 49 dX7_against_45 (by decide) ?_
            refine za_ri (pc := 49) dX7_against_49 rfl rfl rfl ?_
            rw [spAg, if_pos h1, ej, if_neg hm, if_neg hi]
            exact ⟨rfl, rfl⟩
      · have hm : ss.1 j = -1 := (sk_neg ho hj).mp (by rw [fa_lt]; rw [fa_le] at c17; omega)
        refine za_bipush (pc := 20) (-11) dX7_against_20 (by decide) ?_
        refine za_goto (pc := 22) 49 dX7_against_22 (by decide) ?_
        refine za_ri (pc := 49) dX7_against_49 rfl rfl rfl ?_
        rw [spAg, if_pos h1, ej, if_pos hm]
        exact ⟨rfl, rfl⟩
    · exact absurd c4 (by decide)
  · rw [if_neg h1]
    refine za_if_ne (pc := 4) 11 dX7_against_4 (by decide) (fun c4 => ?_) (fun c4 => ?_)
    · exact absurd rfl c4
    · refine za_iconst (pc := 7) (-1) dX7_against_7 (by decide) ?_
      refine za_goto (pc := 8) 49 dX7_against_8 (by decide) ?_
      refine za_ri (pc := 49) dX7_against_49 rfl rfl rfl ?_
      rw [spAg, if_neg h1]
      exact ⟨rfl, rfl⟩
theorem spAg_0 {r i : Int32} {ss : Shs} (ho : SO ss) (h : spAg r i ss = 0) : ∃ j q, j < 6 ∧ r = nI j ∧ q < ss.2.1 j ∧ q < 16 ∧ i = nI q ∧ ¬ ss.1 j = -1 := by
  unfold spAg at h
  by_cases h1 : isSh r
  · rw [if_pos h1] at h
    obtain ⟨j, hj, rfl⟩ := isSh_ix h1
    rw [nI_clamp (by omega)] at h
    by_cases hm : ss.1 j = -1
    · rw [if_pos hm] at h
      exact absurd h (by decide)
    · rw [if_neg hm] at h
      by_cases hi : 0 ≤ i.toInt ∧ i.toInt < ss.2.1 j
      · have := (ho j hj).1
        obtain ⟨q, hq, rfl⟩ := vp_in_of (vp_in_iff.mpr hi) (by omega)
        exact ⟨j, q, hj, rfl, hq, by omega, rfl, hm⟩
      · rw [if_neg hi] at h
        exact absurd h (by decide)
  · rw [if_neg h1] at h
    exact absurd h (by decide)
theorem spPut_1 {r i v : Int32} {ss : Shs} : (spPut r i v ss).1 = spAg r i ss := by
  unfold spPut spAg
  split
  · split
    · rfl
    · split <;> rfl
  · rfl
theorem spPut_n {r i v : Int32} {ss : Shs} (h : ¬ spAg r i ss = 0) : (spPut r i v ss).2 = ss := by
  unfold spPut
  unfold spAg at h
  split
  · rename_i h1
    rw [if_pos h1] at h
    split
    · rfl
    · rename_i h2
      rw [if_neg h2] at h
      split
      · rename_i h3
        rw [if_pos h3] at h
        exact absurd rfl h
      · rfl
  · rfl
theorem spPut_2 {j q : Nat} {v : Int32} {ss : Shs} (hj : j < 6) (hq : q < ss.2.1 j) (hq16 : q < 16) (hm : ¬ ss.1 j = -1) : (spPut (nI j) (nI q) v ss).2 = (ss.1, ss.2.1, va_up ss.2.2 j (upd (ss.2.2 j) q (cutv (ss.1 j) v))) := by
  unfold spPut
  rw [if_pos (isSh_nI hj), nI_clamp (by omega), if_neg hm, if_pos ⟨by rw [nI_toInt (by omega)]; omega, by rw [nI_toInt (by omega)]; omega⟩, nI_clamp (by omega)]
theorem MS_row {σ t : zSt} {ss : Shs} {j : Nat} {f : Nat → Int32} (h : MS σ ss) (hj : j < 6) (h1 : t 48 = σ 48) (h2 : t 49 = σ 49) (h3 : ∀ i, i < 16 → t 50 (16 * j + i) = f i) (h4 : ∀ q i, q < 6 → q ≠ j → i < 16 → t 50 (16 * q + i) = σ 50 (16 * q + i)) : MS t (ss.1, ss.2.1, va_up ss.2.2 j f) := by
  intro q hq
  obtain ⟨a1, a2, a3⟩ := h q hq
  refine ⟨?_, ?_, fun i hi => ?_⟩
  · rw [h1]; exact a1
  · rw [h2]; exact a2
  · by_cases e : q = j
    · subst e
      rw [h3 i hi]; simp [va_up]
    · rw [h4 q i hq e hi]; simp only [va_up, if_neg e]; exact a3 i hi
theorem tX7_put {σ : zSt} {ss : Shs} {r i v : Int32} (h : MS σ ss) (ho : SO ss) : zI mX7_put [.ref 47, .int r, .int i, .int v] SH σ (fun x t => x = (spPut r i v ss).1 ∧ MS t (spPut r i v ss).2 ∧ FMs t σ) := by
  refine zI_of (ls := [some (.ref 47), some (.int r), some (.int i), some (.int v), none]) (by decide) rfl rfl ?_
  refine za_aload_n (pc := 0) dX7_put_0 rfl ?_
  refine za_iload_n (pc := 1) dX7_put_1 rfl ?_
  refine za_iload_n (pc := 2) dX7_put_2 rfl ?_
  refine za_cV2i (pc := 3) (μ' := mX7_against) dX7_put_3 c_X7_85 rfl rfl rfl ⟨rfl, rfl⟩ ⟨rfl, rfl⟩ rfl rfl rfl (tX7_against h ho) (fun x_3 t_3 h_3 => ?_)
  obtain ⟨rfl, h9⟩ := h_3
  have h9 := h9.symm
  subst h9
  refine za_is4 (pc := 6) dX7_put_6 rfl ?_
  refine za_iload (pc := 8) dX7_put_8 rfl ?_
  rw [spPut_1]
  refine za_if_ne (pc := 10) 54 dX7_put_10 (by decide) (fun c10 => ?_) (fun c10 => ?_)
  · refine za_iload (pc := 54) dX7_put_54 rfl ?_
    refine za_ri (pc := 56) dX7_put_56 rfl rfl rfl ?_
    rw [spPut_n c10]
    exact ⟨rfl, h, fun _ _ _ _ _ => rfl⟩
  · obtain ⟨j, q, hj, rfl, hq, hq16, rfl, hm⟩ := spAg_0 ho c10
    have ej : (nI j).toNatClampNeg = j := nI_clamp (by omega)
    have hv6 : vp_in (nI j) 6 := vp_in_nI hj (by decide)
    obtain ⟨k1, k2, k3⟩ := h j hj
    have fin : ∀ x : Int32, x = cutv (ss.1 j) v → zA (zZ mX7_put (zQI SH (fun x t => x = spAg (nI j) (nI q) ss ∧ MS t (spPut (nI j) (nI q) v ss).2 ∧ FMs t σ))) mX7_put none 0 0 53 [some (.ref 47), some (.int (nI j)), some (.int (nI q)), some (.int v), some (.int (spAg (nI j) (nI q) ss))] [.int x, .int (nI (16 * j + q)), .ref 50] SH σ := by
      intro x ex
      refine za_iast (pc := 53) dX7_put_53 rfl (vp_in_nI (show 16 * j + q < 96 by omega) (by decide)) ?_
      refine za_iload (pc := 54) dX7_put_54 rfl ?_
      refine za_ri (pc := 56) dX7_put_56 rfl rfl rfl ?_
      rw [nI_clamp (by omega), spPut_2 hj hq hq16 hm, ← ex]
      refine ⟨rfl, MS_row h hj (zup_n (by decide)) (zup_n (by decide)) (fun i hi => ?_) (fun a i ha hne hi => zup_b (by omega)), fun c _ _ h5 _ => zup_n h5⟩
      by_cases e : i = q
      · rw [e, zup_a, pk_us]
      · rw [zup_b (by omega), pk_un e]; exact k3 i hi
    refine za_aload_n (pc := 13) dX7_put_13 rfl ?_
    refine za_getR (pc := 14) dX7_put_14 lk_X7_16 rfl rfl ?_
    refine za_bipush (pc := 17) (16) dX7_put_17 (by decide) ?_
    refine za_iload_n (pc := 19) dX7_put_19 rfl ?_
    refine za_imul (pc := 20) dX7_put_20 ?_
    refine za_iload_n (pc := 21) dX7_put_21 rfl ?_
    refine za_iadd (pc := 22) dX7_put_22 ?_
    rw [m16 hj hq16]
    refine za_aload_n (pc := 23) dX7_put_23 rfl ?_
    refine za_getR (pc := 24) dX7_put_24 lk_X7_7 rfl rfl ?_
    refine za_iload_n (pc := 27) dX7_put_27 rfl ?_
    refine za_iald (pc := 28) dX7_put_28 rfl hv6 ?_
    rw [ej, k1]
    refine za_if_ne (pc := 29) 37 dX7_put_29 (by decide) (fun c29 => ?_) (fun c29 => ?_)
    · refine za_aload_n (pc := 37) dX7_put_37 rfl ?_
      refine za_getR (pc := 38) dX7_put_38 lk_X7_7 rfl rfl ?_
      refine za_iload_n (pc := 41) dX7_put_41 rfl ?_
      refine za_iald (pc := 42) dX7_put_42 rfl hv6 ?_
      refine za_iconst (pc := 43) (1) dX7_put_43 (by decide) ?_
      rw [ej, k1]
      refine za_icmp_ne (pc := 44) 52 dX7_put_44 (by decide) (fun c44 => ?_) (fun c44 => ?_)
      · refine za_iload_n (pc := 52) dX7_put_52 rfl ?_
        exact fin _ (by rw [cutv, if_neg c29, if_neg c44])
      · refine za_iload_n (pc := 47) dX7_put_47 rfl ?_
        refine za_i2s (pc := 48) dX7_put_48 ?_
        refine za_goto (pc := 49) 53 dX7_put_49 (by decide) ?_
        exact fin _ (by rw [cutv, if_neg c29, if_pos c44])
    · refine za_iload_n (pc := 32) dX7_put_32 rfl ?_
      refine za_i2b (pc := 33) dX7_put_33 ?_
      refine za_goto (pc := 34) 53 dX7_put_34 (by decide) ?_
      exact fin _ (by rw [cutv, if_pos c29])
theorem tX7_told {σ : zSt} {ss : Shs} {r i : Int32} (h : MS σ ss) (ho : SO ss) : zJ mX7_told [.ref 47, .int r, .int i] SH σ (fun x t => x = spTold r i ss ∧ t = σ) := by
  refine zJ_of (ls := [some (.ref 47), some (.int r), some (.int i), none]) (by decide) rfl rfl ?_
  refine za_aload_n (pc := 0) dX7_told_0 rfl ?_
  refine za_iload_n (pc := 1) dX7_told_1 rfl ?_
  refine za_iload_n (pc := 2) dX7_told_2 rfl ?_
  refine za_cV2i (pc := 3) (μ' := mX7_against) dX7_told_3 c_X7_85 rfl rfl rfl ⟨rfl, rfl⟩ ⟨rfl, rfl⟩ rfl rfl rfl (tX7_against h ho) (fun x_3 t_3 h_3 => ?_)
  obtain ⟨rfl, h9⟩ := h_3
  have h9 := h9.symm
  subst h9
  refine za_is3n (pc := 6) dX7_told_6 rfl ?_
  refine za_iload_n (pc := 7) dX7_told_7 rfl ?_
  refine za_if_ne (pc := 8) 26 dX7_told_8 (by decide) (fun c8 => ?_) (fun c8 => ?_)
  · refine za_ldc2_w (pc := 26) (10000000000) dX7_told_26 k_X7_89 ?_
    refine za_iload_n (pc := 29) dX7_told_29 rfl ?_
    refine za_i2l (pc := 30) dX7_told_30 ?_
    refine za_lsub (pc := 31) dX7_told_31 ?_
    refine za_rl (pc := 32) dX7_told_32 rfl rfl rfl ?_
    refine ⟨?_, rfl⟩
    unfold spAg at c8 ⊢
    unfold spTold
    split
    · rename_i h1
      rw [if_pos h1] at c8
      split
      · rfl
      · rename_i h2
        rw [if_neg h2] at c8
        split
        · rename_i h3
          rw [if_pos h3] at c8
          exact absurd rfl c8
        · rfl
    · rfl
  · obtain ⟨j, q, hj, rfl, hq, hq16, rfl, hm⟩ := spAg_0 ho c8
    refine za_aload_n (pc := 11) dX7_told_11 rfl ?_
    refine za_getR (pc := 12) dX7_told_12 lk_X7_16 rfl rfl ?_
    refine za_bipush (pc := 15) (16) dX7_told_15 (by decide) ?_
    refine za_iload_n (pc := 17) dX7_told_17 rfl ?_
    refine za_imul (pc := 18) dX7_told_18 ?_
    refine za_iload_n (pc := 19) dX7_told_19 rfl ?_
    refine za_iadd (pc := 20) dX7_told_20 ?_
    rw [m16 hj hq16]
    refine za_iald (pc := 21) dX7_told_21 rfl (vp_in_nI (show 16 * j + q < 96 by omega) (by decide)) ?_
    refine za_i2l (pc := 22) dX7_told_22 ?_
    refine za_goto (pc := 23) 32 dX7_told_23 (by decide) ?_
    refine za_rl (pc := 32) dX7_told_32 rfl rfl rfl ?_
    refine ⟨?_, rfl⟩
    rw [nI_clamp (by omega), (h j hj).2.2 q hq16, spTold, if_pos (isSh_nI hj), nI_clamp (by omega), if_neg hm, if_pos ⟨by rw [nI_toInt (by omega)]; omega, by rw [nI_toInt (by omega)]; omega⟩, nI_clamp (by omega)]
