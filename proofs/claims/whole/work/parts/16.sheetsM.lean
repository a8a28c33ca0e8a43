/-! the sheets of the reference -/
theorem lg_lt {x y : Int64} : lg_cmp x y < 0 ↔ ¬ y ≤ x := by
  rw [← lg_cmp_ge, Int32.not_le]
theorem lg_gt {x y : Int64} : 0 < lg_cmp x y ↔ y < x := by
  unfold lg_cmp
  by_cases h : x > y
  · rw [if_pos h]
    exact ⟨fun _ => h, fun _ => by decide⟩
  · rw [if_neg h]
    have h' : ¬ y < x := h
    by_cases e : x = y
    · rw [if_pos e]
      exact ⟨fun q => absurd q (by decide), fun q => absurd q h'⟩
    · rw [if_neg e]
      exact ⟨fun q => absurd q (by decide), fun q => absurd q h'⟩
theorem lg_le {x y : Int64} : lg_cmp x y ≤ 0 ↔ x ≤ y := by
  have h : lg_cmp x y ≤ 0 ↔ ¬ 0 < lg_cmp x y := by rw [Int32.not_lt]
  rw [h, lg_gt, Int64.not_lt]
theorem tX7_in {S : List zSh} {σ : zSt} {v lo hi : Int64} : zI mX7_in [.long v, .long lo, .long hi] S σ (fun x t => x = (if lo ≤ v ∧ v ≤ hi then 1 else 0) ∧ t = σ) := by
  refine zI_of (ls := [some (.long v), none, some (.long lo), none, some (.long hi), none]) (by decide) rfl rfl ?_
  refine za_lload_n (pc := 0) dX7_in_0 rfl ?_
  refine za_lload_n (pc := 1) dX7_in_1 rfl ?_
  refine za_lcmp (pc := 2) dX7_in_2 ?_
  refine za_if_lt (pc := 3) 17 dX7_in_3 (by decide) (fun c1 => ?_) (fun c1 => ?_)
  · rw [lg_lt] at c1
    refine za_iconst (pc := 17) (0) dX7_in_17 (by decide) ?_
    refine za_rz (pc := 18) dX7_in_18 rfl rfl rfl rfl ?_
    exact ⟨(if_neg (fun q => c1 q.1)).symm, rfl⟩
  · rw [lg_lt, Classical.not_not] at c1
    refine za_lload_n (pc := 6) dX7_in_6 rfl ?_
    refine za_lload (pc := 7) dX7_in_7 rfl ?_
    refine za_lcmp (pc := 9) dX7_in_9 ?_
    refine za_if_gt (pc := 10) 17 dX7_in_10 (by decide) (fun c2 => ?_) (fun c2 => ?_)
    · rw [lg_gt] at c2
      refine za_iconst (pc := 17) (0) dX7_in_17 (by decide) ?_
      refine za_rz (pc := 18) dX7_in_18 rfl rfl rfl rfl ?_
      exact ⟨(if_neg (fun q => absurd c2 (Int64.not_lt.mpr q.2))).symm, rfl⟩
    · rw [lg_gt, Int64.not_lt] at c2
      refine za_iconst (pc := 13) (1) dX7_in_13 (by decide) ?_
      refine za_goto (pc := 14) 18 dX7_in_14 (by decide) ?_
      refine za_rz (pc := 18) dX7_in_18 rfl rfl rfl rfl ?_
      exact ⟨(if_pos ⟨c1, c2⟩).symm, rfl⟩
theorem z64 (a b : Int32) {A : Int64} (h : b.toInt64 = A) : (A ≤ a.toInt64 ↔ b ≤ a) ∧ (a.toInt64 ≤ A ↔ a ≤ b) := by
  subst h
  exact ⟨fa_wide_le b a, fa_wide_le a b⟩
theorem zin_if {a lo hi : Int32} {L H : Int64} (hl : lo.toInt64 = L) (hh : hi.toInt64 = H) : (if L ≤ a.toInt64 ∧ a.toInt64 ≤ H then (1 : Int32) else 0) = if lo ≤ a ∧ a ≤ hi then 1 else 0 := by
  simp only [(z64 a lo hl).1, (z64 a hi hh).2]
theorem tX7_isSheet {S : List zSh} {σ : zSt} {r : Int32} : zI mX7_isSheet [.int r] S σ (fun x t => x = (if 0 ≤ r ∧ r < 6 then 1 else 0) ∧ t = σ) := by
  refine zI_of (ls := [some (.int r)]) (by decide) rfl rfl ?_
  refine za_iload_n (pc := 0) dX7_isSheet_0 rfl ?_
  refine za_i2l (pc := 1) dX7_isSheet_1 ?_
  refine za_lconst (pc := 2) (0) dX7_isSheet_2 (by decide) ?_
  refine za_ldc2_w (pc := 3) (5) dX7_isSheet_3 k_X7_71 ?_
  refine za_cS3i (pc := 6) (μ' := mX7_in) dX7_isSheet_6 c_X7_73 rfl ⟨rfl, rfl⟩ ⟨rfl, rfl⟩ rfl rfl rfl (tX7_in) (fun x_6 t_6 h_6 => ?_)
  obtain ⟨rfl, h9⟩ := h_6
  have h9 := h9.symm
  subst h9
  have e : (if (0 : Int64) ≤ r.toInt64 ∧ r.toInt64 ≤ 5 then (1 : Int32) else 0) = if 0 ≤ r ∧ r < 6 then 1 else 0 := by
    rw [zin_if (lo := 0) (hi := 5) (L := 0) (H := 5) rfl rfl]
    have : (0 ≤ r ∧ r ≤ 5) ↔ (0 ≤ r ∧ r < 6) := by
      simp only [fa_lt, fa_le, show (5 : Int32).toInt = 5 from rfl, show (6 : Int32).toInt = 6 from rfl]
      omega
    simp only [this]
  rw [e]
  refine za_rz (pc := 9) dX7_isSheet_9 rfl rfl rfl (by split <;> rfl) ?_
  exact ⟨rfl, rfl⟩
def FMs (t σ : zSt) : Prop := ∀ c, c ≠ 48 → c ≠ 49 → c ≠ 50 → c ≠ 58 → t c = σ c
theorem m16 {j i : Nat} (hj : j < 6) (hi : i < 16) : (16 : Int32) * nI j + nI i = nI (16 * j + i) := by
  show nI 16 * nI j + nI i = _
  rw [pk_mul, nI_add]
theorem MS_new {σ : zSt} {ss : Shs} {j m : Nat} {k : Int32} (h : MS σ ss) (hj : j < 6) {t : zSt} (h1 : t 48 = upd (σ 48) j k) (h2 : t 49 = upd (σ 49) j (nI m)) (h3 : ∀ i, i < 16 → t 50 (16 * j + i) = 0) (h4 : ∀ q i, q < 6 → q ≠ j → i < 16 → t 50 (16 * q + i) = σ 50 (16 * q + i)) : MS t (shSet ss j k m (fun _ => 0)) := by
  intro q hq
  by_cases e : q = j
  · subst e
    refine ⟨?_, ?_, fun i hi => ?_⟩
    · rw [h1, pk_us]; simp [shSet, va_up]
    · rw [h2, pk_us]; simp [shSet, va_up]
    · rw [h3 i hi]; simp [shSet, va_up]
  · obtain ⟨a1, a2, a3⟩ := h q hq
    refine ⟨?_, ?_, fun i hi => ?_⟩
    · rw [h1, pk_un e]; simp only [shSet, va_up, if_neg e]; exact a1
    · rw [h2, pk_un e]; simp only [shSet, va_up, if_neg e]; exact a2
    · rw [h4 q i hq e hi]; simp only [shSet, va_up, if_neg e]; exact a3 i hi
theorem tX7_sheet {σ : zSt} {ss : Shs} {r kd n : Int32} (h : MS σ ss) : zI mX7_sheet [.ref 47, .int r, .int kd, .int n] SH σ (fun x t => x = (spSheet r kd n ss).1 ∧ MS t (spSheet r kd n ss).2 ∧ FMs t σ) := by
  have em : (-1 : Int32).toInt = -1 := rfl
  have e0 : (0 : Int32).toInt = 0 := rfl
  have e2 : (2 : Int32).toInt = 2 := rfl
  have e16 : (16 : Int32).toInt = 16 := rfl
  refine zI_of (ls := [some (.ref 47), some (.int r), some (.int kd), some (.int n), none]) (by decide) rfl rfl ?_
  refine za_iload_n (pc := 0) dX7_sheet_0 rfl ?_
  refine za_cS1i (pc := 1) (μ' := mX7_isSheet) dX7_sheet_1 c_X7_77 rfl ⟨rfl, rfl⟩ ⟨rfl, rfl⟩ rfl rfl rfl (tX7_isSheet) (fun x_1 t_1 h_1 => ?_)
  obtain ⟨rfl, h9⟩ := h_1
  have h9 := h9.symm
  subst h9
  by_cases h1 : 0 ≤ r ∧ r < 6
  · rw [if_pos h1]
    refine za_if_eq (pc := 4) 31 dX7_sheet_4 (by decide) (fun c4 => ?_) (fun c4 => ?_)
    · exact absurd c4 (by decide)
    refine za_iload_n (pc := 7) dX7_sheet_7 rfl ?_
    refine za_i2l (pc := 8) dX7_sheet_8 ?_
    refine za_ldc2_w (pc := 9) (-1) dX7_sheet_9 k_X7_81 ?_
    refine za_ldc2_w (pc := 12) (2) dX7_sheet_12 k_X7_83 ?_
    refine za_cS3i (pc := 15) (μ' := mX7_in) dX7_sheet_15 c_X7_73 rfl ⟨rfl, rfl⟩ ⟨rfl, rfl⟩ rfl rfl rfl (tX7_in) (fun x_15 t_15 h_15 => ?_)
    obtain ⟨rfl, h9⟩ := h_15
    have h9 := h9.symm
    subst h9
    rw [zin_if (lo := -1) (hi := 2) (L := -1) (H := 2) rfl rfl]
    by_cases h2 : -1 ≤ kd ∧ kd ≤ 2
    · rw [if_pos h2]
      refine za_if_eq (pc := 18) 31 dX7_sheet_18 (by decide) (fun c18 => ?_) (fun c18 => ?_)
      · exact absurd c18 (by decide)
      have hk : isSh r ∧ (-1 ≤ kd ∧ kd ≤ 2) := ⟨h1, h2⟩
      obtain ⟨j, hj, rfl⟩ := isSh_ix h1
      have ej : (nI j).toNatClampNeg = j := nI_clamp (by omega)
      have hv6 : vp_in (nI j) 6 := vp_in_nI hj (by decide)
      -- the tail: kind and size are told, the row is cleared
      have tail : ∀ (m : Nat) (σ1 : zSt), σ1 = zup (zup σ 48 j kd) 49 j (nI m) → (spSheet (nI j) kd n ss) = (0, shSet ss j kd m (fun _ => 0)) → zA (zZ mX7_sheet (zQI SH (fun x t => x = (spSheet (nI j) kd n ss).1 ∧ MS t (spSheet (nI j) kd n ss).2 ∧ FMs t σ))) mX7_sheet none 0 0 66 [some (.ref 47), some (.int (nI j)), some (.int kd), some (.int n), none] [] SH σ1 := by
        intro m σ1 e1 esp
        refine za_iconst (pc := 66) (0) dX7_sheet_66 (by decide) ?_
        refine za_is4 (pc := 67) dX7_sheet_67 rfl ?_
        have loop : ∀ (q i : Nat) (σ2 : zSt), i + q = 16 → (∀ c, c ≠ 50 → σ2 c = σ1 c) → (∀ u, u < i → σ2 50 (16 * j + u) = 0) → (∀ u, (u < 16 * j ∨ 16 * j + 16 ≤ u) → σ2 50 u = σ 50 u) → zA (zZ mX7_sheet (zQI SH (fun x t => x = (spSheet (nI j) kd n ss).1 ∧ MS t (spSheet (nI j) kd n ss).2 ∧ FMs t σ))) mX7_sheet none 0 0 69 [some (.ref 47), some (.int (nI j)), some (.int kd), some (.int n), some (.int (nI i))] [] SH σ2 := by
          intro q
          induction q with
          | zero =>
            intro i σ2 hi f1 f2 f3
            refine za_iload (pc := 69) dX7_sheet_69 rfl ?_
            refine za_bipush (pc := 71) (16) dX7_sheet_71 (by decide) ?_
            refine za_icmp_ge (pc := 73) 95 dX7_sheet_73 (by decide) (fun c => ?_) (fun c => ?_)
            · refine za_iconst (pc := 95) (0) dX7_sheet_95 (by decide) ?_
              refine za_ri (pc := 96) dX7_sheet_96 rfl rfl rfl ?_
              rw [esp]
              refine ⟨rfl, MS_new h hj (by rw [f1 48 (by decide), e1, zup_n (by decide), zup_s]) (by rw [f1 49 (by decide), e1, zup_s, zup_n (by decide)]) (fun u hu => f2 u (by omega)) (fun a u ha hne hu => f3 _ (by omega)), fun c h8 h9 h5 _ => ?_⟩
              rw [f1 c h5, e1, zup_n h9, zup_n h8]
            · exact absurd (nI_le (a := 16) (b := i) (by omega) (by omega)) c
          | succ q ih =>
            intro i σ2 hi f1 f2 f3
            refine za_iload (pc := 69) dX7_sheet_69 rfl ?_
            refine za_bipush (pc := 71) (16) dX7_sheet_71 (by decide) ?_
            refine za_icmp_ge (pc := 73) 95 dX7_sheet_73 (by decide) (fun c => ?_) (fun c => ?_)
            · exact absurd c (nI_ge (a := i) (b := 16) (by omega) (by omega))
            · refine za_aload_n (pc := 76) dX7_sheet_76 rfl ?_
              refine za_getR (pc := 77) dX7_sheet_77 lk_X7_16 rfl rfl ?_
              refine za_bipush (pc := 80) (16) dX7_sheet_80 (by decide) ?_
              refine za_iload_n (pc := 82) dX7_sheet_82 rfl ?_
              refine za_imul (pc := 83) dX7_sheet_83 ?_
              refine za_iload (pc := 84) dX7_sheet_84 rfl ?_
              refine za_iadd (pc := 86) dX7_sheet_86 ?_
              refine za_iconst (pc := 87) (0) dX7_sheet_87 (by decide) ?_
              rw [m16 hj (by omega)]
              refine za_iast (pc := 88) dX7_sheet_88 rfl (vp_in_nI (show 16 * j + i < 96 by omega) (by decide)) ?_
              refine za_ii4 (pc := 89) (1) dX7_sheet_89 (by decide) rfl ?_
              refine za_goto (pc := 92) 69 dX7_sheet_92 (by decide) ?_
              rw [nI_1, nI_clamp (by omega)]
              refine ih (i + 1) _ (by omega) (fun c hc => by rw [zup_n hc]; exact f1 c hc) (fun u hu => ?_) (fun u hu => by rw [zup_b (by omega)]; exact f3 u hu)
              by_cases eu : u = i
              · rw [eu, zup_a]
              · rw [zup_b (by omega)]
                exact f2 u (by omega)
        refine loop 16 0 σ1 (by omega) (fun _ _ => rfl) (fun u hu => absurd hu (by omega)) (fun u _ => ?_)
        rw [e1, zup_n (by decide), zup_n (by decide)]
      refine za_iload_n (pc := 21) dX7_sheet_21 rfl ?_
      refine za_if_lt (pc := 22) 33 dX7_sheet_22 (by decide) (fun c22 => ?_) (fun c22 => ?_)
      · -- kd is -1
        have hkd : kd = -1 := by rw [fa_eq]; rw [fa_lt] at c22; have := h2.1; rw [fa_le] at this; omega
        refine za_iload_n (pc := 33) dX7_sheet_33 rfl ?_
        refine za_if_lt (pc := 34) 44 dX7_sheet_34 (by decide) (fun c34 => ?_) (fun c34 => ?_)
        · refine za_aload_n (pc := 44) dX7_sheet_44 rfl ?_
          refine za_getR (pc := 45) dX7_sheet_45 lk_X7_7 rfl rfl ?_
          refine za_iload_n (pc := 48) dX7_sheet_48 rfl ?_
          refine za_iload_n (pc := 49) dX7_sheet_49 rfl ?_
          refine za_iast (pc := 50) dX7_sheet_50 rfl hv6 ?_
          refine za_aload_n (pc := 51) dX7_sheet_51 rfl ?_
          refine za_getR (pc := 52) dX7_sheet_52 lk_X7_13 rfl rfl ?_
          refine za_iload_n (pc := 55) dX7_sheet_55 rfl ?_
          refine za_iload_n (pc := 56) dX7_sheet_56 rfl ?_
          refine za_if_ge (pc := 57) 64 dX7_sheet_57 (by decide) (fun c57 => ?_) (fun c57 => ?_)
          · exact absurd c57 (by rw [fa_le]; rw [fa_lt] at c22; omega)
          · refine za_iconst (pc := 60) (0) dX7_sheet_60 (by decide) ?_
            refine za_goto (pc := 61) 65 dX7_sheet_61 (by decide) ?_
            refine za_iast (pc := 65) dX7_sheet_65 rfl hv6 ?_
            rw [ej]
            refine tail 0 _ rfl ?_
            rw [spSheet, if_pos hk, if_pos hkd, ej, hkd]
        · exact absurd c22 c34
      · have hkn : ¬ kd = -1 := fun q => c22 (by rw [q]; decide)
        refine za_iload_n (pc := 25) dX7_sheet_25 rfl ?_
        refine za_bipush (pc := 26) (16) dX7_sheet_26 (by decide) ?_
        refine za_icmp_le (pc := 28) 33 dX7_sheet_28 (by decide) (fun c28 => ?_) (fun c28 => ?_)
        · refine za_iload_n (pc := 33) dX7_sheet_33 rfl ?_
          refine za_if_lt (pc := 34) 44 dX7_sheet_34 (by decide) (fun c34 => ?_) (fun c34 => ?_)
          · exact absurd c34 c22
          refine za_iload_n (pc := 37) dX7_sheet_37 rfl ?_
          refine za_if_ge (pc := 38) 44 dX7_sheet_38 (by decide) (fun c38 => ?_) (fun c38 => ?_)
          · obtain ⟨m, hm, rfl⟩ := zix (N := 17) c38 (by rw [fa_lt]; rw [fa_le] at c28; have e2 : (nI 17).toInt = 17 := rfl; omega) (by decide)
            refine za_aload_n (pc := 44) dX7_sheet_44 rfl ?_
            refine za_getR (pc := 45) dX7_sheet_45 lk_X7_7 rfl rfl ?_
            refine za_iload_n (pc := 48) dX7_sheet_48 rfl ?_
            refine za_iload_n (pc := 49) dX7_sheet_49 rfl ?_
            refine za_iast (pc := 50) dX7_sheet_50 rfl hv6 ?_
            refine za_aload_n (pc := 51) dX7_sheet_51 rfl ?_
            refine za_getR (pc := 52) dX7_sheet_52 lk_X7_13 rfl rfl ?_
            refine za_iload_n (pc := 55) dX7_sheet_55 rfl ?_
            refine za_iload_n (pc := 56) dX7_sheet_56 rfl ?_
            refine za_if_ge (pc := 57) 64 dX7_sheet_57 (by decide) (fun c57 => ?_) (fun c57 => ?_)
            · refine za_iload_n (pc := 64) dX7_sheet_64 rfl ?_
              refine za_iast (pc := 65) dX7_sheet_65 rfl hv6 ?_
              rw [ej]
              refine tail m _ rfl ?_
              rw [spSheet, if_pos hk, if_neg hkn, if_neg (by rw [fa_lt]; rw [fa_le] at c28; omega), if_neg (nI_pos (by omega)), ej, nI_clamp (by omega)]
            · exact absurd c22 (fun q => c57 (by rw [fa_le]; rw [fa_lt] at q; omega))
          · refine za_bipush (pc := 41) (-13) dX7_sheet_41 (by decide) ?_
            refine za_ri (pc := 43) dX7_sheet_43 rfl rfl rfl ?_
            rw [spSheet, if_pos hk, if_neg hkn, if_neg (by rw [fa_lt]; rw [fa_le] at c28; omega), if_pos (by rw [fa_lt]; rw [fa_le] at c38; omega)]
            exact ⟨rfl, h, fun _ _ _ _ _ => rfl⟩
        · refine za_iconst (pc := 31) (-1) dX7_sheet_31 (by decide) ?_
          refine za_ri (pc := 32) dX7_sheet_32 rfl rfl rfl ?_
          rw [spSheet, if_pos hk, if_neg hkn, if_pos (by rw [fa_lt]; rw [fa_le] at c28; omega)]
          exact ⟨rfl, h, fun _ _ _ _ _ => rfl⟩
    · rw [if_neg h2]
      refine za_if_eq (pc := 18) 31 dX7_sheet_18 (by decide) (fun c18 => ?_) (fun c18 => ?_)
      · refine za_iconst (pc := 31) (-1) dX7_sheet_31 (by decide) ?_
        refine za_ri (pc := 32) dX7_sheet_32 rfl rfl rfl ?_
        rw [spSheet, if_neg (fun q => h2 q.2)]
        exact ⟨rfl, h, fun _ _ _ _ _ => rfl⟩
      · exact absurd rfl c18
  · rw [if_neg h1]
    refine za_if_eq (pc := 4) 31 dX7_sheet_4 (by decide) (fun c4 => ?_) (fun c4 => ?_)
    · refine za_iconst (pc := 31) (-1) dX7_sheet_31 (by decide) ?_
      refine za_ri (pc := 32) dX7_sheet_32 rfl rfl rfl ?_
      rw [spSheet, if_neg (fun q => h1 q.1)]
      exact ⟨rfl, h, fun _ _ _ _ _ => rfl⟩
    · exact absurd rfl c4
