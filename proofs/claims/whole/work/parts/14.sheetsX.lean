/-! the sheets: what each call answers and leaves, and that the class does it -/
abbrev Shs : Type := (Nat → Int32) × (Nat → Nat) × (Nat → Nat → Int32)
abbrev isSh (r : Int32) : Prop := 0 ≤ r ∧ r < 6
theorem isSh_ix {r : Int32} (h : isSh r) : ∃ j, j < 6 ∧ r = nI j := zix (N := 6) h.1 h.2 (by decide)
theorem isSh_nI {j : Nat} (h : j < 6) : isSh (nI j) := ⟨nI_pos' (by omega), nI_lt h (by decide)⟩
def shSet (ss : Shs) (j : Nat) (k : Int32) (m : Nat) (f : Nat → Int32) : Shs := (va_up ss.1 j k, va_up ss.2.1 j m, va_up ss.2.2 j f)
def spSheet (r kd n : Int32) (ss : Shs) : Int32 × Shs :=
  if isSh r ∧ (-1 ≤ kd ∧ kd ≤ 2) then
    if kd = -1 then (0, shSet ss r.toNatClampNeg (-1) 0 (fun _ => 0))
    else if 16 < n then (-1, ss) else if n < 0 then (-13, ss) else (0, shSet ss r.toNatClampNeg kd n.toNatClampNeg (fun _ => 0))
  else (-1, ss)
def spPut (r i v : Int32) (ss : Shs) : Int32 × Shs :=
  if isSh r then
    if ss.1 r.toNatClampNeg = -1 then (-11, ss)
    else if 0 ≤ i.toInt ∧ i.toInt < ss.2.1 r.toNatClampNeg then (0, (ss.1, ss.2.1, va_up ss.2.2 r.toNatClampNeg (upd (ss.2.2 r.toNatClampNeg) i.toNatClampNeg (cutv (ss.1 r.toNatClampNeg) v))))
    else (-12, ss)
  else (-1, ss)
def spCopy (r i t j n : Int32) (ss : Shs) : Int32 × Shs :=
  if isSh r ∧ isSh t then
    if ss.1 r.toNatClampNeg = -1 ∨ ss.1 t.toNatClampNeg = -1 then (-11, ss)
    else if ss.1 r.toNatClampNeg = ss.1 t.toNatClampNeg then
      if (0 ≤ i.toInt ∧ 0 ≤ n.toInt ∧ i.toInt + n.toInt ≤ ss.2.1 r.toNatClampNeg) ∧ (0 ≤ j.toInt ∧ 0 ≤ n.toInt ∧ j.toInt + n.toInt ≤ ss.2.1 t.toNatClampNeg) then
        (0, (ss.1, ss.2.1, va_up ss.2.2 t.toNatClampNeg (va_cpy (ss.2.2 r.toNatClampNeg) (ss.2.2 t.toNatClampNeg) i.toNatClampNeg j.toNatClampNeg n.toNatClampNeg)))
      else (-12, ss)
    else (-14, ss)
  else (-1, ss)
def spTold (r i : Int32) (ss : Shs) : Int64 :=
  if isSh r then
    if ss.1 r.toNatClampNeg = -1 then 10000000011
    else if 0 ≤ i.toInt ∧ i.toInt < ss.2.1 r.toNatClampNeg then (ss.2.2 r.toNatClampNeg i.toNatClampNeg).toInt64
    else 10000000012
  else 10000000001
abbrev XS (σ : zSt) (ss : Shs) : Prop := XSh σ ss.1 ss.2.1 ss.2.2
abbrev MS (σ : zSt) (ss : Shs) : Prop := MSh σ ss.1 ss.2.1 ss.2.2
abbrev SO (ss : Shs) : Prop := ShOk ss.1 ss.2.1
theorem va_up_s {α : Type} {f : Nat → α} {k : Nat} {v : α} : va_up f k v k = v := if_pos rfl
theorem va_up_o {α : Type} {f : Nat → α} {k j : Nat} {v : α} (h : j ≠ k) : va_up f k v j = f j := if_neg h
theorem XS_become {σ : zSt} {ss : Shs} {j m : Nat} {k : Int32} (h : XS σ ss) (hj : j < 6) : XS (zrow (zup (zup σ (35 + 2 * j) 1 k) (35 + 2 * j) 2 (nI m)) (36 + 2 * j) (fa_fill (fun _ => 0) (σ (36 + 2 * j)) 16)) (shSet ss j k m (fun _ => 0)) := by
  intro q hq
  by_cases e : q = j
  · subst e
    refine ⟨?_, ?_, fun i hi => ?_⟩
    · rw [zrow_n (by omega), zup_b (by decide), zup_a]; simp [shSet, va_up]
    · rw [zrow_n (by omega), zup_a]; simp [shSet, va_up]
    · rw [zrow_s, fa_fill, if_pos hi]; simp [shSet, va_up]
  · obtain ⟨h1, h2, h3⟩ := h q hq
    refine ⟨?_, ?_, fun i hi => ?_⟩
    · rw [zrow_n (by omega), zup_n (by omega), zup_n (by omega)]; simp only [shSet, va_up, if_neg e]; exact h1
    · rw [zrow_n (by omega), zup_n (by omega), zup_n (by omega)]; simp only [shSet, va_up, if_neg e]; exact h2
    · rw [zrow_n (by omega), zup_n (by omega), zup_n (by omega)]; simp only [shSet, va_up, if_neg e]; exact h3 i hi
theorem tX6_sheet {σ : zSt} {ss : Shs} {r kd n : Int32} (h : XS σ ss) : zI mX6_sheet [.ref 0, .int r, .int kd, .int n] SH σ (fun x t => x = (spSheet r kd n ss).1 ∧ XS t (spSheet r kd n ss).2 ∧ ∀ c, c < 35 ∨ 47 ≤ c → t c = σ c) := by
  refine zI_of (ls := [some (.ref 0), some (.int r), some (.int kd), some (.int n)]) (by decide) rfl rfl ?_
  refine za_iload_n (pc := 0) dX6_sheet_0 rfl ?_
  refine za_cS1i (pc := 1) (μ' := mX6_isSheet) dX6_sheet_1 c_X6_55 rfl ⟨rfl, rfl⟩ ⟨rfl, rfl⟩ rfl rfl rfl (tX6_isSheet) (fun x_1 t_1 h_1 => ?_)
  obtain ⟨rfl, h9⟩ := h_1
  have h9 := h9.symm
  subst h9
  by_cases h1 : 0 ≤ r ∧ r < 6
  · rw [if_pos h1]
    refine za_if_eq (pc := 4) 17 dX6_sheet_4 (by decide) (fun c4 => ?_) (fun c4 => ?_)
    · exact absurd c4 (by decide)
    refine za_iload_n (pc := 7) dX6_sheet_7 rfl ?_
    refine za_iconst (pc := 8) (-1) dX6_sheet_8 (by decide) ?_
    refine za_icmp_lt (pc := 9) 17 dX6_sheet_9 (by decide) (fun c9 => ?_) (fun c9 => ?_)
    · refine za_iconst (pc := 17) (-1) dX6_sheet_17 (by decide) ?_
      refine za_ri (pc := 18) dX6_sheet_18 rfl rfl rfl ?_
      rw [spSheet, if_neg (fun q => absurd q.2.1 (by rw [fa_le]; rw [fa_lt] at c9; omega))]
      exact ⟨rfl, h, fun _ _ => rfl⟩
    refine za_iload_n (pc := 12) dX6_sheet_12 rfl ?_
    refine za_iconst (pc := 13) (2) dX6_sheet_13 (by decide) ?_
    refine za_icmp_le (pc := 14) 19 dX6_sheet_14 (by decide) (fun c14 => ?_) (fun c14 => ?_)
    · have hk : isSh r ∧ (-1 ≤ kd ∧ kd ≤ 2) := ⟨h1, by rw [fa_le]; rw [fa_lt] at c9; omega, c14⟩
      obtain ⟨j, hj, rfl⟩ := isSh_ix h1
      have ej : (nI j).toNatClampNeg = j := nI_clamp (by omega)
      refine za_iload_n (pc := 19) dX6_sheet_19 rfl ?_
      refine za_iconst (pc := 20) (-1) dX6_sheet_20 (by decide) ?_
      refine za_icmp_ne (pc := 21) 37 dX6_sheet_21 (by decide) (fun c21 => ?_) (fun c21 => ?_)
      · refine za_iload_n (pc := 37) dX6_sheet_37 rfl ?_
        refine za_bipush (pc := 38) (16) dX6_sheet_38 (by decide) ?_
        refine za_icmp_le (pc := 40) 45 dX6_sheet_40 (by decide) (fun c40 => ?_) (fun c40 => ?_)
        · refine za_iload_n (pc := 45) dX6_sheet_45 rfl ?_
          refine za_if_ge (pc := 46) 52 dX6_sheet_46 (by decide) (fun c46 => ?_) (fun c46 => ?_)
          · obtain ⟨m, hm, rfl⟩ := zix (N := 17) c46 (by rw [fa_lt]; rw [fa_le] at c40; have e1 : (16 : Int32).toInt = 16 := rfl; have e2 : (nI 17).toInt = 17 := rfl; omega) (by decide)
            refine za_aload_n (pc := 52) dX6_sheet_52 rfl ?_
            refine za_getR (pc := 53) dX6_sheet_53 lk_X6_11 rfl rfl ?_
            refine za_iload_n (pc := 56) dX6_sheet_56 rfl ?_
            refine za_aald (pc := 57) dX6_sheet_57 rfl (vp_in_nI hj (by decide)) (SHa hj) ?_
            refine za_iload_n (pc := 58) dX6_sheet_58 rfl ?_
            refine za_iload_n (pc := 59) dX6_sheet_59 rfl ?_
            refine za_cV2v (pc := 60) (μ' := mX4_become) dX6_sheet_60 c_X6_59 (SHb hj) rfl rfl ⟨rfl, rfl⟩ ⟨rfl, rfl⟩ rfl rfl rfl (tX4_become hj) (fun t_60 h_60 => ?_)
            have h9 := h_60.symm
            subst h9
            refine za_iconst (pc := 63) (0) dX6_sheet_63 (by decide) ?_
            refine za_ri (pc := 64) dX6_sheet_64 rfl rfl rfl ?_
            rw [spSheet, if_pos hk, if_neg c21, if_neg (by rw [fa_lt]; rw [fa_le] at c40; omega), if_neg (nI_pos (by omega)), ej, nI_clamp (by omega)]
            exact ⟨rfl, XS_become h hj, fun c hc => by rw [zrow_n (by omega), zup_n (by omega), zup_n (by omega)]⟩
          · refine za_bipush (pc := 49) (-13) dX6_sheet_49 (by decide) ?_
            refine za_ri (pc := 51) dX6_sheet_51 rfl rfl rfl ?_
            rw [spSheet, if_pos hk, if_neg c21, if_neg (by rw [fa_lt]; rw [fa_le] at c40; omega), if_pos (by rw [fa_lt]; rw [fa_le] at c46; omega)]
            exact ⟨rfl, h, fun _ _ => rfl⟩
        · refine za_iconst (pc := 43) (-1) dX6_sheet_43 (by decide) ?_
          refine za_ri (pc := 44) dX6_sheet_44 rfl rfl rfl ?_
          rw [spSheet, if_pos hk, if_neg c21, if_pos (by rw [fa_lt]; rw [fa_le] at c40; omega)]
          exact ⟨rfl, h, fun _ _ => rfl⟩
      · refine za_aload_n (pc := 24) dX6_sheet_24 rfl ?_
        refine za_getR (pc := 25) dX6_sheet_25 lk_X6_11 rfl rfl ?_
        refine za_iload_n (pc := 28) dX6_sheet_28 rfl ?_
        refine za_aald (pc := 29) dX6_sheet_29 rfl (vp_in_nI hj (by decide)) (SHa hj) ?_
        refine za_iconst (pc := 30) (-1) dX6_sheet_30 (by decide) ?_
        refine za_iconst (pc := 31) (0) dX6_sheet_31 (by decide) ?_
        refine za_cV2v (pc := 32) (μ' := mX4_become) dX6_sheet_32 c_X6_59 (SHb hj) rfl rfl ⟨rfl, rfl⟩ ⟨rfl, rfl⟩ rfl rfl rfl (tX4_become hj) (fun t_32 h_32 => ?_)
        have h9 := h_32.symm
        subst h9
        refine za_iconst (pc := 35) (0) dX6_sheet_35 (by decide) ?_
        refine za_ri (pc := 36) dX6_sheet_36 rfl rfl rfl ?_
        rw [spSheet, if_pos hk, if_pos c21, ej]
        exact ⟨rfl, XS_become (m := 0) h hj, fun c hc => by rw [zrow_n (by omega), zup_n (by omega), zup_n (by omega)]⟩
    · refine za_iconst (pc := 17) (-1) dX6_sheet_17 (by decide) ?_
      refine za_ri (pc := 18) dX6_sheet_18 rfl rfl rfl ?_
      rw [spSheet, if_neg (fun q => c14 q.2.2)]
      exact ⟨rfl, h, fun _ _ => rfl⟩
  · rw [if_neg h1]
    refine za_if_eq (pc := 4) 17 dX6_sheet_4 (by decide) (fun c4 => ?_) (fun c4 => ?_)
    · refine za_iconst (pc := 17) (-1) dX6_sheet_17 (by decide) ?_
      refine za_ri (pc := 18) dX6_sheet_18 rfl rfl rfl ?_
      rw [spSheet, if_neg (fun q => h1 q.1)]
      exact ⟨rfl, h, fun _ _ => rfl⟩
    · exact absurd rfl c4
theorem XS_frame {σ : zSt} {ss : Shs} {j : Nat} {f g : Nat → Int32} (h : XS σ ss) (hj : j < 6) (hf : ∀ i, i < 16 → g i = f i) : XS (zrow σ (36 + 2 * j) g) (ss.1, ss.2.1, va_up ss.2.2 j f) := by
  intro q hq
  obtain ⟨h1, h2, h3⟩ := h q hq
  refine ⟨?_, ?_, fun i hi => ?_⟩
  · rw [zrow_n (by omega)]; exact h1
  · rw [zrow_n (by omega)]; exact h2
  · by_cases e : q = j
    · subst e
      rw [zrow_s, hf i hi]; simp [va_up]
    · rw [zrow_n (by omega)]; simp only [va_up, if_neg e]; exact h3 i hi
theorem tX6_put {σ : zSt} {ss : Shs} {r i v : Int32} (h : XS σ ss) (ho : SO ss) : zI mX6_put [.ref 0, .int r, .int i, .int v] SH σ (fun x t => x = (spPut r i v ss).1 ∧ XS t (spPut r i v ss).2 ∧ ∀ c, c < 35 ∨ 47 ≤ c → t c = σ c) := by
  refine zI_of (ls := [some (.ref 0), some (.int r), some (.int i), some (.int v), none]) (by decide) rfl rfl ?_
  refine za_iload_n (pc := 0) dX6_put_0 rfl ?_
  refine za_cS1i (pc := 1) (μ' := mX6_isSheet) dX6_put_1 c_X6_55 rfl ⟨rfl, rfl⟩ ⟨rfl, rfl⟩ rfl rfl rfl (tX6_isSheet) (fun x_1 t_1 h_1 => ?_)
  obtain ⟨rfl, h9⟩ := h_1
  have h9 := h9.symm
  subst h9
  by_cases h1 : 0 ≤ r ∧ r < 6
  · rw [if_pos h1]
    refine za_if_ne (pc := 4) 9 dX6_put_4 (by decide) (fun c4 => ?_) (fun c4 => ?_)
    · obtain ⟨j, hj, rfl⟩ := isSh_ix h1
      have ej : (nI j).toNatClampNeg = j := nI_clamp (by omega)
      obtain ⟨k1, k2, k3⟩ := h j hj
      have hsz := (ho j hj).1
      have hb := SHb hj
      have hol : zokv SH.length (.ref (35 + 2 * j)) = true := zokR (by omega)
      refine za_aload_n (pc := 9) dX6_put_9 rfl ?_
      refine za_getR (pc := 10) dX6_put_10 lk_X6_11 rfl rfl ?_
      refine za_iload_n (pc := 13) dX6_put_13 rfl ?_
      refine za_aald (pc := 14) dX6_put_14 rfl (vp_in_nI hj (by decide)) (SHa hj) ?_
      refine za_as4 (pc := 15) dX6_put_15 rfl ?_
      refine za_aload (pc := 17) dX6_put_17 rfl ?_
      refine za_cV0i (pc := 19) (μ' := mX4_isMissing) dX6_put_19 c_X6_63 hb rfl rfl ⟨rfl, rfl⟩ ⟨rfl, rfl⟩ rfl (by simp [zokS, zokI, zokR, hol]) rfl (tX4_isMissing hj) (fun x_19 t_19 h_19 => ?_)
      obtain ⟨rfl, h9⟩ := h_19
      have h9 := h9.symm
      subst h9
      by_cases hm : ss.1 j = -1
      · rw [if_pos (k1.trans hm)]
        refine za_if_eq (pc := 22) 28 dX6_put_22 (by decide) (fun c22 => ?_) (fun c22 => ?_)
        · exact absurd c22 (by decide)
        · refine za_bipush (pc := 25) (-11) dX6_put_25 (by decide) ?_
          refine za_ri (pc := 27) dX6_put_27 rfl rfl rfl ?_
          rw [spPut, if_pos h1, ej, if_pos hm]
          exact ⟨rfl, h, fun _ _ => rfl⟩
      · rw [if_neg (fun q => hm (k1.symm.trans q))]
        refine za_if_eq (pc := 22) 28 dX6_put_22 (by decide) (fun c22 => ?_) (fun c22 => ?_)
        · refine za_aload (pc := 28) dX6_put_28 rfl ?_
          refine za_iload_n (pc := 30) dX6_put_30 rfl ?_
          refine za_iconst (pc := 31) (1) dX6_put_31 (by decide) ?_
          refine za_cV2i (pc := 32) (μ' := mX4_hasPlaces) dX6_put_32 c_X6_67 hb rfl rfl ⟨rfl, rfl⟩ ⟨rfl, rfl⟩ rfl (by simp [zokS, zokI, zokR, hol]) rfl (tX4_hasPlaces hj k2 hsz) (fun x_32 t_32 h_32 => ?_)
          obtain ⟨rfl, h9⟩ := h_32
          have h9 := h9.symm
          subst h9
          have e1 : (1 : Int32).toInt = 1 := rfl
          by_cases hi : 0 ≤ i.toInt ∧ i.toInt < ss.2.1 j
          · rw [if_pos (by rw [e1]; omega)]
            refine za_if_ne (pc := 35) 41 dX6_put_35 (by decide) (fun c35 => ?_) (fun c35 => ?_)
            · obtain ⟨q, hq, rfl⟩ := vp_in_of (vp_in_iff.mpr hi) (by omega)
              refine za_aload (pc := 41) dX6_put_41 rfl ?_
              refine za_iload_n (pc := 43) dX6_put_43 rfl ?_
              refine za_iload_n (pc := 44) dX6_put_44 rfl ?_
              refine za_cV2v (pc := 45) (μ' := mX4_write) dX6_put_45 c_X6_71 hb rfl rfl ⟨rfl, rfl⟩ ⟨rfl, rfl⟩ rfl (by simp [zokS, zokI, zokR, hol]) rfl (tX4_write hj (Nat.lt_of_lt_of_le hq hsz)) (fun t_45 h_45 => ?_)
              have h9 := h_45.symm
              subst h9
              refine za_iconst (pc := 48) (0) dX6_put_48 (by decide) ?_
              refine za_ri (pc := 49) dX6_put_49 rfl rfl rfl ?_
              rw [spPut, if_pos h1, ej, if_neg hm, if_pos hi, nI_clamp (by omega), k1]
              refine ⟨rfl, XS_frame h hj (fun i hi => ?_), fun c hc => zup_n (by omega)⟩
              unfold upd
              rw [k3 i hi]
            · exact absurd c35 (by decide)
          · rw [if_neg (by rw [e1]; omega)]
            refine za_if_ne (pc := 35) 41 dX6_put_35 (by decide) (fun c35 => ?_) (fun c35 => ?_)
            · exact absurd rfl c35
            · refine za_bipush (pc := 38) (-12) dX6_put_38 (by decide) ?_
              refine za_ri (pc := 40) dX6_put_40 rfl rfl rfl ?_
              rw [spPut, if_pos h1, ej, if_neg hm, if_neg hi]
              exact ⟨rfl, h, fun _ _ => rfl⟩
        · exact absurd rfl c22
    · exact absurd c4 (by decide)
  · rw [if_neg h1]
    refine za_if_ne (pc := 4) 9 dX6_put_4 (by decide) (fun c4 => ?_) (fun c4 => ?_)
    · exact absurd rfl c4
    · refine za_iconst (pc := 7) (-1) dX6_put_7 (by decide) ?_
      refine za_ri (pc := 8) dX6_put_8 rfl rfl rfl ?_
      rw [spPut, if_neg h1]
      exact ⟨rfl, h, fun _ _ => rfl⟩
theorem tX6_told {σ : zSt} {ss : Shs} {r i : Int32} (h : XS σ ss) (ho : SO ss) : zJ mX6_told [.ref 0, .int r, .int i] SH σ (fun x t => x = spTold r i ss ∧ t = σ) := by
  refine zJ_of (ls := [some (.ref 0), some (.int r), some (.int i), none]) (by decide) rfl rfl ?_
  refine za_iload_n (pc := 0) dX6_told_0 rfl ?_
  refine za_cS1i (pc := 1) (μ' := mX6_isSheet) dX6_told_1 c_X6_55 rfl ⟨rfl, rfl⟩ ⟨rfl, rfl⟩ rfl rfl rfl (tX6_isSheet) (fun x_1 t_1 h_1 => ?_)
  obtain ⟨rfl, h9⟩ := h_1
  have h9 := h9.symm
  subst h9
  by_cases h1 : 0 ≤ r ∧ r < 6
  · rw [if_pos h1]
    refine za_if_ne (pc := 4) 11 dX6_told_4 (by decide) (fun c4 => ?_) (fun c4 => ?_)
    · obtain ⟨j, hj, rfl⟩ := isSh_ix h1
      have ej : (nI j).toNatClampNeg = j := nI_clamp (by omega)
      obtain ⟨k1, k2, k3⟩ := h j hj
      have hsz := (ho j hj).1
      have hb := SHb hj
      have hol : zokv SH.length (.ref (35 + 2 * j)) = true := zokR (by omega)
      refine za_aload_n (pc := 11) dX6_told_11 rfl ?_
      refine za_getR (pc := 12) dX6_told_12 lk_X6_11 rfl rfl ?_
      refine za_iload_n (pc := 15) dX6_told_15 rfl ?_
      refine za_aald (pc := 16) dX6_told_16 rfl (vp_in_nI hj (by decide)) (SHa hj) ?_
      refine za_as3n (pc := 17) dX6_told_17 rfl ?_
      refine za_aload_n (pc := 18) dX6_told_18 rfl ?_
      refine za_cV0i (pc := 19) (μ' := mX4_isMissing) dX6_told_19 c_X6_63 hb rfl rfl ⟨rfl, rfl⟩ ⟨rfl, rfl⟩ rfl (by simp [zokS, zokI, zokR, hol]) rfl (tX4_isMissing hj) (fun x_19 t_19 h_19 => ?_)
      obtain ⟨rfl, h9⟩ := h_19
      have h9 := h9.symm
      subst h9
      by_cases hm : ss.1 j = -1
      · rw [if_pos (k1.trans hm)]
        refine za_if_eq (pc := 22) 29 dX6_told_22 (by decide) (fun c22 => ?_) (fun c22 => ?_)
        · exact absurd c22 (by decide)
        · refine za_ldc2_w (pc := 25) (10000000011) dX6_told_25 k_X6_90 ?_
          refine za_rl (pc := 28) dX6_told_28 rfl rfl rfl ?_
          rw [spTold, if_pos h1, ej, if_pos hm]
          exact ⟨rfl, rfl⟩
      · rw [if_neg (fun q => hm (k1.symm.trans q))]
        refine za_if_eq (pc := 22) 29 dX6_told_22 (by decide) (fun c22 => ?_) (fun c22 => ?_)
        · refine za_aload_n (pc := 29) dX6_told_29 rfl ?_
          refine za_iload_n (pc := 30) dX6_told_30 rfl ?_
          refine za_iconst (pc := 31) (1) dX6_told_31 (by decide) ?_
          refine za_cV2i (pc := 32) (μ' := mX4_hasPlaces) dX6_told_32 c_X6_67 hb rfl rfl ⟨rfl, rfl⟩ ⟨rfl, rfl⟩ rfl (by simp [zokS, zokI, zokR, hol]) rfl (tX4_hasPlaces hj k2 hsz) (fun x_32 t_32 h_32 => ?_)
          obtain ⟨rfl, h9⟩ := h_32
          have h9 := h9.symm
          subst h9
          have e1 : (1 : Int32).toInt = 1 := rfl
          by_cases hi : 0 ≤ i.toInt ∧ i.toInt < ss.2.1 j
          · rw [if_pos (by rw [e1]; omega)]
            refine za_if_eq (pc := 35) 48 dX6_told_35 (by decide) (fun c35 => ?_) (fun c35 => ?_)
            · exact absurd c35 (by decide)
            · obtain ⟨q, hq, rfl⟩ := vp_in_of (vp_in_iff.mpr hi) (by omega)
              refine za_aload_n (pc := 38) dX6_told_38 rfl ?_
              refine za_getR (pc := 39) dX6_told_39 lk_X6_78 hb rfl ?_
              refine za_iload_n (pc := 42) dX6_told_42 rfl ?_
              refine za_iald (pc := 43) dX6_told_43 (SHr hj) (vp_in_nI (show q < 16 by omega) (by decide)) ?_
              refine za_i2l (pc := 44) dX6_told_44 ?_
              refine za_goto (pc := 45) 51 dX6_told_45 (by decide) ?_
              refine za_rl (pc := 51) dX6_told_51 rfl rfl rfl ?_
              rw [spTold, if_pos h1, ej, if_neg hm, if_pos hi, nI_clamp (by omega), k3 q (by omega)]
              exact ⟨rfl, rfl⟩
          · rw [if_neg (by rw [e1]; omega)]
            refine za_if_eq (pc := 35) 48 dX6_told_35 (by decide) (fun c35 => ?_) (fun c35 => ?_)
            · refine za_ldc2_w (pc := 48) (10000000012) dX6_told_48 k_X6_92 ?_
              refine za_rl (pc := 51) dX6_told_51 rfl rfl rfl ?_
              rw [spTold, if_pos h1, ej, if_neg hm, if_neg hi]
              exact ⟨rfl, rfl⟩
            · exact absurd rfl c35
        · exact absurd rfl c22
    · exact absurd c4 (by decide)
  · rw [if_neg h1]
    refine za_if_ne (pc := 4) 11 dX6_told_4 (by decide) (fun c4 => ?_) (fun c4 => ?_)
    · exact absurd rfl c4
    · refine za_ldc2_w (pc := 7) (10000000001) dX6_told_7 k_X6_88 ?_
      refine za_rl (pc := 10) dX6_told_10 rfl rfl rfl ?_
      rw [spTold, if_neg h1]
      exact ⟨rfl, rfl⟩
