/-! THE DAY of the reference -/
theorem zm_rdy {r : Nat → Nat → Bool} {left : Nat → Bool} {a : Nat} : (zmask (r a) &&& zmask left = 0) ↔ rdy r left a = true := by
  rw [zm_and, zm_z]
  unfold rdy
  rw [Bool.not_eq_true', anyb_f]
theorem pkB_ne {b : Nat} (h : b < 10) : pkB (some b) ≠ -3 := by
  intro q
  have q : nI b = -3 := q
  rw [fa_eq, nI_toInt (by omega)] at q
  have : ((-3 : Int32)).toInt = -3 := rfl
  omega
theorem tX7_greatest {σ : zSt} {n : Nat} {r : Nat → Nat → Bool} {lab : Nat → Nat} {set left : Nat → Bool} (hn : n ≤ 10) (hj : σ 47 3 = nI n) (hr : ∀ a, a < n → σ 59 a = zmask (r a)) (hl : ∀ a, a < n → σ 61 a = nI (lab a) ∧ lab a ≤ 10) : zI mX7_greatest [.ref 47, .int (zmask set), .int (zmask left)] SH σ (fun x t => x = pkB (grt r lab set left n) ∧ t = σ) := by
  refine zI_of (ls := [some (.ref 47), some (.int (zmask set)), some (.int (zmask left)), none, none]) (by decide) rfl rfl ?_
  refine za_bipush (pc := 0) (-3) dX7_greatest_0 (by decide) ?_
  refine za_is3n (pc := 2) dX7_greatest_2 rfl ?_
  refine za_iconst (pc := 3) (0) dX7_greatest_3 (by decide) ?_
  refine za_is4 (pc := 4) dX7_greatest_4 rfl ?_
  have loop : ∀ (q k : Nat), k + q = n → zA (zZ mX7_greatest (zQI SH (fun x t => x = pkB (grt r lab set left n) ∧ t = σ))) mX7_greatest none 0 0 6 [some (.ref 47), some (.int (zmask set)), some (.int (zmask left)), some (.int (pkB (grt r lab set left k))), some (.int (nI k))] [] SH σ := by
    intro q
    induction q with
    | zero =>
      intro k hk
      refine za_iload (pc := 6) dX7_greatest_6 rfl ?_
      refine za_aload_n (pc := 8) dX7_greatest_8 rfl ?_
      refine za_getI (pc := 9) dX7_greatest_9 lk_X7_91 rfl rfl ?_
      rw [hj]
      refine za_icmp_ge (pc := 12) 68 dX7_greatest_12 (by decide) (fun c5 => ?_) (fun c5 => ?_)
      · refine za_iload_n (pc := 68) dX7_greatest_68 rfl ?_
        refine za_ri (pc := 69) dX7_greatest_69 rfl rfl rfl ?_
        rw [show k = n by omega]
        exact ⟨rfl, rfl⟩
      · exact absurd (nI_le (show n ≤ k by omega) (by omega)) c5
    | succ q ih =>
      intro k hk
      have hkn : k < n := by omega
      have vk : vp_in (nI k) 10 := vp_in_nI (by omega) (by decide)
      have ek : (nI k).toNatClampNeg = k := nI_clamp (by omega)
      have skip : grt r lab set left (k + 1) = grt r lab set left k → zA (zZ mX7_greatest (zQI SH (fun x t => x = pkB (grt r lab set left n) ∧ t = σ))) mX7_greatest none 0 0 62 [some (.ref 47), some (.int (zmask set)), some (.int (zmask left)), some (.int (pkB (grt r lab set left k))), some (.int (nI k))] [] SH σ := by
        intro e
        refine za_ii4 (pc := 62) (1) dX7_greatest_62 (by decide) rfl ?_
        refine za_goto (pc := 65) 6 dX7_greatest_65 (by decide) ?_
        rw [nI_1]
        have := ih (k + 1) (by omega)
        rw [e] at this
        exact this
      have no : (set k && rdy r left k) = false → grt r lab set left (k + 1) = grt r lab set left k := by
        intro hc
        show (match grt r lab set left k with | none => if (set k && rdy r left k) = true then some k else none | some b => if (set k && rdy r left k) = true ∧ lab b < lab k then some k else some b) = _
        rw [hc]
        cases grt r lab set left k <;> simp
      refine za_iload (pc := 6) dX7_greatest_6 rfl ?_
      refine za_aload_n (pc := 8) dX7_greatest_8 rfl ?_
      refine za_getI (pc := 9) dX7_greatest_9 lk_X7_91 rfl rfl ?_
      rw [hj]
      refine za_icmp_ge (pc := 12) 68 dX7_greatest_12 (by decide) (fun c5 => ?_) (fun c5 => ?_)
      · exact absurd c5 (nI_ge (show k < n by omega) (by omega))
      · refine za_iload_n (pc := 15) dX7_greatest_15 rfl ?_
        refine za_iload (pc := 16) dX7_greatest_16 rfl ?_
        refine za_ishr (pc := 18) dX7_greatest_18 ?_
        refine za_iconst (pc := 19) (1) dX7_greatest_19 (by decide) ?_
        refine za_iand (pc := 20) dX7_greatest_20 ?_
        refine za_iconst (pc := 21) (1) dX7_greatest_21 (by decide) ?_
        rw [zm_sr (by omega)]
        by_cases h1 : set k = true
        · rw [if_pos h1]
          refine za_icmp_ne (pc := 22) 62 dX7_greatest_22 (by decide) (fun c22 => ?_) (fun c22 => ?_)
          · exact absurd rfl c22
          refine za_aload_n (pc := 25) dX7_greatest_25 rfl ?_
          refine za_getR (pc := 26) dX7_greatest_26 lk_X7_43 rfl rfl ?_
          refine za_iload (pc := 29) dX7_greatest_29 rfl ?_
          refine za_iald (pc := 31) dX7_greatest_31 rfl vk ?_
          refine za_iload_n (pc := 32) dX7_greatest_32 rfl ?_
          refine za_iand (pc := 33) dX7_greatest_33 ?_
          rw [ek, hr k hkn]
          refine za_if_ne (pc := 34) 62 dX7_greatest_34 (by decide) (fun c34 => ?_) (fun c34 => ?_)
          · rw [zm_rdy] at c34
            refine skip (no ?_)
            rw [h1, Bool.true_and]
            exact Bool.eq_false_iff.mpr c34
          · rw [zm_rdy] at c34
            have hc : (set k && rdy r left k) = true := by rw [h1, c34]; rfl
            have take : grt r lab set left (k + 1) = some k → ∀ x, zA (zZ mX7_greatest (zQI SH (fun x t => x = pkB (grt r lab set left n) ∧ t = σ))) mX7_greatest none 0 0 59 [some (.ref 47), some (.int (zmask set)), some (.int (zmask left)), some (.int x), some (.int (nI k))] [] SH σ := by
              intro e x
              refine za_iload (pc := 59) dX7_greatest_59 rfl ?_
              refine za_is3n (pc := 61) dX7_greatest_61 rfl ?_
              refine za_ii4 (pc := 62) (1) dX7_greatest_62 (by decide) rfl ?_
              refine za_goto (pc := 65) 6 dX7_greatest_65 (by decide) ?_
              rw [nI_1]
              have := ih (k + 1) (by omega)
              rw [e] at this
              exact this
            cases hp : grt r lab set left k with
            | none =>
              refine za_iload_n (pc := 37) dX7_greatest_37 rfl ?_
              refine za_bipush (pc := 38) (-3) dX7_greatest_38 (by decide) ?_
              refine za_icmp_eq (pc := 40) 59 dX7_greatest_40 (by decide) (fun c40 => ?_) (fun c40 => ?_)
              · refine take ?_ _
                show (match grt r lab set left k with | none => if (set k && rdy r left k) = true then some k else none | some b => if (set k && rdy r left k) = true ∧ lab b < lab k then some k else some b) = _
                rw [hp]
                simp only [hc, if_true]
              · exact absurd rfl c40
            | some b =>
              have hbk := (grt_some hp).1
              have vb : vp_in (nI b) 10 := vp_in_nI (by omega) (by decide)
              have eb : (nI b).toNatClampNeg = b := nI_clamp (by omega)
              obtain ⟨l1, l2⟩ := hl k hkn
              obtain ⟨m1, m2⟩ := hl b (by omega)
              rw [show pkB (some b) = nI b from rfl]
              refine za_iload_n (pc := 37) dX7_greatest_37 rfl ?_
              refine za_bipush (pc := 38) (-3) dX7_greatest_38 (by decide) ?_
              refine za_icmp_eq (pc := 40) 59 dX7_greatest_40 (by decide) (fun c40 => ?_) (fun c40 => ?_)
              · exact absurd c40 (pkB_ne (by omega))
              · refine za_aload_n (pc := 43) dX7_greatest_43 rfl ?_
                refine za_getR (pc := 44) dX7_greatest_44 lk_X7_49 rfl rfl ?_
                refine za_iload (pc := 47) dX7_greatest_47 rfl ?_
                refine za_iald (pc := 49) dX7_greatest_49 rfl vk ?_
                refine za_aload_n (pc := 50) dX7_greatest_50 rfl ?_
                refine za_getR (pc := 51) dX7_greatest_51 lk_X7_49 rfl rfl ?_
                refine za_iload_n (pc := 54) dX7_greatest_54 rfl ?_
                refine za_iald (pc := 55) dX7_greatest_55 rfl vb ?_
                rw [ek, eb, l1, m1]
                refine za_icmp_le (pc := 56) 62 dX7_greatest_56 (by decide) (fun c56 => ?_) (fun c56 => ?_)
                · rw [nI_leI (by omega) (by omega)] at c56
                  have := skip (by
                    show (match grt r lab set left k with | none => if (set k && rdy r left k) = true then some k else none | some b => if (set k && rdy r left k) = true ∧ lab b < lab k then some k else some b) = _
                    rw [hp]
                    simp only
                    rw [if_neg (fun q => by omega)])
                  rw [hp] at this
                  exact this
                · rw [nI_leI (by omega) (by omega)] at c56
                  refine take ?_ _
                  show (match grt r lab set left k with | none => if (set k && rdy r left k) = true then some k else none | some b => if (set k && rdy r left k) = true ∧ lab b < lab k then some k else some b) = _
                  rw [hp]
                  simp only
                  rw [if_pos ⟨hc, by omega⟩]
        · rw [if_neg h1]
          refine za_icmp_ne (pc := 22) 62 dX7_greatest_22 (by decide) (fun c22 => ?_) (fun c22 => ?_)
          · refine skip (no ?_)
            simp at h1
            rw [h1]; rfl
          · exact absurd c22 (by decide)
  exact loop n 0 (by omega)
/-- what layDay leaves -/
def MDay (t : zSt) (n : Nat) (r : Nat → Nat → Bool) (s : Nat → Bool) : Prop := (∀ a, a < n → t 59 a = zmask (r a)) ∧ (∀ a, a < 10 → t 61 a = nI (lbl n r s a)) ∧ (∀ a, a < 10 → t 62 a = nI (hrD n r (lbl n r s) s a)) ∧ t 47 19 = nI (lenD n r (lbl n r s) s)
def FMD (t σ : zSt) : Prop := (∀ d, d ≠ 47 → d ≠ 59 → d ≠ 61 → d ≠ 62 → t d = σ d) ∧ ∀ i, i ≠ 19 → t 47 i = σ 47 i
theorem tX7_layDay {σ : zSt} {n : Nat} {w : Nat → Nat → Bool} {s : Nat → Bool} (ho : Ord n (wR w n)) (hn : n ≤ 10) (hs : ∀ a, a < 16 → s a = true → a < n) (hj : σ 47 3 = nI n) (hw : ∀ a, a < n → σ 55 a = zmask (w a)) : zV mX7_layDay [.ref 47, .int (zmask s)] SH σ (fun t => MDay t n (wR w n) s ∧ FMD t σ) := by
  generalize hr : wR w n = r at *
  refine zV_of (ls := [some (.ref 47), some (.int (zmask s)), none, none, none, none]) (by decide) rfl rfl ?_
  refine za_aload_n (pc := 0) dX7_layDay_0 rfl ?_
  refine za_cV0v (pc := 1) (μ' := mX7_layBehind) dX7_layDay_1 c_X7_115 rfl rfl rfl ⟨rfl, rfl⟩ ⟨rfl, rfl⟩ rfl rfl rfl (tX7_layBehind hn hj hw) (fun t_1 h_1 => ?_)
  obtain ⟨q1, q2, -⟩ := h_1
  rw [hr] at q2
  refine za_aload_n (pc := 4) dX7_layDay_4 rfl ?_
  refine za_iload_n (pc := 5) dX7_layDay_5 rfl ?_
  refine za_cV1v (pc := 6) (μ' := mX7_layLabels) dX7_layDay_6 c_X7_142 rfl rfl rfl ⟨rfl, rfl⟩ ⟨rfl, rfl⟩ rfl rfl rfl (tX7_layLabels (r := r) ho hn hs (by rw [q1 47 (by decide)]; exact hj) q2) (fun t_6 h_6 => ?_)
  obtain ⟨l1, l2⟩ := h_6
  refine za_iload_n (pc := 9) dX7_layDay_9 rfl ?_
  refine za_is2n (pc := 10) dX7_layDay_10 rfl ?_
  refine za_aload_n (pc := 11) dX7_layDay_11 rfl ?_
  refine za_iconst (pc := 12) (0) dX7_layDay_12 (by decide) ?_
  refine za_putI (pc := 13) dX7_layDay_13 lp_X7_146 rfl rfl ?_
  refine za_iconst (pc := 16) (0) dX7_layDay_16 (by decide) ?_
  refine za_is3n (pc := 17) dX7_layDay_17 rfl ?_
  have hN : cnt (fun a => s a) n ≤ 10 := Nat.le_trans (cnt_le _ n) hn
  generalize hlab : lbl n r s = lab at *
  have lab10 : ∀ a, lab a ≤ 10 := fun a => by have := lbl_le (s := s) ho a; rw [hlab] at this; omega
  have base : ∃ σ0 : zSt, σ0 = zup t_6 47 19 0 := ⟨_, rfl⟩
  obtain ⟨σ0, hσ0⟩ := base
  rw [← hσ0]
  have b59 : ∀ a, a < n → σ0 59 a = zmask (r a) := fun a ha => by rw [hσ0, zup_n (by decide), l1 59 (by decide)]; exact q2 a ha
  have b61 : ∀ a, a < 10 → σ0 61 a = nI (lab a) := fun a ha => by rw [hσ0, zup_n (by decide)]; exact l2 a ha
  have bO : ∀ d, d ≠ 47 → d ≠ 59 → d ≠ 61 → σ0 d = σ d := fun d h47 h59 h61 => by rw [hσ0, zup_n h47, l1 d h61, q1 d h59]
  have b47 : ∀ i, i ≠ 19 → σ0 47 i = σ 47 i := fun i hi => by rw [hσ0, zup_b hi, l1 47 (by decide), q1 47 (by decide)]
  have b19 : σ0 47 19 = 0 := by rw [hσ0, zup_a]
  have bj : σ0 47 3 = nI n := by rw [b47 3 (by decide)]; exact hj
  -- after h hours
  have outer : ∀ (q h : Nat) (σ1 : zSt), h + q = lenD n r lab s → (∀ d, d ≠ 47 → d ≠ 62 → σ1 d = σ0 d) → (∀ i, i ≠ 19 → σ1 47 i = σ0 47 i) → σ1 47 19 = nI h → (∀ x, x < 10 → σ1 62 x = if lfs n r lab s h x = true then 0 else nI (hrD n r lab s x)) → zA (zZ mX7_layDay (zQV SH (fun t => MDay t n r s ∧ FMD t σ))) mX7_layDay none 0 0 37 [some (.ref 47), some (.int (zmask s)), some (.int (zmask (lfs n r lab s h))), none, none, none] [] SH σ1 := by
    intro q
    induction q with
    | zero =>
      intro h σ1 hh g1 g2 g3 g4
      have hz : ∀ x, lfs n r lab s h x = false := by
        intro x
        cases hx : lfs n r lab s h x with
        | false => rfl
        | true =>
          have := (lenD_iff (lab := lab) (s := s) ho).mp (anyb_iff.mpr ⟨x, (lfs_in hx).1, hx⟩)
          omega
      refine za_iload_n (pc := 37) dX7_layDay_37 rfl ?_
      refine za_if_eq (pc := 38) 148 dX7_layDay_38 (by decide) (fun c38 => ?_) (fun c38 => ?_)
      · refine za_rv (pc := 148) dX7_layDay_148 rfl rfl rfl ?_
        refine ⟨⟨fun a ha => by rw [g1 59 (by decide) (by decide)]; exact b59 a ha, fun a ha => by rw [g1 61 (by decide) (by decide), hlab]; exact b61 a ha, fun a ha => by rw [hlab, g4 a ha, hz a]; rfl, by rw [g3, hlab]; congr 1⟩, fun d h47 h59 h61 h62 => by rw [g1 d h47 h62]; exact bO d h47 h59 h61, fun i hi => by rw [g2 i hi]; exact b47 i hi⟩
      · exact absurd (zm_z.mpr (fun i _ => hz i)) c38
    | succ q ih =>
      intro h σ1 hh g1 g2 g3 g4
      have hlen := lenD_le (n := n) (r := r) (lab := lab) (s := s)
      obtain ⟨x0, hx0, hx1⟩ := anyb_iff.mp ((lenD_iff (lab := lab) (s := s) (h := h) ho).mpr (by omega))
      obtain ⟨a, ha1, ha2, ha3⟩ := fst_ex (lab := lab) ho (fun x hx => (lfs_in hx).1) hx1
      have han := (lfs_in ha2).1
      have va : vp_in (nI a) 10 := vp_in_nI (by omega) (by decide)
      have ea : (nI a).toNatClampNeg = a := nI_clamp (by omega)
      have hcond : ∀ (σ9 : zSt), (∀ d, d ≠ 47 → d ≠ 62 → σ9 d = σ0 d) → (∀ i, i ≠ 19 → σ9 47 i = σ0 47 i) → (σ9 47 3 = nI n) ∧ (∀ a, a < n → σ9 59 a = zmask (r a)) ∧ ∀ a, a < n → σ9 61 a = nI (lab a) ∧ lab a ≤ 10 := fun σ9 k1 k2 => ⟨by rw [k2 3 (by decide)]; exact bj, fun a ha => by rw [k1 59 (by decide) (by decide)]; exact b59 a ha, fun a ha => ⟨by rw [k1 61 (by decide) (by decide)]; exact b61 a (by omega), lab10 a⟩⟩
      refine za_iload_n (pc := 37) dX7_layDay_37 rfl ?_
      refine za_if_eq (pc := 38) 148 dX7_layDay_38 (by decide) (fun c38 => ?_) (fun c38 => ?_)
      · rw [zm_z] at c38
        rw [c38 a (by omega)] at ha2; cases ha2
      · refine za_aload_n (pc := 41) dX7_layDay_41 rfl ?_
        refine za_dup (pc := 42) dX7_layDay_42 rfl ?_
        refine za_getI (pc := 43) dX7_layDay_43 lk_X7_146 rfl rfl ?_
        refine za_iconst (pc := 46) (1) dX7_layDay_46 (by decide) ?_
        refine za_iadd (pc := 47) dX7_layDay_47 ?_
        refine za_putI (pc := 48) dX7_layDay_48 lp_X7_146 rfl rfl ?_
        rw [g3, nI_1]
        have k1 : ∀ d, d ≠ 47 → d ≠ 62 → zup σ1 47 19 (nI (h + 1)) d = σ0 d := fun d h47 h62 => by rw [zup_n h47]; exact g1 d h47 h62
        have k2 : ∀ i, i ≠ 19 → zup σ1 47 19 (nI (h + 1)) 47 i = σ0 47 i := fun i hi => by rw [zup_b hi]; exact g2 i hi
        refine za_aload_n (pc := 51) dX7_layDay_51 rfl ?_
        refine za_iload_n (pc := 52) dX7_layDay_52 rfl ?_
        refine za_iload_n (pc := 53) dX7_layDay_53 rfl ?_
        refine za_cV2i (pc := 54) (μ' := mX7_greatest) dX7_layDay_54 c_X7_149 rfl rfl rfl ⟨rfl, rfl⟩ ⟨rfl, rfl⟩ rfl rfl rfl (tX7_greatest (set := lfs n r lab s h) (left := lfs n r lab s h) hn (hcond _ k1 k2).1 (hcond _ k1 k2).2.1 (hcond _ k1 k2).2.2) (fun x_54 t_54 h_54 => ?_)
        obtain ⟨rfl, h9⟩ := h_54
        have h9 := h9.symm
        subst h9
        rw [show grt r lab (lfs n r lab s h) (lfs n r lab s h) n = some a from ha1, show pkB (some a) = nI a from rfl]
        refine za_is3n (pc := 57) dX7_layDay_57 rfl ?_
        refine za_aload_n (pc := 58) dX7_layDay_58 rfl ?_
        refine za_iload_n (pc := 59) dX7_layDay_59 rfl ?_
        refine za_iconst (pc := 60) (1) dX7_layDay_60 (by decide) ?_
        refine za_iload_n (pc := 61) dX7_layDay_61 rfl ?_
        refine za_ishl (pc := 62) dX7_layDay_62 ?_
        refine za_iconst (pc := 63) (-1) dX7_layDay_63 (by decide) ?_
        refine za_ixor (pc := 64) dX7_layDay_64 ?_
        rw [zm_1 (by omega)]
        refine za_iand (pc := 65) dX7_layDay_65 ?_
        refine za_iload_n (pc := 66) dX7_layDay_66 rfl ?_
        rw [zm_not]
        have erm : (fun i => lfs n r lab s h i && !decide (i = a)) = rmo (lfs n r lab s h) (fstD n r lab (lfs n r lab s h)) := by rw [ha1]; rfl
        rw [erm]
        refine za_cV2i (pc := 67) (μ' := mX7_greatest) dX7_layDay_67 c_X7_149 rfl rfl rfl ⟨rfl, rfl⟩ ⟨rfl, rfl⟩ rfl rfl rfl (tX7_greatest (set := rmo (lfs n r lab s h) (fstD n r lab (lfs n r lab s h))) (left := lfs n r lab s h) hn (hcond _ k1 k2).1 (hcond _ k1 k2).2.1 (hcond _ k1 k2).2.2) (fun x_67 t_67 h_67 => ?_)
        obtain ⟨rfl, h9⟩ := h_67
        have h9 := h9.symm
        subst h9
        rw [show grt r lab (rmo (lfs n r lab s h) (fstD n r lab (lfs n r lab s h))) (lfs n r lab s h) n = sndD n r lab (lfs n r lab s h) from rfl]
        generalize hb : sndD n r lab (lfs n r lab s h) = ob at *
        have elfs : lfs n r lab s (h + 1) = rmo (rmv (lfs n r lab s h) a) ob := by
          show rmo (rmo (lfs n r lab s h) (fstD n r lab (lfs n r lab s h))) (sndD n r lab (lfs n r lab s h)) = _
          rw [hb, ha1]; rfl
        -- the hours that come in this hour are those that leave
        have hhr : ∀ x, lfs n r lab s h x = true → lfs n r lab s (h + 1) x = false → hrD n r lab s x = h + 1 := by
          intro x h1 h2
          have e1 := (hrD_iff (lab := lab) (s := s) ho).mp h1
          have e2 : ¬ h + 1 < hrD n r lab s x := fun q => by
            have := (hrD_iff (lab := lab) (s := s) ho).mpr q
            rw [h2] at this; cases this
          omega
        have fin : ∀ σ2 : zSt, (∀ d, d ≠ 47 → d ≠ 62 → σ2 d = σ0 d) → (∀ i, i ≠ 19 → σ2 47 i = σ0 47 i) → σ2 47 19 = nI (h + 1) → (∀ x, x < 10 → σ2 62 x = if lfs n r lab s (h + 1) x = true then 0 else nI (hrD n r lab s x)) → ∀ y, zA (zZ mX7_layDay (zQV SH (fun t => MDay t n r s ∧ FMD t σ))) mX7_layDay none 0 0 100 [some (.ref 47), some (.int (zmask s)), some (.int (zmask (lfs n r lab s h))), some (.int (nI a)), some (.int y), none] [] SH σ2 := by
          intro σ2 e1 e2 e3 e4 y
          refine za_iconst (pc := 100) (0) dX7_layDay_100 (by decide) ?_
          refine za_is5 (pc := 101) dX7_layDay_101 rfl ?_
          have inner : ∀ (q k : Nat), k + q = n → zA (zZ mX7_layDay (zQV SH (fun t => MDay t n r s ∧ FMD t σ))) mX7_layDay none 0 0 103 [some (.ref 47), some (.int (zmask s)), some (.int (zmask (fun x => lfs n r lab s h x && !(decide (x < k) && !lfs n r lab s (h + 1) x)))), some (.int (nI a)), some (.int y), some (.int (nI k))] [] SH σ2 := by
            intro q
            induction q with
            | zero =>
              intro k hk
              refine za_iload (pc := 103) dX7_layDay_103 rfl ?_
              refine za_aload_n (pc := 105) dX7_layDay_105 rfl ?_
              refine za_getI (pc := 106) dX7_layDay_106 lk_X7_91 rfl rfl ?_
              rw [(hcond σ2 e1 e2).1]
              refine za_icmp_ge (pc := 109) 145 dX7_layDay_109 (by decide) (fun c5 => ?_) (fun c5 => ?_)
              · refine za_goto (pc := 145) 37 dX7_layDay_145 (by decide) ?_
                have em : zmask (fun x => lfs n r lab s h x && !(decide (x < k) && !lfs n r lab s (h + 1) x)) = zmask (lfs n r lab s (h + 1)) := by
                  apply zm_cong
                  intro x _
                  cases h1 : lfs n r lab s (h + 1) x with
                  | true => simp [lfs_le h1]
                  | false =>
                    cases h2 : lfs n r lab s h x with
                    | false => simp
                    | true =>
                      have := (lfs_in h2).1
                      simp
                      omega
                rw [em]
                exact za_fg (by simp [zSub]) (ih (h + 1) σ2 (by omega) e1 e2 e3 e4)
              · exact absurd (nI_le (show n ≤ k by omega) (by omega)) c5
            | succ q ihq =>
              intro k hk
              have vk : vp_in (nI k) 10 := vp_in_nI (by omega) (by decide)
              have ek : (nI k).toNatClampNeg = k := nI_clamp (by omega)
              have step : ∀ x : Int32, zmask (fun x => lfs n r lab s h x && !(decide (x < k) && !lfs n r lab s (h + 1) x)) &&& x = zmask (fun x => lfs n r lab s h x && !(decide (x < k + 1) && !lfs n r lab s (h + 1) x)) → zA (zZ mX7_layDay (zQV SH (fun t => MDay t n r s ∧ FMD t σ))) mX7_layDay none 0 0 137 [some (.ref 47), some (.int (zmask s)), some (.int (zmask (fun x => lfs n r lab s h x && !(decide (x < k) && !lfs n r lab s (h + 1) x)))), some (.int (nI a)), some (.int y), some (.int (nI k))] [.int x, .int (zmask (fun x => lfs n r lab s h x && !(decide (x < k) && !lfs n r lab s (h + 1) x)))] SH σ2 := by
                intro x hx
                refine za_iand (pc := 137) dX7_layDay_137 ?_
                refine za_is2n (pc := 138) dX7_layDay_138 rfl ?_
                refine za_ii5 (pc := 139) (1) dX7_layDay_139 (by decide) rfl ?_
                refine za_goto (pc := 142) 103 dX7_layDay_142 (by decide) ?_
                rw [nI_1, hx]
                exact ihq (k + 1) (by omega)
              refine za_iload (pc := 103) dX7_layDay_103 rfl ?_
              refine za_aload_n (pc := 105) dX7_layDay_105 rfl ?_
              refine za_getI (pc := 106) dX7_layDay_106 lk_X7_91 rfl rfl ?_
              rw [(hcond σ2 e1 e2).1]
              refine za_icmp_ge (pc := 109) 145 dX7_layDay_109 (by decide) (fun c5 => ?_) (fun c5 => ?_)
              · exact absurd c5 (nI_ge (show k < n by omega) (by omega))
              · refine za_iload_n (pc := 112) dX7_layDay_112 rfl ?_
                refine za_aload_n (pc := 113) dX7_layDay_113 rfl ?_
                refine za_getR (pc := 114) dX7_layDay_114 lk_X7_52 rfl rfl ?_
                refine za_iload (pc := 117) dX7_layDay_117 rfl ?_
                refine za_iald (pc := 119) dX7_layDay_119 rfl vk ?_
                refine za_aload_n (pc := 120) dX7_layDay_120 rfl ?_
                refine za_getI (pc := 121) dX7_layDay_121 lk_X7_146 rfl rfl ?_
                rw [ek, e3, e4 k (by omega)]
                refine za_icmp_ne (pc := 124) 136 dX7_layDay_124 (by decide) (fun c124 => ?_) (fun c124 => ?_)
                · refine za_iconst (pc := 136) (-1) dX7_layDay_136 (by decide) ?_
                  refine step _ ?_
                  have e5 : ∀ z : Int32, z &&& (-1) = z := fun z => b_ext (fun i hi => by rw [b_and, b_m1 hi, Bool.and_true])
                  rw [e5]
                  apply zm_cong
                  intro x _
                  by_cases hxk : x = k
                  · subst hxk
                    cases h1 : lfs n r lab s h x with
                    | false => rfl
                    | true =>
                      cases h2 : lfs n r lab s (h + 1) x with
                      | true => simp
                      | false =>
                        rw [h2, if_neg (by decide), hhr x h1 h2] at c124
                        exact absurd rfl c124
                  · congr 2
                    congr 1
                    simp
                    omega
                · have hlk : lfs n r lab s (h + 1) k = false := by
                    cases h1 : lfs n r lab s (h + 1) k with
                    | false => rfl
                    | true =>
                      rw [h1, if_pos rfl] at c124
                      exact absurd c124.symm (nI_ne0 (by omega) (by omega))
                  refine za_iconst (pc := 127) (1) dX7_layDay_127 (by decide) ?_
                  refine za_iload (pc := 128) dX7_layDay_128 rfl ?_
                  refine za_ishl (pc := 130) dX7_layDay_130 ?_
                  refine za_iconst (pc := 131) (-1) dX7_layDay_131 (by decide) ?_
                  refine za_ixor (pc := 132) dX7_layDay_132 ?_
                  refine za_goto (pc := 133) 137 dX7_layDay_133 (by decide) ?_
                  rw [zm_1 (by omega)]
                  refine step _ ?_
                  rw [zm_not]
                  apply zm_cong
                  intro x _
                  by_cases hxk : x = k
                  · subst hxk
                    simp [hlk]
                  · simp only [hxk, decide_false, Bool.not_false, Bool.and_true]
                    congr 2
                    congr 1
                    simp
                    omega
          have goal := inner n 0 (by omega)
          have em : zmask (fun x => lfs n r lab s h x && !(decide (x < 0) && !lfs n r lab s (h + 1) x)) = zmask (lfs n r lab s h) := zm_cong (fun x _ => by simp)
          rw [em] at goal
          exact goal
        have h62 : ∀ x, x < 10 → zup σ1 47 19 (nI (h + 1)) 62 x = if lfs n r lab s h x = true then 0 else nI (hrD n r lab s x) := fun x hx => by rw [zup_n (by decide)]; exact g4 x hx
        have ea9 : lfs n r lab s (h + 1) a = false := by
          rw [elfs]
          cases hq : rmo (rmv (lfs n r lab s h) a) ob a with
          | false => rfl
          | true =>
            have := rmo_le hq
            simp [rmv] at this
        refine za_is4 (pc := 70) dX7_layDay_70 rfl ?_
        refine za_aload_n (pc := 72) dX7_layDay_72 rfl ?_
        refine za_getR (pc := 73) dX7_layDay_73 lk_X7_52 rfl rfl ?_
        refine za_iload_n (pc := 76) dX7_layDay_76 rfl ?_
        refine za_aload_n (pc := 77) dX7_layDay_77 rfl ?_
        refine za_getI (pc := 78) dX7_layDay_78 lk_X7_146 rfl rfl ?_
        rw [show zup σ1 47 19 (nI (h + 1)) 47 19 = nI (h + 1) from zup_a]
        refine za_iast (pc := 81) dX7_layDay_81 rfl va ?_
        refine za_iload (pc := 82) dX7_layDay_82 rfl ?_
        refine za_bipush (pc := 84) (-3) dX7_layDay_84 (by decide) ?_
        rw [ea]
        cases hob : ob with
        | none =>
          refine za_icmp_eq (pc := 86) 100 dX7_layDay_86 (by decide) (fun c86 => ?_) (fun c86 => ?_)
          · refine fin _ (fun d h47 h62' => by rw [zup_n h62']; exact k1 d h47 h62') (fun i hi => by rw [zup_n (by decide)]; exact k2 i hi) (by rw [zup_n (by decide), zup_a]) (fun x hx => ?_) _
            by_cases hxa : x = a
            · rw [hxa, zup_a, ea9, if_neg (by decide), hhr a ha2 ea9]
            · rw [zup_b hxa, h62 x hx]
              have : lfs n r lab s (h + 1) x = lfs n r lab s h x := by rw [elfs, hob]; simp [rmo, rmv, hxa]
              rw [this]
          · exact absurd rfl c86
        | some b =>
          have hbs : grt r lab (rmo (lfs n r lab s h) (fstD n r lab (lfs n r lab s h))) (lfs n r lab s h) n = some b := by rw [← hob, ← hb]; rfl
          have hb2 : lfs n r lab s h b = true := by
            have := (grt_some hbs).2.1
            simp only [Bool.and_eq_true] at this
            exact rmo_le this.1
          have hbn := (lfs_in hb2).1
          have vb : vp_in (nI b) 10 := vp_in_nI (by omega) (by decide)
          have eb : (nI b).toNatClampNeg = b := nI_clamp (by omega)
          have eb9 : lfs n r lab s (h + 1) b = false := by
            rw [elfs, hob]
            simp [rmo, rmv]
          rw [show pkB (some b) = nI b from rfl]
          refine za_icmp_eq (pc := 86) 100 dX7_layDay_86 (by decide) (fun c86 => ?_) (fun c86 => ?_)
          · exact absurd c86 (pkB_ne (by omega))
          · refine za_aload_n (pc := 89) dX7_layDay_89 rfl ?_
            refine za_getR (pc := 90) dX7_layDay_90 lk_X7_52 rfl rfl ?_
            refine za_iload (pc := 93) dX7_layDay_93 rfl ?_
            refine za_aload_n (pc := 95) dX7_layDay_95 rfl ?_
            refine za_getI (pc := 96) dX7_layDay_96 lk_X7_146 rfl rfl ?_
            rw [show zup (zup σ1 47 19 (nI (h + 1))) 62 a (nI (h + 1)) 47 19 = nI (h + 1) from by rw [zup_n (by decide), zup_a]]
            refine za_iast (pc := 99) dX7_layDay_99 rfl vb ?_
            rw [eb]
            refine fin _ (fun d h47 h62' => by rw [zup_n h62', zup_n h62']; exact k1 d h47 h62') (fun i hi => by rw [zup_n (by decide), zup_n (by decide)]; exact k2 i hi) (by rw [zup_n (by decide), zup_n (by decide), zup_a]) (fun x hx => ?_) _
            by_cases hxb : x = b
            · rw [hxb, zup_a, eb9, if_neg (by decide), hhr b hb2 eb9]
            · rw [zup_b hxb]
              by_cases hxa : x = a
              · rw [hxa, zup_a, ea9, if_neg (by decide), hhr a ha2 ea9]
              · rw [zup_b hxa, h62 x hx]
                have : lfs n r lab s (h + 1) x = lfs n r lab s h x := by rw [elfs, hob]; simp [rmo, rmv, hxa, hxb]
                rw [this]
  have clear : ∀ (q a : Nat) (σ1 : zSt), a + q = 10 → (∀ d, d ≠ 62 → σ1 d = σ0 d) → (∀ x, x < a → σ1 62 x = 0) → zA (zZ mX7_layDay (zQV SH (fun t => MDay t n r s ∧ FMD t σ))) mX7_layDay none 0 0 18 [some (.ref 47), some (.int (zmask s)), some (.int (zmask s)), some (.int (nI a)), none, none] [] SH σ1 := by
    intro q
    induction q with
    | zero =>
      intro a σ1 ha g1 g2
      refine za_iload_n (pc := 18) dX7_layDay_18 rfl ?_
      refine za_bipush (pc := 19) (10) dX7_layDay_19 (by decide) ?_
      refine za_icmp_ge (pc := 21) 37 dX7_layDay_21 (by decide) (fun c => ?_) (fun c => ?_)
      · have e0 : zmask s = zmask (lfs n r lab s 0) := by
          apply zm_cong
          intro i hi
          show s i = (decide (i < n) && s i)
          cases hsi : s i with
          | false => simp
          | true => simp [hs i hi hsi]
        have goal := outer (lenD n r lab s) 0 σ1 (by omega) (fun d _ h62 => g1 d h62) (fun i _ => by rw [g1 47 (by decide)]) (by rw [g1 47 (by decide), b19]; rfl) (fun x hx => by
          rw [g2 x (by omega)]
          cases hh : lfs n r lab s 0 x with
          | true => rfl
          | false =>
            rw [if_neg (by decide)]
            have : ¬ 0 < hrD n r lab s x := fun q => by
              have := (hrD_iff (lab := lab) (s := s) ho).mpr q
              rw [hh] at this; cases this
            rw [show hrD n r lab s x = 0 by omega]; rfl)
        rw [← e0] at goal
        exact za_fg (by simp [zSub]) goal
      · exact absurd (nI_le (a := 10) (b := a) (by omega) (by omega)) c
    | succ q ih =>
      intro a σ1 ha g1 g2
      have va : vp_in (nI a) 10 := vp_in_nI (by omega) (by decide)
      have ea : (nI a).toNatClampNeg = a := nI_clamp (by omega)
      refine za_iload_n (pc := 18) dX7_layDay_18 rfl ?_
      refine za_bipush (pc := 19) (10) dX7_layDay_19 (by decide) ?_
      refine za_icmp_ge (pc := 21) 37 dX7_layDay_21 (by decide) (fun c => ?_) (fun c => ?_)
      · exact absurd c (nI_ge (a := a) (b := 10) (by omega) (by omega))
      · refine za_aload_n (pc := 24) dX7_layDay_24 rfl ?_
        refine za_getR (pc := 25) dX7_layDay_25 lk_X7_52 rfl rfl ?_
        refine za_iload_n (pc := 28) dX7_layDay_28 rfl ?_
        refine za_iconst (pc := 29) (0) dX7_layDay_29 (by decide) ?_
        refine za_iast (pc := 30) dX7_layDay_30 rfl va ?_
        refine za_ii3 (pc := 31) (1) dX7_layDay_31 (by decide) rfl ?_
        refine za_goto (pc := 34) 18 dX7_layDay_34 (by decide) ?_
        rw [nI_1, ea]
        refine ih (a + 1) _ (by omega) (fun d hd => by rw [zup_n hd]; exact g1 d hd) (fun x hx => ?_)
        by_cases e : x = a
        · rw [e, zup_a]
        · rw [zup_b e]; exact g2 x (by omega)
  exact clear 10 0 σ0 (by omega) (fun _ _ => rfl) (fun x hx => absurd hx (by omega))
