/-! read of the reference -/
theorem or_same (a b : Bool) : (a || b) = a ↔ (b && !a) = false := by cases a <;> cases b <;> decide
theorem tX7_read {σ : zSt} {m : Nat} {H : Nat → Core} {ss : Shs} {a r i n : Int32} (h : MJ σ m H) (ho : JOk m H) (hS : MS σ ss) (hso : SO ss) : zI mX7_read [.ref 47, .int a, .int r, .int i, .int n] SH σ (fun x t => x = (spRead (H m) ss a r i n).1 ∧ MAct σ t m H (spRead (H m) ss a r i n)) := by
  have hc := ho.2 m (Nat.le_refl m)
  have hn := hc.1
  have e0 : (0 : Int32).toInt = 0 := rfl
  have bad : ¬ (isJb (cN (H m)) a ∧ isSh r) → spRead (H m) ss a r i n = (-1, none, none) := fun q => by
    unfold spRead
    rw [if_neg q]
  refine zI_of (ls := [some (.ref 47), some (.int a), some (.int r), some (.int i), some (.int n), none, none, none, none]) (by decide) rfl rfl ?_
  refine za_aload_n (pc := 0) dX7_read_0 rfl ?_
  refine za_iload_n (pc := 1) dX7_read_1 rfl ?_
  refine za_cV1i (pc := 2) (μ' := mX7_isJob) dX7_read_2 c_X7_122 rfl rfl rfl ⟨rfl, rfl⟩ ⟨rfl, rfl⟩ rfl rfl rfl (tX7_isJob h.1.1 hn) (fun x_2 t_2 h_2 => ?_)
  obtain ⟨rfl, h9⟩ := h_2
  have h9 := h9.symm
  subst h9
  by_cases h1 : isJb (cN (H m)) a
  · rw [if_pos h1]
    refine za_if_eq (pc := 5) 15 dX7_read_5 (by decide) (fun c5 => ?_) (fun c5 => ?_)
    · exact absurd c5 (by decide)
    refine za_iload_n (pc := 8) dX7_read_8 rfl ?_
    refine za_cS1i (pc := 9) (μ' := mX7_isSheet) dX7_read_9 c_X7_77 rfl ⟨rfl, rfl⟩ ⟨rfl, rfl⟩ rfl rfl rfl (tX7_isSheet) (fun x_9 t_9 h_9 => ?_)
    obtain ⟨rfl, h9⟩ := h_9
    have h9 := h9.symm
    subst h9
    by_cases h2 : isSh r
    · rw [if_pos h2]
      refine za_if_ne (pc := 12) 17 dX7_read_12 (by decide) (fun c12 => ?_) (fun c12 => ?_)
      · obtain ⟨p, hp, rfl⟩ := isJb_ix h1 hn
        obtain ⟨j, hj, rfl⟩ := isSh_ix h2
        have vp : vp_in (nI p) 10 := vp_in_nI (by omega) (by decide)
        have ep : (nI p).toNatClampNeg = p := nI_clamp (by omega)
        have vj : vp_in (nI j) 6 := vp_in_nI hj (by decide)
        have ej : (nI j).toNatClampNeg = j := nI_clamp (by omega)
        obtain ⟨k1, k2, k3⟩ := hS j hj
        have hsz := (hso j hj).1
        have a5 := (h.1.2 p hp).2.2.2.2
        refine za_aload_n (pc := 17) dX7_read_17 rfl ?_
        refine za_getR (pc := 18) dX7_read_18 lk_X7_7 rfl rfl ?_
        refine za_iload_n (pc := 21) dX7_read_21 rfl ?_
        refine za_iald (pc := 22) dX7_read_22 rfl vj ?_
        rw [ej, k1]
        refine za_if_ge (pc := 23) 29 dX7_read_23 (by decide) (fun c23 => ?_) (fun c23 => ?_)
        · have hm : ¬ ss.1 j = -1 := fun q => absurd c23 (by rw [q]; decide)
          refine za_iload (pc := 29) dX7_read_29 rfl ?_
          refine za_if_ge (pc := 31) 37 dX7_read_31 (by decide) (fun c31 => ?_) (fun c31 => ?_)
          · have hn0 : ¬ n < 0 := Int32.not_lt.mpr c31
            have n0 : 0 ≤ n.toInt := by
              rw [fa_le] at c31
              exact c31
            have idx : ¬ (0 ≤ i.toInt ∧ i.toInt + n.toInt ≤ ss.2.1 j) → zA (zZ mX7_read (zQI SH (fun x t => x = (spRead (H m) ss (nI p) (nI j) i n).1 ∧ MAct σ t m H (spRead (H m) ss (nI p) (nI j) i n)))) mX7_read none 0 0 58 [some (.ref 47), some (.int (nI p)), some (.int (nI j)), some (.int i), some (.int n), none, none, none, none] [] SH σ := by
              intro hi
              refine za_bipush (pc := 58) (-12) dX7_read_58 (by decide) ?_
              refine za_ri (pc := 60) dX7_read_60 rfl rfl rfl ?_
              have e : spRead (H m) ss (nI p) (nI j) i n = (-12, none, none) := by
                unfold spRead
                rw [if_pos ⟨h1, h2⟩, ej, if_neg hm, if_neg hn0, if_neg hi]
              rw [e]
              exact ⟨rfl, MAct_0 h⟩
            refine za_iload_n (pc := 37) dX7_read_37 rfl ?_
            refine za_if_lt (pc := 38) 58 dX7_read_38 (by decide) (fun c38 => ?_) (fun c38 => ?_)
            · exact idx (fun q => by rw [fa_lt, e0] at c38; omega)
            rw [fa_lt, e0] at c38
            refine za_iload_n (pc := 41) dX7_read_41 rfl ?_
            refine za_i2l (pc := 42) dX7_read_42 ?_
            refine za_iload (pc := 43) dX7_read_43 rfl ?_
            refine za_i2l (pc := 45) dX7_read_45 ?_
            refine za_ladd (pc := 46) dX7_read_46 ?_
            refine za_aload_n (pc := 47) dX7_read_47 rfl ?_
            refine za_getR (pc := 48) dX7_read_48 lk_X7_13 rfl rfl ?_
            refine za_iload_n (pc := 51) dX7_read_51 rfl ?_
            refine za_iald (pc := 52) dX7_read_52 rfl vj ?_
            refine za_i2l (pc := 53) dX7_read_53 ?_
            refine za_lcmp (pc := 54) dX7_read_54 ?_
            rw [ej, k2]
            refine za_if_le (pc := 55) 61 dX7_read_55 (by decide) (fun c55 => ?_) (fun c55 => ?_)
            · rw [lg_le, ← Int64.not_lt, z64add, nI_toInt (by omega)] at c55
              have hi : 0 ≤ i.toInt ∧ i.toInt + n.toInt ≤ ss.2.1 j := by omega
              obtain ⟨i', hi', rfl⟩ := vp_in_of (x := i) (n := 17) (vp_in_iff.mpr (by omega)) (by omega)
              obtain ⟨n', hn', rfl⟩ := vp_in_of (x := n) (n := 17) (vp_in_iff.mpr (by omega)) (by omega)
              have hi2 : i' + n' ≤ ss.2.1 j := by
                have := hi.2
                rw [nI_toInt (by omega), nI_toInt (by omega)] at this
                omega
              have e : spRead (H m) ss (nI p) (nI j) (nI i') (nI n') = spEnd (H m) p (rdGo (H m) p (fun k => ss.2.2 j (i' + k)) 0 n' (fun _ => false)) := by
                unfold spRead
                rw [if_pos ⟨h1, h2⟩, ej, if_neg hm, if_neg hn0, if_pos hi, ep, nI_clamp (by omega), nI_clamp (by omega)]
              rw [e]
              generalize hR : rdGo (H m) p (fun k => ss.2.2 j (i' + k)) 0 n' (fun _ => false) = R
              refine za_aload_n (pc := 61) dX7_read_61 rfl ?_
              refine za_getR (pc := 62) dX7_read_62 lk_X7_31 rfl rfl ?_
              refine za_iload_n (pc := 65) dX7_read_65 rfl ?_
              refine za_iald (pc := 66) dX7_read_66 rfl vp ?_
              refine za_is5 (pc := 67) dX7_read_67 rfl ?_
              refine za_iconst (pc := 69) (0) dX7_read_69 (by decide) ?_
              refine za_is6 (pc := 70) dX7_read_70 rfl ?_
              refine za_iconst (pc := 72) (0) dX7_read_72 (by decide) ?_
              refine za_is7 (pc := 73) dX7_read_73 rfl ?_
              rw [ep, a5]
              -- the end: what was read is taken over, or taken back
              have fin : ∀ (u : zSt) (o : Nat → Bool) (no : Int32) (x7 x8 : Option Value), RdS σ u (H m) p o → (no ≠ 0 → no = (spEnd (H m) p R).1 ∧ (spEnd (H m) p R).2.2 = none ∧ (∀ pq, (spEnd (H m) p R).2.1 = some pq → MRing u (rgN (cW (H m)) (cN (H m)) pq.1 pq.2) (rgF (cW (H m)) (cN (H m)) pq.1 pq.2)) ∧ ((spEnd (H m) p R).2.1 = none → u 47 11 = σ 47 11 ∧ u 57 = σ 57)) → (no = 0 → R = (0, 0, o) ∧ u 47 11 = σ 47 11 ∧ u 57 = σ 57) → zA (zZ mX7_read (zQI SH (fun x t => x = (spEnd (H m) p R).1 ∧ MAct σ t m H (spEnd (H m) p R)))) mX7_read none 0 0 176 [some (.ref 47), some (.int (nI p)), some (.int (nI j)), some (.int (nI i')), some (.int (nI n')), some (.int (zmask (cW (H m) p))), some (.int no), x7, x8] [] SH u := by
                intro u o no x7 x8 hu hno hyes
                have hM := RdS_MJ h hp hu
                obtain ⟨u1, u2, u3, u4⟩ := hu
                have f1 : ∀ d, d < 47 ∨ (47 < d ∧ d < 51) ∨ 65 ≤ d → zup u 55 p (zmask (cW (H m) p)) d = σ d := fun d hd => by
                  rw [zup_n (by omega)]
                  exact u1 d (by omega) (by omega) (by omega) (by omega) (by omega)
                have stay : ∀ (no' : Int32), no ≠ 0 → MAct σ (zup u 55 p (zmask (cW (H m) p))) m H (spEnd (H m) p R) := by
                  intro no' hn1
                  obtain ⟨g1, g2, g3, g4⟩ := hno hn1
                  refine ⟨f1, by rw [zup_n (by decide)]; exact u2 25 (by decide), ?_⟩
                  cases hq : (spEnd (H m) p R).2.1 with
                  | some pq =>
                    have := g3 pq hq
                    refine ⟨⟨by rw [zup_n (by decide)]; exact this.1, fun k hk => by rw [zup_n (by decide)]; exact this.2 k hk⟩, hM, by rw [zup_n (by decide)]; exact u2 14 (by decide)⟩
                  | none =>
                    obtain ⟨g5, g6⟩ := g4 hq
                    rw [g2]
                    exact ⟨by rw [zup_n (by decide)]; exact g5, by rw [zup_n (by decide)]; exact g6, hM, by rw [zup_n (by decide)]; exact u2 14 (by decide)⟩
                refine za_fg (ls' := [some (.ref 47), some (.int (nI p)), some (.int (nI j)), some (.int (nI i')), some (.int (nI n')), some (.int (zmask (cW (H m) p))), some (.int no), none, none]) (by simp [zSub]) ?_
                refine za_aload_n (pc := 176) dX7_read_176 rfl ?_
                refine za_getR (pc := 177) dX7_read_177 lk_X7_31 rfl rfl ?_
                refine za_iload_n (pc := 180) dX7_read_180 rfl ?_
                refine za_iald (pc := 181) dX7_read_181 rfl vp ?_
                rw [ep, u3]
                refine za_is7 (pc := 182) dX7_read_182 rfl ?_
                refine za_aload_n (pc := 184) dX7_read_184 rfl ?_
                refine za_getR (pc := 185) dX7_read_185 lk_X7_31 rfl rfl ?_
                refine za_iload_n (pc := 188) dX7_read_188 rfl ?_
                refine za_iload (pc := 189) dX7_read_189 rfl ?_
                refine za_iast (pc := 191) dX7_read_191 rfl vp ?_
                refine za_iload (pc := 192) dX7_read_192 rfl ?_
                rw [ep]
                refine za_if_ne (pc := 194) 204 dX7_read_194 (by decide) (fun c194 => ?_) (fun c194 => ?_)
                · refine za_iload (pc := 204) dX7_read_204 rfl ?_
                  refine za_ri (pc := 206) dX7_read_206 rfl rfl rfl ?_
                  exact ⟨(hno c194).1, stay 0 c194⟩
                · subst c194
                  obtain ⟨eR, y1, y2⟩ := hyes rfl
                  subst eR
                  have eS : spEnd (H m) p (0, 0, o) = (nI (cnt (fun i => o i && !cW (H m) p i) 10), none, if anyb (fun i => o i && !cW (H m) p i) 16 = true then some (p, fun i => cW (H m) p i || o i) else none) := by
                    unfold spEnd
                    rw [if_neg (show ¬ (0 : Int32) = -15 by decide), if_neg (show ¬ (0 : Int32) = -4 by decide)]
                  have same : (zmask (fun i => cW (H m) p i || o i) = zmask (cW (H m) p)) ↔ anyb (fun i => o i && !cW (H m) p i) 16 = false := by
                    rw [zm_eq, anyb_f]
                    exact ⟨fun q k hk => (or_same _ _).mp (q k hk), fun q k hk => (or_same _ _).mpr (q k hk)⟩
                  rw [eS]
                  refine za_iload (pc := 197) dX7_read_197 rfl ?_
                  refine za_iload (pc := 199) dX7_read_199 rfl ?_
                  refine za_icmp_ne (pc := 201) 207 dX7_read_201 (by decide) (fun c201 => ?_) (fun c201 => ?_)
                  · have e1 : anyb (fun i => o i && !cW (H m) p i) 16 = true := by
                      cases hq : anyb (fun i => o i && !cW (H m) p i) 16 with
                      | true => rfl
                      | false => exact absurd (same.mpr hq) c201
                    rw [if_pos e1]
                    refine za_aload_n (pc := 207) dX7_read_207 rfl ?_
                    refine za_cV0v (pc := 208) (μ' := mX7_keep) dX7_read_208 c_X7_109 rfl rfl rfl ⟨rfl, rfl⟩ ⟨rfl, rfl⟩ rfl rfl rfl (tX7_keep hM ho) (fun t_208 h_208 => ?_)
                    obtain ⟨n1, n2, n3, n4, n5⟩ := h_208
                    refine za_aload_n (pc := 211) dX7_read_211 rfl ?_
                    refine za_getR (pc := 212) dX7_read_212 lk_X7_31 rfl rfl ?_
                    refine za_iload_n (pc := 215) dX7_read_215 rfl ?_
                    refine za_iload (pc := 216) dX7_read_216 rfl ?_
                    refine za_iast (pc := 218) dX7_read_218 rfl vp ?_
                    refine za_iload (pc := 219) dX7_read_219 rfl ?_
                    refine za_iload (pc := 221) dX7_read_221 rfl ?_
                    refine za_iconst (pc := 223) (-1) dX7_read_223 (by decide) ?_
                    refine za_ixor (pc := 224) dX7_read_224 ?_
                    refine za_iand (pc := 225) dX7_read_225 ?_
                    rw [zm_not, ep]
                    obtain ⟨w1, w2, w3⟩ := MJ_wait (a := p) (f := fun i => cW (H m) p i || o i) hM ho n1 n2 n3 n4 n5
                    refine za_cS1i (pc := 226) (μ' := mX7_bits) dX7_read_226 c_X7_132 rfl ⟨rfl, rfl⟩ ⟨rfl, rfl⟩ rfl rfl rfl (tX7_bits) (fun x_226 t_226 h_226 => ?_)
                    obtain ⟨rfl, h9⟩ := h_226
                    have h9 := h9.symm
                    subst h9
                    refine za_ri (pc := 229) dX7_read_229 rfl rfl rfl ?_
                    refine ⟨?_, fun d hd => ?_, ?_, ?_, ?_, w1, w2⟩
                    · exact congrArg nI (cnt_cong (fun k _ => by cases h9 : o k <;> cases h8 : cW (H m) p k <;> rfl))
                    · rw [zup_n (by omega), n1 d (by omega) (by omega)]
                      exact f1 d hd
                    · rw [zup_n (by decide), n2 25 (by decide) (by decide), zup_n (by decide)]
                      exact u2 25 (by decide)
                    · rw [zup_n (by decide), n2 11 (by decide) (by decide), zup_n (by decide)]
                      exact y1
                    · rw [zup_n (by decide), n1 57 (by decide) (by decide), zup_n (by decide)]
                      exact y2
                  · have e1 := same.mp c201
                    rw [if_neg (by rw [e1]; decide)]
                    refine za_iload (pc := 204) dX7_read_204 rfl ?_
                    refine za_ri (pc := 206) dX7_read_206 rfl rfl rfl ?_
                    refine ⟨?_, f1, by rw [zup_n (by decide)]; exact u2 25 (by decide), by rw [zup_n (by decide)]; exact y1, by rw [zup_n (by decide)]; exact y2, hM, by rw [zup_n (by decide)]; exact u2 14 (by decide)⟩
                    rw [cnt_cong (q := fun _ => false) (fun k hk => anyb_f.mp e1 k (by omega)), cnt_ff]
                    rfl
              -- a refusal leads out of the row
              have out : ∀ (u : zSt) (no k : Int32) (x8 : Option Value), no ≠ 0 → (∀ (x7 x8 : Option Value), zA (zZ mX7_read (zQI SH (fun x t => x = (spEnd (H m) p R).1 ∧ MAct σ t m H (spEnd (H m) p R)))) mX7_read none 0 0 176 [some (.ref 47), some (.int (nI p)), some (.int (nI j)), some (.int (nI i')), some (.int (nI n')), some (.int (zmask (cW (H m) p))), some (.int no), x7, x8] [] SH u) → zA (zZ mX7_read (zQI SH (fun x t => x = (spEnd (H m) p R).1 ∧ MAct σ t m H (spEnd (H m) p R)))) mX7_read none 0 0 170 [some (.ref 47), some (.int (nI p)), some (.int (nI j)), some (.int (nI i')), some (.int (nI n')), some (.int (zmask (cW (H m) p))), some (.int no), some (.int k), x8] [] SH u := by
                intro u no k x8 hno hE
                refine za_ii7 (pc := 170) (1) dX7_read_170 (by decide) rfl ?_
                refine za_goto (pc := 173) 75 dX7_read_173 (by decide) ?_
                refine za_iload (pc := 75) dX7_read_75 rfl ?_
                refine za_iload (pc := 77) dX7_read_77 rfl ?_
                refine za_icmp_ge (pc := 79) 176 dX7_read_79 (by decide) (fun c79 => ?_) (fun c79 => ?_)
                · exact hE _ _
                · refine za_iload (pc := 82) dX7_read_82 rfl ?_
                  refine za_if_ne (pc := 84) 176 dX7_read_84 (by decide) (fun c84 => ?_) (fun c84 => ?_)
                  · exact hE _ _
                  · exact absurd c84 hno
              have loop : ∀ (q k : Nat) (o : Nat → Bool) (u : zSt), k + q = n' → rdGo (H m) p (fun k => ss.2.2 j (i' + k)) k q o = R → (∀ b, o b = true → b < cN (H m) ∧ ¬ rfs (H m) p b) → RdS σ u (H m) p o → u 47 11 = σ 47 11 → u 57 = σ 57 → zA (zZ mX7_read (zQI SH (fun x t => x = (spEnd (H m) p R).1 ∧ MAct σ t m H (spEnd (H m) p R)))) mX7_read none 0 0 75 [some (.ref 47), some (.int (nI p)), some (.int (nI j)), some (.int (nI i')), some (.int (nI n')), some (.int (zmask (cW (H m) p))), some (.int 0), some (.int (nI k)), none] [] SH u := by
                intro q
                induction q with
                | zero =>
                  intro k o u hk hr hO hu y1 y2
                  refine za_iload (pc := 75) dX7_read_75 rfl ?_
                  refine za_iload (pc := 77) dX7_read_77 rfl ?_
                  refine za_icmp_ge (pc := 79) 176 dX7_read_79 (by decide) (fun c79 => ?_) (fun c79 => ?_)
                  · exact fin u o 0 _ _ hu (fun q => absurd rfl q) (fun _ => ⟨hr.symm, y1, y2⟩)
                  · exact absurd (nI_le (show n' ≤ k by omega) (by omega)) c79
                | succ q ih =>
                  intro k o u hk hr hO hu y1 y2
                  have uu := hu
                  obtain ⟨u1, u2, u3, u4⟩ := hu
                  have uj : u 47 3 = nI (cN (H m)) := by rw [u2 3 (by decide)]; exact h.1.1
                  have uw : ∀ c, c < cN (H m) → u 55 c = zmask (wA (H m) p o c) := fun c hcn => by
                    by_cases e : c = p
                    · rw [e, wA_p0]; exact u3
                    · rw [wA_o e, u4 c e]; exact (h.1.2 c hcn).2.2.2.2
                  have hr : (if isJb (cN (H m)) (ss.2.2 j (i' + k)) then (if rfs (H m) p (ss.2.2 j (i' + k)).toNatClampNeg then (-4, (ss.2.2 j (i' + k)).toNatClampNeg, o) else rdGo (H m) p (fun k => ss.2.2 j (i' + k)) (k + 1) q (fun i => o i || decide (i = (ss.2.2 j (i' + k)).toNatClampNeg))) else (-15, 0, o)) = R := hr
                  refine za_iload (pc := 75) dX7_read_75 rfl ?_
                  refine za_iload (pc := 77) dX7_read_77 rfl ?_
                  refine za_icmp_ge (pc := 79) 176 dX7_read_79 (by decide) (fun c79 => ?_) (fun c79 => ?_)
                  · exact absurd c79 (nI_ge (show k < n' by omega) (by omega))
                  refine za_iload (pc := 82) dX7_read_82 rfl ?_
                  refine za_if_ne (pc := 84) 176 dX7_read_84 (by decide) (fun c84 => ?_) (fun c84 => ?_)
                  · exact absurd rfl c84
                  refine za_aload_n (pc := 87) dX7_read_87 rfl ?_
                  refine za_getR (pc := 88) dX7_read_88 lk_X7_16 rfl rfl ?_
                  refine za_bipush (pc := 91) (16) dX7_read_91 (by decide) ?_
                  refine za_iload_n (pc := 93) dX7_read_93 rfl ?_
                  refine za_imul (pc := 94) dX7_read_94 ?_
                  refine za_iload_n (pc := 95) dX7_read_95 rfl ?_
                  refine za_iadd (pc := 96) dX7_read_96 ?_
                  refine za_iload (pc := 97) dX7_read_97 rfl ?_
                  refine za_iadd (pc := 99) dX7_read_99 ?_
                  rw [m16b hj (by omega) (by omega)]
                  refine za_iald (pc := 100) dX7_read_100 rfl (vp_in_nI (show 16 * j + (i' + k) < 96 by omega) (by decide)) ?_
                  refine za_is8 (pc := 101) dX7_read_101 rfl ?_
                  rw [nI_clamp (by omega), u1 50 (by decide) (by decide) (by decide) (by decide) (by decide), k3 (i' + k) (by omega)]
                  refine za_aload_n (pc := 103) dX7_read_103 rfl ?_
                  refine za_iload (pc := 104) dX7_read_104 rfl ?_
                  refine za_cV1i (pc := 106) (μ' := mX7_isJob) dX7_read_106 c_X7_122 rfl rfl rfl ⟨rfl, rfl⟩ ⟨rfl, rfl⟩ rfl rfl rfl (tX7_isJob uj hn) (fun x_106 t_106 h_106 => ?_)
                  obtain ⟨rfl, h9⟩ := h_106
                  have h9 := h9.symm
                  subst h9
                  by_cases g1 : isJb (cN (H m)) (ss.2.2 j (i' + k))
                  · rw [if_pos g1]
                    rw [if_pos g1] at hr
                    obtain ⟨b, hbn, eb⟩ := isJb_ix g1 hn
                    have ebn : (ss.2.2 j (i' + k)).toNatClampNeg = b := by rw [eb]; exact nI_clamp (by omega)
                    rw [ebn] at hr
                    rw [eb]
                    refine za_if_ne (pc := 109) 119 dX7_read_109 (by decide) (fun c109 => ?_) (fun c109 => ?_)
                    · refine za_aload_n (pc := 119) dX7_read_119 rfl ?_
                      refine za_getR (pc := 120) dX7_read_120 lk_X7_31 rfl rfl ?_
                      refine za_iload_n (pc := 123) dX7_read_123 rfl ?_
                      refine za_iald (pc := 124) dX7_read_124 rfl vp ?_
                      refine za_iload (pc := 125) dX7_read_125 rfl ?_
                      refine za_ishr (pc := 127) dX7_read_127 ?_
                      refine za_iconst (pc := 128) (1) dX7_read_128 (by decide) ?_
                      refine za_iand (pc := 129) dX7_read_129 ?_
                      rw [ep, u3, zm_sr (by omega)]
                      by_cases hw : (cW (H m) p b || o b) = true
                      · rw [if_pos hw]
                        have hnr : ¬ rfs (H m) p b := by
                          rcases Bool.or_eq_true_iff.mp hw with q | q
                          · exact rfs_no hc hp q
                          · exact (hO b q).2
                        rw [if_neg hnr] at hr
                        refine za_if_ne (pc := 130) 170 dX7_read_130 (by decide) (fun c130 => ?_) (fun c130 => ?_)
                        · refine za_ii7 (pc := 170) (1) dX7_read_170 (by decide) rfl ?_
                          refine za_goto (pc := 173) 75 dX7_read_173 (by decide) ?_
                          rw [nI_1]
                          refine za_fg (by simp [zSub]) (ih (k + 1) (fun i => o i || decide (i = b)) u (by omega) hr (fun i hi => ?_) ⟨u1, u2, ?_, u4⟩ y1 y2)
                          · rcases Bool.or_eq_true_iff.mp hi with q | q
                            · exact hO i q
                            · have q : i = b := by simpa using q
                              rw [q]
                              exact ⟨hbn, hnr⟩
                          · rw [u3]
                            refine zm_cong (fun i _ => ?_)
                            by_cases e : i = b
                            · subst e
                              rw [hw]
                              simp
                            · simp [e]
                        · exact absurd c130 (by decide)
                      · rw [if_neg hw]
                        refine za_if_ne (pc := 130) 170 dX7_read_130 (by decide) (fun c130 => ?_) (fun c130 => ?_)
                        · exact absurd rfl c130
                        refine za_aload_n (pc := 133) dX7_read_133 rfl ?_
                        refine za_iload_n (pc := 134) dX7_read_134 rfl ?_
                        refine za_iload (pc := 135) dX7_read_135 rfl ?_
                        refine za_cV2i (pc := 137) (μ' := mX7_wouldRing) dX7_read_137 c_X7_125 rfl rfl rfl ⟨rfl, rfl⟩ ⟨rfl, rfl⟩ rfl rfl rfl (tX7_wouldRing (w := wA (H m) p o) hn hp hbn uj uw) (fun x_137 t_137 h_137 => ?_)
                        obtain ⟨x1, x2⟩ := h_137
                        rw [x1]
                        have xu : ∀ d, d ≠ 59 → t_137 d = u d := x2
                        by_cases hrf : rfs (H m) p b
                        · rw [if_pos (hrf.elim Or.inl (fun q => Or.inr ((wA_p hc hp hO hbn).mpr q)))]
                          rw [if_pos hrf] at hr
                          subst hr
                          refine za_if_eq (pc := 140) 157 dX7_read_140 (by decide) (fun c140 => ?_) (fun c140 => ?_)
                          · exact absurd c140 (by decide)
                          refine za_aload_n (pc := 143) dX7_read_143 rfl ?_
                          refine za_iload_n (pc := 144) dX7_read_144 rfl ?_
                          refine za_iload (pc := 145) dX7_read_145 rfl ?_
                          refine za_cV2v (pc := 147) (μ' := mX7_layRing) dX7_read_147 c_X7_128 rfl rfl rfl ⟨rfl, rfl⟩ ⟨rfl, rfl⟩ rfl rfl rfl (tX7_layRing (w := wA (H m) p o) hn (fun a b ha hw => wA_in hc hO ha hw) hp hbn (by rw [xu 47 (by decide)]; exact uj) (fun c hcn => by rw [xu 55 (by decide)]; exact uw c hcn) (hrf.elim Or.inl (fun q => Or.inr ((wA_p hc hp hO hbn).mpr q)))) (fun t_147 h_147 => ?_)
                          obtain ⟨z1, z2⟩ := h_147
                          refine za_bipush (pc := 150) (-4) dX7_read_150 (by decide) ?_
                          refine za_is6 (pc := 152) dX7_read_152 rfl ?_
                          refine za_goto (pc := 154) 170 dX7_read_154 (by decide) ?_
                          have hdst : dst (cW (H m)) (cN (H m)) p b < cN (H m) := by
                            rcases hrf with e | e
                            · rw [dst_0.mpr e.symm]; omega
                            · exact dst_ring hn hc.2.2.1 hp hbn e
                          have z3 := rg_cong (t := t_147) (w := cW (H m)) hn (fun c d hcp _ => by rw [wA_o hcp]) hbn hdst z1
                          have eS : spEnd (H m) p (-4, b, o) = (-4, some (p, b), none) := by
                            unfold spEnd
                            rw [if_neg (show ¬ (-4 : Int32) = -15 by decide), if_pos rfl]
                          refine out _ _ _ _ (by decide) (fun x7 x8 => fin t_147 o _ x7 x8 ⟨fun d d1 d2 d3 d4 d5 => ?_, fun i hi => ?_, ?_, fun i hi => ?_⟩ (fun _ => ?_) (fun q => absurd q (by decide)))
                          · rw [z2.1 d d1 d3 d5, xu d d4, u1 d d1 d2 d3 d4 d5]
                          · rw [z2.2 i hi, xu 47 (by decide), u2 i hi]
                          · rw [z2.1 55 (by decide) (by decide) (by decide), xu 55 (by decide), u3]
                          · rw [z2.1 55 (by decide) (by decide) (by decide), xu 55 (by decide), u4 i hi]
                          · rw [eS]
                            exact ⟨rfl, rfl, fun pq hpq => by cases hpq; exact z3, fun q => by cases q⟩
                        · rw [if_neg (fun q => hrf (q.elim Or.inl (fun q => Or.inr ((wA_p hc hp hO hbn).mp q))))]
                          rw [if_neg hrf] at hr
                          refine za_if_eq (pc := 140) 157 dX7_read_140 (by decide) (fun c140 => ?_) (fun c140 => ?_)
                          · refine za_aload_n (pc := 157) dX7_read_157 rfl ?_
                            refine za_getR (pc := 158) dX7_read_158 lk_X7_31 rfl rfl ?_
                            refine za_iload_n (pc := 161) dX7_read_161 rfl ?_
                            refine za_dup2 (pc := 162) dX7_read_162 rfl rfl ?_
                            refine za_iald (pc := 163) dX7_read_163 rfl vp ?_
                            refine za_iconst (pc := 164) (1) dX7_read_164 (by decide) ?_
                            refine za_iload (pc := 165) dX7_read_165 rfl ?_
                            refine za_ishl (pc := 167) dX7_read_167 ?_
                            rw [ep, xu 55 (by decide), u3, zm_1 (show b < 16 by omega)]
                            refine za_ior (pc := 168) dX7_read_168 ?_
                            rw [zm_or]
                            refine za_iast (pc := 169) dX7_read_169 rfl vp ?_
                            refine za_ii7 (pc := 170) (1) dX7_read_170 (by decide) rfl ?_
                            refine za_goto (pc := 173) 75 dX7_read_173 (by decide) ?_
                            rw [ep, nI_1]
                            refine za_fg (by simp [zSub]) (ih (k + 1) (fun i => o i || decide (i = b)) _ (by omega) hr (fun i hi => ?_) ⟨fun d d1 d2 d3 d4 d5 => ?_, fun i hi => ?_, ?_, fun i hi => ?_⟩ ?_ ?_)
                            · rcases Bool.or_eq_true_iff.mp hi with q | q
                              · exact hO i q
                              · have q : i = b := by simpa using q
                                rw [q]
                                exact ⟨hbn, hrf⟩
                            · rw [zup_n d2, xu d d4, u1 d d1 d2 d3 d4 d5]
                            · rw [zup_n (by decide), xu 47 (by decide), u2 i hi]
                            · rw [zup_a]
                              exact zm_cong (fun i _ => Bool.or_assoc _ _ _)
                            · rw [zup_b hi, xu 55 (by decide), u4 i hi]
                            · rw [zup_n (by decide), xu 47 (by decide)]; exact y1
                            · rw [zup_n (by decide), xu 57 (by decide)]; exact y2
                          · exact absurd rfl c140
                    · exact absurd c109 (by decide)
                  · rw [if_neg g1]
                    rw [if_neg g1] at hr
                    subst hr
                    refine za_if_ne (pc := 109) 119 dX7_read_109 (by decide) (fun c109 => ?_) (fun c109 => ?_)
                    · exact absurd rfl c109
                    refine za_bipush (pc := 112) (-15) dX7_read_112 (by decide) ?_
                    refine za_is6 (pc := 114) dX7_read_114 rfl ?_
                    refine za_goto (pc := 116) 170 dX7_read_116 (by decide) ?_
                    have eS : spEnd (H m) p (-15, 0, o) = (-15, none, none) := by
                      unfold spEnd
                      rw [if_pos rfl]
                    refine out _ _ _ _ (by decide) (fun x7 x8 => fin u o _ x7 x8 uu (fun _ => ?_) (fun q => absurd q (by decide)))
                    rw [eS]
                    exact ⟨rfl, rfl, (fun pq hpq => by cases hpq), fun _ => ⟨y1, y2⟩⟩
              refine loop n' 0 (fun _ => false) σ (by omega) hR (fun b hb => by cases hb) ⟨fun _ _ _ _ _ _ => rfl, fun _ _ => rfl, ?_, fun _ _ => rfl⟩ rfl rfl
              rw [a5]
              exact zm_cong (fun i _ => by simp)
            · rw [lg_le, ← Int64.not_lt, z64add, nI_toInt (by omega)] at c55
              exact idx (fun q => c55 (by omega))
          · have hn0 : n < 0 := Int32.not_le.mp c31
            refine za_bipush (pc := 34) (-13) dX7_read_34 (by decide) ?_
            refine za_ri (pc := 36) dX7_read_36 rfl rfl rfl ?_
            have e : spRead (H m) ss (nI p) (nI j) i n = (-13, none, none) := by
              unfold spRead
              rw [if_pos ⟨h1, h2⟩, ej, if_neg hm, if_pos hn0]
            rw [e]
            exact ⟨rfl, MAct_0 h⟩
        · have hm : ss.1 j = -1 := (sk_neg hso hj).mp (Int32.not_le.mp c23)
          refine za_bipush (pc := 26) (-11) dX7_read_26 (by decide) ?_
          refine za_ri (pc := 28) dX7_read_28 rfl rfl rfl ?_
          have e : spRead (H m) ss (nI p) (nI j) i n = (-11, none, none) := by
            unfold spRead
            rw [if_pos ⟨h1, h2⟩, ej, if_pos hm]
          rw [e]
          exact ⟨rfl, MAct_0 h⟩
      · exact absurd c12 (by decide)
    · rw [if_neg h2]
      refine za_if_ne (pc := 12) 17 dX7_read_12 (by decide) (fun c12 => ?_) (fun c12 => ?_)
      · exact absurd rfl c12
      · refine za_iconst (pc := 15) (-1) dX7_read_15 (by decide) ?_
        refine za_ri (pc := 16) dX7_read_16 rfl rfl rfl ?_
        rw [bad (fun q => h2 q.2)]
        exact ⟨rfl, MAct_0 h⟩
  · rw [if_neg h1]
    refine za_if_eq (pc := 5) 15 dX7_read_5 (by decide) (fun c5 => ?_) (fun c5 => ?_)
    · refine za_iconst (pc := 15) (-1) dX7_read_15 (by decide) ?_
      refine za_ri (pc := 16) dX7_read_16 rfl rfl rfl ?_
      rw [bad (fun q => h1 q.1)]
      exact ⟨rfl, MAct_0 h⟩
    · exact absurd rfl c5
