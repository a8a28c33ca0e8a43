theorem push_lt {m k : Nat} {H : Nat → Core} {c : Core} (ho : JOk m H) (hk : k < pushN m) : cN (pushH m H c k) ≤ 10 := by
  unfold pushH
  by_cases e : m = 20
  · have e2 : pushN m = 20 := if_pos e
    rw [if_pos e]
    simp only [if_pos (show k < 20 by omega)]
    exact (ho.2 (k + 1) (by omega)).1
  · have e2 : pushN m = m + 1 := if_neg e
    rw [if_neg e]
    simp only [if_pos (show k ≤ m by omega)]
    exact (ho.2 k (by omega)).1
theorem MJ_wait {σ t : zSt} {m a : Nat} {H : Nat → Core} {f : Nat → Bool} (h : MJ σ m H) (ho : JOk m H) (n1 : ∀ c, c ≠ 47 → c ≠ 56 → t c = σ c) (n2 : ∀ i, i ≠ 9 → i ≠ 14 → t 47 i = σ 47 i) (n3 : t 47 14 = 0) (n4 : t 47 9 = nI (pushN m)) (n5 : ∀ c' k, k < pushN m → Snap t k (pushH m H c' k)) : MJ (zup t 55 a (zmask f)) (pushN m) (pushH m H (wC (H m) a f)) ∧ (zup t 55 a (zmask f)) 47 14 = 0 ∧ FMJ (zup t 55 a (zmask f)) σ := by
  refine ⟨⟨?_, by rw [zup_n (by decide)]; exact n4, fun k hk => Snap_cong (k := k) (n5 _ k hk) (push_lt ho hk) (fun u _ => by rw [zup_n (by decide)])⟩, by rw [zup_n (by decide)]; exact n3, ?_⟩
  · rw [push_top]
    refine ⟨by rw [zup_n (by decide), n2 3 (by decide) (by decide)]; exact h.1.1, fun i hi => ?_⟩
    obtain ⟨b1, b2, b3, b4, b5⟩ := h.1.2 i hi
    rw [zup_n (by decide), zup_n (by decide), zup_n (by decide), zup_n (by decide), n1 51 (by decide) (by decide), n1 52 (by decide) (by decide), n1 53 (by decide) (by decide), n1 54 (by decide) (by decide), wC_W]
    refine ⟨b1, b2, b3, b4, ?_⟩
    by_cases e : i = a
    · rw [e, zup_a, if_pos rfl]
    · rw [zup_b e, if_neg e, n1 55 (by decide) (by decide)]; exact b5
  · obtain ⟨f1, f2, f3, f4⟩ := FMJ_keep n1 n2
    exact ⟨fun c hc => by rw [zup_n (by omega)]; exact f1 c hc, fun c h1 h2 => by rw [zup_n (by omega)]; exact f2 c h1 h2, fun c hc => by rw [zup_n (by omega)]; exact f3 c hc, fun i h3 h9 h14 => by rw [zup_n (by decide)]; exact f4 i h3 h9 h14⟩
theorem tX7_job {σ : zSt} {m : Nat} {H : Nat → Core} {k a b : Int32} (h : MJ σ m H) (ho : JOk m H) : zI mX7_job [.ref 47, .int k, .int a, .int b] SH σ (fun x t => x = spJob m H k a b ∧ ((kdOk k a b ∧ cN (H m) < 10 ∧ MJ t (pushN m) (pushH m H (addC (H m) k a b)) ∧ t 47 14 = 0 ∧ FMJ t σ) ∨ (¬ (kdOk k a b ∧ cN (H m) < 10) ∧ t = σ))) := by
  have hn : cN (H m) ≤ 10 := (ho.2 m (Nat.le_refl m)).1
  have e0 : (0 : Int32).toInt = 0 := rfl
  have e1 : (1 : Int32).toInt = 1 := rfl
  have e2 : (2 : Int32).toInt = 2 := rfl
  have e3 : (3 : Int32).toInt = 3 := rfl
  -- refused
  have bad75 : ¬ kdOk k a b → ∀ x : Option Value, zA (zZ mX7_job (zQI SH (fun x t => x = spJob m H k a b ∧ ((kdOk k a b ∧ cN (H m) < 10 ∧ MJ t (pushN m) (pushH m H (addC (H m) k a b)) ∧ t 47 14 = 0 ∧ FMJ t σ) ∨ (¬ (kdOk k a b ∧ cN (H m) < 10) ∧ t = σ))))) mX7_job none 0 0 75 [some (.ref 47), some (.int k), some (.int a), some (.int b), x] [] SH σ := by
    intro hk x
    refine za_iconst (pc := 75) (-1) dX7_job_75 (by decide) ?_
    refine za_ri (pc := 76) dX7_job_76 rfl rfl rfl ?_
    exact ⟨by rw [spJob, if_neg hk], Or.inr ⟨fun q => hk q.1, rfl⟩⟩
  have bad : ¬ kdOk k a b → zA (zZ mX7_job (zQI SH (fun x t => x = spJob m H k a b ∧ ((kdOk k a b ∧ cN (H m) < 10 ∧ MJ t (pushN m) (pushH m H (addC (H m) k a b)) ∧ t 47 14 = 0 ∧ FMJ t σ) ∨ (¬ (kdOk k a b ∧ cN (H m) < 10) ∧ t = σ))))) mX7_job none 0 0 51 [some (.ref 47), some (.int k), some (.int a), some (.int b), none] [] SH σ := by
    intro hk
    refine za_iconst (pc := 51) (1) dX7_job_51 (by decide) ?_
    refine za_goto (pc := 52) 56 dX7_job_52 (by decide) ?_
    refine za_is4 (pc := 56) dX7_job_56 rfl ?_
    refine za_iload_n (pc := 58) dX7_job_58 rfl ?_
    refine za_i2l (pc := 59) dX7_job_59 ?_
    refine za_lconst (pc := 60) (0) dX7_job_60 (by decide) ?_
    refine za_ldc2_w (pc := 61) (3) dX7_job_61 k_X7_107 ?_
    refine za_cS3i (pc := 64) (μ' := mX7_in) dX7_job_64 c_X7_73 rfl ⟨rfl, rfl⟩ ⟨rfl, rfl⟩ rfl rfl rfl (tX7_in) (fun x_64 t_64 h_64 => ?_)
    obtain ⟨rfl, h9⟩ := h_64
    have h9 := h9.symm
    subst h9
    refine za_if_eq (pc := 67) 75 dX7_job_67 (by decide) (fun c67 => ?_) (fun c67 => ?_)
    · exact bad75 hk _
    · refine za_iload (pc := 70) dX7_job_70 rfl ?_
      refine za_if_eq (pc := 72) 77 dX7_job_72 (by decide) (fun c72 => ?_) (fun c72 => ?_)
      · exact absurd c72 (by decide)
      · exact bad75 hk _
  have good : ((0 ≤ k ∧ k ≤ 3) → kdOk k a b) → zA (zZ mX7_job (zQI SH (fun x t => x = spJob m H k a b ∧ ((kdOk k a b ∧ cN (H m) < 10 ∧ MJ t (pushN m) (pushH m H (addC (H m) k a b)) ∧ t 47 14 = 0 ∧ FMJ t σ) ∨ (¬ (kdOk k a b ∧ cN (H m) < 10) ∧ t = σ))))) mX7_job none 0 0 55 [some (.ref 47), some (.int k), some (.int a), some (.int b), none] [] SH σ := by
    intro hk
    refine za_iconst (pc := 55) (0) dX7_job_55 (by decide) ?_
    refine za_is4 (pc := 56) dX7_job_56 rfl ?_
    refine za_iload_n (pc := 58) dX7_job_58 rfl ?_
    refine za_i2l (pc := 59) dX7_job_59 ?_
    refine za_lconst (pc := 60) (0) dX7_job_60 (by decide) ?_
    refine za_ldc2_w (pc := 61) (3) dX7_job_61 k_X7_107 ?_
    refine za_cS3i (pc := 64) (μ' := mX7_in) dX7_job_64 c_X7_73 rfl ⟨rfl, rfl⟩ ⟨rfl, rfl⟩ rfl rfl rfl (tX7_in) (fun x_64 t_64 h_64 => ?_)
    obtain ⟨rfl, h9⟩ := h_64
    have h9 := h9.symm
    subst h9
    rw [zin_if (lo := 0) (hi := 3) (L := 0) (H := 3) rfl rfl]
    by_cases hr : 0 ≤ k ∧ k ≤ 3
    · rw [if_pos hr]
      have hk := hk hr
      refine za_if_eq (pc := 67) 75 dX7_job_67 (by decide) (fun c67 => ?_) (fun c67 => ?_)
      · exact absurd c67 (by decide)
      refine za_iload (pc := 70) dX7_job_70 rfl ?_
      refine za_if_eq (pc := 72) 77 dX7_job_72 (by decide) (fun c72 => ?_) (fun c72 => ?_)
      · refine za_aload_n (pc := 77) dX7_job_77 rfl ?_
        refine za_getI (pc := 78) dX7_job_78 lk_X7_91 rfl rfl ?_
        refine za_bipush (pc := 81) (10) dX7_job_81 (by decide) ?_
        rw [h.1.1]
        refine za_icmp_ne (pc := 83) 89 dX7_job_83 (by decide) (fun c83 => ?_) (fun c83 => ?_)
        · have h10 : cN (H m) < 10 := by
            rcases Nat.lt_or_ge (cN (H m)) 10 with q | q
            · exact q
            · exact absurd (by rw [show cN (H m) = 10 by omega]; rfl) c83
          refine za_aload_n (pc := 89) dX7_job_89 rfl ?_
          refine za_cV0v (pc := 90) (μ' := mX7_keep) dX7_job_90 c_X7_109 rfl rfl rfl ⟨rfl, rfl⟩ ⟨rfl, rfl⟩ rfl rfl rfl (tX7_keep h ho) (fun t_90 h_90 => ?_)
          obtain ⟨n1, n2, n3, n4, n5⟩ := h_90
          generalize t_90 = t at *
          have vN : vp_in (nI (cN (H m))) 10 := vp_in_nI h10 (by decide)
          have eN : (nI (cN (H m))).toNatClampNeg = cN (H m) := nI_clamp (by omega)
          have t3 : t 47 3 = nI (cN (H m)) := by rw [n2 3 (by decide) (by decide)]; exact h.1.1
          have fin : ∀ (x1 x2 x3 : Int32), x1 = (if k = 2 then a else -3) → x2 = (if k = 1 then a else if k = 2 then b else -3) → x3 = (if k = 3 then a else -3) → ∀ u : zSt, u = zup (zup (zup (zup (zup t 51 (cN (H m)) k) 52 (cN (H m)) x1) 53 (cN (H m)) x2) 54 (cN (H m)) x3) 55 (cN (H m)) 0 → zA (zZ mX7_job (zQI SH (fun x t => x = spJob m H k a b ∧ ((kdOk k a b ∧ cN (H m) < 10 ∧ MJ t (pushN m) (pushH m H (addC (H m) k a b)) ∧ t 47 14 = 0 ∧ FMJ t σ) ∨ (¬ (kdOk k a b ∧ cN (H m) < 10) ∧ t = σ))))) mX7_job none 0 0 182 [some (.ref 47), some (.int k), some (.int a), some (.int b), some (.int 0)] [] SH u := by
            intro x1 x2 x3 ex1 ex2 ex3 u eu
            have r : ∀ c, c < 51 ∨ 56 ≤ c → u c = t c := fun c hc => by rw [eu, zup_n (by omega), zup_n (by omega), zup_n (by omega), zup_n (by omega), zup_n (by omega)]
            refine za_aload_n (pc := 182) dX7_job_182 rfl ?_
            refine za_dup (pc := 183) dX7_job_183 rfl ?_
            refine za_getI (pc := 184) dX7_job_184 lk_X7_91 rfl rfl ?_
            refine za_iconst (pc := 187) (1) dX7_job_187 (by decide) ?_
            refine za_iadd (pc := 188) dX7_job_188 ?_
            refine za_putI (pc := 189) dX7_job_189 lp_X7_91 rfl rfl ?_
            refine za_aload_n (pc := 192) dX7_job_192 rfl ?_
            refine za_getI (pc := 193) dX7_job_193 lk_X7_91 rfl rfl ?_
            refine za_iconst (pc := 196) (1) dX7_job_196 (by decide) ?_
            refine za_isub (pc := 197) dX7_job_197 ?_
            have eu3 : u 47 3 = nI (cN (H m)) := by rw [r 47 (by omega)]; exact t3
            rw [zup_a, eu3, nI_1, nI_pred]
            refine za_ri (pc := 198) dX7_job_198 rfl rfl rfl ?_
            refine ⟨by rw [spJob, if_pos hk, if_pos h10], Or.inl ⟨hk, h10, ⟨?_, by rw [zup_b (by decide), r 47 (by omega)]; exact n4, fun q hq => Snap_cong (k := q) (n5 _ q hq) (push_lt ho hq) (fun y _ => by rw [zup_n (by decide), r 56 (by omega)])⟩, by rw [zup_b (by decide), r 47 (by omega)]; exact n3, ?_⟩⟩
            · rw [push_top]
              refine ⟨by rw [zup_a, addC_N], fun q hq => ?_⟩
              rw [addC_N] at hq
              rw [addC_K, addC_B, addC_E, addC_H, addC_W]
              have r1 : zup u 47 3 (nI (cN (H m) + 1)) 51 = upd (σ 51) (cN (H m)) k := by rw [zup_n (by decide), eu, zup_n (by decide), zup_n (by decide), zup_n (by decide), zup_n (by decide), zup_s, n1 51 (by decide) (by decide)]
              have r2 : zup u 47 3 (nI (cN (H m) + 1)) 52 = upd (σ 52) (cN (H m)) x1 := by rw [zup_n (by decide), eu, zup_n (by decide), zup_n (by decide), zup_n (by decide), zup_s, zup_n (by decide), n1 52 (by decide) (by decide)]
              have r3 : zup u 47 3 (nI (cN (H m) + 1)) 53 = upd (σ 53) (cN (H m)) x2 := by rw [zup_n (by decide), eu, zup_n (by decide), zup_n (by decide), zup_s, zup_n (by decide), zup_n (by decide), n1 53 (by decide) (by decide)]
              have r4 : zup u 47 3 (nI (cN (H m) + 1)) 54 = upd (σ 54) (cN (H m)) x3 := by rw [zup_n (by decide), eu, zup_n (by decide), zup_s, zup_n (by decide), zup_n (by decide), zup_n (by decide), n1 54 (by decide) (by decide)]
              have r5 : zup u 47 3 (nI (cN (H m) + 1)) 55 = upd (σ 55) (cN (H m)) 0 := by rw [zup_n (by decide), eu, zup_s, zup_n (by decide), zup_n (by decide), zup_n (by decide), zup_n (by decide), n1 55 (by decide) (by decide)]
              rw [r1, r2, r3, r4, r5]
              by_cases e : q = cN (H m)
              · subst e
                simp only [pk_us, if_true]
                exact ⟨trivial, ex1, ex2, ex3, zm_0.symm⟩
              · simp only [pk_un e, if_neg e]
                exact h.1.2 q (by omega)
            · obtain ⟨f1, f2, f3, f4⟩ := FMJ_keep n1 n2
              exact ⟨fun c hc => by rw [zup_n (by omega), r c (by omega)]; exact f1 c hc, fun c h1 h2 => by rw [zup_n (by omega), r c (by omega)]; exact f2 c h1 h2, fun c hc => by rw [zup_n (by omega), r c (by omega)]; exact f3 c hc, fun i h3 h9 h14 => by rw [zup_b h3, r 47 (by omega)]; exact f4 i h3 h9 h14⟩
          refine za_aload_n (pc := 93) dX7_job_93 rfl ?_
          refine za_getR (pc := 94) dX7_job_94 lk_X7_19 rfl rfl ?_
          refine za_aload_n (pc := 97) dX7_job_97 rfl ?_
          refine za_getI (pc := 98) dX7_job_98 lk_X7_91 rfl rfl ?_
          rw [t3]
          refine za_iload_n (pc := 101) dX7_job_101 rfl ?_
          refine za_iast (pc := 102) dX7_job_102 rfl vN ?_
          refine za_aload_n (pc := 103) dX7_job_103 rfl ?_
          refine za_getR (pc := 104) dX7_job_104 lk_X7_22 rfl rfl ?_
          refine za_aload_n (pc := 107) dX7_job_107 rfl ?_
          refine za_getI (pc := 108) dX7_job_108 lk_X7_91 rfl rfl ?_
          rw [eN, zup_n (by decide), t3]
          have f4 : ∀ (x1 x2 : Int32), x1 = (if k = 2 then a else -3) → x2 = (if k = 1 then a else if k = 2 then b else -3) → zA (zZ mX7_job (zQI SH (fun x t => x = spJob m H k a b ∧ ((kdOk k a b ∧ cN (H m) < 10 ∧ MJ t (pushN m) (pushH m H (addC (H m) k a b)) ∧ t 47 14 = 0 ∧ FMJ t σ) ∨ (¬ (kdOk k a b ∧ cN (H m) < 10) ∧ t = σ))))) mX7_job none 0 0 151 [some (.ref 47), some (.int k), some (.int a), some (.int b), some (.int 0)] [.int x2, .int (nI (cN (H m))), .ref 53] SH (zup (zup t 51 (cN (H m)) k) 52 (cN (H m)) x1) := by
            intro x1 x2 ex1 ex2
            have g : ∀ (x3 : Int32), x3 = (if k = 3 then a else -3) → zA (zZ mX7_job (zQI SH (fun x t => x = spJob m H k a b ∧ ((kdOk k a b ∧ cN (H m) < 10 ∧ MJ t (pushN m) (pushH m H (addC (H m) k a b)) ∧ t 47 14 = 0 ∧ FMJ t σ) ∨ (¬ (kdOk k a b ∧ cN (H m) < 10) ∧ t = σ))))) mX7_job none 0 0 171 [some (.ref 47), some (.int k), some (.int a), some (.int b), some (.int 0)] [.int x3, .int (nI (cN (H m))), .ref 54] SH (zup (zup (zup t 51 (cN (H m)) k) 52 (cN (H m)) x1) 53 (cN (H m)) x2) := by
              intro x3 ex3
              refine za_iast (pc := 171) dX7_job_171 rfl vN ?_
              refine za_aload_n (pc := 172) dX7_job_172 rfl ?_
              refine za_getR (pc := 173) dX7_job_173 lk_X7_31 rfl rfl ?_
              refine za_aload_n (pc := 176) dX7_job_176 rfl ?_
              refine za_getI (pc := 177) dX7_job_177 lk_X7_91 rfl rfl ?_
              rw [eN, zup_n (by decide), zup_n (by decide), zup_n (by decide), zup_n (by decide), t3]
              refine za_iconst (pc := 180) (0) dX7_job_180 (by decide) ?_
              refine za_iast (pc := 181) dX7_job_181 rfl vN ?_
              rw [eN]
              exact fin x1 x2 x3 ex1 ex2 ex3 _ rfl
            refine za_iast (pc := 151) dX7_job_151 rfl vN ?_
            refine za_aload_n (pc := 152) dX7_job_152 rfl ?_
            refine za_getR (pc := 153) dX7_job_153 lk_X7_28 rfl rfl ?_
            refine za_aload_n (pc := 156) dX7_job_156 rfl ?_
            refine za_getI (pc := 157) dX7_job_157 lk_X7_91 rfl rfl ?_
            rw [eN, zup_n (by decide), zup_n (by decide), zup_n (by decide), t3]
            refine za_iload_n (pc := 160) dX7_job_160 rfl ?_
            refine za_iconst (pc := 161) (3) dX7_job_161 (by decide) ?_
            refine za_icmp_ne (pc := 162) 169 dX7_job_162 (by decide) (fun c162 => ?_) (fun c162 => ?_)
            · refine za_bipush (pc := 169) (-3) dX7_job_169 (by decide) ?_
              exact g _ (by rw [if_neg c162])
            · refine za_iload_n (pc := 165) dX7_job_165 rfl ?_
              refine za_goto (pc := 166) 171 dX7_job_166 (by decide) ?_
              exact g _ (by rw [if_pos c162])
          have f3 : ∀ (x1 : Int32), x1 = (if k = 2 then a else -3) → zA (zZ mX7_job (zQI SH (fun x t => x = spJob m H k a b ∧ ((kdOk k a b ∧ cN (H m) < 10 ∧ MJ t (pushN m) (pushH m H (addC (H m) k a b)) ∧ t 47 14 = 0 ∧ FMJ t σ) ∨ (¬ (kdOk k a b ∧ cN (H m) < 10) ∧ t = σ))))) mX7_job none 0 0 122 [some (.ref 47), some (.int k), some (.int a), some (.int b), some (.int 0)] [.int x1, .int (nI (cN (H m))), .ref 52] SH (zup t 51 (cN (H m)) k) := by
            intro x1 ex1
            refine za_iast (pc := 122) dX7_job_122 rfl vN ?_
            refine za_aload_n (pc := 123) dX7_job_123 rfl ?_
            refine za_getR (pc := 124) dX7_job_124 lk_X7_25 rfl rfl ?_
            refine za_aload_n (pc := 127) dX7_job_127 rfl ?_
            refine za_getI (pc := 128) dX7_job_128 lk_X7_91 rfl rfl ?_
            rw [eN, zup_n (by decide), zup_n (by decide), t3]
            refine za_iload_n (pc := 131) dX7_job_131 rfl ?_
            refine za_iconst (pc := 132) (1) dX7_job_132 (by decide) ?_
            refine za_icmp_ne (pc := 133) 140 dX7_job_133 (by decide) (fun c133 => ?_) (fun c133 => ?_)
            · refine za_iload_n (pc := 140) dX7_job_140 rfl ?_
              refine za_iconst (pc := 141) (2) dX7_job_141 (by decide) ?_
              refine za_icmp_ne (pc := 142) 149 dX7_job_142 (by decide) (fun c142 => ?_) (fun c142 => ?_)
              · refine za_bipush (pc := 149) (-3) dX7_job_149 (by decide) ?_
                exact f4 x1 _ ex1 (by rw [if_neg c133, if_neg c142])
              · refine za_iload_n (pc := 145) dX7_job_145 rfl ?_
                refine za_goto (pc := 146) 151 dX7_job_146 (by decide) ?_
                exact f4 x1 _ ex1 (by rw [if_neg c133, if_pos c142])
            · refine za_iload_n (pc := 136) dX7_job_136 rfl ?_
              refine za_goto (pc := 137) 151 dX7_job_137 (by decide) ?_
              exact f4 x1 _ ex1 (by rw [if_pos c133])
          refine za_iload_n (pc := 111) dX7_job_111 rfl ?_
          refine za_iconst (pc := 112) (2) dX7_job_112 (by decide) ?_
          refine za_icmp_ne (pc := 113) 120 dX7_job_113 (by decide) (fun c113 => ?_) (fun c113 => ?_)
          · refine za_bipush (pc := 120) (-3) dX7_job_120 (by decide) ?_
            exact f3 _ (by rw [if_neg c113])
          · refine za_iload_n (pc := 116) dX7_job_116 rfl ?_
            refine za_goto (pc := 117) 122 dX7_job_117 (by decide) ?_
            exact f3 _ (by rw [if_pos c113])
        · have h10 : ¬ cN (H m) < 10 := by
            have := (nI_eq (b := 10) (by omega) (by decide)).mp c83
            omega
          refine za_bipush (pc := 86) (-2) dX7_job_86 (by decide) ?_
          refine za_ri (pc := 88) dX7_job_88 rfl rfl rfl ?_
          exact ⟨by rw [spJob, if_pos hk, if_neg h10], Or.inr ⟨fun q => h10 q.2, rfl⟩⟩
      · exact absurd rfl c72
    · rw [if_neg hr]
      refine za_if_eq (pc := 67) 75 dX7_job_67 (by decide) (fun c67 => ?_) (fun c67 => ?_)
      · refine bad75 (fun q => hr ?_) _
        rcases q with q | q | q | q
        · rw [q]; decide
        · rw [q.1]; decide
        · rw [q.1]; decide
        · rw [q.1]; decide
      · exact absurd rfl c67
  refine zI_of (ls := [some (.ref 47), some (.int k), some (.int a), some (.int b), none]) (by decide) rfl rfl ?_
  refine za_iload_n (pc := 0) dX7_job_0 rfl ?_
  refine za_iconst (pc := 1) (1) dX7_job_1 (by decide) ?_
  have to36 : (¬ k = 3 → (0 ≤ k ∧ k ≤ 3) → kdOk k a b) → zA (zZ mX7_job (zQI SH (fun x t => x = spJob m H k a b ∧ ((kdOk k a b ∧ cN (H m) < 10 ∧ MJ t (pushN m) (pushH m H (addC (H m) k a b)) ∧ t 47 14 = 0 ∧ FMJ t σ) ∨ (¬ (kdOk k a b ∧ cN (H m) < 10) ∧ t = σ))))) mX7_job none 0 0 36 [some (.ref 47), some (.int k), some (.int a), some (.int b), none] [] SH σ := by
    intro hk
    refine za_iload_n (pc := 36) dX7_job_36 rfl ?_
    refine za_iconst (pc := 37) (3) dX7_job_37 (by decide) ?_
    refine za_icmp_ne (pc := 38) 55 dX7_job_38 (by decide) (fun c38 => ?_) (fun c38 => ?_)
    · exact good (hk c38)
    · refine za_iload_n (pc := 41) dX7_job_41 rfl ?_
      refine za_i2l (pc := 42) dX7_job_42 ?_
      refine za_lconst (pc := 43) (0) dX7_job_43 (by decide) ?_
      refine za_lconst (pc := 44) (1) dX7_job_44 (by decide) ?_
      refine za_cS3i (pc := 45) (μ' := mX7_in) dX7_job_45 c_X7_73 rfl ⟨rfl, rfl⟩ ⟨rfl, rfl⟩ rfl rfl rfl (tX7_in) (fun x_45 t_45 h_45 => ?_)
      obtain ⟨rfl, h9⟩ := h_45
      have h9 := h9.symm
      subst h9
      rw [zin_if (lo := 0) (hi := 1) (L := 0) (H := 1) rfl rfl]
      by_cases ha : 0 ≤ a ∧ a ≤ 1
      · rw [if_pos ha]
        refine za_if_ne (pc := 48) 55 dX7_job_48 (by decide) (fun c48 => ?_) (fun c48 => ?_)
        · refine good (fun _ => Or.inr (Or.inr (Or.inr ⟨c38, ?_⟩)))
          rw [fa_eq, fa_eq, e0, e1]
          rw [fa_le, fa_le, e0, e1] at ha
          omega
        · exact absurd c48 (by decide)
      · rw [if_neg ha]
        refine za_if_ne (pc := 48) 55 dX7_job_48 (by decide) (fun c48 => ?_) (fun c48 => ?_)
        · exact absurd rfl c48
        · refine bad (fun q => ?_)
          rcases q with q | q | q | q
          · rw [q] at c38; exact absurd c38 (by decide)
          · rw [q.1] at c38; exact absurd c38 (by decide)
          · rw [q.1] at c38; exact absurd c38 (by decide)
          · rcases q.2 with q | q <;> rw [q] at ha <;> exact ha (by decide)
  have to12 : ¬ k = 1 → zA (zZ mX7_job (zQI SH (fun x t => x = spJob m H k a b ∧ ((kdOk k a b ∧ cN (H m) < 10 ∧ MJ t (pushN m) (pushH m H (addC (H m) k a b)) ∧ t 47 14 = 0 ∧ FMJ t σ) ∨ (¬ (kdOk k a b ∧ cN (H m) < 10) ∧ t = σ))))) mX7_job none 0 0 12 [some (.ref 47), some (.int k), some (.int a), some (.int b), none] [] SH σ := by
    intro hk1
    refine za_iload_n (pc := 12) dX7_job_12 rfl ?_
    refine za_iconst (pc := 13) (2) dX7_job_13 (by decide) ?_
    refine za_icmp_ne (pc := 14) 36 dX7_job_14 (by decide) (fun c14 => ?_) (fun c14 => ?_)
    · refine to36 (fun hk3 hr => Or.inl ?_)
      rw [fa_eq] at *
      rw [fa_le, fa_le] at hr
      omega
    · have iff2 : kdOk k a b ↔ isHr a ∧ isHr b ∧ a ≤ b := ⟨fun q => by
        rcases q with q | q | q | q
        · rw [q] at c14; exact absurd c14 (by decide)
        · exact absurd q.1 hk1
        · exact q.2
        · rw [q.1] at c14; exact absurd c14 (by decide), fun q => Or.inr (Or.inr (Or.inl ⟨c14, q⟩))⟩
      refine za_iload_n (pc := 17) dX7_job_17 rfl ?_
      refine za_cS1i (pc := 18) (μ' := mX7_isHour) dX7_job_18 c_X7_104 rfl ⟨rfl, rfl⟩ ⟨rfl, rfl⟩ rfl rfl rfl (tX7_isHour) (fun x_18 t_18 h_18 => ?_)
      obtain ⟨rfl, h9⟩ := h_18
      have h9 := h9.symm
      subst h9
      by_cases ha : isHr a
      · rw [if_pos ha]
        refine za_if_eq (pc := 21) 51 dX7_job_21 (by decide) (fun c21 => ?_) (fun c21 => ?_)
        · exact absurd c21 (by decide)
        refine za_iload_n (pc := 24) dX7_job_24 rfl ?_
        refine za_cS1i (pc := 25) (μ' := mX7_isHour) dX7_job_25 c_X7_104 rfl ⟨rfl, rfl⟩ ⟨rfl, rfl⟩ rfl rfl rfl (tX7_isHour) (fun x_25 t_25 h_25 => ?_)
        obtain ⟨rfl, h9⟩ := h_25
        have h9 := h9.symm
        subst h9
        by_cases hb : isHr b
        · rw [if_pos hb]
          refine za_if_eq (pc := 28) 51 dX7_job_28 (by decide) (fun c28 => ?_) (fun c28 => ?_)
          · exact absurd c28 (by decide)
          refine za_iload_n (pc := 31) dX7_job_31 rfl ?_
          refine za_iload_n (pc := 32) dX7_job_32 rfl ?_
          refine za_icmp_gt (pc := 33) 51 dX7_job_33 (by decide) (fun c33 => ?_) (fun c33 => ?_)
          · exact bad (fun q => absurd (iff2.mp q).2.2 (Int32.not_le.mpr c33))
          · exact to36 (fun _ _ => iff2.mpr ⟨ha, hb, Int32.not_lt.mp c33⟩)
        · rw [if_neg hb]
          refine za_if_eq (pc := 28) 51 dX7_job_28 (by decide) (fun c28 => ?_) (fun c28 => ?_)
          · exact bad (fun q => hb (iff2.mp q).2.1)
          · exact absurd rfl c28
      · rw [if_neg ha]
        refine za_if_eq (pc := 21) 51 dX7_job_21 (by decide) (fun c21 => ?_) (fun c21 => ?_)
        · exact bad (fun q => ha (iff2.mp q).1)
        · exact absurd rfl c21
  refine za_icmp_ne (pc := 2) 12 dX7_job_2 (by decide) (fun c2 => ?_) (fun c2 => ?_)
  · exact to12 c2
  · refine za_iload_n (pc := 5) dX7_job_5 rfl ?_
    refine za_cS1i (pc := 6) (μ' := mX7_isHour) dX7_job_6 c_X7_104 rfl ⟨rfl, rfl⟩ ⟨rfl, rfl⟩ rfl rfl rfl (tX7_isHour) (fun x_6 t_6 h_6 => ?_)
    obtain ⟨rfl, h9⟩ := h_6
    have h9 := h9.symm
    subst h9
    by_cases ha : isHr a
    · rw [if_pos ha]
      refine za_if_eq (pc := 9) 51 dX7_job_9 (by decide) (fun c9 => ?_) (fun c9 => ?_)
      · exact absurd c9 (by decide)
      · refine za_iload_n (pc := 12) dX7_job_12 rfl ?_
        refine za_iconst (pc := 13) (2) dX7_job_13 (by decide) ?_
        refine za_icmp_ne (pc := 14) 36 dX7_job_14 (by decide) (fun c14 => ?_) (fun c14 => ?_)
        · exact to36 (fun _ _ => Or.inr (Or.inl ⟨c2, ha⟩))
        · rw [c2] at c14; exact absurd c14 (by decide)
    · rw [if_neg ha]
      refine za_if_eq (pc := 9) 51 dX7_job_9 (by decide) (fun c9 => ?_) (fun c9 => ?_)
      · refine bad (fun q => ?_)
        rcases q with q | q | q | q
        · rw [q] at c2; exact absurd c2 (by decide)
        · exact ha q.2
        · rw [q.1] at c2; exact absurd c2 (by decide)
        · rw [q.1] at c2; exact absurd c2 (by decide)
      · exact absurd rfl c9
/-! the ring that was kept -/
def XRing (σ : zSt) (r : Nat) (f : Nat → Int32) : Prop := σ 32 3 = nI r ∧ ∀ k, k < r → σ 33 k = f k
def MRing (σ : zSt) (r : Nat) (f : Nat → Int32) : Prop := σ 47 11 = nI r ∧ ∀ k, k < r → σ 57 k = f k
def spRing (r : Nat) (f : Nat → Int32) (k : Int32) : Int32 := if k < 0 then -1 else if k.toInt < r then f k.toNatClampNeg else -3
theorem tX3_jobAt {σ : zSt} {r : Nat} {f : Nat → Int32} {k : Int32} (h : XRing σ r f) (hr : r ≤ 10) (hk : ¬ k < 0) : zI mX3_jobAt [.ref 32, .int k] SH σ (fun x t => x = spRing r f k ∧ t = σ) := by
  have e0 : (0 : Int32).toInt = 0 := rfl
  refine zI_of (ls := [some (.ref 32), some (.int k)]) (by decide) rfl rfl ?_
  refine za_iload_n (pc := 0) dX3_jobAt_0 rfl ?_
  refine za_aload_n (pc := 1) dX3_jobAt_1 rfl ?_
  refine za_getI (pc := 2) dX3_jobAt_2 lk_X3_18 rfl rfl ?_
  rw [h.1]
  refine za_icmp_ge (pc := 5) 17 dX3_jobAt_5 (by decide) (fun c5 => ?_) (fun c5 => ?_)
  · refine za_bipush (pc := 17) (-3) dX3_jobAt_17 (by decide) ?_
    refine za_ri (pc := 19) dX3_jobAt_19 rfl rfl rfl ?_
    rw [fa_le, nI_toInt (by omega)] at c5
    exact ⟨by rw [spRing, if_neg hk, if_neg (by omega)], rfl⟩
  · rw [fa_le, nI_toInt (by omega)] at c5
    rw [fa_lt, e0] at hk
    obtain ⟨q, hq, rfl⟩ := vp_in_of (x := k) (n := r) (vp_in_iff.mpr (by omega)) (by omega)
    refine za_aload_n (pc := 8) dX3_jobAt_8 rfl ?_
    refine za_getR (pc := 9) dX3_jobAt_9 lk_X3_9 rfl rfl ?_
    refine za_iload_n (pc := 12) dX3_jobAt_12 rfl ?_
    refine za_iald (pc := 13) dX3_jobAt_13 rfl (vp_in_nI (show q < 10 by omega) (by decide)) ?_
    refine za_goto (pc := 14) 19 dX3_jobAt_14 (by decide) ?_
    refine za_ri (pc := 19) dX3_jobAt_19 rfl rfl rfl ?_
    refine ⟨?_, rfl⟩
    rw [spRing, if_neg (by rw [fa_lt, e0]; omega), if_pos (by omega), nI_clamp (by omega), h.2 q hq]
theorem tX6_ring {σ : zSt} {r : Nat} {f : Nat → Int32} {k : Int32} (h : XRing σ r f) (hr : r ≤ 10) : zI mX6_ring [.ref 0, .int k] SH σ (fun x t => x = spRing r f k ∧ t = σ) := by
  refine zI_of (ls := [some (.ref 0), some (.int k)]) (by decide) rfl rfl ?_
  refine za_iload_n (pc := 0) dX6_ring_0 rfl ?_
  refine za_if_ge (pc := 1) 8 dX6_ring_1 (by decide) (fun c1 => ?_) (fun c1 => ?_)
  · have hk : ¬ k < 0 := Int32.not_lt.mpr c1
    refine za_aload_n (pc := 8) dX6_ring_8 rfl ?_
    refine za_getR (pc := 9) dX6_ring_9 lk_X6_50 rfl rfl ?_
    refine za_iload_n (pc := 12) dX6_ring_12 rfl ?_
    refine za_cV1i (pc := 13) (μ' := mX3_jobAt) dX6_ring_13 c_X6_126 rfl rfl rfl ⟨rfl, rfl⟩ ⟨rfl, rfl⟩ rfl rfl rfl (tX3_jobAt h hr hk) (fun x_13 t_13 h_13 => ?_)
    obtain ⟨rfl, h9⟩ := h_13
    have h9 := h9.symm
    subst h9
    refine za_ri (pc := 16) dX6_ring_16 rfl rfl rfl ?_
    exact ⟨rfl, rfl⟩
  · refine za_iconst (pc := 4) (-1) dX6_ring_4 (by decide) ?_
    refine za_goto (pc := 5) 16 dX6_ring_5 (by decide) ?_
    refine za_ri (pc := 16) dX6_ring_16 rfl rfl rfl ?_
    exact ⟨by rw [spRing, if_pos (Int32.not_le.mp c1)], rfl⟩
theorem tX7_ring {σ : zSt} {r : Nat} {f : Nat → Int32} {k : Int32} (h : MRing σ r f) (hr : r ≤ 10) : zI mX7_ring [.ref 47, .int k] SH σ (fun x t => x = spRing r f k ∧ t = σ) := by
  have e0 : (0 : Int32).toInt = 0 := rfl
  refine zI_of (ls := [some (.ref 47), some (.int k)]) (by decide) rfl rfl ?_
  refine za_iload_n (pc := 0) dX7_ring_0 rfl ?_
  refine za_if_ge (pc := 1) 8 dX7_ring_1 (by decide) (fun c1 => ?_) (fun c1 => ?_)
  · have hk : ¬ k < 0 := Int32.not_lt.mpr c1
    refine za_iload_n (pc := 8) dX7_ring_8 rfl ?_
    refine za_aload_n (pc := 9) dX7_ring_9 rfl ?_
    refine za_getI (pc := 10) dX7_ring_10 lk_X7_112 rfl rfl ?_
    rw [h.1]
    refine za_icmp_ge (pc := 13) 25 dX7_ring_13 (by decide) (fun c5 => ?_) (fun c5 => ?_)
    · refine za_bipush (pc := 25) (-3) dX7_ring_25 (by decide) ?_
      refine za_ri (pc := 27) dX7_ring_27 rfl rfl rfl ?_
      rw [fa_le, nI_toInt (by omega)] at c5
      exact ⟨by rw [spRing, if_neg hk, if_neg (by omega)], rfl⟩
    · rw [fa_le, nI_toInt (by omega)] at c5
      rw [fa_lt, e0] at hk
      obtain ⟨q, hq, rfl⟩ := vp_in_of (x := k) (n := r) (vp_in_iff.mpr (by omega)) (by omega)
      refine za_aload_n (pc := 16) dX7_ring_16 rfl ?_
      refine za_getR (pc := 17) dX7_ring_17 lk_X7_37 rfl rfl ?_
      refine za_iload_n (pc := 20) dX7_ring_20 rfl ?_
      refine za_iald (pc := 21) dX7_ring_21 rfl (vp_in_nI (show q < 10 by omega) (by decide)) ?_
      refine za_goto (pc := 22) 27 dX7_ring_22 (by decide) ?_
      refine za_ri (pc := 27) dX7_ring_27 rfl rfl rfl ?_
      refine ⟨?_, rfl⟩
      rw [spRing, if_neg (by rw [fa_lt, e0]; omega), if_pos (by omega), nI_clamp (by omega), h.2 q hq]
  · refine za_iconst (pc := 4) (-1) dX7_ring_4 (by decide) ?_
    refine za_goto (pc := 5) 27 dX7_ring_5 (by decide) ?_
    refine za_ri (pc := 27) dX7_ring_27 rfl rfl rfl ?_
    exact ⟨by rw [spRing, if_pos (Int32.not_le.mp c1)], rfl⟩
