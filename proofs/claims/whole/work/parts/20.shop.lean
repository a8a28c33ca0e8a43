/-! jobs of the class -/
theorem XHist_push {σ t : zSt} {m : Nat} {H : Nat → Core} {c : Core} {j w0 : Int32} (h : XHist σ m H) (hm : m ≤ 20) (h6 : t 2 6 = nI (pushN m)) (hk : ∀ k, k + 1 < pushN m → t 8 k = (if m = 20 then σ 8 (k + 1) else σ 8 k) ∧ t 9 k = (if m = 20 then σ 9 (k + 1) else σ 9 k)) (h8 : t 8 (pushN m - 1) = j) (h9 : t 9 (pushN m - 1) = w0) (hu : undoR j w0 c (H m)) : XHist t (pushN m) (pushH m H c) := by
  refine ⟨h6, fun k hk2 => ?_⟩
  by_cases e : m = 20
  · have ep : pushN m = 20 := if_pos e
    rw [ep] at hk2 hk h8 h9
    have eH : pushH m H c = fun k => if k < 20 then H (k + 1) else c := if_pos e
    rw [eH]
    by_cases e2 : k = 19
    · subst e2
      simp only [show ¬ (19 + 1 < 20) by decide, if_false, show 19 < 20 by decide, if_true]
      rw [h8, h9]
      rw [e] at hu
      exact hu
    · simp only [if_pos hk2, if_pos (show k + 1 < 20 by omega)]
      obtain ⟨a1, a2⟩ := hk k (by omega)
      rw [if_pos e] at a1 a2
      rw [a1, a2]
      exact h.2 (k + 1) (by omega)
  · have ep : pushN m = m + 1 := if_neg e
    rw [ep] at hk2 hk h8 h9
    have eH : pushH m H c = fun k => if k ≤ m then H k else c := if_neg e
    rw [eH]
    by_cases e2 : k = m
    · subst e2
      simp only [if_pos (Nat.le_refl k), if_neg (show ¬ k + 1 ≤ k by omega)]
      rw [Nat.add_sub_cancel] at h8 h9
      rw [h8, h9]
      exact hu
    · simp only [if_pos (show k ≤ m by omega), if_pos (show k + 1 ≤ m by omega)]
      obtain ⟨a1, a2⟩ := hk k (by omega)
      rw [if_neg e] at a1 a2
      rw [a1, a2]
      exact h.2 k (by omega)
/-- the jobs of the class: row of cores H up to m, version v -/
def XJ (σ : zSt) (m : Nat) (H : Nat → Core) (v : Nat) : Prop := XCore σ (H m) ∧ XHist σ m H ∧ σ 2 7 = nI v
/-- the core with one more job -/
def addC (c : Core) (k a b : Int32) : Core := (cN c + 1, va_up (cK c) (cN c) k, va_up (cB c) (cN c) (if k = 2 then a else -3), va_up (cE c) (cN c) (if k = 1 then a else if k = 2 then b else -3), va_up (cH c) (cN c) (if k = 3 then a else -3), va_up (cW c) (cN c) (fun _ => false))
theorem addC_N {c : Core} {k a b : Int32} : cN (addC c k a b) = cN c + 1 := rfl
theorem addC_K {c : Core} {k a b : Int32} {q : Nat} : cK (addC c k a b) q = if q = cN c then k else cK c q := rfl
theorem addC_B {c : Core} {k a b : Int32} {q : Nat} : cB (addC c k a b) q = if q = cN c then (if k = 2 then a else -3) else cB c q := rfl
theorem addC_E {c : Core} {k a b : Int32} {q : Nat} : cE (addC c k a b) q = if q = cN c then (if k = 1 then a else if k = 2 then b else -3) else cE c q := rfl
theorem addC_H {c : Core} {k a b : Int32} {q : Nat} : cH (addC c k a b) q = if q = cN c then (if k = 3 then a else -3) else cH c q := rfl
theorem addC_W {c : Core} {k a b : Int32} {q : Nat} : cW (addC c k a b) q = if q = cN c then (fun _ => false) else cW c q := rfl
/-- only these cells change in a change of jobs -/
def FJ (t σ : zSt) : Prop := ∀ c, c < 2 ∨ 10 ≤ c → t c = σ c
theorem tX5_add {σ : zSt} {m v : Nat} {H : Nat → Core} {k a b : Int32} (h : XJ σ m H v) (ho : JOk m H) (hn : cN (H m) < 10) (hk : kdOk k a b) : zI mX5_add [.ref 2, .int k, .int a, .int b] SH σ (fun x t => x = nI (cN (H m)) ∧ XJ t (pushN m) (pushH m H (addC (H m) k a b)) (v + 1) ∧ FJ t σ) := by
  obtain ⟨⟨c1, c2, c3, c4, c5⟩, hh, hv⟩ := h
  refine zI_of (ls := [some (.ref 2), some (.int k), some (.int a), some (.int b), none]) (by decide) rfl rfl ?_
  refine za_aload_n (pc := 0) dX5_add_0 rfl ?_
  refine za_getI (pc := 1) dX5_add_1 lk_X5_27 rfl rfl ?_
  refine za_is4 (pc := 4) dX5_add_4 rfl ?_
  refine za_aload_n (pc := 6) dX5_add_6 rfl ?_
  refine za_bipush (pc := 7) (10) dX5_add_7 (by decide) ?_
  refine za_iconst (pc := 9) (0) dX5_add_9 (by decide) ?_
  rw [c1]
  generalize hN : cN (H m) = N at *
  refine za_cV2v (pc := 10) (μ' := mX5_note) dX5_add_10 c_X5_53 rfl rfl rfl ⟨rfl, rfl⟩ ⟨rfl, rfl⟩ rfl rfl rfl (tX5_note hh.1 ho.1) (fun t_10 h_10 => ?_)
  obtain ⟨n1, n2, n3, n4, n5, n6, n7⟩ := h_10
  generalize t_10 = t at *
  have vN : vp_in (nI N) 10 := vp_in_nI hn (by decide)
  have vN1 : vp_in (nI N) 11 := vp_in_nI (by omega) (by decide)
  have eN : (nI N).toNatClampNeg = N := nI_clamp (by omega)
  -- the last part, with the numbers that were chosen
  have fin : ∀ (x1 x2 x3 : Int32), x1 = xB (if k = 2 then a else -3) → x2 = xE (if k = 1 then a else if k = 2 then b else -3) → x3 = (if k = 3 then a else -3) → ∀ u : zSt, u = zup (zup (zup (zup (zup t 3 N k) 4 N x1) 5 N x2) 6 N x3) 7 N 0 → zA (zZ mX5_add (zQI SH (fun x t => x = nI N ∧ XJ t (pushN m) (pushH m H (addC (H m) k a b)) (v + 1) ∧ FJ t σ))) mX5_add none 0 0 91 [some (.ref 2), some (.int k), some (.int a), some (.int b), some (.int (nI N))] [] SH u := by
    intro x1 x2 x3 ex1 ex2 ex3 u eu
    refine za_aload_n (pc := 91) dX5_add_91 rfl ?_
    refine za_dup (pc := 92) dX5_add_92 rfl ?_
    refine za_getI (pc := 93) dX5_add_93 lk_X5_27 rfl rfl ?_
    refine za_iconst (pc := 96) (1) dX5_add_96 (by decide) ?_
    refine za_iadd (pc := 97) dX5_add_97 ?_
    refine za_putI (pc := 98) dX5_add_98 lp_X5_27 rfl rfl ?_
    refine za_iload (pc := 101) dX5_add_101 rfl ?_
    refine za_ri (pc := 103) dX5_add_103 rfl rfl rfl ?_
    have eu5 : u 2 5 = nI N := by
      rw [eu, zup_n (by decide), zup_n (by decide), zup_n (by decide), zup_n (by decide), zup_n (by decide), n2 5 (by decide) (by decide), c1]
    have r2 : ∀ i, u 2 i = t 2 i := fun i => by rw [eu, zup_n (by decide), zup_n (by decide), zup_n (by decide), zup_n (by decide), zup_n (by decide)]
    have r3 : ∀ i, u 3 i = upd (t 3) N k i := fun i => by rw [eu, zup_n (by decide), zup_n (by decide), zup_n (by decide), zup_n (by decide), zup_s]
    have r4 : ∀ i, u 4 i = upd (t 4) N x1 i := fun i => by rw [eu, zup_n (by decide), zup_n (by decide), zup_n (by decide), zup_s, zup_n (by decide)]
    have r5 : ∀ i, u 5 i = upd (t 5) N x2 i := fun i => by rw [eu, zup_n (by decide), zup_n (by decide), zup_s, zup_n (by decide), zup_n (by decide)]
    have r6 : ∀ i, u 6 i = upd (t 6) N x3 i := fun i => by rw [eu, zup_n (by decide), zup_s, zup_n (by decide), zup_n (by decide), zup_n (by decide)]
    have r7 : ∀ i, u 7 i = upd (t 7) N 0 i := fun i => by rw [eu, zup_s, zup_n (by decide), zup_n (by decide), zup_n (by decide), zup_n (by decide)]
    have r8 : ∀ c, 8 ≤ c → u c = t c := fun c hc => by rw [eu, zup_n (by omega), zup_n (by omega), zup_n (by omega), zup_n (by omega), zup_n (by omega)]
    have rF : ∀ c, c < 2 → u c = t c := fun c hc => by rw [eu, zup_n (by omega), zup_n (by omega), zup_n (by omega), zup_n (by omega), zup_n (by omega)]
    refine ⟨rfl, ⟨?_, XHist_push (j := 10) (w0 := 0) hh ho.1 ?_ ?_ ?_ ?_ (Or.inl ⟨rfl, addC_N, fun q hq => ?_⟩), ?_⟩, ?_⟩
    · rw [push_top]
      refine ⟨?_, fun q hq => ?_, ?_, ?_, ?_⟩
      · rw [zup_a, eu5, nI_1, addC_N, hN]
      · simp only [zup_n (show (3 : Nat) ≠ 2 by decide), zup_n (show (4 : Nat) ≠ 2 by decide), zup_n (show (5 : Nat) ≠ 2 by decide), zup_n (show (6 : Nat) ≠ 2 by decide), zup_n (show (7 : Nat) ≠ 2 by decide)]
        rw [r3, r4, r5, r6, r7, n1 3 (by decide) (by decide) (by decide), n1 4 (by decide) (by decide) (by decide), n1 5 (by decide) (by decide) (by decide), n1 6 (by decide) (by decide) (by decide), n1 7 (by decide) (by decide) (by decide)]
        rw [addC_N, hN] at hq
        rw [addC_K, addC_B, addC_E, addC_H, addC_W, hN]
        by_cases e : q = N
        · subst e
          simp only [pk_us, if_true]
          exact ⟨trivial, ex1, ex2, ex3, zm_0.symm⟩
        · simp only [pk_un e, if_neg e]
          exact c2 q (by omega)
      · rw [zup_n (by decide), r4, pk_un (by omega), n1 4 (by decide) (by decide) (by decide)]; exact c3
      · rw [zup_n (by decide), r5, pk_un (by omega), n1 5 (by decide) (by decide) (by decide)]; exact c4
      · rw [zup_n (by decide), r6, pk_un (by omega), n1 6 (by decide) (by decide) (by decide)]; exact c5
    · rw [zup_b (by decide), r2]; exact n3
    · intro q hq
      rw [zup_n (by decide), zup_n (by decide), r8 8 (by decide), r8 9 (by decide)]
      exact n5 q hq
    · rw [zup_n (by decide), r8 8 (by decide)]; exact n6
    · rw [zup_n (by decide), r8 9 (by decide)]; exact n7
    · rw [addC_K, addC_B, addC_E, addC_H, addC_W]
      have e : q ≠ cN (H m) := by omega
      simp only [if_neg e]
      exact ⟨trivial, trivial, trivial, trivial, fun _ _ => trivial⟩
    · rw [zup_b (by decide), r2, n4, hv, nI_1]
    · intro c hc
      rcases hc with hc | hc
      · rw [zup_n (by omega), rF c hc, n1 c (by omega) (by omega) (by omega)]
      · rw [zup_n (by omega), r8 c (by omega), n1 c (by omega) (by omega) (by omega)]
  refine za_aload_n (pc := 13) dX5_add_13 rfl ?_
  refine za_getR (pc := 14) dX5_add_14 lk_X5_9 rfl rfl ?_
  refine za_iload (pc := 17) dX5_add_17 rfl ?_
  refine za_iload_n (pc := 19) dX5_add_19 rfl ?_
  refine za_iast (pc := 20) dX5_add_20 rfl vN ?_
  refine za_aload_n (pc := 21) dX5_add_21 rfl ?_
  refine za_getR (pc := 22) dX5_add_22 lk_X5_15 rfl rfl ?_
  refine za_iload (pc := 25) dX5_add_25 rfl ?_
  refine za_iload_n (pc := 27) dX5_add_27 rfl ?_
  refine za_iconst (pc := 28) (2) dX5_add_28 (by decide) ?_
  rw [eN]
  have f6 : ∀ (x1 x2 : Int32), x1 = xB (if k = 2 then a else -3) → x2 = xE (if k = 1 then a else if k = 2 then b else -3) → zA (zZ mX5_add (zQI SH (fun x t => x = nI N ∧ XJ t (pushN m) (pushH m H (addC (H m) k a b)) (v + 1) ∧ FJ t σ))) mX5_add none 0 0 64 [some (.ref 2), some (.int k), some (.int a), some (.int b), some (.int (nI N))] [.int x2, .int (nI N), .ref 5] SH (zup (zup t 3 N k) 4 N x1) := by
    intro x1 x2 e1 e2
    refine za_iast (pc := 64) dX5_add_64 rfl vN1 ?_
    refine za_aload_n (pc := 65) dX5_add_65 rfl ?_
    refine za_getR (pc := 66) dX5_add_66 lk_X5_21 rfl rfl ?_
    refine za_iload (pc := 69) dX5_add_69 rfl ?_
    refine za_iload_n (pc := 71) dX5_add_71 rfl ?_
    refine za_iconst (pc := 72) (3) dX5_add_72 (by decide) ?_
    rw [eN]
    refine za_icmp_ne (pc := 73) 80 dX5_add_73 (by decide) (fun c73 => ?_) (fun c73 => ?_)
    · refine za_bipush (pc := 80) (-3) dX5_add_80 (by decide) ?_
      refine za_iast (pc := 82) dX5_add_82 rfl vN1 ?_
      refine za_aload_n (pc := 83) dX5_add_83 rfl ?_
      refine za_getR (pc := 84) dX5_add_84 lk_X5_24 rfl rfl ?_
      refine za_iload (pc := 87) dX5_add_87 rfl ?_
      refine za_iconst (pc := 89) (0) dX5_add_89 (by decide) ?_
      refine za_iast (pc := 90) dX5_add_90 rfl vN ?_
      rw [eN]
      exact fin x1 x2 (-3) e1 e2 (by rw [if_neg c73]) _ rfl
    · refine za_iload_n (pc := 76) dX5_add_76 rfl ?_
      refine za_goto (pc := 77) 82 dX5_add_77 (by decide) ?_
      refine za_iast (pc := 82) dX5_add_82 rfl vN1 ?_
      refine za_aload_n (pc := 83) dX5_add_83 rfl ?_
      refine za_getR (pc := 84) dX5_add_84 lk_X5_24 rfl rfl ?_
      refine za_iload (pc := 87) dX5_add_87 rfl ?_
      refine za_iconst (pc := 89) (0) dX5_add_89 (by decide) ?_
      refine za_iast (pc := 90) dX5_add_90 rfl vN ?_
      rw [eN]
      exact fin x1 x2 a e1 e2 (by rw [if_pos c73]) _ rfl
  have f4 : ∀ (x1 : Int32), x1 = xB (if k = 2 then a else -3) → zA (zZ mX5_add (zQI SH (fun x t => x = nI N ∧ XJ t (pushN m) (pushH m H (addC (H m) k a b)) (v + 1) ∧ FJ t σ))) mX5_add none 0 0 37 [some (.ref 2), some (.int k), some (.int a), some (.int b), some (.int (nI N))] [.int x1, .int (nI N), .ref 4] SH (zup t 3 N k) := by
    intro x1 e1
    refine za_iast (pc := 37) dX5_add_37 rfl vN1 ?_
    refine za_aload_n (pc := 38) dX5_add_38 rfl ?_
    refine za_getR (pc := 39) dX5_add_39 lk_X5_18 rfl rfl ?_
    refine za_iload (pc := 42) dX5_add_42 rfl ?_
    refine za_iload_n (pc := 44) dX5_add_44 rfl ?_
    refine za_iconst (pc := 45) (2) dX5_add_45 (by decide) ?_
    rw [eN]
    refine za_icmp_ne (pc := 46) 53 dX5_add_46 (by decide) (fun c46 => ?_) (fun c46 => ?_)
    · refine za_iload_n (pc := 53) dX5_add_53 rfl ?_
      refine za_iconst (pc := 54) (1) dX5_add_54 (by decide) ?_
      refine za_icmp_ne (pc := 55) 62 dX5_add_55 (by decide) (fun c55 => ?_) (fun c55 => ?_)
      · refine za_bipush (pc := 62) (64) dX5_add_62 (by decide) ?_
        exact f6 x1 64 e1 (by rw [if_neg c55, if_neg c46]; rfl)
      · refine za_iload_n (pc := 58) dX5_add_58 rfl ?_
        refine za_goto (pc := 59) 64 dX5_add_59 (by decide) ?_
        refine f6 x1 a e1 ?_
        rw [if_pos c55]
        rcases hk with q | q | q | q
        · rw [c55] at q; exact absurd q (by decide)
        · unfold xE
          rw [if_neg (fun e => absurd q.2.1 (by rw [e]; decide))]
        · rw [c55] at q; exact absurd q.1 (by decide)
        · rw [c55] at q; exact absurd q.1 (by decide)
    · refine za_iload_n (pc := 49) dX5_add_49 rfl ?_
      refine za_goto (pc := 50) 64 dX5_add_50 (by decide) ?_
      refine f6 x1 b e1 ?_
      rw [if_pos c46, if_neg (by rw [c46]; decide)]
      rcases hk with q | q | q | q
      · rw [c46] at q; exact absurd q (by decide)
      · rw [c46] at q; exact absurd q.1 (by decide)
      · unfold xE
        rw [if_neg (fun e => absurd q.2.2.1.1 (by rw [e]; decide))]
      · rw [c46] at q; exact absurd q.1 (by decide)
  refine za_icmp_ne (pc := 29) 36 dX5_add_29 (by decide) (fun c29 => ?_) (fun c29 => ?_)
  · refine za_iconst (pc := 36) (1) dX5_add_36 (by decide) ?_
    exact f4 1 (by rw [if_neg c29]; rfl)
  · refine za_iload_n (pc := 32) dX5_add_32 rfl ?_
    refine za_goto (pc := 33) 37 dX5_add_33 (by decide) ?_
    refine f4 a ?_
    rw [if_pos c29]
    rcases hk with q | q | q | q
    · rw [c29] at q; exact absurd q (by decide)
    · rw [c29] at q; exact absurd q.1 (by decide)
    · unfold xB
      rw [if_neg (fun e => absurd q.2.1.1 (by rw [e]; decide))]
    · rw [c29] at q; exact absurd q.1 (by decide)
