/-! THE KEPT DAY of the class: the list of its blocks -/
noncomputable def nd (c : Core) (a : Nat) : Nat → Bool := fun i => bhd c a i || ltw c a i
def blk (a b : Nat) : Nat → Bool := fun i => decide (i = a) || (decide (i = b) && decide (i < 10))
noncomputable def ndB (c : Core) (a b : Nat) : Nat → Bool := fun i => nd c a i || (decide (b ≠ 10) && nd c b i)
def vB (c : Core) (a b : Nat) : Prop := a < cN c ∧ a < b ∧ (b = 10 ∨ (b < cN c ∧ bhd c a b = false ∧ bhd c b a = false ∧ ¬ sB c a b)) ∧ max (bN c a) (bN c b) ≤ min (eN c a) (eN c b)
def RowB (σ : zSt) (c : Core) (q a b : Nat) : Prop := σ 25 q = zmask (fun i => ndB c a b i && !blk a b i) ∧ σ 26 q = zmask (fun i => ndB c a b i || blk a b i) ∧ σ 27 q = nI (max (bN c a) (bN c b)) ∧ σ 28 q = nI (min (eN c a) (eN c b)) ∧ σ 29 q = nI (11 * a + b)
/-- nb blocks, those with codes below B, by their codes f -/
def BTI (σ : zSt) (c : Core) (nb : Nat) (f : Nat → Nat) (B : Nat) : Prop := σ 22 10 = nI nb ∧ (∀ q, q < nb → RowB σ c q (f q / 11) (f q % 11) ∧ vB c (f q / 11) (f q % 11) ∧ f q < B) ∧ (∀ q p, q < p → p < nb → f q < f p) ∧ ∀ a b, vB c a b → 11 * a + b < B → ∃ q, q < nb ∧ f q = 11 * a + b
def tri (n : Nat) : Nat → Nat
  | 0 => 0
  | a + 1 => tri n a + (n - a)
theorem tri_55 : ∀ n, n < 11 → ∀ a, a < 11 → tri n a + (n - a) ≤ 55 := by decide
theorem vB_10 {c : Core} {a b : Nat} (hc : cOk c) (h : vB c a b) : b ≤ 10 := by
  have := hc.1
  rcases h.2.2.1 with q | q <;> omega
theorem BTI_add {σ t : zSt} {c : Core} {nb a b : Nat} {f : Nat → Nat} (hc : cOk c) (h : BTI σ c nb f (11 * a + b)) (hv : vB c a b) (ht : addT σ t c nb a b (blk a b) (ndB c a b)) : BTI t c (nb + 1) (fun q => if q = nb then 11 * a + b else f q) (11 * a + b + 1) := by
  have hb10 := vB_10 hc hv
  obtain ⟨t1, t2, t3, t4, t5, t6, t7, t8, t9⟩ := ht
  refine ⟨t3, fun q hq => ?_, fun q p hqp hp => ?_, fun a' b' hv' hl => ?_⟩
  · by_cases e : q = nb
    · subst e
      simp only [if_pos]
      rw [(cd_ab (a := a) (b := b) (by omega)).1, (cd_ab (a := a) (b := b) (by omega)).2]
      exact ⟨⟨t5, t6, t7, t8, t9⟩, hv, by omega⟩
    · simp only [if_neg e]
      obtain ⟨⟨r1, r2, r3, r4, r5⟩, h2, h3⟩ := h.2.1 q (by omega)
      obtain ⟨q1, q2, q3, q4, q5⟩ := t4 q e
      refine ⟨⟨?_, ?_, ?_, ?_, ?_⟩, h2, by omega⟩
      · rw [q1]; exact r1
      · rw [q2]; exact r2
      · rw [q3]; exact r3
      · rw [q4]; exact r4
      · rw [q5]; exact r5
  · have e : q ≠ nb := by omega
    simp only [if_neg e]
    by_cases e2 : p = nb
    · simp only [if_pos e2]
      exact (h.2.1 q (by omega)).2.2
    · simp only [if_neg e2]
      exact h.2.2.1 q p hqp (by omega)
  · rcases Nat.lt_or_eq_of_le (Nat.le_of_lt_succ hl) with e | e
    · obtain ⟨q, h1, h2⟩ := h.2.2.2 a' b' hv' e
      exact ⟨q, by omega, by simp only [if_neg (show q ≠ nb by omega)]; exact h2⟩
    · exact ⟨nb, by omega, by simp only [if_pos]; exact e.symm⟩
theorem BTI_skip {σ : zSt} {c : Core} {nb B : Nat} {f : Nat → Nat} (h : BTI σ c nb f B) (B' : Nat) (hB : B ≤ B') (hno : ∀ a b, vB c a b → B ≤ 11 * a + b → 11 * a + b < B' → False) : BTI σ c nb f B' := ⟨h.1, fun q hq => ⟨(h.2.1 q hq).1, (h.2.1 q hq).2.1, by have := (h.2.1 q hq).2.2; omega⟩, h.2.2.1, fun a b hv hl => by
  rcases Nat.lt_or_ge (11 * a + b) B with q | q
  · exact h.2.2.2 a b hv q
  · exact absurd (hno a b hv q hl) id⟩
theorem tX0_listBlocks {σ : zSt} {c : Core} (hX : XCore σ c) (hc : cOk c) (hO : XOrd σ c) : zV mX0_listBlocks [.ref 22] SH σ (fun t => ∃ nb f, nb ≤ 55 ∧ BTI t c nb f 121 ∧ (∀ e, e < 22 ∨ 30 ≤ e ∨ e = 23 ∨ e = 24 → t e = σ e) ∧ ∀ i, i ≠ 10 → t 22 i = σ 22 i) := by
  have hn := hc.1
  have co : ∀ u : zSt, (∀ e, e < 22 → u e = σ e) → XCore u c ∧ XOrd u c ∧ u 2 5 = nI (cN c) := fun u hu => by
    have h1 := XCore_cong hX (t := u) (fun d hd => hu d (by omega))
    refine ⟨h1, ?_, h1.1⟩
    refine ⟨fun a ha => ?_, ?_⟩
    · rw [hu 11 (by decide), hu 12 (by decide), hu 13 (by decide), hu 14 (by decide)]
      exact hO.1 a ha
    · rw [hu 10 (by decide)]; exact hO.2
  refine zV_of (ls := [some (.ref 22), none, none, none]) (by decide) rfl rfl ?_
  refine za_aload_n (pc := 0) dX0_listBlocks_0 rfl ?_
  refine za_iconst (pc := 1) (0) dX0_listBlocks_1 (by decide) ?_
  refine za_putI (pc := 2) dX0_listBlocks_2 lp_X0_37 rfl rfl ?_
  refine za_iconst (pc := 5) (0) dX0_listBlocks_5 (by decide) ?_
  refine za_is1n (pc := 6) dX0_listBlocks_6 rfl ?_
  have outer : ∀ (q a nb : Nat) (f : Nat → Nat) (u : zSt) (x2 x3 : Option Value), a + q = cN c → nb ≤ tri (cN c) a → BTI u c nb f (11 * a) → (∀ e, e < 22 ∨ 30 ≤ e ∨ e = 23 ∨ e = 24 → u e = σ e) → (∀ i, i ≠ 10 → u 22 i = σ 22 i) → zA (zZ mX0_listBlocks (zQV SH (fun t => ∃ nb f, nb ≤ 55 ∧ BTI t c nb f 121 ∧ (∀ e, e < 22 ∨ 30 ≤ e ∨ e = 23 ∨ e = 24 → t e = σ e) ∧ ∀ i, i ≠ 10 → t 22 i = σ 22 i))) mX0_listBlocks none 0 0 7 [some (.ref 22), some (.int (nI a)), x2, x3] [] SH u := by
    intro q
    induction q with
    | zero =>
      intro a nb f u x2 x3 ha hnb hB g1 g2
      obtain ⟨uX, uO, uj⟩ := co u (fun e he => g1 e (Or.inl he))
      refine za_iload_n (pc := 7) dX0_listBlocks_7 rfl ?_
      refine za_aload_n (pc := 8) dX0_listBlocks_8 rfl ?_
      refine za_getR (pc := 9) dX0_listBlocks_9 lk_X0_49 rfl rfl ?_
      refine za_getI (pc := 12) dX0_listBlocks_12 lk_X0_89 rfl rfl ?_
      rw [uj]
      refine za_icmp_ge (pc := 15) 129 dX0_listBlocks_15 (by decide) (fun c15 => ?_) (fun c15 => ?_)
      · refine za_rv (pc := 129) dX0_listBlocks_129 rfl rfl rfl ?_
        have := tri_55 (cN c) (by omega) a (by omega)
        refine ⟨nb, f, by omega, BTI_skip hB 121 (by omega) (fun a' b' hv h1 h2 => ?_), g1, g2⟩
        have h3 := hv.1
        have h4 := vB_10 hc hv
        omega
      · exact absurd (nI_le (show cN c ≤ a by omega) (by omega)) c15
    | succ q ih =>
      intro a nb f u x2 x3 ha hnb hB g1 g2
      have hac : a < cN c := by omega
      have ht := tri_55 (cN c) (by omega) a (by omega)
      have va : vp_in (nI a) 10 := vp_in_nI (by omega) (by decide)
      have ea : (nI a).toNatClampNeg = a := nI_clamp (by omega)
      obtain ⟨uX, uO, uj⟩ := co u (fun e he => g1 e (Or.inl he))
      refine za_iload_n (pc := 7) dX0_listBlocks_7 rfl ?_
      refine za_aload_n (pc := 8) dX0_listBlocks_8 rfl ?_
      refine za_getR (pc := 9) dX0_listBlocks_9 lk_X0_49 rfl rfl ?_
      refine za_getI (pc := 12) dX0_listBlocks_12 lk_X0_89 rfl rfl ?_
      rw [uj]
      refine za_icmp_ge (pc := 15) 129 dX0_listBlocks_15 (by decide) (fun c15 => ?_) (fun c15 => ?_)
      · exact absurd c15 (nI_ge (show a < cN c by omega) (by omega))
      refine za_fg (ls' := [some (.ref 22), some (.int (nI a)), none, none]) (by simp [zSub]) ?_
      refine za_aload_n (pc := 18) dX0_listBlocks_18 rfl ?_
      refine za_getR (pc := 19) dX0_listBlocks_19 lk_X0_53 rfl rfl ?_
      refine za_getR (pc := 22) dX0_listBlocks_22 lk_X0_92 rfl rfl ?_
      refine za_iload_n (pc := 25) dX0_listBlocks_25 rfl ?_
      refine za_iald (pc := 26) dX0_listBlocks_26 rfl va ?_
      refine za_aload_n (pc := 27) dX0_listBlocks_27 rfl ?_
      refine za_iload_n (pc := 28) dX0_listBlocks_28 rfl ?_
      refine za_cV1i (pc := 29) (μ' := mX0_lesserTwins) dX0_listBlocks_29 c_X0_95 rfl rfl rfl ⟨rfl, rfl⟩ ⟨rfl, rfl⟩ rfl rfl rfl (tX0_lesserTwins uX hc uO hac) (fun x_29 t_29 h_29 => ?_)
      obtain ⟨rfl, h9⟩ := h_29
      have h9 := h9.symm
      subst h9
      rw [ea, (uO.1 a hac).1]
      refine za_ior (pc := 32) dX0_listBlocks_32 ?_
      rw [zm_or]
      refine za_is2n (pc := 33) dX0_listBlocks_33 rfl ?_
      refine za_iload_n (pc := 34) dX0_listBlocks_34 rfl ?_
      refine za_iconst (pc := 35) (1) dX0_listBlocks_35 (by decide) ?_
      refine za_iadd (pc := 36) dX0_listBlocks_36 ?_
      refine za_is3n (pc := 37) dX0_listBlocks_37 rfl ?_
      rw [nI_1]
      have inner : ∀ (q b nb : Nat) (f : Nat → Nat) (u : zSt), b + q = cN c → a < b → nb ≤ tri (cN c) a + (b - (a + 1)) → BTI u c nb f (11 * a + b) → (∀ e, e < 22 ∨ 30 ≤ e ∨ e = 23 ∨ e = 24 → u e = σ e) → (∀ i, i ≠ 10 → u 22 i = σ 22 i) → zA (zZ mX0_listBlocks (zQV SH (fun t => ∃ nb f, nb ≤ 55 ∧ BTI t c nb f 121 ∧ (∀ e, e < 22 ∨ 30 ≤ e ∨ e = 23 ∨ e = 24 → t e = σ e) ∧ ∀ i, i ≠ 10 → t 22 i = σ 22 i))) mX0_listBlocks none 0 0 38 [some (.ref 22), some (.int (nI a)), some (.int (zmask (fun i => bhd c a i || ltw c a i))), some (.int (nI b))] [] SH u := by
        intro q
        induction q with
        | zero =>
          intro b nb f u hb hab hnb hB g1 g2
          obtain ⟨uX, uO, uj⟩ := co u (fun e he => g1 e (Or.inl he))
          have hB2 := BTI_skip hB (11 * a + 10) (by omega) (fun a' b' hv h1 h2 => by
            have h3 := vB_10 hc hv
            rcases hv.2.2.1 with q | q <;> omega)
          refine za_iload_n (pc := 38) dX0_listBlocks_38 rfl ?_
          refine za_aload_n (pc := 39) dX0_listBlocks_39 rfl ?_
          refine za_getR (pc := 40) dX0_listBlocks_40 lk_X0_49 rfl rfl ?_
          refine za_getI (pc := 43) dX0_listBlocks_43 lk_X0_89 rfl rfl ?_
          rw [uj]
          refine za_icmp_ge (pc := 46) 111 dX0_listBlocks_46 (by decide) (fun c46 => ?_) (fun c46 => ?_)
          · refine za_aload_n (pc := 111) dX0_listBlocks_111 rfl ?_
            refine za_iload_n (pc := 112) dX0_listBlocks_112 rfl ?_
            refine za_bipush (pc := 113) (10) dX0_listBlocks_113 (by decide) ?_
            refine za_iload_n (pc := 115) dX0_listBlocks_115 rfl ?_
            refine za_cSN1i (pc := 116) (μ' := mX6_bit) dX0_listBlocks_116 c_X0_106 rfl ⟨rfl, rfl⟩ ⟨rfl, rfl⟩ rfl rfl rfl (tX6_bit) (fun x_116 t_116 h_116 => ?_)
            obtain ⟨rfl, h9⟩ := h_116
            have h9 := h9.symm
            subst h9
            refine za_iload_n (pc := 119) dX0_listBlocks_119 rfl ?_
            rw [zm_1 (show a < 16 by omega), show zmask (fun i => decide (i = a)) = zmask (blk a 10) from zm_cong (fun i _ => by
              unfold blk
              by_cases e : i = 10
              · subst e; simp
              · simp [e]), show zmask (fun i => bhd c a i || ltw c a i) = zmask (ndB c a 10) from zm_cong (fun i _ => by
              unfold ndB nd
              simp)]
            refine za_cV4v (pc := 120) (μ' := mX0_addBlock) dX0_listBlocks_120 c_X0_109 rfl rfl rfl ⟨rfl, rfl⟩ ⟨rfl, rfl⟩ rfl rfl rfl (tX0_addBlock (b := 10) uX hc hac (Or.inl rfl) hB2.1 (by omega)) (fun t_120 h_120 => ?_)
            refine za_ii1 (pc := 123) (1) dX0_listBlocks_123 (by decide) rfl ?_
            refine za_goto (pc := 126) 7 dX0_listBlocks_126 (by decide) ?_
            rw [nI_1]
            rcases h_120 with ⟨k1, k2⟩ | ⟨k1, k2⟩
            · have hv : vB c a 10 := ⟨hac, by omega, Or.inl rfl, k1⟩
              have hB3 := BTI_add hc hB2 hv k2
              refine ih (a + 1) (nb + 1) _ t_120 _ _ (by omega) (by show nb + 1 ≤ tri (cN c) a + (cN c - a); omega) hB3 (fun e he => ?_) (fun i hi => ?_)
              · rw [k2.1 e (by omega) (by omega) (by omega) (by omega) (by omega) (by omega)]; exact g1 e he
              · rw [k2.2.1 i hi]; exact g2 i hi
            · have k2 := k2.symm
              subst k2
              refine ih (a + 1) nb f u _ _ (by omega) (by show nb ≤ tri (cN c) a + (cN c - a); omega) (BTI_skip hB2 (11 * (a + 1)) (by omega) (fun a' b' hv h1 h2 => ?_)) g1 g2
              have h3 := vB_10 hc hv
              have e1 : a' = a := by omega
              have e2 : b' = 10 := by omega
              subst e1; subst e2
              exact k1 hv.2.2.2
          · exact absurd (nI_le (show cN c ≤ b by omega) (by omega)) c46
        | succ q ih2 =>
          intro b nb f u hb hab hnb hB g1 g2
          have hbn : b < cN c := by omega
          have vb : vp_in (nI b) 10 := vp_in_nI (by omega) (by decide)
          have eb : (nI b).toNatClampNeg = b := nI_clamp (by omega)
          obtain ⟨uX, uO, uj⟩ := co u (fun e he => g1 e (Or.inl he))
          have skip : ¬ vB c a b → zA (zZ mX0_listBlocks (zQV SH (fun t => ∃ nb f, nb ≤ 55 ∧ BTI t c nb f 121 ∧ (∀ e, e < 22 ∨ 30 ≤ e ∨ e = 23 ∨ e = 24 → t e = σ e) ∧ ∀ i, i ≠ 10 → t 22 i = σ 22 i))) mX0_listBlocks none 0 0 105 [some (.ref 22), some (.int (nI a)), some (.int (zmask (fun i => bhd c a i || ltw c a i))), some (.int (nI b))] [] SH u := by
            intro hno
            refine za_ii3 (pc := 105) (1) dX0_listBlocks_105 (by decide) rfl ?_
            refine za_goto (pc := 108) 38 dX0_listBlocks_108 (by decide) ?_
            rw [nI_1]
            refine ih2 (b + 1) nb f u (by omega) (by omega) (by omega) (BTI_skip hB (11 * a + (b + 1)) (by omega) (fun a' b' hv h1 h2 => ?_)) g1 g2
            have h3 := vB_10 hc hv
            have e1 : a' = a := by omega
            have e2 : b' = b := by omega
            subst e1; subst e2
            exact hno hv
          refine za_iload_n (pc := 38) dX0_listBlocks_38 rfl ?_
          refine za_aload_n (pc := 39) dX0_listBlocks_39 rfl ?_
          refine za_getR (pc := 40) dX0_listBlocks_40 lk_X0_49 rfl rfl ?_
          refine za_getI (pc := 43) dX0_listBlocks_43 lk_X0_89 rfl rfl ?_
          rw [uj]
          refine za_icmp_ge (pc := 46) 111 dX0_listBlocks_46 (by decide) (fun c46 => ?_) (fun c46 => ?_)
          · exact absurd c46 (nI_ge (show b < cN c by omega) (by omega))
          refine za_aload_n (pc := 49) dX0_listBlocks_49 rfl ?_
          refine za_getR (pc := 50) dX0_listBlocks_50 lk_X0_53 rfl rfl ?_
          refine za_iload_n (pc := 53) dX0_listBlocks_53 rfl ?_
          refine za_iload_n (pc := 54) dX0_listBlocks_54 rfl ?_
          refine za_cV2i (pc := 55) (μ' := mX2_areApart) dX0_listBlocks_55 c_X0_99 rfl rfl rfl ⟨rfl, rfl⟩ ⟨rfl, rfl⟩ rfl rfl rfl (tX2_areApart (a := a) (b := b) (by omega) (by omega) (uO.1 a hac).1 (uO.1 b hbn).1) (fun x_55 t_55 h_55 => ?_)
          obtain ⟨rfl, h9⟩ := h_55
          have h9 := h9.symm
          subst h9
          by_cases hap : a ≠ b ∧ bhd c a b = false ∧ bhd c b a = false
          · rw [if_pos hap]
            refine za_if_eq (pc := 58) 105 dX0_listBlocks_58 (by decide) (fun c58 => ?_) (fun c58 => ?_)
            · exact absurd c58 (by decide)
            refine za_aload_n (pc := 61) dX0_listBlocks_61 rfl ?_
            refine za_getR (pc := 62) dX0_listBlocks_62 lk_X0_49 rfl rfl ?_
            refine za_iload_n (pc := 65) dX0_listBlocks_65 rfl ?_
            refine za_iload_n (pc := 66) dX0_listBlocks_66 rfl ?_
            refine za_cV2i (pc := 67) (μ' := mX5_ownedAlike) dX0_listBlocks_67 c_X0_103 rfl rfl rfl ⟨rfl, rfl⟩ ⟨rfl, rfl⟩ rfl rfl rfl (tX5_ownedAlike uX hn hac hbn) (fun x_67 t_67 h_67 => ?_)
            obtain ⟨o1, o2⟩ := h_67
            have o2 := o2.symm
            subst o2
            rcases o1 with ⟨rfl, hsb⟩ | ⟨rfl, hsb⟩
            · refine za_if_ne (pc := 70) 105 dX0_listBlocks_70 (by decide) (fun c70 => ?_) (fun c70 => ?_)
              · exact skip (fun hv => by rcases hv.2.2.1 with q | q; (· omega); exact q.2.2.2 hsb)
              · exact absurd c70 (by decide)
            · refine za_if_ne (pc := 70) 105 dX0_listBlocks_70 (by decide) (fun c70 => ?_) (fun c70 => ?_)
              · exact absurd rfl c70
              refine za_aload_n (pc := 73) dX0_listBlocks_73 rfl ?_
              refine za_iload_n (pc := 74) dX0_listBlocks_74 rfl ?_
              refine za_iload_n (pc := 75) dX0_listBlocks_75 rfl ?_
              refine za_iload_n (pc := 76) dX0_listBlocks_76 rfl ?_
              refine za_cSN1i (pc := 77) (μ' := mX6_bit) dX0_listBlocks_77 c_X0_106 rfl ⟨rfl, rfl⟩ ⟨rfl, rfl⟩ rfl rfl rfl (tX6_bit) (fun x_77 t_77 h_77 => ?_)
              obtain ⟨rfl, h9⟩ := h_77
              have h9 := h9.symm
              subst h9
              refine za_iload_n (pc := 80) dX0_listBlocks_80 rfl ?_
              refine za_cSN1i (pc := 81) (μ' := mX6_bit) dX0_listBlocks_81 c_X0_106 rfl ⟨rfl, rfl⟩ ⟨rfl, rfl⟩ rfl rfl rfl (tX6_bit) (fun x_81 t_81 h_81 => ?_)
              obtain ⟨rfl, h9⟩ := h_81
              have h9 := h9.symm
              subst h9
              rw [zm_1 (show a < 16 by omega), zm_1 (show b < 16 by omega)]
              refine za_ior (pc := 84) dX0_listBlocks_84 ?_
              rw [zm_or]
              refine za_iload_n (pc := 85) dX0_listBlocks_85 rfl ?_
              refine za_aload_n (pc := 86) dX0_listBlocks_86 rfl ?_
              refine za_getR (pc := 87) dX0_listBlocks_87 lk_X0_53 rfl rfl ?_
              refine za_getR (pc := 90) dX0_listBlocks_90 lk_X0_92 rfl rfl ?_
              refine za_iload_n (pc := 93) dX0_listBlocks_93 rfl ?_
              refine za_iald (pc := 94) dX0_listBlocks_94 rfl vb ?_
              rw [eb, (uO.1 b hbn).1]
              refine za_ior (pc := 95) dX0_listBlocks_95 ?_
              rw [zm_or]
              refine za_aload_n (pc := 96) dX0_listBlocks_96 rfl ?_
              refine za_iload_n (pc := 97) dX0_listBlocks_97 rfl ?_
              refine za_cV1i (pc := 98) (μ' := mX0_lesserTwins) dX0_listBlocks_98 c_X0_95 rfl rfl rfl ⟨rfl, rfl⟩ ⟨rfl, rfl⟩ rfl rfl rfl (tX0_lesserTwins uX hc uO hbn) (fun x_98 t_98 h_98 => ?_)
              obtain ⟨rfl, h9⟩ := h_98
              have h9 := h9.symm
              subst h9
              refine za_ior (pc := 101) dX0_listBlocks_101 ?_
              rw [zm_or, show zmask (fun i => decide (i = a) || decide (i = b)) = zmask (blk a b) from zm_cong (fun i _ => by
                unfold blk
                by_cases e : i = b
                · have : i < 10 := by omega
                  simp [this]
                · simp [e]), show zmask (fun i => ((bhd c a i || ltw c a i) || bhd c b i) || ltw c b i) = zmask (ndB c a b) from zm_cong (fun i _ => by
                unfold ndB nd
                have : b ≠ 10 := by omega
                simp [this, Bool.or_assoc])]
              refine za_cV4v (pc := 102) (μ' := mX0_addBlock) dX0_listBlocks_102 c_X0_109 rfl rfl rfl ⟨rfl, rfl⟩ ⟨rfl, rfl⟩ rfl rfl rfl (tX0_addBlock (b := b) uX hc hac (Or.inr hbn) hB.1 (by omega)) (fun t_102 h_102 => ?_)
              rcases h_102 with ⟨k1, k2⟩ | ⟨k1, k2⟩
              · have hv : vB c a b := ⟨hac, hab, Or.inr ⟨hbn, hap.2.1, hap.2.2, hsb⟩, k1⟩
                have hB3 := BTI_add hc hB hv k2
                refine za_ii3 (pc := 105) (1) dX0_listBlocks_105 (by decide) rfl ?_
                refine za_goto (pc := 108) 38 dX0_listBlocks_108 (by decide) ?_
                rw [nI_1]
                refine ih2 (b + 1) (nb + 1) _ t_102 (by omega) (by omega) (by omega) hB3 (fun e he => ?_) (fun i hi => ?_)
                · rw [k2.1 e (by omega) (by omega) (by omega) (by omega) (by omega) (by omega)]; exact g1 e he
                · rw [k2.2.1 i hi]; exact g2 i hi
              · have k2 := k2.symm
                subst k2
                exact skip (fun hv => k1 hv.2.2.2)
          · rw [if_neg hap]
            refine za_if_eq (pc := 58) 105 dX0_listBlocks_58 (by decide) (fun c58 => ?_) (fun c58 => ?_)
            · exact skip (fun hv => hap (by rcases hv.2.2.1 with q | q; (· omega); exact ⟨by omega, q.2.1, q.2.2.1⟩))
            · exact absurd rfl c58
      refine inner (cN c - (a + 1)) (a + 1) nb f u (by omega) (by omega) (by omega) (BTI_skip hB (11 * a + (a + 1)) (by omega) (fun a' b' hv h1 h2 => ?_)) g1 g2
      have h3 := vB_10 hc hv
      have h4 := hv.2.1
      omega
  refine outer (cN c) 0 0 (fun _ => 0) _ _ _ (by omega) (Nat.zero_le _) ⟨by rw [zup_a]; rfl, fun q hq => by omega, fun q p _ hp => by omega, fun a b _ hl => by omega⟩ (fun e he => by rw [zup_n (by omega)]) (fun i hi => by rw [zup_b hi])
