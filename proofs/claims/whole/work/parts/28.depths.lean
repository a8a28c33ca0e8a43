/-! depths of the class; Order.renew -/
section FD
variable {Z : zZt} {n : Nat} {r : Nat → Nat → Bool} {σ : zSt}
theorem fd_in {d : Nat} {all : Int32} (ho : Ord n r) (hn : n ≤ 10) (hd : d ≤ 10) (hj : σ 2 5 = nI n) (hf : ∀ b, b < n → σ 12 b = zmask (flw n r b))
    (hE : ∀ σ', (∀ e, e ≠ 14 → σ' e = σ e) → (∀ x, x < n → dep n r x ≤ d + 1 → σ' 14 x = nI (dep n r x)) → ∀ y, zA Z mX2_findDepths none 0 0 12 [some (.ref 10), some (.int all), some (.int (zmask (fun x => decide (x < n) && decide (dep n r x ≤ d + 1)))), some (.int (nI (d + 1))), some (.int (zmask (fun x => decide (x < n) && decide (dep n r x ≤ d)))), y] [] SH σ') :
    ∀ (q a : Nat) (σ1 : zSt), a + q = n → (∀ e, e ≠ 14 → σ1 e = σ e) → (∀ x, x < n → (dep n r x ≤ d ∨ (x < a ∧ dep n r x ≤ d + 1)) → σ1 14 x = nI (dep n r x)) → zA Z mX2_findDepths none 0 0 37 [some (.ref 10), some (.int all), some (.int (zmask (fun x => decide (x < n) && (decide (dep n r x ≤ d) || (decide (x < a) && decide (dep n r x ≤ d + 1)))))), some (.int (nI (d + 1))), some (.int (zmask (fun x => decide (x < n) && decide (dep n r x ≤ d)))), some (.int (nI a))] [] SH σ1 := by
  intro q
  induction q with
  | zero =>
    intro a σ1 ha g1 g2
    refine za_iload (pc := 37) dX2_findDepths_37 rfl ?_
    refine za_aload_n (pc := 39) dX2_findDepths_39 rfl ?_
    refine za_getR (pc := 40) dX2_findDepths_40 lk_X2_31 rfl rfl ?_
    refine za_getI (pc := 43) dX2_findDepths_43 lk_X2_59 rfl rfl ?_
    rw [g1 2 (by decide), hj]
    refine za_icmp_ge (pc := 46) 96 dX2_findDepths_46 (by decide) (fun c5 => ?_) (fun c5 => ?_)
    · have : a = n := by omega
      subst this
      refine za_goto (pc := 96) 12 dX2_findDepths_96 (by decide) ?_
      have em : zmask (fun x => decide (x < a) && (decide (dep a r x ≤ d) || (decide (x < a) && decide (dep a r x ≤ d + 1)))) = zmask (fun x => decide (x < a) && decide (dep a r x ≤ d + 1)) := by
        apply zm_cong
        intro x _
        by_cases hx : x < a
        · simp only [hx, decide_true, Bool.true_and]
          by_cases h1 : dep a r x ≤ d
          · simp [h1, show dep a r x ≤ d + 1 by omega]
          · simp [h1]
        · simp [hx]
      rw [em]
      exact hE σ1 g1 (fun x hx hd => g2 x hx (Or.inr ⟨hx, hd⟩)) _
    · exact absurd (nI_le (show n ≤ a by omega) (by omega)) c5
  | succ q ih =>
    intro a σ1 ha g1 g2
    have han : a < n := by omega
    have va : vp_in (nI a) 10 := vp_in_nI (by omega) (by decide)
    have ea : (nI a).toNatClampNeg = a := nI_clamp (by omega)
    have skip : (dep n r a ≤ d ∨ ¬ dep n r a ≤ d + 1) → zA Z mX2_findDepths none 0 0 90 [some (.ref 10), some (.int all), some (.int (zmask (fun x => decide (x < n) && (decide (dep n r x ≤ d) || (decide (x < a) && decide (dep n r x ≤ d + 1)))))), some (.int (nI (d + 1))), some (.int (zmask (fun x => decide (x < n) && decide (dep n r x ≤ d)))), some (.int (nI a))] [] SH σ1 := by
      intro hs
      refine za_ii5 (pc := 90) (1) dX2_findDepths_90 (by decide) rfl ?_
      refine za_goto (pc := 93) 37 dX2_findDepths_93 (by decide) ?_
      rw [nI_1]
      have em : zmask (fun x => decide (x < n) && (decide (dep n r x ≤ d) || (decide (x < a) && decide (dep n r x ≤ d + 1)))) = zmask (fun x => decide (x < n) && (decide (dep n r x ≤ d) || (decide (x < a + 1) && decide (dep n r x ≤ d + 1)))) := by
        apply zm_cong
        intro x _
        by_cases hx : x = a
        · subst hx
          rcases hs with hs | hs <;> simp [hs]
        · congr 2
          congr 1
          simp
          omega
      rw [em]
      refine ih (a + 1) σ1 (by omega) g1 (fun x hx hxd => ?_)
      by_cases hx2 : x = a
      · subst hx2
        rcases hs with hs | hs
        · exact g2 x hx (Or.inl hs)
        · exact absurd (hxd.elim (fun q => by omega) (fun q => q.2)) hs
      · exact g2 x hx (hxd.elim Or.inl (fun q => Or.inr ⟨by omega, q.2⟩))
    refine za_iload (pc := 37) dX2_findDepths_37 rfl ?_
    refine za_aload_n (pc := 39) dX2_findDepths_39 rfl ?_
    refine za_getR (pc := 40) dX2_findDepths_40 lk_X2_31 rfl rfl ?_
    refine za_getI (pc := 43) dX2_findDepths_43 lk_X2_59 rfl rfl ?_
    rw [g1 2 (by decide), hj]
    refine za_icmp_ge (pc := 46) 96 dX2_findDepths_46 (by decide) (fun c5 => ?_) (fun c5 => ?_)
    · exact absurd c5 (nI_ge (show a < n by omega) (by omega))
    · refine za_iload (pc := 49) dX2_findDepths_49 rfl ?_
      refine za_iload (pc := 51) dX2_findDepths_51 rfl ?_
      refine za_cSN2i (pc := 53) (μ' := mX6_holds) dX2_findDepths_53 c_X2_52 rfl ⟨rfl, rfl⟩ ⟨rfl, rfl⟩ rfl rfl rfl (tX6_holds) (fun x_53 t_53 h_53 => ?_)
      obtain ⟨rfl, h9⟩ := h_53
      have h9 := h9.symm
      subst h9
      by_cases h1 : dep n r a ≤ d
      · rw [if_neg (fun q => absurd ((zm_h (show a < 16 by omega)).mp q) (by simp [han, h1]))]
        refine za_if_ne (pc := 56) 90 dX2_findDepths_56 (by decide) (fun c56 => ?_) (fun c56 => ?_)
        · exact skip (Or.inl h1)
        · exact absurd c56 (by decide)
      · rw [if_pos ((zm_h (show a < 16 by omega)).mpr (by simp [h1]))]
        refine za_if_ne (pc := 56) 90 dX2_findDepths_56 (by decide) (fun c56 => ?_) (fun c56 => ?_)
        · exact absurd rfl c56
        · refine za_aload_n (pc := 59) dX2_findDepths_59 rfl ?_
          refine za_getR (pc := 60) dX2_findDepths_60 lk_X2_15 rfl rfl ?_
          refine za_iload (pc := 63) dX2_findDepths_63 rfl ?_
          refine za_iald (pc := 65) dX2_findDepths_65 rfl va ?_
          refine za_iload (pc := 66) dX2_findDepths_66 rfl ?_
          refine za_iconst (pc := 68) (-1) dX2_findDepths_68 (by decide) ?_
          refine za_ixor (pc := 69) dX2_findDepths_69 ?_
          rw [ea, g1 12 (by decide), hf a han]
          refine za_iand (pc := 70) dX2_findDepths_70 ?_
          rw [zm_not]
          have key : (zmask (fun i => flw n r a i && !(decide (i < n) && decide (dep n r i ≤ d))) = 0) ↔ dep n r a ≤ d + 1 := by
            rw [zm_z, dep_le ho han]
            constructor
            · intro h c hc hr
              have := h c (by omega)
              unfold flw at this
              simp only [hc, hr, decide_true, Bool.true_and, Bool.not_eq_false', decide_eq_true_eq] at this
              exact this
            · intro h i hi
              unfold flw
              by_cases hin : i < n
              · cases hr : r i a with
                | false => simp [hin]
                | true => simp [hin, h i hin hr]
              · simp [hin]
          refine za_if_ne (pc := 71) 90 dX2_findDepths_71 (by decide) (fun c71 => ?_) (fun c71 => ?_)
          · exact skip (Or.inr (fun q => c71 (key.mpr q)))
          · have hd1 := key.mp c71
            have hda : dep n r a = d + 1 := by omega
            refine za_aload_n (pc := 74) dX2_findDepths_74 rfl ?_
            refine za_getR (pc := 75) dX2_findDepths_75 lk_X2_21 rfl rfl ?_
            refine za_iload (pc := 78) dX2_findDepths_78 rfl ?_
            refine za_iload_n (pc := 80) dX2_findDepths_80 rfl ?_
            refine za_iast (pc := 81) dX2_findDepths_81 rfl va ?_
            refine za_iload_n (pc := 82) dX2_findDepths_82 rfl ?_
            refine za_iload (pc := 83) dX2_findDepths_83 rfl ?_
            refine za_cSN1i (pc := 85) (μ' := mX6_bit) dX2_findDepths_85 c_X2_74 rfl ⟨rfl, rfl⟩ ⟨rfl, rfl⟩ rfl rfl rfl (tX6_bit) (fun x_85 t_85 h_85 => ?_)
            obtain ⟨rfl, h9⟩ := h_85
            have h9 := h9.symm
            subst h9
            rw [ea, zm_1 (show a < 16 by omega)]
            refine za_ior (pc := 88) dX2_findDepths_88 ?_
            refine za_is2n (pc := 89) dX2_findDepths_89 rfl ?_
            refine za_ii5 (pc := 90) (1) dX2_findDepths_90 (by decide) rfl ?_
            refine za_goto (pc := 93) 37 dX2_findDepths_93 (by decide) ?_
            rw [zm_or, nI_1]
            have em : zmask (fun x => (decide (x < n) && (decide (dep n r x ≤ d) || (decide (x < a) && decide (dep n r x ≤ d + 1)))) || decide (x = a)) = zmask (fun x => decide (x < n) && (decide (dep n r x ≤ d) || (decide (x < a + 1) && decide (dep n r x ≤ d + 1)))) := by
              apply zm_cong
              intro x _
              by_cases hx : x = a
              · subst hx
                simp [han, hd1]
              · simp only [hx, decide_false, Bool.or_false]
                congr 2
                congr 1
                simp
                omega
            rw [em]
            refine ih (a + 1) _ (by omega) (fun e he => by rw [zup_n he]; exact g1 e he) (fun x hx hxd => ?_)
            by_cases hx2 : x = a
            · rw [hx2, zup_a, hda]
            · rw [zup_b hx2]
              exact g2 x hx (hxd.elim Or.inl (fun q => Or.inr ⟨by omega, q.2⟩))
theorem fd_out (ho : Ord n r) (hn : n ≤ 10) (hj : σ 2 5 = nI n) (hf : ∀ b, b < n → σ 12 b = zmask (flw n r b))
    (hE : ∀ σ', (∀ e, e ≠ 14 → σ' e = σ e) → (∀ x, x < n → σ' 14 x = nI (dep n r x)) → ∀ y z u, zA Z mX2_findDepths none 0 0 99 [some (.ref 10), some (.int (zmask (fun i => decide (i < n)))), some (.int u), some (.int (nI (gdep n r))), y, z] [] SH σ') :
    ∀ (q d : Nat) (σ1 : zSt) (y z : Option Value), zNl [some (.ref 10), some (.int 0), some (.int 0), some (.int 0), y, z] 4 = true → zNl [some (.ref 10), some (.int 0), some (.int 0), some (.int 0), some (.int 0), z] 5 = true → d + q = n → (d = 0 ∨ ∃ x, x < n ∧ d ≤ dep n r x) → (∀ e, e ≠ 14 → σ1 e = σ e) → (∀ x, x < n → dep n r x ≤ d → σ1 14 x = nI (dep n r x)) → zA Z mX2_findDepths none 0 0 12 [some (.ref 10), some (.int (zmask (fun i => decide (i < n)))), some (.int (zmask (fun x => decide (x < n) && decide (dep n r x ≤ d)))), some (.int (nI d)), y, z] [] SH σ1 := by
  have eqv : ∀ d, (zmask (fun x => decide (x < n) && decide (dep n r x ≤ d)) = zmask (fun i => decide (i < n))) ↔ ∀ x, x < n → dep n r x ≤ d := by
    intro d
    rw [zm_eq]
    constructor
    · intro h x hx
      have := h x (by omega)
      simpa [hx] using this
    · intro h x _
      by_cases hx : x < n
      · simp [hx, h x hx]
      · simp [hx]
  have fin : ∀ d, (d = 0 ∨ ∃ x, x < n ∧ d ≤ dep n r x) → (∀ x, x < n → dep n r x ≤ d) → d = gdep n r := by
    intro d h1 h2
    unfold gdep
    apply Nat.le_antisymm
    · rcases h1 with h1 | ⟨x, hx, hdx⟩
      · omega
      · exact Nat.le_trans hdx (mxo_le.mp (Nat.le_refl _) x hx rfl)
    · exact mxo_le.mpr (fun c hc _ => h2 c hc)
  intro q
  induction q with
  | zero =>
    intro d σ1 y z hy hz hdq hd1 g1 g2
    have hall : ∀ x, x < n → dep n r x ≤ d := fun x hx => by have := dep_n ho hx; omega
    refine za_iload_n (pc := 12) dX2_findDepths_12 rfl ?_
    refine za_iload_n (pc := 13) dX2_findDepths_13 rfl ?_
    refine za_icmp_eq (pc := 14) 99 dX2_findDepths_14 (by decide) (fun c14 => ?_) (fun c14 => ?_)
    · have e := fin d hd1 hall
      rw [show nI d = nI (gdep n r) by rw [← e]]
      exact hE σ1 g1 (fun x hx => g2 x hx (hall x hx)) y z _
    · exact absurd ((eqv d).mpr hall) c14
  | succ q ih =>
    intro d σ1 y z hy hz hdq hd1 g1 g2
    refine za_iload_n (pc := 12) dX2_findDepths_12 rfl ?_
    refine za_iload_n (pc := 13) dX2_findDepths_13 rfl ?_
    refine za_icmp_eq (pc := 14) 99 dX2_findDepths_14 (by decide) (fun c14 => ?_) (fun c14 => ?_)
    · have hall := (eqv d).mp c14
      have e := fin d hd1 hall
      rw [show nI d = nI (gdep n r) by rw [← e]]
      exact hE σ1 g1 (fun x hx => g2 x hx (hall x hx)) y z _
    · have hex : ∃ x, x < n ∧ d + 1 ≤ dep n r x := by
        apply Classical.byContradiction
        intro hno
        exact c14 ((eqv d).mpr (fun x hx => by
          rcases Nat.lt_or_ge d (dep n r x) with h | h
          · exact absurd ⟨x, hx, h⟩ hno
          · exact h))
      refine za_iload_n (pc := 17) dX2_findDepths_17 rfl ?_
      refine za_aload_n (pc := 18) dX2_findDepths_18 rfl ?_
      refine za_getR (pc := 19) dX2_findDepths_19 lk_X2_31 rfl rfl ?_
      refine za_getI (pc := 22) dX2_findDepths_22 lk_X2_59 rfl rfl ?_
      rw [g1 2 (by decide), hj]
      refine za_icmp_ge (pc := 25) 99 dX2_findDepths_25 (by decide) (fun c25 => ?_) (fun c25 => ?_)
      · exact absurd c25 (nI_ge (show d < n by omega) (by omega))
      · refine za_ii3 (pc := 28) (1) dX2_findDepths_28 (by decide) rfl ?_
        refine za_iload_n (pc := 31) dX2_findDepths_31 rfl ?_
        refine za_is4 (pc := 32) dX2_findDepths_32 rfl ?_
        refine za_iconst (pc := 34) (0) dX2_findDepths_34 (by decide) ?_
        refine za_is5 (pc := 35) dX2_findDepths_35 rfl ?_
        rw [nI_1]
        have em : zmask (fun x => decide (x < n) && decide (dep n r x ≤ d)) = zmask (fun x => decide (x < n) && (decide (dep n r x ≤ d) || (decide (x < 0) && decide (dep n r x ≤ d + 1)))) := zm_cong (fun x _ => by simp)
        have goal := fd_in (Z := Z) (σ := σ1) (d := d) (all := zmask (fun i => decide (i < n))) ho hn (by omega) (by rw [g1 2 (by decide)]; exact hj) (fun b hb => by rw [g1 12 (by decide)]; exact hf b hb) (fun σ' f1 f2 y' => ih (d + 1) σ' _ y' rfl (by cases y' with
          | none => rfl
          | some v => rfl) (by omega) (Or.inr hex) (fun e he => by rw [f1 e he]; exact g1 e he) f2) n 0 σ1 (by omega) (fun _ _ => rfl) (fun x hx hxd => g2 x hx (hxd.elim id (fun q => absurd q.1 (by omega))))
        rw [← em] at goal
        exact goal
end FD
theorem tX2_findDepths {n : Nat} {r : Nat → Nat → Bool} {σ : zSt} (ho : Ord n r) (hn : n ≤ 10) (hj : σ 2 5 = nI n) (hf : ∀ b, b < n → σ 12 b = zmask (flw n r b)) : zV mX2_findDepths [.ref 10] SH σ (fun t => (∀ d, d ≠ 14 → d ≠ 10 → t d = σ d) ∧ (∀ i, i ≠ 4 → t 10 i = σ 10 i) ∧ (∀ x, x < n → t 14 x = nI (dep n r x)) ∧ t 10 4 = nI (gdep n r)) := by
  refine zV_of (ls := [some (.ref 10), none, none, none, none, none]) (by decide) rfl rfl ?_
  refine za_aload_n (pc := 0) dX2_findDepths_0 rfl ?_
  refine za_getR (pc := 1) dX2_findDepths_1 lk_X2_31 rfl rfl ?_
  refine za_cV0i (pc := 4) (μ' := mX5_all) dX2_findDepths_4 c_X2_78 rfl rfl rfl ⟨rfl, rfl⟩ ⟨rfl, rfl⟩ rfl rfl rfl (tX5_all hj hn) (fun x_4 t_4 h_4 => ?_)
  obtain ⟨rfl, h9⟩ := h_4
  have h9 := h9.symm
  subst h9
  refine za_is1n (pc := 7) dX2_findDepths_7 rfl ?_
  refine za_iconst (pc := 8) (0) dX2_findDepths_8 (by decide) ?_
  refine za_is2n (pc := 9) dX2_findDepths_9 rfl ?_
  refine za_iconst (pc := 10) (0) dX2_findDepths_10 (by decide) ?_
  refine za_is3n (pc := 11) dX2_findDepths_11 rfl ?_
  have e0 : (0 : Int32) = zmask (fun x => decide (x < n) && decide (dep n r x ≤ 0)) := by
    rw [← zm_0]
    apply zm_cong
    intro x _
    by_cases hx : x < n
    · have := dep_pos ho hx
      simp [hx]
      omega
    · simp [hx]
  have goal := fd_out (Z := zZ mX2_findDepths (zQV SH (fun t => (∀ d, d ≠ 14 → d ≠ 10 → t d = σ d) ∧ (∀ i, i ≠ 4 → t 10 i = σ 10 i) ∧ (∀ x, x < n → t 14 x = nI (dep n r x)) ∧ t 10 4 = nI (gdep n r)))) (σ := σ) ho hn hj hf (fun σ' f1 f2 y z u => by
    refine za_aload_n (pc := 99) dX2_findDepths_99 rfl ?_
    refine za_iload_n (pc := 100) dX2_findDepths_100 rfl ?_
    refine za_putI (pc := 101) dX2_findDepths_101 lp_X2_24 rfl rfl ?_
    refine za_rv (pc := 104) dX2_findDepths_104 rfl rfl rfl ?_
    exact ⟨fun d h14 h10 => by rw [zup_n h10]; exact f1 d h14, fun i hi => by rw [zup_b hi, f1 10 (by decide)], fun x hx => by rw [zup_n (by decide)]; exact f2 x hx, zup_a⟩) n 0 σ none none rfl rfl (by omega) (Or.inl rfl) (fun _ _ => rfl) (fun x hx hd => absurd (dep_pos ho hx) (by omega))
  rw [← e0] at goal
  exact goal
/-- what Order holds once it is renewed -/
def XOrd (σ : zSt) (c : Core) : Prop := (∀ a, a < cN c → σ 11 a = zmask (bhd c a) ∧ σ 12 a = zmask (flw (cN c) (bhd c) a) ∧ σ 13 a = zmask (nxt (cN c) (bhd c) a) ∧ σ 14 a = nI (dep (cN c) (bhd c) a)) ∧ σ 10 4 = nI (gdep (cN c) (bhd c))
def FO (t σ : zSt) : Prop := ∀ d, d < 10 ∨ 15 ≤ d → t d = σ d
theorem tX2_renew {σ : zSt} {c : Core} {v : Int32} (hX : XCore σ c) (hc : cOk c) (hv : σ 2 7 = v) (hO : σ 10 6 = v → XOrd σ c) : zV mX2_renew [.ref 10] SH σ (fun t => XOrd t c ∧ t 10 6 = v ∧ FO t σ) := by
  have hn := hc.1
  have ho := bhd_ord hc
  refine zV_of (ls := [some (.ref 10)]) (by decide) rfl rfl ?_
  refine za_aload_n (pc := 0) dX2_renew_0 rfl ?_
  refine za_getI (pc := 1) dX2_renew_1 lk_X2_28 rfl rfl ?_
  refine za_aload_n (pc := 4) dX2_renew_4 rfl ?_
  refine za_getR (pc := 5) dX2_renew_5 lk_X2_31 rfl rfl ?_
  refine za_getI (pc := 8) dX2_renew_8 lk_X2_35 rfl rfl ?_
  rw [hv]
  refine za_icmp_ne (pc := 11) 15 dX2_renew_11 (by decide) (fun c11 => ?_) (fun c11 => ?_)
  · refine za_aload_n (pc := 15) dX2_renew_15 rfl ?_
    refine za_aload_n (pc := 16) dX2_renew_16 rfl ?_
    refine za_getR (pc := 17) dX2_renew_17 lk_X2_31 rfl rfl ?_
    refine za_getI (pc := 20) dX2_renew_20 lk_X2_35 rfl rfl ?_
    rw [hv]
    refine za_putI (pc := 23) dX2_renew_23 lp_X2_28 rfl rfl ?_
    refine za_aload_n (pc := 26) dX2_renew_26 rfl ?_
    refine za_cV0v (pc := 27) (μ' := mX2_findBehind) dX2_renew_27 c_X2_40 rfl rfl rfl ⟨rfl, rfl⟩ ⟨rfl, rfl⟩ rfl rfl rfl (tX2_findBehind hn (by rw [zup_n (by decide)]; exact hX.1) (fun a ha => by rw [zup_n (by decide)]; exact (hX.2.1 a ha).2.2.2.2)) (fun t_27 h_27 => ?_)
    obtain ⟨a1, a2⟩ := h_27
    refine za_aload_n (pc := 30) dX2_renew_30 rfl ?_
    refine za_cV0v (pc := 31) (μ' := mX2_findFollowers) dX2_renew_31 c_X2_43 rfl rfl rfl ⟨rfl, rfl⟩ ⟨rfl, rfl⟩ rfl rfl rfl (tX2_findFollowers hn (by rw [a1 2 (by decide), zup_n (by decide)]; exact hX.1) a2) (fun t_31 h_31 => ?_)
    obtain ⟨b1, b2⟩ := h_31
    refine za_aload_n (pc := 34) dX2_renew_34 rfl ?_
    refine za_cV0v (pc := 35) (μ' := mX2_findNexts) dX2_renew_35 c_X2_46 rfl rfl rfl ⟨rfl, rfl⟩ ⟨rfl, rfl⟩ rfl rfl rfl (tX2_findNexts hn (by rw [b1 2 (by decide), a1 2 (by decide), zup_n (by decide)]; exact hX.1) (fun a ha => by rw [b1 11 (by decide)]; exact a2 a ha) b2) (fun t_35 h_35 => ?_)
    obtain ⟨d1, d2⟩ := h_35
    refine za_aload_n (pc := 38) dX2_renew_38 rfl ?_
    refine za_cV0v (pc := 39) (μ' := mX2_findDepths) dX2_renew_39 c_X2_49 rfl rfl rfl ⟨rfl, rfl⟩ ⟨rfl, rfl⟩ rfl rfl rfl (tX2_findDepths ho hn (by rw [d1 2 (by decide), b1 2 (by decide), a1 2 (by decide), zup_n (by decide)]; exact hX.1) (fun b hb => by rw [d1 12 (by decide)]; exact b2 b hb)) (fun t_39 h_39 => ?_)
    obtain ⟨e1, e2, e3, e4⟩ := h_39
    refine za_rv (pc := 42) dX2_renew_42 rfl rfl rfl ?_
    refine ⟨⟨fun a ha => ⟨?_, ?_, ?_, e3 a ha⟩, e4⟩, ?_, fun d hd => ?_⟩
    · rw [e1 11 (by decide) (by decide), d1 11 (by decide), b1 11 (by decide)]; exact a2 a ha
    · rw [e1 12 (by decide) (by decide), d1 12 (by decide)]; exact b2 a ha
    · rw [e1 13 (by decide) (by decide)]; exact d2 a ha
    · rw [e2 6 (by decide), d1 10 (by decide), b1 10 (by decide), a1 10 (by decide), zup_a]
    · rw [e1 d (by omega) (by omega), d1 d (by omega), b1 d (by omega), a1 d (by omega), zup_n (by omega)]
  · refine za_rv (pc := 14) dX2_renew_14 rfl rfl rfl ?_
    exact ⟨hO c11, c11, fun _ _ => rfl⟩
theorem tX6_orderNow {σ : zSt} {c : Core} {v : Int32} (hX : XCore σ c) (hc : cOk c) (hv : σ 2 7 = v) (hO : σ 10 6 = v → XOrd σ c) : zO mX6_orderNow [.ref 0] SH σ 10 (fun t => XOrd t c ∧ t 10 6 = v ∧ FO t σ) := by
  refine zO_of (ls := [some (.ref 0)]) (by decide) rfl rfl ?_
  refine za_aload_n (pc := 0) dX6_orderNow_0 rfl ?_
  refine za_getR (pc := 1) dX6_orderNow_1 lk_X6_27 rfl rfl ?_
  refine za_cV0v (pc := 4) (μ' := mX2_renew) dX6_orderNow_4 c_X6_241 rfl rfl rfl ⟨rfl, rfl⟩ ⟨rfl, rfl⟩ rfl rfl rfl (tX2_renew hX hc hv hO) (fun t_4 h_4 => ?_)
  refine za_aload_n (pc := 7) dX6_orderNow_7 rfl ?_
  refine za_getR (pc := 8) dX6_orderNow_8 lk_X6_27 rfl rfl ?_
  refine za_ra (pc := 11) dX6_orderNow_11 rfl rfl rfl ?_
  exact h_4
theorem tX2_areApart {σ : zSt} {a b : Nat} {p q : Nat → Bool} (ha : a < 10) (hb : b < 10) (h1 : σ 11 a = zmask p) (h2 : σ 11 b = zmask q) : zI mX2_areApart [.ref 10, .int (nI a), .int (nI b)] SH σ (fun x t => x = (if a ≠ b ∧ p b = false ∧ q a = false then 1 else 0) ∧ t = σ) := by
  have va : vp_in (nI a) 10 := vp_in_nI ha (by decide)
  have ea : (nI a).toNatClampNeg = a := nI_clamp (by omega)
  have vb : vp_in (nI b) 10 := vp_in_nI hb (by decide)
  have eb : (nI b).toNatClampNeg = b := nI_clamp (by omega)
  refine zI_of (ls := [some (.ref 10), some (.int (nI a)), some (.int (nI b))]) (by decide) rfl rfl ?_
  refine za_iload_n (pc := 0) dX2_areApart_0 rfl ?_
  refine za_iload_n (pc := 1) dX2_areApart_1 rfl ?_
  refine za_icmp_eq (pc := 2) 35 dX2_areApart_2 (by decide) (fun c2 => ?_) (fun c2 => ?_)
  · have e : a = b := (nI_eq (by omega) (by omega)).mp c2
    refine za_iconst (pc := 35) (0) dX2_areApart_35 (by decide) ?_
    refine za_rz (pc := 36) dX2_areApart_36 rfl rfl rfl rfl ?_
    exact ⟨by rw [if_neg (fun q => q.1 e)], rfl⟩
  · have e : a ≠ b := fun q => c2 (by rw [q])
    refine za_aload_n (pc := 5) dX2_areApart_5 rfl ?_
    refine za_getR (pc := 6) dX2_areApart_6 lk_X2_9 rfl rfl ?_
    refine za_iload_n (pc := 9) dX2_areApart_9 rfl ?_
    refine za_iald (pc := 10) dX2_areApart_10 rfl va ?_
    refine za_iload_n (pc := 11) dX2_areApart_11 rfl ?_
    refine za_cSN2i (pc := 12) (μ' := mX6_holds) dX2_areApart_12 c_X2_52 rfl ⟨rfl, rfl⟩ ⟨rfl, rfl⟩ rfl rfl rfl (tX6_holds) (fun x_12 t_12 h_12 => ?_)
    obtain ⟨rfl, h9⟩ := h_12
    have h9 := h9.symm
    subst h9
    rw [ea, h1]
    by_cases hp : p b = false
    · rw [if_pos ((zm_h (by omega)).mpr hp)]
      refine za_if_ne (pc := 15) 35 dX2_areApart_15 (by decide) (fun c15 => ?_) (fun c15 => ?_)
      · exact absurd rfl c15
      refine za_aload_n (pc := 18) dX2_areApart_18 rfl ?_
      refine za_getR (pc := 19) dX2_areApart_19 lk_X2_9 rfl rfl ?_
      refine za_iload_n (pc := 22) dX2_areApart_22 rfl ?_
      refine za_iald (pc := 23) dX2_areApart_23 rfl vb ?_
      refine za_iload_n (pc := 24) dX2_areApart_24 rfl ?_
      refine za_cSN2i (pc := 25) (μ' := mX6_holds) dX2_areApart_25 c_X2_52 rfl ⟨rfl, rfl⟩ ⟨rfl, rfl⟩ rfl rfl rfl (tX6_holds) (fun x_25 t_25 h_25 => ?_)
      obtain ⟨rfl, h9⟩ := h_25
      have h9 := h9.symm
      subst h9
      rw [eb, h2]
      by_cases hq : q a = false
      · rw [if_pos ((zm_h (by omega)).mpr hq)]
        refine za_if_ne (pc := 28) 35 dX2_areApart_28 (by decide) (fun c28 => ?_) (fun c28 => ?_)
        · exact absurd rfl c28
        · refine za_iconst (pc := 31) (1) dX2_areApart_31 (by decide) ?_
          refine za_goto (pc := 32) 36 dX2_areApart_32 (by decide) ?_
          refine za_rz (pc := 36) dX2_areApart_36 rfl rfl rfl rfl ?_
          exact ⟨by rw [if_pos ⟨e, hp, hq⟩], rfl⟩
      · rw [if_neg (fun q => hq ((zm_h (by omega)).mp q))]
        refine za_if_ne (pc := 28) 35 dX2_areApart_28 (by decide) (fun c28 => ?_) (fun c28 => ?_)
        · refine za_iconst (pc := 35) (0) dX2_areApart_35 (by decide) ?_
          refine za_rz (pc := 36) dX2_areApart_36 rfl rfl rfl rfl ?_
          exact ⟨by rw [if_neg (fun q => hq q.2.2)], rfl⟩
        · exact absurd c28 (by decide)
    · rw [if_neg (fun q => hp ((zm_h (by omega)).mp q))]
      refine za_if_ne (pc := 15) 35 dX2_areApart_15 (by decide) (fun c15 => ?_) (fun c15 => ?_)
      · refine za_iconst (pc := 35) (0) dX2_areApart_35 (by decide) ?_
        refine za_rz (pc := 36) dX2_areApart_36 rfl rfl rfl rfl ?_
        exact ⟨by rw [if_neg (fun q => hp q.2.1)], rfl⟩
      · exact absurd c15 (by decide)
theorem tX2_areTwins {σ : zSt} {a b : Nat} (ha : a < 10) (hb : b < 10) : zI mX2_areTwins [.ref 10, .int (nI a), .int (nI b)] SH σ (fun x t => x = (if σ 11 a = σ 11 b ∧ σ 12 a = σ 12 b then 1 else 0) ∧ t = σ) := by
  have va : vp_in (nI a) 10 := vp_in_nI ha (by decide)
  have ea : (nI a).toNatClampNeg = a := nI_clamp (by omega)
  have vb : vp_in (nI b) 10 := vp_in_nI hb (by decide)
  have eb : (nI b).toNatClampNeg = b := nI_clamp (by omega)
  refine zI_of (ls := [some (.ref 10), some (.int (nI a)), some (.int (nI b))]) (by decide) rfl rfl ?_
  refine za_aload_n (pc := 0) dX2_areTwins_0 rfl ?_
  refine za_getR (pc := 1) dX2_areTwins_1 lk_X2_9 rfl rfl ?_
  refine za_iload_n (pc := 4) dX2_areTwins_4 rfl ?_
  refine za_iald (pc := 5) dX2_areTwins_5 rfl va ?_
  refine za_aload_n (pc := 6) dX2_areTwins_6 rfl ?_
  refine za_getR (pc := 7) dX2_areTwins_7 lk_X2_9 rfl rfl ?_
  refine za_iload_n (pc := 10) dX2_areTwins_10 rfl ?_
  refine za_iald (pc := 11) dX2_areTwins_11 rfl vb ?_
  rw [ea, eb]
  refine za_icmp_ne (pc := 12) 34 dX2_areTwins_12 (by decide) (fun c12 => ?_) (fun c12 => ?_)
  · refine za_iconst (pc := 34) (0) dX2_areTwins_34 (by decide) ?_
    refine za_rz (pc := 35) dX2_areTwins_35 rfl rfl rfl rfl ?_
    exact ⟨by rw [if_neg (fun q => c12 q.1)], rfl⟩
  · refine za_aload_n (pc := 15) dX2_areTwins_15 rfl ?_
    refine za_getR (pc := 16) dX2_areTwins_16 lk_X2_15 rfl rfl ?_
    refine za_iload_n (pc := 19) dX2_areTwins_19 rfl ?_
    refine za_iald (pc := 20) dX2_areTwins_20 rfl va ?_
    refine za_aload_n (pc := 21) dX2_areTwins_21 rfl ?_
    refine za_getR (pc := 22) dX2_areTwins_22 lk_X2_15 rfl rfl ?_
    refine za_iload_n (pc := 25) dX2_areTwins_25 rfl ?_
    refine za_iald (pc := 26) dX2_areTwins_26 rfl vb ?_
    rw [ea, eb]
    refine za_icmp_ne (pc := 27) 34 dX2_areTwins_27 (by decide) (fun c27 => ?_) (fun c27 => ?_)
    · refine za_iconst (pc := 34) (0) dX2_areTwins_34 (by decide) ?_
      refine za_rz (pc := 35) dX2_areTwins_35 rfl rfl rfl rfl ?_
      exact ⟨by rw [if_neg (fun q => c27 q.2)], rfl⟩
    · refine za_iconst (pc := 30) (1) dX2_areTwins_30 (by decide) ?_
      refine za_goto (pc := 31) 35 dX2_areTwins_31 (by decide) ?_
      refine za_rz (pc := 35) dX2_areTwins_35 rfl rfl rfl rfl ?_
      exact ⟨by rw [if_pos ⟨c12, c27⟩], rfl⟩
