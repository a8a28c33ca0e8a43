/-! LABELS of the class -/
abbrev alln (n : Nat) : Nat → Bool := fun i => decide (i < n)
theorem cnt_all : ∀ (n : Nat), cnt (alln n) n = n := by
  intro n
  have : ∀ k, k ≤ n → cnt (alln n) k = k := by
    intro k
    induction k with
    | zero => intro _; rfl
    | succ k ih =>
      intro hk
      unfold cnt
      rw [ih (by omega)]
      simp [show k < n by omega]
  exact this n (Nat.le_refl n)
def hasL (n : Nat) (lab : Nat → Nat) : Nat → Bool := fun a => decide (a < n) && decide (lab a ≠ 0)
theorem cand_all {n : Nat} {r : Nat → Nat → Bool} {lab : Nat → Nat} {a : Nat} (ha : a < n) (hn : n ≤ 10) : cand n r (alln n) lab a = true ↔ lab a = 0 ∧ ∀ x, x < 16 → (nxt n r a x && !hasL n lab x) = false := by
  unfold cand
  rw [nxs_all]
  simp only [ha, decide_true, Bool.true_and, Bool.and_eq_true, decide_eq_true_eq, Bool.not_eq_true', anyb_f]
  have e : ∀ x, (nxt n r a x && decide (lab x = 0)) = (nxt n r a x && !hasL n lab x) := by
    intro x
    cases hx : nxt n r a x with
    | false => rfl
    | true =>
      have h1 : x < n := by
        unfold nxt flw at hx
        simp only [Bool.and_eq_true, decide_eq_true_eq] at hx
        exact hx.1.1
      unfold hasL
      by_cases h0 : lab x = 0 <;> simp [h1, h0]
  simp only [e, true_and]
def pkF (o : Option Nat) : Int32 := match o with
  | none => 0
  | some b => nI b
def pkM (n : Nat) (r : Nat → Nat → Bool) (lab : Nat → Nat) (o : Option Nat) : Int32 := match o with
  | none => 2048
  | some b => zmask (rowp n r (alln n) lab b)
theorem mkm_11 {p : Nat → Bool} (h : ∀ i, 10 < i → p i = false) : mkm p 16 < 2048 := by
  have st : ∀ k, 10 < k → mkm p k = mkm p 11 → mkm p (k + 1) = mkm p 11 := by
    intro k hk q
    show mkm p k ||| (if p k then 2 ^ k else 0) = _
    rw [q, h k hk]
    simp
  have e : mkm p 16 = mkm p 11 := st 15 (by decide) (st 14 (by decide) (st 13 (by decide) (st 12 (by decide) (st 11 (by decide) rfl))))
  rw [e]
  exact mkm_lt p 11
theorem rowp_nI {n : Nat} {r : Nat → Nat → Bool} {s : Nat → Bool} {lab : Nat → Nat} (a : Nat) (hlb : ∀ x, lab x ≤ 10) : ∃ m, m < 2048 ∧ zmask (rowp n r s lab a) = nI m := by
  refine ⟨mkm (rowp n r s lab a) 16, mkm_11 (fun i hi => ?_), rfl⟩
  unfold rowp
  rw [anyb_f]
  intro x _
  have h1 := hlb x
  have h2 : ¬ lab x = i := by omega
  simp [h2]
theorem tX1_firstByRow {σ : zSt} {n : Nat} {r : Nat → Nat → Bool} {lab : Nat → Nat} (hn : n ≤ 10) (hlb : ∀ x, lab x ≤ 10) (hj : σ 2 5 = nI n) (hx : ∀ a, a < n → σ 13 a = zmask (nxt n r a)) (hrow : ∀ b, b < n → cand n r (alln n) lab b = true → σ 21 b = zmask (rowp n r (alln n) lab b)) : zI mX1_firstByRow [.ref 15, .int (zmask (hasL n lab))] SH σ (fun x t => x = pkF (pick n r (alln n) lab n) ∧ t = σ) := by
  refine zI_of (ls := [some (.ref 15), some (.int (zmask (hasL n lab))), none, none, none, none]) (by decide) rfl rfl ?_
  refine za_iconst (pc := 0) (0) dX1_firstByRow_0 (by decide) ?_
  refine za_is2n (pc := 1) dX1_firstByRow_1 rfl ?_
  refine za_sipush (pc := 2) (2048) dX1_firstByRow_2 (by decide) ?_
  refine za_is3n (pc := 5) dX1_firstByRow_5 rfl ?_
  refine za_iconst (pc := 6) (0) dX1_firstByRow_6 (by decide) ?_
  refine za_is4 (pc := 7) dX1_firstByRow_7 rfl ?_
  have loop : ∀ (q k : Nat), k + q = n → zA (zZ mX1_firstByRow (zQI SH (fun x t => x = pkF (pick n r (alln n) lab n) ∧ t = σ))) mX1_firstByRow none 0 0 9 [some (.ref 15), some (.int (zmask (hasL n lab))), some (.int (pkF (pick n r (alln n) lab k))), some (.int (pkM n r lab (pick n r (alln n) lab k))), some (.int (nI k)), none] [] SH σ := by
    intro q
    induction q with
    | zero =>
      intro k hk
      refine za_iload (pc := 9) dX1_firstByRow_9 rfl ?_
      refine za_aload_n (pc := 11) dX1_firstByRow_11 rfl ?_
      refine za_getR (pc := 12) dX1_firstByRow_12 lk_X1_37 rfl rfl ?_
      refine za_getI (pc := 15) dX1_firstByRow_15 lk_X1_67 rfl rfl ?_
      rw [hj]
      refine za_icmp_ge (pc := 18) 87 dX1_firstByRow_18 (by decide) (fun c5 => ?_) (fun c5 => ?_)
      · refine za_iload_n (pc := 87) dX1_firstByRow_87 rfl ?_
        refine za_ri (pc := 88) dX1_firstByRow_88 rfl rfl rfl ?_
        rw [show k = n by omega]
        exact ⟨rfl, rfl⟩
      · exact absurd (nI_le (show n ≤ k by omega) (by omega)) c5
    | succ q ih =>
      intro k hk
      have hkn : k < n := by omega
      have vk : vp_in (nI k) 10 := vp_in_nI (by omega) (by decide)
      have ek : (nI k).toNatClampNeg = k := nI_clamp (by omega)
      have skip : ∀ y, pick n r (alln n) lab (k + 1) = pick n r (alln n) lab k → zA (zZ mX1_firstByRow (zQI SH (fun x t => x = pkF (pick n r (alln n) lab n) ∧ t = σ))) mX1_firstByRow none 0 0 81 [some (.ref 15), some (.int (zmask (hasL n lab))), some (.int (pkF (pick n r (alln n) lab k))), some (.int (pkM n r lab (pick n r (alln n) lab k))), some (.int (nI k)), y] [] SH σ := by
        intro y e
        refine za_ii4 (pc := 81) (1) dX1_firstByRow_81 (by decide) rfl ?_
        refine za_goto (pc := 84) 9 dX1_firstByRow_84 (by decide) ?_
        rw [nI_1]
        have := ih (k + 1) (by omega)
        rw [e] at this
        exact za_fg (by simp [zSub]) this
      have no : cand n r (alln n) lab k = false → zA (zZ mX1_firstByRow (zQI SH (fun x t => x = pkF (pick n r (alln n) lab n) ∧ t = σ))) mX1_firstByRow none 0 0 51 [some (.ref 15), some (.int (zmask (hasL n lab))), some (.int (pkF (pick n r (alln n) lab k))), some (.int (pkM n r lab (pick n r (alln n) lab k))), some (.int (nI k)), none] [] SH σ := by
        intro hc
        refine za_iconst (pc := 51) (0) dX1_firstByRow_51 (by decide) ?_
        refine za_is5 (pc := 52) dX1_firstByRow_52 rfl ?_
        refine za_iload (pc := 54) dX1_firstByRow_54 rfl ?_
        refine za_if_eq (pc := 56) 81 dX1_firstByRow_56 (by decide) (fun c55 => ?_) (fun c55 => ?_)
        · refine skip _ ?_
          show (match pick n r (alln n) lab k with | none => if cand n r (alln n) lab k = true then some k else none | some b => if cand n r (alln n) lab k = true ∧ rowv n r (alln n) lab k < rowv n r (alln n) lab b then some k else some b) = _
          rw [hc]
          cases pick n r (alln n) lab k <;> simp
        · exact absurd rfl c55
      refine za_iload (pc := 9) dX1_firstByRow_9 rfl ?_
      refine za_aload_n (pc := 11) dX1_firstByRow_11 rfl ?_
      refine za_getR (pc := 12) dX1_firstByRow_12 lk_X1_37 rfl rfl ?_
      refine za_getI (pc := 15) dX1_firstByRow_15 lk_X1_67 rfl rfl ?_
      rw [hj]
      refine za_icmp_ge (pc := 18) 87 dX1_firstByRow_18 (by decide) (fun c5 => ?_) (fun c5 => ?_)
      · exact absurd c5 (nI_ge (show k < n by omega) (by omega))
      · refine za_iload_n (pc := 21) dX1_firstByRow_21 rfl ?_
        refine za_iload (pc := 22) dX1_firstByRow_22 rfl ?_
        refine za_cSN2i (pc := 24) (μ' := mX6_holds) dX1_firstByRow_24 c_X1_81 rfl ⟨rfl, rfl⟩ ⟨rfl, rfl⟩ rfl rfl rfl (tX6_holds) (fun x_24 t_24 h_24 => ?_)
        obtain ⟨rfl, h9⟩ := h_24
        have h9 := h9.symm
        subst h9
        by_cases h1 : hasL n lab k = false
        · rw [if_pos ((zm_h (by omega)).mpr h1)]
          have hl0 : lab k = 0 := by
            unfold hasL at h1
            simpa [hkn] using h1
          refine za_if_ne (pc := 27) 51 dX1_firstByRow_27 (by decide) (fun c26 => ?_) (fun c26 => ?_)
          · exact absurd rfl c26
          refine za_aload_n (pc := 30) dX1_firstByRow_30 rfl ?_
          refine za_getR (pc := 31) dX1_firstByRow_31 lk_X1_41 rfl rfl ?_
          refine za_getR (pc := 34) dX1_firstByRow_34 lk_X1_85 rfl rfl ?_
          refine za_iload (pc := 37) dX1_firstByRow_37 rfl ?_
          refine za_iald (pc := 39) dX1_firstByRow_39 rfl vk ?_
          refine za_iload_n (pc := 40) dX1_firstByRow_40 rfl ?_
          refine za_iconst (pc := 41) (-1) dX1_firstByRow_41 (by decide) ?_
          refine za_ixor (pc := 42) dX1_firstByRow_42 ?_
          rw [ek, hx k hkn]
          refine za_iand (pc := 43) dX1_firstByRow_43 ?_
          rw [zm_not]
          refine za_if_ne (pc := 44) 51 dX1_firstByRow_44 (by decide) (fun c43 => ?_) (fun c43 => ?_)
          · rw [zm_z] at c43
            refine no ?_
            cases hc : cand n r (alln n) lab k with
            | false => rfl
            | true => exact absurd ((cand_all hkn hn).mp hc).2 c43
          · rw [zm_z] at c43
            have hc : cand n r (alln n) lab k = true := (cand_all hkn hn).mpr ⟨hl0, c43⟩
            have hrk := hrow k hkn hc
            refine za_iconst (pc := 47) (1) dX1_firstByRow_47 (by decide) ?_
            refine za_goto (pc := 48) 52 dX1_firstByRow_48 (by decide) ?_
            refine za_is5 (pc := 52) dX1_firstByRow_52 rfl ?_
            refine za_iload (pc := 54) dX1_firstByRow_54 rfl ?_
            refine za_if_eq (pc := 56) 81 dX1_firstByRow_56 (by decide) (fun c55 => ?_) (fun c55 => ?_)
            · exact absurd c55 (by decide)
            refine za_aload_n (pc := 59) dX1_firstByRow_59 rfl ?_
            refine za_getR (pc := 60) dX1_firstByRow_60 lk_X1_31 rfl rfl ?_
            refine za_iload (pc := 63) dX1_firstByRow_63 rfl ?_
            refine za_iald (pc := 65) dX1_firstByRow_65 rfl vk ?_
            refine za_iload_n (pc := 66) dX1_firstByRow_66 rfl ?_
            rw [ek, hrk]
            have take : pick n r (alln n) lab (k + 1) = some k → zA (zZ mX1_firstByRow (zQI SH (fun x t => x = pkF (pick n r (alln n) lab n) ∧ t = σ))) mX1_firstByRow none 0 0 70 [some (.ref 15), some (.int (zmask (hasL n lab))), some (.int (pkF (pick n r (alln n) lab k))), some (.int (pkM n r lab (pick n r (alln n) lab k))), some (.int (nI k)), some (.int 1)] [] SH σ := by
              intro e
              refine za_iload (pc := 70) dX1_firstByRow_70 rfl ?_
              refine za_is2n (pc := 72) dX1_firstByRow_72 rfl ?_
              refine za_aload_n (pc := 73) dX1_firstByRow_73 rfl ?_
              refine za_getR (pc := 74) dX1_firstByRow_74 lk_X1_31 rfl rfl ?_
              refine za_iload (pc := 77) dX1_firstByRow_77 rfl ?_
              refine za_iald (pc := 79) dX1_firstByRow_79 rfl vk ?_
              rw [ek, hrk]
              refine za_is3n (pc := 80) dX1_firstByRow_80 rfl ?_
              refine za_ii4 (pc := 81) (1) dX1_firstByRow_81 (by decide) rfl ?_
              refine za_goto (pc := 84) 9 dX1_firstByRow_84 (by decide) ?_
              rw [nI_1]
              have := ih (k + 1) (by omega)
              rw [e] at this
              exact za_fg (by simp [zSub, pkF, pkM]) this
            cases hp : pick n r (alln n) lab k with
            | none =>
              refine za_icmp_ge (pc := 67) 81 dX1_firstByRow_67 (by decide) (fun c66 => ?_) (fun c66 => ?_)
              · obtain ⟨mm, hmm, emm⟩ := rowp_nI (n := n) (r := r) (s := alln n) k hlb
                have c66 : (2048 : Int32) ≤ zmask (rowp n r (alln n) lab k) := c66
                rw [emm, fa_le, nI_toInt (by omega)] at c66
                have : (2048 : Int32).toInt = 2048 := rfl
                omega
              · have := take (by
                  show (match pick n r (alln n) lab k with | none => if cand n r (alln n) lab k = true then some k else none | some b => if cand n r (alln n) lab k = true ∧ rowv n r (alln n) lab k < rowv n r (alln n) lab b then some k else some b) = _
                  rw [hp]
                  simp [hc])
                rw [hp] at this
                exact this
            | some b =>
              refine za_icmp_ge (pc := 67) 81 dX1_firstByRow_67 (by decide) (fun c66 => ?_) (fun c66 => ?_)
              · have c66 : zmask (rowp n r (alln n) lab b) ≤ zmask (rowp n r (alln n) lab k) := c66
                have hlt : ¬ rowv n r (alln n) lab k < rowv n r (alln n) lab b := fun q => absurd c66 (Int32.not_le.mpr (zm_ltI.mpr q))
                have := skip (some (.int 1)) (by
                  show (match pick n r (alln n) lab k with | none => if cand n r (alln n) lab k = true then some k else none | some b => if cand n r (alln n) lab k = true ∧ rowv n r (alln n) lab k < rowv n r (alln n) lab b then some k else some b) = _
                  rw [hp]
                  simp [hlt])
                rw [hp] at this
                exact this
              · have c66 : ¬ zmask (rowp n r (alln n) lab b) ≤ zmask (rowp n r (alln n) lab k) := c66
                have hlt : rowv n r (alln n) lab k < rowv n r (alln n) lab b := zm_ltI.mp (Int32.not_le.mp c66)
                have := take (by
                  show (match pick n r (alln n) lab k with | none => if cand n r (alln n) lab k = true then some k else none | some b => if cand n r (alln n) lab k = true ∧ rowv n r (alln n) lab k < rowv n r (alln n) lab b then some k else some b) = _
                  rw [hp]
                  simp [hc, hlt])
                rw [hp] at this
                exact this
        · rw [if_neg (fun q => h1 ((zm_h (by omega)).mp q))]
          refine za_if_ne (pc := 27) 51 dX1_firstByRow_27 (by decide) (fun c26 => ?_) (fun c26 => ?_)
          · refine no ?_
            cases hc : cand n r (alln n) lab k with
            | false => rfl
            | true =>
              have := ((cand_all hkn hn).mp hc).1
              unfold hasL at h1
              simp [this] at h1
          · exact absurd c26 (by decide)
  exact loop n 0 (by omega)
theorem tX1_tellLabel {σ : zSt} {n a l : Nat} {p : Nat → Nat → Bool} {f : Nat → Nat → Bool} (hn : n ≤ 10) (ha : a < n) (hl : l ≤ 10) (hj : σ 2 5 = nI n) (hx : ∀ b, b < n → σ 13 b = zmask (p b)) (hrow : ∀ b, b < n → σ 21 b = zmask (f b)) : zV mX1_tellLabel [.ref 15, .int (nI a), .int (nI l)] SH σ (fun t => (∀ d, d ≠ 21 → t d = σ d) ∧ ∀ b, b < n → t 21 b = zmask (fun q => f b q || (p b a && decide (q = l)))) := by
  refine zV_of (ls := [some (.ref 15), some (.int (nI a)), some (.int (nI l)), none]) (by decide) rfl rfl ?_
  refine za_iconst (pc := 0) (0) dX1_tellLabel_0 (by decide) ?_
  refine za_is3n (pc := 1) dX1_tellLabel_1 rfl ?_
  have loop : ∀ (q b : Nat) (σ1 : zSt), b + q = n → (∀ d, d ≠ 21 → σ1 d = σ d) → (∀ x, x < b → σ1 21 x = zmask (fun q => f x q || (p x a && decide (q = l)))) → (∀ x, b ≤ x → x < n → σ1 21 x = zmask (f x)) → zA (zZ mX1_tellLabel (zQV SH (fun t => (∀ d, d ≠ 21 → t d = σ d) ∧ ∀ b, b < n → t 21 b = zmask (fun q => f b q || (p b a && decide (q = l)))))) mX1_tellLabel none 0 0 2 [some (.ref 15), some (.int (nI a)), some (.int (nI l)), some (.int (nI b))] [] SH σ1 := by
    intro q
    induction q with
    | zero =>
      intro b σ1 hb g1 g2 g3
      refine za_iload_n (pc := 2) dX1_tellLabel_2 rfl ?_
      refine za_aload_n (pc := 3) dX1_tellLabel_3 rfl ?_
      refine za_getR (pc := 4) dX1_tellLabel_4 lk_X1_37 rfl rfl ?_
      refine za_getI (pc := 7) dX1_tellLabel_7 lk_X1_67 rfl rfl ?_
      rw [g1 2 (by decide), hj]
      refine za_icmp_ge (pc := 10) 48 dX1_tellLabel_10 (by decide) (fun c5 => ?_) (fun c5 => ?_)
      · refine za_rv (pc := 48) dX1_tellLabel_48 rfl rfl rfl ?_
        exact ⟨g1, fun x hx => g2 x (by omega)⟩
      · exact absurd (nI_le (show n ≤ b by omega) (by omega)) c5
    | succ q ih =>
      intro b σ1 hb g1 g2 g3
      have vb : vp_in (nI b) 10 := vp_in_nI (by omega) (by decide)
      have eb : (nI b).toNatClampNeg = b := nI_clamp (by omega)
      have rb := g3 b (Nat.le_refl b) (by omega)
      refine za_iload_n (pc := 2) dX1_tellLabel_2 rfl ?_
      refine za_aload_n (pc := 3) dX1_tellLabel_3 rfl ?_
      refine za_getR (pc := 4) dX1_tellLabel_4 lk_X1_37 rfl rfl ?_
      refine za_getI (pc := 7) dX1_tellLabel_7 lk_X1_67 rfl rfl ?_
      rw [g1 2 (by decide), hj]
      refine za_icmp_ge (pc := 10) 48 dX1_tellLabel_10 (by decide) (fun c5 => ?_) (fun c5 => ?_)
      · exact absurd c5 (nI_ge (show b < n by omega) (by omega))
      · refine za_aload_n (pc := 13) dX1_tellLabel_13 rfl ?_
        refine za_getR (pc := 14) dX1_tellLabel_14 lk_X1_41 rfl rfl ?_
        refine za_getR (pc := 17) dX1_tellLabel_17 lk_X1_85 rfl rfl ?_
        refine za_iload_n (pc := 20) dX1_tellLabel_20 rfl ?_
        refine za_iald (pc := 21) dX1_tellLabel_21 rfl vb ?_
        refine za_iload_n (pc := 22) dX1_tellLabel_22 rfl ?_
        refine za_cSN2i (pc := 23) (μ' := mX6_holds) dX1_tellLabel_23 c_X1_81 rfl ⟨rfl, rfl⟩ ⟨rfl, rfl⟩ rfl rfl rfl (tX6_holds) (fun x_23 t_23 h_23 => ?_)
        obtain ⟨rfl, h9⟩ := h_23
        have h9 := h9.symm
        subst h9
        rw [eb, g1 13 (by decide), hx b (by omega)]
        by_cases hp : p b a = false
        · rw [if_pos ((zm_h (by omega)).mpr hp)]
          refine za_if_eq (pc := 26) 42 dX1_tellLabel_26 (by decide) (fun c26 => ?_) (fun c26 => ?_)
          · refine za_ii3 (pc := 42) (1) dX1_tellLabel_42 (by decide) rfl ?_
            refine za_goto (pc := 45) 2 dX1_tellLabel_45 (by decide) ?_
            rw [nI_1]
            refine ih (b + 1) σ1 (by omega) g1 (fun x hx => ?_) (fun x h1 h2 => g3 x (by omega) h2)
            by_cases e : x = b
            · rw [e, rb]
              exact zm_cong (fun i _ => by simp [hp])
            · exact g2 x (by omega)
          · exact absurd rfl c26
        · rw [if_neg (fun q => hp ((zm_h (by omega)).mp q))]
          refine za_if_eq (pc := 26) 42 dX1_tellLabel_26 (by decide) (fun c26 => ?_) (fun c26 => ?_)
          · exact absurd c26 (by decide)
          · refine za_aload_n (pc := 29) dX1_tellLabel_29 rfl ?_
            refine za_getR (pc := 30) dX1_tellLabel_30 lk_X1_31 rfl rfl ?_
            refine za_iload_n (pc := 33) dX1_tellLabel_33 rfl ?_
            refine za_dup2 (pc := 34) dX1_tellLabel_34 rfl rfl ?_
            refine za_iald (pc := 35) dX1_tellLabel_35 rfl vb ?_
            refine za_iload_n (pc := 36) dX1_tellLabel_36 rfl ?_
            refine za_cSN1i (pc := 37) (μ' := mX6_bit) dX1_tellLabel_37 c_X1_74 rfl ⟨rfl, rfl⟩ ⟨rfl, rfl⟩ rfl rfl rfl (tX6_bit) (fun x_37 t_37 h_37 => ?_)
            obtain ⟨rfl, h9⟩ := h_37
            have h9 := h9.symm
            subst h9
            rw [eb, rb, zm_1 (by omega)]
            refine za_ior (pc := 40) dX1_tellLabel_40 ?_
            rw [zm_or]
            refine za_iast (pc := 41) dX1_tellLabel_41 rfl vb ?_
            refine za_ii3 (pc := 42) (1) dX1_tellLabel_42 (by decide) rfl ?_
            refine za_goto (pc := 45) 2 dX1_tellLabel_45 (by decide) ?_
            rw [nI_1, eb]
            refine ih (b + 1) _ (by omega) (fun d hd => by rw [zup_n hd]; exact g1 d hd) (fun x hx => ?_) (fun x h1 h2 => by rw [zup_b (by omega)]; exact g3 x (by omega) h2)
            by_cases e : x = b
            · rw [e, zup_a]
              simp at hp
              exact zm_cong (fun i _ => by simp [hp])
            · rw [zup_b e]; exact g2 x (by omega)
  exact loop n 0 σ (by omega) (fun _ _ => rfl) (fun x hx => absurd hx (by omega)) (fun x _ hx => hrow x hx)
theorem tX1_giveLabels {σ : zSt} {n : Nat} {r : Nat → Nat → Bool} (ho : Ord n r) (hn : n ≤ 10) (hj : σ 2 5 = nI n) (hx : ∀ a, a < n → σ 13 a = zmask (nxt n r a)) : zV mX1_giveLabels [.ref 15] SH σ (fun t => (∀ d, d ≠ 16 → d ≠ 20 → d ≠ 21 → t d = σ d) ∧ (∀ a, a < n → t 16 a = nI (lbl n r (alln n) a)) ∧ ∀ q, 1 ≤ q → q ≤ n → ∃ a, a < n ∧ t 20 q = nI a ∧ lbl n r (alln n) a = q) := by
  have hN := cnt_all n
  refine zV_of (ls := [some (.ref 15), none, none, none]) (by decide) rfl rfl ?_
  refine za_aload_n (pc := 0) dX1_giveLabels_0 rfl ?_
  refine za_getR (pc := 1) dX1_giveLabels_1 lk_X1_31 rfl rfl ?_
  refine za_iconst (pc := 4) (0) dX1_giveLabels_4 (by decide) ?_
  refine za_cS2v (pc := 5) (μ' := mJ7_fill_53178) dX1_giveLabels_5 c_X1_61 rfl ⟨rfl, rfl⟩ ⟨rfl, rfl⟩ rfl rfl rfl (tJ7_fill_53178 (N := 10) rfl (by decide)) (fun t_5 h_5 => ?_)
  have h9 := h_5.symm
  subst h9
  refine za_iconst (pc := 8) (0) dX1_giveLabels_8 (by decide) ?_
  refine za_is1n (pc := 9) dX1_giveLabels_9 rfl ?_
  refine za_iconst (pc := 10) (1) dX1_giveLabels_10 (by decide) ?_
  refine za_is2n (pc := 11) dX1_giveLabels_11 rfl ?_
  have loop : ∀ (q l : Nat) (σ1 : zSt), l + q = n → (∀ d, d ≠ 16 → d ≠ 20 → d ≠ 21 → σ1 d = σ d) → (∀ a, a < n → labs n r (alln n) l a ≠ 0 → σ1 16 a = nI (labs n r (alln n) l a)) → (∀ q, 1 ≤ q → q ≤ l → ∃ a, a < n ∧ σ1 20 q = nI a ∧ labs n r (alln n) l a = q) → (∀ b, b < n → σ1 21 b = zmask (fun q => decide (q ≠ 0) && rowp n r (alln n) (labs n r (alln n) l) b q)) → zA (zZ mX1_giveLabels (zQV SH (fun t => (∀ d, d ≠ 16 → d ≠ 20 → d ≠ 21 → t d = σ d) ∧ (∀ a, a < n → t 16 a = nI (lbl n r (alln n) a)) ∧ ∀ q, 1 ≤ q → q ≤ n → ∃ a, a < n ∧ t 20 q = nI a ∧ lbl n r (alln n) a = q))) mX1_giveLabels none 0 0 12 [some (.ref 15), some (.int (zmask (hasL n (labs n r (alln n) l)))), some (.int (nI (l + 1))), none] [] SH σ1 := by
    intro q
    induction q with
    | zero =>
      intro l σ1 hl g1 g2 g3 g4
      have e : labs n r (alln n) l = lbl n r (alln n) := by
        unfold lbl
        rw [show cnt (fun a => alln n a) n = n from hN, show l = n by omega]
      rw [e] at g2 g3
      refine za_iload_n (pc := 12) dX1_giveLabels_12 rfl ?_
      refine za_aload_n (pc := 13) dX1_giveLabels_13 rfl ?_
      refine za_getR (pc := 14) dX1_giveLabels_14 lk_X1_37 rfl rfl ?_
      refine za_getI (pc := 17) dX1_giveLabels_17 lk_X1_67 rfl rfl ?_
      rw [g1 2 (by decide) (by decide) (by decide), hj]
      refine za_icmp_gt (pc := 20) 62 dX1_giveLabels_20 (by decide) (fun c5 => ?_) (fun c5 => ?_)
      · refine za_rv (pc := 62) dX1_giveLabels_62 rfl rfl rfl ?_
        exact ⟨g1, fun a ha => g2 a ha (by have := lbl_pos (s := alln n) ho ha (by simp [ha]); omega), fun q h1 h2 => g3 q h1 (by omega)⟩
      · exact absurd (nI_lt (show n < l + 1 by omega) (by omega)) c5
    | succ q ih =>
      intro l σ1 hl g1 g2 g3 g4
      obtain ⟨a, ha1, ha2, ha3, -, ha5⟩ := labs_step (s := alln n) ho (l := l) (by rw [show cnt (fun a => alln n a) n = n from hN]; omega)
      have hinv := labs_inv (s := alln n) ho l (by rw [show cnt (fun a => alln n a) n = n from hN]; omega)
      have va : vp_in (nI a) 10 := vp_in_nI (by omega) (by decide)
      have ea : (nI a).toNatClampNeg = a := nI_clamp (by omega)
      have vl : vp_in (nI (l + 1)) 11 := vp_in_nI (by omega) (by decide)
      have el : (nI (l + 1)).toNatClampNeg = l + 1 := nI_clamp (by omega)
      refine za_iload_n (pc := 12) dX1_giveLabels_12 rfl ?_
      refine za_aload_n (pc := 13) dX1_giveLabels_13 rfl ?_
      refine za_getR (pc := 14) dX1_giveLabels_14 lk_X1_37 rfl rfl ?_
      refine za_getI (pc := 17) dX1_giveLabels_17 lk_X1_67 rfl rfl ?_
      rw [g1 2 (by decide) (by decide) (by decide), hj]
      refine za_icmp_gt (pc := 20) 62 dX1_giveLabels_20 (by decide) (fun c5 => ?_) (fun c5 => ?_)
      · exact absurd c5 (nI_nlt (show l + 1 ≤ n by omega) (by omega))
      · have hrw : ∀ b, b < n → cand n r (alln n) (labs n r (alln n) l) b = true → σ1 21 b = zmask (rowp n r (alln n) (labs n r (alln n) l) b) := by
          intro b hb hc
          rw [g4 b hb]
          apply zm_cong
          intro i _
          by_cases hi : i = 0
          · subst hi
            have h0 : rowp n r (alln n) (labs n r (alln n) l) b 0 = false := by
              unfold rowp
              rw [anyb_f]
              intro x hxn
              unfold cand at hc
              rw [Bool.and_eq_true, Bool.not_eq_true', anyb_f] at hc
              exact hc.2 x (by omega)
            rw [h0]; rfl
          · simp [hi]
        refine za_aload_n (pc := 23) dX1_giveLabels_23 rfl ?_
        refine za_iload_n (pc := 24) dX1_giveLabels_24 rfl ?_
        refine za_cV1i (pc := 25) (μ' := mX1_firstByRow) dX1_giveLabels_25 c_X1_70 rfl rfl rfl ⟨rfl, rfl⟩ ⟨rfl, rfl⟩ rfl rfl rfl (tX1_firstByRow (σ := σ1) (r := r) (lab := labs n r (alln n) l) hn (fun x => by have := hinv.1 x; omega) (by rw [g1 2 (by decide) (by decide) (by decide)]; exact hj) (fun a ha => by rw [g1 13 (by decide) (by decide) (by decide)]; exact hx a ha) hrw) (fun x_25 t_25 h_25 => ?_)
        obtain ⟨rfl, h9⟩ := h_25
        have h9 := h9.symm
        subst h9
        rw [ha1, show pkF (some a) = nI a from rfl]
        refine za_is3n (pc := 28) dX1_giveLabels_28 rfl ?_
        refine za_aload_n (pc := 29) dX1_giveLabels_29 rfl ?_
        refine za_getR (pc := 30) dX1_giveLabels_30 lk_X1_9 rfl rfl ?_
        refine za_iload_n (pc := 33) dX1_giveLabels_33 rfl ?_
        refine za_iload_n (pc := 34) dX1_giveLabels_34 rfl ?_
        refine za_iast (pc := 35) dX1_giveLabels_35 rfl va ?_
        refine za_aload_n (pc := 36) dX1_giveLabels_36 rfl ?_
        refine za_getR (pc := 37) dX1_giveLabels_37 lk_X1_28 rfl rfl ?_
        refine za_iload_n (pc := 40) dX1_giveLabels_40 rfl ?_
        refine za_iload_n (pc := 41) dX1_giveLabels_41 rfl ?_
        refine za_iast (pc := 42) dX1_giveLabels_42 rfl vl ?_
        refine za_iload_n (pc := 43) dX1_giveLabels_43 rfl ?_
        refine za_iload_n (pc := 44) dX1_giveLabels_44 rfl ?_
        refine za_cSN1i (pc := 45) (μ' := mX6_bit) dX1_giveLabels_45 c_X1_74 rfl ⟨rfl, rfl⟩ ⟨rfl, rfl⟩ rfl rfl rfl (tX6_bit) (fun x_45 t_45 h_45 => ?_)
        obtain ⟨rfl, h9⟩ := h_45
        have h9 := h9.symm
        subst h9
        rw [ea, el, zm_1 (by omega)]
        refine za_ior (pc := 48) dX1_giveLabels_48 ?_
        refine za_is1n (pc := 49) dX1_giveLabels_49 rfl ?_
        refine za_aload_n (pc := 50) dX1_giveLabels_50 rfl ?_
        refine za_iload_n (pc := 51) dX1_giveLabels_51 rfl ?_
        refine za_iload_n (pc := 52) dX1_giveLabels_52 rfl ?_
        rw [zm_or]
        refine za_cV2v (pc := 53) (μ' := mX1_tellLabel) dX1_giveLabels_53 c_X1_77 rfl rfl rfl ⟨rfl, rfl⟩ ⟨rfl, rfl⟩ rfl rfl rfl (tX1_tellLabel (p := nxt n r) (f := fun b q => decide (q ≠ 0) && rowp n r (alln n) (labs n r (alln n) l) b q) hn ha3 (by omega) (by rw [zup_n (by decide), zup_n (by decide), g1 2 (by decide) (by decide) (by decide)]; exact hj) (fun b hb => by rw [zup_n (by decide), zup_n (by decide), g1 13 (by decide) (by decide) (by decide)]; exact hx b hb) (fun b hb => by rw [zup_n (by decide), zup_n (by decide)]; exact g4 b hb)) (fun t_53 h_53 => ?_)
        obtain ⟨k1, k2⟩ := h_53
        refine za_ii2 (pc := 56) (1) dX1_giveLabels_56 (by decide) rfl ?_
        refine za_goto (pc := 59) 12 dX1_giveLabels_59 (by decide) ?_
        rw [nI_1]
        have em : zmask (fun i => hasL n (labs n r (alln n) l) i || decide (i = a)) = zmask (hasL n (labs n r (alln n) (l + 1))) := by
          apply zm_cong
          intro i _
          unfold hasL
          rw [ha2]
          by_cases hia : i = a
          · subst hia
            simp [va_up, ha3]
          · simp [va_up, hia]
        rw [em]
        refine za_fg (by simp [zSub]) (ih (l + 1) t_53 (by omega) (fun d h16 h20 h21 => by rw [k1 d h21, zup_n h20, zup_n h16]; exact g1 d h16 h20 h21) (fun x hxn hx0 => ?_) (fun y hy1 hy2 => ?_) (fun b hb => ?_))
        · rw [k1 16 (by decide), zup_n (by decide)]
          rw [ha2] at hx0 ⊢
          by_cases hxa : x = a
          · rw [hxa, zup_a]; simp [va_up]
          · rw [zup_b hxa]
            simp only [va_up, if_neg hxa] at hx0 ⊢
            exact g2 x hxn hx0
        · rw [k1 20 (by decide)]
          by_cases hyl : y = l + 1
          · exact ⟨a, ha3, by rw [hyl, zup_a], by rw [ha2, hyl]; simp [va_up]⟩
          · obtain ⟨x, hxn, hx1, hx2⟩ := g3 y hy1 (by omega)
            refine ⟨x, hxn, by rw [zup_b (by omega), zup_n (by decide)]; exact hx1, ?_⟩
            rw [ha2]
            have hxa : x ≠ a := fun e => by rw [e, ha5] at hx2; omega
            simp only [va_up, if_neg hxa]
            exact hx2
        · rw [k2 b hb]
          apply zm_cong
          intro i hi
          unfold rowp
          rw [ha2, nxs_all]
          by_cases hi0 : i = 0
          · subst hi0; simp
          · have e1 : decide (i ≠ 0) = true := by simp [hi0]
            rw [e1, Bool.true_and, Bool.true_and]
            -- labels of nexts: the new one, or as before
            cases hnew : (nxt n r b a && decide (i = l + 1)) with
            | true =>
              rw [Bool.or_true]
              symm
              rw [anyb_iff]
              simp only [Bool.and_eq_true, decide_eq_true_eq] at hnew
              exact ⟨a, ha3, by simp [va_up, hnew.1, hnew.2]⟩
            | false =>
              rw [Bool.or_false]
              rw [Bool.eq_iff_iff, anyb_iff, anyb_iff]
              constructor
              · rintro ⟨x, hxn, hx2⟩
                simp only [Bool.and_eq_true, decide_eq_true_eq] at hx2
                have hxa : x ≠ a := fun e => by rw [e, ha5] at hx2; exact hi0 hx2.2.symm
                exact ⟨x, hxn, by simp [va_up, hxa, hx2.1, hx2.2]⟩
              · rintro ⟨x, hxn, hx2⟩
                simp only [Bool.and_eq_true, decide_eq_true_eq] at hx2
                by_cases hxa : x = a
                · subst hxa
                  have h2 : (l + 1 : Nat) = i := by have := hx2.2; simpa [va_up] using this
                  simp [hx2.1, h2] at hnew
                · have h2 : labs n r (alln n) l x = i := by have := hx2.2; simpa [va_up, hxa] using this
                  exact ⟨x, hxn, by simp [hx2.1, h2]⟩
  have e0 : (0 : Int32) = zmask (hasL n (labs n r (alln n) 0)) := by
    rw [← zm_0]
    exact zm_cong (fun x _ => by simp [hasL, labs])
  have goal := loop n 0 (zrow σ 21 (fa_fill (fun _ => 0) (σ 21) 10)) (by omega) (fun d _ _ h21 => zrow_n h21) (fun a _ h => absurd rfl h) (fun q h1 h2 => absurd h1 (by omega)) (fun b hb => by
    rw [zrow_s, fa_fill, if_pos (by omega), ← zm_0]
    apply zm_cong
    intro i _
    by_cases hi : i = 0
    · simp [hi]
    · unfold rowp
      have : anyb (fun x => nxs n r (alln n) b x && decide (labs n r (alln n) 0 x = i)) n = false := by
        rw [anyb_f]
        intro x _
        have : ¬ (labs n r (alln n) 0 x = i) := fun e => hi (by rw [← e]; rfl)
        simp [this]
      rw [this]
      simp)
  rw [← e0] at goal
  exact goal
