/-! the RING of the class -/
def nr (w : Nat → Nat → Bool) (n a k : Nat) : Nat → Bool := fun c => decide (c < n) && rc w n a k c
theorem nr_t {w : Nat → Nat → Bool} {n a k c : Nat} : nr w n a k c = true ↔ c < n ∧ rc w n a k c = true := by
  unfold nr
  rw [Bool.and_eq_true, decide_eq_true_eq]
theorem tX3_measure {σ : zSt} {n a : Nat} {w : Nat → Nat → Bool} (hn : n ≤ 10) (ha : a < n) (hj : σ 2 5 = nI n) (hw : ∀ c, c < n → σ 7 c = zmask (w c)) : zV mX3_measure [.ref 32, .int (nI a)] SH σ (fun t => (∀ d, d ≠ 34 → t d = σ d) ∧ ∀ c, c < 10 → t 34 c = if nr w n a (n - 1) c = true then nI (dst w n a c) else 0) := by
  refine zV_of (ls := [some (.ref 32), some (.int (nI a)), none, none, none, none]) (by decide) rfl rfl ?_
  refine za_aload_n (pc := 0) dX3_measure_0 rfl ?_
  refine za_getR (pc := 1) dX3_measure_1 lk_X3_15 rfl rfl ?_
  refine za_iconst (pc := 4) (0) dX3_measure_4 (by decide) ?_
  refine za_cS2v (pc := 5) (μ' := mJ7_fill_53178) dX3_measure_5 c_X3_34 rfl ⟨rfl, rfl⟩ ⟨rfl, rfl⟩ rfl rfl rfl (tJ7_fill_53178 rfl (by decide)) (fun t_5 h_5 => ?_)
  have h9 := h_5.symm
  subst h9
  refine za_iload_n (pc := 8) dX3_measure_8 rfl ?_
  refine za_cSN1i (pc := 9) (μ' := mX6_bit) dX3_measure_9 c_X3_40 rfl ⟨rfl, rfl⟩ ⟨rfl, rfl⟩ rfl rfl rfl (tX6_bit) (fun x_9 t_9 h_9 => ?_)
  obtain ⟨rfl, h9⟩ := h_9
  have h9 := h9.symm
  subst h9
  refine za_is2n (pc := 12) dX3_measure_12 rfl ?_
  refine za_iconst (pc := 13) (1) dX3_measure_13 (by decide) ?_
  refine za_is3n (pc := 14) dX3_measure_14 rfl ?_
  obtain ⟨σ0, hσ0⟩ : ∃ σ0 : zSt, σ0 = zrow σ 34 (fa_fill (fun _ => 0) (σ 34) 10) := ⟨_, rfl⟩
  rw [← hσ0]
  have f0 : ∀ d, d ≠ 34 → σ0 d = σ d := fun d hd => by rw [hσ0, zrow_n hd]
  have f34 : ∀ c, c < 10 → σ0 34 c = 0 := fun c hc => by rw [hσ0, zrow_s]; unfold fa_fill; rw [if_pos hc]
  have e0 : (1 : Int32) <<< (nI a &&& 31) = zmask (nr w n a 0) := by
    rw [zm_1 (by omega)]
    refine zm_cong (fun i _ => ?_)
    show decide (i = a) = (decide (i < n) && decide (i = a))
    by_cases e : i = a
    · rw [e]; simp [ha]
    · simp [e]
  rw [e0]
  have outer : ∀ (q k : Nat) (σ1 : zSt), k + q + 1 = n → (∀ d, d ≠ 34 → σ1 d = σ d) → (∀ c, c < 10 → σ1 34 c = if nr w n a k c = true then nI (dst w n a c) else 0) → zA (zZ mX3_measure (zQV SH (fun t => (∀ d, d ≠ 34 → t d = σ d) ∧ ∀ c, c < 10 → t 34 c = if nr w n a (n - 1) c = true then nI (dst w n a c) else 0))) mX3_measure none 0 0 15 [some (.ref 32), some (.int (nI a)), some (.int (zmask (nr w n a k))), some (.int (nI (k + 1))), none, none] [] SH σ1 := by
    intro q
    induction q with
    | zero =>
      intro k σ1 hk g1 g2
      refine za_iload_n (pc := 15) dX3_measure_15 rfl ?_
      refine za_aload_n (pc := 16) dX3_measure_16 rfl ?_
      refine za_getR (pc := 17) dX3_measure_17 lk_X3_22 rfl rfl ?_
      refine za_getI (pc := 20) dX3_measure_20 lk_X3_44 rfl rfl ?_
      rw [g1 2 (by decide), hj]
      refine za_icmp_ge (pc := 23) 101 dX3_measure_23 (by decide) (fun c23 => ?_) (fun c23 => ?_)
      · refine za_rv (pc := 101) dX3_measure_101 rfl rfl rfl ?_
        refine ⟨g1, fun c hc => ?_⟩
        rw [show n - 1 = k by omega]
        exact g2 c hc
      · exact absurd (nI_le (show n ≤ k + 1 by omega) (by omega)) c23
    | succ q ih =>
      intro k σ1 hk g1 g2
      have sj : σ1 2 5 = nI n := by rw [g1 2 (by decide)]; exact hj
      refine za_iload_n (pc := 15) dX3_measure_15 rfl ?_
      refine za_aload_n (pc := 16) dX3_measure_16 rfl ?_
      refine za_getR (pc := 17) dX3_measure_17 lk_X3_22 rfl rfl ?_
      refine za_getI (pc := 20) dX3_measure_20 lk_X3_44 rfl rfl ?_
      rw [sj]
      refine za_icmp_ge (pc := 23) 101 dX3_measure_23 (by decide) (fun c23 => ?_) (fun c23 => ?_)
      · exact absurd c23 (nI_ge (show k + 1 < n by omega) (by omega))
      refine za_iload_n (pc := 26) dX3_measure_26 rfl ?_
      refine za_is4 (pc := 27) dX3_measure_27 rfl ?_
      refine za_iconst (pc := 29) (0) dX3_measure_29 (by decide) ?_
      refine za_is5 (pc := 30) dX3_measure_30 rfl ?_
      have inner : ∀ (q2 b : Nat) (σ2 : zSt), b + q2 = n → (∀ d, d ≠ 34 → σ2 d = σ d) → (∀ c, c < 10 → σ2 34 c = if (nr w n a k c || (decide (c < b) && nr w n a (k + 1) c)) = true then nI (dst w n a c) else 0) → zA (zZ mX3_measure (zQV SH (fun t => (∀ d, d ≠ 34 → t d = σ d) ∧ ∀ c, c < 10 → t 34 c = if nr w n a (n - 1) c = true then nI (dst w n a c) else 0))) mX3_measure none 0 0 32 [some (.ref 32), some (.int (nI a)), some (.int (zmask (nr w n a k))), some (.int (nI (k + 1))), some (.int (zmask (fun c => nr w n a k c || (decide (c < b) && nr w n a (k + 1) c)))), some (.int (nI b))] [] SH σ2 := by
        intro q2
        induction q2 with
        | zero =>
          intro b σ2 hb i1 i2
          have hbn : b = n := by omega
          have eall : ∀ c, (nr w n a k c || (decide (c < b) && nr w n a (k + 1) c)) = nr w n a (k + 1) c := by
            intro c
            rw [Bool.eq_iff_iff, Bool.or_eq_true, Bool.and_eq_true, decide_eq_true_eq, nr_t, nr_t]
            constructor
            · rintro (q | q)
              · exact ⟨q.1, rc_s.mpr (Or.inl q.2)⟩
              · exact q.2
            · intro q
              exact Or.inr ⟨by omega, q⟩
          refine za_iload (pc := 32) dX3_measure_32 rfl ?_
          refine za_aload_n (pc := 34) dX3_measure_34 rfl ?_
          refine za_getR (pc := 35) dX3_measure_35 lk_X3_22 rfl rfl ?_
          refine za_getI (pc := 38) dX3_measure_38 lk_X3_44 rfl rfl ?_
          rw [i1 2 (by decide), hj]
          refine za_icmp_ge (pc := 41) 92 dX3_measure_41 (by decide) (fun c41 => ?_) (fun c41 => ?_)
          · refine za_iload (pc := 92) dX3_measure_92 rfl ?_
            refine za_is2n (pc := 94) dX3_measure_94 rfl ?_
            refine za_ii3 (pc := 95) (1) dX3_measure_95 (by decide) rfl ?_
            refine za_goto (pc := 98) 15 dX3_measure_98 (by decide) ?_
            rw [nI_1, zm_cong (fun i _ => eall i)]
            refine za_fg (by simp [zSub]) (ih (k + 1) σ2 (by omega) i1 (fun c hc => ?_))
            rw [i2 c hc, eall c]
          · exact absurd (nI_le (show n ≤ b by omega) (by omega)) c41
        | succ q2 ih2 =>
          intro b σ2 hb i1 i2
          have hbn : b < n := by omega
          have vb : vp_in (nI b) 10 := vp_in_nI (by omega) (by decide)
          have eb : (nI b).toNatClampNeg = b := nI_clamp (by omega)
          have skip : (nr w n a k b = true ∨ nr w n a (k + 1) b = false) → zA (zZ mX3_measure (zQV SH (fun t => (∀ d, d ≠ 34 → t d = σ d) ∧ ∀ c, c < 10 → t 34 c = if nr w n a (n - 1) c = true then nI (dst w n a c) else 0))) mX3_measure none 0 0 86 [some (.ref 32), some (.int (nI a)), some (.int (zmask (nr w n a k))), some (.int (nI (k + 1))), some (.int (zmask (fun c => nr w n a k c || (decide (c < b) && nr w n a (k + 1) c)))), some (.int (nI b))] [] SH σ2 := by
            intro hno
            have e9 : ∀ c, (nr w n a k c || (decide (c < b) && nr w n a (k + 1) c)) = (nr w n a k c || (decide (c < b + 1) && nr w n a (k + 1) c)) := by
              intro c
              by_cases e : c = b
              · subst e
                rcases hno with q | q <;> simp [q]
              · have : (c < b + 1) ↔ c < b := by omega
                simp [this]
            refine za_ii5 (pc := 86) (1) dX3_measure_86 (by decide) rfl ?_
            refine za_goto (pc := 89) 32 dX3_measure_89 (by decide) ?_
            rw [nI_1, zm_cong (fun i _ => e9 i)]
            exact ih2 (b + 1) σ2 (by omega) i1 (fun c hc => by rw [i2 c hc, e9 c])
          refine za_iload (pc := 32) dX3_measure_32 rfl ?_
          refine za_aload_n (pc := 34) dX3_measure_34 rfl ?_
          refine za_getR (pc := 35) dX3_measure_35 lk_X3_22 rfl rfl ?_
          refine za_getI (pc := 38) dX3_measure_38 lk_X3_44 rfl rfl ?_
          rw [i1 2 (by decide), hj]
          refine za_icmp_ge (pc := 41) 92 dX3_measure_41 (by decide) (fun c41 => ?_) (fun c41 => ?_)
          · exact absurd c41 (nI_ge (show b < n by omega) (by omega))
          refine za_iload_n (pc := 44) dX3_measure_44 rfl ?_
          refine za_iload (pc := 45) dX3_measure_45 rfl ?_
          refine za_cSN2i (pc := 47) (μ' := mX6_holds) dX3_measure_47 c_X3_49 rfl ⟨rfl, rfl⟩ ⟨rfl, rfl⟩ rfl rfl rfl (tX6_holds) (fun x_47 t_47 h_47 => ?_)
          obtain ⟨rfl, h9⟩ := h_47
          have h9 := h9.symm
          subst h9
          refine za_if_ne (pc := 50) 86 dX3_measure_50 (by decide) (fun c50 => ?_) (fun c50 => ?_)
          · refine skip (Or.inl ?_)
            cases hq : nr w n a k b with
            | true => rfl
            | false => rw [if_pos ((zm_h (by omega)).mpr hq)] at c50; exact absurd rfl c50
          have hnb : nr w n a k b = false := by
            cases hq : nr w n a k b with
            | false => rfl
            | true =>
              rw [if_neg (fun q => by rw [zm_h (by omega)] at q; rw [hq] at q; cases q)] at c50
              exact absurd c50 (by decide)
          refine za_aload_n (pc := 53) dX3_measure_53 rfl ?_
          refine za_getR (pc := 54) dX3_measure_54 lk_X3_22 rfl rfl ?_
          refine za_getR (pc := 57) dX3_measure_57 lk_X3_53 rfl rfl ?_
          refine za_iload (pc := 60) dX3_measure_60 rfl ?_
          refine za_iald (pc := 62) dX3_measure_62 rfl vb ?_
          refine za_iload_n (pc := 63) dX3_measure_63 rfl ?_
          refine za_iand (pc := 64) dX3_measure_64 ?_
          rw [eb, i1 7 (by decide), hw b hbn, zm_and]
          have hrb : ¬ rc w n a k b = true := fun q => by rw [nr_t.mpr ⟨hbn, q⟩] at hnb; cases hnb
          refine za_if_eq (pc := 65) 86 dX3_measure_65 (by decide) (fun c65 => ?_) (fun c65 => ?_)
          · refine skip (Or.inr ?_)
            rw [zm_z] at c65
            cases hq : nr w n a (k + 1) b with
            | false => rfl
            | true =>
              rcases rc_s.mp (nr_t.mp hq).2 with q | ⟨d, h1, h2, h3⟩
              · exact absurd q hrb
              · have := c65 d (by omega)
                rw [h2, nr_t.mpr ⟨h1, h3⟩] at this
                cases this
          · have hyes : nr w n a (k + 1) b = true := by
              refine nr_t.mpr ⟨hbn, ?_⟩
              apply Classical.byContradiction
              intro hno
              apply c65
              rw [zm_z]
              intro d hd
              cases hq : (w b d && nr w n a k d) with
              | false => rfl
              | true =>
                rw [Bool.and_eq_true, nr_t] at hq
                exact absurd (rc_s.mpr (Or.inr ⟨d, hq.2.1, hq.1, hq.2.2⟩)) hno
            have hd : dst w n a b = k + 1 := by
              have h1 := (dst_iff (show k + 1 < 10 by omega)).mp (nr_t.mp hyes).2
              have h2 : ¬ dst w n a b ≤ k := fun q => hrb ((dst_iff (by omega)).mpr q)
              omega
            have e9 : ∀ c, ((nr w n a k c || (decide (c < b) && nr w n a (k + 1) c)) || decide (c = b)) = (nr w n a k c || (decide (c < b + 1) && nr w n a (k + 1) c)) := by
              intro c
              by_cases e : c = b
              · subst e
                simp [hyes]
              · have : (c < b + 1) ↔ c < b := by omega
                simp [this, e]
            refine za_aload_n (pc := 68) dX3_measure_68 rfl ?_
            refine za_getR (pc := 69) dX3_measure_69 lk_X3_15 rfl rfl ?_
            refine za_iload (pc := 72) dX3_measure_72 rfl ?_
            refine za_iload_n (pc := 74) dX3_measure_74 rfl ?_
            refine za_iast (pc := 75) dX3_measure_75 rfl vb ?_
            refine za_iload (pc := 76) dX3_measure_76 rfl ?_
            refine za_iload (pc := 78) dX3_measure_78 rfl ?_
            refine za_cSN1i (pc := 80) (μ' := mX6_bit) dX3_measure_80 c_X3_40 rfl ⟨rfl, rfl⟩ ⟨rfl, rfl⟩ rfl rfl rfl (tX6_bit) (fun x_80 t_80 h_80 => ?_)
            obtain ⟨rfl, h9⟩ := h_80
            have h9 := h9.symm
            subst h9
            refine za_ior (pc := 83) dX3_measure_83 ?_
            refine za_is4 (pc := 84) dX3_measure_84 rfl ?_
            rw [eb, zm_1 (by omega), zm_or]
            refine za_ii5 (pc := 86) (1) dX3_measure_86 (by decide) rfl ?_
            refine za_goto (pc := 89) 32 dX3_measure_89 (by decide) ?_
            rw [nI_1, zm_cong (fun i _ => e9 i)]
            refine ih2 (b + 1) _ (by omega) (fun d hd => by rw [zup_n hd]; exact i1 d hd) (fun c hc => ?_)
            by_cases e : c = b
            · subst e
              rw [zup_a, hd, if_pos (by simp [hyes])]
            · rw [zup_b e, i2 c hc, ← e9 c]
              simp [e]
      have e8 : ∀ c, nr w n a k c = (nr w n a k c || (decide (c < 0) && nr w n a (k + 1) c)) := fun c => by simp
      have := inner n 0 σ1 (by omega) g1 (fun c hc => by rw [g2 c hc, ← e8 c])
      rw [← zm_cong (fun i _ => e8 i)] at this
      exact this
  refine outer (n - 1) 0 σ0 (by omega) f0 (fun c hc => ?_)
  rw [f34 c hc]
  by_cases e : nr w n a 0 c = true
  · rw [if_pos e]
    have : dst w n a c = 0 := by
      have := (dst_iff (show 0 < 10 by decide)).mp (nr_t.mp e).2
      omega
    rw [this]; rfl
  · rw [if_neg e]
theorem tX3_firstNearer {σ : zSt} {n x : Nat} {l : Int32} {w : Nat → Nat → Bool} (hn : n ≤ 10) (hx : x < n) (hj : σ 2 5 = nI n) (hw : ∀ c, c < n → σ 7 c = zmask (w c)) : zI mX3_firstNearer [.ref 32, .int (nI x), .int l] SH σ (fun y t => t = σ ∧ ((∃ i, 0 ≤ i ∧ i < 0 + n ∧ (w x i && decide (σ 34 i = l)) = true) → y = nI (lo (fun i => w x i && decide (σ 34 i = l)) 0 n))) := by
  have vx : vp_in (nI x) 10 := vp_in_nI (by omega) (by decide)
  have ex : (nI x).toNatClampNeg = x := nI_clamp (by omega)
  refine zI_of (ls := [some (.ref 32), some (.int (nI x)), some (.int l), none]) (by decide) rfl rfl ?_
  refine za_iconst (pc := 0) (0) dX3_firstNearer_0 (by decide) ?_
  refine za_is3n (pc := 1) dX3_firstNearer_1 rfl ?_
  generalize hp : (fun i => w x i && decide (σ 34 i = l)) = p
  have pe : ∀ i, p i = (w x i && decide (σ 34 i = l)) := fun i => by rw [← hp]
  have loop : ∀ (q b : Nat), b + q = n → ((∃ i, 0 ≤ i ∧ i < 0 + n ∧ p i = true) → (∃ i, b ≤ i ∧ i < b + q ∧ p i = true) ∧ lo p b q = lo p 0 n) → zA (zZ mX3_firstNearer (zQI SH (fun y t => t = σ ∧ ((∃ i, 0 ≤ i ∧ i < 0 + n ∧ p i = true) → y = nI (lo p 0 n))))) mX3_firstNearer none 0 0 2 [some (.ref 32), some (.int (nI x)), some (.int l), some (.int (nI b))] [] SH σ := by
    intro q
    induction q with
    | zero =>
      intro b hb hl
      refine za_iload_n (pc := 2) dX3_firstNearer_2 rfl ?_
      refine za_aload_n (pc := 3) dX3_firstNearer_3 rfl ?_
      refine za_getR (pc := 4) dX3_firstNearer_4 lk_X3_22 rfl rfl ?_
      refine za_getI (pc := 7) dX3_firstNearer_7 lk_X3_44 rfl rfl ?_
      rw [hj]
      refine za_icmp_ge (pc := 10) 47 dX3_firstNearer_10 (by decide) (fun c10 => ?_) (fun c10 => ?_)
      · refine za_iload_n (pc := 47) dX3_firstNearer_47 rfl ?_
        refine za_ri (pc := 48) dX3_firstNearer_48 rfl rfl rfl ?_
        refine ⟨rfl, fun h => ?_⟩
        obtain ⟨⟨i, h1, h2, -⟩, -⟩ := hl h
        omega
      · exact absurd (nI_le (show n ≤ b by omega) (by omega)) c10
    | succ q ih =>
      intro b hb hl
      have hbn : b < n := by omega
      have vb : vp_in (nI b) 10 := vp_in_nI (by omega) (by decide)
      have eb : (nI b).toNatClampNeg = b := nI_clamp (by omega)
      have skip : p b = false → zA (zZ mX3_firstNearer (zQI SH (fun y t => t = σ ∧ ((∃ i, 0 ≤ i ∧ i < 0 + n ∧ p i = true) → y = nI (lo p 0 n))))) mX3_firstNearer none 0 0 41 [some (.ref 32), some (.int (nI x)), some (.int l), some (.int (nI b))] [] SH σ := by
        intro hpb
        refine za_ii3 (pc := 41) (1) dX3_firstNearer_41 (by decide) rfl ?_
        refine za_goto (pc := 44) 2 dX3_firstNearer_44 (by decide) ?_
        rw [nI_1]
        refine ih (b + 1) (by omega) (fun h => ?_)
        obtain ⟨⟨i, h1, h2, h3⟩, h4⟩ := hl h
        have hib : i ≠ b := fun e => by rw [e, hpb] at h3; cases h3
        refine ⟨⟨i, by omega, by omega, h3⟩, ?_⟩
        rw [← h4]
        show _ = (if p b = true then b else lo p (b + 1) q)
        rw [hpb]
        rfl
      refine za_iload_n (pc := 2) dX3_firstNearer_2 rfl ?_
      refine za_aload_n (pc := 3) dX3_firstNearer_3 rfl ?_
      refine za_getR (pc := 4) dX3_firstNearer_4 lk_X3_22 rfl rfl ?_
      refine za_getI (pc := 7) dX3_firstNearer_7 lk_X3_44 rfl rfl ?_
      rw [hj]
      refine za_icmp_ge (pc := 10) 47 dX3_firstNearer_10 (by decide) (fun c10 => ?_) (fun c10 => ?_)
      · exact absurd c10 (nI_ge (show b < n by omega) (by omega))
      refine za_aload_n (pc := 13) dX3_firstNearer_13 rfl ?_
      refine za_getR (pc := 14) dX3_firstNearer_14 lk_X3_22 rfl rfl ?_
      refine za_getR (pc := 17) dX3_firstNearer_17 lk_X3_53 rfl rfl ?_
      refine za_iload_n (pc := 20) dX3_firstNearer_20 rfl ?_
      refine za_iald (pc := 21) dX3_firstNearer_21 rfl vx ?_
      refine za_iload_n (pc := 22) dX3_firstNearer_22 rfl ?_
      refine za_cSN2i (pc := 23) (μ' := mX6_holds) dX3_firstNearer_23 c_X3_49 rfl ⟨rfl, rfl⟩ ⟨rfl, rfl⟩ rfl rfl rfl (tX6_holds) (fun x_23 t_23 h_23 => ?_)
      obtain ⟨rfl, h9⟩ := h_23
      have h9 := h9.symm
      subst h9
      rw [ex, hw x hx]
      cases hwb : w x b with
      | false =>
        rw [if_pos ((zm_h (by omega)).mpr hwb)]
        refine za_if_eq (pc := 26) 41 dX3_firstNearer_26 (by decide) (fun c26 => ?_) (fun c26 => ?_)
        · exact skip (by rw [pe, hwb]; rfl)
        · exact absurd rfl c26
      | true =>
        rw [if_neg (fun q => by rw [zm_h (by omega)] at q; rw [hwb] at q; cases q)]
        refine za_if_eq (pc := 26) 41 dX3_firstNearer_26 (by decide) (fun c26 => ?_) (fun c26 => ?_)
        · exact absurd c26 (by decide)
        refine za_aload_n (pc := 29) dX3_firstNearer_29 rfl ?_
        refine za_getR (pc := 30) dX3_firstNearer_30 lk_X3_15 rfl rfl ?_
        refine za_iload_n (pc := 33) dX3_firstNearer_33 rfl ?_
        refine za_iald (pc := 34) dX3_firstNearer_34 rfl vb ?_
        refine za_iload_n (pc := 35) dX3_firstNearer_35 rfl ?_
        rw [eb]
        refine za_icmp_ne (pc := 36) 41 dX3_firstNearer_36 (by decide) (fun c36 => ?_) (fun c36 => ?_)
        · exact skip (by rw [pe, hwb, decide_eq_false c36]; rfl)
        · have hpb : p b = true := by rw [pe, hwb, decide_eq_true c36]; rfl
          refine za_iload_n (pc := 39) dX3_firstNearer_39 rfl ?_
          refine za_ri (pc := 40) dX3_firstNearer_40 rfl rfl rfl ?_
          refine ⟨rfl, fun h => ?_⟩
          rw [← (hl h).2]
          show _ = nI (if p b = true then b else lo p (b + 1) q)
          rw [if_pos hpb]
  have := loop n 0 (by omega) (fun h => ⟨h, rfl⟩)
  subst hp
  exact this
/-- what close leaves -/
def FRX (t σ : zSt) : Prop := (∀ d, d ≠ 32 → d ≠ 33 → d ≠ 34 → t d = σ d) ∧ ∀ i, i ≠ 3 → t 32 i = σ 32 i
theorem tX3_close {σ : zSt} {n a b : Nat} {w : Nat → Nat → Bool} (hn : n ≤ 10) (hs : ∀ a b, a < n → w a b = true → b < n) (ha : a < n) (hb : b < n) (hj : σ 2 5 = nI n) (hw : ∀ c, c < n → σ 7 c = zmask (w c)) (hr : a = b ∨ wR w n b a = true) : zV mX3_close [.ref 32, .int (nI a), .int (nI b)] SH σ (fun t => XRing t (rgN w n a b) (rgF w n a b) ∧ FRX t σ) := by
  have v0 : vp_in (nI 0) 10 := vp_in_nI (by decide) (by decide)
  have vb : vp_in (nI b) 10 := vp_in_nI (by omega) (by decide)
  have eb : (nI b).toNatClampNeg = b := nI_clamp (by omega)
  refine zV_of (ls := [some (.ref 32), some (.int (nI a)), some (.int (nI b)), none, none]) (by decide) rfl rfl ?_
  refine za_aload_n (pc := 0) dX3_close_0 rfl ?_
  refine za_getR (pc := 1) dX3_close_1 lk_X3_9 rfl rfl ?_
  refine za_iconst (pc := 4) (0) dX3_close_4 (by decide) ?_
  refine za_iload_n (pc := 5) dX3_close_5 rfl ?_
  refine za_iast (pc := 6) dX3_close_6 rfl v0 ?_
  refine za_aload_n (pc := 7) dX3_close_7 rfl ?_
  refine za_iconst (pc := 8) (1) dX3_close_8 (by decide) ?_
  refine za_putI (pc := 9) dX3_close_9 lp_X3_18 rfl rfl ?_
  refine za_iload_n (pc := 12) dX3_close_12 rfl ?_
  refine za_iload_n (pc := 13) dX3_close_13 rfl ?_
  rw [show (0 : Int32).toNatClampNeg = 0 from rfl]
  obtain ⟨σ0, hσ0⟩ : ∃ σ0 : zSt, σ0 = zup (zup σ 33 0 (nI a)) 32 3 1 := ⟨_, rfl⟩
  rw [← hσ0]
  have f0 : ∀ d, d ≠ 32 → d ≠ 33 → σ0 d = σ d := fun d h1 h2 => by rw [hσ0, zup_n h1, zup_n h2]
  have f32 : ∀ i, i ≠ 3 → σ0 32 i = σ 32 i := fun i hi => by rw [hσ0, zup_b hi, zup_n (by decide)]
  have f3 : σ0 32 3 = nI 1 := by rw [hσ0, zup_a]; rfl
  have f33 : σ0 33 0 = nI a := by rw [hσ0, zup_n (by decide), zup_a]
  refine za_icmp_ne (pc := 14) 18 dX3_close_14 (by decide) (fun c14 => ?_) (fun c14 => ?_)
  · have hab : a ≠ b := fun e => c14 (by rw [e])
    have hr : wR w n b a = true := hr.elim (fun q => absurd q hab) id
    have hD := dst_ring hn hs ha hb hr
    refine za_aload_n (pc := 18) dX3_close_18 rfl ?_
    refine za_iload_n (pc := 19) dX3_close_19 rfl ?_
    refine za_cV1v (pc := 20) (μ' := mX3_measure) dX3_close_20 c_X3_26 rfl rfl rfl ⟨rfl, rfl⟩ ⟨rfl, rfl⟩ rfl rfl rfl (tX3_measure hn ha (by rw [f0 2 (by decide) (by decide)]; exact hj) (fun c hc => by rw [f0 7 (by decide) (by decide)]; exact hw c hc)) (fun t_20 h_20 => ?_)
    obtain ⟨q1, q2⟩ := h_20
    refine za_iload_n (pc := 23) dX3_close_23 rfl ?_
    refine za_is3n (pc := 24) dX3_close_24 rfl ?_
    refine za_aload_n (pc := 25) dX3_close_25 rfl ?_
    refine za_getR (pc := 26) dX3_close_26 lk_X3_15 rfl rfl ?_
    refine za_iload_n (pc := 29) dX3_close_29 rfl ?_
    refine za_iald (pc := 30) dX3_close_30 rfl vb ?_
    refine za_is4 (pc := 31) dX3_close_31 rfl ?_
    generalize hDD : dst w n a b = D at *
    have hrc : ∀ c, c < n → dst w n a c ≤ n - 1 → t_20 34 c = nI (dst w n a c) := fun c hc hd => by
      rw [q2 c (by omega), if_pos (nr_t.mpr ⟨hc, (dst_iff (by omega)).mpr hd⟩)]
    rw [eb, hrc b hb (by omega), hDD]
    have loop : ∀ (q j : Nat) (x : Int32) (σ1 : zSt), j + q = D → (j < D → x = nI (wk w n a b j)) → (∀ d, d ≠ 32 → d ≠ 33 → σ1 d = t_20 d) → (∀ i, i ≠ 3 → σ1 32 i = t_20 32 i) → σ1 32 3 = nI (1 + j) → (∀ k, k < 1 + j → σ1 33 k = rgF w n a b k) → zA (zZ mX3_close (zQV SH (fun t => XRing t (rgN w n a b) (rgF w n a b) ∧ FRX t σ))) mX3_close none 0 0 33 [some (.ref 32), some (.int (nI a)), some (.int (nI b)), some (.int x), some (.int (nI (D - j)))] [] SH σ1 := by
      intro q
      induction q with
      | zero =>
        intro j x σ1 hq hx g1 g2 g3 g4
        rw [show D - j = 0 by omega]
        refine za_iload (pc := 33) dX3_close_33 rfl ?_
        refine za_if_le (pc := 35) 83 dX3_close_35 (by decide) (fun c35 => ?_) (fun c35 => ?_)
        · refine za_rv (pc := 83) dX3_close_83 rfl rfl rfl ?_
          refine ⟨⟨?_, fun k hk => g4 k ?_⟩, fun d h1 h2 h3 => ?_, fun i hi => ?_⟩
          · rw [g3, rgN, hDD]; congr 1; omega
          · unfold rgN at hk; omega
          · rw [g1 d h1 h2, q1 d h3, f0 d h1 h2]
          · rw [g2 i hi, q1 32 (by decide), f32 i hi]
        · exact absurd (show nI 0 ≤ 0 by decide) c35
      | succ q ih =>
        intro j x σ1 hq hx g1 g2 g3 g4
        have hx := hx (by omega)
        obtain ⟨k1, k2⟩ := wk_spec hb hDD (by omega) j (by omega)
        have vs : vp_in (nI (1 + j)) 10 := vp_in_nI (by omega) (by decide)
        have es : (nI (1 + j)).toNatClampNeg = 1 + j := nI_clamp (by omega)
        refine za_iload (pc := 33) dX3_close_33 rfl ?_
        refine za_if_le (pc := 35) 83 dX3_close_35 (by decide) (fun c35 => ?_) (fun c35 => ?_)
        · exfalso
          have : nI (D - j) ≤ nI 0 := c35
          rw [nI_leI (by omega) (by omega)] at this
          omega
        refine za_aload_n (pc := 38) dX3_close_38 rfl ?_
        refine za_getI (pc := 39) dX3_close_39 lk_X3_18 rfl rfl ?_
        refine za_bipush (pc := 42) (10) dX3_close_42 (by decide) ?_
        rw [g3]
        refine za_icmp_ge (pc := 44) 83 dX3_close_44 (by decide) (fun c44 => ?_) (fun c44 => ?_)
        · exact absurd c44 (nI_ge (a := 1 + j) (b := 10) (by omega) (by omega))
        rw [hx]
        refine za_aload_n (pc := 47) dX3_close_47 rfl ?_
        refine za_getR (pc := 48) dX3_close_48 lk_X3_9 rfl rfl ?_
        refine za_aload_n (pc := 51) dX3_close_51 rfl ?_
        refine za_getI (pc := 52) dX3_close_52 lk_X3_18 rfl rfl ?_
        refine za_iload_n (pc := 55) dX3_close_55 rfl ?_
        rw [g3]
        refine za_iast (pc := 56) dX3_close_56 rfl vs ?_
        refine za_aload_n (pc := 57) dX3_close_57 rfl ?_
        refine za_dup (pc := 58) dX3_close_58 rfl ?_
        refine za_getI (pc := 59) dX3_close_59 lk_X3_18 rfl rfl ?_
        rw [zup_n (by decide), g3, es]
        refine za_iconst (pc := 62) (1) dX3_close_62 (by decide) ?_
        refine za_iadd (pc := 63) dX3_close_63 ?_
        refine za_putI (pc := 64) dX3_close_64 lp_X3_18 rfl rfl ?_
        refine za_aload_n (pc := 67) dX3_close_67 rfl ?_
        refine za_iload_n (pc := 68) dX3_close_68 rfl ?_
        refine za_iload (pc := 69) dX3_close_69 rfl ?_
        refine za_iconst (pc := 71) (1) dX3_close_71 (by decide) ?_
        refine za_isub (pc := 72) dX3_close_72 ?_
        rw [nI_1]
        obtain ⟨σ2, hσ2⟩ : ∃ σ2 : zSt, σ2 = zup (zup σ1 33 (1 + j) (nI (wk w n a b j))) 32 3 (nI (1 + j + 1)) := ⟨_, rfl⟩
        rw [← hσ2]
        have u1 : ∀ d, d ≠ 32 → d ≠ 33 → σ2 d = t_20 d := fun d h1 h2 => by rw [hσ2, zup_n h1, zup_n h2]; exact g1 d h1 h2
        have u2 : ∀ i, i ≠ 3 → σ2 32 i = t_20 32 i := fun i hi => by rw [hσ2, zup_b hi, zup_n (by decide)]; exact g2 i hi
        have u3 : σ2 32 3 = nI (1 + (j + 1)) := by rw [hσ2, zup_a]; rfl
        have u4 : ∀ k, k < 1 + (j + 1) → σ2 33 k = rgF w n a b k := fun k hk => by
          rw [hσ2, zup_n (by decide)]
          by_cases e : k = 1 + j
          · rw [e, zup_a]
            unfold rgF
            rw [if_neg (by omega)]
            congr 1
            rw [show 1 + j - 1 = j by omega]
          · rw [zup_b e]; exact g4 k (by omega)
        have e34 : ∀ i, σ2 34 i = t_20 34 i := fun i => by rw [u1 34 (by decide) (by decide)]
        have el : nI (D - j) - 1 = nI (D - (j + 1)) := by
          rw [show D - j = (D - (j + 1)) + 1 by omega, nI_pred]
        rw [el]
        refine za_cV2i (pc := 73) (μ' := mX3_firstNearer) dX3_close_73 c_X3_30 rfl rfl rfl ⟨rfl, rfl⟩ ⟨rfl, rfl⟩ rfl rfl rfl (tX3_firstNearer hn k1 (by rw [u1 2 (by decide) (by decide), q1 2 (by decide), f0 2 (by decide) (by decide)]; exact hj) (fun c hc => by rw [u1 7 (by decide) (by decide), q1 7 (by decide), f0 7 (by decide) (by decide)]; exact hw c hc)) (fun x_73 t_73 h_73 => ?_)
        obtain ⟨h9, r9⟩ := h_73
        subst h9
        refine za_is3n (pc := 76) dX3_close_76 rfl ?_
        refine za_ii4 (pc := 77) (-1) dX3_close_77 (by decide) rfl ?_
        refine za_goto (pc := 80) 33 dX3_close_80 (by decide) ?_
        rw [show nI (D - j) + (-1) = nI (D - (j + 1)) by rw [← el, Int32.sub_eq_add_neg]]
        refine ih (j + 1) _ _ (by omega) (fun hjD => ?_) u1 u2 u3 u4
        have ep : ∀ i, i < n → (w (wk w n a b j) i && decide (t_73 34 i = nI (D - (j + 1)))) = wkp w n a (wk w n a b j) i := by
          intro i hi
          unfold wkp
          congr 1
          rw [Bool.eq_iff_iff, decide_eq_true_eq, decide_eq_true_eq, e34 i, q2 i (by omega)]
          by_cases hr : nr w n a (n - 1) i = true
          · rw [if_pos hr]
            have := dst_le10 (w := w) (n := n) (a := a) (c := i)
            rw [nI_eq (by omega) (by omega)]
            omega
          · rw [if_neg hr]
            have h3 : ¬ dst w n a i ≤ n - 1 := fun q => hr (nr_t.mpr ⟨hi, (dst_iff (by omega)).mpr q⟩)
            constructor
            · intro q
              have : nI 0 = nI (D - (j + 1)) := q
              rw [nI_eq (by omega) (by omega)] at this
              omega
            · intro q
              omega
        obtain ⟨i, i1, i2, i3⟩ := wkp_ex (show dst w n a (wk w n a b j) = (D - j - 1) + 1 by omega) (by omega)
        rw [r9 ⟨i, i1, i2, by rw [ep i (by omega)]; exact i3⟩]
        congr 1
        show _ = lo (wkp w n a (wk w n a b j)) 0 n
        exact lo_cong (fun i _ hi => ep i (by omega))
    refine loop D 0 _ t_20 (by omega) (fun _ => rfl) (fun _ _ _ => rfl) (fun _ _ => rfl) ?_ ?_
    · rw [q1 32 (by decide), f3]
    · intro k hk
      have : k = 0 := by omega
      subst this
      rw [q1 33 (by decide), f33]
      rfl
  · have hab : a = b := (nI_eq (by omega) (by omega)).mp c14
    refine za_rv (pc := 17) dX3_close_17 rfl rfl rfl ?_
    have h0 : dst w n a b = 0 := dst_0.mpr hab.symm
    refine ⟨⟨?_, fun k hk => ?_⟩, fun d h1 h2 _ => f0 d h1 h2, f32⟩
    · rw [f3, rgN, h0]
    · unfold rgN at hk
      have : k = 0 := by omega
      subst this
      rw [f33]
      rfl
