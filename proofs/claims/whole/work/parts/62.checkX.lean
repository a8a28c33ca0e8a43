/-! check of both sides -/
def dayP (c : Core) (x : Int64) : Prop := ∀ a, a < cN c → 0 < hN x a ∧ (∀ b, b < cN c → cW c a b = true → hN x b < hN x a) ∧ cnt (fun b => decide (hN x b = hN x a)) (cN c) ≤ 2
def keepP (c : Core) (x : Int64) : Prop := ∀ a, a < cN c → (bN c a ≤ hN x a ∧ hN x a ≤ eN c a) ∧ ∀ b, b < a → ¬ (hN x b = hN x a ∧ sB c a b)
noncomputable def spCheck (c : Core) (x : Int64) : Int32 := if tb (dayP c x) = true then (if tb (keepP c x) = true then 2 else 1) else 0
theorem tX6_isDay {σ : zSt} {c : Core} {x : Int64} (hX : XCore σ c) (hc : cOk c) : zI mX6_isDay [.ref 0, .long x] SH σ (fun y t => ((y = 1 ∧ dayP c x) ∨ (y = 0 ∧ ¬ dayP c x)) ∧ t = σ) := by
  have hn := hc.1
  have hj := hX.1
  generalize hQ : (zQI SH (fun y t => ((y = 1 ∧ dayP c x) ∨ (y = 0 ∧ ¬ dayP c x)) ∧ t = σ)) = Q
  have yes : dayP c x → Q (some (.int 1)) SH σ := fun q => by rw [← hQ]; exact ⟨_, rfl, rfl, Or.inl ⟨rfl, q⟩, rfl⟩
  have no : ¬ dayP c x → Q (some (.int 0)) SH σ := fun q => by rw [← hQ]; exact ⟨_, rfl, rfl, Or.inr ⟨rfl, q⟩, rfl⟩
  have outer : ∀ (q a : Nat) (x4 x5 x6 x7 : Option Value), a + q = cN c → (∀ a', a' < a → 0 < hN x a' ∧ (∀ b, b < cN c → cW c a' b = true → hN x b < hN x a') ∧ cnt (fun b => decide (hN x b = hN x a')) (cN c) ≤ 2) → zA (zZ mX6_isDay Q) mX6_isDay none 0 0 2 [some (.ref 0), some (.long x), none, some (.int (nI a)), x4, x5, x6, x7] [] SH σ := by
    intro q
    induction q with
    | zero =>
      intro a x4 x5 x6 x7 ha hP
      have hy := yes (fun a' ha' => hP a' (by omega))
      rw [← hQ] at hy ⊢
      refine za_iload_n (pc := 2) dX6_isDay_2 rfl ?_
      refine za_aload_n (pc := 3) dX6_isDay_3 rfl ?_
      refine za_getR (pc := 4) dX6_isDay_4 lk_X6_18 rfl rfl ?_
      refine za_getI (pc := 7) dX6_isDay_7 lk_X6_98 rfl rfl ?_
      rw [hj]
      refine za_icmp_ge (pc := 10) 109 dX6_isDay_10 (by decide) (fun c10 => ?_) (fun c10 => ?_)
      · refine za_iconst (pc := 109) (1) dX6_isDay_109 (by decide) ?_
        refine za_rz (pc := 110) dX6_isDay_110 rfl rfl rfl rfl ?_
        obtain ⟨y, h1, h2, h3⟩ := hy
        cases h1
        exact h3
      · exact absurd (nI_le (show cN c ≤ a by omega) (by omega)) c10
    | succ q ih =>
      intro a x4 x5 x6 x7 ha hP
      have hac : a < cN c := by omega
      have va : vp_in (nI a) 10 := vp_in_nI (by omega) (by decide)
      have ea : (nI a).toNatClampNeg = a := nI_clamp (by omega)
      have l1 := hN_lt x a
      refine za_fg (ls' := [some (.ref 0), some (.long x), none, some (.int (nI a)), none, none, none, none]) (by simp [zSub]) ?_
      refine za_iload_n (pc := 2) dX6_isDay_2 rfl ?_
      refine za_aload_n (pc := 3) dX6_isDay_3 rfl ?_
      refine za_getR (pc := 4) dX6_isDay_4 lk_X6_18 rfl rfl ?_
      refine za_getI (pc := 7) dX6_isDay_7 lk_X6_98 rfl rfl ?_
      rw [hj]
      refine za_icmp_ge (pc := 10) 109 dX6_isDay_10 (by decide) (fun c10 => ?_) (fun c10 => ?_)
      · exact absurd c10 (nI_ge hac (by omega))
      refine za_lload_n (pc := 13) dX6_isDay_13 rfl ?_
      refine za_iload_n (pc := 14) dX6_isDay_14 rfl ?_
      refine za_cS2i (pc := 15) (μ' := mX6_hourIn) dX6_isDay_15 c_X6_228 rfl ⟨rfl, rfl⟩ ⟨rfl, rfl⟩ rfl rfl rfl (tX6_hourIn (x := x) (a := a) (by omega)) (fun x_15 t_15 h_15 => ?_)
      obtain ⟨rfl, h9⟩ := h_15
      have h9 := h9.symm
      subst h9
      refine za_is4 (pc := 18) dX6_isDay_18 rfl ?_
      refine za_iload (pc := 20) dX6_isDay_20 rfl ?_
      refine za_if_ne (pc := 22) 27 dX6_isDay_22 (by decide) (fun c22 => ?_) (fun c22 => ?_)
      · have hpos : 0 < hN x a := by
          rcases Nat.eq_zero_or_pos (hN x a) with e | e
          · exact absurd (by rw [e]; rfl) c22
          · exact e
        have inner : ∀ (q b : Nat) (x7 : Option Value), b + q = cN c → (∀ b', b' < b → cW c a b' = true → hN x b' < hN x a) → zA (zZ mX6_isDay Q) mX6_isDay none 0 0 33 [some (.ref 0), some (.long x), none, some (.int (nI a)), some (.int (nI (hN x a))), some (.int (nI (cnt (fun b => decide (hN x b = hN x a)) b))), some (.int (nI b)), x7] [] SH σ := by
          intro q
          induction q with
          | zero =>
            intro b x7 hb hW
            have eb : b = cN c := by omega
            subst eb
            have hcn := cnt_le (fun b => decide (hN x b = hN x a)) (cN c)
            have hno := no
            refine za_iload (pc := 33) dX6_isDay_33 rfl ?_
            refine za_aload_n (pc := 35) dX6_isDay_35 rfl ?_
            refine za_getR (pc := 36) dX6_isDay_36 lk_X6_18 rfl rfl ?_
            refine za_getI (pc := 39) dX6_isDay_39 lk_X6_98 rfl rfl ?_
            rw [hj]
            refine za_icmp_ge (pc := 42) 95 dX6_isDay_42 (by decide) (fun c42 => ?_) (fun c42 => ?_)
            · refine za_iload (pc := 95) dX6_isDay_95 rfl ?_
              refine za_iconst (pc := 97) (2) dX6_isDay_97 (by decide) ?_
              refine za_icmp_le (pc := 98) 103 dX6_isDay_98 (by decide) (fun c98 => ?_) (fun c98 => ?_)
              · have c98 : nI (cnt (fun b => decide (hN x b = hN x a)) (cN c)) ≤ nI 2 := c98
                rw [nI_leI (by omega) (by decide)] at c98
                refine za_ii3 (pc := 103) (1) dX6_isDay_103 (by decide) rfl ?_
                refine za_goto (pc := 106) 2 dX6_isDay_106 (by decide) ?_
                rw [nI_1]
                refine ih (a + 1) _ _ _ _ (by omega) (fun a' ha' => ?_)
                rcases Nat.lt_or_eq_of_le (Nat.le_of_lt_succ ha') with e | e
                · exact hP a' e
                · rw [e]; exact ⟨hpos, hW, c98⟩
              · have c98 : ¬ nI (cnt (fun b => decide (hN x b = hN x a)) (cN c)) ≤ nI 2 := c98
                rw [nI_leI (by omega) (by decide)] at c98
                have hy := no (fun q => c98 (q a hac).2.2)
                rw [← hQ] at hy ⊢
                refine za_iconst (pc := 101) (0) dX6_isDay_101 (by decide) ?_
                refine za_rz (pc := 102) dX6_isDay_102 rfl rfl rfl rfl ?_
                obtain ⟨y, h1, h2, h3⟩ := hy
                cases h1
                exact h3
            · exact absurd (nI_le (Nat.le_refl (cN c)) (by omega)) c42
          | succ q ih2 =>
            intro b x7 hb hW
            have hbc : b < cN c := by omega
            have l2 := hN_lt x b
            have next : ∀ (k : Nat) (x7 : Option Value), k = cnt (fun b => decide (hN x b = hN x a)) (b + 1) → (cW c a b = true → hN x b < hN x a) → zA (zZ mX6_isDay Q) mX6_isDay none 0 0 89 [some (.ref 0), some (.long x), none, some (.int (nI a)), some (.int (nI (hN x a))), some (.int (nI k)), some (.int (nI b)), x7] [] SH σ := by
              intro k x7 hk hw
              refine za_ii6 (pc := 89) (1) dX6_isDay_89 (by decide) rfl ?_
              refine za_goto (pc := 92) 33 dX6_isDay_92 (by decide) ?_
              rw [nI_1, hk]
              refine ih2 (b + 1) x7 (by omega) (fun b' hb' hw' => ?_)
              rcases Nat.lt_or_eq_of_le (Nat.le_of_lt_succ hb') with e | e
              · exact hW b' e hw'
              · rw [e] at hw' ⊢; exact hw hw'
            have at63 : ∀ (k : Nat), k = cnt (fun b => decide (hN x b = hN x a)) (b + 1) → zA (zZ mX6_isDay Q) mX6_isDay none 0 0 63 [some (.ref 0), some (.long x), none, some (.int (nI a)), some (.int (nI (hN x a))), some (.int (nI k)), some (.int (nI b)), some (.int (nI (hN x b)))] [] SH σ := by
              intro k hk
              refine za_aload_n (pc := 63) dX6_isDay_63 rfl ?_
              refine za_getR (pc := 64) dX6_isDay_64 lk_X6_18 rfl rfl ?_
              refine za_getR (pc := 67) dX6_isDay_67 lk_X6_141 rfl rfl ?_
              refine za_iload_n (pc := 70) dX6_isDay_70 rfl ?_
              refine za_iald (pc := 71) dX6_isDay_71 rfl va ?_
              refine za_iload (pc := 72) dX6_isDay_72 rfl ?_
              refine za_cS2i (pc := 74) (μ' := mX6_holds) dX6_isDay_74 c_X6_181 rfl ⟨rfl, rfl⟩ ⟨rfl, rfl⟩ rfl rfl rfl (tX6_holds) (fun x_74 t_74 h_74 => ?_)
              obtain ⟨rfl, h9⟩ := h_74
              have h9 := h9.symm
              subst h9
              rw [ea, (hX.2.1 a hac).2.2.2.2]
              cases hw : cW c a b with
              | false =>
                rw [if_pos ((zm_h (by omega)).mpr hw)]
                refine za_if_eq (pc := 77) 89 dX6_isDay_77 (by decide) (fun c77 => ?_) (fun c77 => ?_)
                · exact next k _ hk (fun q => by cases hw.symm.trans q)
                · exact absurd rfl c77
              | true =>
                rw [if_neg (fun e => by rw [zm_h (by omega)] at e; rw [hw] at e; cases e)]
                refine za_if_eq (pc := 77) 89 dX6_isDay_77 (by decide) (fun c77 => ?_) (fun c77 => ?_)
                · exact absurd c77 (by decide)
                refine za_iload (pc := 80) dX6_isDay_80 rfl ?_
                refine za_iload (pc := 82) dX6_isDay_82 rfl ?_
                refine za_icmp_lt (pc := 84) 89 dX6_isDay_84 (by decide) (fun c84 => ?_) (fun c84 => ?_)
                · rw [nI_ltI (by omega) (by omega)] at c84
                  exact next k _ hk (fun _ => c84)
                · rw [nI_ltI (by omega) (by omega)] at c84
                  have hy := no (fun q => c84 ((q a hac).2.1 b hbc hw))
                  rw [← hQ] at hy ⊢
                  refine za_iconst (pc := 87) (0) dX6_isDay_87 (by decide) ?_
                  refine za_rz (pc := 88) dX6_isDay_88 rfl rfl rfl rfl ?_
                  obtain ⟨y, h1, h2, h3⟩ := hy
                  cases h1
                  exact h3
            refine za_fg (ls' := [some (.ref 0), some (.long x), none, some (.int (nI a)), some (.int (nI (hN x a))), some (.int (nI (cnt (fun b => decide (hN x b = hN x a)) b))), some (.int (nI b)), none]) (by simp [zSub]) ?_
            refine za_iload (pc := 33) dX6_isDay_33 rfl ?_
            refine za_aload_n (pc := 35) dX6_isDay_35 rfl ?_
            refine za_getR (pc := 36) dX6_isDay_36 lk_X6_18 rfl rfl ?_
            refine za_getI (pc := 39) dX6_isDay_39 lk_X6_98 rfl rfl ?_
            rw [hj]
            refine za_icmp_ge (pc := 42) 95 dX6_isDay_42 (by decide) (fun c42 => ?_) (fun c42 => ?_)
            · exact absurd c42 (nI_ge hbc (by omega))
            refine za_lload_n (pc := 45) dX6_isDay_45 rfl ?_
            refine za_iload (pc := 46) dX6_isDay_46 rfl ?_
            refine za_cS2i (pc := 48) (μ' := mX6_hourIn) dX6_isDay_48 c_X6_228 rfl ⟨rfl, rfl⟩ ⟨rfl, rfl⟩ rfl rfl rfl (tX6_hourIn (x := x) (a := b) (by omega)) (fun x_48 t_48 h_48 => ?_)
            obtain ⟨rfl, h9⟩ := h_48
            have h9 := h9.symm
            subst h9
            refine za_is7 (pc := 51) dX6_isDay_51 rfl ?_
            refine za_iload (pc := 53) dX6_isDay_53 rfl ?_
            refine za_iload (pc := 55) dX6_isDay_55 rfl ?_
            refine za_icmp_ne (pc := 57) 63 dX6_isDay_57 (by decide) (fun c57 => ?_) (fun c57 => ?_)
            · rw [nI_eq (by omega) (by omega)] at c57
              exact at63 _ (cnt_f (p := fun b => decide (hN x b = hN x a)) (decide_eq_false c57)).symm
            · rw [nI_eq (by omega) (by omega)] at c57
              refine za_ii5 (pc := 60) (1) dX6_isDay_60 (by decide) rfl ?_
              rw [nI_1]
              exact at63 _ (cnt_t (p := fun b => decide (hN x b = hN x a)) (decide_eq_true c57)).symm
        refine za_iconst (pc := 27) (0) dX6_isDay_27 (by decide) ?_
        refine za_is5 (pc := 28) dX6_isDay_28 rfl ?_
        refine za_iconst (pc := 30) (0) dX6_isDay_30 (by decide) ?_
        refine za_is6 (pc := 31) dX6_isDay_31 rfl ?_
        exact inner (cN c) 0 _ (by omega) (fun b' hb' => by omega)
      · have hz : hN x a = 0 := (nI_eq (by omega) (by decide)).mp (show nI (hN x a) = nI 0 from c22)
        have hy := no (fun q => by have := (q a hac).1; omega)
        rw [← hQ] at hy ⊢
        refine za_iconst (pc := 25) (0) dX6_isDay_25 (by decide) ?_
        refine za_rz (pc := 26) dX6_isDay_26 rfl rfl rfl rfl ?_
        obtain ⟨y, h1, h2, h3⟩ := hy
        cases h1
        exact h3
  refine zI_of (ls := [some (.ref 0), some (.long x), none, none, none, none, none, none]) (by decide) rfl rfl ?_
  rw [hQ]
  refine za_iconst (pc := 0) (0) dX6_isDay_0 (by decide) ?_
  refine za_is3n (pc := 1) dX6_isDay_1 rfl ?_
  exact outer (cN c) 0 _ _ _ _ (by omega) (fun a' ha' => by omega)
theorem tX6_keepsToKinds {σ : zSt} {c : Core} {x : Int64} (hX : XCore σ c) (hc : cOk c) : zI mX6_keepsToKinds [.ref 0, .long x] SH σ (fun y t => ((y = 1 ∧ keepP c x) ∨ (y = 0 ∧ ¬ keepP c x)) ∧ t = σ) := by
  have hn := hc.1
  have hj := hX.1
  generalize hQ : (zQI SH (fun y t => ((y = 1 ∧ keepP c x) ∨ (y = 0 ∧ ¬ keepP c x)) ∧ t = σ)) = Q
  have yes : keepP c x → Q (some (.int 1)) SH σ := fun q => by rw [← hQ]; exact ⟨_, rfl, rfl, Or.inl ⟨rfl, q⟩, rfl⟩
  have no : ¬ keepP c x → Q (some (.int 0)) SH σ := fun q => by rw [← hQ]; exact ⟨_, rfl, rfl, Or.inr ⟨rfl, q⟩, rfl⟩
  have outer : ∀ (q a : Nat) (x4 x5 : Option Value), a + q = cN c → (∀ a', a' < a → (bN c a' ≤ hN x a' ∧ hN x a' ≤ eN c a') ∧ ∀ b, b < a' → ¬ (hN x b = hN x a' ∧ sB c a' b)) → zA (zZ mX6_keepsToKinds Q) mX6_keepsToKinds none 0 0 2 [some (.ref 0), some (.long x), none, some (.int (nI a)), x4, x5] [] SH σ := by
    intro q
    induction q with
    | zero =>
      intro a x4 x5 ha hP
      have hy := yes (fun a' ha' => hP a' (by omega))
      rw [← hQ] at hy ⊢
      refine za_iload_n (pc := 2) dX6_keepsToKinds_2 rfl ?_
      refine za_aload_n (pc := 3) dX6_keepsToKinds_3 rfl ?_
      refine za_getR (pc := 4) dX6_keepsToKinds_4 lk_X6_18 rfl rfl ?_
      refine za_getI (pc := 7) dX6_keepsToKinds_7 lk_X6_98 rfl rfl ?_
      rw [hj]
      refine za_icmp_ge (pc := 10) 97 dX6_keepsToKinds_10 (by decide) (fun c10 => ?_) (fun c10 => ?_)
      · refine za_iconst (pc := 97) (1) dX6_keepsToKinds_97 (by decide) ?_
        refine za_rz (pc := 98) dX6_keepsToKinds_98 rfl rfl rfl rfl ?_
        obtain ⟨y, h1, h2, h3⟩ := hy
        cases h1
        exact h3
      · exact absurd (nI_le (show cN c ≤ a by omega) (by omega)) c10
    | succ q ih =>
      intro a x4 x5 ha hP
      have hac : a < cN c := by omega
      have va : vp_in (nI a) 11 := vp_in_nI (by omega) (by decide)
      have ea : (nI a).toNatClampNeg = a := nI_clamp (by omega)
      have l1 := hN_lt x a
      obtain ⟨a3, a4, a5, a6, a7, a8⟩ := X_bE hX hc (Or.inr hac)
      have out : ∀ (x5 : Option Value), ¬ keepP c x → zA (zZ mX6_keepsToKinds Q) mX6_keepsToKinds none 0 0 48 [some (.ref 0), some (.long x), none, some (.int (nI a)), some (.int (nI (hN x a))), x5] [] SH σ := by
        intro x5 hno
        have hy := no hno
        rw [← hQ] at hy ⊢
        refine za_iconst (pc := 48) (0) dX6_keepsToKinds_48 (by decide) ?_
        refine za_rz (pc := 49) dX6_keepsToKinds_49 rfl rfl rfl rfl ?_
        obtain ⟨y, h1, h2, h3⟩ := hy
        cases h1
        exact h3
      refine za_fg (ls' := [some (.ref 0), some (.long x), none, some (.int (nI a)), none, none]) (by simp [zSub]) ?_
      refine za_iload_n (pc := 2) dX6_keepsToKinds_2 rfl ?_
      refine za_aload_n (pc := 3) dX6_keepsToKinds_3 rfl ?_
      refine za_getR (pc := 4) dX6_keepsToKinds_4 lk_X6_18 rfl rfl ?_
      refine za_getI (pc := 7) dX6_keepsToKinds_7 lk_X6_98 rfl rfl ?_
      rw [hj]
      refine za_icmp_ge (pc := 10) 97 dX6_keepsToKinds_10 (by decide) (fun c10 => ?_) (fun c10 => ?_)
      · exact absurd c10 (nI_ge hac (by omega))
      refine za_lload_n (pc := 13) dX6_keepsToKinds_13 rfl ?_
      refine za_iload_n (pc := 14) dX6_keepsToKinds_14 rfl ?_
      refine za_cS2i (pc := 15) (μ' := mX6_hourIn) dX6_keepsToKinds_15 c_X6_228 rfl ⟨rfl, rfl⟩ ⟨rfl, rfl⟩ rfl rfl rfl (tX6_hourIn (x := x) (a := a) (by omega)) (fun x_15 t_15 h_15 => ?_)
      obtain ⟨rfl, h9⟩ := h_15
      have h9 := h9.symm
      subst h9
      refine za_is4 (pc := 18) dX6_keepsToKinds_18 rfl ?_
      refine za_iload (pc := 20) dX6_keepsToKinds_20 rfl ?_
      refine za_aload_n (pc := 22) dX6_keepsToKinds_22 rfl ?_
      refine za_getR (pc := 23) dX6_keepsToKinds_23 lk_X6_18 rfl rfl ?_
      refine za_getR (pc := 26) dX6_keepsToKinds_26 lk_X6_232 rfl rfl ?_
      refine za_iload_n (pc := 29) dX6_keepsToKinds_29 rfl ?_
      refine za_iald (pc := 30) dX6_keepsToKinds_30 rfl va ?_
      rw [ea, a3]
      refine za_icmp_lt (pc := 31) 48 dX6_keepsToKinds_31 (by decide) (fun c31 => ?_) (fun c31 => ?_)
      · rw [nI_ltI (by omega) (by omega)] at c31
        exact out _ (fun q => by have := (q a hac).1; omega)
      rw [nI_ltI (by omega) (by omega)] at c31
      refine za_iload (pc := 34) dX6_keepsToKinds_34 rfl ?_
      refine za_aload_n (pc := 36) dX6_keepsToKinds_36 rfl ?_
      refine za_getR (pc := 37) dX6_keepsToKinds_37 lk_X6_18 rfl rfl ?_
      refine za_getR (pc := 40) dX6_keepsToKinds_40 lk_X6_235 rfl rfl ?_
      refine za_iload_n (pc := 43) dX6_keepsToKinds_43 rfl ?_
      refine za_iald (pc := 44) dX6_keepsToKinds_44 rfl va ?_
      rw [ea, a4]
      refine za_icmp_le (pc := 45) 50 dX6_keepsToKinds_45 (by decide) (fun c45 => ?_) (fun c45 => ?_)
      · rw [nI_leI (by omega) (by omega)] at c45
        have inner : ∀ (q b : Nat), b + q = a → (∀ b', b' < b → ¬ (hN x b' = hN x a ∧ sB c a b')) → zA (zZ mX6_keepsToKinds Q) mX6_keepsToKinds none 0 0 53 [some (.ref 0), some (.long x), none, some (.int (nI a)), some (.int (nI (hN x a))), some (.int (nI b))] [] SH σ := by
          intro q
          induction q with
          | zero =>
            intro b hb hW
            refine za_iload (pc := 53) dX6_keepsToKinds_53 rfl ?_
            refine za_iload_n (pc := 55) dX6_keepsToKinds_55 rfl ?_
            refine za_icmp_ge (pc := 56) 91 dX6_keepsToKinds_56 (by decide) (fun c56 => ?_) (fun c56 => ?_)
            · refine za_ii3 (pc := 91) (1) dX6_keepsToKinds_91 (by decide) rfl ?_
              refine za_goto (pc := 94) 2 dX6_keepsToKinds_94 (by decide) ?_
              rw [nI_1]
              refine ih (a + 1) _ _ (by omega) (fun a' ha' => ?_)
              rcases Nat.lt_or_eq_of_le (Nat.le_of_lt_succ ha') with e | e
              · exact hP a' e
              · rw [e]; exact ⟨⟨by omega, by omega⟩, fun b' hb' => hW b' (by omega)⟩
            · exact absurd (nI_le (show a ≤ b by omega) (by omega)) c56
          | succ q ih2 =>
            intro b hb hW
            have hbc : b < cN c := by omega
            have l2 := hN_lt x b
            have next : ¬ (hN x b = hN x a ∧ sB c a b) → zA (zZ mX6_keepsToKinds Q) mX6_keepsToKinds none 0 0 85 [some (.ref 0), some (.long x), none, some (.int (nI a)), some (.int (nI (hN x a))), some (.int (nI b))] [] SH σ := by
              intro hw
              refine za_ii5 (pc := 85) (1) dX6_keepsToKinds_85 (by decide) rfl ?_
              refine za_goto (pc := 88) 53 dX6_keepsToKinds_88 (by decide) ?_
              rw [nI_1]
              refine ih2 (b + 1) (by omega) (fun b' hb' => ?_)
              rcases Nat.lt_or_eq_of_le (Nat.le_of_lt_succ hb') with e | e
              · exact hW b' e
              · rw [e]; exact hw
            refine za_iload (pc := 53) dX6_keepsToKinds_53 rfl ?_
            refine za_iload_n (pc := 55) dX6_keepsToKinds_55 rfl ?_
            refine za_icmp_ge (pc := 56) 91 dX6_keepsToKinds_56 (by decide) (fun c56 => ?_) (fun c56 => ?_)
            · exact absurd c56 (nI_ge (show b < a by omega) (by omega))
            refine za_lload_n (pc := 59) dX6_keepsToKinds_59 rfl ?_
            refine za_iload (pc := 60) dX6_keepsToKinds_60 rfl ?_
            refine za_cS2i (pc := 62) (μ' := mX6_hourIn) dX6_keepsToKinds_62 c_X6_228 rfl ⟨rfl, rfl⟩ ⟨rfl, rfl⟩ rfl rfl rfl (tX6_hourIn (x := x) (a := b) (by omega)) (fun x_62 t_62 h_62 => ?_)
            obtain ⟨rfl, h9⟩ := h_62
            have h9 := h9.symm
            subst h9
            refine za_iload (pc := 65) dX6_keepsToKinds_65 rfl ?_
            refine za_icmp_ne (pc := 67) 85 dX6_keepsToKinds_67 (by decide) (fun c67 => ?_) (fun c67 => ?_)
            · rw [nI_eq (by omega) (by omega)] at c67
              exact next (fun q => c67 q.1)
            rw [nI_eq (by omega) (by omega)] at c67
            refine za_aload_n (pc := 70) dX6_keepsToKinds_70 rfl ?_
            refine za_getR (pc := 71) dX6_keepsToKinds_71 lk_X6_18 rfl rfl ?_
            refine za_iload_n (pc := 74) dX6_keepsToKinds_74 rfl ?_
            refine za_iload (pc := 75) dX6_keepsToKinds_75 rfl ?_
            refine za_cV2i (pc := 77) (μ' := mX5_ownedAlike) dX6_keepsToKinds_77 c_X6_238 rfl rfl rfl ⟨rfl, rfl⟩ ⟨rfl, rfl⟩ rfl rfl rfl (tX5_ownedAlike hX hn hac hbc) (fun x_77 t_77 h_77 => ?_)
            obtain ⟨o1, o2⟩ := h_77
            have o2 := o2.symm
            subst o2
            rcases o1 with ⟨rfl, hsb⟩ | ⟨rfl, hsb⟩
            · refine za_if_eq (pc := 80) 85 dX6_keepsToKinds_80 (by decide) (fun c80 => ?_) (fun c80 => ?_)
              · exact absurd c80 (by decide)
              · have hy := no (fun q => (q a hac).2 b (by omega) ⟨c67, hsb⟩)
                rw [← hQ] at hy ⊢
                refine za_iconst (pc := 83) (0) dX6_keepsToKinds_83 (by decide) ?_
                refine za_rz (pc := 84) dX6_keepsToKinds_84 rfl rfl rfl rfl ?_
                obtain ⟨y, h1, h2, h3⟩ := hy
                cases h1
                exact h3
            · refine za_if_eq (pc := 80) 85 dX6_keepsToKinds_80 (by decide) (fun c80 => ?_) (fun c80 => ?_)
              · exact next (fun q => hsb q.2)
              · exact absurd rfl c80
        refine za_iconst (pc := 50) (0) dX6_keepsToKinds_50 (by decide) ?_
        refine za_is5 (pc := 51) dX6_keepsToKinds_51 rfl ?_
        exact inner a 0 (by omega) (fun b' hb' => by omega)
      · rw [nI_leI (by omega) (by omega)] at c45
        exact out _ (fun q => by have := (q a hac).1; omega)
  refine zI_of (ls := [some (.ref 0), some (.long x), none, none, none, none]) (by decide) rfl rfl ?_
  rw [hQ]
  refine za_iconst (pc := 0) (0) dX6_keepsToKinds_0 (by decide) ?_
  refine za_is3n (pc := 1) dX6_keepsToKinds_1 rfl ?_
  exact outer (cN c) 0 _ _ (by omega) (fun a' ha' => by omega)
theorem tX6_check {σ : zSt} {c : Core} {x : Int64} (hX : XCore σ c) (hc : cOk c) : zI mX6_check [.ref 0, .long x] SH σ (fun y t => y = spCheck c x ∧ t = σ) := by
  refine zI_of (ls := [some (.ref 0), some (.long x), none]) (by decide) rfl rfl ?_
  refine za_aload_n (pc := 0) dX6_check_0 rfl ?_
  refine za_lload_n (pc := 1) dX6_check_1 rfl ?_
  refine za_cV1i (pc := 2) (μ' := mX6_isDay) dX6_check_2 c_X6_208 rfl rfl rfl ⟨rfl, rfl⟩ ⟨rfl, rfl⟩ rfl rfl rfl (tX6_isDay hX hc) (fun x_2 t_2 h_2 => ?_)
  obtain ⟨o1, o2⟩ := h_2
  have o2 := o2.symm
  subst o2
  rcases o1 with ⟨rfl, hd⟩ | ⟨rfl, hd⟩
  · refine za_if_ne (pc := 5) 10 dX6_check_5 (by decide) (fun c5 => ?_) (fun c5 => ?_)
    · refine za_aload_n (pc := 10) dX6_check_10 rfl ?_
      refine za_lload_n (pc := 11) dX6_check_11 rfl ?_
      refine za_cV1i (pc := 12) (μ' := mX6_keepsToKinds) dX6_check_12 c_X6_212 rfl rfl rfl ⟨rfl, rfl⟩ ⟨rfl, rfl⟩ rfl rfl rfl (tX6_keepsToKinds hX hc) (fun x_12 t_12 h_12 => ?_)
      obtain ⟨o1, o2⟩ := h_12
      have o2 := o2.symm
      subst o2
      rcases o1 with ⟨rfl, hk⟩ | ⟨rfl, hk⟩
      · refine za_if_eq (pc := 15) 22 dX6_check_15 (by decide) (fun c15 => ?_) (fun c15 => ?_)
        · exact absurd c15 (by decide)
        · refine za_iconst (pc := 18) (2) dX6_check_18 (by decide) ?_
          refine za_goto (pc := 19) 23 dX6_check_19 (by decide) ?_
          refine za_ri (pc := 23) dX6_check_23 rfl rfl rfl ?_
          exact ⟨by unfold spCheck; rw [if_pos (tb_t.mpr hd), if_pos (tb_t.mpr hk)], rfl⟩
      · refine za_if_eq (pc := 15) 22 dX6_check_15 (by decide) (fun c15 => ?_) (fun c15 => ?_)
        · refine za_iconst (pc := 22) (1) dX6_check_22 (by decide) ?_
          refine za_ri (pc := 23) dX6_check_23 rfl rfl rfl ?_
          exact ⟨by unfold spCheck; rw [if_pos (tb_t.mpr hd), if_neg (by rw [tb_f.mpr hk]; decide)], rfl⟩
        · exact absurd rfl c15
    · exact absurd c5 (by decide)
  · refine za_if_ne (pc := 5) 10 dX6_check_5 (by decide) (fun c5 => ?_) (fun c5 => ?_)
    · exact absurd rfl c5
    · refine za_iconst (pc := 8) (0) dX6_check_8 (by decide) ?_
      refine za_ri (pc := 9) dX6_check_9 rfl rfl rfl ?_
      exact ⟨by unfold spCheck; rw [if_neg (by rw [tb_f.mpr hd]; decide)], rfl⟩
