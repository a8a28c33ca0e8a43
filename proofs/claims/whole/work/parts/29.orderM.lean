/-! NEXT, BEHIND of the reference -/
/-- those of s BEHIND b -/
def fls (n : Nat) (r : Nat → Nat → Bool) (s : Nat → Bool) (b : Nat) : Nat → Bool := fun a => (decide (a < n) && s a) && r a b
/-- those of s NEXT behind b, in s -/
def nxs (n : Nat) (r : Nat → Nat → Bool) (s : Nat → Bool) (b : Nat) : Nat → Bool := fun a => fls n r s b a && !anyb (fun i => r a i && fls n r s b i) 16
theorem nxs_all {n : Nat} {r : Nat → Nat → Bool} (b : Nat) : nxs n r (fun i => decide (i < n)) b = nxt n r b := by
  have e : fls n r (fun i => decide (i < n)) b = flw n r b := by
    funext a
    unfold fls flw
    by_cases h : a < n <;> simp [h]
  unfold nxs nxt
  rw [e]
theorem tX7_nextOf {σ : zSt} {n b : Nat} {r : Nat → Nat → Bool} {s : Nat → Bool} (hn : n ≤ 10) (hb : b < n) (hj : σ 47 3 = nI n) (hr : ∀ a, a < n → σ 59 a = zmask (r a)) : zI mX7_nextOf [.ref 47, .int (nI b), .int (zmask s)] SH σ (fun x t => x = zmask (nxs n r s b) ∧ t = σ) := by
  refine zI_of (ls := [some (.ref 47), some (.int (nI b)), some (.int (zmask s)), none, none, none]) (by decide) rfl rfl ?_
  refine za_iconst (pc := 0) (0) dX7_nextOf_0 (by decide) ?_
  refine za_is3n (pc := 1) dX7_nextOf_1 rfl ?_
  refine za_iconst (pc := 2) (0) dX7_nextOf_2 (by decide) ?_
  refine za_is4 (pc := 3) dX7_nextOf_3 rfl ?_
  have loop2 : ∀ (q a : Nat), a + q = n → zA (zZ mX7_nextOf (zQI SH (fun x t => x = zmask (nxs n r s b) ∧ t = σ))) mX7_nextOf none 0 0 57 [some (.ref 47), some (.int (nI b)), some (.int (zmask s)), some (.int (zmask (fls n r s b))), some (.int (zmask (fun x => decide (x < a) && nxs n r s b x))), some (.int (nI a))] [] SH σ := by
    intro q
    induction q with
    | zero =>
      intro a ha
      refine za_iload (pc := 57) dX7_nextOf_57 rfl ?_
      refine za_aload_n (pc := 59) dX7_nextOf_59 rfl ?_
      refine za_getI (pc := 60) dX7_nextOf_60 lk_X7_91 rfl rfl ?_
      rw [hj]
      refine za_icmp_ge (pc := 63) 107 dX7_nextOf_63 (by decide) (fun c5 => ?_) (fun c5 => ?_)
      · refine za_iload (pc := 107) dX7_nextOf_107 rfl ?_
        refine za_ri (pc := 109) dX7_nextOf_109 rfl rfl rfl ?_
        refine ⟨zm_cong (fun x _ => ?_), rfl⟩
        unfold nxs fls
        by_cases hx : x < a
        · simp [hx]
        · simp [hx, show ¬ x < n by omega]
      · exact absurd (nI_le (show n ≤ a by omega) (by omega)) c5
    | succ q ih =>
      intro a ha
      have va : vp_in (nI a) 10 := vp_in_nI (by omega) (by decide)
      have ea : (nI a).toNatClampNeg = a := nI_clamp (by omega)
      have step : ∀ x : Int32, x = (if nxs n r s b a = true then zmask (fun i => decide (i = a)) else 0) → zA (zZ mX7_nextOf (zQI SH (fun x t => x = zmask (nxs n r s b) ∧ t = σ))) mX7_nextOf none 0 0 98 [some (.ref 47), some (.int (nI b)), some (.int (zmask s)), some (.int (zmask (fls n r s b))), some (.int (zmask (fun x => decide (x < a) && nxs n r s b x))), some (.int (nI a))] [.int x, .int (zmask (fun x => decide (x < a) && nxs n r s b x))] SH σ := by
        intro x hx
        refine za_ior (pc := 98) dX7_nextOf_98 ?_
        refine za_is4 (pc := 99) dX7_nextOf_99 rfl ?_
        refine za_ii5 (pc := 101) (1) dX7_nextOf_101 (by decide) rfl ?_
        refine za_goto (pc := 104) 57 dX7_nextOf_104 (by decide) ?_
        rw [nI_1]
        have em : zmask (fun x => decide (x < a) && nxs n r s b x) ||| x = zmask (fun x => decide (x < a + 1) && nxs n r s b x) := by
          rw [hx]
          by_cases h : nxs n r s b a = true
          · rw [if_pos h, zm_or]
            apply zm_cong
            intro i _
            by_cases e : i = a
            · rw [e]; simp [h]
            · simp [e]; congr 1; simp; omega
          · rw [if_neg h, ← zm_0, zm_or]
            apply zm_cong
            intro i _
            by_cases e : i = a
            · rw [e]; simp at h; simp [h]
            · simp; congr 1; simp; omega
        rw [em]
        exact ih (a + 1) (by omega)
      refine za_iload (pc := 57) dX7_nextOf_57 rfl ?_
      refine za_aload_n (pc := 59) dX7_nextOf_59 rfl ?_
      refine za_getI (pc := 60) dX7_nextOf_60 lk_X7_91 rfl rfl ?_
      rw [hj]
      refine za_icmp_ge (pc := 63) 107 dX7_nextOf_63 (by decide) (fun c5 => ?_) (fun c5 => ?_)
      · exact absurd c5 (nI_ge (show a < n by omega) (by omega))
      · refine za_iload (pc := 66) dX7_nextOf_66 rfl ?_
        refine za_iload_n (pc := 68) dX7_nextOf_68 rfl ?_
        refine za_iload (pc := 69) dX7_nextOf_69 rfl ?_
        refine za_ishr (pc := 71) dX7_nextOf_71 ?_
        refine za_iconst (pc := 72) (1) dX7_nextOf_72 (by decide) ?_
        refine za_iand (pc := 73) dX7_nextOf_73 ?_
        refine za_iconst (pc := 74) (1) dX7_nextOf_74 (by decide) ?_
        rw [zm_sr (by omega)]
        by_cases h1 : fls n r s b a = true
        · rw [if_pos h1]
          refine za_icmp_ne (pc := 75) 97 dX7_nextOf_75 (by decide) (fun c75 => ?_) (fun c75 => ?_)
          · exact absurd rfl c75
          refine za_aload_n (pc := 78) dX7_nextOf_78 rfl ?_
          refine za_getR (pc := 79) dX7_nextOf_79 lk_X7_43 rfl rfl ?_
          refine za_iload (pc := 82) dX7_nextOf_82 rfl ?_
          refine za_iald (pc := 84) dX7_nextOf_84 rfl va ?_
          refine za_iload_n (pc := 85) dX7_nextOf_85 rfl ?_
          refine za_iand (pc := 86) dX7_nextOf_86 ?_
          rw [ea, hr a (by omega), zm_and]
          refine za_if_ne (pc := 87) 97 dX7_nextOf_87 (by decide) (fun c87 => ?_) (fun c87 => ?_)
          · rw [zm_z] at c87
            refine za_iconst (pc := 97) (0) dX7_nextOf_97 (by decide) ?_
            refine step 0 ?_
            rw [if_neg]
            unfold nxs
            cases hany : anyb (fun i => r a i && fls n r s b i) 16 with
            | true => simp
            | false => exact absurd (anyb_f.mp hany) c87
          · rw [zm_z] at c87
            refine za_iconst (pc := 90) (1) dX7_nextOf_90 (by decide) ?_
            refine za_iload (pc := 91) dX7_nextOf_91 rfl ?_
            refine za_ishl (pc := 93) dX7_nextOf_93 ?_
            refine za_goto (pc := 94) 98 dX7_nextOf_94 (by decide) ?_
            rw [zm_1 (by omega)]
            refine step _ ?_
            rw [if_pos]
            unfold nxs
            rw [anyb_f.mpr c87, h1]
            rfl
        · rw [if_neg h1]
          refine za_icmp_ne (pc := 75) 97 dX7_nextOf_75 (by decide) (fun c75 => ?_) (fun c75 => ?_)
          · refine za_iconst (pc := 97) (0) dX7_nextOf_97 (by decide) ?_
            refine step 0 ?_
            rw [if_neg]
            unfold nxs
            simp at h1
            simp [h1]
          · exact absurd c75 (by decide)
  have loop1 : ∀ (q a : Nat), a + q = n → zA (zZ mX7_nextOf (zQI SH (fun x t => x = zmask (nxs n r s b) ∧ t = σ))) mX7_nextOf none 0 0 5 [some (.ref 47), some (.int (nI b)), some (.int (zmask s)), some (.int (zmask (fun x => decide (x < a) && fls n r s b x))), some (.int (nI a)), none] [] SH σ := by
    intro q
    induction q with
    | zero =>
      intro a ha
      refine za_iload (pc := 5) dX7_nextOf_5 rfl ?_
      refine za_aload_n (pc := 7) dX7_nextOf_7 rfl ?_
      refine za_getI (pc := 8) dX7_nextOf_8 lk_X7_91 rfl rfl ?_
      rw [hj]
      refine za_icmp_ge (pc := 11) 51 dX7_nextOf_11 (by decide) (fun c5 => ?_) (fun c5 => ?_)
      · refine za_iconst (pc := 51) (0) dX7_nextOf_51 (by decide) ?_
        refine za_is4 (pc := 52) dX7_nextOf_52 rfl ?_
        refine za_iconst (pc := 54) (0) dX7_nextOf_54 (by decide) ?_
        refine za_is5 (pc := 55) dX7_nextOf_55 rfl ?_
        have e1 : zmask (fun x => decide (x < a) && fls n r s b x) = zmask (fls n r s b) := by
          apply zm_cong
          intro x _
          unfold fls
          by_cases hx : x < a
          · simp [hx]
          · simp [hx, show ¬ x < n by omega]
        have e2 : (0 : Int32) = zmask (fun x => decide (x < 0) && nxs n r s b x) := by
          rw [← zm_0]
          exact zm_cong (fun x _ => by simp)
        have goal := loop2 n 0 (by omega)
        rw [← e2] at goal
        rw [e1]
        exact goal
      · exact absurd (nI_le (show n ≤ a by omega) (by omega)) c5
    | succ q ih =>
      intro a ha
      have step : ∀ x : Int32, x = (if fls n r s b a = true then zmask (fun i => decide (i = a)) else 0) → zA (zZ mX7_nextOf (zQI SH (fun x t => x = zmask (nxs n r s b) ∧ t = σ))) mX7_nextOf none 0 0 43 [some (.ref 47), some (.int (nI b)), some (.int (zmask s)), some (.int (zmask (fun x => decide (x < a) && fls n r s b x))), some (.int (nI a)), none] [.int x, .int (zmask (fun x => decide (x < a) && fls n r s b x))] SH σ := by
        intro x hx
        refine za_ior (pc := 43) dX7_nextOf_43 ?_
        refine za_is3n (pc := 44) dX7_nextOf_44 rfl ?_
        refine za_ii4 (pc := 45) (1) dX7_nextOf_45 (by decide) rfl ?_
        refine za_goto (pc := 48) 5 dX7_nextOf_48 (by decide) ?_
        rw [nI_1]
        have em : zmask (fun x => decide (x < a) && fls n r s b x) ||| x = zmask (fun x => decide (x < a + 1) && fls n r s b x) := by
          rw [hx]
          by_cases h : fls n r s b a = true
          · rw [if_pos h, zm_or]
            apply zm_cong
            intro i _
            by_cases e : i = a
            · rw [e]; simp [h]
            · simp [e]; congr 1; simp; omega
          · rw [if_neg h, ← zm_0, zm_or]
            apply zm_cong
            intro i _
            by_cases e : i = a
            · rw [e]; simp at h; simp [h]
            · simp; congr 1; simp; omega
        rw [em]
        exact ih (a + 1) (by omega)
      refine za_iload (pc := 5) dX7_nextOf_5 rfl ?_
      refine za_aload_n (pc := 7) dX7_nextOf_7 rfl ?_
      refine za_getI (pc := 8) dX7_nextOf_8 lk_X7_91 rfl rfl ?_
      rw [hj]
      refine za_icmp_ge (pc := 11) 51 dX7_nextOf_11 (by decide) (fun c5 => ?_) (fun c5 => ?_)
      · exact absurd c5 (nI_ge (show a < n by omega) (by omega))
      · refine za_iload_n (pc := 14) dX7_nextOf_14 rfl ?_
        refine za_iload_n (pc := 15) dX7_nextOf_15 rfl ?_
        refine za_iload (pc := 16) dX7_nextOf_16 rfl ?_
        refine za_ishr (pc := 18) dX7_nextOf_18 ?_
        refine za_iconst (pc := 19) (1) dX7_nextOf_19 (by decide) ?_
        refine za_iand (pc := 20) dX7_nextOf_20 ?_
        refine za_iconst (pc := 21) (1) dX7_nextOf_21 (by decide) ?_
        rw [zm_sr (by omega)]
        by_cases h1 : s a = true
        · rw [if_pos h1]
          refine za_icmp_ne (pc := 22) 42 dX7_nextOf_22 (by decide) (fun c22 => ?_) (fun c22 => ?_)
          · exact absurd rfl c22
          refine za_aload_n (pc := 25) dX7_nextOf_25 rfl ?_
          refine za_iload (pc := 26) dX7_nextOf_26 rfl ?_
          refine za_iload_n (pc := 28) dX7_nextOf_28 rfl ?_
          refine za_cV2i (pc := 29) (μ' := mX7_isBehind) dX7_nextOf_29 c_X7_118 rfl rfl rfl ⟨rfl, rfl⟩ ⟨rfl, rfl⟩ rfl rfl rfl (tX7_isBehind (show a < 10 by omega) (show b < 16 by omega) (hr a (by omega))) (fun x_29 t_29 h_29 => ?_)
          obtain ⟨rfl, h9⟩ := h_29
          have h9 := h9.symm
          subst h9
          by_cases h2 : r a b = true
          · rw [if_pos h2]
            refine za_if_eq (pc := 32) 42 dX7_nextOf_32 (by decide) (fun c32 => ?_) (fun c32 => ?_)
            · exact absurd c32 (by decide)
            refine za_iconst (pc := 35) (1) dX7_nextOf_35 (by decide) ?_
            refine za_iload (pc := 36) dX7_nextOf_36 rfl ?_
            refine za_ishl (pc := 38) dX7_nextOf_38 ?_
            refine za_goto (pc := 39) 43 dX7_nextOf_39 (by decide) ?_
            rw [zm_1 (by omega)]
            exact step _ (by rw [if_pos]; unfold fls; simp [h1, h2]; omega)
          · rw [if_neg h2]
            refine za_if_eq (pc := 32) 42 dX7_nextOf_32 (by decide) (fun c32 => ?_) (fun c32 => ?_)
            · refine za_iconst (pc := 42) (0) dX7_nextOf_42 (by decide) ?_
              exact step 0 (by rw [if_neg]; unfold fls; simp [h2])
            · exact absurd rfl c32
        · rw [if_neg h1]
          refine za_icmp_ne (pc := 22) 42 dX7_nextOf_22 (by decide) (fun c22 => ?_) (fun c22 => ?_)
          · refine za_iconst (pc := 42) (0) dX7_nextOf_42 (by decide) ?_
            exact step 0 (by rw [if_neg]; unfold fls; simp [h1])
          · exact absurd c22 (by decide)
  have e2 : (0 : Int32) = zmask (fun x => decide (x < 0) && fls n r s b x) := by
    rw [← zm_0]
    exact zm_cong (fun x _ => by simp)
  have goal := loop1 n 0 (by omega)
  rw [← e2] at goal
  exact goal
theorem tX7_behindOf {σ : zSt} {n b : Nat} {r : Nat → Nat → Bool} (hn : n ≤ 10) (hb : b < n) (hj : σ 47 3 = nI n) (hr : ∀ a, a < n → σ 59 a = zmask (r a)) : zI mX7_behindOf [.ref 47, .int (nI b)] SH σ (fun x t => x = zmask (flw n r b) ∧ t = σ) := by
  refine zI_of (ls := [some (.ref 47), some (.int (nI b)), none, none]) (by decide) rfl rfl ?_
  refine za_iconst (pc := 0) (0) dX7_behindOf_0 (by decide) ?_
  refine za_is2n (pc := 1) dX7_behindOf_1 rfl ?_
  refine za_iconst (pc := 2) (0) dX7_behindOf_2 (by decide) ?_
  refine za_is3n (pc := 3) dX7_behindOf_3 rfl ?_
  have loop1 : ∀ (q a : Nat), a + q = n → zA (zZ mX7_behindOf (zQI SH (fun x t => x = zmask (flw n r b) ∧ t = σ))) mX7_behindOf none 0 0 4 [some (.ref 47), some (.int (nI b)), some (.int (zmask (fun x => decide (x < a) && flw n r b x))), some (.int (nI a))] [] SH σ := by
    intro q
    induction q with
    | zero =>
      intro a ha
      refine za_iload_n (pc := 4) dX7_behindOf_4 rfl ?_
      refine za_aload_n (pc := 5) dX7_behindOf_5 rfl ?_
      refine za_getI (pc := 6) dX7_behindOf_6 lk_X7_91 rfl rfl ?_
      rw [hj]
      refine za_icmp_ge (pc := 9) 37 dX7_behindOf_9 (by decide) (fun c5 => ?_) (fun c5 => ?_)
      · refine za_iload_n (pc := 37) dX7_behindOf_37 rfl ?_
        refine za_ri (pc := 38) dX7_behindOf_38 rfl rfl rfl ?_
        refine ⟨zm_cong (fun x _ => ?_), rfl⟩
        unfold flw
        by_cases hx : x < a
        · simp [hx]
        · simp [hx, show ¬ x < n by omega]
      · exact absurd (nI_le (show n ≤ a by omega) (by omega)) c5
    | succ q ih =>
      intro a ha
      have step : ∀ x : Int32, x = (if flw n r b a = true then zmask (fun i => decide (i = a)) else 0) → zA (zZ mX7_behindOf (zQI SH (fun x t => x = zmask (flw n r b) ∧ t = σ))) mX7_behindOf none 0 0 29 [some (.ref 47), some (.int (nI b)), some (.int (zmask (fun x => decide (x < a) && flw n r b x))), some (.int (nI a))] [.int x, .int (zmask (fun x => decide (x < a) && flw n r b x))] SH σ := by
        intro x hx
        refine za_ior (pc := 29) dX7_behindOf_29 ?_
        refine za_is2n (pc := 30) dX7_behindOf_30 rfl ?_
        refine za_ii3 (pc := 31) (1) dX7_behindOf_31 (by decide) rfl ?_
        refine za_goto (pc := 34) 4 dX7_behindOf_34 (by decide) ?_
        rw [nI_1]
        have em : zmask (fun x => decide (x < a) && flw n r b x) ||| x = zmask (fun x => decide (x < a + 1) && flw n r b x) := by
          rw [hx]
          by_cases h : flw n r b a = true
          · rw [if_pos h, zm_or]
            apply zm_cong
            intro i _
            by_cases e : i = a
            · rw [e]; simp [h]
            · simp [e]; congr 1; simp; omega
          · rw [if_neg h, ← zm_0, zm_or]
            apply zm_cong
            intro i _
            by_cases e : i = a
            · rw [e]; simp at h; simp [h]
            · simp; congr 1; simp; omega
        rw [em]
        exact ih (a + 1) (by omega)
      refine za_iload_n (pc := 4) dX7_behindOf_4 rfl ?_
      refine za_aload_n (pc := 5) dX7_behindOf_5 rfl ?_
      refine za_getI (pc := 6) dX7_behindOf_6 lk_X7_91 rfl rfl ?_
      rw [hj]
      refine za_icmp_ge (pc := 9) 37 dX7_behindOf_9 (by decide) (fun c5 => ?_) (fun c5 => ?_)
      · exact absurd c5 (nI_ge (show a < n by omega) (by omega))
      · refine za_iload_n (pc := 12) dX7_behindOf_12 rfl ?_
        refine za_aload_n (pc := 13) dX7_behindOf_13 rfl ?_
        refine za_iload_n (pc := 14) dX7_behindOf_14 rfl ?_
        refine za_iload_n (pc := 15) dX7_behindOf_15 rfl ?_
        refine za_cV2i (pc := 16) (μ' := mX7_isBehind) dX7_behindOf_16 c_X7_118 rfl rfl rfl ⟨rfl, rfl⟩ ⟨rfl, rfl⟩ rfl rfl rfl (tX7_isBehind (show a < 10 by omega) (show b < 16 by omega) (hr a (by omega))) (fun x_16 t_16 h_16 => ?_)
        obtain ⟨rfl, h9⟩ := h_16
        have h9 := h9.symm
        subst h9
        by_cases h2 : r a b = true
        · rw [if_pos h2]
          refine za_if_eq (pc := 19) 28 dX7_behindOf_19 (by decide) (fun c19 => ?_) (fun c19 => ?_)
          · exact absurd c19 (by decide)
          refine za_iconst (pc := 22) (1) dX7_behindOf_22 (by decide) ?_
          refine za_iload_n (pc := 23) dX7_behindOf_23 rfl ?_
          refine za_ishl (pc := 24) dX7_behindOf_24 ?_
          refine za_goto (pc := 25) 29 dX7_behindOf_25 (by decide) ?_
          rw [zm_1 (by omega)]
          exact step _ (by rw [if_pos]; unfold flw; simp [h2]; omega)
        · rw [if_neg h2]
          refine za_if_eq (pc := 19) 28 dX7_behindOf_19 (by decide) (fun c19 => ?_) (fun c19 => ?_)
          · refine za_iconst (pc := 28) (0) dX7_behindOf_28 (by decide) ?_
            exact step 0 (by rw [if_neg]; unfold flw; simp [h2])
          · exact absurd rfl c19
  have e2 : (0 : Int32) = zmask (fun x => decide (x < 0) && flw n r b x) := by
    rw [← zm_0]
    exact zm_cong (fun x _ => by simp)
  have goal := loop1 n 0 (by omega)
  rw [← e2] at goal
  exact goal
theorem tX7_depthOf {σ : zSt} {n a : Nat} {r : Nat → Nat → Bool} {f : Nat → Nat} (hn : n ≤ 10) (ha : a < n) (hj : σ 47 3 = nI n) (hr : ∀ a, a < n → σ 59 a = zmask (r a)) (hf : ∀ c, c < n → σ 63 c = nI (f c) ∧ f c ≤ 10) : zI mX7_depthOf [.ref 47, .int (nI a), .ref 63] SH σ (fun x t => x = nI (1 + mxo (fun c => r c a) f n) ∧ t = σ) := by
  have hm : ∀ k, k ≤ n → mxo (fun c => r c a) f k ≤ 10 := fun k hk => mxo_le.mpr (fun c hc _ => (hf c (by omega)).2)
  refine zI_of (ls := [some (.ref 47), some (.int (nI a)), some (.ref 63), none, none]) (by decide) rfl rfl ?_
  refine za_iconst (pc := 0) (0) dX7_depthOf_0 (by decide) ?_
  refine za_is3n (pc := 1) dX7_depthOf_1 rfl ?_
  refine za_iconst (pc := 2) (0) dX7_depthOf_2 (by decide) ?_
  refine za_is4 (pc := 3) dX7_depthOf_3 rfl ?_
  have loop1 : ∀ (q c : Nat), c + q = n → zA (zZ mX7_depthOf (zQI SH (fun x t => x = nI (1 + mxo (fun c => r c a) f n) ∧ t = σ))) mX7_depthOf none 0 0 5 [some (.ref 47), some (.int (nI a)), some (.ref 63), some (.int (nI (mxo (fun c => r c a) f c))), some (.int (nI c))] [] SH σ := by
    intro q
    induction q with
    | zero =>
      intro c hc
      refine za_iload (pc := 5) dX7_depthOf_5 rfl ?_
      refine za_aload_n (pc := 7) dX7_depthOf_7 rfl ?_
      refine za_getI (pc := 8) dX7_depthOf_8 lk_X7_91 rfl rfl ?_
      rw [hj]
      refine za_icmp_ge (pc := 11) 47 dX7_depthOf_11 (by decide) (fun c5 => ?_) (fun c5 => ?_)
      · refine za_iload_n (pc := 47) dX7_depthOf_47 rfl ?_
        refine za_iconst (pc := 48) (1) dX7_depthOf_48 (by decide) ?_
        refine za_iadd (pc := 49) dX7_depthOf_49 ?_
        refine za_ri (pc := 50) dX7_depthOf_50 rfl rfl rfl ?_
        rw [nI_1, show c = n by omega, Nat.add_comm]
        exact ⟨rfl, rfl⟩
      · exact absurd (nI_le (show n ≤ c by omega) (by omega)) c5
    | succ q ih =>
      intro c hc
      have vc : vp_in (nI c) 10 := vp_in_nI (by omega) (by decide)
      have ec : (nI c).toNatClampNeg = c := nI_clamp (by omega)
      have hmc := hm c (by omega)
      obtain ⟨f1, f2⟩ := hf c (by omega)
      have step : ∀ x : Int32, x = nI (mxo (fun c => r c a) f (c + 1)) → zA (zZ mX7_depthOf (zQI SH (fun x t => x = nI (1 + mxo (fun c => r c a) f n) ∧ t = σ))) mX7_depthOf none 0 0 40 [some (.ref 47), some (.int (nI a)), some (.ref 63), some (.int (nI (mxo (fun c => r c a) f c))), some (.int (nI c))] [.int x] SH σ := by
        intro x hx
        refine za_is3n (pc := 40) dX7_depthOf_40 rfl ?_
        refine za_ii4 (pc := 41) (1) dX7_depthOf_41 (by decide) rfl ?_
        refine za_goto (pc := 44) 5 dX7_depthOf_44 (by decide) ?_
        rw [nI_1, hx]
        exact ih (c + 1) (by omega)
      refine za_iload (pc := 5) dX7_depthOf_5 rfl ?_
      refine za_aload_n (pc := 7) dX7_depthOf_7 rfl ?_
      refine za_getI (pc := 8) dX7_depthOf_8 lk_X7_91 rfl rfl ?_
      rw [hj]
      refine za_icmp_ge (pc := 11) 47 dX7_depthOf_11 (by decide) (fun c5 => ?_) (fun c5 => ?_)
      · exact absurd c5 (nI_ge (show c < n by omega) (by omega))
      · refine za_aload_n (pc := 14) dX7_depthOf_14 rfl ?_
        refine za_iload (pc := 15) dX7_depthOf_15 rfl ?_
        refine za_iload_n (pc := 17) dX7_depthOf_17 rfl ?_
        refine za_cV2i (pc := 18) (μ' := mX7_isBehind) dX7_depthOf_18 c_X7_118 rfl rfl rfl ⟨rfl, rfl⟩ ⟨rfl, rfl⟩ rfl rfl rfl (tX7_isBehind (show c < 10 by omega) (show a < 16 by omega) (hr c (by omega))) (fun x_18 t_18 h_18 => ?_)
        obtain ⟨rfl, h9⟩ := h_18
        have h9 := h9.symm
        subst h9
        by_cases h2 : r c a = true
        · rw [if_pos h2]
          refine za_if_eq (pc := 21) 39 dX7_depthOf_21 (by decide) (fun c21 => ?_) (fun c21 => ?_)
          · exact absurd c21 (by decide)
          refine za_aload_n (pc := 24) dX7_depthOf_24 rfl ?_
          refine za_iload (pc := 25) dX7_depthOf_25 rfl ?_
          refine za_iald (pc := 27) dX7_depthOf_27 rfl vc ?_
          refine za_iload_n (pc := 28) dX7_depthOf_28 rfl ?_
          rw [ec, f1]
          refine za_icmp_le (pc := 29) 39 dX7_depthOf_29 (by decide) (fun c29 => ?_) (fun c29 => ?_)
          · refine za_iload_n (pc := 39) dX7_depthOf_39 rfl ?_
            refine step _ ?_
            rw [show mxo (fun c => r c a) f (c + 1) = mxo (fun c => r c a) f c from if_neg (fun q => by rw [nI_leI (by omega) (by omega)] at c29; omega)]
          · refine za_aload_n (pc := 32) dX7_depthOf_32 rfl ?_
            refine za_iload (pc := 33) dX7_depthOf_33 rfl ?_
            refine za_iald (pc := 35) dX7_depthOf_35 rfl vc ?_
            refine za_goto (pc := 36) 40 dX7_depthOf_36 (by decide) ?_
            rw [ec, f1]
            refine step _ ?_
            rw [mxo, if_pos ⟨h2, by rw [nI_leI (by omega) (by omega)] at c29; omega⟩]
        · rw [if_neg h2]
          refine za_if_eq (pc := 21) 39 dX7_depthOf_21 (by decide) (fun c21 => ?_) (fun c21 => ?_)
          · refine za_iload_n (pc := 39) dX7_depthOf_39 rfl ?_
            refine step _ ?_
            rw [mxo, if_neg (fun q => h2 q.1)]
          · exact absurd rfl c21
  exact loop1 n 0 (by omega)
theorem tX7_layDepths {σ : zSt} {n : Nat} {w : Nat → Nat → Bool} (ho : Ord n (wR w n)) (hn : n ≤ 10) (hj : σ 47 3 = nI n) (hw : ∀ a, a < n → σ 55 a = zmask (w a)) : zV mX7_layDepths [.ref 47] SH σ (fun t => (∀ d, d ≠ 59 → d ≠ 63 → t d = σ d) ∧ (∀ a, a < n → t 59 a = zmask (wR w n a)) ∧ ∀ a, a < n → t 63 a = nI (dep n (wR w n) a)) := by
  refine zV_of (ls := [some (.ref 47), none, none]) (by decide) rfl rfl ?_
  refine za_aload_n (pc := 0) dX7_layDepths_0 rfl ?_
  refine za_cV0v (pc := 1) (μ' := mX7_layBehind) dX7_layDepths_1 c_X7_115 rfl rfl rfl ⟨rfl, rfl⟩ ⟨rfl, rfl⟩ rfl rfl rfl (tX7_layBehind hn hj hw) (fun t_1 h_1 => ?_)
  obtain ⟨q1, q2, q3⟩ := h_1
  refine za_iconst (pc := 4) (0) dX7_layDepths_4 (by decide) ?_
  refine za_is1n (pc := 5) dX7_layDepths_5 rfl ?_
  generalize t_1 = σ0 at *
  have hj0 : σ0 47 3 = nI n := by rw [q1 47 (by decide)]; exact hj
  have inner : ∀ (rd : Nat) (Z : zZt), (∀ σ', (∀ d, d ≠ 63 → σ' d = σ0 d) → (∃ f : Nat → Nat, ∀ x, x < n → σ' 63 x = nI (f x) ∧ f x ≤ dep n (wR w n) x ∧ (dep n (wR w n) x ≤ rd + 2 → f x = dep n (wR w n) x)) → zA Z mX7_layDepths none 0 0 66 [some (.ref 47), some (.int (nI rd)), some (.int (nI n))] [] SH σ') → ∀ (q a : Nat) (σ1 : zSt), a + q = n → (∀ d, d ≠ 63 → σ1 d = σ0 d) → (∃ f : Nat → Nat, ∀ x, x < n → σ1 63 x = nI (f x) ∧ f x ≤ dep n (wR w n) x ∧ (dep n (wR w n) x ≤ rd + 1 → f x = dep n (wR w n) x) ∧ (x < a → dep n (wR w n) x ≤ rd + 2 → f x = dep n (wR w n) x)) → zA Z mX7_layDepths none 0 0 37 [some (.ref 47), some (.int (nI rd)), some (.int (nI a))] [] SH σ1 := by
    intro rd Z hE q
    induction q with
    | zero =>
      intro a σ1 ha g1 g2
      refine za_iload_n (pc := 37) dX7_layDepths_37 rfl ?_
      refine za_aload_n (pc := 38) dX7_layDepths_38 rfl ?_
      refine za_getI (pc := 39) dX7_layDepths_39 lk_X7_91 rfl rfl ?_
      rw [g1 47 (by decide), hj0]
      refine za_icmp_ge (pc := 42) 66 dX7_layDepths_42 (by decide) (fun c5 => ?_) (fun c5 => ?_)
      · have : a = n := by omega
        subst this
        obtain ⟨f, hf⟩ := g2
        exact hE σ1 g1 ⟨f, fun x hx => ⟨(hf x hx).1, (hf x hx).2.1, (hf x hx).2.2.2 hx⟩⟩
      · exact absurd (nI_le (show n ≤ a by omega) (by omega)) c5
    | succ q ih =>
      intro a σ1 ha g1 g2
      have va : vp_in (nI a) 10 := vp_in_nI (by omega) (by decide)
      have ea : (nI a).toNatClampNeg = a := nI_clamp (by omega)
      obtain ⟨f, hf⟩ := g2
      have han : a < n := by omega
      refine za_iload_n (pc := 37) dX7_layDepths_37 rfl ?_
      refine za_aload_n (pc := 38) dX7_layDepths_38 rfl ?_
      refine za_getI (pc := 39) dX7_layDepths_39 lk_X7_91 rfl rfl ?_
      rw [g1 47 (by decide), hj0]
      refine za_icmp_ge (pc := 42) 66 dX7_layDepths_42 (by decide) (fun c5 => ?_) (fun c5 => ?_)
      · exact absurd c5 (nI_ge (show a < n by omega) (by omega))
      · refine za_aload_n (pc := 45) dX7_layDepths_45 rfl ?_
        refine za_getR (pc := 46) dX7_layDepths_46 lk_X7_55 rfl rfl ?_
        refine za_iload_n (pc := 49) dX7_layDepths_49 rfl ?_
        refine za_aload_n (pc := 50) dX7_layDepths_50 rfl ?_
        refine za_iload_n (pc := 51) dX7_layDepths_51 rfl ?_
        refine za_aload_n (pc := 52) dX7_layDepths_52 rfl ?_
        refine za_getR (pc := 53) dX7_layDepths_53 lk_X7_55 rfl rfl ?_
        refine za_cV2i (pc := 56) (μ' := mX7_depthOf) dX7_layDepths_56 c_X7_152 rfl rfl rfl ⟨rfl, rfl⟩ ⟨rfl, rfl⟩ rfl rfl rfl (tX7_depthOf (f := f) hn han (by rw [g1 47 (by decide)]; exact hj0) (fun c hc => by rw [g1 59 (by decide)]; exact q2 c hc) (fun c hc => ⟨(hf c hc).1, by have := (hf c hc).2.1; have := dep_n ho hc; omega⟩)) (fun x_56 t_56 h_56 => ?_)
        obtain ⟨rfl, h9⟩ := h_56
        have h9 := h9.symm
        subst h9
        refine za_iast (pc := 59) dX7_layDepths_59 rfl va ?_
        refine za_ii2 (pc := 60) (1) dX7_layDepths_60 (by decide) rfl ?_
        refine za_goto (pc := 63) 37 dX7_layDepths_63 (by decide) ?_
        rw [nI_1, ea]
        have h1 : 1 + mxo (fun c => wR w n c a) f n ≤ dep n (wR w n) a := by
          rw [dep_fp ho han]
          have : mxo (fun c => wR w n c a) f n ≤ mxo (fun c => wR w n c a) (dep n (wR w n)) n := mxo_le.mpr (fun c hc hr => Nat.le_trans (hf c hc).2.1 (mxo_le.mp (Nat.le_refl _) c hc hr))
          omega
        have h2 : dep n (wR w n) a ≤ rd + 2 → 1 + mxo (fun c => wR w n c a) f n = dep n (wR w n) a := by
          intro hd
          have hd := (dep_le ho han).mp hd
          rw [dep_fp ho han]
          congr 1
          exact mxo_cong (fun _ _ => rfl) (fun c hc hr => (hf c hc).2.2.1 (hd c hc hr))
        refine ih (a + 1) _ (by omega) (fun d hd => by rw [zup_n hd]; exact g1 d hd) ⟨fun x => if x = a then 1 + mxo (fun c => wR w n c a) f n else f x, fun x hx => ?_⟩
        by_cases e : x = a
        · subst e
          simp only [if_true]
          exact ⟨zup_a, h1, fun hd => h2 (by omega), fun _ hd => h2 hd⟩
        · simp only [if_neg e]
          obtain ⟨k1, k2, k3, k4⟩ := hf x hx
          exact ⟨by rw [zup_b e]; exact k1, k2, k3, fun hxa hd => k4 (by omega) hd⟩
  have outer : ∀ (q rd : Nat) (σ1 : zSt) (x : Option Value), zNl [some (.ref 47), some (.int 0), x] 2 = true → rd + q = n → (∀ d, d ≠ 63 → σ1 d = σ0 d) → (∃ f : Nat → Nat, ∀ x, x < n → σ1 63 x = nI (f x) ∧ f x ≤ dep n (wR w n) x ∧ (dep n (wR w n) x ≤ rd + 1 → f x = dep n (wR w n) x)) → zA (zZ mX7_layDepths (zQV SH (fun t => (∀ d, d ≠ 59 → d ≠ 63 → t d = σ d) ∧ (∀ a, a < n → t 59 a = zmask (wR w n a)) ∧ ∀ a, a < n → t 63 a = nI (dep n (wR w n) a)))) mX7_layDepths none 0 0 27 [some (.ref 47), some (.int (nI rd)), x] [] SH σ1 := by
    intro q
    induction q with
    | zero =>
      intro rd σ1 x hx hrd g1 g2
      refine za_iload_n (pc := 27) dX7_layDepths_27 rfl ?_
      refine za_aload_n (pc := 28) dX7_layDepths_28 rfl ?_
      refine za_getI (pc := 29) dX7_layDepths_29 lk_X7_91 rfl rfl ?_
      rw [g1 47 (by decide), hj0]
      refine za_icmp_ge (pc := 32) 72 dX7_layDepths_32 (by decide) (fun c5 => ?_) (fun c5 => ?_)
      · obtain ⟨f, hf⟩ := g2
        refine za_rv (pc := 72) dX7_layDepths_72 rfl rfl rfl ?_
        exact ⟨fun d h59 h63 => by rw [g1 d h63]; exact q1 d h59, fun a ha => by rw [g1 59 (by decide)]; exact q2 a ha, fun a ha => by rw [(hf a ha).1, (hf a ha).2.2 (by have := dep_n ho ha; omega)]⟩
      · exact absurd (nI_le (show n ≤ rd by omega) (by omega)) c5
    | succ q ih =>
      intro rd σ1 x hx hrd g1 g2
      refine za_iload_n (pc := 27) dX7_layDepths_27 rfl ?_
      refine za_aload_n (pc := 28) dX7_layDepths_28 rfl ?_
      refine za_getI (pc := 29) dX7_layDepths_29 lk_X7_91 rfl rfl ?_
      rw [g1 47 (by decide), hj0]
      refine za_icmp_ge (pc := 32) 72 dX7_layDepths_32 (by decide) (fun c5 => ?_) (fun c5 => ?_)
      · exact absurd c5 (nI_ge (show rd < n by omega) (by omega))
      · refine za_iconst (pc := 35) (0) dX7_layDepths_35 (by decide) ?_
        refine za_is2n (pc := 36) dX7_layDepths_36 rfl ?_
        obtain ⟨f, hf⟩ := g2
        refine inner rd _ (fun σ' f1 f2 => ?_) n 0 σ1 (by omega) g1 ⟨f, fun x hx => ⟨(hf x hx).1, (hf x hx).2.1, (hf x hx).2.2, fun h => absurd h (by omega)⟩⟩
        refine za_ii1 (pc := 66) (1) dX7_layDepths_66 (by decide) rfl ?_
        refine za_goto (pc := 69) 27 dX7_layDepths_69 (by decide) ?_
        rw [nI_1]
        exact ih (rd + 1) σ' _ rfl (by omega) f1 f2
  have ones : ∀ (q a : Nat) (σ1 : zSt), a + q = 10 → (∀ d, d ≠ 63 → σ1 d = σ0 d) → (∀ x, x < a → σ1 63 x = 1) → zA (zZ mX7_layDepths (zQV SH (fun t => (∀ d, d ≠ 59 → d ≠ 63 → t d = σ d) ∧ (∀ a, a < n → t 59 a = zmask (wR w n a)) ∧ ∀ a, a < n → t 63 a = nI (dep n (wR w n) a)))) mX7_layDepths none 0 0 6 [some (.ref 47), some (.int (nI a)), none] [] SH σ1 := by
    intro q
    induction q with
    | zero =>
      intro a σ1 ha g1 g2
      refine za_iload_n (pc := 6) dX7_layDepths_6 rfl ?_
      refine za_bipush (pc := 7) (10) dX7_layDepths_7 (by decide) ?_
      refine za_icmp_ge (pc := 9) 25 dX7_layDepths_9 (by decide) (fun c => ?_) (fun c => ?_)
      · refine za_iconst (pc := 25) (0) dX7_layDepths_25 (by decide) ?_
        refine za_is1n (pc := 26) dX7_layDepths_26 rfl ?_
        refine outer n 0 σ1 none rfl (by omega) g1 ⟨fun _ => 1, fun x hx => ⟨g2 x (by omega), dep_pos ho hx, fun hd => ?_⟩⟩
        have := dep_pos ho hx
        show 1 = dep n (wR w n) x
        omega
      · exact absurd (nI_le (a := 10) (b := a) (by omega) (by omega)) c
    | succ q ih =>
      intro a σ1 ha g1 g2
      have va : vp_in (nI a) 10 := vp_in_nI (by omega) (by decide)
      have ea : (nI a).toNatClampNeg = a := nI_clamp (by omega)
      refine za_iload_n (pc := 6) dX7_layDepths_6 rfl ?_
      refine za_bipush (pc := 7) (10) dX7_layDepths_7 (by decide) ?_
      refine za_icmp_ge (pc := 9) 25 dX7_layDepths_9 (by decide) (fun c => ?_) (fun c => ?_)
      · exact absurd c (nI_ge (a := a) (b := 10) (by omega) (by omega))
      · refine za_aload_n (pc := 12) dX7_layDepths_12 rfl ?_
        refine za_getR (pc := 13) dX7_layDepths_13 lk_X7_55 rfl rfl ?_
        refine za_iload_n (pc := 16) dX7_layDepths_16 rfl ?_
        refine za_iconst (pc := 17) (1) dX7_layDepths_17 (by decide) ?_
        refine za_iast (pc := 18) dX7_layDepths_18 rfl va ?_
        refine za_ii1 (pc := 19) (1) dX7_layDepths_19 (by decide) rfl ?_
        refine za_goto (pc := 22) 6 dX7_layDepths_22 (by decide) ?_
        rw [nI_1, ea]
        refine ih (a + 1) _ (by omega) (fun d hd => by rw [zup_n hd]; exact g1 d hd) (fun x hx => ?_)
        by_cases e : x = a
        · rw [e, zup_a]
        · rw [zup_b e]; exact g2 x (by omega)
  exact ones 10 0 σ0 (by omega) (fun _ _ => rfl) (fun x hx => absurd hx (by omega))
