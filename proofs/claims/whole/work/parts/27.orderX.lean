/-! Order of the class -/
section FB
variable {Z : zZt} {n : Nat} {w : Nat → Nat → Bool} {σ : zSt}
theorem fb_in {c : Nat} (hn : n ≤ 10) (hc : c < n) (hj : σ 2 5 = nI n) (hE : ∀ σ', (∀ d, d ≠ 11 → σ' d = σ d) → (∀ a, a < n → σ' 11 a = zmask (wR w (c + 1) a)) → zA Z mX2_findBehind none 0 0 83 [some (.ref 10), some (.int (nI c)), some (.int (nI n))] [] SH σ') :
    ∀ (q a : Nat) (σ1 : zSt), a + q = n → (∀ d, d ≠ 11 → σ1 d = σ d) → (∀ i, i < a → σ1 11 i = zmask (wR w (c + 1) i)) → (∀ i, a ≤ i → i < n → σ1 11 i = zmask (wR w c i)) → zA Z mX2_findBehind none 0 0 38 [some (.ref 10), some (.int (nI c)), some (.int (nI a))] [] SH σ1 := by
  intro q
  induction q with
  | zero =>
    intro a σ1 ha g1 g2 g3
    refine za_iload_n (pc := 38) dX2_findBehind_38 rfl ?_
    refine za_aload_n (pc := 39) dX2_findBehind_39 rfl ?_
    refine za_getR (pc := 40) dX2_findBehind_40 lk_X2_31 rfl rfl ?_
    refine za_getI (pc := 43) dX2_findBehind_43 lk_X2_59 rfl rfl ?_
    rw [g1 2 (by decide), hj]
    refine za_icmp_ge (pc := 46) 83 dX2_findBehind_46 (by decide) (fun c5 => ?_) (fun c5 => ?_)
    · have : a = n := by omega
      subst this
      exact hE σ1 g1 g2
    · exact absurd (nI_le (show n ≤ a by omega) (by omega)) c5
  | succ q ih =>
    intro a σ1 ha g1 g2 g3
    have va : vp_in (nI a) 10 := vp_in_nI (by omega) (by decide)
    have ea : (nI a).toNatClampNeg = a := nI_clamp (by omega)
    have vc : vp_in (nI c) 10 := vp_in_nI (by omega) (by decide)
    have ec : (nI c).toNatClampNeg = c := nI_clamp (by omega)
    have rc : σ1 11 c = zmask (wR w c c) := by
      rcases Nat.lt_or_ge c a with h | h
      · rw [g2 c h, wR_c]
      · exact g3 c h hc
    have ra : σ1 11 a = zmask (wR w c a) := g3 a (Nat.le_refl a) (by omega)
    refine za_iload_n (pc := 38) dX2_findBehind_38 rfl ?_
    refine za_aload_n (pc := 39) dX2_findBehind_39 rfl ?_
    refine za_getR (pc := 40) dX2_findBehind_40 lk_X2_31 rfl rfl ?_
    refine za_getI (pc := 43) dX2_findBehind_43 lk_X2_59 rfl rfl ?_
    rw [g1 2 (by decide), hj]
    refine za_icmp_ge (pc := 46) 83 dX2_findBehind_46 (by decide) (fun c5 => ?_) (fun c5 => ?_)
    · exact absurd c5 (nI_ge (show a < n by omega) (by omega))
    · refine za_aload_n (pc := 49) dX2_findBehind_49 rfl ?_
      refine za_getR (pc := 50) dX2_findBehind_50 lk_X2_9 rfl rfl ?_
      refine za_iload_n (pc := 53) dX2_findBehind_53 rfl ?_
      refine za_iald (pc := 54) dX2_findBehind_54 rfl va ?_
      refine za_iload_n (pc := 55) dX2_findBehind_55 rfl ?_
      refine za_cSN2i (pc := 56) (μ' := mX6_holds) dX2_findBehind_56 c_X2_52 rfl ⟨rfl, rfl⟩ ⟨rfl, rfl⟩ rfl rfl rfl (tX6_holds) (fun x_56 t_56 h_56 => ?_)
      obtain ⟨rfl, h9⟩ := h_56
      have h9 := h9.symm
      subst h9
      rw [ea, ra]
      by_cases hb : wR w c a c = false
      · rw [if_pos ((zm_h (by omega)).mpr hb)]
        refine za_if_eq (pc := 59) 77 dX2_findBehind_59 (by decide) (fun c59 => ?_) (fun c59 => ?_)
        · refine za_ii2 (pc := 77) (1) dX2_findBehind_77 (by decide) rfl ?_
          refine za_goto (pc := 80) 38 dX2_findBehind_80 (by decide) ?_
          rw [nI_1]
          refine ih (a + 1) _ (by omega) g1 (fun i hi => ?_) (fun i h1 h2 => g3 i (by omega) h2)
          by_cases e : i = a
          · rw [e, wR_f hb]; exact ra
          · exact g2 i (by omega)
        · exact absurd rfl c59
      · rw [if_neg (fun q => hb ((zm_h (by omega)).mp q))]
        refine za_if_eq (pc := 59) 77 dX2_findBehind_59 (by decide) (fun c59 => ?_) (fun c59 => ?_)
        · exact absurd c59 (by decide)
        · refine za_aload_n (pc := 62) dX2_findBehind_62 rfl ?_
          refine za_getR (pc := 63) dX2_findBehind_63 lk_X2_9 rfl rfl ?_
          refine za_iload_n (pc := 66) dX2_findBehind_66 rfl ?_
          refine za_dup2 (pc := 67) dX2_findBehind_67 rfl rfl ?_
          refine za_iald (pc := 68) dX2_findBehind_68 rfl va ?_
          refine za_aload_n (pc := 69) dX2_findBehind_69 rfl ?_
          refine za_getR (pc := 70) dX2_findBehind_70 lk_X2_9 rfl rfl ?_
          refine za_iload_n (pc := 73) dX2_findBehind_73 rfl ?_
          refine za_iald (pc := 74) dX2_findBehind_74 rfl vc ?_
          rw [ea, ec, ra, rc]
          refine za_ior (pc := 75) dX2_findBehind_75 ?_
          rw [zm_or]
          refine za_iast (pc := 76) dX2_findBehind_76 rfl va ?_
          refine za_ii2 (pc := 77) (1) dX2_findBehind_77 (by decide) rfl ?_
          refine za_goto (pc := 80) 38 dX2_findBehind_80 (by decide) ?_
          rw [nI_1, ea]
          refine ih (a + 1) _ (by omega) (fun d hd => by rw [zup_n hd]; exact g1 d hd) (fun i hi => ?_) (fun i h1 h2 => by rw [zup_b (by omega)]; exact g3 i (by omega) h2)
          by_cases e : i = a
          · rw [e, zup_a, wR_t (by simpa using hb)]
          · rw [zup_b e]; exact g2 i (by omega)
theorem fb_out (hn : n ≤ 10) (hj : σ 2 5 = nI n) (hE : ∀ σ', (∀ d, d ≠ 11 → σ' d = σ d) → (∀ a, a < n → σ' 11 a = zmask (wR w n a)) → ∀ x, zA Z mX2_findBehind none 0 0 89 [some (.ref 10), some (.int (nI n)), x] [] SH σ') :
    ∀ (q c : Nat) (σ1 : zSt) (x : Option Value), c + q = n → (∀ d, d ≠ 11 → σ1 d = σ d) → (∀ i, i < n → σ1 11 i = zmask (wR w c i)) → zA Z mX2_findBehind none 0 0 25 [some (.ref 10), some (.int (nI c)), x] [] SH σ1 := by
  intro q
  induction q with
  | zero =>
    intro c σ1 x hc g1 g2
    refine za_iload_n (pc := 25) dX2_findBehind_25 rfl ?_
    refine za_aload_n (pc := 26) dX2_findBehind_26 rfl ?_
    refine za_getR (pc := 27) dX2_findBehind_27 lk_X2_31 rfl rfl ?_
    refine za_getI (pc := 30) dX2_findBehind_30 lk_X2_59 rfl rfl ?_
    rw [g1 2 (by decide), hj]
    refine za_icmp_ge (pc := 33) 89 dX2_findBehind_33 (by decide) (fun c5 => ?_) (fun c5 => ?_)
    · have : c = n := by omega
      subst this
      exact hE σ1 g1 g2 x
    · exact absurd (nI_le (show n ≤ c by omega) (by omega)) c5
  | succ q ih =>
    intro c σ1 x hc g1 g2
    refine za_iload_n (pc := 25) dX2_findBehind_25 rfl ?_
    refine za_aload_n (pc := 26) dX2_findBehind_26 rfl ?_
    refine za_getR (pc := 27) dX2_findBehind_27 lk_X2_31 rfl rfl ?_
    refine za_getI (pc := 30) dX2_findBehind_30 lk_X2_59 rfl rfl ?_
    rw [g1 2 (by decide), hj]
    refine za_icmp_ge (pc := 33) 89 dX2_findBehind_33 (by decide) (fun c5 => ?_) (fun c5 => ?_)
    · exact absurd c5 (nI_ge (show c < n by omega) (by omega))
    · refine za_iconst (pc := 36) (0) dX2_findBehind_36 (by decide) ?_
      refine za_is2n (pc := 37) dX2_findBehind_37 rfl ?_
      refine fb_in (σ := σ1) hn (show c < n by omega) (by rw [g1 2 (by decide)]; exact hj) (fun σ' f1 f2 => ?_) n 0 σ1 (by omega) (fun _ _ => rfl) (fun i hi => absurd hi (by omega)) (fun i _ hi => g2 i hi)
      refine za_ii1 (pc := 83) (1) dX2_findBehind_83 (by decide) rfl ?_
      refine za_goto (pc := 86) 25 dX2_findBehind_86 (by decide) ?_
      rw [nI_1]
      exact ih (c + 1) σ' _ (by omega) (fun d hd => by rw [f1 d hd]; exact g1 d hd) f2
end FB
theorem tX2_findBehind {n : Nat} {w : Nat → Nat → Bool} {σ : zSt} (hn : n ≤ 10) (hj : σ 2 5 = nI n) (hw : ∀ a, a < n → σ 7 a = zmask (w a)) : zV mX2_findBehind [.ref 10] SH σ (fun t => (∀ d, d ≠ 11 → t d = σ d) ∧ ∀ a, a < n → t 11 a = zmask (wR w n a)) := by
  refine zV_of (ls := [some (.ref 10), none, none]) (by decide) rfl rfl ?_
  refine za_aload_n (pc := 0) dX2_findBehind_0 rfl ?_
  refine za_getR (pc := 1) dX2_findBehind_1 lk_X2_31 rfl rfl ?_
  refine za_getR (pc := 4) dX2_findBehind_4 lk_X2_56 rfl rfl ?_
  refine za_iconst (pc := 7) (0) dX2_findBehind_7 (by decide) ?_
  refine za_aload_n (pc := 8) dX2_findBehind_8 rfl ?_
  refine za_getR (pc := 9) dX2_findBehind_9 lk_X2_9 rfl rfl ?_
  refine za_iconst (pc := 12) (0) dX2_findBehind_12 (by decide) ?_
  refine za_aload_n (pc := 13) dX2_findBehind_13 rfl ?_
  refine za_getR (pc := 14) dX2_findBehind_14 lk_X2_31 rfl rfl ?_
  refine za_getI (pc := 17) dX2_findBehind_17 lk_X2_59 rfl rfl ?_
  rw [hj]
  have en : (nI n).toNatClampNeg = n := nI_clamp (by omega)
  refine za_copy (pc := 20) dX2_findBehind_20 ac_X2_62 rfl rfl (by decide) (by decide) (nI_pos (by omega)) (by rw [en]; show 0 + n ≤ 10; omega) (by rw [en]; show 0 + n ≤ 10; omega) (by decide) (by decide) ?_
  refine za_iconst (pc := 23) (0) dX2_findBehind_23 (by decide) ?_
  refine za_is1n (pc := 24) dX2_findBehind_24 rfl ?_
  refine fb_out (w := w) hn (by rw [zrow_n (by decide)]; exact hj) (fun σ' f1 f2 x => ?_) n 0 _ none (by omega) (fun _ _ => rfl) (fun i hi => ?_)
  · refine za_rv (pc := 89) dX2_findBehind_89 rfl rfl rfl ?_
    exact ⟨fun d hd => by rw [f1 d hd, zrow_n hd], f2⟩
  · rw [zrow_s, en]
    unfold va_cpy
    rw [if_pos ⟨Nat.zero_le _, by show i < 0 + n; omega⟩]
    show σ 7 (0 + (i - 0)) = _
    rw [show 0 + (i - 0) = i by omega]
    exact hw i hi
section FF
variable {Z : zZt} {n : Nat} {r : Nat → Nat → Bool} {σ : zSt}
theorem ff_in {a : Nat} (hn : n ≤ 10) (ha : a < n) (hj : σ 2 5 = nI n) (hr : σ 11 a = zmask (r a)) (hE : ∀ σ', (∀ d, d ≠ 12 → σ' d = σ d) → (∀ b, b < n → σ' 12 b = zmask (fun x => decide (x < a + 1) && r x b)) → zA Z mX2_findFollowers none 0 0 66 [some (.ref 10), some (.int (nI a)), some (.int (nI n))] [] SH σ') :
    ∀ (q b : Nat) (σ1 : zSt), b + q = n → (∀ d, d ≠ 12 → σ1 d = σ d) → (∀ i, i < b → σ1 12 i = zmask (fun x => decide (x < a + 1) && r x i)) → (∀ i, b ≤ i → i < n → σ1 12 i = zmask (fun x => decide (x < a) && r x i)) → zA Z mX2_findFollowers none 0 0 23 [some (.ref 10), some (.int (nI a)), some (.int (nI b))] [] SH σ1 := by
  intro q
  induction q with
  | zero =>
    intro b σ1 hb g1 g2 g3
    refine za_iload_n (pc := 23) dX2_findFollowers_23 rfl ?_
    refine za_aload_n (pc := 24) dX2_findFollowers_24 rfl ?_
    refine za_getR (pc := 25) dX2_findFollowers_25 lk_X2_31 rfl rfl ?_
    refine za_getI (pc := 28) dX2_findFollowers_28 lk_X2_59 rfl rfl ?_
    rw [g1 2 (by decide), hj]
    refine za_icmp_ge (pc := 31) 66 dX2_findFollowers_31 (by decide) (fun c5 => ?_) (fun c5 => ?_)
    · have : b = n := by omega
      subst this
      exact hE σ1 g1 g2
    · exact absurd (nI_le (show n ≤ b by omega) (by omega)) c5
  | succ q ih =>
    intro b σ1 hb g1 g2 g3
    have va : vp_in (nI a) 10 := vp_in_nI (by omega) (by decide)
    have ea : (nI a).toNatClampNeg = a := nI_clamp (by omega)
    have vb : vp_in (nI b) 10 := vp_in_nI (by omega) (by decide)
    have eb : (nI b).toNatClampNeg = b := nI_clamp (by omega)
    have rb := g3 b (Nat.le_refl b) (by omega)
    refine za_iload_n (pc := 23) dX2_findFollowers_23 rfl ?_
    refine za_aload_n (pc := 24) dX2_findFollowers_24 rfl ?_
    refine za_getR (pc := 25) dX2_findFollowers_25 lk_X2_31 rfl rfl ?_
    refine za_getI (pc := 28) dX2_findFollowers_28 lk_X2_59 rfl rfl ?_
    rw [g1 2 (by decide), hj]
    refine za_icmp_ge (pc := 31) 66 dX2_findFollowers_31 (by decide) (fun c5 => ?_) (fun c5 => ?_)
    · exact absurd c5 (nI_ge (show b < n by omega) (by omega))
    · refine za_aload_n (pc := 34) dX2_findFollowers_34 rfl ?_
      refine za_getR (pc := 35) dX2_findFollowers_35 lk_X2_9 rfl rfl ?_
      refine za_iload_n (pc := 38) dX2_findFollowers_38 rfl ?_
      refine za_iald (pc := 39) dX2_findFollowers_39 rfl va ?_
      refine za_iload_n (pc := 40) dX2_findFollowers_40 rfl ?_
      refine za_cSN2i (pc := 41) (μ' := mX6_holds) dX2_findFollowers_41 c_X2_52 rfl ⟨rfl, rfl⟩ ⟨rfl, rfl⟩ rfl rfl rfl (tX6_holds) (fun x_41 t_41 h_41 => ?_)
      obtain ⟨rfl, h9⟩ := h_41
      have h9 := h9.symm
      subst h9
      rw [ea, g1 11 (by decide), hr]
      by_cases hh : r a b = false
      · rw [if_pos ((zm_h (by omega)).mpr hh)]
        refine za_if_eq (pc := 44) 60 dX2_findFollowers_44 (by decide) (fun c44 => ?_) (fun c44 => ?_)
        · refine za_ii2 (pc := 60) (1) dX2_findFollowers_60 (by decide) rfl ?_
          refine za_goto (pc := 63) 23 dX2_findFollowers_63 (by decide) ?_
          rw [nI_1]
          refine ih (b + 1) _ (by omega) g1 (fun i hi => ?_) (fun i h1 h2 => g3 i (by omega) h2)
          by_cases e : i = b
          · rw [e, rb]
            apply zm_cong
            intro x _
            by_cases ex : x = a
            · rw [ex, hh]; simp
            · congr 1; simp; omega
          · exact g2 i (by omega)
        · exact absurd rfl c44
      · rw [if_neg (fun q => hh ((zm_h (by omega)).mp q))]
        refine za_if_eq (pc := 44) 60 dX2_findFollowers_44 (by decide) (fun c44 => ?_) (fun c44 => ?_)
        · exact absurd c44 (by decide)
        · refine za_aload_n (pc := 47) dX2_findFollowers_47 rfl ?_
          refine za_getR (pc := 48) dX2_findFollowers_48 lk_X2_15 rfl rfl ?_
          refine za_iload_n (pc := 51) dX2_findFollowers_51 rfl ?_
          refine za_dup2 (pc := 52) dX2_findFollowers_52 rfl rfl ?_
          refine za_iald (pc := 53) dX2_findFollowers_53 rfl vb ?_
          refine za_iload_n (pc := 54) dX2_findFollowers_54 rfl ?_
          refine za_cSN1i (pc := 55) (μ' := mX6_bit) dX2_findFollowers_55 c_X2_74 rfl ⟨rfl, rfl⟩ ⟨rfl, rfl⟩ rfl rfl rfl (tX6_bit) (fun x_55 t_55 h_55 => ?_)
          obtain ⟨rfl, h9⟩ := h_55
          have h9 := h9.symm
          subst h9
          rw [eb, rb, zm_1 (by omega)]
          refine za_ior (pc := 58) dX2_findFollowers_58 ?_
          rw [zm_or]
          refine za_iast (pc := 59) dX2_findFollowers_59 rfl vb ?_
          refine za_ii2 (pc := 60) (1) dX2_findFollowers_60 (by decide) rfl ?_
          refine za_goto (pc := 63) 23 dX2_findFollowers_63 (by decide) ?_
          rw [nI_1, eb]
          refine ih (b + 1) _ (by omega) (fun d hd => by rw [zup_n hd]; exact g1 d hd) (fun i hi => ?_) (fun i h1 h2 => by rw [zup_b (by omega)]; exact g3 i (by omega) h2)
          by_cases e : i = b
          · rw [e, zup_a]
            apply zm_cong
            intro x _
            by_cases ex : x = a
            · rw [ex]; simp at hh; simp [hh]
            · simp [ex]; congr 1; simp; omega
          · rw [zup_b e]; exact g2 i (by omega)
theorem ff_out (hn : n ≤ 10) (hj : σ 2 5 = nI n) (hr : ∀ a, a < n → σ 11 a = zmask (r a)) (hE : ∀ σ', (∀ d, d ≠ 12 → σ' d = σ d) → (∀ b, b < n → σ' 12 b = zmask (flw n r b)) → ∀ x, zA Z mX2_findFollowers none 0 0 72 [some (.ref 10), some (.int (nI n)), x] [] SH σ') :
    ∀ (q a : Nat) (σ1 : zSt) (x : Option Value), a + q = n → (∀ d, d ≠ 12 → σ1 d = σ d) → (∀ i, i < n → σ1 12 i = zmask (fun x => decide (x < a) && r x i)) → zA Z mX2_findFollowers none 0 0 10 [some (.ref 10), some (.int (nI a)), x] [] SH σ1 := by
  intro q
  induction q with
  | zero =>
    intro a σ1 x ha g1 g2
    refine za_iload_n (pc := 10) dX2_findFollowers_10 rfl ?_
    refine za_aload_n (pc := 11) dX2_findFollowers_11 rfl ?_
    refine za_getR (pc := 12) dX2_findFollowers_12 lk_X2_31 rfl rfl ?_
    refine za_getI (pc := 15) dX2_findFollowers_15 lk_X2_59 rfl rfl ?_
    rw [g1 2 (by decide), hj]
    refine za_icmp_ge (pc := 18) 72 dX2_findFollowers_18 (by decide) (fun c5 => ?_) (fun c5 => ?_)
    · have : a = n := by omega
      subst this
      exact hE σ1 g1 g2 x
    · exact absurd (nI_le (show n ≤ a by omega) (by omega)) c5
  | succ q ih =>
    intro a σ1 x ha g1 g2
    refine za_iload_n (pc := 10) dX2_findFollowers_10 rfl ?_
    refine za_aload_n (pc := 11) dX2_findFollowers_11 rfl ?_
    refine za_getR (pc := 12) dX2_findFollowers_12 lk_X2_31 rfl rfl ?_
    refine za_getI (pc := 15) dX2_findFollowers_15 lk_X2_59 rfl rfl ?_
    rw [g1 2 (by decide), hj]
    refine za_icmp_ge (pc := 18) 72 dX2_findFollowers_18 (by decide) (fun c5 => ?_) (fun c5 => ?_)
    · exact absurd c5 (nI_ge (show a < n by omega) (by omega))
    · refine za_iconst (pc := 21) (0) dX2_findFollowers_21 (by decide) ?_
      refine za_is2n (pc := 22) dX2_findFollowers_22 rfl ?_
      refine ff_in (σ := σ1) hn (show a < n by omega) (by rw [g1 2 (by decide)]; exact hj) (by rw [g1 11 (by decide)]; exact hr a (by omega)) (fun σ' f1 f2 => ?_) n 0 σ1 (by omega) (fun _ _ => rfl) (fun i hi => absurd hi (by omega)) (fun i _ hi => g2 i hi)
      refine za_ii1 (pc := 66) (1) dX2_findFollowers_66 (by decide) rfl ?_
      refine za_goto (pc := 69) 10 dX2_findFollowers_69 (by decide) ?_
      rw [nI_1]
      exact ih (a + 1) σ' _ (by omega) (fun d hd => by rw [f1 d hd]; exact g1 d hd) f2
end FF
theorem tX2_findFollowers {n : Nat} {r : Nat → Nat → Bool} {σ : zSt} (hn : n ≤ 10) (hj : σ 2 5 = nI n) (hr : ∀ a, a < n → σ 11 a = zmask (r a)) : zV mX2_findFollowers [.ref 10] SH σ (fun t => (∀ d, d ≠ 12 → t d = σ d) ∧ ∀ b, b < n → t 12 b = zmask (flw n r b)) := by
  refine zV_of (ls := [some (.ref 10), none, none]) (by decide) rfl rfl ?_
  refine za_aload_n (pc := 0) dX2_findFollowers_0 rfl ?_
  refine za_getR (pc := 1) dX2_findFollowers_1 lk_X2_15 rfl rfl ?_
  refine za_iconst (pc := 4) (0) dX2_findFollowers_4 (by decide) ?_
  refine za_cS2v (pc := 5) (μ' := mJ7_fill_53178) dX2_findFollowers_5 c_X2_68 rfl ⟨rfl, rfl⟩ ⟨rfl, rfl⟩ rfl rfl rfl (tJ7_fill_53178 (N := 10) rfl (by decide)) (fun t_5 h_5 => ?_)
  have h9 := h_5.symm
  subst h9
  refine za_iconst (pc := 8) (0) dX2_findFollowers_8 (by decide) ?_
  refine za_is1n (pc := 9) dX2_findFollowers_9 rfl ?_
  refine ff_out (r := r) hn (by rw [zrow_n (by decide)]; exact hj) (fun a ha => by rw [zrow_n (by decide)]; exact hr a ha) (fun σ' f1 f2 x => ?_) n 0 _ none (by omega) (fun _ _ => rfl) (fun i hi => ?_)
  · refine za_rv (pc := 72) dX2_findFollowers_72 rfl rfl rfl ?_
    exact ⟨fun d hd => by rw [f1 d hd, zrow_n hd], f2⟩
  · rw [zrow_s, fa_fill, if_pos (by omega), ← zm_0]
    exact zm_cong (fun x _ => by simp)
section FN
variable {Z : zZt} {n : Nat} {r : Nat → Nat → Bool} {σ : zSt}
theorem fn_in {b : Nat} (hn : n ≤ 10) (hb : b < n) (hj : σ 2 5 = nI n) (hr : ∀ a, a < n → σ 11 a = zmask (r a)) (hf : σ 12 b = zmask (flw n r b)) (hE : ∀ σ', (∀ d, d ≠ 13 → σ' d = σ d) → (∀ i, i ≠ b → σ' 13 i = σ 13 i) → σ' 13 b = zmask (nxt n r b) → zA Z mX2_findNexts none 0 0 82 [some (.ref 10), some (.int (nI b)), some (.int (nI n))] [] SH σ') :
    ∀ (q a : Nat) (σ1 : zSt), a + q = n → (∀ d, d ≠ 13 → σ1 d = σ d) → (∀ i, i ≠ b → σ1 13 i = σ 13 i) → σ1 13 b = zmask (fun x => decide (x < a) && nxt n r b x) → zA Z mX2_findNexts none 0 0 23 [some (.ref 10), some (.int (nI b)), some (.int (nI a))] [] SH σ1 := by
  intro q
  induction q with
  | zero =>
    intro a σ1 ha g1 g2 g3
    refine za_iload_n (pc := 23) dX2_findNexts_23 rfl ?_
    refine za_aload_n (pc := 24) dX2_findNexts_24 rfl ?_
    refine za_getR (pc := 25) dX2_findNexts_25 lk_X2_31 rfl rfl ?_
    refine za_getI (pc := 28) dX2_findNexts_28 lk_X2_59 rfl rfl ?_
    rw [g1 2 (by decide), hj]
    refine za_icmp_ge (pc := 31) 82 dX2_findNexts_31 (by decide) (fun c5 => ?_) (fun c5 => ?_)
    · have : a = n := by omega
      subst this
      refine hE σ1 g1 g2 (g3.trans (zm_cong (fun x _ => ?_)))
      unfold nxt flw
      by_cases hx : x < a
      · simp [hx]
      · simp [hx]
    · exact absurd (nI_le (show n ≤ a by omega) (by omega)) c5
  | succ q ih =>
    intro a σ1 ha g1 g2 g3
    have va : vp_in (nI a) 10 := vp_in_nI (by omega) (by decide)
    have ea : (nI a).toNatClampNeg = a := nI_clamp (by omega)
    have vb : vp_in (nI b) 10 := vp_in_nI (by omega) (by decide)
    have eb : (nI b).toNatClampNeg = b := nI_clamp (by omega)
    have skip : nxt n r b a = false → zA Z mX2_findNexts none 0 0 76 [some (.ref 10), some (.int (nI b)), some (.int (nI a))] [] SH σ1 := by
      intro hx
      refine za_ii2 (pc := 76) (1) dX2_findNexts_76 (by decide) rfl ?_
      refine za_goto (pc := 79) 23 dX2_findNexts_79 (by decide) ?_
      rw [nI_1]
      refine ih (a + 1) _ (by omega) g1 g2 (g3.trans (zm_cong (fun x _ => ?_)))
      by_cases ex : x = a
      · rw [ex, hx]; simp
      · congr 1; simp; omega
    refine za_iload_n (pc := 23) dX2_findNexts_23 rfl ?_
    refine za_aload_n (pc := 24) dX2_findNexts_24 rfl ?_
    refine za_getR (pc := 25) dX2_findNexts_25 lk_X2_31 rfl rfl ?_
    refine za_getI (pc := 28) dX2_findNexts_28 lk_X2_59 rfl rfl ?_
    rw [g1 2 (by decide), hj]
    refine za_icmp_ge (pc := 31) 82 dX2_findNexts_31 (by decide) (fun c5 => ?_) (fun c5 => ?_)
    · exact absurd c5 (nI_ge (show a < n by omega) (by omega))
    · refine za_aload_n (pc := 34) dX2_findNexts_34 rfl ?_
      refine za_getR (pc := 35) dX2_findNexts_35 lk_X2_15 rfl rfl ?_
      refine za_iload_n (pc := 38) dX2_findNexts_38 rfl ?_
      refine za_iald (pc := 39) dX2_findNexts_39 rfl vb ?_
      refine za_iload_n (pc := 40) dX2_findNexts_40 rfl ?_
      refine za_cSN2i (pc := 41) (μ' := mX6_holds) dX2_findNexts_41 c_X2_52 rfl ⟨rfl, rfl⟩ ⟨rfl, rfl⟩ rfl rfl rfl (tX6_holds) (fun x_41 t_41 h_41 => ?_)
      obtain ⟨rfl, h9⟩ := h_41
      have h9 := h9.symm
      subst h9
      rw [eb, g1 12 (by decide), hf]
      by_cases hh : flw n r b a = false
      · rw [if_pos ((zm_h (by omega)).mpr hh)]
        refine za_if_eq (pc := 44) 76 dX2_findNexts_44 (by decide) (fun c44 => ?_) (fun c44 => ?_)
        · exact skip (by unfold nxt; rw [hh]; rfl)
        · exact absurd rfl c44
      · rw [if_neg (fun q => hh ((zm_h (by omega)).mp q))]
        refine za_if_eq (pc := 44) 76 dX2_findNexts_44 (by decide) (fun c44 => ?_) (fun c44 => ?_)
        · exact absurd c44 (by decide)
        · refine za_aload_n (pc := 47) dX2_findNexts_47 rfl ?_
          refine za_getR (pc := 48) dX2_findNexts_48 lk_X2_9 rfl rfl ?_
          refine za_iload_n (pc := 51) dX2_findNexts_51 rfl ?_
          refine za_iald (pc := 52) dX2_findNexts_52 rfl va ?_
          refine za_aload_n (pc := 53) dX2_findNexts_53 rfl ?_
          refine za_getR (pc := 54) dX2_findNexts_54 lk_X2_15 rfl rfl ?_
          refine za_iload_n (pc := 57) dX2_findNexts_57 rfl ?_
          refine za_iald (pc := 58) dX2_findNexts_58 rfl vb ?_
          rw [ea, eb, g1 11 (by decide), g1 12 (by decide), hf, hr a (by omega)]
          refine za_iand (pc := 59) dX2_findNexts_59 ?_
          rw [zm_and]
          refine za_if_ne (pc := 60) 76 dX2_findNexts_60 (by decide) (fun c60 => ?_) (fun c60 => ?_)
          · rw [zm_z] at c60
            refine skip ?_
            unfold nxt
            cases hany : anyb (fun i => r a i && flw n r b i) 16 with
            | true => simp
            | false => exact absurd (anyb_f.mp hany) c60
          · rw [zm_z] at c60
            have hx : nxt n r b a = true := by
              unfold nxt
              rw [anyb_f.mpr c60]
              simpa using hh
            refine za_aload_n (pc := 63) dX2_findNexts_63 rfl ?_
            refine za_getR (pc := 64) dX2_findNexts_64 lk_X2_18 rfl rfl ?_
            refine za_iload_n (pc := 67) dX2_findNexts_67 rfl ?_
            refine za_dup2 (pc := 68) dX2_findNexts_68 rfl rfl ?_
            refine za_iald (pc := 69) dX2_findNexts_69 rfl vb ?_
            refine za_iload_n (pc := 70) dX2_findNexts_70 rfl ?_
            refine za_cSN1i (pc := 71) (μ' := mX6_bit) dX2_findNexts_71 c_X2_74 rfl ⟨rfl, rfl⟩ ⟨rfl, rfl⟩ rfl rfl rfl (tX6_bit) (fun x_71 t_71 h_71 => ?_)
            obtain ⟨rfl, h9⟩ := h_71
            have h9 := h9.symm
            subst h9
            rw [eb, g3, zm_1 (by omega)]
            refine za_ior (pc := 74) dX2_findNexts_74 ?_
            rw [zm_or]
            refine za_iast (pc := 75) dX2_findNexts_75 rfl vb ?_
            refine za_ii2 (pc := 76) (1) dX2_findNexts_76 (by decide) rfl ?_
            refine za_goto (pc := 79) 23 dX2_findNexts_79 (by decide) ?_
            rw [nI_1, eb]
            refine ih (a + 1) _ (by omega) (fun d hd => by rw [zup_n hd]; exact g1 d hd) (fun i hi => by rw [zup_b hi]; exact g2 i hi) ?_
            rw [zup_a]
            apply zm_cong
            intro x _
            by_cases ex : x = a
            · rw [ex]; simp [hx]
            · simp [ex]; congr 1; simp; omega
theorem fn_out (hn : n ≤ 10) (hj : σ 2 5 = nI n) (hr : ∀ a, a < n → σ 11 a = zmask (r a)) (hf : ∀ b, b < n → σ 12 b = zmask (flw n r b)) (hE : ∀ σ', (∀ d, d ≠ 13 → σ' d = σ d) → (∀ b, b < n → σ' 13 b = zmask (nxt n r b)) → ∀ x, zA Z mX2_findNexts none 0 0 88 [some (.ref 10), some (.int (nI n)), x] [] SH σ') :
    ∀ (q b : Nat) (σ1 : zSt) (x : Option Value), b + q = n → (∀ d, d ≠ 13 → σ1 d = σ d) → (∀ i, i < b → σ1 13 i = zmask (nxt n r i)) → (∀ i, b ≤ i → i < 10 → σ1 13 i = 0) → zA Z mX2_findNexts none 0 0 10 [some (.ref 10), some (.int (nI b)), x] [] SH σ1 := by
  intro q
  induction q with
  | zero =>
    intro b σ1 x hb g1 g2 g3
    refine za_iload_n (pc := 10) dX2_findNexts_10 rfl ?_
    refine za_aload_n (pc := 11) dX2_findNexts_11 rfl ?_
    refine za_getR (pc := 12) dX2_findNexts_12 lk_X2_31 rfl rfl ?_
    refine za_getI (pc := 15) dX2_findNexts_15 lk_X2_59 rfl rfl ?_
    rw [g1 2 (by decide), hj]
    refine za_icmp_ge (pc := 18) 88 dX2_findNexts_18 (by decide) (fun c5 => ?_) (fun c5 => ?_)
    · have : b = n := by omega
      subst this
      exact hE σ1 g1 g2 x
    · exact absurd (nI_le (show n ≤ b by omega) (by omega)) c5
  | succ q ih =>
    intro b σ1 x hb g1 g2 g3
    refine za_iload_n (pc := 10) dX2_findNexts_10 rfl ?_
    refine za_aload_n (pc := 11) dX2_findNexts_11 rfl ?_
    refine za_getR (pc := 12) dX2_findNexts_12 lk_X2_31 rfl rfl ?_
    refine za_getI (pc := 15) dX2_findNexts_15 lk_X2_59 rfl rfl ?_
    rw [g1 2 (by decide), hj]
    refine za_icmp_ge (pc := 18) 88 dX2_findNexts_18 (by decide) (fun c5 => ?_) (fun c5 => ?_)
    · exact absurd c5 (nI_ge (show b < n by omega) (by omega))
    · refine za_iconst (pc := 21) (0) dX2_findNexts_21 (by decide) ?_
      refine za_is2n (pc := 22) dX2_findNexts_22 rfl ?_
      refine fn_in (σ := σ1) (r := r) hn (show b < n by omega) (by rw [g1 2 (by decide)]; exact hj) (fun a ha => by rw [g1 11 (by decide)]; exact hr a ha) (by rw [g1 12 (by decide)]; exact hf b (by omega)) (fun σ' f1 f2 f3 => ?_) n 0 σ1 (by omega) (fun _ _ => rfl) (fun _ _ => rfl) ?_
      · refine za_ii1 (pc := 82) (1) dX2_findNexts_82 (by decide) rfl ?_
        refine za_goto (pc := 85) 10 dX2_findNexts_85 (by decide) ?_
        rw [nI_1]
        refine ih (b + 1) σ' _ (by omega) (fun d hd => by rw [f1 d hd]; exact g1 d hd) (fun i hi => ?_) (fun i h1 h2 => by rw [f2 i (by omega)]; exact g3 i (by omega) h2)
        by_cases e : i = b
        · rw [e]; exact f3
        · rw [f2 i e]; exact g2 i (by omega)
      · rw [g3 b (Nat.le_refl b) (by omega), ← zm_0]
        exact zm_cong (fun x _ => by simp)
end FN
theorem tX2_findNexts {n : Nat} {r : Nat → Nat → Bool} {σ : zSt} (hn : n ≤ 10) (hj : σ 2 5 = nI n) (hr : ∀ a, a < n → σ 11 a = zmask (r a)) (hf : ∀ b, b < n → σ 12 b = zmask (flw n r b)) : zV mX2_findNexts [.ref 10] SH σ (fun t => (∀ d, d ≠ 13 → t d = σ d) ∧ ∀ b, b < n → t 13 b = zmask (nxt n r b)) := by
  refine zV_of (ls := [some (.ref 10), none, none]) (by decide) rfl rfl ?_
  refine za_aload_n (pc := 0) dX2_findNexts_0 rfl ?_
  refine za_getR (pc := 1) dX2_findNexts_1 lk_X2_18 rfl rfl ?_
  refine za_iconst (pc := 4) (0) dX2_findNexts_4 (by decide) ?_
  refine za_cS2v (pc := 5) (μ' := mJ7_fill_53178) dX2_findNexts_5 c_X2_68 rfl ⟨rfl, rfl⟩ ⟨rfl, rfl⟩ rfl rfl rfl (tJ7_fill_53178 (N := 10) rfl (by decide)) (fun t_5 h_5 => ?_)
  have h9 := h_5.symm
  subst h9
  refine za_iconst (pc := 8) (0) dX2_findNexts_8 (by decide) ?_
  refine za_is1n (pc := 9) dX2_findNexts_9 rfl ?_
  refine fn_out (r := r) hn (by rw [zrow_n (by decide)]; exact hj) (fun a ha => by rw [zrow_n (by decide)]; exact hr a ha) (fun a ha => by rw [zrow_n (by decide)]; exact hf a ha) (fun σ' f1 f2 x => ?_) n 0 _ none (by omega) (fun _ _ => rfl) (fun i hi => absurd hi (by omega)) (fun i _ hi => ?_)
  · refine za_rv (pc := 88) dX2_findNexts_88 rfl rfl rfl ?_
    exact ⟨fun d hd => by rw [f1 d hd, zrow_n hd], f2⟩
  · rw [zrow_s, fa_fill, if_pos hi]
