/-! pairs of both sides -/
theorem shl1 : ∀ n, n < 11 → (1 : Int32) <<< (nI n &&& 31) = nI (2 ^ n) := by decide
theorem mkm_tb {s : Nat} (h : s < 65536) : mkm (fun i => s.testBit i) 16 = s := Nat.eq_of_testBit_eq (fun i => by
  rw [mkm_bit]
  by_cases hi : i < 16
  · simp [hi]
  · have : s.testBit i = false := Nat.testBit_lt_two_pow (Nat.lt_of_lt_of_le h (show 2 ^ 16 ≤ 2 ^ i from Nat.pow_le_pow_right (by decide) (by omega)))
    rw [this, Bool.and_false])
theorem mkm_rmv {S : Nat → Bool} {a : Nat} (ha : S a = true) (h : a < 16) : mkm (rmv S a) 16 < mkm S 16 := mkm_ltI.mpr ⟨a, h, by simp [rmv], ha, fun j hj _ => by
  unfold rmv
  have : j ≠ a := by omega
  simp [this]⟩
theorem mkm_inj {S T : Nat → Bool} (hS : ∀ x, S x = true → x < 16) (hT : ∀ x, T x = true → x < 16) (h : mkm S 16 = mkm T 16) : S = T := by
  funext i
  by_cases hi : i < 16
  · have := congrArg (fun z => z.testBit i) h
    simpa [mkm_bit, hi] using this
  · cases h1 : S i with
    | true => exact absurd (hS i h1) hi
    | false =>
      cases h2 : T i with
      | true => exact absurd (hT i h2) hi
      | false => rfl
def PP (t : zSt) (S : Nat → Bool) : Nat := (t 64 (mkm S 16)).toNatClampNeg
def PInv (n : Nat) (r : Nat → Nat → Bool) (s : Nat) (t : zSt) : Prop := (∀ j, j < s → t 64 j = nI ((t 64 j).toNatClampNeg) ∧ (t 64 j).toNatClampNeg ≤ j) ∧
  ∀ (S : Nat → Bool) (a : Nat), mkm S 16 < s → (∀ x, S x = true → x < n) → S a = true → (∀ x, x < a → S x = false) → PP t S = bst r (PP t) S a n
theorem bst_cong {r : Nat → Nat → Bool} {P P' : (Nat → Bool) → Nat} {S : Nat → Bool} {a : Nat} (h0 : P (rmv S a) = P' (rmv S a)) (h1 : ∀ b, S b = true → a < b → P (rmv (rmv S a) b) = P' (rmv (rmv S a) b)) : ∀ k, bst r P S a k = bst r P' S a k
  | 0 => h0
  | k + 1 => by
    have ih := bst_cong (r := r) h0 h1 k
    unfold bst
    by_cases hc : a < k ∧ S k = true ∧ r a k = false ∧ r k a = false
    · rw [if_pos hc, if_pos hc, ih, h1 k hc.2.1 hc.1]
    · rw [if_neg hc, if_neg hc, ih]
theorem bst_low {r : Nat → Nat → Bool} {P : (Nat → Bool) → Nat} {S : Nat → Bool} {a : Nat} : ∀ k, k ≤ a + 1 → bst r P S a k = P (rmv S a)
  | 0, _ => rfl
  | k + 1, h => by
    unfold bst
    rw [if_neg (fun q => by omega)]
    exact bst_low k (by omega)
theorem pinv_val {n s : Nat} {r : Nat → Nat → Bool} {t : zSt} (hp : PInv n r s t) {S : Nat → Bool} (h : mkm S 16 < s) : t 64 (mkm S 16) = nI (PP t S) ∧ PP t S ≤ mkm S 16 := hp.1 _ h
theorem pinv_bst {n s a k : Nat} {r : Nat → Nat → Bool} {t : zSt} (hp : PInv n r s t) {S : Nat → Bool} (hS : ∀ x, S x = true → x < 16) (ha : S a = true) (h : mkm S 16 ≤ s) : bst r (PP t) S a k ≤ s := by
  have h1 := mkm_rmv ha (hS a ha)
  refine bst_le ?_ k (fun b hb hab hSb _ _ => ?_)
  · have := (pinv_val hp (S := rmv S a) (by omega)).2
    omega
  · have h2 := mkm_rmv (S := rmv S a) (a := b) (rmv_t.mpr ⟨hSb, by omega⟩) (hS b hSb)
    have := (pinv_val hp (S := rmv (rmv S a) b) (by omega)).2
    omega
theorem pinv_step {n s a : Nat} {r : Nat → Nat → Bool} {t : zSt} (hn : n ≤ 10) (hp : PInv n r s t) (hs : s < 65536) {p : Nat → Bool} (hpn : ∀ x, p x = true → x < n) (hps : mkm p 16 = s) (ha : p a = true) (hlow : ∀ x, x < a → p x = false) : PInv n r (s + 1) (zup t 64 s (nI (bst r (PP t) p a n))) := by
  have hb := pinv_bst hp (k := n) (S := p) (fun x hx => by have := hpn x hx; omega) ha (Nat.le_of_eq hps)
  have hPP : ∀ S, mkm S 16 ≠ s → PP (zup t 64 s (nI (bst r (PP t) p a n))) S = PP t S := fun S hS => by
    unfold PP
    rw [zup_b hS]
  refine ⟨fun j hj => ?_, fun S a' hm hS hSa hlo => ?_⟩
  · by_cases e : j = s
    · rw [e, zup_a, nI_clamp (by omega)]
      exact ⟨rfl, hb⟩
    · rw [zup_b e]
      exact hp.1 j (by omega)
  · by_cases e : mkm S 16 = s
    · have eS : S = p := mkm_inj (fun x hx => by have := hS x hx; omega) (fun x hx => by have := hpn x hx; omega) (e.trans hps.symm)
      subst eS
      have ea : a' = a := by
        rcases Nat.lt_trichotomy a' a with q | q | q
        · rw [hlow a' q] at hSa; cases hSa
        · exact q
        · rw [hlo a q] at ha; cases ha
      subst ea
      have h3 : bst r (PP (zup t 64 s (nI (bst r (PP t) S a' n)))) S a' n = bst r (PP t) S a' n := by
        have h1 := mkm_rmv hSa (by have := hS a' hSa; omega)
        refine bst_cong (hPP _ (by omega)) (fun b hSb hab => hPP _ ?_) n
        have h2 := mkm_rmv (S := rmv S a') (a := b) (rmv_t.mpr ⟨hSb, by omega⟩) (by have := hS b hSb; omega)
        omega
      rw [h3]
      show (zup t 64 s (nI (bst r (PP t) S a' n)) 64 (mkm S 16)).toNatClampNeg = _
      rw [e, zup_a, nI_clamp (by omega)]
    · have h3 : bst r (PP (zup t 64 s (nI (bst r (PP t) p a n)))) S a' n = bst r (PP t) S a' n := by
        have h1 := mkm_rmv hSa (by have := hS a' hSa; omega)
        refine bst_cong (hPP _ (by omega)) (fun b hSb hab => hPP _ ?_) n
        have h2 := mkm_rmv (S := rmv S a') (a := b) (rmv_t.mpr ⟨hSb, by omega⟩) (by have := hS b hSb; omega)
        omega
      rw [hPP S e, h3]
      exact hp.2 S a' (by omega) hS hSa hlo
theorem tX7_pairs {σ : zSt} {c : Core} (h : MP σ c) : zI mX7_pairs [.ref 47] SH σ (fun x t => x = nI (cN c - dLen c) ∧ ∀ d, d ≠ 59 → d ≠ 64 → t d = σ d) := by
  have hn := h.2.1
  have ho := bhd_ord h.2
  refine zI_of (ls := [some (.ref 47), none, none, none, none, none, none]) (by decide) rfl rfl ?_
  refine za_aload_n (pc := 0) dX7_pairs_0 rfl ?_
  refine za_cV0v (pc := 1) (μ' := mX7_layBehind) dX7_pairs_1 c_X7_115 rfl rfl rfl ⟨rfl, rfl⟩ ⟨rfl, rfl⟩ rfl rfl rfl (tX7_layBehind hn h.1.1 (fun a ha => (h.1.2 a ha).2.2.2.2)) (fun t_1 h_1 => ?_)
  obtain ⟨q1, q2, -⟩ := h_1
  have v0 : vp_in (nI 0) 1024 := vp_in_nI (by decide) (by decide)
  refine za_aload_n (pc := 4) dX7_pairs_4 rfl ?_
  refine za_getR (pc := 5) dX7_pairs_5 lk_X7_58 rfl rfl ?_
  refine za_iconst (pc := 8) (0) dX7_pairs_8 (by decide) ?_
  refine za_iconst (pc := 9) (0) dX7_pairs_9 (by decide) ?_
  refine za_iast (pc := 10) dX7_pairs_10 rfl v0 ?_
  refine za_iconst (pc := 11) (1) dX7_pairs_11 (by decide) ?_
  refine za_is1n (pc := 12) dX7_pairs_12 rfl ?_
  generalize hn' : cN c = n at *
  generalize hr : wR (cW c) n = r at *
  have hpow : 2 ^ n ≤ 1024 := Nat.le_trans (Nat.pow_le_pow_right (by decide) hn) (by decide)
  have loop : ∀ (q s : Nat) (σ1 : zSt), s + q = 2 ^ n → 1 ≤ s → (∀ d, d ≠ 64 → σ1 d = t_1 d) → PInv n r s σ1 → zA (zZ mX7_pairs (zQI SH (fun x t => x = nI (n - dLen c) ∧ ∀ d, d ≠ 59 → d ≠ 64 → t d = σ d))) mX7_pairs none 0 0 13 [some (.ref 47), some (.int (nI s)), none, none, none, none, none] [] SH σ1 := by
    intro q
    induction q with
    | zero =>
      intro s σ1 hs hs1 g1 g2
      have sj : σ1 47 3 = nI n := by rw [g1 47 (by decide), q1 47 (by decide), ← hn']; exact h.1.1
      refine za_iload_n (pc := 13) dX7_pairs_13 rfl ?_
      refine za_iconst (pc := 14) (1) dX7_pairs_14 (by decide) ?_
      refine za_aload_n (pc := 15) dX7_pairs_15 rfl ?_
      refine za_getI (pc := 16) dX7_pairs_16 lk_X7_91 rfl rfl ?_
      refine za_ishl (pc := 19) dX7_pairs_19 ?_
      rw [sj, shl1 n (by omega)]
      refine za_icmp_ge (pc := 20) 152 dX7_pairs_20 (by decide) (fun c20 => ?_) (fun c20 => ?_)
      · have hR : PRule n r (PP σ1) := by
          refine ⟨fun S hS => ?_, fun S a hS ha hlo => ?_⟩
          · have e0 : mkm S 16 = 0 := Nat.eq_of_testBit_eq (fun i => by rw [mkm_bit, hS i, Bool.and_false, Nat.zero_testBit])
            have := (pinv_val g2 (S := S) (by omega)).2
            omega
          · refine g2.2 S a ?_ hS ha hlo
            have : mkm S 16 < 2 ^ n := Nat.lt_pow_two_of_testBit _ (fun i hi => by
              rw [mkm_bit]
              cases hx : S i with
              | false => simp
              | true => have := hS i hx; omega)
            omega
        have hf : PP σ1 (alln n) + dLen c = n := by
          have e : dLen c = lnA n r := by rw [← hr, ← hn']
          rw [e]
          exact PR_fin (hr ▸ hn' ▸ ho) hn hR
        have hm : mkm (alln n) 16 < 1024 := by
          have : mkm (alln n) 16 < 2 ^ n := Nat.lt_pow_two_of_testBit _ (fun i hi => by
            rw [mkm_bit]
            have : ¬ i < n := by omega
            simp [this])
          omega
        have ev : (zmask (alln n)).toNatClampNeg = mkm (alln n) 16 := nI_clamp (by omega)
        have vv : vp_in (zmask (alln n)) 1024 := vp_in_nI hm (by decide)
        have hval := (pinv_val g2 (S := alln n) (by
          have : mkm (alln n) 16 < 2 ^ n := Nat.lt_pow_two_of_testBit _ (fun i hi => by
            rw [mkm_bit]
            have : ¬ i < n := by omega
            simp [this])
          omega)).1
        refine za_aload_n (pc := 152) dX7_pairs_152 rfl ?_
        refine za_getR (pc := 153) dX7_pairs_153 lk_X7_58 rfl rfl ?_
        refine za_aload_n (pc := 156) dX7_pairs_156 rfl ?_
        refine za_cV0i (pc := 157) (μ' := mX7_all) dX7_pairs_157 c_X7_161 rfl rfl rfl ⟨rfl, rfl⟩ ⟨rfl, rfl⟩ rfl rfl rfl (tX7_all hn sj) (fun x_157 t_157 h_157 => ?_)
        obtain ⟨rfl, h9⟩ := h_157
        have h9 := h9.symm
        subst h9
        refine za_iald (pc := 160) dX7_pairs_160 rfl vv ?_
        refine za_ri (pc := 161) dX7_pairs_161 rfl rfl rfl ?_
        rw [ev, hval]
        exact ⟨by congr 1; omega, fun d h1 h2 => by rw [g1 d h2, q1 d h1]⟩
      · exact absurd (nI_le (show 2 ^ n ≤ s by omega) (by omega)) c20
    | succ q ih =>
      intro s σ1 hs hs1 g1 g2
      have sj : σ1 47 3 = nI n := by rw [g1 47 (by decide), q1 47 (by decide), ← hn']; exact h.1.1
      have s59 : ∀ a, a < n → σ1 59 a = zmask (r a) := fun a ha => by rw [g1 59 (by decide)]; exact q2 a ha
      have hs2 : s < 1024 := by omega
      obtain ⟨p, hp⟩ : ∃ p : Nat → Bool, p = fun i => s.testBit i := ⟨_, rfl⟩
      have hps : mkm p 16 = s := by rw [hp]; exact mkm_tb (by omega)
      have hpn : ∀ x, p x = true → x < n := fun x hx => by
        apply Classical.byContradiction
        intro hno
        rw [hp] at hx
        have hx : s.testBit x = true := hx
        rw [Nat.testBit_lt_two_pow (Nat.lt_of_lt_of_le (show s < 2 ^ n by omega) (Nat.pow_le_pow_right (by decide) (by omega)))] at hx
        cases hx
      have hex : ∃ x, p x = true := by
        apply Classical.byContradiction
        intro hno
        have : s = 0 := by
          rw [← hps]
          exact Nat.eq_of_testBit_eq (fun i => by
            rw [mkm_bit, Nat.zero_testBit]
            cases hx : p i with
            | false => simp
            | true => exact absurd ⟨i, hx⟩ hno)
        omega
      obtain ⟨x, hx⟩ := hex
      obtain ⟨a, ha, hlow⟩ := low_ex _ (Nat.le_refl _) hx
      have han := hpn a ha
      have ez : nI s = zmask p := by unfold zmask; rw [hps]
      have es : (nI s).toNatClampNeg = s := nI_clamp (by omega)
      have vs : vp_in (nI s) 1024 := vp_in_nI hs2 (by decide)
      have l1 := mkm_rmv ha (show a < 16 by omega)
      have e1 : (zmask (rmv p a)).toNatClampNeg = mkm (rmv p a) 16 := nI_clamp (by omega)
      have v1 : vp_in (zmask (rmv p a)) 1024 := vp_in_nI (by omega) (by decide)
      -- the end of the row of b's
      have fin : ∀ x5 x6, zA (zZ mX7_pairs (zQI SH (fun x t => x = nI (n - dLen c) ∧ ∀ d, d ≠ 59 → d ≠ 64 → t d = σ d))) mX7_pairs none 0 0 138 [some (.ref 47), some (.int (nI s)), some (.int (nI a)), some (.int (zmask (rmv p a))), some (.int (nI (bst r (PP σ1) p a n))), x5, x6] [] SH σ1 := by
        intro x5 x6
        refine za_aload_n (pc := 138) dX7_pairs_138 rfl ?_
        refine za_getR (pc := 139) dX7_pairs_139 lk_X7_58 rfl rfl ?_
        refine za_iload_n (pc := 142) dX7_pairs_142 rfl ?_
        refine za_iload (pc := 143) dX7_pairs_143 rfl ?_
        refine za_iast (pc := 145) dX7_pairs_145 rfl vs ?_
        refine za_ii1 (pc := 146) (1) dX7_pairs_146 (by decide) rfl ?_
        refine za_goto (pc := 149) 13 dX7_pairs_149 (by decide) ?_
        rw [nI_1, es]
        exact za_fg (by simp [zSub]) (ih (s + 1) _ (by omega) (by omega) (fun d hd => by rw [zup_n hd]; exact g1 d hd) (pinv_step hn g2 (by omega) hpn hps ha hlow))
      have inner : ∀ (q b : Nat), b + q = n → a < b → zA (zZ mX7_pairs (zQI SH (fun x t => x = nI (n - dLen c) ∧ ∀ d, d ≠ 59 → d ≠ 64 → t d = σ d))) mX7_pairs none 0 0 60 [some (.ref 47), some (.int (nI s)), some (.int (nI a)), some (.int (zmask (rmv p a))), some (.int (nI (bst r (PP σ1) p a b))), some (.int (nI b)), none] [] SH σ1 := by
        intro q
        induction q with
        | zero =>
          intro b hb hab
          refine za_iload (pc := 60) dX7_pairs_60 rfl ?_
          refine za_aload_n (pc := 62) dX7_pairs_62 rfl ?_
          refine za_getI (pc := 63) dX7_pairs_63 lk_X7_91 rfl rfl ?_
          rw [sj]
          refine za_icmp_ge (pc := 66) 138 dX7_pairs_66 (by decide) (fun c66 => ?_) (fun c66 => ?_)
          · rw [show b = n by omega]
            exact fin _ _
          · exact absurd (nI_le (show n ≤ b by omega) (by omega)) c66
        | succ q ih2 =>
          intro b hb hab
          have hbn : b < n := by omega
          have next : ∀ (x4 : Int32) y, x4 = nI (bst r (PP σ1) p a (b + 1)) → zA (zZ mX7_pairs (zQI SH (fun x t => x = nI (n - dLen c) ∧ ∀ d, d ≠ 59 → d ≠ 64 → t d = σ d))) mX7_pairs none 0 0 132 [some (.ref 47), some (.int (nI s)), some (.int (nI a)), some (.int (zmask (rmv p a))), some (.int x4), some (.int (nI b)), y] [] SH σ1 := by
            intro x4 y e
            refine za_ii5 (pc := 132) (1) dX7_pairs_132 (by decide) rfl ?_
            refine za_goto (pc := 135) 60 dX7_pairs_135 (by decide) ?_
            rw [nI_1, e]
            exact za_fg (by simp [zSub]) (ih2 (b + 1) (by omega) (by omega))
          have no : ¬ (a < b ∧ p b = true ∧ r a b = false ∧ r b a = false) → bst r (PP σ1) p a (b + 1) = bst r (PP σ1) p a b := fun q => by
            show (if a < b ∧ p b = true ∧ r a b = false ∧ r b a = false then _ else _) = _
            rw [if_neg q]
          refine za_iload (pc := 60) dX7_pairs_60 rfl ?_
          refine za_aload_n (pc := 62) dX7_pairs_62 rfl ?_
          refine za_getI (pc := 63) dX7_pairs_63 lk_X7_91 rfl rfl ?_
          rw [sj]
          refine za_icmp_ge (pc := 66) 138 dX7_pairs_66 (by decide) (fun c66 => ?_) (fun c66 => ?_)
          · exact absurd c66 (nI_ge (show b < n by omega) (by omega))
          refine za_iload_n (pc := 69) dX7_pairs_69 rfl ?_
          refine za_iload (pc := 70) dX7_pairs_70 rfl ?_
          refine za_ishr (pc := 72) dX7_pairs_72 ?_
          refine za_iconst (pc := 73) (1) dX7_pairs_73 (by decide) ?_
          refine za_iand (pc := 74) dX7_pairs_74 ?_
          refine za_iconst (pc := 75) (1) dX7_pairs_75 (by decide) ?_
          rw [zm_sr (by omega)]
          by_cases hpb : p b = true
          · have hpb2 : rmv p a b = true := rmv_t.mpr ⟨hpb, by omega⟩
            rw [if_pos hpb2]
            refine za_icmp_ne (pc := 76) 132 dX7_pairs_76 (by decide) (fun c76 => ?_) (fun c76 => ?_)
            · exact absurd rfl c76
            refine za_aload_n (pc := 79) dX7_pairs_79 rfl ?_
            refine za_iload_n (pc := 80) dX7_pairs_80 rfl ?_
            refine za_iload (pc := 81) dX7_pairs_81 rfl ?_
            refine za_cV2i (pc := 83) (μ' := mX7_isBehind) dX7_pairs_83 c_X7_118 rfl rfl rfl ⟨rfl, rfl⟩ ⟨rfl, rfl⟩ rfl rfl rfl (tX7_isBehind (p := r a) (by omega) (by omega) (s59 a han)) (fun x_83 t_83 h_83 => ?_)
            obtain ⟨rfl, h9⟩ := h_83
            have h9 := h9.symm
            subst h9
            refine za_if_ne (pc := 86) 132 dX7_pairs_86 (by decide) (fun c86 => ?_) (fun c86 => ?_)
            · refine next _ _ ?_
              rw [no]
              intro q
              rw [if_neg (by rw [q.2.2.1]; decide)] at c86
              exact c86 rfl
            refine za_aload_n (pc := 89) dX7_pairs_89 rfl ?_
            refine za_iload (pc := 90) dX7_pairs_90 rfl ?_
            refine za_iload_n (pc := 92) dX7_pairs_92 rfl ?_
            refine za_cV2i (pc := 93) (μ' := mX7_isBehind) dX7_pairs_93 c_X7_118 rfl rfl rfl ⟨rfl, rfl⟩ ⟨rfl, rfl⟩ rfl rfl rfl (tX7_isBehind (p := r b) (by omega) (by omega) (s59 b hbn)) (fun x_93 t_93 h_93 => ?_)
            obtain ⟨rfl, h9⟩ := h_93
            have h9 := h9.symm
            subst h9
            refine za_if_ne (pc := 96) 132 dX7_pairs_96 (by decide) (fun c96 => ?_) (fun c96 => ?_)
            · refine next _ _ ?_
              rw [no]
              intro q
              rw [if_neg (by rw [q.2.2.2]; decide)] at c96
              exact c96 rfl
            have r1 : r a b = false := by
              cases hq : r a b with
              | false => rfl
              | true => rw [hq] at c86; exact absurd c86 (by decide)
            have r2 : r b a = false := by
              cases hq : r b a with
              | false => rfl
              | true => rw [hq] at c96; exact absurd c96 (by decide)
            have l2 := mkm_rmv hpb2 (show b < 16 by omega)
            have e2 : (zmask (rmv (rmv p a) b)).toNatClampNeg = mkm (rmv (rmv p a) b) 16 := nI_clamp (by omega)
            have v2 : vp_in (zmask (rmv (rmv p a) b)) 1024 := vp_in_nI (by omega) (by decide)
            have yes : bst r (PP σ1) p a (b + 1) = max (bst r (PP σ1) p a b) (1 + PP σ1 (rmv (rmv p a) b)) := by
              show (if a < b ∧ p b = true ∧ r a b = false ∧ r b a = false then _ else _) = _
              rw [if_pos ⟨hab, hpb, r1, r2⟩]
            obtain ⟨w1, w2⟩ := pinv_val g2 (S := rmv (rmv p a) b) (by omega)
            have w3 := pinv_bst g2 (k := b) (S := p) (fun x hx => by have := hpn x hx; omega) ha (Nat.le_of_eq hps)
            have ee : zmask (rmv p a) &&& (((1 : Int32) <<< (nI b &&& 31)) ^^^ (-1)) = zmask (rmv (rmv p a) b) := by
              rw [zm_1 (by omega), zm_not]
              rfl
            refine za_iconst (pc := 99) (1) dX7_pairs_99 (by decide) ?_
            refine za_aload_n (pc := 100) dX7_pairs_100 rfl ?_
            refine za_getR (pc := 101) dX7_pairs_101 lk_X7_58 rfl rfl ?_
            refine za_iload_n (pc := 104) dX7_pairs_104 rfl ?_
            refine za_iconst (pc := 105) (1) dX7_pairs_105 (by decide) ?_
            refine za_iload (pc := 106) dX7_pairs_106 rfl ?_
            refine za_ishl (pc := 108) dX7_pairs_108 ?_
            refine za_iconst (pc := 109) (-1) dX7_pairs_109 (by decide) ?_
            refine za_ixor (pc := 110) dX7_pairs_110 ?_
            refine za_iand (pc := 111) dX7_pairs_111 ?_
            rw [ee]
            refine za_iald (pc := 112) dX7_pairs_112 rfl v2 ?_
            refine za_iadd (pc := 113) dX7_pairs_113 ?_
            refine za_is6 (pc := 114) dX7_pairs_114 rfl ?_
            refine za_iload (pc := 116) dX7_pairs_116 rfl ?_
            refine za_iload (pc := 118) dX7_pairs_118 rfl ?_
            rw [e2, w1, show (1 : Int32) + nI (PP σ1 (rmv (rmv p a) b)) = nI (1 + PP σ1 (rmv (rmv p a) b)) by rw [Int32.add_comm, nI_1, Nat.add_comm]]
            refine za_icmp_le (pc := 120) 128 dX7_pairs_120 (by decide) (fun c120 => ?_) (fun c120 => ?_)
            · rw [nI_leI (by omega) (by omega)] at c120
              refine za_iload (pc := 128) dX7_pairs_128 rfl ?_
              refine za_is4 (pc := 130) dX7_pairs_130 rfl ?_
              exact next _ _ (by rw [yes, Nat.max_eq_left c120])
            · rw [nI_leI (by omega) (by omega)] at c120
              refine za_iload (pc := 123) dX7_pairs_123 rfl ?_
              refine za_goto (pc := 125) 130 dX7_pairs_125 (by decide) ?_
              refine za_is4 (pc := 130) dX7_pairs_130 rfl ?_
              exact next _ _ (by rw [yes, Nat.max_eq_right (by omega)])
          · have hpb2 : ¬ rmv p a b = true := fun q => hpb (rmv_t.mp q).1
            rw [if_neg hpb2]
            refine za_icmp_ne (pc := 76) 132 dX7_pairs_76 (by decide) (fun c76 => ?_) (fun c76 => ?_)
            · exact next _ _ (by rw [no (fun q => hpb q.2.1)])
            · exact absurd c76 (by decide)
      have low : ∀ (q k : Nat), k + q = a → zA (zZ mX7_pairs (zQI SH (fun x t => x = nI (n - dLen c) ∧ ∀ d, d ≠ 59 → d ≠ 64 → t d = σ d))) mX7_pairs none 0 0 25 [some (.ref 47), some (.int (zmask p)), some (.int (nI k)), none, none, none, none] [] SH σ1 := by
        intro q
        induction q with
        | zero =>
          intro k hk
          have hk : k = a := by omega
          subst hk
          refine za_iload_n (pc := 25) dX7_pairs_25 rfl ?_
          refine za_iload_n (pc := 26) dX7_pairs_26 rfl ?_
          refine za_ishr (pc := 27) dX7_pairs_27 ?_
          refine za_iconst (pc := 28) (1) dX7_pairs_28 (by decide) ?_
          refine za_iand (pc := 29) dX7_pairs_29 ?_
          rw [zm_sr (by omega), if_pos ha]
          refine za_if_ne (pc := 30) 39 dX7_pairs_30 (by decide) (fun c30 => ?_) (fun c30 => ?_)
          · have ee : zmask p &&& (((1 : Int32) <<< (nI k &&& 31)) ^^^ (-1)) = zmask (rmv p k) := by
              rw [zm_1 (by omega), zm_not]
              rfl
            refine za_iload_n (pc := 39) dX7_pairs_39 rfl ?_
            refine za_iconst (pc := 40) (1) dX7_pairs_40 (by decide) ?_
            refine za_iload_n (pc := 41) dX7_pairs_41 rfl ?_
            refine za_ishl (pc := 42) dX7_pairs_42 ?_
            refine za_iconst (pc := 43) (-1) dX7_pairs_43 (by decide) ?_
            refine za_ixor (pc := 44) dX7_pairs_44 ?_
            refine za_iand (pc := 45) dX7_pairs_45 ?_
            rw [ee]
            refine za_is3n (pc := 46) dX7_pairs_46 rfl ?_
            refine za_aload_n (pc := 47) dX7_pairs_47 rfl ?_
            refine za_getR (pc := 48) dX7_pairs_48 lk_X7_58 rfl rfl ?_
            refine za_iload_n (pc := 51) dX7_pairs_51 rfl ?_
            refine za_iald (pc := 52) dX7_pairs_52 rfl v1 ?_
            refine za_is4 (pc := 53) dX7_pairs_53 rfl ?_
            refine za_iload_n (pc := 55) dX7_pairs_55 rfl ?_
            refine za_iconst (pc := 56) (1) dX7_pairs_56 (by decide) ?_
            refine za_iadd (pc := 57) dX7_pairs_57 ?_
            refine za_is5 (pc := 58) dX7_pairs_58 rfl ?_
            rw [e1, (pinv_val g2 (S := rmv p k) (by omega)).1, nI_1, ← ez]
            have := inner (n - (k + 1)) (k + 1) (by omega) (by omega)
            rw [bst_low (k + 1) (Nat.le_refl _)] at this
            exact this
          · exact absurd c30 (by decide)
        | succ q ih3 =>
          intro k hk
          refine za_iload_n (pc := 25) dX7_pairs_25 rfl ?_
          refine za_iload_n (pc := 26) dX7_pairs_26 rfl ?_
          refine za_ishr (pc := 27) dX7_pairs_27 ?_
          refine za_iconst (pc := 28) (1) dX7_pairs_28 (by decide) ?_
          refine za_iand (pc := 29) dX7_pairs_29 ?_
          rw [zm_sr (by omega), if_neg (by rw [hlow k (by omega)]; decide)]
          refine za_if_ne (pc := 30) 39 dX7_pairs_30 (by decide) (fun c30 => ?_) (fun c30 => ?_)
          · exact absurd rfl c30
          · refine za_ii2 (pc := 33) (1) dX7_pairs_33 (by decide) rfl ?_
            refine za_goto (pc := 36) 25 dX7_pairs_36 (by decide) ?_
            rw [nI_1]
            exact ih3 (k + 1) (by omega)
      refine za_iload_n (pc := 13) dX7_pairs_13 rfl ?_
      refine za_iconst (pc := 14) (1) dX7_pairs_14 (by decide) ?_
      refine za_aload_n (pc := 15) dX7_pairs_15 rfl ?_
      refine za_getI (pc := 16) dX7_pairs_16 lk_X7_91 rfl rfl ?_
      refine za_ishl (pc := 19) dX7_pairs_19 ?_
      rw [sj, shl1 n (by omega)]
      refine za_icmp_ge (pc := 20) 152 dX7_pairs_20 (by decide) (fun c20 => ?_) (fun c20 => ?_)
      · exact absurd c20 (nI_ge (show s < 2 ^ n by omega) (by omega))
      · refine za_iconst (pc := 23) (0) dX7_pairs_23 (by decide) ?_
        refine za_is2n (pc := 24) dX7_pairs_24 rfl ?_
        rw [ez]
        exact low a 0 (by omega)
  have h2 : 1 ≤ 2 ^ n := Nat.one_le_two_pow
  refine loop (2 ^ n - 1) 1 _ (by omega) (by omega) (fun d hd => by rw [zup_n hd]) ?_
  refine ⟨fun j hj => ?_, fun S a hm hS ha _ => ?_⟩
  · have : j = 0 := by omega
    subst this
    rw [show (0 : Int32).toNatClampNeg = 0 from rfl, zup_a]
    exact ⟨rfl, Nat.le_refl _⟩
  · have := mkm_rmv ha (by have := hS a ha; omega)
    omega
theorem nI_sub {a b : Nat} (h : b ≤ a) (ha : a < 65536) : nI a - nI b = nI (a - b) := by
  have e : nI a = nI (a - b) + nI b := by
    rw [show nI (a - b) + nI b = nI (a - b + b) from nI_add _ _]
    congr 1; omega
  rw [e]
  exact Int32.add_sub_cancel _ _
theorem tX6_pairs {σ : zSt} {c : Core} {v : Int32} (h : XP σ c v) : zI mX6_pairs [.ref 0] SH σ (fun x t => x = nI (cN c - dLen c) ∧ XL σ t c v) := by
  have hl : dLen c ≤ cN c := lenD_le
  have hn := h.2.1.1
  refine zI_of (ls := [some (.ref 0)]) (by decide) rfl rfl ?_
  refine za_aload_n (pc := 0) dX6_pairs_0 rfl ?_
  refine za_getR (pc := 1) dX6_pairs_1 lk_X6_18 rfl rfl ?_
  refine za_getI (pc := 4) dX6_pairs_4 lk_X6_98 rfl rfl ?_
  refine za_aload_n (pc := 7) dX6_pairs_7 rfl ?_
  refine za_cV0r (pc := 8) (μ' := mX6_labelDayNow) dX6_pairs_8 c_X6_160 rfl rfl rfl ⟨rfl, rfl⟩ ⟨rfl, rfl⟩ rfl rfl rfl (tLD h) (fun t_8 h_8 => ?_)
  refine za_getI (pc := 11) dX6_pairs_11 lk_X6_187 rfl rfl ?_
  refine za_isub (pc := 14) dX6_pairs_14 ?_
  refine za_ri (pc := 15) dX6_pairs_15 rfl rfl rfl ?_
  refine ⟨?_, h_8⟩
  rw [h.1.1, show t_8 15 4 = nI (dLen c) from h_8.1.2.2, nI_sub hl (by omega)]
