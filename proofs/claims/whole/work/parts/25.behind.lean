/-! BEHIND: both sides do Warshall's rounds -/
theorem wR_c (w : Nat → Nat → Bool) (c : Nat) : wR w (c + 1) c = wR w c c := by
  funext b
  show (wR w c c b || (wR w c c c && wR w c c b)) = _
  cases wR w c c b <;> simp
theorem wR_t {w : Nat → Nat → Bool} {c a : Nat} (h : wR w c a c = true) : wR w (c + 1) a = fun b => wR w c a b || wR w c c b := by
  funext b
  show (wR w c a b || (wR w c a c && wR w c c b)) = _
  rw [h, Bool.true_and]
theorem wR_f {w : Nat → Nat → Bool} {c a : Nat} (h : wR w c a c = false) : wR w (c + 1) a = wR w c a := by
  funext b
  show (wR w c a b || (wR w c a c && wR w c c b)) = _
  rw [h, Bool.false_and, Bool.or_false]
section LB
variable {Z : zZt} {n : Nat} {w : Nat → Nat → Bool} {σ : zSt}
theorem lb_in {c : Nat} (hn : n ≤ 10) (hc : c < n) (hj : σ 47 3 = nI n) (hE : ∀ σ', (∀ d, d ≠ 59 → σ' d = σ d) → (∀ a, a < n → σ' 59 a = zmask (wR w (c + 1) a)) → (∀ a, n ≤ a → σ' 59 a = σ 59 a) → zA Z mX7_layBehind none 0 0 97 [some (.ref 47), some (.int (nI c)), some (.int (nI n))] [] SH σ') :
    ∀ (q a : Nat) (σ1 : zSt), a + q = n → (∀ d, d ≠ 59 → σ1 d = σ d) → (∀ i, i < a → σ1 59 i = zmask (wR w (c + 1) i)) → (∀ i, a ≤ i → i < n → σ1 59 i = zmask (wR w c i)) → (∀ i, n ≤ i → σ1 59 i = σ 59 i) → zA Z mX7_layBehind none 0 0 50 [some (.ref 47), some (.int (nI c)), some (.int (nI a))] [] SH σ1 := by
  intro q
  induction q with
  | zero =>
    intro a σ1 ha g1 g2 g3 g4
    refine za_iload_n (pc := 50) dX7_layBehind_50 rfl ?_
    refine za_aload_n (pc := 51) dX7_layBehind_51 rfl ?_
    refine za_getI (pc := 52) dX7_layBehind_52 lk_X7_91 rfl rfl ?_
    rw [g1 47 (by decide), hj]
    refine za_icmp_ge (pc := 55) 97 dX7_layBehind_55 (by decide) (fun c5 => ?_) (fun c5 => ?_)
    · have : a = n := by omega
      subst this
      exact hE σ1 g1 (fun i hi => g2 i hi) g4
    · exact absurd (nI_le (show n ≤ a by omega) (by omega)) c5
  | succ q ih =>
    intro a σ1 ha g1 g2 g3 g4
    have va : vp_in (nI a) 10 := vp_in_nI (by omega) (by decide)
    have ea : (nI a).toNatClampNeg = a := nI_clamp (by omega)
    have vc : vp_in (nI c) 10 := vp_in_nI (by omega) (by decide)
    have ec : (nI c).toNatClampNeg = c := nI_clamp (by omega)
    have rc : σ1 59 c = zmask (wR w c c) := by
      rcases Nat.lt_or_ge c a with h | h
      · rw [g2 c h, wR_c]
      · exact g3 c h hc
    have ra : σ1 59 a = zmask (wR w c a) := g3 a (Nat.le_refl a) (by omega)
    have step : ∀ x : Int32, zmask (wR w c a) ||| x = zmask (wR w (c + 1) a) → zA Z mX7_layBehind none 0 0 89 [some (.ref 47), some (.int (nI c)), some (.int (nI a))] [.int x, .int (zmask (wR w c a)), .int (nI a), .ref 59] SH σ1 := by
      intro x hx
      refine za_ior (pc := 89) dX7_layBehind_89 ?_
      refine za_iast (pc := 90) dX7_layBehind_90 rfl va ?_
      refine za_ii2 (pc := 91) (1) dX7_layBehind_91 (by decide) rfl ?_
      refine za_goto (pc := 94) 50 dX7_layBehind_94 (by decide) ?_
      rw [nI_1, ea, hx]
      refine ih (a + 1) _ (by omega) (fun d hd => by rw [zup_n hd]; exact g1 d hd) (fun i hi => ?_) (fun i h1 h2 => by rw [zup_b (by omega)]; exact g3 i (by omega) h2) (fun i hi => by rw [zup_b (by omega)]; exact g4 i hi)
      by_cases e : i = a
      · rw [e, zup_a]
      · rw [zup_b e]; exact g2 i (by omega)
    refine za_iload_n (pc := 50) dX7_layBehind_50 rfl ?_
    refine za_aload_n (pc := 51) dX7_layBehind_51 rfl ?_
    refine za_getI (pc := 52) dX7_layBehind_52 lk_X7_91 rfl rfl ?_
    rw [g1 47 (by decide), hj]
    refine za_icmp_ge (pc := 55) 97 dX7_layBehind_55 (by decide) (fun c5 => ?_) (fun c5 => ?_)
    · exact absurd c5 (nI_ge (show a < n by omega) (by omega))
    · refine za_aload_n (pc := 58) dX7_layBehind_58 rfl ?_
      refine za_getR (pc := 59) dX7_layBehind_59 lk_X7_43 rfl rfl ?_
      refine za_iload_n (pc := 62) dX7_layBehind_62 rfl ?_
      refine za_dup2 (pc := 63) dX7_layBehind_63 rfl rfl ?_
      refine za_iald (pc := 64) dX7_layBehind_64 rfl va ?_
      refine za_aload_n (pc := 65) dX7_layBehind_65 rfl ?_
      refine za_getR (pc := 66) dX7_layBehind_66 lk_X7_43 rfl rfl ?_
      refine za_iload_n (pc := 69) dX7_layBehind_69 rfl ?_
      refine za_iald (pc := 70) dX7_layBehind_70 rfl va ?_
      refine za_iload_n (pc := 71) dX7_layBehind_71 rfl ?_
      refine za_ishr (pc := 72) dX7_layBehind_72 ?_
      refine za_iconst (pc := 73) (1) dX7_layBehind_73 (by decide) ?_
      refine za_iand (pc := 74) dX7_layBehind_74 ?_
      refine za_iconst (pc := 75) (1) dX7_layBehind_75 (by decide) ?_
      rw [ea, ra, zm_sr (by omega)]
      by_cases hb : wR w c a c = true
      · rw [if_pos hb]
        refine za_icmp_ne (pc := 76) 88 dX7_layBehind_76 (by decide) (fun c76 => ?_) (fun c76 => ?_)
        · exact absurd rfl c76
        · refine za_aload_n (pc := 79) dX7_layBehind_79 rfl ?_
          refine za_getR (pc := 80) dX7_layBehind_80 lk_X7_43 rfl rfl ?_
          refine za_iload_n (pc := 83) dX7_layBehind_83 rfl ?_
          refine za_iald (pc := 84) dX7_layBehind_84 rfl vc ?_
          refine za_goto (pc := 85) 89 dX7_layBehind_85 (by decide) ?_
          rw [ec, rc]
          exact step _ (by rw [zm_or, wR_t hb])
      · rw [if_neg hb]
        refine za_icmp_ne (pc := 76) 88 dX7_layBehind_76 (by decide) (fun c76 => ?_) (fun c76 => ?_)
        · refine za_iconst (pc := 88) (0) dX7_layBehind_88 (by decide) ?_
          refine step 0 ?_
          rw [wR_f (by simpa using hb), ← zm_0, zm_or]
          exact zm_cong (fun i _ => by simp)
        · exact absurd c76 (by decide)
theorem lb_out (hn : n ≤ 10) (hj : σ 47 3 = nI n) (hE : ∀ σ', (∀ d, d ≠ 59 → σ' d = σ d) → (∀ a, a < n → σ' 59 a = zmask (wR w n a)) → (∀ a, n ≤ a → σ' 59 a = σ 59 a) → ∀ x, zA Z mX7_layBehind none 0 0 103 [some (.ref 47), some (.int (nI n)), x] [] SH σ') :
    ∀ (q c : Nat) (σ1 : zSt) (x : Option Value), c + q = n → (∀ d, d ≠ 59 → σ1 d = σ d) → (∀ i, i < n → σ1 59 i = zmask (wR w c i)) → (∀ i, n ≤ i → σ1 59 i = σ 59 i) → zA Z mX7_layBehind none 0 0 40 [some (.ref 47), some (.int (nI c)), x] [] SH σ1 := by
  intro q
  induction q with
  | zero =>
    intro c σ1 x hc g1 g2 g3
    refine za_iload_n (pc := 40) dX7_layBehind_40 rfl ?_
    refine za_aload_n (pc := 41) dX7_layBehind_41 rfl ?_
    refine za_getI (pc := 42) dX7_layBehind_42 lk_X7_91 rfl rfl ?_
    rw [g1 47 (by decide), hj]
    refine za_icmp_ge (pc := 45) 103 dX7_layBehind_45 (by decide) (fun c5 => ?_) (fun c5 => ?_)
    · have : c = n := by omega
      subst this
      exact hE σ1 g1 g2 g3 x
    · exact absurd (nI_le (show n ≤ c by omega) (by omega)) c5
  | succ q ih =>
    intro c σ1 x hc g1 g2 g3
    refine za_iload_n (pc := 40) dX7_layBehind_40 rfl ?_
    refine za_aload_n (pc := 41) dX7_layBehind_41 rfl ?_
    refine za_getI (pc := 42) dX7_layBehind_42 lk_X7_91 rfl rfl ?_
    rw [g1 47 (by decide), hj]
    refine za_icmp_ge (pc := 45) 103 dX7_layBehind_45 (by decide) (fun c5 => ?_) (fun c5 => ?_)
    · exact absurd c5 (nI_ge (show c < n by omega) (by omega))
    · refine za_iconst (pc := 48) (0) dX7_layBehind_48 (by decide) ?_
      refine za_is2n (pc := 49) dX7_layBehind_49 rfl ?_
      refine lb_in (σ := σ1) hn (show c < n by omega) (by rw [g1 47 (by decide)]; exact hj) (fun σ' f1 f2 f3 => ?_) n 0 σ1 (by omega) (fun _ _ => rfl) (fun i hi => absurd hi (by omega)) (fun i _ hi => g2 i hi) (fun _ _ => rfl)
      refine za_ii1 (pc := 97) (1) dX7_layBehind_97 (by decide) rfl ?_
      refine za_goto (pc := 100) 40 dX7_layBehind_100 (by decide) ?_
      rw [nI_1]
      exact ih (c + 1) σ' _ (by omega) (fun d hd => by rw [f1 d hd]; exact g1 d hd) f2 (fun i hi => by rw [f3 i hi]; exact g3 i hi)
end LB
theorem tX7_layBehind {n : Nat} {w : Nat → Nat → Bool} {σ : zSt} (hn : n ≤ 10) (hj : σ 47 3 = nI n) (hw : ∀ a, a < n → σ 55 a = zmask (w a)) : zV mX7_layBehind [.ref 47] SH σ (fun t => (∀ d, d ≠ 59 → t d = σ d) ∧ (∀ a, a < n → t 59 a = zmask (wR w n a)) ∧ ∀ a, n ≤ a → a < 10 → t 59 a = 0) := by
  refine zV_of (ls := [some (.ref 47), none, none]) (by decide) rfl rfl ?_
  refine za_iconst (pc := 0) (0) dX7_layBehind_0 (by decide) ?_
  refine za_is1n (pc := 1) dX7_layBehind_1 rfl ?_
  have loop : ∀ (q a : Nat) (σ1 : zSt), a + q = 10 → (∀ d, d ≠ 59 → σ1 d = σ d) → (∀ i, i < a → σ1 59 i = if i < n then zmask (w i) else 0) → zA (zZ mX7_layBehind (zQV SH (fun t => (∀ d, d ≠ 59 → t d = σ d) ∧ (∀ a, a < n → t 59 a = zmask (wR w n a)) ∧ ∀ a, n ≤ a → a < 10 → t 59 a = 0))) mX7_layBehind none 0 0 2 [some (.ref 47), some (.int (nI a)), none] [] SH σ1 := by
    intro q
    induction q with
    | zero =>
      intro a σ1 ha g1 g2
      refine za_iload_n (pc := 2) dX7_layBehind_2 rfl ?_
      refine za_bipush (pc := 3) (10) dX7_layBehind_3 (by decide) ?_
      refine za_icmp_ge (pc := 5) 38 dX7_layBehind_5 (by decide) (fun c => ?_) (fun c => ?_)
      · refine za_iconst (pc := 38) (0) dX7_layBehind_38 (by decide) ?_
        refine za_is1n (pc := 39) dX7_layBehind_39 rfl ?_
        refine lb_out (σ := σ1) (w := w) hn (by rw [g1 47 (by decide)]; exact hj) (fun σ' f1 f2 f3 x => ?_) n 0 σ1 none (by omega) (fun _ _ => rfl) (fun i hi => by rw [g2 i (by omega), if_pos hi]; rfl) (fun _ _ => rfl)
        refine za_rv (pc := 103) dX7_layBehind_103 rfl rfl rfl ?_
        exact ⟨fun d hd => by rw [f1 d hd]; exact g1 d hd, f2, fun i h1 h2 => by rw [f3 i h1, g2 i (by omega), if_neg (by omega)]⟩
      · exact absurd (nI_le (a := 10) (b := a) (by omega) (by omega)) c
    | succ q ih =>
      intro a σ1 ha g1 g2
      have va : vp_in (nI a) 10 := vp_in_nI (by omega) (by decide)
      have ea : (nI a).toNatClampNeg = a := nI_clamp (by omega)
      have step : ∀ x : Int32, x = (if a < n then zmask (w a) else 0) → zA (zZ mX7_layBehind (zQV SH (fun t => (∀ d, d ≠ 59 → t d = σ d) ∧ (∀ a, a < n → t 59 a = zmask (wR w n a)) ∧ ∀ a, n ≤ a → a < 10 → t 59 a = 0))) mX7_layBehind none 0 0 31 [some (.ref 47), some (.int (nI a)), none] [.int x, .int (nI a), .ref 59] SH σ1 := by
        intro x hx
        refine za_iast (pc := 31) dX7_layBehind_31 rfl va ?_
        refine za_ii1 (pc := 32) (1) dX7_layBehind_32 (by decide) rfl ?_
        refine za_goto (pc := 35) 2 dX7_layBehind_35 (by decide) ?_
        rw [nI_1, ea]
        refine ih (a + 1) _ (by omega) (fun d hd => by rw [zup_n hd]; exact g1 d hd) (fun i hi => ?_)
        by_cases e : i = a
        · rw [e, zup_a, hx]
        · rw [zup_b e]; exact g2 i (by omega)
      refine za_iload_n (pc := 2) dX7_layBehind_2 rfl ?_
      refine za_bipush (pc := 3) (10) dX7_layBehind_3 (by decide) ?_
      refine za_icmp_ge (pc := 5) 38 dX7_layBehind_5 (by decide) (fun c => ?_) (fun c => ?_)
      · exact absurd c (nI_ge (a := a) (b := 10) (by omega) (by omega))
      · refine za_aload_n (pc := 8) dX7_layBehind_8 rfl ?_
        refine za_getR (pc := 9) dX7_layBehind_9 lk_X7_43 rfl rfl ?_
        refine za_iload_n (pc := 12) dX7_layBehind_12 rfl ?_
        refine za_iload_n (pc := 13) dX7_layBehind_13 rfl ?_
        refine za_aload_n (pc := 14) dX7_layBehind_14 rfl ?_
        refine za_getI (pc := 15) dX7_layBehind_15 lk_X7_91 rfl rfl ?_
        rw [g1 47 (by decide), hj]
        refine za_icmp_ge (pc := 18) 30 dX7_layBehind_18 (by decide) (fun c18 => ?_) (fun c18 => ?_)
        · refine za_iconst (pc := 30) (0) dX7_layBehind_30 (by decide) ?_
          exact step 0 (by rw [if_neg (fun h => absurd c18 (nI_ge h (by omega)))])
        · have hlt : a < n := Nat.lt_of_not_le (fun q => c18 (nI_le q (by omega)))
          refine za_aload_n (pc := 21) dX7_layBehind_21 rfl ?_
          refine za_getR (pc := 22) dX7_layBehind_22 lk_X7_31 rfl rfl ?_
          refine za_iload_n (pc := 25) dX7_layBehind_25 rfl ?_
          refine za_iald (pc := 26) dX7_layBehind_26 rfl va ?_
          refine za_goto (pc := 27) 31 dX7_layBehind_27 (by decide) ?_
          rw [ea, g1 55 (by decide), hw a hlt]
          exact step _ (by rw [if_pos hlt])
  exact loop 10 0 σ (by omega) (fun _ _ => rfl) (fun i hi => absurd hi (by omega))
theorem tX7_isBehind {σ : zSt} {a b : Nat} {p : Nat → Bool} (ha : a < 10) (hb : b < 16) (h : σ 59 a = zmask p) : zI mX7_isBehind [.ref 47, .int (nI a), .int (nI b)] SH σ (fun x t => x = (if p b = true then 1 else 0) ∧ t = σ) := by
  have va : vp_in (nI a) 10 := vp_in_nI ha (by decide)
  have ea : (nI a).toNatClampNeg = a := nI_clamp (by omega)
  refine zI_of (ls := [some (.ref 47), some (.int (nI a)), some (.int (nI b))]) (by decide) rfl rfl ?_
  refine za_aload_n (pc := 0) dX7_isBehind_0 rfl ?_
  refine za_getR (pc := 1) dX7_isBehind_1 lk_X7_43 rfl rfl ?_
  refine za_iload_n (pc := 4) dX7_isBehind_4 rfl ?_
  refine za_iald (pc := 5) dX7_isBehind_5 rfl va ?_
  refine za_iload_n (pc := 6) dX7_isBehind_6 rfl ?_
  refine za_ishr (pc := 7) dX7_isBehind_7 ?_
  refine za_iconst (pc := 8) (1) dX7_isBehind_8 (by decide) ?_
  refine za_iand (pc := 9) dX7_isBehind_9 ?_
  refine za_iconst (pc := 10) (1) dX7_isBehind_10 (by decide) ?_
  rw [ea, h, zm_sr hb]
  by_cases hp : p b = true
  · rw [if_pos hp]
    refine za_icmp_ne (pc := 11) 18 dX7_isBehind_11 (by decide) (fun c => ?_) (fun c => ?_)
    · exact absurd rfl c
    · refine za_iconst (pc := 14) (1) dX7_isBehind_14 (by decide) ?_
      refine za_goto (pc := 15) 19 dX7_isBehind_15 (by decide) ?_
      refine za_rz (pc := 19) dX7_isBehind_19 rfl rfl rfl rfl ?_
      exact ⟨rfl, rfl⟩
  · rw [if_neg hp]
    refine za_icmp_ne (pc := 11) 18 dX7_isBehind_11 (by decide) (fun c => ?_) (fun c => ?_)
    · refine za_iconst (pc := 18) (0) dX7_isBehind_18 (by decide) ?_
      refine za_rz (pc := 19) dX7_isBehind_19 rfl rfl rfl rfl ?_
      exact ⟨rfl, rfl⟩
    · exact absurd c (by decide)
theorem tX7_wouldRing {n a b : Nat} {w : Nat → Nat → Bool} {σ : zSt} (hn : n ≤ 10) (ha : a < n) (hb : b < n) (hj : σ 47 3 = nI n) (hw : ∀ a, a < n → σ 55 a = zmask (w a)) : zI mX7_wouldRing [.ref 47, .int (nI a), .int (nI b)] SH σ (fun x t => x = (if a = b ∨ wR w n b a = true then 1 else 0) ∧ ∀ d, d ≠ 59 → t d = σ d) := by
  refine zI_of (ls := [some (.ref 47), some (.int (nI a)), some (.int (nI b))]) (by decide) rfl rfl ?_
  refine za_aload_n (pc := 0) dX7_wouldRing_0 rfl ?_
  refine za_cV0v (pc := 1) (μ' := mX7_layBehind) dX7_wouldRing_1 c_X7_115 rfl rfl rfl ⟨rfl, rfl⟩ ⟨rfl, rfl⟩ rfl rfl rfl (tX7_layBehind hn hj hw) (fun t_1 h_1 => ?_)
  obtain ⟨q1, q2, q3⟩ := h_1
  refine za_iload_n (pc := 4) dX7_wouldRing_4 rfl ?_
  refine za_iload_n (pc := 5) dX7_wouldRing_5 rfl ?_
  refine za_icmp_eq (pc := 6) 18 dX7_wouldRing_6 (by decide) (fun c6 => ?_) (fun c6 => ?_)
  · have e : a = b := (nI_eq (by omega) (by omega)).mp c6
    refine za_iconst (pc := 18) (1) dX7_wouldRing_18 (by decide) ?_
    refine za_goto (pc := 19) 23 dX7_wouldRing_19 (by decide) ?_
    refine za_rz (pc := 23) dX7_wouldRing_23 rfl rfl rfl rfl ?_
    exact ⟨by rw [if_pos (Or.inl e)], q1⟩
  · have e : a ≠ b := fun q => c6 (by rw [q])
    refine za_aload_n (pc := 9) dX7_wouldRing_9 rfl ?_
    refine za_iload_n (pc := 10) dX7_wouldRing_10 rfl ?_
    refine za_iload_n (pc := 11) dX7_wouldRing_11 rfl ?_
    refine za_cV2i (pc := 12) (μ' := mX7_isBehind) dX7_wouldRing_12 c_X7_118 rfl rfl rfl ⟨rfl, rfl⟩ ⟨rfl, rfl⟩ rfl rfl rfl (tX7_isBehind (show b < 10 by omega) (show a < 16 by omega) (q2 b hb)) (fun x_12 t_12 h_12 => ?_)
    obtain ⟨rfl, h9⟩ := h_12
    have h9 := h9.symm
    subst h9
    by_cases hp : wR w n b a = true
    · rw [if_pos hp]
      refine za_if_eq (pc := 15) 22 dX7_wouldRing_15 (by decide) (fun c15 => ?_) (fun c15 => ?_)
      · exact absurd c15 (by decide)
      · refine za_iconst (pc := 18) (1) dX7_wouldRing_18 (by decide) ?_
        refine za_goto (pc := 19) 23 dX7_wouldRing_19 (by decide) ?_
        refine za_rz (pc := 23) dX7_wouldRing_23 rfl rfl rfl rfl ?_
        exact ⟨by rw [if_pos (Or.inr hp)], q1⟩
    · rw [if_neg hp]
      refine za_if_eq (pc := 15) 22 dX7_wouldRing_15 (by decide) (fun c15 => ?_) (fun c15 => ?_)
      · refine za_iconst (pc := 22) (0) dX7_wouldRing_22 (by decide) ?_
        refine za_rz (pc := 23) dX7_wouldRing_23 rfl rfl rfl rfl ?_
        exact ⟨by rw [if_neg (fun q => q.elim e hp)], q1⟩
      · exact absurd rfl c15
