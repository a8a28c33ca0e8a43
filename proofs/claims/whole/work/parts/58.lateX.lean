/-! THE KEPT DAY of the class: the soonest hours, the latest ones -/
theorem mkm_z {S : Nat → Bool} {n : Nat} (hn : n ≤ 10) (hS : ∀ i, S i = true → i < n) (h : mkm S 16 = 0) : S = fun _ => false := mkm_inj (fun x hx => by have := hS x hx; omega) (fun x hx => by cases hx) (h.trans mkm_0.symm)
theorem tX0_findSoonest {σ : zSt} {c : Core} {nb : Nat} {f : Nat → Nat} (hc : cOk c) (hj : σ 2 5 = nI (cN c)) (hB : BTI σ c nb f 121) (h55 : nb ≤ 55) : zV mX0_findSoonest [.ref 22] SH σ (fun t => ∃ g, SN t c g ∧ (∀ (S : Nat → Bool) (h : Nat), Fw c h S → g (mkm S 16) ≤ h) ∧ ∀ d, d ≠ 30 → t d = σ d) := by
  have hn := hc.1
  have hp := pw10 hn
  have hall := mkm_all (cN c) (by omega)
  obtain ⟨N, hN⟩ : ∃ N, N = mkm (alln (cN c)) 16 := ⟨_, rfl⟩
  rw [← hN] at hall
  have eA : zmask (fun i => decide (i < cN c)) = nI N := by rw [hN]; rfl
  have v0 : vp_in (nI 0) 1024 := vp_in_nI (by decide) (by decide)
  have loopB : ∀ (q D : Nat) (u : zSt) (g : Nat → Nat), D + q = N → SN u c g → SC c g D → (∀ d, d ≠ 30 → u d = σ d) → zA (zZ mX0_findSoonest (zQV SH (fun t => ∃ g, SN t c g ∧ (∀ (S : Nat → Bool) (h : Nat), Fw c h S → g (mkm S 16) ≤ h) ∧ ∀ d, d ≠ 30 → t d = σ d))) mX0_findSoonest none 0 0 38 [some (.ref 22), some (.int (nI N)), some (.int (nI D))] [] SH u := by
    intro q
    induction q with
    | zero =>
      intro D u g hD u1 u2 u3
      refine za_iload_n (pc := 38) dX0_findSoonest_38 rfl ?_
      refine za_iload_n (pc := 39) dX0_findSoonest_39 rfl ?_
      refine za_icmp_ge (pc := 40) 65 dX0_findSoonest_40 (by decide) (fun c40 => ?_) (fun c40 => ?_)
      · refine za_rv (pc := 65) dX0_findSoonest_65 rfl rfl rfl ?_
        refine ⟨g, u1, fun S h => ?_, u3⟩
        induction h generalizing S with
        | zero =>
          intro hf
          have hf : S = fun _ => false := hf
          rw [hf, mkm_0, u1.2.1]
          exact Nat.le_refl 0
        | succ h ih2 =>
          rintro (hf | ⟨T, h1, h2⟩)
          · have := ih2 S hf; omega
          · have hT := ih2 T h1
            have sT := Fw_sup h1
            have mS := mkm_n (stp_sup sT h2)
            have l1 := stp_lt hc h2
            rcases Nat.lt_or_ge h 64 with q | q
            · exact u2 T sT (by omega) (by omega) (h + 1) S (by omega) h2
            · have := (u1.1 _ mS).2; omega
      · exact absurd (nI_le (show N ≤ D by omega) (by omega)) c40
    | succ q ih =>
      intro D u g hD u1 u2 u3
      have vD : vp_in (nI D) 1024 := vp_in_nI (by omega) (by decide)
      have eD : (nI D).toNatClampNeg = D := nI_clamp (by omega)
      obtain ⟨S, hSd⟩ : ∃ S : Nat → Bool, S = fun i => D.testBit i := ⟨_, rfl⟩
      have hS : ∀ i, S i = true → i < cN c := by rw [hSd]; exact tb_sup (by omega)
      have eS : mkm S 16 = D := by rw [hSd]; exact mkm_tb (by omega)
      have ez : nI D = zmask S := by unfold zmask; rw [eS]
      obtain ⟨k1, k2⟩ := u1.1 D (by omega)
      refine za_iload_n (pc := 38) dX0_findSoonest_38 rfl ?_
      refine za_iload_n (pc := 39) dX0_findSoonest_39 rfl ?_
      refine za_icmp_ge (pc := 40) 65 dX0_findSoonest_40 (by decide) (fun c40 => ?_) (fun c40 => ?_)
      · exact absurd c40 (nI_ge (show D < N by omega) (by omega))
      refine za_aload_n (pc := 43) dX0_findSoonest_43 rfl ?_
      refine za_getR (pc := 44) dX0_findSoonest_44 lk_X0_40 rfl rfl ?_
      refine za_iload_n (pc := 47) dX0_findSoonest_47 rfl ?_
      refine za_iald (pc := 48) dX0_findSoonest_48 rfl vD ?_
      refine za_bipush (pc := 49) (64) dX0_findSoonest_49 (by decide) ?_
      rw [eD, k1]
      refine za_icmp_ge (pc := 51) 59 dX0_findSoonest_51 (by decide) (fun c51 => ?_) (fun c51 => ?_)
      · have c51 : nI 64 ≤ nI (g D) := c51
        rw [nI_leI (by decide) (by omega)] at c51
        refine za_ii2 (pc := 59) (1) dX0_findSoonest_59 (by decide) rfl ?_
        refine za_goto (pc := 62) 38 dX0_findSoonest_62 (by decide) ?_
        rw [nI_1]
        refine ih (D + 1) u g (by omega) u1 (fun S' hS' hlt hg h T h1 h2 => ?_) u3
        rcases Nat.lt_or_eq_of_le (Nat.le_of_lt_succ hlt) with e | e
        · exact u2 S' hS' e hg h T h1 h2
        · rw [e] at hg; omega
      · have c51 : ¬ nI 64 ≤ nI (g D) := c51
        rw [nI_leI (by decide) (by omega)] at c51
        have hG := tX0_goOnFrom (σ := u) hc ⟨by rw [u3 22 (by decide)]; exact hB.1, fun q hq => by
          obtain ⟨r, h2, h3⟩ := hB.2.1 q hq
          refine ⟨?_, h2, h3⟩
          unfold RowB at r ⊢
          rw [u3 25 (by decide), u3 26 (by decide), u3 27 (by decide), u3 28 (by decide), u3 29 (by decide)]
          exact r, hB.2.2.1, hB.2.2.2⟩ h55 hS u1 (by rw [eS]; exact u2) (by rw [eS]; omega)
        rw [← ez, eS] at hG
        refine za_aload_n (pc := 54) dX0_findSoonest_54 rfl ?_
        refine za_iload_n (pc := 55) dX0_findSoonest_55 rfl ?_
        refine za_cV1v (pc := 56) (μ' := mX0_goOnFrom) dX0_findSoonest_56 c_X0_132 rfl rfl rfl ⟨rfl, rfl⟩ ⟨rfl, rfl⟩ rfl rfl rfl (hG) (fun t_56 h_56 => ?_)
        obtain ⟨g2, y1, y2, y3⟩ := h_56
        refine za_ii2 (pc := 59) (1) dX0_findSoonest_59 (by decide) rfl ?_
        refine za_goto (pc := 62) 38 dX0_findSoonest_62 (by decide) ?_
        rw [nI_1]
        exact ih (D + 1) t_56 g2 (by omega) y1 y2 (fun d hd => by rw [y3 d hd]; exact u3 d hd)
  have loopA : ∀ (q s : Nat) (u : zSt), s + q = 2 ^ cN c → 1 ≤ s → (∀ j, 1 ≤ j → j < s → u 30 j = nI 64) → (∀ d, d ≠ 30 → u d = σ d) → zA (zZ mX0_findSoonest (zQV SH (fun t => ∃ g, SN t c g ∧ (∀ (S : Nat → Bool) (h : Nat), Fw c h S → g (mkm S 16) ≤ h) ∧ ∀ d, d ≠ 30 → t d = σ d))) mX0_findSoonest none 0 0 10 [some (.ref 22), some (.int (nI N)), some (.int (nI s))] [] SH u := by
    intro q
    induction q with
    | zero =>
      intro s u hs h1 u1 u2
      refine za_iload_n (pc := 10) dX0_findSoonest_10 rfl ?_
      refine za_iload_n (pc := 11) dX0_findSoonest_11 rfl ?_
      refine za_icmp_gt (pc := 12) 29 dX0_findSoonest_12 (by decide) (fun c12 => ?_) (fun c12 => ?_)
      · refine za_aload_n (pc := 29) dX0_findSoonest_29 rfl ?_
        refine za_getR (pc := 30) dX0_findSoonest_30 lk_X0_40 rfl rfl ?_
        refine za_iconst (pc := 33) (0) dX0_findSoonest_33 (by decide) ?_
        refine za_iconst (pc := 34) (0) dX0_findSoonest_34 (by decide) ?_
        refine za_iast (pc := 35) dX0_findSoonest_35 rfl v0 ?_
        refine za_iconst (pc := 36) (0) dX0_findSoonest_36 (by decide) ?_
        refine za_is2n (pc := 37) dX0_findSoonest_37 rfl ?_
        refine loopB N 0 _ (fun j => if j = 0 then 0 else 64) (by omega) ⟨fun j hj => ?_, rfl, fun S hS hg => ?_⟩ (fun S _ hl => by omega) (fun d hd => by rw [zup_n hd]; exact u2 d hd)
        · rw [show (0 : Int32).toNatClampNeg = 0 from rfl]
          by_cases e : j = 0
          · subst e
            rw [zup_a]
            exact ⟨rfl, by decide⟩
          · rw [zup_b e, u1 j (by omega) (by omega)]
            simp only [if_neg e]
            exact ⟨trivial, by omega⟩
        · by_cases e : mkm S 16 = 0
          · simp only [if_pos e]
            exact mkm_z hn hS e
          · simp only [if_neg e] at hg
            omega
      · exact absurd (nI_lt (show N < s by omega) (by omega)) c12
    | succ q ih =>
      intro s u hs h1 u1 u2
      have vs : vp_in (nI s) 1024 := vp_in_nI (by omega) (by decide)
      have es : (nI s).toNatClampNeg = s := nI_clamp (by omega)
      refine za_iload_n (pc := 10) dX0_findSoonest_10 rfl ?_
      refine za_iload_n (pc := 11) dX0_findSoonest_11 rfl ?_
      refine za_icmp_gt (pc := 12) 29 dX0_findSoonest_12 (by decide) (fun c12 => ?_) (fun c12 => ?_)
      · rw [nI_ltI (by omega) (by omega)] at c12
        omega
      refine za_aload_n (pc := 15) dX0_findSoonest_15 rfl ?_
      refine za_getR (pc := 16) dX0_findSoonest_16 lk_X0_40 rfl rfl ?_
      refine za_iload_n (pc := 19) dX0_findSoonest_19 rfl ?_
      refine za_bipush (pc := 20) (64) dX0_findSoonest_20 (by decide) ?_
      refine za_iast (pc := 22) dX0_findSoonest_22 rfl vs ?_
      refine za_ii2 (pc := 23) (1) dX0_findSoonest_23 (by decide) rfl ?_
      refine za_goto (pc := 26) 10 dX0_findSoonest_26 (by decide) ?_
      rw [nI_1, es]
      refine ih (s + 1) _ (by omega) (by omega) (fun j j1 j2 => ?_) (fun d hd => by rw [zup_n hd]; exact u2 d hd)
      by_cases e : j = s
      · rw [e, zup_a]; rfl
      · rw [zup_b e]; exact u1 j j1 (by omega)
  refine zV_of (ls := [some (.ref 22), none, none]) (by decide) rfl rfl ?_
  refine za_aload_n (pc := 0) dX0_findSoonest_0 rfl ?_
  refine za_getR (pc := 1) dX0_findSoonest_1 lk_X0_49 rfl rfl ?_
  refine za_cV0i (pc := 4) (μ' := mX5_all) dX0_findSoonest_4 c_X0_73 rfl rfl rfl ⟨rfl, rfl⟩ ⟨rfl, rfl⟩ rfl rfl rfl (tX5_all hj hn) (fun x_4 t_4 h_4 => ?_)
  obtain ⟨rfl, h9⟩ := h_4
  have h9 := h9.symm
  subst h9
  rw [eA]
  refine za_is1n (pc := 7) dX0_findSoonest_7 rfl ?_
  refine za_iconst (pc := 8) (1) dX0_findSoonest_8 (by decide) ?_
  refine za_is2n (pc := 9) dX0_findSoonest_9 rfl ?_
  have : 1 ≤ 2 ^ cN c := Nat.one_le_two_pow
  exact loopA (2 ^ cN c - 1) 1 σ (by omega) (by omega) (fun j _ _ => by omega) (fun _ _ => rfl)
/-! latest -/
theorem s1_lt {a b : Nat} (ha : a < 65536) (hb : b < 65536) : nI a - 1 < nI b - 1 ↔ a < b := by
  have e1 : (1 : Int32).toInt = 1 := rfl
  have ea := nI_toInt (show a < 2 ^ 31 by omega)
  have eb := nI_toInt (show b < 2 ^ 31 by omega)
  rw [fa_lt, fb_subI (by omega) (by omega), fb_subI (by omega) (by omega)]
  omega
theorem s1_le {a b : Nat} (ha : a < 65536) (hb : b < 65536) : nI a - 1 ≤ nI b - 1 ↔ a ≤ b := by
  rw [← Int32.not_lt, s1_lt hb ha]
  omega
theorem trch_dn {c : Core} {d h : Nat} {S : Nat → Bool} : ∀ e, trch c d (h + e) S → trch c (d + e) h S := by
  intro e
  induction e generalizing h with
  | zero => intro q; exact q
  | succ e ih =>
    intro q
    have : trch c (d + e) (h + 1) S := ih (by rwa [show h + 1 + e = h + (e + 1) by omega])
    exact Or.inl this
theorem trch_full {c : Core} {S : Nat → Bool} (hS : ∀ i, i < cN c → S i = true) : ∀ d h, trch c d h S
  | 0, _ => hS
  | d + 1, h => Or.inl (trch_full hS d (h + 1))
theorem trch_step {c : Core} {S : Nat → Bool} (hS : ¬ ∀ i, i < cN c → S i = true) : ∀ d h, trch c d h S → ∃ e T, e < d ∧ stp c (h + e + 1) S T ∧ trch c (d - e - 1) (h + e + 1) T
  | 0, _, q => absurd q hS
  | d + 1, h, q => by
    rcases q with q | ⟨T, q1, q2⟩
    · obtain ⟨e, T, h1, h2, h3⟩ := trch_step hS d (h + 1) q
      refine ⟨e + 1, T, by omega, ?_, ?_⟩
      · rwa [show h + 1 + e + 1 = h + (e + 1) + 1 by omega] at h2
      · rwa [show h + 1 + e + 1 = h + (e + 1) + 1 by omega, show d - e - 1 = d + 1 - (e + 1) - 1 by omega] at h3
    · exact ⟨0, T, by omega, q1, q2⟩
/-- what the latest hours are: one less than m tells -/
def LT (c : Core) (L : Nat) (g m : Nat → Nat) (D : Nat) : Prop := ∀ S : Nat → Bool, (∀ i, S i = true → i < cN c) → D ≤ mkm S 16 → (g (mkm S 16) < 64 → ∀ h, g (mkm S 16) ≤ h → (h < m (mkm S 16) ↔ (h ≤ L ∧ trch c (L - h) h S))) ∧ m (mkm S 16) ≤ L + 1 ∧ (¬ g (mkm S 16) < 64 → m (mkm S 16) = 0)
theorem Fw_st {c : Core} {h H : Nat} {S T : Nat → Bool} (hf : Fw c h S) (hh : h + 1 ≤ H) (hs : stp c H S T) : Fw c H T := by
  have := Fw_le hf (show h ≤ H - 1 by omega)
  rw [show H = H - 1 + 1 by omega]
  exact Or.inr ⟨S, this, by rwa [show H - 1 + 1 = H by omega]⟩
/-- a block of the list is a step, and each step a block -/
theorem blk_stp {c : Core} (hc : cOk c) {S : Nat → Bool} {a b H : Nat} (hT : tc c S) (ha : app c S a b) (hv : vB c a b) (h1 : max (bN c a) (bN c b) ≤ H) (h2 : H ≤ min (eN c a) (eN c b)) : stp c H S (thn S a b) := by
  obtain ⟨o1, o2⟩ := app_ok hc hT ha hv h1 h2
  exact ⟨a, b, o1, rfl, o2⟩
theorem stp_blk {σ : zSt} {c : Core} (hc : cOk c) {nb : Nat} {f : Nat → Nat} (hB : BTI σ c nb f 121) {S T : Nat → Bool} {H : Nat} (h1 : 1 ≤ H) (h64 : H ≤ 64) (hs : stp c H S T) : ∃ q, q < nb ∧ app c S (f q / 11) (f q % 11) ∧ T = thn S (f q / 11) (f q % 11) ∧ max (bN c (f q / 11)) (bN c (f q % 11)) ≤ H ∧ H ≤ min (eN c (f q / 11)) (eN c (f q % 11)) := by
  obtain ⟨x, y, e1, e2, e3⟩ := hs
  obtain ⟨a, b, o1, o2, o3⟩ := ord_of hc e1
  rw [← o3] at e2
  subst e2
  obtain ⟨w1, w2, w3⟩ := ok_vB hc o1 o2 h1 h64
  have b10 := vB_10 hc w1
  have hn := hc.1
  have hlim : 11 * a + b < 121 := by have := w1.1; omega
  obtain ⟨j, j1, j2⟩ := hB.2.2.2 a b w1 hlim
  have e1 : f j / 11 = a := by rw [j2]; exact (cd_ab (by omega)).1
  have e2 : f j % 11 = b := by rw [j2]; exact (cd_ab (by omega)).2
  refine ⟨j, j1, ?_⟩
  rw [e1, e2]
  exact ⟨ok_app hc o1 w1 e3, rfl, w2, w3⟩
theorem tX0_latestFor {σ : zSt} {c : Core} {nb L : Nat} {f g m : Nat → Nat} {S : Nat → Bool} (hc : cOk c) (hB : BTI σ c nb f 121) (h55 : nb ≤ 55) (hL : L ≤ 60) (hS : ∀ i, S i = true → i < cN c) (hnf : ¬ ∀ i, i < cN c → S i = true) (hN : SN σ c g) (hF : ∀ (S : Nat → Bool) (h : Nat), Fw c h S → g (mkm S 16) ≤ h) (hm : ∀ j, j < 2 ^ cN c → mkm S 16 < j → σ 31 j = nI (m j) - 1) (hT : LT c L g m (mkm S 16 + 1)) (hg : g (mkm S 16) < 64) : zI mX0_latestFor [.ref 22, .int (zmask S)] SH σ (fun x t => t = σ ∧ ∃ M, x = nI M - 1 ∧ M ≤ L + 1 ∧ ∀ h, g (mkm S 16) ≤ h → (h < M ↔ (h ≤ L ∧ trch c (L - h) h S))) := by
  have hn := hc.1
  have hp := pw10 hn
  have hFS : Fw c (g (mkm S 16)) S := hN.2.2 S hS hg
  have hTS := Fw_tc hFS
  have hmS := mkm_n hS
  have ez : (zmask S).toNatClampNeg = mkm S 16 := nI_clamp (by omega)
  -- of block p: whether it may stand, and up to which hour
  obtain ⟨W, hW⟩ : ∃ W : Nat → Nat, W = fun p => min (m (mkm (thn S (f p / 11) (f p % 11)) 16)) (min (eN c (f p / 11)) (eN c (f p % 11)) + 1) := ⟨_, rfl⟩
  obtain ⟨BB, hBB⟩ : ∃ BB : Nat → Nat, BB = fun p => max (bN c (f p / 11)) (bN c (f p % 11)) := ⟨_, rfl⟩
  have loop : ∀ (q p M : Nat) (x4 : Option Value), p + q = nb → M ≤ L + 1 → (∀ j, j < p → app c S (f j / 11) (f j % 11) → BB j < W j → W j - 1 ≤ M) → (M = 0 ∨ ∃ j, j < p ∧ app c S (f j / 11) (f j % 11) ∧ BB j < W j ∧ M = W j - 1) → zA (zZ mX0_latestFor (zQI SH (fun x t => t = σ ∧ ∃ M, x = nI M - 1 ∧ M ≤ L + 1 ∧ ∀ h, g (mkm S 16) ≤ h → (h < M ↔ (h ≤ L ∧ trch c (L - h) h S))))) mX0_latestFor none 0 0 4 [some (.ref 22), some (.int (zmask S)), some (.int (nI M - 1)), some (.int (nI p)), x4] [] SH σ := by
    intro q
    induction q with
    | zero =>
      intro p M x4 hp1 hM u1 u2
      refine za_iload_n (pc := 4) dX0_latestFor_4 rfl ?_
      refine za_aload_n (pc := 5) dX0_latestFor_5 rfl ?_
      refine za_getI (pc := 6) dX0_latestFor_6 lk_X0_37 rfl rfl ?_
      rw [hB.1]
      refine za_icmp_ge (pc := 9) 79 dX0_latestFor_9 (by decide) (fun c9 => ?_) (fun c9 => ?_)
      · refine za_iload_n (pc := 79) dX0_latestFor_79 rfl ?_
        refine za_ri (pc := 80) dX0_latestFor_80 rfl rfl rfl ?_
        refine ⟨rfl, M, rfl, hM, fun h hh => ⟨fun hlt => ?_, fun ⟨h1, h2⟩ => ?_⟩⟩
        · rcases u2 with e | ⟨j, j1, j2, j3, j4⟩
          · omega
          · obtain ⟨-, hv, -⟩ := hB.2.1 j (by omega)
            rw [hW] at j3 j4
            rw [hBB] at j3
            simp only at j3 j4
            have hs : stp c M S (thn S (f j / 11) (f j % 11)) := blk_stp hc hTS j2 hv (by omega) (by omega)
            have hF2 := Fw_st hFS (show g (mkm S 16) + 1 ≤ M by omega) hs
            have hg2 := hF _ _ hF2
            have sT := stp_sup hS hs
            have lt2 := stp_lt hc hs
            obtain ⟨t1, t2, t3⟩ := hT _ sT (by omega)
            have t4 := (t1 (by omega) M hg2).mp (by omega)
            refine ⟨by omega, ?_⟩
            have t5 : trch c (L - M + 1) (M - 1) S := Or.inr ⟨_, by rwa [show M - 1 + 1 = M by omega], by rw [show M - 1 + 1 = M by omega]; exact t4.2⟩
            have := trch_dn (h := h) (M - 1 - h) (by rwa [show h + (M - 1 - h) = M - 1 by omega])
            rwa [show L - M + 1 + (M - 1 - h) = L - h by omega] at this
        · obtain ⟨e, T, e1, e2, e3⟩ := trch_step hnf _ _ h2
          obtain ⟨j, j1, j2, j3, j4, j5⟩ := stp_blk hc hB (by omega) (by omega) e2
          have hF2 := Fw_st hFS (show g (mkm S 16) + 1 ≤ h + e + 1 by omega) e2
          have hg2 := hF _ _ hF2
          have sT := stp_sup hS e2
          have lt2 := stp_lt hc e2
          obtain ⟨t1, t2, t3⟩ := hT _ sT (by omega)
          have t4 := (t1 (by omega) (h + e + 1) hg2).mpr ⟨by omega, by rwa [show L - (h + e + 1) = L - h - e - 1 by omega]⟩
          have := u1 j (by omega) j2
          rw [hW, hBB] at this
          simp only at this
          rw [← j3] at this
          have := this (by omega)
          omega
      · exact absurd (nI_le (show nb ≤ p by omega) (by omega)) c9
    | succ q ih =>
      intro p M x4 hp1 hM u1 u2
      have hpn : p < nb := by omega
      obtain ⟨⟨r1, r2, r3, r4, r5⟩, hv, -⟩ := hB.2.1 p hpn
      have eW : W p = min (m (mkm (thn S (f p / 11) (f p % 11)) 16)) (min (eN c (f p / 11)) (eN c (f p % 11)) + 1) := by rw [hW]
      have eB : BB p = max (bN c (f p / 11)) (bN c (f p % 11)) := by rw [hBB]
      generalize ea : f p / 11 = a at *
      generalize eb : f p % 11 = b at *
      have b10 := vB_10 hc hv
      obtain ⟨-, -, p3, p4, p5, p6, -⟩ := bE_ok hc hv.1
      have bB : bN c b ≤ 40 ∧ eN c b ≤ 64 := by
        rcases hv.2.2.1 with z | z
        · rw [z, show bN c 10 = 1 from if_pos rfl, show eN c 10 = 64 from if_pos rfl]; decide
        · exact ⟨(bE_ok hc z.1).2.2.2.1, (bE_ok hc z.1).2.2.2.2.2.1⟩
      have vp : vp_in (nI p) 55 := vp_in_nI (by omega) (by decide)
      have ep : (nI p).toNatClampNeg = p := nI_clamp (by omega)
      have next : ∀ (M' : Nat) (x4 : Option Value), M' ≤ L + 1 → M ≤ M' → (app c S a b → BB p < W p → W p - 1 ≤ M') → (M' = M ∨ (app c S a b ∧ BB p < W p ∧ M' = W p - 1)) → zA (zZ mX0_latestFor (zQI SH (fun x t => t = σ ∧ ∃ M, x = nI M - 1 ∧ M ≤ L + 1 ∧ ∀ h, g (mkm S 16) ≤ h → (h < M ↔ (h ≤ L ∧ trch c (L - h) h S))))) mX0_latestFor none 0 0 73 [some (.ref 22), some (.int (zmask S)), some (.int (nI M' - 1)), some (.int (nI p)), x4] [] SH σ := by
        intro M' x4 k1 k2 k3 k4
        refine za_ii3 (pc := 73) (1) dX0_latestFor_73 (by decide) rfl ?_
        refine za_goto (pc := 76) 4 dX0_latestFor_76 (by decide) ?_
        rw [nI_1]
        refine ih (p + 1) M' x4 (by omega) k1 (fun j hj y1 y2 => ?_) ?_
        · rcases Nat.lt_or_eq_of_le (Nat.le_of_lt_succ hj) with e | e
          · have := u1 j e y1 y2; omega
          · subst e
            rw [ea, eb] at y1
            exact k3 y1 y2
        · rcases k4 with k4 | ⟨k4, k5, k6⟩
          · rw [k4]
            rcases u2 with u2 | ⟨j, j1, j2⟩
            · exact Or.inl u2
            · exact Or.inr ⟨j, by omega, j2⟩
          · exact Or.inr ⟨p, by omega, by rw [ea, eb]; exact k4, k5, k6⟩
      refine za_iload_n (pc := 4) dX0_latestFor_4 rfl ?_
      refine za_aload_n (pc := 5) dX0_latestFor_5 rfl ?_
      refine za_getI (pc := 6) dX0_latestFor_6 lk_X0_37 rfl rfl ?_
      rw [hB.1]
      refine za_icmp_ge (pc := 9) 79 dX0_latestFor_9 (by decide) (fun c9 => ?_) (fun c9 => ?_)
      · exact absurd c9 (nI_ge hpn (by omega))
      refine za_fg (ls' := [some (.ref 22), some (.int (zmask S)), some (.int (nI M - 1)), some (.int (nI p)), none]) (by simp [zSub]) ?_
      refine za_iload_n (pc := 12) dX0_latestFor_12 rfl ?_
      refine za_aload_n (pc := 13) dX0_latestFor_13 rfl ?_
      refine za_getR (pc := 14) dX0_latestFor_14 lk_X0_25 rfl rfl ?_
      refine za_iload_n (pc := 17) dX0_latestFor_17 rfl ?_
      refine za_iald (pc := 18) dX0_latestFor_18 rfl vp ?_
      refine za_iand (pc := 19) dX0_latestFor_19 ?_
      refine za_aload_n (pc := 20) dX0_latestFor_20 rfl ?_
      refine za_getR (pc := 21) dX0_latestFor_21 lk_X0_22 rfl rfl ?_
      refine za_iload_n (pc := 24) dX0_latestFor_24 rfl ?_
      refine za_iald (pc := 25) dX0_latestFor_25 rfl vp ?_
      rw [ep, r1, r2, zm_and]
      refine za_icmp_ne (pc := 26) 73 dX0_latestFor_26 (by decide) (fun c26 => ?_) (fun c26 => ?_)
      · rw [zm_eq] at c26
        exact next M _ hM (Nat.le_refl M) (fun q => absurd q c26) (Or.inl rfl)
      rw [zm_eq] at c26
      have ha : app c S a b := c26
      have hsup : ∀ i, thn S a b i = true → i < cN c := fun i hi => by
        rw [thn_t] at hi
        rcases hi with hi | hi | hi
        · exact hS i hi
        · rw [hi]; exact hv.1
        · rcases hv.2.2.1 with z | z
          · omega
          · rw [hi.1]; exact z.1
      have hmT := mkm_n hsup
      have hlt : mkm S 16 < mkm (thn S a b) 16 := mkm_thn hv.2.1 b10 (app_k hc ha hv (blk_t.mpr (Or.inl rfl))) (by
        rcases hv.2.2.1 with z | z
        · exact Or.inl z
        · exact Or.inr (app_k hc ha hv (blk_t.mpr (Or.inr ⟨rfl, by have := z.1; omega⟩))))
      have eT : (zmask (thn S a b)).toNatClampNeg = mkm (thn S a b) 16 := nI_clamp (by omega)
      have vT : vp_in (zmask (thn S a b)) 1024 := vp_in_nI (show mkm (thn S a b) 16 < 1024 by omega) (by decide)
      have mle := (hT _ hsup (by omega)).2.1
      refine za_aload_n (pc := 29) dX0_latestFor_29 rfl ?_
      refine za_getR (pc := 30) dX0_latestFor_30 lk_X0_43 rfl rfl ?_
      refine za_iload_n (pc := 33) dX0_latestFor_33 rfl ?_
      refine za_aload_n (pc := 34) dX0_latestFor_34 rfl ?_
      refine za_getR (pc := 35) dX0_latestFor_35 lk_X0_25 rfl rfl ?_
      refine za_iload_n (pc := 38) dX0_latestFor_38 rfl ?_
      refine za_iald (pc := 39) dX0_latestFor_39 rfl vp ?_
      refine za_ior (pc := 40) dX0_latestFor_40 ?_
      rw [ep, r2, zm_or, show zmask (fun i => S i || (ndB c a b i || blk a b i)) = zmask (thn S a b) from zm_cong (fun i _ => app_thn hc ha hv i)]
      refine za_iald (pc := 41) dX0_latestFor_41 rfl vT ?_
      refine za_aload_n (pc := 42) dX0_latestFor_42 rfl ?_
      refine za_getR (pc := 43) dX0_latestFor_43 lk_X0_31 rfl rfl ?_
      refine za_iload_n (pc := 46) dX0_latestFor_46 rfl ?_
      refine za_iald (pc := 47) dX0_latestFor_47 rfl vp ?_
      rw [eT, ep, hm _ hmT hlt, r4, ← nI_s1 (h := min (eN c a) (eN c b))]
      refine za_cS2i (pc := 48) (μ' := mJ9_min_7cf53) dX0_latestFor_48 c_X0_129 rfl ⟨rfl, rfl⟩ ⟨rfl, rfl⟩ rfl rfl rfl (tJ9_min_7cf53) (fun x_48 t_48 h_48 => ?_)
      obtain ⟨rfl, h9⟩ := h_48
      have h9 := h9.symm
      subst h9
      have e51 : (if nI (min (eN c a) (eN c b) + 1) - 1 < nI (m (mkm (thn S a b) 16)) - 1 then nI (min (eN c a) (eN c b) + 1) - 1 else nI (m (mkm (thn S a b) 16)) - 1) = nI (W p) - 1 := by
        rw [eW]
        by_cases e : min (eN c a) (eN c b) + 1 < m (mkm (thn S a b) 16)
        · rw [if_pos ((s1_lt (by omega) (by omega)).mpr e), show min (m (mkm (thn S a b) 16)) (min (eN c a) (eN c b) + 1) = min (eN c a) (eN c b) + 1 by omega]
        · rw [if_neg (fun q => e ((s1_lt (by omega) (by omega)).mp q)), show min (m (mkm (thn S a b) 16)) (min (eN c a) (eN c b) + 1) = m (mkm (thn S a b) 16) by omega]
      rw [e51]
      refine za_is4 (pc := 51) dX0_latestFor_51 rfl ?_
      refine za_iload (pc := 53) dX0_latestFor_53 rfl ?_
      refine za_aload_n (pc := 55) dX0_latestFor_55 rfl ?_
      refine za_getR (pc := 56) dX0_latestFor_56 lk_X0_28 rfl rfl ?_
      refine za_iload_n (pc := 59) dX0_latestFor_59 rfl ?_
      refine za_iald (pc := 60) dX0_latestFor_60 rfl vp ?_
      rw [ep, r3, ← eB, ← nI_s1 (h := BB p)]
      refine za_icmp_lt (pc := 61) 73 dX0_latestFor_61 (by decide) (fun c61 => ?_) (fun c61 => ?_)
      · rw [s1_lt (by omega) (by omega)] at c61
        exact next M _ hM (Nat.le_refl M) (fun _ q => by omega) (Or.inl rfl)
      rw [s1_lt (by omega) (by omega)] at c61
      refine za_iload_n (pc := 64) dX0_latestFor_64 rfl ?_
      refine za_iload (pc := 65) dX0_latestFor_65 rfl ?_
      refine za_iconst (pc := 67) (1) dX0_latestFor_67 (by decide) ?_
      refine za_isub (pc := 68) dX0_latestFor_68 ?_
      rw [show nI (W p) - 1 - 1 = nI (W p - 1) - 1 by rw [show W p = W p - 1 + 1 by omega, nI_s1, Nat.add_sub_cancel]]
      refine za_cS2i (pc := 69) (μ' := mJ9_max_7cf53) dX0_latestFor_69 c_X0_120 rfl ⟨rfl, rfl⟩ ⟨rfl, rfl⟩ rfl rfl rfl (tJ9_max_7cf53) (fun x_69 t_69 h_69 => ?_)
      obtain ⟨rfl, h9⟩ := h_69
      have h9 := h9.symm
      subst h9
      by_cases e : M < W p - 1
      · rw [if_pos ((s1_lt (by omega) (by omega)).mpr e)]
        refine za_is2n (pc := 72) dX0_latestFor_72 rfl ?_
        exact next (W p - 1) _ (by omega) (by omega) (fun _ _ => Nat.le_refl _) (Or.inr ⟨ha, by omega, rfl⟩)
      · rw [if_neg (fun q => e ((s1_lt (by omega) (by omega)).mp q))]
        refine za_is2n (pc := 72) dX0_latestFor_72 rfl ?_
        exact next M _ hM (Nat.le_refl M) (fun _ _ => by omega) (Or.inl rfl)
  refine zI_of (ls := [some (.ref 22), some (.int (zmask S)), none, none, none]) (by decide) rfl rfl ?_
  refine za_iconst (pc := 0) (-1) dX0_latestFor_0 (by decide) ?_
  refine za_is2n (pc := 1) dX0_latestFor_1 rfl ?_
  refine za_iconst (pc := 2) (0) dX0_latestFor_2 (by decide) ?_
  refine za_is3n (pc := 3) dX0_latestFor_3 rfl ?_
  exact loop nb 0 0 _ (by omega) (by omega) (fun j hj => by omega) (Or.inl rfl)
