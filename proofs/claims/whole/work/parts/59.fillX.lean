/-! THE KEPT DAY of the class: hour by hour -/
theorem BTI_cong {σ u : zSt} {c : Core} {nb B : Nat} {f : Nat → Nat} (hB : BTI σ c nb f B) (e : ∀ d, d = 25 ∨ d = 26 ∨ d = 27 ∨ d = 28 ∨ d = 29 → u d = σ d) (e2 : u 22 10 = σ 22 10) : BTI u c nb f B := ⟨by rw [e2]; exact hB.1, fun q hq => by
  obtain ⟨r, h2, h3⟩ := hB.2.1 q hq
  refine ⟨?_, h2, h3⟩
  unfold RowB at r ⊢
  rw [e 25 (by decide), e 26 (by decide), e 27 (by decide), e 28 (by decide), e 29 (by decide)]
  exact r, hB.2.2.1, hB.2.2.2⟩
theorem tX0_findLatest {σ : zSt} {c : Core} {nb L : Nat} {f g : Nat → Nat} (hc : cOk c) (hj : σ 2 5 = nI (cN c)) (hB : BTI σ c nb f 121) (h55 : nb ≤ 55) (hN : SN σ c g) (hF : ∀ (S : Nat → Bool) (h : Nat), Fw c h S → g (mkm S 16) ≤ h) (hL : σ 22 2 = nI L) (hL60 : L ≤ 60) (hgL : g (mkm (alln (cN c)) 16) = L) : zV mX0_findLatest [.ref 22] SH σ (fun t => ∃ m, (∀ j, j < 2 ^ cN c → t 31 j = nI (m j) - 1) ∧ LT c L g m 0 ∧ ∀ d, d ≠ 31 → t d = σ d) := by
  have hn := hc.1
  have hp := pw10 hn
  have hall := mkm_all (cN c) (by omega)
  obtain ⟨N, hNd⟩ : ∃ N, N = mkm (alln (cN c)) 16 := ⟨_, rfl⟩
  rw [← hNd] at hall hgL
  have eA : zmask (fun i => decide (i < cN c)) = nI N := by rw [hNd]; rfl
  have vN : vp_in (nI N) 1024 := vp_in_nI (by omega) (by decide)
  have eN_ : (nI N).toNatClampNeg = N := nI_clamp (by omega)
  have full : ∀ S : Nat → Bool, (∀ i, S i = true → i < cN c) → ((∀ i, i < cN c → S i = true) ↔ mkm S 16 = N) := fun S hS => by
    constructor
    · intro q
      rw [hNd, ← full_all hS q]
    · intro q
      have : S = alln (cN c) := mkm_inj (fun x hx => by have := hS x hx; omega) (fun x hx => by have : x < cN c := (by simpa using hx); omega) (by rw [q, hNd])
      rw [this]
      intro i hi
      simp [hi]
  have loop : ∀ (D : Nat) (u : zSt) (m : Nat → Nat), D ≤ N → (∀ j, j < 2 ^ cN c → D ≤ j → u 31 j = nI (m j) - 1) → LT c L g m D → (∀ d, d ≠ 31 → u d = σ d) → zA (zZ mX0_findLatest (zQV SH (fun t => ∃ m, (∀ j, j < 2 ^ cN c → t 31 j = nI (m j) - 1) ∧ LT c L g m 0 ∧ ∀ d, d ≠ 31 → t d = σ d))) mX0_findLatest none 0 0 22 [some (.ref 22), some (.int (nI N)), some (.int (nI D - 1))] [] SH u := by
    intro D
    induction D with
    | zero =>
      intro u m hD u1 u2 u3
      refine za_iload_n (pc := 22) dX0_findLatest_22 rfl ?_
      refine za_if_lt (pc := 23) 58 dX0_findLatest_23 (by decide) (fun c23 => ?_) (fun c23 => ?_)
      · refine za_rv (pc := 58) dX0_findLatest_58 rfl rfl rfl ?_
        exact ⟨m, fun j hj => u1 j hj (Nat.zero_le j), u2, u3⟩
      · exact absurd (by decide) c23
    | succ D ih =>
      intro u m hD u1 u2 u3
      have vD : vp_in (nI D) 1024 := vp_in_nI (by omega) (by decide)
      have eD : (nI D).toNatClampNeg = D := nI_clamp (by omega)
      obtain ⟨S, hSd⟩ : ∃ S : Nat → Bool, S = fun i => D.testBit i := ⟨_, rfl⟩
      have hS : ∀ i, S i = true → i < cN c := by rw [hSd]; exact tb_sup (by omega)
      have eS : mkm S 16 = D := by rw [hSd]; exact mkm_tb (by omega)
      have ez : nI D = zmask S := by unfold zmask; rw [eS]
      obtain ⟨k1, k2⟩ := hN.1 D (by omega)
      have next : ∀ (M : Nat), M ≤ L + 1 → (g D < 64 → ∀ h, g D ≤ h → (h < M ↔ (h ≤ L ∧ trch c (L - h) h S))) → (¬ g D < 64 → M = 0) → zA (zZ mX0_findLatest (zQV SH (fun t => ∃ m, (∀ j, j < 2 ^ cN c → t 31 j = nI (m j) - 1) ∧ LT c L g m 0 ∧ ∀ d, d ≠ 31 → t d = σ d))) mX0_findLatest none 0 0 51 [some (.ref 22), some (.int (nI N)), some (.int (nI D))] [.int (nI M - 1), .int (nI D), .ref 31] SH u := by
        intro M q1 q2 q3
        refine za_iast (pc := 51) dX0_findLatest_51 rfl vD ?_
        refine za_ii2 (pc := 52) (-1) dX0_findLatest_52 (by decide) rfl ?_
        refine za_goto (pc := 55) 22 dX0_findLatest_55 (by decide) ?_
        rw [eD, show nI D + (-1) = nI D - 1 by rw [show (-1 : Int32) = -(1) from rfl, ← Int32.sub_eq_add_neg]]
        refine ih _ (fun j => if j = D then M else m j) (by omega) (fun j hj hDj => ?_) (fun S' hS' hDS => ?_) (fun d hd => by rw [zup_n hd]; exact u3 d hd)
        · by_cases e : j = D
          · subst e
            rw [zup_a]
            simp only [if_pos]
          · rw [zup_b e]
            simp only [if_neg e]
            exact u1 j hj (by omega)
        · by_cases e : mkm S' 16 = D
          · have e2 : S' = S := mkm_inj (fun x hx => by have := hS' x hx; omega) (fun x hx => by have := hS x hx; omega) (e.trans eS.symm)
            simp only [if_pos e]
            rw [e, e2]
            exact ⟨q2, q1, q3⟩
          · simp only [if_neg e]
            exact u2 S' hS' (by omega)
      rw [nI_s1]
      refine za_iload_n (pc := 22) dX0_findLatest_22 rfl ?_
      refine za_if_lt (pc := 23) 58 dX0_findLatest_23 (by decide) (fun c23 => ?_) (fun c23 => ?_)
      · exact absurd c23 (nI_nn (by omega))
      refine za_aload_n (pc := 26) dX0_findLatest_26 rfl ?_
      refine za_getR (pc := 27) dX0_findLatest_27 lk_X0_43 rfl rfl ?_
      refine za_iload_n (pc := 30) dX0_findLatest_30 rfl ?_
      refine za_aload_n (pc := 31) dX0_findLatest_31 rfl ?_
      refine za_getR (pc := 32) dX0_findLatest_32 lk_X0_40 rfl rfl ?_
      refine za_iload_n (pc := 35) dX0_findLatest_35 rfl ?_
      refine za_iald (pc := 36) dX0_findLatest_36 rfl vD ?_
      refine za_bipush (pc := 37) (64) dX0_findLatest_37 (by decide) ?_
      rw [eD, u3 30 (by decide), k1]
      refine za_icmp_ge (pc := 39) 50 dX0_findLatest_39 (by decide) (fun c39 => ?_) (fun c39 => ?_)
      · have c39 : nI 64 ≤ nI (g D) := c39
        rw [nI_leI (by decide) (by omega)] at c39
        refine za_iconst (pc := 50) (-1) dX0_findLatest_50 (by decide) ?_
        exact next 0 (by omega) (fun q => by omega) (fun _ => rfl)
      · have c39 : ¬ nI 64 ≤ nI (g D) := c39
        rw [nI_leI (by decide) (by omega)] at c39
        have hLF := tX0_latestFor (σ := u) (m := m) (L := L) (S := S) (g := g) hc (BTI_cong hB (fun d _ => u3 d (by omega)) (by rw [u3 22 (by decide)])) h55 hL60 hS (fun q => by have := (full S hS).mp q; omega) ⟨fun j hj => by rw [u3 30 (by decide)]; exact hN.1 j hj, hN.2⟩ hF (fun j hj h1 => u1 j hj (by omega)) (by rw [eS]; exact u2) (by rw [eS]; omega)
        rw [← ez, eS] at hLF
        refine za_aload_n (pc := 42) dX0_findLatest_42 rfl ?_
        refine za_iload_n (pc := 43) dX0_findLatest_43 rfl ?_
        refine za_cV1i (pc := 44) (μ' := mX0_latestFor) dX0_findLatest_44 c_X0_136 rfl rfl rfl ⟨rfl, rfl⟩ ⟨rfl, rfl⟩ rfl rfl rfl (hLF) (fun x_44 t_44 h_44 => ?_)
        obtain ⟨y0, M, rfl, y2, y3⟩ := h_44
        have y0 := y0.symm
        subst y0
        refine za_goto (pc := 47) 51 dX0_findLatest_47 (by decide) ?_
        exact next M y2 (fun _ => y3) (fun q => absurd (by omega) q)
  refine zV_of (ls := [some (.ref 22), none, none]) (by decide) rfl rfl ?_
  refine za_aload_n (pc := 0) dX0_findLatest_0 rfl ?_
  refine za_getR (pc := 1) dX0_findLatest_1 lk_X0_49 rfl rfl ?_
  refine za_cV0i (pc := 4) (μ' := mX5_all) dX0_findLatest_4 c_X0_73 rfl rfl rfl ⟨rfl, rfl⟩ ⟨rfl, rfl⟩ rfl rfl rfl (tX5_all hj hn) (fun x_4 t_4 h_4 => ?_)
  obtain ⟨rfl, h9⟩ := h_4
  have h9 := h9.symm
  subst h9
  rw [eA]
  refine za_is1n (pc := 7) dX0_findLatest_7 rfl ?_
  refine za_aload_n (pc := 8) dX0_findLatest_8 rfl ?_
  refine za_getR (pc := 9) dX0_findLatest_9 lk_X0_43 rfl rfl ?_
  refine za_iload_n (pc := 12) dX0_findLatest_12 rfl ?_
  refine za_aload_n (pc := 13) dX0_findLatest_13 rfl ?_
  refine za_getI (pc := 14) dX0_findLatest_14 lk_X0_18 rfl rfl ?_
  refine za_iast (pc := 17) dX0_findLatest_17 rfl vN ?_
  refine za_iload_n (pc := 18) dX0_findLatest_18 rfl ?_
  refine za_iconst (pc := 19) (1) dX0_findLatest_19 (by decide) ?_
  refine za_isub (pc := 20) dX0_findLatest_20 ?_
  refine za_is2n (pc := 21) dX0_findLatest_21 rfl ?_
  rw [eN_, hL]
  refine loop N _ (fun _ => L + 1) (Nat.le_refl N) (fun j hj hNj => ?_) (fun S hS hNS => ?_) (fun d hd => zup_n hd)
  · have : j = N := by omega
    subst this
    rw [zup_a, nI_s1]
  · have hm := mkm_n hS
    have e : mkm S 16 = N := by omega
    have hf := (full S hS).mpr e
    rw [e, hgL]
    show (L < 64 → ∀ h, L ≤ h → (h < L + 1 ↔ (h ≤ L ∧ trch c (L - h) h S))) ∧ L + 1 ≤ L + 1 ∧ (¬ L < 64 → L + 1 = 0)
    exact ⟨fun _ h hh => ⟨fun _ => ⟨by omega, trch_full hf _ _⟩, fun q => by omega⟩, Nat.le_refl _, fun q => absurd (by omega) q⟩
/-- block j may be taken in hour h + 1 -/
def cnd (c : Core) (m f : Nat → Nat) (S : Nat → Bool) (h j : Nat) : Prop := app c S (f j / 11) (f j % 11) ∧ max (bN c (f j / 11)) (bN c (f j % 11)) ≤ h + 1 ∧ h + 1 ≤ min (eN c (f j / 11)) (eN c (f j % 11)) ∧ h + 1 < m (mkm (thn S (f j / 11) (f j % 11)) 16)
section CND
variable {σ : zSt} {c : Core} {nb L h : Nat} {f g m : Nat → Nat} {S : Nat → Bool}
theorem cnd_can (hc : cOk c) (hB : BTI σ c nb f 121) (hF : ∀ (S : Nat → Bool) (h : Nat), Fw c h S → g (mkm S 16) ≤ h) (hT : LT c L g m 0) (hL : L ≤ 60) (hS : Fw c h S) {j : Nat} (hj : j < nb) (hq : cnd c m f S h j) : kcan c L h S (f j) ∧ tc c (thn S (f j / 11) (f j % 11)) ∧ stp c (h + 1) S (thn S (f j / 11) (f j % 11)) := by
  obtain ⟨h1, h2, h3, h4⟩ := hq
  obtain ⟨-, hv, -⟩ := hB.2.1 j hj
  have hs := blk_stp hc (Fw_tc hS) h1 hv h2 h3
  obtain ⟨o1, o2⟩ := app_ok hc (Fw_tc hS) h1 hv h2 h3
  have hF2 := Fw_st hS (Nat.le_refl _) hs
  have sT := Fw_sup hF2
  obtain ⟨t1, t2, t3⟩ := hT _ sT (Nat.zero_le _)
  have hg := hF _ _ hF2
  have := (t1 (by omega) (h + 1) hg).mp h4
  exact ⟨⟨o1, hv.2.1, rch_of this.2⟩, o2, hs⟩
/-- the least that may be taken is a block of the list -/
theorem can_cnd (hc : cOk c) (hB : BTI σ c nb f 121) (hF : ∀ (S : Nat → Bool) (h : Nat), Fw c h S → g (mkm S 16) ≤ h) (hT : LT c L g m 0) (hL : L ≤ 60) (hhL : h + 1 ≤ L) (hS : Fw c h S) {k : Nat} (hk : kcan c L h S k) (hl : ∀ j, j < k → ¬ kcan c L h S j) : ∃ q, q < nb ∧ f q = k ∧ cnd c m f S h q := by
  have ht := least_tc hc (Fw_tc hS) hk hl
  obtain ⟨o1, o2, o3⟩ := hk
  have hs : stp c (h + 1) S (thn S (k / 11) (k % 11)) := ⟨_, _, o1, rfl, ht⟩
  obtain ⟨w1, w2, w3⟩ := ok_vB hc o1 o2 (by omega) (by omega)
  have hn := hc.1
  have ha := w1.1
  have hkk : 11 * (k / 11) + k % 11 = k := by omega
  obtain ⟨q, q1, q2⟩ := hB.2.2.2 _ _ w1 (by omega)
  rw [hkk] at q2
  refine ⟨q, q1, q2, ?_⟩
  unfold cnd
  rw [q2]
  have hF2 := Fw_st hS (Nat.le_refl _) hs
  have sT := Fw_sup hF2
  obtain ⟨t1, t2, t3⟩ := hT _ sT (Nat.zero_le _)
  have hg := hF _ _ hF2
  exact ⟨ok_app hc o1 w1 ht, w2, w3, (t1 (by omega) (h + 1) hg).mpr ⟨hhL, trch_of hc _ _ _ ht o3⟩⟩
theorem can_lt (hc : cOk c) {k : Nat} (hk : kcan c L h S k) : k < 120 := by
  have hn := hc.1
  have := hk.1.1
  omega
theorem tX0_leastCode (hc : cOk c) (hB : BTI σ c nb f 121) (h55 : nb ≤ 55) (hF : ∀ (S : Nat → Bool) (h : Nat), Fw c h S → g (mkm S 16) ≤ h) (hm : ∀ j, j < 2 ^ cN c → σ 31 j = nI (m j) - 1) (hT : LT c L g m 0) (hL : L ≤ 60) (hhL : h + 1 ≤ L) (hS : Fw c h S) : zI mX0_leastCode [.ref 22, .int (zmask S), .int (nI (h + 1))] SH σ (fun x t => x = nI (kcd c L h S) ∧ t = σ) := by
  have hn := hc.1
  have hp := pw10 hn
  have sS := Fw_sup hS
  have hmS := mkm_n sS
  have loop : ∀ (q p : Nat), p + q = nb → (∀ j, j < p → ¬ cnd c m f S h j) → zA (zZ mX0_leastCode (zQI SH (fun x t => x = nI (kcd c L h S) ∧ t = σ))) mX0_leastCode none 0 0 2 [some (.ref 22), some (.int (zmask S)), some (.int (nI (h + 1))), some (.int (nI p))] [] SH σ := by
    intro q
    induction q with
    | zero =>
      intro p hp1 u1
      refine za_iload_n (pc := 2) dX0_leastCode_2 rfl ?_
      refine za_aload_n (pc := 3) dX0_leastCode_3 rfl ?_
      refine za_getI (pc := 4) dX0_leastCode_4 lk_X0_37 rfl rfl ?_
      rw [hB.1]
      refine za_icmp_ge (pc := 7) 77 dX0_leastCode_7 (by decide) (fun c7 => ?_) (fun c7 => ?_)
      · refine za_bipush (pc := 77) (120) dX0_leastCode_77 (by decide) ?_
        refine za_ri (pc := 79) dX0_leastCode_79 rfl rfl rfl ?_
        refine ⟨?_, rfl⟩
        have : kcd c L h S = 120 := fnd_no (fun i hi => tb_f.mpr (fun hk => by
          obtain ⟨k, hk1, hk2⟩ := least_ex (P := kcan c L h S) hk
          obtain ⟨q, q1, q2, q3⟩ := can_cnd hc hB hF hT hL hhL hS hk1 hk2
          exact u1 q (by omega) q3))
        rw [this]
        rfl
      · exact absurd (nI_le (show nb ≤ p by omega) (by omega)) c7
    | succ q ih =>
      intro p hp1 u1
      have hpn : p < nb := by omega
      have vp : vp_in (nI p) 55 := vp_in_nI (by omega) (by decide)
      have ep : (nI p).toNatClampNeg = p := nI_clamp (by omega)
      have skip : ¬ cnd c m f S h p → zA (zZ mX0_leastCode (zQI SH (fun x t => x = nI (kcd c L h S) ∧ t = σ))) mX0_leastCode none 0 0 71 [some (.ref 22), some (.int (zmask S)), some (.int (nI (h + 1))), some (.int (nI p))] [] SH σ := by
        intro hno
        refine za_ii3 (pc := 71) (1) dX0_leastCode_71 (by decide) rfl ?_
        refine za_goto (pc := 74) 2 dX0_leastCode_74 (by decide) ?_
        rw [nI_1]
        refine ih (p + 1) (by omega) (fun j hj => ?_)
        rcases Nat.lt_or_eq_of_le (Nat.le_of_lt_succ hj) with e | e
        · exact u1 j e
        · rw [e]; exact hno
      have yes : cnd c m f S h p → kcd c L h S = f p := fun hq => by
        have hk := (cnd_can hc hB hF hT hL hS hpn hq).1
        refine fnd_eq (can_lt hc hk) (tb_t.mpr hk) (fun i hi => tb_f.mpr (fun hki => ?_))
        obtain ⟨k, hk1, hk2⟩ := least_ex (P := kcan c L h S) hki
        obtain ⟨q, q1, q2, q3⟩ := can_cnd hc hB hF hT hL hhL hS hk1 hk2
        have hki2 : k ≤ i := by
          rcases Nat.lt_or_ge i k with z | z
          · exact absurd hki (hk2 i z)
          · exact z
        have hqp : q < p := by
          rcases Nat.lt_trichotomy q p with z | z | z
          · exact z
          · subst z; omega
          · have := hB.2.2.1 p q z q1; omega
        exact u1 q hqp q3
      obtain ⟨⟨r1, r2, r3, r4, r5⟩, hv, -⟩ := hB.2.1 p hpn
      have hfp : f p = 11 * (f p / 11) + f p % 11 := by omega
      unfold cnd at skip yes
      generalize ea : f p / 11 = a at *
      generalize eb : f p % 11 = b at *
      have b10 := vB_10 hc hv
      obtain ⟨-, -, p3, p4, p5, p6, -⟩ := bE_ok hc hv.1
      have bB : bN c b ≤ 40 ∧ eN c b ≤ 64 := by
        rcases hv.2.2.1 with z | z
        · rw [z, show bN c 10 = 1 from if_pos rfl, show eN c 10 = 64 from if_pos rfl]; decide
        · exact ⟨(bE_ok hc z.1).2.2.2.1, (bE_ok hc z.1).2.2.2.2.2.1⟩
      refine za_iload_n (pc := 2) dX0_leastCode_2 rfl ?_
      refine za_aload_n (pc := 3) dX0_leastCode_3 rfl ?_
      refine za_getI (pc := 4) dX0_leastCode_4 lk_X0_37 rfl rfl ?_
      rw [hB.1]
      refine za_icmp_ge (pc := 7) 77 dX0_leastCode_7 (by decide) (fun c7 => ?_) (fun c7 => ?_)
      · exact absurd c7 (nI_ge hpn (by omega))
      refine za_iload_n (pc := 10) dX0_leastCode_10 rfl ?_
      refine za_aload_n (pc := 11) dX0_leastCode_11 rfl ?_
      refine za_getR (pc := 12) dX0_leastCode_12 lk_X0_25 rfl rfl ?_
      refine za_iload_n (pc := 15) dX0_leastCode_15 rfl ?_
      refine za_iald (pc := 16) dX0_leastCode_16 rfl vp ?_
      refine za_iand (pc := 17) dX0_leastCode_17 ?_
      refine za_aload_n (pc := 18) dX0_leastCode_18 rfl ?_
      refine za_getR (pc := 19) dX0_leastCode_19 lk_X0_22 rfl rfl ?_
      refine za_iload_n (pc := 22) dX0_leastCode_22 rfl ?_
      refine za_iald (pc := 23) dX0_leastCode_23 rfl vp ?_
      rw [ep, r1, r2, zm_and]
      refine za_icmp_ne (pc := 24) 71 dX0_leastCode_24 (by decide) (fun c24 => ?_) (fun c24 => ?_)
      · rw [zm_eq] at c24
        exact skip (fun q => c24 q.1)
      rw [zm_eq] at c24
      have ha : app c S a b := c24
      refine za_iload_n (pc := 27) dX0_leastCode_27 rfl ?_
      refine za_aload_n (pc := 28) dX0_leastCode_28 rfl ?_
      refine za_getR (pc := 29) dX0_leastCode_29 lk_X0_28 rfl rfl ?_
      refine za_iload_n (pc := 32) dX0_leastCode_32 rfl ?_
      refine za_iald (pc := 33) dX0_leastCode_33 rfl vp ?_
      rw [ep, r3]
      refine za_icmp_lt (pc := 34) 71 dX0_leastCode_34 (by decide) (fun c34 => ?_) (fun c34 => ?_)
      · rw [nI_ltI (by omega) (by omega)] at c34
        exact skip (fun q => by have := q.2.1; omega)
      rw [nI_ltI (by omega) (by omega)] at c34
      refine za_iload_n (pc := 37) dX0_leastCode_37 rfl ?_
      refine za_aload_n (pc := 38) dX0_leastCode_38 rfl ?_
      refine za_getR (pc := 39) dX0_leastCode_39 lk_X0_31 rfl rfl ?_
      refine za_iload_n (pc := 42) dX0_leastCode_42 rfl ?_
      refine za_iald (pc := 43) dX0_leastCode_43 rfl vp ?_
      rw [ep, r4]
      refine za_icmp_gt (pc := 44) 71 dX0_leastCode_44 (by decide) (fun c44 => ?_) (fun c44 => ?_)
      · rw [nI_ltI (by omega) (by omega)] at c44
        exact skip (fun q => by have := q.2.2.1; omega)
      rw [nI_ltI (by omega) (by omega)] at c44
      have hsup := stp_sup sS (blk_stp hc (Fw_tc hS) ha hv (H := h + 1) (by omega) (by omega))
      have hmT := mkm_n hsup
      have eT : (zmask (thn S a b)).toNatClampNeg = mkm (thn S a b) 16 := nI_clamp (by omega)
      have vT : vp_in (zmask (thn S a b)) 1024 := vp_in_nI (show mkm (thn S a b) 16 < 1024 by omega) (by decide)
      have mle := (hT _ hsup (Nat.zero_le _)).2.1
      refine za_iload_n (pc := 47) dX0_leastCode_47 rfl ?_
      refine za_aload_n (pc := 48) dX0_leastCode_48 rfl ?_
      refine za_getR (pc := 49) dX0_leastCode_49 lk_X0_43 rfl rfl ?_
      refine za_iload_n (pc := 52) dX0_leastCode_52 rfl ?_
      refine za_aload_n (pc := 53) dX0_leastCode_53 rfl ?_
      refine za_getR (pc := 54) dX0_leastCode_54 lk_X0_25 rfl rfl ?_
      refine za_iload_n (pc := 57) dX0_leastCode_57 rfl ?_
      refine za_iald (pc := 58) dX0_leastCode_58 rfl vp ?_
      refine za_ior (pc := 59) dX0_leastCode_59 ?_
      rw [ep, r2, zm_or, show zmask (fun i => S i || (ndB c a b i || blk a b i)) = zmask (thn S a b) from zm_cong (fun i _ => app_thn hc ha hv i)]
      refine za_iald (pc := 60) dX0_leastCode_60 rfl vT ?_
      rw [eT, hm _ hmT, ← nI_s1 (h := h + 1)]
      refine za_icmp_gt (pc := 61) 71 dX0_leastCode_61 (by decide) (fun c61 => ?_) (fun c61 => ?_)
      · rw [s1_lt (by omega) (by omega)] at c61
        rw [nI_s1 (h := h + 1)]
        exact skip (fun q => by have := q.2.2.2; omega)
      rw [s1_lt (by omega) (by omega)] at c61
      refine za_aload_n (pc := 64) dX0_leastCode_64 rfl ?_
      refine za_getR (pc := 65) dX0_leastCode_65 lk_X0_34 rfl rfl ?_
      refine za_iload_n (pc := 68) dX0_leastCode_68 rfl ?_
      refine za_iald (pc := 69) dX0_leastCode_69 rfl vp ?_
      refine za_ri (pc := 70) dX0_leastCode_70 rfl rfl rfl ?_
      rw [ep, r5, yes ⟨ha, by omega, by omega, by omega⟩, hfp]
      exact ⟨rfl, rfl⟩
  refine zI_of (ls := [some (.ref 22), some (.int (zmask S)), some (.int (nI (h + 1))), none]) (by decide) rfl rfl ?_
  refine za_iconst (pc := 0) (0) dX0_leastCode_0 (by decide) ?_
  refine za_is3n (pc := 1) dX0_leastCode_1 rfl ?_
  exact loop nb 0 (by omega) (fun j hj => by omega)
end CND
