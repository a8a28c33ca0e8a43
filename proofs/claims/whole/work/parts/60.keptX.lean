/-! THE KEPT DAY of the class -/
theorem tX0_place {σ : zSt} {a h : Nat} (ha : a ≤ 10) : zI mX0_place [.ref 22, .int (nI a), .int (nI h)] SH σ (fun x t => x = zmask (fun i => decide (i = a) && decide (i < 10)) ∧ t = if a = 10 then σ else zup σ 24 a (nI h)) := by
  refine zI_of (ls := [some (.ref 22), some (.int (nI a)), some (.int (nI h))]) (by decide) rfl rfl ?_
  refine za_iload_n (pc := 0) dX0_place_0 rfl ?_
  refine za_bipush (pc := 1) (10) dX0_place_1 (by decide) ?_
  refine za_icmp_ne (pc := 3) 8 dX0_place_3 (by decide) (fun c3 => ?_) (fun c3 => ?_)
  · have h10 : a ≠ 10 := fun q => c3 (by rw [q]; rfl)
    have va : vp_in (nI a) 10 := vp_in_nI (by omega) (by decide)
    have ea : (nI a).toNatClampNeg = a := nI_clamp (by omega)
    refine za_aload_n (pc := 8) dX0_place_8 rfl ?_
    refine za_getR (pc := 9) dX0_place_9 lk_X0_15 rfl rfl ?_
    refine za_iload_n (pc := 12) dX0_place_12 rfl ?_
    refine za_iload_n (pc := 13) dX0_place_13 rfl ?_
    refine za_iast (pc := 14) dX0_place_14 rfl va ?_
    refine za_iload_n (pc := 15) dX0_place_15 rfl ?_
    refine za_cSN1i (pc := 16) (μ' := mX6_bit) dX0_place_16 c_X0_106 rfl ⟨rfl, rfl⟩ ⟨rfl, rfl⟩ rfl rfl rfl (tX6_bit) (fun x_16 t_16 h_16 => ?_)
    obtain ⟨rfl, h9⟩ := h_16
    have h9 := h9.symm
    subst h9
    refine za_ri (pc := 19) dX0_place_19 rfl rfl rfl ?_
    rw [zm_1 (by omega), ea, if_neg h10]
    refine ⟨zm_cong (fun i _ => ?_), rfl⟩
    by_cases e : i = a
    · have : i < 10 := by omega
      simp [this]
    · simp [e]
  · have h10 : a = 10 := (nI_eq (by omega) (by decide)).mp (show nI a = nI 10 from c3)
    subst h10
    refine za_iconst (pc := 6) (0) dX0_place_6 (by decide) ?_
    refine za_ri (pc := 7) dX0_place_7 rfl rfl rfl ?_
    rw [if_pos rfl]
    refine ⟨?_, rfl⟩
    rw [← zm_0]
    exact zm_cong (fun i _ => by
      by_cases e : i = 10
      · subst e; decide
      · simp [e])
theorem dm11 : ∀ k, k < 121 → nI k / 11 = nI (k / 11) ∧ nI k - nI k / 11 * 11 = nI (k % 11) := by decide
section PATH
variable {c : Core} {L : Nat}
theorem kcd_le (h : Nat) (S : Nat → Bool) : kcd c L h S ≤ 120 := by
  unfold kcd
  rcases fnd_spec (p := fun k => tb (kcan c L h S k)) 120 with q | q <;> omega
theorem kcd_can {h : Nat} {S : Nat → Bool} (hk : kcd c L h S ≠ 120) : kcan c L h S (kcd c L h S) ∧ ∀ j, j < kcd c L h S → ¬ kcan c L h S j := by
  unfold kcd at hk ⊢
  rcases fnd_spec (p := fun k => tb (kcan c L h S k)) 120 with q | q
  · exact absurd q.1 hk
  · exact ⟨tb_t.mp q.2.1, fun j hj => tb_f.mp (q.2.2 j hj)⟩
theorem kcd_no {h : Nat} {S : Nat → Bool} (hk : kcd c L h S = 120) : ∀ j, j < 120 → ¬ kcan c L h S j := by
  unfold kcd at hk
  rcases fnd_spec (p := fun k => tb (kcan c L h S k)) 120 with q | q
  · exact fun j hj => tb_f.mp (q.2 j hj)
  · omega
theorem path_step (hc : cOk c) {h : Nat} (hh : h + 1 ≤ L) (hS : Fw c h (kSq c L h)) (hr : rch c (L - h) h (kSq c L h)) : Fw c (h + 1) (kSq c L (h + 1)) ∧ rch c (L - (h + 1)) (h + 1) (kSq c L (h + 1)) := by
  show Fw c (h + 1) (kT c L h (kSq c L h)) ∧ rch c (L - (h + 1)) (h + 1) (kT c L h (kSq c L h))
  unfold kT
  by_cases e : kcd c L h (kSq c L h) = 120
  · rw [if_pos e]
    refine ⟨Or.inl hS, ?_⟩
    rw [show L - h = L - (h + 1) + 1 by omega] at hr
    rcases hr with hr | ⟨x, y, h1, h2⟩
    · exact hr
    · obtain ⟨a, b, k1, _⟩ := kcan_of hc h1 h2
      exact absurd k1 (kcd_no e _ (can_lt hc k1))
  · rw [if_neg e]
    obtain ⟨k1, k2⟩ := kcd_can e
    exact ⟨Or.inr ⟨_, hS, _, _, k1.1, rfl, least_tc hc (Fw_tc hS) k1 k2⟩, k1.2.2⟩
end PATH
def XKept (t : zSt) (c : Core) : Prop := t 22 2 = spKept c ∧ (∀ h, kL c ≤ 60 → h < kL c → t 23 (h + 1) = nI (kcd c (kL c) h (kSq c (kL c) h))) ∧ ∀ a, a < cN c → t 24 a = kHr c a
theorem tX0_fillHours {σ : zSt} {c : Core} {nb L : Nat} {f g m : Nat → Nat} (hc : cOk c) (hB : BTI σ c nb f 121) (h55 : nb ≤ 55) (hF : ∀ (S : Nat → Bool) (h : Nat), Fw c h S → g (mkm S 16) ≤ h) (hm : ∀ j, j < 2 ^ cN c → σ 31 j = nI (m j) - 1) (hT : LT c L g m 0) (hL : L ≤ 60) (hl : σ 22 2 = nI L) (hr : rch c L 0 (fun _ => false)) : zV mX0_fillHours [.ref 22] SH σ (fun t => (∀ d, d ≠ 23 → d ≠ 24 → t d = σ d) ∧ (∀ h, h < L → t 23 (h + 1) = nI (kcd c L h (kSq c L h))) ∧ ∀ a, a < cN c → t 24 a = kHs c L L a) := by
  have hn := hc.1
  have loop : ∀ (q h : Nat) (u : zSt) (x3 : Option Value), h + q = L → Fw c h (kSq c L h) → rch c (L - h) h (kSq c L h) → (∀ d, d ≠ 23 → d ≠ 24 → u d = σ d) → (∀ g, g < h → u 23 (g + 1) = nI (kcd c L g (kSq c L g))) → (∀ a, kSq c L h a = true → u 24 a = kHs c L h a) → zA (zZ mX0_fillHours (zQV SH (fun t => (∀ d, d ≠ 23 → d ≠ 24 → t d = σ d) ∧ (∀ h, h < L → t 23 (h + 1) = nI (kcd c L h (kSq c L h))) ∧ ∀ a, a < cN c → t 24 a = kHs c L L a))) mX0_fillHours none 0 0 4 [some (.ref 22), some (.int (zmask (kSq c L h))), some (.int (nI (h + 1))), x3] [] SH u := by
    intro q
    induction q with
    | zero =>
      intro h u x3 hh hS hr u1 u2 u3
      have hh : h = L := by omega
      subst hh
      refine za_iload_n (pc := 4) dX0_fillHours_4 rfl ?_
      refine za_aload_n (pc := 5) dX0_fillHours_5 rfl ?_
      refine za_getI (pc := 6) dX0_fillHours_6 lk_X0_18 rfl rfl ?_
      rw [u1 22 (by decide) (by decide), hl]
      refine za_icmp_gt (pc := 9) 54 dX0_fillHours_9 (by decide) (fun c9 => ?_) (fun c9 => ?_)
      · refine za_rv (pc := 54) dX0_fillHours_54 rfl rfl rfl ?_
        refine ⟨u1, u2, fun a ha => u3 a ?_⟩
        rw [Nat.sub_self] at hr
        exact hr a ha
      · exact absurd (nI_lt (show h < h + 1 by omega) (by omega)) c9
    | succ q ih =>
      intro h u x3 hh hS hr u1 u2 u3
      obtain ⟨w1, w2⟩ := path_step hc (show h + 1 ≤ L by omega) hS hr
      have vh : vp_in (nI (h + 1)) 61 := vp_in_nI (by omega) (by decide)
      have eh : (nI (h + 1)).toNatClampNeg = h + 1 := nI_clamp (by omega)
      refine za_fg (ls' := [some (.ref 22), some (.int (zmask (kSq c L h))), some (.int (nI (h + 1))), none]) (by simp [zSub]) ?_
      refine za_iload_n (pc := 4) dX0_fillHours_4 rfl ?_
      refine za_aload_n (pc := 5) dX0_fillHours_5 rfl ?_
      refine za_getI (pc := 6) dX0_fillHours_6 lk_X0_18 rfl rfl ?_
      rw [u1 22 (by decide) (by decide), hl]
      refine za_icmp_gt (pc := 9) 54 dX0_fillHours_9 (by decide) (fun c9 => ?_) (fun c9 => ?_)
      · rw [nI_ltI (by omega) (by omega)] at c9
        omega
      have hLC := tX0_leastCode (σ := u) (g := g) (m := m) hc (BTI_cong hB (fun d hd => u1 d (by omega) (by omega)) (by rw [u1 22 (by decide) (by decide)])) h55 hF (fun j hj => by rw [u1 31 (by decide) (by decide)]; exact hm j hj) hT hL (show h + 1 ≤ L by omega) hS
      have k120 := kcd_le (c := c) (L := L) h (kSq c L h)
      have eK : kSq c L (h + 1) = (if kcd c L h (kSq c L h) = 120 then kSq c L h else thn (kSq c L h) (kcd c L h (kSq c L h) / 11) (kcd c L h (kSq c L h) % 11)) := rfl
      have hcan : kcd c L h (kSq c L h) ≠ 120 → kcan c L h (kSq c L h) (kcd c L h (kSq c L h)) := fun e => (kcd_can e).1
      generalize ek : kcd c L h (kSq c L h) = k at *
      obtain ⟨d1, d2⟩ := dm11 k (by omega)
      refine za_aload_n (pc := 12) dX0_fillHours_12 rfl ?_
      refine za_iload_n (pc := 13) dX0_fillHours_13 rfl ?_
      refine za_iload_n (pc := 14) dX0_fillHours_14 rfl ?_
      refine za_cV2i (pc := 15) (μ' := mX0_leastCode) dX0_fillHours_15 c_X0_139 rfl rfl rfl ⟨rfl, rfl⟩ ⟨rfl, rfl⟩ rfl rfl rfl (hLC) (fun x_15 t_15 h_15 => ?_)
      obtain ⟨rfl, h9⟩ := h_15
      have h9 := h9.symm
      subst h9
      refine za_is3n (pc := 18) dX0_fillHours_18 rfl ?_
      refine za_aload_n (pc := 19) dX0_fillHours_19 rfl ?_
      refine za_getR (pc := 20) dX0_fillHours_20 lk_X0_9 rfl rfl ?_
      refine za_iload_n (pc := 23) dX0_fillHours_23 rfl ?_
      refine za_iload_n (pc := 24) dX0_fillHours_24 rfl ?_
      refine za_iast (pc := 25) dX0_fillHours_25 rfl vh ?_
      rw [eh]
      refine za_iload_n (pc := 26) dX0_fillHours_26 rfl ?_
      refine za_aload_n (pc := 27) dX0_fillHours_27 rfl ?_
      refine za_iload_n (pc := 28) dX0_fillHours_28 rfl ?_
      refine za_bipush (pc := 29) (11) dX0_fillHours_29 (by decide) ?_
      refine za_idiv (pc := 31) dX0_fillHours_31 (by decide) ?_
      rw [d1]
      refine za_iload_n (pc := 32) dX0_fillHours_32 rfl ?_
      refine za_cV2i (pc := 33) (μ' := mX0_place) dX0_fillHours_33 c_X0_142 rfl rfl rfl ⟨rfl, rfl⟩ ⟨rfl, rfl⟩ rfl rfl rfl (tX0_place (a := k / 11) (h := h + 1) (by omega)) (fun x_33 t_33 h_33 => ?_)
      obtain ⟨rfl, y1⟩ := h_33
      refine za_aload_n (pc := 36) dX0_fillHours_36 rfl ?_
      refine za_iload_n (pc := 37) dX0_fillHours_37 rfl ?_
      refine za_bipush (pc := 38) (11) dX0_fillHours_38 (by decide) ?_
      refine za_irem (pc := 40) dX0_fillHours_40 (by decide) ?_
      rw [d2]
      refine za_iload_n (pc := 41) dX0_fillHours_41 rfl ?_
      refine za_cV2i (pc := 42) (μ' := mX0_place) dX0_fillHours_42 c_X0_142 rfl rfl rfl ⟨rfl, rfl⟩ ⟨rfl, rfl⟩ rfl rfl rfl (tX0_place (a := k % 11) (h := h + 1) (by omega)) (fun x_42 t_42 h_42 => ?_)
      obtain ⟨rfl, y2⟩ := h_42
      refine za_ior (pc := 45) dX0_fillHours_45 ?_
      rw [zm_or]
      refine za_ior (pc := 46) dX0_fillHours_46 ?_
      rw [zm_or, show zmask (fun i => kSq c L h i || ((decide (i = k / 11) && decide (i < 10)) || (decide (i = k % 11) && decide (i < 10)))) = zmask (kSq c L (h + 1)) from zm_cong (fun i _ => by
        rw [eK]
        by_cases e : k = 120
        · rw [if_pos e, e]
          have n1 : ¬ (i = 120 / 11 ∧ i < 10) := by omega
          have n2 : ¬ (i = 120 % 11 ∧ i < 10) := by omega
          rw [Bool.eq_iff_iff]
          simp only [Bool.or_eq_true, Bool.and_eq_true, decide_eq_true_eq]
          exact ⟨fun q => q.elim id (fun q => q.elim (fun z => absurd z n1) (fun z => absurd z n2)), Or.inl⟩
        · rw [if_neg e, Bool.eq_iff_iff, thn_t]
          have := (hcan e).1.1
          simp only [Bool.or_eq_true, Bool.and_eq_true, decide_eq_true_eq]
          exact ⟨fun q => q.elim Or.inl (fun q => q.elim (fun z => Or.inr (Or.inl z.1)) (fun z => Or.inr (Or.inr z))), fun q => q.elim Or.inl (fun q => q.elim (fun z => Or.inr (Or.inl ⟨z, by omega⟩)) (fun z => Or.inr (Or.inr z)))⟩)]
      refine za_is1n (pc := 47) dX0_fillHours_47 rfl ?_
      refine za_ii2 (pc := 48) (1) dX0_fillHours_48 (by decide) rfl ?_
      refine za_goto (pc := 51) 4 dX0_fillHours_51 (by decide) ?_
      rw [nI_1]
      have t24 : ∀ d, d ≠ 24 → t_42 d = zup u 23 (h + 1) (nI k) d := fun d hd => by
        rw [y2]
        by_cases e1 : k % 11 = 10
        · rw [if_pos e1, y1]
          by_cases e2 : k / 11 = 10
          · rw [if_pos e2]
          · rw [if_neg e2, zup_n hd]
        · rw [if_neg e1, zup_n hd, y1]
          by_cases e2 : k / 11 = 10
          · rw [if_pos e2]
          · rw [if_neg e2, zup_n hd]
      refine ih (h + 1) t_42 _ (by omega) w1 w2 (fun d d1 d2 => by rw [t24 d d2, zup_n d1]; exact u1 d d1 d2) (fun g hg => ?_) (fun x hx => ?_)
      · rw [t24 23 (by decide)]
        by_cases e : g = h
        · rw [e, zup_a, ek]
        · rw [zup_b (by omega)]; exact u2 g (by omega)
      · show _ = (if (kSq c L (h + 1) x && !kSq c L h x) = true then nI (h + 1) else kHs c L h x)
        have hv : t_42 24 x = if (x = k / 11 ∧ k / 11 ≠ 10) ∨ (x = k % 11 ∧ k % 11 ≠ 10) then nI (h + 1) else u 24 x := by
          rw [y2]
          by_cases e1 : k % 11 = 10
          · rw [if_pos e1, y1]
            by_cases e2 : k / 11 = 10
            · rw [if_pos e2, if_neg (by omega), zup_n (by decide)]
            · rw [if_neg e2]
              by_cases e3 : x = k / 11
              · rw [if_pos (Or.inl ⟨e3, e2⟩), e3, zup_a]
              · rw [if_neg (by omega), zup_b e3, zup_n (by decide)]
          · rw [if_neg e1, y1]
            by_cases e4 : x = k % 11
            · rw [if_pos (Or.inr ⟨e4, e1⟩), e4, zup_a]
            · rw [zup_b e4]
              by_cases e2 : k / 11 = 10
              · rw [if_pos e2, if_neg (by omega), zup_n (by decide)]
              · rw [if_neg e2]
                by_cases e3 : x = k / 11
                · rw [if_pos (Or.inl ⟨e3, e2⟩), e3, zup_a]
                · rw [if_neg (by omega), zup_b e3, zup_n (by decide)]
        rw [hv]
        by_cases e : k = 120
        · have : kSq c L (h + 1) = kSq c L h := by rw [eK, if_pos e]
          rw [this] at hx ⊢
          rw [if_neg (by omega), if_neg (by simp)]
          exact u3 x hx
        · have hk := hcan e
          have h1 : kSq c L h (k / 11) = false := hk.1.2.1.1
          have h2 : k % 11 ≠ 10 → kSq c L h (k % 11) = false := fun q => (hk.1.2.2.resolve_left q).2.2.1.1
          have hn9 := hk.1.1
          by_cases e5 : (x = k / 11 ∧ k / 11 ≠ 10) ∨ (x = k % 11 ∧ k % 11 ≠ 10)
          · rw [if_pos e5]
            have : kSq c L h x = false := by
              rcases e5 with z | z
              · rw [z.1]; exact h1
              · rw [z.1]; exact h2 z.2
            rw [if_pos (by rw [hx, this]; rfl)]
          · rw [if_neg e5]
            have : kSq c L h x = true := by
              have hx2 := hx
              rw [eK, if_neg e, thn_t] at hx2
              rcases hx2 with z | z | z
              · exact z
              · exact absurd (Or.inl ⟨z, by omega⟩) e5
              · exact absurd (Or.inr ⟨z.1, by omega⟩) e5
            rw [if_neg (by rw [this]; simp)]
            exact u3 x this
  refine zV_of (ls := [some (.ref 22), none, none, none]) (by decide) rfl rfl ?_
  refine za_iconst (pc := 0) (0) dX0_fillHours_0 (by decide) ?_
  refine za_is1n (pc := 1) dX0_fillHours_1 rfl ?_
  refine za_iconst (pc := 2) (1) dX0_fillHours_2 (by decide) ?_
  refine za_is2n (pc := 3) dX0_fillHours_3 rfl ?_
  have := loop L 0 σ none (by omega) rfl hr (fun _ _ _ => rfl) (fun g hg => by omega) (fun a ha => by cases ha)
  have ez : zmask (kSq c L 0) = 0 := zm_0
  rw [ez] at this
  exact this
def FK (t σ : zSt) : Prop := ∀ d, d < 10 ∨ (15 ≤ d ∧ d < 22) ∨ 32 ≤ d → t d = σ d
theorem tX0_renew {σ : zSt} {c : Core} {v : Int32} (hX : XCore σ c) (hc : cOk c) (hv : σ 2 7 = v) (hO : σ 10 6 = v → XOrd σ c) (hK : σ 22 13 = v → XKept σ c) : zV mX0_renew [.ref 22] SH σ (fun t => XKept t c ∧ t 22 13 = v ∧ (t 10 6 = v → XOrd t c) ∧ (t 10 6 = v ∨ t 10 6 = σ 10 6) ∧ FK t σ) := by
  have hn := hc.1
  have hp := pw10 hn
  refine zV_of (ls := [some (.ref 22), none]) (by decide) rfl rfl ?_
  refine za_aload_n (pc := 0) dX0_renew_0 rfl ?_
  refine za_getI (pc := 1) dX0_renew_1 lk_X0_46 rfl rfl ?_
  refine za_aload_n (pc := 4) dX0_renew_4 rfl ?_
  refine za_getR (pc := 5) dX0_renew_5 lk_X0_49 rfl rfl ?_
  refine za_getI (pc := 8) dX0_renew_8 lk_X0_57 rfl rfl ?_
  rw [hv]
  refine za_icmp_ne (pc := 11) 15 dX0_renew_11 (by decide) (fun c11 => ?_) (fun c11 => ?_)
  · refine za_aload_n (pc := 15) dX0_renew_15 rfl ?_
    refine za_aload_n (pc := 16) dX0_renew_16 rfl ?_
    refine za_getR (pc := 17) dX0_renew_17 lk_X0_49 rfl rfl ?_
    refine za_getI (pc := 20) dX0_renew_20 lk_X0_57 rfl rfl ?_
    refine za_putI (pc := 23) dX0_renew_23 lp_X0_46 rfl rfl ?_
    rw [hv]
    have hX1 : XCore (zup σ 22 13 v) c := XCore_cong hX (fun d hd => zup_n (by omega))
    refine za_aload_n (pc := 26) dX0_renew_26 rfl ?_
    refine za_getR (pc := 27) dX0_renew_27 lk_X0_53 rfl rfl ?_
    refine za_cV0v (pc := 30) (μ' := mX2_renew) dX0_renew_30 c_X0_62 rfl rfl rfl ⟨rfl, rfl⟩ ⟨rfl, rfl⟩ rfl rfl rfl (tX2_renew (v := v) hX1 hc (by rw [zup_n (by decide)]; exact hv) (fun q => by rw [zup_n (by decide)] at q; exact ⟨fun a ha => by rw [zup_n (by decide), zup_n (by decide), zup_n (by decide), zup_n (by decide)]; exact (hO q).1 a ha, by rw [zup_n (by decide)]; exact (hO q).2⟩)) (fun t_30 h_30 => ?_)
    obtain ⟨o1, o2, o3⟩ := h_30
    have hX2 : XCore t_30 c := XCore_cong hX1 (fun d hd => o3 d (Or.inl hd))
    refine za_aload_n (pc := 33) dX0_renew_33 rfl ?_
    refine za_cV0v (pc := 34) (μ' := mX0_listBlocks) dX0_renew_34 c_X0_67 rfl rfl rfl ⟨rfl, rfl⟩ ⟨rfl, rfl⟩ rfl rfl rfl (tX0_listBlocks hX2 hc o1) (fun t_34 h_34 => ?_)
    obtain ⟨nb, f, h55, hB, l1, l2⟩ := h_34
    have hX3 : XCore t_34 c := XCore_cong hX2 (fun d hd => l1 d (Or.inl (by omega)))
    refine za_aload_n (pc := 37) dX0_renew_37 rfl ?_
    refine za_cV0v (pc := 38) (μ' := mX0_findSoonest) dX0_renew_38 c_X0_70 rfl rfl rfl ⟨rfl, rfl⟩ ⟨rfl, rfl⟩ rfl rfl rfl (tX0_findSoonest hc hX3.1 hB h55) (fun t_38 h_38 => ?_)
    obtain ⟨g, hN, hF, s1⟩ := h_38
    have hX4 : XCore t_38 c := XCore_cong hX3 (fun d hd => s1 d (by omega))
    have hO4 : ∀ u : zSt, (∀ d, d < 22 → u d = t_30 d) → XOrd u c := fun u hu => by
      refine ⟨fun a ha => ?_, ?_⟩
      · rw [hu 11 (by decide), hu 12 (by decide), hu 13 (by decide), hu 14 (by decide)]
        exact o1.1 a ha
      · rw [hu 10 (by decide)]; exact o1.2
    have e38 : ∀ d, d < 22 → t_38 d = t_30 d := fun d hd => by rw [s1 d (by omega), l1 d (Or.inl hd)]
    have f38 : ∀ d, d < 10 ∨ (15 ≤ d ∧ d < 22) ∨ 32 ≤ d → t_38 d = σ d := fun d hd => by
      rw [s1 d (by omega), l1 d (by omega), o3 d (by omega), zup_n (by omega)]
    have m38 : t_38 22 13 = v := by rw [s1 22 (by decide), l2 13 (by decide), o3 22 (by decide), zup_a]
    obtain ⟨N, hNd⟩ : ∃ N, N = mkm (alln (cN c)) 16 := ⟨_, rfl⟩
    have hmA := mkm_n (S := alln (cN c)) (n := cN c) (fun i hi => by simpa using hi)
    obtain ⟨k1, k2⟩ := hN.1 _ hmA
    have eA : (zmask (fun i => decide (i < cN c))).toNatClampNeg = mkm (alln (cN c)) 16 := nI_clamp (show mkm (alln (cN c)) 16 < 2 ^ 31 by omega)
    have vA : vp_in (zmask (fun i => decide (i < cN c))) 1024 := vp_in_nI (show mkm (alln (cN c)) 16 < 1024 by omega) (by decide)
    refine za_aload_n (pc := 41) dX0_renew_41 rfl ?_
    refine za_getR (pc := 42) dX0_renew_42 lk_X0_40 rfl rfl ?_
    refine za_aload_n (pc := 45) dX0_renew_45 rfl ?_
    refine za_getR (pc := 46) dX0_renew_46 lk_X0_49 rfl rfl ?_
    refine za_cV0i (pc := 49) (μ' := mX5_all) dX0_renew_49 c_X0_73 rfl rfl rfl ⟨rfl, rfl⟩ ⟨rfl, rfl⟩ rfl rfl rfl (tX5_all hX4.1 hn) (fun x_49 t_49 h_49 => ?_)
    obtain ⟨rfl, h9⟩ := h_49
    have h9 := h9.symm
    subst h9
    refine za_iald (pc := 52) dX0_renew_52 rfl vA ?_
    refine za_is1n (pc := 53) dX0_renew_53 rfl ?_
    refine za_iload_n (pc := 54) dX0_renew_54 rfl ?_
    refine za_bipush (pc := 55) (60) dX0_renew_55 (by decide) ?_
    rw [eA, k1]
    have supA : ∀ i, alln (cN c) i = true → i < cN c := fun i hi => by simpa using hi
    have rL : ∀ L, rch c L 0 (fun _ => false) ↔ Fw c L (alln (cN c)) := fun L => Fw_L hc
    generalize eL : g (mkm (alln (cN c)) 16) = L at *
    refine za_icmp_le (pc := 57) 76 dX0_renew_57 (by decide) (fun c57 => ?_) (fun c57 => ?_)
    · have c57 : nI L ≤ nI 60 := c57
      rw [nI_leI (by omega) (by decide)] at c57
      have hfw : Fw c L (alln (cN c)) := by
        have := hN.2.2 (alln (cN c)) supA (by omega)
        rwa [eL] at this
      have hkL : kL c = L := fnd_eq (by omega) (tb_t.mpr ((rL L).mpr hfw)) (fun i hi => tb_f.mpr (fun q => by
        have := hF _ _ ((rL i).mp q)
        omega))
      refine za_aload_n (pc := 76) dX0_renew_76 rfl ?_
      refine za_iload_n (pc := 77) dX0_renew_77 rfl ?_
      refine za_putI (pc := 78) dX0_renew_78 lp_X0_18 rfl rfl ?_
      have b1 : ∀ d, d ≠ 22 → zup t_38 22 2 (nI L) d = t_38 d := fun d hd => zup_n hd
      have hB5 : BTI (zup t_38 22 2 (nI L)) c nb f 121 := BTI_cong hB (fun d hd => by rw [b1 d (by omega), s1 d (by omega)]) (by rw [zup_b (by decide), s1 22 (by decide)])
      refine za_aload_n (pc := 81) dX0_renew_81 rfl ?_
      refine za_cV0v (pc := 82) (μ' := mX0_findLatest) dX0_renew_82 c_X0_83 rfl rfl rfl ⟨rfl, rfl⟩ ⟨rfl, rfl⟩ rfl rfl rfl (tX0_findLatest (g := g) (L := L) hc (by rw [b1 2 (by decide)]; exact hX4.1) hB5 h55 ⟨fun j hj => by rw [b1 30 (by decide)]; exact hN.1 j hj, hN.2⟩ hF (by rw [zup_a]) c57 eL) (fun t_82 h_82 => ?_)
      obtain ⟨m, q1, q2, q3⟩ := h_82
      have hB6 : BTI t_82 c nb f 121 := BTI_cong hB5 (fun d hd => q3 d (by omega)) (by rw [q3 22 (by decide)])
      refine za_aload_n (pc := 85) dX0_renew_85 rfl ?_
      refine za_cV0v (pc := 86) (μ' := mX0_fillHours) dX0_renew_86 c_X0_86 rfl rfl rfl ⟨rfl, rfl⟩ ⟨rfl, rfl⟩ rfl rfl rfl (tX0_fillHours (g := g) (m := m) (L := L) hc hB6 h55 hF q1 q2 c57 (by rw [q3 22 (by decide), zup_a]) ((rL L).mpr hfw)) (fun t_86 h_86 => ?_)
      obtain ⟨z1, z2, z3⟩ := h_86
      refine za_rv (pc := 89) dX0_renew_89 rfl rfl rfl ?_
      have e86 : ∀ d, d ≠ 22 → d ≠ 23 → d ≠ 24 → d ≠ 31 → t_86 d = t_38 d := fun d d1 d2 d3 d4 => by rw [z1 d d2 d3, q3 d d4, b1 d d1]
      refine ⟨⟨?_, fun h _ hh => ?_, fun a ha => ?_⟩, ?_, fun _ => hO4 _ (fun d hd => by rw [e86 d (by omega) (by omega) (by omega) (by omega), e38 d hd]), Or.inl ?_, fun d hd => by rw [e86 d (by omega) (by omega) (by omega) (by omega)]; exact f38 d hd⟩
      · rw [z1 22 (by decide) (by decide), q3 22 (by decide), zup_a]
        unfold spKept
        rw [hkL, if_neg (by omega)]
      · rw [hkL] at hh ⊢
        exact z2 h hh
      · unfold kHr
        rw [hkL, if_neg (by omega)]
        exact z3 a ha
      · rw [z1 22 (by decide) (by decide), q3 22 (by decide), zup_b (by decide)]; exact m38
      · rw [e86 10 (by decide) (by decide) (by decide) (by decide), e38 10 (by decide)]; exact o2
    · have c57 : ¬ nI L ≤ nI 60 := c57
      rw [nI_leI (by omega) (by decide)] at c57
      have hkL : kL c = 61 := fnd_no (fun i hi => tb_f.mpr (fun q => by
        have := hF _ _ ((rL i).mp q)
        omega))
      refine za_aload_n (pc := 60) dX0_renew_60 rfl ?_
      refine za_bipush (pc := 61) (-3) dX0_renew_61 (by decide) ?_
      refine za_putI (pc := 63) dX0_renew_63 lp_X0_18 rfl rfl ?_
      refine za_aload_n (pc := 66) dX0_renew_66 rfl ?_
      refine za_getR (pc := 67) dX0_renew_67 lk_X0_15 rfl rfl ?_
      refine za_bipush (pc := 70) (-3) dX0_renew_70 (by decide) ?_
      refine za_cS2v (pc := 72) (μ' := mJ7_fill_53178) dX0_renew_72 c_X0_77 rfl ⟨rfl, rfl⟩ ⟨rfl, rfl⟩ rfl rfl rfl (tJ7_fill_53178 (N := 10) rfl (by decide)) (fun t_72 h_72 => ?_)
      have h9 := h_72.symm
      subst h9
      refine za_rv (pc := 75) dX0_renew_75 rfl rfl rfl ?_
      have eF : ∀ d, d ≠ 22 → d ≠ 24 → zrow (zup t_38 22 2 (-3)) 24 (fa_fill (fun _ => -3) (zup t_38 22 2 (-3) 24) 10) d = t_38 d := fun d d1 d2 => by rw [zrow_n d2, zup_n d1]
      refine ⟨⟨?_, fun h h1 _ => by omega, fun a ha => ?_⟩, ?_, fun _ => hO4 _ (fun d hd => by rw [eF d (by omega) (by omega), e38 d hd]), Or.inl ?_, fun d hd => by rw [eF d (by omega) (by omega)]; exact f38 d hd⟩
      · rw [zrow_n (by decide), zup_a]
        unfold spKept
        rw [hkL, if_pos rfl]
      · unfold kHr
        rw [hkL, if_pos rfl, zrow_s, fa_fill, if_pos (by omega)]
      · rw [zrow_n (by decide), zup_b (by decide)]; exact m38
      · rw [eF 10 (by decide) (by decide), e38 10 (by decide)]; exact o2
  · refine za_rv (pc := 14) dX0_renew_14 rfl rfl rfl ?_
    exact ⟨hK c11, c11, hO, Or.inr rfl, fun _ _ => rfl⟩
