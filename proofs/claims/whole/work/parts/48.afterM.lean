/-! after and read of the reference -/
theorem MJ_cong {σ t : zSt} {m : Nat} {H : Nat → Core} (h : MJ σ m H) (e : ∀ d, 51 ≤ d → d < 57 → t d = σ d) (e3 : t 47 3 = σ 47 3) (e9 : t 47 9 = σ 47 9) : MJ t m H := by
  refine ⟨⟨e3.trans h.1.1, fun a ha => ?_⟩, e9.trans h.2.1, fun k hk => ?_⟩
  · rw [e 51 (by decide) (by decide), e 52 (by decide) (by decide), e 53 (by decide) (by decide), e 54 (by decide) (by decide), e 55 (by decide) (by decide)]
    exact h.1.2 a ha
  · have := h.2.2 k hk
    unfold Snap at this ⊢
    rw [e 56 (by decide) (by decide)]
    exact this
/-- the waits with more for p -/
def wA (c : Core) (p : Nat) (o : Nat → Bool) : Nat → Nat → Bool := va_up (cW c) p (fun i => cW c p i || o i)
theorem wA_v {c : Core} {p a : Nat} {o : Nat → Bool} : wA c p o a = if a = p then (fun i => cW c p i || o i) else cW c a := rfl
theorem wA_o {c : Core} {p a : Nat} {o : Nat → Bool} (h : a ≠ p) : wA c p o a = cW c a := by rw [wA_v, if_neg h]
theorem wA_p0 {c : Core} {p : Nat} {o : Nat → Bool} : wA c p o p = fun i => cW c p i || o i := by rw [wA_v, if_pos rfl]
section WA
variable {c : Core} {p : Nat} {o : Nat → Bool}
theorem wA_in (hc : cOk c) (hO : ∀ i, o i = true → i < cN c ∧ ¬ rfs c p i) {a b : Nat} (ha : a < cN c) (h : wA c p o a b = true) : b < cN c := by
  by_cases e : a = p
  · subst e
    rw [wA_p0] at h
    rcases Bool.or_eq_true_iff.mp h with h | h
    · exact hc.2.2.1 a b ha h
    · exact (hO b h).1
  · rw [wA_o e] at h
    exact hc.2.2.1 a b ha h
theorem wA_min (hc : cOk c) (hO : ∀ i, o i = true → i < cN c ∧ ¬ rfs c p i) {x y : Nat} (hx : x < cN c) (h : wR (wA c p o) (cN c) x y = true) : y < cN c ∧ (bhd c x y = true ∨ ((x = p ∨ bhd c x p = true) ∧ ∃ b, o b = true ∧ (y = b ∨ bhd c b y = true))) := by
  have tr := (bhd_ord hc).2.2
  have inn := (bhd_ord hc).1
  refine wR_min (T := fun x y => bhd c x y = true ∨ ((x = p ∨ bhd c x p = true) ∧ ∃ b, o b = true ∧ (y = b ∨ bhd c b y = true))) (fun a b ha hw => wA_in hc hO ha hw) (fun a b ha hw => ?_) (fun a b d ha hb hd h1 h2 => ?_) (cN c) x y (Nat.le_refl _) hx h
  · by_cases e : a = p
    · subst e
      rw [wA_p0] at hw
      rcases Bool.or_eq_true_iff.mp hw with hw | hw
      · exact Or.inl (wR_sub hw)
      · exact Or.inr ⟨Or.inl rfl, b, hw, Or.inl rfl⟩
    · rw [wA_o e] at hw
      exact Or.inl (wR_sub hw)
  · rcases h1 with h1 | ⟨h1, b1, h3, h4⟩
    · rcases h2 with h2 | ⟨h2, b2, h5, h6⟩
      · exact Or.inl (tr a b d ha hb h1 h2)
      · refine Or.inr ⟨Or.inr ?_, b2, h5, h6⟩
        rcases h2 with h2 | h2
        · rw [← h2]; exact h1
        · exact tr a b p ha hb h1 h2
    · have hb1 := (hO b1 h3).1
      rcases h2 with h2 | ⟨h2, b2, h5, h6⟩
      · refine Or.inr ⟨h1, b1, h3, Or.inr ?_⟩
        rcases h4 with h4 | h4
        · rw [← h4]; exact h2
        · exact tr b1 b d hb1 hb h4 h2
      · exfalso
        refine (hO b1 h3).2 ?_
        rcases h4 with h4 | h4 <;> rcases h2 with h2 | h2
        · exact Or.inl (h2.symm.trans h4)
        · exact Or.inr (by rw [← h4]; exact h2)
        · exact Or.inr (by rw [← h2]; exact h4)
        · exact Or.inr (tr b1 b p hb1 hb h4 h2)
theorem wA_ir (hc : cOk c) (hO : ∀ i, o i = true → i < cN c ∧ ¬ rfs c p i) {x : Nat} (hx : x < cN c) : wR (wA c p o) (cN c) x x = false := by
  cases h : wR (wA c p o) (cN c) x x with
  | false => rfl
  | true =>
    exfalso
    have tr := (bhd_ord hc).2.2
    rcases (wA_min hc hO hx h).2 with h1 | ⟨h1, b, h2, h3⟩
    · rw [(bhd_ord hc).2.1 x hx] at h1; cases h1
    · obtain ⟨hb, hr⟩ := hO b h2
      refine hr ?_
      rcases h1 with h1 | h1 <;> rcases h3 with h3 | h3
      · exact Or.inl (h1.symm.trans h3)
      · exact Or.inr (by rw [← h1]; exact h3)
      · exact Or.inr (by rw [← h3]; exact h1)
      · exact Or.inr (tr b x p hb hx h3 h1)
theorem wA_up (hc : cOk c) {x y : Nat} (hx : x < cN c) (h : bhd c x y = true) : wR (wA c p o) (cN c) x y = true := by
  refine (wR_min (T := fun x y => wR (wA c p o) (cN c) x y = true) hc.2.2.1 (fun a b ha hw => wR_sub ?_) (fun a b d ha hb hd h1 h2 => wR_tr _ _ b a d hb h1 h2) (cN c) x y (Nat.le_refl _) hx h).2
  by_cases e : a = p
  · subst e
    rw [wA_p0]
    show (cW c a b || o b) = true
    rw [hw]; rfl
  · rw [wA_o e]; exact hw
theorem wA_p (hc : cOk c) (hp : p < cN c) (hO : ∀ i, o i = true → i < cN c ∧ ¬ rfs c p i) {b : Nat} (hb : b < cN c) : wR (wA c p o) (cN c) b p = true ↔ bhd c b p = true := by
  refine ⟨fun h => ?_, fun h => wA_up hc hb h⟩
  rcases (wA_min hc hO hb h).2 with h1 | ⟨_, d, h2, h3⟩
  · exact h1
  · exfalso
    refine (hO d h2).2 ?_
    rcases h3 with h3 | h3
    · exact Or.inl h3
    · exact Or.inr h3
theorem wA_ok (hc : cOk c) (hO : ∀ i, o i = true → i < cN c ∧ ¬ rfs c p i) : cOk (wC c p (fun i => cW c p i || o i)) := ⟨hc.1, hc.2.1, fun a b ha h => wA_in hc hO ha h, fun a ha => wA_ir hc hO ha⟩
end WA
theorem rfs_no {c : Core} (hc : cOk c) {p q : Nat} (hp : p < cN c) (h : cW c p q = true) : ¬ rfs c p q := by
  intro hr
  have h1 : bhd c p q = true := wR_sub h
  have h2 : bhd c p p = true := by
    rcases hr with e | e
    · rw [← e] at h1; exact h1
    · exact (bhd_ord hc).2.2 p q p hp (hc.2.2.1 p q hp h) h1 e
  rw [(bhd_ord hc).2.1 p hp] at h2
  cases h2
def MAct (σ t : zSt) (m : Nat) (H : Nat → Core) (a : Act) : Prop := (∀ d, d < 47 ∨ (47 < d ∧ d < 51) ∨ 65 ≤ d → t d = σ d) ∧ t 47 25 = σ 47 25 ∧
  match a.2.1 with
  | some pq => MRing t (rgN (cW (H m)) (cN (H m)) pq.1 pq.2) (rgF (cW (H m)) (cN (H m)) pq.1 pq.2) ∧ MJ t m H ∧ t 47 14 = σ 47 14
  | none => t 47 11 = σ 47 11 ∧ t 57 = σ 57 ∧ match a.2.2 with
    | some pf => MJ t (pushN m) (pushH m H (wC (H m) pf.1 pf.2)) ∧ t 47 14 = 0
    | none => MJ t m H ∧ t 47 14 = σ 47 14
theorem MAct_0 {σ : zSt} {m : Nat} {H : Nat → Core} {x : Int32} (h : MJ σ m H) : MAct σ σ m H (x, none, none) := ⟨fun _ _ => rfl, rfl, rfl, rfl, h, rfl⟩
theorem tX7_after {σ : zSt} {m : Nat} {H : Nat → Core} {a b : Int32} (h : MJ σ m H) (ho : JOk m H) : zI mX7_after [.ref 47, .int a, .int b] SH σ (fun x t => x = (spAfter (H m) a b).1 ∧ MAct σ t m H (spAfter (H m) a b)) := by
  have hc := ho.2 m (Nat.le_refl m)
  have hn := hc.1
  have bad : ¬ (isJb (cN (H m)) a ∧ isJb (cN (H m)) b) → spAfter (H m) a b = (-1, none, none) := fun q => by
    unfold spAfter
    rw [if_neg q]
  refine zI_of (ls := [some (.ref 47), some (.int a), some (.int b)]) (by decide) rfl rfl ?_
  refine za_aload_n (pc := 0) dX7_after_0 rfl ?_
  refine za_iload_n (pc := 1) dX7_after_1 rfl ?_
  refine za_cV1i (pc := 2) (μ' := mX7_isJob) dX7_after_2 c_X7_122 rfl rfl rfl ⟨rfl, rfl⟩ ⟨rfl, rfl⟩ rfl rfl rfl (tX7_isJob h.1.1 hn) (fun x_2 t_2 h_2 => ?_)
  obtain ⟨rfl, h9⟩ := h_2
  have h9 := h9.symm
  subst h9
  by_cases ha : isJb (cN (H m)) a
  · rw [if_pos ha]
    refine za_if_eq (pc := 5) 16 dX7_after_5 (by decide) (fun c5 => ?_) (fun c5 => ?_)
    · exact absurd c5 (by decide)
    refine za_aload_n (pc := 8) dX7_after_8 rfl ?_
    refine za_iload_n (pc := 9) dX7_after_9 rfl ?_
    refine za_cV1i (pc := 10) (μ' := mX7_isJob) dX7_after_10 c_X7_122 rfl rfl rfl ⟨rfl, rfl⟩ ⟨rfl, rfl⟩ rfl rfl rfl (tX7_isJob h.1.1 hn) (fun x_10 t_10 h_10 => ?_)
    obtain ⟨rfl, h9⟩ := h_10
    have h9 := h9.symm
    subst h9
    by_cases hb : isJb (cN (H m)) b
    · rw [if_pos hb]
      refine za_if_ne (pc := 13) 18 dX7_after_13 (by decide) (fun c13 => ?_) (fun c13 => ?_)
      · obtain ⟨p, hp, rfl⟩ := isJb_ix ha hn
        obtain ⟨q, hq, rfl⟩ := isJb_ix hb hn
        have vp : vp_in (nI p) 10 := vp_in_nI (by omega) (by decide)
        have ep : (nI p).toNatClampNeg = p := nI_clamp (by omega)
        have eq_ : (nI q).toNatClampNeg = q := nI_clamp (by omega)
        have a5 := (h.1.2 p hp).2.2.2.2
        refine za_aload_n (pc := 18) dX7_after_18 rfl ?_
        refine za_getR (pc := 19) dX7_after_19 lk_X7_31 rfl rfl ?_
        refine za_iload_n (pc := 22) dX7_after_22 rfl ?_
        refine za_iald (pc := 23) dX7_after_23 rfl vp ?_
        refine za_iload_n (pc := 24) dX7_after_24 rfl ?_
        refine za_ishr (pc := 25) dX7_after_25 ?_
        refine za_iconst (pc := 26) (1) dX7_after_26 (by decide) ?_
        refine za_iand (pc := 27) dX7_after_27 ?_
        refine za_iconst (pc := 28) (1) dX7_after_28 (by decide) ?_
        rw [ep, a5, zm_sr (by omega)]
        by_cases hw : cW (H m) p q = true
        · rw [if_pos hw]
          refine za_icmp_ne (pc := 29) 34 dX7_after_29 (by decide) (fun c29 => ?_) (fun c29 => ?_)
          · exact absurd rfl c29
          · refine za_iconst (pc := 32) (0) dX7_after_32 (by decide) ?_
            refine za_ri (pc := 33) dX7_after_33 rfl rfl rfl ?_
            have e : spAfter (H m) (nI p) (nI q) = (0, none, none) := by
              unfold spAfter
              rw [if_pos ⟨ha, hb⟩, ep, eq_, if_neg (rfs_no hc hp hw), if_pos hw]
            rw [e]
            exact ⟨rfl, MAct_0 h⟩
        · rw [if_neg hw]
          refine za_icmp_ne (pc := 29) 34 dX7_after_29 (by decide) (fun c29 => ?_) (fun c29 => ?_)
          · refine za_aload_n (pc := 34) dX7_after_34 rfl ?_
            refine za_iload_n (pc := 35) dX7_after_35 rfl ?_
            refine za_iload_n (pc := 36) dX7_after_36 rfl ?_
            refine za_cV2i (pc := 37) (μ' := mX7_wouldRing) dX7_after_37 c_X7_125 rfl rfl rfl ⟨rfl, rfl⟩ ⟨rfl, rfl⟩ rfl rfl rfl (tX7_wouldRing hn hp hq h.1.1 (fun a ha => (h.1.2 a ha).2.2.2.2)) (fun x_37 t_37 h_37 => ?_)
            obtain ⟨x1, x2⟩ := h_37
            rw [x1]
            have hM1 : MJ t_37 m H := MJ_cong h (fun d h1 h2 => x2 d (by omega)) (by rw [x2 47 (by decide)]) (by rw [x2 47 (by decide)])
            by_cases hr : rfs (H m) p q
            · rw [if_pos hr]
              refine za_if_eq (pc := 40) 52 dX7_after_40 (by decide) (fun c40 => ?_) (fun c40 => ?_)
              · exact absurd c40 (by decide)
              · refine za_aload_n (pc := 43) dX7_after_43 rfl ?_
                refine za_iload_n (pc := 44) dX7_after_44 rfl ?_
                refine za_iload_n (pc := 45) dX7_after_45 rfl ?_
                refine za_cV2v (pc := 46) (μ' := mX7_layRing) dX7_after_46 c_X7_128 rfl rfl rfl ⟨rfl, rfl⟩ ⟨rfl, rfl⟩ rfl rfl rfl (tX7_layRing hn hc.2.2.1 hp hq hM1.1.1 (fun a ha => (hM1.1.2 a ha).2.2.2.2) hr) (fun t_46 h_46 => ?_)
                obtain ⟨y1, y2⟩ := h_46
                refine za_bipush (pc := 49) (-4) dX7_after_49 (by decide) ?_
                refine za_ri (pc := 51) dX7_after_51 rfl rfl rfl ?_
                have e : spAfter (H m) (nI p) (nI q) = (-4, some (p, q), none) := by
                  unfold spAfter
                  rw [if_pos ⟨ha, hb⟩, ep, eq_, if_pos hr]
                rw [e]
                refine ⟨rfl, fun d hd => by rw [y2.1 d (by omega) (by omega) (by omega), x2 d (by omega)], by rw [y2.2 25 (by decide), x2 47 (by decide)], y1, MJ_cong hM1 (fun d h1 h2 => y2.1 d (by omega) (by omega) (by omega)) (y2.2 3 (by decide)) (y2.2 9 (by decide)), by rw [y2.2 14 (by decide), x2 47 (by decide)]⟩
            · rw [if_neg hr]
              refine za_if_eq (pc := 40) 52 dX7_after_40 (by decide) (fun c40 => ?_) (fun c40 => ?_)
              · refine za_aload_n (pc := 52) dX7_after_52 rfl ?_
                refine za_cV0v (pc := 53) (μ' := mX7_keep) dX7_after_53 c_X7_109 rfl rfl rfl ⟨rfl, rfl⟩ ⟨rfl, rfl⟩ rfl rfl rfl (tX7_keep hM1 ho) (fun t_53 h_53 => ?_)
                obtain ⟨n1, n2, n3, n4, n5⟩ := h_53
                refine za_aload_n (pc := 56) dX7_after_56 rfl ?_
                refine za_getR (pc := 57) dX7_after_57 lk_X7_31 rfl rfl ?_
                refine za_iload_n (pc := 60) dX7_after_60 rfl ?_
                refine za_dup2 (pc := 61) dX7_after_61 rfl rfl ?_
                refine za_iald (pc := 62) dX7_after_62 rfl vp ?_
                refine za_iconst (pc := 63) (1) dX7_after_63 (by decide) ?_
                refine za_iload_n (pc := 64) dX7_after_64 rfl ?_
                refine za_ishl (pc := 65) dX7_after_65 ?_
                rw [ep, n1 55 (by decide) (by decide), (hM1.1.2 p hp).2.2.2.2, zm_1 (show q < 16 by omega)]
                refine za_ior (pc := 66) dX7_after_66 ?_
                rw [zm_or]
                refine za_iast (pc := 67) dX7_after_67 rfl vp ?_
                refine za_iconst (pc := 68) (1) dX7_after_68 (by decide) ?_
                refine za_ri (pc := 69) dX7_after_69 rfl rfl rfl ?_
                rw [ep]
                obtain ⟨w1, w2, w3⟩ := MJ_wait (a := p) (f := fun i => cW (H m) p i || decide (i = q)) hM1 ho n1 n2 n3 n4 n5
                have e : spAfter (H m) (nI p) (nI q) = (1, none, some (p, fun i => cW (H m) p i || decide (i = q))) := by
                  unfold spAfter
                  rw [if_pos ⟨ha, hb⟩, ep, eq_, if_neg hr, if_neg hw]
                rw [e]
                refine ⟨rfl, fun d hd => ?_, ?_, ?_, ?_, w1, w2⟩
                · rw [zup_n (by omega), n1 d (by omega) (by omega), x2 d (by omega)]
                · rw [zup_n (by decide), n2 25 (by decide) (by decide), x2 47 (by decide)]
                · rw [zup_n (by decide), n2 11 (by decide) (by decide), x2 47 (by decide)]
                · rw [zup_n (by decide), n1 57 (by decide) (by decide), x2 57 (by decide)]
              · exact absurd rfl c40
          · exact absurd c29 (by decide)
      · exact absurd c13 (by decide)
    · rw [if_neg hb]
      refine za_if_ne (pc := 13) 18 dX7_after_13 (by decide) (fun c13 => ?_) (fun c13 => ?_)
      · exact absurd rfl c13
      · refine za_iconst (pc := 16) (-1) dX7_after_16 (by decide) ?_
        refine za_ri (pc := 17) dX7_after_17 rfl rfl rfl ?_
        rw [bad (fun q => hb q.2)]
        exact ⟨rfl, MAct_0 h⟩
  · rw [if_neg ha]
    refine za_if_eq (pc := 5) 16 dX7_after_5 (by decide) (fun c5 => ?_) (fun c5 => ?_)
    · refine za_iconst (pc := 16) (-1) dX7_after_16 (by decide) ?_
      refine za_ri (pc := 17) dX7_after_17 rfl rfl rfl ?_
      rw [bad (fun q => ha q.1)]
      exact ⟨rfl, MAct_0 h⟩
    · exact absurd rfl c5
/-- while a row is read: the state of the reference -/
def RdS (σ u : zSt) (c : Core) (p : Nat) (o : Nat → Bool) : Prop := (∀ d, d ≠ 47 → d ≠ 55 → d ≠ 57 → d ≠ 59 → d ≠ 60 → u d = σ d) ∧ (∀ i, i ≠ 11 → u 47 i = σ 47 i) ∧ u 55 p = zmask (fun i => cW c p i || o i) ∧ ∀ i, i ≠ p → u 55 i = σ 55 i
theorem RdS_MJ {σ u : zSt} {m p : Nat} {H : Nat → Core} {o : Nat → Bool} (h : MJ σ m H) (hp : p < cN (H m)) (hu : RdS σ u (H m) p o) : MJ (zup u 55 p (zmask (cW (H m) p))) m H := by
  obtain ⟨u1, u2, u3, u4⟩ := hu
  have e55 : zup u 55 p (zmask (cW (H m) p)) 55 = σ 55 := by
    funext i
    by_cases e : i = p
    · subst e
      rw [zup_a]
      exact (h.1.2 i hp).2.2.2.2.symm
    · rw [zup_b e]
      exact u4 i e
  refine MJ_cong h (fun d h1 h2 => ?_) (by rw [zup_n (by decide)]; exact u2 3 (by decide)) (by rw [zup_n (by decide)]; exact u2 9 (by decide))
  by_cases e : d = 55
  · rw [e]; exact e55
  · rw [zup_n e]
    exact u1 d (by omega) e (by omega) (by omega) (by omega)
theorem rg_cong {w w' : Nat → Nat → Bool} {n a b : Nat} {t : zSt} (hn : n ≤ 10) (h : ∀ c d, c ≠ a → d < n → w' c d = w c d) (hb : b < n) (hd : dst w n a b < n) (hm : MRing t (rgN w' n a b) (rgF w' n a b)) : MRing t (rgN w n a b) (rgF w n a b) := by
  have e1 : rgN w' n a b = rgN w n a b := by
    unfold rgN
    rw [dst_cong h]
  rw [e1] at hm
  refine ⟨hm.1, fun k hk => ?_⟩
  rw [hm.2 k hk]
  unfold rgF
  by_cases e : k = 0
  · rw [if_pos e, if_pos e]
  · rw [if_neg e, if_neg e, wk_cong h hb (by omega) (k - 1) (by unfold rgN at hk; omega)]
