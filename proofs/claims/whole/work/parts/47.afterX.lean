/-! after and read of the class -/
abbrev rfs (c : Core) (a b : Nat) : Prop := a = b ∨ bhd c b a = true
/-- answer, the RING to keep, the waits to take over -/
abbrev Act : Type := Int32 × Option (Nat × Nat) × Option (Nat × (Nat → Bool))
def spAfter (c : Core) (a b : Int32) : Act :=
  if isJb (cN c) a ∧ isJb (cN c) b then
    if rfs c a.toNatClampNeg b.toNatClampNeg then (-4, some (a.toNatClampNeg, b.toNatClampNeg), none)
    else if cW c a.toNatClampNeg b.toNatClampNeg = true then (0, none, none)
    else (1, none, some (a.toNatClampNeg, fun i => cW c a.toNatClampNeg i || decide (i = b.toNatClampNeg)))
  else (-1, none, none)
def rdGo (c : Core) (p : Nat) (f : Nat → Int32) : Nat → Nat → (Nat → Bool) → Int32 × Nat × (Nat → Bool)
  | _, 0, o => (0, 0, o)
  | k, q + 1, o => if isJb (cN c) (f k) then (if rfs c p (f k).toNatClampNeg then (-4, (f k).toNatClampNeg, o) else rdGo c p f (k + 1) q (fun i => o i || decide (i = (f k).toNatClampNeg))) else (-15, 0, o)
def spEnd (c : Core) (p : Nat) (x : Int32 × Nat × (Nat → Bool)) : Act :=
  if x.1 = -15 then (-15, none, none) else if x.1 = -4 then (-4, some (p, x.2.1), none)
  else (nI (cnt (fun i => x.2.2 i && !cW c p i) 10), none, if anyb (fun i => x.2.2 i && !cW c p i) 16 = true then some (p, fun i => cW c p i || x.2.2 i) else none)
def spRead (c : Core) (ss : Shs) (a r i n : Int32) : Act :=
  if isJb (cN c) a ∧ isSh r then
    if ss.1 r.toNatClampNeg = -1 then (-11, none, none)
    else if n < 0 then (-13, none, none)
    else if 0 ≤ i.toInt ∧ i.toInt + n.toInt ≤ ss.2.1 r.toNatClampNeg then spEnd c a.toNatClampNeg (rdGo c a.toNatClampNeg (fun k => ss.2.2 r.toNatClampNeg (i.toNatClampNeg + k)) 0 n.toNatClampNeg (fun _ => false))
    else (-12, none, none)
  else (-1, none, none)
def XO (σ t : zSt) (c : Core) (v : Int32) : Prop := (t 10 6 = v → XOrd t c) ∧ (t 10 6 = v ∨ t 10 6 = σ 10 6)
theorem XO_tr {σ t u : zSt} {c : Core} {v : Int32} (h1 : XO σ t c v) (h2 : XO t u c v) : XO σ u c v := ⟨h2.1, h2.2.elim Or.inl (fun q => h1.2.elim (fun r => Or.inl (q.trans r)) (fun r => Or.inr (q.trans r)))⟩
theorem FO_tr {σ t u : zSt} (h1 : FO t σ) (h2 : FO u t) : FO u σ := fun d hd => (h2 d hd).trans (h1 d hd)
theorem XCore_cong {σ t : zSt} {c : Core} (h : XCore σ c) (e : ∀ d, d < 10 → t d = σ d) : XCore t c := by
  obtain ⟨h1, h2, h3⟩ := h
  refine ⟨by rw [e 2 (by decide)]; exact h1, fun a ha => ?_, ?_⟩
  · rw [e 3 (by decide), e 4 (by decide), e 5 (by decide), e 6 (by decide), e 7 (by decide)]
    exact h2 a ha
  · rw [e 4 (by decide), e 5 (by decide), e 6 (by decide)]
    exact h3
theorem XJ_cong {σ t : zSt} {m v : Nat} {H : Nat → Core} (h : XJ σ m H v) (e : ∀ d, d < 10 → t d = σ d) : XJ t m H v := by
  refine ⟨XCore_cong h.1 e, ⟨by rw [e 2 (by decide)]; exact h.2.1.1, fun k hk => ?_⟩, by rw [e 2 (by decide)]; exact h.2.2⟩
  rw [e 8 (by decide), e 9 (by decide)]
  exact h.2.1.2 k hk
def XAct (σ t : zSt) (m : Nat) (H : Nat → Core) (v : Nat) (a : Act) : Prop := ∃ t1, XO σ t1 (H m) (nI v) ∧ FO t1 σ ∧
  match a.2.1 with
  | some pq => XRing t (rgN (cW (H m)) (cN (H m)) pq.1 pq.2) (rgF (cW (H m)) (cN (H m)) pq.1 pq.2) ∧ FRX t t1
  | none => match a.2.2 with
    | some pf => XJ t (pushN m) (pushH m H (wC (H m) pf.1 pf.2)) (v + 1) ∧ FJ t t1
    | none => t = t1
theorem XAct_0 {σ : zSt} {m v : Nat} {H : Nat → Core} {x : Int32} (hO : σ 10 6 = nI v → XOrd σ (H m)) : XAct σ σ m H v (x, none, none) := ⟨σ, ⟨hO, Or.inr rfl⟩, fun _ _ => rfl, rfl⟩
theorem tX6_isRefused {σ : zSt} {c : Core} {v : Int32} {p q : Nat} (hX : XCore σ c) (hc : cOk c) (hv : σ 2 7 = v) (hO : σ 10 6 = v → XOrd σ c) (hp : p < cN c) (hq : q < cN c) : zI mX6_isRefused [.ref 0, .int (nI p), .int (nI q)] SH σ (fun x t => ∃ t1, XO σ t1 c v ∧ FO t1 σ ∧ ((rfs c p q ∧ x = 1 ∧ XRing t (rgN (cW c) (cN c) p q) (rgF (cW c) (cN c) p q) ∧ FRX t t1) ∨ (¬ rfs c p q ∧ x = 0 ∧ t = t1))) := by
  have hn := hc.1
  have vq : vp_in (nI q) 10 := vp_in_nI (by omega) (by decide)
  have eq_ : (nI q).toNatClampNeg = q := nI_clamp (by omega)
  have close : ∀ (σ1 : zSt), XO σ σ1 c v → FO σ1 σ → rfs c p q → zA (zZ mX6_isRefused (zQI SH (fun x t => ∃ t1, XO σ t1 c v ∧ FO t1 σ ∧ ((rfs c p q ∧ x = 1 ∧ XRing t (rgN (cW c) (cN c) p q) (rgF (cW c) (cN c) p q) ∧ FRX t t1) ∨ (¬ rfs c p q ∧ x = 0 ∧ t = t1))))) mX6_isRefused none 0 0 23 [some (.ref 0), some (.int (nI p)), some (.int (nI q))] [] SH σ1 := by
    intro σ1 h1 h2 h3
    refine za_aload_n (pc := 23) dX6_isRefused_23 rfl ?_
    refine za_getR (pc := 24) dX6_isRefused_24 lk_X6_50 rfl rfl ?_
    refine za_iload_n (pc := 27) dX6_isRefused_27 rfl ?_
    refine za_iload_n (pc := 28) dX6_isRefused_28 rfl ?_
    refine za_cV2v (pc := 29) (μ' := mX3_close) dX6_isRefused_29 c_X6_184 rfl rfl rfl ⟨rfl, rfl⟩ ⟨rfl, rfl⟩ rfl rfl rfl (tX3_close hn hc.2.2.1 hp hq (by rw [h2 2 (by decide)]; exact hX.1) (fun a ha => by rw [h2 7 (by decide)]; exact (hX.2.1 a ha).2.2.2.2) h3) (fun t_29 h_29 => ?_)
    obtain ⟨r1, r2⟩ := h_29
    refine za_iconst (pc := 32) (1) dX6_isRefused_32 (by decide) ?_
    refine za_rz (pc := 33) dX6_isRefused_33 rfl rfl rfl rfl ?_
    exact ⟨σ1, h1, h2, Or.inl ⟨h3, rfl, r1, r2⟩⟩
  refine zI_of (ls := [some (.ref 0), some (.int (nI p)), some (.int (nI q))]) (by decide) rfl rfl ?_
  refine za_iload_n (pc := 0) dX6_isRefused_0 rfl ?_
  refine za_iload_n (pc := 1) dX6_isRefused_1 rfl ?_
  refine za_icmp_eq (pc := 2) 23 dX6_isRefused_2 (by decide) (fun c2 => ?_) (fun c2 => ?_)
  · exact close σ ⟨hO, Or.inr rfl⟩ (fun _ _ => rfl) (Or.inl ((nI_eq (by omega) (by omega)).mp c2))
  · have hpq : p ≠ q := fun e => c2 (by rw [e])
    refine za_aload_n (pc := 5) dX6_isRefused_5 rfl ?_
    refine za_cV0r (pc := 6) (μ' := mX6_orderNow) dX6_isRefused_6 c_X6_144 rfl rfl rfl ⟨rfl, rfl⟩ ⟨rfl, rfl⟩ rfl rfl rfl (tX6_orderNow hX hc hv hO) (fun t_6 h_6 => ?_)
    obtain ⟨o1, o2, o3⟩ := h_6
    refine za_getR (pc := 9) dX6_isRefused_9 lk_X6_148 rfl rfl ?_
    refine za_iload_n (pc := 12) dX6_isRefused_12 rfl ?_
    refine za_iald (pc := 13) dX6_isRefused_13 rfl vq ?_
    refine za_iload_n (pc := 14) dX6_isRefused_14 rfl ?_
    refine za_cS2i (pc := 15) (μ' := mX6_holds) dX6_isRefused_15 c_X6_181 rfl ⟨rfl, rfl⟩ ⟨rfl, rfl⟩ rfl rfl rfl (tX6_holds) (fun x_15 t_15 h_15 => ?_)
    obtain ⟨rfl, h9⟩ := h_15
    have h9 := h9.symm
    subst h9
    rw [eq_, (o1.1 q hq).1]
    cases hb : bhd c q p with
    | true =>
      rw [if_neg (fun e => by rw [zm_h (by omega)] at e; rw [hb] at e; cases e)]
      refine za_if_ne (pc := 18) 23 dX6_isRefused_18 (by decide) (fun c18 => ?_) (fun c18 => ?_)
      · exact close _ ⟨fun _ => o1, Or.inl o2⟩ o3 (Or.inr hb)
      · exact absurd c18 (by decide)
    | false =>
      rw [if_pos ((zm_h (by omega)).mpr hb)]
      refine za_if_ne (pc := 18) 23 dX6_isRefused_18 (by decide) (fun c18 => ?_) (fun c18 => ?_)
      · exact absurd rfl c18
      · refine za_iconst (pc := 21) (0) dX6_isRefused_21 (by decide) ?_
        refine za_rz (pc := 22) dX6_isRefused_22 rfl rfl rfl rfl ?_
        exact ⟨_, ⟨fun _ => o1, Or.inl o2⟩, o3, Or.inr ⟨fun e => e.elim hpq (fun e => by rw [hb] at e; cases e), rfl, rfl⟩⟩
theorem any16 {p : Nat → Bool} : (∀ i, i < 16 → p i = false) ↔ anyb p 16 = false := anyb_f.symm
theorem tX6_after {σ : zSt} {m v : Nat} {H : Nat → Core} {a b : Int32} (h : XJ σ m H v) (ho : JOk m H) (hO : σ 10 6 = nI v → XOrd σ (H m)) : zI mX6_after [.ref 0, .int a, .int b] SH σ (fun x t => x = (spAfter (H m) a b).1 ∧ XAct σ t m H v (spAfter (H m) a b)) := by
  have hc := ho.2 m (Nat.le_refl m)
  have hn := hc.1
  refine zI_of (ls := [some (.ref 0), some (.int a), some (.int b)]) (by decide) rfl rfl ?_
  refine za_aload_n (pc := 0) dX6_after_0 rfl ?_
  refine za_getR (pc := 1) dX6_after_1 lk_X6_18 rfl rfl ?_
  refine za_iload_n (pc := 4) dX6_after_4 rfl ?_
  refine za_cV1i (pc := 5) (μ' := mX5_has) dX6_after_5 c_X6_105 rfl rfl rfl ⟨rfl, rfl⟩ ⟨rfl, rfl⟩ rfl rfl rfl (tX5_has h.1.1) (fun x_5 t_5 h_5 => ?_)
  obtain ⟨rfl, h9⟩ := h_5
  have h9 := h9.symm
  subst h9
  by_cases h1 : isJb (cN (H m)) a
  · rw [if_pos h1]
    refine za_if_eq (pc := 8) 22 dX6_after_8 (by decide) (fun c8 => ?_) (fun c8 => ?_)
    · exact absurd c8 (by decide)
    refine za_aload_n (pc := 11) dX6_after_11 rfl ?_
    refine za_getR (pc := 12) dX6_after_12 lk_X6_18 rfl rfl ?_
    refine za_iload_n (pc := 15) dX6_after_15 rfl ?_
    refine za_cV1i (pc := 16) (μ' := mX5_has) dX6_after_16 c_X6_105 rfl rfl rfl ⟨rfl, rfl⟩ ⟨rfl, rfl⟩ rfl rfl rfl (tX5_has h.1.1) (fun x_16 t_16 h_16 => ?_)
    obtain ⟨rfl, h9⟩ := h_16
    have h9 := h9.symm
    subst h9
    by_cases h2 : isJb (cN (H m)) b
    · rw [if_pos h2]
      refine za_if_ne (pc := 19) 24 dX6_after_19 (by decide) (fun c19 => ?_) (fun c19 => ?_)
      · obtain ⟨p, hp, rfl⟩ := isJb_ix h1 hn
        obtain ⟨q, hq, rfl⟩ := isJb_ix h2 hn
        have ep : (nI p).toNatClampNeg = p := nI_clamp (by omega)
        have eq_ : (nI q).toNatClampNeg = q := nI_clamp (by omega)
        refine za_aload_n (pc := 24) dX6_after_24 rfl ?_
        refine za_iload_n (pc := 25) dX6_after_25 rfl ?_
        refine za_iload_n (pc := 26) dX6_after_26 rfl ?_
        refine za_cV2i (pc := 27) (μ' := mX6_isRefused) dX6_after_27 c_X6_108 rfl rfl rfl ⟨rfl, rfl⟩ ⟨rfl, rfl⟩ rfl rfl rfl (tX6_isRefused h.1 hc h.2.2 hO hp hq) (fun x_27 t_27 h_27 => ?_)
        obtain ⟨t1, o1, o2, o3⟩ := h_27
        rcases o3 with ⟨r1, r2, r3, r4⟩ | ⟨r1, r2, r3⟩
        · subst r2
          refine za_if_eq (pc := 30) 38 dX6_after_30 (by decide) (fun c30 => ?_) (fun c30 => ?_)
          · exact absurd c30 (by decide)
          · refine za_bipush (pc := 33) (-4) dX6_after_33 (by decide) ?_
            refine za_goto (pc := 35) 50 dX6_after_35 (by decide) ?_
            refine za_ri (pc := 50) dX6_after_50 rfl rfl rfl ?_
            have e : spAfter (H m) (nI p) (nI q) = (-4, some (p, q), none) := by
              unfold spAfter
              rw [if_pos ⟨h1, h2⟩, ep, eq_, if_pos r1]
            rw [e]
            exact ⟨rfl, t1, o1, o2, r3, r4⟩
        · subst r2
          subst r3
          refine za_if_eq (pc := 30) 38 dX6_after_30 (by decide) (fun c30 => ?_) (fun c30 => ?_)
          · refine za_aload_n (pc := 38) dX6_after_38 rfl ?_
            refine za_getR (pc := 39) dX6_after_39 lk_X6_18 rfl rfl ?_
            refine za_iload_n (pc := 42) dX6_after_42 rfl ?_
            refine za_iload_n (pc := 43) dX6_after_43 rfl ?_
            refine za_cS1i (pc := 44) (μ' := mX6_bit) dX6_after_44 c_X6_111 rfl ⟨rfl, rfl⟩ ⟨rfl, rfl⟩ rfl rfl rfl (tX6_bit) (fun x_44 t_44 h_44 => ?_)
            obtain ⟨rfl, h9⟩ := h_44
            have h9 := h9.symm
            subst h9
            rw [zm_1 (show q < 16 by omega)]
            refine za_cV2i (pc := 47) (μ' := mX5_waitForMore) dX6_after_47 c_X6_115 rfl rfl rfl ⟨rfl, rfl⟩ ⟨rfl, rfl⟩ rfl rfl rfl (tX5_waitForMore (o := fun i => decide (i = q)) (XJ_cong h (fun d hd => o2 d (Or.inl hd))) ho hp (fun i hi => decide_eq_false (by omega))) (fun x_47 t_47 h_47 => ?_)
            obtain ⟨w1, w2⟩ := h_47
            refine za_ri (pc := 50) dX6_after_50 rfl rfl rfl ?_
            cases hw : cW (H m) p q with
            | true =>
              have e : spAfter (H m) (nI p) (nI q) = (0, none, none) := by
                unfold spAfter
                rw [if_pos ⟨h1, h2⟩, ep, eq_, if_neg r1, if_pos hw]
              have ez : ∀ i, (decide (i = q) && !cW (H m) p i) = false := fun i => by
                by_cases e : i = q
                · rw [e, hw]; simp
                · simp [e]
              rw [e]
              refine ⟨?_, t_27, o1, o2, ?_⟩
              · rw [w1, cnt_cong (q := fun _ => false) (fun i _ => ez i), cnt_ff]; rfl
              · rcases w2 with w2 | w2
                · exact w2.2
                · exact absurd (fun i _ => ez i) w2.1
            | false =>
              have e : spAfter (H m) (nI p) (nI q) = (1, none, some (p, fun i => cW (H m) p i || decide (i = q))) := by
                unfold spAfter
                rw [if_pos ⟨h1, h2⟩, ep, eq_, if_neg r1, if_neg (by rw [hw]; decide)]
              rw [e]
              refine ⟨?_, t_27, o1, o2, ?_⟩
              · rw [w1, cnt_cong (q := fun i => decide (i = q)) (fun i _ => by
                  by_cases e : i = q
                  · rw [e, hw]; simp
                  · simp [e]), cnt_one (p := fun i => decide (i = q)) (a := q) (fun x => by simp), if_pos (by omega)]
                rfl
              · rcases w2 with w2 | w2
                · exfalso
                  have := w2.1 q (by omega)
                  rw [hw] at this
                  simp at this
                · exact w2.2
          · exact absurd rfl c30
      · exact absurd c19 (by decide)
    · rw [if_neg h2]
      refine za_if_ne (pc := 19) 24 dX6_after_19 (by decide) (fun c19 => ?_) (fun c19 => ?_)
      · exact absurd rfl c19
      · refine za_iconst (pc := 22) (-1) dX6_after_22 (by decide) ?_
        refine za_ri (pc := 23) dX6_after_23 rfl rfl rfl ?_
        have e : spAfter (H m) a b = (-1, none, none) := by
          unfold spAfter
          rw [if_neg (fun q => h2 q.2)]
        rw [e]
        exact ⟨rfl, XAct_0 hO⟩
  · rw [if_neg h1]
    refine za_if_eq (pc := 8) 22 dX6_after_8 (by decide) (fun c8 => ?_) (fun c8 => ?_)
    · refine za_iconst (pc := 22) (-1) dX6_after_22 (by decide) ?_
      refine za_ri (pc := 23) dX6_after_23 rfl rfl rfl ?_
      have e : spAfter (H m) a b = (-1, none, none) := by
        unfold spAfter
        rw [if_neg (fun q => h1 q.1)]
      rw [e]
      exact ⟨rfl, XAct_0 hO⟩
    · exact absurd rfl c8
theorem tX6_readPlaces {σ : zSt} {m v j p i n : Nat} {H : Nat → Core} {f : Nat → Int32} (h : XJ σ m H v) (ho : JOk m H) (hO : σ 10 6 = nI v → XOrd σ (H m)) (hj : j < 6) (hp : p < cN (H m)) (hin : i + n ≤ 16) (hf : ∀ k, k < n → σ (36 + 2 * j) (i + k) = f k) : zI mX6_readPlaces [.ref 0, .int (nI p), .ref (35 + 2 * j), .int (nI i), .int (nI n)] SH σ (fun x t => x = (spEnd (H m) p (rdGo (H m) p f 0 n (fun _ => false))).1 ∧ XAct σ t m H v (spEnd (H m) p (rdGo (H m) p f 0 n (fun _ => false)))) := by
  have hc := ho.2 m (Nat.le_refl m)
  have hn := hc.1
  have hb := SHb hj
  have hol : zokv SH.length (.ref (35 + 2 * j)) = true := zokR (by omega)
  refine zI_of (ls := [some (.ref 0), some (.int (nI p)), some (.ref (35 + 2 * j)), some (.int (nI i)), some (.int (nI n)), none, none, none]) (by decide) rfl rfl ?_
  refine za_iconst (pc := 0) (0) dX6_readPlaces_0 (by decide) ?_
  refine za_is5 (pc := 1) dX6_readPlaces_1 rfl ?_
  refine za_iconst (pc := 3) (0) dX6_readPlaces_3 (by decide) ?_
  refine za_is6 (pc := 4) dX6_readPlaces_4 rfl ?_
  generalize hR : rdGo (H m) p f 0 n (fun _ => false) = R
  have loop : ∀ (q k : Nat) (o : Nat → Bool) (σ1 : zSt), k + q = n → rdGo (H m) p f k q o = R → (∀ i, 10 ≤ i → o i = false) → XO σ σ1 (H m) (nI v) → FO σ1 σ → zA (zZ mX6_readPlaces (zQI SH (fun x t => x = (spEnd (H m) p R).1 ∧ XAct σ t m H v (spEnd (H m) p R)))) mX6_readPlaces none 0 0 6 [some (.ref 0), some (.int (nI p)), some (.ref (35 + 2 * j)), some (.int (nI i)), some (.int (nI n)), some (.int (zmask o)), some (.int (nI k)), none] [] SH σ1 := by
    intro q
    induction q with
    | zero =>
      intro k o σ1 hk hr ho10 x1 x2
      have hr : R = (0, 0, o) := hr.symm
      subst hr
      refine za_iload (pc := 6) dX6_readPlaces_6 rfl ?_
      refine za_iload (pc := 8) dX6_readPlaces_8 rfl ?_
      refine za_icmp_ge (pc := 10) 68 dX6_readPlaces_10 (by decide) (fun c10 => ?_) (fun c10 => ?_)
      · refine za_aload_n (pc := 68) dX6_readPlaces_68 rfl ?_
        refine za_getR (pc := 69) dX6_readPlaces_69 lk_X6_18 rfl rfl ?_
        refine za_iload_n (pc := 72) dX6_readPlaces_72 rfl ?_
        refine za_iload (pc := 73) dX6_readPlaces_73 rfl ?_
        refine za_cV2i (pc := 75) (μ' := mX5_waitForMore) dX6_readPlaces_75 c_X6_115 rfl rfl rfl ⟨rfl, rfl⟩ ⟨rfl, rfl⟩ rfl (by first | rfl | (simp [zokS, zokI, zokR, hol]; done) | (simp [zokS, zokI, zokR, hol]; rfl)) (by first | rfl | (simp [zokS, zokI, zokR, hol]; done) | (simp [zokS, zokI, zokR, hol]; rfl)) (tX5_waitForMore (o := o) (XJ_cong h (fun d hd => x2 d (Or.inl hd))) ho hp ho10) (fun x_75 t_75 h_75 => ?_)
        obtain ⟨w1, w2⟩ := h_75
        refine za_ri (pc := 78) dX6_readPlaces_78 rfl rfl rfl ?_
        unfold spEnd
        rw [if_neg (show ¬ (0 : Int32) = -15 by decide), if_neg (show ¬ (0 : Int32) = -4 by decide)]
        refine ⟨w1, σ1, x1, x2, ?_⟩
        rcases w2 with w2 | w2
        · rw [any16] at w2
          have e : anyb (fun i => o i && !cW (H m) p i) 16 = false := w2.1
          simp only [e]
          exact w2.2
        · rw [any16] at w2
          have e : anyb (fun i => o i && !cW (H m) p i) 16 = true := by
            cases hq : anyb (fun i => o i && !cW (H m) p i) 16 with
            | true => rfl
            | false => exact absurd hq w2.1
          simp only [e]
          exact w2.2
      · exact absurd (nI_le (show n ≤ k by omega) (by omega)) c10
    | succ q ih =>
      intro k o σ1 hk hr ho10 x1 x2
      have ek : nI i + nI k = nI (i + k) := nI_add _ _
      have hXJ := XJ_cong h (fun d hd => x2 d (Or.inl hd))
      have hr : (if isJb (cN (H m)) (f k) then (if rfs (H m) p (f k).toNatClampNeg then (-4, (f k).toNatClampNeg, o) else rdGo (H m) p f (k + 1) q (fun i => o i || decide (i = (f k).toNatClampNeg))) else (-15, 0, o)) = R := hr
      refine za_iload (pc := 6) dX6_readPlaces_6 rfl ?_
      refine za_iload (pc := 8) dX6_readPlaces_8 rfl ?_
      refine za_icmp_ge (pc := 10) 68 dX6_readPlaces_10 (by decide) (fun c10 => ?_) (fun c10 => ?_)
      · exact absurd c10 (nI_ge (show k < n by omega) (by omega))
      refine za_aload_n (pc := 13) dX6_readPlaces_13 rfl ?_
      refine za_getR (pc := 14) dX6_readPlaces_14 lk_X6_78 hb rfl ?_
      refine za_iload_n (pc := 17) dX6_readPlaces_17 rfl ?_
      refine za_iload (pc := 18) dX6_readPlaces_18 rfl ?_
      refine za_iadd (pc := 20) dX6_readPlaces_20 ?_
      rw [ek]
      refine za_iald (pc := 21) dX6_readPlaces_21 (SHr hj) (vp_in_nI (show i + k < 16 by omega) (by decide)) ?_
      refine za_is7 (pc := 22) dX6_readPlaces_22 rfl ?_
      rw [nI_clamp (by omega), x2 (36 + 2 * j) (Or.inr (by omega)), hf k (by omega)]
      refine za_aload_n (pc := 24) dX6_readPlaces_24 rfl ?_
      refine za_getR (pc := 25) dX6_readPlaces_25 lk_X6_18 rfl rfl ?_
      refine za_iload (pc := 28) dX6_readPlaces_28 rfl ?_
      refine za_cV1i (pc := 30) (μ' := mX5_has) dX6_readPlaces_30 c_X6_105 rfl rfl rfl ⟨rfl, rfl⟩ ⟨rfl, rfl⟩ rfl (by first | rfl | (simp [zokS, zokI, zokR, hol]; done) | (simp [zokS, zokI, zokR, hol]; rfl)) (by first | rfl | (simp [zokS, zokI, zokR, hol]; done) | (simp [zokS, zokI, zokR, hol]; rfl)) (tX5_has hXJ.1.1) (fun x_30 t_30 h_30 => ?_)
      obtain ⟨rfl, h9⟩ := h_30
      have h9 := h9.symm
      subst h9
      by_cases h1 : isJb (cN (H m)) (f k)
      · rw [if_pos h1]
        rw [if_pos h1] at hr
        obtain ⟨b, hbn, eb⟩ := isJb_ix h1 hn
        have ebn : (f k).toNatClampNeg = b := by rw [eb]; exact nI_clamp (by omega)
        rw [ebn] at hr
        rw [eb]
        refine za_if_ne (pc := 33) 39 dX6_readPlaces_33 (by decide) (fun c33 => ?_) (fun c33 => ?_)
        · refine za_aload_n (pc := 39) dX6_readPlaces_39 rfl ?_
          refine za_iload_n (pc := 40) dX6_readPlaces_40 rfl ?_
          refine za_iload (pc := 41) dX6_readPlaces_41 rfl ?_
          refine za_cV2i (pc := 43) (μ' := mX6_isRefused) dX6_readPlaces_43 c_X6_108 rfl rfl rfl ⟨rfl, rfl⟩ ⟨rfl, rfl⟩ rfl (by first | rfl | (simp [zokS, zokI, zokR, hol]; done) | (simp [zokS, zokI, zokR, hol]; rfl)) (by first | rfl | (simp [zokS, zokI, zokR, hol]; done) | (simp [zokS, zokI, zokR, hol]; rfl)) (tX6_isRefused hXJ.1 hc hXJ.2.2 x1.1 hp hbn) (fun x_43 t_43 h_43 => ?_)
          obtain ⟨t1, o1, o2, o3⟩ := h_43
          rcases o3 with ⟨r1, r2, r3, r4⟩ | ⟨r1, r2, r3⟩
          · subst r2
            rw [if_pos r1] at hr
            subst hr
            refine za_if_eq (pc := 46) 52 dX6_readPlaces_46 (by decide) (fun c46 => ?_) (fun c46 => ?_)
            · exact absurd c46 (by decide)
            · refine za_bipush (pc := 49) (-4) dX6_readPlaces_49 (by decide) ?_
              refine za_ri (pc := 51) dX6_readPlaces_51 rfl rfl rfl ?_
              unfold spEnd
              rw [if_neg (show ¬ (-4 : Int32) = -15 by decide), if_pos rfl]
              exact ⟨rfl, t1, XO_tr x1 o1, FO_tr x2 o2, r3, r4⟩
          · subst r2
            subst r3
            rw [if_neg r1] at hr
            refine za_if_eq (pc := 46) 52 dX6_readPlaces_46 (by decide) (fun c46 => ?_) (fun c46 => ?_)
            · refine za_iload (pc := 52) dX6_readPlaces_52 rfl ?_
              refine za_iload (pc := 54) dX6_readPlaces_54 rfl ?_
              refine za_cS1i (pc := 56) (μ' := mX6_bit) dX6_readPlaces_56 c_X6_111 rfl ⟨rfl, rfl⟩ ⟨rfl, rfl⟩ rfl (by first | rfl | (simp [zokS, zokI, zokR, hol]; done) | (simp [zokS, zokI, zokR, hol]; rfl)) (by first | rfl | (simp [zokS, zokI, zokR, hol]; done) | (simp [zokS, zokI, zokR, hol]; rfl)) (tX6_bit) (fun x_56 t_56 h_56 => ?_)
              obtain ⟨rfl, h9⟩ := h_56
              have h9 := h9.symm
              subst h9
              rw [zm_1 (show b < 16 by omega)]
              refine za_ior (pc := 59) dX6_readPlaces_59 ?_
              refine za_is5 (pc := 60) dX6_readPlaces_60 rfl ?_
              refine za_ii6 (pc := 62) (1) dX6_readPlaces_62 (by decide) rfl ?_
              refine za_goto (pc := 65) 6 dX6_readPlaces_65 (by decide) ?_
              rw [zm_or, nI_1]
              refine za_fg (by simp [zSub]) (ih (k + 1) (fun i => o i || decide (i = b)) _ (by omega) hr (fun i hi => ?_) (XO_tr x1 o1) (FO_tr x2 o2))
              rw [ho10 i hi]
              have : i ≠ b := by omega
              simp [this]
            · exact absurd rfl c46
        · exact absurd c33 (by decide)
      · rw [if_neg h1]
        rw [if_neg h1] at hr
        subst hr
        refine za_if_ne (pc := 33) 39 dX6_readPlaces_33 (by decide) (fun c33 => ?_) (fun c33 => ?_)
        · exact absurd rfl c33
        · refine za_bipush (pc := 36) (-15) dX6_readPlaces_36 (by decide) ?_
          refine za_ri (pc := 38) dX6_readPlaces_38 rfl rfl rfl ?_
          unfold spEnd
          rw [if_pos rfl]
          exact ⟨rfl, σ1, x1, x2, rfl⟩
  have := loop n 0 (fun _ => false) σ (by omega) hR (fun _ _ => rfl) ⟨hO, Or.inr rfl⟩ (fun _ _ => rfl)
  rw [zm_0] at this
  exact this
theorem tX6_read {σ : zSt} {m v : Nat} {H : Nat → Core} {ss : Shs} {a r i n : Int32} (h : XJ σ m H v) (ho : JOk m H) (hO : σ 10 6 = nI v → XOrd σ (H m)) (hS : XS σ ss) (hso : SO ss) : zI mX6_read [.ref 0, .int a, .int r, .int i, .int n] SH σ (fun x t => x = (spRead (H m) ss a r i n).1 ∧ XAct σ t m H v (spRead (H m) ss a r i n)) := by
  have hc := ho.2 m (Nat.le_refl m)
  have hn := hc.1
  refine zI_of (ls := [some (.ref 0), some (.int a), some (.int r), some (.int i), some (.int n), none]) (by decide) rfl rfl ?_
  refine za_aload_n (pc := 0) dX6_read_0 rfl ?_
  refine za_getR (pc := 1) dX6_read_1 lk_X6_18 rfl rfl ?_
  refine za_iload_n (pc := 4) dX6_read_4 rfl ?_
  refine za_cV1i (pc := 5) (μ' := mX5_has) dX6_read_5 c_X6_105 rfl rfl rfl ⟨rfl, rfl⟩ ⟨rfl, rfl⟩ rfl rfl rfl (tX5_has h.1.1) (fun x_5 t_5 h_5 => ?_)
  obtain ⟨rfl, h9⟩ := h_5
  have h9 := h9.symm
  subst h9
  by_cases h1 : isJb (cN (H m)) a
  · rw [if_pos h1]
    refine za_if_eq (pc := 8) 18 dX6_read_8 (by decide) (fun c8 => ?_) (fun c8 => ?_)
    · exact absurd c8 (by decide)
    refine za_iload_n (pc := 11) dX6_read_11 rfl ?_
    refine za_cS1i (pc := 12) (μ' := mX6_isSheet) dX6_read_12 c_X6_55 rfl ⟨rfl, rfl⟩ ⟨rfl, rfl⟩ rfl rfl rfl (tX6_isSheet) (fun x_12 t_12 h_12 => ?_)
    obtain ⟨rfl, h9⟩ := h_12
    have h9 := h9.symm
    subst h9
    by_cases h2 : isSh r
    · rw [if_pos h2]
      refine za_if_ne (pc := 15) 20 dX6_read_15 (by decide) (fun c15 => ?_) (fun c15 => ?_)
      · obtain ⟨p, hp, rfl⟩ := isJb_ix h1 hn
        obtain ⟨j, hj, rfl⟩ := isSh_ix h2
        have ep : (nI p).toNatClampNeg = p := nI_clamp (by omega)
        have ej : (nI j).toNatClampNeg = j := nI_clamp (by omega)
        obtain ⟨k1, k2, k3⟩ := hS j hj
        have hsz := (hso j hj).1
        have hb := SHb hj
        have hol : zokv SH.length (.ref (35 + 2 * j)) = true := zokR (by omega)
        refine za_aload_n (pc := 20) dX6_read_20 rfl ?_
        refine za_getR (pc := 21) dX6_read_21 lk_X6_11 rfl rfl ?_
        refine za_iload_n (pc := 24) dX6_read_24 rfl ?_
        refine za_aald (pc := 25) dX6_read_25 rfl (vp_in_nI hj (by decide)) (SHa hj) ?_
        refine za_as5 (pc := 26) dX6_read_26 rfl ?_
        refine za_aload (pc := 28) dX6_read_28 rfl ?_
        refine za_cV0i (pc := 30) (μ' := mX4_isMissing) dX6_read_30 c_X6_63 hb rfl rfl ⟨rfl, rfl⟩ ⟨rfl, rfl⟩ rfl (by simp [zokS, zokI, zokR, hol]) rfl (tX4_isMissing hj) (fun x_30 t_30 h_30 => ?_)
        obtain ⟨rfl, h9⟩ := h_30
        have h9 := h9.symm
        subst h9
        by_cases hm : ss.1 j = -1
        · rw [if_pos (k1.trans hm)]
          refine za_if_eq (pc := 33) 39 dX6_read_33 (by decide) (fun c33 => ?_) (fun c33 => ?_)
          · exact absurd c33 (by decide)
          · refine za_bipush (pc := 36) (-11) dX6_read_36 (by decide) ?_
            refine za_ri (pc := 38) dX6_read_38 rfl rfl rfl ?_
            have e : spRead (H m) ss (nI p) (nI j) i n = (-11, none, none) := by
              unfold spRead
              rw [if_pos ⟨h1, h2⟩, ej, if_pos hm]
            rw [e]
            exact ⟨rfl, XAct_0 hO⟩
        · rw [if_neg (fun q => hm (k1.symm.trans q))]
          refine za_if_eq (pc := 33) 39 dX6_read_33 (by decide) (fun c33 => ?_) (fun c33 => ?_)
          · refine za_iload (pc := 39) dX6_read_39 rfl ?_
            refine za_if_ge (pc := 41) 47 dX6_read_41 (by decide) (fun c41 => ?_) (fun c41 => ?_)
            · have hn0 : ¬ n < 0 := Int32.not_lt.mpr c41
              refine za_aload (pc := 47) dX6_read_47 rfl ?_
              refine za_iload_n (pc := 49) dX6_read_49 rfl ?_
              refine za_iload (pc := 50) dX6_read_50 rfl ?_
              refine za_cV2i (pc := 52) (μ' := mX4_hasPlaces) dX6_read_52 c_X6_67 hb rfl rfl ⟨rfl, rfl⟩ ⟨rfl, rfl⟩ rfl (by simp [zokS, zokI, zokR, hol]) rfl (tX4_hasPlaces hj k2 hsz) (fun x_52 t_52 h_52 => ?_)
              obtain ⟨rfl, h9⟩ := h_52
              have h9 := h9.symm
              subst h9
              have n0 : 0 ≤ n.toInt := by
                rw [fa_le] at c41
                exact c41
              by_cases hi : 0 ≤ i.toInt ∧ i.toInt + n.toInt ≤ ss.2.1 j
              · rw [if_pos ⟨hi.1, n0, hi.2⟩]
                refine za_if_eq (pc := 55) 71 dX6_read_55 (by decide) (fun c55 => ?_) (fun c55 => ?_)
                · exact absurd c55 (by decide)
                · obtain ⟨i', hi', rfl⟩ := vp_in_of (x := i) (n := 17) (vp_in_iff.mpr (by omega)) (by omega)
                  obtain ⟨n', hn', rfl⟩ := vp_in_of (x := n) (n := 17) (vp_in_iff.mpr (by omega)) (by omega)
                  have hi2 : i' + n' ≤ ss.2.1 j := by
                    have := hi.2
                    rw [nI_toInt (by omega), nI_toInt (by omega)] at this
                    omega
                  have e : spRead (H m) ss (nI p) (nI j) (nI i') (nI n') = spEnd (H m) p (rdGo (H m) p (fun k => ss.2.2 j (i' + k)) 0 n' (fun _ => false)) := by
                    unfold spRead
                    rw [if_pos ⟨h1, h2⟩, ej, if_neg hm, if_neg hn0, if_pos hi, ep, nI_clamp (by omega), nI_clamp (by omega)]
                  rw [e]
                  refine za_aload_n (pc := 58) dX6_read_58 rfl ?_
                  refine za_iload_n (pc := 59) dX6_read_59 rfl ?_
                  refine za_aload (pc := 60) dX6_read_60 rfl ?_
                  refine za_iload_n (pc := 62) dX6_read_62 rfl ?_
                  refine za_iload (pc := 63) dX6_read_63 rfl ?_
                  refine za_cV4i (pc := 65) (μ' := mX6_readPlaces) dX6_read_65 c_X6_119 rfl rfl rfl ⟨rfl, rfl⟩ ⟨rfl, rfl⟩ rfl (by first | rfl | (simp [zokS, zokI, zokR, hol]; done) | (simp [zokS, zokI, zokR, hol]; rfl)) (by first | rfl | (simp [zokS, zokI, zokR, hol]; done) | (simp [zokS, zokI, zokR, hol]; rfl)) (tX6_readPlaces h ho hO hj hp (show i' + n' ≤ 16 by omega) (fun k hk => k3 (i' + k) (by omega))) (fun x_65 t_65 h_65 => ?_)
                  refine za_goto (pc := 68) 73 dX6_read_68 (by decide) ?_
                  refine za_ri (pc := 73) dX6_read_73 rfl rfl rfl ?_
                  exact h_65
              · rw [if_neg (fun q => hi ⟨q.1, q.2.2⟩)]
                refine za_if_eq (pc := 55) 71 dX6_read_55 (by decide) (fun c55 => ?_) (fun c55 => ?_)
                · refine za_bipush (pc := 71) (-12) dX6_read_71 (by decide) ?_
                  refine za_ri (pc := 73) dX6_read_73 rfl rfl rfl ?_
                  have e : spRead (H m) ss (nI p) (nI j) i n = (-12, none, none) := by
                    unfold spRead
                    rw [if_pos ⟨h1, h2⟩, ej, if_neg hm, if_neg hn0, if_neg hi]
                  rw [e]
                  exact ⟨rfl, XAct_0 hO⟩
                · exact absurd rfl c55
            · have hn0 : n < 0 := Int32.not_le.mp c41
              refine za_bipush (pc := 44) (-13) dX6_read_44 (by decide) ?_
              refine za_ri (pc := 46) dX6_read_46 rfl rfl rfl ?_
              have e : spRead (H m) ss (nI p) (nI j) i n = (-13, none, none) := by
                unfold spRead
                rw [if_pos ⟨h1, h2⟩, ej, if_neg hm, if_pos hn0]
              rw [e]
              exact ⟨rfl, XAct_0 hO⟩
          · exact absurd rfl c33
      · exact absurd c15 (by decide)
    · rw [if_neg h2]
      refine za_if_ne (pc := 15) 20 dX6_read_15 (by decide) (fun c15 => ?_) (fun c15 => ?_)
      · exact absurd rfl c15
      · refine za_iconst (pc := 18) (-1) dX6_read_18 (by decide) ?_
        refine za_ri (pc := 19) dX6_read_19 rfl rfl rfl ?_
        have e : spRead (H m) ss a r i n = (-1, none, none) := by
          unfold spRead
          rw [if_neg (fun q => h2 q.2)]
        rw [e]
        exact ⟨rfl, XAct_0 hO⟩
  · rw [if_neg h1]
    refine za_if_eq (pc := 8) 18 dX6_read_8 (by decide) (fun c8 => ?_) (fun c8 => ?_)
    · refine za_iconst (pc := 18) (-1) dX6_read_18 (by decide) ?_
      refine za_ri (pc := 19) dX6_read_19 rfl rfl rfl ?_
      have e : spRead (H m) ss a r i n = (-1, none, none) := by
        unfold spRead
        rw [if_neg (fun q => h1 q.1)]
      rw [e]
      exact ⟨rfl, XAct_0 hO⟩
    · exact absurd rfl c8
