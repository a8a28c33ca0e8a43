/-- the core in which job a waits just for f -/
def wC (c : Core) (a : Nat) (f : Nat → Bool) : Core := (cN c, cK c, cB c, cE c, cH c, va_up (cW c) a f)
theorem wC_W {c : Core} {a q : Nat} {f : Nat → Bool} : cW (wC c a f) q = if q = a then f else cW c q := rfl
theorem undo_wC {c : Core} {a : Nat} {f : Nat → Bool} (ha : a < cN c) : undoR (nI a) (zmask (cW c a)) (wC c a f) c :=
  Or.inr ⟨a, ha, rfl, rfl, rfl, fun q _ => ⟨rfl, rfl, rfl, rfl, fun hne i _ => by rw [wC_W, if_neg hne]⟩⟩
/-- one note and one new mask: the class's jobs go on -/
theorem XJ_wait {σ t u : zSt} {m v a : Nat} {H : Nat → Core} {f : Nat → Bool} (h : XJ σ m H v) (ho : JOk m H) (ha : a < cN (H m))
    (n1 : ∀ c, c ≠ 2 → c ≠ 8 → c ≠ 9 → t c = σ c) (n2 : ∀ i, i ≠ 6 → i ≠ 7 → t 2 i = σ 2 i) (n3 : t 2 6 = nI (pushN m)) (n4 : t 2 7 = σ 2 7 + 1) (n5 : ∀ k, k + 1 < pushN m → t 8 k = (if m = 20 then σ 8 (k + 1) else σ 8 k) ∧ t 9 k = (if m = 20 then σ 9 (k + 1) else σ 9 k)) (n6 : t 8 (pushN m - 1) = nI a) (n7 : t 9 (pushN m - 1) = zmask (cW (H m) a))
    (hu : u = zup t 7 a (zmask f)) : XJ u (pushN m) (pushH m H (wC (H m) a f)) (v + 1) ∧ FJ u σ := by
  obtain ⟨⟨c1, c2, c3, c4, c5⟩, hh, hv⟩ := h
  have r : ∀ c, c ≠ 7 → u c = t c := fun c hc => by rw [hu, zup_n hc]
  refine ⟨⟨?_, XHist_push hh ho.1 (by rw [r 2 (by decide)]; exact n3) (fun k hk => by rw [r 8 (by decide), r 9 (by decide)]; exact n5 k hk) (by rw [r 8 (by decide)]; exact n6) (by rw [r 9 (by decide)]; exact n7) (undo_wC ha), by rw [r 2 (by decide), n4, hv, nI_1]⟩, fun c hc => by rw [r c (by omega), n1 c (by omega) (by omega) (by omega)]⟩
  rw [push_top]
  refine ⟨by rw [r 2 (by decide), n2 5 (by decide) (by decide)]; exact c1, fun q hq => ?_, by rw [r 4 (by decide), n1 4 (by decide) (by decide) (by decide)]; exact c3, by rw [r 5 (by decide), n1 5 (by decide) (by decide) (by decide)]; exact c4, by rw [r 6 (by decide), n1 6 (by decide) (by decide) (by decide)]; exact c5⟩
  obtain ⟨a1, a2, a3, a4, a5⟩ := c2 q hq
  refine ⟨by rw [r 3 (by decide), n1 3 (by decide) (by decide) (by decide)]; exact a1, by rw [r 4 (by decide), n1 4 (by decide) (by decide) (by decide)]; exact a2, by rw [r 5 (by decide), n1 5 (by decide) (by decide) (by decide)]; exact a3, by rw [r 6 (by decide), n1 6 (by decide) (by decide) (by decide)]; exact a4, ?_⟩
  rw [hu, wC_W]
  by_cases e : q = a
  · rw [e, zup_a, if_pos rfl]
  · rw [zup_b e, if_neg e, n1 7 (by decide) (by decide) (by decide)]; exact a5
theorem tX5_waitForMore {σ : zSt} {m v a : Nat} {H : Nat → Core} {o : Nat → Bool} (h : XJ σ m H v) (ho : JOk m H) (ha : a < cN (H m)) (h10 : ∀ i, 10 ≤ i → o i = false) : zI mX5_waitForMore [.ref 2, .int (nI a), .int (zmask o)] SH σ (fun x t => x = nI (cnt (fun i => o i && !cW (H m) a i) 10) ∧ (((∀ i, i < 16 → (o i && !cW (H m) a i) = false) ∧ t = σ) ∨ (¬ (∀ i, i < 16 → (o i && !cW (H m) a i) = false) ∧ XJ t (pushN m) (pushH m H (wC (H m) a (fun i => cW (H m) a i || o i))) (v + 1) ∧ FJ t σ))) := by
  have hn : cN (H m) ≤ 10 := (ho.2 m (Nat.le_refl m)).1
  have va : vp_in (nI a) 10 := vp_in_nI (by omega) (by decide)
  have ea : (nI a).toNatClampNeg = a := nI_clamp (by omega)
  have w7 := (h.1.2.1 a ha).2.2.2.2
  refine zI_of (ls := [some (.ref 2), some (.int (nI a)), some (.int (zmask o)), none]) (by decide) rfl rfl ?_
  refine za_iload_n (pc := 0) dX5_waitForMore_0 rfl ?_
  refine za_aload_n (pc := 1) dX5_waitForMore_1 rfl ?_
  refine za_getR (pc := 2) dX5_waitForMore_2 lk_X5_24 rfl rfl ?_
  refine za_iload_n (pc := 5) dX5_waitForMore_5 rfl ?_
  refine za_iald (pc := 6) dX5_waitForMore_6 rfl va ?_
  rw [ea, w7]
  refine za_iconst (pc := 7) (-1) dX5_waitForMore_7 (by decide) ?_
  refine za_ixor (pc := 8) dX5_waitForMore_8 ?_
  refine za_iand (pc := 9) dX5_waitForMore_9 ?_
  rw [zm_not]
  refine za_is3n (pc := 10) dX5_waitForMore_10 rfl ?_
  refine za_iload_n (pc := 11) dX5_waitForMore_11 rfl ?_
  refine za_if_eq (pc := 12) 36 dX5_waitForMore_12 (by decide) (fun c12 => ?_) (fun c12 => ?_)
  · rw [zm_z] at c12
    refine za_iload_n (pc := 36) dX5_waitForMore_36 rfl ?_
    refine za_cS1i (pc := 37) (μ' := mJ6_bitCount_0f7a4) dX5_waitForMore_37 c_X5_57 rfl ⟨rfl, rfl⟩ ⟨rfl, rfl⟩ rfl rfl rfl (tJ6_bitCount_0f7a4) (fun x_37 t_37 h_37 => ?_)
    obtain ⟨rfl, h9⟩ := h_37
    have h9 := h9.symm
    subst h9
    refine za_ri (pc := 40) dX5_waitForMore_40 rfl rfl rfl ?_
    exact ⟨zm_bc (fun i hi => by rw [h10 i hi]; rfl), Or.inl ⟨c12, rfl⟩⟩
  · rw [zm_z] at c12
    refine za_aload_n (pc := 15) dX5_waitForMore_15 rfl ?_
    refine za_iload_n (pc := 16) dX5_waitForMore_16 rfl ?_
    refine za_aload_n (pc := 17) dX5_waitForMore_17 rfl ?_
    refine za_getR (pc := 18) dX5_waitForMore_18 lk_X5_24 rfl rfl ?_
    refine za_iload_n (pc := 21) dX5_waitForMore_21 rfl ?_
    refine za_iald (pc := 22) dX5_waitForMore_22 rfl va ?_
    rw [ea, w7]
    refine za_cV2v (pc := 23) (μ' := mX5_note) dX5_waitForMore_23 c_X5_53 rfl rfl rfl ⟨rfl, rfl⟩ ⟨rfl, rfl⟩ rfl rfl rfl (tX5_note h.2.1.1 ho.1) (fun t_23 h_23 => ?_)
    obtain ⟨n1, n2, n3, n4, n5, n6, n7⟩ := h_23
    refine za_aload_n (pc := 26) dX5_waitForMore_26 rfl ?_
    refine za_getR (pc := 27) dX5_waitForMore_27 lk_X5_24 rfl rfl ?_
    refine za_iload_n (pc := 30) dX5_waitForMore_30 rfl ?_
    refine za_dup2 (pc := 31) dX5_waitForMore_31 rfl rfl ?_
    refine za_iald (pc := 32) dX5_waitForMore_32 rfl va ?_
    rw [ea, n1 7 (by decide) (by decide) (by decide), w7]
    refine za_iload_n (pc := 33) dX5_waitForMore_33 rfl ?_
    refine za_ior (pc := 34) dX5_waitForMore_34 ?_
    rw [zm_or]
    refine za_iast (pc := 35) dX5_waitForMore_35 rfl va ?_
    refine za_iload_n (pc := 36) dX5_waitForMore_36 rfl ?_
    refine za_cS1i (pc := 37) (μ' := mJ6_bitCount_0f7a4) dX5_waitForMore_37 c_X5_57 rfl ⟨rfl, rfl⟩ ⟨rfl, rfl⟩ rfl rfl rfl (tJ6_bitCount_0f7a4) (fun x_37 t_37 h_37 => ?_)
    obtain ⟨rfl, h9⟩ := h_37
    have h9 := h9.symm
    subst h9
    refine za_ri (pc := 40) dX5_waitForMore_40 rfl rfl rfl ?_
    rw [ea]
    refine ⟨zm_bc (fun i hi => by rw [h10 i hi]; rfl), Or.inr ⟨c12, ?_⟩⟩
    refine XJ_wait (f := fun i => cW (H m) a i || o i) h ho ha n1 n2 n3 n4 n5 n6 n7 ?_
    congr 1
    apply zm_cong
    intro i _
    cases cW (H m) a i <;> cases o i <;> rfl
theorem tX5_waitNoMore {σ : zSt} {m v a b : Nat} {H : Nat → Core} (h : XJ σ m H v) (ho : JOk m H) (ha : a < cN (H m)) (hb : b < cN (H m)) : zI mX5_waitNoMore [.ref 2, .int (nI a), .int (nI b)] SH σ (fun x t => (cW (H m) a b = false ∧ x = 0 ∧ t = σ) ∨ (cW (H m) a b = true ∧ x = 1 ∧ XJ t (pushN m) (pushH m H (wC (H m) a (fun i => cW (H m) a i && !decide (i = b)))) (v + 1) ∧ FJ t σ)) := by
  have hn : cN (H m) ≤ 10 := (ho.2 m (Nat.le_refl m)).1
  have va : vp_in (nI a) 10 := vp_in_nI (by omega) (by decide)
  have ea : (nI a).toNatClampNeg = a := nI_clamp (by omega)
  have w7 := (h.1.2.1 a ha).2.2.2.2
  refine zI_of (ls := [some (.ref 2), some (.int (nI a)), some (.int (nI b))]) (by decide) rfl rfl ?_
  refine za_aload_n (pc := 0) dX5_waitNoMore_0 rfl ?_
  refine za_getR (pc := 1) dX5_waitNoMore_1 lk_X5_24 rfl rfl ?_
  refine za_iload_n (pc := 4) dX5_waitNoMore_4 rfl ?_
  refine za_iald (pc := 5) dX5_waitNoMore_5 rfl va ?_
  rw [ea, w7]
  refine za_iload_n (pc := 6) dX5_waitNoMore_6 rfl ?_
  refine za_cSN2i (pc := 7) (μ' := mX6_holds) dX5_waitNoMore_7 c_X5_62 rfl ⟨rfl, rfl⟩ ⟨rfl, rfl⟩ rfl rfl rfl (tX6_holds) (fun x_7 t_7 h_7 => ?_)
  obtain ⟨rfl, h9⟩ := h_7
  have h9 := h9.symm
  subst h9
  by_cases hw : cW (H m) a b = false
  · rw [if_pos ((zm_h (by omega)).mpr hw)]
    refine za_if_ne (pc := 10) 15 dX5_waitNoMore_10 (by decide) (fun c10 => ?_) (fun c10 => ?_)
    · exact absurd rfl c10
    · refine za_iconst (pc := 13) (0) dX5_waitNoMore_13 (by decide) ?_
      refine za_ri (pc := 14) dX5_waitNoMore_14 rfl rfl rfl ?_
      exact Or.inl ⟨hw, rfl, rfl⟩
  · rw [if_neg (fun q => hw ((zm_h (by omega)).mp q))]
    refine za_if_ne (pc := 10) 15 dX5_waitNoMore_10 (by decide) (fun c10 => ?_) (fun c10 => ?_)
    · refine za_aload_n (pc := 15) dX5_waitNoMore_15 rfl ?_
      refine za_iload_n (pc := 16) dX5_waitNoMore_16 rfl ?_
      refine za_aload_n (pc := 17) dX5_waitNoMore_17 rfl ?_
      refine za_getR (pc := 18) dX5_waitNoMore_18 lk_X5_24 rfl rfl ?_
      refine za_iload_n (pc := 21) dX5_waitNoMore_21 rfl ?_
      refine za_iald (pc := 22) dX5_waitNoMore_22 rfl va ?_
      rw [ea, w7]
      refine za_cV2v (pc := 23) (μ' := mX5_note) dX5_waitNoMore_23 c_X5_53 rfl rfl rfl ⟨rfl, rfl⟩ ⟨rfl, rfl⟩ rfl rfl rfl (tX5_note h.2.1.1 ho.1) (fun t_23 h_23 => ?_)
      obtain ⟨n1, n2, n3, n4, n5, n6, n7⟩ := h_23
      refine za_aload_n (pc := 26) dX5_waitNoMore_26 rfl ?_
      refine za_getR (pc := 27) dX5_waitNoMore_27 lk_X5_24 rfl rfl ?_
      refine za_iload_n (pc := 30) dX5_waitNoMore_30 rfl ?_
      refine za_dup2 (pc := 31) dX5_waitNoMore_31 rfl rfl ?_
      refine za_iald (pc := 32) dX5_waitNoMore_32 rfl va ?_
      rw [ea, n1 7 (by decide) (by decide) (by decide), w7]
      refine za_iload_n (pc := 33) dX5_waitNoMore_33 rfl ?_
      refine za_cSN1i (pc := 34) (μ' := mX6_bit) dX5_waitNoMore_34 c_X5_49 rfl ⟨rfl, rfl⟩ ⟨rfl, rfl⟩ rfl rfl rfl (tX6_bit) (fun x_34 t_34 h_34 => ?_)
      obtain ⟨rfl, h9⟩ := h_34
      have h9 := h9.symm
      subst h9
      refine za_iconst (pc := 37) (-1) dX5_waitNoMore_37 (by decide) ?_
      refine za_ixor (pc := 38) dX5_waitNoMore_38 ?_
      rw [zm_1 (by omega)]
      refine za_iand (pc := 39) dX5_waitNoMore_39 ?_
      rw [zm_not]
      refine za_iast (pc := 40) dX5_waitNoMore_40 rfl va ?_
      refine za_iconst (pc := 41) (1) dX5_waitNoMore_41 (by decide) ?_
      refine za_ri (pc := 42) dX5_waitNoMore_42 rfl rfl rfl ?_
      rw [ea]
      exact Or.inr ⟨by simpa using hw, rfl, XJ_wait h ho ha n1 n2 n3 n4 n5 n6 n7 rfl⟩
    · exact absurd c10 (by decide)
theorem tX5_takeBack {σ : zSt} {m v : Nat} {H : Nat → Core} (h : XJ σ m H v) (ho : JOk m H) : zI mX5_takeBack [.ref 2] SH σ (fun x t => (m = 0 ∧ x = 0 ∧ t = σ) ∨ (m ≠ 0 ∧ x = 1 ∧ XJ t (m - 1) H (v + 1) ∧ FJ t σ)) := by
  obtain ⟨⟨c1, c2, c3, c4, c5⟩, ⟨hm, hh⟩, hv⟩ := h
  have hm20 := ho.1
  refine zI_of (ls := [some (.ref 2), none]) (by decide) rfl rfl ?_
  refine za_aload_n (pc := 0) dX5_takeBack_0 rfl ?_
  refine za_getI (pc := 1) dX5_takeBack_1 lk_X5_31 rfl rfl ?_
  rw [hm]
  refine za_if_ne (pc := 4) 9 dX5_takeBack_4 (by decide) (fun c4' => ?_) (fun c4' => ?_)
  · have hm0 : m ≠ 0 := fun e => c4' (by rw [e]; rfl)
    obtain ⟨p, rfl⟩ : ∃ p, m = p + 1 := ⟨m - 1, by omega⟩
    have hu := hh p (by omega)
    have hpv := ho.2 p (by omega)
    have hnx := ho.2 (p + 1) (by omega)
    rw [Nat.add_sub_cancel]
    refine za_aload_n (pc := 9) dX5_takeBack_9 rfl ?_
    refine za_dup (pc := 10) dX5_takeBack_10 rfl ?_
    refine za_getI (pc := 11) dX5_takeBack_11 lk_X5_31 rfl rfl ?_
    refine za_iconst (pc := 14) (1) dX5_takeBack_14 (by decide) ?_
    refine za_isub (pc := 15) dX5_takeBack_15 ?_
    refine za_putI (pc := 16) dX5_takeBack_16 lp_X5_31 rfl rfl ?_
    refine za_aload_n (pc := 19) dX5_takeBack_19 rfl ?_
    refine za_dup (pc := 20) dX5_takeBack_20 rfl ?_
    refine za_getI (pc := 21) dX5_takeBack_21 lk_X5_34 rfl rfl ?_
    refine za_iconst (pc := 24) (1) dX5_takeBack_24 (by decide) ?_
    refine za_iadd (pc := 25) dX5_takeBack_25 ?_
    refine za_putI (pc := 26) dX5_takeBack_26 lp_X5_34 rfl rfl ?_
    refine za_aload_n (pc := 29) dX5_takeBack_29 rfl ?_
    refine za_getR (pc := 30) dX5_takeBack_30 lk_X5_37 rfl rfl ?_
    refine za_aload_n (pc := 33) dX5_takeBack_33 rfl ?_
    refine za_getI (pc := 34) dX5_takeBack_34 lk_X5_31 rfl rfl ?_
    have e6 : zup (zup σ 2 6 (σ 2 6 - 1)) 2 7 (zup σ 2 6 (σ 2 6 - 1) 2 7 + 1) = zup (zup σ 2 6 (nI p)) 2 7 (nI (v + 1)) := by rw [hm, nI_pred, zup_b (by decide), hv, nI_1]
    rw [e6]
    have e7 : zup (zup σ 2 6 (nI p)) 2 7 (nI (v + 1)) 2 6 = nI p := by rw [zup_b (by decide), zup_a]
    rw [e7]
    refine za_iald (pc := 37) dX5_takeBack_37 rfl (vp_in_nI (show p < 20 by omega) (by decide)) ?_
    refine za_is1n (pc := 38) dX5_takeBack_38 rfl ?_
    refine za_iload_n (pc := 39) dX5_takeBack_39 rfl ?_
    refine za_bipush (pc := 40) (10) dX5_takeBack_40 (by decide) ?_
    rw [nI_clamp (by omega), zup_n (by decide), zup_n (by decide)]
    have hist : ∀ u : zSt, u 2 6 = nI p → (∀ i, u 8 i = σ 8 i) → (∀ i, u 9 i = σ 9 i) → XHist u p H := fun u u1 u2 u3 => ⟨u1, fun k hk => by rw [u2, u3]; exact hh k (by omega)⟩
    refine za_icmp_ne (pc := 42) 58 dX5_takeBack_42 (by decide) (fun c42 => ?_) (fun c42 => ?_)
    · rcases hu with ⟨hj, -⟩ | ⟨q, hq, hj, hw, hn, hr⟩
      · exact absurd hj c42
      · rw [hj]
        refine za_aload_n (pc := 58) dX5_takeBack_58 rfl ?_
        refine za_getR (pc := 59) dX5_takeBack_59 lk_X5_24 rfl rfl ?_
        refine za_iload_n (pc := 62) dX5_takeBack_62 rfl ?_
        refine za_aload_n (pc := 63) dX5_takeBack_63 rfl ?_
        refine za_getR (pc := 64) dX5_takeBack_64 lk_X5_40 rfl rfl ?_
        refine za_aload_n (pc := 67) dX5_takeBack_67 rfl ?_
        refine za_getI (pc := 68) dX5_takeBack_68 lk_X5_31 rfl rfl ?_
        rw [e7]
        refine za_iald (pc := 71) dX5_takeBack_71 rfl (vp_in_nI (show p < 20 by omega) (by decide)) ?_
        have e8 : zup (zup σ 2 6 (nI p)) 2 7 (nI (v + 1)) 9 (nI p).toNatClampNeg = zmask (cW (H p) q) := by rw [nI_clamp (by omega), zup_n (by decide), zup_n (by decide), hw]
        rw [e8]
        refine za_iast (pc := 72) dX5_takeBack_72 rfl (vp_in_nI (show q < 10 by have := hpv.1; omega) (by decide)) ?_
        refine za_iconst (pc := 73) (1) dX5_takeBack_73 (by decide) ?_
        refine za_rz (pc := 74) dX5_takeBack_74 rfl rfl rfl rfl ?_
        rw [nI_clamp (show q < 2 ^ 31 by have := hpv.1; omega)]
        have r : ∀ c, c ≠ 2 → c ≠ 7 → zup (zup (zup σ 2 6 (nI p)) 2 7 (nI (v + 1))) 7 q (zmask (cW (H p) q)) c = σ c := fun c h2 h7 => by rw [zup_n h7, zup_n h2, zup_n h2]
        refine Or.inr ⟨hm0, rfl, ⟨⟨?_, fun a ha => ?_, ?_, ?_, ?_⟩, hist _ ?_ (fun i => by rw [r 8 (by decide) (by decide)]) (fun i => by rw [r 9 (by decide) (by decide)]), ?_⟩, fun c hc => r c (by omega) (by omega)⟩
        · rw [zup_n (by decide), zup_b (by decide), zup_b (by decide), c1, hn]
        · obtain ⟨a1, a2, a3, a4, a5⟩ := c2 a (by omega)
          obtain ⟨b1, b2, b3, b4, b5⟩ := hr a ha
          rw [r 3 (by decide) (by decide), r 4 (by decide) (by decide), r 5 (by decide) (by decide), r 6 (by decide) (by decide)]
          refine ⟨a1.trans b1, by rw [a2, b2], by rw [a3, b3], a4.trans b4, ?_⟩
          by_cases e : a = q
          · rw [e, zup_a]
          · rw [zup_b e, zup_n (by decide), zup_n (by decide), a5]
            exact zm_cong (b5 e)
        · rw [r 4 (by decide) (by decide)]; exact c3
        · rw [r 5 (by decide) (by decide)]; exact c4
        · rw [r 6 (by decide) (by decide)]; exact c5
        · rw [zup_n (by decide), zup_b (by decide), zup_a]
        · rw [zup_n (by decide), zup_a]
    · rcases hu with ⟨hj, hn, hr⟩ | ⟨q, hq, hj, hw, hn, hr⟩
      · refine za_aload_n (pc := 45) dX5_takeBack_45 rfl ?_
        refine za_dup (pc := 46) dX5_takeBack_46 rfl ?_
        refine za_getI (pc := 47) dX5_takeBack_47 lk_X5_27 rfl rfl ?_
        refine za_iconst (pc := 50) (1) dX5_takeBack_50 (by decide) ?_
        refine za_isub (pc := 51) dX5_takeBack_51 ?_
        refine za_putI (pc := 52) dX5_takeBack_52 lp_X5_27 rfl rfl ?_
        refine za_goto (pc := 55) 73 dX5_takeBack_55 (by decide) ?_
        refine za_iconst (pc := 73) (1) dX5_takeBack_73 (by decide) ?_
        refine za_rz (pc := 74) dX5_takeBack_74 rfl rfl rfl rfl ?_
        have e9 : zup (zup σ 2 6 (nI p)) 2 7 (nI (v + 1)) 2 5 = nI (cN (H p) + 1) := by rw [zup_b (by decide), zup_b (by decide), c1, hn]
        rw [e9, nI_pred]
        have r : ∀ c, c ≠ 2 → zup (zup (zup σ 2 6 (nI p)) 2 7 (nI (v + 1))) 2 5 (nI (cN (H p))) c = σ c := fun c h2 => by rw [zup_n h2, zup_n h2, zup_n h2]
        refine Or.inr ⟨hm0, rfl, ⟨⟨?_, fun a ha => ?_, ?_, ?_, ?_⟩, hist _ ?_ (fun i => by rw [r 8 (by decide)]) (fun i => by rw [r 9 (by decide)]), ?_⟩, fun c hc => r c (by omega)⟩
        · rw [zup_a]
        · obtain ⟨a1, a2, a3, a4, a5⟩ := c2 a (by omega)
          obtain ⟨b1, b2, b3, b4, b5⟩ := hr a ha
          rw [r 3 (by decide), r 4 (by decide), r 5 (by decide), r 6 (by decide), r 7 (by decide)]
          exact ⟨a1.trans b1, by rw [a2, b2], by rw [a3, b3], a4.trans b4, a5.trans (zm_cong b5)⟩
        · rw [r 4 (by decide)]; exact c3
        · rw [r 5 (by decide)]; exact c4
        · rw [r 6 (by decide)]; exact c5
        · rw [zup_b (by decide), zup_b (by decide), zup_a]
        · rw [zup_b (by decide), zup_a]
      · have := hpv.1
        rw [hj] at c42
        exact absurd ((nI_eq (b := 10) (by omega) (by decide)).mp c42) (by omega)
  · have hm0 : m = 0 := (nI_eq (by omega) (by decide)).mp c4'
    refine za_iconst (pc := 7) (0) dX5_takeBack_7 (by decide) ?_
    refine za_rz (pc := 8) dX5_takeBack_8 rfl rfl rfl rfl ?_
    exact Or.inl ⟨hm0, rfl, rfl⟩
theorem tX6_isBound {S : List zSh} {σ : zSt} {a : Int32} : zI mX6_isBound [.int a] S σ (fun x t => x = (if isHr a then 1 else 0) ∧ t = σ) := by
  refine zI_of (ls := [some (.int a)]) (by decide) rfl rfl ?_
  refine za_iload_n (pc := 0) dX6_isBound_0 rfl ?_
  refine za_iconst (pc := 1) (1) dX6_isBound_1 (by decide) ?_
  refine za_icmp_lt (pc := 2) 15 dX6_isBound_2 (by decide) (fun c2 => ?_) (fun c2 => ?_)
  · refine za_iconst (pc := 15) (0) dX6_isBound_15 (by decide) ?_
    refine za_rz (pc := 16) dX6_isBound_16 rfl rfl rfl rfl ?_
    exact ⟨(if_neg (fun q => absurd q.1 (Int32.not_le.mpr c2))).symm, rfl⟩
  · refine za_iload_n (pc := 5) dX6_isBound_5 rfl ?_
    refine za_bipush (pc := 6) (40) dX6_isBound_6 (by decide) ?_
    refine za_icmp_gt (pc := 8) 15 dX6_isBound_8 (by decide) (fun c8 => ?_) (fun c8 => ?_)
    · refine za_iconst (pc := 15) (0) dX6_isBound_15 (by decide) ?_
      refine za_rz (pc := 16) dX6_isBound_16 rfl rfl rfl rfl ?_
      exact ⟨(if_neg (fun q => absurd q.2 (Int32.not_le.mpr c8))).symm, rfl⟩
    · refine za_iconst (pc := 11) (1) dX6_isBound_11 (by decide) ?_
      refine za_goto (pc := 12) 16 dX6_isBound_12 (by decide) ?_
      refine za_rz (pc := 16) dX6_isBound_16 rfl rfl rfl rfl ?_
      exact ⟨(if_pos ⟨Int32.not_lt.mp c2, Int32.not_lt.mp c8⟩).symm, rfl⟩
theorem tX6_isKind {S : List zSh} {σ : zSt} {k a b : Int32} : zI mX6_isKind [.int k, .int a, .int b] S σ (fun x t => x = (if kdOk k a b then 1 else 0) ∧ t = σ) := by
  refine zI_of (ls := [some (.int k), some (.int a), some (.int b)]) (by decide) rfl rfl ?_
  refine za_iload_n (pc := 0) dX6_isKind_0 rfl ?_
  by_cases h0 : k = 0
  · subst h0
    refine za_tableIn (pc := 1) (off := 31) 32 dX6_isKind_1 (by decide) (by decide) (by decide) (by decide) ?_
    refine za_iconst (pc := 32) (1) dX6_isKind_32 (by decide) ?_
    refine za_rz (pc := 33) dX6_isKind_33 rfl rfl rfl rfl ?_
    exact ⟨(if_pos (Or.inl rfl)).symm, rfl⟩
  by_cases h1 : k = 1
  · subst h1
    refine za_tableIn (pc := 1) (off := 33) 34 dX6_isKind_1 (by decide) (by decide) (by decide) (by decide) ?_
    refine za_iload_n (pc := 34) dX6_isKind_34 rfl ?_
    refine za_cS1i (pc := 35) (μ' := mX6_isBound) dX6_isKind_35 c_X6_178 rfl ⟨rfl, rfl⟩ ⟨rfl, rfl⟩ rfl rfl rfl (tX6_isBound) (fun x_35 t_35 h_35 => ?_)
    obtain ⟨rfl, h9⟩ := h_35
    have h9 := h9.symm
    subst h9
    refine za_rz (pc := 38) dX6_isKind_38 rfl rfl rfl (by split <;> rfl) ?_
    refine ⟨?_, rfl⟩
    have : kdOk 1 a b ↔ isHr a := ⟨fun q => by
      rcases q with q | q | q | q
      · exact absurd q (by decide)
      · exact q.2
      · exact absurd q.1 (by decide)
      · exact absurd q.1 (by decide), fun q => Or.inr (Or.inl ⟨rfl, q⟩)⟩
    simp only [this]
  by_cases h2 : k = 2
  · subst h2
    have iff2 : kdOk 2 a b ↔ isHr a ∧ isHr b ∧ a ≤ b := ⟨fun q => by
      rcases q with q | q | q | q
      · exact absurd q (by decide)
      · exact absurd q.1 (by decide)
      · exact q.2
      · exact absurd q.1 (by decide), fun q => Or.inr (Or.inr (Or.inl ⟨rfl, q⟩))⟩
    refine za_tableIn (pc := 1) (off := 38) 39 dX6_isKind_1 (by decide) (by decide) (by decide) (by decide) ?_
    refine za_iload_n (pc := 39) dX6_isKind_39 rfl ?_
    refine za_cS1i (pc := 40) (μ' := mX6_isBound) dX6_isKind_40 c_X6_178 rfl ⟨rfl, rfl⟩ ⟨rfl, rfl⟩ rfl rfl rfl (tX6_isBound) (fun x_40 t_40 h_40 => ?_)
    obtain ⟨rfl, h9⟩ := h_40
    have h9 := h9.symm
    subst h9
    by_cases ha : isHr a
    · rw [if_pos ha]
      refine za_if_eq (pc := 43) 62 dX6_isKind_43 (by decide) (fun c43 => ?_) (fun c43 => ?_)
      · exact absurd c43 (by decide)
      refine za_iload_n (pc := 46) dX6_isKind_46 rfl ?_
      refine za_cS1i (pc := 47) (μ' := mX6_isBound) dX6_isKind_47 c_X6_178 rfl ⟨rfl, rfl⟩ ⟨rfl, rfl⟩ rfl rfl rfl (tX6_isBound) (fun x_47 t_47 h_47 => ?_)
      obtain ⟨rfl, h9⟩ := h_47
      have h9 := h9.symm
      subst h9
      by_cases hb : isHr b
      · rw [if_pos hb]
        refine za_if_eq (pc := 50) 62 dX6_isKind_50 (by decide) (fun c50 => ?_) (fun c50 => ?_)
        · exact absurd c50 (by decide)
        refine za_iload_n (pc := 53) dX6_isKind_53 rfl ?_
        refine za_iload_n (pc := 54) dX6_isKind_54 rfl ?_
        refine za_icmp_gt (pc := 55) 62 dX6_isKind_55 (by decide) (fun c55 => ?_) (fun c55 => ?_)
        · refine za_iconst (pc := 62) (0) dX6_isKind_62 (by decide) ?_
          refine za_rz (pc := 63) dX6_isKind_63 rfl rfl rfl rfl ?_
          exact ⟨(if_neg (fun q => absurd (iff2.mp q).2.2 (Int32.not_le.mpr c55))).symm, rfl⟩
        · refine za_iconst (pc := 58) (1) dX6_isKind_58 (by decide) ?_
          refine za_goto (pc := 59) 63 dX6_isKind_59 (by decide) ?_
          refine za_rz (pc := 63) dX6_isKind_63 rfl rfl rfl rfl ?_
          exact ⟨(if_pos (iff2.mpr ⟨ha, hb, Int32.not_lt.mp c55⟩)).symm, rfl⟩
      · rw [if_neg hb]
        refine za_if_eq (pc := 50) 62 dX6_isKind_50 (by decide) (fun c50 => ?_) (fun c50 => ?_)
        · refine za_iconst (pc := 62) (0) dX6_isKind_62 (by decide) ?_
          refine za_rz (pc := 63) dX6_isKind_63 rfl rfl rfl rfl ?_
          exact ⟨(if_neg (fun q => hb (iff2.mp q).2.1)).symm, rfl⟩
        · exact absurd rfl c50
    · rw [if_neg ha]
      refine za_if_eq (pc := 43) 62 dX6_isKind_43 (by decide) (fun c43 => ?_) (fun c43 => ?_)
      · refine za_iconst (pc := 62) (0) dX6_isKind_62 (by decide) ?_
        refine za_rz (pc := 63) dX6_isKind_63 rfl rfl rfl rfl ?_
        exact ⟨(if_neg (fun q => ha (iff2.mp q).1)).symm, rfl⟩
      · exact absurd rfl c43
  by_cases h3 : k = 3
  · subst h3
    have iff3 : kdOk 3 a b ↔ a = 0 ∨ a = 1 := ⟨fun q => by
      rcases q with q | q | q | q
      · exact absurd q (by decide)
      · exact absurd q.1 (by decide)
      · exact absurd q.1 (by decide)
      · exact q.2, fun q => Or.inr (Or.inr (Or.inr ⟨rfl, q⟩))⟩
    refine za_tableIn (pc := 1) (off := 63) 64 dX6_isKind_1 (by decide) (by decide) (by decide) (by decide) ?_
    refine za_iload_n (pc := 64) dX6_isKind_64 rfl ?_
    refine za_if_eq (pc := 65) 73 dX6_isKind_65 (by decide) (fun c65 => ?_) (fun c65 => ?_)
    · refine za_iconst (pc := 73) (1) dX6_isKind_73 (by decide) ?_
      refine za_goto (pc := 74) 78 dX6_isKind_74 (by decide) ?_
      refine za_rz (pc := 78) dX6_isKind_78 rfl rfl rfl rfl ?_
      exact ⟨(if_pos (iff3.mpr (Or.inl c65))).symm, rfl⟩
    · refine za_iload_n (pc := 68) dX6_isKind_68 rfl ?_
      refine za_iconst (pc := 69) (1) dX6_isKind_69 (by decide) ?_
      refine za_icmp_ne (pc := 70) 77 dX6_isKind_70 (by decide) (fun c70 => ?_) (fun c70 => ?_)
      · refine za_iconst (pc := 77) (0) dX6_isKind_77 (by decide) ?_
        refine za_rz (pc := 78) dX6_isKind_78 rfl rfl rfl rfl ?_
        exact ⟨(if_neg (fun q => (iff3.mp q).elim c65 c70)).symm, rfl⟩
      · refine za_iconst (pc := 73) (1) dX6_isKind_73 (by decide) ?_
        refine za_goto (pc := 74) 78 dX6_isKind_74 (by decide) ?_
        refine za_rz (pc := 78) dX6_isKind_78 rfl rfl rfl rfl ?_
        exact ⟨(if_pos (iff3.mpr (Or.inr c70))).symm, rfl⟩
  have hout : k.toInt < 0 ∨ 3 < k.toInt := by
    rw [fa_eq] at h0 h1 h2 h3
    have e0 : (0 : Int32).toInt = 0 := rfl
    have e1 : (1 : Int32).toInt = 1 := rfl
    have e2 : (2 : Int32).toInt = 2 := rfl
    have e3 : (3 : Int32).toInt = 3 := rfl
    omega
  refine za_tableOut (pc := 1) 79 dX6_isKind_1 hout (by decide) ?_
  refine za_iconst (pc := 79) (0) dX6_isKind_79 (by decide) ?_
  refine za_rz (pc := 80) dX6_isKind_80 rfl rfl rfl rfl ?_
  refine ⟨(if_neg (fun q => ?_)).symm, rfl⟩
  rcases q with q | q | q | q
  · exact h0 q
  · exact h1 q.1
  · exact h2 q.1
  · exact h3 q.1
/-- job(): what it answers and leaves -/
def spJob (m : Nat) (H : Nat → Core) (k a b : Int32) : Int32 := if kdOk k a b then (if cN (H m) < 10 then nI (cN (H m)) else -2) else -1
theorem tX6_job {σ : zSt} {m v : Nat} {H : Nat → Core} {k a b : Int32} (h : XJ σ m H v) (ho : JOk m H) : zI mX6_job [.ref 0, .int k, .int a, .int b] SH σ (fun x t => x = spJob m H k a b ∧ ((kdOk k a b ∧ cN (H m) < 10 ∧ XJ t (pushN m) (pushH m H (addC (H m) k a b)) (v + 1) ∧ FJ t σ) ∨ (¬ (kdOk k a b ∧ cN (H m) < 10) ∧ t = σ))) := by
  have hn : cN (H m) ≤ 10 := (ho.2 m (Nat.le_refl m)).1
  refine zI_of (ls := [some (.ref 0), some (.int k), some (.int a), some (.int b)]) (by decide) rfl rfl ?_
  refine za_iload_n (pc := 0) dX6_job_0 rfl ?_
  refine za_iload_n (pc := 1) dX6_job_1 rfl ?_
  refine za_iload_n (pc := 2) dX6_job_2 rfl ?_
  refine za_cS3i (pc := 3) (μ' := mX6_isKind) dX6_job_3 c_X6_94 rfl ⟨rfl, rfl⟩ ⟨rfl, rfl⟩ rfl rfl rfl (tX6_isKind) (fun x_3 t_3 h_3 => ?_)
  obtain ⟨rfl, h9⟩ := h_3
  have h9 := h9.symm
  subst h9
  by_cases hk : kdOk k a b
  · rw [if_pos hk]
    refine za_if_ne (pc := 6) 11 dX6_job_6 (by decide) (fun c6 => ?_) (fun c6 => ?_)
    · refine za_aload_n (pc := 11) dX6_job_11 rfl ?_
      refine za_getR (pc := 12) dX6_job_12 lk_X6_18 rfl rfl ?_
      refine za_getI (pc := 15) dX6_job_15 lk_X6_98 rfl rfl ?_
      refine za_bipush (pc := 18) (10) dX6_job_18 (by decide) ?_
      rw [h.1.1]
      refine za_icmp_ge (pc := 20) 36 dX6_job_20 (by decide) (fun c20 => ?_) (fun c20 => ?_)
      · have h10 : ¬ cN (H m) < 10 := fun q => absurd c20 (nI_ge q (by decide))
        refine za_bipush (pc := 36) (-2) dX6_job_36 (by decide) ?_
        refine za_ri (pc := 38) dX6_job_38 rfl rfl rfl ?_
        exact ⟨by rw [spJob, if_pos hk, if_neg h10], Or.inr ⟨fun q => h10 q.2, rfl⟩⟩
      · have h10 : cN (H m) < 10 := Nat.lt_of_not_le (fun q => c20 (nI_le (a := 10) q (by omega)))
        refine za_aload_n (pc := 23) dX6_job_23 rfl ?_
        refine za_getR (pc := 24) dX6_job_24 lk_X6_18 rfl rfl ?_
        refine za_iload_n (pc := 27) dX6_job_27 rfl ?_
        refine za_iload_n (pc := 28) dX6_job_28 rfl ?_
        refine za_iload_n (pc := 29) dX6_job_29 rfl ?_
        refine za_cV3i (pc := 30) (μ' := mX5_add) dX6_job_30 c_X6_101 rfl rfl rfl ⟨rfl, rfl⟩ ⟨rfl, rfl⟩ rfl rfl rfl (tX5_add h ho h10 hk) (fun x_30 t_30 h_30 => ?_)
        obtain ⟨rfl, q1, q2⟩ := h_30
        refine za_goto (pc := 33) 38 dX6_job_33 (by decide) ?_
        refine za_ri (pc := 38) dX6_job_38 rfl rfl rfl ?_
        exact ⟨by rw [spJob, if_pos hk, if_pos h10], Or.inl ⟨hk, h10, q1, q2⟩⟩
    · exact absurd c6 (by decide)
  · rw [if_neg hk]
    refine za_if_ne (pc := 6) 11 dX6_job_6 (by decide) (fun c6 => ?_) (fun c6 => ?_)
    · exact absurd rfl c6
    · refine za_iconst (pc := 9) (-1) dX6_job_9 (by decide) ?_
      refine za_ri (pc := 10) dX6_job_10 rfl rfl rfl ?_
      exact ⟨by rw [spJob, if_neg hk], Or.inr ⟨fun q => hk q.1, rfl⟩⟩
abbrev isJb (n : Nat) (a : Int32) : Prop := 0 ≤ a ∧ a < nI n
theorem isJb_ix {n : Nat} {a : Int32} (h : isJb n a) (hn : n ≤ 10) : ∃ j, j < n ∧ a = nI j := zix h.1 h.2 (by omega)
theorem tX6_free {σ : zSt} {m v : Nat} {H : Nat → Core} {a b : Int32} (h : XJ σ m H v) (ho : JOk m H) : zI mX6_free [.ref 0, .int a, .int b] SH σ (fun x t => (¬ (isJb (cN (H m)) a ∧ isJb (cN (H m)) b) ∧ x = -1 ∧ t = σ) ∨ ∃ p q, p < cN (H m) ∧ q < cN (H m) ∧ a = nI p ∧ b = nI q ∧ ((cW (H m) p q = false ∧ x = 0 ∧ t = σ) ∨ (cW (H m) p q = true ∧ x = 1 ∧ XJ t (pushN m) (pushH m H (wC (H m) p (fun i => cW (H m) p i && !decide (i = q)))) (v + 1) ∧ FJ t σ))) := by
  have hn : cN (H m) ≤ 10 := (ho.2 m (Nat.le_refl m)).1
  refine zI_of (ls := [some (.ref 0), some (.int a), some (.int b)]) (by decide) rfl rfl ?_
  refine za_aload_n (pc := 0) dX6_free_0 rfl ?_
  refine za_getR (pc := 1) dX6_free_1 lk_X6_18 rfl rfl ?_
  refine za_iload_n (pc := 4) dX6_free_4 rfl ?_
  refine za_cV1i (pc := 5) (μ' := mX5_has) dX6_free_5 c_X6_105 rfl rfl rfl ⟨rfl, rfl⟩ ⟨rfl, rfl⟩ rfl rfl rfl (tX5_has h.1.1) (fun x_5 t_5 h_5 => ?_)
  obtain ⟨rfl, h9⟩ := h_5
  have h9 := h9.symm
  subst h9
  by_cases ha : isJb (cN (H m)) a
  · rw [if_pos ha]
    refine za_if_eq (pc := 8) 22 dX6_free_8 (by decide) (fun c8 => ?_) (fun c8 => ?_)
    · exact absurd c8 (by decide)
    refine za_aload_n (pc := 11) dX6_free_11 rfl ?_
    refine za_getR (pc := 12) dX6_free_12 lk_X6_18 rfl rfl ?_
    refine za_iload_n (pc := 15) dX6_free_15 rfl ?_
    refine za_cV1i (pc := 16) (μ' := mX5_has) dX6_free_16 c_X6_105 rfl rfl rfl ⟨rfl, rfl⟩ ⟨rfl, rfl⟩ rfl rfl rfl (tX5_has h.1.1) (fun x_16 t_16 h_16 => ?_)
    obtain ⟨rfl, h9⟩ := h_16
    have h9 := h9.symm
    subst h9
    by_cases hb : isJb (cN (H m)) b
    · rw [if_pos hb]
      refine za_if_ne (pc := 19) 24 dX6_free_19 (by decide) (fun c19 => ?_) (fun c19 => ?_)
      · obtain ⟨p, hp, rfl⟩ := isJb_ix ha hn
        obtain ⟨q, hq, rfl⟩ := isJb_ix hb hn
        refine za_aload_n (pc := 24) dX6_free_24 rfl ?_
        refine za_getR (pc := 25) dX6_free_25 lk_X6_18 rfl rfl ?_
        refine za_iload_n (pc := 28) dX6_free_28 rfl ?_
        refine za_iload_n (pc := 29) dX6_free_29 rfl ?_
        refine za_cV2i (pc := 30) (μ' := mX5_waitNoMore) dX6_free_30 c_X6_123 rfl rfl rfl ⟨rfl, rfl⟩ ⟨rfl, rfl⟩ rfl rfl rfl (tX5_waitNoMore h ho hp hq) (fun x_30 t_30 h_30 => ?_)
        refine za_ri (pc := 33) dX6_free_33 rfl rfl rfl ?_
        exact Or.inr ⟨p, q, hp, hq, rfl, rfl, h_30⟩
      · exact absurd c19 (by decide)
    · rw [if_neg hb]
      refine za_if_ne (pc := 19) 24 dX6_free_19 (by decide) (fun c19 => ?_) (fun c19 => ?_)
      · exact absurd rfl c19
      · refine za_iconst (pc := 22) (-1) dX6_free_22 (by decide) ?_
        refine za_ri (pc := 23) dX6_free_23 rfl rfl rfl ?_
        exact Or.inl ⟨fun q => hb q.2, rfl, rfl⟩
  · rw [if_neg ha]
    refine za_if_eq (pc := 8) 22 dX6_free_8 (by decide) (fun c8 => ?_) (fun c8 => ?_)
    · refine za_iconst (pc := 22) (-1) dX6_free_22 (by decide) ?_
      refine za_ri (pc := 23) dX6_free_23 rfl rfl rfl ?_
      exact Or.inl ⟨fun q => ha q.1, rfl, rfl⟩
    · exact absurd rfl c8
theorem tX6_undo {σ : zSt} {m v : Nat} {H : Nat → Core} (h : XJ σ m H v) (ho : JOk m H) : zI mX6_undo [.ref 0] SH σ (fun x t => (m = 0 ∧ x = -3 ∧ t = σ) ∨ (m ≠ 0 ∧ x = 1 ∧ XJ t (m - 1) H (v + 1) ∧ FJ t σ)) := by
  refine zI_of (ls := [some (.ref 0)]) (by decide) rfl rfl ?_
  refine za_aload_n (pc := 0) dX6_undo_0 rfl ?_
  refine za_getR (pc := 1) dX6_undo_1 lk_X6_18 rfl rfl ?_
  refine za_cV0i (pc := 4) (μ' := mX5_takeBack) dX6_undo_4 c_X6_175 rfl rfl rfl ⟨rfl, rfl⟩ ⟨rfl, rfl⟩ rfl rfl rfl (tX5_takeBack h ho) (fun x_4 t_4 h_4 => ?_)
  rcases h_4 with ⟨q1, rfl, rfl⟩ | ⟨q1, rfl, q2, q3⟩
  · refine za_if_eq (pc := 7) 14 dX6_undo_7 (by decide) (fun c7 => ?_) (fun c7 => ?_)
    · refine za_bipush (pc := 14) (-3) dX6_undo_14 (by decide) ?_
      refine za_ri (pc := 16) dX6_undo_16 rfl rfl rfl ?_
      exact Or.inl ⟨q1, rfl, rfl⟩
    · exact absurd rfl c7
  · refine za_if_eq (pc := 7) 14 dX6_undo_7 (by decide) (fun c7 => ?_) (fun c7 => ?_)
    · exact absurd c7 (by decide)
    · refine za_iconst (pc := 10) (1) dX6_undo_10 (by decide) ?_
      refine za_goto (pc := 11) 16 dX6_undo_11 (by decide) ?_
      refine za_ri (pc := 16) dX6_undo_16 rfl rfl rfl ?_
      exact Or.inr ⟨q1, rfl, q2, q3⟩
