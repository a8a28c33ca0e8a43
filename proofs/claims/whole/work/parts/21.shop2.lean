/-- the core in which job a waits just for f -/
def wC (c : Core) (a : Nat) (f : Nat → Bool) : Core := (cN c, cK c, cB c, cE c, cH c, va_up (cW c) a f)
theorem wC_W {c : Core} {a q : Nat} {f : Nat → Bool} : cW (wC c a f) q = if q = a then f else cW c q := rfl
theorem undo_wC {c : Core} {a : Nat} {f : Nat → Bool} (ha : a < cN c) : undoR (nI a) (zmask (cW c a)) (wC c a f) c :=
  Or.inr ⟨a, ha, rfl, rfl, rfl, fun q _ => ⟨rfl, rfl, rfl, rfl, fun hne i _ => by rw [wC_W, if_neg hne]⟩⟩
/-- one note and one new mask: the class's jobs go on -/
theorem XJ_wait {σ t u : zSt} {m v a : Nat} {H : Nat → Core} {f : Nat → Bool} (h : XJ σ m H v) (ho : JOk m H) (ha : a < cN (H m))
    (n1 : ∀ c, c ≠ 2 → c ≠ 8 → c ≠ 9 → t c = σ c) (n2 : ∀ i, i ≠ 6 → i ≠ 7 → t 2 i = σ 2 i) (n3 : t 2 6 = nI (pushN m)) (n4 : t 2 7 = σ 2 7 + 1) (n5 : ∀ k, k + 1 < pushN m → t 8 k = (if m = 20 then σ 8 (k + 1) else σ 8 k) ∧ t 9 k = (if m = 20 then σ 9 (k + 1) else σ 9 k)) (n6 : t 8 (pushN m - 1) = nI a) (n7 : t 9 (pushN m - 1) = zmask (cW (H m) a))
    (hu : u = zup t 7 a (zmask f)) : XJ u (pushN m) (pushH m H (wC (H m) a f)) (v + 1) ∧ FJ u σ := by
  obtain ⟨⟨c1, c2, c3, c4, c5⟩, hh, hv⟩ := h
  have r : ∀ c, c ≠ 7 → u c = t c := fun c hc => by rw [hu, zup_n hc]
  refine ⟨⟨?_, XHist_push hh ho.1 (by rw [r 2 (by decide)]; exact n3) (fun k hk => by rw [r 8 (by decide), r 9 (by decide)]; exact n5 k hk) (by rw [r 8 (by decide)]; exact n6) (by rw [r 9 (by decide)]; exact n7) (undo_wC ha), by rw [r 2 (by decide), n4, hv, nI_1]⟩, fun c hc => by rw [r c (by omega), n1 c (by omega) (by omega) (by omega)]⟩
  rw [push_top]
  refine ⟨by rw [r 2 (by decide), n2 5 (by decide) (by decide)]; exact c1, fun q hq => ?_, by rw [r 4 (by decide), n1 4 (by decide) (by decide) (by decide)]; exact c3, by rw [r 5 (by decide), n1 5 (by decide) (by decide) (by decide)]; exact c4, by rw [r 6 (by decide), n1 6 (by decide) (by decide) (by decide)]; exact c5⟩
  obtain ⟨a1, a2, a3, a4, a5⟩ := c2 q hq
  refine ⟨by rw [r 3 (by decide), n1 3 (by decide) (by decide) (by decide)]; exact a1, by rw [r 4 (by decide), n1 4 (by decide) (by decide) (by decide)]; exact a2, by rw [r 5 (by decide), n1 5 (by decide) (by decide) (by decide)]; exact a3, by rw [r 6 (by decide), n1 6 (by decide) (by decide) (by decide)]; exact a4, ?_⟩
  rw [hu, wC_W]
  by_cases e : q = a
  · rw [e, zup_a, if_pos rfl]
  · rw [zup_b e, if_neg e, n1 7 (by decide) (by decide) (by decide)]; exact a5
theorem tX5_waitForMore {σ : zSt} {m v a : Nat} {H : Nat → Core} {o : Nat → Bool} (h : XJ σ m H v) (ho : JOk m H) (ha : a < cN (H m)) (h10 : ∀ i, 10 ≤ i → o i = false) : zI mX5_waitForMore [.ref 2, .int (nI a), .int (zmask o)] SH σ (fun x t => x = nI (cnt (fun i => o i && !cW (H m) a i) 10) ∧ (((∀ i, i < 16 → (o i && !cW (H m) a i) = false) ∧ t = σ) ∨ (¬ (∀ i, i < 16 → (o i && !cW (H m) a i) = false) ∧ XJ t (pushN m) (pushH m H (wC (H m) a (fun i => cW (H m) a i || o i))) (v + 1) ∧ FJ t σ))) := by
  have hn : cN (H m) ≤ 10 := (ho.2 m (Nat.le_refl m)).1
  have va : vp_in (nI a) 10 := vp_in_nI (by omega) (by decide)
  have ea : (nI a).toNatClampNeg = a := nI_clamp (by omega)
  have w7 := (h.1.2.1 a ha).2.2.2.2
  refine zI_of (ls := [some (.ref 2), some (.int (nI a)), some (.int (zmask o)), none]) (by decide) rfl rfl ?_
  refine za_iload_n (pc := 0) dX5_waitForMore_0 rfl ?_
  refine za_aload_n (pc := 1) dX5_waitForMore_1 rfl ?_
  refine za_getR (pc := 2) dX5_waitForMore_2 lk_X5_24 rfl rfl ?_
  refine za_iload_n (pc := 5) dX5_waitForMore_5 rfl ?_
  refine za_iald (pc := 6) dX5_waitForMore_6 rfl va ?_
  rw [ea, w7]
  refine za_iconst (pc := 7) (-1) dX5_waitForMore_7 (by decide) ?_
  refine za_ixor (pc := 8) dX5_waitForMore_8 ?_
  refine za_iand (pc := 9) dX5_waitForMore_9 ?_
  rw [zm_not]
  refine za_is3n (pc := 10) dX5_waitForMore_10 rfl ?_
  refine za_iload_n (pc := 11) dX5_waitForMore_11 rfl ?_
  refine za_if_eq (pc := 12) 36 dX5_waitForMore_12 (by decide) (fun c12 => ?_) (fun c12 => ?_)
  · rw [zm_z] at c12
    refine za_iload_n (pc := 36) dX5_waitForMore_36 rfl ?_
    refine za_cS1i (pc := 37) (μ' := mJ6_bitCount_0f7a4) dX5_waitForMore_37 c_X5_57 rfl ⟨rfl, rfl⟩ ⟨rfl, rfl⟩ rfl rfl rfl (tJ6_bitCount_0f7a4) (fun x_37 t_37 h_37 => ?_)
    obtain ⟨rfl, h9⟩ := h_37
    have h9 := h9.symm
    subst h9
    refine za_ri (pc := 40) dX5_waitForMore_40 rfl rfl rfl ?_
    exact ⟨zm_bc (fun i hi => by rw [h10 i hi]; rfl), Or.inl ⟨c12, rfl⟩⟩
  · rw [zm_z] at c12
    refine za_aload_n (pc := 15) dX5_waitForMore_15 rfl ?_
    refine za_iload_n (pc := 16) dX5_waitForMore_16 rfl ?_
    refine za_aload_n (pc := 17) dX5_waitForMore_17 rfl ?_
    refine za_getR (pc := 18) dX5_waitForMore_18 lk_X5_24 rfl rfl ?_
    refine za_iload_n (pc := 21) dX5_waitForMore_21 rfl ?_
    refine za_iald (pc := 22) dX5_waitForMore_22 rfl va ?_
    rw [ea, w7]
    refine za_cV2v (pc := 23) (μ' := mX5_note) dX5_waitForMore_23 c_X5_53 rfl rfl rfl ⟨rfl, rfl⟩ ⟨rfl, rfl⟩ rfl rfl rfl (tX5_note h.2.1.1 ho.1) (fun t_23 h_23 => ?_)
    obtain ⟨n1, n2, n3, n4, n5, n6, n7⟩ := h_23
    refine za_aload_n (pc := 26) dX5_waitForMore_26 rfl ?_
    refine za_getR (pc := 27) dX5_waitForMore_27 lk_X5_24 rfl rfl ?_
    refine za_iload_n (pc := 30) dX5_waitForMore_30 rfl ?_
    refine za_dup2 (pc := 31) dX5_waitForMore_31 rfl rfl ?_
    refine za_iald (pc := 32) dX5_waitForMore_32 rfl va ?_
    rw [ea, n1 7 (by decide) (by decide) (by decide), w7]
    refine za_iload_n (pc := 33) dX5_waitForMore_33 rfl ?_
    refine za_ior (pc := 34) dX5_waitForMore_34 ?_
    rw [zm_or]
    refine za_iast (pc := 35) dX5_waitForMore_35 rfl va ?_
    refine za_iload_n (pc := 36) dX5_waitForMore_36 rfl ?_
    refine za_cS1i (pc := 37) (μ' := mJ6_bitCount_0f7a4) dX5_waitForMore_37 c_X5_57 rfl ⟨rfl, rfl⟩ ⟨rfl, rfl⟩ rfl rfl rfl (tJ6_bitCount_0f7a4) (fun x_37 t_37 h_37 => ?_)
    obtain ⟨rfl, h9⟩ := h_37
    have h9 := h9.symm
    subst h9
    refine za_ri (pc := 40) dX5_waitForMore_40 rfl rfl rfl ?_
    rw [ea]
    refine ⟨zm_bc (fun i hi => by rw [h10 i hi]; rfl), Or.inr ⟨c12, ?_⟩⟩
    refine XJ_wait (f := fun i => cW (H m) a i || o i) h ho ha n1 n2 n3 n4 n5 n6 n7 ?_
    congr 1
    apply zm_cong
    intro i _
    cases cW (H m) a i <;> cases o i <;> rfl
theorem tX5_waitNoMore {σ : zSt} {m v a b : Nat} {H : Nat → Core} (h : XJ σ m H v) (ho : JOk m H) (ha : a < cN (H m)) (hb : b < cN (H m)) : zI mX5_waitNoMore [.ref 2, .int (nI a), .int (nI b)] SH σ (fun x t => (cW (H m) a b = false ∧ x = 0 ∧ t = σ) ∨ (cW (H m) a b = true ∧ x = 1 ∧ XJ t (pushN m) (pushH m H (wC (H m) a (fun i => cW (H m) a i && !decide (i = b)))) (v + 1) ∧ FJ t σ)) := by
  have hn : cN (H m) ≤ 10 := (ho.2 m (Nat.le_refl m)).1
  have va : vp_in (nI a) 10 := vp_in_nI (by omega) (by decide)
  have ea : (nI a).toNatClampNeg = a := nI_clamp (by omega)
  have w7 := (h.1.2.1 a ha).2.2.2.2
  refine zI_of (ls := [some (.ref 2), some (.int (nI a)), some (.int (nI b))]) (by decide) rfl rfl ?_
  refine za_aload_n (pc := 0) dX5_waitNoMore_0 rfl ?_
  refine za_getR (pc := 1) dX5_waitNoMore_1 lk_X5_24 rfl rfl ?_
  refine za_iload_n (pc := 4) dX5_waitNoMore_4 rfl ?_
  refine za_iald (pc := 5) dX5_waitNoMore_5 rfl va ?_
  rw [ea, w7]
  refine za_iload_n (pc := 6) dX5_waitNoMore_6 rfl ?_
  refine za_cSN2i (pc := 7) (μ' := mX6_holds) dX5_waitNoMore_7 c_X5_62 rfl ⟨rfl, rfl⟩ ⟨rfl, rfl⟩ rfl rfl rfl (tX6_holds) (fun x_7 t_7 h_7 => ?_)
  obtain ⟨rfl, h9⟩ := h_7
  have h9 := h9.symm
  subst h9
  by_cases hw : cW (H m) a b = false
  · rw [if_pos ((zm_h (by omega)).mpr hw)]
    refine za_if_ne (pc := 10) 15 dX5_waitNoMore_10 (by decide) (fun c10 => ?_) (fun c10 => ?_)
    · exact absurd rfl c10
    · refine za_iconst (pc := 13) (0) dX5_waitNoMore_13 (by decide) ?_
      refine za_ri (pc := 14) dX5_waitNoMore_14 rfl rfl rfl ?_
      exact Or.inl ⟨hw, rfl, rfl⟩
  · rw [if_neg (fun q => hw ((zm_h (by omega)).mp q))]
    refine za_if_ne (pc := 10) 15 dX5_waitNoMore_10 (by decide) (fun c10 => ?_) (fun c10 => ?_)
    · refine za_aload_n (pc := 15) dX5_waitNoMore_15 rfl ?_
      refine za_iload_n (pc := 16) dX5_waitNoMore_16 rfl ?_
      refine za_aload_n (pc := 17) dX5_waitNoMore_17 rfl ?_
      refine za_getR (pc := 18) dX5_waitNoMore_18 lk_X5_24 rfl rfl ?_
      refine za_iload_n (pc := 21) dX5_waitNoMore_21 rfl ?_
      refine za_iald (pc := 22) dX5_waitNoMore_22 rfl va ?_
      rw [ea, w7]
      refine za_cV2v (pc := 23) (μ' := mX5_note) dX5_waitNoMore_23 c_X5_53 rfl rfl rfl ⟨rfl, rfl⟩ ⟨rfl, rfl⟩ rfl rfl rfl (tX5_note h.2.1.1 ho.1) (fun t_23 h_23 => ?_)
      obtain ⟨n1, n2, n3, n4, n5, n6, n7⟩ := h_23
      refine za_aload_n (pc := 26) dX5_waitNoMore_26 rfl ?_
      refine za_getR (pc := 27) dX5_waitNoMore_27 lk_X5_24 rfl rfl ?_
      refine za_iload_n (pc := 30) dX5_waitNoMore_30 rfl ?_
      refine za_dup2 (pc := 31) dX5_waitNoMore_31 rfl rfl ?_
      refine za_iald (pc := 32) dX5_waitNoMore_32 rfl va ?_
      rw [ea, n1 7 (by decide) (by decide) (by decide), w7]
      refine za_iload_n (pc := 33) dX5_waitNoMore_33 rfl ?_
      refine za_cSN1i (pc := 34) (μ' := mX6_bit) dX5_waitNoMore_34 c_X5_49 rfl ⟨rfl, rfl⟩ ⟨rfl, rfl⟩ rfl rfl rfl (tX6_bit) (fun x_34 t_34 h_34 => ?_)
      obtain ⟨rfl, h9⟩ := h_34
      have h9 := h9.symm
      subst h9
      refine za_iconst (pc := 37) (-1) dX5_waitNoMore_37 (by decide) ?_
      refine za_ixor (pc := 38) dX5_waitNoMore_38 ?_
      rw [zm_1 (by omega)]
      refine za_iand (pc := 39) dX5_waitNoMore_39 ?_
      rw [zm_not]
      refine za_iast (pc := 40) dX5_waitNoMore_40 rfl va ?_
      refine za_iconst (pc := 41) (1) dX5_waitNoMore_41 (by decide) ?_
      refine za_ri (pc := 42) dX5_waitNoMore_42 rfl rfl rfl ?_
      rw [ea]
      exact Or.inr ⟨by simpa using hw, rfl, XJ_wait h ho ha n1 n2 n3 n4 n5 n6 n7 rfl⟩
    · exact absurd c10 (by decide)
theorem tX5_takeBack {σ : zSt} {m v : Nat} {H : Nat → Core} (h : XJ σ m H v) (ho : JOk m H) : zI mX5_takeBack [.ref 2] SH σ (fun x t => (m = 0 ∧ x = 0 ∧ t = σ) ∨ (m ≠ 0 ∧ x = 1 ∧ XJ t (m - 1) H (v + 1) ∧ FJ t σ)) := by
  obtain ⟨⟨c1, c2, c3, c4, c5⟩, ⟨hm, hh⟩, hv⟩ := h
  have hm20 := ho.1
  refine zI_of (ls := [some (.ref 2), none]) (by decide) rfl rfl ?_
  refine za_aload_n (pc := 0) dX5_takeBack_0 rfl ?_
  refine za_getI (pc := 1) dX5_takeBack_1 lk_X5_31 rfl rfl ?_
  rw [hm]
  refine za_if_ne (pc := 4) 9 dX5_takeBack_4 (by decide) (fun c4' => ?_) (fun c4' => ?_)
  · have hm0 : m ≠ 0 := fun e => c4' (by rw [e]; rfl)
    obtain ⟨p, rfl⟩ : ∃ p, m = p + 1 := ⟨m - 1, by omega⟩
    have hu := hh p (by omega)
    have hpv := ho.2 p (by omega)
    have hnx := ho.2 (p + 1) (by omega)
    rw [Nat.add_sub_cancel]
    refine za_aload_n (pc := 9) dX5_takeBack_9 rfl ?_
    refine za_dup (pc := 10) dX5_takeBack_10 rfl ?_
    refine za_getI (pc := 11) dX5_takeBack_11 lk_X5_31 rfl rfl ?_
    refine za_iconst (pc := 14) (1) dX5_takeBack_14 (by decide) ?_
    refine za_isub (pc := 15) dX5_takeBack_15 ?_
    refine za_putI (pc := 16) dX5_takeBack_16 lp_X5_31 rfl rfl ?_
    refine za_aload_n (pc := 19) dX5_takeBack_19 rfl ?_
    refine za_dup (pc := 20) dX5_takeBack_20 rfl ?_
    refine za_getI (pc := 21) dX5_takeBack_21 lk_X5_34 rfl rfl ?_
    refine za_iconst (pc := 24) (1) dX5_takeBack_24 (by decide) ?_
    refine za_iadd (pc := 25) dX5_takeBack_25 ?_
    refine za_putI (pc := 26) dX5_takeBack_26 lp_X5_34 rfl rfl ?_
    refine za_aload_n (pc := 29) dX5_takeBack_29 rfl ?_
    refine za_getR (pc := 30) dX5_takeBack_30 lk_X5_37 rfl rfl ?_
    refine za_aload_n (pc := 33) dX5_takeBack_33 rfl ?_
    refine za_getI (pc := 34) dX5_takeBack_34 lk_X5_31 rfl rfl ?_
    have e6 : zup (zup σ 2 6 (σ 2 6 - 1)) 2 7 (zup σ 2 6 (σ 2 6 - 1) 2 7 + 1) = zup (zup σ 2 6 (nI p)) 2 7 (nI (v + 1)) := by rw [hm, nI_pred, zup_b (by decide), hv, nI_1]
    rw [e6]
    have e7 : zup (zup σ 2 6 (nI p)) 2 7 (nI (v + 1)) 2 6 = nI p := by rw [zup_b (by decide), zup_a]
    rw [e7]
    refine za_iald (pc := 37) dX5_takeBack_37 rfl (vp_in_nI (show p < 20 by omega) (by decide)) ?_
    refine za_is1n (pc := 38) dX5_takeBack_38 rfl ?_
    refine za_iload_n (pc := 39) dX5_takeBack_39 rfl ?_
    refine za_bipush (pc := 40) (10) dX5_takeBack_40 (by decide) ?_
    rw [nI_clamp (by omega), zup_n (by decide), zup_n (by decide)]
    have hist : ∀ u : zSt, u 2 6 = nI p → (∀ i, u 8 i = σ 8 i) → (∀ i, u 9 i = σ 9 i) → XHist u p H := fun u u1 u2 u3 => ⟨u1, fun k hk => by rw [u2, u3]; exact hh k (by omega)⟩
    refine za_icmp_ne (pc := 42) 58 dX5_takeBack_42 (by decide) (fun c42 => ?_) (fun c42 => ?_)
    · rcases hu with ⟨hj, -⟩ | ⟨q, hq, hj, hw, hn, hr⟩
      · exact absurd hj c42
      · rw [hj]
        refine za_aload_n (pc := 58) dX5_takeBack_58 rfl ?_
        refine za_getR (pc := 59) dX5_takeBack_59 lk_X5_24 rfl rfl ?_
        refine za_iload_n (pc := 62) dX5_takeBack_62 rfl ?_
        refine za_aload_n (pc := 63) dX5_takeBack_63 rfl ?_
        refine za_getR (pc := 64) dX5_takeBack_64 lk_X5_40 rfl rfl ?_
        refine za_aload_n (pc := 67) dX5_takeBack_67 rfl ?_
        refine za_getI (pc := 68) dX5_takeBack_68 lk_X5_31 rfl rfl ?_
        refine za_iald (pc := 71) dX5_takeBack_71 rfl (by assumption) ?_
        have e8 : zup (zup σ 2 6 (nI p)) 2 7 (nI (v + 1)) 9 p = zmask (cW (H p) q) := by rw [zup_n (by decide), zup_n (by decide), hw]
        refine za_iast (pc := 72) dX5_takeBack_72 rfl (vp_in_nI (show q < 10 by have := hpv.1; omega) (by decide)) ?_
        refine za_iconst (pc := 73) (1) dX5_takeBack_73 (by decide) ?_
        refine za_rz (pc := 74) dX5_takeBack_74 rfl rfl rfl rfl ?_
        sorry
    · sorry
  · have hm0 : m = 0 := (nI_eq (by omega) (by decide)).mp c4'
    refine za_iconst (pc := 7) (0) dX5_takeBack_7 (by decide) ?_
    refine za_rz (pc := 8) dX5_takeBack_8 rfl rfl rfl rfl ?_
    exact Or.inl ⟨hm0, rfl, rfl⟩
