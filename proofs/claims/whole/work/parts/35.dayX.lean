/-! THE DAY of the class -/
def plc (n : Nat) (left : Nat → Bool) : Nat → Bool := fun a => decide (a < n) && !left a
/-- the labels of all jobs -/
abbrev lba (n : Nat) (r : Nat → Nat → Bool) : Nat → Nat := lbl n r (alln n)
theorem lba_pos {n : Nat} {r : Nat → Nat → Bool} (ho : Ord n r) {b : Nat} (hb : b < n) : 1 ≤ lba n r b := lbl_pos (s := alln n) ho hb (by simp [hb])
theorem lba_le {n : Nat} {r : Nat → Nat → Bool} (ho : Ord n r) (b : Nat) : lba n r b ≤ n := by
  have := lbl_le (s := alln n) ho b
  rw [show cnt (fun a => alln n a) n = n from cnt_all n] at this
  exact this
theorem lba_inj {n : Nat} {r : Nat → Nat → Bool} (ho : Ord n r) {a b : Nat} (hb : b < n) (h : lba n r b = lba n r a) : b = a := lbl_inj (s := alln n) ho (by have : 1 ≤ lbl n r (alln n) b := lba_pos ho hb; omega) h
theorem tX1_greatestReady {σ : zSt} {n : Nat} {r : Nat → Nat → Bool} {left : Nat → Bool} {o : Option Nat} {bf : Int32} (ho : Ord n r) (hn : n ≤ 10) (hl : ∀ x, left x = true → x < n) (hj : σ 2 5 = nI n) (hr : ∀ a, a < n → σ 11 a = zmask (r a)) (hq : ∀ q, 1 ≤ q → q ≤ n → ∃ a, a < n ∧ σ 20 q = nI a ∧ lba n r a = q) (hbf : ∀ a, a < n → (nI a = bf ↔ o = some a)) : zI mX1_greatestReady [.ref 15, .int (zmask (plc n left)), .int bf] SH σ (fun x t => x = pkB (grt r (lba n r) (rmo left o) left n) ∧ t = σ) := by
  refine zI_of (ls := [some (.ref 15), some (.int (zmask (plc n left))), some (.int bf), none, none]) (by decide) rfl rfl ?_
  refine za_aload_n (pc := 0) dX1_greatestReady_0 rfl ?_
  refine za_getR (pc := 1) dX1_greatestReady_1 lk_X1_37 rfl rfl ?_
  refine za_getI (pc := 4) dX1_greatestReady_4 lk_X1_67 rfl rfl ?_
  rw [hj]
  refine za_is3n (pc := 7) dX1_greatestReady_7 rfl ?_
  have hN := cnt_all n
  have hrd : ∀ a, a < n → ((zmask (r a) &&& (zmask (plc n left) ^^^ (-1))) = 0 ↔ rdy r left a = true) := by
    intro a ha
    rw [zm_not, zm_z]
    unfold rdy
    rw [Bool.not_eq_true', anyb_f]
    constructor
    · intro h i hi
      have := h i hi
      unfold plc at this
      cases hri : r a i with
      | false => rfl
      | true =>
        have hin := ho.1 a i ha hri
        rw [hri] at this
        simp [hin] at this
        simp [this]
    · intro h i hi
      have := h i hi
      unfold plc
      cases hri : r a i with
      | false => rfl
      | true =>
        have hin := ho.1 a i ha hri
        rw [hri] at this
        simp at this
        simp [hin, this]
  have loop : ∀ (q : Nat), q ≤ n → (∀ b, b < n → q < lba n r b → (rmo left o b && rdy r left b) = false) → zA (zZ mX1_greatestReady (zQI SH (fun x t => x = pkB (grt r (lba n r) (rmo left o) left n) ∧ t = σ))) mX1_greatestReady none 0 0 8 [some (.ref 15), some (.int (zmask (plc n left))), some (.int bf), some (.int (nI q)), none] [] SH σ := by
    intro q
    induction q with
    | zero =>
      intro _ h0
      refine za_iload_n (pc := 8) dX1_greatestReady_8 rfl ?_
      refine za_iconst (pc := 9) (1) dX1_greatestReady_9 (by decide) ?_
      refine za_icmp_lt (pc := 10) 62 dX1_greatestReady_10 (by decide) (fun c10 => ?_) (fun c10 => ?_)
      · refine za_bipush (pc := 62) (-3) dX1_greatestReady_62 (by decide) ?_
        refine za_ri (pc := 64) dX1_greatestReady_64 rfl rfl rfl ?_
        refine ⟨?_, rfl⟩
        rw [grt_no (fun b hb => h0 b hb (lba_pos ho hb))]
        rfl
      · exact absurd (by decide) c10
    | succ q ih =>
      intro hqn hup
      obtain ⟨a, han, ha20, halab⟩ := hq (q + 1) (by omega) hqn
      have va : vp_in (nI a) 10 := vp_in_nI (by omega) (by decide)
      have ea : (nI a).toNatClampNeg = a := nI_clamp (by omega)
      have vq : vp_in (nI (q + 1)) 11 := vp_in_nI (by omega) (by decide)
      have eq1 : (nI (q + 1)).toNatClampNeg = q + 1 := nI_clamp (by omega)
      have skip : (rmo left o a && rdy r left a) = false → zA (zZ mX1_greatestReady (zQI SH (fun x t => x = pkB (grt r (lba n r) (rmo left o) left n) ∧ t = σ))) mX1_greatestReady none 0 0 56 [some (.ref 15), some (.int (zmask (plc n left))), some (.int bf), some (.int (nI (q + 1))), some (.int (nI a))] [] SH σ := by
        intro hno
        refine za_ii3 (pc := 56) (-1) dX1_greatestReady_56 (by decide) rfl ?_
        refine za_goto (pc := 59) 8 dX1_greatestReady_59 (by decide) ?_
        rw [pk_m1]
        refine za_fg (by simp [zSub]) (ih (by omega) (fun b hb hlt => ?_))
        by_cases hba : b = a
        · rw [hba]; exact hno
        · refine hup b hb ?_
          have : lba n r b ≠ q + 1 := fun e => hba (lba_inj ho hb (e.trans halab.symm))
          omega
      refine za_iload_n (pc := 8) dX1_greatestReady_8 rfl ?_
      refine za_iconst (pc := 9) (1) dX1_greatestReady_9 (by decide) ?_
      refine za_icmp_lt (pc := 10) 62 dX1_greatestReady_10 (by decide) (fun c10 => ?_) (fun c10 => ?_)
      · have c10 : nI (q + 1) < nI 1 := c10
        exact absurd c10 (nI_nlt (by omega) (by omega))
      · refine za_aload_n (pc := 13) dX1_greatestReady_13 rfl ?_
        refine za_getR (pc := 14) dX1_greatestReady_14 lk_X1_28 rfl rfl ?_
        refine za_iload_n (pc := 17) dX1_greatestReady_17 rfl ?_
        refine za_iald (pc := 18) dX1_greatestReady_18 rfl vq ?_
        rw [eq1, ha20]
        refine za_is4 (pc := 19) dX1_greatestReady_19 rfl ?_
        refine za_iload (pc := 21) dX1_greatestReady_21 rfl ?_
        refine za_iload_n (pc := 23) dX1_greatestReady_23 rfl ?_
        refine za_icmp_eq (pc := 24) 56 dX1_greatestReady_24 (by decide) (fun c24 => ?_) (fun c24 => ?_)
        · have : o = some a := (hbf a han).mp c24
          refine skip ?_
          rw [this]
          simp [rmo, rmv]
        · have hoa : ¬ o = some a := fun e => c24 ((hbf a han).mpr e)
          have hrm : rmo left o a = left a := by
            cases o with
            | none => rfl
            | some b =>
              have : a ≠ b := fun e => hoa (by rw [e])
              simp [rmo, rmv, this]
          refine za_iload_n (pc := 27) dX1_greatestReady_27 rfl ?_
          refine za_iload (pc := 28) dX1_greatestReady_28 rfl ?_
          refine za_cSN2i (pc := 30) (μ' := mX6_holds) dX1_greatestReady_30 c_X1_81 rfl ⟨rfl, rfl⟩ ⟨rfl, rfl⟩ rfl rfl rfl (tX6_holds) (fun x_30 t_30 h_30 => ?_)
          obtain ⟨rfl, h9⟩ := h_30
          have h9 := h9.symm
          subst h9
          by_cases hla : left a = true
          · rw [if_pos ((zm_h (by omega)).mpr (by simp [plc, hla]))]
            refine za_if_ne (pc := 33) 56 dX1_greatestReady_33 (by decide) (fun c33 => ?_) (fun c33 => ?_)
            · exact absurd rfl c33
            refine za_aload_n (pc := 36) dX1_greatestReady_36 rfl ?_
            refine za_getR (pc := 37) dX1_greatestReady_37 lk_X1_41 rfl rfl ?_
            refine za_getR (pc := 40) dX1_greatestReady_40 lk_X1_99 rfl rfl ?_
            refine za_iload (pc := 43) dX1_greatestReady_43 rfl ?_
            refine za_iald (pc := 45) dX1_greatestReady_45 rfl va ?_
            refine za_iload_n (pc := 46) dX1_greatestReady_46 rfl ?_
            refine za_iconst (pc := 47) (-1) dX1_greatestReady_47 (by decide) ?_
            refine za_ixor (pc := 48) dX1_greatestReady_48 ?_
            rw [ea, hr a han]
            refine za_iand (pc := 49) dX1_greatestReady_49 ?_
            refine za_if_ne (pc := 50) 56 dX1_greatestReady_50 (by decide) (fun c50 => ?_) (fun c50 => ?_)
            · rw [hrd a han] at c50
              refine skip ?_
              rw [Bool.eq_false_iff.mpr c50, Bool.and_false]
            · rw [hrd a han] at c50
              refine za_iload (pc := 53) dX1_greatestReady_53 rfl ?_
              refine za_ri (pc := 55) dX1_greatestReady_55 rfl rfl rfl ?_
              refine ⟨?_, rfl⟩
              rw [grt_eq (a := a) han (by rw [hrm, hla, c50]; rfl) (fun b hb hb2 => ?_) (fun b hb hb2 hb3 => lba_inj ho hb hb3)]
              · rfl
              · rcases Nat.lt_or_ge (q + 1) (lba n r b) with h | h
                · rw [hup b hb h] at hb2; cases hb2
                · rw [halab]; exact h
          · rw [if_neg (fun q => absurd ((zm_h (by omega)).mp q) (by simp at hla; simp [plc, hla, han]))]
            refine za_if_ne (pc := 33) 56 dX1_greatestReady_33 (by decide) (fun c33 => ?_) (fun c33 => ?_)
            · refine skip ?_
              rw [hrm]
              simp at hla
              rw [hla]; rfl
            · exact absurd c33 (by decide)
  exact loop n (Nat.le_refl n) (fun b hb hlt => absurd hlt (Nat.not_lt.mpr (lba_le ho b)))
def plU (σ : zSt) (o : Option Nat) (h : Nat) : zSt := match o with
  | none => σ
  | some a => zup σ 17 a (nI h)
theorem tX1_place {σ : zSt} {o : Option Nat} {h : Nat} (ho : ∀ a, o = some a → a < 10) (hh : h ≤ 10) : zI mX1_place [.ref 15, .int (pkB o), .int (nI h)] SH σ (fun x t => x = zmask (fun i => decide (o = some i)) ∧ t = plU σ o h) := by
  cases o with
  | none =>
    refine zI_of (ls := [some (.ref 15), some (.int (pkB none)), some (.int (nI h))]) (by decide) rfl rfl ?_
    refine za_iload_n (pc := 0) dX1_place_0 rfl ?_
    refine za_bipush (pc := 1) (-3) dX1_place_1 (by decide) ?_
    refine za_icmp_ne (pc := 3) 8 dX1_place_3 (by decide) (fun c3 => ?_) (fun c3 => ?_)
    · exact absurd rfl c3
    · refine za_iconst (pc := 6) (0) dX1_place_6 (by decide) ?_
      refine za_ri (pc := 7) dX1_place_7 rfl rfl rfl ?_
      exact ⟨zm_0.symm, rfl⟩
  | some a =>
    have ha := ho a rfl
    have va : vp_in (nI a) 10 := vp_in_nI ha (by decide)
    have ea : (nI a).toNatClampNeg = a := nI_clamp (by omega)
    rw [show pkB (some a) = nI a from rfl]
    refine zI_of (ls := [some (.ref 15), some (.int (nI a)), some (.int (nI h))]) (by decide) rfl rfl ?_
    refine za_iload_n (pc := 0) dX1_place_0 rfl ?_
    refine za_bipush (pc := 1) (-3) dX1_place_1 (by decide) ?_
    refine za_icmp_ne (pc := 3) 8 dX1_place_3 (by decide) (fun c3 => ?_) (fun c3 => ?_)
    · refine za_aload_n (pc := 8) dX1_place_8 rfl ?_
      refine za_getR (pc := 9) dX1_place_9 lk_X1_15 rfl rfl ?_
      refine za_iload_n (pc := 12) dX1_place_12 rfl ?_
      refine za_iload_n (pc := 13) dX1_place_13 rfl ?_
      refine za_iast (pc := 14) dX1_place_14 rfl va ?_
      refine za_iload_n (pc := 15) dX1_place_15 rfl ?_
      refine za_cSN1i (pc := 16) (μ' := mX6_bit) dX1_place_16 c_X1_74 rfl ⟨rfl, rfl⟩ ⟨rfl, rfl⟩ rfl rfl rfl (tX6_bit) (fun x_16 t_16 h_16 => ?_)
      obtain ⟨rfl, h9⟩ := h_16
      have h9 := h9.symm
      subst h9
      refine za_ri (pc := 19) dX1_place_19 rfl rfl rfl ?_
      rw [ea, zm_1 (by omega)]
      refine ⟨zm_cong (fun i _ => ?_), rfl⟩
      rw [decide_eq_decide]
      exact ⟨fun e => by rw [e], fun e => (Option.some.inj e).symm⟩
    · exact absurd c3 (pkB_ne ha)
/-- what LabelDay holds once it is renewed -/
def XDay (σ : zSt) (n : Nat) (r : Nat → Nat → Bool) : Prop := (∀ a, a < n → σ 16 a = nI (lba n r a) ∧ σ 17 a = nI (hrD n r (lba n r) (alln n) a)) ∧ (∀ h, h < lenD n r (lba n r) (alln n) → σ 18 (h + 1) = pkB (fstD n r (lba n r) (lfs n r (lba n r) (alln n) h)) ∧ σ 19 (h + 1) = pkB (sndD n r (lba n r) (lfs n r (lba n r) (alln n) h))) ∧ σ 15 4 = nI (lenD n r (lba n r) (alln n))
theorem tX1_fillHours {σ : zSt} {n : Nat} {r : Nat → Nat → Bool} (ho : Ord n r) (hn : n ≤ 10) (hj : σ 2 5 = nI n) (hr : ∀ a, a < n → σ 11 a = zmask (r a)) (hlb : ∀ a, a < n → σ 16 a = nI (lba n r a)) (hq : ∀ q, 1 ≤ q → q ≤ n → ∃ a, a < n ∧ σ 20 q = nI a ∧ lba n r a = q) : zV mX1_fillHours [.ref 15] SH σ (fun t => (∀ d, d ≠ 15 → d ≠ 17 → d ≠ 18 → d ≠ 19 → t d = σ d) ∧ (∀ i, i ≠ 4 → t 15 i = σ 15 i) ∧ XDay t n r) := by
  refine zV_of (ls := [some (.ref 15), none, none, none, none, none]) (by decide) rfl rfl ?_
  refine za_aload_n (pc := 0) dX1_fillHours_0 rfl ?_
  refine za_getR (pc := 1) dX1_fillHours_1 lk_X1_37 rfl rfl ?_
  refine za_cV0i (pc := 4) (μ' := mX5_all) dX1_fillHours_4 c_X1_88 rfl rfl rfl ⟨rfl, rfl⟩ ⟨rfl, rfl⟩ rfl rfl rfl (tX5_all hj hn) (fun x_4 t_4 h_4 => ?_)
  obtain ⟨rfl, h9⟩ := h_4
  have h9 := h9.symm
  subst h9
  refine za_is1n (pc := 7) dX1_fillHours_7 rfl ?_
  refine za_iconst (pc := 8) (0) dX1_fillHours_8 (by decide) ?_
  refine za_is2n (pc := 9) dX1_fillHours_9 rfl ?_
  refine za_iconst (pc := 10) (0) dX1_fillHours_10 (by decide) ?_
  refine za_is3n (pc := 11) dX1_fillHours_11 rfl ?_
  generalize hlab : lba n r = lab at *
  generalize hs : alln n = s at *
  have hlen := lenD_le (n := n) (r := r) (lab := lab) (s := s)
  have s0 : ∀ x, lfs n r lab s 0 x = decide (x < n) := fun x => by
    show (decide (x < n) && s x) = _
    rw [← hs]
    by_cases hx : x < n <;> simp [hx]
  have outer : ∀ (q h : Nat) (σ1 : zSt), h + q = lenD n r lab s → (∀ d, d ≠ 17 → d ≠ 18 → d ≠ 19 → σ1 d = σ d) → (∀ x, x < n → lfs n r lab s h x = false → σ1 17 x = nI (hrD n r lab s x)) → (∀ k, k < h → σ1 18 (k + 1) = pkB (fstD n r lab (lfs n r lab s k)) ∧ σ1 19 (k + 1) = pkB (sndD n r lab (lfs n r lab s k))) → zA (zZ mX1_fillHours (zQV SH (fun t => (∀ d, d ≠ 15 → d ≠ 17 → d ≠ 18 → d ≠ 19 → t d = σ d) ∧ (∀ i, i ≠ 4 → t 15 i = σ 15 i) ∧ XDay t n r))) mX1_fillHours none 0 0 12 [some (.ref 15), some (.int (zmask (fun i => decide (i < n)))), some (.int (zmask (plc n (lfs n r lab s h)))), some (.int (nI h)), none, none] [] SH σ1 := by
    intro q
    induction q with
    | zero =>
      intro h σ1 hh g1 g2 g3
      have hz : ∀ x, lfs n r lab s h x = false := by
        intro x
        cases hx : lfs n r lab s h x with
        | false => rfl
        | true =>
          have := (lenD_iff (lab := lab) (s := s) ho).mp (anyb_iff.mpr ⟨x, (lfs_in hx).1, hx⟩)
          omega
      refine za_iload_n (pc := 12) dX1_fillHours_12 rfl ?_
      refine za_iload_n (pc := 13) dX1_fillHours_13 rfl ?_
      refine za_icmp_eq (pc := 14) 86 dX1_fillHours_14 (by decide) (fun c14 => ?_) (fun c14 => ?_)
      · refine za_aload_n (pc := 86) dX1_fillHours_86 rfl ?_
        refine za_iload_n (pc := 87) dX1_fillHours_87 rfl ?_
        refine za_putI (pc := 88) dX1_fillHours_88 lp_X1_24 rfl rfl ?_
        refine za_rv (pc := 91) dX1_fillHours_91 rfl rfl rfl ?_
        refine ⟨fun d h15 h17 h18 h19 => by rw [zup_n h15]; exact g1 d h17 h18 h19, fun i hi => by rw [zup_b hi, g1 15 (by decide) (by decide) (by decide)], ?_⟩
        unfold XDay
        rw [hlab, hs]
        refine ⟨fun a ha => ⟨by rw [zup_n (by decide), g1 16 (by decide) (by decide) (by decide)]; exact hlb a ha, by rw [zup_n (by decide)]; exact g2 a ha (hz a)⟩, fun k hk => ?_, by rw [zup_a]; congr 1⟩
        rw [zup_n (by decide), zup_n (by decide)]
        exact g3 k (by omega)
      · refine absurd (zm_cong (fun i _ => ?_)) c14
        unfold plc
        rw [hz i]
        simp
    | succ q ih =>
      intro h σ1 hh g1 g2 g3
      obtain ⟨x0, hx0, hx1⟩ := anyb_iff.mp ((lenD_iff (lab := lab) (s := s) (h := h) ho).mpr (by omega))
      obtain ⟨a, ha1, ha2, ha3⟩ := fst_ex (lab := lab) ho (fun x hx => (lfs_in hx).1) hx1
      have han := (lfs_in ha2).1
      have vh : vp_in (nI (h + 1)) 11 := vp_in_nI (by omega) (by decide)
      have eh : (nI (h + 1)).toNatClampNeg = h + 1 := nI_clamp (by omega)
      have hj1 : σ1 2 5 = nI n := by rw [g1 2 (by decide) (by decide) (by decide)]; exact hj
      have hr1 : ∀ a, a < n → σ1 11 a = zmask (r a) := fun a ha => by rw [g1 11 (by decide) (by decide) (by decide)]; exact hr a ha
      have hq1 : ∀ q, 1 ≤ q → q ≤ n → ∃ a, a < n ∧ σ1 20 q = nI a ∧ lba n r a = q := fun q h1 h2 => by rw [g1 20 (by decide) (by decide) (by decide), hlab]; exact hq q h1 h2
      have gr1 := tX1_greatestReady (σ := σ1) (left := lfs n r lab s h) (o := none) (bf := 10) ho hn (fun x hx => (lfs_in hx).1) hj1 hr1 hq1 (fun y hy => ⟨fun e => absurd ((nI_eq (b := 10) (by omega) (by decide)).mp e) (by omega), fun e => by cases e⟩)
      have gr2 := tX1_greatestReady (σ := σ1) (left := lfs n r lab s h) (o := some a) (bf := nI a) ho hn (fun x hx => (lfs_in hx).1) hj1 hr1 hq1 (fun y hy => ⟨fun e => by rw [(nI_eq (by omega) (by omega)).mp e], fun e => by rw [Option.some.inj e]⟩)
      rw [hlab] at gr1 gr2
      refine za_iload_n (pc := 12) dX1_fillHours_12 rfl ?_
      refine za_iload_n (pc := 13) dX1_fillHours_13 rfl ?_
      refine za_icmp_eq (pc := 14) 86 dX1_fillHours_14 (by decide) (fun c14 => ?_) (fun c14 => ?_)
      · have := zm_eq.mp c14 a (by omega)
        unfold plc at this
        simp [ha2, han] at this
      · refine za_iload_n (pc := 17) dX1_fillHours_17 rfl ?_
        refine za_aload_n (pc := 18) dX1_fillHours_18 rfl ?_
        refine za_getR (pc := 19) dX1_fillHours_19 lk_X1_37 rfl rfl ?_
        refine za_getI (pc := 22) dX1_fillHours_22 lk_X1_67 rfl rfl ?_
        rw [hj1]
        refine za_icmp_ge (pc := 25) 86 dX1_fillHours_25 (by decide) (fun c25 => ?_) (fun c25 => ?_)
        · exact absurd c25 (nI_ge (show h < n by omega) (by omega))
        · refine za_ii3 (pc := 28) (1) dX1_fillHours_28 (by decide) rfl ?_
          refine za_aload_n (pc := 31) dX1_fillHours_31 rfl ?_
          refine za_iload_n (pc := 32) dX1_fillHours_32 rfl ?_
          refine za_bipush (pc := 33) (10) dX1_fillHours_33 (by decide) ?_
          refine za_cV2i (pc := 35) (μ' := mX1_greatestReady) dX1_fillHours_35 c_X1_92 rfl rfl rfl ⟨rfl, rfl⟩ ⟨rfl, rfl⟩ rfl rfl rfl (gr1) (fun x_35 t_35 h_35 => ?_)
          obtain ⟨rfl, h9⟩ := h_35
          have h9 := h9.symm
          subst h9
          rw [nI_1, show grt r lab (rmo (lfs n r lab s h) none) (lfs n r lab s h) n = some a from ha1, show pkB (some a) = nI a from rfl]
          refine za_is4 (pc := 38) dX1_fillHours_38 rfl ?_
          refine za_aload_n (pc := 40) dX1_fillHours_40 rfl ?_
          refine za_iload_n (pc := 41) dX1_fillHours_41 rfl ?_
          refine za_iload (pc := 42) dX1_fillHours_42 rfl ?_
          refine za_cV2i (pc := 44) (μ' := mX1_greatestReady) dX1_fillHours_44 c_X1_92 rfl rfl rfl ⟨rfl, rfl⟩ ⟨rfl, rfl⟩ rfl rfl rfl (gr2) (fun x_44 t_44 h_44 => ?_)
          obtain ⟨rfl, h9⟩ := h_44
          have h9 := h9.symm
          subst h9
          rw [show grt r lab (rmo (lfs n r lab s h) (some a)) (lfs n r lab s h) n = sndD n r lab (lfs n r lab s h) from by unfold sndD; rw [ha1]]
          generalize hb : sndD n r lab (lfs n r lab s h) = ob at *
          have hobn : ∀ b, ob = some b → b < n ∧ lfs n r lab s h b = true := by
            intro b e
            have hbs : grt r lab (rmo (lfs n r lab s h) (fstD n r lab (lfs n r lab s h))) (lfs n r lab s h) n = some b := by rw [← e, ← hb]; rfl
            have h1 := (grt_some hbs).2.1
            simp only [Bool.and_eq_true] at h1
            have h2 := rmo_le h1.1
            exact ⟨(lfs_in h2).1, h2⟩
          have elfs : lfs n r lab s (h + 1) = rmo (rmv (lfs n r lab s h) a) ob := by
            show rmo (rmo (lfs n r lab s h) (fstD n r lab (lfs n r lab s h))) (sndD n r lab (lfs n r lab s h)) = _
            rw [hb, ha1]; rfl
          have hhr : ∀ x, lfs n r lab s h x = true → lfs n r lab s (h + 1) x = false → hrD n r lab s x = h + 1 := by
            intro x h1 h2
            have e1 := (hrD_iff (lab := lab) (s := s) ho).mp h1
            have e2 : ¬ h + 1 < hrD n r lab s x := fun q => by
              have := (hrD_iff (lab := lab) (s := s) ho).mpr q
              rw [h2] at this; cases this
            omega
          refine za_is5 (pc := 47) dX1_fillHours_47 rfl ?_
          refine za_aload_n (pc := 49) dX1_fillHours_49 rfl ?_
          refine za_getR (pc := 50) dX1_fillHours_50 lk_X1_18 rfl rfl ?_
          refine za_iload_n (pc := 53) dX1_fillHours_53 rfl ?_
          refine za_iload (pc := 54) dX1_fillHours_54 rfl ?_
          refine za_iast (pc := 56) dX1_fillHours_56 rfl vh ?_
          refine za_aload_n (pc := 57) dX1_fillHours_57 rfl ?_
          refine za_getR (pc := 58) dX1_fillHours_58 lk_X1_21 rfl rfl ?_
          refine za_iload_n (pc := 61) dX1_fillHours_61 rfl ?_
          refine za_iload (pc := 62) dX1_fillHours_62 rfl ?_
          refine za_iast (pc := 64) dX1_fillHours_64 rfl vh ?_
          refine za_iload_n (pc := 65) dX1_fillHours_65 rfl ?_
          refine za_aload_n (pc := 66) dX1_fillHours_66 rfl ?_
          refine za_iload (pc := 67) dX1_fillHours_67 rfl ?_
          refine za_iload_n (pc := 69) dX1_fillHours_69 rfl ?_
          rw [eh]
          refine za_cV2i (pc := 70) (μ' := mX1_place) dX1_fillHours_70 c_X1_96 rfl rfl rfl ⟨rfl, rfl⟩ ⟨rfl, rfl⟩ rfl rfl rfl (tX1_place (o := some a) (fun y e => by rw [← Option.some.inj e]; omega) (show h + 1 ≤ 10 by omega)) (fun x_70 t_70 h_70 => ?_)
          obtain ⟨rfl, h9⟩ := h_70
          have h9 := h9.symm
          subst h9
          refine za_aload_n (pc := 73) dX1_fillHours_73 rfl ?_
          refine za_iload (pc := 74) dX1_fillHours_74 rfl ?_
          refine za_iload_n (pc := 76) dX1_fillHours_76 rfl ?_
          refine za_cV2i (pc := 77) (μ' := mX1_place) dX1_fillHours_77 c_X1_96 rfl rfl rfl ⟨rfl, rfl⟩ ⟨rfl, rfl⟩ rfl rfl rfl (tX1_place (o := ob) (fun y e => by have := (hobn y e).1; omega) (show h + 1 ≤ 10 by omega)) (fun x_77 t_77 h_77 => ?_)
          obtain ⟨rfl, h9⟩ := h_77
          have h9 := h9.symm
          subst h9
          refine za_ior (pc := 80) dX1_fillHours_80 ?_
          rw [zm_or]
          refine za_ior (pc := 81) dX1_fillHours_81 ?_
          refine za_is2n (pc := 82) dX1_fillHours_82 rfl ?_
          refine za_goto (pc := 83) 12 dX1_fillHours_83 (by decide) ?_
          rw [zm_or]
          have em : zmask (fun i => plc n (lfs n r lab s h) i || (decide (some a = some i) || decide (ob = some i))) = zmask (plc n (lfs n r lab s (h + 1))) := by
            apply zm_cong
            intro i _
            rw [elfs]
            unfold plc
            by_cases hia : i = a
            · subst hia
              cases ob with
              | none => simp [rmo, rmv, han]
              | some b => simp [rmo, rmv, han]
            · have hia' : ¬ a = i := fun e => hia e.symm
              cases hob : ob with
              | none => simp [rmo, rmv, hia, hia']
              | some b =>
                by_cases hib : i = b
                · subst hib
                  simp [rmo, rmv, (hobn i hob).1]
                · have hib' : ¬ b = i := fun e => hib e.symm
                  simp [rmo, rmv, hia, hia', hib, hib']
          rw [em]
          have ea9 : lfs n r lab s (h + 1) a = false := by
            rw [elfs]
            cases hq : rmo (rmv (lfs n r lab s h) a) ob a with
            | false => rfl
            | true =>
              have := rmo_le hq
              simp [rmv] at this
          have ru : ∀ d, d ≠ 17 → plU (plU (zup (zup σ1 18 (h + 1) (nI a)) 19 (h + 1) (pkB ob)) (some a) (h + 1)) ob (h + 1) d = zup (zup σ1 18 (h + 1) (nI a)) 19 (h + 1) (pkB ob) d := by
            intro d hd
            cases ob with
            | none => simp only [plU]; rw [zup_n hd]
            | some b => simp only [plU]; rw [zup_n hd, zup_n hd]
          refine za_fg (by simp [zSub]) (ih (h + 1) _ (by omega) (fun d h17 h18 h19 => ?_) (fun x hx hx2 => ?_) (fun k hk => ?_))
          · rw [ru d h17, zup_n h19, zup_n h18]; exact g1 d h17 h18 h19
          · rcases hob : ob with _ | b
            · simp only [plU]
              by_cases hxa : x = a
              · rw [hxa, zup_a, hhr a ha2 ea9]
              · rw [zup_b hxa, zup_n (by decide), zup_n (by decide)]
                refine g2 x hx ?_
                rw [elfs, hob] at hx2
                simpa [rmo, rmv, hxa] using hx2
            · simp only [plU]
              by_cases hxb : x = b
              · rw [hxb, zup_a]
                rw [hxb] at hx2
                rw [hhr b (hobn b hob).2 hx2]
              · rw [zup_b hxb]
                by_cases hxa : x = a
                · rw [hxa, zup_a, hhr a ha2 ea9]
                · rw [zup_b hxa, zup_n (by decide), zup_n (by decide)]
                  refine g2 x hx ?_
                  rw [elfs, hob] at hx2
                  simpa [rmo, rmv, hxa, hxb] using hx2
          · rw [ru 18 (by decide), ru 19 (by decide), zup_n (show (18 : Nat) ≠ 19 by decide), zup_s, zup_s, zup_n (show (19 : Nat) ≠ 18 by decide)]
            by_cases hkh : k = h
            · subst hkh
              rw [pk_us, pk_us, ha1, hb]
              exact ⟨rfl, rfl⟩
            · rw [pk_un (by omega), pk_un (by omega)]
              exact g3 k (by omega)
  have e0 : (0 : Int32) = zmask (plc n (lfs n r lab s 0)) := by
    rw [← zm_0]
    apply zm_cong
    intro x _
    unfold plc
    rw [s0 x]
    by_cases hx : x < n <;> simp [hx]
  have goal := outer (lenD n r lab s) 0 σ (by omega) (fun _ _ _ _ => rfl) (fun x hx h0 => by rw [s0 x] at h0; simp at h0; omega) (fun k hk => absurd hk (by omega))
  rw [← e0] at goal
  exact goal
def FL (t σ : zSt) : Prop := ∀ d, d < 10 ∨ 22 ≤ d → t d = σ d
theorem tX1_renew {σ : zSt} {c : Core} {v : Int32} (hX : XCore σ c) (hc : cOk c) (hv : σ 2 7 = v) (hO : σ 10 6 = v → XOrd σ c) (hD : σ 15 9 = v → XDay σ (cN c) (bhd c)) : zV mX1_renew [.ref 15] SH σ (fun t => XDay t (cN c) (bhd c) ∧ t 15 9 = v ∧ (t 10 6 = v → XOrd t c) ∧ (t 10 6 = v ∨ t 10 6 = σ 10 6) ∧ FL t σ) := by
  have hn := hc.1
  have ho := bhd_ord hc
  refine zV_of (ls := [some (.ref 15)]) (by decide) rfl rfl ?_
  refine za_aload_n (pc := 0) dX1_renew_0 rfl ?_
  refine za_getI (pc := 1) dX1_renew_1 lk_X1_34 rfl rfl ?_
  refine za_aload_n (pc := 4) dX1_renew_4 rfl ?_
  refine za_getR (pc := 5) dX1_renew_5 lk_X1_37 rfl rfl ?_
  refine za_getI (pc := 8) dX1_renew_8 lk_X1_45 rfl rfl ?_
  rw [hv]
  refine za_icmp_ne (pc := 11) 15 dX1_renew_11 (by decide) (fun c11 => ?_) (fun c11 => ?_)
  · refine za_aload_n (pc := 15) dX1_renew_15 rfl ?_
    refine za_aload_n (pc := 16) dX1_renew_16 rfl ?_
    refine za_getR (pc := 17) dX1_renew_17 lk_X1_37 rfl rfl ?_
    refine za_getI (pc := 20) dX1_renew_20 lk_X1_45 rfl rfl ?_
    rw [hv]
    have hX' : XCore (zup σ 15 9 v) c := hX
    refine za_putI (pc := 23) dX1_renew_23 lp_X1_34 rfl rfl ?_
    refine za_aload_n (pc := 26) dX1_renew_26 rfl ?_
    refine za_getR (pc := 27) dX1_renew_27 lk_X1_41 rfl rfl ?_
    refine za_cV0v (pc := 30) (μ' := mX2_renew) dX1_renew_30 c_X1_50 rfl rfl rfl ⟨rfl, rfl⟩ ⟨rfl, rfl⟩ rfl rfl rfl (tX2_renew (c := c) (v := v) hX (hc) (by rw [zup_n (by decide)]; exact hv) (fun e => hO e)) (fun t_30 h_30 => ?_)
    obtain ⟨o1, o2, o3⟩ := h_30
    refine za_aload_n (pc := 33) dX1_renew_33 rfl ?_
    refine za_cV0v (pc := 34) (μ' := mX1_giveLabels) dX1_renew_34 c_X1_55 rfl rfl rfl ⟨rfl, rfl⟩ ⟨rfl, rfl⟩ rfl rfl rfl (tX1_giveLabels ho hn (by rw [o3 2 (by decide), zup_n (by decide)]; exact hX.1) (fun a ha => (o1.1 a ha).2.2.1)) (fun t_34 h_34 => ?_)
    obtain ⟨l1, l2, l3⟩ := h_34
    refine za_aload_n (pc := 37) dX1_renew_37 rfl ?_
    refine za_cV0v (pc := 38) (μ' := mX1_fillHours) dX1_renew_38 c_X1_58 rfl rfl rfl ⟨rfl, rfl⟩ ⟨rfl, rfl⟩ rfl rfl rfl (tX1_fillHours ho hn (by rw [l1 2 (by decide) (by decide) (by decide), o3 2 (by decide), zup_n (by decide)]; exact hX.1) (fun a ha => by rw [l1 11 (by decide) (by decide) (by decide)]; exact (o1.1 a ha).1) l2 l3) (fun t_38 h_38 => ?_)
    obtain ⟨f1, f2, f3⟩ := h_38
    refine za_rv (pc := 41) dX1_renew_41 rfl rfl rfl ?_
    refine ⟨f3, ?_, fun _ => ⟨fun a ha => ?_, ?_⟩, Or.inl ?_, fun d hd => ?_⟩
    · rw [f2 9 (by decide), l1 15 (by decide) (by decide) (by decide), o3 15 (by decide), zup_a]
    · rw [f1 11 (by decide) (by decide) (by decide) (by decide), f1 12 (by decide) (by decide) (by decide) (by decide), f1 13 (by decide) (by decide) (by decide) (by decide), f1 14 (by decide) (by decide) (by decide) (by decide), l1 11 (by decide) (by decide) (by decide), l1 12 (by decide) (by decide) (by decide), l1 13 (by decide) (by decide) (by decide), l1 14 (by decide) (by decide) (by decide)]
      exact o1.1 a ha
    · rw [f1 10 (by decide) (by decide) (by decide) (by decide), l1 10 (by decide) (by decide) (by decide)]
      exact o1.2
    · rw [f1 10 (by decide) (by decide) (by decide) (by decide), l1 10 (by decide) (by decide) (by decide)]
      exact o2
    · rw [f1 d (by omega) (by omega) (by omega) (by omega), l1 d (by omega) (by omega) (by omega), o3 d (by omega), zup_n (by omega)]
  · refine za_rv (pc := 14) dX1_renew_14 rfl rfl rfl ?_
    exact ⟨hD c11, c11, hO, Or.inr rfl, fun _ _ => rfl⟩
theorem tX6_labelDayNow {σ : zSt} {c : Core} {v : Int32} (hX : XCore σ c) (hc : cOk c) (hv : σ 2 7 = v) (hO : σ 10 6 = v → XOrd σ c) (hD : σ 15 9 = v → XDay σ (cN c) (bhd c)) : zO mX6_labelDayNow [.ref 0] SH σ 15 (fun t => XDay t (cN c) (bhd c) ∧ t 15 9 = v ∧ (t 10 6 = v → XOrd t c) ∧ (t 10 6 = v ∨ t 10 6 = σ 10 6) ∧ FL t σ) := by
  refine zO_of (ls := [some (.ref 0)]) (by decide) rfl rfl ?_
  refine za_aload_n (pc := 0) dX6_labelDayNow_0 rfl ?_
  refine za_getR (pc := 1) dX6_labelDayNow_1 lk_X6_36 rfl rfl ?_
  refine za_cV0v (pc := 4) (μ' := mX1_renew) dX6_labelDayNow_4 c_X6_244 rfl rfl rfl ⟨rfl, rfl⟩ ⟨rfl, rfl⟩ rfl rfl rfl (tX1_renew hX hc hv hO hD) (fun t_4 h_4 => ?_)
  refine za_aload_n (pc := 7) dX6_labelDayNow_7 rfl ?_
  refine za_getR (pc := 8) dX6_labelDayNow_8 lk_X6_36 rfl rfl ?_
  refine za_ra (pc := 11) dX6_labelDayNow_11 rfl rfl rfl ?_
  exact h_4
