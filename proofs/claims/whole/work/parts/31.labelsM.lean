/-! LABELS of the reference -/
/-- locals may be forgotten -/
def zSub : List (Option Value) → List (Option Value) → Prop
  | [], [] => True
  | a :: as, b :: bs => (a = none ∨ a = b) ∧ zSub as bs
  | _, _ => False
theorem zSub_at : ∀ {as bs : List (Option Value)}, zSub as bs → as.length = bs.length ∧ ∀ (i : Nat) (v : Value), as[i]? = some (some v) → bs[i]? = some (some v)
  | [], [], _ => ⟨rfl, fun i v h => h⟩
  | [], b :: bs, h => False.elim h
  | a :: as, [], h => False.elim h
  | a :: as, b :: bs, h => by
    obtain ⟨h1, h2⟩ := zSub_at h.2
    refine ⟨by simp [h1], fun i v hv => ?_⟩
    cases i with
    | zero =>
      simp only [List.getElem?_cons_zero, Option.some.injEq] at hv ⊢
      rcases h.1 with q | q
      · rw [q] at hv; cases hv
      · rw [← q]; exact hv
    | succ i =>
      simp only [List.getElem?_cons_succ] at hv ⊢
      exact h2 i v hv
theorem za_fg {Z : zZt} {μ : zM} {sc : Option (Nat × (Nat → Int32))} {k n pc : Nat} {ls ls' : List (Option Value)} {st : List Value} {S : List zSh} {σ : zSt} (hs : zSub ls' ls) (h : zA Z μ sc k n pc ls' st S σ) : zA Z μ sc k n pc ls st S σ := by
  intro p l e s m args below meth c D h0 ad0 cA0 n0 ad cA H locs lsA hC hX hag hn0 hH hS hl
  obtain ⟨h1, h2⟩ := zSub_at hs
  exact h p l e s m args below meth c D h0 ad0 cA0 n0 ad cA H locs lsA hC hX hag hn0 hH hS ⟨hl.1, hl.2.1, h1.trans hl.2.2.1, fun i v hi => hl.2.2.2 i v (h2 i v hi)⟩
theorem tX7_rowOf {σ : zSt} {n : Nat} {p : Nat → Bool} {lab : Nat → Nat} (hn : n ≤ 10) (hj : σ 47 3 = nI n) (hl : ∀ a, a < n → σ 61 a = nI (lab a) ∧ lab a ≤ 10) : zI mX7_rowOf [.ref 47, .int (zmask p)] SH σ (fun x t => x = zmask (fun l => anyb (fun x => p x && decide (lab x = l)) n) ∧ t = σ) := by
  refine zI_of (ls := [some (.ref 47), some (.int (zmask p)), none, none]) (by decide) rfl rfl ?_
  refine za_iconst (pc := 0) (0) dX7_rowOf_0 (by decide) ?_
  refine za_is2n (pc := 1) dX7_rowOf_1 rfl ?_
  refine za_iconst (pc := 2) (0) dX7_rowOf_2 (by decide) ?_
  refine za_is3n (pc := 3) dX7_rowOf_3 rfl ?_
  have loop1 : ∀ (q a : Nat), a + q = n → zA (zZ mX7_rowOf (zQI SH (fun x t => x = zmask (fun l => anyb (fun x => p x && decide (lab x = l)) n) ∧ t = σ))) mX7_rowOf none 0 0 4 [some (.ref 47), some (.int (zmask p)), some (.int (zmask (fun l => anyb (fun x => p x && decide (lab x = l)) a))), some (.int (nI a))] [] SH σ := by
    intro q
    induction q with
    | zero =>
      intro a ha
      refine za_iload_n (pc := 4) dX7_rowOf_4 rfl ?_
      refine za_aload_n (pc := 5) dX7_rowOf_5 rfl ?_
      refine za_getI (pc := 6) dX7_rowOf_6 lk_X7_91 rfl rfl ?_
      rw [hj]
      refine za_icmp_ge (pc := 9) 42 dX7_rowOf_9 (by decide) (fun c5 => ?_) (fun c5 => ?_)
      · refine za_iload_n (pc := 42) dX7_rowOf_42 rfl ?_
        refine za_ri (pc := 43) dX7_rowOf_43 rfl rfl rfl ?_
        rw [show a = n by omega]
        exact ⟨rfl, rfl⟩
      · exact absurd (nI_le (show n ≤ a by omega) (by omega)) c5
    | succ q ih =>
      intro a ha
      have va : vp_in (nI a) 10 := vp_in_nI (by omega) (by decide)
      have ea : (nI a).toNatClampNeg = a := nI_clamp (by omega)
      obtain ⟨l1, l2⟩ := hl a (by omega)
      have step : ∀ x : Int32, x = zmask (fun l => p a && decide (lab a = l)) → zA (zZ mX7_rowOf (zQI SH (fun x t => x = zmask (fun l => anyb (fun x => p x && decide (lab x = l)) n) ∧ t = σ))) mX7_rowOf none 0 0 34 [some (.ref 47), some (.int (zmask p)), some (.int (zmask (fun l => anyb (fun x => p x && decide (lab x = l)) a))), some (.int (nI a))] [.int x, .int (zmask (fun l => anyb (fun x => p x && decide (lab x = l)) a))] SH σ := by
        intro x hx
        refine za_ior (pc := 34) dX7_rowOf_34 ?_
        refine za_is2n (pc := 35) dX7_rowOf_35 rfl ?_
        refine za_ii3 (pc := 36) (1) dX7_rowOf_36 (by decide) rfl ?_
        refine za_goto (pc := 39) 4 dX7_rowOf_39 (by decide) ?_
        rw [nI_1, hx, zm_or]
        exact ih (a + 1) (by omega)
      refine za_iload_n (pc := 4) dX7_rowOf_4 rfl ?_
      refine za_aload_n (pc := 5) dX7_rowOf_5 rfl ?_
      refine za_getI (pc := 6) dX7_rowOf_6 lk_X7_91 rfl rfl ?_
      rw [hj]
      refine za_icmp_ge (pc := 9) 42 dX7_rowOf_9 (by decide) (fun c5 => ?_) (fun c5 => ?_)
      · exact absurd c5 (nI_ge (show a < n by omega) (by omega))
      · refine za_iload_n (pc := 12) dX7_rowOf_12 rfl ?_
        refine za_iload_n (pc := 13) dX7_rowOf_13 rfl ?_
        refine za_iload_n (pc := 14) dX7_rowOf_14 rfl ?_
        refine za_ishr (pc := 15) dX7_rowOf_15 ?_
        refine za_iconst (pc := 16) (1) dX7_rowOf_16 (by decide) ?_
        refine za_iand (pc := 17) dX7_rowOf_17 ?_
        refine za_iconst (pc := 18) (1) dX7_rowOf_18 (by decide) ?_
        rw [zm_sr (by omega)]
        by_cases h1 : p a = true
        · rw [if_pos h1]
          refine za_icmp_ne (pc := 19) 33 dX7_rowOf_19 (by decide) (fun c19 => ?_) (fun c19 => ?_)
          · exact absurd rfl c19
          refine za_iconst (pc := 22) (1) dX7_rowOf_22 (by decide) ?_
          refine za_aload_n (pc := 23) dX7_rowOf_23 rfl ?_
          refine za_getR (pc := 24) dX7_rowOf_24 lk_X7_49 rfl rfl ?_
          refine za_iload_n (pc := 27) dX7_rowOf_27 rfl ?_
          refine za_iald (pc := 28) dX7_rowOf_28 rfl va ?_
          rw [ea, l1]
          refine za_ishl (pc := 29) dX7_rowOf_29 ?_
          refine za_goto (pc := 30) 34 dX7_rowOf_30 (by decide) ?_
          rw [zm_1 (by omega)]
          refine step _ (zm_cong (fun i _ => ?_))
          rw [h1, Bool.true_and]
          exact decide_eq_decide.mpr eq_comm
        · rw [if_neg h1]
          refine za_icmp_ne (pc := 19) 33 dX7_rowOf_19 (by decide) (fun c19 => ?_) (fun c19 => ?_)
          · refine za_iconst (pc := 33) (0) dX7_rowOf_33 (by decide) ?_
            refine step 0 ?_
            rw [← zm_0]
            apply zm_cong
            intro i _
            simp at h1
            simp [h1]
          · exact absurd c19 (by decide)
  have e2 : (0 : Int32) = zmask (fun l => anyb (fun x => p x && decide (lab x = l)) 0) := zm_0.symm
  have goal := loop1 n 0 (by omega)
  rw [← e2] at goal
  exact goal
/-- those that have no LABEL yet -/
def lft (n : Nat) (s : Nat → Bool) (lab : Nat → Nat) : Nat → Bool := fun a => (decide (a < n) && s a) && decide (lab a = 0)
theorem cand_lft {n : Nat} {r : Nat → Nat → Bool} {s : Nat → Bool} {lab : Nat → Nat} {a : Nat} : cand n r s lab a = true ↔ lft n s lab a = true ∧ ∀ x, x < 16 → (nxs n r s a x && lft n s lab x) = false := by
  unfold cand
  rw [Bool.and_eq_true, Bool.not_eq_true', anyb_f]
  have e : ∀ x, (nxs n r s a x && decide (lab x = 0)) = (nxs n r s a x && lft n s lab x) := by
    intro x
    cases hx : nxs n r s a x with
    | false => rfl
    | true =>
      obtain ⟨h1, h2, -⟩ := nxs_r hx
      unfold lft
      simp [h1, h2]
  simp only [e]
  exact Iff.rfl
def pkB (o : Option Nat) : Int32 := match o with
  | none => -3
  | some b => nI b
def pkL (n : Nat) (r : Nat → Nat → Bool) (s : Nat → Bool) (lab : Nat → Nat) (o : Option Nat) : Int32 := match o with
  | none => 0
  | some b => zmask (rowp n r s lab b)
theorem tX7_layLabels {σ : zSt} {n : Nat} {r : Nat → Nat → Bool} {s : Nat → Bool} (ho : Ord n r) (hn : n ≤ 10) (hs : ∀ a, a < 16 → s a = true → a < n) (hj : σ 47 3 = nI n) (hr : ∀ a, a < n → σ 59 a = zmask (r a)) : zV mX7_layLabels [.ref 47, .int (zmask s)] SH σ (fun t => (∀ d, d ≠ 61 → t d = σ d) ∧ ∀ a, a < 10 → t 61 a = nI (lbl n r s a)) := by
  refine zV_of (ls := [some (.ref 47), some (.int (zmask s)), none, none, none, none, none, none, none]) (by decide) rfl rfl ?_
  refine za_iload_n (pc := 0) dX7_layLabels_0 rfl ?_
  refine za_is2n (pc := 1) dX7_layLabels_1 rfl ?_
  refine za_iconst (pc := 2) (0) dX7_layLabels_2 (by decide) ?_
  refine za_is3n (pc := 3) dX7_layLabels_3 rfl ?_
  have hN : cnt (fun a => s a) n ≤ 10 := Nat.le_trans (cnt_le _ n) hn
  have inner : ∀ (Z : zZt) (l : Nat) (σ1 : zSt), l < cnt (fun a => s a) n → (∀ d, d ≠ 61 → σ1 d = σ d) → (∀ a, a < 10 → σ1 61 a = nI (labs n r s l a)) → (zA Z mX7_layLabels none 0 0 110 [some (.ref 47), some (.int (zmask s)), some (.int (zmask (lft n s (labs n r s l)))), some (.int (nI (l + 1))), some (.int (pkB (pick n r s (labs n r s l) n))), some (.int (pkL n r s (labs n r s l) (pick n r s (labs n r s l) n))), some (.int (nI n)), none, none] [] SH σ1) → ∀ (q k : Nat), k + q = n → zA Z mX7_layLabels none 0 0 39 [some (.ref 47), some (.int (zmask s)), some (.int (zmask (lft n s (labs n r s l)))), some (.int (nI (l + 1))), some (.int (pkB (pick n r s (labs n r s l) k))), some (.int (pkL n r s (labs n r s l) (pick n r s (labs n r s l) k))), some (.int (nI k)), none, none] [] SH σ1 := by
    intro Z l σ1 hl g1 g2 hE q
    have hinv := labs_inv (s := s) ho l (by omega)
    induction q with
    | zero =>
      intro k hk
      refine za_iload (pc := 39) dX7_layLabels_39 rfl ?_
      refine za_aload_n (pc := 41) dX7_layLabels_41 rfl ?_
      refine za_getI (pc := 42) dX7_layLabels_42 lk_X7_91 rfl rfl ?_
      rw [g1 47 (by decide), hj]
      refine za_icmp_ge (pc := 45) 110 dX7_layLabels_45 (by decide) (fun c5 => ?_) (fun c5 => ?_)
      · rw [show k = n by omega]
        exact hE
      · exact absurd (nI_le (show n ≤ k by omega) (by omega)) c5
    | succ q ih =>
      intro k hk
      generalize hlab : labs n r s l = lab at *
      have hkn : k < n := by omega
      have skip : ∀ y z, pick n r s lab (k + 1) = pick n r s lab k → zA Z mX7_layLabels none 0 0 104 [some (.ref 47), some (.int (zmask s)), some (.int (zmask (lft n s lab))), some (.int (nI (l + 1))), some (.int (pkB (pick n r s lab k))), some (.int (pkL n r s lab (pick n r s lab k))), some (.int (nI k)), y, z] [] SH σ1 := by
        intro y z e
        refine za_ii6 (pc := 104) (1) dX7_layLabels_104 (by decide) rfl ?_
        refine za_goto (pc := 107) 39 dX7_layLabels_107 (by decide) ?_
        rw [nI_1]
        have := ih (k + 1) (by omega)
        rw [e] at this
        exact za_fg (by simp [zSub]) this
      have nocand : cand n r s lab k = false → pick n r s lab (k + 1) = pick n r s lab k := by
        intro hc
        show (match pick n r s lab k with | none => if cand n r s lab k = true then some k else none | some b => if cand n r s lab k = true ∧ rowv n r s lab k < rowv n r s lab b then some k else some b) = _
        rw [hc]
        cases pick n r s lab k <;> simp
      refine za_iload (pc := 39) dX7_layLabels_39 rfl ?_
      refine za_aload_n (pc := 41) dX7_layLabels_41 rfl ?_
      refine za_getI (pc := 42) dX7_layLabels_42 lk_X7_91 rfl rfl ?_
      rw [g1 47 (by decide), hj]
      refine za_icmp_ge (pc := 45) 110 dX7_layLabels_45 (by decide) (fun c5 => ?_) (fun c5 => ?_)
      · exact absurd c5 (nI_ge (show k < n by omega) (by omega))
      · refine za_aload_n (pc := 48) dX7_layLabels_48 rfl ?_
        refine za_iload (pc := 49) dX7_layLabels_49 rfl ?_
        refine za_iload_n (pc := 51) dX7_layLabels_51 rfl ?_
        refine za_cV2i (pc := 52) (μ' := mX7_nextOf) dX7_layLabels_52 c_X7_136 rfl rfl rfl ⟨rfl, rfl⟩ ⟨rfl, rfl⟩ rfl rfl rfl (tX7_nextOf hn hkn (by rw [g1 47 (by decide)]; exact hj) (fun a ha => by rw [g1 59 (by decide)]; exact hr a ha)) (fun x_52 t_52 h_52 => ?_)
        obtain ⟨rfl, h9⟩ := h_52
        have h9 := h9.symm
        subst h9
        refine za_is7 (pc := 55) dX7_layLabels_55 rfl ?_
        refine za_iload_n (pc := 57) dX7_layLabels_57 rfl ?_
        refine za_iload (pc := 58) dX7_layLabels_58 rfl ?_
        refine za_ishr (pc := 60) dX7_layLabels_60 ?_
        refine za_iconst (pc := 61) (1) dX7_layLabels_61 (by decide) ?_
        refine za_iand (pc := 62) dX7_layLabels_62 ?_
        refine za_iconst (pc := 63) (1) dX7_layLabels_63 (by decide) ?_
        rw [zm_sr (by omega)]
        by_cases h1 : lft n s lab k = true
        · rw [if_pos h1]
          refine za_icmp_ne (pc := 64) 104 dX7_layLabels_64 (by decide) (fun c64 => ?_) (fun c64 => ?_)
          · exact absurd rfl c64
          refine za_iload (pc := 67) dX7_layLabels_67 rfl ?_
          refine za_iload_n (pc := 69) dX7_layLabels_69 rfl ?_
          refine za_iand (pc := 70) dX7_layLabels_70 ?_
          rw [zm_and]
          refine za_if_ne (pc := 71) 104 dX7_layLabels_71 (by decide) (fun c71 => ?_) (fun c71 => ?_)
          · rw [zm_z] at c71
            refine skip _ _ (nocand ?_)
            cases hc : cand n r s lab k with
            | false => rfl
            | true => exact absurd (cand_lft.mp hc).2 c71
          · rw [zm_z] at c71
            have hc : cand n r s lab k = true := cand_lft.mpr ⟨h1, c71⟩
            refine za_aload_n (pc := 74) dX7_layLabels_74 rfl ?_
            refine za_iload (pc := 75) dX7_layLabels_75 rfl ?_
            refine za_cV1i (pc := 77) (μ' := mX7_rowOf) dX7_layLabels_77 c_X7_139 rfl rfl rfl ⟨rfl, rfl⟩ ⟨rfl, rfl⟩ rfl rfl rfl (tX7_rowOf hn (by rw [g1 47 (by decide)]; exact hj) (fun a ha => ⟨g2 a (by omega), by have := hinv.1 a; omega⟩)) (fun x_77 t_77 h_77 => ?_)
            obtain ⟨rfl, h9⟩ := h_77
            have h9 := h9.symm
            subst h9
            refine za_is8 (pc := 80) dX7_layLabels_80 rfl ?_
            refine za_iload (pc := 82) dX7_layLabels_82 rfl ?_
            have take : pick n r s lab (k + 1) = some k → zA Z mX7_layLabels none 0 0 96 [some (.ref 47), some (.int (zmask s)), some (.int (zmask (lft n s lab))), some (.int (nI (l + 1))), some (.int (pkB (pick n r s lab k))), some (.int (pkL n r s lab (pick n r s lab k))), some (.int (nI k)), some (.int (zmask (nxs n r s k))), some (.int (zmask (rowp n r s lab k)))] [] SH σ1 := by
              intro e
              refine za_iload (pc := 96) dX7_layLabels_96 rfl ?_
              refine za_is4 (pc := 98) dX7_layLabels_98 rfl ?_
              refine za_iload (pc := 100) dX7_layLabels_100 rfl ?_
              refine za_is5 (pc := 102) dX7_layLabels_102 rfl ?_
              refine za_ii6 (pc := 104) (1) dX7_layLabels_104 (by decide) rfl ?_
              refine za_goto (pc := 107) 39 dX7_layLabels_107 (by decide) ?_
              rw [nI_1]
              have := ih (k + 1) (by omega)
              rw [e] at this
              exact za_fg (by simp [zSub, pkB, pkL]) this
            cases hp : pick n r s lab k with
            | none =>
              refine za_bipush (pc := 84) (-3) dX7_layLabels_84 (by decide) ?_
              refine za_icmp_eq (pc := 86) 96 dX7_layLabels_86 (by decide) (fun c86 => ?_) (fun c86 => ?_)
              · have := take (by
                  show (match pick n r s lab k with | none => if cand n r s lab k = true then some k else none | some b => if cand n r s lab k = true ∧ rowv n r s lab k < rowv n r s lab b then some k else some b) = _
                  rw [hp]
                  simp [hc])
                rw [hp] at this
                exact this
              · exact absurd rfl c86
            | some b =>
              have hbk := (pick_some hp).1
              refine za_bipush (pc := 84) (-3) dX7_layLabels_84 (by decide) ?_
              refine za_icmp_eq (pc := 86) 96 dX7_layLabels_86 (by decide) (fun c86 => ?_) (fun c86 => ?_)
              · have c86 : nI b = -3 := c86
                rw [fa_eq, nI_toInt (by omega)] at c86
                have : ((-3 : Int32)).toInt = -3 := rfl
                omega
              · refine za_iload (pc := 89) dX7_layLabels_89 rfl ?_
                refine za_iload (pc := 91) dX7_layLabels_91 rfl ?_
                refine za_icmp_ge (pc := 93) 104 dX7_layLabels_93 (by decide) (fun c93 => ?_) (fun c93 => ?_)
                · have hlt : ¬ rowv n r s lab k < rowv n r s lab b := by
                    intro q
                    have : zmask (rowp n r s lab k) < zmask (rowp n r s lab b) := zm_ltI.mpr q
                    exact absurd c93 (Int32.not_le.mpr this)
                  have := skip (some (.int (zmask (nxs n r s k)))) (some (.int (zmask (rowp n r s lab k)))) (by
                    show (match pick n r s lab k with | none => if cand n r s lab k = true then some k else none | some b => if cand n r s lab k = true ∧ rowv n r s lab k < rowv n r s lab b then some k else some b) = _
                    rw [hp]
                    simp [hlt])
                  rw [hp] at this
                  exact this
                · have hlt : rowv n r s lab k < rowv n r s lab b := zm_ltI.mp (Int32.not_le.mp c93)
                  have := take (by
                    show (match pick n r s lab k with | none => if cand n r s lab k = true then some k else none | some b => if cand n r s lab k = true ∧ rowv n r s lab k < rowv n r s lab b then some k else some b) = _
                    rw [hp]
                    simp [hc, hlt])
                  rw [hp] at this
                  exact this
        · rw [if_neg h1]
          refine za_icmp_ne (pc := 64) 104 dX7_layLabels_64 (by decide) (fun c64 => ?_) (fun c64 => ?_)
          · refine skip _ _ (nocand ?_)
            cases hc : cand n r s lab k with
            | false => rfl
            | true => exact absurd (cand_lft.mp hc).1 h1
          · exact absurd c64 (by decide)
  have outer : ∀ (q l : Nat) (σ1 : zSt), l + q = cnt (fun a => s a) n → (∀ d, d ≠ 61 → σ1 d = σ d) → (∀ a, a < 10 → σ1 61 a = nI (labs n r s l a)) → zA (zZ mX7_layLabels (zQV SH (fun t => (∀ d, d ≠ 61 → t d = σ d) ∧ ∀ a, a < 10 → t 61 a = nI (lbl n r s a)))) mX7_layLabels none 0 0 25 [some (.ref 47), some (.int (zmask s)), some (.int (zmask (lft n s (labs n r s l)))), some (.int (nI (l + 1))), none, none, none, none, none] [] SH σ1 := by
    intro q
    induction q with
    | zero =>
      intro l σ1 hl g1 g2
      have e : l = cnt (fun a => s a) n := by omega
      have hz : zmask (lft n s (labs n r s l)) = 0 := by
        rw [zm_z]
        intro i _
        unfold lft
        by_cases hi : i < n ∧ s i = true
        · have := lbl_pos (s := s) ho hi.1 hi.2
          unfold lbl at this
          rw [← e] at this
          have : ¬ labs n r s l i = 0 := by omega
          simp [this]
        · by_cases h1 : i < n
          · have h2 : ¬ s i = true := fun q => hi ⟨h1, q⟩
            simp at h2
            simp [h2]
          · simp [h1]
      refine za_iload_n (pc := 25) dX7_layLabels_25 rfl ?_
      refine za_if_eq (pc := 26) 133 dX7_layLabels_26 (by decide) (fun c26 => ?_) (fun c26 => ?_)
      · refine za_rv (pc := 133) dX7_layLabels_133 rfl rfl rfl ?_
        refine ⟨g1, fun a ha => ?_⟩
        unfold lbl
        rw [← e]
        exact g2 a ha
      · exact absurd hz c26
    | succ q ih =>
      intro l σ1 hl g1 g2
      obtain ⟨a, ha1, ha2, ha3, ha4, ha5⟩ := labs_step (s := s) ho (l := l) (by omega)
      have hinv := labs_inv (s := s) ho l (by omega)
      have hnz : ¬ zmask (lft n s (labs n r s l)) = 0 := by
        rw [zm_z]
        intro h
        have := h a (by omega)
        unfold lft at this
        simp [ha3, ha4, ha5] at this
      refine za_iload_n (pc := 25) dX7_layLabels_25 rfl ?_
      refine za_if_eq (pc := 26) 133 dX7_layLabels_26 (by decide) (fun c26 => ?_) (fun c26 => ?_)
      · exact absurd c26 hnz
      · refine za_bipush (pc := 29) (-3) dX7_layLabels_29 (by decide) ?_
        refine za_is4 (pc := 31) dX7_layLabels_31 rfl ?_
        refine za_iconst (pc := 33) (0) dX7_layLabels_33 (by decide) ?_
        refine za_is5 (pc := 34) dX7_layLabels_34 rfl ?_
        refine za_iconst (pc := 36) (0) dX7_layLabels_36 (by decide) ?_
        refine za_is6 (pc := 37) dX7_layLabels_37 rfl ?_
        refine inner _ l σ1 (by omega) g1 g2 ?_ n 0 (by omega)
        rw [ha1, show pkB (some a) = nI a from rfl]
        have va : vp_in (nI a) 10 := vp_in_nI (by omega) (by decide)
        have ea : (nI a).toNatClampNeg = a := nI_clamp (by omega)
        refine za_aload_n (pc := 110) dX7_layLabels_110 rfl ?_
        refine za_getR (pc := 111) dX7_layLabels_111 lk_X7_49 rfl rfl ?_
        refine za_iload (pc := 114) dX7_layLabels_114 rfl ?_
        refine za_iload_n (pc := 116) dX7_layLabels_116 rfl ?_
        refine za_iast (pc := 117) dX7_layLabels_117 rfl va ?_
        refine za_iload_n (pc := 118) dX7_layLabels_118 rfl ?_
        refine za_iconst (pc := 119) (1) dX7_layLabels_119 (by decide) ?_
        refine za_iload (pc := 120) dX7_layLabels_120 rfl ?_
        refine za_ishl (pc := 122) dX7_layLabels_122 ?_
        refine za_iconst (pc := 123) (-1) dX7_layLabels_123 (by decide) ?_
        refine za_ixor (pc := 124) dX7_layLabels_124 ?_
        rw [ea, zm_1 (by omega)]
        refine za_iand (pc := 125) dX7_layLabels_125 ?_
        refine za_is2n (pc := 126) dX7_layLabels_126 rfl ?_
        refine za_ii3 (pc := 127) (1) dX7_layLabels_127 (by decide) rfl ?_
        refine za_goto (pc := 130) 25 dX7_layLabels_130 (by decide) ?_
        rw [zm_not, nI_1]
        have em : zmask (fun i => lft n s (labs n r s l) i && !decide (i = a)) = zmask (lft n s (labs n r s (l + 1))) := by
          apply zm_cong
          intro i _
          unfold lft
          rw [ha2]
          by_cases hia : i = a
          · subst hia
            simp [va_up]
          · simp [va_up, hia]
        rw [em]
        refine za_fg (by simp [zSub]) (ih (l + 1) _ (by omega) (fun d hd => by rw [zup_n hd]; exact g1 d hd) (fun x hx => ?_))
        rw [ha2]
        by_cases hxa : x = a
        · rw [hxa, zup_a]; simp [va_up]
        · rw [zup_b hxa]; simp only [va_up, if_neg hxa]; exact g2 x hx
  have clear : ∀ (q a : Nat) (σ1 : zSt), a + q = 10 → (∀ d, d ≠ 61 → σ1 d = σ d) → (∀ x, x < a → σ1 61 x = 0) → zA (zZ mX7_layLabels (zQV SH (fun t => (∀ d, d ≠ 61 → t d = σ d) ∧ ∀ a, a < 10 → t 61 a = nI (lbl n r s a)))) mX7_layLabels none 0 0 4 [some (.ref 47), some (.int (zmask s)), some (.int (zmask s)), some (.int (nI a)), none, none, none, none, none] [] SH σ1 := by
    intro q
    induction q with
    | zero =>
      intro a σ1 ha g1 g2
      refine za_iload_n (pc := 4) dX7_layLabels_4 rfl ?_
      refine za_bipush (pc := 5) (10) dX7_layLabels_5 (by decide) ?_
      refine za_icmp_ge (pc := 7) 23 dX7_layLabels_7 (by decide) (fun c => ?_) (fun c => ?_)
      · refine za_iconst (pc := 23) (1) dX7_layLabels_23 (by decide) ?_
        refine za_is3n (pc := 24) dX7_layLabels_24 rfl ?_
        have e0 : zmask s = zmask (lft n s (labs n r s 0)) := by
          apply zm_cong
          intro i hi
          unfold lft
          cases hsi : s i with
          | false => simp
          | true => simp [hs i hi hsi, labs]
        have goal := outer (cnt (fun a => s a) n) 0 σ1 (by omega) g1 (fun x hx => g2 x (by omega))
        rw [← e0] at goal
        exact goal
      · exact absurd (nI_le (a := 10) (b := a) (by omega) (by omega)) c
    | succ q ih =>
      intro a σ1 ha g1 g2
      have va : vp_in (nI a) 10 := vp_in_nI (by omega) (by decide)
      have ea : (nI a).toNatClampNeg = a := nI_clamp (by omega)
      refine za_iload_n (pc := 4) dX7_layLabels_4 rfl ?_
      refine za_bipush (pc := 5) (10) dX7_layLabels_5 (by decide) ?_
      refine za_icmp_ge (pc := 7) 23 dX7_layLabels_7 (by decide) (fun c => ?_) (fun c => ?_)
      · exact absurd c (nI_ge (a := a) (b := 10) (by omega) (by omega))
      · refine za_aload_n (pc := 10) dX7_layLabels_10 rfl ?_
        refine za_getR (pc := 11) dX7_layLabels_11 lk_X7_49 rfl rfl ?_
        refine za_iload_n (pc := 14) dX7_layLabels_14 rfl ?_
        refine za_iconst (pc := 15) (0) dX7_layLabels_15 (by decide) ?_
        refine za_iast (pc := 16) dX7_layLabels_16 rfl va ?_
        refine za_ii3 (pc := 17) (1) dX7_layLabels_17 (by decide) rfl ?_
        refine za_goto (pc := 20) 4 dX7_layLabels_20 (by decide) ?_
        rw [nI_1, ea]
        refine ih (a + 1) _ (by omega) (fun d hd => by rw [zup_n hd]; exact g1 d hd) (fun x hx => ?_)
        by_cases e : x = a
        · rw [e, zup_a]
        · rw [zup_b e]; exact g2 x (by omega)
  exact clear 10 0 σ (by omega) (fun _ _ => rfl) (fun x hx => absurd hx (by omega))
