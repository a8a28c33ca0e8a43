/-! leaves: static helpers -/
def fa_fill {α : Type} (f g : Nat → α) (i : Nat) : Nat → α := fun k => if k < i then f k else g k
theorem fa_fill_0 {α : Type} (f g : Nat → α) : fa_fill f g 0 = g := by funext k; simp [fa_fill]
theorem fa_fill_succ (f g : Nat → Int32) (i : Nat) : upd (fa_fill f g i) i (f i) = fa_fill f g (i + 1) := by
  funext k
  unfold upd fa_fill
  by_cases h : k = i
  · subst h; simp
  · rw [if_neg h]
    by_cases h2 : k < i
    · rw [if_pos h2, if_pos (by omega)]
    · rw [if_neg h2, if_neg (by omega)]
theorem tX6_bit {S : List zSh} {σ : zSt} {a : Int32} : zI mX6_bit [.int a] S σ (fun x t => x = (1 : Int32) <<< (a &&& 31) ∧ t = σ) := by
  refine zI_of (ls := [some (.int a)]) (by decide) rfl rfl ?_
  refine za_iconst (pc := 0) (1) dX6_bit_0 (by decide) ?_
  refine za_iload_n (pc := 1) dX6_bit_1 rfl ?_
  refine za_ishl (pc := 2) dX6_bit_2 ?_
  refine za_ri (pc := 3) dX6_bit_3 rfl rfl rfl ?_
  exact ⟨rfl, rfl⟩
theorem tX6_holds {S : List zSh} {σ : zSt} {s a : Int32} : zI mX6_holds [.int s, .int a] S σ (fun x t => x = (if s &&& ((1 : Int32) <<< (a &&& 31)) = 0 then 0 else 1) ∧ t = σ) := by
  refine zI_of (ls := [some (.int s), some (.int a)]) (by decide) rfl rfl ?_
  refine za_iload_n (pc := 0) dX6_holds_0 rfl ?_
  refine za_iconst (pc := 1) (1) dX6_holds_1 (by decide) ?_
  refine za_iload_n (pc := 2) dX6_holds_2 rfl ?_
  refine za_ishl (pc := 3) dX6_holds_3 ?_
  refine za_iand (pc := 4) dX6_holds_4 ?_
  refine za_if_eq (pc := 5) 12 dX6_holds_5 (by decide) (fun c_5 => ?_) (fun c_5 => ?_)
  · refine za_iconst (pc := 12) (0) dX6_holds_12 (by decide) ?_
    refine za_rz (pc := 13) dX6_holds_13 rfl rfl rfl rfl ?_
    exact ⟨by simp [*], rfl⟩
  · refine za_iconst (pc := 8) (1) dX6_holds_8 (by decide) ?_
    refine za_goto (pc := 9) 13 dX6_holds_9 (by decide) ?_
    refine za_rz (pc := 13) dX6_holds_13 rfl rfl rfl rfl ?_
    exact ⟨by simp [*], rfl⟩
theorem tJ9_max_7cf53 {S : List zSh} {σ : zSt} {a b : Int32} : zI mJ9_max_7cf53 [.int a, .int b] S σ (fun x t => x = (if a < b then b else a) ∧ t = σ) := by
  refine zI_ofF (ls := [some (.int a), some (.int b)]) (by decide +kernel) rfl rfl ?_
  refine za_iload_n (pc := 0) dJ9_max_7cf53_0 rfl ?_
  refine za_iload_n (pc := 1) dJ9_max_7cf53_1 rfl ?_
  refine za_icmp_lt (pc := 2) 9 dJ9_max_7cf53_2 (by decide) (fun c_2 => ?_) (fun c_2 => ?_)
  · refine za_iload_n (pc := 9) dJ9_max_7cf53_9 rfl ?_
    refine za_ri (pc := 10) dJ9_max_7cf53_10 rfl rfl rfl ?_
    exact ⟨by simp [*], rfl⟩
  · refine za_iload_n (pc := 5) dJ9_max_7cf53_5 rfl ?_
    refine za_goto (pc := 6) 10 dJ9_max_7cf53_6 (by decide) ?_
    refine za_ri (pc := 10) dJ9_max_7cf53_10 rfl rfl rfl ?_
    exact ⟨by simp [*], rfl⟩
theorem tJ9_min_7cf53 {S : List zSh} {σ : zSt} {a b : Int32} : zI mJ9_min_7cf53 [.int a, .int b] S σ (fun x t => x = (if b < a then b else a) ∧ t = σ) := by
  refine zI_ofF (ls := [some (.int a), some (.int b)]) (by decide +kernel) rfl rfl ?_
  refine za_iload_n (pc := 0) dJ9_min_7cf53_0 rfl ?_
  refine za_iload_n (pc := 1) dJ9_min_7cf53_1 rfl ?_
  refine za_icmp_gt (pc := 2) 9 dJ9_min_7cf53_2 (by decide) (fun c_2 => ?_) (fun c_2 => ?_)
  · refine za_iload_n (pc := 9) dJ9_min_7cf53_9 rfl ?_
    refine za_ri (pc := 10) dJ9_min_7cf53_10 rfl rfl rfl ?_
    exact ⟨by simp [*], rfl⟩
  · refine za_iload_n (pc := 5) dJ9_min_7cf53_5 rfl ?_
    refine za_goto (pc := 6) 10 dJ9_min_7cf53_6 (by decide) ?_
    refine za_ri (pc := 10) dJ9_min_7cf53_10 rfl rfl rfl ?_
    exact ⟨by simp [*], rfl⟩
def zus (x y : Int32) : Int32 := (x.toUInt32 >>> (y.toUInt32 &&& Int32.toUInt32 31)).toInt32
def zb1 (i : Int32) : Int32 := i - (zus i 1 &&& 1431655765)
def zb2 (i : Int32) : Int32 := (i &&& 858993459) + (zus i 2 &&& 858993459)
def zb3 (i : Int32) : Int32 := (i + zus i 4) &&& 252645135
def zb4 (i : Int32) : Int32 := i + zus i 8
def zb5 (i : Int32) : Int32 := i + zus i 16
/-- what Integer.bitCount does -/
def zbc (i : Int32) : Int32 := zb5 (zb4 (zb3 (zb2 (zb1 i)))) &&& 63
theorem tJ6_bitCount_0f7a4 {S : List zSh} {σ : zSt} {a : Int32} : zI mJ6_bitCount_0f7a4 [.int a] S σ (fun x t => x = zbc a ∧ t = σ) := by
  refine zI_ofF (ls := [some (.int a)]) (by decide +kernel) rfl rfl ?_
  refine za_iload_n (pc := 0) dJ6_bitCount_0f7a4_0 rfl ?_
  refine za_iload_n (pc := 1) dJ6_bitCount_0f7a4_1 rfl ?_
  refine za_iconst (pc := 2) (1) dJ6_bitCount_0f7a4_2 (by decide) ?_
  refine za_iushr (pc := 3) dJ6_bitCount_0f7a4_3 ?_
  refine za_ldc_w (pc := 4) (1431655765) dJ6_bitCount_0f7a4_4 k_J6_265 ?_
  refine za_iand (pc := 7) dJ6_bitCount_0f7a4_7 ?_
  refine za_isub (pc := 8) dJ6_bitCount_0f7a4_8 ?_
  refine za_is0n (pc := 9) dJ6_bitCount_0f7a4_9 rfl ?_
  refine za_iload_n (pc := 10) dJ6_bitCount_0f7a4_10 rfl ?_
  refine za_ldc_w (pc := 11) (858993459) dJ6_bitCount_0f7a4_11 k_J6_266 ?_
  refine za_iand (pc := 14) dJ6_bitCount_0f7a4_14 ?_
  refine za_iload_n (pc := 15) dJ6_bitCount_0f7a4_15 rfl ?_
  refine za_iconst (pc := 16) (2) dJ6_bitCount_0f7a4_16 (by decide) ?_
  refine za_iushr (pc := 17) dJ6_bitCount_0f7a4_17 ?_
  refine za_ldc_w (pc := 18) (858993459) dJ6_bitCount_0f7a4_18 k_J6_266 ?_
  refine za_iand (pc := 21) dJ6_bitCount_0f7a4_21 ?_
  refine za_iadd (pc := 22) dJ6_bitCount_0f7a4_22 ?_
  refine za_is0n (pc := 23) dJ6_bitCount_0f7a4_23 rfl ?_
  refine za_iload_n (pc := 24) dJ6_bitCount_0f7a4_24 rfl ?_
  refine za_iload_n (pc := 25) dJ6_bitCount_0f7a4_25 rfl ?_
  refine za_iconst (pc := 26) (4) dJ6_bitCount_0f7a4_26 (by decide) ?_
  refine za_iushr (pc := 27) dJ6_bitCount_0f7a4_27 ?_
  refine za_iadd (pc := 28) dJ6_bitCount_0f7a4_28 ?_
  refine za_ldc_w (pc := 29) (252645135) dJ6_bitCount_0f7a4_29 k_J6_267 ?_
  refine za_iand (pc := 32) dJ6_bitCount_0f7a4_32 ?_
  refine za_is0n (pc := 33) dJ6_bitCount_0f7a4_33 rfl ?_
  refine za_iload_n (pc := 34) dJ6_bitCount_0f7a4_34 rfl ?_
  refine za_iload_n (pc := 35) dJ6_bitCount_0f7a4_35 rfl ?_
  refine za_bipush (pc := 36) (8) dJ6_bitCount_0f7a4_36 (by decide) ?_
  refine za_iushr (pc := 38) dJ6_bitCount_0f7a4_38 ?_
  refine za_iadd (pc := 39) dJ6_bitCount_0f7a4_39 ?_
  refine za_is0n (pc := 40) dJ6_bitCount_0f7a4_40 rfl ?_
  refine za_iload_n (pc := 41) dJ6_bitCount_0f7a4_41 rfl ?_
  refine za_iload_n (pc := 42) dJ6_bitCount_0f7a4_42 rfl ?_
  refine za_bipush (pc := 43) (16) dJ6_bitCount_0f7a4_43 (by decide) ?_
  refine za_iushr (pc := 45) dJ6_bitCount_0f7a4_45 ?_
  refine za_iadd (pc := 46) dJ6_bitCount_0f7a4_46 ?_
  refine za_is0n (pc := 47) dJ6_bitCount_0f7a4_47 rfl ?_
  refine za_iload_n (pc := 48) dJ6_bitCount_0f7a4_48 rfl ?_
  refine za_bipush (pc := 49) (63) dJ6_bitCount_0f7a4_49 (by decide) ?_
  refine za_iand (pc := 51) dJ6_bitCount_0f7a4_51 ?_
  refine za_ri (pc := 52) dJ6_bitCount_0f7a4_52 rfl rfl rfl ?_
  exact ⟨rfl, rfl⟩
/-- Arrays.fill: the row is v up to its length, what lies beyond stays -/
theorem tJ7_fill_53178 {S : List zSh} {σ : zSt} {i N : Nat} {v : Int32} (hs : S[i]? = some (.inl N)) (hN : N < 100000) : zV mJ7_fill_53178 [.ref i, .int v] S σ (fun t => t = zrow σ i (fa_fill (fun _ => v) (σ i) N)) := by
  refine zV_ofF (ls := [some (.ref i), some (.int v), none, none]) (by decide +kernel) rfl rfl ?_
  refine za_iconst (pc := 0) (0) dJ7_fill_53178_0 (by decide) ?_
  refine za_is2n (pc := 1) dJ7_fill_53178_1 rfl ?_
  refine za_aload_n (pc := 2) dJ7_fill_53178_2 rfl ?_
  refine za_alen (pc := 3) dJ7_fill_53178_3 hs ?_
  refine za_is3n (pc := 4) dJ7_fill_53178_4 rfl ?_
  have key : ∀ (m j : Nat) (σ1 : zSt), j + m = N → σ1 = zrow σ i (fa_fill (fun _ => v) (σ i) j) → zA (zZ mJ7_fill_53178 (zQV S (fun t => t = zrow σ i (fa_fill (fun _ => v) (σ i) N)))) mJ7_fill_53178 none 0 0 5 [some (.ref i), some (.int v), some (.int (nI j)), some (.int (nI N))] [] S σ1 := by
    intro m
    induction m with
    | zero =>
      intro j σ1 hj e
      refine za_iload_n (pc := 5) dJ7_fill_53178_5 rfl ?_
      refine za_iload_n (pc := 6) dJ7_fill_53178_6 rfl ?_
      refine za_icmp_ge (pc := 7) 20 dJ7_fill_53178_7 (by decide) (fun c => ?_) (fun c => ?_)
      · refine za_rv (pc := 20) dJ7_fill_53178_20 rfl rfl rfl ?_
        rw [e, show j = N by omega]
      · exact absurd (nI_le (show N ≤ j by omega) (by omega)) c
    | succ m ih =>
      intro j σ1 hj e
      refine za_iload_n (pc := 5) dJ7_fill_53178_5 rfl ?_
      refine za_iload_n (pc := 6) dJ7_fill_53178_6 rfl ?_
      refine za_icmp_ge (pc := 7) 20 dJ7_fill_53178_7 (by decide) (fun c => ?_) (fun c => ?_)
      · exact absurd c (nI_ge (show j < N by omega) (by omega))
      · refine za_aload_n (pc := 10) dJ7_fill_53178_10 rfl ?_
        refine za_iload_n (pc := 11) dJ7_fill_53178_11 rfl ?_
        refine za_iload_n (pc := 12) dJ7_fill_53178_12 rfl ?_
        refine za_iast (pc := 13) dJ7_fill_53178_13 hs (vp_in_nI (show j < N by omega) (by omega)) ?_
        refine za_ii2 (pc := 14) (1) dJ7_fill_53178_14 (by decide) rfl ?_
        refine za_goto (pc := 17) 5 dJ7_fill_53178_17 (by decide) ?_
        rw [nI_1]
        refine ih (j + 1) _ (by omega) ?_
        rw [e, nI_clamp (by omega), zup, zrow_s, zrow_zrow, fa_fill_succ (fun _ => v)]
  exact key N 0 σ (by omega) (by rw [fa_fill_0, zrow_id])
