/-! numbers and frames that all methods use -/
theorem fa_lt (a b : Int32) : a < b ↔ a.toInt < b.toInt := Int32.lt_iff_toInt_lt
theorem fa_le (a b : Int32) : a ≤ b ↔ a.toInt ≤ b.toInt := Int32.le_iff_toInt_le
theorem fa_eq (a b : Int32) : a = b ↔ a.toInt = b.toInt := Int32.toInt_inj.symm
theorem fa_wide_le (a b : Int32) : a.toInt64 ≤ b.toInt64 ↔ a ≤ b := by rw [Int64.le_iff_toInt_le, fa_le, Int32.toInt_toInt64, Int32.toInt_toInt64]
theorem fb_rng (x : Int32) : -2147483648 ≤ x.toInt ∧ x.toInt < 2147483648 := ⟨Int32.le_toInt x, Int32.toInt_lt x⟩
theorem fb_bmod {z : Int} (h1 : -2147483648 ≤ z) (h2 : z < 2147483648) : z.bmod (2 ^ 32) = z := by rw [Int.bmod_def]; split <;> omega
theorem fb_addI {x y : Int32} (h1 : -2147483648 ≤ x.toInt + y.toInt) (h2 : x.toInt + y.toInt < 2147483648) : (x + y).toInt = x.toInt + y.toInt := by rw [Int32.toInt_add, fb_bmod h1 h2]
theorem fb_subI {x y : Int32} (h1 : -2147483648 ≤ x.toInt - y.toInt) (h2 : x.toInt - y.toInt < 2147483648) : (x - y).toInt = x.toInt - y.toInt := by rw [Int32.toInt_sub, fb_bmod h1 h2]
theorem zup_n {σ : zSt} {c c' i : Nat} {v : Int32} (h : c' ≠ c) : zup σ c i v c' = σ c' := zrow_n h
theorem zup_s {σ : zSt} {c i : Nat} {v : Int32} : zup σ c i v c = upd (σ c) i v := zrow_s
theorem zup_a {σ : zSt} {c i : Nat} {v : Int32} : zup σ c i v c i = v := by rw [zup_s]; exact pk_us
theorem zup_b {σ : zSt} {c i j : Nat} {v : Int32} (h : j ≠ i) : zup σ c i v c j = σ c j := by rw [zup_s]; exact pk_un h
/-- a number from 0 to N is some nI j -/
theorem zix {x : Int32} {N : Nat} (h0 : 0 ≤ x) (h : x < nI N) (hN : N < 2 ^ 31) : ∃ j, j < N ∧ x = nI j := by
  rw [fa_le] at h0
  rw [fa_lt, nI_toInt hN] at h
  have h0 : 0 ≤ x.toInt := h0
  have hv : vp_in x N := vp_in_iff.mpr ⟨h0, h⟩
  exact vp_in_of hv hN
theorem SHlen : SH.length = 68 := rfl
theorem SHb {j : Nat} (h : j < 6) : SH[35 + 2 * j]? = some (.inr (.inr (4, [some (some (36 + 2 * j)), none, none]))) := by
  match j, h with
  | 0, _ => rfl
  | 1, _ => rfl
  | 2, _ => rfl
  | 3, _ => rfl
  | 4, _ => rfl
  | 5, _ => rfl
theorem SHr {j : Nat} (h : j < 6) : SH[36 + 2 * j]? = some (.inl 16) := by
  match j, h with
  | 0, _ => rfl
  | 1, _ => rfl
  | 2, _ => rfl
  | 3, _ => rfl
  | 4, _ => rfl
  | 5, _ => rfl
theorem SHa {j : Nat} (h : j < 6) : ([some 35, some 37, some 39, some 41, some 43, some 45] : List (Option Nat))[(nI j).toNatClampNeg]? = some (some (35 + 2 * j)) := by
  rw [nI_clamp (by omega)]
  match j, h with
  | 0, _ => rfl
  | 1, _ => rfl
  | 2, _ => rfl
  | 3, _ => rfl
  | 4, _ => rfl
  | 5, _ => rfl
theorem zokR {j : Nat} (h : j < 68) : zokv SH.length (.ref j) = true := by simp [zokv, SHlen, h]
theorem zokI {N : Nat} {x : Int32} : zokv N (.int x) = true := rfl
theorem zokS {N : Nat} {v : Value} : zoko N (some v) = zokv N v := rfl
theorem zokN {N : Nat} : zoko N none = true := rfl
/-! the sheets of the class -/
def ShOk (sk : Nat → Int32) (sz : Nat → Nat) : Prop := ∀ j, j < 6 → sz j ≤ 16 ∧ (sk j = -1 ∨ sk j = 0 ∨ sk j = 1 ∨ sk j = 2)
def XSh (σ : zSt) (sk : Nat → Int32) (sz : Nat → Nat) (sv : Nat → Nat → Int32) : Prop := ∀ j, j < 6 → σ (35 + 2 * j) 1 = sk j ∧ σ (35 + 2 * j) 2 = nI (sz j) ∧ ∀ i, i < 16 → σ (36 + 2 * j) i = sv j i
def MSh (σ : zSt) (sk : Nat → Int32) (sz : Nat → Nat) (sv : Nat → Nat → Int32) : Prop := ∀ j, j < 6 → σ 48 j = sk j ∧ σ 49 j = nI (sz j) ∧ ∀ i, i < 16 → σ 50 (16 * j + i) = sv j i
theorem tX6_isSheet {S : List zSh} {σ : zSt} {r : Int32} : zI mX6_isSheet [.int r] S σ (fun x t => x = (if 0 ≤ r ∧ r < 6 then 1 else 0) ∧ t = σ) := by
  refine zI_of (ls := [some (.int r)]) (by decide) rfl rfl ?_
  refine za_iload_n (pc := 0) dX6_isSheet_0 rfl ?_
  refine za_if_lt (pc := 1) 14 dX6_isSheet_1 (by decide) (fun c_1 => ?_) (fun c_1 => ?_)
  · refine za_iconst (pc := 14) (0) dX6_isSheet_14 (by decide) ?_
    refine za_rz (pc := 15) dX6_isSheet_15 rfl rfl rfl rfl ?_
    refine ⟨?_, rfl⟩; simp only [fa_lt, fa_le] at *; simp only [show (0 : Int32).toInt = 0 from rfl, show (6 : Int32).toInt = 6 from rfl] at *; first | rw [if_pos (by omega)] | rw [if_neg (by omega)]
  · refine za_iload_n (pc := 4) dX6_isSheet_4 rfl ?_
    refine za_bipush (pc := 5) (6) dX6_isSheet_5 (by decide) ?_
    refine za_icmp_ge (pc := 7) 14 dX6_isSheet_7 (by decide) (fun c_7 => ?_) (fun c_7 => ?_)
    · refine za_iconst (pc := 14) (0) dX6_isSheet_14 (by decide) ?_
      refine za_rz (pc := 15) dX6_isSheet_15 rfl rfl rfl rfl ?_
      refine ⟨?_, rfl⟩; simp only [fa_lt, fa_le] at *; simp only [show (0 : Int32).toInt = 0 from rfl, show (6 : Int32).toInt = 6 from rfl] at *; first | rw [if_pos (by omega)] | rw [if_neg (by omega)]
    · refine za_iconst (pc := 10) (1) dX6_isSheet_10 (by decide) ?_
      refine za_goto (pc := 11) 15 dX6_isSheet_11 (by decide) ?_
      refine za_rz (pc := 15) dX6_isSheet_15 rfl rfl rfl rfl ?_
      refine ⟨?_, rfl⟩; simp only [fa_lt, fa_le] at *; simp only [show (0 : Int32).toInt = 0 from rfl, show (6 : Int32).toInt = 6 from rfl] at *; first | rw [if_pos (by omega)] | rw [if_neg (by omega)]
theorem tX4_become {σ : zSt} {j : Nat} {kd p : Int32} (hj : j < 6) : zV mX4_become [.ref (35 + 2 * j), .int kd, .int p] SH σ (fun t => t = zrow (zup (zup σ (35 + 2 * j) 1 kd) (35 + 2 * j) 2 p) (36 + 2 * j) (fa_fill (fun _ => 0) (σ (36 + 2 * j)) 16)) := by
  have hb := SHb hj
  have hr := SHr hj
  refine zV_of (ls := [some (.ref (35 + 2 * j)), some (.int kd), some (.int p)]) (by decide) rfl rfl ?_
  refine za_aload_n (pc := 0) dX4_become_0 rfl ?_
  refine za_iload_n (pc := 1) dX4_become_1 rfl ?_
  refine za_putI (pc := 2) dX4_become_2 lp_X4_15 hb rfl ?_
  refine za_aload_n (pc := 5) dX4_become_5 rfl ?_
  refine za_iload_n (pc := 6) dX4_become_6 rfl ?_
  refine za_putI (pc := 7) dX4_become_7 lp_X4_19 hb rfl ?_
  refine za_aload_n (pc := 10) dX4_become_10 rfl ?_
  refine za_getR (pc := 11) dX4_become_11 lk_X4_9 hb rfl ?_
  refine za_iconst (pc := 14) (0) dX4_become_14 (by decide) ?_
  refine za_cS2v (pc := 15) (μ' := mJ7_fill_53178) dX4_become_15 c_X4_22 rfl ⟨rfl, rfl⟩ ⟨rfl, rfl⟩ rfl (by simp [zokS, zokI, zokR (show 35 + 2 * j < 68 by omega)]) rfl (tJ7_fill_53178 hr (by omega)) (fun t_15 h_15 => ?_)
  have h9 := h_15.symm
  subst h9
  refine za_rv (pc := 18) dX4_become_18 rfl rfl rfl ?_
  rw [zup_n (by omega), zup_n (by omega)]
theorem tX4_isMissing {σ : zSt} {j : Nat} (hj : j < 6) : zI mX4_isMissing [.ref (35 + 2 * j)] SH σ (fun x t => x = (if σ (35 + 2 * j) 1 = -1 then 1 else 0) ∧ t = σ) := by
  have hb := SHb hj
  refine zI_of (ls := [some (.ref (35 + 2 * j))]) (by decide) rfl rfl ?_
  refine za_aload_n (pc := 0) dX4_isMissing_0 rfl ?_
  refine za_getI (pc := 1) dX4_isMissing_1 lk_X4_15 hb rfl ?_
  refine za_iconst (pc := 4) (-1) dX4_isMissing_4 (by decide) ?_
  refine za_icmp_ne (pc := 5) 12 dX4_isMissing_5 (by decide) (fun c_5 => ?_) (fun c_5 => ?_)
  · refine za_iconst (pc := 12) (0) dX4_isMissing_12 (by decide) ?_
    refine za_rz (pc := 13) dX4_isMissing_13 rfl rfl rfl rfl ?_
    exact ⟨by simp [*], rfl⟩
  · refine za_iconst (pc := 8) (1) dX4_isMissing_8 (by decide) ?_
    refine za_goto (pc := 9) 13 dX4_isMissing_9 (by decide) ?_
    refine za_rz (pc := 13) dX4_isMissing_13 rfl rfl rfl rfl ?_
    exact ⟨by simp [*], rfl⟩
theorem tX4_hasPlaces {σ : zSt} {j s : Nat} {i n : Int32} (hj : j < 6) (hs : σ (35 + 2 * j) 2 = nI s) (hs16 : s ≤ 16) : zI mX4_hasPlaces [.ref (35 + 2 * j), .int i, .int n] SH σ (fun x t => x = (if 0 ≤ i.toInt ∧ 0 ≤ n.toInt ∧ i.toInt + n.toInt ≤ s then 1 else 0) ∧ t = σ) := by
  have hb := SHb hj
  have e0 : (0 : Int32).toInt = 0 := rfl
  have hi := fb_rng i
  have hn := fb_rng n
  have es : (nI s).toInt = s := nI_toInt (by omega)
  refine zI_of (ls := [some (.ref (35 + 2 * j)), some (.int i), some (.int n)]) (by decide) rfl rfl ?_
  refine za_iload_n (pc := 0) dX4_hasPlaces_0 rfl ?_
  refine za_if_lt (pc := 1) 22 dX4_hasPlaces_1 (by decide) (fun c1 => ?_) (fun c1 => ?_)
  · refine za_iconst (pc := 22) (0) dX4_hasPlaces_22 (by decide) ?_
    refine za_rz (pc := 23) dX4_hasPlaces_23 rfl rfl rfl rfl ?_
    rw [fa_lt, e0] at c1
    exact ⟨(if_neg (by omega)).symm, rfl⟩
  · refine za_iload_n (pc := 4) dX4_hasPlaces_4 rfl ?_
    refine za_if_lt (pc := 5) 22 dX4_hasPlaces_5 (by decide) (fun c2 => ?_) (fun c2 => ?_)
    · refine za_iconst (pc := 22) (0) dX4_hasPlaces_22 (by decide) ?_
      refine za_rz (pc := 23) dX4_hasPlaces_23 rfl rfl rfl rfl ?_
      rw [fa_lt, e0] at c2
      exact ⟨(if_neg (by omega)).symm, rfl⟩
    · rw [fa_lt, e0] at c1 c2
      refine za_iload_n (pc := 8) dX4_hasPlaces_8 rfl ?_
      refine za_aload_n (pc := 9) dX4_hasPlaces_9 rfl ?_
      refine za_getI (pc := 10) dX4_hasPlaces_10 lk_X4_19 hb rfl ?_
      refine za_iload_n (pc := 13) dX4_hasPlaces_13 rfl ?_
      refine za_isub (pc := 14) dX4_hasPlaces_14 ?_
      refine za_icmp_gt (pc := 15) 22 dX4_hasPlaces_15 (by decide) (fun c3 => ?_) (fun c3 => ?_)
      · refine za_iconst (pc := 22) (0) dX4_hasPlaces_22 (by decide) ?_
        refine za_rz (pc := 23) dX4_hasPlaces_23 rfl rfl rfl rfl ?_
        rw [hs, fa_lt, fb_subI (by omega) (by omega), es] at c3
        exact ⟨(if_neg (by omega)).symm, rfl⟩
      · refine za_iconst (pc := 18) (1) dX4_hasPlaces_18 (by decide) ?_
        refine za_goto (pc := 19) 23 dX4_hasPlaces_19 (by decide) ?_
        refine za_rz (pc := 23) dX4_hasPlaces_23 rfl rfl rfl rfl ?_
        rw [hs, fa_lt, fb_subI (by omega) (by omega), es] at c3
        exact ⟨(if_pos (by omega)).symm, rfl⟩
/-- what a sheet of kind k keeps of v -/
def cutv (k v : Int32) : Int32 := if k = 0 then v.toInt8.toInt32 else if k = 1 then v.toInt16.toInt32 else v
theorem tX4_cut {σ : zSt} {j : Nat} {v : Int32} (hj : j < 6) : zI mX4_cut [.ref (35 + 2 * j), .int v] SH σ (fun x t => x = cutv (σ (35 + 2 * j) 1) v ∧ t = σ) := by
  have hb := SHb hj
  refine zI_of (ls := [some (.ref (35 + 2 * j)), some (.int v)]) (by decide) rfl rfl ?_
  refine za_aload_n (pc := 0) dX4_cut_0 rfl ?_
  refine za_getI (pc := 1) dX4_cut_1 lk_X4_15 hb rfl ?_
  by_cases h0 : σ (35 + 2 * j) 1 = 0
  · refine za_lookup (pc := 4) (off := 28) 32 dX4_cut_4 rfl (by rw [h0]; rfl) (by decide) ?_
    refine za_iload_n (pc := 32) dX4_cut_32 rfl ?_
    refine za_i2b (pc := 33) dX4_cut_33 ?_
    refine za_ri (pc := 34) dX4_cut_34 rfl rfl rfl ?_
    exact ⟨by rw [cutv, if_pos h0], rfl⟩
  · by_cases h1 : σ (35 + 2 * j) 1 = 1
    · refine za_lookup (pc := 4) (off := 31) 35 dX4_cut_4 rfl (by rw [h1]; rfl) (by decide) ?_
      refine za_iload_n (pc := 35) dX4_cut_35 rfl ?_
      refine za_i2s (pc := 36) dX4_cut_36 ?_
      refine za_ri (pc := 37) dX4_cut_37 rfl rfl rfl ?_
      exact ⟨by rw [cutv, if_neg h0, if_pos h1], rfl⟩
    · refine za_lookup (pc := 4) (off := 34) 38 dX4_cut_4 rfl ((lv_osw (k := 0) h0 rfl).trans ((lv_osw (k := 1) h1 rfl).trans rfl)) (by decide) ?_
      refine za_iload_n (pc := 38) dX4_cut_38 rfl ?_
      refine za_ri (pc := 39) dX4_cut_39 rfl rfl rfl ?_
      exact ⟨by rw [cutv, if_neg h0, if_neg h1], rfl⟩
theorem tX4_write {σ : zSt} {j i : Nat} {v : Int32} (hj : j < 6) (hi : i < 16) : zV mX4_write [.ref (35 + 2 * j), .int (nI i), .int v] SH σ (fun t => t = zup σ (36 + 2 * j) i (cutv (σ (35 + 2 * j) 1) v)) := by
  have hb := SHb hj
  have hr := SHr hj
  refine zV_of (ls := [some (.ref (35 + 2 * j)), some (.int (nI i)), some (.int v)]) (by decide) rfl rfl ?_
  refine za_aload_n (pc := 0) dX4_write_0 rfl ?_
  refine za_getR (pc := 1) dX4_write_1 lk_X4_9 hb rfl ?_
  refine za_iload_n (pc := 4) dX4_write_4 rfl ?_
  refine za_aload_n (pc := 5) dX4_write_5 rfl ?_
  refine za_iload_n (pc := 6) dX4_write_6 rfl ?_
  refine za_cV1i (pc := 7) (μ' := mX4_cut) dX4_write_7 c_X4_28 hb rfl rfl ⟨rfl, rfl⟩ ⟨rfl, rfl⟩ rfl (by simp [zokS, zokI, zokR (show 35 + 2 * j < 68 by omega)]) (by simp [zokI, zokR (show 36 + 2 * j < 68 by omega)]) (tX4_cut hj) (fun x_7 t_7 h_7 => ?_)
  obtain ⟨rfl, h9⟩ := h_7
  have h9 := h9.symm
  subst h9
  refine za_iast (pc := 10) dX4_write_10 hr (vp_in_nI hi (by omega)) ?_
  refine za_rv (pc := 11) dX4_write_11 rfl rfl rfl ?_
  rw [nI_clamp (by omega)]
