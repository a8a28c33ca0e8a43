/-! the jobs: a core is their number, KINDS, BEGINS, ENDS, BENCHES, and who waits for whom; H is the row of cores, H m the present one -/
abbrev Core : Type := Nat × (Nat → Int32) × (Nat → Int32) × (Nat → Int32) × (Nat → Int32) × (Nat → Nat → Bool)
abbrev cN (c : Core) : Nat := c.1
abbrev cK (c : Core) : Nat → Int32 := c.2.1
abbrev cB (c : Core) : Nat → Int32 := c.2.2.1
abbrev cE (c : Core) : Nat → Int32 := c.2.2.2.1
abbrev cH (c : Core) : Nat → Int32 := c.2.2.2.2.1
abbrev cW (c : Core) : Nat → Nat → Bool := c.2.2.2.2.2
abbrev isHr (a : Int32) : Prop := 1 ≤ a ∧ a ≤ 40
abbrev kdOk (k a b : Int32) : Prop := k = 0 ∨ (k = 1 ∧ isHr a) ∨ (k = 2 ∧ isHr a ∧ isHr b ∧ a ≤ b) ∨ (k = 3 ∧ (a = 0 ∨ a = 1))
def xB (v : Int32) : Int32 := if v = -3 then 1 else v
def xE (v : Int32) : Int32 := if v = -3 then 64 else v
def XCore (σ : zSt) (c : Core) : Prop := σ 2 5 = nI (cN c) ∧ (∀ a, a < cN c → σ 3 a = cK c a ∧ σ 4 a = xB (cB c a) ∧ σ 5 a = xE (cE c a) ∧ σ 6 a = cH c a ∧ σ 7 a = zmask (cW c a)) ∧ σ 4 10 = 1 ∧ σ 5 10 = 64 ∧ σ 6 10 = -3
def MCore (σ : zSt) (c : Core) : Prop := σ 47 3 = nI (cN c) ∧ ∀ a, a < cN c → σ 51 a = cK c a ∧ σ 52 a = cB c a ∧ σ 53 a = cE c a ∧ σ 54 a = cH c a ∧ σ 55 a = zmask (cW c a)
/-- what the kinds of a core are like -/
def kOk (k b e h : Int32) : Prop := (k = 0 ∧ b = -3 ∧ e = -3 ∧ h = -3) ∨ (k = 1 ∧ b = -3 ∧ isHr e ∧ h = -3) ∨ (k = 2 ∧ isHr b ∧ isHr e ∧ b ≤ e ∧ h = -3) ∨ (k = 3 ∧ b = -3 ∧ e = -3 ∧ (h = 0 ∨ h = 1))
/-- BEHIND, by Warshall's rounds -/
def wR (w : Nat → Nat → Bool) : Nat → Nat → Nat → Bool
  | 0 => w
  | c + 1 => fun a b => wR w c a b || (wR w c a c && wR w c c b)
abbrev bhd (c : Core) : Nat → Nat → Bool := wR (cW c) (cN c)
def cOk (c : Core) : Prop := cN c ≤ 10 ∧ (∀ a, a < cN c → kOk (cK c a) (cB c a) (cE c a) (cH c a)) ∧ (∀ a b, a < cN c → cW c a b = true → b < cN c) ∧ ∀ a, a < cN c → bhd c a a = false
/-- the log's entry (j, w0) leads from nx back to pv -/
def undoR (j w0 : Int32) (nx pv : Core) : Prop :=
  (j = 10 ∧ cN nx = cN pv + 1 ∧ ∀ a, a < cN pv → cK nx a = cK pv a ∧ cB nx a = cB pv a ∧ cE nx a = cE pv a ∧ cH nx a = cH pv a ∧ ∀ i, i < 16 → cW nx a i = cW pv a i) ∨
  ∃ q, q < cN pv ∧ j = nI q ∧ w0 = zmask (cW pv q) ∧ cN nx = cN pv ∧ ∀ a, a < cN pv → cK nx a = cK pv a ∧ cB nx a = cB pv a ∧ cE nx a = cE pv a ∧ cH nx a = cH pv a ∧ (a ≠ q → ∀ i, i < 16 → cW nx a i = cW pv a i)
def XHist (σ : zSt) (m : Nat) (H : Nat → Core) : Prop := σ 2 6 = nI m ∧ ∀ k, k < m → undoR (σ 8 k) (σ 9 k) (H (k + 1)) (H k)
def Snap (σ : zSt) (k : Nat) (c : Core) : Prop := σ 56 (51 * k) = nI (cN c) ∧ ∀ a, a < cN c → σ 56 (51 * k + (1 + 5 * a)) = cK c a ∧ σ 56 (51 * k + (2 + 5 * a)) = cB c a ∧ σ 56 (51 * k + (3 + 5 * a)) = cE c a ∧ σ 56 (51 * k + (4 + 5 * a)) = cH c a ∧ σ 56 (51 * k + (5 + 5 * a)) = zmask (cW c a)
def MHist (σ : zSt) (m : Nat) (H : Nat → Core) : Prop := σ 47 9 = nI m ∧ ∀ k, k < m → Snap σ k (H k)
def JOk (m : Nat) (H : Nat → Core) : Prop := m ≤ 20 ∧ ∀ k, k ≤ m → cOk (H k)
def pushN (m : Nat) : Nat := if m = 20 then 20 else m + 1
def pushH (m : Nat) (H : Nat → Core) (c : Core) : Nat → Core := if m = 20 then (fun k => if k < 20 then H (k + 1) else c) else (fun k => if k ≤ m then H k else c)
theorem push_top {m : Nat} {H : Nat → Core} {c : Core} : pushH m H c (pushN m) = c := by
  unfold pushH pushN
  by_cases h : m = 20
  · simp [h]
  · rw [if_neg h, if_neg h, if_neg (by omega)]
theorem push_ok {m : Nat} {H : Nat → Core} {c : Core} (h : JOk m H) (hc : cOk c) : JOk (pushN m) (pushH m H c) := by
  obtain ⟨h1, h2⟩ := h
  unfold pushH pushN
  by_cases e : m = 20
  · rw [if_pos e, if_pos e]
    refine ⟨by omega, fun k hk => ?_⟩
    by_cases hk2 : k < 20
    · simp only [if_pos hk2]; exact h2 _ (by omega)
    · simp only [if_neg hk2]; exact hc
  · rw [if_neg e, if_neg e]
    refine ⟨by omega, fun k hk => ?_⟩
    by_cases hk2 : k ≤ m
    · simp only [if_pos hk2]; exact h2 _ hk2
    · simp only [if_neg hk2]; exact hc
theorem tX5_has {σ : zSt} {a : Int32} {n : Nat} (hn : σ 2 5 = nI n) : zI mX5_has [.ref 2, .int a] SH σ (fun x t => x = (if 0 ≤ a ∧ a < nI n then 1 else 0) ∧ t = σ) := by
  refine zI_of (ls := [some (.ref 2), some (.int a)]) (by decide) rfl rfl ?_
  refine za_iload_n (pc := 0) dX5_has_0 rfl ?_
  refine za_if_lt (pc := 1) 16 dX5_has_1 (by decide) (fun c1 => ?_) (fun c1 => ?_)
  · refine za_iconst (pc := 16) (0) dX5_has_16 (by decide) ?_
    refine za_rz (pc := 17) dX5_has_17 rfl rfl rfl rfl ?_
    exact ⟨(if_neg (fun q => by rw [fa_lt] at c1; have := q.1; rw [fa_le] at this; omega)).symm, rfl⟩
  · refine za_iload_n (pc := 4) dX5_has_4 rfl ?_
    refine za_aload_n (pc := 5) dX5_has_5 rfl ?_
    refine za_getI (pc := 6) dX5_has_6 lk_X5_27 rfl rfl ?_
    rw [hn]
    refine za_icmp_ge (pc := 9) 16 dX5_has_9 (by decide) (fun c9 => ?_) (fun c9 => ?_)
    · refine za_iconst (pc := 16) (0) dX5_has_16 (by decide) ?_
      refine za_rz (pc := 17) dX5_has_17 rfl rfl rfl rfl ?_
      exact ⟨(if_neg (fun q => by rw [fa_le] at c9; have := q.2; rw [fa_lt] at this; omega)).symm, rfl⟩
    · refine za_iconst (pc := 12) (1) dX5_has_12 (by decide) ?_
      refine za_goto (pc := 13) 17 dX5_has_13 (by decide) ?_
      refine za_rz (pc := 17) dX5_has_17 rfl rfl rfl rfl ?_
      exact ⟨(if_pos ⟨by rw [fa_le]; rw [fa_lt] at c1; omega, by rw [fa_lt]; rw [fa_le] at c9; omega⟩).symm, rfl⟩
theorem tX5_all {σ : zSt} {n : Nat} (hn : σ 2 5 = nI n) (h : n ≤ 10) : zI mX5_all [.ref 2] SH σ (fun x t => x = zmask (fun i => decide (i < n)) ∧ t = σ) := by
  refine zI_of (ls := [some (.ref 2)]) (by decide) rfl rfl ?_
  refine za_aload_n (pc := 0) dX5_all_0 rfl ?_
  refine za_getI (pc := 1) dX5_all_1 lk_X5_27 rfl rfl ?_
  refine za_cSN1i (pc := 4) (μ' := mX6_bit) dX5_all_4 c_X5_49 rfl ⟨rfl, rfl⟩ ⟨rfl, rfl⟩ rfl rfl rfl (tX6_bit) (fun x_4 t_4 h_4 => ?_)
  obtain ⟨rfl, h9⟩ := h_4
  have h9 := h9.symm
  subst h9
  refine za_iconst (pc := 7) (1) dX5_all_7 (by decide) ?_
  refine za_isub (pc := 8) dX5_all_8 ?_
  refine za_ri (pc := 9) dX5_all_9 rfl rfl rfl ?_
  exact ⟨by rw [hn, zm_all (by omega)], rfl⟩
theorem tX5_note {σ : zSt} {m : Nat} {j w0 : Int32} (hm : σ 2 6 = nI m) (h : m ≤ 20) : zV mX5_note [.ref 2, .int j, .int w0] SH σ (fun t => (∀ c, c ≠ 2 → c ≠ 8 → c ≠ 9 → t c = σ c) ∧ (∀ i, i ≠ 6 → i ≠ 7 → t 2 i = σ 2 i) ∧ t 2 6 = nI (pushN m) ∧ t 2 7 = σ 2 7 + 1 ∧ (∀ k, k + 1 < pushN m → t 8 k = (if m = 20 then σ 8 (k + 1) else σ 8 k) ∧ t 9 k = (if m = 20 then σ 9 (k + 1) else σ 9 k)) ∧ t 8 (pushN m - 1) = j ∧ t 9 (pushN m - 1) = w0) := by
  have tail : ∀ (σ1 : zSt) (p : Nat), p < 20 → σ1 2 6 = nI p → zA (zZ mX5_note (zQV SH (fun t => t = zup (zup (zup (zup σ1 8 p j) 9 p w0) 2 6 (nI (p + 1))) 2 7 (σ1 2 7 + 1)))) mX5_note none 0 0 53 [some (.ref 2), some (.int j), some (.int w0)] [] SH σ1 := by
    intro σ1 p hp h6
    refine za_aload_n (pc := 53) dX5_note_53 rfl ?_
    refine za_getR (pc := 54) dX5_note_54 lk_X5_37 rfl rfl ?_
    refine za_aload_n (pc := 57) dX5_note_57 rfl ?_
    refine za_getI (pc := 58) dX5_note_58 lk_X5_31 rfl rfl ?_
    refine za_iload_n (pc := 61) dX5_note_61 rfl ?_
    rw [h6]
    refine za_iast (pc := 62) dX5_note_62 rfl (vp_in_nI hp (by decide)) ?_
    refine za_aload_n (pc := 63) dX5_note_63 rfl ?_
    refine za_getR (pc := 64) dX5_note_64 lk_X5_40 rfl rfl ?_
    refine za_aload_n (pc := 67) dX5_note_67 rfl ?_
    refine za_getI (pc := 68) dX5_note_68 lk_X5_31 rfl rfl ?_
    refine za_iload_n (pc := 71) dX5_note_71 rfl ?_
    rw [zup_n (by decide), h6, nI_clamp (by omega)]
    refine za_iast (pc := 72) dX5_note_72 rfl (vp_in_nI hp (by decide)) ?_
    refine za_aload_n (pc := 73) dX5_note_73 rfl ?_
    refine za_dup (pc := 74) dX5_note_74 rfl ?_
    refine za_getI (pc := 75) dX5_note_75 lk_X5_31 rfl rfl ?_
    refine za_iconst (pc := 78) (1) dX5_note_78 (by decide) ?_
    refine za_iadd (pc := 79) dX5_note_79 ?_
    refine za_putI (pc := 80) dX5_note_80 lp_X5_31 rfl rfl ?_
    refine za_aload_n (pc := 83) dX5_note_83 rfl ?_
    refine za_dup (pc := 84) dX5_note_84 rfl ?_
    refine za_getI (pc := 85) dX5_note_85 lk_X5_34 rfl rfl ?_
    refine za_iconst (pc := 88) (1) dX5_note_88 (by decide) ?_
    refine za_iadd (pc := 89) dX5_note_89 ?_
    refine za_putI (pc := 90) dX5_note_90 lp_X5_34 rfl rfl ?_
    refine za_rv (pc := 93) dX5_note_93 rfl rfl rfl ?_
    rw [nI_clamp (by omega)]
    have e1 : zup (zup σ1 8 p j) 9 p w0 2 6 = nI p := by rw [zup_n (by decide), zup_n (by decide), h6]
    rw [e1, nI_1]
    have e2 : zup (zup (zup σ1 8 p j) 9 p w0) 2 6 (nI (p + 1)) 2 7 = σ1 2 7 := by rw [zup_b (by decide), zup_n (by decide), zup_n (by decide)]
    rw [e2]
  refine zV_of (ls := [some (.ref 2), some (.int j), some (.int w0)]) (by decide) rfl rfl ?_
  refine za_aload_n (pc := 0) dX5_note_0 rfl ?_
  refine za_getI (pc := 1) dX5_note_1 lk_X5_31 rfl rfl ?_
  refine za_bipush (pc := 4) (20) dX5_note_4 (by decide) ?_
  rw [hm]
  refine za_icmp_ne (pc := 6) 53 dX5_note_6 (by decide) (fun c6 => ?_) (fun c6 => ?_)
  · have hm20 : m ≠ 20 := fun e => c6 (by rw [e]; rfl)
    refine zA_mono (tail σ m (by omega) hm) ?_
    intro v S' t ⟨e1, e2, e3⟩
    refine ⟨e1, e2, ?_⟩
    rw [e3]
    have ep : pushN m = m + 1 := if_neg hm20
    rw [ep]
    refine ⟨fun c h2 h8 h9 => ?_, fun i h6 h7 => ?_, ?_, ?_, fun k hk => ⟨?_, ?_⟩, ?_, ?_⟩
    · rw [zup_n h2, zup_n h2, zup_n h9, zup_n h8]
    · rw [zup_b h7, zup_b h6, zup_n (by decide), zup_n (by decide)]
    · rw [zup_b (by decide), zup_a]
    · rw [zup_a]
    · rw [if_neg hm20, zup_n (by decide), zup_n (by decide), zup_n (by decide), zup_b (by omega)]
    · rw [if_neg hm20, zup_n (by decide), zup_n (by decide), zup_b (by omega), zup_n (by decide)]
    · rw [zup_n (by decide), zup_n (by decide), zup_n (by decide), Nat.add_sub_cancel, zup_a]
    · rw [zup_n (by decide), zup_n (by decide), Nat.add_sub_cancel, zup_a]
  · have hm20 : m = 20 := (nI_eq (by omega) (by decide)).mp c6
    subst hm20
    refine za_aload_n (pc := 9) dX5_note_9 rfl ?_
    refine za_dup (pc := 10) dX5_note_10 rfl ?_
    refine za_getI (pc := 11) dX5_note_11 lk_X5_31 rfl rfl ?_
    refine za_iconst (pc := 14) (1) dX5_note_14 (by decide) ?_
    refine za_isub (pc := 15) dX5_note_15 ?_
    refine za_putI (pc := 16) dX5_note_16 lp_X5_31 rfl rfl ?_
    refine za_aload_n (pc := 19) dX5_note_19 rfl ?_
    refine za_getR (pc := 20) dX5_note_20 lk_X5_37 rfl rfl ?_
    refine za_iconst (pc := 23) (1) dX5_note_23 (by decide) ?_
    refine za_aload_n (pc := 24) dX5_note_24 rfl ?_
    refine za_getR (pc := 25) dX5_note_25 lk_X5_37 rfl rfl ?_
    refine za_iconst (pc := 28) (0) dX5_note_28 (by decide) ?_
    refine za_aload_n (pc := 29) dX5_note_29 rfl ?_
    refine za_getI (pc := 30) dX5_note_30 lk_X5_31 rfl rfl ?_
    have e19 : zup σ 2 6 (nI 20 - 1) 2 6 = nI 19 := by rw [zup_a]; rfl
    rw [show σ 2 6 = nI 20 from hm] at *
    rw [e19]
    refine za_copy (pc := 33) dX5_note_33 ac_X5_66 rfl rfl (by decide) (by decide) (by decide) (by decide) (by decide) (by decide) (by decide) ?_
    refine za_aload_n (pc := 36) dX5_note_36 rfl ?_
    refine za_getR (pc := 37) dX5_note_37 lk_X5_40 rfl rfl ?_
    refine za_iconst (pc := 40) (1) dX5_note_40 (by decide) ?_
    refine za_aload_n (pc := 41) dX5_note_41 rfl ?_
    refine za_getR (pc := 42) dX5_note_42 lk_X5_40 rfl rfl ?_
    refine za_iconst (pc := 45) (0) dX5_note_45 (by decide) ?_
    refine za_aload_n (pc := 46) dX5_note_46 rfl ?_
    refine za_getI (pc := 47) dX5_note_47 lk_X5_31 rfl rfl ?_
    rw [zrow_n (by decide), e19]
    refine za_copy (pc := 50) dX5_note_50 ac_X5_66 rfl rfl (by decide) (by decide) (by decide) (by decide) (by decide) (by decide) (by decide) ?_
    refine zA_mono (tail _ 19 (by decide) (by rw [zrow_n (by decide), zrow_n (by decide), e19])) ?_
    intro v S' t ⟨e1, e2, e3⟩
    refine ⟨e1, e2, ?_⟩
    rw [e3]
    have ep : pushN 20 = 20 := if_pos rfl
    rw [ep]
    refine ⟨fun c h2 h8 h9 => ?_, fun i h6 h7 => ?_, ?_, ?_, fun k hk => ⟨?_, ?_⟩, ?_, ?_⟩
    · rw [zup_n h2, zup_n h2, zup_n h9, zup_n h8, zrow_n h9, zrow_n h8, zup_n h2]
    · rw [zup_b h7, zup_b h6, zup_n (by decide), zup_n (by decide), zrow_n (by decide), zrow_n (by decide), zup_b h6]
    · rw [zup_b (by decide), zup_a]
    · rw [zup_a, zrow_n (by decide), zrow_n (by decide), zup_b (by decide)]
    · rw [if_pos rfl, zup_n (by decide), zup_n (by decide), zup_n (by decide), zup_b (by omega), zrow_n (by decide), zrow_s]
      unfold va_cpy
      rw [if_pos ⟨Nat.zero_le _, by show k < 0 + 19; omega⟩, zup_n (by decide)]
      show σ 8 (1 + (k - 0)) = _
      congr 1
      omega
    · rw [if_pos rfl, zup_n (by decide), zup_n (by decide), zup_b (by omega), zup_n (by decide), zrow_s]
      unfold va_cpy
      rw [if_pos ⟨Nat.zero_le _, by show k < 0 + 19; omega⟩, zrow_n (by decide), zup_n (by decide)]
      show σ 9 (1 + (k - 0)) = _
      congr 1
      omega
    · rw [zup_n (by decide), zup_n (by decide), zup_n (by decide), zup_a]
    · rw [zup_n (by decide), zup_n (by decide), zup_a]
