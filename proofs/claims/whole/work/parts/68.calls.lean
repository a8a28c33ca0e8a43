/-! the calls, one by one: answer and state of both sides -/
def OX (μ : zM) (as : List Value) (a : Ab) (g : Int32 × Ab) : Prop := ∀ (σ : zSt) (v : Nat), XI σ a v → v < 60000 → zI μ as SH σ (fun x t => x = g.1 ∧ (∃ v', v' ≤ v + 1 ∧ XI t g.2 v') ∧ ∀ d, 47 ≤ d → t d = σ d)
def OM (μ : zM) (as : List Value) (a : Ab) (g : Int32 × Ab) : Prop := ∀ (σ : zSt), MI σ a → zI μ as SH σ (fun x t => x = g.1 ∧ MI t g.2 ∧ ∀ d, d < 47 → t d = σ d)
theorem XI_P {σ : zSt} {a : Ab} {v : Nat} (h : XI σ a v) (ho : AOk a) : XA σ (aC a) (nI v) := ⟨⟨h.2.1.1, ho.c, h.2.1.2.2, h.2.2.2.1, h.2.2.2.2.1⟩, h.2.2.2.2.2.1⟩
theorem MI_A {σ : zSt} {a : Ab} (h : MI σ a) (ho : AOk a) : MA σ (aC a) := ⟨⟨h.2.1.1, ho.c⟩, h.2.2.2⟩
theorem XL_any {σ t : zSt} {c : Core} {v : Int32} (h : t = σ ∨ XL σ t c v) : XAny σ t c v := h.elim Or.inl (fun q => Or.inr (Or.inr (Or.inl q)))
theorem XK_any {σ t : zSt} {c : Core} {v : Int32} (h : t = σ ∨ XKq σ t c v) : XAny σ t c v := h.elim Or.inl (fun q => Or.inr (Or.inr (Or.inr q)))
theorem FMD_any {σ t : zSt} {c : Core} (h : t = σ ∨ FMD t σ) : MAny σ t c := by
  rcases h with rfl | h
  · exact Or.inl (FQ_rf _)
  · exact Or.inl (FQ_MD (fun _ _ => rfl) h)
theorem MK_any {σ t : zSt} {c : Core} (h : t = σ ∨ MKq σ t c) : MAny σ t c := by
  rcases h with rfl | h
  · exact Or.inl (FQ_rf _)
  · exact Or.inr ⟨σ, FQ_rf _, h⟩
theorem OX_q {μ : zM} {as : List Value} {a : Ab} {x : Int32} (h : ∀ (σ : zSt) (v : Nat), XI σ a v → zI μ as SH σ (fun y t => y = x ∧ XAny σ t (aC a) (nI v))) : OX μ as a (x, a) := fun σ v hI _ => zI.mono (h σ v hI) (fun y t ⟨h1, h2⟩ => ⟨h1, ⟨v, by omega, (XI_any hI h2).1⟩, (XI_any hI h2).2⟩)
theorem OM_q {μ : zM} {as : List Value} {a : Ab} {x : Int32} (h : ∀ (σ : zSt), MI σ a → zI μ as SH σ (fun y t => y = x ∧ MAny σ t (aC a))) : OM μ as a (x, a) := fun σ hI => zI.mono (h σ hI) (fun y t ⟨h1, h2⟩ => ⟨h1, (MI_any hI h2).1, (MI_any hI h2).2⟩)
section OPS
variable {a : Ab}
def gSheet (a : Ab) (r k n : Int32) : Int32 × Ab := ((spSheet r k n (aS a)).1, ((spSheet r k n (aS a)).2, a.2))
theorem x_sheet {r k n : Int32} : OX mX6_sheet [.ref 0, .int r, .int k, .int n] a (gSheet a r k n) := fun σ v hI _ => zI.mono (tX6_sheet hI.1) (fun x t ⟨h1, h2, h3⟩ => ⟨h1, ⟨v, by omega, XI_sh hI h2 h3⟩, fun d hd => h3 d (Or.inr hd)⟩)
theorem m_sheet {r k n : Int32} : OM mX7_sheet [.ref 47, .int r, .int k, .int n] a (gSheet a r k n) := fun σ hI => zI.mono (tX7_sheet hI.1) (fun x t ⟨h1, h2, h3⟩ => ⟨h1, MI_sh hI h2 h3, fun d hd => h3 d (by omega) (by omega) (by omega) (by omega)⟩)
theorem o_sheet (ho : AOk a) {r k n : Int32} : AOk (gSheet a r k n).2 := ⟨SO_sheet ho.1, ho.2⟩
def gPut (a : Ab) (r i v : Int32) : Int32 × Ab := ((spPut r i v (aS a)).1, ((spPut r i v (aS a)).2, a.2))
theorem x_put (ho : AOk a) {r i w : Int32} : OX mX6_put [.ref 0, .int r, .int i, .int w] a (gPut a r i w) := fun σ v hI _ => zI.mono (tX6_put hI.1 ho.1) (fun x t ⟨h1, h2, h3⟩ => ⟨h1, ⟨v, by omega, XI_sh hI h2 h3⟩, fun d hd => h3 d (Or.inr hd)⟩)
theorem m_put (ho : AOk a) {r i w : Int32} : OM mX7_put [.ref 47, .int r, .int i, .int w] a (gPut a r i w) := fun σ hI => zI.mono (tX7_put hI.1 ho.1) (fun x t ⟨h1, h2, h3⟩ => ⟨h1, MI_sh hI h2 h3, fun d hd => h3 d (by omega) (by omega) (by omega) (by omega)⟩)
theorem o_put (ho : AOk a) {r i w : Int32} : AOk (gPut a r i w).2 := ⟨SO_put ho.1, ho.2⟩
def gCopy (a : Ab) (r i t j n : Int32) : Int32 × Ab := ((spCopy r i t j n (aS a)).1, ((spCopy r i t j n (aS a)).2, a.2))
theorem x_copy (ho : AOk a) {r i t j n : Int32} : OX mX6_copy [.ref 0, .int r, .int i, .int t, .int j, .int n] a (gCopy a r i t j n) := fun σ v hI _ => zI.mono (tX6_copy hI.1 ho.1) (fun x t ⟨h1, h2, h3⟩ => ⟨h1, ⟨v, by omega, XI_sh hI h2 h3⟩, fun d hd => h3 d (Or.inr hd)⟩)
theorem m_copy (ho : AOk a) {r i t j n : Int32} : OM mX7_copy [.ref 47, .int r, .int i, .int t, .int j, .int n] a (gCopy a r i t j n) := fun σ hI => zI.mono (tX7_copy hI.1 ho.1) (fun x t ⟨h1, h2, h3⟩ => ⟨h1, MI_sh hI h2 h3, fun d hd => h3 d (by omega) (by omega) (by omega) (by omega)⟩)
theorem o_copy (ho : AOk a) {r i t j n : Int32} : AOk (gCopy a r i t j n).2 := ⟨SO_copy ho.1, ho.2⟩
def gJob (a : Ab) (k x y : Int32) : Int32 × Ab := (spJob (aM a) (aH a) k x y, if kdOk k x y ∧ cN (aC a) < 10 then (aS a, (pushN (aM a), pushH (aM a) (aH a) (addC (aC a) k x y)), a.2.2) else a)
theorem x_job (ho : AOk a) {k x y : Int32} : OX mX6_job [.ref 0, .int k, .int x, .int y] a (gJob a k x y) := fun σ v hI hv => zI.mono (tX6_job hI.2.1 ho.2.1) (fun z t ⟨h1, h2⟩ => by
  refine ⟨h1, ?_⟩
  unfold gJob
  rcases h2 with ⟨k1, k2, k3, k4⟩ | ⟨k1, k2⟩
  · rw [if_pos ⟨k1, k2⟩]
    exact ⟨⟨v + 1, Nat.le_refl _, XI_ch hI hv k3 k4⟩, fun d hd => k4 d (by omega)⟩
  · rw [if_neg k1, k2]
    exact ⟨⟨v, by omega, hI⟩, fun _ _ => rfl⟩)
theorem m_job (ho : AOk a) {k x y : Int32} : OM mX7_job [.ref 47, .int k, .int x, .int y] a (gJob a k x y) := fun σ hI => zI.mono (tX7_job hI.2.1 ho.2.1) (fun z t ⟨h1, h2⟩ => by
  refine ⟨h1, ?_⟩
  unfold gJob
  rcases h2 with ⟨k1, k2, k3, k4, k5⟩ | ⟨k1, k2⟩
  · rw [if_pos ⟨k1, k2⟩]
    exact MI_ch hI k3 k4 k5
  · rw [if_neg k1, k2]
    exact ⟨hI, fun _ _ => rfl⟩)
theorem o_job (ho : AOk a) {k x y : Int32} : AOk (gJob a k x y).2 := by
  unfold gJob
  by_cases h : kdOk k x y ∧ cN (aC a) < 10
  · simp only [if_pos h]
    exact ⟨ho.1, push_ok ho.2.1 (addC_ok ho.c h.2 h.1), ho.2.2⟩
  · simp only [if_neg h]
    exact ho
theorem x_after (ho : AOk a) {x y : Int32} : OX mX6_after [.ref 0, .int x, .int y] a (gAct a (spAfter (aC a) x y)) := fun σ v hI hv => zI.mono (tX6_after hI.2.1 ho.2.1 hI.2.2.2.1) (fun z t ⟨h1, h2⟩ => ⟨h1, XI_act hI hv h2⟩)
theorem m_after (ho : AOk a) {x y : Int32} : OM mX7_after [.ref 47, .int x, .int y] a (gAct a (spAfter (aC a) x y)) := fun σ hI => zI.mono (tX7_after hI.2.1 ho.2.1) (fun z t ⟨h1, h2⟩ => ⟨h1, MI_act hI h2⟩)
theorem o_after (ho : AOk a) {x y : Int32} : AOk (gAct a (spAfter (aC a) x y)).2 := act_ok ho (after_ok ho.c)
theorem x_read (ho : AOk a) {x r i n : Int32} : OX mX6_read [.ref 0, .int x, .int r, .int i, .int n] a (gAct a (spRead (aC a) (aS a) x r i n)) := fun σ v hI hv => zI.mono (tX6_read hI.2.1 ho.2.1 hI.2.2.2.1 hI.1 ho.1) (fun z t ⟨h1, h2⟩ => ⟨h1, XI_act hI hv h2⟩)
theorem m_read (ho : AOk a) {x r i n : Int32} : OM mX7_read [.ref 47, .int x, .int r, .int i, .int n] a (gAct a (spRead (aC a) (aS a) x r i n)) := fun σ hI => zI.mono (tX7_read hI.2.1 ho.2.1 hI.1 ho.1) (fun z t ⟨h1, h2⟩ => ⟨h1, MI_act hI h2⟩)
theorem o_read (ho : AOk a) {x r i n : Int32} : AOk (gAct a (spRead (aC a) (aS a) x r i n)).2 := act_ok ho (read_ok ho.c)
def gFree (a : Ab) (x y : Int32) : Int32 × Ab := if isJb (cN (aC a)) x ∧ isJb (cN (aC a)) y then (if cW (aC a) x.toNatClampNeg y.toNatClampNeg = true then (1, (aS a, (pushN (aM a), pushH (aM a) (aH a) (wC (aC a) x.toNatClampNeg (fun i => cW (aC a) x.toNatClampNeg i && !decide (i = y.toNatClampNeg)))), a.2.2)) else (0, a)) else (-1, a)
theorem x_free (ho : AOk a) {x y : Int32} : OX mX6_free [.ref 0, .int x, .int y] a (gFree a x y) := fun σ v hI hv => zI.mono (tX6_free hI.2.1 ho.2.1) (fun z t h => by
  have hn := ho.c.1
  unfold gFree
  rcases h with ⟨h1, h2, h3⟩ | ⟨p, q, hp, hq, rfl, rfl, h⟩
  · rw [if_neg h1, h2, h3]
    exact ⟨rfl, ⟨v, by omega, hI⟩, fun _ _ => rfl⟩
  · have hp : p < cN (aC a) := hp
    have hq : q < cN (aC a) := hq
    rw [if_pos ⟨⟨nI_pos' (by omega), nI_lt hp (by omega)⟩, ⟨nI_pos' (by omega), nI_lt hq (by omega)⟩⟩, nI_clamp (by omega), nI_clamp (by omega)]
    rcases h with ⟨h1, h2, h3⟩ | ⟨h1, h2, h3, h4⟩
    · rw [if_neg (by rw [h1]; decide), h2, h3]
      exact ⟨rfl, ⟨v, by omega, hI⟩, fun _ _ => rfl⟩
    · rw [if_pos h1, h2]
      exact ⟨rfl, ⟨v + 1, Nat.le_refl _, XI_ch hI hv h3 h4⟩, fun d hd => h4 d (by omega)⟩)
theorem m_free (ho : AOk a) {x y : Int32} : OM mX7_free [.ref 47, .int x, .int y] a (gFree a x y) := fun σ hI => zI.mono (tX7_free hI.2.1 ho.2.1) (fun z t h => by
  have hn := ho.c.1
  unfold gFree
  rcases h with ⟨h1, h2, h3⟩ | ⟨p, q, hp, hq, rfl, rfl, h⟩
  · rw [if_neg h1, h2, h3]
    exact ⟨rfl, hI, fun _ _ => rfl⟩
  · have hp : p < cN (aC a) := hp
    have hq : q < cN (aC a) := hq
    rw [if_pos ⟨⟨nI_pos' (by omega), nI_lt hp (by omega)⟩, ⟨nI_pos' (by omega), nI_lt hq (by omega)⟩⟩, nI_clamp (by omega), nI_clamp (by omega)]
    rcases h with ⟨h1, h2, h3⟩ | ⟨h1, h2, h3, h4, h5⟩
    · rw [if_neg (by rw [h1]; decide), h2, h3]
      exact ⟨rfl, hI, fun _ _ => rfl⟩
    · rw [if_pos h1, h2]
      exact ⟨rfl, MI_ch hI h3 h4 h5⟩)
theorem o_free (ho : AOk a) {x y : Int32} : AOk (gFree a x y).2 := by
  unfold gFree
  by_cases h : isJb (cN (aC a)) x ∧ isJb (cN (aC a)) y
  · rw [if_pos h]
    by_cases h2 : cW (aC a) x.toNatClampNeg y.toNatClampNeg = true
    · rw [if_pos h2]
      exact ⟨ho.1, push_ok ho.2.1 (free_ok ho.c), ho.2.2⟩
    · rw [if_neg h2]; exact ho
  · rw [if_neg h]; exact ho
def gUndo (a : Ab) : Int32 × Ab := if aM a = 0 then (-3, a) else (1, (aS a, (aM a - 1, aH a), a.2.2))
theorem x_undo (ho : AOk a) : OX mX6_undo [.ref 0] a (gUndo a) := fun σ v hI hv => zI.mono (tX6_undo hI.2.1 ho.2.1) (fun z t h => by
  unfold gUndo
  rcases h with ⟨h1, h2, h3⟩ | ⟨h1, h2, h3, h4⟩
  · rw [if_pos h1, h2, h3]
    exact ⟨rfl, ⟨v, by omega, hI⟩, fun _ _ => rfl⟩
  · rw [if_neg h1, h2]
    exact ⟨rfl, ⟨v + 1, Nat.le_refl _, XI_ch hI hv h3 h4⟩, fun d hd => h4 d (by omega)⟩)
theorem m_undo (ho : AOk a) : OM mX7_undo [.ref 47] a (gUndo a) := fun σ hI => zI.mono (tX7_undo hI.2.1 ho.2.1) (fun z t h => by
  unfold gUndo
  rcases h with ⟨h1, h2, h3⟩ | ⟨h1, h2, h3, h4, h5⟩
  · rw [if_pos h1, h2, h3]
    exact ⟨rfl, hI, fun _ _ => rfl⟩
  · rw [if_neg h1, h2]
    exact ⟨rfl, MI_ch hI h3 h4 h5⟩)
theorem o_undo (ho : AOk a) : AOk (gUndo a).2 := by
  unfold gUndo
  by_cases h : aM a = 0
  · rw [if_pos h]; exact ho
  · rw [if_neg h]
    exact ⟨ho.1, ⟨by have := ho.2.1.1; show aM a - 1 ≤ 20; omega, fun k hk => ho.2.1.2 k (by have : k ≤ aM a - 1 := hk; omega)⟩, ho.2.2⟩
theorem x_ring (ho : AOk a) {k : Int32} : OX mX6_ring [.ref 0, .int k] a (spRing (aR a) (aF a) k, a) := OX_q (fun σ v hI => zI.mono (tX6_ring hI.2.2.1 ho.2.2) (fun y t ⟨h1, h2⟩ => ⟨h1, Or.inl h2⟩))
theorem m_ring (ho : AOk a) {k : Int32} : OM mX7_ring [.ref 47, .int k] a (spRing (aR a) (aF a) k, a) := OM_q (fun σ hI => zI.mono (tX7_ring hI.2.2.1 ho.2.2) (fun y t ⟨h1, h2⟩ => ⟨h1, by rw [h2]; exact Or.inl (FQ_rf _)⟩))
theorem x_about (ho : AOk a) {x w : Int32} : OX mX6_about [.ref 0, .int x, .int w] a (spAbout (aC a) x w, a) := OX_q (fun σ v hI => tX6_about (XI_P hI ho))
theorem m_about (ho : AOk a) {x w : Int32} : OM mX7_about [.ref 47, .int x, .int w] a (spAbout (aC a) x w, a) := OM_q (fun σ hI => tX7_about (MI_A hI ho))
theorem x_least (ho : AOk a) : OX mX6_least [.ref 0] a (nI (dLen (aC a)), a) := OX_q (fun σ v hI => zI.mono (tX6_least (XI_P hI ho).1) (fun y t ⟨h1, h2⟩ => ⟨h1, XL_any (Or.inr h2)⟩))
theorem m_least (ho : AOk a) : OM mX7_least [.ref 47] a (nI (dLen (aC a)), a) := OM_q (fun σ hI => zI.mono (tX7_least (MI_A hI ho).1) (fun y t ⟨h1, h2⟩ => ⟨h1, FMD_any (Or.inr h2)⟩))
theorem x_day (ho : AOk a) {h i : Int32} : OX mX6_day [.ref 0, .int h, .int i] a (spDay (aC a) h i, a) := OX_q (fun σ v hI => zI.mono (tX6_day (XI_P hI ho).1) (fun y t ⟨h1, h2⟩ => ⟨h1, XL_any h2⟩))
theorem m_day (ho : AOk a) {h i : Int32} : OM mX7_day [.ref 47, .int h, .int i] a (spDay (aC a) h i, a) := OM_q (fun σ hI => zI.mono (tX7_day (MI_A hI ho).1) (fun y t ⟨h1, h2⟩ => ⟨h1, FMD_any h2⟩))
noncomputable def spIdle (c : Core) (i : Int32) : Int32 := if i < 0 then -1 else Classical.epsilon (idR (dLen c) (idl c) i)
theorem spIdle_eq {c : Core} {i x : Int32} (hc : cOk c) (h : (i < 0 ∧ x = -1) ∨ (¬ i < 0 ∧ idR (dLen c) (idl c) i x)) : x = spIdle c i := by
  unfold spIdle
  rcases h with ⟨h1, h2⟩ | ⟨h1, h2⟩
  · rw [if_pos h1]; exact h2
  · rw [if_neg h1]
    exact idR_fun (dLen10 hc) h2 (Classical.epsilon_spec ⟨x, h2⟩)
theorem x_idle (ho : AOk a) {i : Int32} : OX mX6_idle [.ref 0, .int i] a (spIdle (aC a) i, a) := OX_q (fun σ v hI => zI.mono (tX6_idle (XI_P hI ho).1) (fun y t ⟨h1, h2⟩ => ⟨spIdle_eq ho.c h1, XL_any h2⟩))
theorem m_idle (ho : AOk a) {i : Int32} : OM mX7_idle [.ref 47, .int i] a (spIdle (aC a) i, a) := OM_q (fun σ hI => zI.mono (tX7_idle (MI_A hI ho).1) (fun y t ⟨h1, h2⟩ => ⟨spIdle_eq ho.c h1, FMD_any h2⟩))
theorem x_pairs (ho : AOk a) : OX mX6_pairs [.ref 0] a (nI (cN (aC a) - dLen (aC a)), a) := OX_q (fun σ v hI => zI.mono (tX6_pairs (XI_P hI ho).1) (fun y t ⟨h1, h2⟩ => ⟨h1, XL_any (Or.inr h2)⟩))
theorem m_pairs (ho : AOk a) : OM mX7_pairs [.ref 47] a (nI (cN (aC a) - dLen (aC a)), a) := OM_q (fun σ hI => zI.mono (tX7_pairs (MI_A hI ho).1) (fun y t ⟨h1, h2⟩ => ⟨h1, Or.inl ⟨fun d _ d2 _ _ _ d6 => h2 d d2 d6, fun i _ => by rw [h2 47 (by decide) (by decide)]⟩⟩))
theorem x_rest (ho : AOk a) {h : Int32} : OX mX6_rest [.ref 0, .int h] a (spRest (aC a) h, a) := OX_q (fun σ v hI => zI.mono (tX6_rest (XI_P hI ho).1) (fun y t ⟨h1, h2⟩ => ⟨h1, XL_any h2⟩))
theorem m_rest (ho : AOk a) {h : Int32} : OM mX7_rest [.ref 47, .int h] a (spRest (aC a) h, a) := OM_q (fun σ hI => zI.mono (tX7_rest (MI_A hI ho).1) (fun y t ⟨h1, h2⟩ => ⟨h1, FMD_any h2⟩))
theorem x_kept (ho : AOk a) : OX mX6_kept [.ref 0] a (spKept (aC a), a) := OX_q (fun σ v hI => zI.mono (tX6_kept hI.2.1.1 ho.c hI.2.1.2.2 hI.2.2.2.1 hI.2.2.2.2.2.1) (fun y t ⟨h1, h2⟩ => ⟨h1, XK_any (Or.inr h2)⟩))
theorem m_kept (ho : AOk a) : OM mX7_kept [.ref 47] a (spKept (aC a), a) := OM_q (fun σ hI => zI.mono (tX7_kept (MI_A hI ho).1 (MI_A hI ho).2) (fun y t ⟨h1, h2⟩ => ⟨h1, MK_any (Or.inr h2)⟩))
theorem x_code (ho : AOk a) {h : Int32} : OX mX6_code [.ref 0, .int h] a (spCode (aC a) h, a) := OX_q (fun σ v hI => zI.mono (tX6_code hI.2.1.1 ho.c hI.2.1.2.2 hI.2.2.2.1 hI.2.2.2.2.2.1) (fun y t ⟨h1, h2⟩ => ⟨h1, XK_any h2⟩))
theorem m_code (ho : AOk a) {h : Int32} : OM mX7_code [.ref 47, .int h] a (spCode (aC a) h, a) := OM_q (fun σ hI => zI.mono (tX7_code (MI_A hI ho).1 (MI_A hI ho).2) (fun y t ⟨h1, h2⟩ => ⟨h1, MK_any h2⟩))
theorem x_check (ho : AOk a) {x : Int64} : OX mX6_check [.ref 0, .long x] a (spCheck (aC a) x, a) := OX_q (fun σ v hI => zI.mono (tX6_check hI.2.1.1 ho.c) (fun y t ⟨h1, h2⟩ => ⟨h1, Or.inl h2⟩))
theorem m_check (ho : AOk a) {x : Int64} : OM mX7_check [.ref 47, .long x] a (spCheck (aC a) x, a) := OM_q (fun σ hI => zI.mono (tX7_check (MI_A hI ho).1) (fun y t ⟨h1, h2⟩ => ⟨h1, Or.inl (FQ_59 h2)⟩))
theorem x_count (ho : AOk a) {w : Int32} : OX mX6_count [.ref 0, .int w] a (spCount (aC a) (aM a) w, a) := OX_q (fun σ v hI => tX6_count (XI_P hI ho) hI.2.1.2.1.1)
theorem m_count (ho : AOk a) {w : Int32} : OM mX7_count [.ref 47, .int w] a (spCount (aC a) (aM a) w, a) := OM_q (fun σ hI => zI.mono (tX7_count (MI_A hI ho) hI.2.1.2.1) (fun y t ⟨h1, h2⟩ => ⟨h1, Or.inl h2⟩))
end OPS
