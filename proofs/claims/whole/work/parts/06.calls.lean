/-! entry, calls and new cells of the judgement -/
def zPc (D : va_G) (h0 : Nat) (ad : Nat → Nat) (cA : Nat → ClassId) (S : List zSh) (σ : zSt) (as : List Value) : Array Value → State → Prop := fun v U => v = (as.map (zC ad)).toArray ∧ h0 ≤ U.heap.size ∧ zHp D h0 ad cA S σ U U.heap ∧ zN U
def zws (μ : zM) : List Cond := .code (zY μ) (zB μ) (zL μ) (zR μ) :: zwd
/-- the contract of a method at arguments and a heap -/
def zMet (μ : zM) (as : List Value) (S : List zSh) (σ : zSt) (Q : Option Value → List zSh → zSt → Prop) : Prop := ∀ (l : Launch) (D : va_G) (h0 : Nat) (ad : Nat → Nat) (cA : Nat → ClassId), Met l (zY μ) (zws μ) (zRm μ) (zPc D h0 ad cA S σ as) (zQc D h0 ad cA S.length Q) (zMc μ) (zMs μ) (fun q => h0 ≤ q)
def zEs (as : List Value) : List (Option Value) := as.flatMap fun v => if v.category = 2 then [some v, none] else [some v]
def zEn (nL : Nat) (as : List Value) : List (Option Value) := zEs as ++ List.replicate (nL - (zEs as).length) none
theorem zEs_len (ad : Nat → Nat) (as : List Value) : (lg_sl (as.map (zC ad))).length = (zEs as).length := by
  induction as with
  | nil => rfl
  | cons v as ih =>
    simp only [lg_sl, zEs, List.map_cons, List.flatMap_cons, List.length_append, zC_cat] at ih ⊢
    rw [ih]
    by_cases h : v.category = 2 <;> simp [h]
theorem zEs_args (ad : Nat → Nat) (as : List Value) : ∀ (off i : Nat) (v : Value), (zEs as)[i]? = some (some v) → (off + i, zC ad v) ∈ lv_args off (as.map (zC ad)) := by
  induction as with
  | nil => intro off i v h; simp [zEs] at h
  | cons u as ih =>
    intro off i v h
    simp only [List.map_cons, lv_args, zC_cat]
    by_cases hc : u.category = 2
    · have e : zEs (u :: as) = some u :: none :: zEs as := by simp [zEs, hc]
      rw [e] at h
      rw [if_pos hc]
      match i, h with
      | 0, h =>
        cases h
        exact List.mem_cons_self
      | 1, h => simp at h
      | i + 2, h =>
        have h2 : (zEs as)[i]? = some (some v) := by simpa using h
        have := ih (off + 2) i v h2
        rw [show off + (i + 2) = off + 2 + i by omega]
        exact List.mem_cons_of_mem _ this
    · have e : zEs (u :: as) = some u :: zEs as := by simp [zEs, hc]
      rw [e] at h
      rw [if_neg hc]
      match i, h with
      | 0, h =>
        cases h
        exact List.mem_cons_self
      | i + 1, h =>
        have h2 : (zEs as)[i]? = some (some v) := by simpa using h
        have := ih (off + 1) i v h2
        rw [show off + (i + 1) = off + 1 + i by omega]
        exact List.mem_cons_of_mem _ this
theorem zEn_args (ad : Nat → Nat) (nL : Nat) (as : List Value) (i : Nat) (v : Value) (h : (zEn nL as)[i]? = some (some v)) : (i, zC ad v) ∈ lv_args 0 (as.map (zC ad)) := by
  unfold zEn at h
  by_cases hi : i < (zEs as).length
  · rw [List.getElem?_append_left hi] at h
    have := zEs_args ad as 0 i v h
    rwa [Nat.zero_add] at this
  · rw [List.getElem?_append_right (by omega)] at h
    have := List.eq_of_mem_replicate (List.mem_of_getElem? h)
    cases this
theorem zMet_of {μ : zM} {as : List Value} {S : List zSh} {σ : zSt} {Q : Option Value → List zSh → zSt → Prop} {ls : List (Option Value)} (hp : plainName (zY μ).cls = true) (hlen : Nat.ble (zEs as).length (zL μ) = true) (he : zEn (zL μ) as = ls) (h : zA (zZ μ Q) μ none 0 0 0 ls [] S σ) : zMet μ as S σ Q := by
  intro l D h0 ad cA
  subst he
  have hlen := Nat.le_of_ble_eq_true hlen
  refine Met.ofW (cc := zB μ) (maxL := zL μ) (ret := zR μ) hp rfl ?_
  intro p e s m args below meth c s₁ B hml hv
  obtain ⟨rfl, hsz, hH, hN⟩ := hv
  have hts := atoms_spec (ws := zws μ) B.pre
  rw [lg_entry_eq]
  have hl := lv_entry (as.map (zC ad)) (n := zL μ) (by rw [zEs_len]; exact hlen)
  exact h p l e s m _ below meth c D h0 ad cA S.length ad cA s.heap [] _ ⟨B.exec, B.bytes, hml, B.returns, B.notSynchronized, findClass_of_methodNamed B.named, fun w hw => hts w (List.mem_cons_of_mem _ hw), hN, hsz, (name_of_methodNamed B.named B.method).1⟩ (fun _ _ h => by cases h) (fun _ _ => ⟨rfl, rfl⟩) (Nat.le_refl _) hH va_S.rf ⟨hl.1, hl.2.1, by simp [zEn]; omega, fun i v hi => hl.2.2 _ (zEn_args ad _ as i v hi)⟩
theorem zMet.mono {μ : zM} {as : List Value} {S : List zSh} {σ : zSt} {Q Q' : Option Value → List zSh → zSt → Prop} (h : zMet μ as S σ Q) (hq : ∀ v S' σ', Q v S' σ' → Q' v S' σ') : zMet μ as S σ Q' := by
  intro l D h0 ad cA p e ha hc hk s m args below hf happ hP hK
  obtain ⟨t, o, h1, h2, h3, ⟨⟨v, S', σ', ad', cA', a1, a2, a3, a4, a5⟩, a6⟩, h4⟩ := h l D h0 ad cA p e ha hc hk s m args below hf happ hP hK
  exact ⟨t, o, h1, h2, h3, ⟨⟨v, S', σ', ad', cA', a1, a2, a3, hq _ _ _ a4, a5⟩, a6⟩, h4⟩
def zokv (N : Nat) : Value → Bool
  | .ref k => Nat.blt k N || Nat.ble 999 k
  | _ => true
def zoko (N : Nat) : Option Value → Bool
  | some v => zokv N v
  | none => true
theorem zokv_C {N : Nat} {ad ad' : Nat → Nat} (h : ∀ i : Nat, i < N ∨ 999 ≤ i → ad' i = ad i) {v : Value} (hv : zokv N v = true) : zC ad' v = zC ad v := by
  cases v with
  | ref k =>
    simp only [zokv, Bool.or_eq_true, Nat.blt_eq, Nat.ble_eq] at hv
    simp only [zC, h k hv]
  | _ => rfl
theorem zokv_map {N : Nat} {ad ad' : Nat → Nat} (h : ∀ i : Nat, i < N ∨ 999 ≤ i → ad' i = ad i) {st : List Value} (hv : st.all (zokv N) = true) : st.map (zC ad') = st.map (zC ad) :=
  List.map_congr_left (fun v hm => zokv_C h (List.all_eq_true.mp hv v hm))
theorem zLs.ad {N nL : Nat} {ad ad' : Nat → Nat} {lsA : Array Slot} {ls : List (Option Value)} (h : ∀ i : Nat, i < N ∨ 999 ≤ i → ad' i = ad i) (hv : ls.all (zoko N) = true) (hl : zLs ad lsA nL ls) : zLs ad' lsA nL ls :=
  ⟨hl.1, hl.2.1, hl.2.2.1, fun i v hi => by rw [zokv_C h (List.all_eq_true.mp hv _ (List.mem_of_getElem? hi))]; exact hl.2.2.2 i v hi⟩
theorem zN.same {u U : State} (h : u.vm = U.vm) (hN : zN u) : zN U := ⟨fun q hq => va_Nw.same rfl h (hN.1 q hq), va_AO.moved (h ▸ Vm.Alike.refl u.vm) hN.2⟩
theorem zPc_blind {D : va_G} {h0 : Nat} {ad : Nat → Nat} {cA : Nat → ClassId} {S : List zSh} {σ : zSt} {as : List Value} : FrameBlind (zPc D h0 ad cA S σ as) := by
  intro a U g mk ⟨h1, h2, h3, h4⟩
  exact ⟨h1, h2, h3.moved (u := U) (U := U.calling g mk a) (Vm.Alike.refl U.vm), zN.same (u := U) (U := U.calling g mk a) rfl h4⟩
/-- what is known of a method that is called with nA arguments -/
def zMk (μ : zM) (nA : Nat) : Prop := Cond.initialized (zY μ).cls ∈ zwd ∧ Cond.code (zY μ) (zB μ) (zL μ) (zR μ) ∈ zwd ∧ ((zY μ).cls ≠ "java/lang/invoke/MethodHandle" ∧ (zY μ).cls ≠ "java/lang/invoke/VarHandle" ∧ (parseMethodDescriptor (zY μ).desc).map (fun d => d.parameters.length) = some nA) ∧ zL μ ≤ 17
def zCV (own : String) (idx : Nat) (μ : zM) (nA : Nat) : Prop := Cond.methodLink own idx (zY μ) ∈ zwd ∧ Cond.instanceMethod (zY μ) ∈ zwd ∧ Cond.selects (zY μ).cls (zY μ) (zY μ) ∈ zwd ∧ zMk μ nA
def zCS (own : String) (idx : Nat) (μ : zM) (nA : Nat) : Prop := Cond.methodLink own idx (zY μ) ∈ zwd ∧ Cond.static (zY μ) ∈ zwd ∧ zMk μ nA
def zCI (own : String) (idx : Nat) (μ : zM) (nA : Nat) : Prop := Cond.methodLink own idx (zY μ) ∈ zwd ∧ Cond.instanceMethod (zY μ) ∈ zwd ∧ (zY μ).name = "<init>" ∧ zR μ = none ∧ zMk μ nA
def zCSN (own : String) (idx : Nat) (μ : zM) (nA : Nat) : Prop := (own, idx, zY μ) ∈ znest ∧ Cond.static (zY μ) ∈ zwd ∧ zMk μ nA
def zCIN (own : String) (idx : Nat) (μ : zM) (nA : Nat) : Prop := (own, idx, zY μ) ∈ znest ∧ Cond.instanceMethod (zY μ) ∈ zwd ∧ (zY μ).name = "<init>" ∧ zR μ = none ∧ zMk μ nA
theorem zws_good {μ : zM} (h : Cond.code (zY μ) (zB μ) (zL μ) (zR μ) ∈ zwd) : GoodIn zwd (zws μ) := fun w hw => by
  rcases List.mem_cons.mp hw with rfl | hw
  · exact zwd_good _ h
  · exact zwd_good _ hw
section ZC
variable {p : Program} {l : Launch} {e : Env} {s : State} {m : MethodId} {args : Array Value} {below : List Frame} {meth : Method} {c : Code} {D : va_G} {h0 : Nat} {ad0 : Nat → Nat} {cA0 : Nat → ClassId} {n0 : Nat} {ad : Nat → Nat} {cA : Nat → ClassId} {H : Heap} {locs : List Loc} {lsA : Array Slot}
variable {Z : zZt} {μ : zM} {sc : Option (Nat × (Nat → Int32))} {k n pc : Nat} {ls : List (Option Value)} {st : List Value} {S : List zSh} {σ : zSt}
theorem z_cont {mc ms : Nat} {st0 : List Value} {Q' : Option Value → List zSh → zSt → Prop} {a : Array Value} (hr : va_Run p l e (zRm μ) s m args below meth c H locs k n mc ms (F0 m pc lsA st0) (st.map (zC ad)) (zQc D h0 ad cA S.length Q' a) (fun q => h0 ≤ q)) (hC : zCx p s m args meth c μ h0) (hX : zSc sc ad s h0) (hag : ∀ i : Nat, i < n0 ∨ 999 ≤ i → ad i = ad0 i ∧ cA i = cA0 i) (hn0 : n0 ≤ S.length) (hS : va_S (fun q => h0 ≤ q) s.heap H locs) (hl : zLs ad lsA (zL μ) ls) (hol : ls.all (zoko S.length) = true) (hos : st.all (zokv S.length) = true)
    (kk : ∀ (v : Option Value) (S' : List zSh) (σ' : zSt), Q' v S' σ' → S.length ≤ S'.length → zA Z μ sc (k + mc) (n + ms) (pc + 3) ls (v.toList ++ st) S' σ') : W p l e (zRm μ) s m args below meth c H locs k n (Z below args s D h0 ad0 cA0 n0) (F0 m pc lsA st0) := by
  intro T hT X
  obtain ⟨v, st₀, t, T', L, hh0, X', hL, e1, e2, ⟨⟨v', S', σ', ad', cA', ha', hn', hv, hq, hH'⟩, hz, hk⟩, st9⟩ := hr T hT X
  have hv : v = v'.map (zC ad') := by cases hv; rfl
  have had : ∀ i : Nat, i < S.length ∨ 999 ≤ i → ad' i = ad i := fun i hi => (ha' i hi).1
  rw [hh0] at hz hk
  have hvm : s.vm.Alike t.vm := by rw [← e2]; exact X'.warmed.alike
  have est : v.toList ++ st.map (zC ad) = (v'.toList ++ st).map (zC ad') := by
    rw [List.map_append, zokv_map had hos, hv]
    cases v' <;> rfl
  obtain ⟨t2, a1, b1⟩ := kk v' S' σ' hq hn' p l e s m args below meth c D h0 ad0 cA0 n0 ad' cA' T'.heap (locs ++ L) lsA hC
    (fun L xs h => by rw [had 999 (Or.inr (Nat.le_refl _))]; exact hX L xs h)
    (fun i hi => by
      have h1 := ha' i (hi.elim (fun h => Or.inl (Nat.lt_of_lt_of_le h hn0)) Or.inr)
      have h2 := hag i hi
      exact ⟨h1.1.trans h2.1, h1.2.trans h2.2⟩)
    (Nat.le_trans hn0 hn') (by rw [e1]; exact hH'.moved hvm.symm)
    ⟨Nat.le_trans hS.1 (by rw [e1]; exact hz), fun q h1 h2 => by rw [e1, hk q (Nat.lt_of_lt_of_le h1 hS.1) h2]; exact hS.2.1 q h1 h2, fun q hq => by
      rcases List.mem_append.mp hq with h | h
      · exact hS.2.2 q h
      · exact hL q h⟩ (hl.ad had hol) T' rfl X'
  refine ⟨t2, st9 t2 ?_, b1⟩
  rw [est]
  exact a1
end ZC
section ZA
variable {Z : zZt} {μ : zM} {sc : Option (Nat × (Nat → Int32))} {k n pc : Nat} {ls : List (Option Value)} {st : List Value} {S : List zSh} {σ : zSt}
theorem zcat_sum (ad : Nat → Nat) (st : List Value) : ((st.map (zC ad)).map fun v => v.category) = st.map fun v => v.category := by
  rw [List.map_map]
  exact List.map_congr_left (fun v _ => zC_cat ad v)
theorem zPc_here {p : Program} {s : State} {m : MethodId} {args : Array Value} {meth : Method} {c : Code} {D : va_G} {h0 : Nat} {ad : Nat → Nat} {cA : Nat → ClassId} {H : Heap} {locs : List Loc} (hC : zCx p s m args meth c μ h0) (hH : zHp D h0 ad cA S σ s H) (hS : va_S (fun q => h0 ≤ q) s.heap H locs) (as : List Value) : ∀ U : State, U.heap = H → s.WarmedH U.vm → zPc D h0 ad cA S σ as (as.map (zC ad)).toArray U := fun U hU hW => ⟨rfl, by rw [hU]; exact Nat.le_trans hC.2.2.2.2.2.2.2.2.1 hS.1, by rw [hU]; exact hH.moved hW.alike, hC.2.2.2.2.2.2.2.1.warm hW⟩
theorem za_callV {μ' : zM} {idx b ci : Nat} {fs : List (Option (Option Nat))} {As : List Value} {Q' : Option Value → List zSh → zSt → Prop} (d : decode (zB μ) pc = .ok (.invokevirtual idx, 3)) (cw : zCV (zY μ).cls idx μ' As.length) (hs : S[b]? = some (.inr (.inr (ci, fs)))) (hci : (zcl[ci]?).map (fun q => q.1) = some (zY μ').cls) (hdp : Nat.ble (zDp μ' + 1) (zDp μ) = true) (hrm : Nat.ble (k + zMc μ') (zMc μ) = true ∧ Nat.ble (n + zMs μ') (zMs μ) = true) (hst : Nat.ble (st.map fun v => v.category).sum 8 = true) (hol : ls.all (zoko S.length) = true) (hos : st.all (zokv S.length) = true) (hM : zMet μ' (.ref b :: As) S σ Q') (kk : ∀ (v : Option Value) (S' : List zSh) (σ' : zSt), Q' v S' σ' → S.length ≤ S'.length → zA Z μ sc (k + zMc μ') (n + zMs μ') (pc + 3) ls (v.toList ++ st) S' σ') : zA Z μ sc k n pc ls (As.reverse ++ .ref b :: st) S σ := by
  intro p l e s m args below meth c D h0 ad0 cA0 n0 ad cA H locs lsA hC hX hag hn0 hH hS hl
  have hdp := Nat.le_of_ble_eq_true hdp
  have hrm1 := Nat.le_of_ble_eq_true hrm.1
  have hrm2 := Nat.le_of_ble_eq_true hrm.2
  have hst := Nat.le_of_ble_eq_true hst

  obtain ⟨c1, c2, c3, mk⟩ := cw
  have hrecv : ∃ cellB : Cell, H[ad b]? = some cellB ∧ cellB.vm.isStatics = false ∧ s.vm.findClass (zY μ').cls = some cellB.cls := by
    cases hq : zcl[ci]? with
    | none => rw [hq] at hci; cases hci
    | some q =>
      rw [hq] at hci
      have hci : q.1 = (zY μ').cls := Option.some.inj hci
      rw [← hci]
      exact va_recv hH.2.2.1 hH.1 hq (zWd_at hs)
  exact z_cont (va_runV (C := (zY μ').cls) (b := ad b) (As := As.map (zC ad)) ⟨hC.1, hC.2.1, hC.2.2.1, hC.2.2.2.2.2.1, hC.2.2.2.2.2.2.1⟩ (hM l D h0 ad cA) ⟨callB_of _ hC.2.2.2.2.2.2.1 (zws_good mk.2.1) rfl rfl rfl (hC.2.2.2.2.2.2.1 _ mk.1) (hC.2.2.2.2.2.2.1 _ c1) mk.2.2.1 ⟨hdp, by show 8 + (zL μ' + 11) + 36 * zDp μ' ≤ 36 * zDp μ; have := mk.2.2.2; omega⟩, hC.2.2.2.2.2.2.1 _ c2, hC.2.2.2.2.2.2.1 _ c3⟩ ⟨zPc_blind, hrecv, zPc_here hC hH hS (.ref b :: As)⟩ rfl (by rw [List.length_map]) hl.1 (by show ((As.reverse ++ .ref b :: st).map (zC ad)) = _; rw [List.map_append, List.map_cons, List.map_reverse]; rfl) (lv_room (by rw [zcat_sum]; exact hst)) d ⟨hrm1, hrm2⟩) hC hX hag hn0 hS hl hol hos kk
theorem za_callS {μ' : zM} {idx : Nat} {As : List Value} {Q' : Option Value → List zSh → zSt → Prop} (d : decode (zB μ) pc = .ok (.invokestatic idx, 3)) (cw : zCS (zY μ).cls idx μ' As.length) (hdp : Nat.ble (zDp μ' + 1) (zDp μ) = true) (hrm : Nat.ble (k + zMc μ') (zMc μ) = true ∧ Nat.ble (n + zMs μ') (zMs μ) = true) (hst : Nat.ble (st.map fun v => v.category).sum 8 = true) (hol : ls.all (zoko S.length) = true) (hos : st.all (zokv S.length) = true) (hM : zMet μ' (As) S σ Q') (kk : ∀ (v : Option Value) (S' : List zSh) (σ' : zSt), Q' v S' σ' → S.length ≤ S'.length → zA Z μ sc (k + zMc μ') (n + zMs μ') (pc + 3) ls (v.toList ++ st) S' σ') : zA Z μ sc k n pc ls (As.reverse ++ st) S σ := by
  intro p l e s m args below meth c D h0 ad0 cA0 n0 ad cA H locs lsA hC hX hag hn0 hH hS hl
  have hdp := Nat.le_of_ble_eq_true hdp
  have hrm1 := Nat.le_of_ble_eq_true hrm.1
  have hrm2 := Nat.le_of_ble_eq_true hrm.2
  have hst := Nat.le_of_ble_eq_true hst

  obtain ⟨c1, c2, mk⟩ := cw
  exact z_cont (va_runS (As := As.map (zC ad)) ⟨hC.1, hC.2.1, hC.2.2.1, hC.2.2.2.2.2.1, hC.2.2.2.2.2.2.1⟩ (hM l D h0 ad cA) ⟨callB_of _ hC.2.2.2.2.2.2.1 (zws_good mk.2.1) rfl rfl rfl (hC.2.2.2.2.2.2.1 _ mk.1) (hC.2.2.2.2.2.2.1 _ c1) mk.2.2.1 ⟨hdp, by show 8 + (zL μ' + 11) + 36 * zDp μ' ≤ 36 * zDp μ; have := mk.2.2.2; omega⟩, hC.2.2.2.2.2.2.1 _ c2⟩ ⟨zPc_blind, zPc_here hC hH hS As⟩ rfl (by rw [List.length_map]) hl.1 (by show ((As.reverse ++ st).map (zC ad)) = _; rw [List.map_append, List.map_reverse]) (lv_room (by rw [zcat_sum]; exact hst)) d ⟨hrm1, hrm2⟩) hC hX hag hn0 hS hl hol hos kk
theorem za_callI {μ' : zM} {idx b : Nat} {As : List Value} {Q' : Option Value → List zSh → zSt → Prop} (d : decode (zB μ) pc = .ok (.invokespecial idx, 3)) (cw : zCI (zY μ).cls idx μ' As.length) (hdp : Nat.ble (zDp μ' + 1) (zDp μ) = true) (hrm : Nat.ble (k + zMc μ') (zMc μ) = true ∧ Nat.ble (n + zMs μ') (zMs μ) = true) (hst : Nat.ble (st.map fun v => v.category).sum 8 = true) (hol : ls.all (zoko S.length) = true) (hos : st.all (zokv S.length) = true) (hM : zMet μ' (.ref b :: As) S σ Q') (kk : ∀ (v : Option Value) (S' : List zSh) (σ' : zSt), Q' v S' σ' → S.length ≤ S'.length → zA Z μ sc (k + zMc μ') (n + zMs μ') (pc + 3) ls (v.toList ++ st) S' σ') : zA Z μ sc k n pc ls (As.reverse ++ .ref b :: st) S σ := by
  intro p l e s m args below meth c D h0 ad0 cA0 n0 ad cA H locs lsA hC hX hag hn0 hH hS hl
  have hdp := Nat.le_of_ble_eq_true hdp
  have hrm1 := Nat.le_of_ble_eq_true hrm.1
  have hrm2 := Nat.le_of_ble_eq_true hrm.2
  have hst := Nat.le_of_ble_eq_true hst

  obtain ⟨c1, c2, c3, c4, mk⟩ := cw
  exact z_cont (va_runI (b := ad b) (As := As.map (zC ad)) ⟨hC.1, hC.2.1, hC.2.2.1, hC.2.2.2.2.2.1, hC.2.2.2.2.2.2.1⟩ (hM l D h0 ad cA) ⟨callB_of _ hC.2.2.2.2.2.2.1 (zws_good mk.2.1) (by unfold zws; rw [c4]) rfl rfl (hC.2.2.2.2.2.2.1 _ mk.1) (hC.2.2.2.2.2.2.1 _ c1) mk.2.2.1 ⟨hdp, by show 8 + (zL μ' + 11) + 36 * zDp μ' ≤ 36 * zDp μ; have := mk.2.2.2; omega⟩, c3, hC.2.2.2.2.2.2.1 _ c2⟩ ⟨zPc_blind, zPc_here hC hH hS (.ref b :: As)⟩ rfl (by rw [List.length_map]) hl.1 (by show ((As.reverse ++ .ref b :: st).map (zC ad)) = _; rw [List.map_append, List.map_cons, List.map_reverse]; rfl) (lv_room (by rw [zcat_sum]; exact hst)) d ⟨hrm1, hrm2⟩) hC hX hag hn0 hS hl hol hos kk
theorem za_callSN {μ' : zM} {idx : Nat} {As : List Value} {Q' : Option Value → List zSh → zSt → Prop} (d : decode (zB μ) pc = .ok (.invokestatic idx, 3)) (cw : zCSN (zY μ).cls idx μ' As.length) (hdp : Nat.ble (zDp μ' + 1) (zDp μ) = true) (hrm : Nat.ble (k + zMc μ') (zMc μ) = true ∧ Nat.ble (n + zMs μ') (zMs μ) = true) (hst : Nat.ble (st.map fun v => v.category).sum 8 = true) (hol : ls.all (zoko S.length) = true) (hos : st.all (zokv S.length) = true) (hM : zMet μ' (As) S σ Q') (kk : ∀ (v : Option Value) (S' : List zSh) (σ' : zSt), Q' v S' σ' → S.length ≤ S'.length → zA Z μ sc (k + zMc μ') (n + zMs μ') (pc + 3) ls (v.toList ++ st) S' σ') : zA Z μ sc k n pc ls (As.reverse ++ st) S σ := by
  intro p l e s m args below meth c D h0 ad0 cA0 n0 ad cA H locs lsA hC hX hag hn0 hH hS hl
  have hdp := Nat.le_of_ble_eq_true hdp
  have hrm1 := Nat.le_of_ble_eq_true hrm.1
  have hrm2 := Nat.le_of_ble_eq_true hrm.2
  have hst := Nat.le_of_ble_eq_true hst

  obtain ⟨c1, c2, mk⟩ := cw
  exact z_cont (va_runSN (host := RX6) (As := As.map (zC ad)) ⟨hC.1, hC.2.1, hC.2.2.1, hC.2.2.2.2.2.1, hC.2.2.2.2.2.2.1⟩ (hM l D h0 ad cA) ⟨va_cnB _ hC.2.2.2.2.2.2.1 (zws_good mk.2.1) rfl rfl rfl (hC.2.2.2.2.2.2.2.1.1 _ c1) (hC.2.2.2.2.2.2.1 _ mk.1) mk.2.2.1 ⟨hdp, by show 8 + (zL μ' + 11) + 36 * zDp μ' ≤ 36 * zDp μ; have := mk.2.2.2; omega⟩, hC.2.2.2.2.2.2.1 _ c2, trivial⟩ ⟨zPc_blind, zPc_here hC hH hS As⟩ rfl (by rw [List.length_map]) hl.1 (by show ((As.reverse ++ st).map (zC ad)) = _; rw [List.map_append, List.map_reverse]) (lv_room (by rw [zcat_sum]; exact hst)) d ⟨hrm1, hrm2⟩) hC hX hag hn0 hS hl hol hos kk
theorem za_callIN {μ' : zM} {idx b : Nat} {As : List Value} {Q' : Option Value → List zSh → zSt → Prop} (d : decode (zB μ) pc = .ok (.invokespecial idx, 3)) (cw : zCIN (zY μ).cls idx μ' As.length) (hdp : Nat.ble (zDp μ' + 1) (zDp μ) = true) (hrm : Nat.ble (k + zMc μ') (zMc μ) = true ∧ Nat.ble (n + zMs μ') (zMs μ) = true) (hst : Nat.ble (st.map fun v => v.category).sum 8 = true) (hol : ls.all (zoko S.length) = true) (hos : st.all (zokv S.length) = true) (hM : zMet μ' (.ref b :: As) S σ Q') (kk : ∀ (v : Option Value) (S' : List zSh) (σ' : zSt), Q' v S' σ' → S.length ≤ S'.length → zA Z μ sc (k + zMc μ') (n + zMs μ') (pc + 3) ls (v.toList ++ st) S' σ') : zA Z μ sc k n pc ls (As.reverse ++ .ref b :: st) S σ := by
  intro p l e s m args below meth c D h0 ad0 cA0 n0 ad cA H locs lsA hC hX hag hn0 hH hS hl
  have hdp := Nat.le_of_ble_eq_true hdp
  have hrm1 := Nat.le_of_ble_eq_true hrm.1
  have hrm2 := Nat.le_of_ble_eq_true hrm.2
  have hst := Nat.le_of_ble_eq_true hst

  obtain ⟨c1, c2, c3, c4, mk⟩ := cw
  exact z_cont (va_runIN (host := RX6) (b := ad b) (As := As.map (zC ad)) ⟨hC.1, hC.2.1, hC.2.2.1, hC.2.2.2.2.2.1, hC.2.2.2.2.2.2.1⟩ (hM l D h0 ad cA) ⟨va_cnB _ hC.2.2.2.2.2.2.1 (zws_good mk.2.1) (by unfold zws; rw [c4]) rfl rfl (hC.2.2.2.2.2.2.2.1.1 _ c1) (hC.2.2.2.2.2.2.1 _ mk.1) mk.2.2.1 ⟨hdp, by show 8 + (zL μ' + 11) + 36 * zDp μ' ≤ 36 * zDp μ; have := mk.2.2.2; omega⟩, c3, hC.2.2.2.2.2.2.1 _ c2⟩ ⟨zPc_blind, zPc_here hC hH hS (.ref b :: As)⟩ rfl (by rw [List.length_map]) hl.1 (by show ((As.reverse ++ .ref b :: st).map (zC ad)) = _; rw [List.map_append, List.map_cons, List.map_reverse]; rfl) (lv_room (by rw [zcat_sum]; exact hst)) d ⟨hrm1, hrm2⟩) hC hX hag hn0 hS hl hol hos kk
theorem za_objInit {idx i : Nat} (d : decode (zB μ) pc = .ok (.invokespecial idx, 3)) (hw : Cond.methodLink (zY μ).cls idx objectInit ∈ zwd ∧ Cond.instanceMethod objectInit ∈ zwd ∧ Cond.code objectInit ⟨#[0xb1]⟩ 1 none ∈ zwd) (hdp : Nat.ble 1 (zDp μ) = true) (hst : Nat.ble ((st.map fun v => v.category).sum + 12) 36 = true) (kk : zA Z μ sc k n (pc + 3) ls st S σ) : zA Z μ sc k n pc ls (.ref i :: st) S σ := by
  intro p l e s m args below meth c D h0 ad0 cA0 n0 ad cA H locs lsA hC hX hag hn0 hH hS hl
  have hdp := Nat.le_of_ble_eq_true hdp
  have hst := Nat.le_of_ble_eq_true hst
  refine W.objInit hC.1 hC.2.1 hC.2.2.2.2.2.1 (hC.2.2.2.2.2.2.1 _ hw.1) (hC.2.2.2.2.2.2.1 _ hw.2.1) (hC.2.2.2.2.2.2.1 _ hw.2.2) rfl (hl.1.trans hC.2.2.1.symm) rfl d hdp ?_ (W.eq rfl (kk p l e s m args below meth c D h0 ad0 cA0 n0 ad cA H locs lsA hC hX hag hn0 hH hS hl))
  show 2 * (F0 m pc lsA _).monitorRoom + ((st.map (zC ad)).map fun v => v.category).sum + 12 ≤ 36 * zDp μ
  rw [zcat_sum]
  have e0 : (F0 m pc lsA ((Value.ref i :: st).map (zC ad))).monitorRoom = 0 := rfl
  omega
end ZA
