/-! new cells -/
def zokr (N : Nat) : Option Nat → Bool
  | some k => Nat.blt k N
  | none => true
def zokSh (N : Nat) : zSh → Bool
  | .inl _ => true
  | .inr (.inl rs) => rs.all (zokr N)
  | .inr (.inr (_, fs)) => fs.all fun o => match o with
    | none => true
    | some r => zokr N r
theorem zokr_map {N : Nat} {ad ad' : Nat → Nat} (h : ∀ i : Nat, i < N → ad' i = ad i) {r : Option Nat} (hr : zokr N r = true) : r.map ad' = r.map ad := by
  cases r with
  | none => rfl
  | some k =>
    simp only [zokr, Nat.blt_eq] at hr
    simp only [Option.map_some, h k hr]
theorem zE_ad {N : Nat} {ad ad' : Nat → Nat} {cA cA' : Nat → ClassId} {σ : zSt} {i : Nat} {sh : zSh} (h : ∀ i : Nat, i < N → ad' i = ad i) (hc : cA' i = cA i) (hs : zokSh N sh = true) : zE ad' cA' σ i sh = zE ad cA σ i sh := by
  rcases sh with x | rs | ⟨ci, fs⟩
  · simp only [zE, hc]
  · have e : zRow ad' rs = zRow ad rs := by
      funext j
      unfold zRow
      cases hj : rs[j]? with
      | none => rfl
      | some r => exact zokr_map h (List.all_eq_true.mp hs r (List.mem_of_getElem? hj))
    simp only [zE, hc, e]
  · have e : fs.mapIdx (zF ad' (σ i)) = fs.mapIdx (zF ad (σ i)) := by
      apply List.ext_getElem?
      intro j
      rw [List.getElem?_mapIdx, List.getElem?_mapIdx]
      cases hj : fs[j]? with
      | none => rfl
      | some o =>
        have ho := List.all_eq_true.mp hs o (List.mem_of_getElem? hj)
        cases o with
        | none => rfl
        | some r => simp only [Option.map_some, zF, zokr_map h ho]
    simp only [zE, e]
theorem zWd_push {ad ad' : Nat → Nat} {cA cA' : Nat → ClassId} {S : List zSh} {σ : zSt} {sh : zSh} {f : Nat → Int32} (h : ∀ i : Nat, i < S.length → ad' i = ad i) (hc : ∀ i : Nat, i < S.length → cA' i = cA i) (hs : S.all (zokSh S.length) = true) : zWd ad' cA' (S ++ [sh]) (zrow σ S.length f) = zWd ad cA S σ ++ [(ad' S.length, zE ad' cA' (zrow σ S.length f) S.length sh)] := by
  apply List.ext_getElem?
  intro j
  have hl : (zWd ad cA S σ).length = S.length := by simp [zWd]
  rcases Nat.lt_trichotomy j S.length with hj | hj | hj
  · rw [List.getElem?_append_left (by rw [hl]; exact hj)]
    simp only [zWd, List.getElem?_mapIdx]
    rw [List.getElem?_append_left hj]
    cases hq : S[j]? with
    | none => rfl
    | some t =>
      simp only [Option.map_some]
      rw [h j hj, zE_n (Nat.ne_of_lt hj), zE_ad h (hc j hj) (List.all_eq_true.mp hs t (List.mem_of_getElem? hq))]
  · subst hj
    rw [List.getElem?_append_right (by rw [hl]; exact Nat.le_refl _), hl, Nat.sub_self]
    rw [zWd_at (sh := sh) (by simp)]
    rfl
  · rw [List.getElem?_eq_none (by simp [zWd]; omega), List.getElem?_eq_none (by simp [zWd]; omega)]
def zDf : FieldType → Option (Option Nat)
  | .object _ => some none
  | .array _ => some none
  | _ => none
def zTok : FieldType → Bool
  | .int => true
  | .boolean => true
  | .object _ => true
  | .array _ => true
  | _ => false
theorem zDf_ok {t : FieldType} (h : zTok t = true) (ad : Nat → Nat) (j : Nat) : defaultValue t = zF ad (fun _ => 0) j (zDf t) := by cases t <;> first | rfl | cases h
section ZA
variable {Z : zZt} {μ : zM} {sc : Option (Nat × (Nat → Int32))} {k n pc : Nat} {ls : List (Option Value)} {st : List Value} {S : List zSh} {σ : zSt}
theorem za_new {idx ci N N9 : Nat} {C : String} {T : u_T} {fs : List (Option (Option Nat))} {S' : List zSh} (d : decode (zB μ) pc = .ok (.new idx, 3)) (hw : Cond.classLink (zY μ).cls idx C ∈ zwd ∧ Cond.instantiable C N ∈ zwd ∧ Cond.initialized C ∈ zwd) (hc : zcl[ci]? = some (C, T, N)) (hfs : (List.range N).map (fun j => zDf (zTf ci j)) = fs) (hty : (List.range N).all (fun j => zTok (zTf ci j)) = true) (hN : S.length = N9) (hok : S.all (zokSh S.length) = true) (h999 : Nat.blt S.length 999 = true) (hol : ls.all (zoko S.length) = true) (hos : st.all (zokv S.length) = true) (hrm : Nat.ble (k + 1) (zMc μ) = true ∧ Nat.ble (n + N) (zMs μ) = true) (he : S ++ [.inr (.inr (ci, fs))] = S') (kk : zA Z μ sc (k + 1) (n + N) (pc + 3) ls (.ref N9 :: st) S' (zrow σ N9 (fun _ => 0))) : zA Z μ sc k n pc ls (st) S σ := by
  intro p l e s m args below meth c D h0 ad0 cA0 n0 ad cA H locs lsA hC hX hag hn0 hH hS hl
  subst hN
  subst he
  have h999 : S.length < 999 := by simpa using h999
  have hrm1 := Nat.le_of_ble_eq_true hrm.1
  have hrm2 := Nat.le_of_ble_eq_true hrm.2
  refine va_new (fs := fs.mapIdx (zF ad (fun _ => 0))) hC.1 hC.2.1 hC.2.2.2.2.2.2.1 (zcl_in _ _ hc) (zTf ci) (zcl_ty _ _ hc) hC.2.2.2.2.2.1 (hC.2.2.2.2.2.2.1 _ hw.1) (hC.2.2.2.2.2.2.1 _ hw.2.1) (hC.2.2.2.2.2.2.1 _ hw.2.2) hH.2.2.1 hH.1 hH.2.1 hS (fun q h => Nat.le_trans hC.2.2.2.2.2.2.2.2.1 h) hc (fun j hj => ?_) hrm1 hrm2 d (fun q H1 hP1 hD1 hS1 => ?_)
  · have h1 : fs[j]? = some (zDf (zTf ci j)) := by
      rw [← hfs]
      simp [hj]
    rw [zDf_ok (List.all_eq_true.mp hty j (List.mem_range.mpr hj)) ad j]
    simp [vp_V, List.getD_eq_getElem?_getD, List.getElem?_mapIdx, h1]
  have efs : fs.mapIdx (zF (fun i => if i = S.length then q else ad i) (fun _ => 0)) = fs.mapIdx (zF ad (fun _ => 0)) := by
    apply List.ext_getElem?
    intro j
    rw [List.getElem?_mapIdx, List.getElem?_mapIdx]
    cases hj : fs[j]? with
    | none => rfl
    | some o =>
      have hm := List.mem_of_getElem? hj
      rw [← hfs] at hm
      obtain ⟨a, -, rfl⟩ := List.mem_map.mp hm
      cases zTf ci a <;> rfl
  have had : ∀ i : Nat, i < S.length ∨ 999 ≤ i → (fun i => if i = S.length then q else ad i) i = ad i := fun i hi => if_neg (by omega)
  have hcc : ∀ i : Nat, i < S.length ∨ 999 ≤ i → (fun i => if i = S.length then cA i else cA i) i = cA i := fun i hi => if_neg (by omega)
  have ew := zWd_push (σ := σ) (sh := .inr (.inr (ci, fs))) (f := fun _ => 0) (ad := ad) (ad' := fun i => if i = S.length then q else ad i) (cA := cA) (cA' := fun i => if i = S.length then cA i else cA i) (S := S) (fun i hi => had i (Or.inl hi)) (fun i hi => hcc i (Or.inl hi)) hok
  have e9 : (zE (fun i => if i = S.length then q else ad i) (fun i => if i = S.length then cA i else cA i) (zrow σ S.length fun _ => 0) S.length (.inr (.inr (ci, fs)))) = .inr (ci, fs.mapIdx (zF ad (fun _ => 0))) := by
    simp only [zE, zrow_s, if_true, efs]
  rw [e9] at ew
  simp only [if_pos] at ew
  have hkk := kk p l e s m args below meth c D h0 ad0 cA0 n0 (fun i => if i = S.length then q else ad i) (fun i => if i = S.length then cA i else cA i) H1 locs lsA hC (fun L xs h => by rw [had 999 (Or.inr (Nat.le_refl _))]; exact hX L xs h) (fun i hi => by
      have h2 := hag i hi
      have hi' : i < S.length ∨ 999 ≤ i := hi.elim (fun h => Or.inl (Nat.lt_of_lt_of_le h hn0)) Or.inr
      exact ⟨(had i hi').trans h2.1, (hcc i hi').trans h2.2⟩) (by rw [List.length_append]; omega) ⟨by rw [ew]; exact hP1, by rw [ew]; exact hD1, hH.2.2.1, fun j sh t h1 h2 => by
      rcases Nat.lt_trichotomy j S.length with hj | hj | hj
      · rw [List.getElem?_append_left hj] at h1
        rw [hcc j (Or.inl hj)]
        exact hH.2.2.2 j sh t h1 h2
      · subst hj
        rw [List.getElem?_append_right (Nat.le_refl _), Nat.sub_self] at h1
        cases h1
        cases h2
      · rw [List.getElem?_append_right (by omega), List.getElem?_eq_none (by simp; omega)] at h1
        cases h1⟩ hS1 (hl.ad had hol)
  rw [List.map_cons, zokv_map had hos] at hkk
  have e8 : zC (fun i => if i = S.length then q else ad i) (.ref S.length) = .ref q := by simp [zC]
  rw [e8] at hkk
  exact hkk
theorem za_newarray {N N9 : Nat} {x : Int32} {S' : List zSh} (d : decode (zB μ) pc = .ok (.newarray .int, 2)) (hw : Cond.arrayClass .int ∈ zwd) (hx : x = nI N) (hNN : Nat.ble N 100000 = true) (hN : S.length = N9) (hok : S.all (zokSh S.length) = true) (h999 : Nat.blt S.length 999 = true) (hol : ls.all (zoko S.length) = true) (hos : st.all (zokv S.length) = true) (hrm : Nat.ble (k + 1) (zMc μ) = true ∧ Nat.ble (n + N) (zMs μ) = true) (he : S ++ [.inl N] = S') (kk : zA Z μ sc (k + 1) (n + N) (pc + 2) ls (.ref N9 :: st) S' (zrow σ N9 (fun _ => 0))) : zA Z μ sc k n pc ls (.int x :: st) S σ := by
  intro p l e s m args below meth c D h0 ad0 cA0 n0 ad cA H locs lsA hC hX hag hn0 hH hS hl
  subst hN
  subst he
  have h999 : S.length < 999 := by simpa using h999
  have hrm1 := Nat.le_of_ble_eq_true hrm.1
  have hrm2 := Nat.le_of_ble_eq_true hrm.2
  have hNN := Nat.le_of_ble_eq_true hNN
  subst hx
  refine va_newa (atype := .int) (ty := .int) (a0 := (N, .inl (fun _ => 0))) hC.1 hC.2.1 (hC.2.2.2.2.2.2.1 _ hw) rfl hH.2.2.1 hH.1 hH.2.1 hS (fun q h => Nat.le_trans hC.2.2.2.2.2.2.2.2.1 h) (fun _ => rfl) (nI_pos (by omega)) (nI_clamp (by omega)) (show N * 4 ≤ 536870912 by omega) hrm1 hrm2 d (fun q cq H1 hK1 hP1 hD1 hS1 => ?_)
  have had : ∀ i : Nat, i < S.length ∨ 999 ≤ i → (fun i => if i = S.length then q else ad i) i = ad i := fun i hi => if_neg (by omega)
  have hcc : ∀ i : Nat, i < S.length ∨ 999 ≤ i → (fun i => if i = S.length then cq else cA i) i = cA i := fun i hi => if_neg (by omega)
  have ew := zWd_push (σ := σ) (sh := .inl N) (f := fun _ => 0) (ad := ad) (ad' := fun i => if i = S.length then q else ad i) (cA := cA) (cA' := fun i => if i = S.length then cq else cA i) (S := S) (fun i hi => had i (Or.inl hi)) (fun i hi => hcc i (Or.inl hi)) hok
  have e9 : (zE (fun i => if i = S.length then q else ad i) (fun i => if i = S.length then cq else cA i) (zrow σ S.length fun _ => 0) S.length (.inl N)) = .inl (cq, N, .inl (fun _ => 0)) := by
    simp only [zE, zrow_s, if_true]
  rw [e9] at ew
  simp only [if_pos] at ew
  have hkk := kk p l e s m args below meth c D h0 ad0 cA0 n0 (fun i => if i = S.length then q else ad i) (fun i => if i = S.length then cq else cA i) H1 locs lsA hC (fun L xs h => by rw [had 999 (Or.inr (Nat.le_refl _))]; exact hX L xs h) (fun i hi => by
      have h2 := hag i hi
      have hi' : i < S.length ∨ 999 ≤ i := hi.elim (fun h => Or.inl (Nat.lt_of_lt_of_le h hn0)) Or.inr
      exact ⟨(had i hi').trans h2.1, (hcc i hi').trans h2.2⟩) (by rw [List.length_append]; omega) ⟨by rw [ew]; exact hP1, by rw [ew]; exact hD1, hH.2.2.1, fun j sh t h1 h2 => by
      rcases Nat.lt_trichotomy j S.length with hj | hj | hj
      · rw [List.getElem?_append_left hj] at h1
        rw [hcc j (Or.inl hj)]
        exact hH.2.2.2 j sh t h1 h2
      · subst hj
        rw [List.getElem?_append_right (Nat.le_refl _), Nat.sub_self] at h1
        cases h1
        cases h2
        have e7 : (fun i => if i = S.length then cq else cA i) S.length = cq := if_pos rfl
        rw [e7]
        exact hK1.2 0 _ rfl
      · rw [List.getElem?_append_right (by omega), List.getElem?_eq_none (by simp; omega)] at h1
        cases h1⟩ hS1 (hl.ad had hol)
  rw [List.map_cons, zokv_map had hos] at hkk
  have e8 : zC (fun i => if i = S.length then q else ad i) (.ref S.length) = .ref q := by simp [zC]
  rw [e8] at hkk
  exact hkk
theorem za_anewarray {N N9 idx : Nat} {x : Int32} {S' : List zSh} (d : decode (zB μ) pc = .ok (.anewarray idx, 3)) (hw : Cond.classLink (zY μ).cls idx RX4 ∈ zwd) (hx : x = nI N) (hNN : Nat.ble N 100000 = true) (hN : S.length = N9) (hok : S.all (zokSh S.length) = true) (h999 : Nat.blt S.length 999 = true) (hol : ls.all (zoko S.length) = true) (hos : st.all (zokv S.length) = true) (hrm : Nat.ble (k + 1) (zMc μ) = true ∧ Nat.ble (n + N) (zMs μ) = true) (he : S ++ [.inr (.inl (List.replicate N none))] = S') (kk : zA Z μ sc (k + 1) (n + N) (pc + 3) ls (.ref N9 :: st) S' (zrow σ N9 (fun _ => 0))) : zA Z μ sc k n pc ls (.int x :: st) S σ := by
  intro p l e s m args below meth c D h0 ad0 cA0 n0 ad cA H locs lsA hC hX hag hn0 hH hS hl
  subst hN
  subst he
  have h999 : S.length < 999 := by simpa using h999
  have hrm1 := Nat.le_of_ble_eq_true hrm.1
  have hrm2 := Nat.le_of_ble_eq_true hrm.2
  have hNN := Nat.le_of_ble_eq_true hNN
  subst hx
  refine va_newq hC.1 hC.2.1 hC.2.2.2.2.2.1 (hC.2.2.2.2.2.2.1 _ hw) hC.2.2.2.2.2.2.2.1.2 hH.2.2.1 hH.1 hH.2.1 hS (fun q h => Nat.le_trans hC.2.2.2.2.2.2.2.2.1 h) (nI_pos (by omega)) (nI_clamp (by omega)) (show N * 4 ≤ 536870912 by omega) hrm1 hrm2 d (fun q cq H1 hK1 hP1 hD1 hS1 => ?_)
  have er : ∀ ad9 : Nat → Nat, zRow ad9 (List.replicate N none) = fun _ => none := by
    intro ad9
    funext j
    unfold zRow
    cases hj : (List.replicate N (none : Option Nat))[j]? with
    | none => rfl
    | some r =>
      have := List.eq_of_mem_replicate (List.mem_of_getElem? hj)
      rw [this]
      rfl
  have had : ∀ i : Nat, i < S.length ∨ 999 ≤ i → (fun i => if i = S.length then q else ad i) i = ad i := fun i hi => if_neg (by omega)
  have hcc : ∀ i : Nat, i < S.length ∨ 999 ≤ i → (fun i => if i = S.length then cq else cA i) i = cA i := fun i hi => if_neg (by omega)
  have ew := zWd_push (σ := σ) (sh := .inr (.inl (List.replicate N none))) (f := fun _ => 0) (ad := ad) (ad' := fun i => if i = S.length then q else ad i) (cA := cA) (cA' := fun i => if i = S.length then cq else cA i) (S := S) (fun i hi => had i (Or.inl hi)) (fun i hi => hcc i (Or.inl hi)) hok
  have e9 : (zE (fun i => if i = S.length then q else ad i) (fun i => if i = S.length then cq else cA i) (zrow σ S.length fun _ => 0) S.length (.inr (.inl (List.replicate N none)))) = .inl (cq, N, .inr (.inr (.inr (.inr (fun _ => none))))) := by
    simp only [zE, zrow_s, if_true, List.length_replicate, er]
  rw [e9] at ew
  simp only [if_pos] at ew
  have hkk := kk p l e s m args below meth c D h0 ad0 cA0 n0 (fun i => if i = S.length then q else ad i) (fun i => if i = S.length then cq else cA i) H1 locs lsA hC (fun L xs h => by rw [had 999 (Or.inr (Nat.le_refl _))]; exact hX L xs h) (fun i hi => by
      have h2 := hag i hi
      have hi' : i < S.length ∨ 999 ≤ i := hi.elim (fun h => Or.inl (Nat.lt_of_lt_of_le h hn0)) Or.inr
      exact ⟨(had i hi').trans h2.1, (hcc i hi').trans h2.2⟩) (by rw [List.length_append]; omega) ⟨by rw [ew]; exact hP1, by rw [ew]; exact hD1, hH.2.2.1, fun j sh t h1 h2 => by
      rcases Nat.lt_trichotomy j S.length with hj | hj | hj
      · rw [List.getElem?_append_left hj] at h1
        rw [hcc j (Or.inl hj)]
        exact hH.2.2.2 j sh t h1 h2
      · subst hj
        rw [List.getElem?_append_right (Nat.le_refl _), Nat.sub_self] at h1
        cases h1
        cases h2
        have e7 : (fun i => if i = S.length then cq else cA i) S.length = cq := if_pos rfl
        rw [e7]
        exact hK1.2 0 _ rfl
      · rw [List.getElem?_append_right (by omega), List.getElem?_eq_none (by simp; omega)] at h1
        cases h1⟩ hS1 (hl.ad had hol)
  rw [List.map_cons, zokv_map had hos] at hkk
  have e8 : zC (fun i => if i = S.length then q else ad i) (.ref S.length) = .ref q := by simp [zC]
  rw [e8] at hkk
  exact hkk
end ZA
