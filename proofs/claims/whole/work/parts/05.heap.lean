/-! heap rows of the judgement: fields, rows, returns, entry, calls, new cells -/
def zTf (ci : Nat) : Nat → FieldType := match ci with
  | 0 => tyX0
  | 1 => tyX1
  | 2 => tyX2
  | 3 => tyX3
  | 4 => tyX4
  | 5 => tyX5
  | 6 => tyX6
  | _ => tyX7
theorem zcl_cases {P : Nat → vw_C → Prop} (h0 : P 0 (RX0, TX0, 14)) (h1 : P 1 (RX1, TX1, 10)) (h2 : P 2 (RX2, TX2, 7)) (h3 : P 3 (RX3, TX3, 4)) (h4 : P 4 (RX4, TX4, 3)) (h5 : P 5 (RX5, TX5, 10)) (h6 : P 6 (RX6, TX6, 6)) (h7 : P 7 (RX7, TX7, 28)) : ∀ (ci : Nat) (q : vw_C), zcl[ci]? = some q → P ci q := by
  intro ci q h
  match ci, h with
  | 0, h => cases h; exact h0
  | 1, h => cases h; exact h1
  | 2, h => cases h; exact h2
  | 3, h => cases h; exact h3
  | 4, h => cases h; exact h4
  | 5, h => cases h; exact h5
  | 6, h => cases h; exact h6
  | 7, h => cases h; exact h7
  | c + 8, h => simp [zcl] at h
set_option maxRecDepth 100000 in
theorem zin0 : ∀ w ∈ u_ws RX0 TX0 14, w ∈ zwd := by decide +kernel
set_option maxRecDepth 100000 in
theorem zin1 : ∀ w ∈ u_ws RX1 TX1 10, w ∈ zwd := by decide +kernel
set_option maxRecDepth 100000 in
theorem zin2 : ∀ w ∈ u_ws RX2 TX2 7, w ∈ zwd := by decide +kernel
set_option maxRecDepth 100000 in
theorem zin3 : ∀ w ∈ u_ws RX3 TX3 4, w ∈ zwd := by decide +kernel
set_option maxRecDepth 100000 in
theorem zin4 : ∀ w ∈ u_ws RX4 TX4 3, w ∈ zwd := by decide +kernel
set_option maxRecDepth 100000 in
theorem zin5 : ∀ w ∈ u_ws RX5 TX5 10, w ∈ zwd := by decide +kernel
set_option maxRecDepth 100000 in
theorem zin6 : ∀ w ∈ u_ws RX6 TX6 6, w ∈ zwd := by decide +kernel
set_option maxRecDepth 100000 in
theorem zin7 : ∀ w ∈ u_ws RX7 TX7 28, w ∈ zwd := by decide +kernel
theorem zcl_in : ∀ (ci : Nat) (q : vw_C), zcl[ci]? = some q → ∀ w ∈ u_ws q.1 q.2.1 q.2.2, w ∈ zwd := zcl_cases zin0 zin1 zin2 zin3 zin4 zin5 zin6 zin7
theorem zcl_ty : ∀ (ci : Nat) (q : vw_C), zcl[ci]? = some q → ∀ k, k < q.2.2 → parseFieldDescriptor (q.2.1 k).2.2.1 = some (zTf ci k) := zcl_cases tyX0_ok tyX1_ok tyX2_ok tyX3_ok tyX4_ok tyX5_ok tyX6_ok tyX7_ok
theorem zcl_nm : ∀ (ci : Nat) (q : vw_C), zcl[ci]? = some q → ∀ a, a < q.2.2 → ∀ b, b < q.2.2 → a ≠ b → (q.2.1 a).2.1 ≠ (q.2.1 b).2.1 := zcl_cases nmX0 nmX1 nmX2 nmX3 nmX4 nmX5 nmX6 nmX7
/-- a field link: class own, entry idx: slot kf of class number ci -/
def zLk (own : String) (idx ci kf : Nat) : Prop := ∃ (C : String) (T : u_T) (N : Nat), zcl[ci]? = some (C, T, N) ∧ kf < N ∧ Cond.fieldLink own idx (T kf).1 (T kf).2.1 (T kf).2.2.1 ∈ zwd
def zLp (own : String) (idx ci kf : Nat) (fin : Bool) (ty : FieldType) : Prop := ∃ (C : String) (T : u_T) (N : Nat), zcl[ci]? = some (C, T, N) ∧ kf < N ∧ Cond.fieldLink own idx (T kf).1 (T kf).2.1 (T kf).2.2.1 ∈ zwd ∧ (T kf).2.2.2 = fin ∧ parseFieldDescriptor (T kf).2.2.1 = some ty ∧ (T kf).1 = C
theorem zmI {ad : Nat → Nat} {f : Nat → Int32} {fs : List (Option (Option Nat))} {kf : Nat} (h : fs[kf]? = some none) : (fs.mapIdx (zF ad f))[kf]? = some (.int (f kf)) := by simp [List.getElem?_mapIdx, h, zF]
theorem zmR {ad : Nat → Nat} {f : Nat → Int32} {fs : List (Option (Option Nat))} {kf r : Nat} (h : fs[kf]? = some (some (some r))) : (fs.mapIdx (zF ad f))[kf]? = some (.ref (ad r)) := by simp [List.getElem?_mapIdx, h, zF, va_rf]
theorem zmSet {ad : Nat → Nat} {f : Nat → Int32} {fs : List (Option (Option Nat))} {kf : Nat} {x : Int32} (h : fs[kf]? = some none) : (fs.mapIdx (zF ad f)).set kf (.int x) = fs.mapIdx (zF ad (upd f kf x)) := by
  apply List.ext_getElem?
  intro j
  have hi : kf < (fs.mapIdx (zF ad f)).length := by rw [List.length_mapIdx]; exact (List.getElem?_eq_some_iff.mp h).1
  by_cases hj : j = kf
  · subst hj
    rw [List.getElem?_set_self hi, zmI h]
    simp [upd]
  · rw [List.getElem?_set_ne (fun q => hj q.symm), List.getElem?_mapIdx, List.getElem?_mapIdx]
    cases fs[j]? with
    | none => rfl
    | some o => cases o <;> simp [zF, upd, hj]
theorem zmSetR {ad : Nat → Nat} {f : Nat → Int32} {fs : List (Option (Option Nat))} {kf r : Nat} (h : kf < fs.length) : (fs.mapIdx (zF ad f)).set kf (.ref (ad r)) = (fs.set kf (some (some r))).mapIdx (zF ad f) := by
  apply List.ext_getElem?
  intro j
  have hi : kf < (fs.mapIdx (zF ad f)).length := by rw [List.length_mapIdx]; exact h
  by_cases hj : j = kf
  · subst hj
    rw [List.getElem?_set_self hi, zmR (List.getElem?_set_self h)]
  · rw [List.getElem?_set_ne (fun q => hj q.symm), List.getElem?_mapIdx, List.getElem?_mapIdx, List.getElem?_set_ne (fun q => hj q.symm)]
section ZA
variable {Z : zZt} {μ : zM} {sc : Option (Nat × (Nat → Int32))} {k n pc : Nat} {ls : List (Option Value)} {st : List Value} {S : List zSh} {σ : zSt}
theorem za_getI {i ci idx kf : Nat} {fs : List (Option (Option Nat))} (d : decode (zB μ) pc = .ok (.getfield idx, 3)) (lk : zLk (zY μ).cls idx ci kf) (hs : S[i]? = some (.inr (.inr (ci, fs)))) (hf : fs[kf]? = some none) (kk : zA Z μ sc k n (pc + 3) ls (.int (σ i kf) :: st) S σ) : zA Z μ sc k n pc ls (.ref i :: st) S σ := by
  intro p l e s m args below meth c D h0 ad0 cA0 n0 ad cA H locs lsA hC hX hag hn0 hH hS hl
  obtain ⟨C, T, N, hc, hk, hw⟩ := lk
  exact va_get hC.1 hC.2.1 hC.2.2.2.2.2.2.1 (zcl_in _ _ hc) hC.2.2.2.2.2.1 hH.2.2.1 hH.1 i (zWd_at hs) hc kf hk (hC.2.2.2.2.2.2.1 _ hw) (fun _ h => h) (zmI hf) d (kk p l e s m args below meth c D h0 ad0 cA0 n0 ad cA H locs lsA hC hX hag hn0 hH hS hl)
theorem za_getR {i ci idx kf r : Nat} {fs : List (Option (Option Nat))} (d : decode (zB μ) pc = .ok (.getfield idx, 3)) (lk : zLk (zY μ).cls idx ci kf) (hs : S[i]? = some (.inr (.inr (ci, fs)))) (hf : fs[kf]? = some (some (some r))) (kk : zA Z μ sc k n (pc + 3) ls (.ref r :: st) S σ) : zA Z μ sc k n pc ls (.ref i :: st) S σ := by
  intro p l e s m args below meth c D h0 ad0 cA0 n0 ad cA H locs lsA hC hX hag hn0 hH hS hl
  obtain ⟨C, T, N, hc, hk, hw⟩ := lk
  exact va_get hC.1 hC.2.1 hC.2.2.2.2.2.2.1 (zcl_in _ _ hc) hC.2.2.2.2.2.1 hH.2.2.1 hH.1 i (zWd_at hs) hc kf hk (hC.2.2.2.2.2.2.1 _ hw) (fun _ h => h) (zmR hf) d (kk p l e s m args below meth c D h0 ad0 cA0 n0 ad cA H locs lsA hC hX hag hn0 hH hS hl)
theorem za_putX {i ci idx kf : Nat} {ty : FieldType} {x : Int32} {fs : List (Option (Option Nat))} (d : decode (zB μ) pc = .ok (.putfield idx, 3)) (lk : zLp (zY μ).cls idx ci kf false ty) (hs : S[i]? = some (.inr (.inr (ci, fs)))) (hf : fs[kf]? = some none) (hn : narrow ty (.int x) = .int x) (hfit : fits ty (.int x) = true) (kk : zA Z μ sc k n (pc + 3) ls st S (zup σ i kf x)) : zA Z μ sc k n pc ls (.int x :: .ref i :: st) S σ := by
  intro p l e s m args below meth c D h0 ad0 cA0 n0 ad cA H locs lsA hC hX hag hn0 hH hS hl
  obtain ⟨C, T, N, hc, hk, hw, hfin, hd, -⟩ := lk
  refine va_put hC.1 hC.2.1 hC.2.2.2.2.2.2.1 (zcl_in _ _ hc) (zTf ci) (zcl_ty _ _ hc) (zcl_nm _ _ hc) hC.2.2.2.2.2.1 hH.2.2.1 hH.1 hH.2.1 hS i (zWd_at hs) hc kf hk (hC.2.2.2.2.2.2.1 _ hw) (fun _ h => h) hfin hd hn hfit (by rw [List.length_mapIdx]; exact (List.getElem?_eq_some_iff.mp hf).1) d (fun H1 locs1 hP1 hD1 hS1 => ?_)
  have ew : (zWd ad cA S σ).set i (ad i, .inr (ci, (fs.mapIdx (zF ad (σ i))).set kf (.int x))) = zWd ad cA S (zup σ i kf x) := by
    rw [zmSet hf, zup, ← zWd_row hs]
    simp only [zE, zrow_s]
  exact kk p l e s m args below meth c D h0 ad0 cA0 n0 ad cA H1 locs1 lsA hC hX hag hn0 ⟨by rw [← ew]; exact hP1, by rw [← ew]; exact hD1, hH.2.2⟩ hS1 hl
theorem za_putI {i ci idx kf : Nat} {x : Int32} {fs : List (Option (Option Nat))} (d : decode (zB μ) pc = .ok (.putfield idx, 3)) (lk : zLp (zY μ).cls idx ci kf false .int) (hs : S[i]? = some (.inr (.inr (ci, fs)))) (hf : fs[kf]? = some none) (kk : zA Z μ sc k n (pc + 3) ls st S (zup σ i kf x)) : zA Z μ sc k n pc ls (.int x :: .ref i :: st) S σ := za_putX d lk hs hf rfl rfl kk
theorem za_putR {i ci idx kf r : Nat} {ty : FieldType} {fs : List (Option (Option Nat))} {S' : List zSh} (d : decode (zB μ) pc = .ok (.putfield idx, 3)) (lk : zLp (zY μ).cls idx ci kf true ty) (hown : (zcl[ci]?).map (fun q => q.1) = some (zY μ).cls) (hin : (zY μ).name = "<init>") (hty : (∃ t, ty = .object t) ∨ ∃ t, ty = .array t) (hs : S[i]? = some (.inr (.inr (ci, fs)))) (hf : kf < fs.length) (he : S.set i (.inr (.inr (ci, fs.set kf (some (some r))))) = S') (kk : zA Z μ sc k n (pc + 3) ls st S' σ) : zA Z μ sc k n pc ls (.ref r :: .ref i :: st) S σ := by
  intro p l e s m args below meth c D h0 ad0 cA0 n0 ad cA H locs lsA hC hX hag hn0 hH hS hl
  subst he
  obtain ⟨C, T, N, hc, hk, hw, hfin, hd, hC2⟩ := lk
  rw [hc] at hown
  have hown2 : C = (zY μ).cls := Option.some.inj hown
  have hn9 : narrow ty (.ref (ad r)) = .ref (ad r) ∧ fits ty (.ref (ad r)) = true := by rcases hty with ⟨t, rfl⟩ | ⟨t, rfl⟩ <;> exact ⟨rfl, rfl⟩
  refine va_putF hC.1 hC.2.1 hC.2.2.2.2.2.2.1 (zcl_in _ _ hc) (zTf ci) (zcl_ty _ _ hc) (zcl_nm _ _ hc) hC.2.2.2.2.2.1 hH.2.2.1 hH.1 hH.2.1 hS i (zWd_at hs) hc kf hk (hC.2.2.2.2.2.2.1 _ hw) (fun _ h => h) hfin (hC.2.2.2.2.2.2.2.2.2.trans hin) (hC2.trans hown2) hd hn9.1 hn9.2 (by rw [List.length_mapIdx]; exact hf) d (fun H1 locs1 hP1 hD1 hS1 => ?_)
  have ew : (zWd ad cA S σ).set i (ad i, .inr (ci, (fs.mapIdx (zF ad (σ i))).set kf (.ref (ad r)))) = zWd ad cA (S.set i (.inr (.inr (ci, fs.set kf (some (some r)))))) σ := by
    rw [zmSetR hf, ← zWd_shape hs]
    rfl
  have hsz : i < S.length := (List.getElem?_eq_some_iff.mp hs).1
  refine kk p l e s m args below meth c D h0 ad0 cA0 n0 ad cA H1 locs1 lsA hC hX hag (by rw [List.length_set]; exact hn0) ⟨by rw [← ew]; exact hP1, by rw [← ew]; exact hD1, hH.2.2.1, fun j sh t h1 h2 => ?_⟩ hS1 hl
  by_cases hj : j = i
  · subst hj
    rw [List.getElem?_set_self hsz] at h1
    cases h1
    cases h2
  · rw [List.getElem?_set_ne (fun q => hj q.symm)] at h1
    exact hH.2.2.2 j sh t h1 h2
theorem za_iald {i N : Nat} {j : Int32} (d : decode (zB μ) pc = .ok (.iaload, 1)) (hs : S[i]? = some (.inl N)) (hin : vp_in j N) (kk : zA Z μ sc k n (pc + 1) ls (.int (σ i j.toNatClampNeg) :: st) S σ) : zA Z μ sc k n pc ls (.int j :: .ref i :: st) S σ := by
  intro p l e s m args below meth c D h0 ad0 cA0 n0 ad cA H locs lsA hC hX hag hn0 hH hS hl
  exact va_iald hC.1 hC.2.1 (hH.K1 hs rfl) hH.1 i 0 (zWd_at hs) rfl hin d (kk p l e s m args below meth c D h0 ad0 cA0 n0 ad cA H locs lsA hC hX hag hn0 hH hS hl)
theorem za_iast {i N : Nat} {j x : Int32} (d : decode (zB μ) pc = .ok (.iastore, 1)) (hs : S[i]? = some (.inl N)) (hin : vp_in j N) (kk : zA Z μ sc k n (pc + 1) ls st S (zup σ i j.toNatClampNeg x)) : zA Z μ sc k n pc ls (.int x :: .int j :: .ref i :: st) S σ := by
  intro p l e s m args below meth c D h0 ad0 cA0 n0 ad cA H locs lsA hC hX hag hn0 hH hS hl
  refine va_iast hC.1 hC.2.1 (hH.K1 hs rfl) hH.1 hH.2.1 hS i 0 (zWd_at hs) rfl hin d (fun H1 locs1 hP1 hD1 hS1 => ?_)
  have ew : (zWd ad cA S σ).set i (ad i, .inl (cA i, N, .inl (upd (σ i) j.toNatClampNeg x))) = zWd ad cA S (zup σ i j.toNatClampNeg x) := by
    rw [zup, ← zWd_row hs]
    simp only [zE, zrow_s]
  exact kk p l e s m args below meth c D h0 ad0 cA0 n0 ad cA H1 locs1 lsA hC hX hag hn0 ⟨by rw [← ew]; exact hP1, by rw [← ew]; exact hD1, hH.2.2⟩ hS1 hl
theorem za_alen {i N : Nat} (d : decode (zB μ) pc = .ok (.arraylength, 1)) (hs : S[i]? = some (.inl N)) (kk : zA Z μ sc k n (pc + 1) ls (.int (Int32.ofNat N) :: st) S σ) : zA Z μ sc k n pc ls (.ref i :: st) S σ := by
  intro p l e s m args below meth c D h0 ad0 cA0 n0 ad cA H locs lsA hC hX hag hn0 hH hS hl
  exact va_alen hC.1 hC.2.1 (hH.K1 hs rfl) hH.1 i 0 (zWd_at hs) rfl rfl d (kk p l e s m args below meth c D h0 ad0 cA0 n0 ad cA H locs lsA hC hX hag hn0 hH hS hl)
theorem za_aald {i r : Nat} {rs : List (Option Nat)} {j : Int32} (d : decode (zB μ) pc = .ok (.aaload, 1)) (hs : S[i]? = some (.inr (.inl rs))) (hin : vp_in j rs.length) (hr : rs[j.toNatClampNeg]? = some (some r)) (kk : zA Z μ sc k n (pc + 1) ls (.ref r :: st) S σ) : zA Z μ sc k n pc ls (.int j :: .ref i :: st) S σ := by
  intro p l e s m args below meth c D h0 ad0 cA0 n0 ad cA H locs lsA hC hX hag hn0 hH hS hl
  refine va_aldq hC.1 hC.2.1 (hH.K1 hs rfl) hH.1 i 0 (zWd_at hs) rfl hin d ?_
  have er : va_rf (zRow ad rs j.toNatClampNeg) = .ref (ad r) := by simp [zRow, hr, va_rf]
  rw [er]
  exact kk p l e s m args below meth c D h0 ad0 cA0 n0 ad cA H locs lsA hC hX hag hn0 hH hS hl
theorem za_aast {i v ci : Nat} {rs : List (Option Nat)} {fs : List (Option (Option Nat))} {j : Int32} {S' : List zSh} (d : decode (zB μ) pc = .ok (.aastore, 1)) (hs : S[i]? = some (.inr (.inl rs))) (hv : S[v]? = some (.inr (.inr (4, fs)))) (hin : vp_in j rs.length) (he : S.set i (.inr (.inl (rs.set j.toNatClampNeg (some v)))) = S') (kk : zA Z μ sc k n (pc + 1) ls st S' σ) : zA Z μ sc k n pc ls (.ref v :: .int j :: .ref i :: st) S σ := by
  intro p l e s m args below meth c D h0 ad0 cA0 n0 ad cA H locs lsA hC hX hag hn0 hH hS hl
  subst he
  refine va_astq hC.1 hC.2.1 (hH.K1 hs rfl) hH.1 hH.2.1 hS i 0 v 4 (r := (RX4, TX4, 3)) (zWd_at hs) rfl (zWd_at hv) rfl hin d (fun H1 locs1 hP1 hD1 hS1 => ?_)
  have hjl : j.toNatClampNeg < rs.length := by
    rcases Nat.lt_or_ge j.toNatClampNeg rs.length with h | h
    · exact h
    · exact absurd (Or.inr h) hin
  have e1 : va_up (zRow ad rs) j.toNatClampNeg (some (ad v)) = zRow ad (rs.set j.toNatClampNeg (some v)) := by
    funext q
    unfold va_up zRow
    by_cases hq : q = j.toNatClampNeg
    · rw [if_pos hq, hq, List.getElem?_set_self hjl]
      rfl
    · rw [if_neg hq, List.getElem?_set_ne (fun z => hq z.symm)]
  have ew : (zWd ad cA S σ).set i (ad i, .inl (cA i, rs.length, .inr (.inr (.inr (.inr (va_up (zRow ad rs) j.toNatClampNeg (some (ad v)))))))) = zWd ad cA (S.set i (.inr (.inl (rs.set j.toNatClampNeg (some v))))) σ := by
    rw [e1, ← zWd_shape hs]
    simp only [zE, List.length_set]
  have hsz : i < S.length := (List.getElem?_eq_some_iff.mp hs).1
  refine kk p l e s m args below meth c D h0 ad0 cA0 n0 ad cA H1 locs1 lsA hC hX hag (by rw [List.length_set]; exact hn0) ⟨by rw [← ew]; exact hP1, by rw [← ew]; exact hD1, hH.2.2.1, fun q sh t h1 h2 => ?_⟩ hS1 hl
  by_cases hj : q = i
  · subst hj
    rw [List.getElem?_set_self hsz] at h1
    cases h1
    exact hH.2.2.2 q _ t hs h2
  · rw [List.getElem?_set_ne (fun z => hj z.symm)] at h1
    exact hH.2.2.2 q sh t h1 h2
theorem za_copy {i0 i1 N0 N1 idx : Nat} {sp dp q : Int32} (d : decode (zB μ) pc = .ok (.invokestatic idx, 3)) (hw : Cond.methodLink (zY μ).cls idx arraycopyName ∈ zwd ∧ Cond.native arraycopyName ∈ zwd ∧ Cond.static arraycopyName ∈ zwd ∧ Cond.initialized "java/lang/System" ∈ zwd) (hs0 : S[i0]? = some (.inl N0)) (hs1 : S[i1]? = some (.inl N1)) (h1 : ¬ sp < 0) (h2 : ¬ dp < 0) (h3 : ¬ q < 0) (h4 : sp.toNatClampNeg + q.toNatClampNeg ≤ N0) (h5 : dp.toNatClampNeg + q.toNatClampNeg ≤ N1) (hdp : 1 ≤ zDp μ) (hst : (st.map fun v => v.category).sum + (nativeFrameWords "java/lang/System" "arraycopy" 5 + 11) ≤ 36) (kk : zA Z μ sc k n (pc + 3) ls st S (zrow σ i1 (va_cpy (σ i0) (σ i1) sp.toNatClampNeg dp.toNatClampNeg q.toNatClampNeg))) : zA Z μ sc k n pc ls (.int q :: .int dp :: .ref i1 :: .int sp :: .ref i0 :: st) S σ := by
  intro p l e s m args below meth c D h0 ad0 cA0 n0 ad cA H locs lsA hC hX hag hn0 hH hS hl
  refine va_copyi hC.1 hC.2.1 (hC.2.2.1.trans hl.1.symm) hC.2.2.2.2.2.1 (hC.2.2.2.2.2.2.1 _ hw.1) (hC.2.2.2.2.2.2.1 _ hw.2.1) (hC.2.2.2.2.2.2.1 _ hw.2.2.1) (hC.2.2.2.2.2.2.1 _ hw.2.2.2) (hH.K2 hs0 rfl hs1 rfl) hH.1 hH.2.1 hS i0 i1 0 1 (zWd_at hs0) (zWd_at hs1) rfl rfl rfl h1 h2 h3 h4 h5 (fun _ _ => rfl) hdp (by
    have e : ((st.map (zC ad)).map fun v => v.category) = st.map fun v => v.category := by
      rw [List.map_map]
      exact List.map_congr_left (fun v _ => zC_cat ad v)
    show _ ≤ 36 * zDp μ
    rw [e]
    omega) d (fun H1 locs1 hP1 hD1 hS1 => ?_)
  have ew : (zWd ad cA S σ).set i1 (ad i1, .inl (cA i1, N1, .inl (va_cpy (σ i0) (σ i1) sp.toNatClampNeg dp.toNatClampNeg q.toNatClampNeg))) = zWd ad cA S (zrow σ i1 (va_cpy (σ i0) (σ i1) sp.toNatClampNeg dp.toNatClampNeg q.toNatClampNeg)) := by
    rw [← zWd_row hs1]
    simp only [zE, zrow_s]
  exact kk p l e s m args below meth c D h0 ad0 cA0 n0 ad cA H1 locs1 lsA hC hX hag hn0 ⟨by rw [← ew]; exact hP1, by rw [← ew]; exact hD1, hH.2.2⟩ hS1 hl
theorem za_sld {L : Nat} {xs : Nat → Int32} {j : Int32} (d : decode (zB μ) pc = .ok (.iaload, 1)) (hin : vp_in j L) (kk : zA Z μ (some (L, xs)) k n (pc + 1) ls (.int (xs j.toNatClampNeg) :: st) S σ) : zA Z μ (some (L, xs)) k n pc ls (.int j :: .ref 999 :: st) S σ := by
  intro p l e s m args below meth c D h0 ad0 cA0 n0 ad cA H locs lsA hC hX hag hn0 hH hS hl
  exact va_sld hC.1 hC.2.1 (hX L xs rfl).1 (Nat.lt_of_lt_of_le (hX L xs rfl).2 hC.2.2.2.2.2.2.2.2.1) (Nat.not_le.mpr (hX L xs rfl).2) hS hin d (kk p l e s m args below meth c D h0 ad0 cA0 n0 ad cA H locs lsA hC hX hag hn0 hH hS hl)
theorem za_slen {L : Nat} {xs : Nat → Int32} (d : decode (zB μ) pc = .ok (.arraylength, 1)) (kk : zA Z μ (some (L, xs)) k n (pc + 1) ls (.int (Int32.ofNat L) :: st) S σ) : zA Z μ (some (L, xs)) k n pc ls (.ref 999 :: st) S σ := by
  intro p l e s m args below meth c D h0 ad0 cA0 n0 ad cA H locs lsA hC hX hag hn0 hH hS hl
  exact va_slen hC.1 hC.2.1 (hX L xs rfl).1 (Nat.lt_of_lt_of_le (hX L xs rfl).2 hC.2.2.2.2.2.2.2.2.1) (Nat.not_le.mpr (hX L xs rfl).2) hS d (kk p l e s m args below meth c D h0 ad0 cA0 n0 ad cA H locs lsA hC hX hag hn0 hH hS hl)
theorem za_ireturn {Q : Option Value → List zSh → zSt → Prop} {x : Int32} (d : decode (zB μ) pc = .ok (.ireturn, 1)) (hr : zR μ = some .int) (hk : k ≤ zMc μ) (hn : n ≤ zMs μ) (hq : Q (some (.int x)) S σ) : zA (zZ μ Q) μ sc k n pc ls [.int x] S σ := by
  intro p l e s m args below meth c D h0 ad0 cA0 n0 ad cA H locs lsA hC hX hag hn0 hH hS hl
  refine W.widen hk hn ?_
  exact W.iret hC.1 hC.2.1 (hC.2.2.2.1.trans hr) (fun t ht hW => ⟨⟨some (.int x), S, σ, ad, cA, hag, hn0, rfl, hq, by rw [ht]; exact hH.moved hW.alike⟩, hS.F ht⟩) hS.2.2 d hC.2.2.2.2.1
theorem za_zreturn {Q : Option Value → List zSh → zSt → Prop} {x : Int32} (d : decode (zB μ) pc = .ok (.ireturn, 1)) (hr : zR μ = some .boolean) (hx : narrow .boolean (.int x) = .int x) (hk : k ≤ zMc μ) (hn : n ≤ zMs μ) (hq : Q (some (.int x)) S σ) : zA (zZ μ Q) μ sc k n pc ls [.int x] S σ := by
  intro p l e s m args below meth c D h0 ad0 cA0 n0 ad cA H locs lsA hC hX hag hn0 hH hS hl
  refine W.widen hk hn ?_
  exact W.zret hC.1 hC.2.1 (hC.2.2.2.1.trans hr) hx (fun t ht hW => ⟨⟨some (.int x), S, σ, ad, cA, hag, hn0, rfl, hq, by rw [ht]; exact hH.moved hW.alike⟩, hS.F ht⟩) hS.2.2 d hC.2.2.2.2.1
theorem za_lreturn {Q : Option Value → List zSh → zSt → Prop} {x : Int64} (d : decode (zB μ) pc = .ok (.lreturn, 1)) (hr : zR μ = some .long) (hk : k ≤ zMc μ) (hn : n ≤ zMs μ) (hq : Q (some (.long x)) S σ) : zA (zZ μ Q) μ sc k n pc ls [.long x] S σ := by
  intro p l e s m args below meth c D h0 ad0 cA0 n0 ad cA H locs lsA hC hX hag hn0 hH hS hl
  refine W.widen hk hn ?_
  exact W.lret hC.1 hC.2.1 (hC.2.2.2.1.trans hr) (fun t ht hW => ⟨⟨some (.long x), S, σ, ad, cA, hag, hn0, rfl, hq, by rw [ht]; exact hH.moved hW.alike⟩, hS.F ht⟩) hS.2.2 d hC.2.2.2.2.1
theorem za_return {Q : Option Value → List zSh → zSt → Prop} (d : decode (zB μ) pc = .ok (.return_, 1)) (hr : zR μ = none) (hk : k ≤ zMc μ) (hn : n ≤ zMs μ) (hq : Q none S σ) : zA (zZ μ Q) μ sc k n pc ls [] S σ := by
  intro p l e s m args below meth c D h0 ad0 cA0 n0 ad cA H locs lsA hC hX hag hn0 hH hS hl
  refine W.widen hk hn ?_
  exact W.vret hC.1 hC.2.1 (hC.2.2.2.1.trans hr) (fun t ht hW => ⟨⟨none, S, σ, ad, cA, hag, hn0, rfl, hq, by rw [ht]; exact hH.moved hW.alike⟩, hS.F ht⟩) hS.2.2 d hC.2.2.2.2.1
theorem za_areturn {Q : Option Value → List zSh → zSt → Prop} {C : String} {r : Nat} (d : decode (zB μ) pc = .ok (.areturn, 1)) (hr : zR μ = some (.object C)) (hk : k ≤ zMc μ) (hn : n ≤ zMs μ) (hq : Q (some (.ref r)) S σ) : zA (zZ μ Q) μ sc k n pc ls [.ref r] S σ := by
  intro p l e s m args below meth c D h0 ad0 cA0 n0 ad cA H locs lsA hC hX hag hn0 hH hS hl
  refine W.widen hk hn ?_
  exact W.aret hC.1 hC.2.1 (hC.2.2.2.1.trans hr) (Or.inl ⟨C, rfl⟩) (Or.inr ⟨_, rfl⟩) (fun t ht hW => ⟨⟨some (.ref r), S, σ, ad, cA, hag, hn0, rfl, hq, by rw [ht]; exact hH.moved hW.alike⟩, hS.F ht⟩) hS.2.2 d hC.2.2.2.2.1
end ZA
