/-! A lighter judgement over W. The heap is a list of shapes S (int row of n places; row of references; object of class number ci with int and
reference slots) and the ints in it σ (cell, place); references are the cells' numbers in S; ad gives their addresses, cA the rows' classes. -/
abbrev zSh : Type := Nat ⊕ (List (Option Nat) ⊕ (Nat × List (Option (Option Nat))))
abbrev zSt : Type := Nat → Nat → Int32
/-- a method: name, bytes, locals, return type, depth, cells, slots -/
abbrev zM : Type := MethodName × ByteArray × Nat × Option FieldType × Nat × Nat × Nat
abbrev zY (μ : zM) : MethodName := μ.1
abbrev zB (μ : zM) : ByteArray := μ.2.1
abbrev zL (μ : zM) : Nat := μ.2.2.1
abbrev zR (μ : zM) : Option FieldType := μ.2.2.2.1
abbrev zDp (μ : zM) : Nat := μ.2.2.2.2.1
abbrev zMc (μ : zM) : Nat := μ.2.2.2.2.2.1
abbrev zMs (μ : zM) : Nat := μ.2.2.2.2.2.2
def zRm (μ : zM) : Room := { frames := zDp μ, cells := zMc μ, slots := zMs μ, locals := 36 * zDp μ }
def zcl : List vw_C := [(RX0, TX0, 14), (RX1, TX1, 10), (RX2, TX2, 7), (RX3, TX3, 4), (RX4, TX4, 3), (RX5, TX5, 10), (RX6, TX6, 6), (RX7, TX7, 28)]
def zwd : List Cond := lw_tbl.filter goodWord
theorem zwd_lw {w : Cond} (h : w ∈ zwd) : w ∈ lw_tbl := (List.mem_filter.mp h).1
theorem zwd_of {w : Cond} (i : Nat) (h : lw_tbl[i]? = some w) (hg : goodWord w = true) : w ∈ zwd := List.mem_filter.mpr ⟨List.mem_of_getElem? h, hg⟩
theorem zwd_good : GoodIn zwd zwd := fun w h => ⟨h, good_of_word (List.mem_filter.mp h).2⟩
def zC (ad : Nat → Nat) : Value → Value
  | .ref k => .ref (ad k)
  | v => v
theorem zC_cat (ad : Nat → Nat) (v : Value) : (zC ad v).category = v.category := by cases v <;> rfl
def zF (ad : Nat → Nat) (f : Nat → Int32) (j : Nat) : Option (Option Nat) → Value
  | none => .int (f j)
  | some r => va_rf (r.map ad)
def zRow (ad : Nat → Nat) (rs : List (Option Nat)) (j : Nat) : Option Nat := ((rs[j]?).getD none).map ad
def zE (ad : Nat → Nat) (cA : Nat → ClassId) (σ : zSt) (i : Nat) : zSh → va_E
  | .inl n => .inl (cA i, n, .inl (σ i))
  | .inr (.inl rs) => .inl (cA i, rs.length, .inr (.inr (.inr (.inr (zRow ad rs)))))
  | .inr (.inr (ci, fs)) => .inr (ci, fs.mapIdx (zF ad (σ i)))
def zWd (ad : Nat → Nat) (cA : Nat → ClassId) (S : List zSh) (σ : zSt) : va_W := S.mapIdx fun i sh => (ad i, zE ad cA σ i sh)
theorem zWd_at {ad : Nat → Nat} {cA : Nat → ClassId} {S : List zSh} {σ : zSt} {i : Nat} {sh : zSh} (h : S[i]? = some sh) : (zWd ad cA S σ)[i]? = some (ad i, zE ad cA σ i sh) := by simp [zWd, List.getElem?_mapIdx, h]
/-- row c becomes f -/
def zrow (σ : zSt) (c : Nat) (f : Nat → Int32) : zSt := fun c' => if c' = c then f else σ c'
def zup (σ : zSt) (c i : Nat) (v : Int32) : zSt := zrow σ c (upd (σ c) i v)
theorem zrow_s {σ : zSt} {c : Nat} {f : Nat → Int32} : zrow σ c f c = f := if_pos rfl
theorem zrow_n {σ : zSt} {c c' : Nat} {f : Nat → Int32} (h : c' ≠ c) : zrow σ c f c' = σ c' := if_neg h
theorem zrow_id (σ : zSt) (c : Nat) : zrow σ c (σ c) = σ := by
  funext c'
  by_cases h : c' = c
  · rw [h, zrow_s]
  · rw [zrow_n h]
theorem zrow_zrow (σ : zSt) (c : Nat) (f g : Nat → Int32) : zrow (zrow σ c f) c g = zrow σ c g := by
  funext c'
  by_cases h : c' = c
  · rw [h, zrow_s, zrow_s]
  · rw [zrow_n h, zrow_n h, zrow_n h]
theorem zE_n {ad : Nat → Nat} {cA : Nat → ClassId} {σ : zSt} {i c : Nat} {f : Nat → Int32} (h : i ≠ c) (sh : zSh) : zE ad cA (zrow σ c f) i sh = zE ad cA σ i sh := by
  rcases sh with n | rs | ⟨ci, fs⟩
  · simp only [zE, zrow_n h]
  · rfl
  · simp only [zE, zrow_n h]
theorem zWd_row {ad : Nat → Nat} {cA : Nat → ClassId} {S : List zSh} {σ : zSt} {i : Nat} {sh : zSh} {f : Nat → Int32} (h : S[i]? = some sh) : (zWd ad cA S σ).set i (ad i, zE ad cA (zrow σ i f) i sh) = zWd ad cA S (zrow σ i f) := by
  apply List.ext_getElem?
  intro j
  have hi : i < S.length := (List.getElem?_eq_some_iff.mp h).1
  have hl : (zWd ad cA S σ).length = S.length := by simp [zWd]
  by_cases hj : j = i
  · subst hj
    rw [List.getElem?_set_self (by rw [hl]; exact hi), zWd_at h]
  · rw [List.getElem?_set_ne (fun q => hj q.symm)]
    simp only [zWd, List.getElem?_mapIdx]
    cases hq : S[j]? with
    | none => rfl
    | some t => simp only [Option.map_some, zE_n hj]
theorem zWd_shape {ad : Nat → Nat} {cA : Nat → ClassId} {S : List zSh} {σ : zSt} {i : Nat} {sh sh' : zSh} (h : S[i]? = some sh) : (zWd ad cA S σ).set i (ad i, zE ad cA σ i sh') = zWd ad cA (S.set i sh') σ := by
  apply List.ext_getElem?
  intro j
  have hi : i < S.length := (List.getElem?_eq_some_iff.mp h).1
  have hl : (zWd ad cA S σ).length = S.length := by simp [zWd]
  by_cases hj : j = i
  · subst hj
    rw [List.getElem?_set_self (by rw [hl]; exact hi), zWd_at (List.getElem?_set_self hi)]
  · rw [List.getElem?_set_ne (fun q => hj q.symm)]
    simp only [zWd, List.getElem?_mapIdx]
    rw [List.getElem?_set_ne (fun q => hj q.symm)]
def zTy : zSh → Option FieldType
  | .inl _ => some .int
  | .inr (.inl _) => some (.object RX4)
  | _ => none
def zHp (D : va_G) (h0 : Nat) (ad : Nat → Nat) (cA : Nat → ClassId) (S : List zSh) (σ : zSt) (U : State) (H : Heap) : Prop :=
  va_P D zcl (zWd ad cA S σ) H ∧ va_D (fun q => h0 ≤ q) (zWd ad cA S σ) ∧ va_K D zcl [] U ∧ ∀ (i : Nat) (sh : zSh) (ty : FieldType), S[i]? = some sh → zTy sh = some ty → ArrOfT U (cA i) ty ∧ va_RA U (cA i) ty
theorem zHp.K1 {D : va_G} {h0 : Nat} {ad : Nat → Nat} {cA : Nat → ClassId} {S : List zSh} {σ : zSt} {U : State} {H : Heap} (h : zHp D h0 ad cA S σ U H) {i : Nat} {sh : zSh} {ty : FieldType} (hs : S[i]? = some sh) (ht : zTy sh = some ty) : va_K D zcl [(cA i, ty)] U := by
  refine ⟨h.2.2.1.1, fun k q hk => ?_⟩
  cases k with
  | zero => cases hk; exact h.2.2.2 i sh ty hs ht
  | succ k => simp at hk
theorem zHp.K2 {D : va_G} {h0 : Nat} {ad : Nat → Nat} {cA : Nat → ClassId} {S : List zSh} {σ : zSt} {U : State} {H : Heap} (h : zHp D h0 ad cA S σ U H) {i j : Nat} {sh sh' : zSh} {ty ty' : FieldType} (hs : S[i]? = some sh) (ht : zTy sh = some ty) (hs' : S[j]? = some sh') (ht' : zTy sh' = some ty') : va_K D zcl [(cA i, ty), (cA j, ty')] U := by
  have := (h.K1 hs ht).app (h.K1 hs' ht')
  exact this
theorem zHp.moved {D : va_G} {h0 : Nat} {ad : Nat → Nat} {cA : Nat → ClassId} {S : List zSh} {σ : zSt} {u U : State} {H : Heap} (hvm : u.vm.Alike U.vm) (h : zHp D h0 ad cA S σ u H) : zHp D h0 ad cA S σ U H :=
  ⟨h.1, h.2.1, va_K.moved hvm h.2.2.1, fun i sh ty h1 h2 => ⟨arrOfT_moved hvm (h.2.2.2 i sh ty h1 h2).1, (h.2.2.2 i sh ty h1 h2).2.moved hvm⟩⟩
/-- the words that are not kept by warming as the others are -/
def znest : List (String × Nat × MethodName) := [(RX6, 54, yX4_init), (RX0, 106, yX6_bit), (RX1, 74, yX6_bit), (RX1, 81, yX6_holds), (RX2, 52, yX6_holds), (RX2, 74, yX6_bit), (RX3, 40, yX6_bit), (RX3, 49, yX6_holds), (RX5, 49, yX6_bit), (RX5, 62, yX6_holds)]
def zN (U : State) : Prop := (∀ q ∈ znest, va_Nw (.methodLinkNest q.1 q.2.1 q.2.2 RX6) U) ∧ va_AO RX4 U
theorem zN.warm {s U : State} (hW : s.WarmedH U.vm) (h : zN s) : zN U := ⟨fun q hq => va_Nw.warmM hW (h.1 q hq), va_AO.moved hW.alike h.2⟩
def zCx (p : Program) (s : State) (m : MethodId) (args : Array Value) (meth : Method) (c : Code) (μ : zM) (h0 : Nat) : Prop :=
  p.tables.exec = Jvm.exec ∧ c.code = zB μ ∧ c.maxLocals = zL μ ∧ meth.sig.returnType = zR μ ∧ meth.locks = false ∧ s.vm.findClass (zY μ).cls = some m.cls ∧ (∀ w ∈ zwd, w.before args s = true) ∧ zN s ∧ h0 ≤ s.heap.size ∧ meth.name = (zY μ).name
def zLs (ad : Nat → Nat) (lsA : Array Slot) (nL : Nat) (ls : List (Option Value)) : Prop := lsA.size = nL ∧ lv_wf lsA ∧ ls.length = nL ∧ ∀ (i : Nat) (v : Value), ls[i]? = some (some v) → lsA[i]? = some (.val (zC ad v))
def zSc (sc : Option (Nat × (Nat → Int32))) (ad : Nat → Nat) (s : State) (h0 : Nat) : Prop := ∀ (L : Nat) (xs : Nat → Int32), sc = some (L, xs) → va_X (ad 999) L xs s s.heap ∧ ad 999 < h0
abbrev zZt : Type := List Frame → Array Value → State → va_G → Nat → (Nat → Nat) → (Nat → ClassId) → Nat → State → Prop
def zA (Z : zZt) (μ : zM) (sc : Option (Nat × (Nat → Int32))) (k n pc : Nat) (ls : List (Option Value)) (st : List Value) (S : List zSh) (σ : zSt) : Prop :=
  ∀ (p : Program) (l : Launch) (e : Env) (s : State) (m : MethodId) (args : Array Value) (below : List Frame) (meth : Method) (c : Code) (D : va_G) (h0 : Nat) (ad0 : Nat → Nat) (cA0 : Nat → ClassId) (n0 : Nat) (ad : Nat → Nat) (cA : Nat → ClassId) (H : Heap) (locs : List Loc) (lsA : Array Slot),
    zCx p s m args meth c μ h0 → zSc sc ad s h0 → (∀ i : Nat, i < n0 ∨ 999 ≤ i → ad i = ad0 i ∧ cA i = cA0 i) → n0 ≤ S.length → zHp D h0 ad cA S σ s H → va_S (fun q => h0 ≤ q) s.heap H locs → zLs ad lsA (zL μ) ls →
    W p l e (zRm μ) s m args below meth c H locs k n (Z below args s D h0 ad0 cA0 n0) (F0 m pc lsA (st.map (zC ad)))
def zQc (D : va_G) (h0 : Nat) (ad : Nat → Nat) (cA : Nat → ClassId) (n0 : Nat) (Q : Option Value → List zSh → zSt → Prop) : Array Value → State → Outcome → State → Prop := fun _ st oc t =>
  (∃ (v : Option Value) (S' : List zSh) (σ' : zSt) (ad' : Nat → Nat) (cA' : Nat → ClassId), (∀ i : Nat, i < n0 ∨ 999 ≤ i → ad' i = ad i ∧ cA' i = cA i) ∧ n0 ≤ S'.length ∧ oc = .returned (v.map (zC ad')) ∧ Q v S' σ' ∧ zHp D h0 ad' cA' S' σ' t t.heap) ∧ va_F (fun q => h0 ≤ q) st t
def zZ (μ : zM) (Q : Option Value → List zSh → zSt → Prop) : zZt := fun below args s D h0 ad0 cA0 n0 => MQ below (zQc D h0 ad0 cA0 n0 Q) args s (zMc μ) (zMs μ) (fun q => h0 ≤ q)

section ZA
variable {Z : zZt} {μ : zM} {sc : Option (Nat × (Nat → Int32))} {k n pc : Nat} {ls : List (Option Value)} {st : List Value} {S : List zSh} {σ : zSt}
theorem za_iadd {x y : Int32} (d : decode (zB μ) pc = .ok (.iadd, 1)) (kk : zA Z μ sc k n (pc + 1) ls (.int (x + y) :: st) S σ) : zA Z μ sc k n pc ls (.int y :: .int x :: st) S σ := by
  intro p l e s m args below meth c D h0 ad0 cA0 n0 ad cA H locs lsA hC hX hag hn0 hH hS hl
  exact lv_iadd hC.1 hC.2.1 d (kk p l e s m args below meth c D h0 ad0 cA0 n0 ad cA H locs lsA hC hX hag hn0 hH hS hl)
theorem za_isub {x y : Int32} (d : decode (zB μ) pc = .ok (.isub, 1)) (kk : zA Z μ sc k n (pc + 1) ls (.int (x - y) :: st) S σ) : zA Z μ sc k n pc ls (.int y :: .int x :: st) S σ := by
  intro p l e s m args below meth c D h0 ad0 cA0 n0 ad cA H locs lsA hC hX hag hn0 hH hS hl
  exact lv_isub hC.1 hC.2.1 d (kk p l e s m args below meth c D h0 ad0 cA0 n0 ad cA H locs lsA hC hX hag hn0 hH hS hl)
theorem za_imul {x y : Int32} (d : decode (zB μ) pc = .ok (.imul, 1)) (kk : zA Z μ sc k n (pc + 1) ls (.int (x * y) :: st) S σ) : zA Z μ sc k n pc ls (.int y :: .int x :: st) S σ := by
  intro p l e s m args below meth c D h0 ad0 cA0 n0 ad cA H locs lsA hC hX hag hn0 hH hS hl
  exact lv_imul hC.1 hC.2.1 d (kk p l e s m args below meth c D h0 ad0 cA0 n0 ad cA H locs lsA hC hX hag hn0 hH hS hl)
theorem za_iand {x y : Int32} (d : decode (zB μ) pc = .ok (.iand, 1)) (kk : zA Z μ sc k n (pc + 1) ls (.int (x &&& y) :: st) S σ) : zA Z μ sc k n pc ls (.int y :: .int x :: st) S σ := by
  intro p l e s m args below meth c D h0 ad0 cA0 n0 ad cA H locs lsA hC hX hag hn0 hH hS hl
  exact lv_iand hC.1 hC.2.1 d (kk p l e s m args below meth c D h0 ad0 cA0 n0 ad cA H locs lsA hC hX hag hn0 hH hS hl)
theorem za_ior {x y : Int32} (d : decode (zB μ) pc = .ok (.ior, 1)) (kk : zA Z μ sc k n (pc + 1) ls (.int (x ||| y) :: st) S σ) : zA Z μ sc k n pc ls (.int y :: .int x :: st) S σ := by
  intro p l e s m args below meth c D h0 ad0 cA0 n0 ad cA H locs lsA hC hX hag hn0 hH hS hl
  exact lv_ior hC.1 hC.2.1 d (kk p l e s m args below meth c D h0 ad0 cA0 n0 ad cA H locs lsA hC hX hag hn0 hH hS hl)
theorem za_ixor {x y : Int32} (d : decode (zB μ) pc = .ok (.ixor, 1)) (kk : zA Z μ sc k n (pc + 1) ls (.int (x ^^^ y) :: st) S σ) : zA Z μ sc k n pc ls (.int y :: .int x :: st) S σ := by
  intro p l e s m args below meth c D h0 ad0 cA0 n0 ad cA H locs lsA hC hX hag hn0 hH hS hl
  exact lv_ixor hC.1 hC.2.1 d (kk p l e s m args below meth c D h0 ad0 cA0 n0 ad cA H locs lsA hC hX hag hn0 hH hS hl)
theorem za_idiv {x y : Int32} (d : decode (zB μ) pc = .ok (.idiv, 1)) (hne : ¬ y = 0) (kk : zA Z μ sc k n (pc + 1) ls (.int (x / y) :: st) S σ) : zA Z μ sc k n pc ls (.int y :: .int x :: st) S σ := by
  intro p l e s m args below meth c D h0 ad0 cA0 n0 ad cA H locs lsA hC hX hag hn0 hH hS hl
  exact lv_idiv hC.1 hC.2.1 d hne (kk p l e s m args below meth c D h0 ad0 cA0 n0 ad cA H locs lsA hC hX hag hn0 hH hS hl)
theorem za_irem {x y : Int32} (d : decode (zB μ) pc = .ok (.irem, 1)) (hne : ¬ y = 0) (kk : zA Z μ sc k n (pc + 1) ls (.int (x - x / y * y) :: st) S σ) : zA Z μ sc k n pc ls (.int y :: .int x :: st) S σ := by
  intro p l e s m args below meth c D h0 ad0 cA0 n0 ad cA H locs lsA hC hX hag hn0 hH hS hl
  exact lv_irem hC.1 hC.2.1 d hne (kk p l e s m args below meth c D h0 ad0 cA0 n0 ad cA H locs lsA hC hX hag hn0 hH hS hl)
theorem za_ishl {x y : Int32} (d : decode (zB μ) pc = .ok (.ishl, 1)) (kk : zA Z μ sc k n (pc + 1) ls (.int (x <<< (y &&& 31)) :: st) S σ) : zA Z μ sc k n pc ls (.int y :: .int x :: st) S σ := by
  intro p l e s m args below meth c D h0 ad0 cA0 n0 ad cA H locs lsA hC hX hag hn0 hH hS hl
  exact lv_ishl hC.1 hC.2.1 d (kk p l e s m args below meth c D h0 ad0 cA0 n0 ad cA H locs lsA hC hX hag hn0 hH hS hl)
theorem za_ishr {x y : Int32} (d : decode (zB μ) pc = .ok (.ishr, 1)) (kk : zA Z μ sc k n (pc + 1) ls (.int (x >>> (y &&& 31)) :: st) S σ) : zA Z μ sc k n pc ls (.int y :: .int x :: st) S σ := by
  intro p l e s m args below meth c D h0 ad0 cA0 n0 ad cA H locs lsA hC hX hag hn0 hH hS hl
  exact lv_ishr hC.1 hC.2.1 d (kk p l e s m args below meth c D h0 ad0 cA0 n0 ad cA H locs lsA hC hX hag hn0 hH hS hl)
theorem za_iushr {x y : Int32} (d : decode (zB μ) pc = .ok (.iushr, 1)) (kk : zA Z μ sc k n (pc + 1) ls (.int (x.toUInt32 >>> (y.toUInt32 &&& Int32.toUInt32 31)).toInt32 :: st) S σ) : zA Z μ sc k n pc ls (.int y :: .int x :: st) S σ := by
  intro p l e s m args below meth c D h0 ad0 cA0 n0 ad cA H locs lsA hC hX hag hn0 hH hS hl
  exact lv_iushr hC.1 hC.2.1 d rfl (kk p l e s m args below meth c D h0 ad0 cA0 n0 ad cA H locs lsA hC hX hag hn0 hH hS hl)
theorem za_ladd {x y : Int64} (d : decode (zB μ) pc = .ok (.ladd, 1)) (kk : zA Z μ sc k n (pc + 1) ls (.long (x + y) :: st) S σ) : zA Z μ sc k n pc ls (.long y :: .long x :: st) S σ := by
  intro p l e s m args below meth c D h0 ad0 cA0 n0 ad cA H locs lsA hC hX hag hn0 hH hS hl
  exact lv_ladd hC.1 hC.2.1 d (kk p l e s m args below meth c D h0 ad0 cA0 n0 ad cA H locs lsA hC hX hag hn0 hH hS hl)
theorem za_lsub {x y : Int64} (d : decode (zB μ) pc = .ok (.lsub, 1)) (kk : zA Z μ sc k n (pc + 1) ls (.long (x - y) :: st) S σ) : zA Z μ sc k n pc ls (.long y :: .long x :: st) S σ := by
  intro p l e s m args below meth c D h0 ad0 cA0 n0 ad cA H locs lsA hC hX hag hn0 hH hS hl
  exact lv_lsub hC.1 hC.2.1 d (kk p l e s m args below meth c D h0 ad0 cA0 n0 ad cA H locs lsA hC hX hag hn0 hH hS hl)
theorem za_land {x y : Int64} (d : decode (zB μ) pc = .ok (.land, 1)) (kk : zA Z μ sc k n (pc + 1) ls (.long (x &&& y) :: st) S σ) : zA Z μ sc k n pc ls (.long y :: .long x :: st) S σ := by
  intro p l e s m args below meth c D h0 ad0 cA0 n0 ad cA H locs lsA hC hX hag hn0 hH hS hl
  exact lv_land hC.1 hC.2.1 d (kk p l e s m args below meth c D h0 ad0 cA0 n0 ad cA H locs lsA hC hX hag hn0 hH hS hl)
theorem za_lor {x y : Int64} (d : decode (zB μ) pc = .ok (.lor, 1)) (kk : zA Z μ sc k n (pc + 1) ls (.long (x ||| y) :: st) S σ) : zA Z μ sc k n pc ls (.long y :: .long x :: st) S σ := by
  intro p l e s m args below meth c D h0 ad0 cA0 n0 ad cA H locs lsA hC hX hag hn0 hH hS hl
  exact lv_lor hC.1 hC.2.1 d (kk p l e s m args below meth c D h0 ad0 cA0 n0 ad cA H locs lsA hC hX hag hn0 hH hS hl)
theorem za_lshl {x : Int64} {y : Int32} (d : decode (zB μ) pc = .ok (.lshl, 1)) (kk : zA Z μ sc k n (pc + 1) ls (.long (x <<< (y.toInt64 &&& 63)) :: st) S σ) : zA Z μ sc k n pc ls (.int y :: .long x :: st) S σ := by
  intro p l e s m args below meth c D h0 ad0 cA0 n0 ad cA H locs lsA hC hX hag hn0 hH hS hl
  exact lv_lshl hC.1 hC.2.1 d rfl (kk p l e s m args below meth c D h0 ad0 cA0 n0 ad cA H locs lsA hC hX hag hn0 hH hS hl)
theorem za_lshr {x : Int64} {y : Int32} (d : decode (zB μ) pc = .ok (.lshr, 1)) (kk : zA Z μ sc k n (pc + 1) ls (.long (x >>> (y.toInt64 &&& 63)) :: st) S σ) : zA Z μ sc k n pc ls (.int y :: .long x :: st) S σ := by
  intro p l e s m args below meth c D h0 ad0 cA0 n0 ad cA H locs lsA hC hX hag hn0 hH hS hl
  exact lv_lshr hC.1 hC.2.1 d rfl (kk p l e s m args below meth c D h0 ad0 cA0 n0 ad cA H locs lsA hC hX hag hn0 hH hS hl)
theorem za_lushr {x : Int64} {y : Int32} (d : decode (zB μ) pc = .ok (.lushr, 1)) (kk : zA Z μ sc k n (pc + 1) ls (.long (x.toUInt64 >>> (y.toInt64.toUInt64 &&& Int64.toUInt64 63)).toInt64 :: st) S σ) : zA Z μ sc k n pc ls (.int y :: .long x :: st) S σ := by
  intro p l e s m args below meth c D h0 ad0 cA0 n0 ad cA H locs lsA hC hX hag hn0 hH hS hl
  exact lv_lushr hC.1 hC.2.1 d rfl (kk p l e s m args below meth c D h0 ad0 cA0 n0 ad cA H locs lsA hC hX hag hn0 hH hS hl)
theorem za_i2l {x : Int32} (d : decode (zB μ) pc = .ok (.i2l, 1)) (kk : zA Z μ sc k n (pc + 1) ls (.long x.toInt64 :: st) S σ) : zA Z μ sc k n pc ls (.int x :: st) S σ := by
  intro p l e s m args below meth c D h0 ad0 cA0 n0 ad cA H locs lsA hC hX hag hn0 hH hS hl
  exact lv_i2l hC.1 hC.2.1 d rfl (kk p l e s m args below meth c D h0 ad0 cA0 n0 ad cA H locs lsA hC hX hag hn0 hH hS hl)
theorem za_l2i {x : Int64} (d : decode (zB μ) pc = .ok (.l2i, 1)) (kk : zA Z μ sc k n (pc + 1) ls (.int x.toInt32 :: st) S σ) : zA Z μ sc k n pc ls (.long x :: st) S σ := by
  intro p l e s m args below meth c D h0 ad0 cA0 n0 ad cA H locs lsA hC hX hag hn0 hH hS hl
  exact lv_l2i hC.1 hC.2.1 d rfl (kk p l e s m args below meth c D h0 ad0 cA0 n0 ad cA H locs lsA hC hX hag hn0 hH hS hl)
theorem za_i2b {x : Int32} (d : decode (zB μ) pc = .ok (.i2b, 1)) (kk : zA Z μ sc k n (pc + 1) ls (.int x.toInt8.toInt32 :: st) S σ) : zA Z μ sc k n pc ls (.int x :: st) S σ := by
  intro p l e s m args below meth c D h0 ad0 cA0 n0 ad cA H locs lsA hC hX hag hn0 hH hS hl
  exact lv_i2b hC.1 hC.2.1 d rfl (kk p l e s m args below meth c D h0 ad0 cA0 n0 ad cA H locs lsA hC hX hag hn0 hH hS hl)
theorem za_i2s {x : Int32} (d : decode (zB μ) pc = .ok (.i2s, 1)) (kk : zA Z μ sc k n (pc + 1) ls (.int x.toInt16.toInt32 :: st) S σ) : zA Z μ sc k n pc ls (.int x :: st) S σ := by
  intro p l e s m args below meth c D h0 ad0 cA0 n0 ad cA H locs lsA hC hX hag hn0 hH hS hl
  exact lv_i2s hC.1 hC.2.1 d rfl (kk p l e s m args below meth c D h0 ad0 cA0 n0 ad cA H locs lsA hC hX hag hn0 hH hS hl)
theorem za_lcmp {x y : Int64} (d : decode (zB μ) pc = .ok (.lcmp, 1)) (kk : zA Z μ sc k n (pc + 1) ls (.int (lg_cmp x y) :: st) S σ) : zA Z μ sc k n pc ls (.long y :: .long x :: st) S σ := by
  intro p l e s m args below meth c D h0 ad0 cA0 n0 ad cA H locs lsA hC hX hag hn0 hH hS hl
  exact W.lcmp hC.1 hC.2.1 d (kk p l e s m args below meth c D h0 ad0 cA0 n0 ad cA H locs lsA hC hX hag hn0 hH hS hl)
theorem za_dup {v : Value} (d : decode (zB μ) pc = .ok (.dup, 1)) (hv : v.category = 1) (kk : zA Z μ sc k n (pc + 1) ls (v :: v :: st) S σ) : zA Z μ sc k n pc ls (v :: st) S σ := by
  intro p l e s m args below meth c D h0 ad0 cA0 n0 ad cA H locs lsA hC hX hag hn0 hH hS hl
  exact lv_dup hC.1 hC.2.1 d ((zC_cat ad v).trans hv) (kk p l e s m args below meth c D h0 ad0 cA0 n0 ad cA H locs lsA hC hX hag hn0 hH hS hl)
theorem za_dup2 {v u : Value} (d : decode (zB μ) pc = .ok (.dup2, 1)) (hv : v.category = 1) (hu : u.category = 1) (kk : zA Z μ sc k n (pc + 1) ls (v :: u :: v :: u :: st) S σ) : zA Z μ sc k n pc ls (v :: u :: st) S σ := by
  intro p l e s m args below meth c D h0 ad0 cA0 n0 ad cA H locs lsA hC hX hag hn0 hH hS hl
  exact lv_dup2_11 hC.1 hC.2.1 d ((zC_cat ad v).trans hv) ((zC_cat ad u).trans hu) (kk p l e s m args below meth c D h0 ad0 cA0 n0 ad cA H locs lsA hC hX hag hn0 hH hS hl)
theorem za_iconst {z : Int} (x : Int32) (d : decode (zB μ) pc = .ok (.iconst z, 1)) (hv : Int32.ofInt z = x) (kk : zA Z μ sc k n (pc + 1) ls (.int x :: st) S σ) : zA Z μ sc k n pc ls (st) S σ := by
  intro p l e s m args below meth c D h0 ad0 cA0 n0 ad cA H locs lsA hC hX hag hn0 hH hS hl
  exact lv_iconst hC.1 hC.2.1 d hv (kk p l e s m args below meth c D h0 ad0 cA0 n0 ad cA H locs lsA hC hX hag hn0 hH hS hl)
theorem za_bipush {z : Int} (x : Int32) (d : decode (zB μ) pc = .ok (.bipush z, 2)) (hv : (Int8.ofInt z).toInt32 = x) (kk : zA Z μ sc k n (pc + 2) ls (.int x :: st) S σ) : zA Z μ sc k n pc ls (st) S σ := by
  intro p l e s m args below meth c D h0 ad0 cA0 n0 ad cA H locs lsA hC hX hag hn0 hH hS hl
  exact lv_bipush hC.1 hC.2.1 d hv (kk p l e s m args below meth c D h0 ad0 cA0 n0 ad cA H locs lsA hC hX hag hn0 hH hS hl)
theorem za_sipush {z : Int} (x : Int32) (d : decode (zB μ) pc = .ok (.sipush z, 3)) (hv : (Int16.ofInt z).toInt32 = x) (kk : zA Z μ sc k n (pc + 3) ls (.int x :: st) S σ) : zA Z μ sc k n pc ls (st) S σ := by
  intro p l e s m args below meth c D h0 ad0 cA0 n0 ad cA H locs lsA hC hX hag hn0 hH hS hl
  exact lv_sipush hC.1 hC.2.1 d hv (kk p l e s m args below meth c D h0 ad0 cA0 n0 ad cA H locs lsA hC hX hag hn0 hH hS hl)
theorem za_lconst {z : Fin 2} (x : Int64) (d : decode (zB μ) pc = .ok (.lconst z, 1)) (hv : Int64.ofNat (z : Nat) = x) (kk : zA Z μ sc k n (pc + 1) ls (.long x :: st) S σ) : zA Z μ sc k n pc ls (st) S σ := by
  intro p l e s m args below meth c D h0 ad0 cA0 n0 ad cA H locs lsA hC hX hag hn0 hH hS hl
  exact lv_lconst hC.1 hC.2.1 d hv (kk p l e s m args below meth c D h0 ad0 cA0 n0 ad cA H locs lsA hC hX hag hn0 hH hS hl)
theorem za_ldc {idx : Nat} (x : Int32) (d : decode (zB μ) pc = .ok (.ldc idx, 2)) (hw : Cond.constant (zY μ).cls idx x ∈ zwd) (kk : zA Z μ sc k n (pc + 2) ls (.int x :: st) S σ) : zA Z μ sc k n pc ls st S σ := by
  intro p l e s m args below meth c D h0 ad0 cA0 n0 ad cA H locs lsA hC hX hag hn0 hH hS hl
  exact lv_ldc hC.1 hC.2.1 hC.2.2.2.2.2.1 (hC.2.2.2.2.2.2.1 _ hw) d (kk p l e s m args below meth c D h0 ad0 cA0 n0 ad cA H locs lsA hC hX hag hn0 hH hS hl)
theorem za_ldc_w {idx : Nat} (x : Int32) (d : decode (zB μ) pc = .ok (.ldc_w idx, 3)) (hw : Cond.constant (zY μ).cls idx x ∈ zwd) (kk : zA Z μ sc k n (pc + 3) ls (.int x :: st) S σ) : zA Z μ sc k n pc ls st S σ := by
  intro p l e s m args below meth c D h0 ad0 cA0 n0 ad cA H locs lsA hC hX hag hn0 hH hS hl
  exact lv_ldcw hC.1 hC.2.1 hC.2.2.2.2.2.1 (hC.2.2.2.2.2.2.1 _ hw) d (kk p l e s m args below meth c D h0 ad0 cA0 n0 ad cA H locs lsA hC hX hag hn0 hH hS hl)
theorem za_ldc2_w {idx : Nat} (x : Int64) (d : decode (zB μ) pc = .ok (.ldc2_w idx, 3)) (hw : Cond.constantLong (zY μ).cls idx x ∈ zwd) (kk : zA Z μ sc k n (pc + 3) ls (.long x :: st) S σ) : zA Z μ sc k n pc ls st S σ := by
  intro p l e s m args below meth c D h0 ad0 cA0 n0 ad cA H locs lsA hC hX hag hn0 hH hS hl
  exact lv_ldc2 hC.1 hC.2.1 hC.2.2.2.2.2.1 (hC.2.2.2.2.2.2.1 _ hw) d (kk p l e s m args below meth c D h0 ad0 cA0 n0 ad cA H locs lsA hC hX hag hn0 hH hS hl)
theorem za_iload {z : Nat} {x : Int32} (d : decode (zB μ) pc = .ok (.iload z, 2)) (hi : ls[z]? = some (some (.int x))) (kk : zA Z μ sc k n (pc + 2) ls (.int x :: st) S σ) : zA Z μ sc k n pc ls st S σ := by
  intro p l e s m args below meth c D h0 ad0 cA0 n0 ad cA H locs lsA hC hX hag hn0 hH hS hl
  exact lv_iload hC.1 hC.2.1 d (hl.2.2.2 _ _ hi) (kk p l e s m args below meth c D h0 ad0 cA0 n0 ad cA H locs lsA hC hX hag hn0 hH hS hl)
theorem za_iload_n {z : Fin 4} {x : Int32} (d : decode (zB μ) pc = .ok (.iload_n z, 1)) (hi : ls[(z : Nat)]? = some (some (.int x))) (kk : zA Z μ sc k n (pc + 1) ls (.int x :: st) S σ) : zA Z μ sc k n pc ls st S σ := by
  intro p l e s m args below meth c D h0 ad0 cA0 n0 ad cA H locs lsA hC hX hag hn0 hH hS hl
  exact lv_iload_n hC.1 hC.2.1 d rfl (hl.2.2.2 _ _ hi) (kk p l e s m args below meth c D h0 ad0 cA0 n0 ad cA H locs lsA hC hX hag hn0 hH hS hl)
theorem za_lload {z : Nat} {x : Int64} (d : decode (zB μ) pc = .ok (.lload z, 2)) (hi : ls[z]? = some (some (.long x))) (kk : zA Z μ sc k n (pc + 2) ls (.long x :: st) S σ) : zA Z μ sc k n pc ls st S σ := by
  intro p l e s m args below meth c D h0 ad0 cA0 n0 ad cA H locs lsA hC hX hag hn0 hH hS hl
  exact lv_lload hC.1 hC.2.1 d (hl.2.2.2 _ _ hi) (kk p l e s m args below meth c D h0 ad0 cA0 n0 ad cA H locs lsA hC hX hag hn0 hH hS hl)
theorem za_lload_n {z : Fin 4} {x : Int64} (d : decode (zB μ) pc = .ok (.lload_n z, 1)) (hi : ls[(z : Nat)]? = some (some (.long x))) (kk : zA Z μ sc k n (pc + 1) ls (.long x :: st) S σ) : zA Z μ sc k n pc ls st S σ := by
  intro p l e s m args below meth c D h0 ad0 cA0 n0 ad cA H locs lsA hC hX hag hn0 hH hS hl
  exact lv_lload_n hC.1 hC.2.1 d rfl (hl.2.2.2 _ _ hi) (kk p l e s m args below meth c D h0 ad0 cA0 n0 ad cA H locs lsA hC hX hag hn0 hH hS hl)
theorem za_aload {z : Nat} {x : Nat} (d : decode (zB μ) pc = .ok (.aload z, 2)) (hi : ls[z]? = some (some (.ref x))) (kk : zA Z μ sc k n (pc + 2) ls (.ref x :: st) S σ) : zA Z μ sc k n pc ls st S σ := by
  intro p l e s m args below meth c D h0 ad0 cA0 n0 ad cA H locs lsA hC hX hag hn0 hH hS hl
  exact lv_aload hC.1 hC.2.1 d (hl.2.2.2 _ _ hi) (kk p l e s m args below meth c D h0 ad0 cA0 n0 ad cA H locs lsA hC hX hag hn0 hH hS hl)
theorem za_aload_n {z : Fin 4} {x : Nat} (d : decode (zB μ) pc = .ok (.aload_n z, 1)) (hi : ls[(z : Nat)]? = some (some (.ref x))) (kk : zA Z μ sc k n (pc + 1) ls (.ref x :: st) S σ) : zA Z μ sc k n pc ls st S σ := by
  intro p l e s m args below meth c D h0 ad0 cA0 n0 ad cA H locs lsA hC hX hag hn0 hH hS hl
  exact lv_aload_n hC.1 hC.2.1 d rfl (hl.2.2.2 _ _ hi) (kk p l e s m args below meth c D h0 ad0 cA0 n0 ad cA H locs lsA hC hX hag hn0 hH hS hl)
/-- no long stands just ahead of place i -/
def zNl (ls : List (Option Value)) (i : Nat) : Bool := match i with
  | 0 => true
  | j + 1 => match ls[j]? with
    | some (some (.long _)) => false
    | some (some (.double _)) => false
    | _ => true
theorem zNl_cat {ls : List (Option Value)} {i j : Nat} {v : Value} (h : zNl ls i = true) (hj : j + 1 = i) (hv : ls[j]? = some (some v)) : v.category = 1 := by
  subst hj
  simp only [zNl, hv] at h
  cases v <;> first | rfl | cases h
def zAl (ad : Nat → Nat) (ls : List (Option Value)) : List (Nat × Value) := ls.zipIdx.filterMap fun q => q.1.map fun v => (q.2, zC ad v)
theorem zAl_mem {ad : Nat → Nat} {ls : List (Option Value)} {i : Nat} {u : Value} : (i, u) ∈ zAl ad ls ↔ ∃ v, ls[i]? = some (some v) ∧ u = zC ad v := by
  unfold zAl
  rw [List.mem_filterMap]
  constructor
  · rintro ⟨⟨o, j⟩, h1, h2⟩
    rw [List.mem_zipIdx_iff_getElem?] at h1
    cases o with
    | none => simp at h2
    | some v =>
      simp only [Option.map_some, Option.some.injEq, Prod.mk.injEq] at h2
      obtain ⟨rfl, rfl⟩ := h2
      exact ⟨v, h1, rfl⟩
  · rintro ⟨v, h1, rfl⟩
    exact ⟨(some v, i), by rw [List.mem_zipIdx_iff_getElem?]; exact h1, rfl⟩
theorem zLs.has {ad : Nat → Nat} {lsA : Array Slot} {nL : Nat} {ls : List (Option Value)} (h : zLs ad lsA nL ls) : lv_has lsA nL (zAl ad ls) := by
  refine ⟨h.1, h.2.1, fun q hq => ?_⟩
  obtain ⟨i, u⟩ := q
  obtain ⟨v, h1, rfl⟩ := zAl_mem.mp hq
  exact h.2.2.2 i v h1
theorem zLs.set {ad : Nat → Nat} {lsA ls' : Array Slot} {nL : Nat} {ls : List (Option Value)} {i : Nat} {v : Value} (h : zLs ad lsA nL ls) (hi : i < ls.length) (hc : zNl ls i = true) (h' : lv_has ls' nL ((i, zC ad v) :: (zAl ad ls).filter (fun q => !(q.1 == i) && !(q.1 + 1 == i && q.2.category == 2)))) : zLs ad ls' nL (ls.set i (some v)) := by
  refine ⟨h'.1, h'.2.1, by rw [List.length_set]; exact h.2.2.1, fun j u hj => ?_⟩
  by_cases e : j = i
  · subst e
    rw [List.getElem?_set_self hi] at hj
    cases hj
    exact h'.2.2 _ List.mem_cons_self
  · rw [List.getElem?_set_ne (fun q => e q.symm)] at hj
    refine h'.2.2 (j, zC ad u) (List.mem_cons_of_mem _ (List.mem_filter.mpr ⟨zAl_mem.mpr ⟨u, hj, rfl⟩, ?_⟩))
    have e1 : (j == i) = false := by simpa using e
    by_cases e2 : j + 1 = i
    · have := zNl_cat hc e2 hj
      simp [e1, zC_cat, this]
    · simp [e1, e2]
theorem za_istore {z : Nat} {x : Int32} {ls' : List (Option Value)} (d : decode (zB μ) pc = .ok (.istore z, 2)) (hi : (z : Nat) < ls.length) (hc : zNl ls (z : Nat) = true) (he : ls.set (z : Nat) (some (.int x)) = ls') (kk : zA Z μ sc k n (pc + 2) ls' st S σ) : zA Z μ sc k n pc ls (.int x :: st) S σ := by
  intro p l e s m args below meth c D h0 ad0 cA0 n0 ad cA H locs lsA hC hX hag hn0 hH hS hl
  subst he
  exact lv_istore hC.1 hC.2.1 d hl.has (hl.2.2.1 ▸ hi) rfl (fun lsB hB => kk p l e s m args below meth c D h0 ad0 cA0 n0 ad cA H locs lsB hC hX hag hn0 hH hS (hl.set (v := .int x) hi hc hB))
theorem za_istore_n {z : Fin 4} {x : Int32} {ls' : List (Option Value)} (d : decode (zB μ) pc = .ok (.istore_n z, 1)) (hi : (z : Nat) < ls.length) (hc : zNl ls (z : Nat) = true) (he : ls.set (z : Nat) (some (.int x)) = ls') (kk : zA Z μ sc k n (pc + 1) ls' st S σ) : zA Z μ sc k n pc ls (.int x :: st) S σ := by
  intro p l e s m args below meth c D h0 ad0 cA0 n0 ad cA H locs lsA hC hX hag hn0 hH hS hl
  subst he
  exact lv_istore_n hC.1 hC.2.1 d rfl hl.has (hl.2.2.1 ▸ hi) rfl (fun lsB hB => kk p l e s m args below meth c D h0 ad0 cA0 n0 ad cA H locs lsB hC hX hag hn0 hH hS (hl.set (v := .int x) hi hc hB))
theorem za_astore {z : Nat} {x : Nat} {ls' : List (Option Value)} (d : decode (zB μ) pc = .ok (.astore z, 2)) (hi : (z : Nat) < ls.length) (hc : zNl ls (z : Nat) = true) (he : ls.set (z : Nat) (some (.ref x)) = ls') (kk : zA Z μ sc k n (pc + 2) ls' st S σ) : zA Z μ sc k n pc ls (.ref x :: st) S σ := by
  intro p l e s m args below meth c D h0 ad0 cA0 n0 ad cA H locs lsA hC hX hag hn0 hH hS hl
  subst he
  exact lv_astore hC.1 hC.2.1 d hl.has (hl.2.2.1 ▸ hi) rfl (fun lsB hB => kk p l e s m args below meth c D h0 ad0 cA0 n0 ad cA H locs lsB hC hX hag hn0 hH hS (hl.set (v := .ref x) hi hc hB))
theorem za_astore_n {z : Fin 4} {x : Nat} {ls' : List (Option Value)} (d : decode (zB μ) pc = .ok (.astore_n z, 1)) (hi : (z : Nat) < ls.length) (hc : zNl ls (z : Nat) = true) (he : ls.set (z : Nat) (some (.ref x)) = ls') (kk : zA Z μ sc k n (pc + 1) ls' st S σ) : zA Z μ sc k n pc ls (.ref x :: st) S σ := by
  intro p l e s m args below meth c D h0 ad0 cA0 n0 ad cA H locs lsA hC hX hag hn0 hH hS hl
  subst he
  exact lv_astore_n hC.1 hC.2.1 d rfl hl.has (hl.2.2.1 ▸ hi) rfl (fun lsB hB => kk p l e s m args below meth c D h0 ad0 cA0 n0 ad cA H locs lsB hC hX hag hn0 hH hS (hl.set (v := .ref x) hi hc hB))
theorem za_iinc {z : Nat} {q : Int} {x : Int32} (y : Int32) {ls' : List (Option Value)} (d : decode (zB μ) pc = .ok (.iinc z q, 3)) (hy : Int32.ofInt q = y) (hx : ls[z]? = some (some (.int x))) (hc : zNl ls z = true) (he : ls.set z (some (.int (x + y))) = ls') (kk : zA Z μ sc k n (pc + 3) ls' st S σ) : zA Z μ sc k n pc ls st S σ := by
  intro p l e s m args below meth c D h0 ad0 cA0 n0 ad cA H locs lsA hC hX hag hn0 hH hS hl
  subst he
  subst hy
  have hi : z < ls.length := (List.getElem?_eq_some_iff.mp hx).1
  obtain ⟨j, hj⟩ := List.getElem?_of_mem (zAl_mem (ad := ad).mpr ⟨_, hx, rfl⟩)
  exact lv_iinc hC.1 hC.2.1 d hl.has hj rfl (hl.2.2.1 ▸ hi) rfl (fun lsB hB => kk p l e s m args below meth c D h0 ad0 cA0 n0 ad cA H locs lsB hC hX hag hn0 hH hS (hl.set (v := .int (x + Int32.ofInt q)) hi hc hB))
theorem za_if_eq {x : Int32} {off : Int} (tgt : Nat) (d : decode (zB μ) pc = .ok (.ifCond .eq off, 3)) (ht : (pc : Int) + off = (tgt : Int)) (kt : x = 0 → zA Z μ sc k n tgt ls st S σ) (kf : ¬ x = 0 → zA Z μ sc k n (pc + 3) ls st S σ) : zA Z μ sc k n pc ls (.int x :: st) S σ := by
  intro p l e s m args below meth c D h0 ad0 cA0 n0 ad cA H locs lsA hC hX hag hn0 hH hS hl
  exact lv_if_eq hC.1 hC.2.1 d ht (fun h => kt h p l e s m args below meth c D h0 ad0 cA0 n0 ad cA H locs lsA hC hX hag hn0 hH hS hl) (fun h => kf h p l e s m args below meth c D h0 ad0 cA0 n0 ad cA H locs lsA hC hX hag hn0 hH hS hl)
theorem za_icmp_eq {x y : Int32} {off : Int} (tgt : Nat) (d : decode (zB μ) pc = .ok (.if_icmp .eq off, 3)) (ht : (pc : Int) + off = (tgt : Int)) (kt : x = y → zA Z μ sc k n tgt ls st S σ) (kf : ¬ x = y → zA Z μ sc k n (pc + 3) ls st S σ) : zA Z μ sc k n pc ls (.int y :: .int x :: st) S σ := by
  intro p l e s m args below meth c D h0 ad0 cA0 n0 ad cA H locs lsA hC hX hag hn0 hH hS hl
  exact lv_icmp_eq hC.1 hC.2.1 d ht (fun h => kt h p l e s m args below meth c D h0 ad0 cA0 n0 ad cA H locs lsA hC hX hag hn0 hH hS hl) (fun h => kf h p l e s m args below meth c D h0 ad0 cA0 n0 ad cA H locs lsA hC hX hag hn0 hH hS hl)
theorem za_if_ne {x : Int32} {off : Int} (tgt : Nat) (d : decode (zB μ) pc = .ok (.ifCond .ne off, 3)) (ht : (pc : Int) + off = (tgt : Int)) (kt : ¬ x = 0 → zA Z μ sc k n tgt ls st S σ) (kf : x = 0 → zA Z μ sc k n (pc + 3) ls st S σ) : zA Z μ sc k n pc ls (.int x :: st) S σ := by
  intro p l e s m args below meth c D h0 ad0 cA0 n0 ad cA H locs lsA hC hX hag hn0 hH hS hl
  exact lv_if_ne hC.1 hC.2.1 d ht (fun h => kt h p l e s m args below meth c D h0 ad0 cA0 n0 ad cA H locs lsA hC hX hag hn0 hH hS hl) (fun h => kf h p l e s m args below meth c D h0 ad0 cA0 n0 ad cA H locs lsA hC hX hag hn0 hH hS hl)
theorem za_icmp_ne {x y : Int32} {off : Int} (tgt : Nat) (d : decode (zB μ) pc = .ok (.if_icmp .ne off, 3)) (ht : (pc : Int) + off = (tgt : Int)) (kt : ¬ x = y → zA Z μ sc k n tgt ls st S σ) (kf : x = y → zA Z μ sc k n (pc + 3) ls st S σ) : zA Z μ sc k n pc ls (.int y :: .int x :: st) S σ := by
  intro p l e s m args below meth c D h0 ad0 cA0 n0 ad cA H locs lsA hC hX hag hn0 hH hS hl
  exact lv_icmp_ne hC.1 hC.2.1 d ht (fun h => kt h p l e s m args below meth c D h0 ad0 cA0 n0 ad cA H locs lsA hC hX hag hn0 hH hS hl) (fun h => kf h p l e s m args below meth c D h0 ad0 cA0 n0 ad cA H locs lsA hC hX hag hn0 hH hS hl)
theorem za_if_lt {x : Int32} {off : Int} (tgt : Nat) (d : decode (zB μ) pc = .ok (.ifCond .lt off, 3)) (ht : (pc : Int) + off = (tgt : Int)) (kt : x < 0 → zA Z μ sc k n tgt ls st S σ) (kf : ¬ x < 0 → zA Z μ sc k n (pc + 3) ls st S σ) : zA Z μ sc k n pc ls (.int x :: st) S σ := by
  intro p l e s m args below meth c D h0 ad0 cA0 n0 ad cA H locs lsA hC hX hag hn0 hH hS hl
  exact lv_if_lt hC.1 hC.2.1 d ht (fun h => kt h p l e s m args below meth c D h0 ad0 cA0 n0 ad cA H locs lsA hC hX hag hn0 hH hS hl) (fun h => kf h p l e s m args below meth c D h0 ad0 cA0 n0 ad cA H locs lsA hC hX hag hn0 hH hS hl)
theorem za_icmp_lt {x y : Int32} {off : Int} (tgt : Nat) (d : decode (zB μ) pc = .ok (.if_icmp .lt off, 3)) (ht : (pc : Int) + off = (tgt : Int)) (kt : x < y → zA Z μ sc k n tgt ls st S σ) (kf : ¬ x < y → zA Z μ sc k n (pc + 3) ls st S σ) : zA Z μ sc k n pc ls (.int y :: .int x :: st) S σ := by
  intro p l e s m args below meth c D h0 ad0 cA0 n0 ad cA H locs lsA hC hX hag hn0 hH hS hl
  exact lv_icmp_lt hC.1 hC.2.1 d ht (fun h => kt h p l e s m args below meth c D h0 ad0 cA0 n0 ad cA H locs lsA hC hX hag hn0 hH hS hl) (fun h => kf h p l e s m args below meth c D h0 ad0 cA0 n0 ad cA H locs lsA hC hX hag hn0 hH hS hl)
theorem za_if_ge {x : Int32} {off : Int} (tgt : Nat) (d : decode (zB μ) pc = .ok (.ifCond .ge off, 3)) (ht : (pc : Int) + off = (tgt : Int)) (kt : 0 ≤ x → zA Z μ sc k n tgt ls st S σ) (kf : ¬ 0 ≤ x → zA Z μ sc k n (pc + 3) ls st S σ) : zA Z μ sc k n pc ls (.int x :: st) S σ := by
  intro p l e s m args below meth c D h0 ad0 cA0 n0 ad cA H locs lsA hC hX hag hn0 hH hS hl
  exact lv_if_ge hC.1 hC.2.1 d ht (fun h => kt h p l e s m args below meth c D h0 ad0 cA0 n0 ad cA H locs lsA hC hX hag hn0 hH hS hl) (fun h => kf h p l e s m args below meth c D h0 ad0 cA0 n0 ad cA H locs lsA hC hX hag hn0 hH hS hl)
theorem za_icmp_ge {x y : Int32} {off : Int} (tgt : Nat) (d : decode (zB μ) pc = .ok (.if_icmp .ge off, 3)) (ht : (pc : Int) + off = (tgt : Int)) (kt : y ≤ x → zA Z μ sc k n tgt ls st S σ) (kf : ¬ y ≤ x → zA Z μ sc k n (pc + 3) ls st S σ) : zA Z μ sc k n pc ls (.int y :: .int x :: st) S σ := by
  intro p l e s m args below meth c D h0 ad0 cA0 n0 ad cA H locs lsA hC hX hag hn0 hH hS hl
  exact lv_icmp_ge hC.1 hC.2.1 d ht (fun h => kt h p l e s m args below meth c D h0 ad0 cA0 n0 ad cA H locs lsA hC hX hag hn0 hH hS hl) (fun h => kf h p l e s m args below meth c D h0 ad0 cA0 n0 ad cA H locs lsA hC hX hag hn0 hH hS hl)
theorem za_if_gt {x : Int32} {off : Int} (tgt : Nat) (d : decode (zB μ) pc = .ok (.ifCond .gt off, 3)) (ht : (pc : Int) + off = (tgt : Int)) (kt : 0 < x → zA Z μ sc k n tgt ls st S σ) (kf : ¬ 0 < x → zA Z μ sc k n (pc + 3) ls st S σ) : zA Z μ sc k n pc ls (.int x :: st) S σ := by
  intro p l e s m args below meth c D h0 ad0 cA0 n0 ad cA H locs lsA hC hX hag hn0 hH hS hl
  exact lv_if_gt hC.1 hC.2.1 d ht (fun h => kt h p l e s m args below meth c D h0 ad0 cA0 n0 ad cA H locs lsA hC hX hag hn0 hH hS hl) (fun h => kf h p l e s m args below meth c D h0 ad0 cA0 n0 ad cA H locs lsA hC hX hag hn0 hH hS hl)
theorem za_icmp_gt {x y : Int32} {off : Int} (tgt : Nat) (d : decode (zB μ) pc = .ok (.if_icmp .gt off, 3)) (ht : (pc : Int) + off = (tgt : Int)) (kt : y < x → zA Z μ sc k n tgt ls st S σ) (kf : ¬ y < x → zA Z μ sc k n (pc + 3) ls st S σ) : zA Z μ sc k n pc ls (.int y :: .int x :: st) S σ := by
  intro p l e s m args below meth c D h0 ad0 cA0 n0 ad cA H locs lsA hC hX hag hn0 hH hS hl
  exact lv_icmp_gt hC.1 hC.2.1 d ht (fun h => kt h p l e s m args below meth c D h0 ad0 cA0 n0 ad cA H locs lsA hC hX hag hn0 hH hS hl) (fun h => kf h p l e s m args below meth c D h0 ad0 cA0 n0 ad cA H locs lsA hC hX hag hn0 hH hS hl)
theorem za_if_le {x : Int32} {off : Int} (tgt : Nat) (d : decode (zB μ) pc = .ok (.ifCond .le off, 3)) (ht : (pc : Int) + off = (tgt : Int)) (kt : x ≤ 0 → zA Z μ sc k n tgt ls st S σ) (kf : ¬ x ≤ 0 → zA Z μ sc k n (pc + 3) ls st S σ) : zA Z μ sc k n pc ls (.int x :: st) S σ := by
  intro p l e s m args below meth c D h0 ad0 cA0 n0 ad cA H locs lsA hC hX hag hn0 hH hS hl
  exact lv_if_le hC.1 hC.2.1 d ht (fun h => kt h p l e s m args below meth c D h0 ad0 cA0 n0 ad cA H locs lsA hC hX hag hn0 hH hS hl) (fun h => kf h p l e s m args below meth c D h0 ad0 cA0 n0 ad cA H locs lsA hC hX hag hn0 hH hS hl)
theorem za_icmp_le {x y : Int32} {off : Int} (tgt : Nat) (d : decode (zB μ) pc = .ok (.if_icmp .le off, 3)) (ht : (pc : Int) + off = (tgt : Int)) (kt : x ≤ y → zA Z μ sc k n tgt ls st S σ) (kf : ¬ x ≤ y → zA Z μ sc k n (pc + 3) ls st S σ) : zA Z μ sc k n pc ls (.int y :: .int x :: st) S σ := by
  intro p l e s m args below meth c D h0 ad0 cA0 n0 ad cA H locs lsA hC hX hag hn0 hH hS hl
  exact lv_icmp_le hC.1 hC.2.1 d ht (fun h => kt h p l e s m args below meth c D h0 ad0 cA0 n0 ad cA H locs lsA hC hX hag hn0 hH hS hl) (fun h => kf h p l e s m args below meth c D h0 ad0 cA0 n0 ad cA H locs lsA hC hX hag hn0 hH hS hl)
theorem za_goto {off : Int} (tgt : Nat) (d : decode (zB μ) pc = .ok (.goto off, 3)) (ht : (pc : Int) + off = (tgt : Int)) (kk : zA Z μ sc k n tgt ls st S σ) : zA Z μ sc k n pc ls st S σ := by
  intro p l e s m args below meth c D h0 ad0 cA0 n0 ad cA H locs lsA hC hX hag hn0 hH hS hl
  exact lv_goto hC.1 hC.2.1 d ht (kk p l e s m args below meth c D h0 ad0 cA0 n0 ad cA H locs lsA hC hX hag hn0 hH hS hl)
theorem za_tableOut {dflt lo hi : Int} {offs : Array Int} {len : Nat} {x : Int32} (tgt : Nat) (d : decode (zB μ) pc = .ok (.tableswitch dflt lo hi offs, len)) (h : x.toInt < lo ∨ hi < x.toInt) (ht : (pc : Int) + dflt = (tgt : Int)) (kk : zA Z μ sc k n tgt ls st S σ) : zA Z μ sc k n pc ls (.int x :: st) S σ := by
  intro p l e s m args below meth c D h0 ad0 cA0 n0 ad cA H locs lsA hC hX hag hn0 hH hS hl
  exact lv_tableOut hC.1 hC.2.1 d h ht (kk p l e s m args below meth c D h0 ad0 cA0 n0 ad cA H locs lsA hC hX hag hn0 hH hS hl)
theorem za_tableIn {dflt lo hi : Int} {offs : Array Int} {len : Nat} {x : Int32} {off : Int} (tgt : Nat) (d : decode (zB μ) pc = .ok (.tableswitch dflt lo hi offs, len)) (h1 : ¬ x.toInt < lo) (h2 : ¬ hi < x.toInt) (ho : offs[(x.toInt - lo).toNat]? = some off) (ht : (pc : Int) + off = (tgt : Int)) (kk : zA Z μ sc k n tgt ls st S σ) : zA Z μ sc k n pc ls (.int x :: st) S σ := by
  intro p l e s m args below meth c D h0 ad0 cA0 n0 ad cA H locs lsA hC hX hag hn0 hH hS hl
  exact lv_tableIn hC.1 hC.2.1 d h1 h2 ho ht (kk p l e s m args below meth c D h0 ad0 cA0 n0 ad cA H locs lsA hC hX hag hn0 hH hS hl)
theorem za_lookup {dflt : Int} {ps : Array (Int × Int)} {len : Nat} {x : Int32} {off : Int} (tgt : Nat) (d : decode (zB μ) pc = .ok (.lookupswitch dflt ps, len)) (hp : (ps.toList.zip (ps.toList.drop 1)).all (fun (a, next) => a.1 < next.1) = true) (ho : Op.lookupswitch.offset ps.toList dflt x.toInt = off) (ht : (pc : Int) + off = (tgt : Int)) (kk : zA Z μ sc k n tgt ls st S σ) : zA Z μ sc k n pc ls (.int x :: st) S σ := by
  intro p l e s m args below meth c D h0 ad0 cA0 n0 ad cA H locs lsA hC hX hag hn0 hH hS hl
  exact lv_lookup hC.1 hC.2.1 d hp ho ht (kk p l e s m args below meth c D h0 ad0 cA0 n0 ad cA H locs lsA hC hX hag hn0 hH hS hl)
end ZA
