/-! contracts of four sorts, and calls by the number of arguments -/
def zI (μ : zM) (as : List Value) (S : List zSh) (σ : zSt) (R : Int32 → zSt → Prop) : Prop := zMet μ as S σ (fun v S' t => ∃ x, v = some (.int x) ∧ S' = S ∧ R x t)
def zJ (μ : zM) (as : List Value) (S : List zSh) (σ : zSt) (R : Int64 → zSt → Prop) : Prop := zMet μ as S σ (fun v S' t => ∃ x, v = some (.long x) ∧ S' = S ∧ R x t)
def zV (μ : zM) (as : List Value) (S : List zSh) (σ : zSt) (R : zSt → Prop) : Prop := zMet μ as S σ (fun v S' t => v = none ∧ S' = S ∧ R t)
def zO (μ : zM) (as : List Value) (S : List zSh) (σ : zSt) (r : Nat) (R : zSt → Prop) : Prop := zMet μ as S σ (fun v S' t => v = some (.ref r) ∧ S' = S ∧ R t)
theorem zI.mono {μ : zM} {as : List Value} {S : List zSh} {σ : zSt} {R R' : Int32 → zSt → Prop} (h : zI μ as S σ R) (hr : ∀ x t, R x t → R' x t) : zI μ as S σ R' := zMet.mono h (fun _ _ _ ⟨x, h1, h2, h3⟩ => ⟨x, h1, h2, hr _ _ h3⟩)
theorem zV.mono {μ : zM} {as : List Value} {S : List zSh} {σ : zSt} {R R' : zSt → Prop} (h : zV μ as S σ R) (hr : ∀ t, R t → R' t) : zV μ as S σ R' := zMet.mono h (fun _ _ _ ⟨h1, h2, h3⟩ => ⟨h1, h2, hr _ h3⟩)
/-- the ends -/
def zQI (S : List zSh) (R : Int32 → zSt → Prop) : Option Value → List zSh → zSt → Prop := fun v S' t => ∃ x, v = some (.int x) ∧ S' = S ∧ R x t
def zQJ (S : List zSh) (R : Int64 → zSt → Prop) : Option Value → List zSh → zSt → Prop := fun v S' t => ∃ x, v = some (.long x) ∧ S' = S ∧ R x t
def zQV (S : List zSh) (R : zSt → Prop) : Option Value → List zSh → zSt → Prop := fun v S' t => v = none ∧ S' = S ∧ R t
def zQO (S : List zSh) (r : Nat) (R : zSt → Prop) : Option Value → List zSh → zSt → Prop := fun v S' t => v = some (.ref r) ∧ S' = S ∧ R t
theorem zI_of {μ : zM} {as : List Value} {S : List zSh} {σ : zSt} {R : Int32 → zSt → Prop} {ls : List (Option Value)} (hp : plainName (zY μ).cls = true) (hlen : Nat.ble (zEs as).length (zL μ) = true) (he : zEn (zL μ) as = ls) (h : zA (zZ μ (zQI S R)) μ none 0 0 0 ls [] S σ) : zI μ as S σ R := zMet_of hp hlen he h
theorem zJ_of {μ : zM} {as : List Value} {S : List zSh} {σ : zSt} {R : Int64 → zSt → Prop} {ls : List (Option Value)} (hp : plainName (zY μ).cls = true) (hlen : Nat.ble (zEs as).length (zL μ) = true) (he : zEn (zL μ) as = ls) (h : zA (zZ μ (zQJ S R)) μ none 0 0 0 ls [] S σ) : zJ μ as S σ R := zMet_of hp hlen he h
theorem zV_of {μ : zM} {as : List Value} {S : List zSh} {σ : zSt} {R : zSt → Prop} {ls : List (Option Value)} (hp : plainName (zY μ).cls = true) (hlen : Nat.ble (zEs as).length (zL μ) = true) (he : zEn (zL μ) as = ls) (h : zA (zZ μ (zQV S R)) μ none 0 0 0 ls [] S σ) : zV μ as S σ R := zMet_of hp hlen he h
theorem zO_of {μ : zM} {as : List Value} {S : List zSh} {σ : zSt} {r : Nat} {R : zSt → Prop} {ls : List (Option Value)} (hp : plainName (zY μ).cls = true) (hlen : Nat.ble (zEs as).length (zL μ) = true) (he : zEn (zL μ) as = ls) (h : zA (zZ μ (zQO S r R)) μ none 0 0 0 ls [] S σ) : zO μ as S σ r R := zMet_of hp hlen he h
section ZA
variable {Z : zZt} {μ : zM} {sc : Option (Nat × (Nat → Int32))} {k n pc : Nat} {ls : List (Option Value)} {st : List Value} {S : List zSh} {σ : zSt}
theorem za_ri {R : Int32 → zSt → Prop} {x : Int32} (d : decode (zB μ) pc = .ok (.ireturn, 1)) (hr : zR μ = some .int) (hk : Nat.ble k (zMc μ) = true) (hn : Nat.ble n (zMs μ) = true) (hq : R x σ) : zA (zZ μ (zQI S R)) μ sc k n pc ls [.int x] S σ := za_ireturn d hr (Nat.le_of_ble_eq_true hk) (Nat.le_of_ble_eq_true hn) ⟨x, rfl, rfl, hq⟩
theorem za_rz {R : Int32 → zSt → Prop} {x : Int32} (d : decode (zB μ) pc = .ok (.ireturn, 1)) (hr : zR μ = some .boolean) (hk : Nat.ble k (zMc μ) = true) (hn : Nat.ble n (zMs μ) = true) (hx : narrow .boolean (.int x) = .int x) (hq : R x σ) : zA (zZ μ (zQI S R)) μ sc k n pc ls [.int x] S σ := za_zreturn d hr hx (Nat.le_of_ble_eq_true hk) (Nat.le_of_ble_eq_true hn) ⟨x, rfl, rfl, hq⟩
theorem za_rl {R : Int64 → zSt → Prop} {x : Int64} (d : decode (zB μ) pc = .ok (.lreturn, 1)) (hr : zR μ = some .long) (hk : Nat.ble k (zMc μ) = true) (hn : Nat.ble n (zMs μ) = true) (hq : R x σ) : zA (zZ μ (zQJ S R)) μ sc k n pc ls [.long x] S σ := za_lreturn d hr (Nat.le_of_ble_eq_true hk) (Nat.le_of_ble_eq_true hn) ⟨x, rfl, rfl, hq⟩
theorem za_rv {R : zSt → Prop} (d : decode (zB μ) pc = .ok (.return_, 1)) (hr : zR μ = none) (hk : Nat.ble k (zMc μ) = true) (hn : Nat.ble n (zMs μ) = true) (hq : R σ) : zA (zZ μ (zQV S R)) μ sc k n pc ls [] S σ := za_return d hr (Nat.le_of_ble_eq_true hk) (Nat.le_of_ble_eq_true hn) ⟨rfl, rfl, hq⟩
theorem za_ra {R : zSt → Prop} {r : Nat} {C : String} (d : decode (zB μ) pc = .ok (.areturn, 1)) (hr : zR μ = some (.object C)) (hk : Nat.ble k (zMc μ) = true) (hn : Nat.ble n (zMs μ) = true) (hq : R σ) : zA (zZ μ (zQO S r R)) μ sc k n pc ls [.ref r] S σ := za_areturn d hr (Nat.le_of_ble_eq_true hk) (Nat.le_of_ble_eq_true hn) ⟨rfl, rfl, hq⟩
theorem za_cV0i {μ' : zM} {idx b ci : Nat} {fs : List (Option (Option Nat))} {R : Int32 → zSt → Prop} (d : decode (zB μ) pc = .ok (.invokevirtual idx, 3)) (cw : zCV (zY μ).cls idx μ' 0) (hs : S[b]? = some (.inr (.inr (ci, fs)))) (hci : (zcl[ci]?).map (fun q => q.1) = some (zY μ').cls) (hdp : Nat.ble (zDp μ' + 1) (zDp μ) = true) (hrm : zMc μ' = 0 ∧ zMs μ' = 0) (hkn : Nat.ble k (zMc μ) = true ∧ Nat.ble n (zMs μ) = true) (hst : Nat.ble (st.map fun v => v.category).sum 8 = true) (hol : ls.all (zoko S.length) = true) (hos : st.all (zokv S.length) = true) (hM : zI μ' (.ref b :: []) S σ R) (kk : ∀ (x : Int32) (t : zSt), R x t → zA Z μ sc k n (pc + 3) ls (.int x :: st) S t) : zA Z μ sc k n pc ls (.ref b :: st) S σ := by
  refine za_callV (As := []) d cw hs hci hdp ⟨by rw [hrm.1]; exact hkn.1, by rw [hrm.2]; exact hkn.2⟩ hst hol hos hM (fun v S' σ' hq _ => ?_)
  rw [hrm.1, hrm.2]
  obtain ⟨x, rfl, rfl, hR⟩ := hq
  exact kk x σ' hR
theorem za_cV0l {μ' : zM} {idx b ci : Nat} {fs : List (Option (Option Nat))} {R : Int64 → zSt → Prop} (d : decode (zB μ) pc = .ok (.invokevirtual idx, 3)) (cw : zCV (zY μ).cls idx μ' 0) (hs : S[b]? = some (.inr (.inr (ci, fs)))) (hci : (zcl[ci]?).map (fun q => q.1) = some (zY μ').cls) (hdp : Nat.ble (zDp μ' + 1) (zDp μ) = true) (hrm : zMc μ' = 0 ∧ zMs μ' = 0) (hkn : Nat.ble k (zMc μ) = true ∧ Nat.ble n (zMs μ) = true) (hst : Nat.ble (st.map fun v => v.category).sum 8 = true) (hol : ls.all (zoko S.length) = true) (hos : st.all (zokv S.length) = true) (hM : zJ μ' (.ref b :: []) S σ R) (kk : ∀ (x : Int64) (t : zSt), R x t → zA Z μ sc k n (pc + 3) ls (.long x :: st) S t) : zA Z μ sc k n pc ls (.ref b :: st) S σ := by
  refine za_callV (As := []) d cw hs hci hdp ⟨by rw [hrm.1]; exact hkn.1, by rw [hrm.2]; exact hkn.2⟩ hst hol hos hM (fun v S' σ' hq _ => ?_)
  rw [hrm.1, hrm.2]
  obtain ⟨x, rfl, rfl, hR⟩ := hq
  exact kk x σ' hR
theorem za_cV0v {μ' : zM} {idx b ci : Nat} {fs : List (Option (Option Nat))} {R : zSt → Prop} (d : decode (zB μ) pc = .ok (.invokevirtual idx, 3)) (cw : zCV (zY μ).cls idx μ' 0) (hs : S[b]? = some (.inr (.inr (ci, fs)))) (hci : (zcl[ci]?).map (fun q => q.1) = some (zY μ').cls) (hdp : Nat.ble (zDp μ' + 1) (zDp μ) = true) (hrm : zMc μ' = 0 ∧ zMs μ' = 0) (hkn : Nat.ble k (zMc μ) = true ∧ Nat.ble n (zMs μ) = true) (hst : Nat.ble (st.map fun v => v.category).sum 8 = true) (hol : ls.all (zoko S.length) = true) (hos : st.all (zokv S.length) = true) (hM : zV μ' (.ref b :: []) S σ R) (kk : ∀ (t : zSt), R t → zA Z μ sc k n (pc + 3) ls st S t) : zA Z μ sc k n pc ls (.ref b :: st) S σ := by
  refine za_callV (As := []) d cw hs hci hdp ⟨by rw [hrm.1]; exact hkn.1, by rw [hrm.2]; exact hkn.2⟩ hst hol hos hM (fun v S' σ' hq _ => ?_)
  rw [hrm.1, hrm.2]
  obtain ⟨rfl, rfl, hR⟩ := hq
  exact kk σ' hR
theorem za_cV0r {μ' : zM} {idx b ci : Nat} {fs : List (Option (Option Nat))} {R : zSt → Prop} {r : Nat} (d : decode (zB μ) pc = .ok (.invokevirtual idx, 3)) (cw : zCV (zY μ).cls idx μ' 0) (hs : S[b]? = some (.inr (.inr (ci, fs)))) (hci : (zcl[ci]?).map (fun q => q.1) = some (zY μ').cls) (hdp : Nat.ble (zDp μ' + 1) (zDp μ) = true) (hrm : zMc μ' = 0 ∧ zMs μ' = 0) (hkn : Nat.ble k (zMc μ) = true ∧ Nat.ble n (zMs μ) = true) (hst : Nat.ble (st.map fun v => v.category).sum 8 = true) (hol : ls.all (zoko S.length) = true) (hos : st.all (zokv S.length) = true) (hM : zO μ' (.ref b :: []) S σ r R) (kk : ∀ (t : zSt), R t → zA Z μ sc k n (pc + 3) ls (.ref r :: st) S t) : zA Z μ sc k n pc ls (.ref b :: st) S σ := by
  refine za_callV (As := []) d cw hs hci hdp ⟨by rw [hrm.1]; exact hkn.1, by rw [hrm.2]; exact hkn.2⟩ hst hol hos hM (fun v S' σ' hq _ => ?_)
  rw [hrm.1, hrm.2]
  obtain ⟨rfl, rfl, hR⟩ := hq
  exact kk σ' hR
theorem za_cV1i {μ' : zM} {idx b ci : Nat} {fs : List (Option (Option Nat))} {a1 : Value} {R : Int32 → zSt → Prop} (d : decode (zB μ) pc = .ok (.invokevirtual idx, 3)) (cw : zCV (zY μ).cls idx μ' 1) (hs : S[b]? = some (.inr (.inr (ci, fs)))) (hci : (zcl[ci]?).map (fun q => q.1) = some (zY μ').cls) (hdp : Nat.ble (zDp μ' + 1) (zDp μ) = true) (hrm : zMc μ' = 0 ∧ zMs μ' = 0) (hkn : Nat.ble k (zMc μ) = true ∧ Nat.ble n (zMs μ) = true) (hst : Nat.ble (st.map fun v => v.category).sum 8 = true) (hol : ls.all (zoko S.length) = true) (hos : st.all (zokv S.length) = true) (hM : zI μ' (.ref b :: [a1]) S σ R) (kk : ∀ (x : Int32) (t : zSt), R x t → zA Z μ sc k n (pc + 3) ls (.int x :: st) S t) : zA Z μ sc k n pc ls (a1 :: .ref b :: st) S σ := by
  refine za_callV (As := [a1]) d cw hs hci hdp ⟨by rw [hrm.1]; exact hkn.1, by rw [hrm.2]; exact hkn.2⟩ hst hol hos hM (fun v S' σ' hq _ => ?_)
  rw [hrm.1, hrm.2]
  obtain ⟨x, rfl, rfl, hR⟩ := hq
  exact kk x σ' hR
theorem za_cV1l {μ' : zM} {idx b ci : Nat} {fs : List (Option (Option Nat))} {a1 : Value} {R : Int64 → zSt → Prop} (d : decode (zB μ) pc = .ok (.invokevirtual idx, 3)) (cw : zCV (zY μ).cls idx μ' 1) (hs : S[b]? = some (.inr (.inr (ci, fs)))) (hci : (zcl[ci]?).map (fun q => q.1) = some (zY μ').cls) (hdp : Nat.ble (zDp μ' + 1) (zDp μ) = true) (hrm : zMc μ' = 0 ∧ zMs μ' = 0) (hkn : Nat.ble k (zMc μ) = true ∧ Nat.ble n (zMs μ) = true) (hst : Nat.ble (st.map fun v => v.category).sum 8 = true) (hol : ls.all (zoko S.length) = true) (hos : st.all (zokv S.length) = true) (hM : zJ μ' (.ref b :: [a1]) S σ R) (kk : ∀ (x : Int64) (t : zSt), R x t → zA Z μ sc k n (pc + 3) ls (.long x :: st) S t) : zA Z μ sc k n pc ls (a1 :: .ref b :: st) S σ := by
  refine za_callV (As := [a1]) d cw hs hci hdp ⟨by rw [hrm.1]; exact hkn.1, by rw [hrm.2]; exact hkn.2⟩ hst hol hos hM (fun v S' σ' hq _ => ?_)
  rw [hrm.1, hrm.2]
  obtain ⟨x, rfl, rfl, hR⟩ := hq
  exact kk x σ' hR
theorem za_cV1v {μ' : zM} {idx b ci : Nat} {fs : List (Option (Option Nat))} {a1 : Value} {R : zSt → Prop} (d : decode (zB μ) pc = .ok (.invokevirtual idx, 3)) (cw : zCV (zY μ).cls idx μ' 1) (hs : S[b]? = some (.inr (.inr (ci, fs)))) (hci : (zcl[ci]?).map (fun q => q.1) = some (zY μ').cls) (hdp : Nat.ble (zDp μ' + 1) (zDp μ) = true) (hrm : zMc μ' = 0 ∧ zMs μ' = 0) (hkn : Nat.ble k (zMc μ) = true ∧ Nat.ble n (zMs μ) = true) (hst : Nat.ble (st.map fun v => v.category).sum 8 = true) (hol : ls.all (zoko S.length) = true) (hos : st.all (zokv S.length) = true) (hM : zV μ' (.ref b :: [a1]) S σ R) (kk : ∀ (t : zSt), R t → zA Z μ sc k n (pc + 3) ls st S t) : zA Z μ sc k n pc ls (a1 :: .ref b :: st) S σ := by
  refine za_callV (As := [a1]) d cw hs hci hdp ⟨by rw [hrm.1]; exact hkn.1, by rw [hrm.2]; exact hkn.2⟩ hst hol hos hM (fun v S' σ' hq _ => ?_)
  rw [hrm.1, hrm.2]
  obtain ⟨rfl, rfl, hR⟩ := hq
  exact kk σ' hR
theorem za_cV1r {μ' : zM} {idx b ci : Nat} {fs : List (Option (Option Nat))} {a1 : Value} {R : zSt → Prop} {r : Nat} (d : decode (zB μ) pc = .ok (.invokevirtual idx, 3)) (cw : zCV (zY μ).cls idx μ' 1) (hs : S[b]? = some (.inr (.inr (ci, fs)))) (hci : (zcl[ci]?).map (fun q => q.1) = some (zY μ').cls) (hdp : Nat.ble (zDp μ' + 1) (zDp μ) = true) (hrm : zMc μ' = 0 ∧ zMs μ' = 0) (hkn : Nat.ble k (zMc μ) = true ∧ Nat.ble n (zMs μ) = true) (hst : Nat.ble (st.map fun v => v.category).sum 8 = true) (hol : ls.all (zoko S.length) = true) (hos : st.all (zokv S.length) = true) (hM : zO μ' (.ref b :: [a1]) S σ r R) (kk : ∀ (t : zSt), R t → zA Z μ sc k n (pc + 3) ls (.ref r :: st) S t) : zA Z μ sc k n pc ls (a1 :: .ref b :: st) S σ := by
  refine za_callV (As := [a1]) d cw hs hci hdp ⟨by rw [hrm.1]; exact hkn.1, by rw [hrm.2]; exact hkn.2⟩ hst hol hos hM (fun v S' σ' hq _ => ?_)
  rw [hrm.1, hrm.2]
  obtain ⟨rfl, rfl, hR⟩ := hq
  exact kk σ' hR
theorem za_cV2i {μ' : zM} {idx b ci : Nat} {fs : List (Option (Option Nat))} {a1 a2 : Value} {R : Int32 → zSt → Prop} (d : decode (zB μ) pc = .ok (.invokevirtual idx, 3)) (cw : zCV (zY μ).cls idx μ' 2) (hs : S[b]? = some (.inr (.inr (ci, fs)))) (hci : (zcl[ci]?).map (fun q => q.1) = some (zY μ').cls) (hdp : Nat.ble (zDp μ' + 1) (zDp μ) = true) (hrm : zMc μ' = 0 ∧ zMs μ' = 0) (hkn : Nat.ble k (zMc μ) = true ∧ Nat.ble n (zMs μ) = true) (hst : Nat.ble (st.map fun v => v.category).sum 8 = true) (hol : ls.all (zoko S.length) = true) (hos : st.all (zokv S.length) = true) (hM : zI μ' (.ref b :: [a1, a2]) S σ R) (kk : ∀ (x : Int32) (t : zSt), R x t → zA Z μ sc k n (pc + 3) ls (.int x :: st) S t) : zA Z μ sc k n pc ls (a2 :: a1 :: .ref b :: st) S σ := by
  refine za_callV (As := [a1, a2]) d cw hs hci hdp ⟨by rw [hrm.1]; exact hkn.1, by rw [hrm.2]; exact hkn.2⟩ hst hol hos hM (fun v S' σ' hq _ => ?_)
  rw [hrm.1, hrm.2]
  obtain ⟨x, rfl, rfl, hR⟩ := hq
  exact kk x σ' hR
theorem za_cV2l {μ' : zM} {idx b ci : Nat} {fs : List (Option (Option Nat))} {a1 a2 : Value} {R : Int64 → zSt → Prop} (d : decode (zB μ) pc = .ok (.invokevirtual idx, 3)) (cw : zCV (zY μ).cls idx μ' 2) (hs : S[b]? = some (.inr (.inr (ci, fs)))) (hci : (zcl[ci]?).map (fun q => q.1) = some (zY μ').cls) (hdp : Nat.ble (zDp μ' + 1) (zDp μ) = true) (hrm : zMc μ' = 0 ∧ zMs μ' = 0) (hkn : Nat.ble k (zMc μ) = true ∧ Nat.ble n (zMs μ) = true) (hst : Nat.ble (st.map fun v => v.category).sum 8 = true) (hol : ls.all (zoko S.length) = true) (hos : st.all (zokv S.length) = true) (hM : zJ μ' (.ref b :: [a1, a2]) S σ R) (kk : ∀ (x : Int64) (t : zSt), R x t → zA Z μ sc k n (pc + 3) ls (.long x :: st) S t) : zA Z μ sc k n pc ls (a2 :: a1 :: .ref b :: st) S σ := by
  refine za_callV (As := [a1, a2]) d cw hs hci hdp ⟨by rw [hrm.1]; exact hkn.1, by rw [hrm.2]; exact hkn.2⟩ hst hol hos hM (fun v S' σ' hq _ => ?_)
  rw [hrm.1, hrm.2]
  obtain ⟨x, rfl, rfl, hR⟩ := hq
  exact kk x σ' hR
theorem za_cV2v {μ' : zM} {idx b ci : Nat} {fs : List (Option (Option Nat))} {a1 a2 : Value} {R : zSt → Prop} (d : decode (zB μ) pc = .ok (.invokevirtual idx, 3)) (cw : zCV (zY μ).cls idx μ' 2) (hs : S[b]? = some (.inr (.inr (ci, fs)))) (hci : (zcl[ci]?).map (fun q => q.1) = some (zY μ').cls) (hdp : Nat.ble (zDp μ' + 1) (zDp μ) = true) (hrm : zMc μ' = 0 ∧ zMs μ' = 0) (hkn : Nat.ble k (zMc μ) = true ∧ Nat.ble n (zMs μ) = true) (hst : Nat.ble (st.map fun v => v.category).sum 8 = true) (hol : ls.all (zoko S.length) = true) (hos : st.all (zokv S.length) = true) (hM : zV μ' (.ref b :: [a1, a2]) S σ R) (kk : ∀ (t : zSt), R t → zA Z μ sc k n (pc + 3) ls st S t) : zA Z μ sc k n pc ls (a2 :: a1 :: .ref b :: st) S σ := by
  refine za_callV (As := [a1, a2]) d cw hs hci hdp ⟨by rw [hrm.1]; exact hkn.1, by rw [hrm.2]; exact hkn.2⟩ hst hol hos hM (fun v S' σ' hq _ => ?_)
  rw [hrm.1, hrm.2]
  obtain ⟨rfl, rfl, hR⟩ := hq
  exact kk σ' hR
theorem za_cV2r {μ' : zM} {idx b ci : Nat} {fs : List (Option (Option Nat))} {a1 a2 : Value} {R : zSt → Prop} {r : Nat} (d : decode (zB μ) pc = .ok (.invokevirtual idx, 3)) (cw : zCV (zY μ).cls idx μ' 2) (hs : S[b]? = some (.inr (.inr (ci, fs)))) (hci : (zcl[ci]?).map (fun q => q.1) = some (zY μ').cls) (hdp : Nat.ble (zDp μ' + 1) (zDp μ) = true) (hrm : zMc μ' = 0 ∧ zMs μ' = 0) (hkn : Nat.ble k (zMc μ) = true ∧ Nat.ble n (zMs μ) = true) (hst : Nat.ble (st.map fun v => v.category).sum 8 = true) (hol : ls.all (zoko S.length) = true) (hos : st.all (zokv S.length) = true) (hM : zO μ' (.ref b :: [a1, a2]) S σ r R) (kk : ∀ (t : zSt), R t → zA Z μ sc k n (pc + 3) ls (.ref r :: st) S t) : zA Z μ sc k n pc ls (a2 :: a1 :: .ref b :: st) S σ := by
  refine za_callV (As := [a1, a2]) d cw hs hci hdp ⟨by rw [hrm.1]; exact hkn.1, by rw [hrm.2]; exact hkn.2⟩ hst hol hos hM (fun v S' σ' hq _ => ?_)
  rw [hrm.1, hrm.2]
  obtain ⟨rfl, rfl, hR⟩ := hq
  exact kk σ' hR
theorem za_cV3i {μ' : zM} {idx b ci : Nat} {fs : List (Option (Option Nat))} {a1 a2 a3 : Value} {R : Int32 → zSt → Prop} (d : decode (zB μ) pc = .ok (.invokevirtual idx, 3)) (cw : zCV (zY μ).cls idx μ' 3) (hs : S[b]? = some (.inr (.inr (ci, fs)))) (hci : (zcl[ci]?).map (fun q => q.1) = some (zY μ').cls) (hdp : Nat.ble (zDp μ' + 1) (zDp μ) = true) (hrm : zMc μ' = 0 ∧ zMs μ' = 0) (hkn : Nat.ble k (zMc μ) = true ∧ Nat.ble n (zMs μ) = true) (hst : Nat.ble (st.map fun v => v.category).sum 8 = true) (hol : ls.all (zoko S.length) = true) (hos : st.all (zokv S.length) = true) (hM : zI μ' (.ref b :: [a1, a2, a3]) S σ R) (kk : ∀ (x : Int32) (t : zSt), R x t → zA Z μ sc k n (pc + 3) ls (.int x :: st) S t) : zA Z μ sc k n pc ls (a3 :: a2 :: a1 :: .ref b :: st) S σ := by
  refine za_callV (As := [a1, a2, a3]) d cw hs hci hdp ⟨by rw [hrm.1]; exact hkn.1, by rw [hrm.2]; exact hkn.2⟩ hst hol hos hM (fun v S' σ' hq _ => ?_)
  rw [hrm.1, hrm.2]
  obtain ⟨x, rfl, rfl, hR⟩ := hq
  exact kk x σ' hR
theorem za_cV3l {μ' : zM} {idx b ci : Nat} {fs : List (Option (Option Nat))} {a1 a2 a3 : Value} {R : Int64 → zSt → Prop} (d : decode (zB μ) pc = .ok (.invokevirtual idx, 3)) (cw : zCV (zY μ).cls idx μ' 3) (hs : S[b]? = some (.inr (.inr (ci, fs)))) (hci : (zcl[ci]?).map (fun q => q.1) = some (zY μ').cls) (hdp : Nat.ble (zDp μ' + 1) (zDp μ) = true) (hrm : zMc μ' = 0 ∧ zMs μ' = 0) (hkn : Nat.ble k (zMc μ) = true ∧ Nat.ble n (zMs μ) = true) (hst : Nat.ble (st.map fun v => v.category).sum 8 = true) (hol : ls.all (zoko S.length) = true) (hos : st.all (zokv S.length) = true) (hM : zJ μ' (.ref b :: [a1, a2, a3]) S σ R) (kk : ∀ (x : Int64) (t : zSt), R x t → zA Z μ sc k n (pc + 3) ls (.long x :: st) S t) : zA Z μ sc k n pc ls (a3 :: a2 :: a1 :: .ref b :: st) S σ := by
  refine za_callV (As := [a1, a2, a3]) d cw hs hci hdp ⟨by rw [hrm.1]; exact hkn.1, by rw [hrm.2]; exact hkn.2⟩ hst hol hos hM (fun v S' σ' hq _ => ?_)
  rw [hrm.1, hrm.2]
  obtain ⟨x, rfl, rfl, hR⟩ := hq
  exact kk x σ' hR
theorem za_cV3v {μ' : zM} {idx b ci : Nat} {fs : List (Option (Option Nat))} {a1 a2 a3 : Value} {R : zSt → Prop} (d : decode (zB μ) pc = .ok (.invokevirtual idx, 3)) (cw : zCV (zY μ).cls idx μ' 3) (hs : S[b]? = some (.inr (.inr (ci, fs)))) (hci : (zcl[ci]?).map (fun q => q.1) = some (zY μ').cls) (hdp : Nat.ble (zDp μ' + 1) (zDp μ) = true) (hrm : zMc μ' = 0 ∧ zMs μ' = 0) (hkn : Nat.ble k (zMc μ) = true ∧ Nat.ble n (zMs μ) = true) (hst : Nat.ble (st.map fun v => v.category).sum 8 = true) (hol : ls.all (zoko S.length) = true) (hos : st.all (zokv S.length) = true) (hM : zV μ' (.ref b :: [a1, a2, a3]) S σ R) (kk : ∀ (t : zSt), R t → zA Z μ sc k n (pc + 3) ls st S t) : zA Z μ sc k n pc ls (a3 :: a2 :: a1 :: .ref b :: st) S σ := by
  refine za_callV (As := [a1, a2, a3]) d cw hs hci hdp ⟨by rw [hrm.1]; exact hkn.1, by rw [hrm.2]; exact hkn.2⟩ hst hol hos hM (fun v S' σ' hq _ => ?_)
  rw [hrm.1, hrm.2]
  obtain ⟨rfl, rfl, hR⟩ := hq
  exact kk σ' hR
theorem za_cV3r {μ' : zM} {idx b ci : Nat} {fs : List (Option (Option Nat))} {a1 a2 a3 : Value} {R : zSt → Prop} {r : Nat} (d : decode (zB μ) pc = .ok (.invokevirtual idx, 3)) (cw : zCV (zY μ).cls idx μ' 3) (hs : S[b]? = some (.inr (.inr (ci, fs)))) (hci : (zcl[ci]?).map (fun q => q.1) = some (zY μ').cls) (hdp : Nat.ble (zDp μ' + 1) (zDp μ) = true) (hrm : zMc μ' = 0 ∧ zMs μ' = 0) (hkn : Nat.ble k (zMc μ) = true ∧ Nat.ble n (zMs μ) = true) (hst : Nat.ble (st.map fun v => v.category).sum 8 = true) (hol : ls.all (zoko S.length) = true) (hos : st.all (zokv S.length) = true) (hM : zO μ' (.ref b :: [a1, a2, a3]) S σ r R) (kk : ∀ (t : zSt), R t → zA Z μ sc k n (pc + 3) ls (.ref r :: st) S t) : zA Z μ sc k n pc ls (a3 :: a2 :: a1 :: .ref b :: st) S σ := by
  refine za_callV (As := [a1, a2, a3]) d cw hs hci hdp ⟨by rw [hrm.1]; exact hkn.1, by rw [hrm.2]; exact hkn.2⟩ hst hol hos hM (fun v S' σ' hq _ => ?_)
  rw [hrm.1, hrm.2]
  obtain ⟨rfl, rfl, hR⟩ := hq
  exact kk σ' hR
theorem za_cV4i {μ' : zM} {idx b ci : Nat} {fs : List (Option (Option Nat))} {a1 a2 a3 a4 : Value} {R : Int32 → zSt → Prop} (d : decode (zB μ) pc = .ok (.invokevirtual idx, 3)) (cw : zCV (zY μ).cls idx μ' 4) (hs : S[b]? = some (.inr (.inr (ci, fs)))) (hci : (zcl[ci]?).map (fun q => q.1) = some (zY μ').cls) (hdp : Nat.ble (zDp μ' + 1) (zDp μ) = true) (hrm : zMc μ' = 0 ∧ zMs μ' = 0) (hkn : Nat.ble k (zMc μ) = true ∧ Nat.ble n (zMs μ) = true) (hst : Nat.ble (st.map fun v => v.category).sum 8 = true) (hol : ls.all (zoko S.length) = true) (hos : st.all (zokv S.length) = true) (hM : zI μ' (.ref b :: [a1, a2, a3, a4]) S σ R) (kk : ∀ (x : Int32) (t : zSt), R x t → zA Z μ sc k n (pc + 3) ls (.int x :: st) S t) : zA Z μ sc k n pc ls (a4 :: a3 :: a2 :: a1 :: .ref b :: st) S σ := by
  refine za_callV (As := [a1, a2, a3, a4]) d cw hs hci hdp ⟨by rw [hrm.1]; exact hkn.1, by rw [hrm.2]; exact hkn.2⟩ hst hol hos hM (fun v S' σ' hq _ => ?_)
  rw [hrm.1, hrm.2]
  obtain ⟨x, rfl, rfl, hR⟩ := hq
  exact kk x σ' hR
theorem za_cV4l {μ' : zM} {idx b ci : Nat} {fs : List (Option (Option Nat))} {a1 a2 a3 a4 : Value} {R : Int64 → zSt → Prop} (d : decode (zB μ) pc = .ok (.invokevirtual idx, 3)) (cw : zCV (zY μ).cls idx μ' 4) (hs : S[b]? = some (.inr (.inr (ci, fs)))) (hci : (zcl[ci]?).map (fun q => q.1) = some (zY μ').cls) (hdp : Nat.ble (zDp μ' + 1) (zDp μ) = true) (hrm : zMc μ' = 0 ∧ zMs μ' = 0) (hkn : Nat.ble k (zMc μ) = true ∧ Nat.ble n (zMs μ) = true) (hst : Nat.ble (st.map fun v => v.category).sum 8 = true) (hol : ls.all (zoko S.length) = true) (hos : st.all (zokv S.length) = true) (hM : zJ μ' (.ref b :: [a1, a2, a3, a4]) S σ R) (kk : ∀ (x : Int64) (t : zSt), R x t → zA Z μ sc k n (pc + 3) ls (.long x :: st) S t) : zA Z μ sc k n pc ls (a4 :: a3 :: a2 :: a1 :: .ref b :: st) S σ := by
  refine za_callV (As := [a1, a2, a3, a4]) d cw hs hci hdp ⟨by rw [hrm.1]; exact hkn.1, by rw [hrm.2]; exact hkn.2⟩ hst hol hos hM (fun v S' σ' hq _ => ?_)
  rw [hrm.1, hrm.2]
  obtain ⟨x, rfl, rfl, hR⟩ := hq
  exact kk x σ' hR
theorem za_cV4v {μ' : zM} {idx b ci : Nat} {fs : List (Option (Option Nat))} {a1 a2 a3 a4 : Value} {R : zSt → Prop} (d : decode (zB μ) pc = .ok (.invokevirtual idx, 3)) (cw : zCV (zY μ).cls idx μ' 4) (hs : S[b]? = some (.inr (.inr (ci, fs)))) (hci : (zcl[ci]?).map (fun q => q.1) = some (zY μ').cls) (hdp : Nat.ble (zDp μ' + 1) (zDp μ) = true) (hrm : zMc μ' = 0 ∧ zMs μ' = 0) (hkn : Nat.ble k (zMc μ) = true ∧ Nat.ble n (zMs μ) = true) (hst : Nat.ble (st.map fun v => v.category).sum 8 = true) (hol : ls.all (zoko S.length) = true) (hos : st.all (zokv S.length) = true) (hM : zV μ' (.ref b :: [a1, a2, a3, a4]) S σ R) (kk : ∀ (t : zSt), R t → zA Z μ sc k n (pc + 3) ls st S t) : zA Z μ sc k n pc ls (a4 :: a3 :: a2 :: a1 :: .ref b :: st) S σ := by
  refine za_callV (As := [a1, a2, a3, a4]) d cw hs hci hdp ⟨by rw [hrm.1]; exact hkn.1, by rw [hrm.2]; exact hkn.2⟩ hst hol hos hM (fun v S' σ' hq _ => ?_)
  rw [hrm.1, hrm.2]
  obtain ⟨rfl, rfl, hR⟩ := hq
  exact kk σ' hR
theorem za_cV4r {μ' : zM} {idx b ci : Nat} {fs : List (Option (Option Nat))} {a1 a2 a3 a4 : Value} {R : zSt → Prop} {r : Nat} (d : decode (zB μ) pc = .ok (.invokevirtual idx, 3)) (cw : zCV (zY μ).cls idx μ' 4) (hs : S[b]? = some (.inr (.inr (ci, fs)))) (hci : (zcl[ci]?).map (fun q => q.1) = some (zY μ').cls) (hdp : Nat.ble (zDp μ' + 1) (zDp μ) = true) (hrm : zMc μ' = 0 ∧ zMs μ' = 0) (hkn : Nat.ble k (zMc μ) = true ∧ Nat.ble n (zMs μ) = true) (hst : Nat.ble (st.map fun v => v.category).sum 8 = true) (hol : ls.all (zoko S.length) = true) (hos : st.all (zokv S.length) = true) (hM : zO μ' (.ref b :: [a1, a2, a3, a4]) S σ r R) (kk : ∀ (t : zSt), R t → zA Z μ sc k n (pc + 3) ls (.ref r :: st) S t) : zA Z μ sc k n pc ls (a4 :: a3 :: a2 :: a1 :: .ref b :: st) S σ := by
  refine za_callV (As := [a1, a2, a3, a4]) d cw hs hci hdp ⟨by rw [hrm.1]; exact hkn.1, by rw [hrm.2]; exact hkn.2⟩ hst hol hos hM (fun v S' σ' hq _ => ?_)
  rw [hrm.1, hrm.2]
  obtain ⟨rfl, rfl, hR⟩ := hq
  exact kk σ' hR
theorem za_cV5i {μ' : zM} {idx b ci : Nat} {fs : List (Option (Option Nat))} {a1 a2 a3 a4 a5 : Value} {R : Int32 → zSt → Prop} (d : decode (zB μ) pc = .ok (.invokevirtual idx, 3)) (cw : zCV (zY μ).cls idx μ' 5) (hs : S[b]? = some (.inr (.inr (ci, fs)))) (hci : (zcl[ci]?).map (fun q => q.1) = some (zY μ').cls) (hdp : Nat.ble (zDp μ' + 1) (zDp μ) = true) (hrm : zMc μ' = 0 ∧ zMs μ' = 0) (hkn : Nat.ble k (zMc μ) = true ∧ Nat.ble n (zMs μ) = true) (hst : Nat.ble (st.map fun v => v.category).sum 8 = true) (hol : ls.all (zoko S.length) = true) (hos : st.all (zokv S.length) = true) (hM : zI μ' (.ref b :: [a1, a2, a3, a4, a5]) S σ R) (kk : ∀ (x : Int32) (t : zSt), R x t → zA Z μ sc k n (pc + 3) ls (.int x :: st) S t) : zA Z μ sc k n pc ls (a5 :: a4 :: a3 :: a2 :: a1 :: .ref b :: st) S σ := by
  refine za_callV (As := [a1, a2, a3, a4, a5]) d cw hs hci hdp ⟨by rw [hrm.1]; exact hkn.1, by rw [hrm.2]; exact hkn.2⟩ hst hol hos hM (fun v S' σ' hq _ => ?_)
  rw [hrm.1, hrm.2]
  obtain ⟨x, rfl, rfl, hR⟩ := hq
  exact kk x σ' hR
theorem za_cV5l {μ' : zM} {idx b ci : Nat} {fs : List (Option (Option Nat))} {a1 a2 a3 a4 a5 : Value} {R : Int64 → zSt → Prop} (d : decode (zB μ) pc = .ok (.invokevirtual idx, 3)) (cw : zCV (zY μ).cls idx μ' 5) (hs : S[b]? = some (.inr (.inr (ci, fs)))) (hci : (zcl[ci]?).map (fun q => q.1) = some (zY μ').cls) (hdp : Nat.ble (zDp μ' + 1) (zDp μ) = true) (hrm : zMc μ' = 0 ∧ zMs μ' = 0) (hkn : Nat.ble k (zMc μ) = true ∧ Nat.ble n (zMs μ) = true) (hst : Nat.ble (st.map fun v => v.category).sum 8 = true) (hol : ls.all (zoko S.length) = true) (hos : st.all (zokv S.length) = true) (hM : zJ μ' (.ref b :: [a1, a2, a3, a4, a5]) S σ R) (kk : ∀ (x : Int64) (t : zSt), R x t → zA Z μ sc k n (pc + 3) ls (.long x :: st) S t) : zA Z μ sc k n pc ls (a5 :: a4 :: a3 :: a2 :: a1 :: .ref b :: st) S σ := by
  refine za_callV (As := [a1, a2, a3, a4, a5]) d cw hs hci hdp ⟨by rw [hrm.1]; exact hkn.1, by rw [hrm.2]; exact hkn.2⟩ hst hol hos hM (fun v S' σ' hq _ => ?_)
  rw [hrm.1, hrm.2]
  obtain ⟨x, rfl, rfl, hR⟩ := hq
  exact kk x σ' hR
theorem za_cV5v {μ' : zM} {idx b ci : Nat} {fs : List (Option (Option Nat))} {a1 a2 a3 a4 a5 : Value} {R : zSt → Prop} (d : decode (zB μ) pc = .ok (.invokevirtual idx, 3)) (cw : zCV (zY μ).cls idx μ' 5) (hs : S[b]? = some (.inr (.inr (ci, fs)))) (hci : (zcl[ci]?).map (fun q => q.1) = some (zY μ').cls) (hdp : Nat.ble (zDp μ' + 1) (zDp μ) = true) (hrm : zMc μ' = 0 ∧ zMs μ' = 0) (hkn : Nat.ble k (zMc μ) = true ∧ Nat.ble n (zMs μ) = true) (hst : Nat.ble (st.map fun v => v.category).sum 8 = true) (hol : ls.all (zoko S.length) = true) (hos : st.all (zokv S.length) = true) (hM : zV μ' (.ref b :: [a1, a2, a3, a4, a5]) S σ R) (kk : ∀ (t : zSt), R t → zA Z μ sc k n (pc + 3) ls st S t) : zA Z μ sc k n pc ls (a5 :: a4 :: a3 :: a2 :: a1 :: .ref b :: st) S σ := by
  refine za_callV (As := [a1, a2, a3, a4, a5]) d cw hs hci hdp ⟨by rw [hrm.1]; exact hkn.1, by rw [hrm.2]; exact hkn.2⟩ hst hol hos hM (fun v S' σ' hq _ => ?_)
  rw [hrm.1, hrm.2]
  obtain ⟨rfl, rfl, hR⟩ := hq
  exact kk σ' hR
theorem za_cV5r {μ' : zM} {idx b ci : Nat} {fs : List (Option (Option Nat))} {a1 a2 a3 a4 a5 : Value} {R : zSt → Prop} {r : Nat} (d : decode (zB μ) pc = .ok (.invokevirtual idx, 3)) (cw : zCV (zY μ).cls idx μ' 5) (hs : S[b]? = some (.inr (.inr (ci, fs)))) (hci : (zcl[ci]?).map (fun q => q.1) = some (zY μ').cls) (hdp : Nat.ble (zDp μ' + 1) (zDp μ) = true) (hrm : zMc μ' = 0 ∧ zMs μ' = 0) (hkn : Nat.ble k (zMc μ) = true ∧ Nat.ble n (zMs μ) = true) (hst : Nat.ble (st.map fun v => v.category).sum 8 = true) (hol : ls.all (zoko S.length) = true) (hos : st.all (zokv S.length) = true) (hM : zO μ' (.ref b :: [a1, a2, a3, a4, a5]) S σ r R) (kk : ∀ (t : zSt), R t → zA Z μ sc k n (pc + 3) ls (.ref r :: st) S t) : zA Z μ sc k n pc ls (a5 :: a4 :: a3 :: a2 :: a1 :: .ref b :: st) S σ := by
  refine za_callV (As := [a1, a2, a3, a4, a5]) d cw hs hci hdp ⟨by rw [hrm.1]; exact hkn.1, by rw [hrm.2]; exact hkn.2⟩ hst hol hos hM (fun v S' σ' hq _ => ?_)
  rw [hrm.1, hrm.2]
  obtain ⟨rfl, rfl, hR⟩ := hq
  exact kk σ' hR
theorem za_cS0i {μ' : zM} {idx : Nat} {R : Int32 → zSt → Prop} (d : decode (zB μ) pc = .ok (.invokestatic idx, 3)) (cw : zCS (zY μ).cls idx μ' 0) (hdp : Nat.ble (zDp μ' + 1) (zDp μ) = true) (hrm : zMc μ' = 0 ∧ zMs μ' = 0) (hkn : Nat.ble k (zMc μ) = true ∧ Nat.ble n (zMs μ) = true) (hst : Nat.ble (st.map fun v => v.category).sum 8 = true) (hol : ls.all (zoko S.length) = true) (hos : st.all (zokv S.length) = true) (hM : zI μ' ([]) S σ R) (kk : ∀ (x : Int32) (t : zSt), R x t → zA Z μ sc k n (pc + 3) ls (.int x :: st) S t) : zA Z μ sc k n pc ls (st) S σ := by
  refine za_callS (As := []) d cw hdp ⟨by rw [hrm.1]; exact hkn.1, by rw [hrm.2]; exact hkn.2⟩ hst hol hos hM (fun v S' σ' hq _ => ?_)
  rw [hrm.1, hrm.2]
  obtain ⟨x, rfl, rfl, hR⟩ := hq
  exact kk x σ' hR
theorem za_cS0l {μ' : zM} {idx : Nat} {R : Int64 → zSt → Prop} (d : decode (zB μ) pc = .ok (.invokestatic idx, 3)) (cw : zCS (zY μ).cls idx μ' 0) (hdp : Nat.ble (zDp μ' + 1) (zDp μ) = true) (hrm : zMc μ' = 0 ∧ zMs μ' = 0) (hkn : Nat.ble k (zMc μ) = true ∧ Nat.ble n (zMs μ) = true) (hst : Nat.ble (st.map fun v => v.category).sum 8 = true) (hol : ls.all (zoko S.length) = true) (hos : st.all (zokv S.length) = true) (hM : zJ μ' ([]) S σ R) (kk : ∀ (x : Int64) (t : zSt), R x t → zA Z μ sc k n (pc + 3) ls (.long x :: st) S t) : zA Z μ sc k n pc ls (st) S σ := by
  refine za_callS (As := []) d cw hdp ⟨by rw [hrm.1]; exact hkn.1, by rw [hrm.2]; exact hkn.2⟩ hst hol hos hM (fun v S' σ' hq _ => ?_)
  rw [hrm.1, hrm.2]
  obtain ⟨x, rfl, rfl, hR⟩ := hq
  exact kk x σ' hR
theorem za_cS0v {μ' : zM} {idx : Nat} {R : zSt → Prop} (d : decode (zB μ) pc = .ok (.invokestatic idx, 3)) (cw : zCS (zY μ).cls idx μ' 0) (hdp : Nat.ble (zDp μ' + 1) (zDp μ) = true) (hrm : zMc μ' = 0 ∧ zMs μ' = 0) (hkn : Nat.ble k (zMc μ) = true ∧ Nat.ble n (zMs μ) = true) (hst : Nat.ble (st.map fun v => v.category).sum 8 = true) (hol : ls.all (zoko S.length) = true) (hos : st.all (zokv S.length) = true) (hM : zV μ' ([]) S σ R) (kk : ∀ (t : zSt), R t → zA Z μ sc k n (pc + 3) ls st S t) : zA Z μ sc k n pc ls (st) S σ := by
  refine za_callS (As := []) d cw hdp ⟨by rw [hrm.1]; exact hkn.1, by rw [hrm.2]; exact hkn.2⟩ hst hol hos hM (fun v S' σ' hq _ => ?_)
  rw [hrm.1, hrm.2]
  obtain ⟨rfl, rfl, hR⟩ := hq
  exact kk σ' hR
theorem za_cS0r {μ' : zM} {idx : Nat} {R : zSt → Prop} {r : Nat} (d : decode (zB μ) pc = .ok (.invokestatic idx, 3)) (cw : zCS (zY μ).cls idx μ' 0) (hdp : Nat.ble (zDp μ' + 1) (zDp μ) = true) (hrm : zMc μ' = 0 ∧ zMs μ' = 0) (hkn : Nat.ble k (zMc μ) = true ∧ Nat.ble n (zMs μ) = true) (hst : Nat.ble (st.map fun v => v.category).sum 8 = true) (hol : ls.all (zoko S.length) = true) (hos : st.all (zokv S.length) = true) (hM : zO μ' ([]) S σ r R) (kk : ∀ (t : zSt), R t → zA Z μ sc k n (pc + 3) ls (.ref r :: st) S t) : zA Z μ sc k n pc ls (st) S σ := by
  refine za_callS (As := []) d cw hdp ⟨by rw [hrm.1]; exact hkn.1, by rw [hrm.2]; exact hkn.2⟩ hst hol hos hM (fun v S' σ' hq _ => ?_)
  rw [hrm.1, hrm.2]
  obtain ⟨rfl, rfl, hR⟩ := hq
  exact kk σ' hR
theorem za_cS1i {μ' : zM} {idx : Nat} {a1 : Value} {R : Int32 → zSt → Prop} (d : decode (zB μ) pc = .ok (.invokestatic idx, 3)) (cw : zCS (zY μ).cls idx μ' 1) (hdp : Nat.ble (zDp μ' + 1) (zDp μ) = true) (hrm : zMc μ' = 0 ∧ zMs μ' = 0) (hkn : Nat.ble k (zMc μ) = true ∧ Nat.ble n (zMs μ) = true) (hst : Nat.ble (st.map fun v => v.category).sum 8 = true) (hol : ls.all (zoko S.length) = true) (hos : st.all (zokv S.length) = true) (hM : zI μ' ([a1]) S σ R) (kk : ∀ (x : Int32) (t : zSt), R x t → zA Z μ sc k n (pc + 3) ls (.int x :: st) S t) : zA Z μ sc k n pc ls (a1 :: st) S σ := by
  refine za_callS (As := [a1]) d cw hdp ⟨by rw [hrm.1]; exact hkn.1, by rw [hrm.2]; exact hkn.2⟩ hst hol hos hM (fun v S' σ' hq _ => ?_)
  rw [hrm.1, hrm.2]
  obtain ⟨x, rfl, rfl, hR⟩ := hq
  exact kk x σ' hR
theorem za_cS1l {μ' : zM} {idx : Nat} {a1 : Value} {R : Int64 → zSt → Prop} (d : decode (zB μ) pc = .ok (.invokestatic idx, 3)) (cw : zCS (zY μ).cls idx μ' 1) (hdp : Nat.ble (zDp μ' + 1) (zDp μ) = true) (hrm : zMc μ' = 0 ∧ zMs μ' = 0) (hkn : Nat.ble k (zMc μ) = true ∧ Nat.ble n (zMs μ) = true) (hst : Nat.ble (st.map fun v => v.category).sum 8 = true) (hol : ls.all (zoko S.length) = true) (hos : st.all (zokv S.length) = true) (hM : zJ μ' ([a1]) S σ R) (kk : ∀ (x : Int64) (t : zSt), R x t → zA Z μ sc k n (pc + 3) ls (.long x :: st) S t) : zA Z μ sc k n pc ls (a1 :: st) S σ := by
  refine za_callS (As := [a1]) d cw hdp ⟨by rw [hrm.1]; exact hkn.1, by rw [hrm.2]; exact hkn.2⟩ hst hol hos hM (fun v S' σ' hq _ => ?_)
  rw [hrm.1, hrm.2]
  obtain ⟨x, rfl, rfl, hR⟩ := hq
  exact kk x σ' hR
theorem za_cS1v {μ' : zM} {idx : Nat} {a1 : Value} {R : zSt → Prop} (d : decode (zB μ) pc = .ok (.invokestatic idx, 3)) (cw : zCS (zY μ).cls idx μ' 1) (hdp : Nat.ble (zDp μ' + 1) (zDp μ) = true) (hrm : zMc μ' = 0 ∧ zMs μ' = 0) (hkn : Nat.ble k (zMc μ) = true ∧ Nat.ble n (zMs μ) = true) (hst : Nat.ble (st.map fun v => v.category).sum 8 = true) (hol : ls.all (zoko S.length) = true) (hos : st.all (zokv S.length) = true) (hM : zV μ' ([a1]) S σ R) (kk : ∀ (t : zSt), R t → zA Z μ sc k n (pc + 3) ls st S t) : zA Z μ sc k n pc ls (a1 :: st) S σ := by
  refine za_callS (As := [a1]) d cw hdp ⟨by rw [hrm.1]; exact hkn.1, by rw [hrm.2]; exact hkn.2⟩ hst hol hos hM (fun v S' σ' hq _ => ?_)
  rw [hrm.1, hrm.2]
  obtain ⟨rfl, rfl, hR⟩ := hq
  exact kk σ' hR
theorem za_cS1r {μ' : zM} {idx : Nat} {a1 : Value} {R : zSt → Prop} {r : Nat} (d : decode (zB μ) pc = .ok (.invokestatic idx, 3)) (cw : zCS (zY μ).cls idx μ' 1) (hdp : Nat.ble (zDp μ' + 1) (zDp μ) = true) (hrm : zMc μ' = 0 ∧ zMs μ' = 0) (hkn : Nat.ble k (zMc μ) = true ∧ Nat.ble n (zMs μ) = true) (hst : Nat.ble (st.map fun v => v.category).sum 8 = true) (hol : ls.all (zoko S.length) = true) (hos : st.all (zokv S.length) = true) (hM : zO μ' ([a1]) S σ r R) (kk : ∀ (t : zSt), R t → zA Z μ sc k n (pc + 3) ls (.ref r :: st) S t) : zA Z μ sc k n pc ls (a1 :: st) S σ := by
  refine za_callS (As := [a1]) d cw hdp ⟨by rw [hrm.1]; exact hkn.1, by rw [hrm.2]; exact hkn.2⟩ hst hol hos hM (fun v S' σ' hq _ => ?_)
  rw [hrm.1, hrm.2]
  obtain ⟨rfl, rfl, hR⟩ := hq
  exact kk σ' hR
theorem za_cS2i {μ' : zM} {idx : Nat} {a1 a2 : Value} {R : Int32 → zSt → Prop} (d : decode (zB μ) pc = .ok (.invokestatic idx, 3)) (cw : zCS (zY μ).cls idx μ' 2) (hdp : Nat.ble (zDp μ' + 1) (zDp μ) = true) (hrm : zMc μ' = 0 ∧ zMs μ' = 0) (hkn : Nat.ble k (zMc μ) = true ∧ Nat.ble n (zMs μ) = true) (hst : Nat.ble (st.map fun v => v.category).sum 8 = true) (hol : ls.all (zoko S.length) = true) (hos : st.all (zokv S.length) = true) (hM : zI μ' ([a1, a2]) S σ R) (kk : ∀ (x : Int32) (t : zSt), R x t → zA Z μ sc k n (pc + 3) ls (.int x :: st) S t) : zA Z μ sc k n pc ls (a2 :: a1 :: st) S σ := by
  refine za_callS (As := [a1, a2]) d cw hdp ⟨by rw [hrm.1]; exact hkn.1, by rw [hrm.2]; exact hkn.2⟩ hst hol hos hM (fun v S' σ' hq _ => ?_)
  rw [hrm.1, hrm.2]
  obtain ⟨x, rfl, rfl, hR⟩ := hq
  exact kk x σ' hR
theorem za_cS2l {μ' : zM} {idx : Nat} {a1 a2 : Value} {R : Int64 → zSt → Prop} (d : decode (zB μ) pc = .ok (.invokestatic idx, 3)) (cw : zCS (zY μ).cls idx μ' 2) (hdp : Nat.ble (zDp μ' + 1) (zDp μ) = true) (hrm : zMc μ' = 0 ∧ zMs μ' = 0) (hkn : Nat.ble k (zMc μ) = true ∧ Nat.ble n (zMs μ) = true) (hst : Nat.ble (st.map fun v => v.category).sum 8 = true) (hol : ls.all (zoko S.length) = true) (hos : st.all (zokv S.length) = true) (hM : zJ μ' ([a1, a2]) S σ R) (kk : ∀ (x : Int64) (t : zSt), R x t → zA Z μ sc k n (pc + 3) ls (.long x :: st) S t) : zA Z μ sc k n pc ls (a2 :: a1 :: st) S σ := by
  refine za_callS (As := [a1, a2]) d cw hdp ⟨by rw [hrm.1]; exact hkn.1, by rw [hrm.2]; exact hkn.2⟩ hst hol hos hM (fun v S' σ' hq _ => ?_)
  rw [hrm.1, hrm.2]
  obtain ⟨x, rfl, rfl, hR⟩ := hq
  exact kk x σ' hR
theorem za_cS2v {μ' : zM} {idx : Nat} {a1 a2 : Value} {R : zSt → Prop} (d : decode (zB μ) pc = .ok (.invokestatic idx, 3)) (cw : zCS (zY μ).cls idx μ' 2) (hdp : Nat.ble (zDp μ' + 1) (zDp μ) = true) (hrm : zMc μ' = 0 ∧ zMs μ' = 0) (hkn : Nat.ble k (zMc μ) = true ∧ Nat.ble n (zMs μ) = true) (hst : Nat.ble (st.map fun v => v.category).sum 8 = true) (hol : ls.all (zoko S.length) = true) (hos : st.all (zokv S.length) = true) (hM : zV μ' ([a1, a2]) S σ R) (kk : ∀ (t : zSt), R t → zA Z μ sc k n (pc + 3) ls st S t) : zA Z μ sc k n pc ls (a2 :: a1 :: st) S σ := by
  refine za_callS (As := [a1, a2]) d cw hdp ⟨by rw [hrm.1]; exact hkn.1, by rw [hrm.2]; exact hkn.2⟩ hst hol hos hM (fun v S' σ' hq _ => ?_)
  rw [hrm.1, hrm.2]
  obtain ⟨rfl, rfl, hR⟩ := hq
  exact kk σ' hR
theorem za_cS2r {μ' : zM} {idx : Nat} {a1 a2 : Value} {R : zSt → Prop} {r : Nat} (d : decode (zB μ) pc = .ok (.invokestatic idx, 3)) (cw : zCS (zY μ).cls idx μ' 2) (hdp : Nat.ble (zDp μ' + 1) (zDp μ) = true) (hrm : zMc μ' = 0 ∧ zMs μ' = 0) (hkn : Nat.ble k (zMc μ) = true ∧ Nat.ble n (zMs μ) = true) (hst : Nat.ble (st.map fun v => v.category).sum 8 = true) (hol : ls.all (zoko S.length) = true) (hos : st.all (zokv S.length) = true) (hM : zO μ' ([a1, a2]) S σ r R) (kk : ∀ (t : zSt), R t → zA Z μ sc k n (pc + 3) ls (.ref r :: st) S t) : zA Z μ sc k n pc ls (a2 :: a1 :: st) S σ := by
  refine za_callS (As := [a1, a2]) d cw hdp ⟨by rw [hrm.1]; exact hkn.1, by rw [hrm.2]; exact hkn.2⟩ hst hol hos hM (fun v S' σ' hq _ => ?_)
  rw [hrm.1, hrm.2]
  obtain ⟨rfl, rfl, hR⟩ := hq
  exact kk σ' hR
theorem za_cS3i {μ' : zM} {idx : Nat} {a1 a2 a3 : Value} {R : Int32 → zSt → Prop} (d : decode (zB μ) pc = .ok (.invokestatic idx, 3)) (cw : zCS (zY μ).cls idx μ' 3) (hdp : Nat.ble (zDp μ' + 1) (zDp μ) = true) (hrm : zMc μ' = 0 ∧ zMs μ' = 0) (hkn : Nat.ble k (zMc μ) = true ∧ Nat.ble n (zMs μ) = true) (hst : Nat.ble (st.map fun v => v.category).sum 8 = true) (hol : ls.all (zoko S.length) = true) (hos : st.all (zokv S.length) = true) (hM : zI μ' ([a1, a2, a3]) S σ R) (kk : ∀ (x : Int32) (t : zSt), R x t → zA Z μ sc k n (pc + 3) ls (.int x :: st) S t) : zA Z μ sc k n pc ls (a3 :: a2 :: a1 :: st) S σ := by
  refine za_callS (As := [a1, a2, a3]) d cw hdp ⟨by rw [hrm.1]; exact hkn.1, by rw [hrm.2]; exact hkn.2⟩ hst hol hos hM (fun v S' σ' hq _ => ?_)
  rw [hrm.1, hrm.2]
  obtain ⟨x, rfl, rfl, hR⟩ := hq
  exact kk x σ' hR
theorem za_cS3l {μ' : zM} {idx : Nat} {a1 a2 a3 : Value} {R : Int64 → zSt → Prop} (d : decode (zB μ) pc = .ok (.invokestatic idx, 3)) (cw : zCS (zY μ).cls idx μ' 3) (hdp : Nat.ble (zDp μ' + 1) (zDp μ) = true) (hrm : zMc μ' = 0 ∧ zMs μ' = 0) (hkn : Nat.ble k (zMc μ) = true ∧ Nat.ble n (zMs μ) = true) (hst : Nat.ble (st.map fun v => v.category).sum 8 = true) (hol : ls.all (zoko S.length) = true) (hos : st.all (zokv S.length) = true) (hM : zJ μ' ([a1, a2, a3]) S σ R) (kk : ∀ (x : Int64) (t : zSt), R x t → zA Z μ sc k n (pc + 3) ls (.long x :: st) S t) : zA Z μ sc k n pc ls (a3 :: a2 :: a1 :: st) S σ := by
  refine za_callS (As := [a1, a2, a3]) d cw hdp ⟨by rw [hrm.1]; exact hkn.1, by rw [hrm.2]; exact hkn.2⟩ hst hol hos hM (fun v S' σ' hq _ => ?_)
  rw [hrm.1, hrm.2]
  obtain ⟨x, rfl, rfl, hR⟩ := hq
  exact kk x σ' hR
theorem za_cS3v {μ' : zM} {idx : Nat} {a1 a2 a3 : Value} {R : zSt → Prop} (d : decode (zB μ) pc = .ok (.invokestatic idx, 3)) (cw : zCS (zY μ).cls idx μ' 3) (hdp : Nat.ble (zDp μ' + 1) (zDp μ) = true) (hrm : zMc μ' = 0 ∧ zMs μ' = 0) (hkn : Nat.ble k (zMc μ) = true ∧ Nat.ble n (zMs μ) = true) (hst : Nat.ble (st.map fun v => v.category).sum 8 = true) (hol : ls.all (zoko S.length) = true) (hos : st.all (zokv S.length) = true) (hM : zV μ' ([a1, a2, a3]) S σ R) (kk : ∀ (t : zSt), R t → zA Z μ sc k n (pc + 3) ls st S t) : zA Z μ sc k n pc ls (a3 :: a2 :: a1 :: st) S σ := by
  refine za_callS (As := [a1, a2, a3]) d cw hdp ⟨by rw [hrm.1]; exact hkn.1, by rw [hrm.2]; exact hkn.2⟩ hst hol hos hM (fun v S' σ' hq _ => ?_)
  rw [hrm.1, hrm.2]
  obtain ⟨rfl, rfl, hR⟩ := hq
  exact kk σ' hR
theorem za_cS3r {μ' : zM} {idx : Nat} {a1 a2 a3 : Value} {R : zSt → Prop} {r : Nat} (d : decode (zB μ) pc = .ok (.invokestatic idx, 3)) (cw : zCS (zY μ).cls idx μ' 3) (hdp : Nat.ble (zDp μ' + 1) (zDp μ) = true) (hrm : zMc μ' = 0 ∧ zMs μ' = 0) (hkn : Nat.ble k (zMc μ) = true ∧ Nat.ble n (zMs μ) = true) (hst : Nat.ble (st.map fun v => v.category).sum 8 = true) (hol : ls.all (zoko S.length) = true) (hos : st.all (zokv S.length) = true) (hM : zO μ' ([a1, a2, a3]) S σ r R) (kk : ∀ (t : zSt), R t → zA Z μ sc k n (pc + 3) ls (.ref r :: st) S t) : zA Z μ sc k n pc ls (a3 :: a2 :: a1 :: st) S σ := by
  refine za_callS (As := [a1, a2, a3]) d cw hdp ⟨by rw [hrm.1]; exact hkn.1, by rw [hrm.2]; exact hkn.2⟩ hst hol hos hM (fun v S' σ' hq _ => ?_)
  rw [hrm.1, hrm.2]
  obtain ⟨rfl, rfl, hR⟩ := hq
  exact kk σ' hR
theorem za_cS4i {μ' : zM} {idx : Nat} {a1 a2 a3 a4 : Value} {R : Int32 → zSt → Prop} (d : decode (zB μ) pc = .ok (.invokestatic idx, 3)) (cw : zCS (zY μ).cls idx μ' 4) (hdp : Nat.ble (zDp μ' + 1) (zDp μ) = true) (hrm : zMc μ' = 0 ∧ zMs μ' = 0) (hkn : Nat.ble k (zMc μ) = true ∧ Nat.ble n (zMs μ) = true) (hst : Nat.ble (st.map fun v => v.category).sum 8 = true) (hol : ls.all (zoko S.length) = true) (hos : st.all (zokv S.length) = true) (hM : zI μ' ([a1, a2, a3, a4]) S σ R) (kk : ∀ (x : Int32) (t : zSt), R x t → zA Z μ sc k n (pc + 3) ls (.int x :: st) S t) : zA Z μ sc k n pc ls (a4 :: a3 :: a2 :: a1 :: st) S σ := by
  refine za_callS (As := [a1, a2, a3, a4]) d cw hdp ⟨by rw [hrm.1]; exact hkn.1, by rw [hrm.2]; exact hkn.2⟩ hst hol hos hM (fun v S' σ' hq _ => ?_)
  rw [hrm.1, hrm.2]
  obtain ⟨x, rfl, rfl, hR⟩ := hq
  exact kk x σ' hR
theorem za_cS4l {μ' : zM} {idx : Nat} {a1 a2 a3 a4 : Value} {R : Int64 → zSt → Prop} (d : decode (zB μ) pc = .ok (.invokestatic idx, 3)) (cw : zCS (zY μ).cls idx μ' 4) (hdp : Nat.ble (zDp μ' + 1) (zDp μ) = true) (hrm : zMc μ' = 0 ∧ zMs μ' = 0) (hkn : Nat.ble k (zMc μ) = true ∧ Nat.ble n (zMs μ) = true) (hst : Nat.ble (st.map fun v => v.category).sum 8 = true) (hol : ls.all (zoko S.length) = true) (hos : st.all (zokv S.length) = true) (hM : zJ μ' ([a1, a2, a3, a4]) S σ R) (kk : ∀ (x : Int64) (t : zSt), R x t → zA Z μ sc k n (pc + 3) ls (.long x :: st) S t) : zA Z μ sc k n pc ls (a4 :: a3 :: a2 :: a1 :: st) S σ := by
  refine za_callS (As := [a1, a2, a3, a4]) d cw hdp ⟨by rw [hrm.1]; exact hkn.1, by rw [hrm.2]; exact hkn.2⟩ hst hol hos hM (fun v S' σ' hq _ => ?_)
  rw [hrm.1, hrm.2]
  obtain ⟨x, rfl, rfl, hR⟩ := hq
  exact kk x σ' hR
theorem za_cS4v {μ' : zM} {idx : Nat} {a1 a2 a3 a4 : Value} {R : zSt → Prop} (d : decode (zB μ) pc = .ok (.invokestatic idx, 3)) (cw : zCS (zY μ).cls idx μ' 4) (hdp : Nat.ble (zDp μ' + 1) (zDp μ) = true) (hrm : zMc μ' = 0 ∧ zMs μ' = 0) (hkn : Nat.ble k (zMc μ) = true ∧ Nat.ble n (zMs μ) = true) (hst : Nat.ble (st.map fun v => v.category).sum 8 = true) (hol : ls.all (zoko S.length) = true) (hos : st.all (zokv S.length) = true) (hM : zV μ' ([a1, a2, a3, a4]) S σ R) (kk : ∀ (t : zSt), R t → zA Z μ sc k n (pc + 3) ls st S t) : zA Z μ sc k n pc ls (a4 :: a3 :: a2 :: a1 :: st) S σ := by
  refine za_callS (As := [a1, a2, a3, a4]) d cw hdp ⟨by rw [hrm.1]; exact hkn.1, by rw [hrm.2]; exact hkn.2⟩ hst hol hos hM (fun v S' σ' hq _ => ?_)
  rw [hrm.1, hrm.2]
  obtain ⟨rfl, rfl, hR⟩ := hq
  exact kk σ' hR
theorem za_cS4r {μ' : zM} {idx : Nat} {a1 a2 a3 a4 : Value} {R : zSt → Prop} {r : Nat} (d : decode (zB μ) pc = .ok (.invokestatic idx, 3)) (cw : zCS (zY μ).cls idx μ' 4) (hdp : Nat.ble (zDp μ' + 1) (zDp μ) = true) (hrm : zMc μ' = 0 ∧ zMs μ' = 0) (hkn : Nat.ble k (zMc μ) = true ∧ Nat.ble n (zMs μ) = true) (hst : Nat.ble (st.map fun v => v.category).sum 8 = true) (hol : ls.all (zoko S.length) = true) (hos : st.all (zokv S.length) = true) (hM : zO μ' ([a1, a2, a3, a4]) S σ r R) (kk : ∀ (t : zSt), R t → zA Z μ sc k n (pc + 3) ls (.ref r :: st) S t) : zA Z μ sc k n pc ls (a4 :: a3 :: a2 :: a1 :: st) S σ := by
  refine za_callS (As := [a1, a2, a3, a4]) d cw hdp ⟨by rw [hrm.1]; exact hkn.1, by rw [hrm.2]; exact hkn.2⟩ hst hol hos hM (fun v S' σ' hq _ => ?_)
  rw [hrm.1, hrm.2]
  obtain ⟨rfl, rfl, hR⟩ := hq
  exact kk σ' hR
theorem za_cS5i {μ' : zM} {idx : Nat} {a1 a2 a3 a4 a5 : Value} {R : Int32 → zSt → Prop} (d : decode (zB μ) pc = .ok (.invokestatic idx, 3)) (cw : zCS (zY μ).cls idx μ' 5) (hdp : Nat.ble (zDp μ' + 1) (zDp μ) = true) (hrm : zMc μ' = 0 ∧ zMs μ' = 0) (hkn : Nat.ble k (zMc μ) = true ∧ Nat.ble n (zMs μ) = true) (hst : Nat.ble (st.map fun v => v.category).sum 8 = true) (hol : ls.all (zoko S.length) = true) (hos : st.all (zokv S.length) = true) (hM : zI μ' ([a1, a2, a3, a4, a5]) S σ R) (kk : ∀ (x : Int32) (t : zSt), R x t → zA Z μ sc k n (pc + 3) ls (.int x :: st) S t) : zA Z μ sc k n pc ls (a5 :: a4 :: a3 :: a2 :: a1 :: st) S σ := by
  refine za_callS (As := [a1, a2, a3, a4, a5]) d cw hdp ⟨by rw [hrm.1]; exact hkn.1, by rw [hrm.2]; exact hkn.2⟩ hst hol hos hM (fun v S' σ' hq _ => ?_)
  rw [hrm.1, hrm.2]
  obtain ⟨x, rfl, rfl, hR⟩ := hq
  exact kk x σ' hR
theorem za_cS5l {μ' : zM} {idx : Nat} {a1 a2 a3 a4 a5 : Value} {R : Int64 → zSt → Prop} (d : decode (zB μ) pc = .ok (.invokestatic idx, 3)) (cw : zCS (zY μ).cls idx μ' 5) (hdp : Nat.ble (zDp μ' + 1) (zDp μ) = true) (hrm : zMc μ' = 0 ∧ zMs μ' = 0) (hkn : Nat.ble k (zMc μ) = true ∧ Nat.ble n (zMs μ) = true) (hst : Nat.ble (st.map fun v => v.category).sum 8 = true) (hol : ls.all (zoko S.length) = true) (hos : st.all (zokv S.length) = true) (hM : zJ μ' ([a1, a2, a3, a4, a5]) S σ R) (kk : ∀ (x : Int64) (t : zSt), R x t → zA Z μ sc k n (pc + 3) ls (.long x :: st) S t) : zA Z μ sc k n pc ls (a5 :: a4 :: a3 :: a2 :: a1 :: st) S σ := by
  refine za_callS (As := [a1, a2, a3, a4, a5]) d cw hdp ⟨by rw [hrm.1]; exact hkn.1, by rw [hrm.2]; exact hkn.2⟩ hst hol hos hM (fun v S' σ' hq _ => ?_)
  rw [hrm.1, hrm.2]
  obtain ⟨x, rfl, rfl, hR⟩ := hq
  exact kk x σ' hR
theorem za_cS5v {μ' : zM} {idx : Nat} {a1 a2 a3 a4 a5 : Value} {R : zSt → Prop} (d : decode (zB μ) pc = .ok (.invokestatic idx, 3)) (cw : zCS (zY μ).cls idx μ' 5) (hdp : Nat.ble (zDp μ' + 1) (zDp μ) = true) (hrm : zMc μ' = 0 ∧ zMs μ' = 0) (hkn : Nat.ble k (zMc μ) = true ∧ Nat.ble n (zMs μ) = true) (hst : Nat.ble (st.map fun v => v.category).sum 8 = true) (hol : ls.all (zoko S.length) = true) (hos : st.all (zokv S.length) = true) (hM : zV μ' ([a1, a2, a3, a4, a5]) S σ R) (kk : ∀ (t : zSt), R t → zA Z μ sc k n (pc + 3) ls st S t) : zA Z μ sc k n pc ls (a5 :: a4 :: a3 :: a2 :: a1 :: st) S σ := by
  refine za_callS (As := [a1, a2, a3, a4, a5]) d cw hdp ⟨by rw [hrm.1]; exact hkn.1, by rw [hrm.2]; exact hkn.2⟩ hst hol hos hM (fun v S' σ' hq _ => ?_)
  rw [hrm.1, hrm.2]
  obtain ⟨rfl, rfl, hR⟩ := hq
  exact kk σ' hR
theorem za_cS5r {μ' : zM} {idx : Nat} {a1 a2 a3 a4 a5 : Value} {R : zSt → Prop} {r : Nat} (d : decode (zB μ) pc = .ok (.invokestatic idx, 3)) (cw : zCS (zY μ).cls idx μ' 5) (hdp : Nat.ble (zDp μ' + 1) (zDp μ) = true) (hrm : zMc μ' = 0 ∧ zMs μ' = 0) (hkn : Nat.ble k (zMc μ) = true ∧ Nat.ble n (zMs μ) = true) (hst : Nat.ble (st.map fun v => v.category).sum 8 = true) (hol : ls.all (zoko S.length) = true) (hos : st.all (zokv S.length) = true) (hM : zO μ' ([a1, a2, a3, a4, a5]) S σ r R) (kk : ∀ (t : zSt), R t → zA Z μ sc k n (pc + 3) ls (.ref r :: st) S t) : zA Z μ sc k n pc ls (a5 :: a4 :: a3 :: a2 :: a1 :: st) S σ := by
  refine za_callS (As := [a1, a2, a3, a4, a5]) d cw hdp ⟨by rw [hrm.1]; exact hkn.1, by rw [hrm.2]; exact hkn.2⟩ hst hol hos hM (fun v S' σ' hq _ => ?_)
  rw [hrm.1, hrm.2]
  obtain ⟨rfl, rfl, hR⟩ := hq
  exact kk σ' hR
theorem za_cSN1i {μ' : zM} {idx : Nat} {a1 : Value} {R : Int32 → zSt → Prop} (d : decode (zB μ) pc = .ok (.invokestatic idx, 3)) (cw : zCSN (zY μ).cls idx μ' 1) (hdp : Nat.ble (zDp μ' + 1) (zDp μ) = true) (hrm : zMc μ' = 0 ∧ zMs μ' = 0) (hkn : Nat.ble k (zMc μ) = true ∧ Nat.ble n (zMs μ) = true) (hst : Nat.ble (st.map fun v => v.category).sum 8 = true) (hol : ls.all (zoko S.length) = true) (hos : st.all (zokv S.length) = true) (hM : zI μ' ([a1]) S σ R) (kk : ∀ (x : Int32) (t : zSt), R x t → zA Z μ sc k n (pc + 3) ls (.int x :: st) S t) : zA Z μ sc k n pc ls (a1 :: st) S σ := by
  refine za_callSN (As := [a1]) d cw hdp ⟨by rw [hrm.1]; exact hkn.1, by rw [hrm.2]; exact hkn.2⟩ hst hol hos hM (fun v S' σ' hq _ => ?_)
  rw [hrm.1, hrm.2]
  obtain ⟨x, rfl, rfl, hR⟩ := hq
  exact kk x σ' hR
theorem za_cSN1l {μ' : zM} {idx : Nat} {a1 : Value} {R : Int64 → zSt → Prop} (d : decode (zB μ) pc = .ok (.invokestatic idx, 3)) (cw : zCSN (zY μ).cls idx μ' 1) (hdp : Nat.ble (zDp μ' + 1) (zDp μ) = true) (hrm : zMc μ' = 0 ∧ zMs μ' = 0) (hkn : Nat.ble k (zMc μ) = true ∧ Nat.ble n (zMs μ) = true) (hst : Nat.ble (st.map fun v => v.category).sum 8 = true) (hol : ls.all (zoko S.length) = true) (hos : st.all (zokv S.length) = true) (hM : zJ μ' ([a1]) S σ R) (kk : ∀ (x : Int64) (t : zSt), R x t → zA Z μ sc k n (pc + 3) ls (.long x :: st) S t) : zA Z μ sc k n pc ls (a1 :: st) S σ := by
  refine za_callSN (As := [a1]) d cw hdp ⟨by rw [hrm.1]; exact hkn.1, by rw [hrm.2]; exact hkn.2⟩ hst hol hos hM (fun v S' σ' hq _ => ?_)
  rw [hrm.1, hrm.2]
  obtain ⟨x, rfl, rfl, hR⟩ := hq
  exact kk x σ' hR
theorem za_cSN1v {μ' : zM} {idx : Nat} {a1 : Value} {R : zSt → Prop} (d : decode (zB μ) pc = .ok (.invokestatic idx, 3)) (cw : zCSN (zY μ).cls idx μ' 1) (hdp : Nat.ble (zDp μ' + 1) (zDp μ) = true) (hrm : zMc μ' = 0 ∧ zMs μ' = 0) (hkn : Nat.ble k (zMc μ) = true ∧ Nat.ble n (zMs μ) = true) (hst : Nat.ble (st.map fun v => v.category).sum 8 = true) (hol : ls.all (zoko S.length) = true) (hos : st.all (zokv S.length) = true) (hM : zV μ' ([a1]) S σ R) (kk : ∀ (t : zSt), R t → zA Z μ sc k n (pc + 3) ls st S t) : zA Z μ sc k n pc ls (a1 :: st) S σ := by
  refine za_callSN (As := [a1]) d cw hdp ⟨by rw [hrm.1]; exact hkn.1, by rw [hrm.2]; exact hkn.2⟩ hst hol hos hM (fun v S' σ' hq _ => ?_)
  rw [hrm.1, hrm.2]
  obtain ⟨rfl, rfl, hR⟩ := hq
  exact kk σ' hR
theorem za_cSN1r {μ' : zM} {idx : Nat} {a1 : Value} {R : zSt → Prop} {r : Nat} (d : decode (zB μ) pc = .ok (.invokestatic idx, 3)) (cw : zCSN (zY μ).cls idx μ' 1) (hdp : Nat.ble (zDp μ' + 1) (zDp μ) = true) (hrm : zMc μ' = 0 ∧ zMs μ' = 0) (hkn : Nat.ble k (zMc μ) = true ∧ Nat.ble n (zMs μ) = true) (hst : Nat.ble (st.map fun v => v.category).sum 8 = true) (hol : ls.all (zoko S.length) = true) (hos : st.all (zokv S.length) = true) (hM : zO μ' ([a1]) S σ r R) (kk : ∀ (t : zSt), R t → zA Z μ sc k n (pc + 3) ls (.ref r :: st) S t) : zA Z μ sc k n pc ls (a1 :: st) S σ := by
  refine za_callSN (As := [a1]) d cw hdp ⟨by rw [hrm.1]; exact hkn.1, by rw [hrm.2]; exact hkn.2⟩ hst hol hos hM (fun v S' σ' hq _ => ?_)
  rw [hrm.1, hrm.2]
  obtain ⟨rfl, rfl, hR⟩ := hq
  exact kk σ' hR
theorem za_cSN2i {μ' : zM} {idx : Nat} {a1 a2 : Value} {R : Int32 → zSt → Prop} (d : decode (zB μ) pc = .ok (.invokestatic idx, 3)) (cw : zCSN (zY μ).cls idx μ' 2) (hdp : Nat.ble (zDp μ' + 1) (zDp μ) = true) (hrm : zMc μ' = 0 ∧ zMs μ' = 0) (hkn : Nat.ble k (zMc μ) = true ∧ Nat.ble n (zMs μ) = true) (hst : Nat.ble (st.map fun v => v.category).sum 8 = true) (hol : ls.all (zoko S.length) = true) (hos : st.all (zokv S.length) = true) (hM : zI μ' ([a1, a2]) S σ R) (kk : ∀ (x : Int32) (t : zSt), R x t → zA Z μ sc k n (pc + 3) ls (.int x :: st) S t) : zA Z μ sc k n pc ls (a2 :: a1 :: st) S σ := by
  refine za_callSN (As := [a1, a2]) d cw hdp ⟨by rw [hrm.1]; exact hkn.1, by rw [hrm.2]; exact hkn.2⟩ hst hol hos hM (fun v S' σ' hq _ => ?_)
  rw [hrm.1, hrm.2]
  obtain ⟨x, rfl, rfl, hR⟩ := hq
  exact kk x σ' hR
theorem za_cSN2l {μ' : zM} {idx : Nat} {a1 a2 : Value} {R : Int64 → zSt → Prop} (d : decode (zB μ) pc = .ok (.invokestatic idx, 3)) (cw : zCSN (zY μ).cls idx μ' 2) (hdp : Nat.ble (zDp μ' + 1) (zDp μ) = true) (hrm : zMc μ' = 0 ∧ zMs μ' = 0) (hkn : Nat.ble k (zMc μ) = true ∧ Nat.ble n (zMs μ) = true) (hst : Nat.ble (st.map fun v => v.category).sum 8 = true) (hol : ls.all (zoko S.length) = true) (hos : st.all (zokv S.length) = true) (hM : zJ μ' ([a1, a2]) S σ R) (kk : ∀ (x : Int64) (t : zSt), R x t → zA Z μ sc k n (pc + 3) ls (.long x :: st) S t) : zA Z μ sc k n pc ls (a2 :: a1 :: st) S σ := by
  refine za_callSN (As := [a1, a2]) d cw hdp ⟨by rw [hrm.1]; exact hkn.1, by rw [hrm.2]; exact hkn.2⟩ hst hol hos hM (fun v S' σ' hq _ => ?_)
  rw [hrm.1, hrm.2]
  obtain ⟨x, rfl, rfl, hR⟩ := hq
  exact kk x σ' hR
theorem za_cSN2v {μ' : zM} {idx : Nat} {a1 a2 : Value} {R : zSt → Prop} (d : decode (zB μ) pc = .ok (.invokestatic idx, 3)) (cw : zCSN (zY μ).cls idx μ' 2) (hdp : Nat.ble (zDp μ' + 1) (zDp μ) = true) (hrm : zMc μ' = 0 ∧ zMs μ' = 0) (hkn : Nat.ble k (zMc μ) = true ∧ Nat.ble n (zMs μ) = true) (hst : Nat.ble (st.map fun v => v.category).sum 8 = true) (hol : ls.all (zoko S.length) = true) (hos : st.all (zokv S.length) = true) (hM : zV μ' ([a1, a2]) S σ R) (kk : ∀ (t : zSt), R t → zA Z μ sc k n (pc + 3) ls st S t) : zA Z μ sc k n pc ls (a2 :: a1 :: st) S σ := by
  refine za_callSN (As := [a1, a2]) d cw hdp ⟨by rw [hrm.1]; exact hkn.1, by rw [hrm.2]; exact hkn.2⟩ hst hol hos hM (fun v S' σ' hq _ => ?_)
  rw [hrm.1, hrm.2]
  obtain ⟨rfl, rfl, hR⟩ := hq
  exact kk σ' hR
theorem za_cSN2r {μ' : zM} {idx : Nat} {a1 a2 : Value} {R : zSt → Prop} {r : Nat} (d : decode (zB μ) pc = .ok (.invokestatic idx, 3)) (cw : zCSN (zY μ).cls idx μ' 2) (hdp : Nat.ble (zDp μ' + 1) (zDp μ) = true) (hrm : zMc μ' = 0 ∧ zMs μ' = 0) (hkn : Nat.ble k (zMc μ) = true ∧ Nat.ble n (zMs μ) = true) (hst : Nat.ble (st.map fun v => v.category).sum 8 = true) (hol : ls.all (zoko S.length) = true) (hos : st.all (zokv S.length) = true) (hM : zO μ' ([a1, a2]) S σ r R) (kk : ∀ (t : zSt), R t → zA Z μ sc k n (pc + 3) ls (.ref r :: st) S t) : zA Z μ sc k n pc ls (a2 :: a1 :: st) S σ := by
  refine za_callSN (As := [a1, a2]) d cw hdp ⟨by rw [hrm.1]; exact hkn.1, by rw [hrm.2]; exact hkn.2⟩ hst hol hos hM (fun v S' σ' hq _ => ?_)
  rw [hrm.1, hrm.2]
  obtain ⟨rfl, rfl, hR⟩ := hq
  exact kk σ' hR
end ZA
/-- the shape of the heap once both objects are made -/
def SH : List zSh := [.inr (.inr (6, [some (some 1), some (some 2), some (some 10), some (some 15), some (some 22), some (some 32)])), .inr (.inl [some 35, some 37, some 39, some 41, some 43, some 45]), .inr (.inr (5, [some (some 3), some (some 4), some (some 5), some (some 6), some (some 7), none, none, none, some (some 8), some (some 9)])), .inl 10, .inl 11, .inl 11, .inl 11, .inl 10, .inl 20, .inl 20, .inr (.inr (2, [some (some 11), some (some 12), some (some 13), some (some 14), none, some (some 2), none])), .inl 10, .inl 10, .inl 10, .inl 10, .inr (.inr (1, [some (some 16), some (some 17), some (some 18), some (some 19), none, some (some 2), some (some 10), some (some 20), some (some 21), none])), .inl 10, .inl 10, .inl 11, .inl 11, .inl 11, .inl 10, .inr (.inr (0, [some (some 23), some (some 24), none, some (some 2), some (some 10), some (some 25), some (some 26), some (some 27), some (some 28), some (some 29), none, some (some 30), some (some 31), none])), .inl 61, .inl 10, .inl 55, .inl 55, .inl 55, .inl 55, .inl 55, .inl 1024, .inl 1024, .inr (.inr (3, [some (some 2), some (some 33), some (some 34), none])), .inl 10, .inl 10, .inr (.inr (4, [some (some 36), none, none])), .inl 16, .inr (.inr (4, [some (some 38), none, none])), .inl 16, .inr (.inr (4, [some (some 40), none, none])), .inl 16, .inr (.inr (4, [some (some 42), none, none])), .inl 16, .inr (.inr (4, [some (some 44), none, none])), .inl 16, .inr (.inr (4, [some (some 46), none, none])), .inl 16, .inr (.inr (7, [some (some 48), some (some 49), some (some 50), none, some (some 51), some (some 52), some (some 53), some (some 54), some (some 55), none, some (some 56), none, some (some 57), some (some 58), none, some (some 59), some (some 60), some (some 61), some (some 62), none, some (some 63), some (some 64), some (some 65), some (some 66), some (some 67), none, none, none])), .inl 6, .inl 6, .inl 96, .inl 10, .inl 10, .inl 10, .inl 10, .inl 10, .inl 1020, .inl 10, .inl 16, .inl 10, .inl 10, .inl 10, .inl 10, .inl 10, .inl 1024, .inl 62464, .inl 61, .inl 10]
