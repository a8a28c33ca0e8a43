/-! a bound of all PAIRS by the blocks of THE DAY -/
section POT
variable {n : Nat} {r : Nat → Nat → Bool}
theorem cnt_mono {p q : Nat → Bool} : ∀ {k : Nat}, (∀ i, i < k → p i = true → q i = true) → cnt p k ≤ cnt q k
  | 0, _ => Nat.le_refl _
  | k + 1, h => by
    have h1 := cnt_mono (k := k) (fun i hi => h i (by omega))
    show cnt p k + (if p k = true then 1 else 0) ≤ cnt q k + (if q k = true then 1 else 0)
    by_cases hp : p k = true
    · rw [if_pos hp, if_pos (h k (by omega) hp)]; omega
    · rw [if_neg hp]; omega
theorem cnt_del {p : Nat → Bool} {a k : Nat} (ha : a < k) (hp : p a = true) : cnt (rmv p a) k + 1 = cnt p k := by
  have e : cnt p k = cnt (fun x => rmv p a x || decide (x = a)) k := cnt_cong (fun x _ => by
    unfold rmv
    by_cases h : x = a
    · rw [h, hp]; simp
    · simp [h])
  rw [e, cnt_or _ (fun x _ q => by
    have := of_decide_eq_true q.2
    rw [this] at q
    simp [rmv] at q), cnt_one (p := fun x => decide (x = a)) (a := a) (fun x => by simp), if_pos ha]
theorem lfa_in {h x : Nat} (hx : lfa n r h x = true) : x < n := (lfs_in hx).1
theorem lfa_sub {h t x : Nat} (ht : h ≤ t) (hx : lfa n r t x = true) : lfa n r h x = true := lfs_le2 (d := t - h) (by rw [show h + (t - h) = t by omega]; exact hx)
abbrev lnA (n : Nat) (r : Nat → Nat → Bool) : Nat := lenD n r (lba n r) (alln n)
theorem fst_at (ho : Ord n r) {h : Nat} (hh : h < lnA n r) : ∃ a, fstD n r (lba n r) (lfa n r h) = some a ∧ lfa n r h a = true := by
  obtain ⟨x, hx, hx1⟩ := anyb_iff.mp ((lenD_iff (lab := lba n r) (s := alln n) (h := h) ho).mpr hh)
  obtain ⟨a, ha1, ha2, -⟩ := fst_ex (lab := lba n r) (left := lfa n r h) ho (fun x hx => lfa_in hx) hx1
  exact ⟨a, ha1, ha2⟩
theorem snd_at {h a q : Nat} (hf : fstD n r (lba n r) (lfa n r h) = some a) (hs : sndD n r (lba n r) (lfa n r h) = some q) : lfa n r h q = true ∧ q ≠ a := by
  have := (grt_some (show grt r (lba n r) (rmo (lfa n r h) (fstD n r (lba n r) (lfa n r h))) (lfa n r h) n = some q from hs)).2.1
  rw [hf] at this
  simp only [Bool.and_eq_true, rmo, rmv] at this
  exact ⟨this.1.1, by simpa using this.1.2⟩
/-- who leaves in hour h -/
theorem lfa_go {h a z : Nat} (hf : fstD n r (lba n r) (lfa n r h) = some a) (hz : lfa n r h z = true) : lfa n r (h + 1) z = true ∨ z = a ∨ sndD n r (lba n r) (lfa n r h) = some z := by
  by_cases h1 : z = a
  · exact Or.inr (Or.inl h1)
  · by_cases h2 : sndD n r (lba n r) (lfa n r h) = some z
    · exact Or.inr (Or.inr h2)
    · exact Or.inl (lfa_stay hf hz h1 (fun w hs e => h2 (by rw [hs, e])))
theorem lfa_snd {h q : Nat} (hs : sndD n r (lba n r) (lfa n r h) = some q) : lfa n r (h + 1) q = false := by
  show rmo (rmo (lfa n r h) (fstD n r (lba n r) (lfa n r h))) (sndD n r (lba n r) (lfa n r h)) q = false
  rw [hs]
  simp [rmo, rmv]
theorem lfa_cnt0 {h a : Nat} (hf : fstD n r (lba n r) (lfa n r h) = some a) (ha : lfa n r h a = true) (hs : sndD n r (lba n r) (lfa n r h) = none) : cnt (lfa n r (h + 1)) n + 1 = cnt (lfa n r h) n := by
  have e : lfa n r (h + 1) = rmv (lfa n r h) a := by
    show rmo (rmo (lfa n r h) (fstD n r (lba n r) (lfa n r h))) (sndD n r (lba n r) (lfa n r h)) = _
    rw [hs, hf]; rfl
  rw [e]
  exact cnt_del (lfa_in ha) ha
theorem lfa_cnt2 {h a q : Nat} (hf : fstD n r (lba n r) (lfa n r h) = some a) (ha : lfa n r h a = true) (hs : sndD n r (lba n r) (lfa n r h) = some q) : cnt (lfa n r (h + 1)) n + 2 = cnt (lfa n r h) n := by
  obtain ⟨hq, hne⟩ := snd_at hf hs
  have e : lfa n r (h + 1) = rmv (rmv (lfa n r h) a) q := by
    show rmo (rmo (lfa n r h) (fstD n r (lba n r) (lfa n r h))) (sndD n r (lba n r) (lfa n r h)) = _
    rw [hs, hf]; rfl
  rw [e]
  have h1 := cnt_del (p := rmv (lfa n r h) a) (lfa_in hq) (by unfold rmv; rw [hq]; simp [hne])
  have h2 := cnt_del (lfa_in ha) ha
  omega
def Pot (n : Nat) (r : Nat → Nat → Bool) (h : Nat) (cl : (Nat → Bool) → Nat) (C w : Nat → Bool) (V t lv m : Nat) : Prop :=
  t < lnA n r ∧ h ≤ t ∧ fstD n r (lba n r) (lfa n r t) = some V ∧
  (∀ z, lfa n r h z = true → lfa n r t z = false → lba n r V ≤ lba n r z) ∧
  (∀ z, lfa n r h z = true → lba n r V ≤ lba n r z ∨ C z = true ∨ w z = true) ∧
  (∀ q, sndD n r (lba n r) (lfa n r t) = some q → lba n r q < lv) ∧
  (∀ b, C b = true → b < n ∧ ∃ p, lfa n r (t + 1) p = true ∧ lv ≤ lba n r p ∧ (p = b ∨ r b p = true)) ∧
  (∀ S S' : Nat → Bool, (∀ x, S x = true → S' x = true) → cl S ≤ cl S') ∧
  (∀ (S : Nat → Bool) a b, a ≠ b → S a = true → S b = true → C a = true → C b = true → r a b = false → r b a = false → cl (rmv (rmv S a) b) + 1 ≤ cl S) ∧
  (∀ z, w z = true → lfa n r h z = true) ∧
  cnt (fun x => lfa n r h x && decide (lba n r V ≤ lba n r x)) n = 2 * m + 1 ∧
  cl (fun _ => true) + m + cnt w n + (lnA n r - h) = cnt (lfa n r h) n
/-- the block's last is alone with its label -/
theorem blk_one (ho : Ord n r) (hn : n ≤ 10) {h V : Nat} (hf : fstD n r (lba n r) (lfa n r h) = some V) (hV : lfa n r h V = true) : cnt (fun x => lfa n r h x && decide (lba n r V ≤ lba n r x)) n = 1 := by
  rw [show cnt (fun x => lfa n r h x && decide (lba n r V ≤ lba n r x)) n = cnt (fun x => decide (x = V)) n from cnt_cong (fun x hx => by
    by_cases e : x = V
    · rw [e, hV]; simp
    · cases hh : lfa n r h x with
      | false => simp [e]
      | true =>
        have h1 := fst_max ho hn (fun x hx => lfa_in hx) hf _ x (Nat.le_refl _) hh
        have h2 : lba n r x ≠ lba n r V := fun q => e (lba_inj ho hx q)
        have : ¬ lba n r V ≤ lba n r x := by omega
        simp [e, this])]
  rw [cnt_one (p := fun x => decide (x = V)) (a := V) (fun x => by simp), if_pos (lfa_in hV)]
theorem cnt_opt {o : Option Nat} : cnt (fun x => decide (o = some x)) n = (match o with | none => 0 | some q => if q < n then 1 else 0) := by
  cases o with
  | none =>
    have : ∀ k, cnt (fun x => decide ((none : Option Nat) = some x)) k = 0 := fun k => by
      induction k with
      | zero => rfl
      | succ k ih => exact (cnt_f (by simp)).trans ih
    exact this n
  | some q =>
    rw [cnt_one (p := fun x => decide (some q = some x)) (a := q) (fun x => by simp [eq_comm])]
theorem cnt_ff : ∀ k, cnt (fun _ => false) k = 0 := fun k => by
  induction k with
  | zero => rfl
  | succ k ih => exact (cnt_f rfl).trans ih
theorem lfa_end (ho : Ord n r) {h : Nat} (hh : lnA n r ≤ h) (z : Nat) : lfa n r h z = false := by
  cases hz : lfa n r h z with
  | false => rfl
  | true =>
    have := (lenD_iff (lab := lba n r) (s := alln n) (h := h) ho).mp (anyb_iff.mpr ⟨z, lfa_in hz, hz⟩)
    have : h < lnA n r := this
    omega
theorem pot_base (ho : Ord n r) (hn : n ≤ 10) {h : Nat} (hh : h + 1 = lnA n r) : ∃ cl C w V t lv m, Pot n r h cl C w V t lv m := by
  obtain ⟨V, hf, hV⟩ := fst_at ho (h := h) (by omega)
  have hend : ∀ z, lfa n r (h + 1) z = false := lfa_end ho (by omega)
  refine ⟨fun _ => 0, fun _ => false, fun x => decide (sndD n r (lba n r) (lfa n r h) = some x), V, h, 17, 0, ?_⟩
  unfold Pot
  refine ⟨by omega, Nat.le_refl h, hf, ?_, ?_, ?_, ?_, ?_, ?_, ?_, ?_, ?_⟩
  · intro z h1 h2
    rw [h1] at h2; cases h2
  · intro z hz
    rcases lfa_go hf hz with q | q | q
    · rw [hend z] at q; cases q
    · exact Or.inl (by rw [q]; exact Nat.le_refl _)
    · exact Or.inr (Or.inr (decide_eq_true q))
  · intro q _
    have := lba_le ho (n := n) (r := r) q
    omega
  · intro b hb
    cases hb
  · intro _ _ _
    exact Nat.le_refl _
  · intro _ a b _ _ _ hb
    cases hb
  · intro z hz
    exact (snd_at hf (of_decide_eq_true hz)).1
  · rw [blk_one ho hn hf hV]
  · have h0 : cnt (lfa n r (h + 1)) n = 0 := by
      have e : cnt (lfa n r (h + 1)) n = cnt (fun _ => false) n := cnt_cong (fun x _ => hend x)
      rw [e]
      exact cnt_ff n
    rw [cnt_opt]
    cases hs : sndD n r (lba n r) (lfa n r h) with
    | none =>
      have := lfa_cnt0 hf hV hs
      simp only
      omega
    | some q =>
      have := lfa_cnt2 hf hV hs
      have hq := lfa_in (snd_at hf hs).1
      simp only
      rw [if_pos hq]
      omega
theorem fst_in {h V : Nat} (hf : fstD n r (lba n r) (lfa n r h) = some V) : lfa n r h V = true := by
  have := (grt_some (show grt r (lba n r) (lfa n r h) (lfa n r h) n = some V from hf)).2.1
  simp only [Bool.and_eq_true] at this
  exact this.1
theorem bool4 : ∀ l d a b : Bool, (((l && !a) && !b) && d) = (((l && d) && !a) && !b) := by decide
theorem pot_grow (ho : Ord n r) (hn : n ≤ 10) {h q : Nat} {cl : (Nat → Bool) → Nat} {C w : Nat → Bool} {V t lv m : Nat} (hp : Pot n r (h + 1) cl C w V t lv m) (hs : sndD n r (lba n r) (lfa n r h) = some q) (hq : lba n r V ≤ lba n r q) : Pot n r h cl C w V t lv (m + 1) := by
  unfold Pot at hp ⊢
  obtain ⟨p1, p2, p3, p4, p5, p6, p7, p8, p9, p10, p11, p12⟩ := hp
  obtain ⟨A, hf, hA⟩ := fst_at ho (h := h) (by omega)
  have hAV : lba n r V ≤ lba n r A := fst_max ho hn (fun x hx => lfa_in hx) hf _ V (Nat.le_refl _) (lfa_sub (by omega) (fst_in p3))
  obtain ⟨hq1, hq2⟩ := snd_at hf hs
  have hc := lfa_cnt2 hf hA hs
  refine ⟨p1, by omega, p3, ?_, ?_, p6, p7, p8, p9, fun z hz => lfa_sub (Nat.le_succ h) (p10 z hz), ?_, by omega⟩
  · intro z h1 h2
    rcases lfa_go hf h1 with e | e | e
    · exact p4 z e h2
    · rw [e]; exact hAV
    · rw [hs] at e
      rw [← Option.some.inj e]; exact hq
  · intro z hz
    rcases lfa_go hf hz with e | e | e
    · exact p5 z e
    · exact Or.inl (by rw [e]; exact hAV)
    · rw [hs] at e
      exact Or.inl (by rw [← Option.some.inj e]; exact hq)
  · have e1 : lfa n r (h + 1) = rmv (rmv (lfa n r h) A) q := by
      show rmo (rmo (lfa n r h) (fstD n r (lba n r) (lfa n r h))) (sndD n r (lba n r) (lfa n r h)) = _
      rw [hs, hf]; rfl
    have e2 : cnt (fun x => lfa n r (h + 1) x && decide (lba n r V ≤ lba n r x)) n = cnt (rmv (rmv (fun x => lfa n r h x && decide (lba n r V ≤ lba n r x)) A) q) n := cnt_cong (fun x _ => by
      rw [e1]
      exact bool4 _ _ _ _)
    have h1 := cnt_del (p := rmv (fun x => lfa n r h x && decide (lba n r V ≤ lba n r x)) A) (lfa_in hq1) (by
      unfold rmv
      simp only [hq1, hq, hq2, decide_true, Bool.and_self, ne_eq, not_false_eq_true, decide_not, decide_false, Bool.not_false])
    have h2 := cnt_del (p := fun x => lfa n r h x && decide (lba n r V ≤ lba n r x)) (lfa_in hA) (by simp only [hA, hAV, decide_true, Bool.and_self])
    rw [e2] at p11
    omega
/-- one of a closed block is BEHIND all of the present block -/
theorem pot_cross (ho : Ord n r) (hn : n ≤ 10) {h : Nat} {cl : (Nat → Bool) → Nat} {C w : Nat → Bool} {V t lv m : Nat} (hp : Pot n r h cl C w V t lv m) {a b : Nat} (ha : C a = true) (hb : lfa n r h b = true) (hV : lba n r V ≤ lba n r b) : r a b = true := by
  unfold Pot at hp
  obtain ⟨p1, p2, p3, p4, p5, p6, p7, p8, p9, p10, p11, p12⟩ := hp
  obtain ⟨han, p, h1, h2, h3⟩ := p7 a ha
  have hpb := blk2 ho hn p3 p6 p2 p4 _ b p (Nat.le_refl _) hb hV h1 h2
  rcases h3 with e | e
  · rw [← e]; exact hpb
  · exact ho.2.2 a p b han (lfa_in h1) e hpb
theorem rmv_sub {S : Nat → Bool} {a b x : Nat} (h : rmv (rmv S a) b x = true) : S x = true := by
  unfold rmv at h
  simp only [Bool.and_eq_true] at h
  exact h.1.1
/-- two of a set are taken out -/
theorem cnt_two {S B : Nat → Bool} {a b : Nat} (hab : a ≠ b) (ha : a < n) (hb : b < n) (h1 : S a = true) (h2 : S b = true) (h3 : B a = true) (h4 : B b = true) : cnt (fun x => rmv (rmv S a) b x && B x) n + 2 = cnt (fun x => S x && B x) n := by
  have e2 : cnt (fun x => rmv (rmv S a) b x && B x) n = cnt (rmv (rmv (fun x => S x && B x) a) b) n := cnt_cong (fun x _ => bool4 _ _ _ _)
  have k1 := cnt_del (p := rmv (fun x => S x && B x) a) hb (by
    unfold rmv
    simp [h2, h4, Ne.symm hab])
  have k2 := cnt_del (p := fun x => S x && B x) ha (by rw [h1, h3]; rfl)
  rw [e2]
  omega
theorem cnt_and_mono {S S' B : Nat → Bool} (h : ∀ x, S x = true → S' x = true) : cnt (fun x => S x && B x) n ≤ cnt (fun x => S' x && B x) n := cnt_mono (fun i _ q => by
  rw [Bool.and_eq_true] at q
  rw [Bool.and_eq_true]
  exact ⟨h i q.1, q.2⟩)
theorem pot_close (ho : Ord n r) (hn : n ≤ 10) {h : Nat} {cl : (Nat → Bool) → Nat} {C w : Nat → Bool} {V t lv m : Nat} (hp : Pot n r (h + 1) cl C w V t lv m) (hs : ∀ q, sndD n r (lba n r) (lfa n r h) = some q → lba n r q < lba n r V) : ∃ cl C w V t lv m, Pot n r h cl C w V t lv m := by
  have hp0 := hp
  unfold Pot at hp
  obtain ⟨p1, p2, p3, p4, p5, p6, p7, p8, p9, p10, p11, p12⟩ := hp
  obtain ⟨A, hf, hA⟩ := fst_at ho (h := h) (by omega)
  have hVt := fst_in p3
  refine ⟨fun S => cl S + cnt (fun x => S x && (lfa n r (h + 1) x && decide (lba n r V ≤ lba n r x))) n / 2, fun x => C x || (lfa n r (h + 1) x && decide (lba n r V ≤ lba n r x)), fun x => w x || decide (sndD n r (lba n r) (lfa n r h) = some x), A, h, lba n r V, 0, ?_⟩
  unfold Pot
  refine ⟨by omega, Nat.le_refl h, hf, ?_, ?_, hs, ?_, ?_, ?_, ?_, ?_, ?_⟩
  · intro z h1 h2
    rw [h1] at h2; cases h2
  · intro z hz
    rcases lfa_go hf hz with e | e | e
    · rcases p5 z e with q | q | q
      · refine Or.inr (Or.inl ?_)
        show (C z || (lfa n r (h + 1) z && decide (lba n r V ≤ lba n r z))) = true
        rw [e, decide_eq_true q]
        simp
      · refine Or.inr (Or.inl ?_)
        show (C z || (lfa n r (h + 1) z && decide (lba n r V ≤ lba n r z))) = true
        rw [q]
        rfl
      · refine Or.inr (Or.inr ?_)
        show (w z || decide (sndD n r (lba n r) (lfa n r h) = some z)) = true
        rw [q]
        rfl
    · exact Or.inl (by rw [e]; exact Nat.le_refl _)
    · refine Or.inr (Or.inr ?_)
      show (w z || decide (sndD n r (lba n r) (lfa n r h) = some z)) = true
      rw [decide_eq_true e]
      simp
  · intro b hb
    rw [Bool.or_eq_true, Bool.and_eq_true, decide_eq_true_eq] at hb
    rcases hb with hb | hb
    · obtain ⟨hbn, p, h1, h2, h3⟩ := p7 b hb
      have hpV := blk1 ho hn p3 p6 _ p (Nat.le_refl _) h1 h2
      refine ⟨hbn, V, lfa_sub p2 hVt, Nat.le_refl _, Or.inr ?_⟩
      rcases h3 with e | e
      · rw [← e]; exact hpV
      · exact ho.2.2 b p V hbn (lfa_in h1) e hpV
    · exact ⟨lfa_in hb.1, b, hb.1, hb.2, Or.inl rfl⟩
  · intro S S' hS
    have h1 := p8 S S' hS
    have h2 := cnt_and_mono (n := n) (B := fun x => lfa n r (h + 1) x && decide (lba n r V ≤ lba n r x)) hS
    have h3 := Nat.div_le_div_right (c := 2) h2
    exact Nat.add_le_add h1 h3
  · intro S a b hab ha hb hCa hCb hr1 hr2
    rw [Bool.or_eq_true, Bool.and_eq_true, decide_eq_true_eq] at hCa hCb
    have m1 := p8 (rmv (rmv S a) b) S (fun x hx => rmv_sub hx)
    have m2 := cnt_and_mono (n := n) (S := rmv (rmv S a) b) (S' := S) (B := fun x => lfa n r (h + 1) x && decide (lba n r V ≤ lba n r x)) (fun x hx => rmv_sub hx)
    show cl (rmv (rmv S a) b) + cnt (fun x => rmv (rmv S a) b x && (lfa n r (h + 1) x && decide (lba n r V ≤ lba n r x))) n / 2 + 1 ≤ cl S + cnt (fun x => S x && (lfa n r (h + 1) x && decide (lba n r V ≤ lba n r x))) n / 2
    rcases hCa with ca | ca
    · rcases hCb with cb | cb
      · have := p9 S a b hab ha hb ca cb hr1 hr2
        have := Nat.div_le_div_right (c := 2) m2
        omega
      · have := pot_cross ho hn hp0 ca cb.1 cb.2
        rw [this] at hr1; cases hr1
    · rcases hCb with cb | cb
      · have := pot_cross ho hn hp0 cb ca.1 ca.2
        rw [this] at hr2; cases hr2
      · have := cnt_two (n := n) (S := S) (B := fun x => lfa n r (h + 1) x && decide (lba n r V ≤ lba n r x)) hab (lfa_in ca.1) (lfa_in cb.1) ha hb (by rw [ca.1, decide_eq_true ca.2]; rfl) (by rw [cb.1, decide_eq_true cb.2]; rfl)
        omega
  · intro z hz
    rw [Bool.or_eq_true, decide_eq_true_eq] at hz
    rcases hz with q | q
    · exact lfa_sub (Nat.le_succ h) (p10 z q)
    · exact (snd_at hf q).1
  · rw [blk_one ho hn hf hA]
  · have e0 : cnt (fun x => true && (lfa n r (h + 1) x && decide (lba n r V ≤ lba n r x))) n = 2 * m + 1 := p11
    have e1 : cnt (fun x => w x || decide (sndD n r (lba n r) (lfa n r h) = some x)) n = cnt w n + cnt (fun x => decide (sndD n r (lba n r) (lfa n r h) = some x)) n := cnt_or _ (fun x _ q => by
      have h1 := p10 x q.1
      rw [lfa_snd (of_decide_eq_true q.2)] at h1
      cases h1)
    show cl (fun _ => true) + cnt (fun x => true && (lfa n r (h + 1) x && decide (lba n r V ≤ lba n r x))) n / 2 + 0 + cnt (fun x => w x || decide (sndD n r (lba n r) (lfa n r h) = some x)) n + (lnA n r - h) = cnt (lfa n r h) n
    rw [e0, e1, cnt_opt]
    cases hs : sndD n r (lba n r) (lfa n r h) with
    | none =>
      have := lfa_cnt0 hf hA hs
      simp only
      omega
    | some q =>
      have := lfa_cnt2 hf hA hs
      have hq := lfa_in (snd_at hf hs).1
      simp only
      rw [if_pos hq]
      omega
theorem lfa_0 {x : Nat} (h : x < n) : lfa n r 0 x = true := by
  show (decide (x < n) && decide (x < n)) = true
  simp [h]
theorem pot_at (ho : Ord n r) (hn : n ≤ 10) : ∀ (d h : Nat), h + d + 1 = lnA n r → ∃ cl C w V t lv m, Pot n r h cl C w V t lv m := by
  intro d
  induction d with
  | zero => exact fun h hh => pot_base ho hn hh
  | succ d ih =>
    intro h hh
    obtain ⟨cl, C, w, V, t, lv, m, hp⟩ := ih (h + 1) (by omega)
    by_cases hq : ∀ q, sndD n r (lba n r) (lfa n r h) = some q → lba n r q < lba n r V
    · exact pot_close ho hn hp hq
    · cases hs : sndD n r (lba n r) (lfa n r h) with
      | none => exact absurd (fun q e => by rw [hs] at e; cases e) hq
      | some q =>
        by_cases hl : lba n r V ≤ lba n r q
        · exact ⟨_, _, _, _, _, _, _, pot_grow ho hn hp hs hl⟩
        · exact absurd (fun q' e => by rw [hs] at e; rw [← Option.some.inj e]; omega) hq
/-- a bound of every set of PAIRS -/
theorem pot_fin (ho : Ord n r) (hn : n ≤ 10) : ∃ f : (Nat → Bool) → Nat, (∀ S S' : Nat → Bool, (∀ x, S x = true → S' x = true) → f S ≤ f S') ∧ (∀ S a b, a ≠ b → a < n → b < n → S a = true → S b = true → r a b = false → r b a = false → f (rmv (rmv S a) b) + 1 ≤ f S) ∧ f (alln n) + lnA n r ≤ n := by
  by_cases h0 : lnA n r = 0
  · have hz : ∀ z, lfa n r 0 z = false := lfa_end ho (by omega)
    have hn0 : n = 0 := by
      cases hc : n with
      | zero => rfl
      | succ k =>
        have h1 := hz 0
        have h2 : lfa n r 0 0 = true := lfa_0 (by omega)
        rw [h2] at h1
        cases h1
    refine ⟨fun _ => 0, fun _ _ _ => Nat.le_refl _, fun S a b _ ha => by omega, ?_⟩
    show 0 + lnA n r ≤ n
    omega
  · obtain ⟨cl, C, w, V, t, lv, m, hp⟩ := pot_at ho hn (lnA n r - 1) 0 (by omega)
    have hp0 := hp
    unfold Pot at hp
    obtain ⟨p1, p2, p3, p4, p5, p6, p7, p8, p9, p10, p11, p12⟩ := hp
    have hin : ∀ x, x < n → lfa n r 0 x = true := fun x hx => lfa_0 hx
    refine ⟨fun S => cl S + cnt (fun x => S x && (lfa n r 0 x && decide (lba n r V ≤ lba n r x))) n / 2 + cnt (fun x => S x && w x) n, ?_, ?_, ?_⟩
    · intro S S' hS
      have m1 := p8 S S' hS
      have m2 := Nat.div_le_div_right (c := 2) (cnt_and_mono (n := n) (B := fun x => lfa n r 0 x && decide (lba n r V ≤ lba n r x)) hS)
      have m3 := cnt_and_mono (n := n) (B := w) hS
      exact Nat.add_le_add (Nat.add_le_add m1 m2) m3
    · intro S a b hab han hbn ha hb hr1 hr2
      have m1 := p8 (rmv (rmv S a) b) S (fun x hx => rmv_sub hx)
      have m2 := Nat.div_le_div_right (c := 2) (cnt_and_mono (n := n) (S := rmv (rmv S a) b) (S' := S) (B := fun x => lfa n r 0 x && decide (lba n r V ≤ lba n r x)) (fun x hx => rmv_sub hx))
      have m3 := cnt_and_mono (n := n) (S := rmv (rmv S a) b) (S' := S) (B := w) (fun x hx => rmv_sub hx)
      have hw : ∀ c, c = a ∨ c = b → c < n → S c = true → w c = true → cnt (fun x => rmv (rmv S a) b x && w x) n + 1 ≤ cnt (fun x => S x && w x) n := by
        intro c hc hcn hSc hwc
        have k1 := cnt_del (p := fun x => S x && w x) hcn (by rw [hSc, hwc]; rfl)
        have k2 : cnt (fun x => rmv (rmv S a) b x && w x) n ≤ cnt (rmv (fun x => S x && w x) c) n := cnt_mono (fun i _ q => by
          unfold rmv at q ⊢
          simp only [Bool.and_eq_true, Bool.not_eq_true', decide_eq_false_iff_not] at q ⊢
          exact ⟨⟨q.1.1.1, q.2⟩, fun e => by rcases hc with h | h <;> rw [h] at e <;> simp_all⟩)
        omega
      show cl (rmv (rmv S a) b) + cnt (fun x => rmv (rmv S a) b x && (lfa n r 0 x && decide (lba n r V ≤ lba n r x))) n / 2 + cnt (fun x => rmv (rmv S a) b x && w x) n + 1 ≤ cl S + cnt (fun x => S x && (lfa n r 0 x && decide (lba n r V ≤ lba n r x))) n / 2 + cnt (fun x => S x && w x) n
      by_cases hwa : w a = true
      · have := hw a (Or.inl rfl) han ha hwa
        omega
      by_cases hwb : w b = true
      · have := hw b (Or.inr rfl) hbn hb hwb
        omega
      rcases p5 a (hin a han) with ca | ca | ca
      · rcases p5 b (hin b hbn) with cb | cb | cb
        · have := cnt_two (n := n) (S := S) (B := fun x => lfa n r 0 x && decide (lba n r V ≤ lba n r x)) hab han hbn ha hb (by rw [hin a han, decide_eq_true ca]; rfl) (by rw [hin b hbn, decide_eq_true cb]; rfl)
          omega
        · have := pot_cross ho hn hp0 cb (hin a han) ca
          rw [this] at hr2; cases hr2
        · exact absurd cb hwb
      · rcases p5 b (hin b hbn) with cb | cb | cb
        · have := pot_cross ho hn hp0 ca (hin b hbn) cb
          rw [this] at hr1; cases hr1
        · have := p9 S a b hab ha hb ca cb hr1 hr2
          omega
        · exact absurd cb hwb
      · exact absurd ca hwa
    · have e0 : cnt (fun x => alln n x && (lfa n r 0 x && decide (lba n r V ≤ lba n r x))) n = 2 * m + 1 := (cnt_cong (fun x hx => by
        rw [show alln n x = true from decide_eq_true hx, Bool.true_and])).trans p11
      have e1 : cnt (fun x => alln n x && w x) n = cnt w n := cnt_cong (fun x hx => by
        rw [show alln n x = true from decide_eq_true hx, Bool.true_and])
      have e2 : cnt (lfa n r 0) n = n := (cnt_cong (fun x hx => (lfa_0 hx).trans (show alln n x = true from decide_eq_true hx).symm)).trans (cnt_all n)
      have e3 := p8 (alln n) (fun _ => true) (fun _ _ => rfl)
      show cl (alln n) + cnt (fun x => alln n x && (lfa n r 0 x && decide (lba n r V ≤ lba n r x))) n / 2 + cnt (fun x => alln n x && w x) n + lnA n r ≤ n
      rw [e0, e1]
      rw [e2] at p12
      omega
end POT
