/-! THE REST: the day of what is left is the rest of the day -/
section REST
variable {n : Nat} {r : Nat → Nat → Bool}
/-- what is left holds all that is BEHIND one of it -/
theorem lfs_up (ho : Ord n r) (hn : n ≤ 10) {lab : Nat → Nat} : ∀ (h a b : Nat), b < n → lfs n r lab (alln n) h a = true → r b a = true → lfs n r lab (alln n) h b = true := by
  intro h
  induction h with
  | zero =>
    intro a b hb _ _
    show (decide (b < n) && alln n b) = true
    simp [hb]
  | succ h ih =>
    intro a b hb ha hr
    have ha0 := lfs_le ha
    have hb0 := ih a b hb ha0 hr
    have han := (lfs_in ha0).1
    have nordy : ¬ rdy r (lfs n r lab (alln n) h) b = true := by
      intro q
      unfold rdy at q
      rw [Bool.not_eq_true', anyb_f] at q
      have := q a (by omega)
      rw [hr, ha0] at this
      cases this
    show rmo (rmo (lfs n r lab (alln n) h) (fstD n r lab (lfs n r lab (alln n) h))) (sndD n r lab (lfs n r lab (alln n) h)) b = true
    have k1 : rmo (lfs n r lab (alln n) h) (fstD n r lab (lfs n r lab (alln n) h)) b = true := by
      cases hf : fstD n r lab (lfs n r lab (alln n) h) with
      | none => exact hb0
      | some x =>
        have hx := (grt_some (show grt r lab (lfs n r lab (alln n) h) (lfs n r lab (alln n) h) n = some x from hf)).2.1
        simp only [Bool.and_eq_true] at hx
        have : b ≠ x := fun e => nordy (by rw [e]; exact hx.2)
        simp [rmo, rmv, hb0, this]
    cases hs : sndD n r lab (lfs n r lab (alln n) h) with
    | none => exact k1
    | some x =>
      have hx := (grt_some (show grt r lab (rmo (lfs n r lab (alln n) h) (fstD n r lab (lfs n r lab (alln n) h))) (lfs n r lab (alln n) h) n = some x from hs)).2.1
      simp only [Bool.and_eq_true] at hx
      have : b ≠ x := fun e => nordy (by rw [e]; exact hx.2)
      show rmv (rmo (lfs n r lab (alln n) h) (fstD n r lab (lfs n r lab (alln n) h))) x b = true
      unfold rmv
      rw [k1]
      simp [this]
theorem pick_eq {s : Nat → Bool} {lab : Nat → Nat} {k a : Nat} (ha : a < k) (hc : cand n r s lab a = true) (hm : ∀ b, b < k → cand n r s lab b = true → rowv n r s lab a ≤ rowv n r s lab b ∧ (rowv n r s lab a = rowv n r s lab b → a ≤ b)) : pick n r s lab k = some a := by
  cases hp : pick n r s lab k with
  | none => rw [pick_none hp a ha] at hc; cases hc
  | some b =>
    obtain ⟨h1, h2, h3⟩ := pick_some hp
    have e1 := hm b h1 h2
    have e2 := h3 a ha hc
    have e3 : rowv n r s lab a = rowv n r s lab b := by omega
    have e4 := e1.2 e3
    have e5 := e2.2 e3.symm
    rw [show b = a by omega]
/-- rows keep their order when labels are changed in a rising way -/
theorem mkm_ren {A B A' B' : Nat → Bool} {g : Nat → Nat} (hA : ∀ q, A q = true → q < 16 ∧ g q < 16) (hB : ∀ q, B q = true → q < 16 ∧ g q < 16) (hg : ∀ p q, (A p = true ∨ B p = true) → (A q = true ∨ B q = true) → p < q → g p < g q) (hA' : ∀ y, A' y = true ↔ ∃ q, A q = true ∧ g q = y) (hB' : ∀ y, B' y = true ↔ ∃ q, B q = true ∧ g q = y) (h : mkm A 16 < mkm B 16) : mkm A' 16 < mkm B' 16 := by
  rw [mkm_ltI] at h ⊢
  obtain ⟨i, h1, h2, h3, h4⟩ := h
  have inj : ∀ p q, (A p = true ∨ B p = true) → (A q = true ∨ B q = true) → g p = g q → p = q := by
    intro p q hp hq e
    rcases Nat.lt_trichotomy p q with l | l | l
    · have := hg p q hp hq l; omega
    · exact l
    · have := hg q p hq hp l; omega
  refine ⟨g i, (hB i h3).2, ?_, (hB' _).mpr ⟨i, h3, rfl⟩, fun j hj1 hj2 => ?_⟩
  · cases hh : A' (g i) with
    | false => rfl
    | true =>
      obtain ⟨q, hq1, hq2⟩ := (hA' _).mp hh
      have := inj q i (Or.inl hq1) (Or.inr h3) hq2
      rw [this, h2] at hq1; cases hq1
  · rw [Bool.eq_iff_iff, hA', hB']
    constructor
    · rintro ⟨q, hq1, hq2⟩
      have hqi : i < q := by
        rcases Nat.lt_trichotomy q i with l | l | l
        · have := hg q i (Or.inl hq1) (Or.inr h3) l; omega
        · rw [l, h2] at hq1; cases hq1
        · exact l
      exact ⟨q, by rw [← h4 q hqi (hA q hq1).1]; exact hq1, hq2⟩
    · rintro ⟨q, hq1, hq2⟩
      have hqi : i < q := by
        rcases Nat.lt_trichotomy q i with l | l | l
        · have := hg q i (Or.inr hq1) (Or.inr h3) l; omega
        · rw [l] at hq2; omega
        · exact l
      exact ⟨q, by rw [h4 q hqi (hB q hq1).1]; exact hq1, hq2⟩
/-- of a set that holds all BEHIND one of it, the labels stand in the order of the labels of all -/
theorem lbl_sub (ho : Ord n r) (hn : n ≤ 10) {s : Nat → Bool} (hs : ∀ x, s x = true → x < n) (hup : ∀ a b, b < n → s a = true → r b a = true → s b = true) :
    ∀ (l : Nat), l ≤ n → ∀ a, labs n r s (cnt (fun x => s x && decide (lba n r x ≤ l)) n) a = if s a = true ∧ lba n r a ≤ l then cnt (fun x => s x && decide (lba n r x ≤ lba n r a)) n else 0 := by
  have hN : cnt (fun a => alln n a) n = n := cnt_all n
  have hfl : ∀ a, s a = true → fls n r s a = fls n r (alln n) a := by
    intro a ha
    funext x
    unfold fls
    by_cases hx : x < n
    · cases hr : r x a with
      | false => simp
      | true => simp [hx, hup a x hx ha hr]
    · simp [hx]
  have hnx : ∀ a, s a = true → nxs n r s a = nxs n r (alln n) a := by
    intro a ha
    unfold nxs
    rw [hfl a ha]
  intro l
  induction l with
  | zero =>
    intro _ a
    have h0 : cnt (fun x => s x && decide (lba n r x ≤ 0)) n = 0 := by
      have : cnt (fun x => s x && decide (lba n r x ≤ 0)) n = cnt (fun _ => false) n := cnt_cong (fun x hx => by
        have := lba_pos ho hx
        have : ¬ lba n r x ≤ 0 := by omega
        simp [this])
      rw [this]
      have : ∀ k, cnt (fun _ => false) k = 0 := fun k => by
        induction k with
        | zero => rfl
        | succ k ih => exact (cnt_f rfl).trans ih
      exact this n
    rw [h0]
    show 0 = _
    by_cases hsa : s a = true
    · have := lba_pos ho (hs a hsa)
      rw [if_neg (fun q => by omega)]
    · rw [if_neg (fun q => hsa q.1)]
  | succ l ih =>
    intro hl a
    have ih := ih (by omega)
    obtain ⟨x, hx1, hx2, hxn, -, hx5⟩ := labs_step (s := alln n) ho (l := l) (by rw [hN]; omega)
    have hxl : lba n r x = l + 1 := by
      have e := labs_mono (s := alln n) ho (n - (l + 1)) (l + 1) (by rw [hN]; omega) x
      rw [hx2] at e
      have e1 : va_up (labs n r (alln n) l) x (l + 1) x = l + 1 := va_up_s
      rw [e1] at e
      by_cases hq : lbl n r (alln n) x ≤ l + 1
      · rw [if_pos hq] at e; exact e.symm
      · rw [if_neg hq] at e; omega
    have hfull : ∀ y, labs n r (alln n) l y = if lba n r y ≤ l then lba n r y else 0 := fun y => labs_mono (s := alln n) ho (n - l) l (by rw [hN]; omega) y
    by_cases hsx : s x = true
    · -- the pick is one of s
      have hcs : cnt (fun y => s y && decide (lba n r y ≤ l + 1)) n = cnt (fun y => s y && decide (lba n r y ≤ l)) n + 1 := by
        have e1 : cnt (fun y => s y && decide (lba n r y ≤ l + 1)) n = cnt (fun y => (s y && decide (lba n r y ≤ l)) || decide (y = x)) n := cnt_cong (fun y hy => by
          by_cases hyx : y = x
          · rw [hyx, hsx, hxl]; simp
          · have : lba n r y ≠ l + 1 := fun e => hyx (lba_inj ho hy (e.trans hxl.symm))
            simp only [hyx, decide_false, Bool.or_false]
            congr 1
            rw [decide_eq_decide]
            omega)
        rw [e1, cnt_or _ (fun y _ q => by
          have h2 := of_decide_eq_true q.2
          rw [h2, hxl] at q
          simp at q
          omega), cnt_one (p := fun y => decide (y = x)) (a := x) (fun y => by simp), if_pos hxn]
      have hpick : pick n r s (labs n r s (cnt (fun y => s y && decide (lba n r y ≤ l)) n)) n = some x := by
        generalize hlab : labs n r s (cnt (fun y => s y && decide (lba n r y ≤ l)) n) = lab at *
        obtain ⟨p1, p2, p3⟩ := pick_some hx1
        have hz : ∀ y, s y = true → (lab y = 0 ↔ labs n r (alln n) l y = 0) := by
          intro y hy
          rw [ih y, hfull y]
          by_cases hq : lba n r y ≤ l
          · rw [if_pos ⟨hy, hq⟩, if_pos hq]
            have h1 := lba_pos ho (hs y hy)
            have h2 : 0 < cnt (fun z => s z && decide (lba n r z ≤ lba n r y)) n := Nat.lt_of_le_of_lt (Nat.zero_le (cnt (fun _ => false) n)) (cnt_lt (fun i _ hi => by cases hi) ⟨y, hs y hy, rfl, by simp [hy]⟩)
            constructor <;> intro q <;> omega
          · rw [if_neg (fun q => hq q.2), if_neg hq]
        have hcand : ∀ y, s y = true → (cand n r s lab y = true ↔ cand n r (alln n) (labs n r (alln n) l) y = true) := by
          intro y hy
          unfold cand
          have hyn := hs y hy
          rw [hnx y hy]
          have ea : anyb (fun z => nxs n r (alln n) y z && decide (lab z = 0)) 16 = anyb (fun z => nxs n r (alln n) y z && decide (labs n r (alln n) l z = 0)) 16 := by
            rw [Bool.eq_iff_iff, anyb_iff, anyb_iff]
            have hz2 : ∀ z, (nxs n r (alln n) y z && decide (lab z = 0)) = (nxs n r (alln n) y z && decide (labs n r (alln n) l z = 0)) := by
              intro z
              cases hnz : nxs n r (alln n) y z with
              | false => rfl
              | true =>
                obtain ⟨k1, -, k3⟩ := nxs_r hnz
                have hsz := hup y z k1 hy k3
                rw [Bool.true_and, Bool.true_and, decide_eq_decide]
                exact hz z hsz
            simp only [hz2]
          rw [ea]
          simp only [hy, hyn, decide_true, Bool.true_and, Bool.and_eq_true, decide_eq_true_eq, true_and]
          rw [hz y hy]
        -- rows
        have hlt : ∀ y z, s y = true → s z = true → lba n r y < lba n r z → cnt (fun u => s u && decide (lba n r u ≤ lba n r y)) n < cnt (fun u => s u && decide (lba n r u ≤ lba n r z)) n := by
          intro y z hy hz9 hl9
          refine cnt_lt (fun i _ hi => ?_) ⟨z, hs z hz9, ?_, by simp [hz9]⟩
          · simp only [Bool.and_eq_true, decide_eq_true_eq] at hi ⊢
            exact ⟨hi.1, by omega⟩
          · have : ¬ lba n r z ≤ lba n r y := by omega
            simp [this]
        have hrow : ∀ y, s y = true → cand n r (alln n) (labs n r (alln n) l) y = true → ∀ q, rowp n r (alln n) (labs n r (alln n) l) y q = true ↔ ∃ u, u < n ∧ nxs n r (alln n) y u = true ∧ s u = true ∧ lba n r u = q ∧ lba n r u ≤ l := by
          intro y hy hc q
          unfold rowp
          rw [anyb_iff]
          unfold cand at hc
          rw [Bool.and_eq_true, Bool.not_eq_true', anyb_f] at hc
          constructor
          · rintro ⟨u, hu, hu2⟩
            simp only [Bool.and_eq_true, decide_eq_true_eq] at hu2
            obtain ⟨k1, -, k3⟩ := nxs_r hu2.1
            have h0 := hc.2 u (by omega)
            rw [hu2.1, Bool.true_and, decide_eq_false_iff_not] at h0
            rw [hfull u] at hu2 h0
            by_cases hq : lba n r u ≤ l
            · rw [if_pos hq] at hu2
              exact ⟨u, hu, hu2.1, hup y u k1 hy k3, hu2.2, hq⟩
            · rw [if_neg hq] at h0; exact absurd rfl h0
          · rintro ⟨u, hu, hu2, hu3, hu4, hu5⟩
            refine ⟨u, hu, ?_⟩
            rw [hu2, hfull u, if_pos hu5, hu4]
            simp
        have hrow' : ∀ y, s y = true → cand n r (alln n) (labs n r (alln n) l) y = true → ∀ q, rowp n r s lab y q = true ↔ ∃ u, u < n ∧ nxs n r (alln n) y u = true ∧ s u = true ∧ lba n r u ≤ l ∧ cnt (fun v => s v && decide (lba n r v ≤ lba n r u)) n = q := by
          intro y hy hc q
          unfold rowp
          rw [anyb_iff, hnx y hy]
          unfold cand at hc
          rw [Bool.and_eq_true, Bool.not_eq_true', anyb_f] at hc
          constructor
          · rintro ⟨u, hu, hu2⟩
            simp only [Bool.and_eq_true, decide_eq_true_eq] at hu2
            obtain ⟨k1, -, k3⟩ := nxs_r hu2.1
            have hsu := hup y u k1 hy k3
            have h0 := hc.2 u (by omega)
            rw [hu2.1, Bool.true_and, decide_eq_false_iff_not, hfull u] at h0
            by_cases hq : lba n r u ≤ l
            · rw [ih u, if_pos ⟨hsu, hq⟩] at hu2
              exact ⟨u, hu, hu2.1, hsu, hq, hu2.2⟩
            · rw [if_neg hq] at h0; exact absurd rfl h0
          · rintro ⟨u, hu, hu2, hu3, hu4, hu5⟩
            refine ⟨u, hu, ?_⟩
            rw [hu2, ih u, if_pos ⟨hu3, hu4⟩, hu5]
            simp
        have hren : ∀ y z, s y = true → s z = true → cand n r (alln n) (labs n r (alln n) l) y = true → cand n r (alln n) (labs n r (alln n) l) z = true → rowv n r (alln n) (labs n r (alln n) l) y < rowv n r (alln n) (labs n r (alln n) l) z → rowv n r s lab y < rowv n r s lab z := by
          intro y z hy hz9 hcy hcz hlt9
          refine mkm_ren (g := fun q => cnt (fun v => s v && decide (lba n r v ≤ q)) n) (fun q hq => ?_) (fun q hq => ?_) (fun p q hp hq hpq => ?_) (fun w => ?_) (fun w => ?_) hlt9
          · obtain ⟨u, k1, k2, k3, k4, k5⟩ := (hrow y hy hcy q).mp hq
            have := cnt_le (fun v => s v && decide (lba n r v ≤ q)) n
            exact ⟨by omega, by show cnt _ n < 16; omega⟩
          · obtain ⟨u, k1, k2, k3, k4, k5⟩ := (hrow z hz9 hcz q).mp hq
            have := cnt_le (fun v => s v && decide (lba n r v ≤ q)) n
            exact ⟨by omega, by show cnt _ n < 16; omega⟩
          · have get : ∀ q, (rowp n r (alln n) (labs n r (alln n) l) y q = true ∨ rowp n r (alln n) (labs n r (alln n) l) z q = true) → ∃ u, s u = true ∧ lba n r u = q := by
              intro q hq
              rcases hq with hq | hq
              · obtain ⟨u, k1, k2, k3, k4, k5⟩ := (hrow y hy hcy q).mp hq; exact ⟨u, k3, k4⟩
              · obtain ⟨u, k1, k2, k3, k4, k5⟩ := (hrow z hz9 hcz q).mp hq; exact ⟨u, k3, k4⟩
            obtain ⟨u, u1, u2⟩ := get p hp
            obtain ⟨v, v1, v2⟩ := get q hq
            have := hlt u v u1 v1 (by omega)
            rw [u2, v2] at this
            exact this
          · rw [hrow' y hy hcy w]
            constructor
            · rintro ⟨u, k1, k2, k3, k4, k5⟩
              exact ⟨lba n r u, (hrow y hy hcy _).mpr ⟨u, k1, k2, k3, rfl, k4⟩, k5⟩
            · rintro ⟨q, hq, e⟩
              obtain ⟨u, k1, k2, k3, k4, k5⟩ := (hrow y hy hcy q).mp hq
              exact ⟨u, k1, k2, k3, k5, by rw [k4]; exact e⟩
          · rw [hrow' z hz9 hcz w]
            constructor
            · rintro ⟨u, k1, k2, k3, k4, k5⟩
              exact ⟨lba n r u, (hrow z hz9 hcz _).mpr ⟨u, k1, k2, k3, rfl, k4⟩, k5⟩
            · rintro ⟨q, hq, e⟩
              obtain ⟨u, k1, k2, k3, k4, k5⟩ := (hrow z hz9 hcz q).mp hq
              exact ⟨u, k1, k2, k3, k5, by rw [k4]; exact e⟩
        refine pick_eq p1 ((hcand x hsx).mpr p2) (fun b hb hcb => ?_)
        have hsb : s b = true := by
          unfold cand at hcb
          simp only [Bool.and_eq_true] at hcb
          exact hcb.1.1.2
        have hcb2 := (hcand b hsb).mp hcb
        obtain ⟨m1, m2⟩ := p3 b hb hcb2
        rcases Nat.lt_or_ge (rowv n r (alln n) (labs n r (alln n) l) x) (rowv n r (alln n) (labs n r (alln n) l) b) with q | q
        · have := hren x b hsx hsb p2 hcb2 q
          exact ⟨by omega, fun e => by omega⟩
        · have hab := m2 (by omega)
          refine ⟨?_, fun _ => hab⟩
          -- equal rows stay equal
          have : rowv n r s lab x = rowv n r s lab b := by
            unfold rowv
            apply mkm_cong
            intro w _
            rw [Bool.eq_iff_iff, hrow' x hsx p2 w, hrow' b hsb hcb2 w]
            have e9 : rowv n r (alln n) (labs n r (alln n) l) x = rowv n r (alln n) (labs n r (alln n) l) b := by omega
            have eqrow : ∀ q, q < 16 → (rowp n r (alln n) (labs n r (alln n) l) x q = rowp n r (alln n) (labs n r (alln n) l) b q) := by
              intro q hq
              have := congrArg (fun z => z.testBit q) e9
              simp only [rowv, mkm_bit, hq, decide_true, Bool.true_and] at this
              exact this
            constructor
            · rintro ⟨u, k1, k2, k3, k4, k5⟩
              have h1 := (hrow x hsx p2 (lba n r u)).mpr ⟨u, k1, k2, k3, rfl, k4⟩
              rw [eqrow _ (by omega)] at h1
              obtain ⟨u2, j1, j2, j3, j4, j5⟩ := (hrow b hsb hcb2 _).mp h1
              exact ⟨u2, j1, j2, j3, j5, by rw [j4]; exact k5⟩
            · rintro ⟨u, k1, k2, k3, k4, k5⟩
              have h1 := (hrow b hsb hcb2 (lba n r u)).mpr ⟨u, k1, k2, k3, rfl, k4⟩
              rw [← eqrow _ (by omega)] at h1
              obtain ⟨u2, j1, j2, j3, j4, j5⟩ := (hrow x hsx p2 _).mp h1
              exact ⟨u2, j1, j2, j3, j5, by rw [j4]; exact k5⟩
          omega
      rw [hcs]
      have hstep : labs n r s (cnt (fun y => s y && decide (lba n r y ≤ l)) n + 1) = va_up (labs n r s (cnt (fun y => s y && decide (lba n r y ≤ l)) n)) x (cnt (fun y => s y && decide (lba n r y ≤ l)) n + 1) := by
        show (match pick n r s (labs n r s (cnt (fun y => s y && decide (lba n r y ≤ l)) n)) n with | none => _ | some a => _) = _
        rw [hpick]
      rw [hstep]
      by_cases hax : a = x
      · rw [hax, va_up_s, if_pos ⟨hsx, by omega⟩, hxl, hcs]
      · rw [va_up_o hax, ih a]
        by_cases hsa : s a = true
        · have : lba n r a ≠ l + 1 := fun e => hax (lba_inj ho (hs a hsa) (e.trans hxl.symm))
          by_cases hq : lba n r a ≤ l
          · rw [if_pos ⟨hsa, hq⟩, if_pos ⟨hsa, by omega⟩]
          · rw [if_neg (fun q => hq q.2), if_neg (fun q => by omega)]
        · rw [if_neg (fun q => hsa q.1), if_neg (fun q => hsa q.1)]
    · have hcs : cnt (fun y => s y && decide (lba n r y ≤ l + 1)) n = cnt (fun y => s y && decide (lba n r y ≤ l)) n := cnt_cong (fun y hy => by
        by_cases hyx : y = x
        · rw [hyx]; simp at hsx; simp [hsx]
        · have : lba n r y ≠ l + 1 := fun e => hyx (lba_inj ho hy (e.trans hxl.symm))
          congr 1
          rw [decide_eq_decide]
          omega)
      rw [hcs, ih a]
      by_cases hsa : s a = true
      · have : lba n r a ≠ l + 1 := fun e => hsx (by rw [← lba_inj ho (hs a hsa) (e.trans hxl.symm)]; exact hsa)
        by_cases hq : lba n r a ≤ l
        · rw [if_pos ⟨hsa, hq⟩, if_pos ⟨hsa, by omega⟩]
        · rw [if_neg (fun q => hq q.2), if_neg (fun q => by omega)]
      · rw [if_neg (fun q => hsa q.1), if_neg (fun q => hsa q.1)]
theorem lbl_ord (ho : Ord n r) (hn : n ≤ 10) {s : Nat → Bool} (hs : ∀ x, s x = true → x < n) (hup : ∀ a b, b < n → s a = true → r b a = true → s b = true) {a b : Nat} (ha : s a = true) (hb : s b = true) : lbl n r s a < lbl n r s b ↔ lba n r a < lba n r b := by
  have e : ∀ y, s y = true → lbl n r s y = cnt (fun x => s x && decide (lba n r x ≤ lba n r y)) n := by
    intro y hy
    have h1 := lbl_sub ho hn hs hup n (Nat.le_refl n) y
    rw [if_pos ⟨hy, lba_le ho y⟩] at h1
    have h2 : cnt (fun x => s x && decide (lba n r x ≤ n)) n = cnt (fun x => s x) n := cnt_cong (fun x _ => by
      have := lba_le ho (n := n) (r := r) x
      simp [this])
    rw [h2] at h1
    exact h1
  rw [e a ha, e b hb]
  have hlt : ∀ y z, s y = true → s z = true → lba n r y < lba n r z → cnt (fun u => s u && decide (lba n r u ≤ lba n r y)) n < cnt (fun u => s u && decide (lba n r u ≤ lba n r z)) n := by
    intro y z hy hz9 hl9
    refine cnt_lt (fun i _ hi => ?_) ⟨z, hs z hz9, ?_, by simp [hz9]⟩
    · simp only [Bool.and_eq_true, decide_eq_true_eq] at hi ⊢
      exact ⟨hi.1, by omega⟩
    · have : ¬ lba n r z ≤ lba n r y := by omega
      simp [this]
  constructor
  · intro h
    rcases Nat.lt_trichotomy (lba n r a) (lba n r b) with q | q | q
    · exact q
    · rw [q] at h; omega
    · have := hlt b a hb ha q; omega
  · exact hlt a b ha hb
theorem grt_ord {lab lab' : Nat → Nat} {set left s : Nat → Bool} (hsub : ∀ x, set x = true → s x = true) (ho : ∀ a b, s a = true → s b = true → (lab' a < lab' b ↔ lab a < lab b)) : ∀ k, grt r lab' set left k = grt r lab set left k := by
  intro k
  induction k with
  | zero => rfl
  | succ k ih =>
    show (match grt r lab' set left k with | none => if (set k && rdy r left k) = true then some k else none | some b => if (set k && rdy r left k) = true ∧ lab' b < lab' k then some k else some b) = (match grt r lab set left k with | none => if (set k && rdy r left k) = true then some k else none | some b => if (set k && rdy r left k) = true ∧ lab b < lab k then some k else some b)
    rw [ih]
    cases hg : grt r lab set left k with
    | none => rfl
    | some b =>
      have hb := (grt_some hg).2.1
      simp only [Bool.and_eq_true] at hb
      simp only
      by_cases hk : (set k && rdy r left k) = true
      · have hk2 := hk
        simp only [Bool.and_eq_true] at hk2
        have := ho b k (hsub b hb.1) (hsub k hk2.1)
        by_cases hl : lab b < lab k
        · rw [if_pos ⟨hk, this.mpr hl⟩, if_pos ⟨hk, hl⟩]
        · rw [if_neg (fun q => hl (this.mp q.2)), if_neg (fun q => hl q.2)]
      · rw [if_neg (fun q => hk q.1), if_neg (fun q => hk q.1)]
theorem lfs_rest (ho : Ord n r) (hn : n ≤ 10) {h : Nat} : ∀ (k : Nat), lfs n r (lbl n r (lfs n r (lba n r) (alln n) h)) (lfs n r (lba n r) (alln n) h) k = lfs n r (lba n r) (alln n) (h + k) := by
  intro k
  have hs : ∀ x, lfs n r (lba n r) (alln n) h x = true → x < n := fun x hx => (lfs_in hx).1
  have hup := fun a b hb ha hr => lfs_up (lab := lba n r) ho hn h a b hb ha hr
  have hord := fun a b ha hb => lbl_ord (s := lfs n r (lba n r) (alln n) h) (a := a) (b := b) ho hn hs hup ha hb
  induction k with
  | zero =>
    funext x
    show (decide (x < n) && lfs n r (lba n r) (alln n) h x) = lfs n r (lba n r) (alln n) h x
    cases hx : lfs n r (lba n r) (alln n) h x with
    | false => simp
    | true => simp [hs x hx]
  | succ k ih =>
    generalize hs' : lfs n r (lba n r) (alln n) h = s at *
    generalize hl' : lbl n r s = lab' at *
    have hsub : ∀ x, lfs n r (lba n r) (alln n) (h + k) x = true → s x = true := fun x hx => by rw [← hs']; exact lfs_le2 hx
    have ef : fstD n r lab' (lfs n r (lba n r) (alln n) (h + k)) = fstD n r (lba n r) (lfs n r (lba n r) (alln n) (h + k)) := grt_ord hsub hord n
    have es : sndD n r lab' (lfs n r (lba n r) (alln n) (h + k)) = sndD n r (lba n r) (lfs n r (lba n r) (alln n) (h + k)) := by
      unfold sndD
      rw [ef]
      exact grt_ord (fun x hx => hsub x (rmo_le hx)) hord n
    show rmo (rmo (lfs n r lab' s k) (fstD n r lab' (lfs n r lab' s k))) (sndD n r lab' (lfs n r lab' s k)) = rmo (rmo (lfs n r (lba n r) (alln n) (h + k)) (fstD n r (lba n r) (lfs n r (lba n r) (alln n) (h + k)))) (sndD n r (lba n r) (lfs n r (lba n r) (alln n) (h + k)))
    rw [ih, ef, es]
theorem len_rest (ho : Ord n r) (hn : n ≤ 10) (h : Nat) : lenD n r (lbl n r (lfs n r (lba n r) (alln n) h)) (lfs n r (lba n r) (alln n) h) = lenD n r (lba n r) (alln n) - h := by
  have e : ∀ k, k < lenD n r (lbl n r (lfs n r (lba n r) (alln n) h)) (lfs n r (lba n r) (alln n) h) ↔ h + k < lenD n r (lba n r) (alln n) := by
    intro k
    rw [← lenD_iff ho, ← lenD_iff ho, lfs_rest ho hn k]
  generalize lenD n r (lbl n r (lfs n r (lba n r) (alln n) h)) (lfs n r (lba n r) (alln n) h) = x at *
  generalize lenD n r (lba n r) (alln n) = y at *
  have e1 := e x
  have e2 := e (y - h)
  omega
end REST
def spRest (c : Core) (h : Int32) : Int32 := if h < 0 then -1 else if h.toInt < dLen c then nI (dLen c - h.toNatClampNeg) else 0
theorem tX6_rest {σ : zSt} {c : Core} {v h : Int32} (hp : XP σ c v) : zI mX6_rest [.ref 0, .int h] SH σ (fun x t => x = spRest c h ∧ (t = σ ∨ XL σ t c v)) := by
  have hl := dLen10 hp.2.1
  have hr := fb_rng h
  refine zI_of (ls := [some (.ref 0), some (.int h)]) (by decide) rfl rfl ?_
  refine za_iload_n (pc := 0) dX6_rest_0 rfl ?_
  refine za_if_ge (pc := 1) 6 dX6_rest_1 (by decide) (fun c1 => ?_) (fun c1 => ?_)
  · have h0 : 0 ≤ h.toInt := by rw [fa_le] at c1; exact c1
    refine za_iconst (pc := 6) (0) dX6_rest_6 (by decide) ?_
    refine za_aload_n (pc := 7) dX6_rest_7 rfl ?_
    refine za_cV0r (pc := 8) (μ' := mX6_labelDayNow) dX6_rest_8 c_X6_160 rfl rfl rfl ⟨rfl, rfl⟩ ⟨rfl, rfl⟩ rfl rfl rfl (tLD hp) (fun t_8 h_8 => ?_)
    refine za_getI (pc := 11) dX6_rest_11 lk_X6_187 rfl rfl ?_
    rw [show t_8 15 4 = nI (dLen c) from h_8.1.2.2]
    refine za_iload_n (pc := 14) dX6_rest_14 rfl ?_
    refine za_isub (pc := 15) dX6_rest_15 ?_
    refine za_cS2i (pc := 16) (μ' := mJ9_max_7cf53) dX6_rest_16 c_X6_199 rfl ⟨rfl, rfl⟩ ⟨rfl, rfl⟩ rfl rfl rfl (tJ9_max_7cf53) (fun x_16 t_16 h_16 => ?_)
    obtain ⟨rfl, h9⟩ := h_16
    have h9 := h9.symm
    subst h9
    refine za_ri (pc := 19) dX6_rest_19 rfl rfl rfl ?_
    refine ⟨?_, Or.inr h_8⟩
    rw [spRest, if_neg (Int32.not_lt.mpr c1)]
    have key : ∀ L : Nat, L ≤ 10 → (if (0 : Int32) < nI L - h then nI L - h else 0) = if h.toInt < L then nI (L - h.toNatClampNeg) else 0 := by
      clear hl h_8
      intro L hL
      have e1 : (nI L - h).toInt = (L : Int) - h.toInt := by rw [fb_subI (by rw [nI_toInt (by omega)]; omega) (by rw [nI_toInt (by omega)]; omega), nI_toInt (by omega)]
      have e0 : (0 : Int32).toInt = 0 := rfl
      by_cases hq : h.toInt < L
      · obtain ⟨j, hj, rfl⟩ := vp_in_of (x := h) (n := L) (vp_in_iff.mpr ⟨h0, hq⟩) (by omega)
        rw [if_pos (by rw [fa_lt, e1, e0]; omega), if_pos hq, pk_sub (by omega), nI_clamp (by omega)]
      · rw [if_neg (by rw [fa_lt, e1, e0]; omega), if_neg hq]
    exact key (dLen c) hl
  · refine za_iconst (pc := 4) (-1) dX6_rest_4 (by decide) ?_
    refine za_ri (pc := 5) dX6_rest_5 rfl rfl rfl ?_
    exact ⟨by rw [spRest, if_pos (Int32.not_le.mp c1)], Or.inl rfl⟩
theorem tX7_rest {σ : zSt} {c : Core} {h : Int32} (hp : MP σ c) : zI mX7_rest [.ref 47, .int h] SH σ (fun x t => x = spRest c h ∧ (t = σ ∨ FMD t σ)) := by
  have hl := dLen10 hp.2
  have hn := hp.2.1
  have ho := bhd_ord hp.2
  refine zI_of (ls := [some (.ref 47), some (.int h), none, none]) (by decide) rfl rfl ?_
  refine za_iload_n (pc := 0) dX7_rest_0 rfl ?_
  refine za_if_ge (pc := 1) 6 dX7_rest_1 (by decide) (fun c1 => ?_) (fun c1 => ?_)
  · have h0 : 0 ≤ h.toInt := by rw [fa_le] at c1; exact c1
    obtain ⟨j, hj1, hj2, hj3⟩ : ∃ j, (∀ y : Nat, y ≤ dLen c → (h.toInt < (y : Int) ↔ j < y)) ∧ (if h.toInt < dLen c then nI (dLen c - h.toNatClampNeg) else 0) = nI (dLen c - j) ∧ j ≤ dLen c := by
      generalize dLen c = L at *
      by_cases hq : h.toInt < L
      · obtain ⟨j, hj, rfl⟩ := vp_in_of (x := h) (n := L) (vp_in_iff.mpr ⟨h0, hq⟩) (by omega)
        refine ⟨j, fun y hy => ?_, ?_, by omega⟩
        · rw [nI_toInt (by omega)]; omega
        · rw [if_pos hq, nI_clamp (by omega)]
      · refine ⟨L, fun y hy => by omega, ?_, Nat.le_refl _⟩
        rw [if_neg hq, Nat.sub_self]; rfl
    refine za_aload_n (pc := 6) dX7_rest_6 rfl ?_
    refine za_aload_n (pc := 7) dX7_rest_7 rfl ?_
    refine za_cV0i (pc := 8) (μ' := mX7_all) dX7_rest_8 c_X7_161 rfl rfl rfl ⟨rfl, rfl⟩ ⟨rfl, rfl⟩ rfl rfl rfl (tX7_all hn hp.1.1) (fun x_8 t_8 h_8 => ?_)
    obtain ⟨rfl, h9⟩ := h_8
    have h9 := h9.symm
    subst h9
    refine za_cV1v (pc := 11) (μ' := mX7_layDay) dX7_rest_11 c_X7_168 rfl rfl rfl ⟨rfl, rfl⟩ ⟨rfl, rfl⟩ rfl rfl rfl (tMA hp) (fun t_11 h_11 => ?_)
    obtain ⟨d1, d2⟩ := h_11
    refine za_iconst (pc := 14) (0) dX7_rest_14 (by decide) ?_
    refine za_is2n (pc := 15) dX7_rest_15 rfl ?_
    refine za_iconst (pc := 16) (0) dX7_rest_16 (by decide) ?_
    refine za_is3n (pc := 17) dX7_rest_17 rfl ?_
    generalize t_11 = t at *
    have tj : t 47 3 = nI (cN c) := by rw [d2.2 3 (by decide)]; exact hp.1.1
    have t62 : ∀ a, a < 10 → t 62 a = nI (dHr c a) := d1.2.2.1
    have tMP : MP t c := ⟨⟨tj, fun a ha => by
      rw [d2.1 51 (by decide) (by decide) (by decide) (by decide), d2.1 52 (by decide) (by decide) (by decide) (by decide), d2.1 53 (by decide) (by decide) (by decide) (by decide), d2.1 54 (by decide) (by decide) (by decide) (by decide), d2.1 55 (by decide) (by decide) (by decide) (by decide)]
      exact hp.1.2 a ha⟩, hp.2⟩
    have hmem : ∀ a, a < cN c → (h.toInt < (dHr c a : Int) ↔ dLf c j a = true) := fun a ha => by
      rw [hj1 _ (dHr_le hp.2 ha).2]
      exact (hrD_iff ho).symm
    have loop : ∀ (q k : Nat), k + q = cN c → zA (zZ mX7_rest (zQI SH (fun x t => x = spRest c h ∧ (t = σ ∨ FMD t σ)))) mX7_rest none 0 0 18 [some (.ref 47), some (.int h), some (.int (zmask (fun x => decide (x < k) && dLf c j x))), some (.int (nI k))] [] SH t := by
      intro q
      induction q with
      | zero =>
        intro k hk
        refine za_iload_n (pc := 18) dX7_rest_18 rfl ?_
        refine za_aload_n (pc := 19) dX7_rest_19 rfl ?_
        refine za_getI (pc := 20) dX7_rest_20 lk_X7_91 rfl rfl ?_
        rw [tj]
        refine za_icmp_ge (pc := 23) 52 dX7_rest_23 (by decide) (fun c23 => ?_) (fun c23 => ?_)
        · have em : zmask (fun x => decide (x < k) && dLf c j x) = zmask (dLf c j) := by
            apply zm_cong
            intro x _
            cases hx : dLf c j x with
            | false => simp
            | true =>
              have := (lfs_in hx).1
              simp
              omega
          rw [em]
          refine za_aload_n (pc := 52) dX7_rest_52 rfl ?_
          refine za_iload_n (pc := 53) dX7_rest_53 rfl ?_
          refine za_cV1v (pc := 54) (μ' := mX7_layDay) dX7_rest_54 c_X7_168 rfl rfl rfl ⟨rfl, rfl⟩ ⟨rfl, rfl⟩ rfl rfl rfl (tMD tMP (fun a _ ha => (lfs_in ha).1)) (fun t_54 h_54 => ?_)
          obtain ⟨f1, f2⟩ := h_54
          refine za_aload_n (pc := 57) dX7_rest_57 rfl ?_
          refine za_getI (pc := 58) dX7_rest_58 lk_X7_146 rfl rfl ?_
          refine za_ri (pc := 61) dX7_rest_61 rfl rfl rfl ?_
          refine ⟨?_, Or.inr ⟨fun d h47 h59 h61 h62 => by rw [f2.1 d h47 h59 h61 h62]; exact d2.1 d h47 h59 h61 h62, fun i hi => by rw [f2.2 i hi]; exact d2.2 i hi⟩⟩
          have e1 := f1.2.2.2
          have e2 := len_rest ho hn j
          rw [show lenD (cN c) (bhd c) (lbl (cN c) (bhd c) (dLf c j)) (dLf c j) = dLen c - j from e2] at e1
          rw [e1, spRest, if_neg (Int32.not_lt.mpr c1), hj2]
        · exact absurd (nI_le (show cN c ≤ k by omega) (by omega)) c23
      | succ q ih =>
        intro k hk
        have vk : vp_in (nI k) 10 := vp_in_nI (by omega) (by decide)
        have ek : (nI k).toNatClampNeg = k := nI_clamp (by omega)
        have step : ∀ x : Int32, x = (if dLf c j k = true then zmask (fun i => decide (i = k)) else 0) → zA (zZ mX7_rest (zQI SH (fun x t => x = spRest c h ∧ (t = σ ∨ FMD t σ)))) mX7_rest none 0 0 44 [some (.ref 47), some (.int h), some (.int (zmask (fun x => decide (x < k) && dLf c j x))), some (.int (nI k))] [.int x, .int (zmask (fun x => decide (x < k) && dLf c j x))] SH t := by
          intro x hx
          refine za_ior (pc := 44) dX7_rest_44 ?_
          refine za_is2n (pc := 45) dX7_rest_45 rfl ?_
          refine za_ii3 (pc := 46) (1) dX7_rest_46 (by decide) rfl ?_
          refine za_goto (pc := 49) 18 dX7_rest_49 (by decide) ?_
          rw [nI_1]
          have em : zmask (fun x => decide (x < k) && dLf c j x) ||| x = zmask (fun x => decide (x < k + 1) && dLf c j x) := by
            rw [hx]
            by_cases h9 : dLf c j k = true
            · rw [if_pos h9, zm_or]
              apply zm_cong
              intro i _
              by_cases e : i = k
              · rw [e]; simp [h9]
              · simp [e]; congr 1; simp; omega
            · rw [if_neg h9, ← zm_0, zm_or]
              apply zm_cong
              intro i _
              by_cases e : i = k
              · rw [e]; simp at h9; simp [h9]
              · simp; congr 1; simp; omega
          rw [em]
          exact ih (k + 1) (by omega)
        refine za_iload_n (pc := 18) dX7_rest_18 rfl ?_
        refine za_aload_n (pc := 19) dX7_rest_19 rfl ?_
        refine za_getI (pc := 20) dX7_rest_20 lk_X7_91 rfl rfl ?_
        rw [tj]
        refine za_icmp_ge (pc := 23) 52 dX7_rest_23 (by decide) (fun c23 => ?_) (fun c23 => ?_)
        · exact absurd c23 (nI_ge (show k < cN c by omega) (by omega))
        · refine za_iload_n (pc := 26) dX7_rest_26 rfl ?_
          refine za_aload_n (pc := 27) dX7_rest_27 rfl ?_
          refine za_getR (pc := 28) dX7_rest_28 lk_X7_52 rfl rfl ?_
          refine za_iload_n (pc := 31) dX7_rest_31 rfl ?_
          refine za_iald (pc := 32) dX7_rest_32 rfl vk ?_
          refine za_iload_n (pc := 33) dX7_rest_33 rfl ?_
          rw [ek, t62 k (by omega)]
          have hd10 : dHr c k ≤ 10 := Nat.le_trans hrD_le hn
          have hcmp : nI (dHr c k) ≤ h ↔ ¬ dLf c j k = true := by
            rw [← hmem k (by omega), fa_le, nI_toInt (Nat.lt_of_le_of_lt hd10 (by decide)), Int.not_lt]
          refine za_icmp_le (pc := 34) 43 dX7_rest_34 (by decide) (fun c34 => ?_) (fun c34 => ?_)
          · refine za_iconst (pc := 43) (0) dX7_rest_43 (by decide) ?_
            exact step 0 (by rw [if_neg (hcmp.mp c34)])
          · refine za_iconst (pc := 37) (1) dX7_rest_37 (by decide) ?_
            refine za_iload_n (pc := 38) dX7_rest_38 rfl ?_
            refine za_ishl (pc := 39) dX7_rest_39 ?_
            refine za_goto (pc := 40) 44 dX7_rest_40 (by decide) ?_
            rw [zm_1 (by omega)]
            exact step _ (by rw [if_pos (Classical.not_not.mp (fun q => c34 (hcmp.mpr q)))])
    have goal := loop (cN c) 0 (by omega)
    have e0 : zmask (fun x => decide (x < 0) && dLf c j x) = 0 := by
      rw [← zm_0]
      exact zm_cong (fun x _ => by simp)
    rw [e0] at goal
    exact goal
  · refine za_iconst (pc := 4) (-1) dX7_rest_4 (by decide) ?_
    refine za_ri (pc := 5) dX7_rest_5 rfl rfl rfl ?_
    exact ⟨by rw [spRest, if_pos (Int32.not_le.mp c1)], Or.inl rfl⟩
