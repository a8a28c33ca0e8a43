/-! THE KEPT DAY of the class: the soonest hours -/
def app (c : Core) (S : Nat → Bool) (a b : Nat) : Prop := ∀ i, i < 16 → (S i && (ndB c a b i || blk a b i)) = (ndB c a b i && !blk a b i)
theorem blk_t {a b i : Nat} : blk a b i = true ↔ i = a ∨ (i = b ∧ i < 10) := by
  unfold blk
  simp
theorem ndB_t {c : Core} {a b i : Nat} : ndB c a b i = true ↔ (bhd c a i = true ∨ ltw c a i = true) ∨ (b ≠ 10 ∧ (bhd c b i = true ∨ ltw c b i = true)) := by
  unfold ndB nd
  simp
section APP
variable {c : Core} {S : Nat → Bool} {a b : Nat}
theorem ndB_n (hc : cOk c) (hv : vB c a b) {i : Nat} (h : ndB c a b i = true) : i < cN c := by
  rcases ndB_t.mp h with (q | q) | ⟨e, q | q⟩
  · exact (bhd_ord hc).1 a i hv.1 q
  · exact (ltw_t.mp q).2.2.1
  · exact (bhd_ord hc).1 b i (by rcases hv.2.2.1 with z | z; (· exact absurd z e); exact z.1) q
  · exact (ltw_t.mp q).2.2.1
theorem app_n (hc : cOk c) (ha : app c S a b) (hv : vB c a b) {i : Nat} (h : ndB c a b i = true) : S i = true ∨ blk a b i = true := by
  have hn := hc.1
  have := ha i (by have := ndB_n hc hv h; omega)
  rw [h] at this
  cases hk : blk a b i with
  | true => exact Or.inr rfl
  | false => rw [hk] at this; left; simpa using this
theorem app_k (hc : cOk c) (ha : app c S a b) (hv : vB c a b) {i : Nat} (h : blk a b i = true) : S i = false := by
  have hn := hc.1
  have hi : i < 16 := by
    have := hv.1
    rcases blk_t.mp h with q | q <;> omega
  have := ha i hi
  rw [h] at this
  simpa using this
theorem app_ok (hc : cOk c) (hS : tc c S) (ha : app c S a b) (hv : vB c a b) {h : Nat} (h1 : max (bN c a) (bN c b) ≤ h) (h2 : h ≤ min (eN c a) (eN c b)) : okU c h S a b ∧ tc c (thn S a b) := by
  have hn := hc.1
  have ir := (bhd_ord hc).2.1
  have ka : blk a b a = true := blk_t.mpr (Or.inl rfl)
  have apart : ∀ i, blk a b i = true → bhd c a i = true → False := fun i hk hr => by
    rcases blk_t.mp hk with q | q
    · rw [q, ir a hv.1] at hr; cases hr
    · rcases hv.2.2.1 with z | z
      · omega
      · rw [q.1, z.2.1] at hr; cases hr
  refine ⟨⟨hv.1, ⟨app_k hc ha hv ka, fun i hi hr => ?_, by omega, by omega⟩, ?_⟩, fun u v tuv hvu hu => ?_⟩
  · exact (app_n hc ha hv (ndB_t.mpr (Or.inl (Or.inl hr)))).resolve_right (fun q => apart i q hr)
  · rcases hv.2.2.1 with z | z
    · exact Or.inl z
    · have kb : blk a b b = true := blk_t.mpr (Or.inr ⟨rfl, by omega⟩)
      refine Or.inr ⟨z.1, by have := hv.2.1; omega, ⟨app_k hc ha hv kb, fun i hi hr => ?_, by omega, by omega⟩, z.2.2.2⟩
      refine (app_n hc ha hv (ndB_t.mpr (Or.inr ⟨by omega, Or.inl hr⟩))).resolve_right (fun q => ?_)
      rcases blk_t.mp q with q | q
      · rw [q, z.2.2.1] at hr; cases hr
      · rw [q.1, ir b z.1] at hr; cases hr
  · have back : ∀ i, S i = true ∨ blk a b i = true → thn S a b i = true := fun i q => by
      rw [thn_t]
      rcases q with q | q
      · exact Or.inl q
      · exact Or.inr (blk_t.mp q)
    rw [thn_t] at hu
    rcases hu with hu | hu | hu
    · exact back v (Or.inl (hS u v tuv hvu hu))
    · subst hu
      exact back v (app_n hc ha hv (ndB_t.mpr (Or.inl (Or.inr (ltw_t.mpr ⟨hvu, tuv⟩)))))
    · obtain ⟨hu, hu10⟩ := hu
      subst hu
      exact back v (app_n hc ha hv (ndB_t.mpr (Or.inr ⟨by omega, Or.inr (ltw_t.mpr ⟨hvu, tuv⟩)⟩)))
theorem app_thn (hc : cOk c) (ha : app c S a b) (hv : vB c a b) : ∀ i, (S i || (ndB c a b i || blk a b i)) = thn S a b i := fun i => by
  rw [Bool.eq_iff_iff, thn_t, ← blk_t]
  simp only [Bool.or_eq_true]
  constructor
  · rintro (h | h | h)
    · exact Or.inl h
    · exact app_n hc ha hv h
    · exact Or.inr h
  · rintro (h | h)
    · exact Or.inl h
    · exact Or.inr (Or.inr h)
theorem ok_vB (hc : cOk c) {h : Nat} (ho : okU c h S a b) (hab : a < b) (h1 : 1 ≤ h) (h64 : h ≤ 64) : vB c a b ∧ max (bN c a) (bN c b) ≤ h ∧ h ≤ min (eN c a) (eN c b) := by
  obtain ⟨o1, o2, o3⟩ := ho
  obtain ⟨-, -, p3, p4, p5, p6, -⟩ := bE_ok hc o1
  have m1 := o2.2.2.1
  have m2 := o2.2.2.2
  rcases o3 with e | ⟨o3, o4, o5, o6⟩
  · have e1 : bN c b = 1 := by rw [e]; exact if_pos rfl
    have e2 : eN c b = 64 := by rw [e]; exact if_pos rfl
    exact ⟨⟨o1, hab, Or.inl e, by omega⟩, by omega, by omega⟩
  · have m3 := o5.2.2.1
    have m4 := o5.2.2.2
    refine ⟨⟨o1, hab, Or.inr ⟨o3, ?_, ?_, o6⟩, by omega⟩, by omega, by omega⟩
    · cases hq : bhd c a b with
      | false => rfl
      | true => have := o2.2.1 b o3 hq; rw [o5.1] at this; cases this
    · cases hq : bhd c b a with
      | false => rfl
      | true => have := o5.2.1 a o1 hq; rw [o2.1] at this; cases this
theorem ok_app (hc : cOk c) {h : Nat} (ho : okU c h S a b) (hv : vB c a b) (ht : tc c (thn S a b)) : app c S a b := by
  intro i hi
  cases hk : blk a b i with
  | true =>
    have : S i = false := by
      rcases blk_t.mp hk with q | q
      · rw [q]; exact ho.2.1.1
      · rcases ho.2.2 with z | z
        · omega
        · rw [q.1]; exact z.2.2.1.1
    rw [this]
    simp
  | false =>
    have nk : ¬ (i = a ∨ (i = b ∧ i < 10)) := fun q => by rw [blk_t.mpr q] at hk; cases hk
    have key : ndB c a b i = true → S i = true := fun q => by
      have hin := ndB_n hc hv q
      have fromT : ∀ u, thn S a b u = true → i < u → tw c u i → S i = true := fun u hu hiu htw => by
        have := ht u i htw hiu hu
        rw [thn_t] at this
        exact this.resolve_right nk
      rcases ndB_t.mp q with (q | q) | ⟨e, q | q⟩
      · exact ho.2.1.2.1 i hin q
      · exact fromT a (thn_t.mpr (Or.inr (Or.inl rfl))) (ltw_t.mp q).1 (ltw_t.mp q).2
      · rcases ho.2.2 with z | z
        · exact absurd z e
        · exact z.2.2.1.2.1 i hin q
      · rcases ho.2.2 with z | z
        · exact absurd z e
        · have hn := hc.1
          have z1 := z.1
          exact fromT b (thn_t.mpr (Or.inr (Or.inr ⟨rfl, by omega⟩))) (ltw_t.mp q).1 (ltw_t.mp q).2
    cases hd : ndB c a b i with
    | true => rw [key hd]; rfl
    | false => simp
theorem mkm_thn (hab : a < b) (hb : b ≤ 10) (h1 : S a = false) (h2 : b = 10 ∨ S b = false) : mkm S 16 < mkm (thn S a b) 16 := by
  by_cases e : b = 10
  · refine mkm_ltI.mpr ⟨a, by omega, h1, thn_t.mpr (Or.inr (Or.inl rfl)), fun j hj _ => ?_⟩
    unfold thn
    have n1 : j ≠ a := by omega
    by_cases e2 : j = b
    · have : ¬ j < 10 := by omega
      simp [n1, this]
    · simp [n1, e2]
  · refine mkm_ltI.mpr ⟨b, by omega, h2.resolve_left e, thn_t.mpr (Or.inr (Or.inr ⟨rfl, by omega⟩)), fun j hj _ => ?_⟩
    unfold thn
    have n1 : j ≠ a := by omega
    have n2 : j ≠ b := by omega
    simp [n1, n2]
end APP
theorem stp_lt {c : Core} (hc : cOk c) {h : Nat} {S T : Nat → Bool} (hs : stp c h S T) : mkm S 16 < mkm T 16 := by
  obtain ⟨x, y, h1, h2, h3⟩ := hs
  obtain ⟨a, b, o1, o2, o3⟩ := ord_of hc h1
  have hn := hc.1
  have hb : b ≤ 10 := by rcases okU_y o1 with q | q <;> omega
  rw [h2, ← o3]
  exact mkm_thn o2 hb o1.2.1.1 (o1.2.2.elim Or.inl (fun z => Or.inr z.2.2.1.1))
theorem stp_sup {c : Core} {h : Nat} {S T : Nat → Bool} (hS : ∀ i, S i = true → i < cN c) (hs : stp c h S T) : ∀ i, T i = true → i < cN c := by
  obtain ⟨x, y, h1, h2, h3⟩ := hs
  rw [h2]
  exact thn_sup hS h1
def SN (σ : zSt) (c : Core) (g : Nat → Nat) : Prop := (∀ j, j < 2 ^ cN c → σ 30 j = nI (g j) ∧ g j ≤ 64) ∧ g 0 = 0 ∧ ∀ S : Nat → Bool, (∀ i, S i = true → i < cN c) → g (mkm S 16) < 64 → Fw c (g (mkm S 16)) S
def SC (c : Core) (g : Nat → Nat) (D : Nat) : Prop := ∀ S : Nat → Bool, (∀ i, S i = true → i < cN c) → mkm S 16 < D → g (mkm S 16) < 64 → ∀ (h : Nat) (T : Nat → Bool), g (mkm S 16) + 1 ≤ h → stp c h S T → g (mkm T 16) ≤ h
theorem tX0_goOnFrom {σ : zSt} {c : Core} {nb : Nat} {f g : Nat → Nat} {S : Nat → Bool} (hc : cOk c) (hB : BTI σ c nb f 121) (h55 : nb ≤ 55) (hS : ∀ i, S i = true → i < cN c) (hN : SN σ c g) (hC : SC c g (mkm S 16)) (hg : g (mkm S 16) < 64) : zV mX0_goOnFrom [.ref 22, .int (zmask S)] SH σ (fun t => ∃ g', SN t c g' ∧ SC c g' (mkm S 16 + 1) ∧ ∀ d, d ≠ 30 → t d = σ d) := by
  have hn := hc.1
  have hp := pw10 hn
  have hF : Fw c (g (mkm S 16)) S := hN.2.2 S hS hg
  have hT := Fw_tc hF
  have hm := mkm_n hS
  obtain ⟨G, hG⟩ : ∃ G, G = g (mkm S 16) := ⟨_, rfl⟩
  rw [← hG] at hg hF
  have ez : (zmask S).toNatClampNeg = mkm S 16 := nI_clamp (by omega)
  have vz : vp_in (zmask S) 1024 := vp_in_nI (show mkm S 16 < 1024 by omega) (by decide)
  have loop : ∀ (q p : Nat) (u : zSt) (g1 : Nat → Nat) (x3 x4 : Option Value), p + q = nb → SN u c g1 → SC c g1 (mkm S 16) → g1 (mkm S 16) = G → (∀ j, j < p → app c S (f j / 11) (f j % 11) → max (G + 1) (max (bN c (f j / 11)) (bN c (f j % 11))) ≤ min (eN c (f j / 11)) (eN c (f j % 11)) → g1 (mkm (thn S (f j / 11) (f j % 11)) 16) ≤ max (G + 1) (max (bN c (f j / 11)) (bN c (f j % 11)))) → (∀ d, d ≠ 30 → u d = σ d) → zA (zZ mX0_goOnFrom (zQV SH (fun t => ∃ g', SN t c g' ∧ SC c g' (mkm S 16 + 1) ∧ ∀ d, d ≠ 30 → t d = σ d))) mX0_goOnFrom none 0 0 2 [some (.ref 22), some (.int (zmask S)), some (.int (nI p)), x3, x4] [] SH u := by
    intro q
    induction q with
    | zero =>
      intro p u g1 x3 x4 hp1 u1 u2 u3 u4 u5
      refine za_iload_n (pc := 2) dX0_goOnFrom_2 rfl ?_
      refine za_aload_n (pc := 3) dX0_goOnFrom_3 rfl ?_
      refine za_getI (pc := 4) dX0_goOnFrom_4 lk_X0_37 rfl rfl ?_
      rw [u5 22 (by decide), hB.1]
      refine za_icmp_ge (pc := 7) 90 dX0_goOnFrom_7 (by decide) (fun c7 => ?_) (fun c7 => ?_)
      · refine za_rv (pc := 90) dX0_goOnFrom_90 rfl rfl rfl ?_
        refine ⟨g1, u1, fun S' hS' hlt hg' h T hh hs => ?_, u5⟩
        rcases Nat.lt_or_eq_of_le (Nat.le_of_lt_succ hlt) with e | e
        · exact u2 S' hS' e hg' h T hh hs
        · have : S' = S := mkm_inj (fun x hx => by have := hS' x hx; omega) (fun x hx => by have := hS x hx; omega) e
          subst this
          rw [u3] at hh
          rcases Nat.lt_or_ge 64 h with e64 | e64
          · have hm' := mkm_n (stp_sup hS hs)
            have := (u1.1 _ hm').2
            omega
          obtain ⟨x, y, h1, h2, h3⟩ := hs
          obtain ⟨a, b, o1, o2, o3⟩ := ord_of hc h1
          rw [← o3] at h2
          subst h2
          obtain ⟨w1, w2, w3⟩ := ok_vB hc o1 o2 (by omega) e64
          have b10 := vB_10 hc w1
          have ha := ok_app hc o1 w1 h3
          have hlim : 11 * a + b < 121 := by have := w1.1; omega
          obtain ⟨j, j1, j2⟩ := hB.2.2.2 a b w1 hlim
          have e1 : f j / 11 = a := by rw [j2]; exact (cd_ab (by omega)).1
          have e2 : f j % 11 = b := by rw [j2]; exact (cd_ab (by omega)).2
          have := u4 j (by omega)
          rw [e1, e2] at this
          have := this ha (by omega)
          omega
      · exact absurd (nI_le (show nb ≤ p by omega) (by omega)) c7
    | succ q ih =>
      intro p u g1 x3 x4 hp1 u1 u2 u3 u4 u5
      have hpn : p < nb := by omega
      obtain ⟨⟨r1, r2, r3, r4, r5⟩, hv, -⟩ := hB.2.1 p hpn
      generalize ea : f p / 11 = a at *
      generalize eb : f p % 11 = b at *
      have b10 := vB_10 hc hv
      obtain ⟨-, -, p3, p4, p5, p6, -⟩ := bE_ok hc hv.1
      have bB : bN c b ≤ 40 := by
        rcases hv.2.2.1 with z | z
        · rw [z, show bN c 10 = 1 from if_pos rfl]; decide
        · exact (bE_ok hc z.1).2.2.2.1
      have vp : vp_in (nI p) 55 := vp_in_nI (by omega) (by decide)
      have ep : (nI p).toNatClampNeg = p := nI_clamp (by omega)
      have sG : u 30 (mkm S 16) = nI G := by rw [(u1.1 _ hm).1, u3]
      have next : ∀ (u' : zSt) (g2 : Nat → Nat) (x3 x4 : Option Value), SN u' c g2 → SC c g2 (mkm S 16) → g2 (mkm S 16) = G → (∀ j, j < p → g2 (mkm (thn S (f j / 11) (f j % 11)) 16) ≤ g1 (mkm (thn S (f j / 11) (f j % 11)) 16)) → (app c S a b → max (G + 1) (max (bN c a) (bN c b)) ≤ min (eN c a) (eN c b) → g2 (mkm (thn S a b) 16) ≤ max (G + 1) (max (bN c a) (bN c b))) → (∀ d, d ≠ 30 → u' d = σ d) → zA (zZ mX0_goOnFrom (zQV SH (fun t => ∃ g', SN t c g' ∧ SC c g' (mkm S 16 + 1) ∧ ∀ d, d ≠ 30 → t d = σ d))) mX0_goOnFrom none 0 0 84 [some (.ref 22), some (.int (zmask S)), some (.int (nI p)), x3, x4] [] SH u' := by
        intro u' g2 x3 x4 k1 k2 k3 k4 k5 k6
        refine za_ii2 (pc := 84) (1) dX0_goOnFrom_84 (by decide) rfl ?_
        refine za_goto (pc := 87) 2 dX0_goOnFrom_87 (by decide) ?_
        rw [nI_1]
        refine ih (p + 1) u' g2 x3 x4 (by omega) k1 k2 k3 (fun j hj y1 y2 => ?_) k6
        rcases Nat.lt_or_eq_of_le (Nat.le_of_lt_succ hj) with e | e
        · exact Nat.le_trans (k4 j e) (u4 j e y1 y2)
        · subst e
          rw [ea, eb] at y1 y2 ⊢
          exact k5 y1 y2
      refine za_iload_n (pc := 2) dX0_goOnFrom_2 rfl ?_
      refine za_aload_n (pc := 3) dX0_goOnFrom_3 rfl ?_
      refine za_getI (pc := 4) dX0_goOnFrom_4 lk_X0_37 rfl rfl ?_
      rw [u5 22 (by decide), hB.1]
      refine za_icmp_ge (pc := 7) 90 dX0_goOnFrom_7 (by decide) (fun c7 => ?_) (fun c7 => ?_)
      · exact absurd c7 (nI_ge hpn (by omega))
      refine za_fg (ls' := [some (.ref 22), some (.int (zmask S)), some (.int (nI p)), none, none]) (by simp [zSub]) ?_
      refine za_iload_n (pc := 10) dX0_goOnFrom_10 rfl ?_
      refine za_aload_n (pc := 11) dX0_goOnFrom_11 rfl ?_
      refine za_getR (pc := 12) dX0_goOnFrom_12 lk_X0_25 rfl rfl ?_
      refine za_iload_n (pc := 15) dX0_goOnFrom_15 rfl ?_
      refine za_iald (pc := 16) dX0_goOnFrom_16 rfl vp ?_
      refine za_iand (pc := 17) dX0_goOnFrom_17 ?_
      refine za_aload_n (pc := 18) dX0_goOnFrom_18 rfl ?_
      refine za_getR (pc := 19) dX0_goOnFrom_19 lk_X0_22 rfl rfl ?_
      refine za_iload_n (pc := 22) dX0_goOnFrom_22 rfl ?_
      refine za_iald (pc := 23) dX0_goOnFrom_23 rfl vp ?_
      rw [ep, u5 26 (by decide), u5 25 (by decide), r1, r2, zm_and]
      refine za_icmp_ne (pc := 24) 84 dX0_goOnFrom_24 (by decide) (fun c24 => ?_) (fun c24 => ?_)
      · rw [zm_eq] at c24
        exact next u g1 _ _ u1 u2 u3 (fun _ _ => Nat.le_refl _) (fun q => absurd q c24) u5
      rw [zm_eq] at c24
      have ha : app c S a b := c24
      have hsup : ∀ i, thn S a b i = true → i < cN c := fun i hi => by
        rw [thn_t] at hi
        rcases hi with hi | hi | hi
        · exact hS i hi
        · rw [hi]; exact hv.1
        · rcases hv.2.2.1 with z | z
          · omega
          · rw [hi.1]; exact z.1
      have hmT := mkm_n hsup
      have hlt : mkm S 16 < mkm (thn S a b) 16 := mkm_thn hv.2.1 b10 (app_k hc ha hv (blk_t.mpr (Or.inl rfl))) (by
        rcases hv.2.2.1 with z | z
        · exact Or.inl z
        · exact Or.inr (app_k hc ha hv (blk_t.mpr (Or.inr ⟨rfl, by have := z.1; omega⟩))))
      obtain ⟨gT, hgT⟩ := u1.1 _ hmT
      have eT : (zmask (thn S a b)).toNatClampNeg = mkm (thn S a b) 16 := nI_clamp (by omega)
      have vT : vp_in (zmask (thn S a b)) 1024 := vp_in_nI (show mkm (thn S a b) 16 < 1024 by omega) (by decide)
      refine za_aload_n (pc := 27) dX0_goOnFrom_27 rfl ?_
      refine za_getR (pc := 28) dX0_goOnFrom_28 lk_X0_40 rfl rfl ?_
      refine za_iload_n (pc := 31) dX0_goOnFrom_31 rfl ?_
      refine za_iald (pc := 32) dX0_goOnFrom_32 rfl vz ?_
      refine za_iconst (pc := 33) (1) dX0_goOnFrom_33 (by decide) ?_
      refine za_iadd (pc := 34) dX0_goOnFrom_34 ?_
      refine za_aload_n (pc := 35) dX0_goOnFrom_35 rfl ?_
      refine za_getR (pc := 36) dX0_goOnFrom_36 lk_X0_28 rfl rfl ?_
      refine za_iload_n (pc := 39) dX0_goOnFrom_39 rfl ?_
      refine za_iald (pc := 40) dX0_goOnFrom_40 rfl vp ?_
      rw [ez, ep, sG, u5 27 (by decide), r3, nI_1]
      refine za_cS2i (pc := 41) (μ' := mJ9_max_7cf53) dX0_goOnFrom_41 c_X0_120 rfl ⟨rfl, rfl⟩ ⟨rfl, rfl⟩ rfl rfl rfl (tJ9_max_7cf53) (fun x_41 t_41 h_41 => ?_)
      obtain ⟨rfl, h9⟩ := h_41
      have h9 := h9.symm
      subst h9
      rw [nI_max (by omega) (by omega)]
      refine za_is3n (pc := 44) dX0_goOnFrom_44 rfl ?_
      refine za_iload_n (pc := 45) dX0_goOnFrom_45 rfl ?_
      refine za_aload_n (pc := 46) dX0_goOnFrom_46 rfl ?_
      refine za_getR (pc := 47) dX0_goOnFrom_47 lk_X0_25 rfl rfl ?_
      refine za_iload_n (pc := 50) dX0_goOnFrom_50 rfl ?_
      refine za_iald (pc := 51) dX0_goOnFrom_51 rfl vp ?_
      rw [ep, u5 26 (by decide), r2]
      refine za_ior (pc := 52) dX0_goOnFrom_52 ?_
      rw [zm_or, show zmask (fun i => S i || (ndB c a b i || blk a b i)) = zmask (thn S a b) from zm_cong (fun i _ => app_thn hc ha hv i)]
      refine za_is4 (pc := 53) dX0_goOnFrom_53 rfl ?_
      refine za_iload_n (pc := 55) dX0_goOnFrom_55 rfl ?_
      refine za_aload_n (pc := 56) dX0_goOnFrom_56 rfl ?_
      refine za_getR (pc := 57) dX0_goOnFrom_57 lk_X0_31 rfl rfl ?_
      refine za_iload_n (pc := 60) dX0_goOnFrom_60 rfl ?_
      refine za_iald (pc := 61) dX0_goOnFrom_61 rfl vp ?_
      rw [ep, u5 28 (by decide), r4]
      obtain ⟨hh, hhd⟩ : ∃ hh, hh = max (G + 1) (max (bN c a) (bN c b)) := ⟨_, rfl⟩
      obtain ⟨E, hE⟩ : ∃ E, E = min (eN c a) (eN c b) := ⟨_, rfl⟩
      rw [← hhd, ← hE]
      refine za_icmp_gt (pc := 62) 84 dX0_goOnFrom_62 (by decide) (fun c62 => ?_) (fun c62 => ?_)
      · rw [nI_ltI (by omega) (by omega)] at c62
        exact next u g1 _ _ u1 u2 u3 (fun _ _ => Nat.le_refl _) (fun _ q => by omega) u5
      rw [nI_ltI (by omega) (by omega)] at c62
      refine za_iload_n (pc := 65) dX0_goOnFrom_65 rfl ?_
      refine za_aload_n (pc := 66) dX0_goOnFrom_66 rfl ?_
      refine za_getR (pc := 67) dX0_goOnFrom_67 lk_X0_40 rfl rfl ?_
      refine za_iload (pc := 70) dX0_goOnFrom_70 rfl ?_
      refine za_iald (pc := 72) dX0_goOnFrom_72 rfl vT ?_
      rw [eT, gT]
      refine za_icmp_ge (pc := 73) 84 dX0_goOnFrom_73 (by decide) (fun c73 => ?_) (fun c73 => ?_)
      · rw [nI_leI (by omega) (by omega)] at c73
        exact next u g1 _ _ u1 u2 u3 (fun _ _ => Nat.le_refl _) (fun _ _ => by omega) u5
      rw [nI_leI (by omega) (by omega)] at c73
      refine za_aload_n (pc := 76) dX0_goOnFrom_76 rfl ?_
      refine za_getR (pc := 77) dX0_goOnFrom_77 lk_X0_40 rfl rfl ?_
      refine za_iload (pc := 80) dX0_goOnFrom_80 rfl ?_
      refine za_iload_n (pc := 82) dX0_goOnFrom_82 rfl ?_
      refine za_iast (pc := 83) dX0_goOnFrom_83 rfl vT ?_
      rw [eT]
      obtain ⟨ok1, ok2⟩ := app_ok hc hT ha hv (h := hh) (by omega) (by omega)
      have gle : ∀ j, (if j = mkm (thn S a b) 16 then hh else g1 j) ≤ g1 j := fun j => by
        by_cases e : j = mkm (thn S a b) 16
        · rw [if_pos e, e]; omega
        · rw [if_neg e]; exact Nat.le_refl _
      refine next _ (fun j => if j = mkm (thn S a b) 16 then hh else g1 j) _ _ ⟨fun j hj => ?_, ?_, fun S' hS' hlt' => ?_⟩ (fun S' hS' hlt' hg' h T h1 h2 => ?_) ?_ (fun j _ => gle _) (fun _ _ => ?_) (fun d hd => by rw [zup_n hd]; exact u5 d hd)
      · by_cases e : j = mkm (thn S a b) 16
        · subst e
          rw [zup_a]
          simp only [if_pos]
          exact ⟨trivial, by omega⟩
        · rw [zup_b e]
          simp only [if_neg e]
          exact u1.1 j hj
      · have : (0 : Nat) ≠ mkm (thn S a b) 16 := by omega
        simp only [if_neg this]
        exact u1.2.1
      · by_cases e : mkm S' 16 = mkm (thn S a b) 16
        · have e2 : S' = thn S a b := mkm_inj (fun x hx => by have := hS' x hx; omega) (fun x hx => by have := hsup x hx; omega) e
          simp only [if_pos e]
          rw [e2]
          have hf := Fw_le hF (show G ≤ hh - 1 by omega)
          rw [show hh = hh - 1 + 1 by omega]
          exact Or.inr ⟨S, hf, a, b, by rw [show hh - 1 + 1 = hh by omega]; exact ok1, rfl, ok2⟩
        · simp only [if_neg e] at hlt' ⊢
          exact u1.2.2 S' hS' hlt'
      · have e : mkm S' 16 ≠ mkm (thn S a b) 16 := by omega
        simp only [if_neg e] at hg' h1
        exact Nat.le_trans (gle _) (u2 S' hS' hlt' hg' h T h1 h2)
      · have e : mkm S 16 ≠ mkm (thn S a b) 16 := by omega
        simp only [if_neg e]
        exact u3
      · simp only [if_pos]
        omega
  refine zV_of (ls := [some (.ref 22), some (.int (zmask S)), none, none, none]) (by decide) rfl rfl ?_
  refine za_iconst (pc := 0) (0) dX0_goOnFrom_0 (by decide) ?_
  refine za_is2n (pc := 1) dX0_goOnFrom_1 rfl ?_
  exact loop nb 0 σ g _ _ (by omega) hN hC hG.symm (fun j hj => by omega) (fun _ _ => rfl)
