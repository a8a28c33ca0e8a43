/-! THE KEPT DAY of the reference: the best that an hour may hold -/
def LRow (σ : zSt) (c : Core) (h : Nat) : Prop := ∀ S : Nat → Bool, (∀ i, S i = true → i < cN c) → ∃ v, σ 65 (1024 * h + mkm S 16) = nI v ∧ Vl c h S v
def BS (σ u : zSt) (c : Core) (h : Nat) (S : Nat → Bool) (v k : Nat) (T : Nat → Bool) (P : Nat → Nat → Prop) : Prop := (∀ d, d ≠ 47 → u d = σ d) ∧ (∀ i, i ≠ 26 → i ≠ 27 → u 47 i = σ 47 i) ∧ u 47 26 = nI k ∧ u 47 27 = zmask T ∧ (∀ i, T i = true → i < cN c) ∧ Best c h S v k T P
theorem Best_k {c : Core} {h v k : Nat} {S T : Nat → Bool} {P : Nat → Nat → Prop} (hb : Best c h S v k T P) : k ≤ 120 ∧ v ≤ 99 := ⟨by rcases hb.1 with q | q <;> omega, Vl_99 hb.2.1⟩
theorem Best_mono {c : Core} {h v k : Nat} {S T : Nat → Bool} {P P' : Nat → Nat → Prop} (hb : Best c h S v k T P) (hp : ∀ a b, okU c (h + 1) S a b → a < b → P' a b → P a b) : Best c h S v k T P' := ⟨hb.1, hb.2.1, hb.2.2.1, fun a b h1 h2 h3 w hw => hb.2.2.2 a b h1 h2 (hp a b h1 h2 h3) w hw⟩
theorem BS_mono {σ u : zSt} {c : Core} {h v k : Nat} {S T : Nat → Bool} {P P' : Nat → Nat → Prop} (hb : BS σ u c h S v k T P) (hp : ∀ a b, okU c (h + 1) S a b → a < b → P' a b → P a b) : BS σ u c h S v k T P' := ⟨hb.1, hb.2.1, hb.2.2.1, hb.2.2.2.1, hb.2.2.2.2.1, Best_mono hb.2.2.2.2.2 hp⟩
theorem MCore_cong {σ t : zSt} {c : Core} (h : MCore σ c) (e : ∀ d, 51 ≤ d → d < 56 → t d = σ d) (e3 : t 47 3 = σ 47 3) : MCore t c := by
  refine ⟨e3.trans h.1, fun a ha => ?_⟩
  rw [e 51 (by decide) (by decide), e 52 (by decide) (by decide), e 53 (by decide) (by decide), e 54 (by decide) (by decide), e 55 (by decide) (by decide)]
  exact h.2 a ha
theorem zm_or0 {p : Nat → Bool} : zmask p ||| 0 = zmask p := by
  rw [← zm_0, zm_or]
  exact zm_cong (fun i _ => by simp)
theorem tX7_bestOf {σ : zSt} {c : Core} {h : Nat} {S : Nat → Bool} (hM : MCore σ c) (hc : cOk c) (hb : ∀ a, a < cN c → σ 59 a = zmask (bhd c a)) (hh : h + 1 ≤ 60) (hS : ∀ i, S i = true → i < cN c) (hL : LRow σ c (h + 1)) : zI mX7_bestOf [.ref 47, .int (nI (h + 1)), .int (zmask S)] SH σ (fun x t => ∃ v k T, x = nI v ∧ BS σ t c h S v k T (fun _ _ => True)) := by
  have hn := hc.1
  have hp := pw10 hn
  have eI : ∀ T : Nat → Bool, (1024 : Int32) * nI (h + 1) + zmask T = nI (1024 * (h + 1) + mkm T 16) := fun T => m1024
  have iB : ∀ T : Nat → Bool, (∀ i, T i = true → i < cN c) → 1024 * (h + 1) + mkm T 16 < 62464 := fun T hT => by have := mkm_n hT; omega
  generalize hQ : (zQI SH (fun x t => ∃ v k T, x = nI v ∧ BS σ t c h S v k T (fun _ _ => True))) = Q
  have fin : ∀ (u : zSt) (v k : Nat) (T : Nat → Bool), BS σ u c h S v k T (fun _ _ => True) → Q (some (.int (nI v))) SH u := fun u v k T hu => by
    rw [← hQ]
    exact ⟨_, rfl, rfl, v, k, T, rfl, hu⟩
  obtain ⟨v0, e0, w0⟩ := hL S hS
  have outer : ∀ (q a : Nat) (u : zSt) (v k : Nat) (T : Nat → Bool), a + q = cN c → BS σ u c h S v k T (fun a' _ => a' < a) → zA (zZ mX7_bestOf Q) mX7_bestOf none 0 0 30 [some (.ref 47), some (.int (nI (h + 1))), some (.int (zmask S)), some (.int ((1024 : Int32) * nI (h + 1))), some (.int (nI v)), some (.int (nI a)), none, none, none, none, none] [] SH u := by
    intro q
    induction q with
    | zero =>
      intro a u v k T ha hu
      have uj : u 47 3 = nI (cN c) := by rw [hu.2.1 3 (by decide) (by decide)]; exact hM.1
      refine za_iload (pc := 30) dX7_bestOf_30 rfl ?_
      refine za_aload_n (pc := 32) dX7_bestOf_32 rfl ?_
      refine za_getI (pc := 33) dX7_bestOf_33 lk_X7_91 rfl rfl ?_
      rw [uj]
      refine za_icmp_ge (pc := 36) 211 dX7_bestOf_36 (by decide) (fun c36 => ?_) (fun c36 => ?_)
      · have hf := fin u v k T (BS_mono hu (fun a' b' h1 _ _ => by have := h1.1; omega))
        rw [← hQ] at hf ⊢
        refine za_iload (pc := 211) dX7_bestOf_211 rfl ?_
        refine za_ri (pc := 213) dX7_bestOf_213 rfl rfl rfl ?_
        obtain ⟨x, h1, h2, h3⟩ := hf
        cases h1
        exact h3
      · exact absurd (nI_le (show cN c ≤ a by omega) (by omega)) c36
    | succ q ih =>
      intro a u v k T ha hu
      have hac : a < cN c := by omega
      have uM : ∀ u', (∀ d, d ≠ 47 → u' d = σ d) → (∀ i, i ≠ 26 → i ≠ 27 → u' 47 i = σ 47 i) → MCore u' c ∧ u' 47 3 = nI (cN c) ∧ (∀ a, a < cN c → u' 59 a = zmask (bhd c a)) := fun u' h1 h2 => ⟨MCore_cong hM (fun d _ _ => h1 d (by omega)) (h2 3 (by decide) (by decide)), by rw [h2 3 (by decide) (by decide)]; exact hM.1, fun a ha => by rw [h1 59 (by decide)]; exact hb a ha⟩
      obtain ⟨um, uj, ub⟩ := uM u hu.1 hu.2.1
      have skipA : ∀ (u' : zSt) (v' k' : Nat) (T' : Nat → Bool) (x6 x7 x8 x9 x10 : Option Value), BS σ u' c h S v' k' T' (fun a' _ => a' < a + 1) → zA (zZ mX7_bestOf Q) mX7_bestOf none 0 0 205 [some (.ref 47), some (.int (nI (h + 1))), some (.int (zmask S)), some (.int ((1024 : Int32) * nI (h + 1))), some (.int (nI v')), some (.int (nI a)), x6, x7, x8, x9, x10] [] SH u' := by
        intro u' v' k' T' x6 x7 x8 x9 x10 hu'
        refine za_ii5 (pc := 205) (1) dX7_bestOf_205 (by decide) rfl ?_
        refine za_goto (pc := 208) 30 dX7_bestOf_208 (by decide) ?_
        rw [nI_1]
        exact za_fg (by simp [zSub]) (ih (a + 1) u' v' k' T' (by omega) hu')
      refine za_iload (pc := 30) dX7_bestOf_30 rfl ?_
      refine za_aload_n (pc := 32) dX7_bestOf_32 rfl ?_
      refine za_getI (pc := 33) dX7_bestOf_33 lk_X7_91 rfl rfl ?_
      rw [uj]
      refine za_icmp_ge (pc := 36) 211 dX7_bestOf_36 (by decide) (fun c36 => ?_) (fun c36 => ?_)
      · exact absurd c36 (nI_ge (show a < cN c by omega) (by omega))
      refine za_aload_n (pc := 39) dX7_bestOf_39 rfl ?_
      refine za_iload (pc := 40) dX7_bestOf_40 rfl ?_
      refine za_iload_n (pc := 42) dX7_bestOf_42 rfl ?_
      refine za_iload_n (pc := 43) dX7_bestOf_43 rfl ?_
      refine za_cV3i (pc := 44) (μ' := mX7_may) dX7_bestOf_44 c_X7_183 rfl rfl rfl ⟨rfl, rfl⟩ ⟨rfl, rfl⟩ rfl rfl rfl (tX7_may um hc hac (ub a hac) (by omega) hh) (fun x_44 t_44 h_44 => ?_)
      obtain ⟨o1, o2⟩ := h_44
      have o2 := o2.symm
      subst o2
      rcases o1 with ⟨rfl, hmay⟩ | ⟨rfl, hmay⟩
      · refine za_if_eq (pc := 47) 205 dX7_bestOf_47 (by decide) (fun c47 => ?_) (fun c47 => ?_)
        · exact absurd c47 (by decide)
        have inner : ∀ (q b : Nat) (u : zSt) (v k : Nat) (T : Nat → Bool), b + q = cN c + 1 → a < b → BS σ u c h S v k T (fun a' b' => a' < a ∨ (a' = a ∧ (b' < b ∨ b = cN c + 1))) → zA (zZ mX7_bestOf Q) mX7_bestOf none 0 0 56 [some (.ref 47), some (.int (nI (h + 1))), some (.int (zmask S)), some (.int ((1024 : Int32) * nI (h + 1))), some (.int (nI v)), some (.int (nI a)), some (.int (nI b)), none, none, none, none] [] SH u := by
          intro q
          induction q with
          | zero =>
            intro b u v k T hb1 hab hu
            obtain ⟨um, uj, ub⟩ := uM u hu.1 hu.2.1
            refine za_iload (pc := 56) dX7_bestOf_56 rfl ?_
            refine za_aload_n (pc := 58) dX7_bestOf_58 rfl ?_
            refine za_getI (pc := 59) dX7_bestOf_59 lk_X7_91 rfl rfl ?_
            rw [uj]
            refine za_icmp_gt (pc := 62) 205 dX7_bestOf_62 (by decide) (fun c62 => ?_) (fun c62 => ?_)
            · exact skipA u v k T _ _ _ _ _ (BS_mono hu (fun a' b' _ _ h3 => by omega))
            · exact absurd (nI_lt (show cN c < b by omega) (by omega)) c62
          | succ q ih2 =>
            intro b u v k T hb1 hab hu
            obtain ⟨um, uj, ub⟩ := uM u hu.1 hu.2.1
            obtain ⟨f1, f2, f3, f4, f5, f6⟩ := hu
            obtain ⟨kb, vb⟩ := Best_k f6
            have next : ∀ (u' : zSt) (v' k' : Nat) (T' : Nat → Bool) (x7 x8 x9 x10 : Option Value), BS σ u' c h S v' k' T' (fun a' b' => a' < a ∨ (a' = a ∧ (b' < b + 1 ∨ b + 1 = cN c + 1))) → zA (zZ mX7_bestOf Q) mX7_bestOf none 0 0 199 [some (.ref 47), some (.int (nI (h + 1))), some (.int (zmask S)), some (.int ((1024 : Int32) * nI (h + 1))), some (.int (nI v')), some (.int (nI a)), some (.int (nI b)), x7, x8, x9, x10] [] SH u' := by
              intro u' v' k' T' x7 x8 x9 x10 hu'
              refine za_ii6 (pc := 199) (1) dX7_bestOf_199 (by decide) rfl ?_
              refine za_goto (pc := 202) 56 dX7_bestOf_202 (by decide) ?_
              rw [nI_1]
              exact za_fg (by simp [zSub]) (ih2 (b + 1) u' v' k' T' (by omega) (by omega) hu')
            -- no such block
            have skip : ∀ (x7 x8 x9 x10 : Option Value), b < cN c → ¬ okU c (h + 1) S a b → zA (zZ mX7_bestOf Q) mX7_bestOf none 0 0 199 [some (.ref 47), some (.int (nI (h + 1))), some (.int (zmask S)), some (.int ((1024 : Int32) * nI (h + 1))), some (.int (nI v)), some (.int (nI a)), some (.int (nI b)), x7, x8, x9, x10] [] SH u := by
              intro x7 x8 x9 x10 hbn hno
              refine next u v k T _ _ _ _ ⟨f1, f2, f3, f4, f5, Best_mono f6 (fun a' b' h1 h2 h3 => ?_)⟩
              rcases h3 with h3 | ⟨h3, h4⟩
              · exact Or.inl h3
              · refine Or.inr ⟨h3, Or.inl ?_⟩
                rcases Nat.lt_trichotomy b' b with q | q | q
                · exact q
                · subst h3; subst q; exact absurd h1 hno
                · omega
            have cmp : ∀ (b' w : Nat) (x7 : Option Value), ((b' = 10 ∧ b = cN c) ∨ (b' = b ∧ b < cN c)) → okU c (h + 1) S a b' → Vl c (h + 1) (thn S a b') w → zA (zZ mX7_bestOf Q) mX7_bestOf none 0 0 160 [some (.ref 47), some (.int (nI (h + 1))), some (.int (zmask S)), some (.int ((1024 : Int32) * nI (h + 1))), some (.int (nI v)), some (.int (nI a)), some (.int (nI b)), x7, some (.int (zmask (thn S a b'))), some (.int (nI w)), some (.int (nI (11 * a + b')))] [] SH u := by
              intro b' w x7 hb' hok hw
              have w99 := Vl_99 hw
              have hab' : a < b' ∧ b' ≤ 10 := by omega
              have newP : ∀ a1 b1, okU c (h + 1) S a1 b1 → (a1 < a ∨ (a1 = a ∧ (b1 < b + 1 ∨ b + 1 = cN c + 1))) → (a1 < a ∨ (a1 = a ∧ (b1 < b ∨ b = cN c + 1))) ∨ (a1 = a ∧ b1 = b') := fun a1 b1 o1 o2 => by
                rcases okU_y o1 with q | q <;> omega
              have keep : (v < w ∨ (v = w ∧ k ≤ 11 * a + b')) → zA (zZ mX7_bestOf Q) mX7_bestOf none 0 0 199 [some (.ref 47), some (.int (nI (h + 1))), some (.int (zmask S)), some (.int ((1024 : Int32) * nI (h + 1))), some (.int (nI v)), some (.int (nI a)), some (.int (nI b)), x7, some (.int (zmask (thn S a b'))), some (.int (nI w)), some (.int (nI (11 * a + b')))] [] SH u := by
                intro hvw
                refine next u v k T _ _ _ _ ⟨f1, f2, f3, f4, f5, f6.1, f6.2.1, f6.2.2.1, fun a1 b1 o1 o2 o3 w1 hw1 => ?_⟩
                rcases newP a1 b1 o1 o3 with q | ⟨rfl, rfl⟩
                · exact f6.2.2.2 a1 b1 o1 o2 q w1 hw1
                · rw [← Vl_un hw hw1]; exact hvw
              have take : (w < v ∨ (v = w ∧ 11 * a + b' < k)) → zA (zZ mX7_bestOf Q) mX7_bestOf none 0 0 183 [some (.ref 47), some (.int (nI (h + 1))), some (.int (zmask S)), some (.int ((1024 : Int32) * nI (h + 1))), some (.int (nI v)), some (.int (nI a)), some (.int (nI b)), x7, some (.int (zmask (thn S a b'))), some (.int (nI w)), some (.int (nI (11 * a + b')))] [] SH u := by
                intro hvw
                refine za_iload (pc := 183) dX7_bestOf_183 rfl ?_
                refine za_is4 (pc := 185) dX7_bestOf_185 rfl ?_
                refine za_aload_n (pc := 187) dX7_bestOf_187 rfl ?_
                refine za_iload (pc := 188) dX7_bestOf_188 rfl ?_
                refine za_putI (pc := 190) dX7_bestOf_190 lp_X7_177 rfl rfl ?_
                refine za_aload_n (pc := 193) dX7_bestOf_193 rfl ?_
                refine za_iload (pc := 194) dX7_bestOf_194 rfl ?_
                refine za_putI (pc := 196) dX7_bestOf_196 lp_X7_180 rfl rfl ?_
                refine next _ w (11 * a + b') (thn S a b') _ _ _ _ ⟨fun d hd => ?_, fun i h1 h2 => ?_, ?_, ?_, thn_sup hS hok, ?_, hw, fun w1 hw1 => ?_, fun a1 b1 o1 o2 o3 w1 hw1 => ?_⟩
                · rw [zup_n hd, zup_n hd]; exact f1 d hd
                · rw [zup_b h2, zup_b h1]; exact f2 i h1 h2
                · rw [zup_b (by decide), zup_a]
                · rw [zup_a]
                · rw [(cd_ab (a := a) (b := b') (by omega)).1, (cd_ab (a := a) (b := b') (by omega)).2]
                  exact Or.inr ⟨by omega, hab'.1, hok, rfl⟩
                · have := f6.2.2.1 w1 hw1; omega
                · rcases newP a1 b1 o1 o3 with q | ⟨rfl, rfl⟩
                  · have := f6.2.2.2 a1 b1 o1 o2 q w1 hw1; omega
                  · rw [← Vl_un hw hw1]; exact Or.inr ⟨rfl, Nat.le_refl _⟩
              refine za_iload (pc := 160) dX7_bestOf_160 rfl ?_
              refine za_iload (pc := 162) dX7_bestOf_162 rfl ?_
              refine za_icmp_lt (pc := 164) 183 dX7_bestOf_164 (by decide) (fun c164 => ?_) (fun c164 => ?_)
              · rw [nI_ltI (by omega) (by omega)] at c164
                exact take (Or.inl c164)
              rw [nI_ltI (by omega) (by omega)] at c164
              refine za_iload (pc := 167) dX7_bestOf_167 rfl ?_
              refine za_iload (pc := 169) dX7_bestOf_169 rfl ?_
              refine za_icmp_ne (pc := 171) 199 dX7_bestOf_171 (by decide) (fun c171 => ?_) (fun c171 => ?_)
              · rw [nI_eq (by omega) (by omega)] at c171
                exact keep (by omega)
              rw [nI_eq (by omega) (by omega)] at c171
              refine za_iload (pc := 174) dX7_bestOf_174 rfl ?_
              refine za_aload_n (pc := 176) dX7_bestOf_176 rfl ?_
              refine za_getI (pc := 177) dX7_bestOf_177 lk_X7_177 rfl rfl ?_
              rw [f3]
              refine za_icmp_ge (pc := 180) 199 dX7_bestOf_180 (by decide) (fun c180 => ?_) (fun c180 => ?_)
              · rw [nI_leI (by omega) (by omega)] at c180
                exact keep (by omega)
              · rw [nI_leI (by omega) (by omega)] at c180
                exact take (by omega)
            refine za_iload (pc := 56) dX7_bestOf_56 rfl ?_
            refine za_aload_n (pc := 58) dX7_bestOf_58 rfl ?_
            refine za_getI (pc := 59) dX7_bestOf_59 lk_X7_91 rfl rfl ?_
            rw [uj]
            refine za_icmp_gt (pc := 62) 205 dX7_bestOf_62 (by decide) (fun c62 => ?_) (fun c62 => ?_)
            · rw [nI_ltI (by omega) (by omega)] at c62
              omega
            refine za_iload (pc := 65) dX7_bestOf_65 rfl ?_
            refine za_aload_n (pc := 67) dX7_bestOf_67 rfl ?_
            refine za_getI (pc := 68) dX7_bestOf_68 lk_X7_91 rfl rfl ?_
            rw [uj]
            refine za_icmp_ne (pc := 71) 78 dX7_bestOf_71 (by decide) (fun c71 => ?_) (fun c71 => ?_)
            · have hbn : b < cN c := by
                rcases Nat.lt_or_ge b (cN c) with q | q
                · exact q
                · exact absurd (by rw [show b = cN c by omega]) c71
              refine za_iconst (pc := 78) (0) dX7_bestOf_78 (by decide) ?_
              refine za_is7 (pc := 79) dX7_bestOf_79 rfl ?_
              refine za_iload (pc := 81) dX7_bestOf_81 rfl ?_
              refine za_if_ne (pc := 83) 108 dX7_bestOf_83 (by decide) (fun c83 => ?_) (fun c83 => ?_)
              · exact absurd rfl c83
              refine za_aload_n (pc := 86) dX7_bestOf_86 rfl ?_
              refine za_iload (pc := 87) dX7_bestOf_87 rfl ?_
              refine za_iload_n (pc := 89) dX7_bestOf_89 rfl ?_
              refine za_iload_n (pc := 90) dX7_bestOf_90 rfl ?_
              refine za_cV3i (pc := 91) (μ' := mX7_may) dX7_bestOf_91 c_X7_183 rfl rfl rfl ⟨rfl, rfl⟩ ⟨rfl, rfl⟩ rfl rfl rfl (tX7_may um hc hbn (ub b hbn) (by omega) hh) (fun x_91 t_91 h_91 => ?_)
              obtain ⟨p1, p2⟩ := h_91
              have p2 := p2.symm
              subst p2
              rcases p1 with ⟨rfl, hmayb⟩ | ⟨rfl, hmayb⟩
              · refine za_if_eq (pc := 94) 199 dX7_bestOf_94 (by decide) (fun c94 => ?_) (fun c94 => ?_)
                · exact absurd c94 (by decide)
                refine za_aload_n (pc := 97) dX7_bestOf_97 rfl ?_
                refine za_iload (pc := 98) dX7_bestOf_98 rfl ?_
                refine za_iload (pc := 100) dX7_bestOf_100 rfl ?_
                refine za_cV2i (pc := 102) (μ' := mX7_may2) dX7_bestOf_102 c_X7_187 rfl rfl rfl ⟨rfl, rfl⟩ ⟨rfl, rfl⟩ rfl rfl rfl (tX7_may2 um hn hac hbn) (fun x_102 t_102 h_102 => ?_)
                obtain ⟨p1, p2⟩ := h_102
                have p2 := p2.symm
                subst p2
                rcases p1 with ⟨rfl, hsb⟩ | ⟨rfl, hsb⟩
                · refine za_if_eq (pc := 105) 199 dX7_bestOf_105 (by decide) (fun c105 => ?_) (fun c105 => ?_)
                  · exact absurd c105 (by decide)
                  have hok : okU c (h + 1) S a b := ⟨hac, hmay, Or.inr ⟨hbn, by omega, hmayb, hsb⟩⟩
                  obtain ⟨w, ew, hw⟩ := hL (thn S a b) (thn_sup hS hok)
                  refine za_iload_n (pc := 108) dX7_bestOf_108 rfl ?_
                  refine za_iconst (pc := 109) (1) dX7_bestOf_109 (by decide) ?_
                  refine za_iload (pc := 110) dX7_bestOf_110 rfl ?_
                  refine za_ishl (pc := 112) dX7_bestOf_112 ?_
                  refine za_ior (pc := 113) dX7_bestOf_113 ?_
                  refine za_iload (pc := 114) dX7_bestOf_114 rfl ?_
                  refine za_if_eq (pc := 116) 123 dX7_bestOf_116 (by decide) (fun c116 => ?_) (fun c116 => ?_)
                  · rw [zm_1 (show a < 16 by omega), zm_or]
                    refine za_iconst (pc := 123) (1) dX7_bestOf_123 (by decide) ?_
                    refine za_iload (pc := 124) dX7_bestOf_124 rfl ?_
                    refine za_ishl (pc := 126) dX7_bestOf_126 ?_
                    refine za_ior (pc := 127) dX7_bestOf_127 ?_
                    rw [zm_1 (show b < 16 by omega), zm_or, show zmask (fun i => (S i || decide (i = a)) || decide (i = b)) = zmask (thn S a b) from zm_cong (fun i _ => by
                      unfold thn
                      by_cases e : i = b
                      · have : i < 10 := by omega
                        simp [e]; omega
                      · simp [e])]
                    refine za_is8 (pc := 128) dX7_bestOf_128 rfl ?_
                    refine za_aload_n (pc := 130) dX7_bestOf_130 rfl ?_
                    refine za_getR (pc := 131) dX7_bestOf_131 lk_X7_62 rfl rfl ?_
                    refine za_iload_n (pc := 134) dX7_bestOf_134 rfl ?_
                    refine za_iload (pc := 135) dX7_bestOf_135 rfl ?_
                    refine za_iadd (pc := 137) dX7_bestOf_137 ?_
                    rw [eI]
                    refine za_iald (pc := 138) dX7_bestOf_138 rfl (vp_in_nI (iB _ (thn_sup hS hok)) (by decide)) ?_
                    refine za_is9 (pc := 139) dX7_bestOf_139 rfl ?_
                    refine za_iload (pc := 141) dX7_bestOf_141 rfl ?_
                    refine za_iload (pc := 143) dX7_bestOf_143 rfl ?_
                    rw [nI_clamp (by have := iB _ (thn_sup hS hok); omega), f1 65 (by decide), ew]
                    refine za_if_eq (pc := 145) 153 dX7_bestOf_145 (by decide) (fun c145 => ?_) (fun c145 => ?_)
                    · refine za_iload (pc := 153) dX7_bestOf_153 rfl ?_
                      refine za_cS2i (pc := 155) (μ' := mX7_codeOf) dX7_bestOf_155 c_X7_190 rfl ⟨rfl, rfl⟩ ⟨rfl, rfl⟩ rfl rfl rfl (tX7_codeOf (b := b) (by omega) (Or.inr ⟨by omega, rfl⟩)) (fun x_155 t_155 h_155 => ?_)
                      obtain ⟨rfl, h9⟩ := h_155
                      have h9 := h9.symm
                      subst h9
                      refine za_is10 (pc := 158) dX7_bestOf_158 rfl ?_
                      exact cmp b w _ (Or.inr ⟨rfl, hbn⟩) hok hw
                    · exact absurd rfl c145
                  · exact absurd rfl c116
                · refine za_if_eq (pc := 105) 199 dX7_bestOf_105 (by decide) (fun c105 => ?_) (fun c105 => ?_)
                  · exact skip _ _ _ _ hbn (fun q => q.2.2.elim (fun e => by omega) (fun e => e.2.2.2 hsb))
                  · exact absurd rfl c105
              · refine za_if_eq (pc := 94) 199 dX7_bestOf_94 (by decide) (fun c94 => ?_) (fun c94 => ?_)
                · exact skip _ _ _ _ hbn (fun q => q.2.2.elim (fun e => by omega) (fun e => hmayb e.2.2.1))
                · exact absurd rfl c94
            · rw [nI_eq (by omega) (by omega)] at c71
              have hok : okU c (h + 1) S a 10 := ⟨hac, hmay, Or.inl rfl⟩
              obtain ⟨w, ew, hw⟩ := hL (thn S a 10) (thn_sup hS hok)
              refine za_iconst (pc := 74) (1) dX7_bestOf_74 (by decide) ?_
              refine za_goto (pc := 75) 79 dX7_bestOf_75 (by decide) ?_
              refine za_is7 (pc := 79) dX7_bestOf_79 rfl ?_
              refine za_iload (pc := 81) dX7_bestOf_81 rfl ?_
              refine za_if_ne (pc := 83) 108 dX7_bestOf_83 (by decide) (fun c83 => ?_) (fun c83 => ?_)
              · refine za_iload_n (pc := 108) dX7_bestOf_108 rfl ?_
                refine za_iconst (pc := 109) (1) dX7_bestOf_109 (by decide) ?_
                refine za_iload (pc := 110) dX7_bestOf_110 rfl ?_
                refine za_ishl (pc := 112) dX7_bestOf_112 ?_
                refine za_ior (pc := 113) dX7_bestOf_113 ?_
                refine za_iload (pc := 114) dX7_bestOf_114 rfl ?_
                refine za_if_eq (pc := 116) 123 dX7_bestOf_116 (by decide) (fun c116 => ?_) (fun c116 => ?_)
                · exact absurd c116 (by decide)
                rw [zm_1 (show a < 16 by omega), zm_or]
                refine za_iconst (pc := 119) (0) dX7_bestOf_119 (by decide) ?_
                refine za_goto (pc := 120) 127 dX7_bestOf_120 (by decide) ?_
                refine za_ior (pc := 127) dX7_bestOf_127 ?_
                rw [zm_or0, show zmask (fun i => (S i || decide (i = a))) = zmask (thn S a 10) from zm_cong (fun i _ => by
                  unfold thn
                  by_cases e : i = 10
                  · subst e; simp
                  · simp [e])]
                refine za_is8 (pc := 128) dX7_bestOf_128 rfl ?_
                refine za_aload_n (pc := 130) dX7_bestOf_130 rfl ?_
                refine za_getR (pc := 131) dX7_bestOf_131 lk_X7_62 rfl rfl ?_
                refine za_iload_n (pc := 134) dX7_bestOf_134 rfl ?_
                refine za_iload (pc := 135) dX7_bestOf_135 rfl ?_
                refine za_iadd (pc := 137) dX7_bestOf_137 ?_
                rw [eI]
                refine za_iald (pc := 138) dX7_bestOf_138 rfl (vp_in_nI (iB _ (thn_sup hS hok)) (by decide)) ?_
                refine za_is9 (pc := 139) dX7_bestOf_139 rfl ?_
                refine za_iload (pc := 141) dX7_bestOf_141 rfl ?_
                refine za_iload (pc := 143) dX7_bestOf_143 rfl ?_
                rw [nI_clamp (by have := iB _ (thn_sup hS hok); omega), f1 65 (by decide), ew]
                refine za_if_eq (pc := 145) 153 dX7_bestOf_145 (by decide) (fun c145 => ?_) (fun c145 => ?_)
                · exact absurd c145 (by decide)
                · refine za_bipush (pc := 148) (-3) dX7_bestOf_148 (by decide) ?_
                  refine za_goto (pc := 150) 155 dX7_bestOf_150 (by decide) ?_
                  refine za_cS2i (pc := 155) (μ' := mX7_codeOf) dX7_bestOf_155 c_X7_190 rfl ⟨rfl, rfl⟩ ⟨rfl, rfl⟩ rfl rfl rfl (tX7_codeOf (b := 10) (by omega) (Or.inl ⟨rfl, rfl⟩)) (fun x_155 t_155 h_155 => ?_)
                  obtain ⟨rfl, h9⟩ := h_155
                  have h9 := h9.symm
                  subst h9
                  refine za_is10 (pc := 158) dX7_bestOf_158 rfl ?_
                  exact cmp 10 w _ (Or.inl ⟨rfl, c71⟩) hok hw
              · exact absurd c83 (by decide)
        refine za_iload (pc := 50) dX7_bestOf_50 rfl ?_
        refine za_iconst (pc := 52) (1) dX7_bestOf_52 (by decide) ?_
        refine za_iadd (pc := 53) dX7_bestOf_53 ?_
        refine za_is6 (pc := 54) dX7_bestOf_54 rfl ?_
        rw [nI_1]
        exact inner (cN c - a) (a + 1) u v k T (by omega) (by omega) (BS_mono hu (fun a' b' h1 h2 h3 => by rcases okU_y h1 with q | q <;> omega))
      · refine za_if_eq (pc := 47) 205 dX7_bestOf_47 (by decide) (fun c47 => ?_) (fun c47 => ?_)
        · exact skipA u v k T _ _ _ _ _ (BS_mono hu (fun a' b' h1 _ h3 => by
            rcases Nat.lt_or_eq_of_le (Nat.le_of_lt_succ h3) with q | q
            · exact q
            · subst q; exact absurd h1.2.1 hmay))
        · exact absurd rfl c47
  refine zI_of (ls := [some (.ref 47), some (.int (nI (h + 1))), some (.int (zmask S)), none, none, none, none, none, none, none, none]) (by decide) rfl rfl ?_
  rw [hQ]
  refine za_sipush (pc := 0) (1024) dX7_bestOf_0 (by decide) ?_
  refine za_iload_n (pc := 3) dX7_bestOf_3 rfl ?_
  refine za_imul (pc := 4) dX7_bestOf_4 ?_
  refine za_is3n (pc := 5) dX7_bestOf_5 rfl ?_
  refine za_aload_n (pc := 6) dX7_bestOf_6 rfl ?_
  refine za_getR (pc := 7) dX7_bestOf_7 lk_X7_62 rfl rfl ?_
  refine za_iload_n (pc := 10) dX7_bestOf_10 rfl ?_
  refine za_iload_n (pc := 11) dX7_bestOf_11 rfl ?_
  refine za_iadd (pc := 12) dX7_bestOf_12 ?_
  rw [eI]
  refine za_iald (pc := 13) dX7_bestOf_13 rfl (vp_in_nI (iB S hS) (by decide)) ?_
  refine za_is4 (pc := 14) dX7_bestOf_14 rfl ?_
  refine za_aload_n (pc := 16) dX7_bestOf_16 rfl ?_
  refine za_bipush (pc := 17) (120) dX7_bestOf_17 (by decide) ?_
  refine za_putI (pc := 19) dX7_bestOf_19 lp_X7_177 rfl rfl ?_
  refine za_aload_n (pc := 22) dX7_bestOf_22 rfl ?_
  refine za_iload_n (pc := 23) dX7_bestOf_23 rfl ?_
  refine za_putI (pc := 24) dX7_bestOf_24 lp_X7_180 rfl rfl ?_
  refine za_iconst (pc := 27) (0) dX7_bestOf_27 (by decide) ?_
  refine za_is5 (pc := 28) dX7_bestOf_28 rfl ?_
  rw [nI_clamp (by have := iB S hS; omega), e0]
  refine outer (cN c) 0 _ v0 120 S (by omega) ⟨fun d hd => ?_, fun i h1 h2 => ?_, ?_, ?_, hS, Or.inl ⟨rfl, rfl⟩, w0, fun w hw => by rw [Vl_un w0 hw]; exact Nat.le_refl _, fun a b _ _ q => absurd q (by omega)⟩
  · rw [zup_n hd, zup_n hd]
  · rw [zup_b h2, zup_b h1]
  · rw [zup_b (by decide), zup_a]; rfl
  · rw [zup_a]
