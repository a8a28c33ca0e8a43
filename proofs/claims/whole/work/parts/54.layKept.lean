/-! THE KEPT DAY of the reference -/
noncomputable def kHr (c : Core) (a : Nat) : Int32 := if kL c = 61 then -3 else kHs c (kL c) (kL c) a
noncomputable def spKept (c : Core) : Int32 := if kL c = 61 then -3 else nI (kL c)
def MKept (t : zSt) (c : Core) : Prop := t 47 25 = spKept c ∧ (∀ h, kL c ≤ 60 → h < kL c → t 66 (h + 1) = nI (kcd c (kL c) h (kSq c (kL c) h))) ∧ ∀ a, a < cN c → t 67 a = kHr c a
def FMK (t σ : zSt) : Prop := (∀ d, d ≠ 47 → d ≠ 59 → d ≠ 65 → d ≠ 66 → d ≠ 67 → t d = σ d) ∧ ∀ i, i ≠ 14 → i ≠ 25 → i ≠ 26 → i ≠ 27 → t 47 i = σ 47 i
def KBas (σ u : zSt) (c : Core) : Prop := FMK u σ ∧ u 47 14 = 1 ∧ ∀ a, a < cN c → u 59 a = zmask (bhd c a)
theorem KBas_up {σ u t : zSt} {c : Core} (h : KBas σ u c) (e : ∀ d, d ≠ 47 → d ≠ 65 → d ≠ 66 → d ≠ 67 → t d = u d) (e2 : ∀ i, i ≠ 25 → i ≠ 26 → i ≠ 27 → t 47 i = u 47 i) : KBas σ t c :=
  ⟨⟨fun d d1 d2 d3 d4 d5 => by rw [e d d1 d3 d4 d5]; exact h.1.1 d d1 d2 d3 d4 d5, fun i i1 i2 i3 i4 => by rw [e2 i i2 i3 i4]; exact h.1.2 i i1 i2 i3 i4⟩, by rw [e2 14 (by decide) (by decide) (by decide)]; exact h.2.1, fun a ha => by rw [e 59 (by decide) (by decide) (by decide) (by decide)]; exact h.2.2 a ha⟩
theorem KBas_M {σ u : zSt} {c : Core} (h : KBas σ u c) (hM : MCore σ c) : MCore u c := MCore_cong hM (fun d _ _ => h.1.1 d (by omega) (by omega) (by omega) (by omega) (by omega)) (h.1.2 3 (by decide) (by decide) (by decide) (by decide))
theorem LRow_cong {u t : zSt} {c : Core} {g : Nat} (h : LRow u c g) (e : ∀ j, j < 2 ^ cN c → t 65 (1024 * g + j) = u 65 (1024 * g + j)) : LRow t c g := fun S hS => by
  obtain ⟨v, h1, h2⟩ := h S hS
  exact ⟨v, by rw [e _ (mkm_n hS)]; exact h1, h2⟩
theorem mkm_all : ∀ n, n < 11 → mkm (alln n) 16 + 1 = 2 ^ n := by decide
theorem mkm_0 : mkm (fun _ => false) 16 = 0 := by decide
theorem tb_sup {s n : Nat} (hs : s < 2 ^ n) : ∀ i, s.testBit i = true → i < n := fun x hx => by
  apply Classical.byContradiction
  intro hno
  rw [Nat.testBit_lt_two_pow (Nat.lt_of_lt_of_le hs (Nat.pow_le_pow_right (by decide) (by omega)))] at hx
  cases hx
theorem nI_m1 {h : Nat} : nI (h + 1) + (-1) = nI h := by
  rw [← nI_1, show (-1 : Int32) = -(1) from rfl, ← Int32.sub_eq_add_neg]
  exact Int32.add_sub_cancel _ _
theorem nI_s1 {h : Nat} : nI (h + 1) - 1 = nI h := by
  rw [← nI_1]
  exact Int32.add_sub_cancel _ _
theorem tX7_layKept {σ : zSt} {c : Core} (hP : MP σ c) (hI : σ 47 14 = 0 ∨ (σ 47 14 = 1 ∧ MKept σ c)) : zV mX7_layKept [.ref 47] SH σ (fun t => MKept t c ∧ t 47 14 = 1 ∧ FMK t σ) := by
  obtain ⟨hM, hc⟩ := hP
  have hn := hc.1
  have hp := pw10 hn
  have hall := mkm_all (cN c) (by omega)
  obtain ⟨N, hN⟩ : ∃ N, N = mkm (alln (cN c)) 16 := ⟨_, rfl⟩
  rw [← hN] at hall
  have eA : zmask (alln (cN c)) = nI N := by rw [hN]; rfl
  have e0 : (fun _ : Nat => false) = fun i => (0 : Nat).testBit i := by funext i; rw [Nat.zero_testBit]
  -- the way forward
  have ph4 : ∀ (L : Nat), L ≤ 60 → kL c = L → ∀ (q h : Nat) (u : zSt), h + q = L → KBas σ u c → (∀ g, g ≤ 60 → LRow u c g) → u 47 25 = nI L → Vl c h (kSq c L h) L → (∀ i, kSq c L h i = true → i < cN c) → (∀ g, g < h → u 66 (g + 1) = nI (kcd c L g (kSq c L g))) → (∀ a, a < cN c → u 67 a = kHs c L h a) → zA (zZ mX7_layKept (zQV SH (fun t => MKept t c ∧ t 47 14 = 1 ∧ FMK t σ))) mX7_layKept none 0 0 165 [some (.ref 47), some (.int (nI N)), some (.int (zmask (kSq c L h))), some (.int (nI (h + 1))), none, none] [] SH u := by
    intro L hL hkL q
    induction q with
    | zero =>
      intro h u hh hB hR h25 hV hS hC hH
      have hh : h = L := by omega
      subst hh
      refine za_iload_n (pc := 165) dX7_layKept_165 rfl ?_
      refine za_aload_n (pc := 166) dX7_layKept_166 rfl ?_
      refine za_getI (pc := 167) dX7_layKept_167 lk_X7_197 rfl rfl ?_
      rw [h25]
      refine za_icmp_gt (pc := 170) 268 dX7_layKept_170 (by decide) (fun c170 => ?_) (fun c170 => ?_)
      · refine za_rv (pc := 268) dX7_layKept_268 rfl rfl rfl ?_
        refine ⟨⟨?_, ?_, ?_⟩, hB.2.1, hB.1⟩
        · unfold spKept
          rw [hkL, if_neg (by omega)]
          exact h25
        · intro g _ hg
          rw [hkL] at hg ⊢
          exact hC g hg
        · intro a ha
          unfold kHr
          rw [hkL, if_neg (by omega)]
          exact hH a ha
      · exact absurd (nI_lt (show h < h + 1 by omega) (by omega)) c170
    | succ q ih =>
      intro h u hh hB hR h25 hV hS hC hH
      have hhL : h < L := by omega
      have uM := KBas_M hB hM
      refine za_iload_n (pc := 165) dX7_layKept_165 rfl ?_
      refine za_aload_n (pc := 166) dX7_layKept_166 rfl ?_
      refine za_getI (pc := 167) dX7_layKept_167 lk_X7_197 rfl rfl ?_
      rw [h25]
      refine za_icmp_gt (pc := 170) 268 dX7_layKept_170 (by decide) (fun c170 => ?_) (fun c170 => ?_)
      · rw [nI_ltI (by omega) (by omega)] at c170
        omega
      refine za_aload_n (pc := 173) dX7_layKept_173 rfl ?_
      refine za_iload_n (pc := 174) dX7_layKept_174 rfl ?_
      refine za_iload_n (pc := 175) dX7_layKept_175 rfl ?_
      refine za_cV2i (pc := 176) (μ' := mX7_bestOf) dX7_layKept_176 c_X7_194 rfl rfl rfl ⟨rfl, rfl⟩ ⟨rfl, rfl⟩ rfl rfl rfl (tX7_bestOf uM hc hB.2.2 (by omega) hS (hR (h + 1) (by omega))) (fun x_176 t_176 h_176 => ?_)
      obtain ⟨v, k, T, rfl, f1, f2, f3, f4, f5, f6⟩ := h_176
      have hval : ∀ a b, okU c (h + 1) (kSq c L h) a b → ∃ w, Vl c (h + 1) (thn (kSq c L h) a b) w := fun a b o => by
        obtain ⟨w, _, hw⟩ := hR (h + 1) (by omega) _ (thn_sup hS o)
        exact ⟨w, hw⟩
      have hnf : ¬ ∀ i, i < cN c → kSq c L h i = true := fun q => by
        rcases hV with ⟨a1, _⟩ | ⟨_, _, _, a4⟩
        · omega
        · exact a4 0 (by omega) q
      have hvL : v = L := by
        obtain ⟨w, _, hw⟩ := hR (h + 1) (by omega) _ hS
        exact Vl_un (Best_Vl hc f6 hnf hval ⟨w, hw⟩) hV
      subst hvL
      obtain ⟨c1, c2⟩ := Best_cd f6 hL hval
      have eT : kSq c v (h + 1) = T := c2
      have vh : vp_in (nI (h + 1)) 61 := vp_in_nI (by omega) (by decide)
      have eh : (nI (h + 1)).toNatClampNeg = h + 1 := nI_clamp (by omega)
      refine za_is4 (pc := 179) dX7_layKept_179 rfl ?_
      refine za_aload_n (pc := 181) dX7_layKept_181 rfl ?_
      refine za_getR (pc := 182) dX7_layKept_182 lk_X7_65 rfl rfl ?_
      refine za_iload_n (pc := 185) dX7_layKept_185 rfl ?_
      refine za_aload_n (pc := 186) dX7_layKept_186 rfl ?_
      refine za_getI (pc := 187) dX7_layKept_187 lk_X7_177 rfl rfl ?_
      refine za_iast (pc := 190) dX7_layKept_190 rfl vh ?_
      refine za_iconst (pc := 191) (0) dX7_layKept_191 (by decide) ?_
      refine za_is5 (pc := 192) dX7_layKept_192 rfl ?_
      rw [eh, f3]
      have inner : ∀ (q a : Nat) (u' : zSt), a + q = cN c → (∀ d, d ≠ 66 → d ≠ 67 → u' d = t_176 d) → (∀ i, i ≠ h + 1 → u' 66 i = u 66 i) → u' 66 (h + 1) = nI k → (∀ x, x < a → u' 67 x = kHs c v (h + 1) x) → (∀ x, a ≤ x → x < cN c → u' 67 x = kHs c v h x) → zA (zZ mX7_layKept (zQV SH (fun t => MKept t c ∧ t 47 14 = 1 ∧ FMK t σ))) mX7_layKept none 0 0 194 [some (.ref 47), some (.int (nI N)), some (.int (zmask (kSq c v h))), some (.int (nI (h + 1))), some (.int (nI v)), some (.int (nI a))] [] SH u' := by
        intro q
        induction q with
        | zero =>
          intro a u' ha g1 g2 g3 g4 g5
          have uj : u' 47 3 = nI (cN c) := by rw [g1 47 (by decide) (by decide), f2 3 (by decide) (by decide)]; exact uM.1
          refine za_iload (pc := 194) dX7_layKept_194 rfl ?_
          refine za_aload_n (pc := 196) dX7_layKept_196 rfl ?_
          refine za_getI (pc := 197) dX7_layKept_197 lk_X7_91 rfl rfl ?_
          rw [uj]
          refine za_icmp_ge (pc := 200) 257 dX7_layKept_200 (by decide) (fun c200 => ?_) (fun c200 => ?_)
          · refine za_aload_n (pc := 257) dX7_layKept_257 rfl ?_
            refine za_getI (pc := 258) dX7_layKept_258 lk_X7_180 rfl rfl ?_
            refine za_is2n (pc := 261) dX7_layKept_261 rfl ?_
            refine za_ii3 (pc := 262) (1) dX7_layKept_262 (by decide) rfl ?_
            refine za_goto (pc := 265) 165 dX7_layKept_265 (by decide) ?_
            rw [nI_1, g1 47 (by decide) (by decide), f4, ← eT]
            refine za_fg (by simp [zSub]) (ih (h + 1) u' (by omega) (KBas_up hB (fun d d1 d2 d3 d4 => ?_) (fun i i1 i2 i3 => ?_)) (fun g hg => LRow_cong (hR g hg) (fun j _ => ?_)) ?_ ?_ ?_ (fun g hg => ?_) (fun x hx => ?_))
            · rw [g1 d d3 d4, f1 d d1]
            · rw [g1 47 (by decide) (by decide), f2 i i2 i3]
            · rw [g1 65 (by decide) (by decide), f1 65 (by decide)]
            · rw [g1 47 (by decide) (by decide), f2 25 (by decide) (by decide)]; exact h25
            · rw [eT]; exact f6.2.1
            · rw [eT]; exact f5
            · by_cases e : g = h
              · rw [e, g3, c1]
              · rw [g2 (g + 1) (by omega)]; exact hC g (by omega)
            · exact g4 x (by omega)
          · exact absurd (nI_le (show cN c ≤ a by omega) (by omega)) c200
        | succ q ih3 =>
          intro a u' ha g1 g2 g3 g4 g5
          have uj : u' 47 3 = nI (cN c) := by rw [g1 47 (by decide) (by decide), f2 3 (by decide) (by decide)]; exact uM.1
          have va : vp_in (nI a) 10 := vp_in_nI (by omega) (by decide)
          have ea : (nI a).toNatClampNeg = a := nI_clamp (by omega)
          have next : ∀ (y : Int32), y = kHs c v (h + 1) a → zA (zZ mX7_layKept (zQV SH (fun t => MKept t c ∧ t 47 14 = 1 ∧ FMK t σ))) mX7_layKept none 0 0 250 [some (.ref 47), some (.int (nI N)), some (.int (zmask (kSq c v h))), some (.int (nI (h + 1))), some (.int (nI v)), some (.int (nI a))] [.int y, .int (nI a), .ref 67] SH u' := by
            intro y hy
            refine za_iast (pc := 250) dX7_layKept_250 rfl va ?_
            refine za_ii5 (pc := 251) (1) dX7_layKept_251 (by decide) rfl ?_
            refine za_goto (pc := 254) 194 dX7_layKept_254 (by decide) ?_
            rw [nI_1, ea]
            refine ih3 (a + 1) _ (by omega) (fun d d1 d2 => by rw [zup_n d2]; exact g1 d d1 d2) (fun i hi => by rw [zup_n (by decide)]; exact g2 i hi) (by rw [zup_n (by decide)]; exact g3) (fun x hx => ?_) (fun x h1 h2 => by rw [zup_b (by omega)]; exact g5 x (by omega) h2)
            by_cases e : x = a
            · rw [e, zup_a]; exact hy
            · rw [zup_b e]; exact g4 x (by omega)
          have keep : (kSq c v (h + 1) a && !kSq c v h a) = false → zA (zZ mX7_layKept (zQV SH (fun t => MKept t c ∧ t 47 14 = 1 ∧ FMK t σ))) mX7_layKept none 0 0 239 [some (.ref 47), some (.int (nI N)), some (.int (zmask (kSq c v h))), some (.int (nI (h + 1))), some (.int (nI v)), some (.int (nI a))] [.int (nI a), .ref 67] SH u' := by
            intro hno
            refine za_aload_n (pc := 239) dX7_layKept_239 rfl ?_
            refine za_getR (pc := 240) dX7_layKept_240 lk_X7_68 rfl rfl ?_
            refine za_iload (pc := 243) dX7_layKept_243 rfl ?_
            refine za_iald (pc := 245) dX7_layKept_245 rfl va ?_
            refine za_goto (pc := 246) 250 dX7_layKept_246 (by decide) ?_
            rw [ea]
            refine next _ ?_
            rw [g5 a (Nat.le_refl a) (by omega)]
            show _ = (if (kSq c v (h + 1) a && !kSq c v h a) = true then nI (h + 1) else kHs c v h a)
            rw [if_neg (by rw [hno]; decide)]
          refine za_iload (pc := 194) dX7_layKept_194 rfl ?_
          refine za_aload_n (pc := 196) dX7_layKept_196 rfl ?_
          refine za_getI (pc := 197) dX7_layKept_197 lk_X7_91 rfl rfl ?_
          rw [uj]
          refine za_icmp_ge (pc := 200) 257 dX7_layKept_200 (by decide) (fun c200 => ?_) (fun c200 => ?_)
          · exact absurd c200 (nI_ge (show a < cN c by omega) (by omega))
          refine za_aload_n (pc := 203) dX7_layKept_203 rfl ?_
          refine za_getR (pc := 204) dX7_layKept_204 lk_X7_68 rfl rfl ?_
          refine za_iload (pc := 207) dX7_layKept_207 rfl ?_
          refine za_aload_n (pc := 209) dX7_layKept_209 rfl ?_
          refine za_getI (pc := 210) dX7_layKept_210 lk_X7_180 rfl rfl ?_
          refine za_iload_n (pc := 213) dX7_layKept_213 rfl ?_
          refine za_iconst (pc := 214) (-1) dX7_layKept_214 (by decide) ?_
          refine za_ixor (pc := 215) dX7_layKept_215 ?_
          refine za_iand (pc := 216) dX7_layKept_216 ?_
          refine za_iload (pc := 217) dX7_layKept_217 rfl ?_
          refine za_ishr (pc := 219) dX7_layKept_219 ?_
          rw [g1 47 (by decide) (by decide), f4, ← eT, zm_not]
          refine za_if_eq (pc := 220) 239 dX7_layKept_220 (by decide) (fun c220 => ?_) (fun c220 => ?_)
          · refine keep ?_
            have := zm_sr (p := fun i => kSq c v (h + 1) i && !kSq c v h i) (a := a) (by omega)
            rw [c220] at this
            cases hq : (kSq c v (h + 1) a && !kSq c v h a) with
            | false => rfl
            | true => rw [if_pos hq] at this; exact absurd this (by decide)
          refine za_aload_n (pc := 223) dX7_layKept_223 rfl ?_
          refine za_getI (pc := 224) dX7_layKept_224 lk_X7_180 rfl rfl ?_
          refine za_iload_n (pc := 227) dX7_layKept_227 rfl ?_
          refine za_iconst (pc := 228) (-1) dX7_layKept_228 (by decide) ?_
          refine za_ixor (pc := 229) dX7_layKept_229 ?_
          refine za_iand (pc := 230) dX7_layKept_230 ?_
          refine za_iload (pc := 231) dX7_layKept_231 rfl ?_
          refine za_ishr (pc := 233) dX7_layKept_233 ?_
          refine za_iconst (pc := 234) (1) dX7_layKept_234 (by decide) ?_
          refine za_iand (pc := 235) dX7_layKept_235 ?_
          rw [g1 47 (by decide) (by decide), f4, ← eT, zm_not, zm_sr (by omega)]
          cases hq : (kSq c v (h + 1) a && !kSq c v h a) with
          | true =>
            rw [if_pos rfl]
            refine za_if_ne (pc := 236) 249 dX7_layKept_236 (by decide) (fun c236 => ?_) (fun c236 => ?_)
            · refine za_iload_n (pc := 249) dX7_layKept_249 rfl ?_
              refine next _ ?_
              show _ = (if (kSq c v (h + 1) a && !kSq c v h a) = true then nI (h + 1) else kHs c v h a)
              rw [if_pos hq]
            · exact absurd c236 (by decide)
          | false =>
            rw [if_neg (by decide)]
            refine za_if_ne (pc := 236) 249 dX7_layKept_236 (by decide) (fun c236 => ?_) (fun c236 => ?_)
            · exact absurd rfl c236
            · exact keep hq
      refine inner (cN c) 0 _ (by omega) (fun d d1 d2 => by rw [zup_n d1]) (fun i hi => by rw [zup_b hi, f1 66 (by decide)]) (by rw [zup_a]) (fun x hx => by omega) (fun x _ hx => by rw [zup_n (by decide), f1 67 (by decide)]; exact hH x hx)
  -- no hours yet
  have ph3 : ∀ (q s : Nat) (u : zSt) (x3 : Option Value), s + q = 10 → KBas σ u c → (∀ g, g ≤ 60 → LRow u c g) → (∀ i, i < s → u 67 i = -3) → zA (zZ mX7_layKept (zQV SH (fun t => MKept t c ∧ t 47 14 = 1 ∧ FMK t σ))) mX7_layKept none 0 0 115 [some (.ref 47), some (.int (nI N)), some (.int (nI s)), x3, none, none] [] SH u := by
    intro q
    induction q with
    | zero =>
      intro s u x3 hs hB hR hH
      obtain ⟨v, ev, hv⟩ := hR 0 (by omega) (fun _ => false) (fun i hi => by cases hi)
      rw [mkm_0, show 1024 * 0 + 0 = 0 from rfl] at ev
      have hv99 := Vl_99 hv
      have v0 : vp_in (nI 0) 62464 := vp_in_nI (by decide) (by decide)
      refine za_fg (ls' := [some (.ref 47), some (.int (nI N)), some (.int (nI s)), none, none, none]) (by simp [zSub]) ?_
      refine za_iload_n (pc := 115) dX7_layKept_115 rfl ?_
      refine za_bipush (pc := 116) (10) dX7_layKept_116 (by decide) ?_
      refine za_icmp_ge (pc := 118) 135 dX7_layKept_118 (by decide) (fun c118 => ?_) (fun c118 => ?_)
      · refine za_aload_n (pc := 135) dX7_layKept_135 rfl ?_
        refine za_aload_n (pc := 136) dX7_layKept_136 rfl ?_
        refine za_getR (pc := 137) dX7_layKept_137 lk_X7_62 rfl rfl ?_
        refine za_iconst (pc := 140) (0) dX7_layKept_140 (by decide) ?_
        refine za_iald (pc := 141) dX7_layKept_141 rfl v0 ?_
        refine za_bipush (pc := 142) (99) dX7_layKept_142 (by decide) ?_
        rw [show (0 : Int32).toNatClampNeg = 0 from rfl, ev]
        rcases kL_Vl hv with ⟨rfl, hk⟩ | ⟨hk1, hk⟩
        · refine za_icmp_ne (pc := 144) 152 dX7_layKept_144 (by decide) (fun c144 => ?_) (fun c144 => ?_)
          · exact absurd rfl c144
          refine za_bipush (pc := 147) (-3) dX7_layKept_147 (by decide) ?_
          refine za_goto (pc := 149) 158 dX7_layKept_149 (by decide) ?_
          refine za_putI (pc := 158) dX7_layKept_158 lp_X7_197 rfl rfl ?_
          refine za_iconst (pc := 161) (0) dX7_layKept_161 (by decide) ?_
          refine za_is2n (pc := 162) dX7_layKept_162 rfl ?_
          refine za_iconst (pc := 163) (1) dX7_layKept_163 (by decide) ?_
          refine za_is3n (pc := 164) dX7_layKept_164 rfl ?_
          refine za_iload_n (pc := 165) dX7_layKept_165 rfl ?_
          refine za_aload_n (pc := 166) dX7_layKept_166 rfl ?_
          refine za_getI (pc := 167) dX7_layKept_167 lk_X7_197 rfl rfl ?_
          refine za_icmp_gt (pc := 170) 268 dX7_layKept_170 (by decide) (fun c170 => ?_) (fun c170 => ?_)
          · refine za_rv (pc := 268) dX7_layKept_268 rfl rfl rfl ?_
            refine ⟨⟨?_, ?_, ?_⟩, ?_, ?_⟩
            · unfold spKept
              rw [hk, if_pos rfl, zup_a]
            · intro h h1 _; omega
            · intro a ha
              unfold kHr
              rw [hk, if_pos rfl, zup_n (by decide)]
              exact hH a (by omega)
            · rw [zup_b (by decide)]; exact hB.2.1
            · exact (KBas_up (t := zup u 47 25 (-3)) hB (fun d d1 d2 d3 d4 => zup_n d1) (fun i i1 i2 i3 => zup_b i1)).1
          · exact absurd (by rw [zup_a]; decide) c170
        · refine za_icmp_ne (pc := 144) 152 dX7_layKept_144 (by decide) (fun c144 => ?_) (fun c144 => ?_)
          · refine za_aload_n (pc := 152) dX7_layKept_152 rfl ?_
            refine za_getR (pc := 153) dX7_layKept_153 lk_X7_62 rfl rfl ?_
            refine za_iconst (pc := 156) (0) dX7_layKept_156 (by decide) ?_
            refine za_iald (pc := 157) dX7_layKept_157 rfl v0 ?_
            rw [show (0 : Int32).toNatClampNeg = 0 from rfl, ev]
            refine za_putI (pc := 158) dX7_layKept_158 lp_X7_197 rfl rfl ?_
            refine za_iconst (pc := 161) (0) dX7_layKept_161 (by decide) ?_
            refine za_is2n (pc := 162) dX7_layKept_162 rfl ?_
            refine za_iconst (pc := 163) (1) dX7_layKept_163 (by decide) ?_
            refine za_is3n (pc := 164) dX7_layKept_164 rfl ?_
            have := ph4 v hk1 hk v 0 (zup u 47 25 (nI v)) (by omega) (KBas_up hB (fun d d1 d2 d3 d4 => zup_n d1) (fun i i1 i2 i3 => zup_b i1)) (fun g hg => LRow_cong (hR g hg) (fun j _ => by rw [zup_n (by decide)])) (by rw [zup_a]) hv (fun i hi => by cases hi) (fun g hg => by omega) (fun a ha => by rw [zup_n (by decide)]; exact hH a (by omega))
            have ez : zmask (kSq c v 0) = 0 := zm_0
            rw [ez] at this
            exact this
          · have : v = 99 := (nI_eq (by omega) (by decide)).mp (show nI v = nI 99 from c144)
            omega
      · exact absurd (nI_le (show 10 ≤ s by omega) (by omega)) c118
    | succ q ih =>
      intro s u x3 hs hB hR hH
      have vs : vp_in (nI s) 10 := vp_in_nI (by omega) (by decide)
      have es : (nI s).toNatClampNeg = s := nI_clamp (by omega)
      refine za_iload_n (pc := 115) dX7_layKept_115 rfl ?_
      refine za_bipush (pc := 116) (10) dX7_layKept_116 (by decide) ?_
      refine za_icmp_ge (pc := 118) 135 dX7_layKept_118 (by decide) (fun c118 => ?_) (fun c118 => ?_)
      · exact absurd c118 (nI_ge (show s < 10 by omega) (by decide))
      · refine za_aload_n (pc := 121) dX7_layKept_121 rfl ?_
        refine za_getR (pc := 122) dX7_layKept_122 lk_X7_68 rfl rfl ?_
        refine za_iload_n (pc := 125) dX7_layKept_125 rfl ?_
        refine za_bipush (pc := 126) (-3) dX7_layKept_126 (by decide) ?_
        refine za_iast (pc := 128) dX7_layKept_128 rfl vs ?_
        refine za_ii2 (pc := 129) (1) dX7_layKept_129 (by decide) rfl ?_
        refine za_goto (pc := 132) 115 dX7_layKept_132 (by decide) ?_
        rw [nI_1, es]
        refine ih (s + 1) _ _ (by omega) (KBas_up hB (fun d d1 d2 d3 d4 => zup_n d4) (fun i i1 i2 i3 => by rw [zup_n (by decide)])) (fun g hg => LRow_cong (hR g hg) (fun j _ => by rw [zup_n (by decide)])) (fun i hi => ?_)
        by_cases e : i = s
        · rw [e, zup_a]
        · rw [zup_b e]; exact hH i (by omega)
  -- hours from the last to the first
  have ph2 : ∀ (h : Nat) (u : zSt) (x3 : Option Value), h ≤ 60 → KBas σ u c → (∀ g, h ≤ g → g ≤ 60 → LRow u c g) → zA (zZ mX7_layKept (zQV SH (fun t => MKept t c ∧ t 47 14 = 1 ∧ FMK t σ))) mX7_layKept none 0 0 59 [some (.ref 47), some (.int (nI N)), some (.int (nI h)), x3, none, none] [] SH u := by
    intro h
    induction h with
    | zero =>
      intro u x3 hh hB hR
      refine za_iload_n (pc := 59) dX7_layKept_59 rfl ?_
      refine za_if_le (pc := 60) 113 dX7_layKept_60 (by decide) (fun c60 => ?_) (fun c60 => ?_)
      · refine za_iconst (pc := 113) (0) dX7_layKept_113 (by decide) ?_
        refine za_is2n (pc := 114) dX7_layKept_114 rfl ?_
        exact ph3 10 0 u x3 (by omega) hB (fun g hg => hR g (by omega) hg) (fun i hi => by omega)
      · exact absurd (show nI 0 ≤ 0 by decide) c60
    | succ h ih =>
      intro u x3 hh hB hR
      refine za_iload_n (pc := 59) dX7_layKept_59 rfl ?_
      refine za_if_le (pc := 60) 113 dX7_layKept_60 (by decide) (fun c60 => ?_) (fun c60 => ?_)
      · have c60 : nI (h + 1) ≤ nI 0 := c60
        rw [nI_leI (by omega) (by omega)] at c60
        omega
      have inner : ∀ (q s : Nat) (u : zSt), s + q = 2 ^ cN c → KBas σ u c → (∀ g, h + 1 ≤ g → g ≤ 60 → LRow u c g) → (∀ S : Nat → Bool, (∀ i, S i = true → i < cN c) → mkm S 16 < s → ∃ v, u 65 (1024 * h + mkm S 16) = nI v ∧ Vl c h S v) → zA (zZ mX7_layKept (zQV SH (fun t => MKept t c ∧ t 47 14 = 1 ∧ FMK t σ))) mX7_layKept none 0 0 65 [some (.ref 47), some (.int (nI N)), some (.int (nI (h + 1))), some (.int (nI s)), none, none] [] SH u := by
        intro q
        induction q with
        | zero =>
          intro s u hs hB hR hr
          refine za_iload_n (pc := 65) dX7_layKept_65 rfl ?_
          refine za_iload_n (pc := 66) dX7_layKept_66 rfl ?_
          refine za_icmp_gt (pc := 67) 107 dX7_layKept_67 (by decide) (fun c67 => ?_) (fun c67 => ?_)
          · refine za_ii2 (pc := 107) (-1) dX7_layKept_107 (by decide) rfl ?_
            refine za_goto (pc := 110) 59 dX7_layKept_110 (by decide) ?_
            rw [nI_m1]
            refine ih u _ (by omega) hB (fun g g1 g2 => ?_)
            rcases Nat.lt_or_eq_of_le g1 with q | q
            · exact hR g q g2
            · subst q
              exact fun S hS => hr S hS (by have := mkm_n hS; omega)
          · exact absurd (nI_lt (show N < s by omega) (by omega)) c67
        | succ q ih2 =>
          intro s u hs hB hR hr
          have uM := KBas_M hB hM
          have hs2 : s < 2 ^ cN c := by omega
          obtain ⟨S, hSd⟩ : ∃ S : Nat → Bool, S = fun i => s.testBit i := ⟨_, rfl⟩
          have hS : ∀ i, S i = true → i < cN c := by rw [hSd]; exact tb_sup hs2
          have eS : mkm S 16 = s := by rw [hSd]; exact mkm_tb (by omega)
          have ez : nI s = zmask S := by unfold zmask; rw [eS]
          have vI : vp_in (nI (1024 * h + s)) 62464 := vp_in_nI (by omega) (by decide)
          have eI : (nI (1024 * h + s)).toNatClampNeg = 1024 * h + s := nI_clamp (by omega)
          have full : (∀ i, i < cN c → S i = true) ↔ s = N := by
            constructor
            · intro q
              have : S = alln (cN c) := full_all hS q
              rw [hN, ← this]; exact eS.symm
            · intro q
              have : S = alln (cN c) := mkm_inj (fun x hx => by have := hS x hx; omega) (fun x hx => by have : x < cN c := (by simpa using hx); omega) (by rw [eS, q, hN])
              rw [this]
              intro i hi
              simp [hi]
          have next : ∀ (u' : zSt) (v : Nat), KBas σ u' c → u' 65 = u 65 → Vl c h S v → zA (zZ mX7_layKept (zQV SH (fun t => MKept t c ∧ t 47 14 = 1 ∧ FMK t σ))) mX7_layKept none 0 0 100 [some (.ref 47), some (.int (nI N)), some (.int (nI (h + 1))), some (.int (nI s)), none, none] [.int (nI v), .int (nI (1024 * h + s)), .ref 65] SH u' := by
            intro u' v hB' e65 hv
            refine za_iast (pc := 100) dX7_layKept_100 rfl vI ?_
            refine za_ii3 (pc := 101) (1) dX7_layKept_101 (by decide) rfl ?_
            refine za_goto (pc := 104) 65 dX7_layKept_104 (by decide) ?_
            rw [nI_1, eI]
            refine ih2 (s + 1) _ (by omega) (KBas_up hB' (fun d d1 d2 d3 d4 => zup_n d2) (fun i _ _ _ => by rw [zup_n (by decide)])) (fun g g1 g2 => LRow_cong (hR g g1 g2) (fun j hj => ?_)) (fun S' hS' hm => ?_)
            · rw [zup_b (by omega), e65]
            · by_cases e : mkm S' 16 = s
              · have : S' = S := mkm_inj (fun x hx => by have := hS' x hx; omega) (fun x hx => by have := hS x hx; omega) (e.trans eS.symm)
                subst this
                exact ⟨v, by rw [e, zup_a], hv⟩
              · obtain ⟨w, w1, w2⟩ := hr S' hS' (by omega)
                exact ⟨w, by rw [zup_b (by omega), e65]; exact w1, w2⟩
          refine za_iload_n (pc := 65) dX7_layKept_65 rfl ?_
          refine za_iload_n (pc := 66) dX7_layKept_66 rfl ?_
          refine za_icmp_gt (pc := 67) 107 dX7_layKept_67 (by decide) (fun c67 => ?_) (fun c67 => ?_)
          · rw [nI_ltI (by omega) (by omega)] at c67
            omega
          refine za_aload_n (pc := 70) dX7_layKept_70 rfl ?_
          refine za_getR (pc := 71) dX7_layKept_71 lk_X7_62 rfl rfl ?_
          refine za_sipush (pc := 74) (1024) dX7_layKept_74 (by decide) ?_
          refine za_iload_n (pc := 77) dX7_layKept_77 rfl ?_
          refine za_iconst (pc := 78) (1) dX7_layKept_78 (by decide) ?_
          refine za_isub (pc := 79) dX7_layKept_79 ?_
          rw [nI_s1]
          refine za_imul (pc := 80) dX7_layKept_80 ?_
          refine za_iload_n (pc := 81) dX7_layKept_81 rfl ?_
          refine za_iadd (pc := 82) dX7_layKept_82 ?_
          rw [m1024]
          refine za_iload_n (pc := 83) dX7_layKept_83 rfl ?_
          refine za_iload_n (pc := 84) dX7_layKept_84 rfl ?_
          refine za_icmp_ne (pc := 85) 94 dX7_layKept_85 (by decide) (fun c85 => ?_) (fun c85 => ?_)
          · have hsN : s ≠ N := fun q => c85 (by rw [q])
            have hval : ∀ a b, okU c (h + 1) S a b → ∃ w, Vl c (h + 1) (thn S a b) w := fun a b o => by
              obtain ⟨w, _, hw⟩ := hR (h + 1) (by omega) hh _ (thn_sup hS o)
              exact ⟨w, hw⟩
            have hbO := tX7_bestOf uM hc hB.2.2 hh hS (hR (h + 1) (by omega) hh)
            rw [← ez] at hbO
            refine za_aload_n (pc := 94) dX7_layKept_94 rfl ?_
            refine za_iload_n (pc := 95) dX7_layKept_95 rfl ?_
            refine za_iload_n (pc := 96) dX7_layKept_96 rfl ?_
            refine za_cV2i (pc := 97) (μ' := mX7_bestOf) dX7_layKept_97 c_X7_194 rfl rfl rfl ⟨rfl, rfl⟩ ⟨rfl, rfl⟩ rfl rfl rfl (hbO) (fun x_97 t_97 h_97 => ?_)
            obtain ⟨v, k, T, rfl, f1, f2, f3, f4, f5, f6⟩ := h_97
            refine next t_97 v (KBas_up hB (fun d d1 d2 d3 d4 => f1 d d1) (fun i i1 i2 i3 => f2 i i2 i3)) (f1 65 (by decide)) ?_
            obtain ⟨w, _, hw⟩ := hR (h + 1) (by omega) hh _ hS
            exact Best_Vl hc f6 (fun q => hsN (full.mp q)) hval ⟨w, hw⟩
          · rw [nI_eq (by omega) (by omega)] at c85
            refine za_iload_n (pc := 88) dX7_layKept_88 rfl ?_
            refine za_iconst (pc := 89) (1) dX7_layKept_89 (by decide) ?_
            refine za_isub (pc := 90) dX7_layKept_90 ?_
            rw [nI_s1]
            refine za_goto (pc := 91) 100 dX7_layKept_91 (by decide) ?_
            refine next u h hB rfl (Or.inr ⟨Nat.le_refl h, by omega, ?_, fun d hd => by omega⟩)
            rw [Nat.sub_self]
            exact full.mpr c85
      refine za_iconst (pc := 63) (0) dX7_layKept_63 (by decide) ?_
      refine za_is3n (pc := 64) dX7_layKept_64 rfl ?_
      exact za_fg (by simp [zSub]; rfl) (inner (2 ^ cN c) 0 u (by omega) hB (fun g g1 g2 => hR g g1 g2) (fun S hS hm => by omega))
  refine zV_of (ls := [some (.ref 47), none, none, none, none, none]) (by decide) rfl rfl ?_
  refine za_aload_n (pc := 0) dX7_layKept_0 rfl ?_
  refine za_getI (pc := 1) dX7_layKept_1 lk_X7_98 rfl rfl ?_
  refine za_if_eq (pc := 4) 8 dX7_layKept_4 (by decide) (fun c4 => ?_) (fun c4 => ?_)
  · refine za_aload_n (pc := 8) dX7_layKept_8 rfl ?_
    refine za_iconst (pc := 9) (1) dX7_layKept_9 (by decide) ?_
    refine za_putX (pc := 10) dX7_layKept_10 lp_X7_98 rfl rfl rfl rfl ?_
    refine za_aload_n (pc := 13) dX7_layKept_13 rfl ?_
    refine za_cV0v (pc := 14) (μ' := mX7_layBehind) dX7_layKept_14 c_X7_115 rfl rfl rfl ⟨rfl, rfl⟩ ⟨rfl, rfl⟩ rfl rfl rfl (tX7_layBehind (σ := zup σ 47 14 1) (w := cW c) hn (by rw [zup_b (by decide)]; exact hM.1) (fun a ha => by rw [zup_n (by decide)]; exact (hM.2 a ha).2.2.2.2)) (fun t_14 h_14 => ?_)
    obtain ⟨x1, x2, -⟩ := h_14
    have tj : t_14 47 3 = nI (cN c) := by rw [x1 47 (by decide), zup_b (by decide)]; exact hM.1
    refine za_aload_n (pc := 17) dX7_layKept_17 rfl ?_
    refine za_cV0i (pc := 18) (μ' := mX7_all) dX7_layKept_18 c_X7_161 rfl rfl rfl ⟨rfl, rfl⟩ ⟨rfl, rfl⟩ rfl rfl rfl (tX7_all hn tj) (fun x_18 t_18 h_18 => ?_)
    obtain ⟨rfl, h9⟩ := h_18
    have h9 := h9.symm
    subst h9
    refine za_is1n (pc := 21) dX7_layKept_21 rfl ?_
    refine za_iconst (pc := 22) (0) dX7_layKept_22 (by decide) ?_
    refine za_is2n (pc := 23) dX7_layKept_23 rfl ?_
    rw [eA]
    have hB0 : KBas σ t_14 c := ⟨⟨fun d d1 d2 d3 d4 d5 => by rw [x1 d d2, zup_n d1], fun i i1 i2 i3 i4 => by rw [x1 47 (by decide), zup_b i1]⟩, by rw [x1 47 (by decide), zup_a], x2⟩
    have ph1 : ∀ (q s : Nat) (u : zSt), s + q = 2 ^ cN c → KBas σ u c → (∀ j, j < s → u 65 (61440 + j) = nI (if j = N then 60 else 99)) → zA (zZ mX7_layKept (zQV SH (fun t => MKept t c ∧ t 47 14 = 1 ∧ FMK t σ))) mX7_layKept none 0 0 24 [some (.ref 47), some (.int (nI N)), some (.int (nI s)), none, none, none] [] SH u := by
      intro q
      induction q with
      | zero =>
        intro s u hs hB hr
        refine za_iload_n (pc := 24) dX7_layKept_24 rfl ?_
        refine za_iload_n (pc := 25) dX7_layKept_25 rfl ?_
        refine za_icmp_gt (pc := 26) 56 dX7_layKept_26 (by decide) (fun c26 => ?_) (fun c26 => ?_)
        · refine za_bipush (pc := 56) (60) dX7_layKept_56 (by decide) ?_
          refine za_is2n (pc := 58) dX7_layKept_58 rfl ?_
          refine ph2 60 u _ (by omega) hB (fun g g1 g2 S hS => ?_)
          have : g = 60 := by omega
          subst this
          have hm := mkm_n hS
          refine ⟨_, hr (mkm S 16) (by omega), ?_⟩
          by_cases e : mkm S 16 = N
          · rw [if_pos e]
            have : S = alln (cN c) := mkm_inj (fun x hx => by have := hS x hx; omega) (fun x hx => by have : x < cN c := (by simpa using hx); omega) (by rw [e, hN])
            rw [this]
            exact Or.inr ⟨by omega, by omega, fun i hi => by simp [hi], fun d hd => by omega⟩
          · rw [if_neg e]
            refine Or.inl ⟨rfl, fun d hd hr => e ?_⟩
            have : d = 0 := by omega
            subst this
            rw [hN, ← full_all hS hr]
        · exact absurd (nI_lt (show N < s by omega) (by omega)) c26
      | succ q ih =>
        intro s u hs hB hr
        have vI : vp_in (nI (61440 + s)) 62464 := vp_in_nI (by omega) (by decide)
        have eI : (nI (61440 + s)).toNatClampNeg = 61440 + s := nI_clamp (by omega)
        have next : ∀ (v : Nat), v = (if s = N then 60 else 99) → zA (zZ mX7_layKept (zQV SH (fun t => MKept t c ∧ t 47 14 = 1 ∧ FMK t σ))) mX7_layKept none 0 0 49 [some (.ref 47), some (.int (nI N)), some (.int (nI s)), none, none, none] [.int (nI v), .int (nI (61440 + s)), .ref 65] SH u := by
          intro v hv
          refine za_iast (pc := 49) dX7_layKept_49 rfl vI ?_
          refine za_ii2 (pc := 50) (1) dX7_layKept_50 (by decide) rfl ?_
          refine za_goto (pc := 53) 24 dX7_layKept_53 (by decide) ?_
          rw [nI_1, eI]
          refine ih (s + 1) _ (by omega) (KBas_up hB (fun d d1 d2 d3 d4 => zup_n d2) (fun i _ _ _ => by rw [zup_n (by decide)])) (fun j hj => ?_)
          by_cases e : j = s
          · rw [e, zup_a, hv]
          · rw [zup_b (by omega)]; exact hr j (by omega)
        refine za_iload_n (pc := 24) dX7_layKept_24 rfl ?_
        refine za_iload_n (pc := 25) dX7_layKept_25 rfl ?_
        refine za_icmp_gt (pc := 26) 56 dX7_layKept_26 (by decide) (fun c26 => ?_) (fun c26 => ?_)
        · rw [nI_ltI (by omega) (by omega)] at c26
          omega
        refine za_aload_n (pc := 29) dX7_layKept_29 rfl ?_
        refine za_getR (pc := 30) dX7_layKept_30 lk_X7_62 rfl rfl ?_
        refine za_ldc (pc := 33) (61440) dX7_layKept_33 k_X7_193 ?_
        refine za_iload_n (pc := 35) dX7_layKept_35 rfl ?_
        refine za_iadd (pc := 36) dX7_layKept_36 ?_
        rw [show (61440 : Int32) + nI s = nI (61440 + s) from nI_add 61440 s]
        refine za_iload_n (pc := 37) dX7_layKept_37 rfl ?_
        refine za_iload_n (pc := 38) dX7_layKept_38 rfl ?_
        refine za_icmp_ne (pc := 39) 47 dX7_layKept_39 (by decide) (fun c39 => ?_) (fun c39 => ?_)
        · refine za_bipush (pc := 47) (99) dX7_layKept_47 (by decide) ?_
          exact next 99 (by rw [if_neg (fun q => c39 (by rw [q]))])
        · rw [nI_eq (by omega) (by omega)] at c39
          refine za_bipush (pc := 42) (60) dX7_layKept_42 (by decide) ?_
          refine za_goto (pc := 44) 49 dX7_layKept_44 (by decide) ?_
          exact next 60 (by rw [if_pos c39])
    exact ph1 (2 ^ cN c) 0 t_14 (by omega) hB0 (fun j hj => by omega)
  · have h14 : σ 47 14 = 1 ∧ MKept σ c := hI.resolve_left c4
    refine za_rv (pc := 7) dX7_layKept_7 rfl rfl rfl ?_
    exact ⟨h14.2, h14.1, fun _ _ _ _ _ _ => rfl, fun _ _ _ _ _ => rfl⟩
