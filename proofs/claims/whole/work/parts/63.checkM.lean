/-! check of the reference -/
def b2i (p : Bool) : Int32 := if p = true then 1 else 0
def allb (p : Nat → Bool) : Nat → Bool
  | 0 => true
  | k + 1 => allb p k && p k
theorem allb_t {p : Nat → Bool} : ∀ {k : Nat}, allb p k = true ↔ ∀ i, i < k → p i = true
  | 0 => ⟨fun _ i hi => by omega, fun _ => rfl⟩
  | k + 1 => by
    show (allb p k && p k) = true ↔ _
    rw [Bool.and_eq_true, allb_t]
    constructor
    · rintro ⟨h1, h2⟩ i hi
      rcases Nat.lt_or_eq_of_le (Nat.le_of_lt_succ hi) with e | e
      · exact h1 i e
      · rw [e]; exact h2
    · exact fun h => ⟨fun i hi => h i (by omega), h k (by omega)⟩
def dR (c : Core) (x : Int64) (a b : Nat) : Bool := !bhd c a b || decide (hN x b < hN x a)
def dD (c : Core) (x : Int64) (a : Nat) : Bool := (decide (0 < hN x a) && allb (dR c x a) (cN c)) && decide (cnt (fun b => decide (hN x b = hN x a)) (cN c) ≤ 2)
def kB (c : Core) (x : Int64) (a : Nat) : Bool := (decide (cB c a = -3) || decide (cB c a ≤ nI (hN x a))) && (decide (cE c a = -3) || decide (nI (hN x a) ≤ cE c a))
noncomputable def kR (c : Core) (x : Int64) (a b : Nat) : Bool := decide (a = b) || (!decide (hN x b = hN x a) || !tb (sB c a b))
noncomputable def kK (c : Core) (x : Int64) (a : Nat) : Bool := kB c x a && allb (kR c x a) (cN c)
theorem dD_day {c : Core} {x : Int64} (hc : cOk c) : allb (dD c x) (cN c) = true ↔ dayP c x := by
  rw [allb_t]
  constructor
  · intro h a ha
    have h1 := h a ha
    unfold dD at h1
    simp only [Bool.and_eq_true, decide_eq_true_eq] at h1
    refine ⟨h1.1.1, fun b hb hw => ?_, h1.2⟩
    have h2 := allb_t.mp h1.1.2 b hb
    unfold dR at h2
    rw [show bhd c a b = true from wR_sub hw] at h2
    simpa using h2
  · intro h a ha
    unfold dD
    simp only [Bool.and_eq_true, decide_eq_true_eq]
    refine ⟨⟨(h a ha).1, allb_t.mpr (fun b hb => ?_)⟩, (h a ha).2.2⟩
    unfold dR
    cases hr : bhd c a b with
    | false => rfl
    | true =>
      have := (wR_min (T := fun a b => hN x b < hN x a) hc.2.2.1 (fun a b ha hw => (h a ha).2.1 b (hc.2.2.1 a b ha hw) hw) (fun a b d _ _ _ h1 h2 => Nat.lt_trans h2 h1) (cN c) a b (Nat.le_refl _) ha hr).2
      simpa using this
theorem kK_keep {c : Core} {x : Int64} (hc : cOk c) (hd : dayP c x) : allb (kK c x) (cN c) = true ↔ keepP c x := by
  have hn := hc.1
  have key : ∀ a, a < cN c → (kB c x a = true ↔ (bN c a ≤ hN x a ∧ hN x a ≤ eN c a)) := fun a ha => by
    obtain ⟨-, -, p1, p2, q1, q2, b1, b2, e1, e2⟩ := bE_ok hc ha
    have h1 := (hd a ha).1
    have h2 := hN_lt x a
    unfold kB
    simp only [Bool.and_eq_true, Bool.or_eq_true, decide_eq_true_eq]
    have k1 : (cB c a = -3 ∨ cB c a ≤ nI (hN x a)) ↔ bN c a ≤ hN x a := by
      by_cases e : cB c a = -3
      · exact ⟨fun _ => by rw [b1 e]; omega, fun _ => Or.inl e⟩
      · have e3 := b2 e
        constructor
        · intro q
          have q := q.resolve_left e
          rw [e3, nI_leI (by omega) (by omega)] at q
          exact q
        · intro q
          right
          rw [e3, nI_leI (by omega) (by omega)]
          exact q
    have k2 : (cE c a = -3 ∨ nI (hN x a) ≤ cE c a) ↔ hN x a ≤ eN c a := by
      by_cases e : cE c a = -3
      · exact ⟨fun _ => by rw [e1 e]; omega, fun _ => Or.inl e⟩
      · have e3 := e2 e
        constructor
        · intro q
          have q := q.resolve_left e
          rw [e3, nI_leI (by omega) (by omega)] at q
          exact q
        · intro q
          right
          rw [e3, nI_leI (by omega) (by omega)]
          exact q
    rw [k1, k2]
  have kr : ∀ a b, kR c x a b = true ↔ (a = b ∨ ¬ (hN x b = hN x a ∧ sB c a b)) := fun a b => by
    unfold kR
    rw [Bool.or_eq_true, decide_eq_true_eq, Bool.or_eq_true, Bool.not_eq_true', decide_eq_false_iff_not, Bool.not_eq_true', tb_f]
    constructor
    · rintro (q | q | q)
      · exact Or.inl q
      · exact Or.inr (fun z => q z.1)
      · exact Or.inr (fun z => q z.2)
    · rintro (q | q)
      · exact Or.inl q
      · by_cases e : hN x b = hN x a
        · exact Or.inr (Or.inr (fun z => q ⟨e, z⟩))
        · exact Or.inr (Or.inl e)
  rw [allb_t]
  constructor
  · intro h a ha
    have h1 := h a ha
    unfold kK at h1
    rw [Bool.and_eq_true] at h1
    refine ⟨(key a ha).mp h1.1, fun b hb => ?_⟩
    exact ((kr a b).mp (allb_t.mp h1.2 b (by omega))).resolve_left (by omega)
  · intro h a ha
    unfold kK
    rw [Bool.and_eq_true]
    refine ⟨(key a ha).mpr (h a ha).1, allb_t.mpr (fun b hb => (kr a b).mpr ?_)⟩
    rcases Nat.lt_trichotomy a b with e | e | e
    · exact Or.inr (fun q => (h b hb).2 a e ⟨q.1.symm, fun z => q.2.1 (q.2.2.trans z), q.2.2.symm⟩)
    · exact Or.inl e
    · exact Or.inr ((h a ha).2 b e)
theorem tX7_check {σ : zSt} {c : Core} {x : Int64} (hP : MP σ c) : zI mX7_check [.ref 47, .long x] SH σ (fun y t => y = spCheck c x ∧ ∀ d, d ≠ 59 → t d = σ d) := by
  obtain ⟨hM0, hc⟩ := hP
  have hn := hc.1
  refine zI_of (ls := [some (.ref 47), some (.long x), none, none, none, none, none, none, none, none]) (by decide) rfl rfl ?_
  refine za_aload_n (pc := 0) dX7_check_0 rfl ?_
  refine za_cV0v (pc := 1) (μ' := mX7_layBehind) dX7_check_1 c_X7_115 rfl rfl rfl ⟨rfl, rfl⟩ ⟨rfl, rfl⟩ rfl rfl rfl (tX7_layBehind hn hM0.1 (fun a ha => (hM0.2 a ha).2.2.2.2)) (fun t_1 h_1 => ?_)
  obtain ⟨q1, q2, -⟩ := h_1
  have hM : MCore t_1 c := MCore_cong hM0 (fun d _ _ => q1 d (by omega)) (by rw [q1 47 (by decide)])
  have hj := hM.1
  generalize hQ : (zQI SH (fun y t => y = spCheck c x ∧ ∀ d, d ≠ 59 → t d = σ d)) = Q
  have fin : Q (some (.int (spCheck c x))) SH t_1 := by rw [← hQ]; exact ⟨_, rfl, rfl, rfl, q1⟩
  have outer : ∀ (q a : Nat) (x6 x7 x8 x9 : Option Value), a + q = cN c → zA (zZ mX7_check Q) mX7_check none 0 0 12 [some (.ref 47), some (.long x), none, some (.int (b2i (allb (dD c x) a))), some (.int (b2i (allb (kK c x) a))), some (.int (nI a)), x6, x7, x8, x9] [] SH t_1 := by
    intro q
    induction q with
    | zero =>
      intro a x6 x7 x8 x9 ha
      have ea : a = cN c := by omega
      subst ea
      refine za_iload (pc := 12) dX7_check_12 rfl ?_
      refine za_aload_n (pc := 14) dX7_check_14 rfl ?_
      refine za_getI (pc := 15) dX7_check_15 lk_X7_91 rfl rfl ?_
      rw [hj]
      refine za_icmp_ge (pc := 18) 249 dX7_check_18 (by decide) (fun c18 => ?_) (fun c18 => ?_)
      · refine za_iload_n (pc := 249) dX7_check_249 rfl ?_
        cases hd : allb (dD c x) (cN c) with
        | false =>
          have e : spCheck c x = 0 := by
            unfold spCheck
            rw [if_neg]
            rw [tb_t, ← dD_day hc, hd]
            decide
          rw [e, ← hQ] at fin
          rw [show b2i false = 0 from rfl, ← hQ]
          refine za_if_ne (pc := 250) 257 dX7_check_250 (by decide) (fun c250 => ?_) (fun c250 => ?_)
          · exact absurd rfl c250
          · refine za_iconst (pc := 253) (0) dX7_check_253 (by decide) ?_
            refine za_goto (pc := 254) 267 dX7_check_254 (by decide) ?_
            refine za_ri (pc := 267) dX7_check_267 rfl rfl rfl ?_
            obtain ⟨y, h1, h2, h3⟩ := fin
            cases h1
            exact h3
        | true =>
          have hday := (dD_day hc).mp hd
          rw [show b2i true = 1 from rfl]
          refine za_if_ne (pc := 250) 257 dX7_check_250 (by decide) (fun c250 => ?_) (fun c250 => ?_)
          · refine za_iload (pc := 257) dX7_check_257 rfl ?_
            cases hk : allb (kK c x) (cN c) with
            | true =>
              have e : spCheck c x = 2 := by
                unfold spCheck
                rw [if_pos (tb_t.mpr hday), if_pos (tb_t.mpr ((kK_keep hc hday).mp hk))]
              rw [e, ← hQ] at fin
              rw [show b2i true = 1 from rfl, ← hQ]
              refine za_if_eq (pc := 259) 266 dX7_check_259 (by decide) (fun c259 => ?_) (fun c259 => ?_)
              · exact absurd c259 (by decide)
              · refine za_iconst (pc := 262) (2) dX7_check_262 (by decide) ?_
                refine za_goto (pc := 263) 267 dX7_check_263 (by decide) ?_
                refine za_ri (pc := 267) dX7_check_267 rfl rfl rfl ?_
                obtain ⟨y, h1, h2, h3⟩ := fin
                cases h1
                exact h3
            | false =>
              have e : spCheck c x = 1 := by
                unfold spCheck
                rw [if_pos (tb_t.mpr hday), if_neg]
                rw [tb_t, ← kK_keep hc hday, hk]
                decide
              rw [e, ← hQ] at fin
              rw [show b2i false = 0 from rfl, ← hQ]
              refine za_if_eq (pc := 259) 266 dX7_check_259 (by decide) (fun c259 => ?_) (fun c259 => ?_)
              · refine za_iconst (pc := 266) (1) dX7_check_266 (by decide) ?_
                refine za_ri (pc := 267) dX7_check_267 rfl rfl rfl ?_
                obtain ⟨y, h1, h2, h3⟩ := fin
                cases h1
                exact h3
              · exact absurd rfl c259
          · exact absurd c250 (by decide)
      · exact absurd (nI_le (Nat.le_refl (cN c)) (by omega)) c18
    | succ q ih =>
      intro a x6 x7 x8 x9 ha
      have hac : a < cN c := by omega
      have va : vp_in (nI a) 10 := vp_in_nI (by omega) (by decide)
      have ea : (nI a).toNatClampNeg = a := nI_clamp (by omega)
      have l1 := hN_lt x a
      obtain ⟨-, m2, m3, -, -⟩ := hM.2 a hac
      refine za_fg (ls' := [some (.ref 47), some (.long x), none, some (.int (b2i (allb (dD c x) a))), some (.int (b2i (allb (kK c x) a))), some (.int (nI a)), none, none, none, none]) (by simp [zSub]) ?_
      -- the row of b's
      have inner : ∀ (q b : Nat) (x9 : Option Value), b + q = cN c → zA (zZ mX7_check Q) mX7_check none 0 0 116 [some (.ref 47), some (.long x), none, some (.int (b2i ((allb (dD c x) a && decide (0 < hN x a)) && allb (dR c x a) b))), some (.int (b2i ((allb (kK c x) a && kB c x a) && allb (kR c x a) b))), some (.int (nI a)), some (.int (nI (hN x a))), some (.int (nI (cnt (fun b => decide (hN x b = hN x a)) b))), some (.int (nI b)), x9] [] SH t_1 := by
        intro q
        induction q with
        | zero =>
          intro b x9 hb
          have eb : b = cN c := by omega
          subst eb
          have hcn := cnt_le (fun b => decide (hN x b = hN x a)) (cN c)
          have go52 : ∀ (p : Bool), p = allb (dD c x) (a + 1) → zA (zZ mX7_check Q) mX7_check none 0 0 242 [some (.ref 47), some (.long x), none, some (.int (b2i ((allb (dD c x) a && decide (0 < hN x a)) && allb (dR c x a) (cN c)))), some (.int (b2i ((allb (kK c x) a && kB c x a) && allb (kR c x a) (cN c)))), some (.int (nI a)), some (.int (nI (hN x a))), some (.int (nI (cnt (fun b => decide (hN x b = hN x a)) (cN c)))), some (.int (nI (cN c))), x9] [.int (b2i p)] SH t_1 := by
            intro p hp
            have ek : ((allb (kK c x) a && kB c x a) && allb (kR c x a) (cN c)) = allb (kK c x) (a + 1) := by
              show _ = (allb (kK c x) a && (kB c x a && allb (kR c x a) (cN c)))
              rw [Bool.and_assoc]
            refine za_is3n (pc := 242) dX7_check_242 rfl ?_
            refine za_ii5 (pc := 243) (1) dX7_check_243 (by decide) rfl ?_
            refine za_goto (pc := 246) 12 dX7_check_246 (by decide) ?_
            rw [nI_1, hp, ek]
            exact ih (a + 1) _ _ _ _ (by omega)
          have eD : allb (dD c x) (a + 1) = ((((allb (dD c x) a && decide (0 < hN x a)) && allb (dR c x a) (cN c))) && decide (cnt (fun b => decide (hN x b = hN x a)) (cN c) ≤ 2)) := by
            show (allb (dD c x) a && ((decide (0 < hN x a) && allb (dR c x a) (cN c)) && decide (cnt (fun b => decide (hN x b = hN x a)) (cN c) ≤ 2))) = _
            simp only [Bool.and_assoc]
          refine za_iload (pc := 116) dX7_check_116 rfl ?_
          refine za_aload_n (pc := 118) dX7_check_118 rfl ?_
          refine za_getI (pc := 119) dX7_check_119 lk_X7_91 rfl rfl ?_
          rw [hj]
          refine za_icmp_ge (pc := 122) 227 dX7_check_122 (by decide) (fun c122 => ?_) (fun c122 => ?_)
          · refine za_iload_n (pc := 227) dX7_check_227 rfl ?_
            cases hd : ((allb (dD c x) a && decide (0 < hN x a)) && allb (dR c x a) (cN c)) with
            | false =>
              rw [hd] at go52 eD
              rw [show b2i false = 0 from rfl] at go52 ⊢
              refine za_if_eq (pc := 228) 241 dX7_check_228 (by decide) (fun c228 => ?_) (fun c228 => ?_)
              · refine za_iconst (pc := 241) (0) dX7_check_241 (by decide) ?_
                exact go52 false (by rw [eD]; rfl)
              · exact absurd rfl c228
            | true =>
              rw [hd] at go52 eD
              rw [show b2i true = 1 from rfl] at go52 ⊢
              refine za_if_eq (pc := 228) 241 dX7_check_228 (by decide) (fun c228 => ?_) (fun c228 => ?_)
              · exact absurd c228 (by decide)
              refine za_iload (pc := 231) dX7_check_231 rfl ?_
              refine za_iconst (pc := 233) (2) dX7_check_233 (by decide) ?_
              refine za_icmp_gt (pc := 234) 241 dX7_check_234 (by decide) (fun c234 => ?_) (fun c234 => ?_)
              · have c234 : nI 2 < nI (cnt (fun b => decide (hN x b = hN x a)) (cN c)) := c234
                rw [nI_ltI (by decide) (by omega)] at c234
                refine za_iconst (pc := 241) (0) dX7_check_241 (by decide) ?_
                exact go52 false (by rw [eD, decide_eq_false (by omega)]; rfl)
              · have c234 : ¬ nI 2 < nI (cnt (fun b => decide (hN x b = hN x a)) (cN c)) := c234
                rw [nI_ltI (by decide) (by omega)] at c234
                refine za_iconst (pc := 237) (1) dX7_check_237 (by decide) ?_
                refine za_goto (pc := 238) 242 dX7_check_238 (by decide) ?_
                exact go52 true (by rw [eD, decide_eq_true (by omega)]; rfl)
          · exact absurd (nI_le (Nat.le_refl (cN c)) (by omega)) c122
        | succ q ih2 =>
          intro b x9 hb
          have hbc : b < cN c := by omega
          have l2 := hN_lt x b
          have hcn := cnt_le (fun b => decide (hN x b = hN x a)) b
          generalize hp : ((allb (dD c x) a && decide (0 < hN x a)) && allb (dR c x a) b) = p
          generalize hk : ((allb (kK c x) a && kB c x a) && allb (kR c x a) b) = k
          have last : ∀ (k' : Bool) (p' : Bool) (x4 : Int32), k' = (k && kR c x a b) → p' = (p && dR c x a b) → zA (zZ mX7_check Q) mX7_check none 0 0 219 [some (.ref 47), some (.long x), none, some (.int (b2i p')), some (.int x4), some (.int (nI a)), some (.int (nI (hN x a))), some (.int (nI (cnt (fun b => decide (hN x b = hN x a)) (b + 1)))), some (.int (nI b)), some (.int (nI (hN x b)))] [.int (b2i k')] SH t_1 := by
            intro k' p' x4 h1 h2
            refine za_is4 (pc := 219) dX7_check_219 rfl ?_
            refine za_ii8 (pc := 221) (1) dX7_check_221 (by decide) rfl ?_
            refine za_goto (pc := 224) 116 dX7_check_224 (by decide) ?_
            have e1 : p' = ((allb (dD c x) a && decide (0 < hN x a)) && allb (dR c x a) (b + 1)) := by
              rw [h2, ← hp]
              show _ = ((allb (dD c x) a && decide (0 < hN x a)) && (allb (dR c x a) b && dR c x a b))
              rw [Bool.and_assoc]
            have e2 : k' = ((allb (kK c x) a && kB c x a) && allb (kR c x a) (b + 1)) := by
              rw [h1, ← hk]
              show _ = ((allb (kK c x) a && kB c x a) && (allb (kR c x a) b && kR c x a b))
              rw [Bool.and_assoc]
            rw [nI_1, e1, e2]
            exact ih2 (b + 1) _ (by omega)
          have at184 : ∀ (p' : Bool), p' = (p && dR c x a b) → zA (zZ mX7_check Q) mX7_check none 0 0 184 [some (.ref 47), some (.long x), none, some (.int (b2i p')), some (.int (b2i k)), some (.int (nI a)), some (.int (nI (hN x a))), some (.int (nI (cnt (fun b => decide (hN x b = hN x a)) (b + 1)))), some (.int (nI b)), some (.int (nI (hN x b)))] [] SH t_1 := by
            intro p' hp'
            refine za_iload (pc := 184) dX7_check_184 rfl ?_
            cases hk2 : k with
            | false =>
              rw [show b2i false = 0 from rfl]
              refine za_if_eq (pc := 186) 218 dX7_check_186 (by decide) (fun c186 => ?_) (fun c186 => ?_)
              · refine za_iconst (pc := 218) (0) dX7_check_218 (by decide) ?_
                exact last false p' _ (by rw [hk2]; rfl) hp'
              · exact absurd rfl c186
            | true =>
              rw [show b2i true = 1 from rfl]
              refine za_if_eq (pc := 186) 218 dX7_check_186 (by decide) (fun c186 => ?_) (fun c186 => ?_)
              · exact absurd c186 (by decide)
              refine za_iload (pc := 189) dX7_check_189 rfl ?_
              refine za_iload (pc := 191) dX7_check_191 rfl ?_
              refine za_icmp_eq (pc := 193) 214 dX7_check_193 (by decide) (fun c193 => ?_) (fun c193 => ?_)
              · rw [nI_eq (by omega) (by omega)] at c193
                refine za_iconst (pc := 214) (1) dX7_check_214 (by decide) ?_
                refine za_goto (pc := 215) 219 dX7_check_215 (by decide) ?_
                exact last true p' _ (by rw [hk2]; unfold kR; rw [decide_eq_true c193]; rfl) hp'
              rw [nI_eq (by omega) (by omega)] at c193
              refine za_iload (pc := 196) dX7_check_196 rfl ?_
              refine za_iload (pc := 198) dX7_check_198 rfl ?_
              refine za_icmp_ne (pc := 200) 214 dX7_check_200 (by decide) (fun c200 => ?_) (fun c200 => ?_)
              · rw [nI_eq (by omega) (by omega)] at c200
                refine za_iconst (pc := 214) (1) dX7_check_214 (by decide) ?_
                refine za_goto (pc := 215) 219 dX7_check_215 (by decide) ?_
                exact last true p' _ (by rw [hk2]; unfold kR; rw [decide_eq_false c193, decide_eq_false c200]; rfl) hp'
              rw [nI_eq (by omega) (by omega)] at c200
              refine za_aload_n (pc := 203) dX7_check_203 rfl ?_
              refine za_iload (pc := 204) dX7_check_204 rfl ?_
              refine za_iload (pc := 206) dX7_check_206 rfl ?_
              refine za_cV2i (pc := 208) (μ' := mX7_may2) dX7_check_208 c_X7_187 rfl rfl rfl ⟨rfl, rfl⟩ ⟨rfl, rfl⟩ rfl rfl rfl (tX7_may2 hM hn hac hbc) (fun x_208 t_208 h_208 => ?_)
              obtain ⟨o1, o2⟩ := h_208
              have o2 := o2.symm
              subst o2
              rcases o1 with ⟨rfl, hsb⟩ | ⟨rfl, hsb⟩
              · refine za_if_eq (pc := 211) 218 dX7_check_211 (by decide) (fun c211 => ?_) (fun c211 => ?_)
                · exact absurd c211 (by decide)
                refine za_iconst (pc := 214) (1) dX7_check_214 (by decide) ?_
                refine za_goto (pc := 215) 219 dX7_check_215 (by decide) ?_
                exact last true p' _ (by rw [hk2]; unfold kR; rw [tb_f.mpr hsb]; simp) hp'
              · refine za_if_eq (pc := 211) 218 dX7_check_211 (by decide) (fun c211 => ?_) (fun c211 => ?_)
                · refine za_iconst (pc := 218) (0) dX7_check_218 (by decide) ?_
                  exact last false p' _ (by rw [hk2]; unfold kR; rw [decide_eq_false c193, decide_eq_true c200, tb_t.mpr hsb]; rfl) hp'
                · exact absurd rfl c211
          have at183 : ∀ (p' : Bool) (x3 : Int32), p' = (p && dR c x a b) → zA (zZ mX7_check Q) mX7_check none 0 0 183 [some (.ref 47), some (.long x), none, some (.int x3), some (.int (b2i k)), some (.int (nI a)), some (.int (nI (hN x a))), some (.int (nI (cnt (fun b => decide (hN x b = hN x a)) (b + 1)))), some (.int (nI b)), some (.int (nI (hN x b)))] [.int (b2i p')] SH t_1 := by
            intro p' x3 hp'
            refine za_is3n (pc := 183) dX7_check_183 rfl ?_
            exact at184 p' hp'
          have at156 : zA (zZ mX7_check Q) mX7_check none 0 0 156 [some (.ref 47), some (.long x), none, some (.int (b2i p)), some (.int (b2i k)), some (.int (nI a)), some (.int (nI (hN x a))), some (.int (nI (cnt (fun b => decide (hN x b = hN x a)) (b + 1)))), some (.int (nI b)), some (.int (nI (hN x b)))] [] SH t_1 := by
            refine za_iload_n (pc := 156) dX7_check_156 rfl ?_
            cases hp2 : p with
            | false =>
              rw [show b2i false = 0 from rfl]
              refine za_if_eq (pc := 157) 182 dX7_check_157 (by decide) (fun c157 => ?_) (fun c157 => ?_)
              · refine za_iconst (pc := 182) (0) dX7_check_182 (by decide) ?_
                exact at183 false _ (by rw [hp2]; rfl)
              · exact absurd rfl c157
            | true =>
              rw [show b2i true = 1 from rfl]
              refine za_if_eq (pc := 157) 182 dX7_check_157 (by decide) (fun c157 => ?_) (fun c157 => ?_)
              · exact absurd c157 (by decide)
              refine za_aload_n (pc := 160) dX7_check_160 rfl ?_
              refine za_iload (pc := 161) dX7_check_161 rfl ?_
              refine za_iload (pc := 163) dX7_check_163 rfl ?_
              refine za_cV2i (pc := 165) (μ' := mX7_isBehind) dX7_check_165 c_X7_118 rfl rfl rfl ⟨rfl, rfl⟩ ⟨rfl, rfl⟩ rfl rfl rfl (tX7_isBehind (p := bhd c a) (by omega) (by omega) (q2 a hac)) (fun x_165 t_165 h_165 => ?_)
              obtain ⟨rfl, h9⟩ := h_165
              have h9 := h9.symm
              subst h9
              cases hr : bhd c a b with
              | false =>
                rw [if_neg (by decide)]
                refine za_if_eq (pc := 168) 178 dX7_check_168 (by decide) (fun c168 => ?_) (fun c168 => ?_)
                · refine za_iconst (pc := 178) (1) dX7_check_178 (by decide) ?_
                  refine za_goto (pc := 179) 183 dX7_check_179 (by decide) ?_
                  exact at183 true _ (by rw [hp2]; unfold dR; rw [hr]; rfl)
                · exact absurd rfl c168
              | true =>
                rw [if_pos rfl]
                refine za_if_eq (pc := 168) 178 dX7_check_168 (by decide) (fun c168 => ?_) (fun c168 => ?_)
                · exact absurd c168 (by decide)
                refine za_iload (pc := 171) dX7_check_171 rfl ?_
                refine za_iload (pc := 173) dX7_check_173 rfl ?_
                refine za_icmp_le (pc := 175) 182 dX7_check_175 (by decide) (fun c175 => ?_) (fun c175 => ?_)
                · rw [nI_leI (by omega) (by omega)] at c175
                  refine za_iconst (pc := 182) (0) dX7_check_182 (by decide) ?_
                  exact at183 false _ (by rw [hp2]; unfold dR; rw [hr, decide_eq_false (by omega)]; rfl)
                · rw [nI_leI (by omega) (by omega)] at c175
                  refine za_iconst (pc := 178) (1) dX7_check_178 (by decide) ?_
                  refine za_goto (pc := 179) 183 dX7_check_179 (by decide) ?_
                  exact at183 true _ (by rw [hp2]; unfold dR; rw [hr, decide_eq_true (by omega)]; rfl)
          refine za_fg (ls' := [some (.ref 47), some (.long x), none, some (.int (b2i p)), some (.int (b2i k)), some (.int (nI a)), some (.int (nI (hN x a))), some (.int (nI (cnt (fun b => decide (hN x b = hN x a)) b))), some (.int (nI b)), none]) (by simp [zSub]) ?_
          refine za_iload (pc := 116) dX7_check_116 rfl ?_
          refine za_aload_n (pc := 118) dX7_check_118 rfl ?_
          refine za_getI (pc := 119) dX7_check_119 lk_X7_91 rfl rfl ?_
          rw [hj]
          refine za_icmp_ge (pc := 122) 227 dX7_check_122 (by decide) (fun c122 => ?_) (fun c122 => ?_)
          · exact absurd c122 (nI_ge hbc (by omega))
          refine za_lload_n (pc := 125) dX7_check_125 rfl ?_
          refine za_bipush (pc := 126) (6) dX7_check_126 (by decide) ?_
          refine za_iload (pc := 128) dX7_check_128 rfl ?_
          refine za_imul (pc := 130) dX7_check_130 ?_
          refine za_lshr (pc := 131) dX7_check_131 ?_
          refine za_ldc2_w (pc := 132) (63) dX7_check_132 k_X7_200 ?_
          refine za_land (pc := 135) dX7_check_135 ?_
          refine za_l2i (pc := 136) dX7_check_136 ?_
          rw [hr_M (show b < 10 by omega)]
          refine za_is9 (pc := 137) dX7_check_137 rfl ?_
          refine za_iload (pc := 139) dX7_check_139 rfl ?_
          refine za_iload (pc := 141) dX7_check_141 rfl ?_
          refine za_iload (pc := 143) dX7_check_143 rfl ?_
          refine za_icmp_ne (pc := 145) 152 dX7_check_145 (by decide) (fun c145 => ?_) (fun c145 => ?_)
          · rw [nI_eq (by omega) (by omega)] at c145
            refine za_iconst (pc := 152) (0) dX7_check_152 (by decide) ?_
            refine za_iadd (pc := 153) dX7_check_153 ?_
            rw [show nI (cnt (fun b => decide (hN x b = hN x a)) b) + 0 = nI (cnt (fun b => decide (hN x b = hN x a)) (b + 1)) by rw [Int32.add_zero, cnt_f (p := fun b => decide (hN x b = hN x a)) (decide_eq_false c145)]]
            refine za_is7 (pc := 154) dX7_check_154 rfl ?_
            exact at156
          · rw [nI_eq (by omega) (by omega)] at c145
            refine za_iconst (pc := 148) (1) dX7_check_148 (by decide) ?_
            refine za_goto (pc := 149) 153 dX7_check_149 (by decide) ?_
            refine za_iadd (pc := 153) dX7_check_153 ?_
            rw [nI_1, ← cnt_t (p := fun b => decide (hN x b = hN x a)) (decide_eq_true c145)]
            refine za_is7 (pc := 154) dX7_check_154 rfl ?_
            exact at156
      have at113 : zA (zZ mX7_check Q) mX7_check none 0 0 113 [some (.ref 47), some (.long x), none, some (.int (b2i (allb (dD c x) a && decide (0 < hN x a)))), some (.int (b2i (allb (kK c x) a && kB c x a))), some (.int (nI a)), some (.int (nI (hN x a))), some (.int 0), none, none] [] SH t_1 := by
        have := inner (cN c) 0 none (by omega)
        rw [show ((allb (dD c x) a && decide (0 < hN x a)) && allb (dR c x a) 0) = (allb (dD c x) a && decide (0 < hN x a)) from Bool.and_true _, show ((allb (kK c x) a && kB c x a) && allb (kR c x a) 0) = (allb (kK c x) a && kB c x a) from Bool.and_true _] at this
        refine za_iconst (pc := 113) (0) dX7_check_113 (by decide) ?_
        refine za_is8 (pc := 114) dX7_check_114 rfl ?_
        exact this
      have at111 : ∀ (k : Bool) (x4 : Int32), k = (allb (kK c x) a && kB c x a) → zA (zZ mX7_check Q) mX7_check none 0 0 111 [some (.ref 47), some (.long x), none, some (.int (b2i (allb (dD c x) a && decide (0 < hN x a)))), some (.int x4), some (.int (nI a)), some (.int (nI (hN x a))), some (.int 0), none, none] [.int (b2i k)] SH t_1 := by
        intro k x4 hk
        refine za_is4 (pc := 111) dX7_check_111 rfl ?_
        rw [hk]
        exact at113
      have at53 : zA (zZ mX7_check Q) mX7_check none 0 0 53 [some (.ref 47), some (.long x), none, some (.int (b2i (allb (dD c x) a && decide (0 < hN x a)))), some (.int (b2i (allb (kK c x) a))), some (.int (nI a)), some (.int (nI (hN x a))), some (.int 0), none, none] [] SH t_1 := by
        refine za_iload (pc := 53) dX7_check_53 rfl ?_
        cases hk : allb (kK c x) a with
        | false =>
          rw [show b2i false = 0 from rfl]
          refine za_if_eq (pc := 55) 110 dX7_check_55 (by decide) (fun c55 => ?_) (fun c55 => ?_)
          · refine za_iconst (pc := 110) (0) dX7_check_110 (by decide) ?_
            exact at111 false _ (by rw [hk]; rfl)
          · exact absurd rfl c55
        | true =>
          rw [show b2i true = 1 from rfl]
          refine za_if_eq (pc := 55) 110 dX7_check_55 (by decide) (fun c55 => ?_) (fun c55 => ?_)
          · exact absurd c55 (by decide)
          have bad : kB c x a = false → zA (zZ mX7_check Q) mX7_check none 0 0 110 [some (.ref 47), some (.long x), none, some (.int (b2i (allb (dD c x) a && decide (0 < hN x a)))), some (.int 1), some (.int (nI a)), some (.int (nI (hN x a))), some (.int 0), none, none] [] SH t_1 := by
            intro q
            refine za_iconst (pc := 110) (0) dX7_check_110 (by decide) ?_
            exact at111 false _ (by rw [hk, q]; rfl)
          have good : kB c x a = true → zA (zZ mX7_check Q) mX7_check none 0 0 106 [some (.ref 47), some (.long x), none, some (.int (b2i (allb (dD c x) a && decide (0 < hN x a)))), some (.int 1), some (.int (nI a)), some (.int (nI (hN x a))), some (.int 0), none, none] [] SH t_1 := by
            intro q
            refine za_iconst (pc := 106) (1) dX7_check_106 (by decide) ?_
            refine za_goto (pc := 107) 111 dX7_check_107 (by decide) ?_
            exact at111 true _ (by rw [hk, q]; rfl)
          have at82 : (decide (cB c a = -3) || decide (cB c a ≤ nI (hN x a))) = true → zA (zZ mX7_check Q) mX7_check none 0 0 82 [some (.ref 47), some (.long x), none, some (.int (b2i (allb (dD c x) a && decide (0 < hN x a)))), some (.int 1), some (.int (nI a)), some (.int (nI (hN x a))), some (.int 0), none, none] [] SH t_1 := by
            intro hb
            refine za_aload_n (pc := 82) dX7_check_82 rfl ?_
            refine za_getR (pc := 83) dX7_check_83 lk_X7_25 rfl rfl ?_
            refine za_iload (pc := 86) dX7_check_86 rfl ?_
            refine za_iald (pc := 88) dX7_check_88 rfl va ?_
            refine za_bipush (pc := 89) (-3) dX7_check_89 (by decide) ?_
            rw [ea, m3]
            refine za_icmp_eq (pc := 91) 106 dX7_check_91 (by decide) (fun c91 => ?_) (fun c91 => ?_)
            · exact good (by unfold kB; rw [hb, decide_eq_true c91]; rfl)
            refine za_iload (pc := 94) dX7_check_94 rfl ?_
            refine za_aload_n (pc := 96) dX7_check_96 rfl ?_
            refine za_getR (pc := 97) dX7_check_97 lk_X7_25 rfl rfl ?_
            refine za_iload (pc := 100) dX7_check_100 rfl ?_
            refine za_iald (pc := 102) dX7_check_102 rfl va ?_
            rw [ea, m3]
            refine za_icmp_gt (pc := 103) 110 dX7_check_103 (by decide) (fun c103 => ?_) (fun c103 => ?_)
            · exact bad (by unfold kB; rw [hb, decide_eq_false c91, decide_eq_false (fun q => absurd c103 (Int32.not_lt.mpr q))]; rfl)
            · exact good (by unfold kB; rw [hb, decide_eq_true (Int32.not_lt.mp c103)]; simp)
          refine za_aload_n (pc := 58) dX7_check_58 rfl ?_
          refine za_getR (pc := 59) dX7_check_59 lk_X7_22 rfl rfl ?_
          refine za_iload (pc := 62) dX7_check_62 rfl ?_
          refine za_iald (pc := 64) dX7_check_64 rfl va ?_
          refine za_bipush (pc := 65) (-3) dX7_check_65 (by decide) ?_
          rw [ea, m2]
          refine za_icmp_eq (pc := 67) 82 dX7_check_67 (by decide) (fun c67 => ?_) (fun c67 => ?_)
          · exact at82 (by rw [decide_eq_true c67]; rfl)
          refine za_iload (pc := 70) dX7_check_70 rfl ?_
          refine za_aload_n (pc := 72) dX7_check_72 rfl ?_
          refine za_getR (pc := 73) dX7_check_73 lk_X7_22 rfl rfl ?_
          refine za_iload (pc := 76) dX7_check_76 rfl ?_
          refine za_iald (pc := 78) dX7_check_78 rfl va ?_
          rw [ea, m2]
          refine za_icmp_lt (pc := 79) 110 dX7_check_79 (by decide) (fun c79 => ?_) (fun c79 => ?_)
          · exact bad (by unfold kB; rw [decide_eq_false c67, decide_eq_false (fun q => absurd c79 (Int32.not_lt.mpr q))]; rfl)
          · exact at82 (by rw [decide_eq_true (Int32.not_lt.mp c79)]; simp)
      have at52 : ∀ (p : Bool) (x3 : Int32), p = (allb (dD c x) a && decide (0 < hN x a)) → zA (zZ mX7_check Q) mX7_check none 0 0 52 [some (.ref 47), some (.long x), none, some (.int x3), some (.int (b2i (allb (kK c x) a))), some (.int (nI a)), some (.int (nI (hN x a))), some (.int 0), none, none] [.int (b2i p)] SH t_1 := by
        intro p x3 hp
        refine za_is3n (pc := 52) dX7_check_52 rfl ?_
        rw [hp]
        exact at53
      refine za_iload (pc := 12) dX7_check_12 rfl ?_
      refine za_aload_n (pc := 14) dX7_check_14 rfl ?_
      refine za_getI (pc := 15) dX7_check_15 lk_X7_91 rfl rfl ?_
      rw [hj]
      refine za_icmp_ge (pc := 18) 249 dX7_check_18 (by decide) (fun c18 => ?_) (fun c18 => ?_)
      · exact absurd c18 (nI_ge hac (by omega))
      refine za_lload_n (pc := 21) dX7_check_21 rfl ?_
      refine za_bipush (pc := 22) (6) dX7_check_22 (by decide) ?_
      refine za_iload (pc := 24) dX7_check_24 rfl ?_
      refine za_imul (pc := 26) dX7_check_26 ?_
      refine za_lshr (pc := 27) dX7_check_27 ?_
      refine za_ldc2_w (pc := 28) (63) dX7_check_28 k_X7_200 ?_
      refine za_land (pc := 31) dX7_check_31 ?_
      refine za_l2i (pc := 32) dX7_check_32 ?_
      rw [hr_M (show a < 10 by omega)]
      refine za_is6 (pc := 33) dX7_check_33 rfl ?_
      refine za_iconst (pc := 35) (0) dX7_check_35 (by decide) ?_
      refine za_is7 (pc := 36) dX7_check_36 rfl ?_
      refine za_iload_n (pc := 38) dX7_check_38 rfl ?_
      cases hd : allb (dD c x) a with
      | false =>
        rw [show b2i false = 0 from rfl]
        refine za_if_eq (pc := 39) 51 dX7_check_39 (by decide) (fun c39 => ?_) (fun c39 => ?_)
        · refine za_iconst (pc := 51) (0) dX7_check_51 (by decide) ?_
          exact at52 false _ (by rw [hd]; rfl)
        · exact absurd rfl c39
      | true =>
        rw [show b2i true = 1 from rfl]
        refine za_if_eq (pc := 39) 51 dX7_check_39 (by decide) (fun c39 => ?_) (fun c39 => ?_)
        · exact absurd c39 (by decide)
        refine za_iload (pc := 42) dX7_check_42 rfl ?_
        refine za_if_le (pc := 44) 51 dX7_check_44 (by decide) (fun c44 => ?_) (fun c44 => ?_)
        · have c44 : nI (hN x a) ≤ nI 0 := c44
          rw [nI_leI (by omega) (by decide)] at c44
          refine za_iconst (pc := 51) (0) dX7_check_51 (by decide) ?_
          exact at52 false _ (by rw [hd, decide_eq_false (by omega)]; rfl)
        · have c44 : ¬ nI (hN x a) ≤ nI 0 := c44
          rw [nI_leI (by omega) (by decide)] at c44
          refine za_iconst (pc := 47) (1) dX7_check_47 (by decide) ?_
          refine za_goto (pc := 48) 52 dX7_check_48 (by decide) ?_
          exact at52 true _ (by rw [hd, decide_eq_true (by omega)]; rfl)
  refine za_iconst (pc := 4) (1) dX7_check_4 (by decide) ?_
  refine za_is3n (pc := 5) dX7_check_5 rfl ?_
  refine za_iconst (pc := 6) (1) dX7_check_6 (by decide) ?_
  refine za_is4 (pc := 7) dX7_check_7 rfl ?_
  refine za_iconst (pc := 9) (0) dX7_check_9 (by decide) ?_
  refine za_is5 (pc := 10) dX7_check_10 rfl ?_
  exact outer (cN c) 0 _ _ _ _ (by omega)
