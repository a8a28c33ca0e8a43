/-! the RING of the reference -/
section RI
variable {n a : Nat} {w : Nat → Nat → Bool}
/-- the row of steps in round p, at c and d -/
def RI (w : Nat → Nat → Bool) (n a p c d : Nat) (S : Nat → Nat) : Prop :=
  (∀ x, x < 10 → S x ≤ 99 ∧ (S x = 99 ∨ rc w n a (S x) x = true)) ∧
  (∀ x, x < n → dst w n a x ≤ p → dst w n a x ≤ 9 → S x ≤ dst w n a x) ∧
  (∀ x, x < c → dst w n a x ≤ p + 1 → dst w n a x ≤ 9 → S x ≤ dst w n a x) ∧
  ∀ e, e < d → w c e = true → dst w n a e ≤ p → dst w n a e ≤ 9 → S c ≤ dst w n a e + 1
theorem RI_skip {p c d : Nat} {S : Nat → Nat} (h : RI w n a p c d S) (hd : d < n) (hno : w c d = true → S c ≤ S d + 1) : RI w n a p c (d + 1) S := by
  obtain ⟨h1, h2, h3, h4⟩ := h
  refine ⟨h1, h2, h3, fun e he hw h5 h6 => ?_⟩
  by_cases q : e = d
  · rw [q] at hw h5 h6 ⊢
    have := hno hw
    have := h2 d hd h5 h6
    omega
  · exact h4 e (by omega) hw h5 h6
theorem RI_take {p c d : Nat} {S : Nat → Nat} (h : RI w n a p c d S) (hn : n ≤ 10) (hc : c < n) (hd : d < n) (hw : w c d = true) (hl : S d + 1 < S c) : RI w n a p c (d + 1) (va_up S c (S d + 1)) := by
  obtain ⟨h1, h2, h3, h4⟩ := h
  have hle : ∀ x, va_up S c (S d + 1) x ≤ S x := fun x => by
    by_cases e : x = c
    · rw [e, va_up_s]; omega
    · rw [va_up_o e]; exact Nat.le_refl _
  have hSc := (h1 c (by omega)).1
  have hSd := h1 d (by omega)
  refine ⟨fun x hx => ?_, fun x hx h5 h6 => Nat.le_trans (hle x) (h2 x hx h5 h6), fun x hx h5 h6 => Nat.le_trans (hle x) (h3 x hx h5 h6), fun e he hwe h5 h6 => ?_⟩
  · by_cases e : x = c
    · rw [e, va_up_s]
      refine ⟨by omega, Or.inr ?_⟩
      rcases hSd.2 with q | q
      · omega
      · exact rc_s.mpr (Or.inr ⟨d, hd, hw, q⟩)
    · rw [va_up_o e]; exact h1 x hx
  · by_cases q : e = d
    · rw [va_up_s, q]
      rw [q] at h5 h6
      have := h2 d hd h5 h6
      omega
    · exact Nat.le_trans (hle c) (h4 e (by omega) hwe h5 h6)
theorem RI_row {p c : Nat} {S : Nat → Nat} (h : RI w n a p c n S) (hc : c < n) : RI w n a p (c + 1) 0 S := by
  obtain ⟨h1, h2, h3, h4⟩ := h
  refine ⟨h1, h2, fun x hx h5 h6 => ?_, fun e he => by omega⟩
  by_cases q : x = c
  · subst q
    cases hk : dst w n a x with
    | zero =>
      have := h2 x hc (by omega) h6
      omega
    | succ k =>
      obtain ⟨d, hd, hw, hdk⟩ := dst_step hk (by omega)
      have := h4 d hd hw (by omega) (by omega)
      omega
  · exact h3 x (by omega) h5 h6
theorem RI_round {p : Nat} {S : Nat → Nat} (h : RI w n a p n 0 S) : RI w n a (p + 1) 0 0 S := by
  obtain ⟨h1, h2, h3, h4⟩ := h
  exact ⟨h1, h3, fun x hx => by omega, fun e he => by omega⟩
theorem RI_0 {S : Nat → Nat} (h : ∀ x, x < 10 → S x = if x = a then 0 else 99) (hn : n ≤ 10) : RI w n a 0 0 0 S := by
  refine ⟨fun x hx => ?_, fun x hx h5 h6 => ?_, fun x hx => by omega, fun e he => by omega⟩
  · rw [h x hx]
    by_cases e : x = a
    · rw [if_pos e, e]
      exact ⟨by omega, Or.inr rc_a⟩
    · rw [if_neg e]
      exact ⟨by omega, Or.inl rfl⟩
  · have e : x = a := (dst_0 (w := w) (n := n)).mp (by omega)
    rw [h x (by omega), if_pos e]
    exact Nat.zero_le _
theorem RI_eq {S : Nat → Nat} (h : RI w n a 10 0 0 S) (hn : n ≤ 10) {x k : Nat} (hx : x < n) (hk : k ≤ 9) : S x = k ↔ dst w n a x = k := by
  obtain ⟨h1, h2, -, -⟩ := h
  obtain ⟨k1, k2⟩ := h1 x (by omega)
  constructor
  · intro e
    rcases k2 with q | q
    · omega
    · have h5 := (dst_iff (show S x < 10 by omega)).mp q
      have := h2 x hx (by omega) (by omega)
      omega
  · intro e
    have h6 := h2 x hx (by omega) (by omega)
    rcases k2 with q | q
    · omega
    · have := (dst_iff (show S x < 10 by omega)).mp q
      omega
end RI
theorem nI_nn {d : Nat} (h : d < 65536) : ¬ nI d < 0 := fun q => by
  have : nI d < nI 0 := q
  rw [nI_ltI (by omega) (by omega)] at this
  omega
/-- from above: the first of all -/
theorem lo_down {p : Nat → Bool} {q k : Nat} : lo p k (q + 1) = if p k = true then k else lo p (k + 1) q := rfl
def FRM (t σ : zSt) : Prop := (∀ d, d ≠ 47 → d ≠ 57 → d ≠ 60 → t d = σ d) ∧ ∀ i, i ≠ 11 → t 47 i = σ 47 i
theorem tX7_layRing {σ : zSt} {n a b : Nat} {w : Nat → Nat → Bool} (hn : n ≤ 10) (hs : ∀ a b, a < n → w a b = true → b < n) (ha : a < n) (hb : b < n) (hj : σ 47 3 = nI n) (hw : ∀ c, c < n → σ 55 c = zmask (w c)) (hr : a = b ∨ wR w n b a = true) : zV mX7_layRing [.ref 47, .int (nI a), .int (nI b)] SH σ (fun t => MRing t (rgN w n a b) (rgF w n a b) ∧ FRM t σ) := by
  have v0 : vp_in (nI 0) 10 := vp_in_nI (by decide) (by decide)
  refine zV_of (ls := [some (.ref 47), some (.int (nI a)), some (.int (nI b)), none, none, none]) (by decide) rfl rfl ?_
  refine za_aload_n (pc := 0) dX7_layRing_0 rfl ?_
  refine za_getR (pc := 1) dX7_layRing_1 lk_X7_37 rfl rfl ?_
  refine za_iconst (pc := 4) (0) dX7_layRing_4 (by decide) ?_
  refine za_iload_n (pc := 5) dX7_layRing_5 rfl ?_
  refine za_iast (pc := 6) dX7_layRing_6 rfl v0 ?_
  refine za_aload_n (pc := 7) dX7_layRing_7 rfl ?_
  refine za_iconst (pc := 8) (1) dX7_layRing_8 (by decide) ?_
  refine za_putI (pc := 9) dX7_layRing_9 lp_X7_112 rfl rfl ?_
  refine za_iload_n (pc := 12) dX7_layRing_12 rfl ?_
  refine za_iload_n (pc := 13) dX7_layRing_13 rfl ?_
  rw [show (0 : Int32).toNatClampNeg = 0 from rfl]
  obtain ⟨σ0, hσ0⟩ : ∃ σ0 : zSt, σ0 = zup (zup σ 57 0 (nI a)) 47 11 1 := ⟨_, rfl⟩
  rw [← hσ0]
  have f0 : ∀ d, d ≠ 47 → d ≠ 57 → σ0 d = σ d := fun d h1 h2 => by rw [hσ0, zup_n h1, zup_n h2]
  have f47 : ∀ i, i ≠ 11 → σ0 47 i = σ 47 i := fun i hi => by rw [hσ0, zup_b hi, zup_n (by decide)]
  have f11 : σ0 47 11 = nI 1 := by rw [hσ0, zup_a]; rfl
  have f57 : σ0 57 0 = nI a := by rw [hσ0, zup_n (by decide), zup_a]
  refine za_icmp_ne (pc := 14) 18 dX7_layRing_14 (by decide) (fun c14 => ?_) (fun c14 => ?_)
  · have hab : a ≠ b := fun e => c14 (by rw [e])
    have hr : wR w n b a = true := hr.elim (fun q => absurd q hab) id
    have hD := dst_ring hn hs ha hb hr
    refine za_iconst (pc := 18) (0) dX7_layRing_18 (by decide) ?_
    refine za_is3n (pc := 19) dX7_layRing_19 rfl ?_
    -- the way by the steps
    have way : ∀ (S : Nat → Nat) (σ1 : zSt), RI w n a 10 0 0 S → (∀ d, d ≠ 60 → σ1 d = σ0 d) → (∀ x, x < 10 → σ1 60 x = nI (S x)) → zA (zZ mX7_layRing (zQV SH (fun t => MRing t (rgN w n a b) (rgF w n a b) ∧ FRM t σ))) mX7_layRing none 0 0 150 [some (.ref 47), some (.int (nI a)), some (.int (nI b)), none, none, none] [] SH σ1 := by
      intro S σ1 hS g1 g2
      refine za_iload_n (pc := 150) dX7_layRing_150 rfl ?_
      refine za_is3n (pc := 151) dX7_layRing_151 rfl ?_
      generalize hDD : dst w n a b = D at *
      have loop : ∀ (q j : Nat) (σ2 : zSt), j + q = D → (∀ d, d ≠ 47 → d ≠ 57 → σ2 d = σ1 d) → (∀ i, i ≠ 11 → σ2 47 i = σ1 47 i) → σ2 47 11 = nI (1 + j) → (∀ k, k < 1 + j → σ2 57 k = rgF w n a b k) → zA (zZ mX7_layRing (zQV SH (fun t => MRing t (rgN w n a b) (rgF w n a b) ∧ FRM t σ))) mX7_layRing none 0 0 152 [some (.ref 47), some (.int (nI a)), some (.int (nI b)), some (.int (nI (wk w n a b j))), none, none] [] SH σ2 := by
        intro q
        induction q with
        | zero =>
          intro j σ2 hq i1 i2 i3 i4
          obtain ⟨k1, k2⟩ := wk_spec hb hDD (by omega) j (by omega)
          have e : wk w n a b j = a := dst_0.mp (show dst w n a (wk w n a b j) = 0 by omega)
          refine za_iload_n (pc := 152) dX7_layRing_152 rfl ?_
          refine za_iload_n (pc := 153) dX7_layRing_153 rfl ?_
          refine za_icmp_eq (pc := 154) 248 dX7_layRing_154 (by decide) (fun c154 => ?_) (fun c154 => ?_)
          · refine za_rv (pc := 248) dX7_layRing_248 rfl rfl rfl ?_
            refine ⟨⟨?_, fun k hk => i4 k ?_⟩, fun d h1 h2 h3 => ?_, fun i hi => ?_⟩
            · rw [i3, rgN, hDD]; congr 1; omega
            · unfold rgN at hk; omega
            · rw [i1 d h1 h2, g1 d h3, f0 d h1 h2]
            · rw [i2 i hi, g1 47 (by decide), f47 i hi]
          · exact absurd (by rw [e]) c154
        | succ q ih =>
          intro j σ2 hq i1 i2 i3 i4
          obtain ⟨k1, k2⟩ := wk_spec hb hDD (by omega) j (by omega)
          have hne : wk w n a b j ≠ a := fun e => by
            have := (dst_0 (w := w) (n := n)).mpr e
            omega
          have vs : vp_in (nI (1 + j)) 10 := vp_in_nI (by omega) (by decide)
          have es : (nI (1 + j)).toNatClampNeg = 1 + j := nI_clamp (by omega)
          generalize hx : wk w n a b j = x at *
          have vx : vp_in (nI x) 10 := vp_in_nI (by omega) (by decide)
          have ex : (nI x).toNatClampNeg = x := nI_clamp (by omega)
          refine za_iload_n (pc := 152) dX7_layRing_152 rfl ?_
          refine za_iload_n (pc := 153) dX7_layRing_153 rfl ?_
          refine za_icmp_eq (pc := 154) 248 dX7_layRing_154 (by decide) (fun c154 => ?_) (fun c154 => ?_)
          · exact absurd ((nI_eq (by omega) (by omega)).mp c154) hne
          refine za_aload_n (pc := 157) dX7_layRing_157 rfl ?_
          refine za_getR (pc := 158) dX7_layRing_158 lk_X7_37 rfl rfl ?_
          refine za_aload_n (pc := 161) dX7_layRing_161 rfl ?_
          refine za_getI (pc := 162) dX7_layRing_162 lk_X7_112 rfl rfl ?_
          refine za_iload_n (pc := 165) dX7_layRing_165 rfl ?_
          rw [i3]
          refine za_iast (pc := 166) dX7_layRing_166 rfl vs ?_
          refine za_aload_n (pc := 167) dX7_layRing_167 rfl ?_
          refine za_dup (pc := 168) dX7_layRing_168 rfl ?_
          refine za_getI (pc := 169) dX7_layRing_169 lk_X7_112 rfl rfl ?_
          rw [zup_n (by decide), i3, es]
          refine za_iconst (pc := 172) (1) dX7_layRing_172 (by decide) ?_
          refine za_iadd (pc := 173) dX7_layRing_173 ?_
          refine za_putI (pc := 174) dX7_layRing_174 lp_X7_112 rfl rfl ?_
          refine za_bipush (pc := 177) (-3) dX7_layRing_177 (by decide) ?_
          refine za_is4 (pc := 179) dX7_layRing_179 rfl ?_
          refine za_aload_n (pc := 181) dX7_layRing_181 rfl ?_
          refine za_getI (pc := 182) dX7_layRing_182 lk_X7_91 rfl rfl ?_
          rw [nI_1]
          obtain ⟨σ3, hσ3⟩ : ∃ σ3 : zSt, σ3 = zup (zup σ2 57 (1 + j) (nI x)) 47 11 (nI (1 + j + 1)) := ⟨_, rfl⟩
          rw [← hσ3]
          have u1 : ∀ d, d ≠ 47 → d ≠ 57 → σ3 d = σ1 d := fun d h1 h2 => by rw [hσ3, zup_n h1, zup_n h2]; exact i1 d h1 h2
          have u2 : ∀ i, i ≠ 11 → σ3 47 i = σ1 47 i := fun i hi => by rw [hσ3, zup_b hi, zup_n (by decide)]; exact i2 i hi
          have u3 : σ3 47 11 = nI (1 + (j + 1)) := by rw [hσ3, zup_a]; rfl
          have u4 : ∀ k, k < 1 + (j + 1) → σ3 57 k = rgF w n a b k := fun k hk => by
            rw [hσ3, zup_n (by decide)]
            by_cases e : k = 1 + j
            · rw [e, zup_a]
              unfold rgF
              rw [if_neg (by omega), show 1 + j - 1 = j by omega, hx]
            · rw [zup_b e]; exact i4 k (by omega)
          have sj : σ3 47 3 = nI n := by rw [u2 3 (by decide), g1 47 (by decide), f47 3 (by decide)]; exact hj
          have s55 : ∀ c, c < n → σ3 55 c = zmask (w c) := fun c hc => by rw [u1 55 (by decide) (by decide), g1 55 (by decide), f0 55 (by decide) (by decide)]; exact hw c hc
          have s60 : ∀ y, y < 10 → σ3 60 y = nI (S y) := fun y hy => by rw [u1 60 (by decide) (by decide)]; exact g2 y hy
          obtain ⟨k, hk⟩ : ∃ k, dst w n a x = k + 1 := ⟨dst w n a x - 1, by omega⟩
          have hSx : S x = k + 1 := (RI_eq hS hn k1 (by omega)).mpr hk
          have wex := wkp_ex hk (by omega)
          rw [sj]
          refine za_iconst (pc := 185) (1) dX7_layRing_185 (by decide) ?_
          refine za_isub (pc := 186) dX7_layRing_186 ?_
          refine za_is5 (pc := 187) dX7_layRing_187 rfl ?_
          -- jobs from d on have been looked at
          have inner : ∀ (d : Nat) (z : Int32), d ≤ n → ((∃ i, d ≤ i ∧ i < d + (n - d) ∧ wkp w n a x i = true) → z = nI (lo (wkp w n a x) d (n - d))) → zA (zZ mX7_layRing (zQV SH (fun t => MRing t (rgN w n a b) (rgF w n a b) ∧ FRM t σ))) mX7_layRing none 0 0 189 [some (.ref 47), some (.int (nI a)), some (.int (nI b)), some (.int (nI x)), some (.int z), some (.int (nI d - 1))] [] SH σ3 := by
            intro d
            induction d with
            | zero =>
              intro z hd hz
              refine za_iload (pc := 189) dX7_layRing_189 rfl ?_
              refine za_if_lt (pc := 191) 242 dX7_layRing_191 (by decide) (fun c191 => ?_) (fun c191 => ?_)
              · refine za_iload (pc := 242) dX7_layRing_242 rfl ?_
                refine za_is3n (pc := 244) dX7_layRing_244 rfl ?_
                refine za_goto (pc := 245) 152 dX7_layRing_245 (by decide) ?_
                rw [hz (by rw [Nat.sub_zero]; exact wex), Nat.sub_zero]
                have := ih (j + 1) σ3 (by omega) u1 u2 u3 u4
                rw [show wk w n a b (j + 1) = lo (wkp w n a x) 0 n by show lo (wkp w n a (wk w n a b j)) 0 n = _; rw [hx]] at this
                exact za_fg (by simp [zSub]) this
              · exact absurd (show nI 0 - 1 < 0 by decide) c191
            | succ d ih2 =>
              intro z hd hz
              have hdn : d < n := by omega
              have vd : vp_in (nI d) 10 := vp_in_nI (by omega) (by decide)
              have ed : (nI d).toNatClampNeg = d := nI_clamp (by omega)
              have end_ : ∀ y : Int32, y = (if wkp w n a x d = true then nI d else z) → zA (zZ mX7_layRing (zQV SH (fun t => MRing t (rgN w n a b) (rgF w n a b) ∧ FRM t σ))) mX7_layRing none 0 0 234 [some (.ref 47), some (.int (nI a)), some (.int (nI b)), some (.int (nI x)), some (.int z), some (.int (nI d))] [.int y] SH σ3 := by
                intro y hy
                refine za_is4 (pc := 234) dX7_layRing_234 rfl ?_
                refine za_ii5 (pc := 236) (-1) dX7_layRing_236 (by decide) rfl ?_
                refine za_goto (pc := 239) 189 dX7_layRing_239 (by decide) ?_
                rw [show nI d + (-1) = nI d - 1 by rw [Int32.sub_eq_add_neg]]
                refine ih2 y (by omega) (fun hex => ?_)
                rw [show n - d = (n - (d + 1)) + 1 by omega, lo_down, hy]
                by_cases hp : wkp w n a x d = true
                · rw [if_pos hp, if_pos hp]
                · rw [if_neg hp, if_neg hp]
                  refine hz ?_
                  obtain ⟨i, h1, h2, h3⟩ := hex
                  have : i ≠ d := fun e => hp (by rw [← e]; exact h3)
                  exact ⟨i, by omega, by omega, h3⟩
              rw [nI_pred]
              refine za_iload (pc := 189) dX7_layRing_189 rfl ?_
              refine za_if_lt (pc := 191) 242 dX7_layRing_191 (by decide) (fun c191 => ?_) (fun c191 => ?_)
              · exact absurd c191 (nI_nn (by omega))
              refine za_aload_n (pc := 194) dX7_layRing_194 rfl ?_
              refine za_getR (pc := 195) dX7_layRing_195 lk_X7_31 rfl rfl ?_
              refine za_iload_n (pc := 198) dX7_layRing_198 rfl ?_
              refine za_iald (pc := 199) dX7_layRing_199 rfl vx ?_
              refine za_iload (pc := 200) dX7_layRing_200 rfl ?_
              refine za_ishr (pc := 202) dX7_layRing_202 ?_
              refine za_iconst (pc := 203) (1) dX7_layRing_203 (by decide) ?_
              refine za_iand (pc := 204) dX7_layRing_204 ?_
              refine za_iconst (pc := 205) (1) dX7_layRing_205 (by decide) ?_
              rw [ex, s55 x k1, zm_sr (by omega)]
              cases hwd : w x d with
              | false =>
                rw [if_neg (by decide)]
                refine za_icmp_ne (pc := 206) 232 dX7_layRing_206 (by decide) (fun c206 => ?_) (fun c206 => ?_)
                · refine za_iload (pc := 232) dX7_layRing_232 rfl ?_
                  refine end_ _ ?_
                  rw [if_neg]
                  unfold wkp
                  rw [hwd, Bool.false_and]
                  decide
                · exact absurd c206 (by decide)
              | true =>
                rw [if_pos rfl]
                refine za_icmp_ne (pc := 206) 232 dX7_layRing_206 (by decide) (fun c206 => ?_) (fun c206 => ?_)
                · exact absurd rfl c206
                refine za_aload_n (pc := 209) dX7_layRing_209 rfl ?_
                refine za_getR (pc := 210) dX7_layRing_210 lk_X7_46 rfl rfl ?_
                refine za_iload (pc := 213) dX7_layRing_213 rfl ?_
                refine za_iald (pc := 215) dX7_layRing_215 rfl vd ?_
                refine za_aload_n (pc := 216) dX7_layRing_216 rfl ?_
                refine za_getR (pc := 217) dX7_layRing_217 lk_X7_46 rfl rfl ?_
                refine za_iload_n (pc := 220) dX7_layRing_220 rfl ?_
                refine za_iald (pc := 221) dX7_layRing_221 rfl vx ?_
                refine za_iconst (pc := 222) (1) dX7_layRing_222 (by decide) ?_
                refine za_isub (pc := 223) dX7_layRing_223 ?_
                rw [ed, ex, s60 d (by omega), s60 x (by omega), hSx, nI_pred]
                have hb99 := (hS.1 d (by omega)).1
                have hpd : wkp w n a x d = true ↔ S d = k := by
                  unfold wkp
                  rw [hwd, Bool.true_and, decide_eq_true_eq, hk, RI_eq hS hn hdn (by omega)]
                  omega
                refine za_icmp_ne (pc := 224) 232 dX7_layRing_224 (by decide) (fun c224 => ?_) (fun c224 => ?_)
                · refine za_iload (pc := 232) dX7_layRing_232 rfl ?_
                  refine end_ _ ?_
                  rw [if_neg (fun q => c224 (by rw [hpd.mp q]))]
                · refine za_iload (pc := 227) dX7_layRing_227 rfl ?_
                  refine za_goto (pc := 229) 234 dX7_layRing_229 (by decide) ?_
                  refine end_ _ ?_
                  rw [if_pos (hpd.mpr ((nI_eq (by omega) (by omega)).mp c224))]
          exact inner n (-3) (Nat.le_refl _) (fun ⟨i, h1, h2, _⟩ => by omega)
      exact loop D 0 σ1 (by omega) (fun _ _ _ => rfl) (fun _ _ => rfl) (by rw [g1 47 (by decide)]; exact f11) (fun k hk => by
        have : k = 0 := by omega
        subst this
        rw [g1 57 (by decide), f57]
        rfl)
    -- the rounds
    have rounds : ∀ (q p : Nat) (S : Nat → Nat) (σ1 : zSt), p + q = 10 → RI w n a p 0 0 S → (∀ d, d ≠ 60 → σ1 d = σ0 d) → (∀ x, x < 10 → σ1 60 x = nI (S x)) → zA (zZ mX7_layRing (zQV SH (fun t => MRing t (rgN w n a b) (rgF w n a b) ∧ FRM t σ))) mX7_layRing none 0 0 51 [some (.ref 47), some (.int (nI a)), some (.int (nI b)), some (.int (nI p)), none, none] [] SH σ1 := by
      intro q
      induction q with
      | zero =>
        intro p S σ1 hq hS g1 g2
        have hp : p = 10 := by omega
        subst hp
        refine za_iload_n (pc := 51) dX7_layRing_51 rfl ?_
        refine za_bipush (pc := 52) (10) dX7_layRing_52 (by decide) ?_
        refine za_icmp_ge (pc := 54) 150 dX7_layRing_54 (by decide) (fun c54 => ?_) (fun c54 => ?_)
        · exact za_fg (by simp [zSub]) (way S σ1 hS g1 g2)
        · exact absurd (show (10 : Int32) ≤ nI 10 by decide) c54
      | succ q ih =>
        intro p S σ1 hq hS g1 g2
        refine za_iload_n (pc := 51) dX7_layRing_51 rfl ?_
        refine za_bipush (pc := 52) (10) dX7_layRing_52 (by decide) ?_
        refine za_icmp_ge (pc := 54) 150 dX7_layRing_54 (by decide) (fun c54 => ?_) (fun c54 => ?_)
        · exact absurd c54 (nI_ge (a := p) (b := 10) (by omega) (by omega))
        refine za_iconst (pc := 57) (0) dX7_layRing_57 (by decide) ?_
        refine za_is4 (pc := 58) dX7_layRing_58 rfl ?_
        have rows : ∀ (q c : Nat) (S : Nat → Nat) (σ1 : zSt), c + q = n → RI w n a p c 0 S → (∀ d, d ≠ 60 → σ1 d = σ0 d) → (∀ x, x < 10 → σ1 60 x = nI (S x)) → zA (zZ mX7_layRing (zQV SH (fun t => MRing t (rgN w n a b) (rgF w n a b) ∧ FRM t σ))) mX7_layRing none 0 0 60 [some (.ref 47), some (.int (nI a)), some (.int (nI b)), some (.int (nI p)), some (.int (nI c)), none] [] SH σ1 := by
          intro q
          induction q with
          | zero =>
            intro c S σ1 hq hS g1 g2
            have hc : c = n := by omega
            subst hc
            refine za_iload (pc := 60) dX7_layRing_60 rfl ?_
            refine za_aload_n (pc := 62) dX7_layRing_62 rfl ?_
            refine za_getI (pc := 63) dX7_layRing_63 lk_X7_91 rfl rfl ?_
            rw [g1 47 (by decide), f47 3 (by decide), hj]
            refine za_icmp_ge (pc := 66) 144 dX7_layRing_66 (by decide) (fun c66 => ?_) (fun c66 => ?_)
            · refine za_ii3 (pc := 144) (1) dX7_layRing_144 (by decide) rfl ?_
              refine za_goto (pc := 147) 51 dX7_layRing_147 (by decide) ?_
              rw [nI_1]
              exact za_fg (by simp [zSub]) (ih (p + 1) S σ1 (by omega) (RI_round hS) g1 g2)
            · exact absurd (nI_le (Nat.le_refl c) (by omega)) c66
          | succ q ih2 =>
            intro c S σ1 hq hS g1 g2
            have hc : c < n := by omega
            have vc : vp_in (nI c) 10 := vp_in_nI (by omega) (by decide)
            have ec : (nI c).toNatClampNeg = c := nI_clamp (by omega)
            refine za_iload (pc := 60) dX7_layRing_60 rfl ?_
            refine za_aload_n (pc := 62) dX7_layRing_62 rfl ?_
            refine za_getI (pc := 63) dX7_layRing_63 lk_X7_91 rfl rfl ?_
            rw [g1 47 (by decide), f47 3 (by decide), hj]
            refine za_icmp_ge (pc := 66) 144 dX7_layRing_66 (by decide) (fun c66 => ?_) (fun c66 => ?_)
            · exact absurd c66 (nI_ge (show c < n by omega) (by omega))
            refine za_iconst (pc := 69) (0) dX7_layRing_69 (by decide) ?_
            refine za_is5 (pc := 70) dX7_layRing_70 rfl ?_
            have cells : ∀ (q d : Nat) (S : Nat → Nat) (σ1 : zSt), d + q = n → RI w n a p c d S → (∀ d, d ≠ 60 → σ1 d = σ0 d) → (∀ x, x < 10 → σ1 60 x = nI (S x)) → zA (zZ mX7_layRing (zQV SH (fun t => MRing t (rgN w n a b) (rgF w n a b) ∧ FRM t σ))) mX7_layRing none 0 0 72 [some (.ref 47), some (.int (nI a)), some (.int (nI b)), some (.int (nI p)), some (.int (nI c)), some (.int (nI d))] [] SH σ1 := by
              intro q
              induction q with
              | zero =>
                intro d S σ1 hq hS g1 g2
                have hd : d = n := by omega
                subst hd
                refine za_iload (pc := 72) dX7_layRing_72 rfl ?_
                refine za_aload_n (pc := 74) dX7_layRing_74 rfl ?_
                refine za_getI (pc := 75) dX7_layRing_75 lk_X7_91 rfl rfl ?_
                rw [g1 47 (by decide), f47 3 (by decide), hj]
                refine za_icmp_ge (pc := 78) 138 dX7_layRing_78 (by decide) (fun c78 => ?_) (fun c78 => ?_)
                · refine za_ii4 (pc := 138) (1) dX7_layRing_138 (by decide) rfl ?_
                  refine za_goto (pc := 141) 60 dX7_layRing_141 (by decide) ?_
                  rw [nI_1]
                  exact za_fg (by simp [zSub]) (ih2 (c + 1) S σ1 (by omega) (RI_row hS hc) g1 g2)
                · exact absurd (nI_le (Nat.le_refl d) (by omega)) c78
              | succ q ih3 =>
                intro d S σ1 hq hS g1 g2
                have hd : d < n := by omega
                have vd : vp_in (nI d) 10 := vp_in_nI (by omega) (by decide)
                have ed : (nI d).toNatClampNeg = d := nI_clamp (by omega)
                have skip : (w c d = true → S c ≤ S d + 1) → zA (zZ mX7_layRing (zQV SH (fun t => MRing t (rgN w n a b) (rgF w n a b) ∧ FRM t σ))) mX7_layRing none 0 0 132 [some (.ref 47), some (.int (nI a)), some (.int (nI b)), some (.int (nI p)), some (.int (nI c)), some (.int (nI d))] [] SH σ1 := by
                  intro hno
                  refine za_ii5 (pc := 132) (1) dX7_layRing_132 (by decide) rfl ?_
                  refine za_goto (pc := 135) 72 dX7_layRing_135 (by decide) ?_
                  rw [nI_1]
                  exact ih3 (d + 1) S σ1 (by omega) (RI_skip hS hd hno) g1 g2
                refine za_iload (pc := 72) dX7_layRing_72 rfl ?_
                refine za_aload_n (pc := 74) dX7_layRing_74 rfl ?_
                refine za_getI (pc := 75) dX7_layRing_75 lk_X7_91 rfl rfl ?_
                rw [g1 47 (by decide), f47 3 (by decide), hj]
                refine za_icmp_ge (pc := 78) 138 dX7_layRing_78 (by decide) (fun c78 => ?_) (fun c78 => ?_)
                · exact absurd c78 (nI_ge (show d < n by omega) (by omega))
                refine za_aload_n (pc := 81) dX7_layRing_81 rfl ?_
                refine za_getR (pc := 82) dX7_layRing_82 lk_X7_31 rfl rfl ?_
                refine za_iload (pc := 85) dX7_layRing_85 rfl ?_
                refine za_iald (pc := 87) dX7_layRing_87 rfl vc ?_
                refine za_iload (pc := 88) dX7_layRing_88 rfl ?_
                refine za_ishr (pc := 90) dX7_layRing_90 ?_
                refine za_iconst (pc := 91) (1) dX7_layRing_91 (by decide) ?_
                refine za_iand (pc := 92) dX7_layRing_92 ?_
                refine za_iconst (pc := 93) (1) dX7_layRing_93 (by decide) ?_
                rw [ec, g1 55 (by decide), f0 55 (by decide) (by decide), hw c hc, zm_sr (by omega)]
                cases hwd : w c d with
                | false =>
                  rw [if_neg (by decide)]
                  refine za_icmp_ne (pc := 94) 132 dX7_layRing_94 (by decide) (fun c94 => ?_) (fun c94 => ?_)
                  · exact skip (fun q => by rw [hwd] at q; cases q)
                  · exact absurd c94 (by decide)
                | true =>
                  rw [if_pos rfl]
                  refine za_icmp_ne (pc := 94) 132 dX7_layRing_94 (by decide) (fun c94 => ?_) (fun c94 => ?_)
                  · exact absurd rfl c94
                  have b1 := (hS.1 d (by omega)).1
                  have b2 := (hS.1 c (by omega)).1
                  refine za_aload_n (pc := 97) dX7_layRing_97 rfl ?_
                  refine za_getR (pc := 98) dX7_layRing_98 lk_X7_46 rfl rfl ?_
                  refine za_iload (pc := 101) dX7_layRing_101 rfl ?_
                  refine za_iald (pc := 103) dX7_layRing_103 rfl vd ?_
                  refine za_iconst (pc := 104) (1) dX7_layRing_104 (by decide) ?_
                  refine za_iadd (pc := 105) dX7_layRing_105 ?_
                  refine za_aload_n (pc := 106) dX7_layRing_106 rfl ?_
                  refine za_getR (pc := 107) dX7_layRing_107 lk_X7_46 rfl rfl ?_
                  refine za_iload (pc := 110) dX7_layRing_110 rfl ?_
                  refine za_iald (pc := 112) dX7_layRing_112 rfl vc ?_
                  rw [ed, ec, g2 d (by omega), g2 c (by omega), nI_1]
                  refine za_icmp_ge (pc := 113) 132 dX7_layRing_113 (by decide) (fun c113 => ?_) (fun c113 => ?_)
                  · rw [nI_leI (by omega) (by omega)] at c113
                    exact skip (fun _ => c113)
                  · rw [nI_leI (by omega) (by omega)] at c113
                    refine za_aload_n (pc := 116) dX7_layRing_116 rfl ?_
                    refine za_getR (pc := 117) dX7_layRing_117 lk_X7_46 rfl rfl ?_
                    refine za_iload (pc := 120) dX7_layRing_120 rfl ?_
                    refine za_aload_n (pc := 122) dX7_layRing_122 rfl ?_
                    refine za_getR (pc := 123) dX7_layRing_123 lk_X7_46 rfl rfl ?_
                    refine za_iload (pc := 126) dX7_layRing_126 rfl ?_
                    refine za_iald (pc := 128) dX7_layRing_128 rfl vd ?_
                    refine za_iconst (pc := 129) (1) dX7_layRing_129 (by decide) ?_
                    refine za_iadd (pc := 130) dX7_layRing_130 ?_
                    refine za_iast (pc := 131) dX7_layRing_131 rfl vc ?_
                    refine za_ii5 (pc := 132) (1) dX7_layRing_132 (by decide) rfl ?_
                    refine za_goto (pc := 135) 72 dX7_layRing_135 (by decide) ?_
                    rw [ed, ec, g2 d (by omega), nI_1, nI_1]
                    refine ih3 (d + 1) (va_up S c (S d + 1)) _ (by omega) (RI_take hS hn hc hd hwd (by omega)) (fun e he => by rw [zup_n he]; exact g1 e he) (fun x hx => ?_)
                    by_cases e : x = c
                    · rw [e, zup_a, va_up_s]
                    · rw [zup_b e, va_up_o e]; exact g2 x hx
            exact cells n 0 S σ1 (by omega) hS g1 g2
        exact rows n 0 S σ1 (by omega) hS g1 g2
    have init : ∀ (q c : Nat) (σ1 : zSt), c + q = 10 → (∀ d, d ≠ 60 → σ1 d = σ0 d) → (∀ x, x < c → σ1 60 x = nI (if x = a then 0 else 99)) → zA (zZ mX7_layRing (zQV SH (fun t => MRing t (rgN w n a b) (rgF w n a b) ∧ FRM t σ))) mX7_layRing none 0 0 20 [some (.ref 47), some (.int (nI a)), some (.int (nI b)), some (.int (nI c)), none, none] [] SH σ1 := by
      intro q
      induction q with
      | zero =>
        intro c σ1 hq g1 g2
        have hc : c = 10 := by omega
        subst hc
        refine za_iload_n (pc := 20) dX7_layRing_20 rfl ?_
        refine za_bipush (pc := 21) (10) dX7_layRing_21 (by decide) ?_
        refine za_icmp_ge (pc := 23) 49 dX7_layRing_23 (by decide) (fun c23 => ?_) (fun c23 => ?_)
        · refine za_iconst (pc := 49) (0) dX7_layRing_49 (by decide) ?_
          refine za_is3n (pc := 50) dX7_layRing_50 rfl ?_
          exact rounds 10 0 (fun x => if x = a then 0 else 99) σ1 (by omega) (RI_0 (fun x _ => rfl) hn) g1 g2
        · exact absurd (show (10 : Int32) ≤ nI 10 by decide) c23
      | succ q ih =>
        intro c σ1 hq g1 g2
        have vc : vp_in (nI c) 10 := vp_in_nI (by omega) (by decide)
        have ec : (nI c).toNatClampNeg = c := nI_clamp (by omega)
        have step : ∀ y : Int32, y = nI (if c = a then 0 else 99) → zA (zZ mX7_layRing (zQV SH (fun t => MRing t (rgN w n a b) (rgF w n a b) ∧ FRM t σ))) mX7_layRing none 0 0 42 [some (.ref 47), some (.int (nI a)), some (.int (nI b)), some (.int (nI c)), none, none] [.int y, .int (nI c), .ref 60] SH σ1 := by
          intro y hy
          refine za_iast (pc := 42) dX7_layRing_42 rfl vc ?_
          refine za_ii3 (pc := 43) (1) dX7_layRing_43 (by decide) rfl ?_
          refine za_goto (pc := 46) 20 dX7_layRing_46 (by decide) ?_
          rw [nI_1, ec]
          refine ih (c + 1) _ (by omega) (fun d hd => by rw [zup_n hd]; exact g1 d hd) (fun x hx => ?_)
          by_cases e : x = c
          · rw [e, zup_a, hy]
          · rw [zup_b e]; exact g2 x (by omega)
        refine za_iload_n (pc := 20) dX7_layRing_20 rfl ?_
        refine za_bipush (pc := 21) (10) dX7_layRing_21 (by decide) ?_
        refine za_icmp_ge (pc := 23) 49 dX7_layRing_23 (by decide) (fun c23 => ?_) (fun c23 => ?_)
        · exact absurd c23 (nI_ge (a := c) (b := 10) (by omega) (by omega))
        refine za_aload_n (pc := 26) dX7_layRing_26 rfl ?_
        refine za_getR (pc := 27) dX7_layRing_27 lk_X7_46 rfl rfl ?_
        refine za_iload_n (pc := 30) dX7_layRing_30 rfl ?_
        refine za_iload_n (pc := 31) dX7_layRing_31 rfl ?_
        refine za_iload_n (pc := 32) dX7_layRing_32 rfl ?_
        refine za_icmp_ne (pc := 33) 40 dX7_layRing_33 (by decide) (fun c33 => ?_) (fun c33 => ?_)
        · refine za_bipush (pc := 40) (99) dX7_layRing_40 (by decide) ?_
          exact step _ (by rw [if_neg (fun e => c33 (by rw [e]))]; rfl)
        · refine za_iconst (pc := 36) (0) dX7_layRing_36 (by decide) ?_
          refine za_goto (pc := 37) 42 dX7_layRing_37 (by decide) ?_
          exact step _ (by rw [if_pos ((nI_eq (by omega) (by omega)).mp c33)]; rfl)
    exact init 10 0 σ0 (by omega) (fun _ _ => rfl) (fun x hx => by omega)
  · have hab : a = b := (nI_eq (by omega) (by omega)).mp c14
    refine za_rv (pc := 17) dX7_layRing_17 rfl rfl rfl ?_
    have h0 : dst w n a b = 0 := dst_0.mpr hab.symm
    refine ⟨⟨?_, fun k hk => ?_⟩, fun d h1 h2 _ => f0 d h1 h2, f47⟩
    · rw [f11, rgN, h0]
    · unfold rgN at hk
      have : k = 0 := by omega
      subst this
      rw [f57]
      rfl
