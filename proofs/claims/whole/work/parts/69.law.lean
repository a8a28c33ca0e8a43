/-! the law -/
/-! THE CLAIM OUT OF ONE WALK OF THE LAW'S BODY. Your part is whole_start (and what it stands on); all else here is the same for every law, but numbers. -/
def R_law : String := "TwoBenchesLaw"
def lw_P (b : Addr) (xs : List Int32) (args : Array Value) (s : State) : Prop := args = #[.ref b] ∧ s.IntsAt b xs ∧ xs.length ≤ 3072 ∧ (Jvm.Cond.and given_1 narrow_1).before args s = true
def lw_Q (_ : Array Value) (s : State) (o : Outcome) (t : State) : Prop := o = .returned (some (.int 1)) ∧ Framed s o t [] 600000 7302250
def lw_Z (below : List Frame) (a : Array Value) (s : State) : State → Prop := fun t => ∃ o, t.status = .running ∧ Ended t below o ∧ lw_Q a s o t
/-- the law's own end, with 1 on the stack, nothing written that was there before, its room as the claim has it -/
theorem lw_ret {p : Program} {l : Launch} {e : Env} {s : State} {m : MethodId} {below : List Frame} {meth : Method} {c : Code} {args : Array Value} (hx : p.tables.exec = Jvm.exec) (hb : c.code = code) (hr : meth.sig.returnType = ret) (hlocks : meth.locks = false) {pc : Nat} {H : Heap} {ls : Array Slot} (hdg : decode code pc = .ok (.ireturn, 1)) : W p l e room_1 s m args below meth c H [] 600000 7302250 (lw_Z below args s) (F0 m pc ls [.int 1]) := by
  intro T hT X
  obtain ⟨fs, hret, hrun, hended, hW, hframe⟩ := X.leave (v := some (.int 1)) (hlocks := hlocks) (fun h => by rw [hr] at h; cases h)
  have hmeth' : T.vm.method? m = some meth := X.method'
  refine ⟨T.setFrames fs, ?_, .returned (some (.int 1)), hrun, hended, rfl, ⟨_, rfl⟩, hW, hframe⟩
  jvm_step X.here [X.here.top, hx, hb, hdg, hmeth', hr, ret, narrow_b1]
  (try refine ⟨rfl, ?_⟩); (try refine ⟨rfl, ?_⟩)
  first | (intro acts; rw [hret _ acts rfl rfl rfl]) | rw [hret _ _ rfl rfl rfl]
  exact Steps.refl _
/-- what holds at the law's entry: the machine, the code, the tables' words (any of lw_tbl by 'hts w (by decide +kernel)'), the script of L ints xs at the cell b, what the Statement gives of the start (any of its parts by flat_of_before) -/
def lw_At (p : Program) (s : State) (m : MethodId) (meth : Method) (c : Code) (b L : Nat) (xs : Nat → Int32) : Prop :=
  p.tables.exec = Jvm.exec ∧ c.code = code ∧ meth.sig.returnType = ret ∧ c.maxLocals = 4 ∧ s.vm.findClass R_law = some m.cls ∧ (∀ w ∈ lw_tbl, w.before #[Value.ref b] s = true) ∧ va_X b L xs s s.heap ∧ b < s.heap.size ∧ meth.locks = false ∧ (Jvm.Cond.and given_1 narrow_1).before #[Value.ref b] s = true ∧ meth.name = x.name

def lawZ : zZt := fun below args s _ h0 _ _ _ => fun T => h0 = s.heap.size → lw_Z below args s T
theorem za_end {sc : Option (Nat × (Nat → Int32))} {k n : Nat} {ls : List (Option Value)} {S : List zSh} {σ : zSt} (hk : k ≤ 600000) (hn : n ≤ 7302250) : zA lawZ mL_law sc k n 766 ls [.int 1] S σ := by
  intro p l e s m args below meth c D h0 ad0 cA0 n0 ad cA H locs lsA hC hX hag hn0 hH hS hl
  by_cases he : h0 = s.heap.size
  · refine va_forget (fun q hq => by have := hS.2.2 q hq; rw [← he]; exact this) ?_
    refine W.widen hk hn ?_
    have h9 := lw_ret (p := p) (l := l) (e := e) (s := s) (m := m) (below := below) (meth := meth) (c := c) (args := args) hC.1 hC.2.1 hC.2.2.2.1 hC.2.2.2.2.1 (H := H) (ls := lsA) dL_law_766
    intro T hT X
    obtain ⟨t, h1, h2⟩ := h9 T hT X
    exact ⟨t, h1, fun _ => h2⟩
  · exact fun T _ _ => ⟨T.setTop _, Steps.refl _, fun q => absurd q he⟩
theorem lg_self (x : Int64) : lg_cmp x x = 0 := by
  have h1 := lg_le.mpr (Int64.le_refl x)
  have h2 : ¬ lg_cmp x x < 0 := fun q => lg_lt.mp q (Int64.le_refl x)
  rw [fa_le] at h1
  rw [fa_lt] at h2
  rw [fa_eq]
  have : (0 : Int32).toInt = 0 := rfl
  omega
theorem b_31 : ∀ i, i < 32 → bt 31 i = decide (i < 5) := by decide
theorem and31 (y : Int32) : ∃ k, k < 32 ∧ y &&& 31 = nI k := by
  refine ⟨mkm (bt y) 5, mkm_lt _ 5, ?_⟩
  apply b_ext
  intro i hi
  rw [b_and, b_31 i hi, b_nI, mkm_bit]
  by_cases e : i < 5
  · simp [e, hi]
  · simp [e]
theorem XI_47 {σ t : zSt} {a : Ab} {v : Nat} (h : XI σ a v) (e : ∀ d, d < 47 → t d = σ d) : XI t a v := by
  obtain ⟨h1, h2, h3, h4, h5, h6, h7, h8, h9⟩ := h
  refine ⟨XS_cong h1 (fun d _ _ => e d (by omega)), XJ_cong h2 (fun d hd => e d (by omega)), XRing_cong h3 (fun d hd => e d (by omega)), ?_, ?_, ?_, ?_, ?_, ?_⟩
  · rw [e 10 (by decide)]; exact fun q => XOrd_cong (h4 q) (fun d _ _ => e d (by omega))
  · rw [e 15 (by decide)]; exact fun q => XDay_cong (h5 q) (fun d _ _ => e d (by omega))
  · rw [e 22 (by decide)]; exact fun q => XKept_cong (h6 q) (fun d _ _ => e d (by omega))
  · rw [e 10 (by decide)]; exact h7
  · rw [e 15 (by decide)]; exact h8
  · rw [e 22 (by decide)]; exact h9
theorem MI_47 {σ t : zSt} {a : Ab} (h : MI σ a) (e : ∀ d, 47 ≤ d → t d = σ d) : MI t a := by
  obtain ⟨h1, h2, h3, h4⟩ := h
  have e47 : t 47 = σ 47 := e 47 (by decide)
  refine ⟨MS_cong h1 (fun d _ _ => e d (by omega)), MJ_cong h2 (fun d _ _ => e d (by omega)) (by rw [e47]) (by rw [e47]), MRing_cong h3 (by rw [e47]) (e 57 (by decide)), ?_⟩
  rw [e47]
  exact h4.elim Or.inl (fun q => Or.inr ⟨q.1, MKept_cong q.2 (by rw [e47]) (e 66 (by decide)) (e 67 (by decide))⟩)
def core0 : Core := (0, fun _ => 0, fun _ => 0, fun _ => 0, fun _ => 0, fun _ _ => false)
def ab0 : Ab := ((fun _ => -1, fun _ => 0, fun _ _ => 0), (0, fun _ => core0), (0, fun _ => 0))
theorem ok0 : AOk ab0 := ⟨fun j _ => ⟨Nat.zero_le _, Or.inl rfl⟩, ⟨Nat.zero_le _, fun _ _ => ⟨Nat.zero_le _, fun a ha => absurd ha (Nat.not_lt_zero a), fun a b ha => absurd ha (Nat.not_lt_zero a), fun a ha => absurd ha (Nat.not_lt_zero a)⟩⟩, Nat.zero_le _⟩
theorem xi0 {t : zSt} (h : In6 t) : XI t ab0 0 := by
  obtain ⟨⟨h1, h2, h3, h4, h5, h6⟩, h7, h8, h9, h10, h11⟩ := h
  have n1 : ¬ (-1 : Int32) = nI 0 := by decide
  refine ⟨fun j hj => h11 j hj, ⟨⟨h1, fun a ha => absurd ha (Nat.not_lt_zero a), h4, h5, h6⟩, ⟨h2, fun k hk => absurd hk (Nat.not_lt_zero k)⟩, h3⟩, ⟨h10, fun k hk => absurd hk (Nat.not_lt_zero k)⟩, fun q => ?_, fun q => ?_, fun q => ?_, Or.inl h7, Or.inl h8, Or.inl h9⟩
  · rw [h7] at q; exact absurd q n1
  · rw [h8] at q; exact absurd q n1
  · rw [h9] at q; exact absurd q n1
theorem mi0 {t σ : zSt} (h : In7 t σ) : MI t ab0 := by
  obtain ⟨h1, h2, h3, h4, h5, h6, -⟩ := h
  exact ⟨fun j hj => ⟨(h1 j hj).1, (h1 j hj).2, fun i hi => h2 (16 * j + i) (by omega)⟩, ⟨⟨h3, fun a ha => absurd ha (Nat.not_lt_zero a)⟩, h4, fun k hk => absurd hk (Nat.not_lt_zero k)⟩, ⟨h5, fun k hk => absurd hk (Nat.not_lt_zero k)⟩, Or.inl h6⟩
theorem law_loop {L : Nat} {xs : Nat → Int32} (hL : L ≤ 3072) : ∀ (q j i v : Nat) (σ : zSt) (a : Ab), i = 6 * j → i ≤ 3072 → L < 6 * (j + q) + 6 → v ≤ j → XI σ a v → MI σ a → AOk a → zA lawZ mL_law (some (L, xs)) 68 67622 18 [some (.ref 999), some (.ref 0), some (.ref 47), some (.int (nI i))] [] SH σ := by
  intro q
  have eL : (Int32.ofNat L - 6).toInt = (L : Int) - 6 := by
    have h6 : (6 : Int32).toInt = 6 := rfl
    have hl : (Int32.ofNat L).toInt = L := nI_toInt (n := L) (by omega)
    rw [fb_subI (by omega) (by omega), hl, h6]
  have stop : ∀ (i : Nat) (σ : zSt), zA lawZ mL_law (some (L, xs)) 68 67622 765 [some (.ref 999), some (.ref 0), some (.ref 47), some (.int (nI i))] [] SH σ := by
    intro i σ
    refine za_iconst (pc := 765) (1) dL_law_765 (by decide) ?_
    exact za_end (by decide) (by decide)
  induction q with
  | zero =>
    intro j i v σ a hi hi2 hLq hvj hX hM ho
    refine za_iload_n (pc := 18) dL_law_18 rfl ?_
    refine za_aload_n (pc := 19) dL_law_19 rfl ?_
    refine za_slen (pc := 20) dL_law_20 ?_
    refine za_bipush (pc := 21) (6) dL_law_21 (by decide) ?_
    refine za_isub (pc := 23) dL_law_23 ?_
    refine za_icmp_gt (pc := 24) 765 dL_law_24 (by decide) (fun c24 => ?_) (fun c24 => ?_)
    · exact stop i σ
    · exfalso
      rw [fa_lt, eL, nI_toInt (by omega)] at c24
      omega
  | succ q ih =>
    intro j i v σ a hi hi2 hLq hvj hX hM ho
    refine za_iload_n (pc := 18) dL_law_18 rfl ?_
    refine za_aload_n (pc := 19) dL_law_19 rfl ?_
    refine za_slen (pc := 20) dL_law_20 ?_
    refine za_bipush (pc := 21) (6) dL_law_21 (by decide) ?_
    refine za_isub (pc := 23) dL_law_23 ?_
    refine za_icmp_gt (pc := 24) 765 dL_law_24 (by decide) (fun c24 => ?_) (fun c24 => ?_)
    · exact stop i σ
    have hb : i + 6 ≤ L := by
      apply Classical.byContradiction
      intro hno
      apply c24
      rw [fa_lt, eL, nI_toInt (by omega)]
      omega
    have hv1 : vp_in (nI i + (1 : Int32)) L := by rw [show nI i + (1 : Int32) = nI (i + 1) from nI_add i 1]; exact vp_in_nI (by omega) (by omega)
    have hv2 : vp_in (nI i + (2 : Int32)) L := by rw [show nI i + (2 : Int32) = nI (i + 2) from nI_add i 2]; exact vp_in_nI (by omega) (by omega)
    have hv3 : vp_in (nI i + (3 : Int32)) L := by rw [show nI i + (3 : Int32) = nI (i + 3) from nI_add i 3]; exact vp_in_nI (by omega) (by omega)
    have hv4 : vp_in (nI i + (4 : Int32)) L := by rw [show nI i + (4 : Int32) = nI (i + 4) from nI_add i 4]; exact vp_in_nI (by omega) (by omega)
    have hv5 : vp_in (nI i + (5 : Int32)) L := by rw [show nI i + (5 : Int32) = nI (i + 5) from nI_add i 5]; exact vp_in_nI (by omega) (by omega)
    have hv0 : vp_in (nI i) L := vp_in_nI (by omega) (by omega)
    have next : ∀ (t : zSt) (b : Ab) (v1 : Nat), v1 ≤ v + 1 → XI t b v1 → MI t b → AOk b → zA lawZ mL_law (some (L, xs)) 68 67622 759 [some (.ref 999), some (.ref 0), some (.ref 47), some (.int (nI i))] [] SH t := by
      intro t b v1 hv1 h1 h2 h3
      refine za_ii3 (pc := 759) (6) dL_law_759 (by decide) rfl ?_
      refine za_goto (pc := 762) 18 dL_law_762 (by decide) ?_
      rw [show nI i + (6 : Int32) = nI (i + 6) from nI_add i 6]
      exact ih (j + 1) (i + 6) v1 t b (by omega) (by omega) (by omega) (by omega) h1 h2 h3
    refine za_aload_n (pc := 27) dL_law_27 rfl ?_
    refine za_iload_n (pc := 28) dL_law_28 rfl ?_
    refine za_sld (pc := 29) dL_law_29 hv0 ?_
    refine za_bipush (pc := 30) (31) dL_law_30 (by decide) ?_
    refine za_iand (pc := 32) dL_law_32 ?_
    obtain ⟨kk, hkk, ek⟩ := and31 (xs (nI i).toNatClampNeg)
    rw [ek]
    by_cases h20 : kk < 20
    · have hk20 : kk = 0 ∨ kk = 1 ∨ kk = 2 ∨ kk = 3 ∨ kk = 4 ∨ kk = 5 ∨ kk = 6 ∨ kk = 7 ∨ kk = 8 ∨ kk = 9 ∨ kk = 10 ∨ kk = 11 ∨ kk = 12 ∨ kk = 13 ∨ kk = 14 ∨ kk = 15 ∨ kk = 16 ∨ kk = 17 ∨ kk = 18 ∨ kk = 19 := by omega
      rcases hk20 with rfl | rfl | rfl | rfl | rfl | rfl | rfl | rfl | rfl | rfl | rfl | rfl | rfl | rfl | rfl | rfl | rfl | rfl | rfl | rfl
      · refine za_tableIn (pc := 33) (off := 95) 128 dL_law_33 (by decide) (by decide) (by decide) (by decide) ?_
        refine za_aload_n (pc := 128) dL_law_128 rfl ?_
        refine za_aload_n (pc := 129) dL_law_129 rfl ?_
        refine za_iload_n (pc := 130) dL_law_130 rfl ?_
        refine za_iconst (pc := 131) (1) dL_law_131 (by decide) ?_
        refine za_iadd (pc := 132) dL_law_132 ?_
        refine za_sld (pc := 133) dL_law_133 hv1 ?_
        refine za_aload_n (pc := 134) dL_law_134 rfl ?_
        refine za_iload_n (pc := 135) dL_law_135 rfl ?_
        refine za_iconst (pc := 136) (2) dL_law_136 (by decide) ?_
        refine za_iadd (pc := 137) dL_law_137 ?_
        refine za_sld (pc := 138) dL_law_138 hv2 ?_
        refine za_aload_n (pc := 139) dL_law_139 rfl ?_
        refine za_iload_n (pc := 140) dL_law_140 rfl ?_
        refine za_iconst (pc := 141) (3) dL_law_141 (by decide) ?_
        refine za_iadd (pc := 142) dL_law_142 ?_
        refine za_sld (pc := 143) dL_law_143 hv3 ?_
        refine za_cV3i (pc := 144) (μ' := mX6_sheet) dL_law_144 c__law_13 rfl rfl rfl ⟨rfl, rfl⟩ ⟨rfl, rfl⟩ rfl rfl rfl (x_sheet (a := a) σ v hX (by omega)) (fun x_144 t_144 h_144 => ?_)
        obtain ⟨rfl, ⟨v1, hv1', hX1⟩, e1⟩ := h_144
        have hM1 := MI_47 hM e1
        refine za_aload_n (pc := 147) dL_law_147 rfl ?_
        refine za_aload_n (pc := 148) dL_law_148 rfl ?_
        refine za_iload_n (pc := 149) dL_law_149 rfl ?_
        refine za_iconst (pc := 150) (1) dL_law_150 (by decide) ?_
        refine za_iadd (pc := 151) dL_law_151 ?_
        refine za_sld (pc := 152) dL_law_152 hv1 ?_
        refine za_aload_n (pc := 153) dL_law_153 rfl ?_
        refine za_iload_n (pc := 154) dL_law_154 rfl ?_
        refine za_iconst (pc := 155) (2) dL_law_155 (by decide) ?_
        refine za_iadd (pc := 156) dL_law_156 ?_
        refine za_sld (pc := 157) dL_law_157 hv2 ?_
        refine za_aload_n (pc := 158) dL_law_158 rfl ?_
        refine za_iload_n (pc := 159) dL_law_159 rfl ?_
        refine za_iconst (pc := 160) (3) dL_law_160 (by decide) ?_
        refine za_iadd (pc := 161) dL_law_161 ?_
        refine za_sld (pc := 162) dL_law_162 hv3 ?_
        refine za_cV3i (pc := 163) (μ' := mX7_sheet) dL_law_163 c__law_17 rfl rfl rfl ⟨rfl, rfl⟩ ⟨rfl, rfl⟩ rfl rfl rfl (m_sheet (a := a) t_144 hM1) (fun x_163 t_163 h_163 => ?_)
        obtain ⟨rfl, hM2, e2⟩ := h_163
        refine za_icmp_eq (pc := 166) 759 dL_law_166 (by decide) (fun _ => ?_) (fun q => absurd rfl q)
        exact next _ _ v1 hv1' (XI_47 hX1 e2) hM2 (o_sheet ho)
      · refine za_tableIn (pc := 33) (off := 138) 171 dL_law_33 (by decide) (by decide) (by decide) (by decide) ?_
        refine za_aload_n (pc := 171) dL_law_171 rfl ?_
        refine za_aload_n (pc := 172) dL_law_172 rfl ?_
        refine za_iload_n (pc := 173) dL_law_173 rfl ?_
        refine za_iconst (pc := 174) (1) dL_law_174 (by decide) ?_
        refine za_iadd (pc := 175) dL_law_175 ?_
        refine za_sld (pc := 176) dL_law_176 hv1 ?_
        refine za_aload_n (pc := 177) dL_law_177 rfl ?_
        refine za_iload_n (pc := 178) dL_law_178 rfl ?_
        refine za_iconst (pc := 179) (2) dL_law_179 (by decide) ?_
        refine za_iadd (pc := 180) dL_law_180 ?_
        refine za_sld (pc := 181) dL_law_181 hv2 ?_
        refine za_aload_n (pc := 182) dL_law_182 rfl ?_
        refine za_iload_n (pc := 183) dL_law_183 rfl ?_
        refine za_iconst (pc := 184) (3) dL_law_184 (by decide) ?_
        refine za_iadd (pc := 185) dL_law_185 ?_
        refine za_sld (pc := 186) dL_law_186 hv3 ?_
        refine za_cV3i (pc := 187) (μ' := mX6_put) dL_law_187 c__law_18 rfl rfl rfl ⟨rfl, rfl⟩ ⟨rfl, rfl⟩ rfl rfl rfl (x_put ho σ v hX (by omega)) (fun x_187 t_187 h_187 => ?_)
        obtain ⟨rfl, ⟨v1, hv1', hX1⟩, e1⟩ := h_187
        have hM1 := MI_47 hM e1
        refine za_aload_n (pc := 190) dL_law_190 rfl ?_
        refine za_aload_n (pc := 191) dL_law_191 rfl ?_
        refine za_iload_n (pc := 192) dL_law_192 rfl ?_
        refine za_iconst (pc := 193) (1) dL_law_193 (by decide) ?_
        refine za_iadd (pc := 194) dL_law_194 ?_
        refine za_sld (pc := 195) dL_law_195 hv1 ?_
        refine za_aload_n (pc := 196) dL_law_196 rfl ?_
        refine za_iload_n (pc := 197) dL_law_197 rfl ?_
        refine za_iconst (pc := 198) (2) dL_law_198 (by decide) ?_
        refine za_iadd (pc := 199) dL_law_199 ?_
        refine za_sld (pc := 200) dL_law_200 hv2 ?_
        refine za_aload_n (pc := 201) dL_law_201 rfl ?_
        refine za_iload_n (pc := 202) dL_law_202 rfl ?_
        refine za_iconst (pc := 203) (3) dL_law_203 (by decide) ?_
        refine za_iadd (pc := 204) dL_law_204 ?_
        refine za_sld (pc := 205) dL_law_205 hv3 ?_
        refine za_cV3i (pc := 206) (μ' := mX7_put) dL_law_206 c__law_21 rfl rfl rfl ⟨rfl, rfl⟩ ⟨rfl, rfl⟩ rfl rfl rfl (m_put ho t_187 hM1) (fun x_206 t_206 h_206 => ?_)
        obtain ⟨rfl, hM2, e2⟩ := h_206
        refine za_icmp_eq (pc := 209) 759 dL_law_209 (by decide) (fun _ => ?_) (fun q => absurd rfl q)
        exact next _ _ v1 hv1' (XI_47 hX1 e2) hM2 (o_put ho)
      · refine za_tableIn (pc := 33) (off := 181) 214 dL_law_33 (by decide) (by decide) (by decide) (by decide) ?_
        refine za_aload_n (pc := 214) dL_law_214 rfl ?_
        refine za_aload_n (pc := 215) dL_law_215 rfl ?_
        refine za_iload_n (pc := 216) dL_law_216 rfl ?_
        refine za_iconst (pc := 217) (1) dL_law_217 (by decide) ?_
        refine za_iadd (pc := 218) dL_law_218 ?_
        refine za_sld (pc := 219) dL_law_219 hv1 ?_
        refine za_aload_n (pc := 220) dL_law_220 rfl ?_
        refine za_iload_n (pc := 221) dL_law_221 rfl ?_
        refine za_iconst (pc := 222) (2) dL_law_222 (by decide) ?_
        refine za_iadd (pc := 223) dL_law_223 ?_
        refine za_sld (pc := 224) dL_law_224 hv2 ?_
        refine za_aload_n (pc := 225) dL_law_225 rfl ?_
        refine za_iload_n (pc := 226) dL_law_226 rfl ?_
        refine za_iconst (pc := 227) (3) dL_law_227 (by decide) ?_
        refine za_iadd (pc := 228) dL_law_228 ?_
        refine za_sld (pc := 229) dL_law_229 hv3 ?_
        refine za_aload_n (pc := 230) dL_law_230 rfl ?_
        refine za_iload_n (pc := 231) dL_law_231 rfl ?_
        refine za_iconst (pc := 232) (4) dL_law_232 (by decide) ?_
        refine za_iadd (pc := 233) dL_law_233 ?_
        refine za_sld (pc := 234) dL_law_234 hv4 ?_
        refine za_aload_n (pc := 235) dL_law_235 rfl ?_
        refine za_iload_n (pc := 236) dL_law_236 rfl ?_
        refine za_iconst (pc := 237) (5) dL_law_237 (by decide) ?_
        refine za_iadd (pc := 238) dL_law_238 ?_
        refine za_sld (pc := 239) dL_law_239 hv5 ?_
        refine za_cV5i (pc := 240) (μ' := mX6_copy) dL_law_240 c__law_22 rfl rfl rfl ⟨rfl, rfl⟩ ⟨rfl, rfl⟩ rfl rfl rfl (x_copy ho σ v hX (by omega)) (fun x_240 t_240 h_240 => ?_)
        obtain ⟨rfl, ⟨v1, hv1', hX1⟩, e1⟩ := h_240
        have hM1 := MI_47 hM e1
        refine za_aload_n (pc := 243) dL_law_243 rfl ?_
        refine za_aload_n (pc := 244) dL_law_244 rfl ?_
        refine za_iload_n (pc := 245) dL_law_245 rfl ?_
        refine za_iconst (pc := 246) (1) dL_law_246 (by decide) ?_
        refine za_iadd (pc := 247) dL_law_247 ?_
        refine za_sld (pc := 248) dL_law_248 hv1 ?_
        refine za_aload_n (pc := 249) dL_law_249 rfl ?_
        refine za_iload_n (pc := 250) dL_law_250 rfl ?_
        refine za_iconst (pc := 251) (2) dL_law_251 (by decide) ?_
        refine za_iadd (pc := 252) dL_law_252 ?_
        refine za_sld (pc := 253) dL_law_253 hv2 ?_
        refine za_aload_n (pc := 254) dL_law_254 rfl ?_
        refine za_iload_n (pc := 255) dL_law_255 rfl ?_
        refine za_iconst (pc := 256) (3) dL_law_256 (by decide) ?_
        refine za_iadd (pc := 257) dL_law_257 ?_
        refine za_sld (pc := 258) dL_law_258 hv3 ?_
        refine za_aload_n (pc := 259) dL_law_259 rfl ?_
        refine za_iload_n (pc := 260) dL_law_260 rfl ?_
        refine za_iconst (pc := 261) (4) dL_law_261 (by decide) ?_
        refine za_iadd (pc := 262) dL_law_262 ?_
        refine za_sld (pc := 263) dL_law_263 hv4 ?_
        refine za_aload_n (pc := 264) dL_law_264 rfl ?_
        refine za_iload_n (pc := 265) dL_law_265 rfl ?_
        refine za_iconst (pc := 266) (5) dL_law_266 (by decide) ?_
        refine za_iadd (pc := 267) dL_law_267 ?_
        refine za_sld (pc := 268) dL_law_268 hv5 ?_
        refine za_cV5i (pc := 269) (μ' := mX7_copy) dL_law_269 c__law_26 rfl rfl rfl ⟨rfl, rfl⟩ ⟨rfl, rfl⟩ rfl rfl rfl (m_copy ho t_240 hM1) (fun x_269 t_269 h_269 => ?_)
        obtain ⟨rfl, hM2, e2⟩ := h_269
        refine za_icmp_eq (pc := 272) 759 dL_law_272 (by decide) (fun _ => ?_) (fun q => absurd rfl q)
        exact next _ _ v1 hv1' (XI_47 hX1 e2) hM2 (o_copy ho)
      · refine za_tableIn (pc := 33) (off := 244) 277 dL_law_33 (by decide) (by decide) (by decide) (by decide) ?_
        refine za_aload_n (pc := 277) dL_law_277 rfl ?_
        refine za_aload_n (pc := 278) dL_law_278 rfl ?_
        refine za_iload_n (pc := 279) dL_law_279 rfl ?_
        refine za_iconst (pc := 280) (1) dL_law_280 (by decide) ?_
        refine za_iadd (pc := 281) dL_law_281 ?_
        refine za_sld (pc := 282) dL_law_282 hv1 ?_
        refine za_aload_n (pc := 283) dL_law_283 rfl ?_
        refine za_iload_n (pc := 284) dL_law_284 rfl ?_
        refine za_iconst (pc := 285) (2) dL_law_285 (by decide) ?_
        refine za_iadd (pc := 286) dL_law_286 ?_
        refine za_sld (pc := 287) dL_law_287 hv2 ?_
        refine za_cV2l (pc := 288) (μ' := mX6_told) dL_law_288 c__law_27 rfl rfl rfl ⟨rfl, rfl⟩ ⟨rfl, rfl⟩ rfl rfl rfl (tX6_told hX.1 ho.1) (fun x_288 t_288 h_288 => ?_)
        obtain ⟨rfl, h9⟩ := h_288
        have h9 := h9.symm
        subst h9
        refine za_aload_n (pc := 291) dL_law_291 rfl ?_
        refine za_aload_n (pc := 292) dL_law_292 rfl ?_
        refine za_iload_n (pc := 293) dL_law_293 rfl ?_
        refine za_iconst (pc := 294) (1) dL_law_294 (by decide) ?_
        refine za_iadd (pc := 295) dL_law_295 ?_
        refine za_sld (pc := 296) dL_law_296 hv1 ?_
        refine za_aload_n (pc := 297) dL_law_297 rfl ?_
        refine za_iload_n (pc := 298) dL_law_298 rfl ?_
        refine za_iconst (pc := 299) (2) dL_law_299 (by decide) ?_
        refine za_iadd (pc := 300) dL_law_300 ?_
        refine za_sld (pc := 301) dL_law_301 hv2 ?_
        refine za_cV2l (pc := 302) (μ' := mX7_told) dL_law_302 c__law_31 rfl rfl rfl ⟨rfl, rfl⟩ ⟨rfl, rfl⟩ rfl rfl rfl (tX7_told hM.1 ho.1) (fun x_302 t_302 h_302 => ?_)
        obtain ⟨rfl, h9⟩ := h_302
        have h9 := h9.symm
        subst h9
        refine za_lcmp (pc := 305) dL_law_305 ?_
        rw [lg_self]
        refine za_if_eq (pc := 306) 759 dL_law_306 (by decide) (fun _ => ?_) (fun q => absurd rfl q)
        exact next σ a v (by omega) hX hM ho
      · refine za_tableIn (pc := 33) (off := 278) 311 dL_law_33 (by decide) (by decide) (by decide) (by decide) ?_
        refine za_aload_n (pc := 311) dL_law_311 rfl ?_
        refine za_aload_n (pc := 312) dL_law_312 rfl ?_
        refine za_iload_n (pc := 313) dL_law_313 rfl ?_
        refine za_iconst (pc := 314) (1) dL_law_314 (by decide) ?_
        refine za_iadd (pc := 315) dL_law_315 ?_
        refine za_sld (pc := 316) dL_law_316 hv1 ?_
        refine za_aload_n (pc := 317) dL_law_317 rfl ?_
        refine za_iload_n (pc := 318) dL_law_318 rfl ?_
        refine za_iconst (pc := 319) (2) dL_law_319 (by decide) ?_
        refine za_iadd (pc := 320) dL_law_320 ?_
        refine za_sld (pc := 321) dL_law_321 hv2 ?_
        refine za_aload_n (pc := 322) dL_law_322 rfl ?_
        refine za_iload_n (pc := 323) dL_law_323 rfl ?_
        refine za_iconst (pc := 324) (3) dL_law_324 (by decide) ?_
        refine za_iadd (pc := 325) dL_law_325 ?_
        refine za_sld (pc := 326) dL_law_326 hv3 ?_
        refine za_cV3i (pc := 327) (μ' := mX6_job) dL_law_327 c__law_32 rfl rfl rfl ⟨rfl, rfl⟩ ⟨rfl, rfl⟩ rfl rfl rfl (x_job ho σ v hX (by omega)) (fun x_327 t_327 h_327 => ?_)
        obtain ⟨rfl, ⟨v1, hv1', hX1⟩, e1⟩ := h_327
        have hM1 := MI_47 hM e1
        refine za_aload_n (pc := 330) dL_law_330 rfl ?_
        refine za_aload_n (pc := 331) dL_law_331 rfl ?_
        refine za_iload_n (pc := 332) dL_law_332 rfl ?_
        refine za_iconst (pc := 333) (1) dL_law_333 (by decide) ?_
        refine za_iadd (pc := 334) dL_law_334 ?_
        refine za_sld (pc := 335) dL_law_335 hv1 ?_
        refine za_aload_n (pc := 336) dL_law_336 rfl ?_
        refine za_iload_n (pc := 337) dL_law_337 rfl ?_
        refine za_iconst (pc := 338) (2) dL_law_338 (by decide) ?_
        refine za_iadd (pc := 339) dL_law_339 ?_
        refine za_sld (pc := 340) dL_law_340 hv2 ?_
        refine za_aload_n (pc := 341) dL_law_341 rfl ?_
        refine za_iload_n (pc := 342) dL_law_342 rfl ?_
        refine za_iconst (pc := 343) (3) dL_law_343 (by decide) ?_
        refine za_iadd (pc := 344) dL_law_344 ?_
        refine za_sld (pc := 345) dL_law_345 hv3 ?_
        refine za_cV3i (pc := 346) (μ' := mX7_job) dL_law_346 c__law_35 rfl rfl rfl ⟨rfl, rfl⟩ ⟨rfl, rfl⟩ rfl rfl rfl (m_job ho t_327 hM1) (fun x_346 t_346 h_346 => ?_)
        obtain ⟨rfl, hM2, e2⟩ := h_346
        refine za_icmp_eq (pc := 349) 759 dL_law_349 (by decide) (fun _ => ?_) (fun q => absurd rfl q)
        exact next _ _ v1 hv1' (XI_47 hX1 e2) hM2 (o_job ho)
      · refine za_tableIn (pc := 33) (off := 321) 354 dL_law_33 (by decide) (by decide) (by decide) (by decide) ?_
        refine za_aload_n (pc := 354) dL_law_354 rfl ?_
        refine za_aload_n (pc := 355) dL_law_355 rfl ?_
        refine za_iload_n (pc := 356) dL_law_356 rfl ?_
        refine za_iconst (pc := 357) (1) dL_law_357 (by decide) ?_
        refine za_iadd (pc := 358) dL_law_358 ?_
        refine za_sld (pc := 359) dL_law_359 hv1 ?_
        refine za_aload_n (pc := 360) dL_law_360 rfl ?_
        refine za_iload_n (pc := 361) dL_law_361 rfl ?_
        refine za_iconst (pc := 362) (2) dL_law_362 (by decide) ?_
        refine za_iadd (pc := 363) dL_law_363 ?_
        refine za_sld (pc := 364) dL_law_364 hv2 ?_
        refine za_cV2i (pc := 365) (μ' := mX6_after) dL_law_365 c__law_36 rfl rfl rfl ⟨rfl, rfl⟩ ⟨rfl, rfl⟩ rfl rfl rfl (x_after ho σ v hX (by omega)) (fun x_365 t_365 h_365 => ?_)
        obtain ⟨rfl, ⟨v1, hv1', hX1⟩, e1⟩ := h_365
        have hM1 := MI_47 hM e1
        refine za_aload_n (pc := 368) dL_law_368 rfl ?_
        refine za_aload_n (pc := 369) dL_law_369 rfl ?_
        refine za_iload_n (pc := 370) dL_law_370 rfl ?_
        refine za_iconst (pc := 371) (1) dL_law_371 (by decide) ?_
        refine za_iadd (pc := 372) dL_law_372 ?_
        refine za_sld (pc := 373) dL_law_373 hv1 ?_
        refine za_aload_n (pc := 374) dL_law_374 rfl ?_
        refine za_iload_n (pc := 375) dL_law_375 rfl ?_
        refine za_iconst (pc := 376) (2) dL_law_376 (by decide) ?_
        refine za_iadd (pc := 377) dL_law_377 ?_
        refine za_sld (pc := 378) dL_law_378 hv2 ?_
        refine za_cV2i (pc := 379) (μ' := mX7_after) dL_law_379 c__law_40 rfl rfl rfl ⟨rfl, rfl⟩ ⟨rfl, rfl⟩ rfl rfl rfl (m_after ho t_365 hM1) (fun x_379 t_379 h_379 => ?_)
        obtain ⟨rfl, hM2, e2⟩ := h_379
        refine za_icmp_eq (pc := 382) 759 dL_law_382 (by decide) (fun _ => ?_) (fun q => absurd rfl q)
        exact next _ _ v1 hv1' (XI_47 hX1 e2) hM2 (o_after ho)
      · refine za_tableIn (pc := 33) (off := 354) 387 dL_law_33 (by decide) (by decide) (by decide) (by decide) ?_
        refine za_aload_n (pc := 387) dL_law_387 rfl ?_
        refine za_aload_n (pc := 388) dL_law_388 rfl ?_
        refine za_iload_n (pc := 389) dL_law_389 rfl ?_
        refine za_iconst (pc := 390) (1) dL_law_390 (by decide) ?_
        refine za_iadd (pc := 391) dL_law_391 ?_
        refine za_sld (pc := 392) dL_law_392 hv1 ?_
        refine za_aload_n (pc := 393) dL_law_393 rfl ?_
        refine za_iload_n (pc := 394) dL_law_394 rfl ?_
        refine za_iconst (pc := 395) (2) dL_law_395 (by decide) ?_
        refine za_iadd (pc := 396) dL_law_396 ?_
        refine za_sld (pc := 397) dL_law_397 hv2 ?_
        refine za_aload_n (pc := 398) dL_law_398 rfl ?_
        refine za_iload_n (pc := 399) dL_law_399 rfl ?_
        refine za_iconst (pc := 400) (3) dL_law_400 (by decide) ?_
        refine za_iadd (pc := 401) dL_law_401 ?_
        refine za_sld (pc := 402) dL_law_402 hv3 ?_
        refine za_aload_n (pc := 403) dL_law_403 rfl ?_
        refine za_iload_n (pc := 404) dL_law_404 rfl ?_
        refine za_iconst (pc := 405) (4) dL_law_405 (by decide) ?_
        refine za_iadd (pc := 406) dL_law_406 ?_
        refine za_sld (pc := 407) dL_law_407 hv4 ?_
        refine za_cV4i (pc := 408) (μ' := mX6_read) dL_law_408 c__law_41 rfl rfl rfl ⟨rfl, rfl⟩ ⟨rfl, rfl⟩ rfl rfl rfl (x_read ho σ v hX (by omega)) (fun x_408 t_408 h_408 => ?_)
        obtain ⟨rfl, ⟨v1, hv1', hX1⟩, e1⟩ := h_408
        have hM1 := MI_47 hM e1
        refine za_aload_n (pc := 411) dL_law_411 rfl ?_
        refine za_aload_n (pc := 412) dL_law_412 rfl ?_
        refine za_iload_n (pc := 413) dL_law_413 rfl ?_
        refine za_iconst (pc := 414) (1) dL_law_414 (by decide) ?_
        refine za_iadd (pc := 415) dL_law_415 ?_
        refine za_sld (pc := 416) dL_law_416 hv1 ?_
        refine za_aload_n (pc := 417) dL_law_417 rfl ?_
        refine za_iload_n (pc := 418) dL_law_418 rfl ?_
        refine za_iconst (pc := 419) (2) dL_law_419 (by decide) ?_
        refine za_iadd (pc := 420) dL_law_420 ?_
        refine za_sld (pc := 421) dL_law_421 hv2 ?_
        refine za_aload_n (pc := 422) dL_law_422 rfl ?_
        refine za_iload_n (pc := 423) dL_law_423 rfl ?_
        refine za_iconst (pc := 424) (3) dL_law_424 (by decide) ?_
        refine za_iadd (pc := 425) dL_law_425 ?_
        refine za_sld (pc := 426) dL_law_426 hv3 ?_
        refine za_aload_n (pc := 427) dL_law_427 rfl ?_
        refine za_iload_n (pc := 428) dL_law_428 rfl ?_
        refine za_iconst (pc := 429) (4) dL_law_429 (by decide) ?_
        refine za_iadd (pc := 430) dL_law_430 ?_
        refine za_sld (pc := 431) dL_law_431 hv4 ?_
        refine za_cV4i (pc := 432) (μ' := mX7_read) dL_law_432 c__law_45 rfl rfl rfl ⟨rfl, rfl⟩ ⟨rfl, rfl⟩ rfl rfl rfl (m_read ho t_408 hM1) (fun x_432 t_432 h_432 => ?_)
        obtain ⟨rfl, hM2, e2⟩ := h_432
        refine za_icmp_eq (pc := 435) 759 dL_law_435 (by decide) (fun _ => ?_) (fun q => absurd rfl q)
        exact next _ _ v1 hv1' (XI_47 hX1 e2) hM2 (o_read ho)
      · refine za_tableIn (pc := 33) (off := 407) 440 dL_law_33 (by decide) (by decide) (by decide) (by decide) ?_
        refine za_aload_n (pc := 440) dL_law_440 rfl ?_
        refine za_aload_n (pc := 441) dL_law_441 rfl ?_
        refine za_iload_n (pc := 442) dL_law_442 rfl ?_
        refine za_iconst (pc := 443) (1) dL_law_443 (by decide) ?_
        refine za_iadd (pc := 444) dL_law_444 ?_
        refine za_sld (pc := 445) dL_law_445 hv1 ?_
        refine za_aload_n (pc := 446) dL_law_446 rfl ?_
        refine za_iload_n (pc := 447) dL_law_447 rfl ?_
        refine za_iconst (pc := 448) (2) dL_law_448 (by decide) ?_
        refine za_iadd (pc := 449) dL_law_449 ?_
        refine za_sld (pc := 450) dL_law_450 hv2 ?_
        refine za_cV2i (pc := 451) (μ' := mX6_free) dL_law_451 c__law_46 rfl rfl rfl ⟨rfl, rfl⟩ ⟨rfl, rfl⟩ rfl rfl rfl (x_free ho σ v hX (by omega)) (fun x_451 t_451 h_451 => ?_)
        obtain ⟨rfl, ⟨v1, hv1', hX1⟩, e1⟩ := h_451
        have hM1 := MI_47 hM e1
        refine za_aload_n (pc := 454) dL_law_454 rfl ?_
        refine za_aload_n (pc := 455) dL_law_455 rfl ?_
        refine za_iload_n (pc := 456) dL_law_456 rfl ?_
        refine za_iconst (pc := 457) (1) dL_law_457 (by decide) ?_
        refine za_iadd (pc := 458) dL_law_458 ?_
        refine za_sld (pc := 459) dL_law_459 hv1 ?_
        refine za_aload_n (pc := 460) dL_law_460 rfl ?_
        refine za_iload_n (pc := 461) dL_law_461 rfl ?_
        refine za_iconst (pc := 462) (2) dL_law_462 (by decide) ?_
        refine za_iadd (pc := 463) dL_law_463 ?_
        refine za_sld (pc := 464) dL_law_464 hv2 ?_
        refine za_cV2i (pc := 465) (μ' := mX7_free) dL_law_465 c__law_49 rfl rfl rfl ⟨rfl, rfl⟩ ⟨rfl, rfl⟩ rfl rfl rfl (m_free ho t_451 hM1) (fun x_465 t_465 h_465 => ?_)
        obtain ⟨rfl, hM2, e2⟩ := h_465
        refine za_icmp_eq (pc := 468) 759 dL_law_468 (by decide) (fun _ => ?_) (fun q => absurd rfl q)
        exact next _ _ v1 hv1' (XI_47 hX1 e2) hM2 (o_free ho)
      · refine za_tableIn (pc := 33) (off := 440) 473 dL_law_33 (by decide) (by decide) (by decide) (by decide) ?_
        refine za_aload_n (pc := 473) dL_law_473 rfl ?_
        refine za_aload_n (pc := 474) dL_law_474 rfl ?_
        refine za_iload_n (pc := 475) dL_law_475 rfl ?_
        refine za_iconst (pc := 476) (1) dL_law_476 (by decide) ?_
        refine za_iadd (pc := 477) dL_law_477 ?_
        refine za_sld (pc := 478) dL_law_478 hv1 ?_
        refine za_cV1i (pc := 479) (μ' := mX6_ring) dL_law_479 c__law_50 rfl rfl rfl ⟨rfl, rfl⟩ ⟨rfl, rfl⟩ rfl rfl rfl (x_ring ho σ v hX (by omega)) (fun x_479 t_479 h_479 => ?_)
        obtain ⟨rfl, ⟨v1, hv1', hX1⟩, e1⟩ := h_479
        have hM1 := MI_47 hM e1
        refine za_aload_n (pc := 482) dL_law_482 rfl ?_
        refine za_aload_n (pc := 483) dL_law_483 rfl ?_
        refine za_iload_n (pc := 484) dL_law_484 rfl ?_
        refine za_iconst (pc := 485) (1) dL_law_485 (by decide) ?_
        refine za_iadd (pc := 486) dL_law_486 ?_
        refine za_sld (pc := 487) dL_law_487 hv1 ?_
        refine za_cV1i (pc := 488) (μ' := mX7_ring) dL_law_488 c__law_54 rfl rfl rfl ⟨rfl, rfl⟩ ⟨rfl, rfl⟩ rfl rfl rfl (m_ring ho t_479 hM1) (fun x_488 t_488 h_488 => ?_)
        obtain ⟨rfl, hM2, e2⟩ := h_488
        refine za_icmp_eq (pc := 491) 759 dL_law_491 (by decide) (fun _ => ?_) (fun q => absurd rfl q)
        exact next _ _ v1 hv1' (XI_47 hX1 e2) hM2 (ho)
      · refine za_tableIn (pc := 33) (off := 463) 496 dL_law_33 (by decide) (by decide) (by decide) (by decide) ?_
        refine za_aload_n (pc := 496) dL_law_496 rfl ?_
        refine za_aload_n (pc := 497) dL_law_497 rfl ?_
        refine za_iload_n (pc := 498) dL_law_498 rfl ?_
        refine za_iconst (pc := 499) (1) dL_law_499 (by decide) ?_
        refine za_iadd (pc := 500) dL_law_500 ?_
        refine za_sld (pc := 501) dL_law_501 hv1 ?_
        refine za_aload_n (pc := 502) dL_law_502 rfl ?_
        refine za_iload_n (pc := 503) dL_law_503 rfl ?_
        refine za_iconst (pc := 504) (2) dL_law_504 (by decide) ?_
        refine za_iadd (pc := 505) dL_law_505 ?_
        refine za_sld (pc := 506) dL_law_506 hv2 ?_
        refine za_cV2i (pc := 507) (μ' := mX6_about) dL_law_507 c__law_55 rfl rfl rfl ⟨rfl, rfl⟩ ⟨rfl, rfl⟩ rfl rfl rfl (x_about ho σ v hX (by omega)) (fun x_507 t_507 h_507 => ?_)
        obtain ⟨rfl, ⟨v1, hv1', hX1⟩, e1⟩ := h_507
        have hM1 := MI_47 hM e1
        refine za_aload_n (pc := 510) dL_law_510 rfl ?_
        refine za_aload_n (pc := 511) dL_law_511 rfl ?_
        refine za_iload_n (pc := 512) dL_law_512 rfl ?_
        refine za_iconst (pc := 513) (1) dL_law_513 (by decide) ?_
        refine za_iadd (pc := 514) dL_law_514 ?_
        refine za_sld (pc := 515) dL_law_515 hv1 ?_
        refine za_aload_n (pc := 516) dL_law_516 rfl ?_
        refine za_iload_n (pc := 517) dL_law_517 rfl ?_
        refine za_iconst (pc := 518) (2) dL_law_518 (by decide) ?_
        refine za_iadd (pc := 519) dL_law_519 ?_
        refine za_sld (pc := 520) dL_law_520 hv2 ?_
        refine za_cV2i (pc := 521) (μ' := mX7_about) dL_law_521 c__law_58 rfl rfl rfl ⟨rfl, rfl⟩ ⟨rfl, rfl⟩ rfl rfl rfl (m_about ho t_507 hM1) (fun x_521 t_521 h_521 => ?_)
        obtain ⟨rfl, hM2, e2⟩ := h_521
        refine za_icmp_eq (pc := 524) 759 dL_law_524 (by decide) (fun _ => ?_) (fun q => absurd rfl q)
        exact next _ _ v1 hv1' (XI_47 hX1 e2) hM2 (ho)
      · refine za_tableIn (pc := 33) (off := 496) 529 dL_law_33 (by decide) (by decide) (by decide) (by decide) ?_
        refine za_aload_n (pc := 529) dL_law_529 rfl ?_
        refine za_cV0i (pc := 530) (μ' := mX6_undo) dL_law_530 c__law_59 rfl rfl rfl ⟨rfl, rfl⟩ ⟨rfl, rfl⟩ rfl rfl rfl (x_undo ho σ v hX (by omega)) (fun x_530 t_530 h_530 => ?_)
        obtain ⟨rfl, ⟨v1, hv1', hX1⟩, e1⟩ := h_530
        have hM1 := MI_47 hM e1
        refine za_aload_n (pc := 533) dL_law_533 rfl ?_
        refine za_cV0i (pc := 534) (μ' := mX7_undo) dL_law_534 c__law_63 rfl rfl rfl ⟨rfl, rfl⟩ ⟨rfl, rfl⟩ rfl rfl rfl (m_undo ho t_530 hM1) (fun x_534 t_534 h_534 => ?_)
        obtain ⟨rfl, hM2, e2⟩ := h_534
        refine za_icmp_eq (pc := 537) 759 dL_law_537 (by decide) (fun _ => ?_) (fun q => absurd rfl q)
        exact next _ _ v1 hv1' (XI_47 hX1 e2) hM2 (o_undo ho)
      · refine za_tableIn (pc := 33) (off := 509) 542 dL_law_33 (by decide) (by decide) (by decide) (by decide) ?_
        refine za_aload_n (pc := 542) dL_law_542 rfl ?_
        refine za_cV0i (pc := 543) (μ' := mX6_least) dL_law_543 c__law_64 rfl rfl rfl ⟨rfl, rfl⟩ ⟨rfl, rfl⟩ rfl rfl rfl (x_least ho σ v hX (by omega)) (fun x_543 t_543 h_543 => ?_)
        obtain ⟨rfl, ⟨v1, hv1', hX1⟩, e1⟩ := h_543
        have hM1 := MI_47 hM e1
        refine za_aload_n (pc := 546) dL_law_546 rfl ?_
        refine za_cV0i (pc := 547) (μ' := mX7_least) dL_law_547 c__law_67 rfl rfl rfl ⟨rfl, rfl⟩ ⟨rfl, rfl⟩ rfl rfl rfl (m_least ho t_543 hM1) (fun x_547 t_547 h_547 => ?_)
        obtain ⟨rfl, hM2, e2⟩ := h_547
        refine za_icmp_eq (pc := 550) 759 dL_law_550 (by decide) (fun _ => ?_) (fun q => absurd rfl q)
        exact next _ _ v1 hv1' (XI_47 hX1 e2) hM2 (ho)
      · refine za_tableIn (pc := 33) (off := 522) 555 dL_law_33 (by decide) (by decide) (by decide) (by decide) ?_
        refine za_aload_n (pc := 555) dL_law_555 rfl ?_
        refine za_aload_n (pc := 556) dL_law_556 rfl ?_
        refine za_iload_n (pc := 557) dL_law_557 rfl ?_
        refine za_iconst (pc := 558) (1) dL_law_558 (by decide) ?_
        refine za_iadd (pc := 559) dL_law_559 ?_
        refine za_sld (pc := 560) dL_law_560 hv1 ?_
        refine za_aload_n (pc := 561) dL_law_561 rfl ?_
        refine za_iload_n (pc := 562) dL_law_562 rfl ?_
        refine za_iconst (pc := 563) (2) dL_law_563 (by decide) ?_
        refine za_iadd (pc := 564) dL_law_564 ?_
        refine za_sld (pc := 565) dL_law_565 hv2 ?_
        refine za_cV2i (pc := 566) (μ' := mX6_day) dL_law_566 c__law_68 rfl rfl rfl ⟨rfl, rfl⟩ ⟨rfl, rfl⟩ rfl rfl rfl (x_day ho σ v hX (by omega)) (fun x_566 t_566 h_566 => ?_)
        obtain ⟨rfl, ⟨v1, hv1', hX1⟩, e1⟩ := h_566
        have hM1 := MI_47 hM e1
        refine za_aload_n (pc := 569) dL_law_569 rfl ?_
        refine za_aload_n (pc := 570) dL_law_570 rfl ?_
        refine za_iload_n (pc := 571) dL_law_571 rfl ?_
        refine za_iconst (pc := 572) (1) dL_law_572 (by decide) ?_
        refine za_iadd (pc := 573) dL_law_573 ?_
        refine za_sld (pc := 574) dL_law_574 hv1 ?_
        refine za_aload_n (pc := 575) dL_law_575 rfl ?_
        refine za_iload_n (pc := 576) dL_law_576 rfl ?_
        refine za_iconst (pc := 577) (2) dL_law_577 (by decide) ?_
        refine za_iadd (pc := 578) dL_law_578 ?_
        refine za_sld (pc := 579) dL_law_579 hv2 ?_
        refine za_cV2i (pc := 580) (μ' := mX7_day) dL_law_580 c__law_71 rfl rfl rfl ⟨rfl, rfl⟩ ⟨rfl, rfl⟩ rfl rfl rfl (m_day ho t_566 hM1) (fun x_580 t_580 h_580 => ?_)
        obtain ⟨rfl, hM2, e2⟩ := h_580
        refine za_icmp_eq (pc := 583) 759 dL_law_583 (by decide) (fun _ => ?_) (fun q => absurd rfl q)
        exact next _ _ v1 hv1' (XI_47 hX1 e2) hM2 (ho)
      · refine za_tableIn (pc := 33) (off := 555) 588 dL_law_33 (by decide) (by decide) (by decide) (by decide) ?_
        refine za_aload_n (pc := 588) dL_law_588 rfl ?_
        refine za_aload_n (pc := 589) dL_law_589 rfl ?_
        refine za_iload_n (pc := 590) dL_law_590 rfl ?_
        refine za_iconst (pc := 591) (1) dL_law_591 (by decide) ?_
        refine za_iadd (pc := 592) dL_law_592 ?_
        refine za_sld (pc := 593) dL_law_593 hv1 ?_
        refine za_cV1i (pc := 594) (μ' := mX6_idle) dL_law_594 c__law_72 rfl rfl rfl ⟨rfl, rfl⟩ ⟨rfl, rfl⟩ rfl rfl rfl (x_idle ho σ v hX (by omega)) (fun x_594 t_594 h_594 => ?_)
        obtain ⟨rfl, ⟨v1, hv1', hX1⟩, e1⟩ := h_594
        have hM1 := MI_47 hM e1
        refine za_aload_n (pc := 597) dL_law_597 rfl ?_
        refine za_aload_n (pc := 598) dL_law_598 rfl ?_
        refine za_iload_n (pc := 599) dL_law_599 rfl ?_
        refine za_iconst (pc := 600) (1) dL_law_600 (by decide) ?_
        refine za_iadd (pc := 601) dL_law_601 ?_
        refine za_sld (pc := 602) dL_law_602 hv1 ?_
        refine za_cV1i (pc := 603) (μ' := mX7_idle) dL_law_603 c__law_75 rfl rfl rfl ⟨rfl, rfl⟩ ⟨rfl, rfl⟩ rfl rfl rfl (m_idle ho t_594 hM1) (fun x_603 t_603 h_603 => ?_)
        obtain ⟨rfl, hM2, e2⟩ := h_603
        refine za_icmp_eq (pc := 606) 759 dL_law_606 (by decide) (fun _ => ?_) (fun q => absurd rfl q)
        exact next _ _ v1 hv1' (XI_47 hX1 e2) hM2 (ho)
      · refine za_tableIn (pc := 33) (off := 578) 611 dL_law_33 (by decide) (by decide) (by decide) (by decide) ?_
        refine za_aload_n (pc := 611) dL_law_611 rfl ?_
        refine za_cV0i (pc := 612) (μ' := mX6_pairs) dL_law_612 c__law_76 rfl rfl rfl ⟨rfl, rfl⟩ ⟨rfl, rfl⟩ rfl rfl rfl (x_pairs ho σ v hX (by omega)) (fun x_612 t_612 h_612 => ?_)
        obtain ⟨rfl, ⟨v1, hv1', hX1⟩, e1⟩ := h_612
        have hM1 := MI_47 hM e1
        refine za_aload_n (pc := 615) dL_law_615 rfl ?_
        refine za_cV0i (pc := 616) (μ' := mX7_pairs) dL_law_616 c__law_79 rfl rfl rfl ⟨rfl, rfl⟩ ⟨rfl, rfl⟩ rfl rfl rfl (m_pairs ho t_612 hM1) (fun x_616 t_616 h_616 => ?_)
        obtain ⟨rfl, hM2, e2⟩ := h_616
        refine za_icmp_eq (pc := 619) 759 dL_law_619 (by decide) (fun _ => ?_) (fun q => absurd rfl q)
        exact next _ _ v1 hv1' (XI_47 hX1 e2) hM2 (ho)
      · refine za_tableIn (pc := 33) (off := 591) 624 dL_law_33 (by decide) (by decide) (by decide) (by decide) ?_
        refine za_aload_n (pc := 624) dL_law_624 rfl ?_
        refine za_aload_n (pc := 625) dL_law_625 rfl ?_
        refine za_iload_n (pc := 626) dL_law_626 rfl ?_
        refine za_iconst (pc := 627) (1) dL_law_627 (by decide) ?_
        refine za_iadd (pc := 628) dL_law_628 ?_
        refine za_sld (pc := 629) dL_law_629 hv1 ?_
        refine za_cV1i (pc := 630) (μ' := mX6_rest) dL_law_630 c__law_80 rfl rfl rfl ⟨rfl, rfl⟩ ⟨rfl, rfl⟩ rfl rfl rfl (x_rest ho σ v hX (by omega)) (fun x_630 t_630 h_630 => ?_)
        obtain ⟨rfl, ⟨v1, hv1', hX1⟩, e1⟩ := h_630
        have hM1 := MI_47 hM e1
        refine za_aload_n (pc := 633) dL_law_633 rfl ?_
        refine za_aload_n (pc := 634) dL_law_634 rfl ?_
        refine za_iload_n (pc := 635) dL_law_635 rfl ?_
        refine za_iconst (pc := 636) (1) dL_law_636 (by decide) ?_
        refine za_iadd (pc := 637) dL_law_637 ?_
        refine za_sld (pc := 638) dL_law_638 hv1 ?_
        refine za_cV1i (pc := 639) (μ' := mX7_rest) dL_law_639 c__law_83 rfl rfl rfl ⟨rfl, rfl⟩ ⟨rfl, rfl⟩ rfl rfl rfl (m_rest ho t_630 hM1) (fun x_639 t_639 h_639 => ?_)
        obtain ⟨rfl, hM2, e2⟩ := h_639
        refine za_icmp_eq (pc := 642) 759 dL_law_642 (by decide) (fun _ => ?_) (fun q => absurd rfl q)
        exact next _ _ v1 hv1' (XI_47 hX1 e2) hM2 (ho)
      · refine za_tableIn (pc := 33) (off := 614) 647 dL_law_33 (by decide) (by decide) (by decide) (by decide) ?_
        refine za_aload_n (pc := 647) dL_law_647 rfl ?_
        refine za_cV0i (pc := 648) (μ' := mX6_kept) dL_law_648 c__law_84 rfl rfl rfl ⟨rfl, rfl⟩ ⟨rfl, rfl⟩ rfl rfl rfl (x_kept ho σ v hX (by omega)) (fun x_648 t_648 h_648 => ?_)
        obtain ⟨rfl, ⟨v1, hv1', hX1⟩, e1⟩ := h_648
        have hM1 := MI_47 hM e1
        refine za_aload_n (pc := 651) dL_law_651 rfl ?_
        refine za_cV0i (pc := 652) (μ' := mX7_kept) dL_law_652 c__law_87 rfl rfl rfl ⟨rfl, rfl⟩ ⟨rfl, rfl⟩ rfl rfl rfl (m_kept ho t_648 hM1) (fun x_652 t_652 h_652 => ?_)
        obtain ⟨rfl, hM2, e2⟩ := h_652
        refine za_icmp_eq (pc := 655) 759 dL_law_655 (by decide) (fun _ => ?_) (fun q => absurd rfl q)
        exact next _ _ v1 hv1' (XI_47 hX1 e2) hM2 (ho)
      · refine za_tableIn (pc := 33) (off := 627) 660 dL_law_33 (by decide) (by decide) (by decide) (by decide) ?_
        refine za_aload_n (pc := 660) dL_law_660 rfl ?_
        refine za_aload_n (pc := 661) dL_law_661 rfl ?_
        refine za_iload_n (pc := 662) dL_law_662 rfl ?_
        refine za_iconst (pc := 663) (1) dL_law_663 (by decide) ?_
        refine za_iadd (pc := 664) dL_law_664 ?_
        refine za_sld (pc := 665) dL_law_665 hv1 ?_
        refine za_cV1i (pc := 666) (μ' := mX6_code) dL_law_666 c__law_88 rfl rfl rfl ⟨rfl, rfl⟩ ⟨rfl, rfl⟩ rfl rfl rfl (x_code ho σ v hX (by omega)) (fun x_666 t_666 h_666 => ?_)
        obtain ⟨rfl, ⟨v1, hv1', hX1⟩, e1⟩ := h_666
        have hM1 := MI_47 hM e1
        refine za_aload_n (pc := 669) dL_law_669 rfl ?_
        refine za_aload_n (pc := 670) dL_law_670 rfl ?_
        refine za_iload_n (pc := 671) dL_law_671 rfl ?_
        refine za_iconst (pc := 672) (1) dL_law_672 (by decide) ?_
        refine za_iadd (pc := 673) dL_law_673 ?_
        refine za_sld (pc := 674) dL_law_674 hv1 ?_
        refine za_cV1i (pc := 675) (μ' := mX7_code) dL_law_675 c__law_91 rfl rfl rfl ⟨rfl, rfl⟩ ⟨rfl, rfl⟩ rfl rfl rfl (m_code ho t_666 hM1) (fun x_675 t_675 h_675 => ?_)
        obtain ⟨rfl, hM2, e2⟩ := h_675
        refine za_icmp_eq (pc := 678) 759 dL_law_678 (by decide) (fun _ => ?_) (fun q => absurd rfl q)
        exact next _ _ v1 hv1' (XI_47 hX1 e2) hM2 (ho)
      · refine za_tableIn (pc := 33) (off := 650) 683 dL_law_33 (by decide) (by decide) (by decide) (by decide) ?_
        refine za_aload_n (pc := 683) dL_law_683 rfl ?_
        refine za_aload_n (pc := 684) dL_law_684 rfl ?_
        refine za_iload_n (pc := 685) dL_law_685 rfl ?_
        refine za_iconst (pc := 686) (1) dL_law_686 (by decide) ?_
        refine za_iadd (pc := 687) dL_law_687 ?_
        refine za_sld (pc := 688) dL_law_688 hv1 ?_
        refine za_i2l (pc := 689) dL_law_689 ?_
        refine za_bipush (pc := 690) (32) dL_law_690 (by decide) ?_
        refine za_lshl (pc := 692) dL_law_692 ?_
        refine za_aload_n (pc := 693) dL_law_693 rfl ?_
        refine za_iload_n (pc := 694) dL_law_694 rfl ?_
        refine za_iconst (pc := 695) (2) dL_law_695 (by decide) ?_
        refine za_iadd (pc := 696) dL_law_696 ?_
        refine za_sld (pc := 697) dL_law_697 hv2 ?_
        refine za_i2l (pc := 698) dL_law_698 ?_
        refine za_ldc2_w (pc := 699) (4294967295) dL_law_699 k_law_92 ?_
        refine za_land (pc := 702) dL_law_702 ?_
        refine za_lor (pc := 703) dL_law_703 ?_
        refine za_cV1i (pc := 704) (μ' := mX6_check) dL_law_704 c__law_94 rfl rfl rfl ⟨rfl, rfl⟩ ⟨rfl, rfl⟩ rfl rfl rfl (x_check ho σ v hX (by omega)) (fun x_704 t_704 h_704 => ?_)
        obtain ⟨rfl, ⟨v1, hv1', hX1⟩, e1⟩ := h_704
        have hM1 := MI_47 hM e1
        refine za_aload_n (pc := 707) dL_law_707 rfl ?_
        refine za_aload_n (pc := 708) dL_law_708 rfl ?_
        refine za_iload_n (pc := 709) dL_law_709 rfl ?_
        refine za_iconst (pc := 710) (1) dL_law_710 (by decide) ?_
        refine za_iadd (pc := 711) dL_law_711 ?_
        refine za_sld (pc := 712) dL_law_712 hv1 ?_
        refine za_i2l (pc := 713) dL_law_713 ?_
        refine za_bipush (pc := 714) (32) dL_law_714 (by decide) ?_
        refine za_lshl (pc := 716) dL_law_716 ?_
        refine za_aload_n (pc := 717) dL_law_717 rfl ?_
        refine za_iload_n (pc := 718) dL_law_718 rfl ?_
        refine za_iconst (pc := 719) (2) dL_law_719 (by decide) ?_
        refine za_iadd (pc := 720) dL_law_720 ?_
        refine za_sld (pc := 721) dL_law_721 hv2 ?_
        refine za_i2l (pc := 722) dL_law_722 ?_
        refine za_ldc2_w (pc := 723) (4294967295) dL_law_723 k_law_92 ?_
        refine za_land (pc := 726) dL_law_726 ?_
        refine za_lor (pc := 727) dL_law_727 ?_
        refine za_cV1i (pc := 728) (μ' := mX7_check) dL_law_728 c__law_98 rfl rfl rfl ⟨rfl, rfl⟩ ⟨rfl, rfl⟩ rfl rfl rfl (m_check ho t_704 hM1) (fun x_728 t_728 h_728 => ?_)
        obtain ⟨rfl, hM2, e2⟩ := h_728
        refine za_icmp_eq (pc := 731) 759 dL_law_731 (by decide) (fun _ => ?_) (fun q => absurd rfl q)
        exact next _ _ v1 hv1' (XI_47 hX1 e2) hM2 (ho)
      · refine za_tableIn (pc := 33) (off := 703) 736 dL_law_33 (by decide) (by decide) (by decide) (by decide) ?_
        refine za_aload_n (pc := 736) dL_law_736 rfl ?_
        refine za_aload_n (pc := 737) dL_law_737 rfl ?_
        refine za_iload_n (pc := 738) dL_law_738 rfl ?_
        refine za_iconst (pc := 739) (1) dL_law_739 (by decide) ?_
        refine za_iadd (pc := 740) dL_law_740 ?_
        refine za_sld (pc := 741) dL_law_741 hv1 ?_
        refine za_cV1i (pc := 742) (μ' := mX6_count) dL_law_742 c__law_99 rfl rfl rfl ⟨rfl, rfl⟩ ⟨rfl, rfl⟩ rfl rfl rfl (x_count ho σ v hX (by omega)) (fun x_742 t_742 h_742 => ?_)
        obtain ⟨rfl, ⟨v1, hv1', hX1⟩, e1⟩ := h_742
        have hM1 := MI_47 hM e1
        refine za_aload_n (pc := 745) dL_law_745 rfl ?_
        refine za_aload_n (pc := 746) dL_law_746 rfl ?_
        refine za_iload_n (pc := 747) dL_law_747 rfl ?_
        refine za_iconst (pc := 748) (1) dL_law_748 (by decide) ?_
        refine za_iadd (pc := 749) dL_law_749 ?_
        refine za_sld (pc := 750) dL_law_750 hv1 ?_
        refine za_cV1i (pc := 751) (μ' := mX7_count) dL_law_751 c__law_102 rfl rfl rfl ⟨rfl, rfl⟩ ⟨rfl, rfl⟩ rfl rfl rfl (m_count ho t_742 hM1) (fun x_751 t_751 h_751 => ?_)
        obtain ⟨rfl, hM2, e2⟩ := h_751
        refine za_icmp_eq (pc := 754) 759 dL_law_754 (by decide) (fun _ => ?_) (fun q => absurd rfl q)
        exact next _ _ v1 hv1' (XI_47 hX1 e2) hM2 (ho)
    · refine za_tableOut (pc := 33) 759 dL_law_33 (Or.inr (by rw [nI_toInt (by omega)]; omega)) (by decide) ?_
      exact next σ a v (by omega) hX hM ho
theorem law_walk {L : Nat} {xs : Nat → Int32} {σ : zSt} (hL : L ≤ 3072) : zA lawZ mL_law (some (L, xs)) 0 0 0 [some (.ref 999), none, none, none] [] [] σ := by
  refine za_new (pc := 0) (ci := 6) (N9 := 0) (S' := [.inr (.inr (6, [some none, some none, some none, some none, some none, some none]))]) dL_law_0 nw_law_7 rfl rfl rfl rfl rfl rfl rfl rfl ⟨rfl, rfl⟩ rfl ?_
  refine za_dup (pc := 3) dL_law_3 rfl ?_
  refine za_callI (pc := 4) (μ' := mX6_init) (b := 0) (As := []) (st := [.ref 0]) dL_law_4 c__law_9 rfl ⟨rfl, rfl⟩ rfl rfl rfl tX6_init (fun v_4 S_4 t_4 h_4 _ => ?_)
  obtain ⟨rfl, rfl, h_4⟩ := h_4
  show zA _ _ _ _ _ 7 _ [.ref 0] _ _
  refine za_as1n (pc := 7) dL_law_7 rfl ?_
  refine za_new (pc := 8) (ci := 7) (N9 := 47) (S' := [.inr (.inr (6, [some (some 1), some (some 2), some (some 10), some (some 15), some (some 22), some (some 32)])), .inr (.inl [some 35, some 37, some 39, some 41, some 43, some 45]), .inr (.inr (5, [some (some 3), some (some 4), some (some 5), some (some 6), some (some 7), none, none, none, some (some 8), some (some 9)])), .inl 10, .inl 11, .inl 11, .inl 11, .inl 10, .inl 20, .inl 20, .inr (.inr (2, [some (some 11), some (some 12), some (some 13), some (some 14), none, some (some 2), none])), .inl 10, .inl 10, .inl 10, .inl 10, .inr (.inr (1, [some (some 16), some (some 17), some (some 18), some (some 19), none, some (some 2), some (some 10), some (some 20), some (some 21), none])), .inl 10, .inl 10, .inl 11, .inl 11, .inl 11, .inl 10, .inr (.inr (0, [some (some 23), some (some 24), none, some (some 2), some (some 10), some (some 25), some (some 26), some (some 27), some (some 28), some (some 29), none, some (some 30), some (some 31), none])), .inl 61, .inl 10, .inl 55, .inl 55, .inl 55, .inl 55, .inl 55, .inl 1024, .inl 1024, .inr (.inr (3, [some (some 2), some (some 33), some (some 34), none])), .inl 10, .inl 10, .inr (.inr (4, [some (some 36), none, none])), .inl 16, .inr (.inr (4, [some (some 38), none, none])), .inl 16, .inr (.inr (4, [some (some 40), none, none])), .inl 16, .inr (.inr (4, [some (some 42), none, none])), .inl 16, .inr (.inr (4, [some (some 44), none, none])), .inl 16, .inr (.inr (4, [some (some 46), none, none])), .inl 16, .inr (.inr (7, [some none, some none, some none, none, some none, some none, some none, some none, some none, none, some none, none, some none, some none, none, some none, some none, some none, some none, none, some none, some none, some none, some none, some none, none, none, none]))]) dL_law_8 nw_law_10 rfl rfl rfl rfl rfl rfl rfl rfl ⟨rfl, rfl⟩ rfl ?_
  refine za_dup (pc := 11) dL_law_11 rfl ?_
  refine za_callI (pc := 12) (μ' := mX7_init) (b := 47) (As := []) (st := [.ref 47]) dL_law_12 c__law_12 rfl ⟨rfl, rfl⟩ rfl rfl rfl (tX7_init (fun i => by rw [zrow_s])) (fun v_12 S_12 t_12 h_12 _ => ?_)
  obtain ⟨rfl, rfl, h_12⟩ := h_12
  show zA _ _ _ _ _ 15 _ [.ref 47] _ _
  refine za_as2n (pc := 15) dL_law_15 rfl ?_
  refine za_iconst (pc := 16) (0) dL_law_16 (by decide) ?_
  refine za_is3n (pc := 17) dL_law_17 rfl ?_
  have hX : XI t_12 ab0 0 := XI_47 (xi0 h_4) (fun d hd => by rw [h_12.2.2.2.2.2.2 d hd, zrow_n (by omega)])
  exact law_loop hL 512 0 0 0 t_12 ab0 rfl (by omega) (by omega) (Nat.le_refl 0) hX (mi0 h_12) ok0
