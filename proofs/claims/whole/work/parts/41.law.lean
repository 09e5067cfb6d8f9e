/-! the law: its cases, its loop -/
theorem stT_hi {σ : Mm} {T : Nat → Mm} {c : Nat} (h : 49 ≤ c) : stT σ 0 T c = σ c := by
  unfold stT
  rw [if_neg (by omega), if_neg (by omega), if_neg (by omega), if_neg (by omega), if_neg (by omega), if_neg (by omega), if_neg (by omega), if_neg (by omega), if_neg (by omega), if_neg (by omega), if_neg (by omega)]
theorem stT_lo {σ σ' : Mm} {T : Nat → Mm} {c : Nat} (h : c < 49) : stT σ 0 T c = stT σ' 0 T c := by
  unfold stT
  rw [if_neg (Nat.not_lt_zero c), if_neg (Nat.not_lt_zero c)]
  by_cases h0 : c < 0 + 1
  · exact (if_pos h0).trans (if_pos h0).symm
  rw [if_neg h0, if_neg h0]
  by_cases h1 : c < 0 + 7
  · exact (if_pos h1).trans (if_pos h1).symm
  rw [if_neg h1, if_neg h1]
  by_cases h2 : c < 0 + 13
  · exact (if_pos h2).trans (if_pos h2).symm
  rw [if_neg h2, if_neg h2]
  by_cases h3 : c < 0 + 19
  · exact (if_pos h3).trans (if_pos h3).symm
  rw [if_neg h3, if_neg h3]
  by_cases h4 : c < 0 + 21
  · exact (if_pos h4).trans (if_pos h4).symm
  rw [if_neg h4, if_neg h4]
  by_cases h5 : c < 0 + 27
  · exact (if_pos h5).trans (if_pos h5).symm
  rw [if_neg h5, if_neg h5]
  by_cases h6 : c < 0 + 33
  · exact (if_pos h6).trans (if_pos h6).symm
  rw [if_neg h6, if_neg h6]
  by_cases h7 : c < 0 + 39
  · exact (if_pos h7).trans (if_pos h7).symm
  rw [if_neg h7, if_neg h7]
  by_cases h8 : c < 0 + 45
  · exact (if_pos h8).trans (if_pos h8).symm
  rw [if_neg h8, if_neg h8]
  have h9 : c < 0 + 49 := by omega
  exact (if_pos h9).trans (if_pos h9).symm
theorem tz_swap {σ Z : Mm} {T : Nat → Mm} : st 10 (stT σ 0 T) 49 Z = stT (st 10 σ 49 Z) 0 T := by
  funext c
  by_cases h : c < 49
  · rw [st_out (by omega)]
    exact stT_lo h
  · rw [stT_hi (by omega)]
    unfold st
    by_cases h2 : 49 ≤ c ∧ c < 49 + 10
    · rw [if_pos h2, if_pos h2]
    · rw [if_neg h2, if_neg h2, stT_hi (by omega)]
theorem lw_fl01 {fl a : Int32} (h : fl = if a = 0 then 0 else 1) : fl = 0 ∨ fl = 1 := by
  by_cases c : a = 0
  · rw [if_pos c] at h; exact Or.inl h
  · rw [if_neg c] at h; exact Or.inr h
section
variable {p : Program} {l : Launch} {e : Env} {R : Room} {s : State} {m : MethodId} {args : Array Value} {below : List Frame} {meth : Method} {c : Code} {H : Heap} {locs : List Loc} {ls : Array Slot} {Q : State → Prop} {cells slots : Nat}
theorem lw_flag {cc : ByteArray} {pc : Nat} {rest : List Value} {x fl : Int32} (hx : p.tables.exec = Jvm.exec) (hb : c.code = cc) (d1 : decode cc pc = .ok (.ifCond .eq 7, 3)) (d2 : decode cc (pc + 3) = .ok (.iconst 1, 1)) (d3 : decode cc (pc + 4) = .ok (.goto 4, 3)) (d4 : decode cc (pc + 7) = .ok (.iconst 0, 1)) (hfl : fl = if x = 0 then 0 else 1)
    (k : W p l e R s m args below meth c H locs cells slots Q (F0 m (pc + 8) ls (.int fl :: rest))) : W p l e R s m args below meth c H locs cells slots Q (F0 m pc ls (.int x :: rest)) := by
  refine lv_if_eq (tgt := pc + 7) hx hb d1 (by omega) (fun c => ?_) (fun c => ?_)
  · rw [if_pos c] at hfl
    subst hfl
    exact lv_iconst (v := 0) hx hb d4 (by decide) k
  · rw [if_neg c] at hfl
    subst hfl
    refine lv_iconst (v := 1) hx hb d2 (by decide) ?_
    exact lv_goto (tgt := pc + 8) hx hb d3 (by omega) k
set_option maxHeartbeats 4000000 in
set_option maxRecDepth 10000 in
theorem law_lay {γ : Ev} {σ : Mm} {b L : Nat} {xs : Nat → Int32} {n : Nat} {T : Nat → Mm} {Z : Mm} {x x1 x2 x3 a1 a2 a3 : Int32} (C0 : Cx p R s m args meth c RL cL_law 4 (some .boolean) 1500 50000 γ) (hcs : cells ≤ R.cells ∧ slots ≤ R.slots) (hB4 : isX4 γ 0) (hB5 : isX5 γ 49) (hX : va_X b L xs s s.heap) (hbl : b < s.heap.size) (hbA : ¬ AK γ b) (h : Inv n T Z) (hn : n < 512) (hx1 : x + 1 = x1) (hx2 : x + 2 = x2) (hx3 : x + 3 = x3) (hi1 : vp_in x1 L) (hi2 : vp_in x2 L) (hi3 : vp_in x3 L) (ha1 : xs x1.toNatClampNeg = a1) (ha2 : xs x2.toNatClampNeg = a2) (ha3 : xs x3.toNatClampNeg = a3) (hw : Wo γ (stT (st 10 σ 49 Z) 0 T) s H locs) (hl : lv_has ls 4 [(0, .ref b), (1, .ref (eA γ 0)), (2, .ref (eA γ 49)), (3, .int x)])
    (kk : ∀ {T : Nat → Mm} {Z : Mm} {H : Heap} {locs : List Loc}, Inv (n + 1) T Z → Wo γ (stT (st 10 σ 49 Z) 0 T) s H locs → lv_has ls 4 [(0, .ref b), (1, .ref (eA γ 0)), (2, .ref (eA γ 49)), (3, .int x)] → W p l e R s m args below meth c H locs cells slots Q (F0 m 727 ls [])) : W p l e R s m args below meth c H locs cells slots Q (F0 m 140 ls []) := by
  obtain ⟨hx, hb, hr, hml, hown, hts, hlk, hK, hd, hF, hL⟩ := id C0
  obtain ⟨r, T', Z', hq1, hq2, hq3⟩ := inv_lay h hn a1 a2
  refine lv_aload_n hx hb dL_law_140 rfl (lv_at hl 1 rfl) ?_
  refine lv_aload_n hx hb dL_law_141 rfl (lv_at hl 0 rfl) ?_
  refine lv_iload_n hx hb dL_law_142 rfl (lv_at hl 3 rfl) ?_
  refine lv_iconst (v := (1 : Int32)) hx hb dL_law_143 (by decide) ?_
  refine lv_iadd hx hb dL_law_144 ?_
  refine r_top hx1 ?_
  refine va_sld hx hb hX hbl hbA hw.2 hi1 dL_law_145 ?_
  refine r_top ha1 ?_
  refine lv_aload_n hx hb dL_law_146 rfl (lv_at hl 0 rfl) ?_
  refine lv_iload_n hx hb dL_law_147 rfl (lv_at hl 3 rfl) ?_
  refine lv_iconst (v := (2 : Int32)) hx hb dL_law_148 (by decide) ?_
  refine lv_iadd hx hb dL_law_149 ?_
  refine r_top hx2 ?_
  refine va_sld hx hb hX hbl hbA hw.2 hi2 dL_law_150 ?_
  refine r_top ha2 ?_
  refine r_Vi (rest := []) C0 hcs (c_X4_lay (γ := γ) (o := 0) hB4 hq1) lk_L_13 (X4_k0 hB4) rfl rfl hl.1 rfl (Nat.le_of_ble_eq_true rfl) (by decide) hw dL_law_151 (fun {H} {locs} hw => ?_)
  refine lv_aload_n hx hb dL_law_154 rfl (lv_at hl 2 rfl) ?_
  refine lv_aload_n hx hb dL_law_155 rfl (lv_at hl 0 rfl) ?_
  refine lv_iload_n hx hb dL_law_156 rfl (lv_at hl 3 rfl) ?_
  refine lv_iconst (v := (1 : Int32)) hx hb dL_law_157 (by decide) ?_
  refine lv_iadd hx hb dL_law_158 ?_
  refine r_top hx1 ?_
  refine va_sld hx hb hX hbl hbA hw.2 hi1 dL_law_159 ?_
  refine r_top ha1 ?_
  refine lv_aload_n hx hb dL_law_160 rfl (lv_at hl 0 rfl) ?_
  refine lv_iload_n hx hb dL_law_161 rfl (lv_at hl 3 rfl) ?_
  refine lv_iconst (v := (2 : Int32)) hx hb dL_law_162 (by decide) ?_
  refine lv_iadd hx hb dL_law_163 ?_
  refine r_top hx2 ?_
  refine va_sld hx hb hX hbl hbA hw.2 hi2 dL_law_164 ?_
  refine r_top ha2 ?_
  replace hw := Wo.cg tz_swap.symm hw
  refine r_Vi (rest := [.int r]) C0 hcs (c_X5_lay (γ := γ) (o := 49) hB5 hq2) lk_L_17 (X5_k0 hB5) rfl rfl hl.1 rfl (Nat.le_of_ble_eq_true rfl) (by decide) hw dL_law_165 (fun {H} {locs} hw => ?_)
  replace hw := Wo.cg tz_swap hw
  refine lv_icmp_eq (tgt := 727) hx hb dL_law_168 (by decide) (fun _ => ?_) (fun c => absurd rfl c)
  exact kk hq3 hw hl
set_option maxHeartbeats 4000000 in
set_option maxRecDepth 10000 in
theorem law_push {γ : Ev} {σ : Mm} {b L : Nat} {xs : Nat → Int32} {n : Nat} {T : Nat → Mm} {Z : Mm} {x x1 x2 x3 a1 a2 a3 fl : Int32} (C0 : Cx p R s m args meth c RL cL_law 4 (some .boolean) 1500 50000 γ) (hcs : cells ≤ R.cells ∧ slots ≤ R.slots) (hB4 : isX4 γ 0) (hB5 : isX5 γ 49) (hX : va_X b L xs s s.heap) (hbl : b < s.heap.size) (hbA : ¬ AK γ b) (h : Inv n T Z) (hn : n < 512) (hx1 : x + 1 = x1) (hx2 : x + 2 = x2) (hx3 : x + 3 = x3) (hi1 : vp_in x1 L) (hi2 : vp_in x2 L) (hi3 : vp_in x3 L) (ha1 : xs x1.toNatClampNeg = a1) (ha2 : xs x2.toNatClampNeg = a2) (ha3 : xs x3.toNatClampNeg = a3) (hfl : fl = if a2 = 0 then 0 else 1) (hw : Wo γ (stT (st 10 σ 49 Z) 0 T) s H locs) (hl : lv_has ls 4 [(0, .ref b), (1, .ref (eA γ 0)), (2, .ref (eA γ 49)), (3, .int x)])
    (kk : ∀ {T : Nat → Mm} {Z : Mm} {H : Heap} {locs : List Loc}, Inv (n + 1) T Z → Wo γ (stT (st 10 σ 49 Z) 0 T) s H locs → lv_has ls 4 [(0, .ref b), (1, .ref (eA γ 0)), (2, .ref (eA γ 49)), (3, .int x)] → W p l e R s m args below meth c H locs cells slots Q (F0 m 727 ls [])) : W p l e R s m args below meth c H locs cells slots Q (F0 m 173 ls []) := by
  obtain ⟨hx, hb, hr, hml, hown, hts, hlk, hK, hd, hF, hL⟩ := id C0
  obtain ⟨r, T', Z', hq1, hq2, hq3⟩ := inv_push h hn a1 fl (lw_fl01 hfl)
  refine lv_aload_n hx hb dL_law_173 rfl (lv_at hl 1 rfl) ?_
  refine lv_aload_n hx hb dL_law_174 rfl (lv_at hl 0 rfl) ?_
  refine lv_iload_n hx hb dL_law_175 rfl (lv_at hl 3 rfl) ?_
  refine lv_iconst (v := (1 : Int32)) hx hb dL_law_176 (by decide) ?_
  refine lv_iadd hx hb dL_law_177 ?_
  refine r_top hx1 ?_
  refine va_sld hx hb hX hbl hbA hw.2 hi1 dL_law_178 ?_
  refine r_top ha1 ?_
  refine lv_aload_n hx hb dL_law_179 rfl (lv_at hl 0 rfl) ?_
  refine lv_iload_n hx hb dL_law_180 rfl (lv_at hl 3 rfl) ?_
  refine lv_iconst (v := (2 : Int32)) hx hb dL_law_181 (by decide) ?_
  refine lv_iadd hx hb dL_law_182 ?_
  refine r_top hx2 ?_
  refine va_sld hx hb hX hbl hbA hw.2 hi2 dL_law_183 ?_
  refine r_top ha2 ?_
  refine lw_flag (x := a2) hx hb dL_law_184 dL_law_187 dL_law_188 dL_law_191 hfl ?_
  refine r_Vi (rest := []) C0 hcs (c_X4_push (γ := γ) (o := 0) hB4 hq1) lk_L_18 (X4_k0 hB4) rfl rfl hl.1 rfl (Nat.le_of_ble_eq_true rfl) (by decide) hw dL_law_192 (fun {H} {locs} hw => ?_)
  refine lv_aload_n hx hb dL_law_195 rfl (lv_at hl 2 rfl) ?_
  refine lv_aload_n hx hb dL_law_196 rfl (lv_at hl 0 rfl) ?_
  refine lv_iload_n hx hb dL_law_197 rfl (lv_at hl 3 rfl) ?_
  refine lv_iconst (v := (1 : Int32)) hx hb dL_law_198 (by decide) ?_
  refine lv_iadd hx hb dL_law_199 ?_
  refine r_top hx1 ?_
  refine va_sld hx hb hX hbl hbA hw.2 hi1 dL_law_200 ?_
  refine r_top ha1 ?_
  refine lv_aload_n hx hb dL_law_201 rfl (lv_at hl 0 rfl) ?_
  refine lv_iload_n hx hb dL_law_202 rfl (lv_at hl 3 rfl) ?_
  refine lv_iconst (v := (2 : Int32)) hx hb dL_law_203 (by decide) ?_
  refine lv_iadd hx hb dL_law_204 ?_
  refine r_top hx2 ?_
  refine va_sld hx hb hX hbl hbA hw.2 hi2 dL_law_205 ?_
  refine r_top ha2 ?_
  refine lw_flag (x := a2) hx hb dL_law_206 dL_law_209 dL_law_210 dL_law_213 hfl ?_
  replace hw := Wo.cg tz_swap.symm hw
  refine r_Vi (rest := [.int r]) C0 hcs (c_X5_push (γ := γ) (o := 49) hB5 hq2) lk_L_22 (X5_k0 hB5) rfl rfl hl.1 rfl (Nat.le_of_ble_eq_true rfl) (by decide) hw dL_law_214 (fun {H} {locs} hw => ?_)
  replace hw := Wo.cg tz_swap hw
  refine lv_icmp_eq (tgt := 727) hx hb dL_law_217 (by decide) (fun _ => ?_) (fun c => absurd rfl c)
  exact kk hq3 hw hl
set_option maxHeartbeats 4000000 in
set_option maxRecDepth 10000 in
theorem law_play {γ : Ev} {σ : Mm} {b L : Nat} {xs : Nat → Int32} {n : Nat} {T : Nat → Mm} {Z : Mm} {x x1 x2 x3 a1 a2 a3 : Int32} (C0 : Cx p R s m args meth c RL cL_law 4 (some .boolean) 1500 50000 γ) (hcs : cells ≤ R.cells ∧ slots ≤ R.slots) (hB4 : isX4 γ 0) (hB5 : isX5 γ 49) (hX : va_X b L xs s s.heap) (hbl : b < s.heap.size) (hbA : ¬ AK γ b) (h : Inv n T Z) (hn : n < 512) (hx1 : x + 1 = x1) (hx2 : x + 2 = x2) (hx3 : x + 3 = x3) (hi1 : vp_in x1 L) (hi2 : vp_in x2 L) (hi3 : vp_in x3 L) (ha1 : xs x1.toNatClampNeg = a1) (ha2 : xs x2.toNatClampNeg = a2) (ha3 : xs x3.toNatClampNeg = a3) (hw : Wo γ (stT (st 10 σ 49 Z) 0 T) s H locs) (hl : lv_has ls 4 [(0, .ref b), (1, .ref (eA γ 0)), (2, .ref (eA γ 49)), (3, .int x)])
    (kk : ∀ {T : Nat → Mm} {Z : Mm} {H : Heap} {locs : List Loc}, Inv (n + 1) T Z → Wo γ (stT (st 10 σ 49 Z) 0 T) s H locs → lv_has ls 4 [(0, .ref b), (1, .ref (eA γ 0)), (2, .ref (eA γ 49)), (3, .int x)] → W p l e R s m args below meth c H locs cells slots Q (F0 m 727 ls [])) : W p l e R s m args below meth c H locs cells slots Q (F0 m 222 ls []) := by
  obtain ⟨hx, hb, hr, hml, hown, hts, hlk, hK, hd, hF, hL⟩ := id C0
  obtain ⟨r, T', Z', hq1, hq2, hq3⟩ := inv_play h hn a1
  refine lv_aload_n hx hb dL_law_222 rfl (lv_at hl 1 rfl) ?_
  refine lv_aload_n hx hb dL_law_223 rfl (lv_at hl 0 rfl) ?_
  refine lv_iload_n hx hb dL_law_224 rfl (lv_at hl 3 rfl) ?_
  refine lv_iconst (v := (1 : Int32)) hx hb dL_law_225 (by decide) ?_
  refine lv_iadd hx hb dL_law_226 ?_
  refine r_top hx1 ?_
  refine va_sld hx hb hX hbl hbA hw.2 hi1 dL_law_227 ?_
  refine r_top ha1 ?_
  refine r_Vi (rest := []) C0 hcs (c_X4_play (γ := γ) (o := 0) hB4 hq1) lk_L_23 (X4_k0 hB4) rfl rfl hl.1 rfl (Nat.le_of_ble_eq_true rfl) (by decide) hw dL_law_228 (fun {H} {locs} hw => ?_)
  refine lv_aload_n hx hb dL_law_231 rfl (lv_at hl 2 rfl) ?_
  refine lv_aload_n hx hb dL_law_232 rfl (lv_at hl 0 rfl) ?_
  refine lv_iload_n hx hb dL_law_233 rfl (lv_at hl 3 rfl) ?_
  refine lv_iconst (v := (1 : Int32)) hx hb dL_law_234 (by decide) ?_
  refine lv_iadd hx hb dL_law_235 ?_
  refine r_top hx1 ?_
  refine va_sld hx hb hX hbl hbA hw.2 hi1 dL_law_236 ?_
  refine r_top ha1 ?_
  replace hw := Wo.cg tz_swap.symm hw
  refine r_Vi (rest := [.int r]) C0 hcs (c_X5_play (γ := γ) (o := 49) hB5 hq2) lk_L_27 (X5_k0 hB5) rfl rfl hl.1 rfl (Nat.le_of_ble_eq_true rfl) (by decide) hw dL_law_237 (fun {H} {locs} hw => ?_)
  replace hw := Wo.cg tz_swap hw
  refine lv_icmp_eq (tgt := 727) hx hb dL_law_240 (by decide) (fun _ => ?_) (fun c => absurd rfl c)
  exact kk hq3 hw hl
set_option maxHeartbeats 4000000 in
set_option maxRecDepth 10000 in
theorem law_setBag {γ : Ev} {σ : Mm} {b L : Nat} {xs : Nat → Int32} {n : Nat} {T : Nat → Mm} {Z : Mm} {x x1 x2 x3 a1 a2 a3 : Int32} (C0 : Cx p R s m args meth c RL cL_law 4 (some .boolean) 1500 50000 γ) (hcs : cells ≤ R.cells ∧ slots ≤ R.slots) (hB4 : isX4 γ 0) (hB5 : isX5 γ 49) (hX : va_X b L xs s s.heap) (hbl : b < s.heap.size) (hbA : ¬ AK γ b) (h : Inv n T Z) (hn : n < 512) (hx1 : x + 1 = x1) (hx2 : x + 2 = x2) (hx3 : x + 3 = x3) (hi1 : vp_in x1 L) (hi2 : vp_in x2 L) (hi3 : vp_in x3 L) (ha1 : xs x1.toNatClampNeg = a1) (ha2 : xs x2.toNatClampNeg = a2) (ha3 : xs x3.toNatClampNeg = a3) (hw : Wo γ (stT (st 10 σ 49 Z) 0 T) s H locs) (hl : lv_has ls 4 [(0, .ref b), (1, .ref (eA γ 0)), (2, .ref (eA γ 49)), (3, .int x)])
    (kk : ∀ {T : Nat → Mm} {Z : Mm} {H : Heap} {locs : List Loc}, Inv (n + 1) T Z → Wo γ (stT (st 10 σ 49 Z) 0 T) s H locs → lv_has ls 4 [(0, .ref b), (1, .ref (eA γ 0)), (2, .ref (eA γ 49)), (3, .int x)] → W p l e R s m args below meth c H locs cells slots Q (F0 m 727 ls [])) : W p l e R s m args below meth c H locs cells slots Q (F0 m 245 ls []) := by
  obtain ⟨hx, hb, hr, hml, hown, hts, hlk, hK, hd, hF, hL⟩ := id C0
  obtain ⟨r, T', Z', hq1, hq2, hq3⟩ := inv_setBag h hn a1 a2 a3
  refine lv_aload_n hx hb dL_law_245 rfl (lv_at hl 1 rfl) ?_
  refine lv_aload_n hx hb dL_law_246 rfl (lv_at hl 0 rfl) ?_
  refine lv_iload_n hx hb dL_law_247 rfl (lv_at hl 3 rfl) ?_
  refine lv_iconst (v := (1 : Int32)) hx hb dL_law_248 (by decide) ?_
  refine lv_iadd hx hb dL_law_249 ?_
  refine r_top hx1 ?_
  refine va_sld hx hb hX hbl hbA hw.2 hi1 dL_law_250 ?_
  refine r_top ha1 ?_
  refine lv_aload_n hx hb dL_law_251 rfl (lv_at hl 0 rfl) ?_
  refine lv_iload_n hx hb dL_law_252 rfl (lv_at hl 3 rfl) ?_
  refine lv_iconst (v := (2 : Int32)) hx hb dL_law_253 (by decide) ?_
  refine lv_iadd hx hb dL_law_254 ?_
  refine r_top hx2 ?_
  refine va_sld hx hb hX hbl hbA hw.2 hi2 dL_law_255 ?_
  refine r_top ha2 ?_
  refine lv_aload_n hx hb dL_law_256 rfl (lv_at hl 0 rfl) ?_
  refine lv_iload_n hx hb dL_law_257 rfl (lv_at hl 3 rfl) ?_
  refine lv_iconst (v := (3 : Int32)) hx hb dL_law_258 (by decide) ?_
  refine lv_iadd hx hb dL_law_259 ?_
  refine r_top hx3 ?_
  refine va_sld hx hb hX hbl hbA hw.2 hi3 dL_law_260 ?_
  refine r_top ha3 ?_
  refine r_Vi (rest := []) C0 hcs (c_X4_setBag (γ := γ) (o := 0) hB4 hq1) lk_L_28 (X4_k0 hB4) rfl rfl hl.1 rfl (Nat.le_of_ble_eq_true rfl) (by decide) hw dL_law_261 (fun {H} {locs} hw => ?_)
  refine lv_aload_n hx hb dL_law_264 rfl (lv_at hl 2 rfl) ?_
  refine lv_aload_n hx hb dL_law_265 rfl (lv_at hl 0 rfl) ?_
  refine lv_iload_n hx hb dL_law_266 rfl (lv_at hl 3 rfl) ?_
  refine lv_iconst (v := (1 : Int32)) hx hb dL_law_267 (by decide) ?_
  refine lv_iadd hx hb dL_law_268 ?_
  refine r_top hx1 ?_
  refine va_sld hx hb hX hbl hbA hw.2 hi1 dL_law_269 ?_
  refine r_top ha1 ?_
  refine lv_aload_n hx hb dL_law_270 rfl (lv_at hl 0 rfl) ?_
  refine lv_iload_n hx hb dL_law_271 rfl (lv_at hl 3 rfl) ?_
  refine lv_iconst (v := (2 : Int32)) hx hb dL_law_272 (by decide) ?_
  refine lv_iadd hx hb dL_law_273 ?_
  refine r_top hx2 ?_
  refine va_sld hx hb hX hbl hbA hw.2 hi2 dL_law_274 ?_
  refine r_top ha2 ?_
  refine lv_aload_n hx hb dL_law_275 rfl (lv_at hl 0 rfl) ?_
  refine lv_iload_n hx hb dL_law_276 rfl (lv_at hl 3 rfl) ?_
  refine lv_iconst (v := (3 : Int32)) hx hb dL_law_277 (by decide) ?_
  refine lv_iadd hx hb dL_law_278 ?_
  refine r_top hx3 ?_
  refine va_sld hx hb hX hbl hbA hw.2 hi3 dL_law_279 ?_
  refine r_top ha3 ?_
  replace hw := Wo.cg tz_swap.symm hw
  refine r_Vi (rest := [.int r]) C0 hcs (c_X5_setBag (γ := γ) (o := 49) hB5 hq2) lk_L_32 (X5_k0 hB5) rfl rfl hl.1 rfl (Nat.le_of_ble_eq_true rfl) (by decide) hw dL_law_280 (fun {H} {locs} hw => ?_)
  replace hw := Wo.cg tz_swap hw
  refine lv_icmp_eq (tgt := 727) hx hb dL_law_283 (by decide) (fun _ => ?_) (fun c => absurd rfl c)
  exact kk hq3 hw hl
set_option maxHeartbeats 4000000 in
set_option maxRecDepth 10000 in
theorem law_set {γ : Ev} {σ : Mm} {b L : Nat} {xs : Nat → Int32} {n : Nat} {T : Nat → Mm} {Z : Mm} {x x1 x2 x3 a1 a2 a3 : Int32} (C0 : Cx p R s m args meth c RL cL_law 4 (some .boolean) 1500 50000 γ) (hcs : cells ≤ R.cells ∧ slots ≤ R.slots) (hB4 : isX4 γ 0) (hB5 : isX5 γ 49) (hX : va_X b L xs s s.heap) (hbl : b < s.heap.size) (hbA : ¬ AK γ b) (h : Inv n T Z) (hn : n < 512) (hx1 : x + 1 = x1) (hx2 : x + 2 = x2) (hx3 : x + 3 = x3) (hi1 : vp_in x1 L) (hi2 : vp_in x2 L) (hi3 : vp_in x3 L) (ha1 : xs x1.toNatClampNeg = a1) (ha2 : xs x2.toNatClampNeg = a2) (ha3 : xs x3.toNatClampNeg = a3) (hw : Wo γ (stT (st 10 σ 49 Z) 0 T) s H locs) (hl : lv_has ls 4 [(0, .ref b), (1, .ref (eA γ 0)), (2, .ref (eA γ 49)), (3, .int x)])
    (kk : ∀ {T : Nat → Mm} {Z : Mm} {H : Heap} {locs : List Loc}, Inv (n + 1) T Z → Wo γ (stT (st 10 σ 49 Z) 0 T) s H locs → lv_has ls 4 [(0, .ref b), (1, .ref (eA γ 0)), (2, .ref (eA γ 49)), (3, .int x)] → W p l e R s m args below meth c H locs cells slots Q (F0 m 727 ls [])) : W p l e R s m args below meth c H locs cells slots Q (F0 m 288 ls []) := by
  obtain ⟨hx, hb, hr, hml, hown, hts, hlk, hK, hd, hF, hL⟩ := id C0
  obtain ⟨r, T', Z', hq1, hq2, hq3⟩ := inv_set h hn a1 a2
  refine lv_aload_n hx hb dL_law_288 rfl (lv_at hl 1 rfl) ?_
  refine lv_aload_n hx hb dL_law_289 rfl (lv_at hl 0 rfl) ?_
  refine lv_iload_n hx hb dL_law_290 rfl (lv_at hl 3 rfl) ?_
  refine lv_iconst (v := (1 : Int32)) hx hb dL_law_291 (by decide) ?_
  refine lv_iadd hx hb dL_law_292 ?_
  refine r_top hx1 ?_
  refine va_sld hx hb hX hbl hbA hw.2 hi1 dL_law_293 ?_
  refine r_top ha1 ?_
  refine lv_aload_n hx hb dL_law_294 rfl (lv_at hl 0 rfl) ?_
  refine lv_iload_n hx hb dL_law_295 rfl (lv_at hl 3 rfl) ?_
  refine lv_iconst (v := (2 : Int32)) hx hb dL_law_296 (by decide) ?_
  refine lv_iadd hx hb dL_law_297 ?_
  refine r_top hx2 ?_
  refine va_sld hx hb hX hbl hbA hw.2 hi2 dL_law_298 ?_
  refine r_top ha2 ?_
  refine r_Vi (rest := []) C0 hcs (c_X4_set (γ := γ) (o := 0) hB4 hq1) lk_L_33 (X4_k0 hB4) rfl rfl hl.1 rfl (Nat.le_of_ble_eq_true rfl) (by decide) hw dL_law_299 (fun {H} {locs} hw => ?_)
  refine lv_aload_n hx hb dL_law_302 rfl (lv_at hl 2 rfl) ?_
  refine lv_aload_n hx hb dL_law_303 rfl (lv_at hl 0 rfl) ?_
  refine lv_iload_n hx hb dL_law_304 rfl (lv_at hl 3 rfl) ?_
  refine lv_iconst (v := (1 : Int32)) hx hb dL_law_305 (by decide) ?_
  refine lv_iadd hx hb dL_law_306 ?_
  refine r_top hx1 ?_
  refine va_sld hx hb hX hbl hbA hw.2 hi1 dL_law_307 ?_
  refine r_top ha1 ?_
  refine lv_aload_n hx hb dL_law_308 rfl (lv_at hl 0 rfl) ?_
  refine lv_iload_n hx hb dL_law_309 rfl (lv_at hl 3 rfl) ?_
  refine lv_iconst (v := (2 : Int32)) hx hb dL_law_310 (by decide) ?_
  refine lv_iadd hx hb dL_law_311 ?_
  refine r_top hx2 ?_
  refine va_sld hx hb hX hbl hbA hw.2 hi2 dL_law_312 ?_
  refine r_top ha2 ?_
  replace hw := Wo.cg tz_swap.symm hw
  refine r_Vi (rest := [.int r]) C0 hcs (c_X5_set (γ := γ) (o := 49) hB5 hq2) lk_L_36 (X5_k0 hB5) rfl rfl hl.1 rfl (Nat.le_of_ble_eq_true rfl) (by decide) hw dL_law_313 (fun {H} {locs} hw => ?_)
  replace hw := Wo.cg tz_swap hw
  refine lv_icmp_eq (tgt := 727) hx hb dL_law_316 (by decide) (fun _ => ?_) (fun c => absurd rfl c)
  exact kk hq3 hw hl
set_option maxHeartbeats 4000000 in
set_option maxRecDepth 10000 in
theorem law_setUp {γ : Ev} {σ : Mm} {b L : Nat} {xs : Nat → Int32} {n : Nat} {T : Nat → Mm} {Z : Mm} {x x1 x2 x3 a1 a2 a3 : Int32} (C0 : Cx p R s m args meth c RL cL_law 4 (some .boolean) 1500 50000 γ) (hcs : cells ≤ R.cells ∧ slots ≤ R.slots) (hB4 : isX4 γ 0) (hB5 : isX5 γ 49) (hX : va_X b L xs s s.heap) (hbl : b < s.heap.size) (hbA : ¬ AK γ b) (h : Inv n T Z) (hn : n < 512) (hx1 : x + 1 = x1) (hx2 : x + 2 = x2) (hx3 : x + 3 = x3) (hi1 : vp_in x1 L) (hi2 : vp_in x2 L) (hi3 : vp_in x3 L) (ha1 : xs x1.toNatClampNeg = a1) (ha2 : xs x2.toNatClampNeg = a2) (ha3 : xs x3.toNatClampNeg = a3) (hw : Wo γ (stT (st 10 σ 49 Z) 0 T) s H locs) (hl : lv_has ls 4 [(0, .ref b), (1, .ref (eA γ 0)), (2, .ref (eA γ 49)), (3, .int x)])
    (kk : ∀ {T : Nat → Mm} {Z : Mm} {H : Heap} {locs : List Loc}, Inv (n + 1) T Z → Wo γ (stT (st 10 σ 49 Z) 0 T) s H locs → lv_has ls 4 [(0, .ref b), (1, .ref (eA γ 0)), (2, .ref (eA γ 49)), (3, .int x)] → W p l e R s m args below meth c H locs cells slots Q (F0 m 727 ls [])) : W p l e R s m args below meth c H locs cells slots Q (F0 m 321 ls []) := by
  obtain ⟨hx, hb, hr, hml, hown, hts, hlk, hK, hd, hF, hL⟩ := id C0
  obtain ⟨r, T', Z', hq1, hq2, hq3⟩ := inv_setUp h hn a1 a2
  refine lv_aload_n hx hb dL_law_321 rfl (lv_at hl 1 rfl) ?_
  refine lv_aload_n hx hb dL_law_322 rfl (lv_at hl 0 rfl) ?_
  refine lv_iload_n hx hb dL_law_323 rfl (lv_at hl 3 rfl) ?_
  refine lv_iconst (v := (1 : Int32)) hx hb dL_law_324 (by decide) ?_
  refine lv_iadd hx hb dL_law_325 ?_
  refine r_top hx1 ?_
  refine va_sld hx hb hX hbl hbA hw.2 hi1 dL_law_326 ?_
  refine r_top ha1 ?_
  refine lv_aload_n hx hb dL_law_327 rfl (lv_at hl 0 rfl) ?_
  refine lv_iload_n hx hb dL_law_328 rfl (lv_at hl 3 rfl) ?_
  refine lv_iconst (v := (2 : Int32)) hx hb dL_law_329 (by decide) ?_
  refine lv_iadd hx hb dL_law_330 ?_
  refine r_top hx2 ?_
  refine va_sld hx hb hX hbl hbA hw.2 hi2 dL_law_331 ?_
  refine r_top ha2 ?_
  refine r_Vi (rest := []) C0 hcs (c_X4_setUp (γ := γ) (o := 0) hB4 hq1) lk_L_37 (X4_k0 hB4) rfl rfl hl.1 rfl (Nat.le_of_ble_eq_true rfl) (by decide) hw dL_law_332 (fun {H} {locs} hw => ?_)
  refine lv_aload_n hx hb dL_law_335 rfl (lv_at hl 2 rfl) ?_
  refine lv_aload_n hx hb dL_law_336 rfl (lv_at hl 0 rfl) ?_
  refine lv_iload_n hx hb dL_law_337 rfl (lv_at hl 3 rfl) ?_
  refine lv_iconst (v := (1 : Int32)) hx hb dL_law_338 (by decide) ?_
  refine lv_iadd hx hb dL_law_339 ?_
  refine r_top hx1 ?_
  refine va_sld hx hb hX hbl hbA hw.2 hi1 dL_law_340 ?_
  refine r_top ha1 ?_
  refine lv_aload_n hx hb dL_law_341 rfl (lv_at hl 0 rfl) ?_
  refine lv_iload_n hx hb dL_law_342 rfl (lv_at hl 3 rfl) ?_
  refine lv_iconst (v := (2 : Int32)) hx hb dL_law_343 (by decide) ?_
  refine lv_iadd hx hb dL_law_344 ?_
  refine r_top hx2 ?_
  refine va_sld hx hb hX hbl hbA hw.2 hi2 dL_law_345 ?_
  refine r_top ha2 ?_
  replace hw := Wo.cg tz_swap.symm hw
  refine r_Vi (rest := [.int r]) C0 hcs (c_X5_setUp (γ := γ) (o := 49) hB5 hq2) lk_L_40 (X5_k0 hB5) rfl rfl hl.1 rfl (Nat.le_of_ble_eq_true rfl) (by decide) hw dL_law_346 (fun {H} {locs} hw => ?_)
  replace hw := Wo.cg tz_swap hw
  refine lv_icmp_eq (tgt := 727) hx hb dL_law_349 (by decide) (fun _ => ?_) (fun c => absurd rfl c)
  exact kk hq3 hw hl
set_option maxHeartbeats 4000000 in
set_option maxRecDepth 10000 in
theorem law_begin {γ : Ev} {σ : Mm} {b L : Nat} {xs : Nat → Int32} {n : Nat} {T : Nat → Mm} {Z : Mm} {x x1 x2 x3 a1 a2 a3 : Int32} (C0 : Cx p R s m args meth c RL cL_law 4 (some .boolean) 1500 50000 γ) (hcs : cells ≤ R.cells ∧ slots ≤ R.slots) (hB4 : isX4 γ 0) (hB5 : isX5 γ 49) (hX : va_X b L xs s s.heap) (hbl : b < s.heap.size) (hbA : ¬ AK γ b) (h : Inv n T Z) (hn : n < 512) (hx1 : x + 1 = x1) (hx2 : x + 2 = x2) (hx3 : x + 3 = x3) (hi1 : vp_in x1 L) (hi2 : vp_in x2 L) (hi3 : vp_in x3 L) (ha1 : xs x1.toNatClampNeg = a1) (ha2 : xs x2.toNatClampNeg = a2) (ha3 : xs x3.toNatClampNeg = a3) (hw : Wo γ (stT (st 10 σ 49 Z) 0 T) s H locs) (hl : lv_has ls 4 [(0, .ref b), (1, .ref (eA γ 0)), (2, .ref (eA γ 49)), (3, .int x)])
    (kk : ∀ {T : Nat → Mm} {Z : Mm} {H : Heap} {locs : List Loc}, Inv (n + 1) T Z → Wo γ (stT (st 10 σ 49 Z) 0 T) s H locs → lv_has ls 4 [(0, .ref b), (1, .ref (eA γ 0)), (2, .ref (eA γ 49)), (3, .int x)] → W p l e R s m args below meth c H locs cells slots Q (F0 m 727 ls [])) : W p l e R s m args below meth c H locs cells slots Q (F0 m 354 ls []) := by
  obtain ⟨hx, hb, hr, hml, hown, hts, hlk, hK, hd, hF, hL⟩ := id C0
  obtain ⟨r, T', Z', hq1, hq2, hq3⟩ := inv_begin h hn
  refine lv_aload_n hx hb dL_law_354 rfl (lv_at hl 1 rfl) ?_
  refine r_Vi (rest := []) C0 hcs (c_X4_begin (γ := γ) (o := 0) hB4 hq1) lk_L_41 (X4_k0 hB4) rfl rfl hl.1 rfl (Nat.le_of_ble_eq_true rfl) (by decide) hw dL_law_355 (fun {H} {locs} hw => ?_)
  refine lv_aload_n hx hb dL_law_358 rfl (lv_at hl 2 rfl) ?_
  replace hw := Wo.cg tz_swap.symm hw
  refine r_Vi (rest := [.int r]) C0 hcs (c_X5_begin (γ := γ) (o := 49) hB5 hq2) lk_L_45 (X5_k0 hB5) rfl rfl hl.1 rfl (Nat.le_of_ble_eq_true rfl) (by decide) hw dL_law_359 (fun {H} {locs} hw => ?_)
  replace hw := Wo.cg tz_swap hw
  refine lv_icmp_eq (tgt := 727) hx hb dL_law_362 (by decide) (fun _ => ?_) (fun c => absurd rfl c)
  exact kk hq3 hw hl
set_option maxHeartbeats 4000000 in
set_option maxRecDepth 10000 in
theorem law_type {γ : Ev} {σ : Mm} {b L : Nat} {xs : Nat → Int32} {n : Nat} {T : Nat → Mm} {Z : Mm} {x x1 x2 x3 a1 a2 a3 : Int32} (C0 : Cx p R s m args meth c RL cL_law 4 (some .boolean) 1500 50000 γ) (hcs : cells ≤ R.cells ∧ slots ≤ R.slots) (hB4 : isX4 γ 0) (hB5 : isX5 γ 49) (hX : va_X b L xs s s.heap) (hbl : b < s.heap.size) (hbA : ¬ AK γ b) (h : Inv n T Z) (hn : n < 512) (hx1 : x + 1 = x1) (hx2 : x + 2 = x2) (hx3 : x + 3 = x3) (hi1 : vp_in x1 L) (hi2 : vp_in x2 L) (hi3 : vp_in x3 L) (ha1 : xs x1.toNatClampNeg = a1) (ha2 : xs x2.toNatClampNeg = a2) (ha3 : xs x3.toNatClampNeg = a3) (hw : Wo γ (stT (st 10 σ 49 Z) 0 T) s H locs) (hl : lv_has ls 4 [(0, .ref b), (1, .ref (eA γ 0)), (2, .ref (eA γ 49)), (3, .int x)])
    (kk : ∀ {T : Nat → Mm} {Z : Mm} {H : Heap} {locs : List Loc}, Inv (n + 1) T Z → Wo γ (stT (st 10 σ 49 Z) 0 T) s H locs → lv_has ls 4 [(0, .ref b), (1, .ref (eA γ 0)), (2, .ref (eA γ 49)), (3, .int x)] → W p l e R s m args below meth c H locs cells slots Q (F0 m 727 ls [])) : W p l e R s m args below meth c H locs cells slots Q (F0 m 367 ls []) := by
  obtain ⟨hx, hb, hr, hml, hown, hts, hlk, hK, hd, hF, hL⟩ := id C0
  obtain ⟨r, T', Z', hq1, hq2, hq3⟩ := inv_type h hn (a1.toUInt32 % 65536).toInt32
  refine lv_aload_n hx hb dL_law_367 rfl (lv_at hl 1 rfl) ?_
  refine lv_aload_n hx hb dL_law_368 rfl (lv_at hl 0 rfl) ?_
  refine lv_iload_n hx hb dL_law_369 rfl (lv_at hl 3 rfl) ?_
  refine lv_iconst (v := (1 : Int32)) hx hb dL_law_370 (by decide) ?_
  refine lv_iadd hx hb dL_law_371 ?_
  refine r_top hx1 ?_
  refine va_sld hx hb hX hbl hbA hw.2 hi1 dL_law_372 ?_
  refine r_top ha1 ?_
  refine lv_i2c hx hb dL_law_373 rfl ?_
  refine r_Vi (rest := []) C0 hcs (c_X4_type (γ := γ) (o := 0) hB4 hq1) lk_L_46 (X4_k0 hB4) rfl rfl hl.1 rfl (Nat.le_of_ble_eq_true rfl) (by decide) hw dL_law_374 (fun {H} {locs} hw => ?_)
  refine lv_aload_n hx hb dL_law_377 rfl (lv_at hl 2 rfl) ?_
  refine lv_aload_n hx hb dL_law_378 rfl (lv_at hl 0 rfl) ?_
  refine lv_iload_n hx hb dL_law_379 rfl (lv_at hl 3 rfl) ?_
  refine lv_iconst (v := (1 : Int32)) hx hb dL_law_380 (by decide) ?_
  refine lv_iadd hx hb dL_law_381 ?_
  refine r_top hx1 ?_
  refine va_sld hx hb hX hbl hbA hw.2 hi1 dL_law_382 ?_
  refine r_top ha1 ?_
  refine lv_i2c hx hb dL_law_383 rfl ?_
  replace hw := Wo.cg tz_swap.symm hw
  refine r_Vi (rest := [.int r]) C0 hcs (c_X5_type (γ := γ) (o := 49) hB5 hq2) lk_L_50 (X5_k0 hB5) rfl rfl hl.1 rfl (Nat.le_of_ble_eq_true rfl) (by decide) hw dL_law_384 (fun {H} {locs} hw => ?_)
  replace hw := Wo.cg tz_swap hw
  refine lv_icmp_eq (tgt := 727) hx hb dL_law_387 (by decide) (fun _ => ?_) (fun c => absurd rfl c)
  exact kk hq3 hw hl
set_option maxHeartbeats 4000000 in
set_option maxRecDepth 10000 in
theorem law_clearText {γ : Ev} {σ : Mm} {b L : Nat} {xs : Nat → Int32} {n : Nat} {T : Nat → Mm} {Z : Mm} {x x1 x2 x3 a1 a2 a3 : Int32} (C0 : Cx p R s m args meth c RL cL_law 4 (some .boolean) 1500 50000 γ) (hcs : cells ≤ R.cells ∧ slots ≤ R.slots) (hB4 : isX4 γ 0) (hB5 : isX5 γ 49) (hX : va_X b L xs s s.heap) (hbl : b < s.heap.size) (hbA : ¬ AK γ b) (h : Inv n T Z) (hn : n < 512) (hx1 : x + 1 = x1) (hx2 : x + 2 = x2) (hx3 : x + 3 = x3) (hi1 : vp_in x1 L) (hi2 : vp_in x2 L) (hi3 : vp_in x3 L) (ha1 : xs x1.toNatClampNeg = a1) (ha2 : xs x2.toNatClampNeg = a2) (ha3 : xs x3.toNatClampNeg = a3) (hw : Wo γ (stT (st 10 σ 49 Z) 0 T) s H locs) (hl : lv_has ls 4 [(0, .ref b), (1, .ref (eA γ 0)), (2, .ref (eA γ 49)), (3, .int x)])
    (kk : ∀ {T : Nat → Mm} {Z : Mm} {H : Heap} {locs : List Loc}, Inv (n + 1) T Z → Wo γ (stT (st 10 σ 49 Z) 0 T) s H locs → lv_has ls 4 [(0, .ref b), (1, .ref (eA γ 0)), (2, .ref (eA γ 49)), (3, .int x)] → W p l e R s m args below meth c H locs cells slots Q (F0 m 727 ls [])) : W p l e R s m args below meth c H locs cells slots Q (F0 m 392 ls []) := by
  obtain ⟨hx, hb, hr, hml, hown, hts, hlk, hK, hd, hF, hL⟩ := id C0
  obtain ⟨r, T', Z', hq1, hq2, hq3⟩ := inv_clearText h hn
  refine lv_aload_n hx hb dL_law_392 rfl (lv_at hl 1 rfl) ?_
  refine r_Vi (rest := []) C0 hcs (c_X4_clearText (γ := γ) (o := 0) hB4 hq1) lk_L_51 (X4_k0 hB4) rfl rfl hl.1 rfl (Nat.le_of_ble_eq_true rfl) (by decide) hw dL_law_393 (fun {H} {locs} hw => ?_)
  refine lv_aload_n hx hb dL_law_396 rfl (lv_at hl 2 rfl) ?_
  replace hw := Wo.cg tz_swap.symm hw
  refine r_Vi (rest := [.int r]) C0 hcs (c_X5_clearText (γ := γ) (o := 49) hB5 hq2) lk_L_54 (X5_k0 hB5) rfl rfl hl.1 rfl (Nat.le_of_ble_eq_true rfl) (by decide) hw dL_law_397 (fun {H} {locs} hw => ?_)
  replace hw := Wo.cg tz_swap hw
  refine lv_icmp_eq (tgt := 727) hx hb dL_law_400 (by decide) (fun _ => ?_) (fun c => absurd rfl c)
  exact kk hq3 hw hl
set_option maxHeartbeats 4000000 in
set_option maxRecDepth 10000 in
theorem law_perform {γ : Ev} {σ : Mm} {b L : Nat} {xs : Nat → Int32} {n : Nat} {T : Nat → Mm} {Z : Mm} {x x1 x2 x3 a1 a2 a3 : Int32} (C0 : Cx p R s m args meth c RL cL_law 4 (some .boolean) 1500 50000 γ) (hcs : cells ≤ R.cells ∧ slots ≤ R.slots) (hB4 : isX4 γ 0) (hB5 : isX5 γ 49) (hX : va_X b L xs s s.heap) (hbl : b < s.heap.size) (hbA : ¬ AK γ b) (h : Inv n T Z) (hn : n < 512) (hx1 : x + 1 = x1) (hx2 : x + 2 = x2) (hx3 : x + 3 = x3) (hi1 : vp_in x1 L) (hi2 : vp_in x2 L) (hi3 : vp_in x3 L) (ha1 : xs x1.toNatClampNeg = a1) (ha2 : xs x2.toNatClampNeg = a2) (ha3 : xs x3.toNatClampNeg = a3) (hw : Wo γ (stT (st 10 σ 49 Z) 0 T) s H locs) (hl : lv_has ls 4 [(0, .ref b), (1, .ref (eA γ 0)), (2, .ref (eA γ 49)), (3, .int x)])
    (kk : ∀ {T : Nat → Mm} {Z : Mm} {H : Heap} {locs : List Loc}, Inv (n + 1) T Z → Wo γ (stT (st 10 σ 49 Z) 0 T) s H locs → lv_has ls 4 [(0, .ref b), (1, .ref (eA γ 0)), (2, .ref (eA γ 49)), (3, .int x)] → W p l e R s m args below meth c H locs cells slots Q (F0 m 727 ls [])) : W p l e R s m args below meth c H locs cells slots Q (F0 m 405 ls []) := by
  obtain ⟨hx, hb, hr, hml, hown, hts, hlk, hK, hd, hF, hL⟩ := id C0
  obtain ⟨r, T', Z', hq1, hq2, hq3⟩ := inv_perform h hn
  refine lv_aload_n hx hb dL_law_405 rfl (lv_at hl 1 rfl) ?_
  refine r_Vi (rest := []) C0 hcs (c_X4_perform (γ := γ) (o := 0) hB4 hq1) lk_L_55 (X4_k0 hB4) rfl rfl hl.1 rfl (Nat.le_of_ble_eq_true rfl) (by decide) hw dL_law_406 (fun {H} {locs} hw => ?_)
  refine lv_aload_n hx hb dL_law_409 rfl (lv_at hl 2 rfl) ?_
  replace hw := Wo.cg tz_swap.symm hw
  refine r_Vi (rest := [.int r]) C0 hcs (c_X5_perform (γ := γ) (o := 49) hB5 hq2) lk_L_58 (X5_k0 hB5) rfl rfl hl.1 rfl (Nat.le_of_ble_eq_true rfl) (by decide) hw dL_law_410 (fun {H} {locs} hw => ?_)
  replace hw := Wo.cg tz_swap hw
  refine lv_icmp_eq (tgt := 727) hx hb dL_law_413 (by decide) (fun _ => ?_) (fun c => absurd rfl c)
  exact kk hq3 hw hl
set_option maxHeartbeats 4000000 in
set_option maxRecDepth 10000 in
theorem law_stopped {γ : Ev} {σ : Mm} {b L : Nat} {xs : Nat → Int32} {n : Nat} {T : Nat → Mm} {Z : Mm} {x x1 x2 x3 a1 a2 a3 : Int32} (C0 : Cx p R s m args meth c RL cL_law 4 (some .boolean) 1500 50000 γ) (hcs : cells ≤ R.cells ∧ slots ≤ R.slots) (hB4 : isX4 γ 0) (hB5 : isX5 γ 49) (hX : va_X b L xs s s.heap) (hbl : b < s.heap.size) (hbA : ¬ AK γ b) (h : Inv n T Z) (hn : n < 512) (hx1 : x + 1 = x1) (hx2 : x + 2 = x2) (hx3 : x + 3 = x3) (hi1 : vp_in x1 L) (hi2 : vp_in x2 L) (hi3 : vp_in x3 L) (ha1 : xs x1.toNatClampNeg = a1) (ha2 : xs x2.toNatClampNeg = a2) (ha3 : xs x3.toNatClampNeg = a3) (hw : Wo γ (stT (st 10 σ 49 Z) 0 T) s H locs) (hl : lv_has ls 4 [(0, .ref b), (1, .ref (eA γ 0)), (2, .ref (eA γ 49)), (3, .int x)])
    (kk : ∀ {T : Nat → Mm} {Z : Mm} {H : Heap} {locs : List Loc}, Inv (n + 1) T Z → Wo γ (stT (st 10 σ 49 Z) 0 T) s H locs → lv_has ls 4 [(0, .ref b), (1, .ref (eA γ 0)), (2, .ref (eA γ 49)), (3, .int x)] → W p l e R s m args below meth c H locs cells slots Q (F0 m 727 ls [])) : W p l e R s m args below meth c H locs cells slots Q (F0 m 418 ls []) := by
  obtain ⟨hx, hb, hr, hml, hown, hts, hlk, hK, hd, hF, hL⟩ := id C0
  obtain ⟨r, hq1, hq2, hq3⟩ := inv_stopped h hn a1
  refine lv_aload_n hx hb dL_law_418 rfl (lv_at hl 1 rfl) ?_
  refine lv_aload_n hx hb dL_law_419 rfl (lv_at hl 0 rfl) ?_
  refine lv_iload_n hx hb dL_law_420 rfl (lv_at hl 3 rfl) ?_
  refine lv_iconst (v := (1 : Int32)) hx hb dL_law_421 (by decide) ?_
  refine lv_iadd hx hb dL_law_422 ?_
  refine r_top hx1 ?_
  refine va_sld hx hb hX hbl hbA hw.2 hi1 dL_law_423 ?_
  refine r_top ha1 ?_
  refine r_Vi (rest := []) C0 hcs (c_X4_stopped (γ := γ) (o := 0) hB4 hq1) lk_L_59 (X4_k0 hB4) rfl rfl hl.1 rfl (Nat.le_of_ble_eq_true rfl) (by decide) hw dL_law_424 (fun {H} {locs} hw => ?_)
  refine lv_aload_n hx hb dL_law_427 rfl (lv_at hl 2 rfl) ?_
  refine lv_aload_n hx hb dL_law_428 rfl (lv_at hl 0 rfl) ?_
  refine lv_iload_n hx hb dL_law_429 rfl (lv_at hl 3 rfl) ?_
  refine lv_iconst (v := (1 : Int32)) hx hb dL_law_430 (by decide) ?_
  refine lv_iadd hx hb dL_law_431 ?_
  refine r_top hx1 ?_
  refine va_sld hx hb hX hbl hbA hw.2 hi1 dL_law_432 ?_
  refine r_top ha1 ?_
  replace hw := Wo.cg tz_swap.symm hw
  refine r_Vi (rest := [.int r]) C0 hcs (c_X5_stopped (γ := γ) (o := 49) hB5 hq2) lk_L_62 (X5_k0 hB5) rfl rfl hl.1 rfl (Nat.le_of_ble_eq_true rfl) (by decide) hw dL_law_433 (fun {H} {locs} hw => ?_)
  replace hw := Wo.cg tz_swap hw
  refine lv_icmp_eq (tgt := 727) hx hb dL_law_436 (by decide) (fun _ => ?_) (fun c => absurd rfl c)
  exact kk hq3 hw hl
set_option maxHeartbeats 4000000 in
set_option maxRecDepth 10000 in
theorem law_undo {γ : Ev} {σ : Mm} {b L : Nat} {xs : Nat → Int32} {n : Nat} {T : Nat → Mm} {Z : Mm} {x x1 x2 x3 a1 a2 a3 : Int32} (C0 : Cx p R s m args meth c RL cL_law 4 (some .boolean) 1500 50000 γ) (hcs : cells ≤ R.cells ∧ slots ≤ R.slots) (hB4 : isX4 γ 0) (hB5 : isX5 γ 49) (hX : va_X b L xs s s.heap) (hbl : b < s.heap.size) (hbA : ¬ AK γ b) (h : Inv n T Z) (hn : n < 512) (hx1 : x + 1 = x1) (hx2 : x + 2 = x2) (hx3 : x + 3 = x3) (hi1 : vp_in x1 L) (hi2 : vp_in x2 L) (hi3 : vp_in x3 L) (ha1 : xs x1.toNatClampNeg = a1) (ha2 : xs x2.toNatClampNeg = a2) (ha3 : xs x3.toNatClampNeg = a3) (hw : Wo γ (stT (st 10 σ 49 Z) 0 T) s H locs) (hl : lv_has ls 4 [(0, .ref b), (1, .ref (eA γ 0)), (2, .ref (eA γ 49)), (3, .int x)])
    (kk : ∀ {T : Nat → Mm} {Z : Mm} {H : Heap} {locs : List Loc}, Inv (n + 1) T Z → Wo γ (stT (st 10 σ 49 Z) 0 T) s H locs → lv_has ls 4 [(0, .ref b), (1, .ref (eA γ 0)), (2, .ref (eA γ 49)), (3, .int x)] → W p l e R s m args below meth c H locs cells slots Q (F0 m 727 ls [])) : W p l e R s m args below meth c H locs cells slots Q (F0 m 441 ls []) := by
  obtain ⟨hx, hb, hr, hml, hown, hts, hlk, hK, hd, hF, hL⟩ := id C0
  obtain ⟨r, T', Z', hq1, hq2, hq3⟩ := inv_undo h hn
  refine lv_aload_n hx hb dL_law_441 rfl (lv_at hl 1 rfl) ?_
  refine r_Vi (rest := []) C0 hcs (c_X4_undo (γ := γ) (o := 0) hB4 hq1) lk_L_63 (X4_k0 hB4) rfl rfl hl.1 rfl (Nat.le_of_ble_eq_true rfl) (by decide) hw dL_law_442 (fun {H} {locs} hw => ?_)
  refine lv_aload_n hx hb dL_law_445 rfl (lv_at hl 2 rfl) ?_
  replace hw := Wo.cg tz_swap.symm hw
  refine r_Vi (rest := [.int r]) C0 hcs (c_X5_undo (γ := γ) (o := 49) hB5 hq2) lk_L_66 (X5_k0 hB5) rfl rfl hl.1 rfl (Nat.le_of_ble_eq_true rfl) (by decide) hw dL_law_446 (fun {H} {locs} hw => ?_)
  replace hw := Wo.cg tz_swap hw
  refine lv_icmp_eq (tgt := 727) hx hb dL_law_449 (by decide) (fun _ => ?_) (fun c => absurd rfl c)
  exact kk hq3 hw hl
set_option maxHeartbeats 4000000 in
set_option maxRecDepth 10000 in
theorem law_keep {γ : Ev} {σ : Mm} {b L : Nat} {xs : Nat → Int32} {n : Nat} {T : Nat → Mm} {Z : Mm} {x x1 x2 x3 a1 a2 a3 : Int32} (C0 : Cx p R s m args meth c RL cL_law 4 (some .boolean) 1500 50000 γ) (hcs : cells ≤ R.cells ∧ slots ≤ R.slots) (hB4 : isX4 γ 0) (hB5 : isX5 γ 49) (hX : va_X b L xs s s.heap) (hbl : b < s.heap.size) (hbA : ¬ AK γ b) (h : Inv n T Z) (hn : n < 512) (hx1 : x + 1 = x1) (hx2 : x + 2 = x2) (hx3 : x + 3 = x3) (hi1 : vp_in x1 L) (hi2 : vp_in x2 L) (hi3 : vp_in x3 L) (ha1 : xs x1.toNatClampNeg = a1) (ha2 : xs x2.toNatClampNeg = a2) (ha3 : xs x3.toNatClampNeg = a3) (hw : Wo γ (stT (st 10 σ 49 Z) 0 T) s H locs) (hl : lv_has ls 4 [(0, .ref b), (1, .ref (eA γ 0)), (2, .ref (eA γ 49)), (3, .int x)])
    (kk : ∀ {T : Nat → Mm} {Z : Mm} {H : Heap} {locs : List Loc}, Inv (n + 1) T Z → Wo γ (stT (st 10 σ 49 Z) 0 T) s H locs → lv_has ls 4 [(0, .ref b), (1, .ref (eA γ 0)), (2, .ref (eA γ 49)), (3, .int x)] → W p l e R s m args below meth c H locs cells slots Q (F0 m 727 ls [])) : W p l e R s m args below meth c H locs cells slots Q (F0 m 454 ls []) := by
  obtain ⟨hx, hb, hr, hml, hown, hts, hlk, hK, hd, hF, hL⟩ := id C0
  obtain ⟨r, T', Z', hq1, hq2, hq3⟩ := inv_keep h hn
  refine lv_aload_n hx hb dL_law_454 rfl (lv_at hl 1 rfl) ?_
  refine r_Vi (rest := []) C0 hcs (c_X4_keep (γ := γ) (o := 0) hB4 hq1) lk_L_67 (X4_k0 hB4) rfl rfl hl.1 rfl (Nat.le_of_ble_eq_true rfl) (by decide) hw dL_law_455 (fun {H} {locs} hw => ?_)
  refine lv_aload_n hx hb dL_law_458 rfl (lv_at hl 2 rfl) ?_
  replace hw := Wo.cg tz_swap.symm hw
  refine r_Vi (rest := [.int r]) C0 hcs (c_X5_keep (γ := γ) (o := 49) hB5 hq2) lk_L_70 (X5_k0 hB5) rfl rfl hl.1 rfl (Nat.le_of_ble_eq_true rfl) (by decide) hw dL_law_459 (fun {H} {locs} hw => ?_)
  replace hw := Wo.cg tz_swap hw
  refine lv_icmp_eq (tgt := 727) hx hb dL_law_462 (by decide) (fun _ => ?_) (fun c => absurd rfl c)
  exact kk hq3 hw hl
set_option maxHeartbeats 4000000 in
set_option maxRecDepth 10000 in
theorem law_restore {γ : Ev} {σ : Mm} {b L : Nat} {xs : Nat → Int32} {n : Nat} {T : Nat → Mm} {Z : Mm} {x x1 x2 x3 a1 a2 a3 : Int32} (C0 : Cx p R s m args meth c RL cL_law 4 (some .boolean) 1500 50000 γ) (hcs : cells ≤ R.cells ∧ slots ≤ R.slots) (hB4 : isX4 γ 0) (hB5 : isX5 γ 49) (hX : va_X b L xs s s.heap) (hbl : b < s.heap.size) (hbA : ¬ AK γ b) (h : Inv n T Z) (hn : n < 512) (hx1 : x + 1 = x1) (hx2 : x + 2 = x2) (hx3 : x + 3 = x3) (hi1 : vp_in x1 L) (hi2 : vp_in x2 L) (hi3 : vp_in x3 L) (ha1 : xs x1.toNatClampNeg = a1) (ha2 : xs x2.toNatClampNeg = a2) (ha3 : xs x3.toNatClampNeg = a3) (hw : Wo γ (stT (st 10 σ 49 Z) 0 T) s H locs) (hl : lv_has ls 4 [(0, .ref b), (1, .ref (eA γ 0)), (2, .ref (eA γ 49)), (3, .int x)])
    (kk : ∀ {T : Nat → Mm} {Z : Mm} {H : Heap} {locs : List Loc}, Inv (n + 1) T Z → Wo γ (stT (st 10 σ 49 Z) 0 T) s H locs → lv_has ls 4 [(0, .ref b), (1, .ref (eA γ 0)), (2, .ref (eA γ 49)), (3, .int x)] → W p l e R s m args below meth c H locs cells slots Q (F0 m 727 ls [])) : W p l e R s m args below meth c H locs cells slots Q (F0 m 467 ls []) := by
  obtain ⟨hx, hb, hr, hml, hown, hts, hlk, hK, hd, hF, hL⟩ := id C0
  obtain ⟨r, T', Z', hq1, hq2, hq3⟩ := inv_restore h hn
  refine lv_aload_n hx hb dL_law_467 rfl (lv_at hl 1 rfl) ?_
  refine r_Vi (rest := []) C0 hcs (c_X4_restore (γ := γ) (o := 0) hB4 hq1) lk_L_71 (X4_k0 hB4) rfl rfl hl.1 rfl (Nat.le_of_ble_eq_true rfl) (by decide) hw dL_law_468 (fun {H} {locs} hw => ?_)
  refine lv_aload_n hx hb dL_law_471 rfl (lv_at hl 2 rfl) ?_
  replace hw := Wo.cg tz_swap.symm hw
  refine r_Vi (rest := [.int r]) C0 hcs (c_X5_restore (γ := γ) (o := 49) hB5 hq2) lk_L_74 (X5_k0 hB5) rfl rfl hl.1 rfl (Nat.le_of_ble_eq_true rfl) (by decide) hw dL_law_472 (fun {H} {locs} hw => ?_)
  replace hw := Wo.cg tz_swap hw
  refine lv_icmp_eq (tgt := 727) hx hb dL_law_475 (by decide) (fun _ => ?_) (fun c => absurd rfl c)
  exact kk hq3 hw hl
set_option maxHeartbeats 4000000 in
set_option maxRecDepth 10000 in
theorem law_at {γ : Ev} {σ : Mm} {b L : Nat} {xs : Nat → Int32} {n : Nat} {T : Nat → Mm} {Z : Mm} {x x1 x2 x3 a1 a2 a3 : Int32} (C0 : Cx p R s m args meth c RL cL_law 4 (some .boolean) 1500 50000 γ) (hcs : cells ≤ R.cells ∧ slots ≤ R.slots) (hB4 : isX4 γ 0) (hB5 : isX5 γ 49) (hX : va_X b L xs s s.heap) (hbl : b < s.heap.size) (hbA : ¬ AK γ b) (h : Inv n T Z) (hn : n < 512) (hx1 : x + 1 = x1) (hx2 : x + 2 = x2) (hx3 : x + 3 = x3) (hi1 : vp_in x1 L) (hi2 : vp_in x2 L) (hi3 : vp_in x3 L) (ha1 : xs x1.toNatClampNeg = a1) (ha2 : xs x2.toNatClampNeg = a2) (ha3 : xs x3.toNatClampNeg = a3) (hw : Wo γ (stT (st 10 σ 49 Z) 0 T) s H locs) (hl : lv_has ls 4 [(0, .ref b), (1, .ref (eA γ 0)), (2, .ref (eA γ 49)), (3, .int x)])
    (kk : ∀ {T : Nat → Mm} {Z : Mm} {H : Heap} {locs : List Loc}, Inv (n + 1) T Z → Wo γ (stT (st 10 σ 49 Z) 0 T) s H locs → lv_has ls 4 [(0, .ref b), (1, .ref (eA γ 0)), (2, .ref (eA γ 49)), (3, .int x)] → W p l e R s m args below meth c H locs cells slots Q (F0 m 727 ls [])) : W p l e R s m args below meth c H locs cells slots Q (F0 m 480 ls []) := by
  obtain ⟨hx, hb, hr, hml, hown, hts, hlk, hK, hd, hF, hL⟩ := id C0
  obtain ⟨r, hq1, hq2, hq3⟩ := inv_at h hn a1 a2
  refine lv_aload_n hx hb dL_law_480 rfl (lv_at hl 1 rfl) ?_
  refine lv_aload_n hx hb dL_law_481 rfl (lv_at hl 0 rfl) ?_
  refine lv_iload_n hx hb dL_law_482 rfl (lv_at hl 3 rfl) ?_
  refine lv_iconst (v := (1 : Int32)) hx hb dL_law_483 (by decide) ?_
  refine lv_iadd hx hb dL_law_484 ?_
  refine r_top hx1 ?_
  refine va_sld hx hb hX hbl hbA hw.2 hi1 dL_law_485 ?_
  refine r_top ha1 ?_
  refine lv_aload_n hx hb dL_law_486 rfl (lv_at hl 0 rfl) ?_
  refine lv_iload_n hx hb dL_law_487 rfl (lv_at hl 3 rfl) ?_
  refine lv_iconst (v := (2 : Int32)) hx hb dL_law_488 (by decide) ?_
  refine lv_iadd hx hb dL_law_489 ?_
  refine r_top hx2 ?_
  refine va_sld hx hb hX hbl hbA hw.2 hi2 dL_law_490 ?_
  refine r_top ha2 ?_
  refine r_Vi (rest := []) C0 hcs (c_X4_at (γ := γ) (o := 0) hB4 hq1) lk_L_75 (X4_k0 hB4) rfl rfl hl.1 rfl (Nat.le_of_ble_eq_true rfl) (by decide) hw dL_law_491 (fun {H} {locs} hw => ?_)
  refine lv_aload_n hx hb dL_law_494 rfl (lv_at hl 2 rfl) ?_
  refine lv_aload_n hx hb dL_law_495 rfl (lv_at hl 0 rfl) ?_
  refine lv_iload_n hx hb dL_law_496 rfl (lv_at hl 3 rfl) ?_
  refine lv_iconst (v := (1 : Int32)) hx hb dL_law_497 (by decide) ?_
  refine lv_iadd hx hb dL_law_498 ?_
  refine r_top hx1 ?_
  refine va_sld hx hb hX hbl hbA hw.2 hi1 dL_law_499 ?_
  refine r_top ha1 ?_
  refine lv_aload_n hx hb dL_law_500 rfl (lv_at hl 0 rfl) ?_
  refine lv_iload_n hx hb dL_law_501 rfl (lv_at hl 3 rfl) ?_
  refine lv_iconst (v := (2 : Int32)) hx hb dL_law_502 (by decide) ?_
  refine lv_iadd hx hb dL_law_503 ?_
  refine r_top hx2 ?_
  refine va_sld hx hb hX hbl hbA hw.2 hi2 dL_law_504 ?_
  refine r_top ha2 ?_
  replace hw := Wo.cg tz_swap.symm hw
  refine r_Vi (rest := [.int r]) C0 hcs (c_X5_at (γ := γ) (o := 49) hB5 hq2) lk_L_78 (X5_k0 hB5) rfl rfl hl.1 rfl (Nat.le_of_ble_eq_true rfl) (by decide) hw dL_law_505 (fun {H} {locs} hw => ?_)
  replace hw := Wo.cg tz_swap hw
  refine lv_icmp_eq (tgt := 727) hx hb dL_law_508 (by decide) (fun _ => ?_) (fun c => absurd rfl c)
  exact kk hq3 hw hl
set_option maxHeartbeats 4000000 in
set_option maxRecDepth 10000 in
theorem law_bag {γ : Ev} {σ : Mm} {b L : Nat} {xs : Nat → Int32} {n : Nat} {T : Nat → Mm} {Z : Mm} {x x1 x2 x3 a1 a2 a3 : Int32} (C0 : Cx p R s m args meth c RL cL_law 4 (some .boolean) 1500 50000 γ) (hcs : cells ≤ R.cells ∧ slots ≤ R.slots) (hB4 : isX4 γ 0) (hB5 : isX5 γ 49) (hX : va_X b L xs s s.heap) (hbl : b < s.heap.size) (hbA : ¬ AK γ b) (h : Inv n T Z) (hn : n < 512) (hx1 : x + 1 = x1) (hx2 : x + 2 = x2) (hx3 : x + 3 = x3) (hi1 : vp_in x1 L) (hi2 : vp_in x2 L) (hi3 : vp_in x3 L) (ha1 : xs x1.toNatClampNeg = a1) (ha2 : xs x2.toNatClampNeg = a2) (ha3 : xs x3.toNatClampNeg = a3) (hw : Wo γ (stT (st 10 σ 49 Z) 0 T) s H locs) (hl : lv_has ls 4 [(0, .ref b), (1, .ref (eA γ 0)), (2, .ref (eA γ 49)), (3, .int x)])
    (kk : ∀ {T : Nat → Mm} {Z : Mm} {H : Heap} {locs : List Loc}, Inv (n + 1) T Z → Wo γ (stT (st 10 σ 49 Z) 0 T) s H locs → lv_has ls 4 [(0, .ref b), (1, .ref (eA γ 0)), (2, .ref (eA γ 49)), (3, .int x)] → W p l e R s m args below meth c H locs cells slots Q (F0 m 727 ls [])) : W p l e R s m args below meth c H locs cells slots Q (F0 m 513 ls []) := by
  obtain ⟨hx, hb, hr, hml, hown, hts, hlk, hK, hd, hF, hL⟩ := id C0
  obtain ⟨r, hq1, hq2, hq3⟩ := inv_bag h hn a1 a2
  refine lv_aload_n hx hb dL_law_513 rfl (lv_at hl 1 rfl) ?_
  refine lv_aload_n hx hb dL_law_514 rfl (lv_at hl 0 rfl) ?_
  refine lv_iload_n hx hb dL_law_515 rfl (lv_at hl 3 rfl) ?_
  refine lv_iconst (v := (1 : Int32)) hx hb dL_law_516 (by decide) ?_
  refine lv_iadd hx hb dL_law_517 ?_
  refine r_top hx1 ?_
  refine va_sld hx hb hX hbl hbA hw.2 hi1 dL_law_518 ?_
  refine r_top ha1 ?_
  refine lv_aload_n hx hb dL_law_519 rfl (lv_at hl 0 rfl) ?_
  refine lv_iload_n hx hb dL_law_520 rfl (lv_at hl 3 rfl) ?_
  refine lv_iconst (v := (2 : Int32)) hx hb dL_law_521 (by decide) ?_
  refine lv_iadd hx hb dL_law_522 ?_
  refine r_top hx2 ?_
  refine va_sld hx hb hX hbl hbA hw.2 hi2 dL_law_523 ?_
  refine r_top ha2 ?_
  refine r_Vi (rest := []) C0 hcs (c_X4_bag (γ := γ) (o := 0) hB4 hq1) lk_L_79 (X4_k0 hB4) rfl rfl hl.1 rfl (Nat.le_of_ble_eq_true rfl) (by decide) hw dL_law_524 (fun {H} {locs} hw => ?_)
  refine lv_aload_n hx hb dL_law_527 rfl (lv_at hl 2 rfl) ?_
  refine lv_aload_n hx hb dL_law_528 rfl (lv_at hl 0 rfl) ?_
  refine lv_iload_n hx hb dL_law_529 rfl (lv_at hl 3 rfl) ?_
  refine lv_iconst (v := (1 : Int32)) hx hb dL_law_530 (by decide) ?_
  refine lv_iadd hx hb dL_law_531 ?_
  refine r_top hx1 ?_
  refine va_sld hx hb hX hbl hbA hw.2 hi1 dL_law_532 ?_
  refine r_top ha1 ?_
  refine lv_aload_n hx hb dL_law_533 rfl (lv_at hl 0 rfl) ?_
  refine lv_iload_n hx hb dL_law_534 rfl (lv_at hl 3 rfl) ?_
  refine lv_iconst (v := (2 : Int32)) hx hb dL_law_535 (by decide) ?_
  refine lv_iadd hx hb dL_law_536 ?_
  refine r_top hx2 ?_
  refine va_sld hx hb hX hbl hbA hw.2 hi2 dL_law_537 ?_
  refine r_top ha2 ?_
  replace hw := Wo.cg tz_swap.symm hw
  refine r_Vi (rest := [.int r]) C0 hcs (c_X5_bag (γ := γ) (o := 49) hB5 hq2) lk_L_82 (X5_k0 hB5) rfl rfl hl.1 rfl (Nat.le_of_ble_eq_true rfl) (by decide) hw dL_law_538 (fun {H} {locs} hw => ?_)
  replace hw := Wo.cg tz_swap hw
  refine lv_icmp_eq (tgt := 727) hx hb dL_law_541 (by decide) (fun _ => ?_) (fun c => absurd rfl c)
  exact kk hq3 hw hl
set_option maxHeartbeats 4000000 in
set_option maxRecDepth 10000 in
theorem law_reason {γ : Ev} {σ : Mm} {b L : Nat} {xs : Nat → Int32} {n : Nat} {T : Nat → Mm} {Z : Mm} {x x1 x2 x3 a1 a2 a3 : Int32} (C0 : Cx p R s m args meth c RL cL_law 4 (some .boolean) 1500 50000 γ) (hcs : cells ≤ R.cells ∧ slots ≤ R.slots) (hB4 : isX4 γ 0) (hB5 : isX5 γ 49) (hX : va_X b L xs s s.heap) (hbl : b < s.heap.size) (hbA : ¬ AK γ b) (h : Inv n T Z) (hn : n < 512) (hx1 : x + 1 = x1) (hx2 : x + 2 = x2) (hx3 : x + 3 = x3) (hi1 : vp_in x1 L) (hi2 : vp_in x2 L) (hi3 : vp_in x3 L) (ha1 : xs x1.toNatClampNeg = a1) (ha2 : xs x2.toNatClampNeg = a2) (ha3 : xs x3.toNatClampNeg = a3) (hw : Wo γ (stT (st 10 σ 49 Z) 0 T) s H locs) (hl : lv_has ls 4 [(0, .ref b), (1, .ref (eA γ 0)), (2, .ref (eA γ 49)), (3, .int x)])
    (kk : ∀ {T : Nat → Mm} {Z : Mm} {H : Heap} {locs : List Loc}, Inv (n + 1) T Z → Wo γ (stT (st 10 σ 49 Z) 0 T) s H locs → lv_has ls 4 [(0, .ref b), (1, .ref (eA γ 0)), (2, .ref (eA γ 49)), (3, .int x)] → W p l e R s m args below meth c H locs cells slots Q (F0 m 727 ls [])) : W p l e R s m args below meth c H locs cells slots Q (F0 m 546 ls []) := by
  obtain ⟨hx, hb, hr, hml, hown, hts, hlk, hK, hd, hF, hL⟩ := id C0
  obtain ⟨r, hq1, hq2, hq3⟩ := inv_reason h hn a1 a2
  refine lv_aload_n hx hb dL_law_546 rfl (lv_at hl 1 rfl) ?_
  refine lv_aload_n hx hb dL_law_547 rfl (lv_at hl 0 rfl) ?_
  refine lv_iload_n hx hb dL_law_548 rfl (lv_at hl 3 rfl) ?_
  refine lv_iconst (v := (1 : Int32)) hx hb dL_law_549 (by decide) ?_
  refine lv_iadd hx hb dL_law_550 ?_
  refine r_top hx1 ?_
  refine va_sld hx hb hX hbl hbA hw.2 hi1 dL_law_551 ?_
  refine r_top ha1 ?_
  refine lv_aload_n hx hb dL_law_552 rfl (lv_at hl 0 rfl) ?_
  refine lv_iload_n hx hb dL_law_553 rfl (lv_at hl 3 rfl) ?_
  refine lv_iconst (v := (2 : Int32)) hx hb dL_law_554 (by decide) ?_
  refine lv_iadd hx hb dL_law_555 ?_
  refine r_top hx2 ?_
  refine va_sld hx hb hX hbl hbA hw.2 hi2 dL_law_556 ?_
  refine r_top ha2 ?_
  refine r_Vi (rest := []) C0 hcs (c_X4_reason (γ := γ) (o := 0) hB4 hq1) lk_L_83 (X4_k0 hB4) rfl rfl hl.1 rfl (Nat.le_of_ble_eq_true rfl) (by decide) hw dL_law_557 (fun {H} {locs} hw => ?_)
  refine lv_aload_n hx hb dL_law_560 rfl (lv_at hl 2 rfl) ?_
  refine lv_aload_n hx hb dL_law_561 rfl (lv_at hl 0 rfl) ?_
  refine lv_iload_n hx hb dL_law_562 rfl (lv_at hl 3 rfl) ?_
  refine lv_iconst (v := (1 : Int32)) hx hb dL_law_563 (by decide) ?_
  refine lv_iadd hx hb dL_law_564 ?_
  refine r_top hx1 ?_
  refine va_sld hx hb hX hbl hbA hw.2 hi1 dL_law_565 ?_
  refine r_top ha1 ?_
  refine lv_aload_n hx hb dL_law_566 rfl (lv_at hl 0 rfl) ?_
  refine lv_iload_n hx hb dL_law_567 rfl (lv_at hl 3 rfl) ?_
  refine lv_iconst (v := (2 : Int32)) hx hb dL_law_568 (by decide) ?_
  refine lv_iadd hx hb dL_law_569 ?_
  refine r_top hx2 ?_
  refine va_sld hx hb hX hbl hbA hw.2 hi2 dL_law_570 ?_
  refine r_top ha2 ?_
  replace hw := Wo.cg tz_swap.symm hw
  refine r_Vi (rest := [.int r]) C0 hcs (c_X5_reason (γ := γ) (o := 49) hB5 hq2) lk_L_86 (X5_k0 hB5) rfl rfl hl.1 rfl (Nat.le_of_ble_eq_true rfl) (by decide) hw dL_law_571 (fun {H} {locs} hw => ?_)
  replace hw := Wo.cg tz_swap hw
  refine lv_icmp_eq (tgt := 727) hx hb dL_law_574 (by decide) (fun _ => ?_) (fun c => absurd rfl c)
  exact kk hq3 hw hl
set_option maxHeartbeats 4000000 in
set_option maxRecDepth 10000 in
theorem law_possible {γ : Ev} {σ : Mm} {b L : Nat} {xs : Nat → Int32} {n : Nat} {T : Nat → Mm} {Z : Mm} {x x1 x2 x3 a1 a2 a3 : Int32} (C0 : Cx p R s m args meth c RL cL_law 4 (some .boolean) 1500 50000 γ) (hcs : cells ≤ R.cells ∧ slots ≤ R.slots) (hB4 : isX4 γ 0) (hB5 : isX5 γ 49) (hX : va_X b L xs s s.heap) (hbl : b < s.heap.size) (hbA : ¬ AK γ b) (h : Inv n T Z) (hn : n < 512) (hx1 : x + 1 = x1) (hx2 : x + 2 = x2) (hx3 : x + 3 = x3) (hi1 : vp_in x1 L) (hi2 : vp_in x2 L) (hi3 : vp_in x3 L) (ha1 : xs x1.toNatClampNeg = a1) (ha2 : xs x2.toNatClampNeg = a2) (ha3 : xs x3.toNatClampNeg = a3) (hw : Wo γ (stT (st 10 σ 49 Z) 0 T) s H locs) (hl : lv_has ls 4 [(0, .ref b), (1, .ref (eA γ 0)), (2, .ref (eA γ 49)), (3, .int x)])
    (kk : ∀ {T : Nat → Mm} {Z : Mm} {H : Heap} {locs : List Loc}, Inv (n + 1) T Z → Wo γ (stT (st 10 σ 49 Z) 0 T) s H locs → lv_has ls 4 [(0, .ref b), (1, .ref (eA γ 0)), (2, .ref (eA γ 49)), (3, .int x)] → W p l e R s m args below meth c H locs cells slots Q (F0 m 727 ls [])) : W p l e R s m args below meth c H locs cells slots Q (F0 m 579 ls []) := by
  obtain ⟨hx, hb, hr, hml, hown, hts, hlk, hK, hd, hF, hL⟩ := id C0
  obtain ⟨r, hq1, hq2, hq3⟩ := inv_possible h hn a1
  refine lv_aload_n hx hb dL_law_579 rfl (lv_at hl 1 rfl) ?_
  refine lv_aload_n hx hb dL_law_580 rfl (lv_at hl 0 rfl) ?_
  refine lv_iload_n hx hb dL_law_581 rfl (lv_at hl 3 rfl) ?_
  refine lv_iconst (v := (1 : Int32)) hx hb dL_law_582 (by decide) ?_
  refine lv_iadd hx hb dL_law_583 ?_
  refine r_top hx1 ?_
  refine va_sld hx hb hX hbl hbA hw.2 hi1 dL_law_584 ?_
  refine r_top ha1 ?_
  refine r_Vi (rest := []) C0 hcs (c_X4_possible (γ := γ) (o := 0) hB4 hq1) lk_L_87 (X4_k0 hB4) rfl rfl hl.1 rfl (Nat.le_of_ble_eq_true rfl) (by decide) hw dL_law_585 (fun {H} {locs} hw => ?_)
  refine lv_aload_n hx hb dL_law_588 rfl (lv_at hl 2 rfl) ?_
  refine lv_aload_n hx hb dL_law_589 rfl (lv_at hl 0 rfl) ?_
  refine lv_iload_n hx hb dL_law_590 rfl (lv_at hl 3 rfl) ?_
  refine lv_iconst (v := (1 : Int32)) hx hb dL_law_591 (by decide) ?_
  refine lv_iadd hx hb dL_law_592 ?_
  refine r_top hx1 ?_
  refine va_sld hx hb hX hbl hbA hw.2 hi1 dL_law_593 ?_
  refine r_top ha1 ?_
  replace hw := Wo.cg tz_swap.symm hw
  refine r_Vi (rest := [.int r]) C0 hcs (c_X5_possible (γ := γ) (o := 49) hB5 hq2) lk_L_90 (X5_k0 hB5) rfl rfl hl.1 rfl (Nat.le_of_ble_eq_true rfl) (by decide) hw dL_law_594 (fun {H} {locs} hw => ?_)
  replace hw := Wo.cg tz_swap hw
  refine lv_icmp_eq (tgt := 727) hx hb dL_law_597 (by decide) (fun _ => ?_) (fun c => absurd rfl c)
  exact kk hq3 hw hl
set_option maxHeartbeats 4000000 in
set_option maxRecDepth 10000 in
theorem law_look {γ : Ev} {σ : Mm} {b L : Nat} {xs : Nat → Int32} {n : Nat} {T : Nat → Mm} {Z : Mm} {x x1 x2 x3 a1 a2 a3 : Int32} (C0 : Cx p R s m args meth c RL cL_law 4 (some .boolean) 1500 50000 γ) (hcs : cells ≤ R.cells ∧ slots ≤ R.slots) (hB4 : isX4 γ 0) (hB5 : isX5 γ 49) (hX : va_X b L xs s s.heap) (hbl : b < s.heap.size) (hbA : ¬ AK γ b) (h : Inv n T Z) (hn : n < 512) (hx1 : x + 1 = x1) (hx2 : x + 2 = x2) (hx3 : x + 3 = x3) (hi1 : vp_in x1 L) (hi2 : vp_in x2 L) (hi3 : vp_in x3 L) (ha1 : xs x1.toNatClampNeg = a1) (ha2 : xs x2.toNatClampNeg = a2) (ha3 : xs x3.toNatClampNeg = a3) (hw : Wo γ (stT (st 10 σ 49 Z) 0 T) s H locs) (hl : lv_has ls 4 [(0, .ref b), (1, .ref (eA γ 0)), (2, .ref (eA γ 49)), (3, .int x)])
    (kk : ∀ {T : Nat → Mm} {Z : Mm} {H : Heap} {locs : List Loc}, Inv (n + 1) T Z → Wo γ (stT (st 10 σ 49 Z) 0 T) s H locs → lv_has ls 4 [(0, .ref b), (1, .ref (eA γ 0)), (2, .ref (eA γ 49)), (3, .int x)] → W p l e R s m args below meth c H locs cells slots Q (F0 m 727 ls [])) : W p l e R s m args below meth c H locs cells slots Q (F0 m 602 ls []) := by
  obtain ⟨hx, hb, hr, hml, hown, hts, hlk, hK, hd, hF, hL⟩ := id C0
  obtain ⟨r, T', Z', hq1, hq2, hq3⟩ := inv_look h hn a1
  refine lv_aload_n hx hb dL_law_602 rfl (lv_at hl 1 rfl) ?_
  refine lv_aload_n hx hb dL_law_603 rfl (lv_at hl 0 rfl) ?_
  refine lv_iload_n hx hb dL_law_604 rfl (lv_at hl 3 rfl) ?_
  refine lv_iconst (v := (1 : Int32)) hx hb dL_law_605 (by decide) ?_
  refine lv_iadd hx hb dL_law_606 ?_
  refine r_top hx1 ?_
  refine va_sld hx hb hX hbl hbA hw.2 hi1 dL_law_607 ?_
  refine r_top ha1 ?_
  refine r_Vi (rest := []) C0 hcs (c_X4_look (γ := γ) (o := 0) hB4 hq1) lk_L_91 (X4_k0 hB4) rfl rfl hl.1 rfl (Nat.le_of_ble_eq_true rfl) (by decide) hw dL_law_608 (fun {H} {locs} hw => ?_)
  refine lv_aload_n hx hb dL_law_611 rfl (lv_at hl 2 rfl) ?_
  refine lv_aload_n hx hb dL_law_612 rfl (lv_at hl 0 rfl) ?_
  refine lv_iload_n hx hb dL_law_613 rfl (lv_at hl 3 rfl) ?_
  refine lv_iconst (v := (1 : Int32)) hx hb dL_law_614 (by decide) ?_
  refine lv_iadd hx hb dL_law_615 ?_
  refine r_top hx1 ?_
  refine va_sld hx hb hX hbl hbA hw.2 hi1 dL_law_616 ?_
  refine r_top ha1 ?_
  replace hw := Wo.cg tz_swap.symm hw
  refine r_Vi (rest := [.int r]) C0 hcs (c_X5_look (γ := γ) (o := 49) hB5 hq2) lk_L_94 (X5_k0 hB5) rfl rfl hl.1 rfl (Nat.le_of_ble_eq_true rfl) (by decide) hw dL_law_617 (fun {H} {locs} hw => ?_)
  replace hw := Wo.cg tz_swap hw
  refine lv_icmp_eq (tgt := 727) hx hb dL_law_620 (by decide) (fun _ => ?_) (fun c => absurd rfl c)
  exact kk hq3 hw hl
set_option maxHeartbeats 4000000 in
set_option maxRecDepth 10000 in
theorem law_best {γ : Ev} {σ : Mm} {b L : Nat} {xs : Nat → Int32} {n : Nat} {T : Nat → Mm} {Z : Mm} {x x1 x2 x3 a1 a2 a3 : Int32} (C0 : Cx p R s m args meth c RL cL_law 4 (some .boolean) 1500 50000 γ) (hcs : cells ≤ R.cells ∧ slots ≤ R.slots) (hB4 : isX4 γ 0) (hB5 : isX5 γ 49) (hX : va_X b L xs s s.heap) (hbl : b < s.heap.size) (hbA : ¬ AK γ b) (h : Inv n T Z) (hn : n < 512) (hx1 : x + 1 = x1) (hx2 : x + 2 = x2) (hx3 : x + 3 = x3) (hi1 : vp_in x1 L) (hi2 : vp_in x2 L) (hi3 : vp_in x3 L) (ha1 : xs x1.toNatClampNeg = a1) (ha2 : xs x2.toNatClampNeg = a2) (ha3 : xs x3.toNatClampNeg = a3) (hw : Wo γ (stT (st 10 σ 49 Z) 0 T) s H locs) (hl : lv_has ls 4 [(0, .ref b), (1, .ref (eA γ 0)), (2, .ref (eA γ 49)), (3, .int x)])
    (kk : ∀ {T : Nat → Mm} {Z : Mm} {H : Heap} {locs : List Loc}, Inv (n + 1) T Z → Wo γ (stT (st 10 σ 49 Z) 0 T) s H locs → lv_has ls 4 [(0, .ref b), (1, .ref (eA γ 0)), (2, .ref (eA γ 49)), (3, .int x)] → W p l e R s m args below meth c H locs cells slots Q (F0 m 727 ls [])) : W p l e R s m args below meth c H locs cells slots Q (F0 m 625 ls []) := by
  obtain ⟨hx, hb, hr, hml, hown, hts, hlk, hK, hd, hF, hL⟩ := id C0
  obtain ⟨r, T', Z', hq1, hq2, hq3⟩ := inv_best h hn a1
  refine lv_aload_n hx hb dL_law_625 rfl (lv_at hl 1 rfl) ?_
  refine lv_aload_n hx hb dL_law_626 rfl (lv_at hl 0 rfl) ?_
  refine lv_iload_n hx hb dL_law_627 rfl (lv_at hl 3 rfl) ?_
  refine lv_iconst (v := (1 : Int32)) hx hb dL_law_628 (by decide) ?_
  refine lv_iadd hx hb dL_law_629 ?_
  refine r_top hx1 ?_
  refine va_sld hx hb hX hbl hbA hw.2 hi1 dL_law_630 ?_
  refine r_top ha1 ?_
  refine r_Vi (rest := []) C0 hcs (c_X4_best (γ := γ) (o := 0) hB4 hq1) lk_L_95 (X4_k0 hB4) rfl rfl hl.1 rfl (Nat.le_of_ble_eq_true rfl) (by decide) hw dL_law_631 (fun {H} {locs} hw => ?_)
  refine lv_aload_n hx hb dL_law_634 rfl (lv_at hl 2 rfl) ?_
  refine lv_aload_n hx hb dL_law_635 rfl (lv_at hl 0 rfl) ?_
  refine lv_iload_n hx hb dL_law_636 rfl (lv_at hl 3 rfl) ?_
  refine lv_iconst (v := (1 : Int32)) hx hb dL_law_637 (by decide) ?_
  refine lv_iadd hx hb dL_law_638 ?_
  refine r_top hx1 ?_
  refine va_sld hx hb hX hbl hbA hw.2 hi1 dL_law_639 ?_
  refine r_top ha1 ?_
  replace hw := Wo.cg tz_swap.symm hw
  refine r_Vi (rest := [.int r]) C0 hcs (c_X5_best (γ := γ) (o := 49) hB5 hq2) lk_L_98 (X5_k0 hB5) rfl rfl hl.1 rfl (Nat.le_of_ble_eq_true rfl) (by decide) hw dL_law_640 (fun {H} {locs} hw => ?_)
  replace hw := Wo.cg tz_swap hw
  refine lv_icmp_eq (tgt := 727) hx hb dL_law_643 (by decide) (fun _ => ?_) (fun c => absurd rfl c)
  exact kk hq3 hw hl
set_option maxHeartbeats 4000000 in
set_option maxRecDepth 10000 in
theorem law_levels {γ : Ev} {σ : Mm} {b L : Nat} {xs : Nat → Int32} {n : Nat} {T : Nat → Mm} {Z : Mm} {x x1 x2 x3 a1 a2 a3 : Int32} (C0 : Cx p R s m args meth c RL cL_law 4 (some .boolean) 1500 50000 γ) (hcs : cells ≤ R.cells ∧ slots ≤ R.slots) (hB4 : isX4 γ 0) (hB5 : isX5 γ 49) (hX : va_X b L xs s s.heap) (hbl : b < s.heap.size) (hbA : ¬ AK γ b) (h : Inv n T Z) (hn : n < 512) (hx1 : x + 1 = x1) (hx2 : x + 2 = x2) (hx3 : x + 3 = x3) (hi1 : vp_in x1 L) (hi2 : vp_in x2 L) (hi3 : vp_in x3 L) (ha1 : xs x1.toNatClampNeg = a1) (ha2 : xs x2.toNatClampNeg = a2) (ha3 : xs x3.toNatClampNeg = a3) (hw : Wo γ (stT (st 10 σ 49 Z) 0 T) s H locs) (hl : lv_has ls 4 [(0, .ref b), (1, .ref (eA γ 0)), (2, .ref (eA γ 49)), (3, .int x)])
    (kk : ∀ {T : Nat → Mm} {Z : Mm} {H : Heap} {locs : List Loc}, Inv (n + 1) T Z → Wo γ (stT (st 10 σ 49 Z) 0 T) s H locs → lv_has ls 4 [(0, .ref b), (1, .ref (eA γ 0)), (2, .ref (eA γ 49)), (3, .int x)] → W p l e R s m args below meth c H locs cells slots Q (F0 m 727 ls [])) : W p l e R s m args below meth c H locs cells slots Q (F0 m 648 ls []) := by
  obtain ⟨hx, hb, hr, hml, hown, hts, hlk, hK, hd, hF, hL⟩ := id C0
  obtain ⟨r, hq1, hq2, hq3⟩ := inv_levels h hn a1
  refine lv_aload_n hx hb dL_law_648 rfl (lv_at hl 1 rfl) ?_
  refine lv_aload_n hx hb dL_law_649 rfl (lv_at hl 0 rfl) ?_
  refine lv_iload_n hx hb dL_law_650 rfl (lv_at hl 3 rfl) ?_
  refine lv_iconst (v := (1 : Int32)) hx hb dL_law_651 (by decide) ?_
  refine lv_iadd hx hb dL_law_652 ?_
  refine r_top hx1 ?_
  refine va_sld hx hb hX hbl hbA hw.2 hi1 dL_law_653 ?_
  refine r_top ha1 ?_
  refine r_Vi (rest := []) C0 hcs (c_X4_levels (γ := γ) (o := 0) hB4 hq1) lk_L_99 (X4_k0 hB4) rfl rfl hl.1 rfl (Nat.le_of_ble_eq_true rfl) (by decide) hw dL_law_654 (fun {H} {locs} hw => ?_)
  refine lv_aload_n hx hb dL_law_657 rfl (lv_at hl 2 rfl) ?_
  refine lv_aload_n hx hb dL_law_658 rfl (lv_at hl 0 rfl) ?_
  refine lv_iload_n hx hb dL_law_659 rfl (lv_at hl 3 rfl) ?_
  refine lv_iconst (v := (1 : Int32)) hx hb dL_law_660 (by decide) ?_
  refine lv_iadd hx hb dL_law_661 ?_
  refine r_top hx1 ?_
  refine va_sld hx hb hX hbl hbA hw.2 hi1 dL_law_662 ?_
  refine r_top ha1 ?_
  replace hw := Wo.cg tz_swap.symm hw
  refine r_Vi (rest := [.int r]) C0 hcs (c_X5_levels (γ := γ) (o := 49) hB5 hq2) lk_L_102 (X5_k0 hB5) rfl rfl hl.1 rfl (Nat.le_of_ble_eq_true rfl) (by decide) hw dL_law_663 (fun {H} {locs} hw => ?_)
  replace hw := Wo.cg tz_swap hw
  refine lv_icmp_eq (tgt := 727) hx hb dL_law_666 (by decide) (fun _ => ?_) (fun c => absurd rfl c)
  exact kk hq3 hw hl
set_option maxHeartbeats 4000000 in
set_option maxRecDepth 10000 in
theorem law_made {γ : Ev} {σ : Mm} {b L : Nat} {xs : Nat → Int32} {n : Nat} {T : Nat → Mm} {Z : Mm} {x x1 x2 x3 a1 a2 a3 : Int32} (C0 : Cx p R s m args meth c RL cL_law 4 (some .boolean) 1500 50000 γ) (hcs : cells ≤ R.cells ∧ slots ≤ R.slots) (hB4 : isX4 γ 0) (hB5 : isX5 γ 49) (hX : va_X b L xs s s.heap) (hbl : b < s.heap.size) (hbA : ¬ AK γ b) (h : Inv n T Z) (hn : n < 512) (hx1 : x + 1 = x1) (hx2 : x + 2 = x2) (hx3 : x + 3 = x3) (hi1 : vp_in x1 L) (hi2 : vp_in x2 L) (hi3 : vp_in x3 L) (ha1 : xs x1.toNatClampNeg = a1) (ha2 : xs x2.toNatClampNeg = a2) (ha3 : xs x3.toNatClampNeg = a3) (hw : Wo γ (stT (st 10 σ 49 Z) 0 T) s H locs) (hl : lv_has ls 4 [(0, .ref b), (1, .ref (eA γ 0)), (2, .ref (eA γ 49)), (3, .int x)])
    (kk : ∀ {T : Nat → Mm} {Z : Mm} {H : Heap} {locs : List Loc}, Inv (n + 1) T Z → Wo γ (stT (st 10 σ 49 Z) 0 T) s H locs → lv_has ls 4 [(0, .ref b), (1, .ref (eA γ 0)), (2, .ref (eA γ 49)), (3, .int x)] → W p l e R s m args below meth c H locs cells slots Q (F0 m 727 ls [])) : W p l e R s m args below meth c H locs cells slots Q (F0 m 671 ls []) := by
  obtain ⟨hx, hb, hr, hml, hown, hts, hlk, hK, hd, hF, hL⟩ := id C0
  obtain ⟨r, hq1, hq2, hq3⟩ := inv_made h hn a1 a2
  refine lv_aload_n hx hb dL_law_671 rfl (lv_at hl 1 rfl) ?_
  refine lv_aload_n hx hb dL_law_672 rfl (lv_at hl 0 rfl) ?_
  refine lv_iload_n hx hb dL_law_673 rfl (lv_at hl 3 rfl) ?_
  refine lv_iconst (v := (1 : Int32)) hx hb dL_law_674 (by decide) ?_
  refine lv_iadd hx hb dL_law_675 ?_
  refine r_top hx1 ?_
  refine va_sld hx hb hX hbl hbA hw.2 hi1 dL_law_676 ?_
  refine r_top ha1 ?_
  refine lv_aload_n hx hb dL_law_677 rfl (lv_at hl 0 rfl) ?_
  refine lv_iload_n hx hb dL_law_678 rfl (lv_at hl 3 rfl) ?_
  refine lv_iconst (v := (2 : Int32)) hx hb dL_law_679 (by decide) ?_
  refine lv_iadd hx hb dL_law_680 ?_
  refine r_top hx2 ?_
  refine va_sld hx hb hX hbl hbA hw.2 hi2 dL_law_681 ?_
  refine r_top ha2 ?_
  refine r_Vi (rest := []) C0 hcs (c_X4_made (γ := γ) (o := 0) hB4 hq1) lk_L_103 (X4_k0 hB4) rfl rfl hl.1 rfl (Nat.le_of_ble_eq_true rfl) (by decide) hw dL_law_682 (fun {H} {locs} hw => ?_)
  refine lv_aload_n hx hb dL_law_685 rfl (lv_at hl 2 rfl) ?_
  refine lv_aload_n hx hb dL_law_686 rfl (lv_at hl 0 rfl) ?_
  refine lv_iload_n hx hb dL_law_687 rfl (lv_at hl 3 rfl) ?_
  refine lv_iconst (v := (1 : Int32)) hx hb dL_law_688 (by decide) ?_
  refine lv_iadd hx hb dL_law_689 ?_
  refine r_top hx1 ?_
  refine va_sld hx hb hX hbl hbA hw.2 hi1 dL_law_690 ?_
  refine r_top ha1 ?_
  refine lv_aload_n hx hb dL_law_691 rfl (lv_at hl 0 rfl) ?_
  refine lv_iload_n hx hb dL_law_692 rfl (lv_at hl 3 rfl) ?_
  refine lv_iconst (v := (2 : Int32)) hx hb dL_law_693 (by decide) ?_
  refine lv_iadd hx hb dL_law_694 ?_
  refine r_top hx2 ?_
  refine va_sld hx hb hX hbl hbA hw.2 hi2 dL_law_695 ?_
  refine r_top ha2 ?_
  replace hw := Wo.cg tz_swap.symm hw
  refine r_Vi (rest := [.int r]) C0 hcs (c_X5_made (γ := γ) (o := 49) hB5 hq2) lk_L_106 (X5_k0 hB5) rfl rfl hl.1 rfl (Nat.le_of_ble_eq_true rfl) (by decide) hw dL_law_696 (fun {H} {locs} hw => ?_)
  replace hw := Wo.cg tz_swap hw
  refine lv_icmp_eq (tgt := 727) hx hb dL_law_699 (by decide) (fun _ => ?_) (fun c => absurd rfl c)
  exact kk hq3 hw hl
set_option maxHeartbeats 4000000 in
set_option maxRecDepth 10000 in
theorem law_count {γ : Ev} {σ : Mm} {b L : Nat} {xs : Nat → Int32} {n : Nat} {T : Nat → Mm} {Z : Mm} {x x1 x2 x3 a1 a2 a3 : Int32} (C0 : Cx p R s m args meth c RL cL_law 4 (some .boolean) 1500 50000 γ) (hcs : cells ≤ R.cells ∧ slots ≤ R.slots) (hB4 : isX4 γ 0) (hB5 : isX5 γ 49) (hX : va_X b L xs s s.heap) (hbl : b < s.heap.size) (hbA : ¬ AK γ b) (h : Inv n T Z) (hn : n < 512) (hx1 : x + 1 = x1) (hx2 : x + 2 = x2) (hx3 : x + 3 = x3) (hi1 : vp_in x1 L) (hi2 : vp_in x2 L) (hi3 : vp_in x3 L) (ha1 : xs x1.toNatClampNeg = a1) (ha2 : xs x2.toNatClampNeg = a2) (ha3 : xs x3.toNatClampNeg = a3) (hw : Wo γ (stT (st 10 σ 49 Z) 0 T) s H locs) (hl : lv_has ls 4 [(0, .ref b), (1, .ref (eA γ 0)), (2, .ref (eA γ 49)), (3, .int x)])
    (kk : ∀ {T : Nat → Mm} {Z : Mm} {H : Heap} {locs : List Loc}, Inv (n + 1) T Z → Wo γ (stT (st 10 σ 49 Z) 0 T) s H locs → lv_has ls 4 [(0, .ref b), (1, .ref (eA γ 0)), (2, .ref (eA γ 49)), (3, .int x)] → W p l e R s m args below meth c H locs cells slots Q (F0 m 727 ls [])) : W p l e R s m args below meth c H locs cells slots Q (F0 m 704 ls []) := by
  obtain ⟨hx, hb, hr, hml, hown, hts, hlk, hK, hd, hF, hL⟩ := id C0
  obtain ⟨r, Z', hq1, hq2, hq3⟩ := inv_count h hn a1
  refine lv_aload_n hx hb dL_law_704 rfl (lv_at hl 1 rfl) ?_
  refine lv_aload_n hx hb dL_law_705 rfl (lv_at hl 0 rfl) ?_
  refine lv_iload_n hx hb dL_law_706 rfl (lv_at hl 3 rfl) ?_
  refine lv_iconst (v := (1 : Int32)) hx hb dL_law_707 (by decide) ?_
  refine lv_iadd hx hb dL_law_708 ?_
  refine r_top hx1 ?_
  refine va_sld hx hb hX hbl hbA hw.2 hi1 dL_law_709 ?_
  refine r_top ha1 ?_
  refine r_Vi (rest := []) C0 hcs (c_X4_count (γ := γ) (o := 0) hB4 hq1) lk_L_107 (X4_k0 hB4) rfl rfl hl.1 rfl (Nat.le_of_ble_eq_true rfl) (by decide) hw dL_law_710 (fun {H} {locs} hw => ?_)
  refine lv_aload_n hx hb dL_law_713 rfl (lv_at hl 2 rfl) ?_
  refine lv_aload_n hx hb dL_law_714 rfl (lv_at hl 0 rfl) ?_
  refine lv_iload_n hx hb dL_law_715 rfl (lv_at hl 3 rfl) ?_
  refine lv_iconst (v := (1 : Int32)) hx hb dL_law_716 (by decide) ?_
  refine lv_iadd hx hb dL_law_717 ?_
  refine r_top hx1 ?_
  refine va_sld hx hb hX hbl hbA hw.2 hi1 dL_law_718 ?_
  refine r_top ha1 ?_
  replace hw := Wo.cg tz_swap.symm hw
  refine r_Vi (rest := [.int r]) C0 hcs (c_X5_count (γ := γ) (o := 49) hB5 hq2) lk_L_110 (X5_k0 hB5) rfl rfl hl.1 rfl (Nat.le_of_ble_eq_true rfl) (by decide) hw dL_law_719 (fun {H} {locs} hw => ?_)
  replace hw := Wo.cg tz_swap hw
  refine lv_icmp_eq (tgt := 727) hx hb dL_law_722 (by decide) (fun _ => ?_) (fun c => absurd rfl c)
  exact kk hq3 hw hl
set_option maxHeartbeats 4000000 in
set_option maxRecDepth 10000 in
theorem law_step {γ : Ev} {σ : Mm} {b L : Nat} {xs : Nat → Int32} {n : Nat} {T : Nat → Mm} {Z : Mm} {x : Int32} (C0 : Cx p R s m args meth c RL cL_law 4 (some .boolean) 1500 50000 γ) (hcs : cells ≤ R.cells ∧ slots ≤ R.slots) (hB4 : isX4 γ 0) (hB5 : isX5 γ 49) (hX : va_X b L xs s s.heap) (hbl : b < s.heap.size) (hbA : ¬ AK γ b) (h : Inv n T Z) (hn : n < 512) (hL : L ≤ 2048) (hxn : x = nI (4 * n)) (hin : 4 * n + 3 < L) (hw : Wo γ (stT (st 10 σ 49 Z) 0 T) s H locs) (hl : lv_has ls 4 [(0, .ref b), (1, .ref (eA γ 0)), (2, .ref (eA γ 49)), (3, .int x)])
    (kk : ∀ {T : Nat → Mm} {Z : Mm} {H : Heap} {locs : List Loc}, Inv (n + 1) T Z → Wo γ (stT (st 10 σ 49 Z) 0 T) s H locs → lv_has ls 4 [(0, .ref b), (1, .ref (eA γ 0)), (2, .ref (eA γ 49)), (3, .int x)] → W p l e R s m args below meth c H locs cells slots Q (F0 m 727 ls [])) : W p l e R s m args below meth c H locs cells slots Q (F0 m 26 ls []) := by
  obtain ⟨hx, hb, hr, hml, hown, hts, hlk, hK, hd, hF, hL'⟩ := id C0
  have i0 : vp_in x L := by rw [hxn]; exact vp_in_nI (by omega) (by omega)
  have i1 : vp_in (x + 1) L := by rw [hxn, nI_1]; exact vp_in_nI (by omega) (by omega)
  have i2 : vp_in (x + 2) L := by rw [hxn, show (2 : Int32) = nI 2 from rfl, nI_add]; exact vp_in_nI (by omega) (by omega)
  have i3 : vp_in (x + 3) L := by rw [hxn, show (3 : Int32) = nI 3 from rfl, nI_add]; exact vp_in_nI (by omega) (by omega)
  refine lv_aload_n hx hb dL_law_26 rfl (lv_at hl 0 rfl) ?_
  refine lv_iload_n hx hb dL_law_27 rfl (lv_at hl 3 rfl) ?_
  refine va_sld hx hb hX hbl hbA hw.2 i0 dL_law_28 ?_
  refine lv_bipush (v := (31 : Int32)) hx hb dL_law_29 (by decide) ?_
  refine lv_iand hx hb dL_law_31 ?_
  generalize (xs x.toNatClampNeg &&& 31) = y
  by_cases c0 : y = (0 : Int32)
  · refine r_tabIn (tgt := 140) (off := 108) hx hb dL_law_32 c0 (by decide) (by decide) (by decide) (by decide) ?_
    exact law_lay C0 hcs hB4 hB5 hX hbl hbA h hn rfl rfl rfl i1 i2 i3 rfl rfl rfl hw hl kk
  by_cases c1 : y = (1 : Int32)
  · refine r_tabIn (tgt := 173) (off := 141) hx hb dL_law_32 c1 (by decide) (by decide) (by decide) (by decide) ?_
    exact law_push C0 hcs hB4 hB5 hX hbl hbA h hn rfl rfl rfl i1 i2 i3 rfl rfl rfl rfl hw hl kk
  by_cases c2 : y = (2 : Int32)
  · refine r_tabIn (tgt := 222) (off := 190) hx hb dL_law_32 c2 (by decide) (by decide) (by decide) (by decide) ?_
    exact law_play C0 hcs hB4 hB5 hX hbl hbA h hn rfl rfl rfl i1 i2 i3 rfl rfl rfl hw hl kk
  by_cases c3 : y = (3 : Int32)
  · refine r_tabIn (tgt := 245) (off := 213) hx hb dL_law_32 c3 (by decide) (by decide) (by decide) (by decide) ?_
    exact law_setBag C0 hcs hB4 hB5 hX hbl hbA h hn rfl rfl rfl i1 i2 i3 rfl rfl rfl hw hl kk
  by_cases c4 : y = (4 : Int32)
  · refine r_tabIn (tgt := 288) (off := 256) hx hb dL_law_32 c4 (by decide) (by decide) (by decide) (by decide) ?_
    exact law_set C0 hcs hB4 hB5 hX hbl hbA h hn rfl rfl rfl i1 i2 i3 rfl rfl rfl hw hl kk
  by_cases c5 : y = (5 : Int32)
  · refine r_tabIn (tgt := 321) (off := 289) hx hb dL_law_32 c5 (by decide) (by decide) (by decide) (by decide) ?_
    exact law_setUp C0 hcs hB4 hB5 hX hbl hbA h hn rfl rfl rfl i1 i2 i3 rfl rfl rfl hw hl kk
  by_cases c6 : y = (6 : Int32)
  · refine r_tabIn (tgt := 354) (off := 322) hx hb dL_law_32 c6 (by decide) (by decide) (by decide) (by decide) ?_
    exact law_begin C0 hcs hB4 hB5 hX hbl hbA h hn rfl rfl rfl i1 i2 i3 rfl rfl rfl hw hl kk
  by_cases c7 : y = (7 : Int32)
  · refine r_tabIn (tgt := 367) (off := 335) hx hb dL_law_32 c7 (by decide) (by decide) (by decide) (by decide) ?_
    exact law_type C0 hcs hB4 hB5 hX hbl hbA h hn rfl rfl rfl i1 i2 i3 rfl rfl rfl hw hl kk
  by_cases c8 : y = (8 : Int32)
  · refine r_tabIn (tgt := 392) (off := 360) hx hb dL_law_32 c8 (by decide) (by decide) (by decide) (by decide) ?_
    exact law_clearText C0 hcs hB4 hB5 hX hbl hbA h hn rfl rfl rfl i1 i2 i3 rfl rfl rfl hw hl kk
  by_cases c9 : y = (9 : Int32)
  · refine r_tabIn (tgt := 405) (off := 373) hx hb dL_law_32 c9 (by decide) (by decide) (by decide) (by decide) ?_
    exact law_perform C0 hcs hB4 hB5 hX hbl hbA h hn rfl rfl rfl i1 i2 i3 rfl rfl rfl hw hl kk
  by_cases c10 : y = (10 : Int32)
  · refine r_tabIn (tgt := 418) (off := 386) hx hb dL_law_32 c10 (by decide) (by decide) (by decide) (by decide) ?_
    exact law_stopped C0 hcs hB4 hB5 hX hbl hbA h hn rfl rfl rfl i1 i2 i3 rfl rfl rfl hw hl kk
  by_cases c11 : y = (11 : Int32)
  · refine r_tabIn (tgt := 441) (off := 409) hx hb dL_law_32 c11 (by decide) (by decide) (by decide) (by decide) ?_
    exact law_undo C0 hcs hB4 hB5 hX hbl hbA h hn rfl rfl rfl i1 i2 i3 rfl rfl rfl hw hl kk
  by_cases c12 : y = (12 : Int32)
  · refine r_tabIn (tgt := 454) (off := 422) hx hb dL_law_32 c12 (by decide) (by decide) (by decide) (by decide) ?_
    exact law_keep C0 hcs hB4 hB5 hX hbl hbA h hn rfl rfl rfl i1 i2 i3 rfl rfl rfl hw hl kk
  by_cases c13 : y = (13 : Int32)
  · refine r_tabIn (tgt := 467) (off := 435) hx hb dL_law_32 c13 (by decide) (by decide) (by decide) (by decide) ?_
    exact law_restore C0 hcs hB4 hB5 hX hbl hbA h hn rfl rfl rfl i1 i2 i3 rfl rfl rfl hw hl kk
  by_cases c14 : y = (14 : Int32)
  · refine r_tabIn (tgt := 480) (off := 448) hx hb dL_law_32 c14 (by decide) (by decide) (by decide) (by decide) ?_
    exact law_at C0 hcs hB4 hB5 hX hbl hbA h hn rfl rfl rfl i1 i2 i3 rfl rfl rfl hw hl kk
  by_cases c15 : y = (15 : Int32)
  · refine r_tabIn (tgt := 513) (off := 481) hx hb dL_law_32 c15 (by decide) (by decide) (by decide) (by decide) ?_
    exact law_bag C0 hcs hB4 hB5 hX hbl hbA h hn rfl rfl rfl i1 i2 i3 rfl rfl rfl hw hl kk
  by_cases c16 : y = (16 : Int32)
  · refine r_tabIn (tgt := 546) (off := 514) hx hb dL_law_32 c16 (by decide) (by decide) (by decide) (by decide) ?_
    exact law_reason C0 hcs hB4 hB5 hX hbl hbA h hn rfl rfl rfl i1 i2 i3 rfl rfl rfl hw hl kk
  by_cases c17 : y = (17 : Int32)
  · refine r_tabIn (tgt := 579) (off := 547) hx hb dL_law_32 c17 (by decide) (by decide) (by decide) (by decide) ?_
    exact law_possible C0 hcs hB4 hB5 hX hbl hbA h hn rfl rfl rfl i1 i2 i3 rfl rfl rfl hw hl kk
  by_cases c18 : y = (18 : Int32)
  · refine r_tabIn (tgt := 602) (off := 570) hx hb dL_law_32 c18 (by decide) (by decide) (by decide) (by decide) ?_
    exact law_look C0 hcs hB4 hB5 hX hbl hbA h hn rfl rfl rfl i1 i2 i3 rfl rfl rfl hw hl kk
  by_cases c19 : y = (19 : Int32)
  · refine r_tabIn (tgt := 625) (off := 593) hx hb dL_law_32 c19 (by decide) (by decide) (by decide) (by decide) ?_
    exact law_best C0 hcs hB4 hB5 hX hbl hbA h hn rfl rfl rfl i1 i2 i3 rfl rfl rfl hw hl kk
  by_cases c20 : y = (20 : Int32)
  · refine r_tabIn (tgt := 648) (off := 616) hx hb dL_law_32 c20 (by decide) (by decide) (by decide) (by decide) ?_
    exact law_levels C0 hcs hB4 hB5 hX hbl hbA h hn rfl rfl rfl i1 i2 i3 rfl rfl rfl hw hl kk
  by_cases c21 : y = (21 : Int32)
  · refine r_tabIn (tgt := 671) (off := 639) hx hb dL_law_32 c21 (by decide) (by decide) (by decide) (by decide) ?_
    exact law_made C0 hcs hB4 hB5 hX hbl hbA h hn rfl rfl rfl i1 i2 i3 rfl rfl rfl hw hl kk
  by_cases c22 : y = (22 : Int32)
  · refine r_tabIn (tgt := 704) (off := 672) hx hb dL_law_32 c22 (by decide) (by decide) (by decide) (by decide) ?_
    exact law_count C0 hcs hB4 hB5 hX hbl hbA h hn rfl rfl rfl i1 i2 i3 rfl rfl rfl hw hl kk
  refine lv_tableOut (tgt := 727) hx hb dL_law_32 (by have q0 := i32_ne (z := 0) rfl c0; have q1 := i32_ne (z := 1) rfl c1; have q2 := i32_ne (z := 2) rfl c2; have q3 := i32_ne (z := 3) rfl c3; have q4 := i32_ne (z := 4) rfl c4; have q5 := i32_ne (z := 5) rfl c5; have q6 := i32_ne (z := 6) rfl c6; have q7 := i32_ne (z := 7) rfl c7; have q8 := i32_ne (z := 8) rfl c8; have q9 := i32_ne (z := 9) rfl c9; have q10 := i32_ne (z := 10) rfl c10; have q11 := i32_ne (z := 11) rfl c11; have q12 := i32_ne (z := 12) rfl c12; have q13 := i32_ne (z := 13) rfl c13; have q14 := i32_ne (z := 14) rfl c14; have q15 := i32_ne (z := 15) rfl c15; have q16 := i32_ne (z := 16) rfl c16; have q17 := i32_ne (z := 17) rfl c17; have q18 := i32_ne (z := 18) rfl c18; have q19 := i32_ne (z := 19) rfl c19; have q20 := i32_ne (z := 20) rfl c20; have q21 := i32_ne (z := 21) rfl c21; have q22 := i32_ne (z := 22) rfl c22; omega) (by decide) ?_
  exact kk (inv_skip h) hw hl
end
