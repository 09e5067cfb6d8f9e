section
variable {p : Program} {l : Launch} {e : Env} {R : Room} {s : State} {m : MethodId} {args : Array Value} {below : List Frame} {meth : Method} {c : Code} {H : Heap} {locs : List Loc} {ls : Array Slot}
set_option maxHeartbeats 4000000 in
set_option maxRecDepth 10000 in
theorem b_X5_moveIt_L115 {γ : Ev} {o : Nat} {σ : Mm} {Bf : Mm} {r : Int32} (C : Cx p R s m args meth c RX5 cX5_moveIt 7 (some .int) 5 121 γ) (hB : isX5 γ o) : ∀ (n : Nat) {Z : Mm} {x1 : Int32} {x2 : Int32} {x3 : Int32} {x5 : Int32} {x6 : Int32} {H : Heap} {locs : List Loc} {ls : Array Slot}, s_X5_moveIt_L115 n Z x1 x2 x3 x5 x6 = some (r, Bf) → Wo γ (st 10 σ o Z) s H locs → lv_has ls 7 [(0, .ref (eA γ o)), (1, .int x1), (2, .int x2), (3, .int x3), (5, .int x5), (6, .int x6)] → W p l e R s m args below meth c H locs 0 0 (MQ below (Qo γ (some (.int r)) (st 10 σ o Bf)) args s 0 0 (AK γ)) (F0 m 115 ls []) := by
  have C0 := C
  obtain ⟨hx, hb, hr, hml, hown, hts, hlk, hK, hd, hF, hL⟩ := C
  intro n
  induction n with
  | zero => intro Z x1 x2 x3 x5 x6 H locs ls h; cases h
  | succ n ih =>
    intro Z x1 x2 x3 x5 x6 H locs ls h hw hl
    unfold s_X5_moveIt_L115 at h
    refine lv_iload hx hb dX5_moveIt_115 (lv_at hl 5 rfl) ?_
    refine lv_sipush (v := (156 : Int32)) hx hb dX5_moveIt_117 (by decide) ?_
    refine lv_icmp_ge (tgt := 151) hx hb dX5_moveIt_120 (by decide) (fun c31 => ?_) (fun c31 => ?_)
    · replace h := ifp c31 h
      refine lv_aload_n hx hb dX5_moveIt_151 rfl (lv_at hl 0 rfl) ?_
      refine r_get (v := .ref (eA γ (o + 1))) hx hb hts hK hw hown inX5 rfl (X5_k0 hB) (st_at0 (by decide)) 0 (by decide) wd_573 rfl dX5_moveIt_152 ?_
      refine lv_bipush (v := (12 : Int32)) hx hb dX5_moveIt_155 (by decide) ?_
      refine lv_dup2_11 hx hb dX5_moveIt_157 rfl rfl ?_
      obtain ⟨v32, hv32, h⟩ := ob h
      refine r_iald hx hb hK hw (X5_k1 hB) (st_at (by decide)) hv32 dX5_moveIt_158 ?_
      refine lv_iconst (v := (1 : Int32)) hx hb dX5_moveIt_159 (by decide) ?_
      refine lv_isub hx hb dX5_moveIt_160 ?_
      obtain ⟨N33, hN33, h⟩ := ob h
      refine r_iast hx hb hK hd hw (by decide) (X5_k1 hB) hN33 dX5_moveIt_161 (fun {H} {locs} hw => ?_)
      refine lv_bipush (v := (83 : Int32)) hx hb dX5_moveIt_162 (by decide) ?_
      refine lv_iconst (v := (4 : Int32)) hx hb dX5_moveIt_164 (by decide) ?_
      refine lv_aload_n hx hb dX5_moveIt_165 rfl (lv_at hl 0 rfl) ?_
      refine r_get (v := .ref (eA γ (o + 1))) hx hb hts hK hw hown inX5 rfl (X5_k0 hB) (st_at0 (by decide)) 0 (by decide) wd_573 rfl dX5_moveIt_166 ?_
      refine lv_bipush (v := (12 : Int32)) hx hb dX5_moveIt_169 (by decide) ?_
      obtain ⟨v34, hv34, h⟩ := ob h
      refine r_iald hx hb hK hw (X5_k1 hB) (st_at (by decide)) hv34 dX5_moveIt_171 ?_
      refine lv_imul hx hb dX5_moveIt_172 ?_
      refine lv_iadd hx hb dX5_moveIt_173 ?_
      obtain ⟨v35, ev35, h⟩ := jb h
      refine r_top ev35 ?_
      refine lv_istore (lv' := [(6, .int v35), (0, .ref (eA γ o)), (1, .int x1), (2, .int x2), (3, .int x3), (5, .int x5)]) hx hb dX5_moveIt_174 hl (by decide) rfl (fun ls hl => ?_)
      refine lv_aload_n hx hb dX5_moveIt_176 rfl (lv_at hl 1 rfl) ?_
      refine r_get (v := .ref (eA γ (o + 1))) hx hb hts hK hw hown inX5 rfl (X5_k0 hB) (st_at0 (by decide)) 0 (by decide) wd_573 rfl dX5_moveIt_177 ?_
      refine lv_iload hx hb dX5_moveIt_180 (lv_at hl 0 rfl) ?_
      refine lv_iload_n hx hb dX5_moveIt_182 rfl (lv_at hl 4 rfl) ?_
      obtain ⟨N36, hN36, h⟩ := ob h
      refine r_iast hx hb hK hd hw (by decide) (X5_k1 hB) hN36 dX5_moveIt_183 (fun {H} {locs} hw => ?_)
      refine lv_aload_n hx hb dX5_moveIt_184 rfl (lv_at hl 1 rfl) ?_
      refine r_get (v := .ref (eA γ (o + 1))) hx hb hts hK hw hown inX5 rfl (X5_k0 hB) (st_at0 (by decide)) 0 (by decide) wd_573 rfl dX5_moveIt_185 ?_
      refine lv_iload hx hb dX5_moveIt_188 (lv_at hl 0 rfl) ?_
      refine lv_iconst (v := (1 : Int32)) hx hb dX5_moveIt_190 (by decide) ?_
      refine lv_iadd hx hb dX5_moveIt_191 ?_
      refine lv_iload_n hx hb dX5_moveIt_192 rfl (lv_at hl 2 rfl) ?_
      obtain ⟨N37, hN37, h⟩ := ob h
      refine r_iast hx hb hK hd hw (by decide) (X5_k1 hB) hN37 dX5_moveIt_193 (fun {H} {locs} hw => ?_)
      refine lv_aload_n hx hb dX5_moveIt_194 rfl (lv_at hl 1 rfl) ?_
      refine r_get (v := .ref (eA γ (o + 1))) hx hb hts hK hw hown inX5 rfl (X5_k0 hB) (st_at0 (by decide)) 0 (by decide) wd_573 rfl dX5_moveIt_195 ?_
      refine lv_iload hx hb dX5_moveIt_198 (lv_at hl 0 rfl) ?_
      refine lv_iconst (v := (2 : Int32)) hx hb dX5_moveIt_200 (by decide) ?_
      refine lv_iadd hx hb dX5_moveIt_201 ?_
      refine lv_iload_n hx hb dX5_moveIt_202 rfl (lv_at hl 3 rfl) ?_
      obtain ⟨N38, hN38, h⟩ := ob h
      refine r_iast hx hb hK hd hw (by decide) (X5_k1 hB) hN38 dX5_moveIt_203 (fun {H} {locs} hw => ?_)
      refine lv_aload_n hx hb dX5_moveIt_204 rfl (lv_at hl 1 rfl) ?_
      refine r_get (v := .ref (eA γ (o + 1))) hx hb hts hK hw hown inX5 rfl (X5_k0 hB) (st_at0 (by decide)) 0 (by decide) wd_573 rfl dX5_moveIt_205 ?_
      refine lv_iload hx hb dX5_moveIt_208 (lv_at hl 0 rfl) ?_
      refine lv_iconst (v := (3 : Int32)) hx hb dX5_moveIt_210 (by decide) ?_
      refine lv_iadd hx hb dX5_moveIt_211 ?_
      refine lv_iload hx hb dX5_moveIt_212 (lv_at hl 5 rfl) ?_
      obtain ⟨N39, hN39, h⟩ := ob h
      refine r_iast hx hb hK hd hw (by decide) (X5_k1 hB) hN39 dX5_moveIt_214 (fun {H} {locs} hw => ?_)
      refine lv_aload_n hx hb dX5_moveIt_215 rfl (lv_at hl 1 rfl) ?_
      refine r_get (v := .ref (eA γ (o + 1))) hx hb hts hK hw hown inX5 rfl (X5_k0 hB) (st_at0 (by decide)) 0 (by decide) wd_573 rfl dX5_moveIt_216 ?_
      refine lv_bipush (v := (12 : Int32)) hx hb dX5_moveIt_219 (by decide) ?_
      refine lv_dup2_11 hx hb dX5_moveIt_221 rfl rfl ?_
      obtain ⟨v40, hv40, h⟩ := ob h
      refine r_iald hx hb hK hw (X5_k1 hB) (st_at (by decide)) hv40 dX5_moveIt_222 ?_
      refine lv_iconst (v := (1 : Int32)) hx hb dX5_moveIt_223 (by decide) ?_
      refine lv_iadd hx hb dX5_moveIt_224 ?_
      obtain ⟨N41, hN41, h⟩ := ob h
      refine r_iast hx hb hK hd hw (by decide) (X5_k1 hB) hN41 dX5_moveIt_225 (fun {H} {locs} hw => ?_)
      refine lv_aload_n hx hb dX5_moveIt_226 rfl (lv_at hl 1 rfl) ?_
      refine r_get (v := .ref (eA γ (o + 1))) hx hb hts hK hw hown inX5 rfl (X5_k0 hB) (st_at0 (by decide)) 0 (by decide) wd_573 rfl dX5_moveIt_227 ?_
      refine lv_iconst (v := (5 : Int32)) hx hb dX5_moveIt_230 (by decide) ?_
      obtain ⟨v42, hv42, h⟩ := ob h
      refine r_iald hx hb hK hw (X5_k1 hB) (st_at (by decide)) hv42 dX5_moveIt_231 ?_
      obtain ⟨h1, h2⟩ := s2 h
      subst h1
      subst h2
      exact r_iret hx hb hr hlk hK hd hw dX5_moveIt_232
    · replace h := ifn c31 h
      refine lv_aload_n hx hb dX5_moveIt_123 rfl (lv_at hl 0 rfl) ?_
      refine r_get (v := .ref (eA γ (o + 1))) hx hb hts hK hw hown inX5 rfl (X5_k0 hB) (st_at0 (by decide)) 0 (by decide) wd_573 rfl dX5_moveIt_124 ?_
      refine lv_bipush (v := (83 : Int32)) hx hb dX5_moveIt_127 (by decide) ?_
      refine lv_iload hx hb dX5_moveIt_129 (lv_at hl 5 rfl) ?_
      refine lv_iadd hx hb dX5_moveIt_131 ?_
      refine lv_aload_n hx hb dX5_moveIt_132 rfl (lv_at hl 0 rfl) ?_
      refine r_get (v := .ref (eA γ (o + 1))) hx hb hts hK hw hown inX5 rfl (X5_k0 hB) (st_at0 (by decide)) 0 (by decide) wd_573 rfl dX5_moveIt_133 ?_
      refine lv_bipush (v := (83 : Int32)) hx hb dX5_moveIt_136 (by decide) ?_
      refine lv_iload hx hb dX5_moveIt_138 (lv_at hl 5 rfl) ?_
      refine lv_iadd hx hb dX5_moveIt_140 ?_
      refine lv_iconst (v := (4 : Int32)) hx hb dX5_moveIt_141 (by decide) ?_
      refine lv_iadd hx hb dX5_moveIt_142 ?_
      obtain ⟨v43, hv43, h⟩ := ob h
      refine r_iald hx hb hK hw (X5_k1 hB) (st_at (by decide)) hv43 dX5_moveIt_143 ?_
      obtain ⟨N44, hN44, h⟩ := ob h
      refine r_iast hx hb hK hd hw (by decide) (X5_k1 hB) hN44 dX5_moveIt_144 (fun {H} {locs} hw => ?_)
      obtain ⟨v45, ev45, h⟩ := jb h
      refine lv_iinc (v := v45) (lv' := [(6, .int v45), (0, .ref (eA γ o)), (1, .int x1), (2, .int x2), (3, .int x3), (5, .int x5)]) hx hb dX5_moveIt_145 hl (k := 5) rfl (by rw [← ev45]; rfl) (by decide) rfl (fun ls hl => ?_)
      refine lv_goto (tgt := 115) hx hb dX5_moveIt_148 (by decide) ?_
      exact ih h hw (lv_sub hl [1, 2, 3, 4, 5, 0] rfl)
set_option maxHeartbeats 4000000 in
set_option maxRecDepth 10000 in
theorem b_X5_moveIt {γ : Ev} {o : Nat} {σ : Mm} {Bf : Mm} {r : Int32} {Z : Mm} {x1 x2 : Int32} (C : Cx p R s m args meth c RX5 cX5_moveIt 7 (some .int) 5 121 γ) (hB : isX5 γ o) (h : s_X5_moveIt Z x1 x2 = some (r, Bf)) (hw : Wo γ (st 10 σ o Z) s H locs) (hl : lv_has ls 7 [(0, .ref (eA γ o)), (1, .int x1), (2, .int x2)]) : W p l e R s m args below meth c H locs 0 0 (MQ below (Qo γ (some (.int r)) (st 10 σ o Bf)) args s 0 0 (AK γ)) (F0 m 0 ls []) := by
  have C0 := C
  obtain ⟨hx, hb, hr, hml, hown, hts, hlk, hK, hd, hF, hL⟩ := C
  unfold s_X5_moveIt at h
  refine lv_aload_n hx hb dX5_moveIt_0 rfl (lv_at hl 0 rfl) ?_
  refine r_get (v := .ref (eA γ (o + 1))) hx hb hts hK hw hown inX5 rfl (X5_k0 hB) (st_at0 (by decide)) 0 (by decide) wd_573 rfl dX5_moveIt_1 ?_
  refine lv_iconst (v := (4 : Int32)) hx hb dX5_moveIt_4 (by decide) ?_
  obtain ⟨v1, hv1, h⟩ := ob h
  refine r_iald hx hb hK hw (X5_k1 hB) (st_at (by decide)) hv1 dX5_moveIt_5 ?_
  refine lv_istore_n (lv' := [(3, .int v1), (0, .ref (eA γ o)), (1, .int x1), (2, .int x2)]) hx hb dX5_moveIt_6 rfl hl (by decide) rfl (fun ls hl => ?_)
  refine lv_aload_n hx hb dX5_moveIt_7 rfl (lv_at hl 1 rfl) ?_
  refine r_get (v := .ref (eA γ (o + 1))) hx hb hts hK hw hown inX5 rfl (X5_k0 hB) (st_at0 (by decide)) 0 (by decide) wd_573 rfl dX5_moveIt_8 ?_
  refine lv_iconst (v := (5 : Int32)) hx hb dX5_moveIt_11 (by decide) ?_
  obtain ⟨v2, hv2, h⟩ := ob h
  refine r_iald hx hb hK hw (X5_k1 hB) (st_at (by decide)) hv2 dX5_moveIt_12 ?_
  refine lv_istore (lv' := [(4, .int v2), (3, .int v1), (0, .ref (eA γ o)), (1, .int x1), (2, .int x2)]) hx hb dX5_moveIt_13 hl (by decide) rfl (fun ls hl => ?_)
  refine lv_aload_n hx hb dX5_moveIt_15 rfl (lv_at hl 2 rfl) ?_
  refine lv_iload_n hx hb dX5_moveIt_16 rfl (lv_at hl 3 rfl) ?_
  refine lv_iload_n hx hb dX5_moveIt_17 rfl (lv_at hl 4 rfl) ?_
  obtain ⟨N3, hN3, h⟩ := ob h
  refine r_Vv (rest := []) C0 z0 (c_X5_change hB hN3) lk_X5_114 (X5_k0 hB) rfl rfl hl.1 rfl (Nat.le_of_ble_eq_true rfl) (by decide) hw dX5_moveIt_18 (fun {H} {locs} hw => ?_)
  refine lv_aload_n hx hb dX5_moveIt_21 rfl (lv_at hl 2 rfl) ?_
  refine r_get (v := .ref (eA γ (o + 1))) hx hb hts hK hw hown inX5 rfl (X5_k0 hB) (st_at0 (by decide)) 0 (by decide) wd_573 rfl dX5_moveIt_22 ?_
  refine lv_iconst (v := (5 : Int32)) hx hb dX5_moveIt_25 (by decide) ?_
  obtain ⟨v4, hv4, h⟩ := ob h
  refine r_iald hx hb hK hw (X5_k1 hB) (st_at (by decide)) hv4 dX5_moveIt_26 ?_
  refine lv_iload hx hb dX5_moveIt_27 (lv_at hl 0 rfl) ?_
  refine lv_isub hx hb dX5_moveIt_29 ?_
  obtain ⟨v5, ev5, h⟩ := jb h
  refine r_top ev5 ?_
  refine lv_istore (lv' := [(5, .int v5), (4, .int v2), (3, .int v1), (0, .ref (eA γ o)), (1, .int x1), (2, .int x2)]) hx hb dX5_moveIt_30 hl (by decide) rfl (fun ls hl => ?_)
  refine lv_aload_n hx hb dX5_moveIt_32 rfl (lv_at hl 3 rfl) ?_
  refine r_get (v := .ref (eA γ (o + 1))) hx hb hts hK hw hown inX5 rfl (X5_k0 hB) (st_at0 (by decide)) 0 (by decide) wd_573 rfl dX5_moveIt_33 ?_
  refine lv_bipush (v := (6 : Int32)) hx hb dX5_moveIt_36 (by decide) ?_
  refine lv_dup2_11 hx hb dX5_moveIt_38 rfl rfl ?_
  obtain ⟨v6, hv6, h⟩ := ob h
  refine r_iald hx hb hK hw (X5_k1 hB) (st_at (by decide)) hv6 dX5_moveIt_39 ?_
  refine lv_iconst (v := (1 : Int32)) hx hb dX5_moveIt_40 (by decide) ?_
  refine lv_iadd hx hb dX5_moveIt_41 ?_
  obtain ⟨N7, hN7, h⟩ := ob h
  refine r_iast hx hb hK hd hw (by decide) (X5_k1 hB) hN7 dX5_moveIt_42 (fun {H} {locs} hw => ?_)
  refine lv_aload_n hx hb dX5_moveIt_43 rfl (lv_at hl 3 rfl) ?_
  refine r_get (v := .ref (eA γ (o + 1))) hx hb hts hK hw hown inX5 rfl (X5_k0 hB) (st_at0 (by decide)) 0 (by decide) wd_573 rfl dX5_moveIt_44 ?_
  refine lv_bipush (v := (7 : Int32)) hx hb dX5_moveIt_47 (by decide) ?_
  refine lv_dup2_11 hx hb dX5_moveIt_49 rfl rfl ?_
  obtain ⟨v8, hv8, h⟩ := ob h
  refine r_iald hx hb hK hw (X5_k1 hB) (st_at (by decide)) hv8 dX5_moveIt_50 ?_
  refine lv_iload hx hb dX5_moveIt_51 (lv_at hl 0 rfl) ?_
  refine lv_iadd hx hb dX5_moveIt_53 ?_
  obtain ⟨N9, hN9, h⟩ := ob h
  refine r_iast hx hb hK hd hw (by decide) (X5_k1 hB) hN9 dX5_moveIt_54 (fun {H} {locs} hw => ?_)
  refine lv_aload_n hx hb dX5_moveIt_55 rfl (lv_at hl 3 rfl) ?_
  refine r_get (v := .ref (eA γ (o + 1))) hx hb hts hK hw hown inX5 rfl (X5_k0 hB) (st_at0 (by decide)) 0 (by decide) wd_573 rfl dX5_moveIt_56 ?_
  refine lv_bipush (v := (9 : Int32)) hx hb dX5_moveIt_59 (by decide) ?_
  refine lv_aload_n hx hb dX5_moveIt_61 rfl (lv_at hl 3 rfl) ?_
  refine r_get (v := .ref (eA γ (o + 1))) hx hb hts hK hw hown inX5 rfl (X5_k0 hB) (st_at0 (by decide)) 0 (by decide) wd_573 rfl dX5_moveIt_62 ?_
  refine lv_iconst (v := (5 : Int32)) hx hb dX5_moveIt_65 (by decide) ?_
  obtain ⟨v10, hv10, h⟩ := ob h
  refine r_iald hx hb hK hw (X5_k1 hB) (st_at (by decide)) hv10 dX5_moveIt_66 ?_
  obtain ⟨v11, hv11, h⟩ := ob h
  refine r_Si (rest := [.int (9 : Int32), .ref (eA γ (o + 1))]) C0 z0 (c_X5_size hv11) lk_X5_84 hl.1 rfl (Nat.le_of_ble_eq_true rfl) (by decide) hw dX5_moveIt_67 (fun {H} {locs} hw => ?_)
  refine lv_aload_n hx hb dX5_moveIt_70 rfl (lv_at hl 3 rfl) ?_
  refine r_get (v := .ref (eA γ (o + 1))) hx hb hts hK hw hown inX5 rfl (X5_k0 hB) (st_at0 (by decide)) 0 (by decide) wd_573 rfl dX5_moveIt_71 ?_
  refine lv_bipush (v := (9 : Int32)) hx hb dX5_moveIt_74 (by decide) ?_
  obtain ⟨v12, hv12, h⟩ := ob h
  refine r_iald hx hb hK hw (X5_k1 hB) (st_at (by decide)) hv12 dX5_moveIt_76 ?_
  refine jn_elim h (fun (k : Int32 → Option (Int32 × (Mm))) => ∀ (v17 : Int32) {H : Heap} {locs : List Loc} {ls : Array Slot}, k v17 = some (r, Bf) → Wo γ (st 10 σ o N9) s H locs → lv_has ls 7 [(0, .ref (eA γ o)), (1, .int x1), (2, .int x2), (3, .int v1), (5, .int v5)] → W p l e R s m args below meth c H locs 0 0 (MQ below (Qo γ (some (.int r)) (st 10 σ o Bf)) args s 0 0 (AK γ)) (F0 m 99 ls [.int v17, .int (9 : Int32), .ref (eA γ (o + 1))])) ?_ ?_
  · intro v17 H locs ls h hw hl
    obtain ⟨N18, hN18, h⟩ := ob h
    refine r_iast hx hb hK hd hw (by decide) (X5_k1 hB) hN18 dX5_moveIt_99 (fun {H} {locs} hw => ?_)
    refine lv_aload_n hx hb dX5_moveIt_100 rfl (lv_at hl 0 rfl) ?_
    refine r_get (v := .ref (eA γ (o + 1))) hx hb hts hK hw hown inX5 rfl (X5_k0 hB) (st_at0 (by decide)) 0 (by decide) wd_573 rfl dX5_moveIt_101 ?_
    refine lv_bipush (v := (12 : Int32)) hx hb dX5_moveIt_104 (by decide) ?_
    obtain ⟨v19, hv19, h⟩ := ob h
    refine r_iald hx hb hK hw (X5_k1 hB) (st_at (by decide)) hv19 dX5_moveIt_106 ?_
    refine lv_bipush (v := (40 : Int32)) hx hb dX5_moveIt_107 (by decide) ?_
    refine jn_elim h (fun (k : Unit → Option (Int32 × (Mm))) => ∀ (u : Unit) {H : Heap} {locs : List Loc} {ls : Array Slot}, k u = some (r, Bf) → Wo γ (st 10 σ o N18) s H locs → lv_has ls 7 [(0, .ref (eA γ o)), (1, .int x1), (2, .int x2), (3, .int v1), (5, .int v5)] → W p l e R s m args below meth c H locs 0 0 (MQ below (Qo γ (some (.int r)) (st 10 σ o Bf)) args s 0 0 (AK γ)) (F0 m 162 ls [])) ?_ ?_
    · intro u H locs ls h hw hl
      refine lv_bipush (v := (83 : Int32)) hx hb dX5_moveIt_162 (by decide) ?_
      refine lv_iconst (v := (4 : Int32)) hx hb dX5_moveIt_164 (by decide) ?_
      refine lv_aload_n hx hb dX5_moveIt_165 rfl (lv_at hl 0 rfl) ?_
      refine r_get (v := .ref (eA γ (o + 1))) hx hb hts hK hw hown inX5 rfl (X5_k0 hB) (st_at0 (by decide)) 0 (by decide) wd_573 rfl dX5_moveIt_166 ?_
      refine lv_bipush (v := (12 : Int32)) hx hb dX5_moveIt_169 (by decide) ?_
      obtain ⟨v21, hv21, h⟩ := ob h
      refine r_iald hx hb hK hw (X5_k1 hB) (st_at (by decide)) hv21 dX5_moveIt_171 ?_
      refine lv_imul hx hb dX5_moveIt_172 ?_
      refine lv_iadd hx hb dX5_moveIt_173 ?_
      obtain ⟨v22, ev22, h⟩ := jb h
      refine r_top ev22 ?_
      refine lv_istore (lv' := [(6, .int v22), (0, .ref (eA γ o)), (1, .int x1), (2, .int x2), (3, .int v1), (5, .int v5)]) hx hb dX5_moveIt_174 hl (by decide) rfl (fun ls hl => ?_)
      refine lv_aload_n hx hb dX5_moveIt_176 rfl (lv_at hl 1 rfl) ?_
      refine r_get (v := .ref (eA γ (o + 1))) hx hb hts hK hw hown inX5 rfl (X5_k0 hB) (st_at0 (by decide)) 0 (by decide) wd_573 rfl dX5_moveIt_177 ?_
      refine lv_iload hx hb dX5_moveIt_180 (lv_at hl 0 rfl) ?_
      refine lv_iload_n hx hb dX5_moveIt_182 rfl (lv_at hl 4 rfl) ?_
      obtain ⟨N23, hN23, h⟩ := ob h
      refine r_iast hx hb hK hd hw (by decide) (X5_k1 hB) hN23 dX5_moveIt_183 (fun {H} {locs} hw => ?_)
      refine lv_aload_n hx hb dX5_moveIt_184 rfl (lv_at hl 1 rfl) ?_
      refine r_get (v := .ref (eA γ (o + 1))) hx hb hts hK hw hown inX5 rfl (X5_k0 hB) (st_at0 (by decide)) 0 (by decide) wd_573 rfl dX5_moveIt_185 ?_
      refine lv_iload hx hb dX5_moveIt_188 (lv_at hl 0 rfl) ?_
      refine lv_iconst (v := (1 : Int32)) hx hb dX5_moveIt_190 (by decide) ?_
      refine lv_iadd hx hb dX5_moveIt_191 ?_
      refine lv_iload_n hx hb dX5_moveIt_192 rfl (lv_at hl 2 rfl) ?_
      obtain ⟨N24, hN24, h⟩ := ob h
      refine r_iast hx hb hK hd hw (by decide) (X5_k1 hB) hN24 dX5_moveIt_193 (fun {H} {locs} hw => ?_)
      refine lv_aload_n hx hb dX5_moveIt_194 rfl (lv_at hl 1 rfl) ?_
      refine r_get (v := .ref (eA γ (o + 1))) hx hb hts hK hw hown inX5 rfl (X5_k0 hB) (st_at0 (by decide)) 0 (by decide) wd_573 rfl dX5_moveIt_195 ?_
      refine lv_iload hx hb dX5_moveIt_198 (lv_at hl 0 rfl) ?_
      refine lv_iconst (v := (2 : Int32)) hx hb dX5_moveIt_200 (by decide) ?_
      refine lv_iadd hx hb dX5_moveIt_201 ?_
      refine lv_iload_n hx hb dX5_moveIt_202 rfl (lv_at hl 3 rfl) ?_
      obtain ⟨N25, hN25, h⟩ := ob h
      refine r_iast hx hb hK hd hw (by decide) (X5_k1 hB) hN25 dX5_moveIt_203 (fun {H} {locs} hw => ?_)
      refine lv_aload_n hx hb dX5_moveIt_204 rfl (lv_at hl 1 rfl) ?_
      refine r_get (v := .ref (eA γ (o + 1))) hx hb hts hK hw hown inX5 rfl (X5_k0 hB) (st_at0 (by decide)) 0 (by decide) wd_573 rfl dX5_moveIt_205 ?_
      refine lv_iload hx hb dX5_moveIt_208 (lv_at hl 0 rfl) ?_
      refine lv_iconst (v := (3 : Int32)) hx hb dX5_moveIt_210 (by decide) ?_
      refine lv_iadd hx hb dX5_moveIt_211 ?_
      refine lv_iload hx hb dX5_moveIt_212 (lv_at hl 5 rfl) ?_
      obtain ⟨N26, hN26, h⟩ := ob h
      refine r_iast hx hb hK hd hw (by decide) (X5_k1 hB) hN26 dX5_moveIt_214 (fun {H} {locs} hw => ?_)
      refine lv_aload_n hx hb dX5_moveIt_215 rfl (lv_at hl 1 rfl) ?_
      refine r_get (v := .ref (eA γ (o + 1))) hx hb hts hK hw hown inX5 rfl (X5_k0 hB) (st_at0 (by decide)) 0 (by decide) wd_573 rfl dX5_moveIt_216 ?_
      refine lv_bipush (v := (12 : Int32)) hx hb dX5_moveIt_219 (by decide) ?_
      refine lv_dup2_11 hx hb dX5_moveIt_221 rfl rfl ?_
      obtain ⟨v27, hv27, h⟩ := ob h
      refine r_iald hx hb hK hw (X5_k1 hB) (st_at (by decide)) hv27 dX5_moveIt_222 ?_
      refine lv_iconst (v := (1 : Int32)) hx hb dX5_moveIt_223 (by decide) ?_
      refine lv_iadd hx hb dX5_moveIt_224 ?_
      obtain ⟨N28, hN28, h⟩ := ob h
      refine r_iast hx hb hK hd hw (by decide) (X5_k1 hB) hN28 dX5_moveIt_225 (fun {H} {locs} hw => ?_)
      refine lv_aload_n hx hb dX5_moveIt_226 rfl (lv_at hl 1 rfl) ?_
      refine r_get (v := .ref (eA γ (o + 1))) hx hb hts hK hw hown inX5 rfl (X5_k0 hB) (st_at0 (by decide)) 0 (by decide) wd_573 rfl dX5_moveIt_227 ?_
      refine lv_iconst (v := (5 : Int32)) hx hb dX5_moveIt_230 (by decide) ?_
      obtain ⟨v29, hv29, h⟩ := ob h
      refine r_iald hx hb hK hw (X5_k1 hB) (st_at (by decide)) hv29 dX5_moveIt_231 ?_
      obtain ⟨h1, h2⟩ := s2 h
      subst h1
      subst h2
      exact r_iret hx hb hr hlk hK hd hw dX5_moveIt_232
    intro k20 J_k20 h
    refine lv_icmp_ne (tgt := 162) hx hb dX5_moveIt_109 (by decide) (fun c30 => ?_) (fun c30 => ?_)
    · replace h := ifn c30 h
      exact J_k20 () h hw (lv_sub hl [0, 1, 2, 3, 4] rfl)
    · replace h := ifp c30 h
      refine lv_iconst (v := (0 : Int32)) hx hb dX5_moveIt_112 (by decide) ?_
      refine lv_istore (lv' := [(6, .int (0 : Int32)), (0, .ref (eA γ o)), (1, .int x1), (2, .int x2), (3, .int v1), (5, .int v5)]) hx hb dX5_moveIt_113 hl (by decide) rfl (fun ls hl => ?_)
      exact b_X5_moveIt_L115 C0 hB 1000 h hw (lv_sub hl [1, 2, 3, 4, 5, 0] rfl)
  intro k16 J_k16 h
  refine lv_icmp_le (tgt := 92) hx hb dX5_moveIt_77 (by decide) (fun c46 => ?_) (fun c46 => ?_)
  · replace h := ifp c46 h
    refine lv_aload_n hx hb dX5_moveIt_92 rfl (lv_at hl 3 rfl) ?_
    refine r_get (v := .ref (eA γ (o + 1))) hx hb hts hK hw hown inX5 rfl (X5_k0 hB) (st_at0 (by decide)) 0 (by decide) wd_573 rfl dX5_moveIt_93 ?_
    refine lv_bipush (v := (9 : Int32)) hx hb dX5_moveIt_96 (by decide) ?_
    obtain ⟨v47, hv47, h⟩ := ob h
    refine r_iald hx hb hK hw (X5_k1 hB) (st_at (by decide)) hv47 dX5_moveIt_98 ?_
    exact J_k16 v47 h hw (lv_sub hl [3, 4, 5, 2, 0] rfl)
  · replace h := ifn c46 h
    refine lv_aload_n hx hb dX5_moveIt_80 rfl (lv_at hl 3 rfl) ?_
    refine r_get (v := .ref (eA γ (o + 1))) hx hb hts hK hw hown inX5 rfl (X5_k0 hB) (st_at0 (by decide)) 0 (by decide) wd_573 rfl dX5_moveIt_81 ?_
    refine lv_iconst (v := (5 : Int32)) hx hb dX5_moveIt_84 (by decide) ?_
    obtain ⟨v48, hv48, h⟩ := ob h
    refine r_iald hx hb hK hw (X5_k1 hB) (st_at (by decide)) hv48 dX5_moveIt_85 ?_
    obtain ⟨v49, hv49, h⟩ := ob h
    refine r_Si (rest := [.int (9 : Int32), .ref (eA γ (o + 1))]) C0 z0 (c_X5_size hv49) lk_X5_84 hl.1 rfl (Nat.le_of_ble_eq_true rfl) (by decide) hw dX5_moveIt_86 (fun {H} {locs} hw => ?_)
    refine lv_goto (tgt := 99) hx hb dX5_moveIt_89 (by decide) ?_
    exact J_k16 v49 h hw (lv_sub hl [3, 4, 5, 2, 0] rfl)
theorem c_X5_moveIt {l : Launch} {γ : Ev} {o : Nat} {σ : Mm} {Bf : Mm} {r : Int32} {Z : Mm} {x1 x2 : Int32} (hB : isX5 γ o) (h : s_X5_moveIt Z x1 x2 = some (r, Bf)) : Ct l yX5_moveIt cX5_moveIt 7 (some .int) 5 121 γ [.ref (eA γ o), .int x1, .int x2] (st 10 σ o Z) (some (.int r)) (st 10 σ o Bf) := Ct.of (own := RX5) (by decide +kernel) rfl (Nat.le_of_ble_eq_true rfl) (fun C hw ls hl => b_X5_moveIt C hB h hw hl)
set_option maxHeartbeats 4000000 in
set_option maxRecDepth 10000 in
theorem b_X5_tryMove {γ : Ev} {o : Nat} {σ : Mm} {Bf : Mm} {r : Int32} {Z : Mm} {x1 x2 : Int32} (C : Cx p R s m args meth c RX5 cX5_tryMove 4 (some .int) 6 147 γ) (hB : isX5 γ o) (h : s_X5_tryMove Z x1 x2 = some (r, Bf)) (hw : Wo γ (st 10 σ o Z) s H locs) (hl : lv_has ls 4 [(0, .ref (eA γ o)), (1, .int x1), (2, .int x2)]) : W p l e R s m args below meth c H locs 0 0 (MQ below (Qo γ (some (.int r)) (st 10 σ o Bf)) args s 0 0 (AK γ)) (F0 m 0 ls []) := by
  have C0 := C
  obtain ⟨hx, hb, hr, hml, hown, hts, hlk, hK, hd, hF, hL⟩ := C
  unfold s_X5_tryMove at h
  refine lv_aload_n hx hb dX5_tryMove_0 rfl (lv_at hl 0 rfl) ?_
  refine lv_iload_n hx hb dX5_tryMove_1 rfl (lv_at hl 1 rfl) ?_
  refine lv_iload_n hx hb dX5_tryMove_2 rfl (lv_at hl 2 rfl) ?_
  obtain ⟨v1, hv1, h⟩ := ob h
  refine r_Vi (rest := []) C0 z0 (c_X5_whyNot hB hv1) lk_X5_117 (X5_k0 hB) rfl rfl hl.1 rfl (Nat.le_of_ble_eq_true rfl) (by decide) hw dX5_tryMove_3 (fun {H} {locs} hw => ?_)
  refine lv_istore_n (lv' := [(3, .int v1), (0, .ref (eA γ o)), (1, .int x1), (2, .int x2)]) hx hb dX5_tryMove_6 rfl hl (by decide) rfl (fun ls hl => ?_)
  refine lv_iload_n hx hb dX5_tryMove_7 rfl (lv_at hl 0 rfl) ?_
  refine lv_if_le (tgt := 17) hx hb dX5_tryMove_8 (by decide) (fun c2 => ?_) (fun c2 => ?_)
  · replace h := ifp c2 h
    refine lv_aload_n hx hb dX5_tryMove_17 rfl (lv_at hl 1 rfl) ?_
    obtain ⟨N3, hN3, h⟩ := ob h
    refine r_Vv (rest := []) C0 z0 (c_X5_record hB hN3) lk_X5_81 (X5_k0 hB) rfl rfl hl.1 rfl (Nat.le_of_ble_eq_true rfl) (by decide) hw dX5_tryMove_18 (fun {H} {locs} hw => ?_)
    refine lv_aload_n hx hb dX5_tryMove_21 rfl (lv_at hl 1 rfl) ?_
    refine lv_iload_n hx hb dX5_tryMove_22 rfl (lv_at hl 2 rfl) ?_
    refine lv_iload_n hx hb dX5_tryMove_23 rfl (lv_at hl 3 rfl) ?_
    obtain ⟨q4, hq4, h⟩ := ob h
    refine r_Vi (rest := []) C0 z0 (c_X5_moveIt hB hq4) lk_X5_120 (X5_k0 hB) rfl rfl hl.1 rfl (Nat.le_of_ble_eq_true rfl) (by decide) hw dX5_tryMove_24 (fun {H} {locs} hw => ?_)
    obtain ⟨h1, h2⟩ := s2 h
    subst h1
    subst h2
    exact r_iret hx hb hr hlk hK hd hw dX5_tryMove_27
  · replace h := ifn c2 h
    refine lv_sipush (v := (-10010 : Int32)) hx hb dX5_tryMove_11 (by decide) ?_
    refine lv_iload_n hx hb dX5_tryMove_14 rfl (lv_at hl 0 rfl) ?_
    refine lv_isub hx hb dX5_tryMove_15 ?_
    obtain ⟨h1, h2⟩ := s2 h
    subst h1
    subst h2
    exact r_iret hx hb hr hlk hK hd hw dX5_tryMove_16
theorem c_X5_tryMove {l : Launch} {γ : Ev} {o : Nat} {σ : Mm} {Bf : Mm} {r : Int32} {Z : Mm} {x1 x2 : Int32} (hB : isX5 γ o) (h : s_X5_tryMove Z x1 x2 = some (r, Bf)) : Ct l yX5_tryMove cX5_tryMove 4 (some .int) 6 147 γ [.ref (eA γ o), .int x1, .int x2] (st 10 σ o Z) (some (.int r)) (st 10 σ o Bf) := Ct.of (own := RX5) (by decide +kernel) rfl (Nat.le_of_ble_eq_true rfl) (fun C hw ls hl => b_X5_tryMove C hB h hw hl)
set_option maxHeartbeats 4000000 in
set_option maxRecDepth 10000 in
theorem b_X5_lay {γ : Ev} {o : Nat} {σ : Mm} {Bf : Mm} {r : Int32} {Z : Mm} {x1 x2 : Int32} (C : Cx p R s m args meth c RX5 cX5_lay 3 (some .int) 7 170 γ) (hB : isX5 γ o) (h : s_X5_lay Z x1 x2 = some (r, Bf)) (hw : Wo γ (st 10 σ o Z) s H locs) (hl : lv_has ls 3 [(0, .ref (eA γ o)), (1, .int x1), (2, .int x2)]) : W p l e R s m args below meth c H locs 0 0 (MQ below (Qo γ (some (.int r)) (st 10 σ o Bf)) args s 0 0 (AK γ)) (F0 m 0 ls []) := by
  have C0 := C
  obtain ⟨hx, hb, hr, hml, hown, hts, hlk, hK, hd, hF, hL⟩ := C
  unfold s_X5_lay at h
  refine lv_iload_n hx hb dX5_lay_0 rfl (lv_at hl 1 rfl) ?_
  obtain ⟨v1, hv1, h⟩ := ob h
  refine r_Si (rest := []) C0 z0 (c_X5_isWeight hv1) lk_X5_123 hl.1 rfl (Nat.le_of_ble_eq_true rfl) (by decide) hw dX5_lay_1 (fun {H} {locs} hw => ?_)
  refine lv_if_eq (tgt := 23) hx hb dX5_lay_4 (by decide) (fun c2 => ?_) (fun c2 => ?_)
  · replace h := ifp c2 h
    refine lv_sipush (v := (-10001 : Int32)) hx hb dX5_lay_23 (by decide) ?_
    obtain ⟨h1, h2⟩ := s2 h
    subst h1
    subst h2
    exact r_iret hx hb hr hlk hK hd hw dX5_lay_26
  · replace h := ifn c2 h
    refine lv_iload_n hx hb dX5_lay_7 rfl (lv_at hl 2 rfl) ?_
    obtain ⟨v3, hv3, h⟩ := ob h
    refine r_Si (rest := []) C0 z0 (c_X5_isPlace hv3) lk_X5_100 hl.1 rfl (Nat.le_of_ble_eq_true rfl) (by decide) hw dX5_lay_8 (fun {H} {locs} hw => ?_)
    refine lv_if_eq (tgt := 23) hx hb dX5_lay_11 (by decide) (fun c4 => ?_) (fun c4 => ?_)
    · replace h := ifp c4 h
      refine lv_sipush (v := (-10001 : Int32)) hx hb dX5_lay_23 (by decide) ?_
      obtain ⟨h1, h2⟩ := s2 h
      subst h1
      subst h2
      exact r_iret hx hb hr hlk hK hd hw dX5_lay_26
    · replace h := ifn c4 h
      refine lv_aload_n hx hb dX5_lay_14 rfl (lv_at hl 0 rfl) ?_
      refine lv_iload_n hx hb dX5_lay_15 rfl (lv_at hl 1 rfl) ?_
      refine lv_iload_n hx hb dX5_lay_16 rfl (lv_at hl 2 rfl) ?_
      obtain ⟨q5, hq5, h⟩ := ob h
      refine r_Vi (rest := []) C0 z0 (c_X5_tryMove hB hq5) lk_X5_126 (X5_k0 hB) rfl rfl hl.1 rfl (Nat.le_of_ble_eq_true rfl) (by decide) hw dX5_lay_17 (fun {H} {locs} hw => ?_)
      refine lv_goto (tgt := 26) hx hb dX5_lay_20 (by decide) ?_
      obtain ⟨h1, h2⟩ := s2 h
      subst h1
      subst h2
      exact r_iret hx hb hr hlk hK hd hw dX5_lay_26
theorem c_X5_lay {l : Launch} {γ : Ev} {o : Nat} {σ : Mm} {Bf : Mm} {r : Int32} {Z : Mm} {x1 x2 : Int32} (hB : isX5 γ o) (h : s_X5_lay Z x1 x2 = some (r, Bf)) : Ct l yX5_lay cX5_lay 3 (some .int) 7 170 γ [.ref (eA γ o), .int x1, .int x2] (st 10 σ o Z) (some (.int r)) (st 10 σ o Bf) := Ct.of (own := RX5) (by decide +kernel) rfl (Nat.le_of_ble_eq_true rfl) (fun C hw ls hl => b_X5_lay C hB h hw hl)
set_option maxHeartbeats 4000000 in
set_option maxRecDepth 10000 in
theorem b_X5_push {γ : Ev} {o : Nat} {σ : Mm} {Bf : Mm} {r : Int32} {Z : Mm} {x1 x2 : Int32} (C : Cx p R s m args meth c RX5 cX5_push 3 (some .int) 7 170 γ) (hB : isX5 γ o) (h : s_X5_push Z x1 x2 = some (r, Bf)) (hw : Wo γ (st 10 σ o Z) s H locs) (hl : lv_has ls 3 [(0, .ref (eA γ o)), (1, .int x1), (2, .int x2)]) : W p l e R s m args below meth c H locs 0 0 (MQ below (Qo γ (some (.int r)) (st 10 σ o Bf)) args s 0 0 (AK γ)) (F0 m 0 ls []) := by
  have C0 := C
  obtain ⟨hx, hb, hr, hml, hown, hts, hlk, hK, hd, hF, hL⟩ := C
  unfold s_X5_push at h
  refine lv_iload_n hx hb dX5_push_0 rfl (lv_at hl 1 rfl) ?_
  obtain ⟨v1, hv1, h⟩ := ob h
  refine r_Si (rest := []) C0 z0 (c_X5_isPlace hv1) lk_X5_100 hl.1 rfl (Nat.le_of_ble_eq_true rfl) (by decide) hw dX5_push_1 (fun {H} {locs} hw => ?_)
  refine lv_if_eq (tgt := 26) hx hb dX5_push_4 (by decide) (fun c2 => ?_) (fun c2 => ?_)
  · replace h := ifp c2 h
    refine lv_sipush (v := (-10001 : Int32)) hx hb dX5_push_26 (by decide) ?_
    obtain ⟨h1, h2⟩ := s2 h
    subst h1
    subst h2
    exact r_iret hx hb hr hlk hK hd hw dX5_push_29
  · replace h := ifn c2 h
    refine lv_aload_n hx hb dX5_push_7 rfl (lv_at hl 0 rfl) ?_
    refine lv_iload_n hx hb dX5_push_8 rfl (lv_at hl 2 rfl) ?_
    refine lv_if_eq (tgt := 17) hx hb dX5_push_9 (by decide) (fun c3 => ?_) (fun c3 => ?_)
    · replace h := ifp c3 h
      refine lv_bipush (v := (7 : Int32)) hx hb dX5_push_17 (by decide) ?_
      refine lv_iload_n hx hb dX5_push_19 rfl (lv_at hl 1 rfl) ?_
      obtain ⟨q4, hq4, h⟩ := ob h
      refine r_Vi (rest := []) C0 z0 (c_X5_tryMove hB hq4) lk_X5_126 (X5_k0 hB) rfl rfl hl.1 rfl (Nat.le_of_ble_eq_true rfl) (by decide) hw dX5_push_20 (fun {H} {locs} hw => ?_)
      refine lv_goto (tgt := 29) hx hb dX5_push_23 (by decide) ?_
      obtain ⟨h1, h2⟩ := s2 h
      subst h1
      subst h2
      exact r_iret hx hb hr hlk hK hd hw dX5_push_29
    · replace h := ifn c3 h
      refine lv_bipush (v := (6 : Int32)) hx hb dX5_push_12 (by decide) ?_
      refine lv_goto (tgt := 19) hx hb dX5_push_14 (by decide) ?_
      refine lv_iload_n hx hb dX5_push_19 rfl (lv_at hl 1 rfl) ?_
      obtain ⟨q5, hq5, h⟩ := ob h
      refine r_Vi (rest := []) C0 z0 (c_X5_tryMove hB hq5) lk_X5_126 (X5_k0 hB) rfl rfl hl.1 rfl (Nat.le_of_ble_eq_true rfl) (by decide) hw dX5_push_20 (fun {H} {locs} hw => ?_)
      refine lv_goto (tgt := 29) hx hb dX5_push_23 (by decide) ?_
      obtain ⟨h1, h2⟩ := s2 h
      subst h1
      subst h2
      exact r_iret hx hb hr hlk hK hd hw dX5_push_29
theorem c_X5_push {l : Launch} {γ : Ev} {o : Nat} {σ : Mm} {Bf : Mm} {r : Int32} {Z : Mm} {x1 x2 : Int32} (hB : isX5 γ o) (h : s_X5_push Z x1 x2 = some (r, Bf)) : Ct l yX5_push cX5_push 3 (some .int) 7 170 γ [.ref (eA γ o), .int x1, .int x2] (st 10 σ o Z) (some (.int r)) (st 10 σ o Bf) := Ct.of (own := RX5) (by decide +kernel) rfl (Nat.le_of_ble_eq_true rfl) (fun C hw ls hl => b_X5_push C hB h hw hl)
set_option maxHeartbeats 4000000 in
set_option maxRecDepth 10000 in
theorem b_X5_numberOf {γ : Ev} {μ : Mm} {r : Int32} {x0 : Int32} (C : Cx p R s m args meth c RX5 cX5_numberOf 1 (some .int) 1 30 γ) (h : s_X5_numberOf x0 = some r) (hw : Wo γ μ s H locs) (hl : lv_has ls 1 [(0, .int x0)]) : W p l e R s m args below meth c H locs 0 0 (MQ below (Qo γ (some (.int r)) μ) args s 0 0 (AK γ)) (F0 m 0 ls []) := by
  have C0 := C
  obtain ⟨hx, hb, hr, hml, hown, hts, hlk, hK, hd, hF, hL⟩ := C
  unfold s_X5_numberOf at h
  refine lv_iload_n hx hb dX5_numberOf_0 rfl (lv_at hl 0 rfl) ?_
  refine lv_bipush (v := (60 : Int32)) hx hb dX5_numberOf_1 (by decide) ?_
  refine lv_icmp_ge (tgt := 15) hx hb dX5_numberOf_3 (by decide) (fun c1 => ?_) (fun c1 => ?_)
  · replace h := ifp c1 h
    refine lv_bipush (v := (6 : Int32)) hx hb dX5_numberOf_15 (by decide) ?_
    refine lv_iload_n hx hb dX5_numberOf_17 rfl (lv_at hl 0 rfl) ?_
    refine lv_iconst (v := (2 : Int32)) hx hb dX5_numberOf_18 (by decide) ?_
    obtain ⟨v2, hv2, h⟩ := ob h
    refine lv_irem hx hb dX5_numberOf_19 (rmi_some hv2).1 ?_
    refine r_top (rmi_some hv2).2 ?_
    refine lv_iadd hx hb dX5_numberOf_20 ?_
    have h1 := Option.some.inj h
    subst h1
    exact r_iret hx hb hr hlk hK hd hw dX5_numberOf_21
  · replace h := ifn c1 h
    refine lv_iload_n hx hb dX5_numberOf_6 rfl (lv_at hl 0 rfl) ?_
    refine lv_bipush (v := (12 : Int32)) hx hb dX5_numberOf_7 (by decide) ?_
    obtain ⟨v3, hv3, h⟩ := ob h
    refine lv_idiv hx hb dX5_numberOf_9 (dvi_some hv3).1 ?_
    refine r_top (dvi_some hv3).2 ?_
    refine lv_iconst (v := (1 : Int32)) hx hb dX5_numberOf_10 (by decide) ?_
    refine lv_iadd hx hb dX5_numberOf_11 ?_
    refine lv_goto (tgt := 21) hx hb dX5_numberOf_12 (by decide) ?_
    have h1 := Option.some.inj h
    subst h1
    exact r_iret hx hb hr hlk hK hd hw dX5_numberOf_21
theorem c_X5_numberOf {l : Launch} {γ : Ev} {μ : Mm} {r : Int32} {x0 : Int32} (h : s_X5_numberOf x0 = some r) : Ct l yX5_numberOf cX5_numberOf 1 (some .int) 1 30 γ [.int x0] μ (some (.int r)) μ := Ct.of (own := RX5) (by decide +kernel) rfl (Nat.le_of_ble_eq_true rfl) (fun C hw ls hl => b_X5_numberOf C h hw hl)
set_option maxHeartbeats 4000000 in
set_option maxRecDepth 10000 in
theorem b_X5_placeOf {γ : Ev} {μ : Mm} {r : Int32} {x0 : Int32} (C : Cx p R s m args meth c RX5 cX5_placeOf 1 (some .int) 2 50 γ) (h : s_X5_placeOf x0 = some r) (hw : Wo γ μ s H locs) (hl : lv_has ls 1 [(0, .int x0)]) : W p l e R s m args below meth c H locs 0 0 (MQ below (Qo γ (some (.int r)) μ) args s 0 0 (AK γ)) (F0 m 0 ls []) := by
  have C0 := C
  obtain ⟨hx, hb, hr, hml, hown, hts, hlk, hK, hd, hF, hL⟩ := C
  unfold s_X5_placeOf at h
  refine lv_iload_n hx hb dX5_placeOf_0 rfl (lv_at hl 0 rfl) ?_
  refine lv_bipush (v := (60 : Int32)) hx hb dX5_placeOf_1 (by decide) ?_
  refine lv_icmp_ge (tgt := 13) hx hb dX5_placeOf_3 (by decide) (fun c1 => ?_) (fun c1 => ?_)
  · replace h := ifp c1 h
    refine lv_iload_n hx hb dX5_placeOf_13 rfl (lv_at hl 0 rfl) ?_
    refine lv_bipush (v := (60 : Int32)) hx hb dX5_placeOf_14 (by decide) ?_
    refine lv_isub hx hb dX5_placeOf_16 ?_
    refine lv_iconst (v := (2 : Int32)) hx hb dX5_placeOf_17 (by decide) ?_
    obtain ⟨v2, hv2, h⟩ := ob h
    refine lv_idiv hx hb dX5_placeOf_18 (dvi_some hv2).1 ?_
    refine r_top (dvi_some hv2).2 ?_
    obtain ⟨v3, hv3, h⟩ := ob h
    refine r_Si (rest := []) C0 z0 (c_X5_placeBy hv3) lk_X5_70 hl.1 rfl (Nat.le_of_ble_eq_true rfl) (by decide) hw dX5_placeOf_19 (fun {H} {locs} hw => ?_)
    have h1 := Option.some.inj h
    subst h1
    exact r_iret hx hb hr hlk hK hd hw dX5_placeOf_22
  · replace h := ifn c1 h
    refine lv_iload_n hx hb dX5_placeOf_6 rfl (lv_at hl 0 rfl) ?_
    refine lv_bipush (v := (12 : Int32)) hx hb dX5_placeOf_7 (by decide) ?_
    obtain ⟨v4, hv4, h⟩ := ob h
    refine lv_irem hx hb dX5_placeOf_9 (rmi_some hv4).1 ?_
    refine r_top (rmi_some hv4).2 ?_
    refine lv_goto (tgt := 19) hx hb dX5_placeOf_10 (by decide) ?_
    obtain ⟨v5, hv5, h⟩ := ob h
    refine r_Si (rest := []) C0 z0 (c_X5_placeBy hv5) lk_X5_70 hl.1 rfl (Nat.le_of_ble_eq_true rfl) (by decide) hw dX5_placeOf_19 (fun {H} {locs} hw => ?_)
    have h1 := Option.some.inj h
    subst h1
    exact r_iret hx hb hr hlk hK hd hw dX5_placeOf_22
theorem c_X5_placeOf {l : Launch} {γ : Ev} {μ : Mm} {r : Int32} {x0 : Int32} (h : s_X5_placeOf x0 = some r) : Ct l yX5_placeOf cX5_placeOf 1 (some .int) 2 50 γ [.int x0] μ (some (.int r)) μ := Ct.of (own := RX5) (by decide +kernel) rfl (Nat.le_of_ble_eq_true rfl) (fun C hw ls hl => b_X5_placeOf C h hw hl)
set_option maxHeartbeats 4000000 in
set_option maxRecDepth 10000 in
theorem b_X5_isPossible {γ : Ev} {o : Nat} {σ : Mm} {r : Int32} {Z : Mm} {x1 : Int32} (C : Cx p R s m args meth c RX5 cX5_isPossible 2 (some .boolean) 6 140 γ) (hB : isX5 γ o) (h : s_X5_isPossible Z x1 = some r) (hw : Wo γ (st 10 σ o Z) s H locs) (hl : lv_has ls 2 [(0, .ref (eA γ o)), (1, .int x1)]) : W p l e R s m args below meth c H locs 0 0 (MQ below (Qo γ (some (.int r)) (st 10 σ o Z)) args s 0 0 (AK γ)) (F0 m 0 ls []) := by
  have C0 := C
  obtain ⟨hx, hb, hr, hml, hown, hts, hlk, hK, hd, hF, hL⟩ := C
  unfold s_X5_isPossible at h
  refine lv_aload_n hx hb dX5_isPossible_0 rfl (lv_at hl 0 rfl) ?_
  refine lv_iload_n hx hb dX5_isPossible_1 rfl (lv_at hl 1 rfl) ?_
  obtain ⟨v1, hv1, h⟩ := ob h
  refine r_Si (rest := [.ref (eA γ o)]) C0 z0 (c_X5_numberOf hv1) lk_X5_129 hl.1 rfl (Nat.le_of_ble_eq_true rfl) (by decide) hw dX5_isPossible_2 (fun {H} {locs} hw => ?_)
  refine lv_iload_n hx hb dX5_isPossible_5 rfl (lv_at hl 1 rfl) ?_
  obtain ⟨v2, hv2, h⟩ := ob h
  refine r_Si (rest := [.int v1, .ref (eA γ o)]) C0 z0 (c_X5_placeOf hv2) lk_X5_132 hl.1 rfl (Nat.le_of_ble_eq_true rfl) (by decide) hw dX5_isPossible_6 (fun {H} {locs} hw => ?_)
  obtain ⟨v3, hv3, h⟩ := ob h
  refine r_Vi (rest := []) C0 z0 (c_X5_whyNot hB hv3) lk_X5_117 (X5_k0 hB) rfl rfl hl.1 rfl (Nat.le_of_ble_eq_true rfl) (by decide) hw dX5_isPossible_9 (fun {H} {locs} hw => ?_)
  refine lv_if_ne (tgt := 19) hx hb dX5_isPossible_12 (by decide) (fun c4 => ?_) (fun c4 => ?_)
  · replace h := ifn c4 h
    refine lv_iconst (v := (0 : Int32)) hx hb dX5_isPossible_19 (by decide) ?_
    have h1 := Option.some.inj h
    subst h1
    exact r_zret hx hb hr hlk hK hd hw rfl dX5_isPossible_20
  · replace h := ifp c4 h
    refine lv_iconst (v := (1 : Int32)) hx hb dX5_isPossible_15 (by decide) ?_
    refine lv_goto (tgt := 20) hx hb dX5_isPossible_16 (by decide) ?_
    have h1 := Option.some.inj h
    subst h1
    exact r_zret hx hb hr hlk hK hd hw rfl dX5_isPossible_20
theorem c_X5_isPossible {l : Launch} {γ : Ev} {o : Nat} {σ : Mm} {r : Int32} {Z : Mm} {x1 : Int32} (hB : isX5 γ o) (h : s_X5_isPossible Z x1 = some r) : Ct l yX5_isPossible cX5_isPossible 2 (some .boolean) 6 140 γ [.ref (eA γ o), .int x1] (st 10 σ o Z) (some (.int r)) (st 10 σ o Z) := Ct.of (own := RX5) (by decide +kernel) rfl (Nat.le_of_ble_eq_true rfl) (fun C hw ls hl => b_X5_isPossible C hB h hw hl)
set_option maxHeartbeats 4000000 in
set_option maxRecDepth 10000 in
theorem b_X5_ahead {γ : Ev} {o : Nat} {σ : Mm} {Bf : Mm} {Z : Mm} {x1 x2 : Int32} (C : Cx p R s m args meth c RX5 cX5_ahead 3 none 5 121 γ) (hB : isX5 γ o) (h : s_X5_ahead Z x1 x2 = some Bf) (hw : Wo γ (st 10 σ o Z) s H locs) (hl : lv_has ls 3 [(0, .ref (eA γ o)), (1, .int x1), (2, .int x2)]) : W p l e R s m args below meth c H locs 0 0 (MQ below (Qo γ none (st 10 σ o Bf)) args s 0 0 (AK γ)) (F0 m 0 ls []) := by
  have C0 := C
  obtain ⟨hx, hb, hr, hml, hown, hts, hlk, hK, hd, hF, hL⟩ := C
  unfold s_X5_ahead at h
  refine lv_aload_n hx hb dX5_ahead_0 rfl (lv_at hl 0 rfl) ?_
  refine r_get (v := .ref (eA γ (o + 6))) hx hb hts hK hw hown inX5 rfl (X5_k0 hB) (st_at0 (by decide)) 10 (by decide) wd_583 rfl dX5_ahead_1 ?_
  refine lv_iload_n hx hb dX5_ahead_4 rfl (lv_at hl 1 rfl) ?_
  refine lv_aload_n hx hb dX5_ahead_5 rfl (lv_at hl 0 rfl) ?_
  refine r_get (v := .ref (eA γ (o + 1))) hx hb hts hK hw hown inX5 rfl (X5_k0 hB) (st_at0 (by decide)) 0 (by decide) wd_573 rfl dX5_ahead_6 ?_
  refine lv_iconst (v := (4 : Int32)) hx hb dX5_ahead_9 (by decide) ?_
  obtain ⟨v1, hv1, h⟩ := ob h
  refine r_iald hx hb hK hw (X5_k1 hB) (st_at (by decide)) hv1 dX5_ahead_10 ?_
  obtain ⟨N2, hN2, h⟩ := ob h
  refine r_iast hx hb hK hd hw (by decide) (X5_k6 hB) hN2 dX5_ahead_11 (fun {H} {locs} hw => ?_)
  refine lv_aload_n hx hb dX5_ahead_12 rfl (lv_at hl 0 rfl) ?_
  refine r_get (v := .ref (eA γ (o + 7))) hx hb hts hK hw hown inX5 rfl (X5_k0 hB) (st_at0 (by decide)) 11 (by decide) wd_584 rfl dX5_ahead_13 ?_
  refine lv_iload_n hx hb dX5_ahead_16 rfl (lv_at hl 1 rfl) ?_
  refine lv_aload_n hx hb dX5_ahead_17 rfl (lv_at hl 0 rfl) ?_
  refine r_get (v := .ref (eA γ (o + 1))) hx hb hts hK hw hown inX5 rfl (X5_k0 hB) (st_at0 (by decide)) 0 (by decide) wd_573 rfl dX5_ahead_18 ?_
  refine lv_bipush (v := (10 : Int32)) hx hb dX5_ahead_21 (by decide) ?_
  obtain ⟨v3, hv3, h⟩ := ob h
  refine r_iald hx hb hK hw (X5_k1 hB) (st_at (by decide)) hv3 dX5_ahead_23 ?_
  obtain ⟨N4, hN4, h⟩ := ob h
  refine r_iast hx hb hK hd hw (by decide) (X5_k7 hB) hN4 dX5_ahead_24 (fun {H} {locs} hw => ?_)
  refine lv_aload_n hx hb dX5_ahead_25 rfl (lv_at hl 0 rfl) ?_
  refine r_get (v := .ref (eA γ (o + 8))) hx hb hts hK hw hown inX5 rfl (X5_k0 hB) (st_at0 (by decide)) 12 (by decide) wd_585 rfl dX5_ahead_26 ?_
  refine lv_iload_n hx hb dX5_ahead_29 rfl (lv_at hl 1 rfl) ?_
  refine lv_aload_n hx hb dX5_ahead_30 rfl (lv_at hl 0 rfl) ?_
  refine r_get (v := .ref (eA γ (o + 1))) hx hb hts hK hw hown inX5 rfl (X5_k0 hB) (st_at0 (by decide)) 0 (by decide) wd_573 rfl dX5_ahead_31 ?_
  refine lv_bipush (v := (11 : Int32)) hx hb dX5_ahead_34 (by decide) ?_
  obtain ⟨v5, hv5, h⟩ := ob h
  refine r_iald hx hb hK hw (X5_k1 hB) (st_at (by decide)) hv5 dX5_ahead_36 ?_
  obtain ⟨N6, hN6, h⟩ := ob h
  refine r_iast hx hb hK hd hw (by decide) (X5_k8 hB) hN6 dX5_ahead_37 (fun {H} {locs} hw => ?_)
  refine lv_aload_n hx hb dX5_ahead_38 rfl (lv_at hl 0 rfl) ?_
  refine lv_iload_n hx hb dX5_ahead_39 rfl (lv_at hl 2 rfl) ?_
  obtain ⟨v7, hv7, h⟩ := ob h
  refine r_Si (rest := [.ref (eA γ o)]) C0 z0 (c_X5_numberOf hv7) lk_X5_129 hl.1 rfl (Nat.le_of_ble_eq_true rfl) (by decide) hw dX5_ahead_40 (fun {H} {locs} hw => ?_)
  refine lv_iload_n hx hb dX5_ahead_43 rfl (lv_at hl 2 rfl) ?_
  obtain ⟨v8, hv8, h⟩ := ob h
  refine r_Si (rest := [.int v7, .ref (eA γ o)]) C0 z0 (c_X5_placeOf hv8) lk_X5_132 hl.1 rfl (Nat.le_of_ble_eq_true rfl) (by decide) hw dX5_ahead_44 (fun {H} {locs} hw => ?_)
  obtain ⟨N9, hN9, h⟩ := ob h
  refine r_Vv (rest := []) C0 z0 (c_X5_change hB hN9) lk_X5_114 (X5_k0 hB) rfl rfl hl.1 rfl (Nat.le_of_ble_eq_true rfl) (by decide) hw dX5_ahead_47 (fun {H} {locs} hw => ?_)
  have h1 := Option.some.inj h
  subst h1
  exact r_vret hx hb hr hlk hK hd hw dX5_ahead_50
theorem c_X5_ahead {l : Launch} {γ : Ev} {o : Nat} {σ : Mm} {Bf : Mm} {Z : Mm} {x1 x2 : Int32} (hB : isX5 γ o) (h : s_X5_ahead Z x1 x2 = some Bf) : Ct l yX5_ahead cX5_ahead 3 none 5 121 γ [.ref (eA γ o), .int x1, .int x2] (st 10 σ o Z) none (st 10 σ o Bf) := Ct.of (own := RX5) (by decide +kernel) rfl (Nat.le_of_ble_eq_true rfl) (fun C hw ls hl => b_X5_ahead C hB h hw hl)
set_option maxHeartbeats 4000000 in
set_option maxRecDepth 10000 in
theorem b_X5_back {γ : Ev} {o : Nat} {σ : Mm} {Bf : Mm} {Z : Mm} {x1 x2 : Int32} (C : Cx p R s m args meth c RX5 cX5_back 5 none 4 95 γ) (hB : isX5 γ o) (h : s_X5_back Z x1 x2 = some Bf) (hw : Wo γ (st 10 σ o Z) s H locs) (hl : lv_has ls 5 [(0, .ref (eA γ o)), (1, .int x1), (2, .int x2)]) : W p l e R s m args below meth c H locs 0 0 (MQ below (Qo γ none (st 10 σ o Bf)) args s 0 0 (AK γ)) (F0 m 0 ls []) := by
  have C0 := C
  obtain ⟨hx, hb, hr, hml, hown, hts, hlk, hK, hd, hF, hL⟩ := C
  unfold s_X5_back at h
  refine lv_iload_n hx hb dX5_back_0 rfl (lv_at hl 2 rfl) ?_
  obtain ⟨v1, hv1, h⟩ := ob h
  refine r_Si (rest := []) C0 z0 (c_X5_numberOf hv1) lk_X5_129 hl.1 rfl (Nat.le_of_ble_eq_true rfl) (by decide) hw dX5_back_1 (fun {H} {locs} hw => ?_)
  refine lv_istore_n (lv' := [(3, .int v1), (0, .ref (eA γ o)), (1, .int x1), (2, .int x2)]) hx hb dX5_back_4 rfl hl (by decide) rfl (fun ls hl => ?_)
  refine lv_aload_n hx hb dX5_back_5 rfl (lv_at hl 1 rfl) ?_
  refine lv_iload_n hx hb dX5_back_6 rfl (lv_at hl 0 rfl) ?_
  refine lv_iload_n hx hb dX5_back_7 rfl (lv_at hl 3 rfl) ?_
  obtain ⟨v2, hv2, h⟩ := ob h
  refine r_Si (rest := [.int v1, .ref (eA γ o)]) C0 z0 (c_X5_placeOf hv2) lk_X5_132 hl.1 rfl (Nat.le_of_ble_eq_true rfl) (by decide) hw dX5_back_8 (fun {H} {locs} hw => ?_)
  obtain ⟨v3, hv3, h⟩ := ob h
  refine r_Si (rest := [.ref (eA γ o)]) C0 z0 (c_X5_goal hv3) lk_X5_104 hl.1 rfl (Nat.le_of_ble_eq_true rfl) (by decide) hw dX5_back_11 (fun {H} {locs} hw => ?_)
  obtain ⟨q4, hq4, h⟩ := ob h
  refine r_Vi (rest := []) C0 z0 (c_X5_takeOff hB hq4) lk_X5_111 (X5_k0 hB) rfl rfl hl.1 rfl (Nat.le_of_ble_eq_true rfl) (by decide) hw dX5_back_14 (fun {H} {locs} hw => ?_)
  obtain ⟨v5, ev5, h⟩ := jb h
  refine r_top ev5 ?_
  refine lv_istore (lv' := [(4, .int v5), (3, .int v1), (0, .ref (eA γ o)), (1, .int x1), (2, .int x2)]) hx hb dX5_back_17 hl (by decide) rfl (fun ls hl => ?_)
  refine lv_aload_n hx hb dX5_back_19 rfl (lv_at hl 2 rfl) ?_
  refine r_get (v := .ref (eA γ (o + 1))) hx hb hts hK hw hown inX5 rfl (X5_k0 hB) (st_at0 (by decide)) 0 (by decide) wd_573 rfl dX5_back_20 ?_
  refine lv_iconst (v := (4 : Int32)) hx hb dX5_back_23 (by decide) ?_
  refine lv_aload_n hx hb dX5_back_24 rfl (lv_at hl 2 rfl) ?_
  refine r_get (v := .ref (eA γ (o + 6))) hx hb hts hK hw hown inX5 rfl (X5_k0 hB) (st_at0 (by decide)) 10 (by decide) wd_583 rfl dX5_back_25 ?_
  refine lv_iload_n hx hb dX5_back_28 rfl (lv_at hl 3 rfl) ?_
  obtain ⟨v6, hv6, h⟩ := ob h
  refine r_iald hx hb hK hw (X5_k6 hB) (st_at (by decide)) hv6 dX5_back_29 ?_
  obtain ⟨N7, hN7, h⟩ := ob h
  refine r_iast hx hb hK hd hw (by decide) (X5_k1 hB) hN7 dX5_back_30 (fun {H} {locs} hw => ?_)
  refine lv_aload_n hx hb dX5_back_31 rfl (lv_at hl 2 rfl) ?_
  refine r_get (v := .ref (eA γ (o + 1))) hx hb hts hK hw hown inX5 rfl (X5_k0 hB) (st_at0 (by decide)) 0 (by decide) wd_573 rfl dX5_back_32 ?_
  refine lv_bipush (v := (10 : Int32)) hx hb dX5_back_35 (by decide) ?_
  refine lv_aload_n hx hb dX5_back_37 rfl (lv_at hl 2 rfl) ?_
  refine r_get (v := .ref (eA γ (o + 7))) hx hb hts hK hw hown inX5 rfl (X5_k0 hB) (st_at0 (by decide)) 11 (by decide) wd_584 rfl dX5_back_38 ?_
  refine lv_iload_n hx hb dX5_back_41 rfl (lv_at hl 3 rfl) ?_
  obtain ⟨v8, hv8, h⟩ := ob h
  refine r_iald hx hb hK hw (X5_k7 hB) (st_at (by decide)) hv8 dX5_back_42 ?_
  obtain ⟨N9, hN9, h⟩ := ob h
  refine r_iast hx hb hK hd hw (by decide) (X5_k1 hB) hN9 dX5_back_43 (fun {H} {locs} hw => ?_)
  refine lv_aload_n hx hb dX5_back_44 rfl (lv_at hl 2 rfl) ?_
  refine r_get (v := .ref (eA γ (o + 1))) hx hb hts hK hw hown inX5 rfl (X5_k0 hB) (st_at0 (by decide)) 0 (by decide) wd_573 rfl dX5_back_45 ?_
  refine lv_bipush (v := (11 : Int32)) hx hb dX5_back_48 (by decide) ?_
  refine lv_aload_n hx hb dX5_back_50 rfl (lv_at hl 2 rfl) ?_
  refine r_get (v := .ref (eA γ (o + 8))) hx hb hts hK hw hown inX5 rfl (X5_k0 hB) (st_at0 (by decide)) 12 (by decide) wd_585 rfl dX5_back_51 ?_
  refine lv_iload_n hx hb dX5_back_54 rfl (lv_at hl 3 rfl) ?_
  obtain ⟨v10, hv10, h⟩ := ob h
  refine r_iald hx hb hK hw (X5_k8 hB) (st_at (by decide)) hv10 dX5_back_55 ?_
  obtain ⟨N11, hN11, h⟩ := ob h
  refine r_iast hx hb hK hd hw (by decide) (X5_k1 hB) hN11 dX5_back_56 (fun {H} {locs} hw => ?_)
  refine lv_iload_n hx hb dX5_back_57 rfl (lv_at hl 1 rfl) ?_
  refine lv_bipush (v := (6 : Int32)) hx hb dX5_back_58 (by decide) ?_
  refine lv_icmp_ge (tgt := 79) hx hb dX5_back_60 (by decide) (fun c12 => ?_) (fun c12 => ?_)
  · replace h := ifp c12 h
    refine lv_aload_n hx hb dX5_back_79 rfl (lv_at hl 2 rfl) ?_
    refine lv_iload_n hx hb dX5_back_80 rfl (lv_at hl 4 rfl) ?_
    obtain ⟨v13, hv13, h⟩ := ob h
    refine r_Si (rest := [.ref (eA γ o)]) C0 z0 (c_X5_placeOf hv13) lk_X5_132 hl.1 rfl (Nat.le_of_ble_eq_true rfl) (by decide) hw dX5_back_81 (fun {H} {locs} hw => ?_)
    refine lv_iload hx hb dX5_back_84 (lv_at hl 0 rfl) ?_
    obtain ⟨N14, hN14, h⟩ := ob h
    refine r_Vv (rest := []) C0 z0 (c_X5_put hB hN14) lk_X5_107 (X5_k0 hB) rfl rfl hl.1 rfl (Nat.le_of_ble_eq_true rfl) (by decide) hw dX5_back_86 (fun {H} {locs} hw => ?_)
    have h1 := Option.some.inj h
    subst h1
    exact r_vret hx hb hr hlk hK hd hw dX5_back_89
  · replace h := ifn c12 h
    refine lv_aload_n hx hb dX5_back_63 rfl (lv_at hl 2 rfl) ?_
    refine lv_aload_n hx hb dX5_back_64 rfl (lv_at hl 2 rfl) ?_
    refine r_get (v := .ref (eA γ (o + 1))) hx hb hts hK hw hown inX5 rfl (X5_k0 hB) (st_at0 (by decide)) 0 (by decide) wd_573 rfl dX5_back_65 ?_
    refine lv_iconst (v := (4 : Int32)) hx hb dX5_back_68 (by decide) ?_
    obtain ⟨v15, hv15, h⟩ := ob h
    refine r_iald hx hb hK hw (X5_k1 hB) (st_at (by decide)) hv15 dX5_back_69 ?_
    refine lv_iload hx hb dX5_back_70 (lv_at hl 0 rfl) ?_
    refine lv_iconst (v := (1 : Int32)) hx hb dX5_back_72 (by decide) ?_
    obtain ⟨N16, hN16, h⟩ := ob h
    refine r_Vv (rest := []) C0 z0 (c_X5_addBag hB hN16) lk_X5_45 (X5_k0 hB) rfl rfl hl.1 rfl (Nat.le_of_ble_eq_true rfl) (by decide) hw dX5_back_73 (fun {H} {locs} hw => ?_)
    refine lv_goto (tgt := 89) hx hb dX5_back_76 (by decide) ?_
    have h1 := Option.some.inj h
    subst h1
    exact r_vret hx hb hr hlk hK hd hw dX5_back_89
theorem c_X5_back {l : Launch} {γ : Ev} {o : Nat} {σ : Mm} {Bf : Mm} {Z : Mm} {x1 x2 : Int32} (hB : isX5 γ o) (h : s_X5_back Z x1 x2 = some Bf) : Ct l yX5_back cX5_back 5 none 4 95 γ [.ref (eA γ o), .int x1, .int x2] (st 10 σ o Z) none (st 10 σ o Bf) := Ct.of (own := RX5) (by decide +kernel) rfl (Nat.le_of_ble_eq_true rfl) (fun C hw ls hl => b_X5_back C hB h hw hl)
set_option maxHeartbeats 4000000 in
set_option maxRecDepth 10000 in
theorem b_X5_told {γ : Ev} {o : Nat} {σ : Mm} {r : Int32} {Z : Mm} (C : Cx p R s m args meth c RX5 cX5_told 1 (some .int) 3 70 γ) (hB : isX5 γ o) (h : s_X5_told Z = some r) (hw : Wo γ (st 10 σ o Z) s H locs) (hl : lv_has ls 1 [(0, .ref (eA γ o))]) : W p l e R s m args below meth c H locs 0 0 (MQ below (Qo γ (some (.int r)) (st 10 σ o Z)) args s 0 0 (AK γ)) (F0 m 0 ls []) := by
  have C0 := C
  obtain ⟨hx, hb, hr, hml, hown, hts, hlk, hK, hd, hF, hL⟩ := C
  unfold s_X5_told at h
  refine lv_aload_n hx hb dX5_told_0 rfl (lv_at hl 0 rfl) ?_
  obtain ⟨v1, hv1, h⟩ := ob h
  refine r_Vi (rest := []) C0 z0 (c_X5_hasTipped hB hv1) lk_X5_87 (X5_k0 hB) rfl rfl hl.1 rfl (Nat.le_of_ble_eq_true rfl) (by decide) hw dX5_told_1 (fun {H} {locs} hw => ?_)
  refine lv_if_ne (tgt := 11) hx hb dX5_told_4 (by decide) (fun c2 => ?_) (fun c2 => ?_)
  · replace h := ifn c2 h
    refine lv_aload_n hx hb dX5_told_11 rfl (lv_at hl 0 rfl) ?_
    obtain ⟨v3, hv3, h⟩ := ob h
    refine r_Vi (rest := []) C0 z0 (c_X5_winner hB hv3) lk_X5_97 (X5_k0 hB) rfl rfl hl.1 rfl (Nat.le_of_ble_eq_true rfl) (by decide) hw dX5_told_12 (fun {H} {locs} hw => ?_)
    refine lv_aload_n hx hb dX5_told_15 rfl (lv_at hl 0 rfl) ?_
    refine r_get (v := .ref (eA γ (o + 1))) hx hb hts hK hw hown inX5 rfl (X5_k0 hB) (st_at0 (by decide)) 0 (by decide) wd_573 rfl dX5_told_16 ?_
    refine lv_iconst (v := (4 : Int32)) hx hb dX5_told_19 (by decide) ?_
    obtain ⟨v4, hv4, h⟩ := ob h
    refine r_iald hx hb hK hw (X5_k1 hB) (st_at (by decide)) hv4 dX5_told_20 ?_
    refine lv_icmp_ne (tgt := 28) hx hb dX5_told_21 (by decide) (fun c5 => ?_) (fun c5 => ?_)
    · replace h := ifn c5 h
      refine lv_iconst (v := (-1 : Int32)) hx hb dX5_told_28 (by decide) ?_
      have h1 := Option.some.inj h
      subst h1
      exact r_iret hx hb hr hlk hK hd hw dX5_told_29
    · replace h := ifp c5 h
      refine lv_iconst (v := (1 : Int32)) hx hb dX5_told_24 (by decide) ?_
      refine lv_goto (tgt := 29) hx hb dX5_told_25 (by decide) ?_
      have h1 := Option.some.inj h
      subst h1
      exact r_iret hx hb hr hlk hK hd hw dX5_told_29
  · replace h := ifp c2 h
    refine lv_iconst (v := (0 : Int32)) hx hb dX5_told_7 (by decide) ?_
    refine lv_goto (tgt := 29) hx hb dX5_told_8 (by decide) ?_
    have h1 := Option.some.inj h
    subst h1
    exact r_iret hx hb hr hlk hK hd hw dX5_told_29
theorem c_X5_told {l : Launch} {γ : Ev} {o : Nat} {σ : Mm} {r : Int32} {Z : Mm} (hB : isX5 γ o) (h : s_X5_told Z = some r) : Ct l yX5_told cX5_told 1 (some .int) 3 70 γ [.ref (eA γ o)] (st 10 σ o Z) (some (.int r)) (st 10 σ o Z) := Ct.of (own := RX5) (by decide +kernel) rfl (Nat.le_of_ble_eq_true rfl) (fun C hw ls hl => b_X5_told C hB h hw hl)
set_option maxHeartbeats 4000000 in
set_option maxRecDepth 10000 in
theorem b_X5_forMover {γ : Ev} {o : Nat} {σ : Mm} {r : Int32} {Z : Mm} {x1 x2 : Int32} (C : Cx p R s m args meth c RX5 cX5_forMover 3 (some .int) 1 30 γ) (hB : isX5 γ o) (h : s_X5_forMover Z x1 x2 = some r) (hw : Wo γ (st 10 σ o Z) s H locs) (hl : lv_has ls 3 [(0, .ref (eA γ o)), (1, .int x1), (2, .int x2)]) : W p l e R s m args below meth c H locs 0 0 (MQ below (Qo γ (some (.int r)) (st 10 σ o Z)) args s 0 0 (AK γ)) (F0 m 0 ls []) := by
  have C0 := C
  obtain ⟨hx, hb, hr, hml, hown, hts, hlk, hK, hd, hF, hL⟩ := C
  unfold s_X5_forMover at h
  refine lv_aload_n hx hb dX5_forMover_0 rfl (lv_at hl 0 rfl) ?_
  refine r_get (v := .ref (eA γ (o + 1))) hx hb hts hK hw hown inX5 rfl (X5_k0 hB) (st_at0 (by decide)) 0 (by decide) wd_573 rfl dX5_forMover_1 ?_
  refine lv_iconst (v := (4 : Int32)) hx hb dX5_forMover_4 (by decide) ?_
  obtain ⟨v1, hv1, h⟩ := ob h
  refine r_iald hx hb hK hw (X5_k1 hB) (st_at (by decide)) hv1 dX5_forMover_5 ?_
  refine lv_aload_n hx hb dX5_forMover_6 rfl (lv_at hl 0 rfl) ?_
  refine r_get (v := .ref (eA γ (o + 6))) hx hb hts hK hw hown inX5 rfl (X5_k0 hB) (st_at0 (by decide)) 10 (by decide) wd_583 rfl dX5_forMover_7 ?_
  refine lv_iload_n hx hb dX5_forMover_10 rfl (lv_at hl 1 rfl) ?_
  obtain ⟨v2, hv2, h⟩ := ob h
  refine r_iald hx hb hK hw (X5_k6 hB) (st_at (by decide)) hv2 dX5_forMover_11 ?_
  refine lv_icmp_ne (tgt := 19) hx hb dX5_forMover_12 (by decide) (fun c3 => ?_) (fun c3 => ?_)
  · replace h := ifn c3 h
    refine lv_iload_n hx hb dX5_forMover_19 rfl (lv_at hl 2 rfl) ?_
    refine lv_ineg hx hb dX5_forMover_20 ?_
    have h1 := Option.some.inj h
    subst h1
    exact r_iret hx hb hr hlk hK hd hw dX5_forMover_21
  · replace h := ifp c3 h
    refine lv_iload_n hx hb dX5_forMover_15 rfl (lv_at hl 2 rfl) ?_
    refine lv_goto (tgt := 21) hx hb dX5_forMover_16 (by decide) ?_
    have h1 := Option.some.inj h
    subst h1
    exact r_iret hx hb hr hlk hK hd hw dX5_forMover_21
theorem c_X5_forMover {l : Launch} {γ : Ev} {o : Nat} {σ : Mm} {r : Int32} {Z : Mm} {x1 x2 : Int32} (hB : isX5 γ o) (h : s_X5_forMover Z x1 x2 = some r) : Ct l yX5_forMover cX5_forMover 3 (some .int) 1 30 γ [.ref (eA γ o), .int x1, .int x2] (st 10 σ o Z) (some (.int r)) (st 10 σ o Z) := Ct.of (own := RX5) (by decide +kernel) rfl (Nat.le_of_ble_eq_true rfl) (fun C hw ls hl => b_X5_forMover C hB h hw hl)
set_option maxHeartbeats 4000000 in
set_option maxRecDepth 10000 in
theorem b_X5_lookOne_L18 {γ : Ev} {o : Nat} {σ : Mm} {Bf : Mm} {r : Int32} (C : Cx p R s m args meth c RX5 cX5_lookOne 4 (some .int) 7 161 γ) (hB : isX5 γ o) : ∀ (n : Nat) {Z : Mm} {x1 : Int32} {x2 : Int32} {H : Heap} {locs : List Loc} {ls : Array Slot}, s_X5_lookOne_L18 n Z x1 x2 = some (r, Bf) → Wo γ (st 10 σ o Z) s H locs → lv_has ls 4 [(0, .ref (eA γ o)), (1, .int x1), (2, .int x2)] → W p l e R s m args below meth c H locs 0 0 (MQ below (Qo γ (some (.int r)) (st 10 σ o Bf)) args s 0 0 (AK γ)) (F0 m 18 ls []) := by
  have C0 := C
  obtain ⟨hx, hb, hr, hml, hown, hts, hlk, hK, hd, hF, hL⟩ := C
  intro n
  induction n with
  | zero => intro Z x1 x2 H locs ls h; cases h
  | succ n ih =>
    intro Z x1 x2 H locs ls h hw hl
    unfold s_X5_lookOne_L18 at h
    refine lv_iload_n hx hb dX5_lookOne_18 rfl (lv_at hl 2 rfl) ?_
    refine lv_bipush (v := (84 : Int32)) hx hb dX5_lookOne_19 (by decide) ?_
    refine jn_elim h (fun (k : Unit → Option (Int32 × (Mm))) => ∀ (u : Unit) {H : Heap} {locs : List Loc} {ls : Array Slot}, k u = some (r, Bf) → Wo γ (st 10 σ o Z) s H locs → lv_has ls 4 [(1, .int x1)] → W p l e R s m args below meth c H locs 0 0 (MQ below (Qo γ (some (.int r)) (st 10 σ o Bf)) args s 0 0 (AK γ)) (F0 m 76 ls [])) ?_ ?_
    · intro u H locs ls h hw hl
      refine lv_iload_n hx hb dX5_lookOne_76 rfl (lv_at hl 0 rfl) ?_
      refine lv_sipush (v := (-10005 : Int32)) hx hb dX5_lookOne_77 (by decide) ?_
      refine lv_icmp_ne (tgt := 87) hx hb dX5_lookOne_80 (by decide) (fun c12 => ?_) (fun c12 => ?_)
      · replace h := ifn c12 h
        refine lv_iload_n hx hb dX5_lookOne_87 rfl (lv_at hl 0 rfl) ?_
        obtain ⟨h1, h2⟩ := s2 h
        subst h1
        subst h2
        exact r_iret hx hb hr hlk hK hd hw dX5_lookOne_88
      · replace h := ifp c12 h
        refine lv_iconst (v := (0 : Int32)) hx hb dX5_lookOne_83 (by decide) ?_
        refine lv_goto (tgt := 88) hx hb dX5_lookOne_84 (by decide) ?_
        obtain ⟨h1, h2⟩ := s2 h
        subst h1
        subst h2
        exact r_iret hx hb hr hlk hK hd hw dX5_lookOne_88
    intro k11 J_k11 h
    refine lv_icmp_ge (tgt := 76) hx hb dX5_lookOne_21 (by decide) (fun c13 => ?_) (fun c13 => ?_)
    · replace h := ifp c13 h
      exact J_k11 () h hw (lv_sub hl [1] rfl)
    · replace h := ifn c13 h
      refine lv_iload_n hx hb dX5_lookOne_24 rfl (lv_at hl 1 rfl) ?_
      refine lv_iconst (v := (1 : Int32)) hx hb dX5_lookOne_25 (by decide) ?_
      refine lv_icmp_ge (tgt := 76) hx hb dX5_lookOne_26 (by decide) (fun c14 => ?_) (fun c14 => ?_)
      · replace h := ifp c14 h
        exact J_k11 () h hw (lv_sub hl [1] rfl)
      · replace h := ifn c14 h
        refine lv_aload_n hx hb dX5_lookOne_29 rfl (lv_at hl 0 rfl) ?_
        refine lv_iload_n hx hb dX5_lookOne_30 rfl (lv_at hl 2 rfl) ?_
        obtain ⟨v15, hv15, h⟩ := ob h
        refine r_Vi (rest := []) C0 z0 (c_X5_isPossible hB hv15) lk_X5_138 (X5_k0 hB) rfl rfl hl.1 rfl (Nat.le_of_ble_eq_true rfl) (by decide) hw dX5_lookOne_31 (fun {H} {locs} hw => ?_)
        refine lv_if_eq (tgt := 70) hx hb dX5_lookOne_34 (by decide) (fun c16 => ?_) (fun c16 => ?_)
        · replace h := ifp c16 h
          obtain ⟨v17, ev17, h⟩ := jb h
          refine lv_iinc (v := v17) (lv' := [(2, .int v17), (0, .ref (eA γ o)), (1, .int x1)]) hx hb dX5_lookOne_70 hl (k := 2) rfl (by rw [← ev17]; rfl) (by decide) rfl (fun ls hl => ?_)
          refine lv_goto (tgt := 18) hx hb dX5_lookOne_73 (by decide) ?_
          exact ih h hw (lv_sub hl [1, 2, 0] rfl)
        · replace h := ifn c16 h
          refine lv_aload_n hx hb dX5_lookOne_37 rfl (lv_at hl 0 rfl) ?_
          refine lv_iconst (v := (1 : Int32)) hx hb dX5_lookOne_38 (by decide) ?_
          refine lv_iload_n hx hb dX5_lookOne_39 rfl (lv_at hl 2 rfl) ?_
          obtain ⟨N18, hN18, h⟩ := ob h
          refine r_Vv (rest := []) C0 z0 (c_X5_ahead hB hN18) lk_X5_141 (X5_k0 hB) rfl rfl hl.1 rfl (Nat.le_of_ble_eq_true rfl) (by decide) hw dX5_lookOne_40 (fun {H} {locs} hw => ?_)
          refine lv_aload_n hx hb dX5_lookOne_43 rfl (lv_at hl 0 rfl) ?_
          refine lv_iconst (v := (1 : Int32)) hx hb dX5_lookOne_44 (by decide) ?_
          refine lv_aload_n hx hb dX5_lookOne_45 rfl (lv_at hl 0 rfl) ?_
          obtain ⟨v19, hv19, h⟩ := ob h
          refine r_Vi (rest := [.int (1 : Int32), .ref (eA γ o)]) C0 z0 (c_X5_told hB hv19) lk_X5_135 (X5_k0 hB) rfl rfl hl.1 rfl (Nat.le_of_ble_eq_true rfl) (by decide) hw dX5_lookOne_46 (fun {H} {locs} hw => ?_)
          obtain ⟨v20, hv20, h⟩ := ob h
          refine r_Vi (rest := []) C0 z0 (c_X5_forMover hB hv20) lk_X5_144 (X5_k0 hB) rfl rfl hl.1 rfl (Nat.le_of_ble_eq_true rfl) (by decide) hw dX5_lookOne_49 (fun {H} {locs} hw => ?_)
          refine lv_istore_n (lv' := [(3, .int v20), (0, .ref (eA γ o)), (1, .int x1), (2, .int x2)]) hx hb dX5_lookOne_52 rfl hl (by decide) rfl (fun ls hl => ?_)
          refine lv_aload_n hx hb dX5_lookOne_53 rfl (lv_at hl 1 rfl) ?_
          refine lv_iconst (v := (1 : Int32)) hx hb dX5_lookOne_54 (by decide) ?_
          refine lv_iload_n hx hb dX5_lookOne_55 rfl (lv_at hl 3 rfl) ?_
          obtain ⟨N21, hN21, h⟩ := ob h
          refine r_Vv (rest := []) C0 z0 (c_X5_back hB hN21) lk_X5_147 (X5_k0 hB) rfl rfl hl.1 rfl (Nat.le_of_ble_eq_true rfl) (by decide) hw dX5_lookOne_56 (fun {H} {locs} hw => ?_)
          refine lv_iload_n hx hb dX5_lookOne_59 rfl (lv_at hl 0 rfl) ?_
          refine lv_iload_n hx hb dX5_lookOne_60 rfl (lv_at hl 2 rfl) ?_
          refine lv_icmp_le (tgt := 68) hx hb dX5_lookOne_61 (by decide) (fun c22 => ?_) (fun c22 => ?_)
          · replace h := ifp c22 h
            refine lv_iload_n hx hb dX5_lookOne_68 rfl (lv_at hl 2 rfl) ?_
            refine lv_istore_n (lv' := [(1, .int x1), (3, .int v20), (0, .ref (eA γ o)), (2, .int x2)]) hx hb dX5_lookOne_69 rfl hl (by decide) rfl (fun ls hl => ?_)
            obtain ⟨v23, ev23, h⟩ := jb h
            refine lv_iinc (v := v23) (lv' := [(2, .int v23), (1, .int x1), (3, .int v20), (0, .ref (eA γ o))]) hx hb dX5_lookOne_70 hl (k := 3) rfl (by rw [← ev23]; rfl) (by decide) rfl (fun ls hl => ?_)
            refine lv_goto (tgt := 18) hx hb dX5_lookOne_73 (by decide) ?_
            exact ih h hw (lv_sub hl [3, 1, 0] rfl)
          · replace h := ifn c22 h
            refine lv_iload_n hx hb dX5_lookOne_64 rfl (lv_at hl 0 rfl) ?_
            refine lv_goto (tgt := 69) hx hb dX5_lookOne_65 (by decide) ?_
            refine lv_istore_n (lv' := [(1, .int v20), (3, .int v20), (0, .ref (eA γ o)), (2, .int x2)]) hx hb dX5_lookOne_69 rfl hl (by decide) rfl (fun ls hl => ?_)
            obtain ⟨v24, ev24, h⟩ := jb h
            refine lv_iinc (v := v24) (lv' := [(2, .int v24), (1, .int v20), (3, .int v20), (0, .ref (eA γ o))]) hx hb dX5_lookOne_70 hl (k := 3) rfl (by rw [← ev24]; rfl) (by decide) rfl (fun ls hl => ?_)
            refine lv_goto (tgt := 18) hx hb dX5_lookOne_73 (by decide) ?_
            exact ih h hw (lv_sub hl [3, 1, 0] rfl)
set_option maxHeartbeats 4000000 in
set_option maxRecDepth 10000 in
theorem b_X5_lookOne {γ : Ev} {o : Nat} {σ : Mm} {Bf : Mm} {r : Int32} {Z : Mm} (C : Cx p R s m args meth c RX5 cX5_lookOne 4 (some .int) 7 161 γ) (hB : isX5 γ o) (h : s_X5_lookOne Z = some (r, Bf)) (hw : Wo γ (st 10 σ o Z) s H locs) (hl : lv_has ls 4 [(0, .ref (eA γ o))]) : W p l e R s m args below meth c H locs 0 0 (MQ below (Qo γ (some (.int r)) (st 10 σ o Bf)) args s 0 0 (AK γ)) (F0 m 0 ls []) := by
  have C0 := C
  obtain ⟨hx, hb, hr, hml, hown, hts, hlk, hK, hd, hF, hL⟩ := C
  unfold s_X5_lookOne at h
  refine lv_aload_n hx hb dX5_lookOne_0 rfl (lv_at hl 0 rfl) ?_
  obtain ⟨v1, hv1, h⟩ := ob h
  refine r_Vi (rest := []) C0 z0 (c_X5_isOver hB hv1) lk_X5_94 (X5_k0 hB) rfl rfl hl.1 rfl (Nat.le_of_ble_eq_true rfl) (by decide) hw dX5_lookOne_1 (fun {H} {locs} hw => ?_)
  refine lv_if_eq (tgt := 12) hx hb dX5_lookOne_4 (by decide) (fun c2 => ?_) (fun c2 => ?_)
  · replace h := ifp c2 h
    refine lv_sipush (v := (-10005 : Int32)) hx hb dX5_lookOne_12 (by decide) ?_
    refine lv_istore_n (lv' := [(1, .int (-10005 : Int32)), (0, .ref (eA γ o))]) hx hb dX5_lookOne_15 rfl hl (by decide) rfl (fun ls hl => ?_)
    refine lv_iconst (v := (0 : Int32)) hx hb dX5_lookOne_16 (by decide) ?_
    refine lv_istore_n (lv' := [(2, .int (0 : Int32)), (1, .int (-10005 : Int32)), (0, .ref (eA γ o))]) hx hb dX5_lookOne_17 rfl hl (by decide) rfl (fun ls hl => ?_)
    exact b_X5_lookOne_L18 C0 hB 1000 h hw (lv_sub hl [2, 1, 0] rfl)
  · replace h := ifn c2 h
    refine lv_aload_n hx hb dX5_lookOne_7 rfl (lv_at hl 0 rfl) ?_
    obtain ⟨v25, hv25, h⟩ := ob h
    refine r_Vi (rest := []) C0 z0 (c_X5_told hB hv25) lk_X5_135 (X5_k0 hB) rfl rfl hl.1 rfl (Nat.le_of_ble_eq_true rfl) (by decide) hw dX5_lookOne_8 (fun {H} {locs} hw => ?_)
    obtain ⟨h1, h2⟩ := s2 h
    subst h1
    subst h2
    exact r_iret hx hb hr hlk hK hd hw dX5_lookOne_11
theorem c_X5_lookOne {l : Launch} {γ : Ev} {o : Nat} {σ : Mm} {Bf : Mm} {r : Int32} {Z : Mm} (hB : isX5 γ o) (h : s_X5_lookOne Z = some (r, Bf)) : Ct l yX5_lookOne cX5_lookOne 4 (some .int) 7 161 γ [.ref (eA γ o)] (st 10 σ o Z) (some (.int r)) (st 10 σ o Bf) := Ct.of (own := RX5) (by decide +kernel) rfl (Nat.le_of_ble_eq_true rfl) (fun C hw ls hl => b_X5_lookOne C hB h hw hl)
set_option maxHeartbeats 4000000 in
set_option maxRecDepth 10000 in
theorem b_X5_lookTwo_L18 {γ : Ev} {o : Nat} {σ : Mm} {Bf : Mm} {r : Int32} (C : Cx p R s m args meth c RX5 cX5_lookTwo 4 (some .int) 8 184 γ) (hB : isX5 γ o) : ∀ (n : Nat) {Z : Mm} {x1 : Int32} {x2 : Int32} {H : Heap} {locs : List Loc} {ls : Array Slot}, s_X5_lookTwo_L18 n Z x1 x2 = some (r, Bf) → Wo γ (st 10 σ o Z) s H locs → lv_has ls 4 [(0, .ref (eA γ o)), (1, .int x1), (2, .int x2)] → W p l e R s m args below meth c H locs 0 0 (MQ below (Qo γ (some (.int r)) (st 10 σ o Bf)) args s 0 0 (AK γ)) (F0 m 18 ls []) := by
  have C0 := C
  obtain ⟨hx, hb, hr, hml, hown, hts, hlk, hK, hd, hF, hL⟩ := C
  intro n
  induction n with
  | zero => intro Z x1 x2 H locs ls h; cases h
  | succ n ih =>
    intro Z x1 x2 H locs ls h hw hl
    unfold s_X5_lookTwo_L18 at h
    refine lv_iload_n hx hb dX5_lookTwo_18 rfl (lv_at hl 2 rfl) ?_
    refine lv_bipush (v := (84 : Int32)) hx hb dX5_lookTwo_19 (by decide) ?_
    refine jn_elim h (fun (k : Unit → Option (Int32 × (Mm))) => ∀ (u : Unit) {H : Heap} {locs : List Loc} {ls : Array Slot}, k u = some (r, Bf) → Wo γ (st 10 σ o Z) s H locs → lv_has ls 4 [(1, .int x1)] → W p l e R s m args below meth c H locs 0 0 (MQ below (Qo γ (some (.int r)) (st 10 σ o Bf)) args s 0 0 (AK γ)) (F0 m 76 ls [])) ?_ ?_
    · intro u H locs ls h hw hl
      refine lv_iload_n hx hb dX5_lookTwo_76 rfl (lv_at hl 0 rfl) ?_
      refine lv_sipush (v := (-10005 : Int32)) hx hb dX5_lookTwo_77 (by decide) ?_
      refine lv_icmp_ne (tgt := 87) hx hb dX5_lookTwo_80 (by decide) (fun c13 => ?_) (fun c13 => ?_)
      · replace h := ifn c13 h
        refine lv_iload_n hx hb dX5_lookTwo_87 rfl (lv_at hl 0 rfl) ?_
        obtain ⟨h1, h2⟩ := s2 h
        subst h1
        subst h2
        exact r_iret hx hb hr hlk hK hd hw dX5_lookTwo_88
      · replace h := ifp c13 h
        refine lv_iconst (v := (0 : Int32)) hx hb dX5_lookTwo_83 (by decide) ?_
        refine lv_goto (tgt := 88) hx hb dX5_lookTwo_84 (by decide) ?_
        obtain ⟨h1, h2⟩ := s2 h
        subst h1
        subst h2
        exact r_iret hx hb hr hlk hK hd hw dX5_lookTwo_88
    intro k12 J_k12 h
    refine lv_icmp_ge (tgt := 76) hx hb dX5_lookTwo_21 (by decide) (fun c14 => ?_) (fun c14 => ?_)
    · replace h := ifp c14 h
      exact J_k12 () h hw (lv_sub hl [1] rfl)
    · replace h := ifn c14 h
      refine lv_iload_n hx hb dX5_lookTwo_24 rfl (lv_at hl 1 rfl) ?_
      refine lv_iconst (v := (1 : Int32)) hx hb dX5_lookTwo_25 (by decide) ?_
      refine lv_icmp_ge (tgt := 76) hx hb dX5_lookTwo_26 (by decide) (fun c15 => ?_) (fun c15 => ?_)
      · replace h := ifp c15 h
        exact J_k12 () h hw (lv_sub hl [1] rfl)
      · replace h := ifn c15 h
        refine lv_aload_n hx hb dX5_lookTwo_29 rfl (lv_at hl 0 rfl) ?_
        refine lv_iload_n hx hb dX5_lookTwo_30 rfl (lv_at hl 2 rfl) ?_
        obtain ⟨v16, hv16, h⟩ := ob h
        refine r_Vi (rest := []) C0 z0 (c_X5_isPossible hB hv16) lk_X5_138 (X5_k0 hB) rfl rfl hl.1 rfl (Nat.le_of_ble_eq_true rfl) (by decide) hw dX5_lookTwo_31 (fun {H} {locs} hw => ?_)
        refine lv_if_eq (tgt := 70) hx hb dX5_lookTwo_34 (by decide) (fun c17 => ?_) (fun c17 => ?_)
        · replace h := ifp c17 h
          obtain ⟨v18, ev18, h⟩ := jb h
          refine lv_iinc (v := v18) (lv' := [(2, .int v18), (0, .ref (eA γ o)), (1, .int x1)]) hx hb dX5_lookTwo_70 hl (k := 2) rfl (by rw [← ev18]; rfl) (by decide) rfl (fun ls hl => ?_)
          refine lv_goto (tgt := 18) hx hb dX5_lookTwo_73 (by decide) ?_
          exact ih h hw (lv_sub hl [1, 2, 0] rfl)
        · replace h := ifn c17 h
          refine lv_aload_n hx hb dX5_lookTwo_37 rfl (lv_at hl 0 rfl) ?_
          refine lv_iconst (v := (2 : Int32)) hx hb dX5_lookTwo_38 (by decide) ?_
          refine lv_iload_n hx hb dX5_lookTwo_39 rfl (lv_at hl 2 rfl) ?_
          obtain ⟨N19, hN19, h⟩ := ob h
          refine r_Vv (rest := []) C0 z0 (c_X5_ahead hB hN19) lk_X5_141 (X5_k0 hB) rfl rfl hl.1 rfl (Nat.le_of_ble_eq_true rfl) (by decide) hw dX5_lookTwo_40 (fun {H} {locs} hw => ?_)
          refine lv_aload_n hx hb dX5_lookTwo_43 rfl (lv_at hl 0 rfl) ?_
          refine lv_iconst (v := (2 : Int32)) hx hb dX5_lookTwo_44 (by decide) ?_
          refine lv_aload_n hx hb dX5_lookTwo_45 rfl (lv_at hl 0 rfl) ?_
          obtain ⟨q20, hq20, h⟩ := ob h
          refine r_Vi (rest := [.int (2 : Int32), .ref (eA γ o)]) C0 z0 (c_X5_lookOne hB hq20) lk_X5_150 (X5_k0 hB) rfl rfl hl.1 rfl (Nat.le_of_ble_eq_true rfl) (by decide) hw dX5_lookTwo_46 (fun {H} {locs} hw => ?_)
          obtain ⟨v21, hv21, h⟩ := ob h
          refine r_Vi (rest := []) C0 z0 (c_X5_forMover hB hv21) lk_X5_144 (X5_k0 hB) rfl rfl hl.1 rfl (Nat.le_of_ble_eq_true rfl) (by decide) hw dX5_lookTwo_49 (fun {H} {locs} hw => ?_)
          refine lv_istore_n (lv' := [(3, .int v21), (0, .ref (eA γ o)), (1, .int x1), (2, .int x2)]) hx hb dX5_lookTwo_52 rfl hl (by decide) rfl (fun ls hl => ?_)
          refine lv_aload_n hx hb dX5_lookTwo_53 rfl (lv_at hl 1 rfl) ?_
          refine lv_iconst (v := (2 : Int32)) hx hb dX5_lookTwo_54 (by decide) ?_
          refine lv_iload_n hx hb dX5_lookTwo_55 rfl (lv_at hl 3 rfl) ?_
          obtain ⟨N22, hN22, h⟩ := ob h
          refine r_Vv (rest := []) C0 z0 (c_X5_back hB hN22) lk_X5_147 (X5_k0 hB) rfl rfl hl.1 rfl (Nat.le_of_ble_eq_true rfl) (by decide) hw dX5_lookTwo_56 (fun {H} {locs} hw => ?_)
          refine lv_iload_n hx hb dX5_lookTwo_59 rfl (lv_at hl 0 rfl) ?_
          refine lv_iload_n hx hb dX5_lookTwo_60 rfl (lv_at hl 2 rfl) ?_
          refine lv_icmp_le (tgt := 68) hx hb dX5_lookTwo_61 (by decide) (fun c23 => ?_) (fun c23 => ?_)
          · replace h := ifp c23 h
            refine lv_iload_n hx hb dX5_lookTwo_68 rfl (lv_at hl 2 rfl) ?_
            refine lv_istore_n (lv' := [(1, .int x1), (3, .int v21), (0, .ref (eA γ o)), (2, .int x2)]) hx hb dX5_lookTwo_69 rfl hl (by decide) rfl (fun ls hl => ?_)
            obtain ⟨v24, ev24, h⟩ := jb h
            refine lv_iinc (v := v24) (lv' := [(2, .int v24), (1, .int x1), (3, .int v21), (0, .ref (eA γ o))]) hx hb dX5_lookTwo_70 hl (k := 3) rfl (by rw [← ev24]; rfl) (by decide) rfl (fun ls hl => ?_)
            refine lv_goto (tgt := 18) hx hb dX5_lookTwo_73 (by decide) ?_
            exact ih h hw (lv_sub hl [3, 1, 0] rfl)
          · replace h := ifn c23 h
            refine lv_iload_n hx hb dX5_lookTwo_64 rfl (lv_at hl 0 rfl) ?_
            refine lv_goto (tgt := 69) hx hb dX5_lookTwo_65 (by decide) ?_
            refine lv_istore_n (lv' := [(1, .int v21), (3, .int v21), (0, .ref (eA γ o)), (2, .int x2)]) hx hb dX5_lookTwo_69 rfl hl (by decide) rfl (fun ls hl => ?_)
            obtain ⟨v25, ev25, h⟩ := jb h
            refine lv_iinc (v := v25) (lv' := [(2, .int v25), (1, .int v21), (3, .int v21), (0, .ref (eA γ o))]) hx hb dX5_lookTwo_70 hl (k := 3) rfl (by rw [← ev25]; rfl) (by decide) rfl (fun ls hl => ?_)
            refine lv_goto (tgt := 18) hx hb dX5_lookTwo_73 (by decide) ?_
            exact ih h hw (lv_sub hl [3, 1, 0] rfl)
set_option maxHeartbeats 4000000 in
set_option maxRecDepth 10000 in
theorem b_X5_lookTwo {γ : Ev} {o : Nat} {σ : Mm} {Bf : Mm} {r : Int32} {Z : Mm} (C : Cx p R s m args meth c RX5 cX5_lookTwo 4 (some .int) 8 184 γ) (hB : isX5 γ o) (h : s_X5_lookTwo Z = some (r, Bf)) (hw : Wo γ (st 10 σ o Z) s H locs) (hl : lv_has ls 4 [(0, .ref (eA γ o))]) : W p l e R s m args below meth c H locs 0 0 (MQ below (Qo γ (some (.int r)) (st 10 σ o Bf)) args s 0 0 (AK γ)) (F0 m 0 ls []) := by
  have C0 := C
  obtain ⟨hx, hb, hr, hml, hown, hts, hlk, hK, hd, hF, hL⟩ := C
  unfold s_X5_lookTwo at h
  refine lv_aload_n hx hb dX5_lookTwo_0 rfl (lv_at hl 0 rfl) ?_
  obtain ⟨v1, hv1, h⟩ := ob h
  refine r_Vi (rest := []) C0 z0 (c_X5_isOver hB hv1) lk_X5_94 (X5_k0 hB) rfl rfl hl.1 rfl (Nat.le_of_ble_eq_true rfl) (by decide) hw dX5_lookTwo_1 (fun {H} {locs} hw => ?_)
  refine lv_if_eq (tgt := 12) hx hb dX5_lookTwo_4 (by decide) (fun c2 => ?_) (fun c2 => ?_)
  · replace h := ifp c2 h
    refine lv_sipush (v := (-10005 : Int32)) hx hb dX5_lookTwo_12 (by decide) ?_
    refine lv_istore_n (lv' := [(1, .int (-10005 : Int32)), (0, .ref (eA γ o))]) hx hb dX5_lookTwo_15 rfl hl (by decide) rfl (fun ls hl => ?_)
    refine lv_iconst (v := (0 : Int32)) hx hb dX5_lookTwo_16 (by decide) ?_
    refine lv_istore_n (lv' := [(2, .int (0 : Int32)), (1, .int (-10005 : Int32)), (0, .ref (eA γ o))]) hx hb dX5_lookTwo_17 rfl hl (by decide) rfl (fun ls hl => ?_)
    exact b_X5_lookTwo_L18 C0 hB 1000 h hw (lv_sub hl [2, 1, 0] rfl)
  · replace h := ifn c2 h
    refine lv_aload_n hx hb dX5_lookTwo_7 rfl (lv_at hl 0 rfl) ?_
    obtain ⟨v26, hv26, h⟩ := ob h
    refine r_Vi (rest := []) C0 z0 (c_X5_told hB hv26) lk_X5_135 (X5_k0 hB) rfl rfl hl.1 rfl (Nat.le_of_ble_eq_true rfl) (by decide) hw dX5_lookTwo_8 (fun {H} {locs} hw => ?_)
    obtain ⟨h1, h2⟩ := s2 h
    subst h1
    subst h2
    exact r_iret hx hb hr hlk hK hd hw dX5_lookTwo_11
theorem c_X5_lookTwo {l : Launch} {γ : Ev} {o : Nat} {σ : Mm} {Bf : Mm} {r : Int32} {Z : Mm} (hB : isX5 γ o) (h : s_X5_lookTwo Z = some (r, Bf)) : Ct l yX5_lookTwo cX5_lookTwo 4 (some .int) 8 184 γ [.ref (eA γ o)] (st 10 σ o Z) (some (.int r)) (st 10 σ o Bf) := Ct.of (own := RX5) (by decide +kernel) rfl (Nat.le_of_ble_eq_true rfl) (fun C hw ls hl => b_X5_lookTwo C hB h hw hl)
set_option maxHeartbeats 4000000 in
set_option maxRecDepth 10000 in
theorem b_X5_lookThree_L18 {γ : Ev} {o : Nat} {σ : Mm} {Bf : Mm} {r : Int32} (C : Cx p R s m args meth c RX5 cX5_lookThree 4 (some .int) 9 207 γ) (hB : isX5 γ o) : ∀ (n : Nat) {Z : Mm} {x1 : Int32} {x2 : Int32} {H : Heap} {locs : List Loc} {ls : Array Slot}, s_X5_lookThree_L18 n Z x1 x2 = some (r, Bf) → Wo γ (st 10 σ o Z) s H locs → lv_has ls 4 [(0, .ref (eA γ o)), (1, .int x1), (2, .int x2)] → W p l e R s m args below meth c H locs 0 0 (MQ below (Qo γ (some (.int r)) (st 10 σ o Bf)) args s 0 0 (AK γ)) (F0 m 18 ls []) := by
  have C0 := C
  obtain ⟨hx, hb, hr, hml, hown, hts, hlk, hK, hd, hF, hL⟩ := C
  intro n
  induction n with
  | zero => intro Z x1 x2 H locs ls h; cases h
  | succ n ih =>
    intro Z x1 x2 H locs ls h hw hl
    unfold s_X5_lookThree_L18 at h
    refine lv_iload_n hx hb dX5_lookThree_18 rfl (lv_at hl 2 rfl) ?_
    refine lv_bipush (v := (84 : Int32)) hx hb dX5_lookThree_19 (by decide) ?_
    refine jn_elim h (fun (k : Unit → Option (Int32 × (Mm))) => ∀ (u : Unit) {H : Heap} {locs : List Loc} {ls : Array Slot}, k u = some (r, Bf) → Wo γ (st 10 σ o Z) s H locs → lv_has ls 4 [(1, .int x1)] → W p l e R s m args below meth c H locs 0 0 (MQ below (Qo γ (some (.int r)) (st 10 σ o Bf)) args s 0 0 (AK γ)) (F0 m 76 ls [])) ?_ ?_
    · intro u H locs ls h hw hl
      refine lv_iload_n hx hb dX5_lookThree_76 rfl (lv_at hl 0 rfl) ?_
      refine lv_sipush (v := (-10005 : Int32)) hx hb dX5_lookThree_77 (by decide) ?_
      refine lv_icmp_ne (tgt := 87) hx hb dX5_lookThree_80 (by decide) (fun c13 => ?_) (fun c13 => ?_)
      · replace h := ifn c13 h
        refine lv_iload_n hx hb dX5_lookThree_87 rfl (lv_at hl 0 rfl) ?_
        obtain ⟨h1, h2⟩ := s2 h
        subst h1
        subst h2
        exact r_iret hx hb hr hlk hK hd hw dX5_lookThree_88
      · replace h := ifp c13 h
        refine lv_iconst (v := (0 : Int32)) hx hb dX5_lookThree_83 (by decide) ?_
        refine lv_goto (tgt := 88) hx hb dX5_lookThree_84 (by decide) ?_
        obtain ⟨h1, h2⟩ := s2 h
        subst h1
        subst h2
        exact r_iret hx hb hr hlk hK hd hw dX5_lookThree_88
    intro k12 J_k12 h
    refine lv_icmp_ge (tgt := 76) hx hb dX5_lookThree_21 (by decide) (fun c14 => ?_) (fun c14 => ?_)
    · replace h := ifp c14 h
      exact J_k12 () h hw (lv_sub hl [1] rfl)
    · replace h := ifn c14 h
      refine lv_iload_n hx hb dX5_lookThree_24 rfl (lv_at hl 1 rfl) ?_
      refine lv_iconst (v := (1 : Int32)) hx hb dX5_lookThree_25 (by decide) ?_
      refine lv_icmp_ge (tgt := 76) hx hb dX5_lookThree_26 (by decide) (fun c15 => ?_) (fun c15 => ?_)
      · replace h := ifp c15 h
        exact J_k12 () h hw (lv_sub hl [1] rfl)
      · replace h := ifn c15 h
        refine lv_aload_n hx hb dX5_lookThree_29 rfl (lv_at hl 0 rfl) ?_
        refine lv_iload_n hx hb dX5_lookThree_30 rfl (lv_at hl 2 rfl) ?_
        obtain ⟨v16, hv16, h⟩ := ob h
        refine r_Vi (rest := []) C0 z0 (c_X5_isPossible hB hv16) lk_X5_138 (X5_k0 hB) rfl rfl hl.1 rfl (Nat.le_of_ble_eq_true rfl) (by decide) hw dX5_lookThree_31 (fun {H} {locs} hw => ?_)
        refine lv_if_eq (tgt := 70) hx hb dX5_lookThree_34 (by decide) (fun c17 => ?_) (fun c17 => ?_)
        · replace h := ifp c17 h
          obtain ⟨v18, ev18, h⟩ := jb h
          refine lv_iinc (v := v18) (lv' := [(2, .int v18), (0, .ref (eA γ o)), (1, .int x1)]) hx hb dX5_lookThree_70 hl (k := 2) rfl (by rw [← ev18]; rfl) (by decide) rfl (fun ls hl => ?_)
          refine lv_goto (tgt := 18) hx hb dX5_lookThree_73 (by decide) ?_
          exact ih h hw (lv_sub hl [1, 2, 0] rfl)
        · replace h := ifn c17 h
          refine lv_aload_n hx hb dX5_lookThree_37 rfl (lv_at hl 0 rfl) ?_
          refine lv_iconst (v := (3 : Int32)) hx hb dX5_lookThree_38 (by decide) ?_
          refine lv_iload_n hx hb dX5_lookThree_39 rfl (lv_at hl 2 rfl) ?_
          obtain ⟨N19, hN19, h⟩ := ob h
          refine r_Vv (rest := []) C0 z0 (c_X5_ahead hB hN19) lk_X5_141 (X5_k0 hB) rfl rfl hl.1 rfl (Nat.le_of_ble_eq_true rfl) (by decide) hw dX5_lookThree_40 (fun {H} {locs} hw => ?_)
          refine lv_aload_n hx hb dX5_lookThree_43 rfl (lv_at hl 0 rfl) ?_
          refine lv_iconst (v := (3 : Int32)) hx hb dX5_lookThree_44 (by decide) ?_
          refine lv_aload_n hx hb dX5_lookThree_45 rfl (lv_at hl 0 rfl) ?_
          obtain ⟨q20, hq20, h⟩ := ob h
          refine r_Vi (rest := [.int (3 : Int32), .ref (eA γ o)]) C0 z0 (c_X5_lookTwo hB hq20) lk_X5_153 (X5_k0 hB) rfl rfl hl.1 rfl (Nat.le_of_ble_eq_true rfl) (by decide) hw dX5_lookThree_46 (fun {H} {locs} hw => ?_)
          obtain ⟨v21, hv21, h⟩ := ob h
          refine r_Vi (rest := []) C0 z0 (c_X5_forMover hB hv21) lk_X5_144 (X5_k0 hB) rfl rfl hl.1 rfl (Nat.le_of_ble_eq_true rfl) (by decide) hw dX5_lookThree_49 (fun {H} {locs} hw => ?_)
          refine lv_istore_n (lv' := [(3, .int v21), (0, .ref (eA γ o)), (1, .int x1), (2, .int x2)]) hx hb dX5_lookThree_52 rfl hl (by decide) rfl (fun ls hl => ?_)
          refine lv_aload_n hx hb dX5_lookThree_53 rfl (lv_at hl 1 rfl) ?_
          refine lv_iconst (v := (3 : Int32)) hx hb dX5_lookThree_54 (by decide) ?_
          refine lv_iload_n hx hb dX5_lookThree_55 rfl (lv_at hl 3 rfl) ?_
          obtain ⟨N22, hN22, h⟩ := ob h
          refine r_Vv (rest := []) C0 z0 (c_X5_back hB hN22) lk_X5_147 (X5_k0 hB) rfl rfl hl.1 rfl (Nat.le_of_ble_eq_true rfl) (by decide) hw dX5_lookThree_56 (fun {H} {locs} hw => ?_)
          refine lv_iload_n hx hb dX5_lookThree_59 rfl (lv_at hl 0 rfl) ?_
          refine lv_iload_n hx hb dX5_lookThree_60 rfl (lv_at hl 2 rfl) ?_
          refine lv_icmp_le (tgt := 68) hx hb dX5_lookThree_61 (by decide) (fun c23 => ?_) (fun c23 => ?_)
          · replace h := ifp c23 h
            refine lv_iload_n hx hb dX5_lookThree_68 rfl (lv_at hl 2 rfl) ?_
            refine lv_istore_n (lv' := [(1, .int x1), (3, .int v21), (0, .ref (eA γ o)), (2, .int x2)]) hx hb dX5_lookThree_69 rfl hl (by decide) rfl (fun ls hl => ?_)
            obtain ⟨v24, ev24, h⟩ := jb h
            refine lv_iinc (v := v24) (lv' := [(2, .int v24), (1, .int x1), (3, .int v21), (0, .ref (eA γ o))]) hx hb dX5_lookThree_70 hl (k := 3) rfl (by rw [← ev24]; rfl) (by decide) rfl (fun ls hl => ?_)
            refine lv_goto (tgt := 18) hx hb dX5_lookThree_73 (by decide) ?_
            exact ih h hw (lv_sub hl [3, 1, 0] rfl)
          · replace h := ifn c23 h
            refine lv_iload_n hx hb dX5_lookThree_64 rfl (lv_at hl 0 rfl) ?_
            refine lv_goto (tgt := 69) hx hb dX5_lookThree_65 (by decide) ?_
            refine lv_istore_n (lv' := [(1, .int v21), (3, .int v21), (0, .ref (eA γ o)), (2, .int x2)]) hx hb dX5_lookThree_69 rfl hl (by decide) rfl (fun ls hl => ?_)
            obtain ⟨v25, ev25, h⟩ := jb h
            refine lv_iinc (v := v25) (lv' := [(2, .int v25), (1, .int v21), (3, .int v21), (0, .ref (eA γ o))]) hx hb dX5_lookThree_70 hl (k := 3) rfl (by rw [← ev25]; rfl) (by decide) rfl (fun ls hl => ?_)
            refine lv_goto (tgt := 18) hx hb dX5_lookThree_73 (by decide) ?_
            exact ih h hw (lv_sub hl [3, 1, 0] rfl)
set_option maxHeartbeats 4000000 in
set_option maxRecDepth 10000 in
theorem b_X5_lookThree {γ : Ev} {o : Nat} {σ : Mm} {Bf : Mm} {r : Int32} {Z : Mm} (C : Cx p R s m args meth c RX5 cX5_lookThree 4 (some .int) 9 207 γ) (hB : isX5 γ o) (h : s_X5_lookThree Z = some (r, Bf)) (hw : Wo γ (st 10 σ o Z) s H locs) (hl : lv_has ls 4 [(0, .ref (eA γ o))]) : W p l e R s m args below meth c H locs 0 0 (MQ below (Qo γ (some (.int r)) (st 10 σ o Bf)) args s 0 0 (AK γ)) (F0 m 0 ls []) := by
  have C0 := C
  obtain ⟨hx, hb, hr, hml, hown, hts, hlk, hK, hd, hF, hL⟩ := C
  unfold s_X5_lookThree at h
  refine lv_aload_n hx hb dX5_lookThree_0 rfl (lv_at hl 0 rfl) ?_
  obtain ⟨v1, hv1, h⟩ := ob h
  refine r_Vi (rest := []) C0 z0 (c_X5_isOver hB hv1) lk_X5_94 (X5_k0 hB) rfl rfl hl.1 rfl (Nat.le_of_ble_eq_true rfl) (by decide) hw dX5_lookThree_1 (fun {H} {locs} hw => ?_)
  refine lv_if_eq (tgt := 12) hx hb dX5_lookThree_4 (by decide) (fun c2 => ?_) (fun c2 => ?_)
  · replace h := ifp c2 h
    refine lv_sipush (v := (-10005 : Int32)) hx hb dX5_lookThree_12 (by decide) ?_
    refine lv_istore_n (lv' := [(1, .int (-10005 : Int32)), (0, .ref (eA γ o))]) hx hb dX5_lookThree_15 rfl hl (by decide) rfl (fun ls hl => ?_)
    refine lv_iconst (v := (0 : Int32)) hx hb dX5_lookThree_16 (by decide) ?_
    refine lv_istore_n (lv' := [(2, .int (0 : Int32)), (1, .int (-10005 : Int32)), (0, .ref (eA γ o))]) hx hb dX5_lookThree_17 rfl hl (by decide) rfl (fun ls hl => ?_)
    exact b_X5_lookThree_L18 C0 hB 1000 h hw (lv_sub hl [2, 1, 0] rfl)
  · replace h := ifn c2 h
    refine lv_aload_n hx hb dX5_lookThree_7 rfl (lv_at hl 0 rfl) ?_
    obtain ⟨v26, hv26, h⟩ := ob h
    refine r_Vi (rest := []) C0 z0 (c_X5_told hB hv26) lk_X5_135 (X5_k0 hB) rfl rfl hl.1 rfl (Nat.le_of_ble_eq_true rfl) (by decide) hw dX5_lookThree_8 (fun {H} {locs} hw => ?_)
    obtain ⟨h1, h2⟩ := s2 h
    subst h1
    subst h2
    exact r_iret hx hb hr hlk hK hd hw dX5_lookThree_11
theorem c_X5_lookThree {l : Launch} {γ : Ev} {o : Nat} {σ : Mm} {Bf : Mm} {r : Int32} {Z : Mm} (hB : isX5 γ o) (h : s_X5_lookThree Z = some (r, Bf)) : Ct l yX5_lookThree cX5_lookThree 4 (some .int) 9 207 γ [.ref (eA γ o)] (st 10 σ o Z) (some (.int r)) (st 10 σ o Bf) := Ct.of (own := RX5) (by decide +kernel) rfl (Nat.le_of_ble_eq_true rfl) (fun C hw ls hl => b_X5_lookThree C hB h hw hl)
set_option maxHeartbeats 4000000 in
set_option maxRecDepth 10000 in
theorem b_X5_looked {γ : Ev} {o : Nat} {σ : Mm} {Bf : Mm} {r : Int32} {Z : Mm} {x1 : Int32} (C : Cx p R s m args meth c RX5 cX5_looked 2 (some .int) 10 230 γ) (hB : isX5 γ o) (h : s_X5_looked Z x1 = some (r, Bf)) (hw : Wo γ (st 10 σ o Z) s H locs) (hl : lv_has ls 2 [(0, .ref (eA γ o)), (1, .int x1)]) : W p l e R s m args below meth c H locs 0 0 (MQ below (Qo γ (some (.int r)) (st 10 σ o Bf)) args s 0 0 (AK γ)) (F0 m 0 ls []) := by
  have C0 := C
  obtain ⟨hx, hb, hr, hml, hown, hts, hlk, hK, hd, hF, hL⟩ := C
  unfold s_X5_looked at h
  refine lv_iload_n hx hb dX5_looked_0 rfl (lv_at hl 1 rfl) ?_
  refine lv_if_ne (tgt := 11) hx hb dX5_looked_1 (by decide) (fun c1 => ?_) (fun c1 => ?_)
  · replace h := ifn c1 h
    refine lv_iload_n hx hb dX5_looked_11 rfl (lv_at hl 1 rfl) ?_
    refine lv_iconst (v := (1 : Int32)) hx hb dX5_looked_12 (by decide) ?_
    refine lv_icmp_ne (tgt := 23) hx hb dX5_looked_13 (by decide) (fun c2 => ?_) (fun c2 => ?_)
    · replace h := ifn c2 h
      refine lv_iload_n hx hb dX5_looked_23 rfl (lv_at hl 1 rfl) ?_
      refine lv_iconst (v := (2 : Int32)) hx hb dX5_looked_24 (by decide) ?_
      refine lv_icmp_ne (tgt := 35) hx hb dX5_looked_25 (by decide) (fun c3 => ?_) (fun c3 => ?_)
      · replace h := ifn c3 h
        refine lv_aload_n hx hb dX5_looked_35 rfl (lv_at hl 0 rfl) ?_
        obtain ⟨q4, hq4, h⟩ := ob h
        refine r_Vi (rest := []) C0 z0 (c_X5_lookThree hB hq4) lk_X5_156 (X5_k0 hB) rfl rfl hl.1 rfl (Nat.le_of_ble_eq_true rfl) (by decide) hw dX5_looked_36 (fun {H} {locs} hw => ?_)
        obtain ⟨h1, h2⟩ := s2 h
        subst h1
        subst h2
        exact r_iret hx hb hr hlk hK hd hw dX5_looked_39
      · replace h := ifp c3 h
        refine lv_aload_n hx hb dX5_looked_28 rfl (lv_at hl 0 rfl) ?_
        obtain ⟨q5, hq5, h⟩ := ob h
        refine r_Vi (rest := []) C0 z0 (c_X5_lookTwo hB hq5) lk_X5_153 (X5_k0 hB) rfl rfl hl.1 rfl (Nat.le_of_ble_eq_true rfl) (by decide) hw dX5_looked_29 (fun {H} {locs} hw => ?_)
        refine lv_goto (tgt := 39) hx hb dX5_looked_32 (by decide) ?_
        obtain ⟨h1, h2⟩ := s2 h
        subst h1
        subst h2
        exact r_iret hx hb hr hlk hK hd hw dX5_looked_39
    · replace h := ifp c2 h
      refine lv_aload_n hx hb dX5_looked_16 rfl (lv_at hl 0 rfl) ?_
      obtain ⟨q6, hq6, h⟩ := ob h
      refine r_Vi (rest := []) C0 z0 (c_X5_lookOne hB hq6) lk_X5_150 (X5_k0 hB) rfl rfl hl.1 rfl (Nat.le_of_ble_eq_true rfl) (by decide) hw dX5_looked_17 (fun {H} {locs} hw => ?_)
      refine lv_goto (tgt := 39) hx hb dX5_looked_20 (by decide) ?_
      obtain ⟨h1, h2⟩ := s2 h
      subst h1
      subst h2
      exact r_iret hx hb hr hlk hK hd hw dX5_looked_39
  · replace h := ifp c1 h
    refine lv_aload_n hx hb dX5_looked_4 rfl (lv_at hl 0 rfl) ?_
    obtain ⟨v7, hv7, h⟩ := ob h
    refine r_Vi (rest := []) C0 z0 (c_X5_told hB hv7) lk_X5_135 (X5_k0 hB) rfl rfl hl.1 rfl (Nat.le_of_ble_eq_true rfl) (by decide) hw dX5_looked_5 (fun {H} {locs} hw => ?_)
    refine lv_goto (tgt := 39) hx hb dX5_looked_8 (by decide) ?_
    obtain ⟨h1, h2⟩ := s2 h
    subst h1
    subst h2
    exact r_iret hx hb hr hlk hK hd hw dX5_looked_39
theorem c_X5_looked {l : Launch} {γ : Ev} {o : Nat} {σ : Mm} {Bf : Mm} {r : Int32} {Z : Mm} {x1 : Int32} (hB : isX5 γ o) (h : s_X5_looked Z x1 = some (r, Bf)) : Ct l yX5_looked cX5_looked 2 (some .int) 10 230 γ [.ref (eA γ o), .int x1] (st 10 σ o Z) (some (.int r)) (st 10 σ o Bf) := Ct.of (own := RX5) (by decide +kernel) rfl (Nat.le_of_ble_eq_true rfl) (fun C hw ls hl => b_X5_looked C hB h hw hl)
set_option maxHeartbeats 4000000 in
set_option maxRecDepth 10000 in
theorem b_X5_look {γ : Ev} {o : Nat} {σ : Mm} {Bf : Mm} {r : Int32} {Z : Mm} {x1 : Int32} (C : Cx p R s m args meth c RX5 cX5_look 2 (some .int) 11 251 γ) (hB : isX5 γ o) (h : s_X5_look Z x1 = some (r, Bf)) (hw : Wo γ (st 10 σ o Z) s H locs) (hl : lv_has ls 2 [(0, .ref (eA γ o)), (1, .int x1)]) : W p l e R s m args below meth c H locs 0 0 (MQ below (Qo γ (some (.int r)) (st 10 σ o Bf)) args s 0 0 (AK γ)) (F0 m 0 ls []) := by
  have C0 := C
  obtain ⟨hx, hb, hr, hml, hown, hts, hlk, hK, hd, hF, hL⟩ := C
  unfold s_X5_look at h
  refine lv_iload_n hx hb dX5_look_0 rfl (lv_at hl 1 rfl) ?_
  refine lv_iconst (v := (0 : Int32)) hx hb dX5_look_1 (by decide) ?_
  refine lv_iconst (v := (3 : Int32)) hx hb dX5_look_2 (by decide) ?_
  obtain ⟨v1, hv1, h⟩ := ob h
  refine r_Si (rest := []) C0 z0 (c_X5_in hv1) lk_X5_49 hl.1 rfl (Nat.le_of_ble_eq_true rfl) (by decide) hw dX5_look_3 (fun {H} {locs} hw => ?_)
  refine lv_if_eq (tgt := 17) hx hb dX5_look_6 (by decide) (fun c2 => ?_) (fun c2 => ?_)
  · replace h := ifp c2 h
    refine lv_sipush (v := (-10002 : Int32)) hx hb dX5_look_17 (by decide) ?_
    obtain ⟨h1, h2⟩ := s2 h
    subst h1
    subst h2
    exact r_iret hx hb hr hlk hK hd hw dX5_look_20
  · replace h := ifn c2 h
    refine lv_aload_n hx hb dX5_look_9 rfl (lv_at hl 0 rfl) ?_
    refine lv_iload_n hx hb dX5_look_10 rfl (lv_at hl 1 rfl) ?_
    obtain ⟨q3, hq3, h⟩ := ob h
    refine r_Vi (rest := []) C0 z0 (c_X5_looked hB hq3) lk_X5_159 (X5_k0 hB) rfl rfl hl.1 rfl (Nat.le_of_ble_eq_true rfl) (by decide) hw dX5_look_11 (fun {H} {locs} hw => ?_)
    refine lv_goto (tgt := 20) hx hb dX5_look_14 (by decide) ?_
    obtain ⟨h1, h2⟩ := s2 h
    subst h1
    subst h2
    exact r_iret hx hb hr hlk hK hd hw dX5_look_20
theorem c_X5_look {l : Launch} {γ : Ev} {o : Nat} {σ : Mm} {Bf : Mm} {r : Int32} {Z : Mm} {x1 : Int32} (hB : isX5 γ o) (h : s_X5_look Z x1 = some (r, Bf)) : Ct l yX5_look cX5_look 2 (some .int) 11 251 γ [.ref (eA γ o), .int x1] (st 10 σ o Z) (some (.int r)) (st 10 σ o Bf) := Ct.of (own := RX5) (by decide +kernel) rfl (Nat.le_of_ble_eq_true rfl) (fun C hw ls hl => b_X5_look C hB h hw hl)
set_option maxHeartbeats 4000000 in
set_option maxRecDepth 10000 in
theorem b_X5_bestMove_L14 {γ : Ev} {o : Nat} {σ : Mm} {Bf : Mm} {r : Int32} (C : Cx p R s m args meth c RX5 cX5_bestMove 9 (some .int) 11 251 γ) (hB : isX5 γ o) : ∀ (n : Nat) {Z : Mm} {x1 : Int32} {x2 : Int32} {x3 : Int32} {x4 : Int32} {x5 : Int32} {H : Heap} {locs : List Loc} {ls : Array Slot}, s_X5_bestMove_L14 n Z x1 x2 x3 x4 x5 = some (r, Bf) → Wo γ (st 10 σ o Z) s H locs → lv_has ls 9 [(0, .ref (eA γ o)), (1, .int x1), (2, .int x2), (3, .int x3), (4, .int x4), (5, .int x5)] → W p l e R s m args below meth c H locs 0 0 (MQ below (Qo γ (some (.int r)) (st 10 σ o Bf)) args s 0 0 (AK γ)) (F0 m 14 ls []) := by
  have C0 := C
  obtain ⟨hx, hb, hr, hml, hown, hts, hlk, hK, hd, hF, hL⟩ := C
  intro n
  induction n with
  | zero => intro Z x1 x2 x3 x4 x5 H locs ls h; cases h
  | succ n ih =>
    intro Z x1 x2 x3 x4 x5 H locs ls h hw hl
    unfold s_X5_bestMove_L14 at h
    refine lv_iload hx hb dX5_bestMove_14 (lv_at hl 5 rfl) ?_
    refine lv_bipush (v := (84 : Int32)) hx hb dX5_bestMove_16 (by decide) ?_
    refine lv_icmp_ge (tgt := 139) hx hb dX5_bestMove_18 (by decide) (fun c1 => ?_) (fun c1 => ?_)
    · replace h := ifp c1 h
      refine lv_iload_n hx hb dX5_bestMove_139 rfl (lv_at hl 2 rfl) ?_
      obtain ⟨h1, h2⟩ := s2 h
      subst h1
      subst h2
      exact r_iret hx hb hr hlk hK hd hw dX5_bestMove_140
    · replace h := ifn c1 h
      refine lv_aload_n hx hb dX5_bestMove_21 rfl (lv_at hl 0 rfl) ?_
      refine lv_iload hx hb dX5_bestMove_22 (lv_at hl 5 rfl) ?_
      obtain ⟨v2, hv2, h⟩ := ob h
      refine r_Vi (rest := []) C0 z0 (c_X5_isPossible hB hv2) lk_X5_138 (X5_k0 hB) rfl rfl hl.1 rfl (Nat.le_of_ble_eq_true rfl) (by decide) hw dX5_bestMove_24 (fun {H} {locs} hw => ?_)
      refine lv_if_eq (tgt := 133) hx hb dX5_bestMove_27 (by decide) (fun c3 => ?_) (fun c3 => ?_)
      · replace h := ifp c3 h
        obtain ⟨v4, ev4, h⟩ := jb h
        refine lv_iinc (v := v4) (lv' := [(5, .int v4), (0, .ref (eA γ o)), (1, .int x1), (2, .int x2), (3, .int x3), (4, .int x4)]) hx hb dX5_bestMove_133 hl (k := 5) rfl (by rw [← ev4]; rfl) (by decide) rfl (fun ls hl => ?_)
        refine lv_goto (tgt := 14) hx hb dX5_bestMove_136 (by decide) ?_
        exact ih h hw (lv_sub hl [1, 2, 3, 4, 5, 0] rfl)
      · replace h := ifn c3 h
        refine lv_aload_n hx hb dX5_bestMove_30 rfl (lv_at hl 0 rfl) ?_
        refine lv_iload_n hx hb dX5_bestMove_31 rfl (lv_at hl 1 rfl) ?_
        refine lv_iload hx hb dX5_bestMove_32 (lv_at hl 5 rfl) ?_
        obtain ⟨N5, hN5, h⟩ := ob h
        refine r_Vv (rest := []) C0 z0 (c_X5_ahead hB hN5) lk_X5_141 (X5_k0 hB) rfl rfl hl.1 rfl (Nat.le_of_ble_eq_true rfl) (by decide) hw dX5_bestMove_34 (fun {H} {locs} hw => ?_)
        refine lv_aload_n hx hb dX5_bestMove_37 rfl (lv_at hl 0 rfl) ?_
        refine lv_iload_n hx hb dX5_bestMove_38 rfl (lv_at hl 1 rfl) ?_
        refine lv_aload_n hx hb dX5_bestMove_39 rfl (lv_at hl 0 rfl) ?_
        refine lv_iload_n hx hb dX5_bestMove_40 rfl (lv_at hl 1 rfl) ?_
        refine lv_iconst (v := (1 : Int32)) hx hb dX5_bestMove_41 (by decide) ?_
        refine lv_isub hx hb dX5_bestMove_42 ?_
        obtain ⟨q6, hq6, h⟩ := ob h
        refine r_Vi (rest := [.int x1, .ref (eA γ o)]) C0 z0 (c_X5_looked hB hq6) lk_X5_159 (X5_k0 hB) rfl rfl hl.1 rfl (Nat.le_of_ble_eq_true rfl) (by decide) hw dX5_bestMove_43 (fun {H} {locs} hw => ?_)
        obtain ⟨v7, hv7, h⟩ := ob h
        refine r_Vi (rest := []) C0 z0 (c_X5_forMover hB hv7) lk_X5_144 (X5_k0 hB) rfl rfl hl.1 rfl (Nat.le_of_ble_eq_true rfl) (by decide) hw dX5_bestMove_46 (fun {H} {locs} hw => ?_)
        refine lv_istore (lv' := [(6, .int v7), (0, .ref (eA γ o)), (1, .int x1), (2, .int x2), (3, .int x3), (4, .int x4), (5, .int x5)]) hx hb dX5_bestMove_49 hl (by decide) rfl (fun ls hl => ?_)
        refine lv_aload_n hx hb dX5_bestMove_51 rfl (lv_at hl 1 rfl) ?_
        refine r_get (v := .ref (eA γ (o + 1))) hx hb hts hK hw hown inX5 rfl (X5_k0 hB) (st_at0 (by decide)) 0 (by decide) wd_573 rfl dX5_bestMove_52 ?_
        refine lv_iconst (v := (5 : Int32)) hx hb dX5_bestMove_55 (by decide) ?_
        obtain ⟨v8, hv8, h⟩ := ob h
        refine r_iald hx hb hK hw (X5_k1 hB) (st_at (by decide)) hv8 dX5_bestMove_56 ?_
        obtain ⟨v9, hv9, h⟩ := ob h
        refine r_Si (rest := []) C0 z0 (c_X5_size hv9) lk_X5_84 hl.1 rfl (Nat.le_of_ble_eq_true rfl) (by decide) hw dX5_bestMove_57 (fun {H} {locs} hw => ?_)
        refine lv_istore (lv' := [(7, .int v9), (6, .int v7), (0, .ref (eA γ o)), (1, .int x1), (2, .int x2), (3, .int x3), (4, .int x4), (5, .int x5)]) hx hb dX5_bestMove_60 hl (by decide) rfl (fun ls hl => ?_)
        refine lv_aload_n hx hb dX5_bestMove_62 rfl (lv_at hl 2 rfl) ?_
        refine lv_iload_n hx hb dX5_bestMove_63 rfl (lv_at hl 3 rfl) ?_
        refine lv_iload hx hb dX5_bestMove_64 (lv_at hl 7 rfl) ?_
        obtain ⟨N10, hN10, h⟩ := ob h
        refine r_Vv (rest := []) C0 z0 (c_X5_back hB hN10) lk_X5_147 (X5_k0 hB) rfl rfl hl.1 rfl (Nat.le_of_ble_eq_true rfl) (by decide) hw dX5_bestMove_66 (fun {H} {locs} hw => ?_)
        refine lv_iload hx hb dX5_bestMove_69 (lv_at hl 1 rfl) ?_
        refine lv_iload_n hx hb dX5_bestMove_71 rfl (lv_at hl 5 rfl) ?_
        refine jn_elim h (fun (k : Int32 → Option (Int32 × (Mm))) => ∀ (v12 : Int32) {H : Heap} {locs : List Loc} {ls : Array Slot}, k v12 = some (r, Bf) → Wo γ (st 10 σ o N10) s H locs → lv_has ls 9 [(0, .ref (eA γ o)), (1, .int x1), (2, .int x2), (3, .int x3), (4, .int x4), (5, .int x5), (6, .int v7), (7, .int v9)] → W p l e R s m args below meth c H locs 0 0 (MQ below (Qo γ (some (.int r)) (st 10 σ o Bf)) args s 0 0 (AK γ)) (F0 m 93 ls [.int v12])) ?_ ?_
        · intro v12 H locs ls h hw hl
          refine lv_istore (lv' := [(8, .int v12), (0, .ref (eA γ o)), (1, .int x1), (2, .int x2), (3, .int x3), (4, .int x4), (5, .int x5), (6, .int v7), (7, .int v9)]) hx hb dX5_bestMove_93 hl (by decide) rfl (fun ls hl => ?_)
          refine lv_iload hx hb dX5_bestMove_95 (lv_at hl 0 rfl) ?_
          refine jn_elim h (fun (k : Int32 → Option (Int32 × (Mm))) => ∀ (v14 : Int32) {H : Heap} {locs : List Loc} {ls : Array Slot}, k v14 = some (r, Bf) → Wo γ (st 10 σ o N10) s H locs → lv_has ls 9 [(0, .ref (eA γ o)), (1, .int x1), (3, .int x3), (4, .int x4), (5, .int x5), (6, .int v7), (7, .int v9), (8, .int v12)] → W p l e R s m args below meth c H locs 0 0 (MQ below (Qo γ (some (.int r)) (st 10 σ o Bf)) args s 0 0 (AK γ)) (F0 m 106 ls [.int v14])) ?_ ?_
          · intro v14 H locs ls h hw hl
            refine lv_istore_n (lv' := [(2, .int v14), (0, .ref (eA γ o)), (1, .int x1), (3, .int x3), (4, .int x4), (5, .int x5), (6, .int v7), (7, .int v9), (8, .int v12)]) hx hb dX5_bestMove_106 rfl hl (by decide) rfl (fun ls hl => ?_)
            refine lv_iload hx hb dX5_bestMove_107 (lv_at hl 8 rfl) ?_
            refine jn_elim h (fun (k : Int32 → Option (Int32 × (Mm))) => ∀ (v16 : Int32) {H : Heap} {locs : List Loc} {ls : Array Slot}, k v16 = some (r, Bf) → Wo γ (st 10 σ o N10) s H locs → lv_has ls 9 [(0, .ref (eA γ o)), (1, .int x1), (2, .int v14), (4, .int x4), (5, .int x5), (7, .int v9), (8, .int v12)] → W p l e R s m args below meth c H locs 0 0 (MQ below (Qo γ (some (.int r)) (st 10 σ o Bf)) args s 0 0 (AK γ)) (F0 m 118 ls [.int v16])) ?_ ?_
            · intro v16 H locs ls h hw hl
              refine lv_istore_n (lv' := [(3, .int v16), (0, .ref (eA γ o)), (1, .int x1), (2, .int v14), (4, .int x4), (5, .int x5), (7, .int v9), (8, .int v12)]) hx hb dX5_bestMove_118 rfl hl (by decide) rfl (fun ls hl => ?_)
              refine lv_iload hx hb dX5_bestMove_119 (lv_at hl 7 rfl) ?_
              refine lv_if_eq (tgt := 129) hx hb dX5_bestMove_121 (by decide) (fun c17 => ?_) (fun c17 => ?_)
              · replace h := ifp c17 h
                refine lv_iload hx hb dX5_bestMove_129 (lv_at hl 4 rfl) ?_
                refine lv_istore (lv' := [(4, .int x4), (3, .int v16), (0, .ref (eA γ o)), (1, .int x1), (2, .int v14), (5, .int x5), (7, .int v9), (8, .int v12)]) hx hb dX5_bestMove_131 hl (by decide) rfl (fun ls hl => ?_)
                obtain ⟨v18, ev18, h⟩ := jb h
                refine lv_iinc (v := v18) (lv' := [(5, .int v18), (4, .int x4), (3, .int v16), (0, .ref (eA γ o)), (1, .int x1), (2, .int v14), (7, .int v9), (8, .int v12)]) hx hb dX5_bestMove_133 hl (k := 5) rfl (by rw [← ev18]; rfl) (by decide) rfl (fun ls hl => ?_)
                refine lv_goto (tgt := 14) hx hb dX5_bestMove_136 (by decide) ?_
                exact ih h hw (lv_sub hl [3, 4, 5, 2, 1, 0] rfl)
              · replace h := ifn c17 h
                refine lv_iload hx hb dX5_bestMove_124 (lv_at hl 6 rfl) ?_
                refine lv_goto (tgt := 131) hx hb dX5_bestMove_126 (by decide) ?_
                refine lv_istore (lv' := [(4, .int v9), (3, .int v16), (0, .ref (eA γ o)), (1, .int x1), (2, .int v14), (5, .int x5), (7, .int v9), (8, .int v12)]) hx hb dX5_bestMove_131 hl (by decide) rfl (fun ls hl => ?_)
                obtain ⟨v19, ev19, h⟩ := jb h
                refine lv_iinc (v := v19) (lv' := [(5, .int v19), (4, .int v9), (3, .int v16), (0, .ref (eA γ o)), (1, .int x1), (2, .int v14), (7, .int v9), (8, .int v12)]) hx hb dX5_bestMove_133 hl (k := 5) rfl (by rw [← ev19]; rfl) (by decide) rfl (fun ls hl => ?_)
                refine lv_goto (tgt := 14) hx hb dX5_bestMove_136 (by decide) ?_
                exact ih h hw (lv_sub hl [3, 4, 5, 2, 1, 0] rfl)
            intro k15 J_k15 h
            refine lv_if_eq (tgt := 117) hx hb dX5_bestMove_109 (by decide) (fun c20 => ?_) (fun c20 => ?_)
            · replace h := ifp c20 h
              refine lv_iload_n hx hb dX5_bestMove_117 rfl (lv_at hl 3 rfl) ?_
              exact J_k15 x3 h hw (lv_sub hl [1, 2, 0, 4, 5, 7, 8] rfl)
            · replace h := ifn c20 h
              refine lv_iload hx hb dX5_bestMove_112 (lv_at hl 6 rfl) ?_
              refine lv_goto (tgt := 118) hx hb dX5_bestMove_114 (by decide) ?_
              exact J_k15 v7 h hw (lv_sub hl [1, 2, 0, 4, 5, 7, 8] rfl)
          intro k13 J_k13 h
          refine lv_if_eq (tgt := 105) hx hb dX5_bestMove_97 (by decide) (fun c21 => ?_) (fun c21 => ?_)
          · replace h := ifp c21 h
            refine lv_iload_n hx hb dX5_bestMove_105 rfl (lv_at hl 3 rfl) ?_
            exact J_k13 x2 h hw (lv_sub hl [1, 2, 4, 5, 6, 7, 8, 0] rfl)
          · replace h := ifn c21 h
            refine lv_iload hx hb dX5_bestMove_100 (lv_at hl 6 rfl) ?_
            refine lv_goto (tgt := 106) hx hb dX5_bestMove_102 (by decide) ?_
            exact J_k13 x5 h hw (lv_sub hl [1, 2, 4, 5, 6, 7, 8, 0] rfl)
        intro k11 J_k11 h
        refine jn_elim h (fun (k : Unit → Option (Int32 × (Mm))) => ∀ (u : Unit) {H : Heap} {locs : List Loc} {ls : Array Slot}, k u = some (r, Bf) → Wo γ (st 10 σ o N10) s H locs → lv_has ls 9 [(0, .ref (eA γ o)), (1, .int x1), (2, .int x2), (3, .int x3), (4, .int x4), (5, .int x5), (6, .int v7), (7, .int v9)] → W p l e R s m args below meth c H locs 0 0 (MQ below (Qo γ (some (.int r)) (st 10 σ o Bf)) args s 0 0 (AK γ)) (F0 m 88 ls [])) ?_ ?_
        · intro u H locs ls h hw hl
          refine lv_iconst (v := (1 : Int32)) hx hb dX5_bestMove_88 (by decide) ?_
          refine lv_goto (tgt := 93) hx hb dX5_bestMove_89 (by decide) ?_
          exact J_k11 (1 : Int32) h hw (lv_sub hl [0, 1, 2, 3, 4, 5, 6, 7] rfl)
        intro k38 J_k38 h
        refine lv_icmp_gt (tgt := 88) hx hb dX5_bestMove_72 (by decide) (fun c39 => ?_) (fun c39 => ?_)
        · replace h := ifp c39 h
          exact J_k38 () h hw (lv_sub hl [2, 3, 4, 5, 6, 7, 1, 0] rfl)
        · replace h := ifn c39 h
          refine lv_iload hx hb dX5_bestMove_75 (lv_at hl 1 rfl) ?_
          refine lv_iload_n hx hb dX5_bestMove_77 rfl (lv_at hl 5 rfl) ?_
          refine jn_elim h (fun (k : Unit → Option (Int32 × (Mm))) => ∀ (u : Unit) {H : Heap} {locs : List Loc} {ls : Array Slot}, k u = some (r, Bf) → Wo γ (st 10 σ o N10) s H locs → lv_has ls 9 [(0, .ref (eA γ o)), (1, .int x1), (2, .int x2), (3, .int x3), (4, .int x4), (5, .int x5), (6, .int v7), (7, .int v9)] → W p l e R s m args below meth c H locs 0 0 (MQ below (Qo γ (some (.int r)) (st 10 σ o Bf)) args s 0 0 (AK γ)) (F0 m 92 ls [])) ?_ ?_
          · intro u H locs ls h hw hl
            refine lv_iconst (v := (0 : Int32)) hx hb dX5_bestMove_92 (by decide) ?_
            exact J_k11 (0 : Int32) h hw (lv_sub hl [0, 1, 2, 3, 4, 5, 6, 7] rfl)
          intro k48 J_k48 h
          refine lv_icmp_ne (tgt := 92) hx hb dX5_bestMove_78 (by decide) (fun c49 => ?_) (fun c49 => ?_)
          · replace h := ifn c49 h
            exact J_k48 () h hw (lv_sub hl [2, 3, 4, 5, 6, 7, 1, 0] rfl)
          · replace h := ifp c49 h
            refine lv_iload hx hb dX5_bestMove_81 (lv_at hl 0 rfl) ?_
            refine lv_iload hx hb dX5_bestMove_83 (lv_at hl 6 rfl) ?_
            refine lv_icmp_ge (tgt := 92) hx hb dX5_bestMove_85 (by decide) (fun c50 => ?_) (fun c50 => ?_)
            · replace h := ifp c50 h
              exact J_k48 () h hw (lv_sub hl [2, 3, 4, 5, 6, 7, 1, 0] rfl)
            · replace h := ifn c50 h
              exact J_k38 () h hw (lv_sub hl [2, 3, 4, 5, 6, 7, 1, 0] rfl)
set_option maxHeartbeats 4000000 in
set_option maxRecDepth 10000 in
theorem b_X5_bestMove {γ : Ev} {o : Nat} {σ : Mm} {Bf : Mm} {r : Int32} {Z : Mm} {x1 : Int32} (C : Cx p R s m args meth c RX5 cX5_bestMove 9 (some .int) 11 251 γ) (hB : isX5 γ o) (h : s_X5_bestMove Z x1 = some (r, Bf)) (hw : Wo γ (st 10 σ o Z) s H locs) (hl : lv_has ls 9 [(0, .ref (eA γ o)), (1, .int x1)]) : W p l e R s m args below meth c H locs 0 0 (MQ below (Qo γ (some (.int r)) (st 10 σ o Bf)) args s 0 0 (AK γ)) (F0 m 0 ls []) := by
  have C0 := C
  obtain ⟨hx, hb, hr, hml, hown, hts, hlk, hK, hd, hF, hL⟩ := C
  unfold s_X5_bestMove at h
  refine lv_sipush (v := (-10005 : Int32)) hx hb dX5_bestMove_0 (by decide) ?_
  refine lv_istore_n (lv' := [(2, .int (-10005 : Int32)), (0, .ref (eA γ o)), (1, .int x1)]) hx hb dX5_bestMove_3 rfl hl (by decide) rfl (fun ls hl => ?_)
  refine lv_sipush (v := (-10005 : Int32)) hx hb dX5_bestMove_4 (by decide) ?_
  refine lv_istore_n (lv' := [(3, .int (-10005 : Int32)), (2, .int (-10005 : Int32)), (0, .ref (eA γ o)), (1, .int x1)]) hx hb dX5_bestMove_7 rfl hl (by decide) rfl (fun ls hl => ?_)
  refine lv_iconst (v := (0 : Int32)) hx hb dX5_bestMove_8 (by decide) ?_
  refine lv_istore (lv' := [(4, .int (0 : Int32)), (3, .int (-10005 : Int32)), (2, .int (-10005 : Int32)), (0, .ref (eA γ o)), (1, .int x1)]) hx hb dX5_bestMove_9 hl (by decide) rfl (fun ls hl => ?_)
  refine lv_iconst (v := (0 : Int32)) hx hb dX5_bestMove_11 (by decide) ?_
  refine lv_istore (lv' := [(5, .int (0 : Int32)), (4, .int (0 : Int32)), (3, .int (-10005 : Int32)), (2, .int (-10005 : Int32)), (0, .ref (eA γ o)), (1, .int x1)]) hx hb dX5_bestMove_12 hl (by decide) rfl (fun ls hl => ?_)
  exact b_X5_bestMove_L14 C0 hB 1000 h hw (lv_sub hl [4, 5, 3, 2, 1, 0] rfl)
theorem c_X5_bestMove {l : Launch} {γ : Ev} {o : Nat} {σ : Mm} {Bf : Mm} {r : Int32} {Z : Mm} {x1 : Int32} (hB : isX5 γ o) (h : s_X5_bestMove Z x1 = some (r, Bf)) : Ct l yX5_bestMove cX5_bestMove 9 (some .int) 11 251 γ [.ref (eA γ o), .int x1] (st 10 σ o Z) (some (.int r)) (st 10 σ o Bf) := Ct.of (own := RX5) (by decide +kernel) rfl (Nat.le_of_ble_eq_true rfl) (fun C hw ls hl => b_X5_bestMove C hB h hw hl)
set_option maxHeartbeats 4000000 in
set_option maxRecDepth 10000 in
theorem b_X5_toldMove {γ : Ev} {μ : Mm} {r : Int32} {x0 : Int32} (C : Cx p R s m args meth c RX5 cX5_toldMove 1 (some .int) 3 70 γ) (h : s_X5_toldMove x0 = some r) (hw : Wo γ μ s H locs) (hl : lv_has ls 1 [(0, .int x0)]) : W p l e R s m args below meth c H locs 0 0 (MQ below (Qo γ (some (.int r)) μ) args s 0 0 (AK γ)) (F0 m 0 ls []) := by
  have C0 := C
  obtain ⟨hx, hb, hr, hml, hown, hts, hlk, hK, hd, hF, hL⟩ := C
  unfold s_X5_toldMove at h
  refine lv_bipush (v := (100 : Int32)) hx hb dX5_toldMove_0 (by decide) ?_
  refine lv_iload_n hx hb dX5_toldMove_2 rfl (lv_at hl 0 rfl) ?_
  obtain ⟨v1, hv1, h⟩ := ob h
  refine r_Si (rest := [.int (100 : Int32)]) C0 z0 (c_X5_numberOf hv1) lk_X5_129 hl.1 rfl (Nat.le_of_ble_eq_true rfl) (by decide) hw dX5_toldMove_3 (fun {H} {locs} hw => ?_)
  refine lv_imul hx hb dX5_toldMove_6 ?_
  refine lv_iload_n hx hb dX5_toldMove_7 rfl (lv_at hl 0 rfl) ?_
  obtain ⟨v2, hv2, h⟩ := ob h
  refine r_Si (rest := [.int ((100 : Int32) * v1)]) C0 z0 (c_X5_placeOf hv2) lk_X5_132 hl.1 rfl (Nat.le_of_ble_eq_true rfl) (by decide) hw dX5_toldMove_8 (fun {H} {locs} hw => ?_)
  refine lv_iadd hx hb dX5_toldMove_11 ?_
  refine lv_bipush (v := (50 : Int32)) hx hb dX5_toldMove_12 (by decide) ?_
  refine lv_iadd hx hb dX5_toldMove_14 ?_
  have h1 := Option.some.inj h
  subst h1
  exact r_iret hx hb hr hlk hK hd hw dX5_toldMove_15
theorem c_X5_toldMove {l : Launch} {γ : Ev} {μ : Mm} {r : Int32} {x0 : Int32} (h : s_X5_toldMove x0 = some r) : Ct l yX5_toldMove cX5_toldMove 1 (some .int) 3 70 γ [.int x0] μ (some (.int r)) μ := Ct.of (own := RX5) (by decide +kernel) rfl (Nat.le_of_ble_eq_true rfl) (fun C hw ls hl => b_X5_toldMove C h hw hl)
set_option maxHeartbeats 4000000 in
set_option maxRecDepth 10000 in
theorem b_X5_best {γ : Ev} {o : Nat} {σ : Mm} {Bf : Mm} {r : Int32} {Z : Mm} {x1 : Int32} (C : Cx p R s m args meth c RX5 cX5_best 3 (some .int) 12 279 γ) (hB : isX5 γ o) (h : s_X5_best Z x1 = some (r, Bf)) (hw : Wo γ (st 10 σ o Z) s H locs) (hl : lv_has ls 3 [(0, .ref (eA γ o)), (1, .int x1)]) : W p l e R s m args below meth c H locs 0 0 (MQ below (Qo γ (some (.int r)) (st 10 σ o Bf)) args s 0 0 (AK γ)) (F0 m 0 ls []) := by
  have C0 := C
  obtain ⟨hx, hb, hr, hml, hown, hts, hlk, hK, hd, hF, hL⟩ := C
  unfold s_X5_best at h
  refine lv_iload_n hx hb dX5_best_0 rfl (lv_at hl 1 rfl) ?_
  refine lv_iconst (v := (1 : Int32)) hx hb dX5_best_1 (by decide) ?_
  refine lv_iconst (v := (3 : Int32)) hx hb dX5_best_2 (by decide) ?_
  obtain ⟨v1, hv1, h⟩ := ob h
  refine r_Si (rest := []) C0 z0 (c_X5_in hv1) lk_X5_49 hl.1 rfl (Nat.le_of_ble_eq_true rfl) (by decide) hw dX5_best_3 (fun {H} {locs} hw => ?_)
  refine lv_if_ne (tgt := 13) hx hb dX5_best_6 (by decide) (fun c2 => ?_) (fun c2 => ?_)
  · replace h := ifn c2 h
    refine lv_aload_n hx hb dX5_best_13 rfl (lv_at hl 0 rfl) ?_
    refine lv_iload_n hx hb dX5_best_14 rfl (lv_at hl 1 rfl) ?_
    obtain ⟨q3, hq3, h⟩ := ob h
    refine r_Vi (rest := []) C0 z0 (c_X5_bestMove hB hq3) lk_X5_162 (X5_k0 hB) rfl rfl hl.1 rfl (Nat.le_of_ble_eq_true rfl) (by decide) hw dX5_best_15 (fun {H} {locs} hw => ?_)
    obtain ⟨v4, ev4, h⟩ := jb h
    refine r_top ev4 ?_
    refine lv_istore_n (lv' := [(2, .int v4), (0, .ref (eA γ o)), (1, .int x1)]) hx hb dX5_best_18 rfl hl (by decide) rfl (fun ls hl => ?_)
    refine lv_iload_n hx hb dX5_best_19 rfl (lv_at hl 0 rfl) ?_
    refine lv_sipush (v := (-10005 : Int32)) hx hb dX5_best_20 (by decide) ?_
    refine lv_icmp_ne (tgt := 32) hx hb dX5_best_23 (by decide) (fun c5 => ?_) (fun c5 => ?_)
    · replace h := ifn c5 h
      refine lv_iload_n hx hb dX5_best_32 rfl (lv_at hl 0 rfl) ?_
      obtain ⟨v6, hv6, h⟩ := ob h
      refine r_Si (rest := []) C0 z0 (c_X5_toldMove hv6) lk_X5_165 hl.1 rfl (Nat.le_of_ble_eq_true rfl) (by decide) hw dX5_best_33 (fun {H} {locs} hw => ?_)
      obtain ⟨h1, h2⟩ := s2 h
      subst h1
      subst h2
      exact r_iret hx hb hr hlk hK hd hw dX5_best_36
    · replace h := ifp c5 h
      refine lv_sipush (v := (-10005 : Int32)) hx hb dX5_best_26 (by decide) ?_
      refine lv_goto (tgt := 36) hx hb dX5_best_29 (by decide) ?_
      obtain ⟨h1, h2⟩ := s2 h
      subst h1
      subst h2
      exact r_iret hx hb hr hlk hK hd hw dX5_best_36
  · replace h := ifp c2 h
    refine lv_sipush (v := (-10002 : Int32)) hx hb dX5_best_9 (by decide) ?_
    obtain ⟨h1, h2⟩ := s2 h
    subst h1
    subst h2
    exact r_iret hx hb hr hlk hK hd hw dX5_best_12
theorem c_X5_best {l : Launch} {γ : Ev} {o : Nat} {σ : Mm} {Bf : Mm} {r : Int32} {Z : Mm} {x1 : Int32} (hB : isX5 γ o) (h : s_X5_best Z x1 = some (r, Bf)) : Ct l yX5_best cX5_best 3 (some .int) 12 279 γ [.ref (eA γ o), .int x1] (st 10 σ o Z) (some (.int r)) (st 10 σ o Bf) := Ct.of (own := RX5) (by decide +kernel) rfl (Nat.le_of_ble_eq_true rfl) (fun C hw ls hl => b_X5_best C hB h hw hl)
set_option maxHeartbeats 4000000 in
set_option maxRecDepth 10000 in
theorem b_X5_play {γ : Ev} {o : Nat} {σ : Mm} {Bf : Mm} {r : Int32} {Z : Mm} {x1 : Int32} (C : Cx p R s m args meth c RX5 cX5_play 3 (some .int) 12 279 γ) (hB : isX5 γ o) (h : s_X5_play Z x1 = some (r, Bf)) (hw : Wo γ (st 10 σ o Z) s H locs) (hl : lv_has ls 3 [(0, .ref (eA γ o)), (1, .int x1)]) : W p l e R s m args below meth c H locs 0 0 (MQ below (Qo γ (some (.int r)) (st 10 σ o Bf)) args s 0 0 (AK γ)) (F0 m 0 ls []) := by
  have C0 := C
  obtain ⟨hx, hb, hr, hml, hown, hts, hlk, hK, hd, hF, hL⟩ := C
  unfold s_X5_play at h
  refine lv_iload_n hx hb dX5_play_0 rfl (lv_at hl 1 rfl) ?_
  refine lv_iconst (v := (1 : Int32)) hx hb dX5_play_1 (by decide) ?_
  refine lv_iconst (v := (3 : Int32)) hx hb dX5_play_2 (by decide) ?_
  obtain ⟨v1, hv1, h⟩ := ob h
  refine r_Si (rest := []) C0 z0 (c_X5_in hv1) lk_X5_49 hl.1 rfl (Nat.le_of_ble_eq_true rfl) (by decide) hw dX5_play_3 (fun {H} {locs} hw => ?_)
  refine lv_if_ne (tgt := 13) hx hb dX5_play_6 (by decide) (fun c2 => ?_) (fun c2 => ?_)
  · replace h := ifn c2 h
    refine lv_aload_n hx hb dX5_play_13 rfl (lv_at hl 0 rfl) ?_
    refine lv_iload_n hx hb dX5_play_14 rfl (lv_at hl 1 rfl) ?_
    obtain ⟨q3, hq3, h⟩ := ob h
    refine r_Vi (rest := []) C0 z0 (c_X5_bestMove hB hq3) lk_X5_162 (X5_k0 hB) rfl rfl hl.1 rfl (Nat.le_of_ble_eq_true rfl) (by decide) hw dX5_play_15 (fun {H} {locs} hw => ?_)
    obtain ⟨v4, ev4, h⟩ := jb h
    refine r_top ev4 ?_
    refine lv_istore_n (lv' := [(2, .int v4), (0, .ref (eA γ o)), (1, .int x1)]) hx hb dX5_play_18 rfl hl (by decide) rfl (fun ls hl => ?_)
    refine lv_iload_n hx hb dX5_play_19 rfl (lv_at hl 0 rfl) ?_
    refine lv_sipush (v := (-10005 : Int32)) hx hb dX5_play_20 (by decide) ?_
    refine lv_icmp_ne (tgt := 30) hx hb dX5_play_23 (by decide) (fun c5 => ?_) (fun c5 => ?_)
    · replace h := ifn c5 h
      refine lv_aload_n hx hb dX5_play_30 rfl (lv_at hl 1 rfl) ?_
      obtain ⟨N6, hN6, h⟩ := ob h
      refine r_Vv (rest := []) C0 z0 (c_X5_record hB hN6) lk_X5_81 (X5_k0 hB) rfl rfl hl.1 rfl (Nat.le_of_ble_eq_true rfl) (by decide) hw dX5_play_31 (fun {H} {locs} hw => ?_)
      refine lv_aload_n hx hb dX5_play_34 rfl (lv_at hl 1 rfl) ?_
      refine lv_iload_n hx hb dX5_play_35 rfl (lv_at hl 0 rfl) ?_
      obtain ⟨v7, hv7, h⟩ := ob h
      refine r_Si (rest := [.ref (eA γ o)]) C0 z0 (c_X5_numberOf hv7) lk_X5_129 hl.1 rfl (Nat.le_of_ble_eq_true rfl) (by decide) hw dX5_play_36 (fun {H} {locs} hw => ?_)
      refine lv_iload_n hx hb dX5_play_39 rfl (lv_at hl 0 rfl) ?_
      obtain ⟨v8, hv8, h⟩ := ob h
      refine r_Si (rest := [.int v7, .ref (eA γ o)]) C0 z0 (c_X5_placeOf hv8) lk_X5_132 hl.1 rfl (Nat.le_of_ble_eq_true rfl) (by decide) hw dX5_play_40 (fun {H} {locs} hw => ?_)
      obtain ⟨q9, hq9, h⟩ := ob h
      refine r_Vi (rest := []) C0 z0 (c_X5_moveIt hB hq9) lk_X5_120 (X5_k0 hB) rfl rfl hl.1 rfl (Nat.le_of_ble_eq_true rfl) (by decide) hw dX5_play_43 (fun {H} {locs} hw => ?_)
      obtain ⟨h1, h2⟩ := s2 h
      subst h1
      subst h2
      exact r_iret hx hb hr hlk hK hd hw dX5_play_46
    · replace h := ifp c5 h
      refine lv_sipush (v := (-10004 : Int32)) hx hb dX5_play_26 (by decide) ?_
      obtain ⟨h1, h2⟩ := s2 h
      subst h1
      subst h2
      exact r_iret hx hb hr hlk hK hd hw dX5_play_29
  · replace h := ifp c2 h
    refine lv_sipush (v := (-10002 : Int32)) hx hb dX5_play_9 (by decide) ?_
    obtain ⟨h1, h2⟩ := s2 h
    subst h1
    subst h2
    exact r_iret hx hb hr hlk hK hd hw dX5_play_12
theorem c_X5_play {l : Launch} {γ : Ev} {o : Nat} {σ : Mm} {Bf : Mm} {r : Int32} {Z : Mm} {x1 : Int32} (hB : isX5 γ o) (h : s_X5_play Z x1 = some (r, Bf)) : Ct l yX5_play cX5_play 3 (some .int) 12 279 γ [.ref (eA γ o), .int x1] (st 10 σ o Z) (some (.int r)) (st 10 σ o Bf) := Ct.of (own := RX5) (by decide +kernel) rfl (Nat.le_of_ble_eq_true rfl) (fun C hw ls hl => b_X5_play C hB h hw hl)
end
