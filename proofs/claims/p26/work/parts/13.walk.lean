section
variable {p : Program} {l : Launch} {e : Env} {R : Room} {s : State} {m : MethodId} {args : Array Value} {below : List Frame} {meth : Method} {c : Code} {H : Heap} {locs : List Loc} {ls : Array Slot}
set_option maxHeartbeats 4000000 in
set_option maxRecDepth 10000 in
theorem b_X4_makeMove {γ : Ev} {o : Nat} {σ : Mm} {Bf : Nat → Mm} {r : Int32} {T : Nat → Mm} {x1 x2 : Int32} (C : Cx p R s m args meth c RX4 cX4_makeMove 4 (some .int) 7 322 γ) (hB : isX4 γ o) (h : s_X4_makeMove T x1 x2 = some (r, Bf)) (hw : Wo γ (stT σ o T) s H locs) (hl : lv_has ls 4 [(0, .ref (eA γ o)), (1, .int x1), (2, .int x2)]) : W p l e R s m args below meth c H locs 0 0 (MQ below (Qo γ (some (.int r)) (stT σ o Bf)) args s 0 0 (AK γ)) (F0 m 0 ls []) := by
  have C0 := C
  obtain ⟨hx, hb, hr, hml, hown, hts, hlk, hK, hd, hF, hL⟩ := C
  unfold s_X4_makeMove at h
  refine lv_aload_n hx hb dX4_makeMove_0 rfl (lv_at hl 0 rfl) ?_
  refine r_get (v := .ref (eA γ (o + 1))) hx hb hts hK hw hown inX4 rfl (X4_k0 hB) stT_at0 0 (by decide) wd_109 rfl dX4_makeMove_1 ?_
  refine lv_iload_n hx hb dX4_makeMove_4 rfl (lv_at hl 1 rfl) ?_
  refine lv_iload_n hx hb dX4_makeMove_5 rfl (lv_at hl 2 rfl) ?_
  obtain ⟨v1, hv1, h⟩ := ob h
  refine r_Vi (rest := []) C0 z0 (c_X0_whyNot (X4_b1 hB) hv1) lk_X4_60 (X0_k0 (X4_b1 hB)) rfl rfl hl.1 rfl (Nat.le_of_ble_eq_true rfl) (by decide) (Wo.cg stT_b1.symm hw) dX4_makeMove_6 (fun {H} {locs} hw => ?_)
  replace hw := Wo.cg stT_b1 hw
  refine lv_istore_n (lv' := [(3, .int v1), (0, .ref (eA γ o)), (1, .int x1), (2, .int x2)]) hx hb dX4_makeMove_9 rfl hl (by decide) rfl (fun ls hl => ?_)
  refine lv_iload_n hx hb dX4_makeMove_10 rfl (lv_at hl 0 rfl) ?_
  refine lv_if_eq (tgt := 20) hx hb dX4_makeMove_11 (by decide) (fun c2 => ?_) (fun c2 => ?_)
  · replace h := ifp c2 h
    refine lv_aload_n hx hb dX4_makeMove_20 rfl (lv_at hl 1 rfl) ?_
    refine r_get (v := .ref (eA γ (o + 19))) hx hb hts hK hw hown inX4 rfl (X4_k0 hB) stT_at0 3 (by decide) wd_112 rfl dX4_makeMove_21 ?_
    refine lv_aload_n hx hb dX4_makeMove_24 rfl (lv_at hl 1 rfl) ?_
    refine r_get (v := .ref (eA γ (o + 1))) hx hb hts hK hw hown inX4 rfl (X4_k0 hB) stT_at0 0 (by decide) wd_109 rfl dX4_makeMove_25 ?_
    obtain ⟨N3, hN3, h⟩ := ob h
    refine r_Vv (rest := []) C0 z0 (c_X1_remember hB hN3) lk_X4_63 (X1_k0 (X4_b4 hB)) rfl rfl hl.1 rfl (Nat.le_of_ble_eq_true rfl) (by decide) hw dX4_makeMove_28 (fun {H} {locs} hw => ?_)
    refine lv_aload_n hx hb dX4_makeMove_31 rfl (lv_at hl 1 rfl) ?_
    refine r_get (v := .ref (eA γ (o + 1))) hx hb hts hK hw hown inX4 rfl (X4_k0 hB) stT_at0 0 (by decide) wd_109 rfl dX4_makeMove_32 ?_
    refine lv_iload_n hx hb dX4_makeMove_35 rfl (lv_at hl 2 rfl) ?_
    refine lv_iload_n hx hb dX4_makeMove_36 rfl (lv_at hl 3 rfl) ?_
    obtain ⟨N4, hN4, h⟩ := ob h
    refine r_Vv (rest := []) C0 z0 (c_X0_makeMove (X4_b1 hB) hN4) lk_X4_67 (X0_k0 (X4_b1 hB)) rfl rfl hl.1 rfl (Nat.le_of_ble_eq_true rfl) (by decide) (Wo.cg stT_b1.symm hw) dX4_makeMove_37 (fun {H} {locs} hw => ?_)
    replace hw := Wo.cg stT_s1 hw
    refine lv_aload_n hx hb dX4_makeMove_40 rfl (lv_at hl 1 rfl) ?_
    refine r_get (v := .ref (eA γ (o + 1))) hx hb hts hK hw hown inX4 rfl (X4_k0 hB) stT_at0 0 (by decide) wd_109 rfl dX4_makeMove_41 ?_
    obtain ⟨v5, hv5, h⟩ := ob h
    refine r_Vi (rest := []) C0 z0 (c_X0_turn (X4_b1 hB) hv5) lk_X4_70 (X0_k0 (X4_b1 hB)) rfl rfl hl.1 rfl (Nat.le_of_ble_eq_true rfl) (by decide) (Wo.cg stT_b1.symm hw) dX4_makeMove_44 (fun {H} {locs} hw => ?_)
    replace hw := Wo.cg stT_b1 hw
    obtain ⟨h1, h2⟩ := s2 h
    subst h1
    subst h2
    exact r_iret hx hb hr hlk hK hd hw dX4_makeMove_47
  · replace h := ifn c2 h
    refine lv_sipush (v := (-10010 : Int32)) hx hb dX4_makeMove_14 (by decide) ?_
    refine lv_iload_n hx hb dX4_makeMove_17 rfl (lv_at hl 0 rfl) ?_
    refine lv_isub hx hb dX4_makeMove_18 ?_
    obtain ⟨h1, h2⟩ := s2 h
    subst h1
    subst h2
    exact r_iret hx hb hr hlk hK hd hw dX4_makeMove_19
theorem c_X4_makeMove {l : Launch} {γ : Ev} {o : Nat} {σ : Mm} {Bf : Nat → Mm} {r : Int32} {T : Nat → Mm} {x1 x2 : Int32} (hB : isX4 γ o) (h : s_X4_makeMove T x1 x2 = some (r, Bf)) : Ct l yX4_makeMove cX4_makeMove 4 (some .int) 7 322 γ [.ref (eA γ o), .int x1, .int x2] (stT σ o T) (some (.int r)) (stT σ o Bf) := Ct.of (own := RX4) (by decide +kernel) rfl (Nat.le_of_ble_eq_true rfl) (fun C hw ls hl => b_X4_makeMove C hB h hw hl)
set_option maxHeartbeats 4000000 in
set_option maxRecDepth 10000 in
theorem b_X4_lay {γ : Ev} {o : Nat} {σ : Mm} {Bf : Nat → Mm} {r : Int32} {T : Nat → Mm} {x1 x2 : Int32} (C : Cx p R s m args meth c RX4 cX4_lay 3 (some .int) 8 345 γ) (hB : isX4 γ o) (h : s_X4_lay T x1 x2 = some (r, Bf)) (hw : Wo γ (stT σ o T) s H locs) (hl : lv_has ls 3 [(0, .ref (eA γ o)), (1, .int x1), (2, .int x2)]) : W p l e R s m args below meth c H locs 0 0 (MQ below (Qo γ (some (.int r)) (stT σ o Bf)) args s 0 0 (AK γ)) (F0 m 0 ls []) := by
  have C0 := C
  obtain ⟨hx, hb, hr, hml, hown, hts, hlk, hK, hd, hF, hL⟩ := C
  unfold s_X4_lay at h
  refine lv_iload_n hx hb dX4_lay_0 rfl (lv_at hl 1 rfl) ?_
  obtain ⟨v1, hv1, h⟩ := ob h
  refine r_Si (rest := []) C0 z0 (c_X0_isWeight hv1) lk_X4_36 hl.1 rfl (Nat.le_of_ble_eq_true rfl) (by decide) hw dX4_lay_1 (fun {H} {locs} hw => ?_)
  refine lv_if_eq (tgt := 14) hx hb dX4_lay_4 (by decide) (fun c2 => ?_) (fun c2 => ?_)
  · replace h := ifp c2 h
    refine lv_sipush (v := (-10001 : Int32)) hx hb dX4_lay_14 (by decide) ?_
    obtain ⟨h1, h2⟩ := s2 h
    subst h1
    subst h2
    exact r_iret hx hb hr hlk hK hd hw dX4_lay_17
  · replace h := ifn c2 h
    refine lv_iload_n hx hb dX4_lay_7 rfl (lv_at hl 2 rfl) ?_
    obtain ⟨v3, hv3, h⟩ := ob h
    refine r_Si (rest := []) C0 z0 (c_X0_isPlace hv3) lk_X4_40 hl.1 rfl (Nat.le_of_ble_eq_true rfl) (by decide) hw dX4_lay_8 (fun {H} {locs} hw => ?_)
    refine lv_if_ne (tgt := 18) hx hb dX4_lay_11 (by decide) (fun c4 => ?_) (fun c4 => ?_)
    · replace h := ifn c4 h
      refine lv_aload_n hx hb dX4_lay_18 rfl (lv_at hl 0 rfl) ?_
      refine lv_iload_n hx hb dX4_lay_19 rfl (lv_at hl 1 rfl) ?_
      refine lv_iload_n hx hb dX4_lay_20 rfl (lv_at hl 2 rfl) ?_
      obtain ⟨q5, hq5, h⟩ := ob h
      refine r_Vi (rest := []) C0 z0 (c_X4_makeMove hB hq5) lk_X4_43 (X4_k0 hB) rfl rfl hl.1 rfl (Nat.le_of_ble_eq_true rfl) (by decide) hw dX4_lay_21 (fun {H} {locs} hw => ?_)
      obtain ⟨h1, h2⟩ := s2 h
      subst h1
      subst h2
      exact r_iret hx hb hr hlk hK hd hw dX4_lay_24
    · replace h := ifp c4 h
      refine lv_sipush (v := (-10001 : Int32)) hx hb dX4_lay_14 (by decide) ?_
      obtain ⟨h1, h2⟩ := s2 h
      subst h1
      subst h2
      exact r_iret hx hb hr hlk hK hd hw dX4_lay_17
theorem c_X4_lay {l : Launch} {γ : Ev} {o : Nat} {σ : Mm} {Bf : Nat → Mm} {r : Int32} {T : Nat → Mm} {x1 x2 : Int32} (hB : isX4 γ o) (h : s_X4_lay T x1 x2 = some (r, Bf)) : Ct l yX4_lay cX4_lay 3 (some .int) 8 345 γ [.ref (eA γ o), .int x1, .int x2] (stT σ o T) (some (.int r)) (stT σ o Bf) := Ct.of (own := RX4) (by decide +kernel) rfl (Nat.le_of_ble_eq_true rfl) (fun C hw ls hl => b_X4_lay C hB h hw hl)
set_option maxHeartbeats 4000000 in
set_option maxRecDepth 10000 in
theorem b_X4_push {γ : Ev} {o : Nat} {σ : Mm} {Bf : Nat → Mm} {r : Int32} {T : Nat → Mm} {x1 x2 : Int32} (C : Cx p R s m args meth c RX4 cX4_push 3 (some .int) 8 345 γ) (hB : isX4 γ o) (h : s_X4_push T x1 x2 = some (r, Bf)) (hw : Wo γ (stT σ o T) s H locs) (hl : lv_has ls 3 [(0, .ref (eA γ o)), (1, .int x1), (2, .int x2)]) : W p l e R s m args below meth c H locs 0 0 (MQ below (Qo γ (some (.int r)) (stT σ o Bf)) args s 0 0 (AK γ)) (F0 m 0 ls []) := by
  have C0 := C
  obtain ⟨hx, hb, hr, hml, hown, hts, hlk, hK, hd, hF, hL⟩ := C
  unfold s_X4_push at h
  refine lv_iload_n hx hb dX4_push_0 rfl (lv_at hl 1 rfl) ?_
  obtain ⟨v1, hv1, h⟩ := ob h
  refine r_Si (rest := []) C0 z0 (c_X0_isPlace hv1) lk_X4_40 hl.1 rfl (Nat.le_of_ble_eq_true rfl) (by decide) hw dX4_push_1 (fun {H} {locs} hw => ?_)
  refine lv_if_ne (tgt := 11) hx hb dX4_push_4 (by decide) (fun c2 => ?_) (fun c2 => ?_)
  · replace h := ifn c2 h
    refine lv_aload_n hx hb dX4_push_11 rfl (lv_at hl 0 rfl) ?_
    refine lv_iload_n hx hb dX4_push_12 rfl (lv_at hl 2 rfl) ?_
    refine lv_if_eq (tgt := 21) hx hb dX4_push_13 (by decide) (fun c3 => ?_) (fun c3 => ?_)
    · replace h := ifp c3 h
      refine lv_bipush (v := (7 : Int32)) hx hb dX4_push_21 (by decide) ?_
      refine lv_iload_n hx hb dX4_push_23 rfl (lv_at hl 1 rfl) ?_
      obtain ⟨q4, hq4, h⟩ := ob h
      refine r_Vi (rest := []) C0 z0 (c_X4_makeMove hB hq4) lk_X4_43 (X4_k0 hB) rfl rfl hl.1 rfl (Nat.le_of_ble_eq_true rfl) (by decide) hw dX4_push_24 (fun {H} {locs} hw => ?_)
      obtain ⟨h1, h2⟩ := s2 h
      subst h1
      subst h2
      exact r_iret hx hb hr hlk hK hd hw dX4_push_27
    · replace h := ifn c3 h
      refine lv_bipush (v := (6 : Int32)) hx hb dX4_push_16 (by decide) ?_
      refine lv_goto (tgt := 23) hx hb dX4_push_18 (by decide) ?_
      refine lv_iload_n hx hb dX4_push_23 rfl (lv_at hl 1 rfl) ?_
      obtain ⟨q5, hq5, h⟩ := ob h
      refine r_Vi (rest := []) C0 z0 (c_X4_makeMove hB hq5) lk_X4_43 (X4_k0 hB) rfl rfl hl.1 rfl (Nat.le_of_ble_eq_true rfl) (by decide) hw dX4_push_24 (fun {H} {locs} hw => ?_)
      obtain ⟨h1, h2⟩ := s2 h
      subst h1
      subst h2
      exact r_iret hx hb hr hlk hK hd hw dX4_push_27
  · replace h := ifp c2 h
    refine lv_sipush (v := (-10001 : Int32)) hx hb dX4_push_7 (by decide) ?_
    obtain ⟨h1, h2⟩ := s2 h
    subst h1
    subst h2
    exact r_iret hx hb hr hlk hK hd hw dX4_push_10
theorem c_X4_push {l : Launch} {γ : Ev} {o : Nat} {σ : Mm} {Bf : Nat → Mm} {r : Int32} {T : Nat → Mm} {x1 x2 : Int32} (hB : isX4 γ o) (h : s_X4_push T x1 x2 = some (r, Bf)) : Ct l yX4_push cX4_push 3 (some .int) 8 345 γ [.ref (eA γ o), .int x1, .int x2] (stT σ o T) (some (.int r)) (stT σ o Bf) := Ct.of (own := RX4) (by decide +kernel) rfl (Nat.le_of_ble_eq_true rfl) (fun C hw ls hl => b_X4_push C hB h hw hl)
set_option maxHeartbeats 4000000 in
set_option maxRecDepth 10000 in
theorem b_X4_setBag {γ : Ev} {o : Nat} {σ : Mm} {Bf : Nat → Mm} {r : Int32} {T : Nat → Mm} {x1 x2 x3 : Int32} (C : Cx p R s m args meth c RX4 cX4_setBag 5 (some .int) 7 322 γ) (hB : isX4 γ o) (h : s_X4_setBag T x1 x2 x3 = some (r, Bf)) (hw : Wo γ (stT σ o T) s H locs) (hl : lv_has ls 5 [(0, .ref (eA γ o)), (1, .int x1), (2, .int x2), (3, .int x3)]) : W p l e R s m args below meth c H locs 0 0 (MQ below (Qo γ (some (.int r)) (stT σ o Bf)) args s 0 0 (AK γ)) (F0 m 0 ls []) := by
  have C0 := C
  obtain ⟨hx, hb, hr, hml, hown, hts, hlk, hK, hd, hF, hL⟩ := C
  unfold s_X4_setBag at h
  refine lv_iload_n hx hb dX4_setBag_0 rfl (lv_at hl 1 rfl) ?_
  obtain ⟨v1, hv1, h⟩ := ob h
  refine r_Si (rest := []) C0 z0 (c_X0_isSide hv1) lk_X4_74 hl.1 rfl (Nat.le_of_ble_eq_true rfl) (by decide) hw dX4_setBag_1 (fun {H} {locs} hw => ?_)
  refine lv_if_eq (tgt := 14) hx hb dX4_setBag_4 (by decide) (fun c2 => ?_) (fun c2 => ?_)
  · replace h := ifp c2 h
    refine lv_sipush (v := (-10001 : Int32)) hx hb dX4_setBag_14 (by decide) ?_
    obtain ⟨h1, h2⟩ := s2 h
    subst h1
    subst h2
    exact r_iret hx hb hr hlk hK hd hw dX4_setBag_17
  · replace h := ifn c2 h
    refine lv_iload_n hx hb dX4_setBag_7 rfl (lv_at hl 2 rfl) ?_
    obtain ⟨v3, hv3, h⟩ := ob h
    refine r_Si (rest := []) C0 z0 (c_X0_isWeight hv3) lk_X4_36 hl.1 rfl (Nat.le_of_ble_eq_true rfl) (by decide) hw dX4_setBag_8 (fun {H} {locs} hw => ?_)
    refine lv_if_ne (tgt := 18) hx hb dX4_setBag_11 (by decide) (fun c4 => ?_) (fun c4 => ?_)
    · replace h := ifn c4 h
      refine lv_iload_n hx hb dX4_setBag_18 rfl (lv_at hl 3 rfl) ?_
      refine lv_if_lt (tgt := 28) hx hb dX4_setBag_19 (by decide) (fun c5 => ?_) (fun c5 => ?_)
      · replace h := ifp c5 h
        refine lv_sipush (v := (-10002 : Int32)) hx hb dX4_setBag_28 (by decide) ?_
        obtain ⟨h1, h2⟩ := s2 h
        subst h1
        subst h2
        exact r_iret hx hb hr hlk hK hd hw dX4_setBag_31
      · replace h := ifn c5 h
        refine lv_iload_n hx hb dX4_setBag_22 rfl (lv_at hl 3 rfl) ?_
        refine lv_bipush (v := (6 : Int32)) hx hb dX4_setBag_23 (by decide) ?_
        refine lv_icmp_le (tgt := 32) hx hb dX4_setBag_25 (by decide) (fun c6 => ?_) (fun c6 => ?_)
        · replace h := ifp c6 h
          refine lv_aload_n hx hb dX4_setBag_32 rfl (lv_at hl 0 rfl) ?_
          refine r_get (v := .ref (eA γ (o + 1))) hx hb hts hK hw hown inX4 rfl (X4_k0 hB) stT_at0 0 (by decide) wd_109 rfl dX4_setBag_33 ?_
          refine lv_iload_n hx hb dX4_setBag_36 rfl (lv_at hl 1 rfl) ?_
          refine lv_iload_n hx hb dX4_setBag_37 rfl (lv_at hl 2 rfl) ?_
          obtain ⟨v7, hv7, h⟩ := ob h
          refine r_Vi (rest := []) C0 z0 (c_X0_inBag (X4_b1 hB) hv7) lk_X4_77 (X0_k0 (X4_b1 hB)) rfl rfl hl.1 rfl (Nat.le_of_ble_eq_true rfl) (by decide) (Wo.cg stT_b1.symm hw) dX4_setBag_38 (fun {H} {locs} hw => ?_)
          replace hw := Wo.cg stT_b1 hw
          refine lv_istore (lv' := [(4, .int v7), (0, .ref (eA γ o)), (1, .int x1), (2, .int x2), (3, .int x3)]) hx hb dX4_setBag_41 hl (by decide) rfl (fun ls hl => ?_)
          refine lv_iload hx hb dX4_setBag_43 (lv_at hl 0 rfl) ?_
          refine lv_iload_n hx hb dX4_setBag_45 rfl (lv_at hl 4 rfl) ?_
          refine lv_icmp_ne (tgt := 53) hx hb dX4_setBag_46 (by decide) (fun c8 => ?_) (fun c8 => ?_)
          · replace h := ifn c8 h
            refine lv_aload_n hx hb dX4_setBag_53 rfl (lv_at hl 1 rfl) ?_
            refine r_get (v := .ref (eA γ (o + 19))) hx hb hts hK hw hown inX4 rfl (X4_k0 hB) stT_at0 3 (by decide) wd_112 rfl dX4_setBag_54 ?_
            refine lv_aload_n hx hb dX4_setBag_57 rfl (lv_at hl 1 rfl) ?_
            refine r_get (v := .ref (eA γ (o + 1))) hx hb hts hK hw hown inX4 rfl (X4_k0 hB) stT_at0 0 (by decide) wd_109 rfl dX4_setBag_58 ?_
            obtain ⟨N9, hN9, h⟩ := ob h
            refine r_Vv (rest := []) C0 z0 (c_X1_remember hB hN9) lk_X4_63 (X1_k0 (X4_b4 hB)) rfl rfl hl.1 rfl (Nat.le_of_ble_eq_true rfl) (by decide) hw dX4_setBag_61 (fun {H} {locs} hw => ?_)
            refine lv_aload_n hx hb dX4_setBag_64 rfl (lv_at hl 1 rfl) ?_
            refine r_get (v := .ref (eA γ (o + 1))) hx hb hts hK hw hown inX4 rfl (X4_k0 hB) stT_at0 0 (by decide) wd_109 rfl dX4_setBag_65 ?_
            refine lv_iload_n hx hb dX4_setBag_68 rfl (lv_at hl 2 rfl) ?_
            refine lv_iload_n hx hb dX4_setBag_69 rfl (lv_at hl 3 rfl) ?_
            refine lv_iload_n hx hb dX4_setBag_70 rfl (lv_at hl 4 rfl) ?_
            refine lv_iload hx hb dX4_setBag_71 (lv_at hl 0 rfl) ?_
            refine lv_isub hx hb dX4_setBag_73 ?_
            obtain ⟨N10, hN10, h⟩ := ob h
            refine r_Vv (rest := []) C0 z0 (c_X0_changeBag (X4_b1 hB) hN10) lk_X4_80 (X0_k0 (X4_b1 hB)) rfl rfl hl.1 rfl (Nat.le_of_ble_eq_true rfl) (by decide) (Wo.cg stT_b1.symm hw) dX4_setBag_74 (fun {H} {locs} hw => ?_)
            replace hw := Wo.cg stT_s1 hw
            refine lv_iload hx hb dX4_setBag_77 (lv_at hl 0 rfl) ?_
            obtain ⟨h1, h2⟩ := s2 h
            subst h1
            subst h2
            exact r_iret hx hb hr hlk hK hd hw dX4_setBag_79
          · replace h := ifp c8 h
            refine lv_sipush (v := (-10005 : Int32)) hx hb dX4_setBag_49 (by decide) ?_
            obtain ⟨h1, h2⟩ := s2 h
            subst h1
            subst h2
            exact r_iret hx hb hr hlk hK hd hw dX4_setBag_52
        · replace h := ifn c6 h
          refine lv_sipush (v := (-10002 : Int32)) hx hb dX4_setBag_28 (by decide) ?_
          obtain ⟨h1, h2⟩ := s2 h
          subst h1
          subst h2
          exact r_iret hx hb hr hlk hK hd hw dX4_setBag_31
    · replace h := ifp c4 h
      refine lv_sipush (v := (-10001 : Int32)) hx hb dX4_setBag_14 (by decide) ?_
      obtain ⟨h1, h2⟩ := s2 h
      subst h1
      subst h2
      exact r_iret hx hb hr hlk hK hd hw dX4_setBag_17
theorem c_X4_setBag {l : Launch} {γ : Ev} {o : Nat} {σ : Mm} {Bf : Nat → Mm} {r : Int32} {T : Nat → Mm} {x1 x2 x3 : Int32} (hB : isX4 γ o) (h : s_X4_setBag T x1 x2 x3 = some (r, Bf)) : Ct l yX4_setBag cX4_setBag 5 (some .int) 7 322 γ [.ref (eA γ o), .int x1, .int x2, .int x3] (stT σ o T) (some (.int r)) (stT σ o Bf) := Ct.of (own := RX4) (by decide +kernel) rfl (Nat.le_of_ble_eq_true rfl) (fun C hw ls hl => b_X4_setBag C hB h hw hl)
set_option maxHeartbeats 4000000 in
set_option maxRecDepth 10000 in
theorem b_X4_set {γ : Ev} {o : Nat} {σ : Mm} {Bf : Nat → Mm} {r : Int32} {T : Nat → Mm} {x1 x2 : Int32} (C : Cx p R s m args meth c RX4 cX4_set 4 (some .int) 7 322 γ) (hB : isX4 γ o) (h : s_X4_set T x1 x2 = some (r, Bf)) (hw : Wo γ (stT σ o T) s H locs) (hl : lv_has ls 4 [(0, .ref (eA γ o)), (1, .int x1), (2, .int x2)]) : W p l e R s m args below meth c H locs 0 0 (MQ below (Qo γ (some (.int r)) (stT σ o Bf)) args s 0 0 (AK γ)) (F0 m 0 ls []) := by
  have C0 := C
  obtain ⟨hx, hb, hr, hml, hown, hts, hlk, hK, hd, hF, hL⟩ := C
  unfold s_X4_set at h
  refine lv_iload_n hx hb dX4_set_0 rfl (lv_at hl 1 rfl) ?_
  obtain ⟨v1, hv1, h⟩ := ob h
  refine r_Si (rest := []) C0 z0 (c_X0_isSetting hv1) lk_X4_84 hl.1 rfl (Nat.le_of_ble_eq_true rfl) (by decide) hw dX4_set_1 (fun {H} {locs} hw => ?_)
  refine lv_if_ne (tgt := 11) hx hb dX4_set_4 (by decide) (fun c2 => ?_) (fun c2 => ?_)
  · replace h := ifn c2 h
    refine lv_iload_n hx hb dX4_set_11 rfl (lv_at hl 2 rfl) ?_
    refine lv_iload_n hx hb dX4_set_12 rfl (lv_at hl 1 rfl) ?_
    obtain ⟨v3, hv3, h⟩ := ob h
    refine r_Si (rest := [.int x2]) C0 z0 (c_X0_leastOfSetting hv3) lk_X4_87 hl.1 rfl (Nat.le_of_ble_eq_true rfl) (by decide) hw dX4_set_13 (fun {H} {locs} hw => ?_)
    refine lv_icmp_lt (tgt := 27) hx hb dX4_set_16 (by decide) (fun c4 => ?_) (fun c4 => ?_)
    · replace h := ifp c4 h
      refine lv_sipush (v := (-10002 : Int32)) hx hb dX4_set_27 (by decide) ?_
      obtain ⟨h1, h2⟩ := s2 h
      subst h1
      subst h2
      exact r_iret hx hb hr hlk hK hd hw dX4_set_30
    · replace h := ifn c4 h
      refine lv_iload_n hx hb dX4_set_19 rfl (lv_at hl 2 rfl) ?_
      refine lv_iload_n hx hb dX4_set_20 rfl (lv_at hl 1 rfl) ?_
      obtain ⟨v5, hv5, h⟩ := ob h
      refine r_Si (rest := [.int x2]) C0 z0 (c_X0_mostOfSetting hv5) lk_X4_90 hl.1 rfl (Nat.le_of_ble_eq_true rfl) (by decide) hw dX4_set_21 (fun {H} {locs} hw => ?_)
      refine lv_icmp_le (tgt := 31) hx hb dX4_set_24 (by decide) (fun c6 => ?_) (fun c6 => ?_)
      · replace h := ifp c6 h
        refine lv_aload_n hx hb dX4_set_31 rfl (lv_at hl 0 rfl) ?_
        refine r_get (v := .ref (eA γ (o + 1))) hx hb hts hK hw hown inX4 rfl (X4_k0 hB) stT_at0 0 (by decide) wd_109 rfl dX4_set_32 ?_
        refine lv_iload_n hx hb dX4_set_35 rfl (lv_at hl 1 rfl) ?_
        obtain ⟨v7, hv7, h⟩ := ob h
        refine r_Vi (rest := []) C0 z0 (c_X0_setting (X4_b1 hB) hv7) lk_X4_93 (X0_k0 (X4_b1 hB)) rfl rfl hl.1 rfl (Nat.le_of_ble_eq_true rfl) (by decide) (Wo.cg stT_b1.symm hw) dX4_set_36 (fun {H} {locs} hw => ?_)
        replace hw := Wo.cg stT_b1 hw
        refine lv_istore_n (lv' := [(3, .int v7), (0, .ref (eA γ o)), (1, .int x1), (2, .int x2)]) hx hb dX4_set_39 rfl hl (by decide) rfl (fun ls hl => ?_)
        refine lv_iload_n hx hb dX4_set_40 rfl (lv_at hl 0 rfl) ?_
        refine lv_iload_n hx hb dX4_set_41 rfl (lv_at hl 3 rfl) ?_
        refine lv_icmp_ne (tgt := 49) hx hb dX4_set_42 (by decide) (fun c8 => ?_) (fun c8 => ?_)
        · replace h := ifn c8 h
          refine lv_aload_n hx hb dX4_set_49 rfl (lv_at hl 1 rfl) ?_
          refine r_get (v := .ref (eA γ (o + 19))) hx hb hts hK hw hown inX4 rfl (X4_k0 hB) stT_at0 3 (by decide) wd_112 rfl dX4_set_50 ?_
          refine lv_aload_n hx hb dX4_set_53 rfl (lv_at hl 1 rfl) ?_
          refine r_get (v := .ref (eA γ (o + 1))) hx hb hts hK hw hown inX4 rfl (X4_k0 hB) stT_at0 0 (by decide) wd_109 rfl dX4_set_54 ?_
          obtain ⟨N9, hN9, h⟩ := ob h
          refine r_Vv (rest := []) C0 z0 (c_X1_remember hB hN9) lk_X4_63 (X1_k0 (X4_b4 hB)) rfl rfl hl.1 rfl (Nat.le_of_ble_eq_true rfl) (by decide) hw dX4_set_57 (fun {H} {locs} hw => ?_)
          refine lv_aload_n hx hb dX4_set_60 rfl (lv_at hl 1 rfl) ?_
          refine r_get (v := .ref (eA γ (o + 1))) hx hb hts hK hw hown inX4 rfl (X4_k0 hB) stT_at0 0 (by decide) wd_109 rfl dX4_set_61 ?_
          refine lv_iload_n hx hb dX4_set_64 rfl (lv_at hl 2 rfl) ?_
          refine lv_iload_n hx hb dX4_set_65 rfl (lv_at hl 3 rfl) ?_
          obtain ⟨N10, hN10, h⟩ := ob h
          refine r_Vv (rest := []) C0 z0 (c_X0_changeSetting (X4_b1 hB) hN10) lk_X4_96 (X0_k0 (X4_b1 hB)) rfl rfl hl.1 rfl (Nat.le_of_ble_eq_true rfl) (by decide) (Wo.cg stT_b1.symm hw) dX4_set_66 (fun {H} {locs} hw => ?_)
          replace hw := Wo.cg stT_s1 hw
          refine lv_iload_n hx hb dX4_set_69 rfl (lv_at hl 0 rfl) ?_
          obtain ⟨h1, h2⟩ := s2 h
          subst h1
          subst h2
          exact r_iret hx hb hr hlk hK hd hw dX4_set_70
        · replace h := ifp c8 h
          refine lv_sipush (v := (-10005 : Int32)) hx hb dX4_set_45 (by decide) ?_
          obtain ⟨h1, h2⟩ := s2 h
          subst h1
          subst h2
          exact r_iret hx hb hr hlk hK hd hw dX4_set_48
      · replace h := ifn c6 h
        refine lv_sipush (v := (-10002 : Int32)) hx hb dX4_set_27 (by decide) ?_
        obtain ⟨h1, h2⟩ := s2 h
        subst h1
        subst h2
        exact r_iret hx hb hr hlk hK hd hw dX4_set_30
  · replace h := ifp c2 h
    refine lv_sipush (v := (-10001 : Int32)) hx hb dX4_set_7 (by decide) ?_
    obtain ⟨h1, h2⟩ := s2 h
    subst h1
    subst h2
    exact r_iret hx hb hr hlk hK hd hw dX4_set_10
theorem c_X4_set {l : Launch} {γ : Ev} {o : Nat} {σ : Mm} {Bf : Nat → Mm} {r : Int32} {T : Nat → Mm} {x1 x2 : Int32} (hB : isX4 γ o) (h : s_X4_set T x1 x2 = some (r, Bf)) : Ct l yX4_set cX4_set 4 (some .int) 7 322 γ [.ref (eA γ o), .int x1, .int x2] (stT σ o T) (some (.int r)) (stT σ o Bf) := Ct.of (own := RX4) (by decide +kernel) rfl (Nat.le_of_ble_eq_true rfl) (fun C hw ls hl => b_X4_set C hB h hw hl)
set_option maxHeartbeats 4000000 in
set_option maxRecDepth 10000 in
theorem b_X4_setUp {γ : Ev} {o : Nat} {σ : Mm} {Bf : Nat → Mm} {r : Int32} {T : Nat → Mm} {x1 x2 : Int32} (C : Cx p R s m args meth c RX4 cX4_setUp 3 (some .int) 7 322 γ) (hB : isX4 γ o) (h : s_X4_setUp T x1 x2 = some (r, Bf)) (hw : Wo γ (stT σ o T) s H locs) (hl : lv_has ls 3 [(0, .ref (eA γ o)), (1, .int x1), (2, .int x2)]) : W p l e R s m args below meth c H locs 0 0 (MQ below (Qo γ (some (.int r)) (stT σ o Bf)) args s 0 0 (AK γ)) (F0 m 0 ls []) := by
  have C0 := C
  obtain ⟨hx, hb, hr, hml, hown, hts, hlk, hK, hd, hF, hL⟩ := C
  unfold s_X4_setUp at h
  refine lv_iload_n hx hb dX4_setUp_0 rfl (lv_at hl 1 rfl) ?_
  obtain ⟨v1, hv1, h⟩ := ob h
  refine r_Si (rest := []) C0 z0 (c_X0_isWeight hv1) lk_X4_36 hl.1 rfl (Nat.le_of_ble_eq_true rfl) (by decide) hw dX4_setUp_1 (fun {H} {locs} hw => ?_)
  refine lv_if_eq (tgt := 14) hx hb dX4_setUp_4 (by decide) (fun c2 => ?_) (fun c2 => ?_)
  · replace h := ifp c2 h
    refine lv_sipush (v := (-10001 : Int32)) hx hb dX4_setUp_14 (by decide) ?_
    obtain ⟨h1, h2⟩ := s2 h
    subst h1
    subst h2
    exact r_iret hx hb hr hlk hK hd hw dX4_setUp_17
  · replace h := ifn c2 h
    refine lv_iload_n hx hb dX4_setUp_7 rfl (lv_at hl 2 rfl) ?_
    obtain ⟨v3, hv3, h⟩ := ob h
    refine r_Si (rest := []) C0 z0 (c_X0_isPlace hv3) lk_X4_40 hl.1 rfl (Nat.le_of_ble_eq_true rfl) (by decide) hw dX4_setUp_8 (fun {H} {locs} hw => ?_)
    refine lv_if_ne (tgt := 18) hx hb dX4_setUp_11 (by decide) (fun c4 => ?_) (fun c4 => ?_)
    · replace h := ifn c4 h
      refine lv_aload_n hx hb dX4_setUp_18 rfl (lv_at hl 0 rfl) ?_
      refine r_get (v := .ref (eA γ (o + 1))) hx hb hts hK hw hown inX4 rfl (X4_k0 hB) stT_at0 0 (by decide) wd_109 rfl dX4_setUp_19 ?_
      refine lv_iload_n hx hb dX4_setUp_22 rfl (lv_at hl 2 rfl) ?_
      obtain ⟨v5, hv5, h⟩ := ob h
      refine r_Vi (rest := []) C0 z0 (c_X0_isFull (X4_b1 hB) hv5) lk_X4_99 (X0_k0 (X4_b1 hB)) rfl rfl hl.1 rfl (Nat.le_of_ble_eq_true rfl) (by decide) (Wo.cg stT_b1.symm hw) dX4_setUp_23 (fun {H} {locs} hw => ?_)
      replace hw := Wo.cg stT_b1 hw
      refine lv_if_eq (tgt := 33) hx hb dX4_setUp_26 (by decide) (fun c6 => ?_) (fun c6 => ?_)
      · replace h := ifp c6 h
        refine lv_aload_n hx hb dX4_setUp_33 rfl (lv_at hl 0 rfl) ?_
        refine r_get (v := .ref (eA γ (o + 19))) hx hb hts hK hw hown inX4 rfl (X4_k0 hB) stT_at0 3 (by decide) wd_112 rfl dX4_setUp_34 ?_
        refine lv_aload_n hx hb dX4_setUp_37 rfl (lv_at hl 0 rfl) ?_
        refine r_get (v := .ref (eA γ (o + 1))) hx hb hts hK hw hown inX4 rfl (X4_k0 hB) stT_at0 0 (by decide) wd_109 rfl dX4_setUp_38 ?_
        obtain ⟨N7, hN7, h⟩ := ob h
        refine r_Vv (rest := []) C0 z0 (c_X1_remember hB hN7) lk_X4_63 (X1_k0 (X4_b4 hB)) rfl rfl hl.1 rfl (Nat.le_of_ble_eq_true rfl) (by decide) hw dX4_setUp_41 (fun {H} {locs} hw => ?_)
        refine lv_aload_n hx hb dX4_setUp_44 rfl (lv_at hl 0 rfl) ?_
        refine r_get (v := .ref (eA γ (o + 1))) hx hb hts hK hw hown inX4 rfl (X4_k0 hB) stT_at0 0 (by decide) wd_109 rfl dX4_setUp_45 ?_
        refine lv_iload_n hx hb dX4_setUp_48 rfl (lv_at hl 1 rfl) ?_
        refine lv_iload_n hx hb dX4_setUp_49 rfl (lv_at hl 2 rfl) ?_
        obtain ⟨N8, hN8, h⟩ := ob h
        refine r_Vv (rest := []) C0 z0 (c_X0_putOn (X4_b1 hB) hN8) lk_X4_102 (X0_k0 (X4_b1 hB)) rfl rfl hl.1 rfl (Nat.le_of_ble_eq_true rfl) (by decide) (Wo.cg stT_b1.symm hw) dX4_setUp_50 (fun {H} {locs} hw => ?_)
        replace hw := Wo.cg stT_s1 hw
        refine lv_aload_n hx hb dX4_setUp_53 rfl (lv_at hl 0 rfl) ?_
        refine r_get (v := .ref (eA γ (o + 1))) hx hb hts hK hw hown inX4 rfl (X4_k0 hB) stT_at0 0 (by decide) wd_109 rfl dX4_setUp_54 ?_
        obtain ⟨v9, hv9, h⟩ := ob h
        refine r_Vi (rest := []) C0 z0 (c_X0_turn (X4_b1 hB) hv9) lk_X4_70 (X0_k0 (X4_b1 hB)) rfl rfl hl.1 rfl (Nat.le_of_ble_eq_true rfl) (by decide) (Wo.cg stT_b1.symm hw) dX4_setUp_57 (fun {H} {locs} hw => ?_)
        replace hw := Wo.cg stT_b1 hw
        obtain ⟨h1, h2⟩ := s2 h
        subst h1
        subst h2
        exact r_iret hx hb hr hlk hK hd hw dX4_setUp_60
      · replace h := ifn c6 h
        refine lv_sipush (v := (-10003 : Int32)) hx hb dX4_setUp_29 (by decide) ?_
        obtain ⟨h1, h2⟩ := s2 h
        subst h1
        subst h2
        exact r_iret hx hb hr hlk hK hd hw dX4_setUp_32
    · replace h := ifp c4 h
      refine lv_sipush (v := (-10001 : Int32)) hx hb dX4_setUp_14 (by decide) ?_
      obtain ⟨h1, h2⟩ := s2 h
      subst h1
      subst h2
      exact r_iret hx hb hr hlk hK hd hw dX4_setUp_17
theorem c_X4_setUp {l : Launch} {γ : Ev} {o : Nat} {σ : Mm} {Bf : Nat → Mm} {r : Int32} {T : Nat → Mm} {x1 x2 : Int32} (hB : isX4 γ o) (h : s_X4_setUp T x1 x2 = some (r, Bf)) : Ct l yX4_setUp cX4_setUp 3 (some .int) 7 322 γ [.ref (eA γ o), .int x1, .int x2] (stT σ o T) (some (.int r)) (stT σ o Bf) := Ct.of (own := RX4) (by decide +kernel) rfl (Nat.le_of_ble_eq_true rfl) (fun C hw ls hl => b_X4_setUp C hB h hw hl)
set_option maxHeartbeats 4000000 in
set_option maxRecDepth 10000 in
theorem b_X4_begin {γ : Ev} {o : Nat} {σ : Mm} {Bf : Nat → Mm} {r : Int32} {T : Nat → Mm} (C : Cx p R s m args meth c RX4 cX4_begin 2 (some .int) 7 322 γ) (hB : isX4 γ o) (h : s_X4_begin T = some (r, Bf)) (hw : Wo γ (stT σ o T) s H locs) (hl : lv_has ls 2 [(0, .ref (eA γ o))]) : W p l e R s m args below meth c H locs 0 0 (MQ below (Qo γ (some (.int r)) (stT σ o Bf)) args s 0 0 (AK γ)) (F0 m 0 ls []) := by
  have C0 := C
  obtain ⟨hx, hb, hr, hml, hown, hts, hlk, hK, hd, hF, hL⟩ := C
  unfold s_X4_begin at h
  refine lv_aload_n hx hb dX4_begin_0 rfl (lv_at hl 0 rfl) ?_
  refine r_get (v := .ref (eA γ (o + 1))) hx hb hts hK hw hown inX4 rfl (X4_k0 hB) stT_at0 0 (by decide) wd_109 rfl dX4_begin_1 ?_
  obtain ⟨v1, hv1, h⟩ := ob h
  refine r_Vi (rest := []) C0 z0 (c_X0_tokens (X4_b1 hB) hv1) lk_X4_105 (X0_k0 (X4_b1 hB)) rfl rfl hl.1 rfl (Nat.le_of_ble_eq_true rfl) (by decide) (Wo.cg stT_b1.symm hw) dX4_begin_4 (fun {H} {locs} hw => ?_)
  replace hw := Wo.cg stT_b1 hw
  refine lv_istore_n (lv' := [(1, .int v1), (0, .ref (eA γ o))]) hx hb dX4_begin_7 rfl hl (by decide) rfl (fun ls hl => ?_)
  refine lv_aload_n hx hb dX4_begin_8 rfl (lv_at hl 1 rfl) ?_
  refine r_get (v := .ref (eA γ (o + 19))) hx hb hts hK hw hown inX4 rfl (X4_k0 hB) stT_at0 3 (by decide) wd_112 rfl dX4_begin_9 ?_
  refine lv_aload_n hx hb dX4_begin_12 rfl (lv_at hl 1 rfl) ?_
  refine r_get (v := .ref (eA γ (o + 1))) hx hb hts hK hw hown inX4 rfl (X4_k0 hB) stT_at0 0 (by decide) wd_109 rfl dX4_begin_13 ?_
  obtain ⟨N2, hN2, h⟩ := ob h
  refine r_Vv (rest := []) C0 z0 (c_X1_remember hB hN2) lk_X4_63 (X1_k0 (X4_b4 hB)) rfl rfl hl.1 rfl (Nat.le_of_ble_eq_true rfl) (by decide) hw dX4_begin_16 (fun {H} {locs} hw => ?_)
  refine lv_aload_n hx hb dX4_begin_19 rfl (lv_at hl 1 rfl) ?_
  refine r_get (v := .ref (eA γ (o + 1))) hx hb hts hK hw hown inX4 rfl (X4_k0 hB) stT_at0 0 (by decide) wd_109 rfl dX4_begin_20 ?_
  obtain ⟨N3, hN3, h⟩ := ob h
  refine r_Vv (rest := []) C0 z0 (c_X0_empty (X4_b1 hB) hN3) lk_X4_108 (X0_k0 (X4_b1 hB)) rfl rfl hl.1 rfl (Nat.le_of_ble_eq_true rfl) (by decide) (Wo.cg stT_b1.symm hw) dX4_begin_23 (fun {H} {locs} hw => ?_)
  replace hw := Wo.cg stT_s1 hw
  refine lv_iload_n hx hb dX4_begin_26 rfl (lv_at hl 0 rfl) ?_
  obtain ⟨h1, h2⟩ := s2 h
  subst h1
  subst h2
  exact r_iret hx hb hr hlk hK hd hw dX4_begin_27
theorem c_X4_begin {l : Launch} {γ : Ev} {o : Nat} {σ : Mm} {Bf : Nat → Mm} {r : Int32} {T : Nat → Mm} (hB : isX4 γ o) (h : s_X4_begin T = some (r, Bf)) : Ct l yX4_begin cX4_begin 2 (some .int) 7 322 γ [.ref (eA γ o)] (stT σ o T) (some (.int r)) (stT σ o Bf) := Ct.of (own := RX4) (by decide +kernel) rfl (Nat.le_of_ble_eq_true rfl) (fun C hw ls hl => b_X4_begin C hB h hw hl)
set_option maxHeartbeats 4000000 in
set_option maxRecDepth 10000 in
theorem b_X4_at {γ : Ev} {o : Nat} {σ : Mm} {r : Int32} {T : Nat → Mm} {x1 x2 : Int32} (C : Cx p R s m args meth c RX4 cX4_at 3 (some .int) 4 96 γ) (hB : isX4 γ o) (h : s_X4_at T x1 x2 = some r) (hw : Wo γ (stT σ o T) s H locs) (hl : lv_has ls 3 [(0, .ref (eA γ o)), (1, .int x1), (2, .int x2)]) : W p l e R s m args below meth c H locs 0 0 (MQ below (Qo γ (some (.int r)) (stT σ o T)) args s 0 0 (AK γ)) (F0 m 0 ls []) := by
  have C0 := C
  obtain ⟨hx, hb, hr, hml, hown, hts, hlk, hK, hd, hF, hL⟩ := C
  unfold s_X4_at at h
  refine lv_iload_n hx hb dX4_at_0 rfl (lv_at hl 1 rfl) ?_
  obtain ⟨v1, hv1, h⟩ := ob h
  refine r_Si (rest := []) C0 z0 (c_X0_isPlace hv1) lk_X4_40 hl.1 rfl (Nat.le_of_ble_eq_true rfl) (by decide) hw dX4_at_1 (fun {H} {locs} hw => ?_)
  refine lv_if_ne (tgt := 11) hx hb dX4_at_4 (by decide) (fun c2 => ?_) (fun c2 => ?_)
  · replace h := ifn c2 h
    refine lv_iload_n hx hb dX4_at_11 rfl (lv_at hl 2 rfl) ?_
    by_cases c3 : x2 = (0 : Int32)
    · replace h := ifp c3 h
      refine r_tabIn (tgt := 44) (off := 32) hx hb dX4_at_12 c3 (by decide) (by decide) (by decide) (by decide) ?_
      refine lv_aload_n hx hb dX4_at_44 rfl (lv_at hl 0 rfl) ?_
      refine r_get (v := .ref (eA γ (o + 1))) hx hb hts hK hw hown inX4 rfl (X4_k0 hB) stT_at0 0 (by decide) wd_109 rfl dX4_at_45 ?_
      refine lv_iload_n hx hb dX4_at_48 rfl (lv_at hl 1 rfl) ?_
      obtain ⟨v4, hv4, h⟩ := ob h
      refine r_Vi (rest := []) C0 z0 (c_X0_heightAt (X4_b1 hB) hv4) lk_X4_151 (X0_k0 (X4_b1 hB)) rfl rfl hl.1 rfl (Nat.le_of_ble_eq_true rfl) (by decide) (Wo.cg stT_b1.symm hw) dX4_at_49 (fun {H} {locs} hw => ?_)
      replace hw := Wo.cg stT_b1 hw
      have h1 := Option.some.inj h
      subst h1
      exact r_iret hx hb hr hlk hK hd hw dX4_at_52
    replace h := ifn c3 h
    by_cases c5 : x2 = (1 : Int32)
    · replace h := ifp c5 h
      refine r_tabIn (tgt := 53) (off := 41) hx hb dX4_at_12 c5 (by decide) (by decide) (by decide) (by decide) ?_
      refine lv_aload_n hx hb dX4_at_53 rfl (lv_at hl 0 rfl) ?_
      refine r_get (v := .ref (eA γ (o + 1))) hx hb hts hK hw hown inX4 rfl (X4_k0 hB) stT_at0 0 (by decide) wd_109 rfl dX4_at_54 ?_
      refine lv_iload_n hx hb dX4_at_57 rfl (lv_at hl 1 rfl) ?_
      obtain ⟨v6, hv6, h⟩ := ob h
      refine r_Vi (rest := []) C0 z0 (c_X0_weightsAt (X4_b1 hB) hv6) lk_X4_154 (X0_k0 (X4_b1 hB)) rfl rfl hl.1 rfl (Nat.le_of_ble_eq_true rfl) (by decide) (Wo.cg stT_b1.symm hw) dX4_at_58 (fun {H} {locs} hw => ?_)
      replace hw := Wo.cg stT_b1 hw
      have h1 := Option.some.inj h
      subst h1
      exact r_iret hx hb hr hlk hK hd hw dX4_at_61
    replace h := ifn c5 h
    by_cases c7 : x2 = (2 : Int32)
    · replace h := ifp c7 h
      refine r_tabIn (tgt := 62) (off := 50) hx hb dX4_at_12 c7 (by decide) (by decide) (by decide) (by decide) ?_
      refine lv_aload_n hx hb dX4_at_62 rfl (lv_at hl 0 rfl) ?_
      refine r_get (v := .ref (eA γ (o + 1))) hx hb hts hK hw hown inX4 rfl (X4_k0 hB) stT_at0 0 (by decide) wd_109 rfl dX4_at_63 ?_
      refine lv_iload_n hx hb dX4_at_66 rfl (lv_at hl 1 rfl) ?_
      obtain ⟨v8, hv8, h⟩ := ob h
      refine r_Vi (rest := []) C0 z0 (c_X0_heightAt (X4_b1 hB) hv8) lk_X4_151 (X0_k0 (X4_b1 hB)) rfl rfl hl.1 rfl (Nat.le_of_ble_eq_true rfl) (by decide) (Wo.cg stT_b1.symm hw) dX4_at_67 (fun {H} {locs} hw => ?_)
      replace hw := Wo.cg stT_b1 hw
      refine lv_if_le (tgt := 84) hx hb dX4_at_70 (by decide) (fun c9 => ?_) (fun c9 => ?_)
      · replace h := ifp c9 h
        refine lv_sipush (v := (-10005 : Int32)) hx hb dX4_at_84 (by decide) ?_
        have h1 := Option.some.inj h
        subst h1
        exact r_iret hx hb hr hlk hK hd hw dX4_at_87
      · replace h := ifn c9 h
        refine lv_aload_n hx hb dX4_at_73 rfl (lv_at hl 0 rfl) ?_
        refine r_get (v := .ref (eA γ (o + 1))) hx hb hts hK hw hown inX4 rfl (X4_k0 hB) stT_at0 0 (by decide) wd_109 rfl dX4_at_74 ?_
        refine lv_iload_n hx hb dX4_at_77 rfl (lv_at hl 1 rfl) ?_
        obtain ⟨v10, hv10, h⟩ := ob h
        refine r_Vi (rest := []) C0 z0 (c_X0_uppermostAt (X4_b1 hB) hv10) lk_X4_157 (X0_k0 (X4_b1 hB)) rfl rfl hl.1 rfl (Nat.le_of_ble_eq_true rfl) (by decide) (Wo.cg stT_b1.symm hw) dX4_at_78 (fun {H} {locs} hw => ?_)
        replace hw := Wo.cg stT_b1 hw
        refine lv_goto (tgt := 87) hx hb dX4_at_81 (by decide) ?_
        have h1 := Option.some.inj h
        subst h1
        exact r_iret hx hb hr hlk hK hd hw dX4_at_87
    replace h := ifn c7 h
    by_cases c11 : x2 = (3 : Int32)
    · replace h := ifp c11 h
      refine r_tabIn (tgt := 88) (off := 76) hx hb dX4_at_12 c11 (by decide) (by decide) (by decide) (by decide) ?_
      refine lv_aload_n hx hb dX4_at_88 rfl (lv_at hl 0 rfl) ?_
      refine r_get (v := .ref (eA γ (o + 1))) hx hb hts hK hw hown inX4 rfl (X4_k0 hB) stT_at0 0 (by decide) wd_109 rfl dX4_at_89 ?_
      refine lv_iload_n hx hb dX4_at_92 rfl (lv_at hl 1 rfl) ?_
      obtain ⟨v12, hv12, h⟩ := ob h
      refine r_Vi (rest := []) C0 z0 (c_X0_weightsAt (X4_b1 hB) hv12) lk_X4_154 (X0_k0 (X4_b1 hB)) rfl rfl hl.1 rfl (Nat.le_of_ble_eq_true rfl) (by decide) (Wo.cg stT_b1.symm hw) dX4_at_93 (fun {H} {locs} hw => ?_)
      replace hw := Wo.cg stT_b1 hw
      refine lv_iload_n hx hb dX4_at_96 rfl (lv_at hl 1 rfl) ?_
      refine lv_imul hx hb dX4_at_97 ?_
      have h1 := Option.some.inj h
      subst h1
      exact r_iret hx hb hr hlk hK hd hw dX4_at_98
    replace h := ifn c11 h
    refine lv_tableOut (tgt := 99) hx hb dX4_at_12 (by have q0 := i32_ne (z := 0) rfl c3; have q1 := i32_ne (z := 1) rfl c5; have q2 := i32_ne (z := 2) rfl c7; have q3 := i32_ne (z := 3) rfl c11; omega) (by decide) ?_
    refine lv_sipush (v := (-10002 : Int32)) hx hb dX4_at_99 (by decide) ?_
    have h1 := Option.some.inj h
    subst h1
    exact r_iret hx hb hr hlk hK hd hw dX4_at_102
  · replace h := ifp c2 h
    refine lv_sipush (v := (-10001 : Int32)) hx hb dX4_at_7 (by decide) ?_
    have h1 := Option.some.inj h
    subst h1
    exact r_iret hx hb hr hlk hK hd hw dX4_at_10
theorem c_X4_at {l : Launch} {γ : Ev} {o : Nat} {σ : Mm} {r : Int32} {T : Nat → Mm} {x1 x2 : Int32} (hB : isX4 γ o) (h : s_X4_at T x1 x2 = some r) : Ct l yX4_at cX4_at 3 (some .int) 4 96 γ [.ref (eA γ o), .int x1, .int x2] (stT σ o T) (some (.int r)) (stT σ o T) := Ct.of (own := RX4) (by decide +kernel) rfl (Nat.le_of_ble_eq_true rfl) (fun C hw ls hl => b_X4_at C hB h hw hl)
set_option maxHeartbeats 4000000 in
set_option maxRecDepth 10000 in
theorem b_X4_bag {γ : Ev} {o : Nat} {σ : Mm} {r : Int32} {T : Nat → Mm} {x1 x2 : Int32} (C : Cx p R s m args meth c RX4 cX4_bag 3 (some .int) 3 72 γ) (hB : isX4 γ o) (h : s_X4_bag T x1 x2 = some r) (hw : Wo γ (stT σ o T) s H locs) (hl : lv_has ls 3 [(0, .ref (eA γ o)), (1, .int x1), (2, .int x2)]) : W p l e R s m args below meth c H locs 0 0 (MQ below (Qo γ (some (.int r)) (stT σ o T)) args s 0 0 (AK γ)) (F0 m 0 ls []) := by
  have C0 := C
  obtain ⟨hx, hb, hr, hml, hown, hts, hlk, hK, hd, hF, hL⟩ := C
  unfold s_X4_bag at h
  refine lv_iload_n hx hb dX4_bag_0 rfl (lv_at hl 1 rfl) ?_
  obtain ⟨v1, hv1, h⟩ := ob h
  refine r_Si (rest := []) C0 z0 (c_X0_isSide hv1) lk_X4_74 hl.1 rfl (Nat.le_of_ble_eq_true rfl) (by decide) hw dX4_bag_1 (fun {H} {locs} hw => ?_)
  refine lv_if_eq (tgt := 18) hx hb dX4_bag_4 (by decide) (fun c2 => ?_) (fun c2 => ?_)
  · replace h := ifp c2 h
    refine lv_sipush (v := (-10001 : Int32)) hx hb dX4_bag_18 (by decide) ?_
    have h1 := Option.some.inj h
    subst h1
    exact r_iret hx hb hr hlk hK hd hw dX4_bag_21
  · replace h := ifn c2 h
    refine lv_iload_n hx hb dX4_bag_7 rfl (lv_at hl 2 rfl) ?_
    refine lv_if_eq (tgt := 22) hx hb dX4_bag_8 (by decide) (fun c3 => ?_) (fun c3 => ?_)
    · replace h := ifp c3 h
      refine lv_aload_n hx hb dX4_bag_22 rfl (lv_at hl 0 rfl) ?_
      refine r_get (v := .ref (eA γ (o + 1))) hx hb hts hK hw hown inX4 rfl (X4_k0 hB) stT_at0 0 (by decide) wd_109 rfl dX4_bag_23 ?_
      refine lv_iload_n hx hb dX4_bag_26 rfl (lv_at hl 1 rfl) ?_
      refine lv_iload_n hx hb dX4_bag_27 rfl (lv_at hl 2 rfl) ?_
      obtain ⟨v4, hv4, h⟩ := ob h
      refine r_Vi (rest := []) C0 z0 (c_X0_inBag (X4_b1 hB) hv4) lk_X4_77 (X0_k0 (X4_b1 hB)) rfl rfl hl.1 rfl (Nat.le_of_ble_eq_true rfl) (by decide) (Wo.cg stT_b1.symm hw) dX4_bag_28 (fun {H} {locs} hw => ?_)
      replace hw := Wo.cg stT_b1 hw
      have h1 := Option.some.inj h
      subst h1
      exact r_iret hx hb hr hlk hK hd hw dX4_bag_31
    · replace h := ifn c3 h
      refine lv_iload_n hx hb dX4_bag_11 rfl (lv_at hl 2 rfl) ?_
      obtain ⟨v5, hv5, h⟩ := ob h
      refine r_Si (rest := []) C0 z0 (c_X0_isWeight hv5) lk_X4_36 hl.1 rfl (Nat.le_of_ble_eq_true rfl) (by decide) hw dX4_bag_12 (fun {H} {locs} hw => ?_)
      refine lv_if_ne (tgt := 22) hx hb dX4_bag_15 (by decide) (fun c6 => ?_) (fun c6 => ?_)
      · replace h := ifn c6 h
        refine lv_aload_n hx hb dX4_bag_22 rfl (lv_at hl 0 rfl) ?_
        refine r_get (v := .ref (eA γ (o + 1))) hx hb hts hK hw hown inX4 rfl (X4_k0 hB) stT_at0 0 (by decide) wd_109 rfl dX4_bag_23 ?_
        refine lv_iload_n hx hb dX4_bag_26 rfl (lv_at hl 1 rfl) ?_
        refine lv_iload_n hx hb dX4_bag_27 rfl (lv_at hl 2 rfl) ?_
        obtain ⟨v7, hv7, h⟩ := ob h
        refine r_Vi (rest := []) C0 z0 (c_X0_inBag (X4_b1 hB) hv7) lk_X4_77 (X0_k0 (X4_b1 hB)) rfl rfl hl.1 rfl (Nat.le_of_ble_eq_true rfl) (by decide) (Wo.cg stT_b1.symm hw) dX4_bag_28 (fun {H} {locs} hw => ?_)
        replace hw := Wo.cg stT_b1 hw
        have h1 := Option.some.inj h
        subst h1
        exact r_iret hx hb hr hlk hK hd hw dX4_bag_31
      · replace h := ifp c6 h
        refine lv_sipush (v := (-10001 : Int32)) hx hb dX4_bag_18 (by decide) ?_
        have h1 := Option.some.inj h
        subst h1
        exact r_iret hx hb hr hlk hK hd hw dX4_bag_21
theorem c_X4_bag {l : Launch} {γ : Ev} {o : Nat} {σ : Mm} {r : Int32} {T : Nat → Mm} {x1 x2 : Int32} (hB : isX4 γ o) (h : s_X4_bag T x1 x2 = some r) : Ct l yX4_bag cX4_bag 3 (some .int) 3 72 γ [.ref (eA γ o), .int x1, .int x2] (stT σ o T) (some (.int r)) (stT σ o T) := Ct.of (own := RX4) (by decide +kernel) rfl (Nat.le_of_ble_eq_true rfl) (fun C hw ls hl => b_X4_bag C hB h hw hl)
set_option maxHeartbeats 4000000 in
set_option maxRecDepth 10000 in
theorem b_X4_reason {γ : Ev} {o : Nat} {σ : Mm} {r : Int32} {T : Nat → Mm} {x1 x2 : Int32} (C : Cx p R s m args meth c RX4 cX4_reason 3 (some .int) 6 137 γ) (hB : isX4 γ o) (h : s_X4_reason T x1 x2 = some r) (hw : Wo γ (stT σ o T) s H locs) (hl : lv_has ls 3 [(0, .ref (eA γ o)), (1, .int x1), (2, .int x2)]) : W p l e R s m args below meth c H locs 0 0 (MQ below (Qo γ (some (.int r)) (stT σ o T)) args s 0 0 (AK γ)) (F0 m 0 ls []) := by
  have C0 := C
  obtain ⟨hx, hb, hr, hml, hown, hts, hlk, hK, hd, hF, hL⟩ := C
  unfold s_X4_reason at h
  refine lv_iload_n hx hb dX4_reason_0 rfl (lv_at hl 1 rfl) ?_
  refine lv_iconst (v := (1 : Int32)) hx hb dX4_reason_1 (by decide) ?_
  refine lv_icmp_lt (tgt := 11) hx hb dX4_reason_2 (by decide) (fun c1 => ?_) (fun c1 => ?_)
  · replace h := ifp c1 h
    refine lv_sipush (v := (-10002 : Int32)) hx hb dX4_reason_11 (by decide) ?_
    have h1 := Option.some.inj h
    subst h1
    exact r_iret hx hb hr hlk hK hd hw dX4_reason_14
  · replace h := ifn c1 h
    refine lv_iload_n hx hb dX4_reason_5 rfl (lv_at hl 1 rfl) ?_
    refine lv_bipush (v := (7 : Int32)) hx hb dX4_reason_6 (by decide) ?_
    refine lv_icmp_le (tgt := 15) hx hb dX4_reason_8 (by decide) (fun c2 => ?_) (fun c2 => ?_)
    · replace h := ifp c2 h
      refine lv_iload_n hx hb dX4_reason_15 rfl (lv_at hl 2 rfl) ?_
      obtain ⟨v3, hv3, h⟩ := ob h
      refine r_Si (rest := []) C0 z0 (c_X0_isPlace hv3) lk_X4_40 hl.1 rfl (Nat.le_of_ble_eq_true rfl) (by decide) hw dX4_reason_16 (fun {H} {locs} hw => ?_)
      refine lv_if_ne (tgt := 26) hx hb dX4_reason_19 (by decide) (fun c4 => ?_) (fun c4 => ?_)
      · replace h := ifn c4 h
        refine lv_aload_n hx hb dX4_reason_26 rfl (lv_at hl 0 rfl) ?_
        refine r_get (v := .ref (eA γ (o + 1))) hx hb hts hK hw hown inX4 rfl (X4_k0 hB) stT_at0 0 (by decide) wd_109 rfl dX4_reason_27 ?_
        refine lv_iload_n hx hb dX4_reason_30 rfl (lv_at hl 1 rfl) ?_
        refine lv_iload_n hx hb dX4_reason_31 rfl (lv_at hl 2 rfl) ?_
        obtain ⟨v5, hv5, h⟩ := ob h
        refine r_Vi (rest := []) C0 z0 (c_X0_whyNot (X4_b1 hB) hv5) lk_X4_60 (X0_k0 (X4_b1 hB)) rfl rfl hl.1 rfl (Nat.le_of_ble_eq_true rfl) (by decide) (Wo.cg stT_b1.symm hw) dX4_reason_32 (fun {H} {locs} hw => ?_)
        replace hw := Wo.cg stT_b1 hw
        have h1 := Option.some.inj h
        subst h1
        exact r_iret hx hb hr hlk hK hd hw dX4_reason_35
      · replace h := ifp c4 h
        refine lv_sipush (v := (-10001 : Int32)) hx hb dX4_reason_22 (by decide) ?_
        have h1 := Option.some.inj h
        subst h1
        exact r_iret hx hb hr hlk hK hd hw dX4_reason_25
    · replace h := ifn c2 h
      refine lv_sipush (v := (-10002 : Int32)) hx hb dX4_reason_11 (by decide) ?_
      have h1 := Option.some.inj h
      subst h1
      exact r_iret hx hb hr hlk hK hd hw dX4_reason_14
theorem c_X4_reason {l : Launch} {γ : Ev} {o : Nat} {σ : Mm} {r : Int32} {T : Nat → Mm} {x1 x2 : Int32} (hB : isX4 γ o) (h : s_X4_reason T x1 x2 = some r) : Ct l yX4_reason cX4_reason 3 (some .int) 6 137 γ [.ref (eA γ o), .int x1, .int x2] (stT σ o T) (some (.int r)) (stT σ o T) := Ct.of (own := RX4) (by decide +kernel) rfl (Nat.le_of_ble_eq_true rfl) (fun C hw ls hl => b_X4_reason C hB h hw hl)
set_option maxHeartbeats 4000000 in
set_option maxRecDepth 10000 in
theorem b_X4_tellMove {γ : Ev} {μ : Mm} {r : Int32} {x0 : Int32} (C : Cx p R s m args meth c RX4 cX4_tellMove 1 (some .int) 2 51 γ) (h : s_X4_tellMove x0 = some r) (hw : Wo γ μ s H locs) (hl : lv_has ls 1 [(0, .int x0)]) : W p l e R s m args below meth c H locs 0 0 (MQ below (Qo γ (some (.int r)) μ) args s 0 0 (AK γ)) (F0 m 0 ls []) := by
  have C0 := C
  obtain ⟨hx, hb, hr, hml, hown, hts, hlk, hK, hd, hF, hL⟩ := C
  unfold s_X4_tellMove at h
  refine lv_bipush (v := (100 : Int32)) hx hb dX4_tellMove_0 (by decide) ?_
  refine lv_iload_n hx hb dX4_tellMove_2 rfl (lv_at hl 0 rfl) ?_
  obtain ⟨v1, hv1, h⟩ := ob h
  refine r_Si (rest := [.int (100 : Int32)]) C0 z0 (c_X0_numberOf hv1) lk_X4_53 hl.1 rfl (Nat.le_of_ble_eq_true rfl) (by decide) hw dX4_tellMove_3 (fun {H} {locs} hw => ?_)
  refine lv_imul hx hb dX4_tellMove_6 ?_
  refine lv_iload_n hx hb dX4_tellMove_7 rfl (lv_at hl 0 rfl) ?_
  obtain ⟨v2, hv2, h⟩ := ob h
  refine r_Si (rest := [.int ((100 : Int32) * v1)]) C0 z0 (c_X0_placeOf hv2) lk_X4_57 hl.1 rfl (Nat.le_of_ble_eq_true rfl) (by decide) hw dX4_tellMove_8 (fun {H} {locs} hw => ?_)
  refine lv_iadd hx hb dX4_tellMove_11 ?_
  refine lv_bipush (v := (50 : Int32)) hx hb dX4_tellMove_12 (by decide) ?_
  refine lv_iadd hx hb dX4_tellMove_14 ?_
  have h1 := Option.some.inj h
  subst h1
  exact r_iret hx hb hr hlk hK hd hw dX4_tellMove_15
theorem c_X4_tellMove {l : Launch} {γ : Ev} {μ : Mm} {r : Int32} {x0 : Int32} (h : s_X4_tellMove x0 = some r) : Ct l yX4_tellMove cX4_tellMove 1 (some .int) 2 51 γ [.int x0] μ (some (.int r)) μ := Ct.of (own := RX4) (by decide +kernel) rfl (Nat.le_of_ble_eq_true rfl) (fun C hw ls hl => b_X4_tellMove C h hw hl)
set_option maxHeartbeats 4000000 in
set_option maxRecDepth 10000 in
theorem b_X4_possible_L12 {γ : Ev} {o : Nat} {σ : Mm} {r : Int32} (C : Cx p R s m args meth c RX4 cX4_possible 4 (some .int) 6 137 γ) (hB : isX4 γ o) : ∀ (n : Nat) {T : Nat → Mm} {x2 : Int32} {x3 : Int32} {H : Heap} {locs : List Loc} {ls : Array Slot}, s_X4_possible_L12 n T x2 x3 = some r → Wo γ (stT σ o T) s H locs → lv_has ls 4 [(0, .ref (eA γ o)), (2, .int x2), (3, .int x3)] → W p l e R s m args below meth c H locs 0 0 (MQ below (Qo γ (some (.int r)) (stT σ o T)) args s 0 0 (AK γ)) (F0 m 12 ls []) := by
  have C0 := C
  obtain ⟨hx, hb, hr, hml, hown, hts, hlk, hK, hd, hF, hL⟩ := C
  intro n
  induction n with
  | zero => intro T x2 x3 H locs ls h; cases h
  | succ n ih =>
    intro T x2 x3 H locs ls h hw hl
    unfold s_X4_possible_L12 at h
    refine lv_iload_n hx hb dX4_possible_12 rfl (lv_at hl 2 rfl) ?_
    refine lv_bipush (v := (84 : Int32)) hx hb dX4_possible_13 (by decide) ?_
    refine lv_icmp_ge (tgt := 57) hx hb dX4_possible_15 (by decide) (fun c2 => ?_) (fun c2 => ?_)
    · replace h := ifp c2 h
      refine lv_sipush (v := (-10005 : Int32)) hx hb dX4_possible_57 (by decide) ?_
      have h1 := Option.some.inj h
      subst h1
      exact r_iret hx hb hr hlk hK hd hw dX4_possible_60
    · replace h := ifn c2 h
      refine lv_aload_n hx hb dX4_possible_18 rfl (lv_at hl 0 rfl) ?_
      refine r_get (v := .ref (eA γ (o + 1))) hx hb hts hK hw hown inX4 rfl (X4_k0 hB) stT_at0 0 (by decide) wd_109 rfl dX4_possible_19 ?_
      refine lv_iload_n hx hb dX4_possible_22 rfl (lv_at hl 2 rfl) ?_
      obtain ⟨v3, hv3, h⟩ := ob h
      refine r_Si (rest := [.ref (eA γ (o + 1))]) C0 z0 (c_X0_numberOf hv3) lk_X4_53 hl.1 rfl (Nat.le_of_ble_eq_true rfl) (by decide) hw dX4_possible_23 (fun {H} {locs} hw => ?_)
      refine lv_iload_n hx hb dX4_possible_26 rfl (lv_at hl 2 rfl) ?_
      obtain ⟨v4, hv4, h⟩ := ob h
      refine r_Si (rest := [.int v3, .ref (eA γ (o + 1))]) C0 z0 (c_X0_placeOf hv4) lk_X4_57 hl.1 rfl (Nat.le_of_ble_eq_true rfl) (by decide) hw dX4_possible_27 (fun {H} {locs} hw => ?_)
      obtain ⟨v5, hv5, h⟩ := ob h
      refine r_Vi (rest := []) C0 z0 (c_X0_whyNot (X4_b1 hB) hv5) lk_X4_60 (X0_k0 (X4_b1 hB)) rfl rfl hl.1 rfl (Nat.le_of_ble_eq_true rfl) (by decide) (Wo.cg stT_b1.symm hw) dX4_possible_30 (fun {H} {locs} hw => ?_)
      replace hw := Wo.cg stT_b1 hw
      refine lv_if_eq (tgt := 39) hx hb dX4_possible_33 (by decide) (fun c6 => ?_) (fun c6 => ?_)
      · replace h := ifp c6 h
        refine lv_iload_n hx hb dX4_possible_39 rfl (lv_at hl 1 rfl) ?_
        refine lv_if_ne (tgt := 48) hx hb dX4_possible_40 (by decide) (fun c7 => ?_) (fun c7 => ?_)
        · replace h := ifn c7 h
          obtain ⟨v8, ev8, h⟩ := jb h
          refine lv_iinc (v := v8) (lv' := [(2, .int v8), (0, .ref (eA γ o)), (3, .int x3)]) hx hb dX4_possible_48 hl (k := 1) rfl (by rw [← ev8]; rfl) (by decide) rfl (fun ls hl => ?_)
          obtain ⟨v9, ev9, h⟩ := jb h
          refine lv_iinc (v := v9) (lv' := [(3, .int v9), (2, .int v8), (0, .ref (eA γ o))]) hx hb dX4_possible_51 hl (k := 2) rfl (by rw [← ev9]; rfl) (by decide) rfl (fun ls hl => ?_)
          refine lv_goto (tgt := 12) hx hb dX4_possible_54 (by decide) ?_
          exact ih h hw (lv_sub hl [2, 1, 0] rfl)
        · replace h := ifp c7 h
          refine lv_iload_n hx hb dX4_possible_43 rfl (lv_at hl 2 rfl) ?_
          obtain ⟨v10, hv10, h⟩ := ob h
          refine r_Si (rest := []) C0 z0 (c_X4_tellMove hv10) lk_X4_160 hl.1 rfl (Nat.le_of_ble_eq_true rfl) (by decide) hw dX4_possible_44 (fun {H} {locs} hw => ?_)
          have h1 := Option.some.inj h
          subst h1
          exact r_iret hx hb hr hlk hK hd hw dX4_possible_47
      · replace h := ifn c6 h
        refine lv_goto (tgt := 51) hx hb dX4_possible_36 (by decide) ?_
        obtain ⟨v11, ev11, h⟩ := jb h
        refine lv_iinc (v := v11) (lv' := [(3, .int v11), (0, .ref (eA γ o)), (2, .int x2)]) hx hb dX4_possible_51 hl (k := 2) rfl (by rw [← ev11]; rfl) (by decide) rfl (fun ls hl => ?_)
        refine lv_goto (tgt := 12) hx hb dX4_possible_54 (by decide) ?_
        exact ih h hw (lv_sub hl [1, 2, 0] rfl)
set_option maxHeartbeats 4000000 in
set_option maxRecDepth 10000 in
theorem b_X4_possible {γ : Ev} {o : Nat} {σ : Mm} {r : Int32} {T : Nat → Mm} {x1 : Int32} (C : Cx p R s m args meth c RX4 cX4_possible 4 (some .int) 6 137 γ) (hB : isX4 γ o) (h : s_X4_possible T x1 = some r) (hw : Wo γ (stT σ o T) s H locs) (hl : lv_has ls 4 [(0, .ref (eA γ o)), (1, .int x1)]) : W p l e R s m args below meth c H locs 0 0 (MQ below (Qo γ (some (.int r)) (stT σ o T)) args s 0 0 (AK γ)) (F0 m 0 ls []) := by
  have C0 := C
  obtain ⟨hx, hb, hr, hml, hown, hts, hlk, hK, hd, hF, hL⟩ := C
  unfold s_X4_possible at h
  refine lv_iload_n hx hb dX4_possible_0 rfl (lv_at hl 1 rfl) ?_
  refine lv_if_ge (tgt := 8) hx hb dX4_possible_1 (by decide) (fun c1 => ?_) (fun c1 => ?_)
  · replace h := ifp c1 h
    refine lv_iload_n hx hb dX4_possible_8 rfl (lv_at hl 1 rfl) ?_
    refine lv_istore_n (lv' := [(2, .int x1), (0, .ref (eA γ o)), (1, .int x1)]) hx hb dX4_possible_9 rfl hl (by decide) rfl (fun ls hl => ?_)
    refine lv_iconst (v := (0 : Int32)) hx hb dX4_possible_10 (by decide) ?_
    refine lv_istore_n (lv' := [(3, .int (0 : Int32)), (2, .int x1), (0, .ref (eA γ o)), (1, .int x1)]) hx hb dX4_possible_11 rfl hl (by decide) rfl (fun ls hl => ?_)
    exact b_X4_possible_L12 C0 hB 1000 h hw (lv_sub hl [2, 1, 0] rfl)
  · replace h := ifn c1 h
    refine lv_sipush (v := (-10002 : Int32)) hx hb dX4_possible_4 (by decide) ?_
    have h1 := Option.some.inj h
    subst h1
    exact r_iret hx hb hr hlk hK hd hw dX4_possible_7
theorem c_X4_possible {l : Launch} {γ : Ev} {o : Nat} {σ : Mm} {r : Int32} {T : Nat → Mm} {x1 : Int32} (hB : isX4 γ o) (h : s_X4_possible T x1 = some r) : Ct l yX4_possible cX4_possible 4 (some .int) 6 137 γ [.ref (eA γ o), .int x1] (stT σ o T) (some (.int r)) (stT σ o T) := Ct.of (own := RX4) (by decide +kernel) rfl (Nat.le_of_ble_eq_true rfl) (fun C hw ls hl => b_X4_possible C hB h hw hl)
set_option maxHeartbeats 4000000 in
set_option maxRecDepth 10000 in
theorem b_X4_look {γ : Ev} {o : Nat} {σ : Mm} {Bf : Nat → Mm} {r : Int32} {T : Nat → Mm} {x1 : Int32} (C : Cx p R s m args meth c RX4 cX4_look 2 (some .int) 82 3050 γ) (hB : isX4 γ o) (h : s_X4_look T x1 = some (r, Bf)) (hw : Wo γ (stT σ o T) s H locs) (hl : lv_has ls 2 [(0, .ref (eA γ o)), (1, .int x1)]) : W p l e R s m args below meth c H locs 0 0 (MQ below (Qo γ (some (.int r)) (stT σ o Bf)) args s 0 0 (AK γ)) (F0 m 0 ls []) := by
  have C0 := C
  obtain ⟨hx, hb, hr, hml, hown, hts, hlk, hK, hd, hF, hL⟩ := C
  unfold s_X4_look at h
  refine lv_iload_n hx hb dX4_look_0 rfl (lv_at hl 1 rfl) ?_
  refine lv_if_lt (tgt := 9) hx hb dX4_look_1 (by decide) (fun c1 => ?_) (fun c1 => ?_)
  · replace h := ifp c1 h
    refine lv_sipush (v := (-10002 : Int32)) hx hb dX4_look_9 (by decide) ?_
    obtain ⟨h1, h2⟩ := s2 h
    subst h1
    subst h2
    exact r_iret hx hb hr hlk hK hd hw dX4_look_12
  · replace h := ifn c1 h
    refine lv_iload_n hx hb dX4_look_4 rfl (lv_at hl 1 rfl) ?_
    refine lv_iconst (v := (3 : Int32)) hx hb dX4_look_5 (by decide) ?_
    refine lv_icmp_le (tgt := 13) hx hb dX4_look_6 (by decide) (fun c2 => ?_) (fun c2 => ?_)
    · replace h := ifp c2 h
      refine lv_aload_n hx hb dX4_look_13 rfl (lv_at hl 0 rfl) ?_
      refine r_get (v := .ref (eA γ (o + 1))) hx hb hts hK hw hown inX4 rfl (X4_k0 hB) stT_at0 0 (by decide) wd_109 rfl dX4_look_14 ?_
      refine lv_iload_n hx hb dX4_look_17 rfl (lv_at hl 1 rfl) ?_
      obtain ⟨q3, hq3, h⟩ := ob h
      refine r_Si (rest := []) C0 z0 (c_X3_lookAhead (X4_b1 hB) hq3) lk_X4_163 hl.1 rfl (Nat.le_of_ble_eq_true rfl) (by decide) (Wo.cg stT_b1.symm hw) dX4_look_18 (fun {H} {locs} hw => ?_)
      replace hw := Wo.cg stT_s1 hw
      obtain ⟨h1, h2⟩ := s2 h
      subst h1
      subst h2
      exact r_iret hx hb hr hlk hK hd hw dX4_look_21
    · replace h := ifn c2 h
      refine lv_sipush (v := (-10002 : Int32)) hx hb dX4_look_9 (by decide) ?_
      obtain ⟨h1, h2⟩ := s2 h
      subst h1
      subst h2
      exact r_iret hx hb hr hlk hK hd hw dX4_look_12
theorem c_X4_look {l : Launch} {γ : Ev} {o : Nat} {σ : Mm} {Bf : Nat → Mm} {r : Int32} {T : Nat → Mm} {x1 : Int32} (hB : isX4 γ o) (h : s_X4_look T x1 = some (r, Bf)) : Ct l yX4_look cX4_look 2 (some .int) 82 3050 γ [.ref (eA γ o), .int x1] (stT σ o T) (some (.int r)) (stT σ o Bf) := Ct.of (own := RX4) (by decide +kernel) rfl (Nat.le_of_ble_eq_true rfl) (fun C hw ls hl => b_X4_look C hB h hw hl)
set_option maxHeartbeats 4000000 in
set_option maxRecDepth 10000 in
theorem b_X4_best {γ : Ev} {o : Nat} {σ : Mm} {Bf : Nat → Mm} {r : Int32} {T : Nat → Mm} {x1 : Int32} (C : Cx p R s m args meth c RX4 cX4_best 3 (some .int) 90 3359 γ) (hB : isX4 γ o) (h : s_X4_best T x1 = some (r, Bf)) (hw : Wo γ (stT σ o T) s H locs) (hl : lv_has ls 3 [(0, .ref (eA γ o)), (1, .int x1)]) : W p l e R s m args below meth c H locs 0 0 (MQ below (Qo γ (some (.int r)) (stT σ o Bf)) args s 0 0 (AK γ)) (F0 m 0 ls []) := by
  have C0 := C
  obtain ⟨hx, hb, hr, hml, hown, hts, hlk, hK, hd, hF, hL⟩ := C
  unfold s_X4_best at h
  refine lv_iload_n hx hb dX4_best_0 rfl (lv_at hl 1 rfl) ?_
  refine lv_iconst (v := (1 : Int32)) hx hb dX4_best_1 (by decide) ?_
  refine lv_icmp_lt (tgt := 10) hx hb dX4_best_2 (by decide) (fun c1 => ?_) (fun c1 => ?_)
  · replace h := ifp c1 h
    refine lv_sipush (v := (-10002 : Int32)) hx hb dX4_best_10 (by decide) ?_
    obtain ⟨h1, h2⟩ := s2 h
    subst h1
    subst h2
    exact r_iret hx hb hr hlk hK hd hw dX4_best_13
  · replace h := ifn c1 h
    refine lv_iload_n hx hb dX4_best_5 rfl (lv_at hl 1 rfl) ?_
    refine lv_iconst (v := (3 : Int32)) hx hb dX4_best_6 (by decide) ?_
    refine lv_icmp_le (tgt := 14) hx hb dX4_best_7 (by decide) (fun c2 => ?_) (fun c2 => ?_)
    · replace h := ifp c2 h
      refine lv_aload_n hx hb dX4_best_14 rfl (lv_at hl 0 rfl) ?_
      refine r_get (v := .ref (eA γ (o + 1))) hx hb hts hK hw hown inX4 rfl (X4_k0 hB) stT_at0 0 (by decide) wd_109 rfl dX4_best_15 ?_
      refine lv_iload_n hx hb dX4_best_18 rfl (lv_at hl 1 rfl) ?_
      obtain ⟨q3, hq3, h⟩ := ob h
      refine r_Si (rest := []) C0 z0 (c_X3_bestRank (X4_b1 hB) hq3) lk_X4_47 hl.1 rfl (Nat.le_of_ble_eq_true rfl) (by decide) (Wo.cg stT_b1.symm hw) dX4_best_19 (fun {H} {locs} hw => ?_)
      replace hw := Wo.cg stT_s1 hw
      obtain ⟨v4, ev4, h⟩ := jb h
      refine r_top ev4 ?_
      refine lv_istore_n (lv' := [(2, .int v4), (0, .ref (eA γ o)), (1, .int x1)]) hx hb dX4_best_22 rfl hl (by decide) rfl (fun ls hl => ?_)
      refine lv_iload_n hx hb dX4_best_23 rfl (lv_at hl 0 rfl) ?_
      refine lv_if_ge (tgt := 33) hx hb dX4_best_24 (by decide) (fun c5 => ?_) (fun c5 => ?_)
      · replace h := ifp c5 h
        refine lv_iload_n hx hb dX4_best_33 rfl (lv_at hl 0 rfl) ?_
        obtain ⟨v6, hv6, h⟩ := ob h
        refine r_Si (rest := []) C0 z0 (c_X4_tellMove hv6) lk_X4_160 hl.1 rfl (Nat.le_of_ble_eq_true rfl) (by decide) hw dX4_best_34 (fun {H} {locs} hw => ?_)
        obtain ⟨h1, h2⟩ := s2 h
        subst h1
        subst h2
        exact r_iret hx hb hr hlk hK hd hw dX4_best_37
      · replace h := ifn c5 h
        refine lv_sipush (v := (-10005 : Int32)) hx hb dX4_best_27 (by decide) ?_
        refine lv_goto (tgt := 37) hx hb dX4_best_30 (by decide) ?_
        obtain ⟨h1, h2⟩ := s2 h
        subst h1
        subst h2
        exact r_iret hx hb hr hlk hK hd hw dX4_best_37
    · replace h := ifn c2 h
      refine lv_sipush (v := (-10002 : Int32)) hx hb dX4_best_10 (by decide) ?_
      obtain ⟨h1, h2⟩ := s2 h
      subst h1
      subst h2
      exact r_iret hx hb hr hlk hK hd hw dX4_best_13
theorem c_X4_best {l : Launch} {γ : Ev} {o : Nat} {σ : Mm} {Bf : Nat → Mm} {r : Int32} {T : Nat → Mm} {x1 : Int32} (hB : isX4 γ o) (h : s_X4_best T x1 = some (r, Bf)) : Ct l yX4_best cX4_best 3 (some .int) 90 3359 γ [.ref (eA γ o), .int x1] (stT σ o T) (some (.int r)) (stT σ o Bf) := Ct.of (own := RX4) (by decide +kernel) rfl (Nat.le_of_ble_eq_true rfl) (fun C hw ls hl => b_X4_best C hB h hw hl)
set_option maxHeartbeats 4000000 in
set_option maxRecDepth 10000 in
theorem b_X4_levels_L14 {γ : Ev} {o : Nat} {σ : Mm} {r : Int32} (C : Cx p R s m args meth c RX4 cX4_levels 3 (some .int) 4 92 γ) (hB : isX4 γ o) : ∀ (n : Nat) {T : Nat → Mm} {x1 : Int32} {x2 : Int32} {H : Heap} {locs : List Loc} {ls : Array Slot}, s_X4_levels_L14 n T x1 x2 = some r → Wo γ (stT σ o T) s H locs → lv_has ls 3 [(0, .ref (eA γ o)), (1, .int x1), (2, .int x2)] → W p l e R s m args below meth c H locs 0 0 (MQ below (Qo γ (some (.int r)) (stT σ o T)) args s 0 0 (AK γ)) (F0 m 14 ls []) := by
  have C0 := C
  obtain ⟨hx, hb, hr, hml, hown, hts, hlk, hK, hd, hF, hL⟩ := C
  intro n
  induction n with
  | zero => intro T x1 x2 H locs ls h; cases h
  | succ n ih =>
    intro T x1 x2 H locs ls h hw hl
    unfold s_X4_levels_L14 at h
    refine lv_iload_n hx hb dX4_levels_14 rfl (lv_at hl 2 rfl) ?_
    refine lv_bipush (v := (6 : Int32)) hx hb dX4_levels_15 (by decide) ?_
    refine lv_icmp_gt (tgt := 60) hx hb dX4_levels_17 (by decide) (fun c3 => ?_) (fun c3 => ?_)
    · replace h := ifp c3 h
      refine lv_sipush (v := (-10005 : Int32)) hx hb dX4_levels_60 (by decide) ?_
      have h1 := Option.some.inj h
      subst h1
      exact r_iret hx hb hr hlk hK hd hw dX4_levels_63
    · replace h := ifn c3 h
      refine lv_aload_n hx hb dX4_levels_20 rfl (lv_at hl 0 rfl) ?_
      refine r_get (v := .ref (eA γ (o + 1))) hx hb hts hK hw hown inX4 rfl (X4_k0 hB) stT_at0 0 (by decide) wd_109 rfl dX4_levels_21 ?_
      obtain ⟨v4, hv4, h⟩ := ob h
      refine r_Vi (rest := []) C0 z0 (c_X0_turn (X4_b1 hB) hv4) lk_X4_70 (X0_k0 (X4_b1 hB)) rfl rfl hl.1 rfl (Nat.le_of_ble_eq_true rfl) (by decide) (Wo.cg stT_b1.symm hw) dX4_levels_24 (fun {H} {locs} hw => ?_)
      replace hw := Wo.cg stT_b1 hw
      refine lv_iload_n hx hb dX4_levels_27 rfl (lv_at hl 1 rfl) ?_
      refine lv_iload_n hx hb dX4_levels_28 rfl (lv_at hl 2 rfl) ?_
      refine lv_imul hx hb dX4_levels_29 ?_
      refine lv_iadd hx hb dX4_levels_30 ?_
      refine lv_if_ne (tgt := 54) hx hb dX4_levels_31 (by decide) (fun c5 => ?_) (fun c5 => ?_)
      · replace h := ifn c5 h
        obtain ⟨v6, ev6, h⟩ := jb h
        refine lv_iinc (v := v6) (lv' := [(2, .int v6), (0, .ref (eA γ o)), (1, .int x1)]) hx hb dX4_levels_54 hl (k := 2) rfl (by rw [← ev6]; rfl) (by decide) rfl (fun ls hl => ?_)
        refine lv_goto (tgt := 14) hx hb dX4_levels_57 (by decide) ?_
        exact ih h hw (lv_sub hl [1, 2, 0] rfl)
      · replace h := ifp c5 h
        refine lv_iload_n hx hb dX4_levels_34 rfl (lv_at hl 2 rfl) ?_
        obtain ⟨v7, hv7, h⟩ := ob h
        refine r_Si (rest := []) C0 z0 (c_X0_isPlace hv7) lk_X4_40 hl.1 rfl (Nat.le_of_ble_eq_true rfl) (by decide) hw dX4_levels_35 (fun {H} {locs} hw => ?_)
        refine lv_if_eq (tgt := 54) hx hb dX4_levels_38 (by decide) (fun c8 => ?_) (fun c8 => ?_)
        · replace h := ifp c8 h
          obtain ⟨v9, ev9, h⟩ := jb h
          refine lv_iinc (v := v9) (lv' := [(2, .int v9), (0, .ref (eA γ o)), (1, .int x1)]) hx hb dX4_levels_54 hl (k := 2) rfl (by rw [← ev9]; rfl) (by decide) rfl (fun ls hl => ?_)
          refine lv_goto (tgt := 14) hx hb dX4_levels_57 (by decide) ?_
          exact ih h hw (lv_sub hl [1, 2, 0] rfl)
        · replace h := ifn c8 h
          refine lv_aload_n hx hb dX4_levels_41 rfl (lv_at hl 0 rfl) ?_
          refine r_get (v := .ref (eA γ (o + 1))) hx hb hts hK hw hown inX4 rfl (X4_k0 hB) stT_at0 0 (by decide) wd_109 rfl dX4_levels_42 ?_
          refine lv_iload_n hx hb dX4_levels_45 rfl (lv_at hl 2 rfl) ?_
          obtain ⟨v10, hv10, h⟩ := ob h
          refine r_Vi (rest := []) C0 z0 (c_X0_isFull (X4_b1 hB) hv10) lk_X4_99 (X0_k0 (X4_b1 hB)) rfl rfl hl.1 rfl (Nat.le_of_ble_eq_true rfl) (by decide) (Wo.cg stT_b1.symm hw) dX4_levels_46 (fun {H} {locs} hw => ?_)
          replace hw := Wo.cg stT_b1 hw
          refine lv_if_ne (tgt := 54) hx hb dX4_levels_49 (by decide) (fun c11 => ?_) (fun c11 => ?_)
          · replace h := ifn c11 h
            obtain ⟨v12, ev12, h⟩ := jb h
            refine lv_iinc (v := v12) (lv' := [(2, .int v12), (0, .ref (eA γ o)), (1, .int x1)]) hx hb dX4_levels_54 hl (k := 2) rfl (by rw [← ev12]; rfl) (by decide) rfl (fun ls hl => ?_)
            refine lv_goto (tgt := 14) hx hb dX4_levels_57 (by decide) ?_
            exact ih h hw (lv_sub hl [1, 2, 0] rfl)
          · replace h := ifp c11 h
            refine lv_iload_n hx hb dX4_levels_52 rfl (lv_at hl 2 rfl) ?_
            have h1 := Option.some.inj h
            subst h1
            exact r_iret hx hb hr hlk hK hd hw dX4_levels_53
set_option maxHeartbeats 4000000 in
set_option maxRecDepth 10000 in
theorem b_X4_levels {γ : Ev} {o : Nat} {σ : Mm} {r : Int32} {T : Nat → Mm} {x1 : Int32} (C : Cx p R s m args meth c RX4 cX4_levels 3 (some .int) 4 92 γ) (hB : isX4 γ o) (h : s_X4_levels T x1 = some r) (hw : Wo γ (stT σ o T) s H locs) (hl : lv_has ls 3 [(0, .ref (eA γ o)), (1, .int x1)]) : W p l e R s m args below meth c H locs 0 0 (MQ below (Qo γ (some (.int r)) (stT σ o T)) args s 0 0 (AK γ)) (F0 m 0 ls []) := by
  have C0 := C
  obtain ⟨hx, hb, hr, hml, hown, hts, hlk, hK, hd, hF, hL⟩ := C
  unfold s_X4_levels at h
  refine lv_iload_n hx hb dX4_levels_0 rfl (lv_at hl 1 rfl) ?_
  obtain ⟨v1, hv1, h⟩ := ob h
  refine r_Si (rest := []) C0 z0 (c_X0_isWeight hv1) lk_X4_36 hl.1 rfl (Nat.le_of_ble_eq_true rfl) (by decide) hw dX4_levels_1 (fun {H} {locs} hw => ?_)
  refine lv_if_ne (tgt := 11) hx hb dX4_levels_4 (by decide) (fun c2 => ?_) (fun c2 => ?_)
  · replace h := ifn c2 h
    refine lv_bipush (v := (-6 : Int32)) hx hb dX4_levels_11 (by decide) ?_
    refine lv_istore_n (lv' := [(2, .int (-6 : Int32)), (0, .ref (eA γ o)), (1, .int x1)]) hx hb dX4_levels_13 rfl hl (by decide) rfl (fun ls hl => ?_)
    exact b_X4_levels_L14 C0 hB 1000 h hw (lv_sub hl [1, 2, 0] rfl)
  · replace h := ifp c2 h
    refine lv_sipush (v := (-10001 : Int32)) hx hb dX4_levels_7 (by decide) ?_
    have h1 := Option.some.inj h
    subst h1
    exact r_iret hx hb hr hlk hK hd hw dX4_levels_10
theorem c_X4_levels {l : Launch} {γ : Ev} {o : Nat} {σ : Mm} {r : Int32} {T : Nat → Mm} {x1 : Int32} (hB : isX4 γ o) (h : s_X4_levels T x1 = some r) : Ct l yX4_levels cX4_levels 3 (some .int) 4 92 γ [.ref (eA γ o), .int x1] (stT σ o T) (some (.int r)) (stT σ o T) := Ct.of (own := RX4) (by decide +kernel) rfl (Nat.le_of_ble_eq_true rfl) (fun C hw ls hl => b_X4_levels C hB h hw hl)
set_option maxHeartbeats 4000000 in
set_option maxRecDepth 10000 in
theorem b_X4_made {γ : Ev} {o : Nat} {σ : Mm} {r : Int32} {T : Nat → Mm} {x1 x2 : Int32} (C : Cx p R s m args meth c RX4 cX4_made 3 (some .int) 4 94 γ) (hB : isX4 γ o) (h : s_X4_made T x1 x2 = some r) (hw : Wo γ (stT σ o T) s H locs) (hl : lv_has ls 3 [(0, .ref (eA γ o)), (1, .int x1), (2, .int x2)]) : W p l e R s m args below meth c H locs 0 0 (MQ below (Qo γ (some (.int r)) (stT σ o T)) args s 0 0 (AK γ)) (F0 m 0 ls []) := by
  have C0 := C
  obtain ⟨hx, hb, hr, hml, hown, hts, hlk, hK, hd, hF, hL⟩ := C
  unfold s_X4_made at h
  refine lv_iload_n hx hb dX4_made_0 rfl (lv_at hl 1 rfl) ?_
  refine lv_if_lt (tgt := 13) hx hb dX4_made_1 (by decide) (fun c1 => ?_) (fun c1 => ?_)
  · replace h := ifp c1 h
    refine lv_sipush (v := (-10002 : Int32)) hx hb dX4_made_13 (by decide) ?_
    have h1 := Option.some.inj h
    subst h1
    exact r_iret hx hb hr hlk hK hd hw dX4_made_16
  · replace h := ifn c1 h
    refine lv_iload_n hx hb dX4_made_4 rfl (lv_at hl 2 rfl) ?_
    refine lv_if_lt (tgt := 13) hx hb dX4_made_5 (by decide) (fun c2 => ?_) (fun c2 => ?_)
    · replace h := ifp c2 h
      refine lv_sipush (v := (-10002 : Int32)) hx hb dX4_made_13 (by decide) ?_
      have h1 := Option.some.inj h
      subst h1
      exact r_iret hx hb hr hlk hK hd hw dX4_made_16
    · replace h := ifn c2 h
      refine lv_iload_n hx hb dX4_made_8 rfl (lv_at hl 2 rfl) ?_
      refine lv_iconst (v := (4 : Int32)) hx hb dX4_made_9 (by decide) ?_
      refine lv_icmp_lt (tgt := 17) hx hb dX4_made_10 (by decide) (fun c3 => ?_) (fun c3 => ?_)
      · replace h := ifp c3 h
        refine lv_aload_n hx hb dX4_made_17 rfl (lv_at hl 0 rfl) ?_
        refine r_get (v := .ref (eA γ (o + 1))) hx hb hts hK hw hown inX4 rfl (X4_k0 hB) stT_at0 0 (by decide) wd_109 rfl dX4_made_18 ?_
        refine lv_iload_n hx hb dX4_made_21 rfl (lv_at hl 1 rfl) ?_
        obtain ⟨v4, hv4, h⟩ := ob h
        refine r_Vi (rest := []) C0 z0 (c_X0_isMoveKept (X4_b1 hB) hv4) lk_X4_166 (X0_k0 (X4_b1 hB)) rfl rfl hl.1 rfl (Nat.le_of_ble_eq_true rfl) (by decide) (Wo.cg stT_b1.symm hw) dX4_made_22 (fun {H} {locs} hw => ?_)
        replace hw := Wo.cg stT_b1 hw
        refine lv_if_eq (tgt := 40) hx hb dX4_made_25 (by decide) (fun c5 => ?_) (fun c5 => ?_)
        · replace h := ifp c5 h
          refine lv_sipush (v := (-10005 : Int32)) hx hb dX4_made_40 (by decide) ?_
          have h1 := Option.some.inj h
          subst h1
          exact r_iret hx hb hr hlk hK hd hw dX4_made_43
        · replace h := ifn c5 h
          refine lv_aload_n hx hb dX4_made_28 rfl (lv_at hl 0 rfl) ?_
          refine r_get (v := .ref (eA γ (o + 1))) hx hb hts hK hw hown inX4 rfl (X4_k0 hB) stT_at0 0 (by decide) wd_109 rfl dX4_made_29 ?_
          refine lv_iload_n hx hb dX4_made_32 rfl (lv_at hl 1 rfl) ?_
          refine lv_iload_n hx hb dX4_made_33 rfl (lv_at hl 2 rfl) ?_
          obtain ⟨v6, hv6, h⟩ := ob h
          refine r_Vi (rest := []) C0 z0 (c_X0_partOfMove (X4_b1 hB) hv6) lk_X4_169 (X0_k0 (X4_b1 hB)) rfl rfl hl.1 rfl (Nat.le_of_ble_eq_true rfl) (by decide) (Wo.cg stT_b1.symm hw) dX4_made_34 (fun {H} {locs} hw => ?_)
          replace hw := Wo.cg stT_b1 hw
          refine lv_goto (tgt := 43) hx hb dX4_made_37 (by decide) ?_
          have h1 := Option.some.inj h
          subst h1
          exact r_iret hx hb hr hlk hK hd hw dX4_made_43
      · replace h := ifn c3 h
        refine lv_sipush (v := (-10002 : Int32)) hx hb dX4_made_13 (by decide) ?_
        have h1 := Option.some.inj h
        subst h1
        exact r_iret hx hb hr hlk hK hd hw dX4_made_16
theorem c_X4_made {l : Launch} {γ : Ev} {o : Nat} {σ : Mm} {r : Int32} {T : Nat → Mm} {x1 x2 : Int32} (hB : isX4 γ o) (h : s_X4_made T x1 x2 = some r) : Ct l yX4_made cX4_made 3 (some .int) 4 94 γ [.ref (eA γ o), .int x1, .int x2] (stT σ o T) (some (.int r)) (stT σ o T) := Ct.of (own := RX4) (by decide +kernel) rfl (Nat.le_of_ble_eq_true rfl) (fun C hw ls hl => b_X4_made C hB h hw hl)
set_option maxHeartbeats 4000000 in
set_option maxRecDepth 10000 in
theorem b_X4_count {γ : Ev} {o : Nat} {σ : Mm} {r : Int32} {T : Nat → Mm} {x1 : Int32} (C : Cx p R s m args meth c RX4 cX4_count 2 (some .int) 7 161 γ) (hB : isX4 γ o) (h : s_X4_count T x1 = some r) (hw : Wo γ (stT σ o T) s H locs) (hl : lv_has ls 2 [(0, .ref (eA γ o)), (1, .int x1)]) : W p l e R s m args below meth c H locs 0 0 (MQ below (Qo γ (some (.int r)) (stT σ o T)) args s 0 0 (AK γ)) (F0 m 0 ls []) := by
  have C0 := C
  obtain ⟨hx, hb, hr, hml, hown, hts, hlk, hK, hd, hF, hL⟩ := C
  unfold s_X4_count at h
  refine lv_iload_n hx hb dX4_count_0 rfl (lv_at hl 1 rfl) ?_
  refine jn_elim h (fun (k : Unit → Option Int32) => ∀ (u : Unit) {H : Heap} {locs : List Loc} {ls : Array Slot}, k u = some r → Wo γ (stT σ o T) s H locs → lv_has ls 2 [(0, .ref (eA γ o)), (1, .int x1)] → W p l e R s m args below meth c H locs 0 0 (MQ below (Qo γ (some (.int r)) (stT σ o T)) args s 0 0 (AK γ)) (F0 m 180 ls [])) ?_ ?_
  · intro u H locs ls h hw hl
    refine lv_aload_n hx hb dX4_count_180 rfl (lv_at hl 0 rfl) ?_
    refine r_get (v := .ref (eA γ (o + 1))) hx hb hts hK hw hown inX4 rfl (X4_k0 hB) stT_at0 0 (by decide) wd_109 rfl dX4_count_181 ?_
    refine lv_iload_n hx hb dX4_count_184 rfl (lv_at hl 1 rfl) ?_
    refine lv_bipush (v := (11 : Int32)) hx hb dX4_count_185 (by decide) ?_
    refine lv_isub hx hb dX4_count_187 ?_
    obtain ⟨v17, hv17, h⟩ := ob h
    refine r_Vi (rest := []) C0 z0 (c_X0_setting (X4_b1 hB) hv17) lk_X4_93 (X0_k0 (X4_b1 hB)) rfl rfl hl.1 rfl (Nat.le_of_ble_eq_true rfl) (by decide) (Wo.cg stT_b1.symm hw) dX4_count_188 (fun {H} {locs} hw => ?_)
    replace hw := Wo.cg stT_b1 hw
    have h1 := Option.some.inj h
    subst h1
    exact r_iret hx hb hr hlk hK hd hw dX4_count_191
  intro k16 J_k16 h
  by_cases c18 : x1 = (0 : Int32)
  · replace h := ifp c18 h
    refine r_tabIn (tgt := 84) (off := 83) hx hb dX4_count_1 c18 (by decide) (by decide) (by decide) (by decide) ?_
    refine lv_aload_n hx hb dX4_count_84 rfl (lv_at hl 0 rfl) ?_
    refine r_get (v := .ref (eA γ (o + 1))) hx hb hts hK hw hown inX4 rfl (X4_k0 hB) stT_at0 0 (by decide) wd_109 rfl dX4_count_85 ?_
    obtain ⟨v19, hv19, h⟩ := ob h
    refine r_Vi (rest := []) C0 z0 (c_X0_side (X4_b1 hB) hv19) lk_X4_172 (X0_k0 (X4_b1 hB)) rfl rfl hl.1 rfl (Nat.le_of_ble_eq_true rfl) (by decide) (Wo.cg stT_b1.symm hw) dX4_count_88 (fun {H} {locs} hw => ?_)
    replace hw := Wo.cg stT_b1 hw
    have h1 := Option.some.inj h
    subst h1
    exact r_iret hx hb hr hlk hK hd hw dX4_count_91
  replace h := ifn c18 h
  by_cases c20 : x1 = (1 : Int32)
  · replace h := ifp c20 h
    refine r_tabIn (tgt := 92) (off := 91) hx hb dX4_count_1 c20 (by decide) (by decide) (by decide) (by decide) ?_
    refine lv_aload_n hx hb dX4_count_92 rfl (lv_at hl 0 rfl) ?_
    refine r_get (v := .ref (eA γ (o + 1))) hx hb hts hK hw hown inX4 rfl (X4_k0 hB) stT_at0 0 (by decide) wd_109 rfl dX4_count_93 ?_
    obtain ⟨v21, hv21, h⟩ := ob h
    refine r_Vi (rest := []) C0 z0 (c_X0_turn (X4_b1 hB) hv21) lk_X4_70 (X0_k0 (X4_b1 hB)) rfl rfl hl.1 rfl (Nat.le_of_ble_eq_true rfl) (by decide) (Wo.cg stT_b1.symm hw) dX4_count_96 (fun {H} {locs} hw => ?_)
    replace hw := Wo.cg stT_b1 hw
    have h1 := Option.some.inj h
    subst h1
    exact r_iret hx hb hr hlk hK hd hw dX4_count_99
  replace h := ifn c20 h
  by_cases c22 : x1 = (2 : Int32)
  · replace h := ifp c22 h
    refine r_tabIn (tgt := 100) (off := 99) hx hb dX4_count_1 c22 (by decide) (by decide) (by decide) (by decide) ?_
    refine lv_aload_n hx hb dX4_count_100 rfl (lv_at hl 0 rfl) ?_
    refine r_get (v := .ref (eA γ (o + 1))) hx hb hts hK hw hown inX4 rfl (X4_k0 hB) stT_at0 0 (by decide) wd_109 rfl dX4_count_101 ?_
    obtain ⟨v23, hv23, h⟩ := ob h
    refine r_Vi (rest := []) C0 z0 (c_X0_outcome (X4_b1 hB) hv23) lk_X4_175 (X0_k0 (X4_b1 hB)) rfl rfl hl.1 rfl (Nat.le_of_ble_eq_true rfl) (by decide) (Wo.cg stT_b1.symm hw) dX4_count_104 (fun {H} {locs} hw => ?_)
    replace hw := Wo.cg stT_b1 hw
    have h1 := Option.some.inj h
    subst h1
    exact r_iret hx hb hr hlk hK hd hw dX4_count_107
  replace h := ifn c22 h
  by_cases c24 : x1 = (3 : Int32)
  · replace h := ifp c24 h
    refine r_tabIn (tgt := 108) (off := 107) hx hb dX4_count_1 c24 (by decide) (by decide) (by decide) (by decide) ?_
    refine lv_aload_n hx hb dX4_count_108 rfl (lv_at hl 0 rfl) ?_
    refine r_get (v := .ref (eA γ (o + 1))) hx hb hts hK hw hown inX4 rfl (X4_k0 hB) stT_at0 0 (by decide) wd_109 rfl dX4_count_109 ?_
    obtain ⟨v25, hv25, h⟩ := ob h
    refine r_Vi (rest := []) C0 z0 (c_X0_moveCount (X4_b1 hB) hv25) lk_X4_178 (X0_k0 (X4_b1 hB)) rfl rfl hl.1 rfl (Nat.le_of_ble_eq_true rfl) (by decide) (Wo.cg stT_b1.symm hw) dX4_count_112 (fun {H} {locs} hw => ?_)
    replace hw := Wo.cg stT_b1 hw
    have h1 := Option.some.inj h
    subst h1
    exact r_iret hx hb hr hlk hK hd hw dX4_count_115
  replace h := ifn c24 h
  by_cases c26 : x1 = (4 : Int32)
  · replace h := ifp c26 h
    refine r_tabIn (tgt := 116) (off := 115) hx hb dX4_count_1 c26 (by decide) (by decide) (by decide) (by decide) ?_
    refine lv_aload_n hx hb dX4_count_116 rfl (lv_at hl 0 rfl) ?_
    refine r_get (v := .ref (eA γ (o + 1))) hx hb hts hK hw hown inX4 rfl (X4_k0 hB) stT_at0 0 (by decide) wd_109 rfl dX4_count_117 ?_
    obtain ⟨v27, hv27, h⟩ := ob h
    refine r_Vi (rest := []) C0 z0 (c_X0_toldByMoves (X4_b1 hB) hv27) lk_X4_181 (X0_k0 (X4_b1 hB)) rfl rfl hl.1 rfl (Nat.le_of_ble_eq_true rfl) (by decide) (Wo.cg stT_b1.symm hw) dX4_count_120 (fun {H} {locs} hw => ?_)
    replace hw := Wo.cg stT_b1 hw
    have h1 := Option.some.inj h
    subst h1
    exact r_iret hx hb hr hlk hK hd hw dX4_count_123
  replace h := ifn c26 h
  by_cases c28 : x1 = (5 : Int32)
  · replace h := ifp c28 h
    refine r_tabIn (tgt := 124) (off := 123) hx hb dX4_count_1 c28 (by decide) (by decide) (by decide) (by decide) ?_
    refine lv_aload_n hx hb dX4_count_124 rfl (lv_at hl 0 rfl) ?_
    refine r_get (v := .ref (eA γ (o + 1))) hx hb hts hK hw hown inX4 rfl (X4_k0 hB) stT_at0 0 (by decide) wd_109 rfl dX4_count_125 ?_
    obtain ⟨v29, hv29, h⟩ := ob h
    refine r_Vi (rest := []) C0 z0 (c_X0_turn (X4_b1 hB) hv29) lk_X4_70 (X0_k0 (X4_b1 hB)) rfl rfl hl.1 rfl (Nat.le_of_ble_eq_true rfl) (by decide) (Wo.cg stT_b1.symm hw) dX4_count_128 (fun {H} {locs} hw => ?_)
    replace hw := Wo.cg stT_b1 hw
    refine lv_aload_n hx hb dX4_count_131 rfl (lv_at hl 0 rfl) ?_
    refine r_get (v := .ref (eA γ (o + 1))) hx hb hts hK hw hown inX4 rfl (X4_k0 hB) stT_at0 0 (by decide) wd_109 rfl dX4_count_132 ?_
    obtain ⟨v30, hv30, h⟩ := ob h
    refine r_Vi (rest := [.int v29]) C0 z0 (c_X0_toldByMoves (X4_b1 hB) hv30) lk_X4_181 (X0_k0 (X4_b1 hB)) rfl rfl hl.1 rfl (Nat.le_of_ble_eq_true rfl) (by decide) (Wo.cg stT_b1.symm hw) dX4_count_135 (fun {H} {locs} hw => ?_)
    replace hw := Wo.cg stT_b1 hw
    refine lv_isub hx hb dX4_count_138 ?_
    have h1 := Option.some.inj h
    subst h1
    exact r_iret hx hb hr hlk hK hd hw dX4_count_139
  replace h := ifn c28 h
  by_cases c31 : x1 = (6 : Int32)
  · replace h := ifp c31 h
    refine r_tabIn (tgt := 140) (off := 139) hx hb dX4_count_1 c31 (by decide) (by decide) (by decide) (by decide) ?_
    refine lv_aload_n hx hb dX4_count_140 rfl (lv_at hl 0 rfl) ?_
    refine r_get (v := .ref (eA γ (o + 1))) hx hb hts hK hw hown inX4 rfl (X4_k0 hB) stT_at0 0 (by decide) wd_109 rfl dX4_count_141 ?_
    obtain ⟨v32, hv32, h⟩ := ob h
    refine r_Vi (rest := []) C0 z0 (c_X0_tokens (X4_b1 hB) hv32) lk_X4_105 (X0_k0 (X4_b1 hB)) rfl rfl hl.1 rfl (Nat.le_of_ble_eq_true rfl) (by decide) (Wo.cg stT_b1.symm hw) dX4_count_144 (fun {H} {locs} hw => ?_)
    replace hw := Wo.cg stT_b1 hw
    have h1 := Option.some.inj h
    subst h1
    exact r_iret hx hb hr hlk hK hd hw dX4_count_147
  replace h := ifn c31 h
  by_cases c33 : x1 = (7 : Int32)
  · replace h := ifp c33 h
    refine r_tabIn (tgt := 148) (off := 147) hx hb dX4_count_1 c33 (by decide) (by decide) (by decide) (by decide) ?_
    refine lv_aload_n hx hb dX4_count_148 rfl (lv_at hl 0 rfl) ?_
    refine r_get (v := .ref (eA γ (o + 1))) hx hb hts hK hw hown inX4 rfl (X4_k0 hB) stT_at0 0 (by decide) wd_109 rfl dX4_count_149 ?_
    obtain ⟨v34, hv34, h⟩ := ob h
    refine r_Vi (rest := []) C0 z0 (c_X0_weights (X4_b1 hB) hv34) lk_X4_184 (X0_k0 (X4_b1 hB)) rfl rfl hl.1 rfl (Nat.le_of_ble_eq_true rfl) (by decide) (Wo.cg stT_b1.symm hw) dX4_count_152 (fun {H} {locs} hw => ?_)
    replace hw := Wo.cg stT_b1 hw
    have h1 := Option.some.inj h
    subst h1
    exact r_iret hx hb hr hlk hK hd hw dX4_count_155
  replace h := ifn c33 h
  by_cases c35 : x1 = (8 : Int32)
  · replace h := ifp c35 h
    refine r_tabIn (tgt := 156) (off := 155) hx hb dX4_count_1 c35 (by decide) (by decide) (by decide) (by decide) ?_
    refine lv_aload_n hx hb dX4_count_156 rfl (lv_at hl 0 rfl) ?_
    refine r_get (v := .ref (eA γ (o + 1))) hx hb hts hK hw hown inX4 rfl (X4_k0 hB) stT_at0 0 (by decide) wd_109 rfl dX4_count_157 ?_
    obtain ⟨v36, hv36, h⟩ := ob h
    refine r_Vi (rest := []) C0 z0 (c_X0_possibleMoves (X4_b1 hB) hv36) lk_X4_187 (X0_k0 (X4_b1 hB)) rfl rfl hl.1 rfl (Nat.le_of_ble_eq_true rfl) (by decide) (Wo.cg stT_b1.symm hw) dX4_count_160 (fun {H} {locs} hw => ?_)
    replace hw := Wo.cg stT_b1 hw
    have h1 := Option.some.inj h
    subst h1
    exact r_iret hx hb hr hlk hK hd hw dX4_count_163
  replace h := ifn c35 h
  by_cases c37 : x1 = (9 : Int32)
  · replace h := ifp c37 h
    refine r_tabIn (tgt := 164) (off := 163) hx hb dX4_count_1 c37 (by decide) (by decide) (by decide) (by decide) ?_
    refine lv_aload_n hx hb dX4_count_164 rfl (lv_at hl 0 rfl) ?_
    refine r_get (v := .ref (eA γ (o + 1))) hx hb hts hK hw hown inX4 rfl (X4_k0 hB) stT_at0 0 (by decide) wd_109 rfl dX4_count_165 ?_
    obtain ⟨v38, hv38, h⟩ := ob h
    refine r_Vi (rest := []) C0 z0 (c_X0_safeMoves (X4_b1 hB) hv38) lk_X4_190 (X0_k0 (X4_b1 hB)) rfl rfl hl.1 rfl (Nat.le_of_ble_eq_true rfl) (by decide) (Wo.cg stT_b1.symm hw) dX4_count_168 (fun {H} {locs} hw => ?_)
    replace hw := Wo.cg stT_b1 hw
    have h1 := Option.some.inj h
    subst h1
    exact r_iret hx hb hr hlk hK hd hw dX4_count_171
  replace h := ifn c37 h
  by_cases c39 : x1 = (10 : Int32)
  · replace h := ifp c39 h
    refine r_tabIn (tgt := 172) (off := 171) hx hb dX4_count_1 c39 (by decide) (by decide) (by decide) (by decide) ?_
    refine lv_aload_n hx hb dX4_count_172 rfl (lv_at hl 0 rfl) ?_
    refine r_get (v := .ref (eA γ (o + 1))) hx hb hts hK hw hown inX4 rfl (X4_k0 hB) stT_at0 0 (by decide) wd_109 rfl dX4_count_173 ?_
    obtain ⟨v40, hv40, h⟩ := ob h
    refine r_Vi (rest := []) C0 z0 (c_X0_greatestTurn (X4_b1 hB) hv40) lk_X4_193 (X0_k0 (X4_b1 hB)) rfl rfl hl.1 rfl (Nat.le_of_ble_eq_true rfl) (by decide) (Wo.cg stT_b1.symm hw) dX4_count_176 (fun {H} {locs} hw => ?_)
    replace hw := Wo.cg stT_b1 hw
    have h1 := Option.some.inj h
    subst h1
    exact r_iret hx hb hr hlk hK hd hw dX4_count_179
  replace h := ifn c39 h
  by_cases c41 : x1 = (11 : Int32)
  · replace h := ifp c41 h
    refine r_tabIn (tgt := 180) (off := 179) hx hb dX4_count_1 c41 (by decide) (by decide) (by decide) (by decide) ?_
    exact J_k16 () h hw (lv_sub hl [0, 1] rfl)
  replace h := ifn c41 h
  by_cases c42 : x1 = (12 : Int32)
  · replace h := ifp c42 h
    refine r_tabIn (tgt := 180) (off := 179) hx hb dX4_count_1 c42 (by decide) (by decide) (by decide) (by decide) ?_
    exact J_k16 () h hw (lv_sub hl [0, 1] rfl)
  replace h := ifn c42 h
  by_cases c43 : x1 = (13 : Int32)
  · replace h := ifp c43 h
    refine r_tabIn (tgt := 180) (off := 179) hx hb dX4_count_1 c43 (by decide) (by decide) (by decide) (by decide) ?_
    exact J_k16 () h hw (lv_sub hl [0, 1] rfl)
  replace h := ifn c43 h
  by_cases c44 : x1 = (14 : Int32)
  · replace h := ifp c44 h
    refine r_tabIn (tgt := 180) (off := 179) hx hb dX4_count_1 c44 (by decide) (by decide) (by decide) (by decide) ?_
    exact J_k16 () h hw (lv_sub hl [0, 1] rfl)
  replace h := ifn c44 h
  by_cases c45 : x1 = (15 : Int32)
  · replace h := ifp c45 h
    refine r_tabIn (tgt := 192) (off := 191) hx hb dX4_count_1 c45 (by decide) (by decide) (by decide) (by decide) ?_
    refine lv_aload_n hx hb dX4_count_192 rfl (lv_at hl 0 rfl) ?_
    refine r_get (v := .ref (eA γ (o + 19))) hx hb hts hK hw hown inX4 rfl (X4_k0 hB) stT_at0 3 (by decide) wd_112 rfl dX4_count_193 ?_
    obtain ⟨v46, hv46, h⟩ := ob h
    refine r_Vi (rest := []) C0 z0 (c_X1_size hB hv46) lk_X4_145 (X1_k0 (X4_b4 hB)) rfl rfl hl.1 rfl (Nat.le_of_ble_eq_true rfl) (by decide) hw dX4_count_196 (fun {H} {locs} hw => ?_)
    have h1 := Option.some.inj h
    subst h1
    exact r_iret hx hb hr hlk hK hd hw dX4_count_199
  replace h := ifn c45 h
  by_cases c47 : x1 = (16 : Int32)
  · replace h := ifp c47 h
    refine r_tabIn (tgt := 200) (off := 199) hx hb dX4_count_1 c47 (by decide) (by decide) (by decide) (by decide) ?_
    refine lv_aload_n hx hb dX4_count_200 rfl (lv_at hl 0 rfl) ?_
    refine r_get (v := .ref (eA γ (o + 45))) hx hb hts hK hw hown inX4 rfl (X4_k0 hB) stT_at0 4 (by decide) wd_113 rfl dX4_count_201 ?_
    obtain ⟨v48, hv48, h⟩ := ob h
    refine r_Vi (rest := []) C0 z0 (c_X2_length (X4_b9 hB) hv48) lk_X4_115 (X2_k0 (X4_b9 hB)) rfl rfl hl.1 rfl (Nat.le_of_ble_eq_true rfl) (by decide) (Wo.cg stT_b9.symm hw) dX4_count_204 (fun {H} {locs} hw => ?_)
    replace hw := Wo.cg stT_b9 hw
    have h1 := Option.some.inj h
    subst h1
    exact r_iret hx hb hr hlk hK hd hw dX4_count_207
  replace h := ifn c47 h
  refine lv_tableOut (tgt := 208) hx hb dX4_count_1 (by have q0 := i32_ne (z := 0) rfl c18; have q1 := i32_ne (z := 1) rfl c20; have q2 := i32_ne (z := 2) rfl c22; have q3 := i32_ne (z := 3) rfl c24; have q4 := i32_ne (z := 4) rfl c26; have q5 := i32_ne (z := 5) rfl c28; have q6 := i32_ne (z := 6) rfl c31; have q7 := i32_ne (z := 7) rfl c33; have q8 := i32_ne (z := 8) rfl c35; have q9 := i32_ne (z := 9) rfl c37; have q10 := i32_ne (z := 10) rfl c39; have q11 := i32_ne (z := 11) rfl c41; have q12 := i32_ne (z := 12) rfl c42; have q13 := i32_ne (z := 13) rfl c43; have q14 := i32_ne (z := 14) rfl c44; have q15 := i32_ne (z := 15) rfl c45; have q16 := i32_ne (z := 16) rfl c47; omega) (by decide) ?_
  refine lv_sipush (v := (-10002 : Int32)) hx hb dX4_count_208 (by decide) ?_
  have h1 := Option.some.inj h
  subst h1
  exact r_iret hx hb hr hlk hK hd hw dX4_count_211
theorem c_X4_count {l : Launch} {γ : Ev} {o : Nat} {σ : Mm} {r : Int32} {T : Nat → Mm} {x1 : Int32} (hB : isX4 γ o) (h : s_X4_count T x1 = some r) : Ct l yX4_count cX4_count 2 (some .int) 7 161 γ [.ref (eA γ o), .int x1] (stT σ o T) (some (.int r)) (stT σ o T) := Ct.of (own := RX4) (by decide +kernel) rfl (Nat.le_of_ble_eq_true rfl) (fun C hw ls hl => b_X4_count C hB h hw hl)
set_option maxHeartbeats 4000000 in
set_option maxRecDepth 10000 in
theorem b_X0_init_L66 {γ : Ev} {o : Nat} {σ : Mm} {Bf : Mm} {cells slots : Nat} {Q : State → Prop} (C : Cx p R s m args meth c RX0 cX0_init 2 none 20 600 γ) (hcs : cells ≤ R.cells ∧ slots ≤ R.slots) (hB : isX0 γ o) (kk : ∀ {H : Heap} {locs : List Loc} {ls : Array Slot}, Wo γ (st 6 σ o Bf) s H locs → W p l e R s m args below meth c H locs cells slots Q (F0 m 103 ls [])) : ∀ (n : Nat) {B : Mm} {x1 : Int32} {H : Heap} {locs : List Loc} {ls : Array Slot}, s_X0_init_L66 n B x1 = some Bf → Wo γ (st 6 σ o B) s H locs → lv_has ls 2 [(0, .ref (eA γ o)), (1, .int x1)] → W p l e R s m args below meth c H locs cells slots Q (F0 m 66 ls []) := by
  have C0 := C
  obtain ⟨hx, hb, hr, hml, hown, hts, hlk, hK, hd, hF, hL⟩ := C
  intro n
  induction n with
  | zero => intro B x1 H locs ls h; cases h
  | succ n ih =>
    intro B x1 H locs ls h hw hl
    unfold s_X0_init_L66 at h
    refine lv_iload_n hx hb dX0_init_66 rfl (lv_at hl 1 rfl) ?_
    refine lv_aload_n hx hb dX0_init_67 rfl (lv_at hl 0 rfl) ?_
    refine r_get (v := .ref (eA γ (o + 3))) hx hb hts hK hw hown inX0 rfl (X0_k0 hB) (st_at0 (by decide)) 2 (by decide) wd_29 rfl dX0_init_68 ?_
    refine r_alen hx hb hK hw (X0_k3 hB) (12 : Int32) (by decide) dX0_init_71 ?_
    refine lv_icmp_ge (tgt := 103) hx hb dX0_init_72 (by decide) (fun c4 => ?_) (fun c4 => ?_)
    · replace h := ifp c4 h
      have h1 := Option.some.inj h
      subst h1
      exact kk hw
    · replace h := ifn c4 h
      refine lv_aload_n hx hb dX0_init_75 rfl (lv_at hl 0 rfl) ?_
      refine r_get (v := .ref (eA γ (o + 3))) hx hb hts hK hw hown inX0 rfl (X0_k0 hB) (st_at0 (by decide)) 2 (by decide) wd_29 rfl dX0_init_76 ?_
      refine lv_iload_n hx hb dX0_init_79 rfl (lv_at hl 1 rfl) ?_
      refine lv_iload_n hx hb dX0_init_80 rfl (lv_at hl 1 rfl) ?_
      refine lv_if_eq (tgt := 90) hx hb dX0_init_81 (by decide) (fun c5 => ?_) (fun c5 => ?_)
      · replace h := ifp c5 h
        refine lv_bipush (v := (10 : Int32)) hx hb dX0_init_90 (by decide) ?_
        refine lv_goto (tgt := 96) hx hb dX0_init_92 (by decide) ?_
        obtain ⟨N6, hN6, h⟩ := ob h
        refine r_iast hx hb hK hd hw (by decide) (X0_k3 hB) hN6 dX0_init_96 (fun {H} {locs} hw => ?_)
        obtain ⟨v7, ev7, h⟩ := jb h
        refine lv_iinc (v := v7) (lv' := [(1, .int v7), (0, .ref (eA γ o))]) hx hb dX0_init_97 hl (k := 1) rfl (by rw [← ev7]; rfl) (by decide) rfl (fun ls hl => ?_)
        refine lv_goto (tgt := 66) hx hb dX0_init_100 (by decide) ?_
        exact ih h hw (lv_sub hl [1, 0] rfl)
      · replace h := ifn c5 h
        refine lv_iload_n hx hb dX0_init_84 rfl (lv_at hl 1 rfl) ?_
        refine lv_bipush (v := (6 : Int32)) hx hb dX0_init_85 (by decide) ?_
        refine lv_icmp_ne (tgt := 95) hx hb dX0_init_87 (by decide) (fun c8 => ?_) (fun c8 => ?_)
        · replace h := ifn c8 h
          refine lv_iconst (v := (2 : Int32)) hx hb dX0_init_95 (by decide) ?_
          obtain ⟨N9, hN9, h⟩ := ob h
          refine r_iast hx hb hK hd hw (by decide) (X0_k3 hB) hN9 dX0_init_96 (fun {H} {locs} hw => ?_)
          obtain ⟨v10, ev10, h⟩ := jb h
          refine lv_iinc (v := v10) (lv' := [(1, .int v10), (0, .ref (eA γ o))]) hx hb dX0_init_97 hl (k := 1) rfl (by rw [← ev10]; rfl) (by decide) rfl (fun ls hl => ?_)
          refine lv_goto (tgt := 66) hx hb dX0_init_100 (by decide) ?_
          exact ih h hw (lv_sub hl [1, 0] rfl)
        · replace h := ifp c8 h
          refine lv_bipush (v := (10 : Int32)) hx hb dX0_init_90 (by decide) ?_
          refine lv_goto (tgt := 96) hx hb dX0_init_92 (by decide) ?_
          obtain ⟨N11, hN11, h⟩ := ob h
          refine r_iast hx hb hK hd hw (by decide) (X0_k3 hB) hN11 dX0_init_96 (fun {H} {locs} hw => ?_)
          obtain ⟨v12, ev12, h⟩ := jb h
          refine lv_iinc (v := v12) (lv' := [(1, .int v12), (0, .ref (eA γ o))]) hx hb dX0_init_97 hl (k := 1) rfl (by rw [← ev12]; rfl) (by decide) rfl (fun ls hl => ?_)
          refine lv_goto (tgt := 66) hx hb dX0_init_100 (by decide) ?_
          exact ih h hw (lv_sub hl [1, 0] rfl)
set_option maxHeartbeats 4000000 in
set_option maxRecDepth 10000 in
theorem b_X0_initT {γ : Ev} {o : Nat} {σ : Mm} {Bf : Mm} {cells slots : Nat} {Q : State → Prop} {B : Mm} (C : Cx p R s m args meth c RX0 cX0_init 2 none 20 600 γ) (hcs : cells ≤ R.cells ∧ slots ≤ R.slots) (hB : isX0 γ o) (h : s_X0_initT B = some Bf) (hw : Wo γ (st 6 σ o B) s H locs) (hl : lv_has ls 2 [(0, .ref (eA γ o))]) (kk : ∀ {H : Heap} {locs : List Loc} {ls : Array Slot}, Wo γ (st 6 σ o Bf) s H locs → W p l e R s m args below meth c H locs cells slots Q (F0 m 103 ls [])) : W p l e R s m args below meth c H locs cells slots Q (F0 m 44 ls []) := by
  have C0 := C
  obtain ⟨hx, hb, hr, hml, hown, hts, hlk, hK, hd, hF, hL⟩ := C
  unfold s_X0_initT at h
  refine lv_aload_n hx hb dX0_init_44 rfl (lv_at hl 0 rfl) ?_
  refine lv_iconst (v := (1 : Int32)) hx hb dX0_init_45 (by decide) ?_
  obtain ⟨N1, hN1, h⟩ := ob h
  refine r_put (x := (1 : Int32)) (ty := .int) hx hb hts hK hd hw hown inX0 tyX0 tyX0_ok nmX0 rfl (by decide) (X0_k0 hB) 6 (by decide) wd_33 rfl rfl rfl rfl (fun _ => (Nat.le_of_ble_eq_true rfl)) (fun _ => rfl) hN1 dX0_init_46 (fun {H} {locs} hw => ?_)
  refine lv_aload_n hx hb dX0_init_49 rfl (lv_at hl 0 rfl) ?_
  refine r_get (v := .ref (eA γ (o + 4))) hx hb hts hK hw hown inX0 rfl (X0_k0 hB) (st_at0 (by decide)) 3 (by decide) wd_30 rfl dX0_init_50 ?_
  refine lv_iconst (v := (0 : Int32)) hx hb dX0_init_53 (by decide) ?_
  refine lv_iconst (v := (2 : Int32)) hx hb dX0_init_54 (by decide) ?_
  obtain ⟨N2, hN2, h⟩ := ob h
  refine r_iast hx hb hK hd hw (by decide) (X0_k4 hB) hN2 dX0_init_55 (fun {H} {locs} hw => ?_)
  refine lv_aload_n hx hb dX0_init_56 rfl (lv_at hl 0 rfl) ?_
  refine r_get (v := .ref (eA γ (o + 4))) hx hb hts hK hw hown inX0 rfl (X0_k0 hB) (st_at0 (by decide)) 3 (by decide) wd_30 rfl dX0_init_57 ?_
  refine lv_iconst (v := (1 : Int32)) hx hb dX0_init_60 (by decide) ?_
  refine lv_bipush (v := (8 : Int32)) hx hb dX0_init_61 (by decide) ?_
  obtain ⟨N3, hN3, h⟩ := ob h
  refine r_iast hx hb hK hd hw (by decide) (X0_k4 hB) hN3 dX0_init_63 (fun {H} {locs} hw => ?_)
  refine lv_iconst (v := (0 : Int32)) hx hb dX0_init_64 (by decide) ?_
  refine lv_istore_n (lv' := [(1, .int (0 : Int32)), (0, .ref (eA γ o))]) hx hb dX0_init_65 rfl hl (by decide) rfl (fun ls hl => ?_)
  exact b_X0_init_L66 C0 hcs hB kk 1000 h hw (lv_sub hl [1, 0] rfl)
end
