section
variable {p : Program} {l : Launch} {e : Env} {R : Room} {s : State} {m : MethodId} {args : Array Value} {below : List Frame} {meth : Method} {c : Code} {H : Heap} {locs : List Loc} {ls : Array Slot}
set_option maxHeartbeats 4000000 in
set_option maxRecDepth 10000 in
theorem b_X5_setBag {γ : Ev} {o : Nat} {σ : Mm} {Bf : Mm} {r : Int32} {Z : Mm} {x1 x2 x3 : Int32} (C : Cx p R s m args meth c RX5 cX5_setBag 5 (some .int) 3 74 γ) (hB : isX5 γ o) (h : s_X5_setBag Z x1 x2 x3 = some (r, Bf)) (hw : Wo γ (st 10 σ o Z) s H locs) (hl : lv_has ls 5 [(0, .ref (eA γ o)), (1, .int x1), (2, .int x2), (3, .int x3)]) : W p l e R s m args below meth c H locs 0 0 (MQ below (Qo γ (some (.int r)) (st 10 σ o Bf)) args s 0 0 (AK γ)) (F0 m 0 ls []) := by
  have C0 := C
  obtain ⟨hx, hb, hr, hml, hown, hts, hlk, hK, hd, hF, hL⟩ := C
  unfold s_X5_setBag at h
  refine lv_iload_n hx hb dX5_setBag_0 rfl (lv_at hl 1 rfl) ?_
  obtain ⟨v1, hv1, h⟩ := ob h
  refine r_Si (rest := []) C0 z0 (c_X5_isSide hv1) lk_X5_168 hl.1 rfl (Nat.le_of_ble_eq_true rfl) (by decide) hw dX5_setBag_1 (fun {H} {locs} hw => ?_)
  refine lv_if_eq (tgt := 14) hx hb dX5_setBag_4 (by decide) (fun c2 => ?_) (fun c2 => ?_)
  · replace h := ifp c2 h
    refine lv_sipush (v := (-10001 : Int32)) hx hb dX5_setBag_14 (by decide) ?_
    obtain ⟨h1, h2⟩ := s2 h
    subst h1
    subst h2
    exact r_iret hx hb hr hlk hK hd hw dX5_setBag_17
  · replace h := ifn c2 h
    refine lv_iload_n hx hb dX5_setBag_7 rfl (lv_at hl 2 rfl) ?_
    obtain ⟨v3, hv3, h⟩ := ob h
    refine r_Si (rest := []) C0 z0 (c_X5_isWeight hv3) lk_X5_123 hl.1 rfl (Nat.le_of_ble_eq_true rfl) (by decide) hw dX5_setBag_8 (fun {H} {locs} hw => ?_)
    refine lv_if_ne (tgt := 18) hx hb dX5_setBag_11 (by decide) (fun c4 => ?_) (fun c4 => ?_)
    · replace h := ifn c4 h
      refine lv_iload_n hx hb dX5_setBag_18 rfl (lv_at hl 3 rfl) ?_
      refine lv_iconst (v := (0 : Int32)) hx hb dX5_setBag_19 (by decide) ?_
      refine lv_bipush (v := (6 : Int32)) hx hb dX5_setBag_20 (by decide) ?_
      obtain ⟨v5, hv5, h⟩ := ob h
      refine r_Si (rest := []) C0 z0 (c_X5_in hv5) lk_X5_49 hl.1 rfl (Nat.le_of_ble_eq_true rfl) (by decide) hw dX5_setBag_22 (fun {H} {locs} hw => ?_)
      refine lv_if_ne (tgt := 32) hx hb dX5_setBag_25 (by decide) (fun c6 => ?_) (fun c6 => ?_)
      · replace h := ifn c6 h
        refine lv_aload_n hx hb dX5_setBag_32 rfl (lv_at hl 0 rfl) ?_
        refine lv_iload_n hx hb dX5_setBag_33 rfl (lv_at hl 1 rfl) ?_
        refine lv_iload_n hx hb dX5_setBag_34 rfl (lv_at hl 2 rfl) ?_
        obtain ⟨v7, hv7, h⟩ := ob h
        refine r_Vi (rest := []) C0 z0 (c_X5_inBag hB hv7) lk_X5_57 (X5_k0 hB) rfl rfl hl.1 rfl (Nat.le_of_ble_eq_true rfl) (by decide) hw dX5_setBag_35 (fun {H} {locs} hw => ?_)
        refine lv_istore (lv' := [(4, .int v7), (0, .ref (eA γ o)), (1, .int x1), (2, .int x2), (3, .int x3)]) hx hb dX5_setBag_38 hl (by decide) rfl (fun ls hl => ?_)
        refine lv_iload hx hb dX5_setBag_40 (lv_at hl 0 rfl) ?_
        refine lv_iload_n hx hb dX5_setBag_42 rfl (lv_at hl 4 rfl) ?_
        refine lv_icmp_ne (tgt := 50) hx hb dX5_setBag_43 (by decide) (fun c8 => ?_) (fun c8 => ?_)
        · replace h := ifn c8 h
          refine lv_aload_n hx hb dX5_setBag_50 rfl (lv_at hl 1 rfl) ?_
          obtain ⟨N9, hN9, h⟩ := ob h
          refine r_Vv (rest := []) C0 z0 (c_X5_record hB hN9) lk_X5_81 (X5_k0 hB) rfl rfl hl.1 rfl (Nat.le_of_ble_eq_true rfl) (by decide) hw dX5_setBag_51 (fun {H} {locs} hw => ?_)
          refine lv_aload_n hx hb dX5_setBag_54 rfl (lv_at hl 1 rfl) ?_
          refine r_get (v := .ref (eA γ (o + 1))) hx hb hts hK hw hown inX5 rfl (X5_k0 hB) (st_at0 (by decide)) 0 (by decide) wd_573 rfl dX5_setBag_55 ?_
          refine lv_aload_n hx hb dX5_setBag_58 rfl (lv_at hl 1 rfl) ?_
          refine lv_iload_n hx hb dX5_setBag_59 rfl (lv_at hl 2 rfl) ?_
          refine lv_iload_n hx hb dX5_setBag_60 rfl (lv_at hl 3 rfl) ?_
          obtain ⟨v10, hv10, h⟩ := ob h
          refine r_Vi (rest := [.ref (eA γ (o + 1))]) C0 z0 (c_X5_bagAt hB hv10) lk_X5_53 (X5_k0 hB) rfl rfl hl.1 rfl (Nat.le_of_ble_eq_true rfl) (by decide) hw dX5_setBag_61 (fun {H} {locs} hw => ?_)
          refine lv_iload_n hx hb dX5_setBag_64 rfl (lv_at hl 4 rfl) ?_
          obtain ⟨N11, hN11, h⟩ := ob h
          refine r_iast hx hb hK hd hw (by decide) (X5_k1 hB) hN11 dX5_setBag_65 (fun {H} {locs} hw => ?_)
          refine lv_iload hx hb dX5_setBag_66 (lv_at hl 0 rfl) ?_
          obtain ⟨h1, h2⟩ := s2 h
          subst h1
          subst h2
          exact r_iret hx hb hr hlk hK hd hw dX5_setBag_68
        · replace h := ifp c8 h
          refine lv_sipush (v := (-10005 : Int32)) hx hb dX5_setBag_46 (by decide) ?_
          obtain ⟨h1, h2⟩ := s2 h
          subst h1
          subst h2
          exact r_iret hx hb hr hlk hK hd hw dX5_setBag_49
      · replace h := ifp c6 h
        refine lv_sipush (v := (-10002 : Int32)) hx hb dX5_setBag_28 (by decide) ?_
        obtain ⟨h1, h2⟩ := s2 h
        subst h1
        subst h2
        exact r_iret hx hb hr hlk hK hd hw dX5_setBag_31
    · replace h := ifp c4 h
      refine lv_sipush (v := (-10001 : Int32)) hx hb dX5_setBag_14 (by decide) ?_
      obtain ⟨h1, h2⟩ := s2 h
      subst h1
      subst h2
      exact r_iret hx hb hr hlk hK hd hw dX5_setBag_17
theorem c_X5_setBag {l : Launch} {γ : Ev} {o : Nat} {σ : Mm} {Bf : Mm} {r : Int32} {Z : Mm} {x1 x2 x3 : Int32} (hB : isX5 γ o) (h : s_X5_setBag Z x1 x2 x3 = some (r, Bf)) : Ct l yX5_setBag cX5_setBag 5 (some .int) 3 74 γ [.ref (eA γ o), .int x1, .int x2, .int x3] (st 10 σ o Z) (some (.int r)) (st 10 σ o Bf) := Ct.of (own := RX5) (by decide +kernel) rfl (Nat.le_of_ble_eq_true rfl) (fun C hw ls hl => b_X5_setBag C hB h hw hl)
set_option maxHeartbeats 4000000 in
set_option maxRecDepth 10000 in
theorem b_X5_isValue {γ : Ev} {μ : Mm} {r : Int32} {x0 x1 : Int32} (C : Cx p R s m args meth c RX5 cX5_isValue 2 (some .boolean) 2 52 γ) (h : s_X5_isValue x0 x1 = some r) (hw : Wo γ μ s H locs) (hl : lv_has ls 2 [(0, .int x0), (1, .int x1)]) : W p l e R s m args below meth c H locs 0 0 (MQ below (Qo γ (some (.int r)) μ) args s 0 0 (AK γ)) (F0 m 0 ls []) := by
  have C0 := C
  obtain ⟨hx, hb, hr, hml, hown, hts, hlk, hK, hd, hF, hL⟩ := C
  unfold s_X5_isValue at h
  refine lv_iload_n hx hb dX5_isValue_0 rfl (lv_at hl 0 rfl) ?_
  refine lv_if_ne (tgt := 13) hx hb dX5_isValue_1 (by decide) (fun c1 => ?_) (fun c1 => ?_)
  · replace h := ifn c1 h
    refine lv_iload_n hx hb dX5_isValue_13 rfl (lv_at hl 0 rfl) ?_
    refine lv_iconst (v := (1 : Int32)) hx hb dX5_isValue_14 (by decide) ?_
    refine lv_icmp_ne (tgt := 28) hx hb dX5_isValue_15 (by decide) (fun c2 => ?_) (fun c2 => ?_)
    · replace h := ifn c2 h
      refine lv_iload_n hx hb dX5_isValue_28 rfl (lv_at hl 1 rfl) ?_
      refine lv_iconst (v := (0 : Int32)) hx hb dX5_isValue_29 (by decide) ?_
      refine lv_iconst (v := (1 : Int32)) hx hb dX5_isValue_30 (by decide) ?_
      obtain ⟨v3, hv3, h⟩ := ob h
      refine r_Si (rest := []) C0 z0 (c_X5_in hv3) lk_X5_49 hl.1 rfl (Nat.le_of_ble_eq_true rfl) (by decide) hw dX5_isValue_31 (fun {H} {locs} hw => ?_)
      obtain ⟨v4, hv4, h⟩ := ob h
      have ev4 := (bo_some hv4).2
      have nv4 := bo_narrow hv4
      rw [← ev4] at nv4 h
      have h1 := Option.some.inj h
      subst h1
      exact r_zret hx hb hr hlk hK hd hw nv4 dX5_isValue_34
    · replace h := ifp c2 h
      refine lv_iload_n hx hb dX5_isValue_18 rfl (lv_at hl 1 rfl) ?_
      refine lv_iconst (v := (0 : Int32)) hx hb dX5_isValue_19 (by decide) ?_
      refine lv_bipush (v := (40 : Int32)) hx hb dX5_isValue_20 (by decide) ?_
      obtain ⟨v5, hv5, h⟩ := ob h
      refine r_Si (rest := []) C0 z0 (c_X5_in hv5) lk_X5_49 hl.1 rfl (Nat.le_of_ble_eq_true rfl) (by decide) hw dX5_isValue_22 (fun {H} {locs} hw => ?_)
      refine lv_goto (tgt := 34) hx hb dX5_isValue_25 (by decide) ?_
      obtain ⟨v6, hv6, h⟩ := ob h
      have ev6 := (bo_some hv6).2
      have nv6 := bo_narrow hv6
      rw [← ev6] at nv6 h
      have h1 := Option.some.inj h
      subst h1
      exact r_zret hx hb hr hlk hK hd hw nv6 dX5_isValue_34
  · replace h := ifp c1 h
    refine lv_iload_n hx hb dX5_isValue_4 rfl (lv_at hl 1 rfl) ?_
    refine lv_iconst (v := (1 : Int32)) hx hb dX5_isValue_5 (by decide) ?_
    refine lv_iconst (v := (4 : Int32)) hx hb dX5_isValue_6 (by decide) ?_
    obtain ⟨v7, hv7, h⟩ := ob h
    refine r_Si (rest := []) C0 z0 (c_X5_in hv7) lk_X5_49 hl.1 rfl (Nat.le_of_ble_eq_true rfl) (by decide) hw dX5_isValue_7 (fun {H} {locs} hw => ?_)
    refine lv_goto (tgt := 34) hx hb dX5_isValue_10 (by decide) ?_
    obtain ⟨v8, hv8, h⟩ := ob h
    have ev8 := (bo_some hv8).2
    have nv8 := bo_narrow hv8
    rw [← ev8] at nv8 h
    have h1 := Option.some.inj h
    subst h1
    exact r_zret hx hb hr hlk hK hd hw nv8 dX5_isValue_34
theorem c_X5_isValue {l : Launch} {γ : Ev} {μ : Mm} {r : Int32} {x0 x1 : Int32} (h : s_X5_isValue x0 x1 = some r) : Ct l yX5_isValue cX5_isValue 2 (some .boolean) 2 52 γ [.int x0, .int x1] μ (some (.int r)) μ := Ct.of (own := RX5) (by decide +kernel) rfl (Nat.le_of_ble_eq_true rfl) (fun C hw ls hl => b_X5_isValue C h hw hl)
set_option maxHeartbeats 4000000 in
set_option maxRecDepth 10000 in
theorem b_X5_set {γ : Ev} {o : Nat} {σ : Mm} {Bf : Mm} {r : Int32} {Z : Mm} {x1 x2 : Int32} (C : Cx p R s m args meth c RX5 cX5_set 4 (some .int) 3 73 γ) (hB : isX5 γ o) (h : s_X5_set Z x1 x2 = some (r, Bf)) (hw : Wo γ (st 10 σ o Z) s H locs) (hl : lv_has ls 4 [(0, .ref (eA γ o)), (1, .int x1), (2, .int x2)]) : W p l e R s m args below meth c H locs 0 0 (MQ below (Qo γ (some (.int r)) (st 10 σ o Bf)) args s 0 0 (AK γ)) (F0 m 0 ls []) := by
  have C0 := C
  obtain ⟨hx, hb, hr, hml, hown, hts, hlk, hK, hd, hF, hL⟩ := C
  unfold s_X5_set at h
  refine lv_iload_n hx hb dX5_set_0 rfl (lv_at hl 1 rfl) ?_
  refine lv_iconst (v := (0 : Int32)) hx hb dX5_set_1 (by decide) ?_
  refine lv_iconst (v := (3 : Int32)) hx hb dX5_set_2 (by decide) ?_
  obtain ⟨v1, hv1, h⟩ := ob h
  refine r_Si (rest := []) C0 z0 (c_X5_in hv1) lk_X5_49 hl.1 rfl (Nat.le_of_ble_eq_true rfl) (by decide) hw dX5_set_3 (fun {H} {locs} hw => ?_)
  refine lv_if_ne (tgt := 13) hx hb dX5_set_6 (by decide) (fun c2 => ?_) (fun c2 => ?_)
  · replace h := ifn c2 h
    refine lv_iload_n hx hb dX5_set_13 rfl (lv_at hl 1 rfl) ?_
    refine lv_iload_n hx hb dX5_set_14 rfl (lv_at hl 2 rfl) ?_
    obtain ⟨v3, hv3, h⟩ := ob h
    refine r_Si (rest := []) C0 z0 (c_X5_isValue hv3) lk_X5_171 hl.1 rfl (Nat.le_of_ble_eq_true rfl) (by decide) hw dX5_set_15 (fun {H} {locs} hw => ?_)
    refine lv_if_ne (tgt := 25) hx hb dX5_set_18 (by decide) (fun c4 => ?_) (fun c4 => ?_)
    · replace h := ifn c4 h
      refine lv_aload_n hx hb dX5_set_25 rfl (lv_at hl 0 rfl) ?_
      refine r_get (v := .ref (eA γ (o + 1))) hx hb hts hK hw hown inX5 rfl (X5_k0 hB) (st_at0 (by decide)) 0 (by decide) wd_573 rfl dX5_set_26 ?_
      refine lv_iload_n hx hb dX5_set_29 rfl (lv_at hl 1 rfl) ?_
      obtain ⟨v5, hv5, h⟩ := ob h
      refine r_iald hx hb hK hw (X5_k1 hB) (st_at (by decide)) hv5 dX5_set_30 ?_
      refine lv_istore_n (lv' := [(3, .int v5), (0, .ref (eA γ o)), (1, .int x1), (2, .int x2)]) hx hb dX5_set_31 rfl hl (by decide) rfl (fun ls hl => ?_)
      refine lv_iload_n hx hb dX5_set_32 rfl (lv_at hl 0 rfl) ?_
      refine lv_iload_n hx hb dX5_set_33 rfl (lv_at hl 3 rfl) ?_
      refine lv_icmp_ne (tgt := 41) hx hb dX5_set_34 (by decide) (fun c6 => ?_) (fun c6 => ?_)
      · replace h := ifn c6 h
        refine lv_aload_n hx hb dX5_set_41 rfl (lv_at hl 1 rfl) ?_
        obtain ⟨N7, hN7, h⟩ := ob h
        refine r_Vv (rest := []) C0 z0 (c_X5_record hB hN7) lk_X5_81 (X5_k0 hB) rfl rfl hl.1 rfl (Nat.le_of_ble_eq_true rfl) (by decide) hw dX5_set_42 (fun {H} {locs} hw => ?_)
        refine lv_aload_n hx hb dX5_set_45 rfl (lv_at hl 1 rfl) ?_
        refine r_get (v := .ref (eA γ (o + 1))) hx hb hts hK hw hown inX5 rfl (X5_k0 hB) (st_at0 (by decide)) 0 (by decide) wd_573 rfl dX5_set_46 ?_
        refine lv_iload_n hx hb dX5_set_49 rfl (lv_at hl 2 rfl) ?_
        refine lv_iload_n hx hb dX5_set_50 rfl (lv_at hl 3 rfl) ?_
        obtain ⟨N8, hN8, h⟩ := ob h
        refine r_iast hx hb hK hd hw (by decide) (X5_k1 hB) hN8 dX5_set_51 (fun {H} {locs} hw => ?_)
        refine lv_iload_n hx hb dX5_set_52 rfl (lv_at hl 0 rfl) ?_
        obtain ⟨h1, h2⟩ := s2 h
        subst h1
        subst h2
        exact r_iret hx hb hr hlk hK hd hw dX5_set_53
      · replace h := ifp c6 h
        refine lv_sipush (v := (-10005 : Int32)) hx hb dX5_set_37 (by decide) ?_
        obtain ⟨h1, h2⟩ := s2 h
        subst h1
        subst h2
        exact r_iret hx hb hr hlk hK hd hw dX5_set_40
    · replace h := ifp c4 h
      refine lv_sipush (v := (-10002 : Int32)) hx hb dX5_set_21 (by decide) ?_
      obtain ⟨h1, h2⟩ := s2 h
      subst h1
      subst h2
      exact r_iret hx hb hr hlk hK hd hw dX5_set_24
  · replace h := ifp c2 h
    refine lv_sipush (v := (-10001 : Int32)) hx hb dX5_set_9 (by decide) ?_
    obtain ⟨h1, h2⟩ := s2 h
    subst h1
    subst h2
    exact r_iret hx hb hr hlk hK hd hw dX5_set_12
theorem c_X5_set {l : Launch} {γ : Ev} {o : Nat} {σ : Mm} {Bf : Mm} {r : Int32} {Z : Mm} {x1 x2 : Int32} (hB : isX5 γ o) (h : s_X5_set Z x1 x2 = some (r, Bf)) : Ct l yX5_set cX5_set 4 (some .int) 3 73 γ [.ref (eA γ o), .int x1, .int x2] (st 10 σ o Z) (some (.int r)) (st 10 σ o Bf) := Ct.of (own := RX5) (by decide +kernel) rfl (Nat.le_of_ble_eq_true rfl) (fun C hw ls hl => b_X5_set C hB h hw hl)
set_option maxHeartbeats 4000000 in
set_option maxRecDepth 10000 in
theorem b_X5_setUp {γ : Ev} {o : Nat} {σ : Mm} {Bf : Mm} {r : Int32} {Z : Mm} {x1 x2 : Int32} (C : Cx p R s m args meth c RX5 cX5_setUp 3 (some .int) 3 73 γ) (hB : isX5 γ o) (h : s_X5_setUp Z x1 x2 = some (r, Bf)) (hw : Wo γ (st 10 σ o Z) s H locs) (hl : lv_has ls 3 [(0, .ref (eA γ o)), (1, .int x1), (2, .int x2)]) : W p l e R s m args below meth c H locs 0 0 (MQ below (Qo γ (some (.int r)) (st 10 σ o Bf)) args s 0 0 (AK γ)) (F0 m 0 ls []) := by
  have C0 := C
  obtain ⟨hx, hb, hr, hml, hown, hts, hlk, hK, hd, hF, hL⟩ := C
  unfold s_X5_setUp at h
  refine lv_iload_n hx hb dX5_setUp_0 rfl (lv_at hl 1 rfl) ?_
  obtain ⟨v1, hv1, h⟩ := ob h
  refine r_Si (rest := []) C0 z0 (c_X5_isWeight hv1) lk_X5_123 hl.1 rfl (Nat.le_of_ble_eq_true rfl) (by decide) hw dX5_setUp_1 (fun {H} {locs} hw => ?_)
  refine lv_if_eq (tgt := 14) hx hb dX5_setUp_4 (by decide) (fun c2 => ?_) (fun c2 => ?_)
  · replace h := ifp c2 h
    refine lv_sipush (v := (-10001 : Int32)) hx hb dX5_setUp_14 (by decide) ?_
    obtain ⟨h1, h2⟩ := s2 h
    subst h1
    subst h2
    exact r_iret hx hb hr hlk hK hd hw dX5_setUp_17
  · replace h := ifn c2 h
    refine lv_iload_n hx hb dX5_setUp_7 rfl (lv_at hl 2 rfl) ?_
    obtain ⟨v3, hv3, h⟩ := ob h
    refine r_Si (rest := []) C0 z0 (c_X5_isPlace hv3) lk_X5_100 hl.1 rfl (Nat.le_of_ble_eq_true rfl) (by decide) hw dX5_setUp_8 (fun {H} {locs} hw => ?_)
    refine lv_if_ne (tgt := 18) hx hb dX5_setUp_11 (by decide) (fun c4 => ?_) (fun c4 => ?_)
    · replace h := ifn c4 h
      refine lv_aload_n hx hb dX5_setUp_18 rfl (lv_at hl 0 rfl) ?_
      refine lv_iload_n hx hb dX5_setUp_19 rfl (lv_at hl 2 rfl) ?_
      obtain ⟨v5, hv5, h⟩ := ob h
      refine r_Vi (rest := []) C0 z0 (c_X5_many hB hv5) lk_X5_64 (X5_k0 hB) rfl rfl hl.1 rfl (Nat.le_of_ble_eq_true rfl) (by decide) hw dX5_setUp_20 (fun {H} {locs} hw => ?_)
      refine lv_aload_n hx hb dX5_setUp_23 rfl (lv_at hl 0 rfl) ?_
      refine r_get (v := .ref (eA γ (o + 1))) hx hb hts hK hw hown inX5 rfl (X5_k0 hB) (st_at0 (by decide)) 0 (by decide) wd_573 rfl dX5_setUp_24 ?_
      refine lv_iconst (v := (0 : Int32)) hx hb dX5_setUp_27 (by decide) ?_
      obtain ⟨v6, hv6, h⟩ := ob h
      refine r_iald hx hb hK hw (X5_k1 hB) (st_at (by decide)) hv6 dX5_setUp_28 ?_
      refine lv_icmp_lt (tgt := 36) hx hb dX5_setUp_29 (by decide) (fun c7 => ?_) (fun c7 => ?_)
      · replace h := ifp c7 h
        refine lv_aload_n hx hb dX5_setUp_36 rfl (lv_at hl 0 rfl) ?_
        obtain ⟨N8, hN8, h⟩ := ob h
        refine r_Vv (rest := []) C0 z0 (c_X5_record hB hN8) lk_X5_81 (X5_k0 hB) rfl rfl hl.1 rfl (Nat.le_of_ble_eq_true rfl) (by decide) hw dX5_setUp_37 (fun {H} {locs} hw => ?_)
        refine lv_aload_n hx hb dX5_setUp_40 rfl (lv_at hl 0 rfl) ?_
        refine lv_iload_n hx hb dX5_setUp_41 rfl (lv_at hl 2 rfl) ?_
        refine lv_iload_n hx hb dX5_setUp_42 rfl (lv_at hl 1 rfl) ?_
        obtain ⟨N9, hN9, h⟩ := ob h
        refine r_Vv (rest := []) C0 z0 (c_X5_put hB hN9) lk_X5_107 (X5_k0 hB) rfl rfl hl.1 rfl (Nat.le_of_ble_eq_true rfl) (by decide) hw dX5_setUp_43 (fun {H} {locs} hw => ?_)
        refine lv_aload_n hx hb dX5_setUp_46 rfl (lv_at hl 0 rfl) ?_
        refine r_get (v := .ref (eA γ (o + 1))) hx hb hts hK hw hown inX5 rfl (X5_k0 hB) (st_at0 (by decide)) 0 (by decide) wd_573 rfl dX5_setUp_47 ?_
        refine lv_bipush (v := (8 : Int32)) hx hb dX5_setUp_50 (by decide) ?_
        refine lv_dup2_11 hx hb dX5_setUp_52 rfl rfl ?_
        obtain ⟨v10, hv10, h⟩ := ob h
        refine r_iald hx hb hK hw (X5_k1 hB) (st_at (by decide)) hv10 dX5_setUp_53 ?_
        refine lv_iload_n hx hb dX5_setUp_54 rfl (lv_at hl 1 rfl) ?_
        refine lv_iload_n hx hb dX5_setUp_55 rfl (lv_at hl 2 rfl) ?_
        refine lv_imul hx hb dX5_setUp_56 ?_
        refine lv_iadd hx hb dX5_setUp_57 ?_
        obtain ⟨N11, hN11, h⟩ := ob h
        refine r_iast hx hb hK hd hw (by decide) (X5_k1 hB) hN11 dX5_setUp_58 (fun {H} {locs} hw => ?_)
        refine lv_aload_n hx hb dX5_setUp_59 rfl (lv_at hl 0 rfl) ?_
        refine r_get (v := .ref (eA γ (o + 1))) hx hb hts hK hw hown inX5 rfl (X5_k0 hB) (st_at0 (by decide)) 0 (by decide) wd_573 rfl dX5_setUp_60 ?_
        refine lv_iconst (v := (5 : Int32)) hx hb dX5_setUp_63 (by decide) ?_
        obtain ⟨v12, hv12, h⟩ := ob h
        refine r_iald hx hb hK hw (X5_k1 hB) (st_at (by decide)) hv12 dX5_setUp_64 ?_
        obtain ⟨h1, h2⟩ := s2 h
        subst h1
        subst h2
        exact r_iret hx hb hr hlk hK hd hw dX5_setUp_65
      · replace h := ifn c7 h
        refine lv_sipush (v := (-10003 : Int32)) hx hb dX5_setUp_32 (by decide) ?_
        obtain ⟨h1, h2⟩ := s2 h
        subst h1
        subst h2
        exact r_iret hx hb hr hlk hK hd hw dX5_setUp_35
    · replace h := ifp c4 h
      refine lv_sipush (v := (-10001 : Int32)) hx hb dX5_setUp_14 (by decide) ?_
      obtain ⟨h1, h2⟩ := s2 h
      subst h1
      subst h2
      exact r_iret hx hb hr hlk hK hd hw dX5_setUp_17
theorem c_X5_setUp {l : Launch} {γ : Ev} {o : Nat} {σ : Mm} {Bf : Mm} {r : Int32} {Z : Mm} {x1 x2 : Int32} (hB : isX5 γ o) (h : s_X5_setUp Z x1 x2 = some (r, Bf)) : Ct l yX5_setUp cX5_setUp 3 (some .int) 3 73 γ [.ref (eA γ o), .int x1, .int x2] (st 10 σ o Z) (some (.int r)) (st 10 σ o Bf) := Ct.of (own := RX5) (by decide +kernel) rfl (Nat.le_of_ble_eq_true rfl) (fun C hw ls hl => b_X5_setUp C hB h hw hl)
set_option maxHeartbeats 4000000 in
set_option maxRecDepth 10000 in
theorem b_X5_begin_L33 {γ : Ev} {o : Nat} {σ : Mm} {Bf : Mm} {r : Int32} (C : Cx p R s m args meth c RX5 cX5_begin 3 (some .int) 4 93 γ) (hB : isX5 γ o) : ∀ (n : Nat) {Z : Mm} {x1 : Int32} {x2 : Int32} {H : Heap} {locs : List Loc} {ls : Array Slot}, s_X5_begin_L33 n Z x1 x2 = some (r, Bf) → Wo γ (st 10 σ o Z) s H locs → lv_has ls 3 [(0, .ref (eA γ o)), (1, .int x1), (2, .int x2)] → W p l e R s m args below meth c H locs 0 0 (MQ below (Qo γ (some (.int r)) (st 10 σ o Bf)) args s 0 0 (AK γ)) (F0 m 33 ls []) := by
  have C0 := C
  obtain ⟨hx, hb, hr, hml, hown, hts, hlk, hK, hd, hF, hL⟩ := C
  intro n
  induction n with
  | zero => intro Z x1 x2 H locs ls h; cases h
  | succ n ih =>
    intro Z x1 x2 H locs ls h hw hl
    unfold s_X5_begin_L33 at h
    refine lv_iload_n hx hb dX5_begin_33 rfl (lv_at hl 2 rfl) ?_
    refine lv_sipush (v := (243 : Int32)) hx hb dX5_begin_34 (by decide) ?_
    refine lv_icmp_ge (tgt := 53) hx hb dX5_begin_37 (by decide) (fun c4 => ?_) (fun c4 => ?_)
    · replace h := ifp c4 h
      refine lv_aload_n hx hb dX5_begin_53 rfl (lv_at hl 0 rfl) ?_
      refine r_get (v := .ref (eA γ (o + 1))) hx hb hts hK hw hown inX5 rfl (X5_k0 hB) (st_at0 (by decide)) 0 (by decide) wd_573 rfl dX5_begin_54 ?_
      refine lv_bipush (v := (10 : Int32)) hx hb dX5_begin_57 (by decide) ?_
      refine lv_iconst (v := (1 : Int32)) hx hb dX5_begin_59 (by decide) ?_
      obtain ⟨N5, hN5, h⟩ := ob h
      refine r_iast hx hb hK hd hw (by decide) (X5_k1 hB) hN5 dX5_begin_60 (fun {H} {locs} hw => ?_)
      refine lv_iload_n hx hb dX5_begin_61 rfl (lv_at hl 1 rfl) ?_
      obtain ⟨h1, h2⟩ := s2 h
      subst h1
      subst h2
      exact r_iret hx hb hr hlk hK hd hw dX5_begin_62
    · replace h := ifn c4 h
      refine lv_aload_n hx hb dX5_begin_40 rfl (lv_at hl 0 rfl) ?_
      refine r_get (v := .ref (eA γ (o + 1))) hx hb hts hK hw hown inX5 rfl (X5_k0 hB) (st_at0 (by decide)) 0 (by decide) wd_573 rfl dX5_begin_41 ?_
      refine lv_iload_n hx hb dX5_begin_44 rfl (lv_at hl 2 rfl) ?_
      refine lv_iconst (v := (0 : Int32)) hx hb dX5_begin_45 (by decide) ?_
      obtain ⟨N6, hN6, h⟩ := ob h
      refine r_iast hx hb hK hd hw (by decide) (X5_k1 hB) hN6 dX5_begin_46 (fun {H} {locs} hw => ?_)
      obtain ⟨v7, ev7, h⟩ := jb h
      refine lv_iinc (v := v7) (lv' := [(2, .int v7), (0, .ref (eA γ o)), (1, .int x1)]) hx hb dX5_begin_47 hl (k := 2) rfl (by rw [← ev7]; rfl) (by decide) rfl (fun ls hl => ?_)
      refine lv_goto (tgt := 33) hx hb dX5_begin_50 (by decide) ?_
      exact ih h hw (lv_sub hl [1, 2, 0] rfl)
set_option maxHeartbeats 4000000 in
set_option maxRecDepth 10000 in
theorem b_X5_begin_L11 {γ : Ev} {o : Nat} {σ : Mm} {Bf : Mm} {r : Int32} (C : Cx p R s m args meth c RX5 cX5_begin 3 (some .int) 4 93 γ) (hB : isX5 γ o) : ∀ (n : Nat) {Z : Mm} {x1 : Int32} {x2 : Int32} {H : Heap} {locs : List Loc} {ls : Array Slot}, s_X5_begin_L11 n Z x1 x2 = some (r, Bf) → Wo γ (st 10 σ o Z) s H locs → lv_has ls 3 [(0, .ref (eA γ o)), (1, .int x1), (2, .int x2)] → W p l e R s m args below meth c H locs 0 0 (MQ below (Qo γ (some (.int r)) (st 10 σ o Bf)) args s 0 0 (AK γ)) (F0 m 11 ls []) := by
  have C0 := C
  obtain ⟨hx, hb, hr, hml, hown, hts, hlk, hK, hd, hF, hL⟩ := C
  intro n
  induction n with
  | zero => intro Z x1 x2 H locs ls h; cases h
  | succ n ih =>
    intro Z x1 x2 H locs ls h hw hl
    unfold s_X5_begin_L11 at h
    refine lv_iload_n hx hb dX5_begin_11 rfl (lv_at hl 2 rfl) ?_
    refine lv_bipush (v := (13 : Int32)) hx hb dX5_begin_12 (by decide) ?_
    refine lv_icmp_ge (tgt := 30) hx hb dX5_begin_14 (by decide) (fun c3 => ?_) (fun c3 => ?_)
    · replace h := ifp c3 h
      refine lv_bipush (v := (23 : Int32)) hx hb dX5_begin_30 (by decide) ?_
      refine lv_istore_n (lv' := [(2, .int (23 : Int32)), (0, .ref (eA γ o)), (1, .int x1)]) hx hb dX5_begin_32 rfl hl (by decide) rfl (fun ls hl => ?_)
      exact b_X5_begin_L33 C0 hB 1000 h hw (lv_sub hl [1, 2, 0] rfl)
    · replace h := ifn c3 h
      refine lv_aload_n hx hb dX5_begin_17 rfl (lv_at hl 0 rfl) ?_
      refine r_get (v := .ref (eA γ (o + 1))) hx hb hts hK hw hown inX5 rfl (X5_k0 hB) (st_at0 (by decide)) 0 (by decide) wd_573 rfl dX5_begin_18 ?_
      refine lv_iload_n hx hb dX5_begin_21 rfl (lv_at hl 2 rfl) ?_
      refine lv_iconst (v := (0 : Int32)) hx hb dX5_begin_22 (by decide) ?_
      obtain ⟨N8, hN8, h⟩ := ob h
      refine r_iast hx hb hK hd hw (by decide) (X5_k1 hB) hN8 dX5_begin_23 (fun {H} {locs} hw => ?_)
      obtain ⟨v9, ev9, h⟩ := jb h
      refine lv_iinc (v := v9) (lv' := [(2, .int v9), (0, .ref (eA γ o)), (1, .int x1)]) hx hb dX5_begin_24 hl (k := 2) rfl (by rw [← ev9]; rfl) (by decide) rfl (fun ls hl => ?_)
      refine lv_goto (tgt := 11) hx hb dX5_begin_27 (by decide) ?_
      exact ih h hw (lv_sub hl [1, 2, 0] rfl)
set_option maxHeartbeats 4000000 in
set_option maxRecDepth 10000 in
theorem b_X5_begin {γ : Ev} {o : Nat} {σ : Mm} {Bf : Mm} {r : Int32} {Z : Mm} (C : Cx p R s m args meth c RX5 cX5_begin 3 (some .int) 4 93 γ) (hB : isX5 γ o) (h : s_X5_begin Z = some (r, Bf)) (hw : Wo γ (st 10 σ o Z) s H locs) (hl : lv_has ls 3 [(0, .ref (eA γ o))]) : W p l e R s m args below meth c H locs 0 0 (MQ below (Qo γ (some (.int r)) (st 10 σ o Bf)) args s 0 0 (AK γ)) (F0 m 0 ls []) := by
  have C0 := C
  obtain ⟨hx, hb, hr, hml, hown, hts, hlk, hK, hd, hF, hL⟩ := C
  unfold s_X5_begin at h
  refine lv_aload_n hx hb dX5_begin_0 rfl (lv_at hl 0 rfl) ?_
  obtain ⟨N1, hN1, h⟩ := ob h
  refine r_Vv (rest := []) C0 z0 (c_X5_record hB hN1) lk_X5_81 (X5_k0 hB) rfl rfl hl.1 rfl (Nat.le_of_ble_eq_true rfl) (by decide) hw dX5_begin_1 (fun {H} {locs} hw => ?_)
  refine lv_aload_n hx hb dX5_begin_4 rfl (lv_at hl 0 rfl) ?_
  obtain ⟨v2, hv2, h⟩ := ob h
  refine r_Vi (rest := []) C0 z0 (c_X5_tokens hB hv2) lk_X5_77 (X5_k0 hB) rfl rfl hl.1 rfl (Nat.le_of_ble_eq_true rfl) (by decide) hw dX5_begin_5 (fun {H} {locs} hw => ?_)
  refine lv_istore_n (lv' := [(1, .int v2), (0, .ref (eA γ o))]) hx hb dX5_begin_8 rfl hl (by decide) rfl (fun ls hl => ?_)
  refine lv_iconst (v := (4 : Int32)) hx hb dX5_begin_9 (by decide) ?_
  refine lv_istore_n (lv' := [(2, .int (4 : Int32)), (1, .int v2), (0, .ref (eA γ o))]) hx hb dX5_begin_10 rfl hl (by decide) rfl (fun ls hl => ?_)
  exact b_X5_begin_L11 C0 hB 1000 h hw (lv_sub hl [2, 1, 0] rfl)
theorem c_X5_begin {l : Launch} {γ : Ev} {o : Nat} {σ : Mm} {Bf : Mm} {r : Int32} {Z : Mm} (hB : isX5 γ o) (h : s_X5_begin Z = some (r, Bf)) : Ct l yX5_begin cX5_begin 3 (some .int) 4 93 γ [.ref (eA γ o)] (st 10 σ o Z) (some (.int r)) (st 10 σ o Bf) := Ct.of (own := RX5) (by decide +kernel) rfl (Nat.le_of_ble_eq_true rfl) (fun C hw ls hl => b_X5_begin C hB h hw hl)
set_option maxHeartbeats 4000000 in
set_option maxRecDepth 10000 in
theorem b_X5_type {γ : Ev} {o : Nat} {σ : Mm} {Bf : Mm} {r : Int32} {Z : Mm} {x1 : Int32} (C : Cx p R s m args meth c RX5 cX5_type 2 (some .int) 1 30 γ) (hB : isX5 γ o) (h : s_X5_type Z x1 = some (r, Bf)) (hw : Wo γ (st 10 σ o Z) s H locs) (hl : lv_has ls 2 [(0, .ref (eA γ o)), (1, .int x1)]) : W p l e R s m args below meth c H locs 0 0 (MQ below (Qo γ (some (.int r)) (st 10 σ o Bf)) args s 0 0 (AK γ)) (F0 m 0 ls []) := by
  have C0 := C
  obtain ⟨hx, hb, hr, hml, hown, hts, hlk, hK, hd, hF, hL⟩ := C
  unfold s_X5_type at h
  refine lv_aload_n hx hb dX5_type_0 rfl (lv_at hl 0 rfl) ?_
  refine r_get (v := .int (Z 0 7)) hx hb hts hK hw hown inX5 rfl (X5_k0 hB) (st_at0 (by decide)) 7 (by decide) wd_580 rfl dX5_type_1 ?_
  refine lv_bipush (v := (60 : Int32)) hx hb dX5_type_4 (by decide) ?_
  refine lv_icmp_ne (tgt := 13) hx hb dX5_type_6 (by decide) (fun c1 => ?_) (fun c1 => ?_)
  · replace h := ifn c1 h
    refine lv_aload_n hx hb dX5_type_13 rfl (lv_at hl 0 rfl) ?_
    refine r_get (v := .ref (eA γ (o + 5))) hx hb hts hK hw hown inX5 rfl (X5_k0 hB) (st_at0 (by decide)) 6 (by decide) wd_579 rfl dX5_type_14 ?_
    refine lv_aload_n hx hb dX5_type_17 rfl (lv_at hl 0 rfl) ?_
    refine r_get (v := .int (Z 0 7)) hx hb hts hK hw hown inX5 rfl (X5_k0 hB) (st_at0 (by decide)) 7 (by decide) wd_580 rfl dX5_type_18 ?_
    refine lv_iload_n hx hb dX5_type_21 rfl (lv_at hl 1 rfl) ?_
    obtain ⟨N2, hN2, h⟩ := ob h
    refine r_cast hx hb hK hd hw (by decide) (X5_k5 hB) hN2 dX5_type_22 (fun {H} {locs} hw => ?_)
    refine lv_aload_n hx hb dX5_type_23 rfl (lv_at hl 0 rfl) ?_
    refine lv_dup hx hb dX5_type_24 rfl ?_
    refine r_get (v := .int (N2 0 7)) hx hb hts hK hw hown inX5 rfl (X5_k0 hB) (st_at0 (by decide)) 7 (by decide) wd_580 rfl dX5_type_25 ?_
    refine lv_iconst (v := (1 : Int32)) hx hb dX5_type_28 (by decide) ?_
    refine lv_iadd hx hb dX5_type_29 ?_
    obtain ⟨N3, hN3, h⟩ := ob h
    refine r_put (x := ((N2 0 7) + (1 : Int32))) (ty := .int) hx hb hts hK hd hw hown inX5 tyX5 tyX5_ok nmX5 rfl (by decide) (X5_k0 hB) 7 (by decide) wd_580 rfl rfl rfl rfl (fun _ => (Nat.le_of_ble_eq_true rfl)) (fun _ => rfl) hN3 dX5_type_30 (fun {H} {locs} hw => ?_)
    refine lv_aload_n hx hb dX5_type_33 rfl (lv_at hl 0 rfl) ?_
    refine r_get (v := .int (N3 0 7)) hx hb hts hK hw hown inX5 rfl (X5_k0 hB) (st_at0 (by decide)) 7 (by decide) wd_580 rfl dX5_type_34 ?_
    obtain ⟨h1, h2⟩ := s2 h
    subst h1
    subst h2
    exact r_iret hx hb hr hlk hK hd hw dX5_type_37
  · replace h := ifp c1 h
    refine lv_sipush (v := (-10003 : Int32)) hx hb dX5_type_9 (by decide) ?_
    obtain ⟨h1, h2⟩ := s2 h
    subst h1
    subst h2
    exact r_iret hx hb hr hlk hK hd hw dX5_type_12
theorem c_X5_type {l : Launch} {γ : Ev} {o : Nat} {σ : Mm} {Bf : Mm} {r : Int32} {Z : Mm} {x1 : Int32} (hB : isX5 γ o) (h : s_X5_type Z x1 = some (r, Bf)) : Ct l yX5_type cX5_type 2 (some .int) 1 30 γ [.ref (eA γ o), .int x1] (st 10 σ o Z) (some (.int r)) (st 10 σ o Bf) := Ct.of (own := RX5) (by decide +kernel) rfl (Nat.le_of_ble_eq_true rfl) (fun C hw ls hl => b_X5_type C hB h hw hl)
set_option maxHeartbeats 4000000 in
set_option maxRecDepth 10000 in
theorem b_X5_clearText {γ : Ev} {o : Nat} {σ : Mm} {Bf : Mm} {r : Int32} {Z : Mm} (C : Cx p R s m args meth c RX5 cX5_clearText 2 (some .int) 1 30 γ) (hB : isX5 γ o) (h : s_X5_clearText Z = some (r, Bf)) (hw : Wo γ (st 10 σ o Z) s H locs) (hl : lv_has ls 2 [(0, .ref (eA γ o))]) : W p l e R s m args below meth c H locs 0 0 (MQ below (Qo γ (some (.int r)) (st 10 σ o Bf)) args s 0 0 (AK γ)) (F0 m 0 ls []) := by
  have C0 := C
  obtain ⟨hx, hb, hr, hml, hown, hts, hlk, hK, hd, hF, hL⟩ := C
  unfold s_X5_clearText at h
  refine lv_aload_n hx hb dX5_clearText_0 rfl (lv_at hl 0 rfl) ?_
  refine r_get (v := .int (Z 0 7)) hx hb hts hK hw hown inX5 rfl (X5_k0 hB) (st_at0 (by decide)) 7 (by decide) wd_580 rfl dX5_clearText_1 ?_
  obtain ⟨v1, ev1, h⟩ := jb h
  refine r_top ev1 ?_
  refine lv_istore_n (lv' := [(1, .int v1), (0, .ref (eA γ o))]) hx hb dX5_clearText_4 rfl hl (by decide) rfl (fun ls hl => ?_)
  refine lv_aload_n hx hb dX5_clearText_5 rfl (lv_at hl 1 rfl) ?_
  refine lv_iconst (v := (0 : Int32)) hx hb dX5_clearText_6 (by decide) ?_
  obtain ⟨N2, hN2, h⟩ := ob h
  refine r_put (x := (0 : Int32)) (ty := .int) hx hb hts hK hd hw hown inX5 tyX5 tyX5_ok nmX5 rfl (by decide) (X5_k0 hB) 7 (by decide) wd_580 rfl rfl rfl rfl (fun _ => (Nat.le_of_ble_eq_true rfl)) (fun _ => rfl) hN2 dX5_clearText_7 (fun {H} {locs} hw => ?_)
  refine lv_iload_n hx hb dX5_clearText_10 rfl (lv_at hl 0 rfl) ?_
  obtain ⟨h1, h2⟩ := s2 h
  subst h1
  subst h2
  exact r_iret hx hb hr hlk hK hd hw dX5_clearText_11
theorem c_X5_clearText {l : Launch} {γ : Ev} {o : Nat} {σ : Mm} {Bf : Mm} {r : Int32} {Z : Mm} (hB : isX5 γ o) (h : s_X5_clearText Z = some (r, Bf)) : Ct l yX5_clearText cX5_clearText 2 (some .int) 1 30 γ [.ref (eA γ o)] (st 10 σ o Z) (some (.int r)) (st 10 σ o Bf) := Ct.of (own := RX5) (by decide +kernel) rfl (Nat.le_of_ble_eq_true rfl) (fun C hw ls hl => b_X5_clearText C hB h hw hl)
set_option maxHeartbeats 4000000 in
set_option maxRecDepth 10000 in
theorem b_X5_letter {γ : Ev} {o : Nat} {σ : Mm} {r : Int32} {Z : Mm} (C : Cx p R s m args meth c RX5 cX5_letter 1 (some .int) 1 30 γ) (hB : isX5 γ o) (h : s_X5_letter Z = some r) (hw : Wo γ (st 10 σ o Z) s H locs) (hl : lv_has ls 1 [(0, .ref (eA γ o))]) : W p l e R s m args below meth c H locs 0 0 (MQ below (Qo γ (some (.int r)) (st 10 σ o Z)) args s 0 0 (AK γ)) (F0 m 0 ls []) := by
  have C0 := C
  obtain ⟨hx, hb, hr, hml, hown, hts, hlk, hK, hd, hF, hL⟩ := C
  unfold s_X5_letter at h
  refine lv_aload_n hx hb dX5_letter_0 rfl (lv_at hl 0 rfl) ?_
  refine r_get (v := .int (Z 0 15)) hx hb hts hK hw hown inX5 rfl (X5_k0 hB) (st_at0 (by decide)) 15 (by decide) wd_588 rfl dX5_letter_1 ?_
  refine lv_aload_n hx hb dX5_letter_4 rfl (lv_at hl 0 rfl) ?_
  refine r_get (v := .int (Z 0 7)) hx hb hts hK hw hown inX5 rfl (X5_k0 hB) (st_at0 (by decide)) 7 (by decide) wd_580 rfl dX5_letter_5 ?_
  refine lv_icmp_ge (tgt := 23) hx hb dX5_letter_8 (by decide) (fun c1 => ?_) (fun c1 => ?_)
  · replace h := ifp c1 h
    refine lv_sipush (v := (-10005 : Int32)) hx hb dX5_letter_23 (by decide) ?_
    have h1 := Option.some.inj h
    subst h1
    exact r_iret hx hb hr hlk hK hd hw dX5_letter_26
  · replace h := ifn c1 h
    refine lv_aload_n hx hb dX5_letter_11 rfl (lv_at hl 0 rfl) ?_
    refine r_get (v := .ref (eA γ (o + 5))) hx hb hts hK hw hown inX5 rfl (X5_k0 hB) (st_at0 (by decide)) 6 (by decide) wd_579 rfl dX5_letter_12 ?_
    refine lv_aload_n hx hb dX5_letter_15 rfl (lv_at hl 0 rfl) ?_
    refine r_get (v := .int (Z 0 15)) hx hb hts hK hw hown inX5 rfl (X5_k0 hB) (st_at0 (by decide)) 15 (by decide) wd_588 rfl dX5_letter_16 ?_
    obtain ⟨v2, hv2, h⟩ := ob h
    refine r_cald hx hb hK hw (X5_k5 hB) (st_at (by decide)) hv2 dX5_letter_19 ?_
    refine lv_goto (tgt := 26) hx hb dX5_letter_20 (by decide) ?_
    have h1 := Option.some.inj h
    subst h1
    exact r_iret hx hb hr hlk hK hd hw dX5_letter_26
theorem c_X5_letter {l : Launch} {γ : Ev} {o : Nat} {σ : Mm} {r : Int32} {Z : Mm} (hB : isX5 γ o) (h : s_X5_letter Z = some r) : Ct l yX5_letter cX5_letter 1 (some .int) 1 30 γ [.ref (eA γ o)] (st 10 σ o Z) (some (.int r)) (st 10 σ o Z) := Ct.of (own := RX5) (by decide +kernel) rfl (Nat.le_of_ble_eq_true rfl) (fun C hw ls hl => b_X5_letter C hB h hw hl)
set_option maxHeartbeats 4000000 in
set_option maxRecDepth 10000 in
theorem b_X5_wants {γ : Ev} {o : Nat} {σ : Mm} {Bf : Mm} {Z : Mm} {x1 : Int32} (C : Cx p R s m args meth c RX5 cX5_wants 2 none 1 30 γ) (hB : isX5 γ o) (h : s_X5_wants Z x1 = some Bf) (hw : Wo γ (st 10 σ o Z) s H locs) (hl : lv_has ls 2 [(0, .ref (eA γ o)), (1, .int x1)]) : W p l e R s m args below meth c H locs 0 0 (MQ below (Qo γ none (st 10 σ o Bf)) args s 0 0 (AK γ)) (F0 m 0 ls []) := by
  have C0 := C
  obtain ⟨hx, hb, hr, hml, hown, hts, hlk, hK, hd, hF, hL⟩ := C
  unfold s_X5_wants at h
  refine lv_aload_n hx hb dX5_wants_0 rfl (lv_at hl 0 rfl) ?_
  refine r_get (v := .int (Z 0 16)) hx hb hts hK hw hown inX5 rfl (X5_k0 hB) (st_at0 (by decide)) 16 (by decide) wd_589 rfl dX5_wants_1 ?_
  refine lv_sipush (v := (-10005 : Int32)) hx hb dX5_wants_4 (by decide) ?_
  refine lv_icmp_ne (tgt := 38) hx hb dX5_wants_7 (by decide) (fun c1 => ?_) (fun c1 => ?_)
  · replace h := ifn c1 h
    have h1 := Option.some.inj h
    subst h1
    exact r_vret hx hb hr hlk hK hd hw dX5_wants_38
  · replace h := ifp c1 h
    refine lv_aload_n hx hb dX5_wants_10 rfl (lv_at hl 0 rfl) ?_
    refine lv_iload_n hx hb dX5_wants_11 rfl (lv_at hl 1 rfl) ?_
    refine jn_elim h (fun (k : Int32 → Option (Mm)) => ∀ (v3 : Int32) {H : Heap} {locs : List Loc} {ls : Array Slot}, k v3 = some Bf → Wo γ (st 10 σ o Z) s H locs → lv_has ls 2 [(0, .ref (eA γ o))] → W p l e R s m args below meth c H locs 0 0 (MQ below (Qo γ none (st 10 σ o Bf)) args s 0 0 (AK γ)) (F0 m 25 ls [.int v3, .ref (eA γ o)])) ?_ ?_
    · intro v3 H locs ls h hw hl
      obtain ⟨N4, hN4, h⟩ := ob h
      refine r_put (x := v3) (ty := .int) hx hb hts hK hd hw hown inX5 tyX5 tyX5_ok nmX5 rfl (by decide) (X5_k0 hB) 16 (by decide) wd_589 rfl rfl rfl rfl (fun _ => (Nat.le_of_ble_eq_true rfl)) (fun _ => rfl) hN4 dX5_wants_25 (fun {H} {locs} hw => ?_)
      refine lv_aload_n hx hb dX5_wants_28 rfl (lv_at hl 0 rfl) ?_
      refine lv_dup hx hb dX5_wants_29 rfl ?_
      refine r_get (v := .int (N4 0 15)) hx hb hts hK hw hown inX5 rfl (X5_k0 hB) (st_at0 (by decide)) 15 (by decide) wd_588 rfl dX5_wants_30 ?_
      refine lv_iconst (v := (1 : Int32)) hx hb dX5_wants_33 (by decide) ?_
      refine lv_iadd hx hb dX5_wants_34 ?_
      obtain ⟨N5, hN5, h⟩ := ob h
      refine r_put (x := ((N4 0 15) + (1 : Int32))) (ty := .int) hx hb hts hK hd hw hown inX5 tyX5 tyX5_ok nmX5 rfl (by decide) (X5_k0 hB) 15 (by decide) wd_588 rfl rfl rfl rfl (fun _ => (Nat.le_of_ble_eq_true rfl)) (fun _ => rfl) hN5 dX5_wants_35 (fun {H} {locs} hw => ?_)
      have h1 := Option.some.inj h
      subst h1
      exact r_vret hx hb hr hlk hK hd hw dX5_wants_38
    intro k2 J_k2 h
    refine lv_if_eq (tgt := 21) hx hb dX5_wants_12 (by decide) (fun c6 => ?_) (fun c6 => ?_)
    · replace h := ifp c6 h
      refine lv_aload_n hx hb dX5_wants_21 rfl (lv_at hl 0 rfl) ?_
      refine r_get (v := .int (Z 0 15)) hx hb hts hK hw hown inX5 rfl (X5_k0 hB) (st_at0 (by decide)) 15 (by decide) wd_588 rfl dX5_wants_22 ?_
      exact J_k2 (Z 0 15) h hw (lv_sub hl [0] rfl)
    · replace h := ifn c6 h
      refine lv_sipush (v := (-10005 : Int32)) hx hb dX5_wants_15 (by decide) ?_
      refine lv_goto (tgt := 25) hx hb dX5_wants_18 (by decide) ?_
      exact J_k2 (-10005 : Int32) h hw (lv_sub hl [0] rfl)
theorem c_X5_wants {l : Launch} {γ : Ev} {o : Nat} {σ : Mm} {Bf : Mm} {Z : Mm} {x1 : Int32} (hB : isX5 γ o) (h : s_X5_wants Z x1 = some Bf) : Ct l yX5_wants cX5_wants 2 none 1 30 γ [.ref (eA γ o), .int x1] (st 10 σ o Z) none (st 10 σ o Bf) := Ct.of (own := RX5) (by decide +kernel) rfl (Nat.le_of_ble_eq_true rfl) (fun C hw ls hl => b_X5_wants C hB h hw hl)
set_option maxHeartbeats 4000000 in
set_option maxRecDepth 10000 in
theorem b_X5_isMinus {γ : Ev} {o : Nat} {σ : Mm} {Bf : Mm} {r : Int32} {Z : Mm} (C : Cx p R s m args meth c RX5 cX5_isMinus 2 (some .boolean) 2 50 γ) (hB : isX5 γ o) (h : s_X5_isMinus Z = some (r, Bf)) (hw : Wo γ (st 10 σ o Z) s H locs) (hl : lv_has ls 2 [(0, .ref (eA γ o))]) : W p l e R s m args below meth c H locs 0 0 (MQ below (Qo γ (some (.int r)) (st 10 σ o Bf)) args s 0 0 (AK γ)) (F0 m 0 ls []) := by
  have C0 := C
  obtain ⟨hx, hb, hr, hml, hown, hts, hlk, hK, hd, hF, hL⟩ := C
  unfold s_X5_isMinus at h
  refine lv_aload_n hx hb dX5_isMinus_0 rfl (lv_at hl 0 rfl) ?_
  refine r_get (v := .int (Z 0 16)) hx hb hts hK hw hown inX5 rfl (X5_k0 hB) (st_at0 (by decide)) 16 (by decide) wd_589 rfl dX5_isMinus_1 ?_
  refine lv_sipush (v := (-10005 : Int32)) hx hb dX5_isMinus_4 (by decide) ?_
  refine jn_elim h (fun (k : Int32 → Option (Int32 × (Mm))) => ∀ (v3 : Int32) {H : Heap} {locs : List Loc} {ls : Array Slot}, k v3 = some (r, Bf) → Wo γ (st 10 σ o Z) s H locs → lv_has ls 2 [(0, .ref (eA γ o))] → W p l e R s m args below meth c H locs 0 0 (MQ below (Qo γ (some (.int r)) (st 10 σ o Bf)) args s 0 0 (AK γ)) (F0 m 24 ls [.int v3])) ?_ ?_
  · intro v3 H locs ls h hw hl
    refine lv_istore_n (lv' := [(1, .int v3), (0, .ref (eA γ o))]) hx hb dX5_isMinus_24 rfl hl (by decide) rfl (fun ls hl => ?_)
    refine lv_aload_n hx hb dX5_isMinus_25 rfl (lv_at hl 1 rfl) ?_
    refine lv_dup hx hb dX5_isMinus_26 rfl ?_
    refine r_get (v := .int (Z 0 15)) hx hb hts hK hw hown inX5 rfl (X5_k0 hB) (st_at0 (by decide)) 15 (by decide) wd_588 rfl dX5_isMinus_27 ?_
    refine lv_iload_n hx hb dX5_isMinus_30 rfl (lv_at hl 0 rfl) ?_
    refine lv_if_eq (tgt := 38) hx hb dX5_isMinus_31 (by decide) (fun c4 => ?_) (fun c4 => ?_)
    · replace h := ifp c4 h
      refine lv_iconst (v := (0 : Int32)) hx hb dX5_isMinus_38 (by decide) ?_
      refine lv_iadd hx hb dX5_isMinus_39 ?_
      obtain ⟨N5, hN5, h⟩ := ob h
      refine r_put (x := ((Z 0 15) + (0 : Int32))) (ty := .int) hx hb hts hK hd hw hown inX5 tyX5 tyX5_ok nmX5 rfl (by decide) (X5_k0 hB) 15 (by decide) wd_588 rfl rfl rfl rfl (fun _ => (Nat.le_of_ble_eq_true rfl)) (fun _ => rfl) hN5 dX5_isMinus_40 (fun {H} {locs} hw => ?_)
      refine lv_iload_n hx hb dX5_isMinus_43 rfl (lv_at hl 0 rfl) ?_
      obtain ⟨v6, hv6, h⟩ := ob h
      have ev6 := (bo_some hv6).2
      have nv6 := bo_narrow hv6
      rw [← ev6] at nv6 h
      obtain ⟨h1, h2⟩ := s2 h
      subst h1
      subst h2
      exact r_zret hx hb hr hlk hK hd hw nv6 dX5_isMinus_44
    · replace h := ifn c4 h
      refine lv_iconst (v := (1 : Int32)) hx hb dX5_isMinus_34 (by decide) ?_
      refine lv_goto (tgt := 39) hx hb dX5_isMinus_35 (by decide) ?_
      refine lv_iadd hx hb dX5_isMinus_39 ?_
      obtain ⟨N7, hN7, h⟩ := ob h
      refine r_put (x := ((Z 0 15) + (1 : Int32))) (ty := .int) hx hb hts hK hd hw hown inX5 tyX5 tyX5_ok nmX5 rfl (by decide) (X5_k0 hB) 15 (by decide) wd_588 rfl rfl rfl rfl (fun _ => (Nat.le_of_ble_eq_true rfl)) (fun _ => rfl) hN7 dX5_isMinus_40 (fun {H} {locs} hw => ?_)
      refine lv_iload_n hx hb dX5_isMinus_43 rfl (lv_at hl 0 rfl) ?_
      obtain ⟨v8, hv8, h⟩ := ob h
      have ev8 := (bo_some hv8).2
      have nv8 := bo_narrow hv8
      rw [← ev8] at nv8 h
      obtain ⟨h1, h2⟩ := s2 h
      subst h1
      subst h2
      exact r_zret hx hb hr hlk hK hd hw nv8 dX5_isMinus_44
  intro k2 J_k2 h
  refine jn_elim h (fun (k : Unit → Option (Int32 × (Mm))) => ∀ (u : Unit) {H : Heap} {locs : List Loc} {ls : Array Slot}, k u = some (r, Bf) → Wo γ (st 10 σ o Z) s H locs → lv_has ls 2 [(0, .ref (eA γ o))] → W p l e R s m args below meth c H locs 0 0 (MQ below (Qo γ (some (.int r)) (st 10 σ o Bf)) args s 0 0 (AK γ)) (F0 m 23 ls [])) ?_ ?_
  · intro u H locs ls h hw hl
    refine lv_iconst (v := (0 : Int32)) hx hb dX5_isMinus_23 (by decide) ?_
    exact J_k2 (0 : Int32) h hw (lv_sub hl [0] rfl)
  intro k14 J_k14 h
  refine lv_icmp_ne (tgt := 23) hx hb dX5_isMinus_7 (by decide) (fun c15 => ?_) (fun c15 => ?_)
  · replace h := ifn c15 h
    exact J_k14 () h hw (lv_sub hl [0] rfl)
  · replace h := ifp c15 h
    refine lv_aload_n hx hb dX5_isMinus_10 rfl (lv_at hl 0 rfl) ?_
    obtain ⟨v16, hv16, h⟩ := ob h
    refine r_Vi (rest := []) C0 z0 (c_X5_letter hB hv16) lk_X5_184 (X5_k0 hB) rfl rfl hl.1 rfl (Nat.le_of_ble_eq_true rfl) (by decide) hw dX5_isMinus_11 (fun {H} {locs} hw => ?_)
    refine lv_bipush (v := (45 : Int32)) hx hb dX5_isMinus_14 (by decide) ?_
    refine lv_icmp_ne (tgt := 23) hx hb dX5_isMinus_16 (by decide) (fun c17 => ?_) (fun c17 => ?_)
    · replace h := ifn c17 h
      exact J_k14 () h hw (lv_sub hl [0] rfl)
    · replace h := ifp c17 h
      refine lv_iconst (v := (1 : Int32)) hx hb dX5_isMinus_19 (by decide) ?_
      refine lv_goto (tgt := 24) hx hb dX5_isMinus_20 (by decide) ?_
      exact J_k2 (1 : Int32) h hw (lv_sub hl [0] rfl)
theorem c_X5_isMinus {l : Launch} {γ : Ev} {o : Nat} {σ : Mm} {Bf : Mm} {r : Int32} {Z : Mm} (hB : isX5 γ o) (h : s_X5_isMinus Z = some (r, Bf)) : Ct l yX5_isMinus cX5_isMinus 2 (some .boolean) 2 50 γ [.ref (eA γ o)] (st 10 σ o Z) (some (.int r)) (st 10 σ o Bf) := Ct.of (own := RX5) (by decide +kernel) rfl (Nat.le_of_ble_eq_true rfl) (fun C hw ls hl => b_X5_isMinus C hB h hw hl)
set_option maxHeartbeats 4000000 in
set_option maxRecDepth 10000 in
theorem b_X5_digit {γ : Ev} {o : Nat} {σ : Mm} {Bf : Mm} {r : Int32} {Z : Mm} (C : Cx p R s m args meth c RX5 cX5_digit 2 (some .int) 2 52 γ) (hB : isX5 γ o) (h : s_X5_digit Z = some (r, Bf)) (hw : Wo γ (st 10 σ o Z) s H locs) (hl : lv_has ls 2 [(0, .ref (eA γ o))]) : W p l e R s m args below meth c H locs 0 0 (MQ below (Qo γ (some (.int r)) (st 10 σ o Bf)) args s 0 0 (AK γ)) (F0 m 0 ls []) := by
  have C0 := C
  obtain ⟨hx, hb, hr, hml, hown, hts, hlk, hK, hd, hF, hL⟩ := C
  unfold s_X5_digit at h
  refine lv_aload_n hx hb dX5_digit_0 rfl (lv_at hl 0 rfl) ?_
  obtain ⟨v1, hv1, h⟩ := ob h
  refine r_Vi (rest := []) C0 z0 (c_X5_letter hB hv1) lk_X5_184 (X5_k0 hB) rfl rfl hl.1 rfl (Nat.le_of_ble_eq_true rfl) (by decide) hw dX5_digit_1 (fun {H} {locs} hw => ?_)
  refine lv_bipush (v := (48 : Int32)) hx hb dX5_digit_4 (by decide) ?_
  refine lv_isub hx hb dX5_digit_6 ?_
  obtain ⟨v2, ev2, h⟩ := jb h
  refine r_top ev2 ?_
  refine lv_istore_n (lv' := [(1, .int v2), (0, .ref (eA γ o))]) hx hb dX5_digit_7 rfl hl (by decide) rfl (fun ls hl => ?_)
  refine lv_aload_n hx hb dX5_digit_8 rfl (lv_at hl 1 rfl) ?_
  refine lv_iload_n hx hb dX5_digit_9 rfl (lv_at hl 0 rfl) ?_
  refine lv_iconst (v := (1 : Int32)) hx hb dX5_digit_10 (by decide) ?_
  refine lv_bipush (v := (6 : Int32)) hx hb dX5_digit_11 (by decide) ?_
  obtain ⟨v3, hv3, h⟩ := ob h
  refine r_Si (rest := [.ref (eA γ o)]) C0 z0 (c_X5_in hv3) lk_X5_49 hl.1 rfl (Nat.le_of_ble_eq_true rfl) (by decide) hw dX5_digit_13 (fun {H} {locs} hw => ?_)
  obtain ⟨N4, hN4, h⟩ := ob h
  refine r_Vv (rest := []) C0 z0 (c_X5_wants hB hN4) lk_X5_187 (X5_k0 hB) rfl rfl hl.1 rfl (Nat.le_of_ble_eq_true rfl) (by decide) hw dX5_digit_16 (fun {H} {locs} hw => ?_)
  refine lv_iload_n hx hb dX5_digit_19 rfl (lv_at hl 0 rfl) ?_
  obtain ⟨h1, h2⟩ := s2 h
  subst h1
  subst h2
  exact r_iret hx hb hr hlk hK hd hw dX5_digit_20
theorem c_X5_digit {l : Launch} {γ : Ev} {o : Nat} {σ : Mm} {Bf : Mm} {r : Int32} {Z : Mm} (hB : isX5 γ o) (h : s_X5_digit Z = some (r, Bf)) : Ct l yX5_digit cX5_digit 2 (some .int) 2 52 γ [.ref (eA γ o)] (st 10 σ o Z) (some (.int r)) (st 10 σ o Bf) := Ct.of (own := RX5) (by decide +kernel) rfl (Nat.le_of_ble_eq_true rfl) (fun C hw ls hl => b_X5_digit C hB h hw hl)
set_option maxHeartbeats 4000000 in
set_option maxRecDepth 10000 in
theorem b_X5_readMove {γ : Ev} {o : Nat} {σ : Mm} {Bf : Mm} {Z : Mm} (C : Cx p R s m args meth c RX5 cX5_readMove 6 none 3 73 γ) (hB : isX5 γ o) (h : s_X5_readMove Z = some Bf) (hw : Wo γ (st 10 σ o Z) s H locs) (hl : lv_has ls 6 [(0, .ref (eA γ o))]) : W p l e R s m args below meth c H locs 0 0 (MQ below (Qo γ none (st 10 σ o Bf)) args s 0 0 (AK γ)) (F0 m 0 ls []) := by
  have C0 := C
  obtain ⟨hx, hb, hr, hml, hown, hts, hlk, hK, hd, hF, hL⟩ := C
  unfold s_X5_readMove at h
  refine lv_iconst (v := (2 : Int32)) hx hb dX5_readMove_0 (by decide) ?_
  refine lv_aload_n hx hb dX5_readMove_1 rfl (lv_at hl 0 rfl) ?_
  refine r_get (v := .int (Z 0 14)) hx hb hts hK hw hown inX5 rfl (X5_k0 hB) (st_at0 (by decide)) 14 (by decide) wd_587 rfl dX5_readMove_2 ?_
  refine lv_imul hx hb dX5_readMove_5 ?_
  obtain ⟨v1, ev1, h⟩ := jb h
  refine r_top ev1 ?_
  refine lv_istore_n (lv' := [(1, .int v1), (0, .ref (eA γ o))]) hx hb dX5_readMove_6 rfl hl (by decide) rfl (fun ls hl => ?_)
  refine lv_aload_n hx hb dX5_readMove_7 rfl (lv_at hl 1 rfl) ?_
  obtain ⟨q2, hq2, h⟩ := ob h
  refine r_Vi (rest := []) C0 z0 (c_X5_isMinus hB hq2) lk_X5_194 (X5_k0 hB) rfl rfl hl.1 rfl (Nat.le_of_ble_eq_true rfl) (by decide) hw dX5_readMove_8 (fun {H} {locs} hw => ?_)
  obtain ⟨v3, ev3, h⟩ := jb h
  refine r_top ev3 ?_
  refine lv_istore_n (lv' := [(2, .int v3), (1, .int v1), (0, .ref (eA γ o))]) hx hb dX5_readMove_11 rfl hl (by decide) rfl (fun ls hl => ?_)
  refine lv_aload_n hx hb dX5_readMove_12 rfl (lv_at hl 2 rfl) ?_
  obtain ⟨q4, hq4, h⟩ := ob h
  refine r_Vi (rest := []) C0 z0 (c_X5_digit hB hq4) lk_X5_197 (X5_k0 hB) rfl rfl hl.1 rfl (Nat.le_of_ble_eq_true rfl) (by decide) hw dX5_readMove_13 (fun {H} {locs} hw => ?_)
  obtain ⟨v5, ev5, h⟩ := jb h
  refine r_top ev5 ?_
  refine lv_istore_n (lv' := [(3, .int v5), (2, .int v3), (1, .int v1), (0, .ref (eA γ o))]) hx hb dX5_readMove_16 rfl hl (by decide) rfl (fun ls hl => ?_)
  refine lv_aload_n hx hb dX5_readMove_17 rfl (lv_at hl 3 rfl) ?_
  obtain ⟨v6, hv6, h⟩ := ob h
  refine r_Vi (rest := []) C0 z0 (c_X5_letter hB hv6) lk_X5_184 (X5_k0 hB) rfl rfl hl.1 rfl (Nat.le_of_ble_eq_true rfl) (by decide) hw dX5_readMove_18 (fun {H} {locs} hw => ?_)
  refine lv_istore (lv' := [(4, .int v6), (3, .int v5), (2, .int v3), (1, .int v1), (0, .ref (eA γ o))]) hx hb dX5_readMove_21 hl (by decide) rfl (fun ls hl => ?_)
  refine lv_iload hx hb dX5_readMove_23 (lv_at hl 0 rfl) ?_
  refine lv_bipush (v := (64 : Int32)) hx hb dX5_readMove_25 (by decide) ?_
  refine jn_elim h (fun (k : Int32 → Option (Mm)) => ∀ (v8 : Int32) {H : Heap} {locs : List Loc} {ls : Array Slot}, k v8 = some Bf → Wo γ (st 10 σ o q4.2) s H locs → lv_has ls 6 [(0, .ref (eA γ o)), (1, .int v1), (2, .int v3), (3, .int v5), (4, .int v6)] → W p l e R s m args below meth c H locs 0 0 (MQ below (Qo γ none (st 10 σ o Bf)) args s 0 0 (AK γ)) (F0 m 44 ls [.int v8])) ?_ ?_
  · intro v8 H locs ls h hw hl
    refine lv_istore (lv' := [(5, .int v8), (0, .ref (eA γ o)), (1, .int v1), (2, .int v3), (3, .int v5), (4, .int v6)]) hx hb dX5_readMove_44 hl (by decide) rfl (fun ls hl => ?_)
    refine lv_aload_n hx hb dX5_readMove_46 rfl (lv_at hl 1 rfl) ?_
    refine lv_iload hx hb dX5_readMove_47 (lv_at hl 0 rfl) ?_
    refine jn_elim h (fun (k : Int32 → Option (Mm)) => ∀ (v10 : Int32) {H : Heap} {locs : List Loc} {ls : Array Slot}, k v10 = some Bf → Wo γ (st 10 σ o q4.2) s H locs → lv_has ls 6 [(0, .ref (eA γ o)), (1, .int v1), (2, .int v3), (3, .int v5), (4, .int v6), (5, .int v8)] → W p l e R s m args below meth c H locs 0 0 (MQ below (Qo γ none (st 10 σ o Bf)) args s 0 0 (AK γ)) (F0 m 71 ls [.int v10, .ref (eA γ o)])) ?_ ?_
    · intro v10 H locs ls h hw hl
      obtain ⟨N11, hN11, h⟩ := ob h
      refine r_Vv (rest := []) C0 z0 (c_X5_wants hB hN11) lk_X5_187 (X5_k0 hB) rfl rfl hl.1 rfl (Nat.le_of_ble_eq_true rfl) (by decide) hw dX5_readMove_71 (fun {H} {locs} hw => ?_)
      refine lv_iload hx hb dX5_readMove_74 (lv_at hl 5 rfl) ?_
      refine jn_elim h (fun (k : Int32 → Int32 → Mm → Option (Mm)) => ∀ (v21 : Int32) (v22 : Int32) (N20 : Mm) {H : Heap} {locs : List Loc} {ls : Array Slot}, k v21 v22 N20 = some Bf → Wo γ (st 10 σ o N20) s H locs → lv_has ls 6 [(0, .ref (eA γ o)), (1, .int v1), (2, .int v21), (3, .int v22)] → W p l e R s m args below meth c H locs 0 0 (MQ below (Qo γ none (st 10 σ o Bf)) args s 0 0 (AK γ)) (F0 m 119 ls [])) ?_ ?_
      · intro v21 v22 N20 H locs ls h hw hl
        refine lv_aload_n hx hb dX5_readMove_119 rfl (lv_at hl 0 rfl) ?_
        refine r_get (v := .ref (eA γ (o + 9))) hx hb hts hK hw hown inX5 rfl (X5_k0 hB) (st_at0 (by decide)) 13 (by decide) wd_586 rfl dX5_readMove_120 ?_
        refine lv_iload_n hx hb dX5_readMove_123 rfl (lv_at hl 1 rfl) ?_
        refine lv_iconst (v := (1 : Int32)) hx hb dX5_readMove_124 (by decide) ?_
        refine lv_iadd hx hb dX5_readMove_125 ?_
        refine lv_iload_n hx hb dX5_readMove_126 rfl (lv_at hl 2 rfl) ?_
        refine jn_elim h (fun (k : Int32 → Option (Mm)) => ∀ (v25 : Int32) {H : Heap} {locs : List Loc} {ls : Array Slot}, k v25 = some Bf → Wo γ (st 10 σ o N20) s H locs → lv_has ls 6 [(0, .ref (eA γ o))] → W p l e R s m args below meth c H locs 0 0 (MQ below (Qo γ none (st 10 σ o Bf)) args s 0 0 (AK γ)) (F0 m 136 ls [.int v25, .int (v1 + (1 : Int32)), .ref (eA γ (o + 9))])) ?_ ?_
        · intro v25 H locs ls h hw hl
          obtain ⟨N26, hN26, h⟩ := ob h
          refine r_iast hx hb hK hd hw (by decide) (X5_k9 hB) hN26 dX5_readMove_136 (fun {H} {locs} hw => ?_)
          refine lv_aload_n hx hb dX5_readMove_137 rfl (lv_at hl 0 rfl) ?_
          refine lv_dup hx hb dX5_readMove_138 rfl ?_
          refine r_get (v := .int (N26 0 14)) hx hb hts hK hw hown inX5 rfl (X5_k0 hB) (st_at0 (by decide)) 14 (by decide) wd_587 rfl dX5_readMove_139 ?_
          refine lv_iconst (v := (1 : Int32)) hx hb dX5_readMove_142 (by decide) ?_
          refine lv_iadd hx hb dX5_readMove_143 ?_
          obtain ⟨N27, hN27, h⟩ := ob h
          refine r_put (x := ((N26 0 14) + (1 : Int32))) (ty := .int) hx hb hts hK hd hw hown inX5 tyX5 tyX5_ok nmX5 rfl (by decide) (X5_k0 hB) 14 (by decide) wd_587 rfl rfl rfl rfl (fun _ => (Nat.le_of_ble_eq_true rfl)) (fun _ => rfl) hN27 dX5_readMove_144 (fun {H} {locs} hw => ?_)
          have h1 := Option.some.inj h
          subst h1
          exact r_vret hx hb hr hlk hK hd hw dX5_readMove_147
        intro k24 J_k24 h
        refine lv_if_eq (tgt := 135) hx hb dX5_readMove_127 (by decide) (fun c28 => ?_) (fun c28 => ?_)
        · replace h := ifp c28 h
          refine lv_iload_n hx hb dX5_readMove_135 rfl (lv_at hl 3 rfl) ?_
          exact J_k24 v22 h hw (lv_sub hl [0] rfl)
        · replace h := ifn c28 h
          refine lv_iload_n hx hb dX5_readMove_130 rfl (lv_at hl 3 rfl) ?_
          refine lv_ineg hx hb dX5_readMove_131 ?_
          refine lv_goto (tgt := 136) hx hb dX5_readMove_132 (by decide) ?_
          exact J_k24 (-v22) h hw (lv_sub hl [0] rfl)
      intro k19 J_k19 h
      refine lv_if_eq (tgt := 99) hx hb dX5_readMove_76 (by decide) (fun c29 => ?_) (fun c29 => ?_)
      · replace h := ifp c29 h
        refine lv_aload_n hx hb dX5_readMove_99 rfl (lv_at hl 0 rfl) ?_
        refine r_get (v := .ref (eA γ (o + 9))) hx hb hts hK hw hown inX5 rfl (X5_k0 hB) (st_at0 (by decide)) 13 (by decide) wd_586 rfl dX5_readMove_100 ?_
        refine lv_iload_n hx hb dX5_readMove_103 rfl (lv_at hl 1 rfl) ?_
        refine lv_iload hx hb dX5_readMove_104 (lv_at hl 4 rfl) ?_
        refine lv_bipush (v := (105 : Int32)) hx hb dX5_readMove_106 (by decide) ?_
        refine jn_elim h (fun (k : Int32 → Option (Mm)) => ∀ (v31 : Int32) {H : Heap} {locs : List Loc} {ls : Array Slot}, k v31 = some Bf → Wo γ (st 10 σ o N11) s H locs → lv_has ls 6 [(0, .ref (eA γ o)), (1, .int v1), (2, .int v3), (3, .int v5)] → W p l e R s m args below meth c H locs 0 0 (MQ below (Qo γ none (st 10 σ o Bf)) args s 0 0 (AK γ)) (F0 m 118 ls [.int v31, .int v1, .ref (eA γ (o + 9))])) ?_ ?_
        · intro v31 H locs ls h hw hl
          obtain ⟨N32, hN32, h⟩ := ob h
          refine r_iast hx hb hK hd hw (by decide) (X5_k9 hB) hN32 dX5_readMove_118 (fun {H} {locs} hw => ?_)
          exact J_k19 v3 v5 N32 h hw (lv_sub hl [0, 1, 2, 3] rfl)
        intro k30 J_k30 h
        refine lv_icmp_ne (tgt := 116) hx hb dX5_readMove_108 (by decide) (fun c33 => ?_) (fun c33 => ?_)
        · replace h := ifn c33 h
          refine lv_bipush (v := (7 : Int32)) hx hb dX5_readMove_116 (by decide) ?_
          exact J_k30 (7 : Int32) h hw (lv_sub hl [0, 1, 2, 3] rfl)
        · replace h := ifp c33 h
          refine lv_bipush (v := (6 : Int32)) hx hb dX5_readMove_111 (by decide) ?_
          refine lv_goto (tgt := 118) hx hb dX5_readMove_113 (by decide) ?_
          exact J_k30 (6 : Int32) h hw (lv_sub hl [0, 1, 2, 3] rfl)
      · replace h := ifn c29 h
        refine lv_aload_n hx hb dX5_readMove_79 rfl (lv_at hl 0 rfl) ?_
        obtain ⟨q34, hq34, h⟩ := ob h
        refine r_Vi (rest := []) C0 z0 (c_X5_isMinus hB hq34) lk_X5_194 (X5_k0 hB) rfl rfl hl.1 rfl (Nat.le_of_ble_eq_true rfl) (by decide) hw dX5_readMove_80 (fun {H} {locs} hw => ?_)
        obtain ⟨v35, ev35, h⟩ := jb h
        refine r_top ev35 ?_
        refine lv_istore_n (lv' := [(2, .int v35), (0, .ref (eA γ o)), (1, .int v1), (3, .int v5), (4, .int v6), (5, .int v8)]) hx hb dX5_readMove_83 rfl hl (by decide) rfl (fun ls hl => ?_)
        refine lv_aload_n hx hb dX5_readMove_84 rfl (lv_at hl 1 rfl) ?_
        refine r_get (v := .ref (eA γ (o + 9))) hx hb hts hK hw hown inX5 rfl (X5_k0 hB) (st_at0 (by decide)) 13 (by decide) wd_586 rfl dX5_readMove_85 ?_
        refine lv_iload_n hx hb dX5_readMove_88 rfl (lv_at hl 2 rfl) ?_
        refine lv_iload_n hx hb dX5_readMove_89 rfl (lv_at hl 3 rfl) ?_
        obtain ⟨N36, hN36, h⟩ := ob h
        refine r_iast hx hb hK hd hw (by decide) (X5_k9 hB) hN36 dX5_readMove_90 (fun {H} {locs} hw => ?_)
        refine lv_aload_n hx hb dX5_readMove_91 rfl (lv_at hl 1 rfl) ?_
        obtain ⟨q37, hq37, h⟩ := ob h
        refine r_Vi (rest := []) C0 z0 (c_X5_digit hB hq37) lk_X5_197 (X5_k0 hB) rfl rfl hl.1 rfl (Nat.le_of_ble_eq_true rfl) (by decide) hw dX5_readMove_92 (fun {H} {locs} hw => ?_)
        obtain ⟨v38, ev38, h⟩ := jb h
        refine r_top ev38 ?_
        refine lv_istore_n (lv' := [(3, .int v38), (2, .int v35), (0, .ref (eA γ o)), (1, .int v1), (4, .int v6), (5, .int v8)]) hx hb dX5_readMove_95 rfl hl (by decide) rfl (fun ls hl => ?_)
        refine lv_goto (tgt := 119) hx hb dX5_readMove_96 (by decide) ?_
        exact J_k19 v35 v38 q37.2 h hw (lv_sub hl [2, 3, 1, 0] rfl)
    intro k9 J_k9 h
    refine jn_elim h (fun (k : Unit → Option (Mm)) => ∀ (u : Unit) {H : Heap} {locs : List Loc} {ls : Array Slot}, k u = some Bf → Wo γ (st 10 σ o q4.2) s H locs → lv_has ls 6 [(0, .ref (eA γ o)), (1, .int v1), (2, .int v3), (3, .int v5), (4, .int v6), (5, .int v8)] → W p l e R s m args below meth c H locs 0 0 (MQ below (Qo γ none (st 10 σ o Bf)) args s 0 0 (AK γ)) (F0 m 66 ls [.ref (eA γ o)])) ?_ ?_
    · intro u H locs ls h hw hl
      refine lv_iconst (v := (1 : Int32)) hx hb dX5_readMove_66 (by decide) ?_
      refine lv_goto (tgt := 71) hx hb dX5_readMove_67 (by decide) ?_
      exact J_k9 (1 : Int32) h hw (lv_sub hl [0, 1, 2, 3, 4, 5] rfl)
    intro k71 J_k71 h
    refine lv_if_ne (tgt := 66) hx hb dX5_readMove_49 (by decide) (fun c72 => ?_) (fun c72 => ?_)
    · replace h := ifn c72 h
      exact J_k71 () h hw (lv_sub hl [1, 2, 3, 4, 5, 0] rfl)
    · replace h := ifp c72 h
      refine lv_iload hx hb dX5_readMove_52 (lv_at hl 5 rfl) ?_
      refine lv_bipush (v := (105 : Int32)) hx hb dX5_readMove_54 (by decide) ?_
      refine lv_icmp_eq (tgt := 66) hx hb dX5_readMove_56 (by decide) (fun c73 => ?_) (fun c73 => ?_)
      · replace h := ifp c73 h
        exact J_k71 () h hw (lv_sub hl [1, 2, 3, 4, 5, 0] rfl)
      · replace h := ifn c73 h
        refine lv_iload hx hb dX5_readMove_59 (lv_at hl 5 rfl) ?_
        refine lv_bipush (v := (111 : Int32)) hx hb dX5_readMove_61 (by decide) ?_
        refine lv_icmp_ne (tgt := 70) hx hb dX5_readMove_63 (by decide) (fun c74 => ?_) (fun c74 => ?_)
        · replace h := ifn c74 h
          refine lv_iconst (v := (0 : Int32)) hx hb dX5_readMove_70 (by decide) ?_
          exact J_k9 (0 : Int32) h hw (lv_sub hl [1, 2, 3, 4, 5, 0] rfl)
        · replace h := ifp c74 h
          exact J_k71 () h hw (lv_sub hl [1, 2, 3, 4, 5, 0] rfl)
  intro k7 J_k7 h
  refine jn_elim h (fun (k : Unit → Option (Mm)) => ∀ (u : Unit) {H : Heap} {locs : List Loc} {ls : Array Slot}, k u = some Bf → Wo γ (st 10 σ o q4.2) s H locs → lv_has ls 6 [(0, .ref (eA γ o)), (1, .int v1), (2, .int v3), (3, .int v5), (4, .int v6)] → W p l e R s m args below meth c H locs 0 0 (MQ below (Qo γ none (st 10 σ o Bf)) args s 0 0 (AK γ)) (F0 m 43 ls [])) ?_ ?_
  · intro u H locs ls h hw hl
    refine lv_iconst (v := (0 : Int32)) hx hb dX5_readMove_43 (by decide) ?_
    exact J_k7 (0 : Int32) h hw (lv_sub hl [0, 1, 2, 3, 4] rfl)
  intro k203 J_k203 h
  refine lv_icmp_ne (tgt := 43) hx hb dX5_readMove_27 (by decide) (fun c204 => ?_) (fun c204 => ?_)
  · replace h := ifn c204 h
    exact J_k203 () h hw (lv_sub hl [4, 3, 2, 1, 0] rfl)
  · replace h := ifp c204 h
    refine lv_iload_n hx hb dX5_readMove_30 rfl (lv_at hl 2 rfl) ?_
    refine lv_if_ne (tgt := 43) hx hb dX5_readMove_31 (by decide) (fun c205 => ?_) (fun c205 => ?_)
    · replace h := ifn c205 h
      exact J_k203 () h hw (lv_sub hl [4, 3, 2, 1, 0] rfl)
    · replace h := ifp c205 h
      refine lv_iload_n hx hb dX5_readMove_34 rfl (lv_at hl 1 rfl) ?_
      refine lv_iconst (v := (5 : Int32)) hx hb dX5_readMove_35 (by decide) ?_
      refine lv_icmp_gt (tgt := 43) hx hb dX5_readMove_36 (by decide) (fun c206 => ?_) (fun c206 => ?_)
      · replace h := ifp c206 h
        exact J_k203 () h hw (lv_sub hl [4, 3, 2, 1, 0] rfl)
      · replace h := ifn c206 h
        refine lv_iconst (v := (1 : Int32)) hx hb dX5_readMove_39 (by decide) ?_
        refine lv_goto (tgt := 44) hx hb dX5_readMove_40 (by decide) ?_
        exact J_k7 (1 : Int32) h hw (lv_sub hl [4, 3, 2, 1, 0] rfl)
theorem c_X5_readMove {l : Launch} {γ : Ev} {o : Nat} {σ : Mm} {Bf : Mm} {Z : Mm} (hB : isX5 γ o) (h : s_X5_readMove Z = some Bf) : Ct l yX5_readMove cX5_readMove 6 none 3 73 γ [.ref (eA γ o)] (st 10 σ o Z) none (st 10 σ o Bf) := Ct.of (own := RX5) (by decide +kernel) rfl (Nat.le_of_ble_eq_true rfl) (fun C hw ls hl => b_X5_readMove C hB h hw hl)
set_option maxHeartbeats 4000000 in
set_option maxRecDepth 10000 in
theorem b_X5_readText_L19 {γ : Ev} {o : Nat} {σ : Mm} {Bf : Mm} {r : Int32} (C : Cx p R s m args meth c RX5 cX5_readText 2 (some .int) 4 98 γ) (hB : isX5 γ o) : ∀ (n : Nat) {Z : Mm} {x1 : Int32} {H : Heap} {locs : List Loc} {ls : Array Slot}, s_X5_readText_L19 n Z x1 = some (r, Bf) → Wo γ (st 10 σ o Z) s H locs → lv_has ls 2 [(0, .ref (eA γ o)), (1, .int x1)] → W p l e R s m args below meth c H locs 0 0 (MQ below (Qo γ (some (.int r)) (st 10 σ o Bf)) args s 0 0 (AK γ)) (F0 m 19 ls []) := by
  have C0 := C
  obtain ⟨hx, hb, hr, hml, hown, hts, hlk, hK, hd, hF, hL⟩ := C
  intro n
  induction n with
  | zero => intro Z x1 H locs ls h; cases h
  | succ n ih =>
    intro Z x1 H locs ls h hw hl
    unfold s_X5_readText_L19 at h
    refine lv_iload_n hx hb dX5_readText_19 rfl (lv_at hl 1 rfl) ?_
    refine lv_if_eq (tgt := 95) hx hb dX5_readText_20 (by decide) (fun c4 => ?_) (fun c4 => ?_)
    · replace h := ifp c4 h
      refine lv_aload_n hx hb dX5_readText_95 rfl (lv_at hl 0 rfl) ?_
      refine r_get (v := .int (Z 0 16)) hx hb hts hK hw hown inX5 rfl (X5_k0 hB) (st_at0 (by decide)) 16 (by decide) wd_589 rfl dX5_readText_96 ?_
      obtain ⟨h1, h2⟩ := s2 h
      subst h1
      subst h2
      exact r_iret hx hb hr hlk hK hd hw dX5_readText_99
    · replace h := ifn c4 h
      refine lv_aload_n hx hb dX5_readText_23 rfl (lv_at hl 0 rfl) ?_
      obtain ⟨N5, hN5, h⟩ := ob h
      refine r_Vv (rest := []) C0 z0 (c_X5_readMove hB hN5) lk_X5_200 (X5_k0 hB) rfl rfl hl.1 rfl (Nat.le_of_ble_eq_true rfl) (by decide) hw dX5_readText_24 (fun {H} {locs} hw => ?_)
      refine lv_aload_n hx hb dX5_readText_27 rfl (lv_at hl 0 rfl) ?_
      refine r_get (v := .int (N5 0 16)) hx hb hts hK hw hown inX5 rfl (X5_k0 hB) (st_at0 (by decide)) 16 (by decide) wd_589 rfl dX5_readText_28 ?_
      refine lv_sipush (v := (-10005 : Int32)) hx hb dX5_readText_31 (by decide) ?_
      refine jn_elim h (fun (k : Int32 → Option (Int32 × (Mm))) => ∀ (v7 : Int32) {H : Heap} {locs : List Loc} {ls : Array Slot}, k v7 = some (r, Bf) → Wo γ (st 10 σ o N5) s H locs → lv_has ls 2 [(0, .ref (eA γ o))] → W p l e R s m args below meth c H locs 0 0 (MQ below (Qo γ (some (.int r)) (st 10 σ o Bf)) args s 0 0 (AK γ)) (F0 m 53 ls [.int v7])) ?_ ?_
      · intro v7 H locs ls h hw hl
        refine lv_istore_n (lv' := [(1, .int v7), (0, .ref (eA γ o))]) hx hb dX5_readText_53 rfl hl (by decide) rfl (fun ls hl => ?_)
        refine lv_iload_n hx hb dX5_readText_54 rfl (lv_at hl 0 rfl) ?_
        refine lv_if_eq (tgt := 19) hx hb dX5_readText_55 (by decide) (fun c8 => ?_) (fun c8 => ?_)
        · replace h := ifp c8 h
          exact ih h hw (lv_sub hl [1, 0] rfl)
        · replace h := ifn c8 h
          refine lv_aload_n hx hb dX5_readText_58 rfl (lv_at hl 1 rfl) ?_
          refine lv_aload_n hx hb dX5_readText_59 rfl (lv_at hl 1 rfl) ?_
          obtain ⟨v9, hv9, h⟩ := ob h
          refine r_Vi (rest := [.ref (eA γ o)]) C0 z0 (c_X5_letter hB hv9) lk_X5_184 (X5_k0 hB) rfl rfl hl.1 rfl (Nat.le_of_ble_eq_true rfl) (by decide) hw dX5_readText_60 (fun {H} {locs} hw => ?_)
          refine lv_bipush (v := (59 : Int32)) hx hb dX5_readText_63 (by decide) ?_
          refine jn_elim h (fun (k : Int32 → Option (Int32 × (Mm))) => ∀ (v11 : Int32) {H : Heap} {locs : List Loc} {ls : Array Slot}, k v11 = some (r, Bf) → Wo γ (st 10 σ o N5) s H locs → lv_has ls 2 [(0, .ref (eA γ o))] → W p l e R s m args below meth c H locs 0 0 (MQ below (Qo γ (some (.int r)) (st 10 σ o Bf)) args s 0 0 (AK γ)) (F0 m 73 ls [.int v11, .ref (eA γ o)])) ?_ ?_
          · intro v11 H locs ls h hw hl
            obtain ⟨N12, hN12, h⟩ := ob h
            refine r_Vv (rest := []) C0 z0 (c_X5_wants hB hN12) lk_X5_187 (X5_k0 hB) rfl rfl hl.1 rfl (Nat.le_of_ble_eq_true rfl) (by decide) hw dX5_readText_73 (fun {H} {locs} hw => ?_)
            refine lv_aload_n hx hb dX5_readText_76 rfl (lv_at hl 0 rfl) ?_
            refine r_get (v := .int (N12 0 16)) hx hb hts hK hw hown inX5 rfl (X5_k0 hB) (st_at0 (by decide)) 16 (by decide) wd_589 rfl dX5_readText_77 ?_
            refine lv_sipush (v := (-10005 : Int32)) hx hb dX5_readText_80 (by decide) ?_
            refine lv_icmp_ne (tgt := 90) hx hb dX5_readText_83 (by decide) (fun c13 => ?_) (fun c13 => ?_)
            · replace h := ifn c13 h
              refine lv_iconst (v := (0 : Int32)) hx hb dX5_readText_90 (by decide) ?_
              refine lv_istore_n (lv' := [(1, .int (0 : Int32)), (0, .ref (eA γ o))]) hx hb dX5_readText_91 rfl hl (by decide) rfl (fun ls hl => ?_)
              refine lv_goto (tgt := 19) hx hb dX5_readText_92 (by decide) ?_
              exact ih h hw (lv_sub hl [1, 0] rfl)
            · replace h := ifp c13 h
              refine lv_iconst (v := (1 : Int32)) hx hb dX5_readText_86 (by decide) ?_
              refine lv_goto (tgt := 91) hx hb dX5_readText_87 (by decide) ?_
              refine lv_istore_n (lv' := [(1, .int (1 : Int32)), (0, .ref (eA γ o))]) hx hb dX5_readText_91 rfl hl (by decide) rfl (fun ls hl => ?_)
              refine lv_goto (tgt := 19) hx hb dX5_readText_92 (by decide) ?_
              exact ih h hw (lv_sub hl [1, 0] rfl)
          intro k10 J_k10 h
          refine lv_icmp_ne (tgt := 72) hx hb dX5_readText_65 (by decide) (fun c14 => ?_) (fun c14 => ?_)
          · replace h := ifn c14 h
            refine lv_iconst (v := (0 : Int32)) hx hb dX5_readText_72 (by decide) ?_
            exact J_k10 (0 : Int32) h hw (lv_sub hl [1] rfl)
          · replace h := ifp c14 h
            refine lv_iconst (v := (1 : Int32)) hx hb dX5_readText_68 (by decide) ?_
            refine lv_goto (tgt := 73) hx hb dX5_readText_69 (by decide) ?_
            exact J_k10 (1 : Int32) h hw (lv_sub hl [1] rfl)
      intro k6 J_k6 h
      refine jn_elim h (fun (k : Unit → Option (Int32 × (Mm))) => ∀ (u : Unit) {H : Heap} {locs : List Loc} {ls : Array Slot}, k u = some (r, Bf) → Wo γ (st 10 σ o N5) s H locs → lv_has ls 2 [(0, .ref (eA γ o))] → W p l e R s m args below meth c H locs 0 0 (MQ below (Qo γ (some (.int r)) (st 10 σ o Bf)) args s 0 0 (AK γ)) (F0 m 52 ls [])) ?_ ?_
      · intro u H locs ls h hw hl
        refine lv_iconst (v := (0 : Int32)) hx hb dX5_readText_52 (by decide) ?_
        exact J_k6 (0 : Int32) h hw (lv_sub hl [0] rfl)
      intro k18 J_k18 h
      refine lv_icmp_ne (tgt := 52) hx hb dX5_readText_34 (by decide) (fun c19 => ?_) (fun c19 => ?_)
      · replace h := ifn c19 h
        exact J_k18 () h hw (lv_sub hl [0] rfl)
      · replace h := ifp c19 h
        refine lv_aload_n hx hb dX5_readText_37 rfl (lv_at hl 0 rfl) ?_
        refine r_get (v := .int (N5 0 15)) hx hb hts hK hw hown inX5 rfl (X5_k0 hB) (st_at0 (by decide)) 15 (by decide) wd_588 rfl dX5_readText_38 ?_
        refine lv_aload_n hx hb dX5_readText_41 rfl (lv_at hl 0 rfl) ?_
        refine r_get (v := .int (N5 0 7)) hx hb hts hK hw hown inX5 rfl (X5_k0 hB) (st_at0 (by decide)) 7 (by decide) wd_580 rfl dX5_readText_42 ?_
        refine lv_icmp_ge (tgt := 52) hx hb dX5_readText_45 (by decide) (fun c20 => ?_) (fun c20 => ?_)
        · replace h := ifp c20 h
          exact J_k18 () h hw (lv_sub hl [0] rfl)
        · replace h := ifn c20 h
          refine lv_iconst (v := (1 : Int32)) hx hb dX5_readText_48 (by decide) ?_
          refine lv_goto (tgt := 53) hx hb dX5_readText_49 (by decide) ?_
          exact J_k6 (1 : Int32) h hw (lv_sub hl [0] rfl)
set_option maxHeartbeats 4000000 in
set_option maxRecDepth 10000 in
theorem b_X5_readText {γ : Ev} {o : Nat} {σ : Mm} {Bf : Mm} {r : Int32} {Z : Mm} (C : Cx p R s m args meth c RX5 cX5_readText 2 (some .int) 4 98 γ) (hB : isX5 γ o) (h : s_X5_readText Z = some (r, Bf)) (hw : Wo γ (st 10 σ o Z) s H locs) (hl : lv_has ls 2 [(0, .ref (eA γ o))]) : W p l e R s m args below meth c H locs 0 0 (MQ below (Qo γ (some (.int r)) (st 10 σ o Bf)) args s 0 0 (AK γ)) (F0 m 0 ls []) := by
  have C0 := C
  obtain ⟨hx, hb, hr, hml, hown, hts, hlk, hK, hd, hF, hL⟩ := C
  unfold s_X5_readText at h
  refine lv_aload_n hx hb dX5_readText_0 rfl (lv_at hl 0 rfl) ?_
  refine lv_iconst (v := (0 : Int32)) hx hb dX5_readText_1 (by decide) ?_
  obtain ⟨N1, hN1, h⟩ := ob h
  refine r_put (x := (0 : Int32)) (ty := .int) hx hb hts hK hd hw hown inX5 tyX5 tyX5_ok nmX5 rfl (by decide) (X5_k0 hB) 14 (by decide) wd_587 rfl rfl rfl rfl (fun _ => (Nat.le_of_ble_eq_true rfl)) (fun _ => rfl) hN1 dX5_readText_2 (fun {H} {locs} hw => ?_)
  refine lv_aload_n hx hb dX5_readText_5 rfl (lv_at hl 0 rfl) ?_
  refine lv_iconst (v := (0 : Int32)) hx hb dX5_readText_6 (by decide) ?_
  obtain ⟨N2, hN2, h⟩ := ob h
  refine r_put (x := (0 : Int32)) (ty := .int) hx hb hts hK hd hw hown inX5 tyX5 tyX5_ok nmX5 rfl (by decide) (X5_k0 hB) 15 (by decide) wd_588 rfl rfl rfl rfl (fun _ => (Nat.le_of_ble_eq_true rfl)) (fun _ => rfl) hN2 dX5_readText_7 (fun {H} {locs} hw => ?_)
  refine lv_aload_n hx hb dX5_readText_10 rfl (lv_at hl 0 rfl) ?_
  refine lv_sipush (v := (-10005 : Int32)) hx hb dX5_readText_11 (by decide) ?_
  obtain ⟨N3, hN3, h⟩ := ob h
  refine r_put (x := (-10005 : Int32)) (ty := .int) hx hb hts hK hd hw hown inX5 tyX5 tyX5_ok nmX5 rfl (by decide) (X5_k0 hB) 16 (by decide) wd_589 rfl rfl rfl rfl (fun _ => (Nat.le_of_ble_eq_true rfl)) (fun _ => rfl) hN3 dX5_readText_14 (fun {H} {locs} hw => ?_)
  refine lv_iconst (v := (1 : Int32)) hx hb dX5_readText_17 (by decide) ?_
  refine lv_istore_n (lv' := [(1, .int (1 : Int32)), (0, .ref (eA γ o))]) hx hb dX5_readText_18 rfl hl (by decide) rfl (fun ls hl => ?_)
  exact b_X5_readText_L19 C0 hB 1000 h hw (lv_sub hl [1, 0] rfl)
theorem c_X5_readText {l : Launch} {γ : Ev} {o : Nat} {σ : Mm} {Bf : Mm} {r : Int32} {Z : Mm} (hB : isX5 γ o) (h : s_X5_readText Z = some (r, Bf)) : Ct l yX5_readText cX5_readText 2 (some .int) 4 98 γ [.ref (eA γ o)] (st 10 σ o Z) (some (.int r)) (st 10 σ o Bf) := Ct.of (own := RX5) (by decide +kernel) rfl (Nat.le_of_ble_eq_true rfl) (fun C hw ls hl => b_X5_readText C hB h hw hl)
set_option maxHeartbeats 4000000 in
set_option maxRecDepth 10000 in
theorem b_X5_perform_L162 {γ : Ev} {o : Nat} {σ : Mm} {Bf : Mm} {r : Int32} (C : Cx p R s m args meth c RX5 cX5_perform 5 (some .int) 6 147 γ) (hB : isX5 γ o) : ∀ (n : Nat) {Z : Mm} {x2 : Int32} {H : Heap} {locs : List Loc} {ls : Array Slot}, s_X5_perform_L162 n Z x2 = some (r, Bf) → Wo γ (st 10 σ o Z) s H locs → lv_has ls 5 [(0, .ref (eA γ o)), (2, .int x2)] → W p l e R s m args below meth c H locs 0 0 (MQ below (Qo γ (some (.int r)) (st 10 σ o Bf)) args s 0 0 (AK γ)) (F0 m 162 ls []) := by
  have C0 := C
  obtain ⟨hx, hb, hr, hml, hown, hts, hlk, hK, hd, hF, hL⟩ := C
  intro n
  induction n with
  | zero => intro Z x2 H locs ls h; cases h
  | succ n ih =>
    intro Z x2 H locs ls h hw hl
    unfold s_X5_perform_L162 at h
    refine lv_iload_n hx hb dX5_perform_162 rfl (lv_at hl 1 rfl) ?_
    refine lv_sipush (v := (243 : Int32)) hx hb dX5_perform_163 (by decide) ?_
    refine lv_icmp_ge (tgt := 198) hx hb dX5_perform_166 (by decide) (fun c7 => ?_) (fun c7 => ?_)
    · replace h := ifp c7 h
      refine lv_aload_n hx hb dX5_perform_198 rfl (lv_at hl 0 rfl) ?_
      refine r_get (v := .int (Z 0 14)) hx hb hts hK hw hown inX5 rfl (X5_k0 hB) (st_at0 (by decide)) 14 (by decide) wd_587 rfl dX5_perform_199 ?_
      obtain ⟨h1, h2⟩ := s2 h
      subst h1
      subst h2
      exact r_iret hx hb hr hlk hK hd hw dX5_perform_202
    · replace h := ifn c7 h
      refine lv_aload_n hx hb dX5_perform_169 rfl (lv_at hl 0 rfl) ?_
      refine r_get (v := .ref (eA γ (o + 2))) hx hb hts hK hw hown inX5 rfl (X5_k0 hB) (st_at0 (by decide)) 1 (by decide) wd_574 rfl dX5_perform_170 ?_
      refine lv_aload_n hx hb dX5_perform_173 rfl (lv_at hl 0 rfl) ?_
      refine r_get (v := .int (Z 0 2)) hx hb hts hK hw hown inX5 rfl (X5_k0 hB) (st_at0 (by decide)) 2 (by decide) wd_575 rfl dX5_perform_174 ?_
      refine lv_iconst (v := (1 : Int32)) hx hb dX5_perform_177 (by decide) ?_
      refine lv_isub hx hb dX5_perform_178 ?_
      refine lv_sipush (v := (243 : Int32)) hx hb dX5_perform_179 (by decide) ?_
      refine lv_imul hx hb dX5_perform_182 ?_
      refine lv_iload_n hx hb dX5_perform_183 rfl (lv_at hl 1 rfl) ?_
      refine lv_iadd hx hb dX5_perform_184 ?_
      refine lv_aload_n hx hb dX5_perform_185 rfl (lv_at hl 0 rfl) ?_
      refine r_get (v := .ref (eA γ (o + 4))) hx hb hts hK hw hown inX5 rfl (X5_k0 hB) (st_at0 (by decide)) 5 (by decide) wd_578 rfl dX5_perform_186 ?_
      refine lv_iload_n hx hb dX5_perform_189 rfl (lv_at hl 1 rfl) ?_
      obtain ⟨v8, hv8, h⟩ := ob h
      refine r_iald hx hb hK hw (X5_k4 hB) (st_at (by decide)) hv8 dX5_perform_190 ?_
      obtain ⟨N9, hN9, h⟩ := ob h
      refine r_iast hx hb hK hd hw (by decide) (X5_k2 hB) hN9 dX5_perform_191 (fun {H} {locs} hw => ?_)
      obtain ⟨v10, ev10, h⟩ := jb h
      refine lv_iinc (v := v10) (lv' := [(2, .int v10), (0, .ref (eA γ o))]) hx hb dX5_perform_192 hl (k := 1) rfl (by rw [← ev10]; rfl) (by decide) rfl (fun ls hl => ?_)
      refine lv_goto (tgt := 162) hx hb dX5_perform_195 (by decide) ?_
      exact ih h hw (lv_sub hl [1, 0] rfl)
set_option maxHeartbeats 4000000 in
set_option maxRecDepth 10000 in
theorem b_X5_perform_L95 {γ : Ev} {o : Nat} {σ : Mm} {Bf : Mm} {r : Int32} (C : Cx p R s m args meth c RX5 cX5_perform 5 (some .int) 6 147 γ) (hB : isX5 γ o) : ∀ (n : Nat) {Z : Mm} {x4 : Int32} {H : Heap} {locs : List Loc} {ls : Array Slot}, s_X5_perform_L95 n Z x4 = some (r, Bf) → Wo γ (st 10 σ o Z) s H locs → lv_has ls 5 [(0, .ref (eA γ o)), (4, .int x4)] → W p l e R s m args below meth c H locs 0 0 (MQ below (Qo γ (some (.int r)) (st 10 σ o Bf)) args s 0 0 (AK γ)) (F0 m 95 ls []) := by
  have C0 := C
  obtain ⟨hx, hb, hr, hml, hown, hts, hlk, hK, hd, hF, hL⟩ := C
  intro n
  induction n with
  | zero => intro Z x4 H locs ls h; cases h
  | succ n ih =>
    intro Z x4 H locs ls h hw hl
    unfold s_X5_perform_L95 at h
    refine lv_iload hx hb dX5_perform_95 (lv_at hl 1 rfl) ?_
    refine lv_sipush (v := (243 : Int32)) hx hb dX5_perform_97 (by decide) ?_
    refine lv_icmp_ge (tgt := 123) hx hb dX5_perform_100 (by decide) (fun c21 => ?_) (fun c21 => ?_)
    · replace h := ifp c21 h
      refine lv_sipush (v := (-10004 : Int32)) hx hb dX5_perform_123 (by decide) ?_
      obtain ⟨h1, h2⟩ := s2 h
      subst h1
      subst h2
      exact r_iret hx hb hr hlk hK hd hw dX5_perform_126
    · replace h := ifn c21 h
      refine lv_aload_n hx hb dX5_perform_103 rfl (lv_at hl 0 rfl) ?_
      refine r_get (v := .ref (eA γ (o + 1))) hx hb hts hK hw hown inX5 rfl (X5_k0 hB) (st_at0 (by decide)) 0 (by decide) wd_573 rfl dX5_perform_104 ?_
      refine lv_iload hx hb dX5_perform_107 (lv_at hl 1 rfl) ?_
      refine lv_aload_n hx hb dX5_perform_109 rfl (lv_at hl 0 rfl) ?_
      refine r_get (v := .ref (eA γ (o + 4))) hx hb hts hK hw hown inX5 rfl (X5_k0 hB) (st_at0 (by decide)) 5 (by decide) wd_578 rfl dX5_perform_110 ?_
      refine lv_iload hx hb dX5_perform_113 (lv_at hl 1 rfl) ?_
      obtain ⟨v22, hv22, h⟩ := ob h
      refine r_iald hx hb hK hw (X5_k4 hB) (st_at (by decide)) hv22 dX5_perform_115 ?_
      obtain ⟨N23, hN23, h⟩ := ob h
      refine r_iast hx hb hK hd hw (by decide) (X5_k1 hB) hN23 dX5_perform_116 (fun {H} {locs} hw => ?_)
      obtain ⟨v24, ev24, h⟩ := jb h
      refine lv_iinc (v := v24) (lv' := [(4, .int v24), (0, .ref (eA γ o))]) hx hb dX5_perform_117 hl (k := 1) rfl (by rw [← ev24]; rfl) (by decide) rfl (fun ls hl => ?_)
      refine lv_goto (tgt := 95) hx hb dX5_perform_120 (by decide) ?_
      exact ih h hw (lv_sub hl [1, 0] rfl)
set_option maxHeartbeats 4000000 in
set_option maxRecDepth 10000 in
theorem b_X5_perform_L47 {γ : Ev} {o : Nat} {σ : Mm} {Bf : Mm} {r : Int32} (C : Cx p R s m args meth c RX5 cX5_perform 5 (some .int) 6 147 γ) (hB : isX5 γ o) : ∀ (n : Nat) {Z : Mm} {x2 : Int32} {H : Heap} {locs : List Loc} {ls : Array Slot}, s_X5_perform_L47 n Z x2 = some (r, Bf) → Wo γ (st 10 σ o Z) s H locs → lv_has ls 5 [(0, .ref (eA γ o)), (2, .int x2)] → W p l e R s m args below meth c H locs 0 0 (MQ below (Qo γ (some (.int r)) (st 10 σ o Bf)) args s 0 0 (AK γ)) (F0 m 47 ls []) := by
  have C0 := C
  obtain ⟨hx, hb, hr, hml, hown, hts, hlk, hK, hd, hF, hL⟩ := C
  intro n
  induction n with
  | zero => intro Z x2 H locs ls h; cases h
  | succ n ih =>
    intro Z x2 H locs ls h hw hl
    unfold s_X5_perform_L47 at h
    refine lv_iload_n hx hb dX5_perform_47 rfl (lv_at hl 1 rfl) ?_
    refine lv_aload_n hx hb dX5_perform_48 rfl (lv_at hl 0 rfl) ?_
    refine r_get (v := .int (Z 0 14)) hx hb hts hK hw hown inX5 rfl (X5_k0 hB) (st_at0 (by decide)) 14 (by decide) wd_587 rfl dX5_perform_49 ?_
    refine lv_icmp_ge (tgt := 156) hx hb dX5_perform_52 (by decide) (fun c5 => ?_) (fun c5 => ?_)
    · replace h := ifp c5 h
      refine lv_aload_n hx hb dX5_perform_156 rfl (lv_at hl 0 rfl) ?_
      obtain ⟨N6, hN6, h⟩ := ob h
      refine r_Vv (rest := []) C0 z0 (c_X5_record hB hN6) lk_X5_81 (X5_k0 hB) rfl rfl hl.1 rfl (Nat.le_of_ble_eq_true rfl) (by decide) hw dX5_perform_157 (fun {H} {locs} hw => ?_)
      refine lv_iconst (v := (0 : Int32)) hx hb dX5_perform_160 (by decide) ?_
      refine lv_istore_n (lv' := [(2, .int (0 : Int32)), (0, .ref (eA γ o))]) hx hb dX5_perform_161 rfl hl (by decide) rfl (fun ls hl => ?_)
      exact b_X5_perform_L162 C0 hB 1000 h hw (lv_sub hl [1, 0] rfl)
    · replace h := ifn c5 h
      refine lv_aload_n hx hb dX5_perform_55 rfl (lv_at hl 0 rfl) ?_
      refine lv_aload_n hx hb dX5_perform_56 rfl (lv_at hl 0 rfl) ?_
      refine r_get (v := .ref (eA γ (o + 9))) hx hb hts hK hw hown inX5 rfl (X5_k0 hB) (st_at0 (by decide)) 13 (by decide) wd_586 rfl dX5_perform_57 ?_
      refine lv_iconst (v := (2 : Int32)) hx hb dX5_perform_60 (by decide) ?_
      refine lv_iload_n hx hb dX5_perform_61 rfl (lv_at hl 1 rfl) ?_
      refine lv_imul hx hb dX5_perform_62 ?_
      obtain ⟨v11, hv11, h⟩ := ob h
      refine r_iald hx hb hK hw (X5_k9 hB) (st_at (by decide)) hv11 dX5_perform_63 ?_
      refine lv_aload_n hx hb dX5_perform_64 rfl (lv_at hl 0 rfl) ?_
      refine r_get (v := .ref (eA γ (o + 9))) hx hb hts hK hw hown inX5 rfl (X5_k0 hB) (st_at0 (by decide)) 13 (by decide) wd_586 rfl dX5_perform_65 ?_
      refine lv_iconst (v := (2 : Int32)) hx hb dX5_perform_68 (by decide) ?_
      refine lv_iload_n hx hb dX5_perform_69 rfl (lv_at hl 1 rfl) ?_
      refine lv_imul hx hb dX5_perform_70 ?_
      refine lv_iconst (v := (1 : Int32)) hx hb dX5_perform_71 (by decide) ?_
      refine lv_iadd hx hb dX5_perform_72 ?_
      obtain ⟨v12, hv12, h⟩ := ob h
      refine r_iald hx hb hK hw (X5_k9 hB) (st_at (by decide)) hv12 dX5_perform_73 ?_
      obtain ⟨v13, hv13, h⟩ := ob h
      refine r_Vi (rest := []) C0 z0 (c_X5_whyNot hB hv13) lk_X5_117 (X5_k0 hB) rfl rfl hl.1 rfl (Nat.le_of_ble_eq_true rfl) (by decide) hw dX5_perform_74 (fun {H} {locs} hw => ?_)
      refine lv_istore_n (lv' := [(3, .int v13), (0, .ref (eA γ o)), (2, .int x2)]) hx hb dX5_perform_77 rfl hl (by decide) rfl (fun ls hl => ?_)
      refine lv_iload_n hx hb dX5_perform_78 rfl (lv_at hl 0 rfl) ?_
      refine lv_if_le (tgt := 127) hx hb dX5_perform_79 (by decide) (fun c14 => ?_) (fun c14 => ?_)
      · replace h := ifp c14 h
        refine lv_aload_n hx hb dX5_perform_127 rfl (lv_at hl 1 rfl) ?_
        refine lv_aload_n hx hb dX5_perform_128 rfl (lv_at hl 1 rfl) ?_
        refine r_get (v := .ref (eA γ (o + 9))) hx hb hts hK hw hown inX5 rfl (X5_k0 hB) (st_at0 (by decide)) 13 (by decide) wd_586 rfl dX5_perform_129 ?_
        refine lv_iconst (v := (2 : Int32)) hx hb dX5_perform_132 (by decide) ?_
        refine lv_iload_n hx hb dX5_perform_133 rfl (lv_at hl 2 rfl) ?_
        refine lv_imul hx hb dX5_perform_134 ?_
        obtain ⟨v15, hv15, h⟩ := ob h
        refine r_iald hx hb hK hw (X5_k9 hB) (st_at (by decide)) hv15 dX5_perform_135 ?_
        refine lv_aload_n hx hb dX5_perform_136 rfl (lv_at hl 1 rfl) ?_
        refine r_get (v := .ref (eA γ (o + 9))) hx hb hts hK hw hown inX5 rfl (X5_k0 hB) (st_at0 (by decide)) 13 (by decide) wd_586 rfl dX5_perform_137 ?_
        refine lv_iconst (v := (2 : Int32)) hx hb dX5_perform_140 (by decide) ?_
        refine lv_iload_n hx hb dX5_perform_141 rfl (lv_at hl 2 rfl) ?_
        refine lv_imul hx hb dX5_perform_142 ?_
        refine lv_iconst (v := (1 : Int32)) hx hb dX5_perform_143 (by decide) ?_
        refine lv_iadd hx hb dX5_perform_144 ?_
        obtain ⟨v16, hv16, h⟩ := ob h
        refine r_iald hx hb hK hw (X5_k9 hB) (st_at (by decide)) hv16 dX5_perform_145 ?_
        obtain ⟨q17, hq17, h⟩ := ob h
        refine r_Vi (rest := []) C0 z0 (c_X5_moveIt hB hq17) lk_X5_120 (X5_k0 hB) rfl rfl hl.1 rfl (Nat.le_of_ble_eq_true rfl) (by decide) hw dX5_perform_146 (fun {H} {locs} hw => ?_)
        refine lv_pop hx hb dX5_perform_149 rfl ?_
        obtain ⟨v18, ev18, h⟩ := jb h
        refine lv_iinc (v := v18) (lv' := [(2, .int v18), (3, .int v13), (0, .ref (eA γ o))]) hx hb dX5_perform_150 hl (k := 2) rfl (by rw [← ev18]; rfl) (by decide) rfl (fun ls hl => ?_)
        refine lv_goto (tgt := 47) hx hb dX5_perform_153 (by decide) ?_
        exact ih h hw (lv_sub hl [2, 0] rfl)
      · replace h := ifn c14 h
        refine lv_aload_n hx hb dX5_perform_82 rfl (lv_at hl 1 rfl) ?_
        refine lv_iload_n hx hb dX5_perform_83 rfl (lv_at hl 2 rfl) ?_
        obtain ⟨N19, hN19, h⟩ := ob h
        refine r_put (x := x2) (ty := .int) hx hb hts hK hd hw hown inX5 tyX5 tyX5_ok nmX5 rfl (by decide) (X5_k0 hB) 8 (by decide) wd_581 rfl rfl rfl rfl (fun _ => (Nat.le_of_ble_eq_true rfl)) (fun _ => rfl) hN19 dX5_perform_84 (fun {H} {locs} hw => ?_)
        refine lv_aload_n hx hb dX5_perform_87 rfl (lv_at hl 1 rfl) ?_
        refine lv_iload_n hx hb dX5_perform_88 rfl (lv_at hl 0 rfl) ?_
        obtain ⟨N20, hN20, h⟩ := ob h
        refine r_put (x := v13) (ty := .int) hx hb hts hK hd hw hown inX5 tyX5 tyX5_ok nmX5 rfl (by decide) (X5_k0 hB) 9 (by decide) wd_582 rfl rfl rfl rfl (fun _ => (Nat.le_of_ble_eq_true rfl)) (fun _ => rfl) hN20 dX5_perform_89 (fun {H} {locs} hw => ?_)
        refine lv_iconst (v := (0 : Int32)) hx hb dX5_perform_92 (by decide) ?_
        refine lv_istore (lv' := [(4, .int (0 : Int32)), (3, .int v13), (0, .ref (eA γ o)), (2, .int x2)]) hx hb dX5_perform_93 hl (by decide) rfl (fun ls hl => ?_)
        exact b_X5_perform_L95 C0 hB 1000 h hw (lv_sub hl [2, 0] rfl)
set_option maxHeartbeats 4000000 in
set_option maxRecDepth 10000 in
theorem b_X5_perform_L20 {γ : Ev} {o : Nat} {σ : Mm} {Bf : Mm} {r : Int32} (C : Cx p R s m args meth c RX5 cX5_perform 5 (some .int) 6 147 γ) (hB : isX5 γ o) : ∀ (n : Nat) {Z : Mm} {x2 : Int32} {H : Heap} {locs : List Loc} {ls : Array Slot}, s_X5_perform_L20 n Z x2 = some (r, Bf) → Wo γ (st 10 σ o Z) s H locs → lv_has ls 5 [(0, .ref (eA γ o)), (2, .int x2)] → W p l e R s m args below meth c H locs 0 0 (MQ below (Qo γ (some (.int r)) (st 10 σ o Bf)) args s 0 0 (AK γ)) (F0 m 20 ls []) := by
  have C0 := C
  obtain ⟨hx, hb, hr, hml, hown, hts, hlk, hK, hd, hF, hL⟩ := C
  intro n
  induction n with
  | zero => intro Z x2 H locs ls h; cases h
  | succ n ih =>
    intro Z x2 H locs ls h hw hl
    unfold s_X5_perform_L20 at h
    refine lv_iload_n hx hb dX5_perform_20 rfl (lv_at hl 1 rfl) ?_
    refine lv_sipush (v := (243 : Int32)) hx hb dX5_perform_21 (by decide) ?_
    refine lv_icmp_ge (tgt := 45) hx hb dX5_perform_24 (by decide) (fun c4 => ?_) (fun c4 => ?_)
    · replace h := ifp c4 h
      refine lv_iconst (v := (0 : Int32)) hx hb dX5_perform_45 (by decide) ?_
      refine lv_istore_n (lv' := [(2, .int (0 : Int32)), (0, .ref (eA γ o))]) hx hb dX5_perform_46 rfl hl (by decide) rfl (fun ls hl => ?_)
      exact b_X5_perform_L47 C0 hB 1000 h hw (lv_sub hl [1, 0] rfl)
    · replace h := ifn c4 h
      refine lv_aload_n hx hb dX5_perform_27 rfl (lv_at hl 0 rfl) ?_
      refine r_get (v := .ref (eA γ (o + 4))) hx hb hts hK hw hown inX5 rfl (X5_k0 hB) (st_at0 (by decide)) 5 (by decide) wd_578 rfl dX5_perform_28 ?_
      refine lv_iload_n hx hb dX5_perform_31 rfl (lv_at hl 1 rfl) ?_
      refine lv_aload_n hx hb dX5_perform_32 rfl (lv_at hl 0 rfl) ?_
      refine r_get (v := .ref (eA γ (o + 1))) hx hb hts hK hw hown inX5 rfl (X5_k0 hB) (st_at0 (by decide)) 0 (by decide) wd_573 rfl dX5_perform_33 ?_
      refine lv_iload_n hx hb dX5_perform_36 rfl (lv_at hl 1 rfl) ?_
      obtain ⟨v25, hv25, h⟩ := ob h
      refine r_iald hx hb hK hw (X5_k1 hB) (st_at (by decide)) hv25 dX5_perform_37 ?_
      obtain ⟨N26, hN26, h⟩ := ob h
      refine r_iast hx hb hK hd hw (by decide) (X5_k4 hB) hN26 dX5_perform_38 (fun {H} {locs} hw => ?_)
      obtain ⟨v27, ev27, h⟩ := jb h
      refine lv_iinc (v := v27) (lv' := [(2, .int v27), (0, .ref (eA γ o))]) hx hb dX5_perform_39 hl (k := 1) rfl (by rw [← ev27]; rfl) (by decide) rfl (fun ls hl => ?_)
      refine lv_goto (tgt := 20) hx hb dX5_perform_42 (by decide) ?_
      exact ih h hw (lv_sub hl [1, 0] rfl)
set_option maxHeartbeats 4000000 in
set_option maxRecDepth 10000 in
theorem b_X5_perform {γ : Ev} {o : Nat} {σ : Mm} {Bf : Mm} {r : Int32} {Z : Mm} (C : Cx p R s m args meth c RX5 cX5_perform 5 (some .int) 6 147 γ) (hB : isX5 γ o) (h : s_X5_perform Z = some (r, Bf)) (hw : Wo γ (st 10 σ o Z) s H locs) (hl : lv_has ls 5 [(0, .ref (eA γ o))]) : W p l e R s m args below meth c H locs 0 0 (MQ below (Qo γ (some (.int r)) (st 10 σ o Bf)) args s 0 0 (AK γ)) (F0 m 0 ls []) := by
  have C0 := C
  obtain ⟨hx, hb, hr, hml, hown, hts, hlk, hK, hd, hF, hL⟩ := C
  unfold s_X5_perform at h
  refine lv_aload_n hx hb dX5_perform_0 rfl (lv_at hl 0 rfl) ?_
  obtain ⟨q1, hq1, h⟩ := ob h
  refine r_Vi (rest := []) C0 z0 (c_X5_readText hB hq1) lk_X5_203 (X5_k0 hB) rfl rfl hl.1 rfl (Nat.le_of_ble_eq_true rfl) (by decide) hw dX5_perform_1 (fun {H} {locs} hw => ?_)
  obtain ⟨v2, ev2, h⟩ := jb h
  refine r_top ev2 ?_
  refine lv_istore_n (lv' := [(1, .int v2), (0, .ref (eA γ o))]) hx hb dX5_perform_4 rfl hl (by decide) rfl (fun ls hl => ?_)
  refine lv_iload_n hx hb dX5_perform_5 rfl (lv_at hl 0 rfl) ?_
  refine lv_sipush (v := (-10005 : Int32)) hx hb dX5_perform_6 (by decide) ?_
  refine lv_icmp_eq (tgt := 18) hx hb dX5_perform_9 (by decide) (fun c3 => ?_) (fun c3 => ?_)
  · replace h := ifp c3 h
    refine lv_iconst (v := (0 : Int32)) hx hb dX5_perform_18 (by decide) ?_
    refine lv_istore_n (lv' := [(2, .int (0 : Int32)), (1, .int v2), (0, .ref (eA γ o))]) hx hb dX5_perform_19 rfl hl (by decide) rfl (fun ls hl => ?_)
    exact b_X5_perform_L20 C0 hB 1000 h hw (lv_sub hl [2, 0] rfl)
  · replace h := ifn c3 h
    refine lv_sipush (v := (-10100 : Int32)) hx hb dX5_perform_12 (by decide) ?_
    refine lv_iload_n hx hb dX5_perform_15 rfl (lv_at hl 0 rfl) ?_
    refine lv_isub hx hb dX5_perform_16 ?_
    obtain ⟨h1, h2⟩ := s2 h
    subst h1
    subst h2
    exact r_iret hx hb hr hlk hK hd hw dX5_perform_17
theorem c_X5_perform {l : Launch} {γ : Ev} {o : Nat} {σ : Mm} {Bf : Mm} {r : Int32} {Z : Mm} (hB : isX5 γ o) (h : s_X5_perform Z = some (r, Bf)) : Ct l yX5_perform cX5_perform 5 (some .int) 6 147 γ [.ref (eA γ o)] (st 10 σ o Z) (some (.int r)) (st 10 σ o Bf) := Ct.of (own := RX5) (by decide +kernel) rfl (Nat.le_of_ble_eq_true rfl) (fun C hw ls hl => b_X5_perform C hB h hw hl)
set_option maxHeartbeats 4000000 in
set_option maxRecDepth 10000 in
theorem b_X5_stopped {γ : Ev} {o : Nat} {σ : Mm} {r : Int32} {Z : Mm} {x1 : Int32} (C : Cx p R s m args meth c RX5 cX5_stopped 2 (some .int) 1 30 γ) (hB : isX5 γ o) (h : s_X5_stopped Z x1 = some r) (hw : Wo γ (st 10 σ o Z) s H locs) (hl : lv_has ls 2 [(0, .ref (eA γ o)), (1, .int x1)]) : W p l e R s m args below meth c H locs 0 0 (MQ below (Qo γ (some (.int r)) (st 10 σ o Z)) args s 0 0 (AK γ)) (F0 m 0 ls []) := by
  have C0 := C
  obtain ⟨hx, hb, hr, hml, hown, hts, hlk, hK, hd, hF, hL⟩ := C
  unfold s_X5_stopped at h
  refine lv_iload_n hx hb dX5_stopped_0 rfl (lv_at hl 1 rfl) ?_
  refine lv_if_ne (tgt := 11) hx hb dX5_stopped_1 (by decide) (fun c1 => ?_) (fun c1 => ?_)
  · replace h := ifn c1 h
    refine lv_iload_n hx hb dX5_stopped_11 rfl (lv_at hl 1 rfl) ?_
    refine lv_iconst (v := (1 : Int32)) hx hb dX5_stopped_12 (by decide) ?_
    refine lv_icmp_ne (tgt := 23) hx hb dX5_stopped_13 (by decide) (fun c2 => ?_) (fun c2 => ?_)
    · replace h := ifn c2 h
      refine lv_sipush (v := (-10002 : Int32)) hx hb dX5_stopped_23 (by decide) ?_
      have h1 := Option.some.inj h
      subst h1
      exact r_iret hx hb hr hlk hK hd hw dX5_stopped_26
    · replace h := ifp c2 h
      refine lv_aload_n hx hb dX5_stopped_16 rfl (lv_at hl 0 rfl) ?_
      refine r_get (v := .int (Z 0 9)) hx hb hts hK hw hown inX5 rfl (X5_k0 hB) (st_at0 (by decide)) 9 (by decide) wd_582 rfl dX5_stopped_17 ?_
      refine lv_goto (tgt := 26) hx hb dX5_stopped_20 (by decide) ?_
      have h1 := Option.some.inj h
      subst h1
      exact r_iret hx hb hr hlk hK hd hw dX5_stopped_26
  · replace h := ifp c1 h
    refine lv_aload_n hx hb dX5_stopped_4 rfl (lv_at hl 0 rfl) ?_
    refine r_get (v := .int (Z 0 8)) hx hb hts hK hw hown inX5 rfl (X5_k0 hB) (st_at0 (by decide)) 8 (by decide) wd_581 rfl dX5_stopped_5 ?_
    refine lv_goto (tgt := 26) hx hb dX5_stopped_8 (by decide) ?_
    have h1 := Option.some.inj h
    subst h1
    exact r_iret hx hb hr hlk hK hd hw dX5_stopped_26
theorem c_X5_stopped {l : Launch} {γ : Ev} {o : Nat} {σ : Mm} {r : Int32} {Z : Mm} {x1 : Int32} (hB : isX5 γ o) (h : s_X5_stopped Z x1 = some r) : Ct l yX5_stopped cX5_stopped 2 (some .int) 1 30 γ [.ref (eA γ o), .int x1] (st 10 σ o Z) (some (.int r)) (st 10 σ o Z) := Ct.of (own := RX5) (by decide +kernel) rfl (Nat.le_of_ble_eq_true rfl) (fun C hw ls hl => b_X5_stopped C hB h hw hl)
set_option maxHeartbeats 4000000 in
set_option maxRecDepth 10000 in
theorem b_X5_weights_L4 {γ : Ev} {o : Nat} {σ : Mm} {r : Int32} (C : Cx p R s m args meth c RX5 cX5_weights 4 (some .int) 3 71 γ) (hB : isX5 γ o) : ∀ (n : Nat) {Z : Mm} {x1 : Int32} {x2 : Int32} {x3 : Int32} {H : Heap} {locs : List Loc} {ls : Array Slot}, s_X5_weights_L4 n Z x1 x2 x3 = some r → Wo γ (st 10 σ o Z) s H locs → lv_has ls 4 [(0, .ref (eA γ o)), (1, .int x1), (2, .int x2), (3, .int x3)] → W p l e R s m args below meth c H locs 0 0 (MQ below (Qo γ (some (.int r)) (st 10 σ o Z)) args s 0 0 (AK γ)) (F0 m 4 ls []) := by
  have C0 := C
  obtain ⟨hx, hb, hr, hml, hown, hts, hlk, hK, hd, hF, hL⟩ := C
  intro n
  induction n with
  | zero => intro Z x1 x2 x3 H locs ls h; cases h
  | succ n ih =>
    intro Z x1 x2 x3 H locs ls h hw hl
    unfold s_X5_weights_L4 at h
    refine lv_iload_n hx hb dX5_weights_4 rfl (lv_at hl 3 rfl) ?_
    refine lv_aload_n hx hb dX5_weights_5 rfl (lv_at hl 0 rfl) ?_
    refine lv_iload_n hx hb dX5_weights_6 rfl (lv_at hl 1 rfl) ?_
    obtain ⟨v1, hv1, h⟩ := ob h
    refine r_Vi (rest := [.int x3]) C0 z0 (c_X5_many hB hv1) lk_X5_64 (X5_k0 hB) rfl rfl hl.1 rfl (Nat.le_of_ble_eq_true rfl) (by decide) hw dX5_weights_7 (fun {H} {locs} hw => ?_)
    refine lv_icmp_gt (tgt := 33) hx hb dX5_weights_10 (by decide) (fun c2 => ?_) (fun c2 => ?_)
    · replace h := ifp c2 h
      refine lv_iload_n hx hb dX5_weights_33 rfl (lv_at hl 2 rfl) ?_
      have h1 := Option.some.inj h
      subst h1
      exact r_iret hx hb hr hlk hK hd hw dX5_weights_34
    · replace h := ifn c2 h
      refine lv_iload_n hx hb dX5_weights_13 rfl (lv_at hl 2 rfl) ?_
      refine lv_aload_n hx hb dX5_weights_14 rfl (lv_at hl 0 rfl) ?_
      refine r_get (v := .ref (eA γ (o + 1))) hx hb hts hK hw hown inX5 rfl (X5_k0 hB) (st_at0 (by decide)) 0 (by decide) wd_573 rfl dX5_weights_15 ?_
      refine lv_iload_n hx hb dX5_weights_18 rfl (lv_at hl 1 rfl) ?_
      obtain ⟨v3, hv3, h⟩ := ob h
      refine r_Si (rest := [.ref (eA γ (o + 1)), .int x2]) C0 z0 (c_X5_spotOf hv3) lk_X5_60 hl.1 rfl (Nat.le_of_ble_eq_true rfl) (by decide) hw dX5_weights_19 (fun {H} {locs} hw => ?_)
      refine lv_iload_n hx hb dX5_weights_22 rfl (lv_at hl 3 rfl) ?_
      refine lv_iadd hx hb dX5_weights_23 ?_
      obtain ⟨v4, hv4, h⟩ := ob h
      refine r_iald hx hb hK hw (X5_k1 hB) (st_at (by decide)) hv4 dX5_weights_24 ?_
      refine lv_iadd hx hb dX5_weights_25 ?_
      obtain ⟨v5, ev5, h⟩ := jb h
      refine r_top ev5 ?_
      refine lv_istore_n (lv' := [(2, .int v5), (0, .ref (eA γ o)), (1, .int x1), (3, .int x3)]) hx hb dX5_weights_26 rfl hl (by decide) rfl (fun ls hl => ?_)
      obtain ⟨v6, ev6, h⟩ := jb h
      refine lv_iinc (v := v6) (lv' := [(3, .int v6), (2, .int v5), (0, .ref (eA γ o)), (1, .int x1)]) hx hb dX5_weights_27 hl (k := 3) rfl (by rw [← ev6]; rfl) (by decide) rfl (fun ls hl => ?_)
      refine lv_goto (tgt := 4) hx hb dX5_weights_30 (by decide) ?_
      exact ih h hw (lv_sub hl [2, 3, 1, 0] rfl)
set_option maxHeartbeats 4000000 in
set_option maxRecDepth 10000 in
theorem b_X5_weights {γ : Ev} {o : Nat} {σ : Mm} {r : Int32} {Z : Mm} {x1 : Int32} (C : Cx p R s m args meth c RX5 cX5_weights 4 (some .int) 3 71 γ) (hB : isX5 γ o) (h : s_X5_weights Z x1 = some r) (hw : Wo γ (st 10 σ o Z) s H locs) (hl : lv_has ls 4 [(0, .ref (eA γ o)), (1, .int x1)]) : W p l e R s m args below meth c H locs 0 0 (MQ below (Qo γ (some (.int r)) (st 10 σ o Z)) args s 0 0 (AK γ)) (F0 m 0 ls []) := by
  have C0 := C
  obtain ⟨hx, hb, hr, hml, hown, hts, hlk, hK, hd, hF, hL⟩ := C
  unfold s_X5_weights at h
  refine lv_iconst (v := (0 : Int32)) hx hb dX5_weights_0 (by decide) ?_
  refine lv_istore_n (lv' := [(2, .int (0 : Int32)), (0, .ref (eA γ o)), (1, .int x1)]) hx hb dX5_weights_1 rfl hl (by decide) rfl (fun ls hl => ?_)
  refine lv_iconst (v := (1 : Int32)) hx hb dX5_weights_2 (by decide) ?_
  refine lv_istore_n (lv' := [(3, .int (1 : Int32)), (2, .int (0 : Int32)), (0, .ref (eA γ o)), (1, .int x1)]) hx hb dX5_weights_3 rfl hl (by decide) rfl (fun ls hl => ?_)
  exact b_X5_weights_L4 C0 hB 1000 h hw (lv_sub hl [2, 3, 1, 0] rfl)
theorem c_X5_weights {l : Launch} {γ : Ev} {o : Nat} {σ : Mm} {r : Int32} {Z : Mm} {x1 : Int32} (hB : isX5 γ o) (h : s_X5_weights Z x1 = some r) : Ct l yX5_weights cX5_weights 4 (some .int) 3 71 γ [.ref (eA γ o), .int x1] (st 10 σ o Z) (some (.int r)) (st 10 σ o Z) := Ct.of (own := RX5) (by decide +kernel) rfl (Nat.le_of_ble_eq_true rfl) (fun C hw ls hl => b_X5_weights C hB h hw hl)
set_option maxHeartbeats 4000000 in
set_option maxRecDepth 10000 in
theorem b_X5_at {γ : Ev} {o : Nat} {σ : Mm} {r : Int32} {Z : Mm} {x1 x2 : Int32} (C : Cx p R s m args meth c RX5 cX5_at 3 (some .int) 4 94 γ) (hB : isX5 γ o) (h : s_X5_at Z x1 x2 = some r) (hw : Wo γ (st 10 σ o Z) s H locs) (hl : lv_has ls 3 [(0, .ref (eA γ o)), (1, .int x1), (2, .int x2)]) : W p l e R s m args below meth c H locs 0 0 (MQ below (Qo γ (some (.int r)) (st 10 σ o Z)) args s 0 0 (AK γ)) (F0 m 0 ls []) := by
  have C0 := C
  obtain ⟨hx, hb, hr, hml, hown, hts, hlk, hK, hd, hF, hL⟩ := C
  unfold s_X5_at at h
  refine lv_iload_n hx hb dX5_at_0 rfl (lv_at hl 1 rfl) ?_
  obtain ⟨v1, hv1, h⟩ := ob h
  refine r_Si (rest := []) C0 z0 (c_X5_isPlace hv1) lk_X5_100 hl.1 rfl (Nat.le_of_ble_eq_true rfl) (by decide) hw dX5_at_1 (fun {H} {locs} hw => ?_)
  refine lv_if_ne (tgt := 11) hx hb dX5_at_4 (by decide) (fun c2 => ?_) (fun c2 => ?_)
  · replace h := ifn c2 h
    refine lv_iload_n hx hb dX5_at_11 rfl (lv_at hl 2 rfl) ?_
    by_cases c3 : x2 = (0 : Int32)
    · replace h := ifp c3 h
      refine r_tabIn (tgt := 44) (off := 32) hx hb dX5_at_12 c3 (by decide) (by decide) (by decide) (by decide) ?_
      refine lv_aload_n hx hb dX5_at_44 rfl (lv_at hl 0 rfl) ?_
      refine lv_iload_n hx hb dX5_at_45 rfl (lv_at hl 1 rfl) ?_
      obtain ⟨v4, hv4, h⟩ := ob h
      refine r_Vi (rest := []) C0 z0 (c_X5_many hB hv4) lk_X5_64 (X5_k0 hB) rfl rfl hl.1 rfl (Nat.le_of_ble_eq_true rfl) (by decide) hw dX5_at_46 (fun {H} {locs} hw => ?_)
      have h1 := Option.some.inj h
      subst h1
      exact r_iret hx hb hr hlk hK hd hw dX5_at_49
    replace h := ifn c3 h
    by_cases c5 : x2 = (1 : Int32)
    · replace h := ifp c5 h
      refine r_tabIn (tgt := 50) (off := 38) hx hb dX5_at_12 c5 (by decide) (by decide) (by decide) (by decide) ?_
      refine lv_aload_n hx hb dX5_at_50 rfl (lv_at hl 0 rfl) ?_
      refine lv_iload_n hx hb dX5_at_51 rfl (lv_at hl 1 rfl) ?_
      obtain ⟨v6, hv6, h⟩ := ob h
      refine r_Vi (rest := []) C0 z0 (c_X5_weights hB hv6) lk_X5_206 (X5_k0 hB) rfl rfl hl.1 rfl (Nat.le_of_ble_eq_true rfl) (by decide) hw dX5_at_52 (fun {H} {locs} hw => ?_)
      have h1 := Option.some.inj h
      subst h1
      exact r_iret hx hb hr hlk hK hd hw dX5_at_55
    replace h := ifn c5 h
    by_cases c7 : x2 = (2 : Int32)
    · replace h := ifp c7 h
      refine r_tabIn (tgt := 56) (off := 44) hx hb dX5_at_12 c7 (by decide) (by decide) (by decide) (by decide) ?_
      refine lv_aload_n hx hb dX5_at_56 rfl (lv_at hl 0 rfl) ?_
      refine lv_iload_n hx hb dX5_at_57 rfl (lv_at hl 1 rfl) ?_
      obtain ⟨v8, hv8, h⟩ := ob h
      refine r_Vi (rest := []) C0 z0 (c_X5_many hB hv8) lk_X5_64 (X5_k0 hB) rfl rfl hl.1 rfl (Nat.le_of_ble_eq_true rfl) (by decide) hw dX5_at_58 (fun {H} {locs} hw => ?_)
      refine lv_if_ne (tgt := 70) hx hb dX5_at_61 (by decide) (fun c9 => ?_) (fun c9 => ?_)
      · replace h := ifn c9 h
        refine lv_aload_n hx hb dX5_at_70 rfl (lv_at hl 0 rfl) ?_
        refine lv_iload_n hx hb dX5_at_71 rfl (lv_at hl 1 rfl) ?_
        obtain ⟨v10, hv10, h⟩ := ob h
        refine r_Vi (rest := []) C0 z0 (c_X5_top hB hv10) lk_X5_209 (X5_k0 hB) rfl rfl hl.1 rfl (Nat.le_of_ble_eq_true rfl) (by decide) hw dX5_at_72 (fun {H} {locs} hw => ?_)
        have h1 := Option.some.inj h
        subst h1
        exact r_iret hx hb hr hlk hK hd hw dX5_at_75
      · replace h := ifp c9 h
        refine lv_sipush (v := (-10005 : Int32)) hx hb dX5_at_64 (by decide) ?_
        refine lv_goto (tgt := 75) hx hb dX5_at_67 (by decide) ?_
        have h1 := Option.some.inj h
        subst h1
        exact r_iret hx hb hr hlk hK hd hw dX5_at_75
    replace h := ifn c7 h
    by_cases c11 : x2 = (3 : Int32)
    · replace h := ifp c11 h
      refine r_tabIn (tgt := 76) (off := 64) hx hb dX5_at_12 c11 (by decide) (by decide) (by decide) (by decide) ?_
      refine lv_aload_n hx hb dX5_at_76 rfl (lv_at hl 0 rfl) ?_
      refine lv_iload_n hx hb dX5_at_77 rfl (lv_at hl 1 rfl) ?_
      obtain ⟨v12, hv12, h⟩ := ob h
      refine r_Vi (rest := []) C0 z0 (c_X5_weights hB hv12) lk_X5_206 (X5_k0 hB) rfl rfl hl.1 rfl (Nat.le_of_ble_eq_true rfl) (by decide) hw dX5_at_78 (fun {H} {locs} hw => ?_)
      refine lv_iload_n hx hb dX5_at_81 rfl (lv_at hl 1 rfl) ?_
      refine lv_imul hx hb dX5_at_82 ?_
      have h1 := Option.some.inj h
      subst h1
      exact r_iret hx hb hr hlk hK hd hw dX5_at_83
    replace h := ifn c11 h
    refine lv_tableOut (tgt := 84) hx hb dX5_at_12 (by have q0 := i32_ne (z := 0) rfl c3; have q1 := i32_ne (z := 1) rfl c5; have q2 := i32_ne (z := 2) rfl c7; have q3 := i32_ne (z := 3) rfl c11; omega) (by decide) ?_
    refine lv_sipush (v := (-10002 : Int32)) hx hb dX5_at_84 (by decide) ?_
    have h1 := Option.some.inj h
    subst h1
    exact r_iret hx hb hr hlk hK hd hw dX5_at_87
  · replace h := ifp c2 h
    refine lv_sipush (v := (-10001 : Int32)) hx hb dX5_at_7 (by decide) ?_
    have h1 := Option.some.inj h
    subst h1
    exact r_iret hx hb hr hlk hK hd hw dX5_at_10
theorem c_X5_at {l : Launch} {γ : Ev} {o : Nat} {σ : Mm} {r : Int32} {Z : Mm} {x1 x2 : Int32} (hB : isX5 γ o) (h : s_X5_at Z x1 x2 = some r) : Ct l yX5_at cX5_at 3 (some .int) 4 94 γ [.ref (eA γ o), .int x1, .int x2] (st 10 σ o Z) (some (.int r)) (st 10 σ o Z) := Ct.of (own := RX5) (by decide +kernel) rfl (Nat.le_of_ble_eq_true rfl) (fun C hw ls hl => b_X5_at C hB h hw hl)
set_option maxHeartbeats 4000000 in
set_option maxRecDepth 10000 in
theorem b_X5_bag {γ : Ev} {o : Nat} {σ : Mm} {r : Int32} {Z : Mm} {x1 x2 : Int32} (C : Cx p R s m args meth c RX5 cX5_bag 3 (some .int) 4 97 γ) (hB : isX5 γ o) (h : s_X5_bag Z x1 x2 = some r) (hw : Wo γ (st 10 σ o Z) s H locs) (hl : lv_has ls 3 [(0, .ref (eA γ o)), (1, .int x1), (2, .int x2)]) : W p l e R s m args below meth c H locs 0 0 (MQ below (Qo γ (some (.int r)) (st 10 σ o Z)) args s 0 0 (AK γ)) (F0 m 0 ls []) := by
  have C0 := C
  obtain ⟨hx, hb, hr, hml, hown, hts, hlk, hK, hd, hF, hL⟩ := C
  unfold s_X5_bag at h
  refine lv_iload_n hx hb dX5_bag_0 rfl (lv_at hl 1 rfl) ?_
  obtain ⟨v1, hv1, h⟩ := ob h
  refine r_Si (rest := []) C0 z0 (c_X5_isSide hv1) lk_X5_168 hl.1 rfl (Nat.le_of_ble_eq_true rfl) (by decide) hw dX5_bag_1 (fun {H} {locs} hw => ?_)
  refine lv_if_eq (tgt := 16) hx hb dX5_bag_4 (by decide) (fun c2 => ?_) (fun c2 => ?_)
  · replace h := ifp c2 h
    refine lv_sipush (v := (-10001 : Int32)) hx hb dX5_bag_16 (by decide) ?_
    refine lv_goto (tgt := 40) hx hb dX5_bag_19 (by decide) ?_
    have h1 := Option.some.inj h
    subst h1
    exact r_iret hx hb hr hlk hK hd hw dX5_bag_40
  · replace h := ifn c2 h
    refine lv_iload_n hx hb dX5_bag_7 rfl (lv_at hl 2 rfl) ?_
    refine lv_iconst (v := (0 : Int32)) hx hb dX5_bag_8 (by decide) ?_
    refine lv_iconst (v := (5 : Int32)) hx hb dX5_bag_9 (by decide) ?_
    obtain ⟨v3, hv3, h⟩ := ob h
    refine r_Si (rest := []) C0 z0 (c_X5_in hv3) lk_X5_49 hl.1 rfl (Nat.le_of_ble_eq_true rfl) (by decide) hw dX5_bag_10 (fun {H} {locs} hw => ?_)
    refine lv_if_ne (tgt := 22) hx hb dX5_bag_13 (by decide) (fun c4 => ?_) (fun c4 => ?_)
    · replace h := ifn c4 h
      refine lv_iload_n hx hb dX5_bag_22 rfl (lv_at hl 2 rfl) ?_
      refine lv_if_ne (tgt := 34) hx hb dX5_bag_23 (by decide) (fun c5 => ?_) (fun c5 => ?_)
      · replace h := ifn c5 h
        refine lv_aload_n hx hb dX5_bag_34 rfl (lv_at hl 0 rfl) ?_
        refine lv_iload_n hx hb dX5_bag_35 rfl (lv_at hl 1 rfl) ?_
        refine lv_iload_n hx hb dX5_bag_36 rfl (lv_at hl 2 rfl) ?_
        obtain ⟨v6, hv6, h⟩ := ob h
        refine r_Vi (rest := []) C0 z0 (c_X5_inBag hB hv6) lk_X5_57 (X5_k0 hB) rfl rfl hl.1 rfl (Nat.le_of_ble_eq_true rfl) (by decide) hw dX5_bag_37 (fun {H} {locs} hw => ?_)
        have h1 := Option.some.inj h
        subst h1
        exact r_iret hx hb hr hlk hK hd hw dX5_bag_40
      · replace h := ifp c5 h
        refine lv_aload_n hx hb dX5_bag_26 rfl (lv_at hl 0 rfl) ?_
        refine lv_iload_n hx hb dX5_bag_27 rfl (lv_at hl 1 rfl) ?_
        obtain ⟨v7, hv7, h⟩ := ob h
        refine r_Vi (rest := []) C0 z0 (c_X5_allIn hB hv7) lk_X5_91 (X5_k0 hB) rfl rfl hl.1 rfl (Nat.le_of_ble_eq_true rfl) (by decide) hw dX5_bag_28 (fun {H} {locs} hw => ?_)
        refine lv_goto (tgt := 40) hx hb dX5_bag_31 (by decide) ?_
        have h1 := Option.some.inj h
        subst h1
        exact r_iret hx hb hr hlk hK hd hw dX5_bag_40
    · replace h := ifp c4 h
      refine lv_sipush (v := (-10001 : Int32)) hx hb dX5_bag_16 (by decide) ?_
      refine lv_goto (tgt := 40) hx hb dX5_bag_19 (by decide) ?_
      have h1 := Option.some.inj h
      subst h1
      exact r_iret hx hb hr hlk hK hd hw dX5_bag_40
theorem c_X5_bag {l : Launch} {γ : Ev} {o : Nat} {σ : Mm} {r : Int32} {Z : Mm} {x1 x2 : Int32} (hB : isX5 γ o) (h : s_X5_bag Z x1 x2 = some r) : Ct l yX5_bag cX5_bag 3 (some .int) 4 97 γ [.ref (eA γ o), .int x1, .int x2] (st 10 σ o Z) (some (.int r)) (st 10 σ o Z) := Ct.of (own := RX5) (by decide +kernel) rfl (Nat.le_of_ble_eq_true rfl) (fun C hw ls hl => b_X5_bag C hB h hw hl)
set_option maxHeartbeats 4000000 in
set_option maxRecDepth 10000 in
theorem b_X5_reason {γ : Ev} {o : Nat} {σ : Mm} {r : Int32} {Z : Mm} {x1 x2 : Int32} (C : Cx p R s m args meth c RX5 cX5_reason 3 (some .int) 6 140 γ) (hB : isX5 γ o) (h : s_X5_reason Z x1 x2 = some r) (hw : Wo γ (st 10 σ o Z) s H locs) (hl : lv_has ls 3 [(0, .ref (eA γ o)), (1, .int x1), (2, .int x2)]) : W p l e R s m args below meth c H locs 0 0 (MQ below (Qo γ (some (.int r)) (st 10 σ o Z)) args s 0 0 (AK γ)) (F0 m 0 ls []) := by
  have C0 := C
  obtain ⟨hx, hb, hr, hml, hown, hts, hlk, hK, hd, hF, hL⟩ := C
  unfold s_X5_reason at h
  refine lv_iload_n hx hb dX5_reason_0 rfl (lv_at hl 1 rfl) ?_
  refine lv_iconst (v := (1 : Int32)) hx hb dX5_reason_1 (by decide) ?_
  refine lv_bipush (v := (7 : Int32)) hx hb dX5_reason_2 (by decide) ?_
  obtain ⟨v1, hv1, h⟩ := ob h
  refine r_Si (rest := []) C0 z0 (c_X5_in hv1) lk_X5_49 hl.1 rfl (Nat.le_of_ble_eq_true rfl) (by decide) hw dX5_reason_4 (fun {H} {locs} hw => ?_)
  refine lv_if_ne (tgt := 16) hx hb dX5_reason_7 (by decide) (fun c2 => ?_) (fun c2 => ?_)
  · replace h := ifn c2 h
    refine lv_iload_n hx hb dX5_reason_16 rfl (lv_at hl 2 rfl) ?_
    obtain ⟨v3, hv3, h⟩ := ob h
    refine r_Si (rest := []) C0 z0 (c_X5_isPlace hv3) lk_X5_100 hl.1 rfl (Nat.le_of_ble_eq_true rfl) (by decide) hw dX5_reason_17 (fun {H} {locs} hw => ?_)
    refine lv_if_eq (tgt := 32) hx hb dX5_reason_20 (by decide) (fun c4 => ?_) (fun c4 => ?_)
    · replace h := ifp c4 h
      refine lv_sipush (v := (-10001 : Int32)) hx hb dX5_reason_32 (by decide) ?_
      have h1 := Option.some.inj h
      subst h1
      exact r_iret hx hb hr hlk hK hd hw dX5_reason_35
    · replace h := ifn c4 h
      refine lv_aload_n hx hb dX5_reason_23 rfl (lv_at hl 0 rfl) ?_
      refine lv_iload_n hx hb dX5_reason_24 rfl (lv_at hl 1 rfl) ?_
      refine lv_iload_n hx hb dX5_reason_25 rfl (lv_at hl 2 rfl) ?_
      obtain ⟨v5, hv5, h⟩ := ob h
      refine r_Vi (rest := []) C0 z0 (c_X5_whyNot hB hv5) lk_X5_117 (X5_k0 hB) rfl rfl hl.1 rfl (Nat.le_of_ble_eq_true rfl) (by decide) hw dX5_reason_26 (fun {H} {locs} hw => ?_)
      refine lv_goto (tgt := 35) hx hb dX5_reason_29 (by decide) ?_
      have h1 := Option.some.inj h
      subst h1
      exact r_iret hx hb hr hlk hK hd hw dX5_reason_35
  · replace h := ifp c2 h
    refine lv_sipush (v := (-10002 : Int32)) hx hb dX5_reason_10 (by decide) ?_
    refine lv_goto (tgt := 35) hx hb dX5_reason_13 (by decide) ?_
    have h1 := Option.some.inj h
    subst h1
    exact r_iret hx hb hr hlk hK hd hw dX5_reason_35
theorem c_X5_reason {l : Launch} {γ : Ev} {o : Nat} {σ : Mm} {r : Int32} {Z : Mm} {x1 x2 : Int32} (hB : isX5 γ o) (h : s_X5_reason Z x1 x2 = some r) : Ct l yX5_reason cX5_reason 3 (some .int) 6 140 γ [.ref (eA γ o), .int x1, .int x2] (st 10 σ o Z) (some (.int r)) (st 10 σ o Z) := Ct.of (own := RX5) (by decide +kernel) rfl (Nat.le_of_ble_eq_true rfl) (fun C hw ls hl => b_X5_reason C hB h hw hl)
set_option maxHeartbeats 4000000 in
set_option maxRecDepth 10000 in
theorem b_X5_possible_L12 {γ : Ev} {o : Nat} {σ : Mm} {r : Int32} (C : Cx p R s m args meth c RX5 cX5_possible 4 (some .int) 7 161 γ) (hB : isX5 γ o) : ∀ (n : Nat) {Z : Mm} {x2 : Int32} {x3 : Int32} {H : Heap} {locs : List Loc} {ls : Array Slot}, s_X5_possible_L12 n Z x2 x3 = some r → Wo γ (st 10 σ o Z) s H locs → lv_has ls 4 [(0, .ref (eA γ o)), (2, .int x2), (3, .int x3)] → W p l e R s m args below meth c H locs 0 0 (MQ below (Qo γ (some (.int r)) (st 10 σ o Z)) args s 0 0 (AK γ)) (F0 m 12 ls []) := by
  have C0 := C
  obtain ⟨hx, hb, hr, hml, hown, hts, hlk, hK, hd, hF, hL⟩ := C
  intro n
  induction n with
  | zero => intro Z x2 x3 H locs ls h; cases h
  | succ n ih =>
    intro Z x2 x3 H locs ls h hw hl
    unfold s_X5_possible_L12 at h
    refine lv_iload_n hx hb dX5_possible_12 rfl (lv_at hl 2 rfl) ?_
    refine lv_bipush (v := (84 : Int32)) hx hb dX5_possible_13 (by decide) ?_
    refine lv_icmp_ge (tgt := 44) hx hb dX5_possible_15 (by decide) (fun c2 => ?_) (fun c2 => ?_)
    · replace h := ifp c2 h
      refine lv_sipush (v := (-10005 : Int32)) hx hb dX5_possible_44 (by decide) ?_
      have h1 := Option.some.inj h
      subst h1
      exact r_iret hx hb hr hlk hK hd hw dX5_possible_47
    · replace h := ifn c2 h
      refine lv_aload_n hx hb dX5_possible_18 rfl (lv_at hl 0 rfl) ?_
      refine lv_iload_n hx hb dX5_possible_19 rfl (lv_at hl 2 rfl) ?_
      obtain ⟨v3, hv3, h⟩ := ob h
      refine r_Vi (rest := []) C0 z0 (c_X5_isPossible hB hv3) lk_X5_138 (X5_k0 hB) rfl rfl hl.1 rfl (Nat.le_of_ble_eq_true rfl) (by decide) hw dX5_possible_20 (fun {H} {locs} hw => ?_)
      refine lv_if_eq (tgt := 38) hx hb dX5_possible_23 (by decide) (fun c4 => ?_) (fun c4 => ?_)
      · replace h := ifp c4 h
        obtain ⟨v5, ev5, h⟩ := jb h
        refine lv_iinc (v := v5) (lv' := [(3, .int v5), (0, .ref (eA γ o)), (2, .int x2)]) hx hb dX5_possible_38 hl (k := 2) rfl (by rw [← ev5]; rfl) (by decide) rfl (fun ls hl => ?_)
        refine lv_goto (tgt := 12) hx hb dX5_possible_41 (by decide) ?_
        exact ih h hw (lv_sub hl [1, 2, 0] rfl)
      · replace h := ifn c4 h
        refine lv_iload_n hx hb dX5_possible_26 rfl (lv_at hl 1 rfl) ?_
        refine lv_if_ne (tgt := 35) hx hb dX5_possible_27 (by decide) (fun c6 => ?_) (fun c6 => ?_)
        · replace h := ifn c6 h
          obtain ⟨v7, ev7, h⟩ := jb h
          refine lv_iinc (v := v7) (lv' := [(2, .int v7), (0, .ref (eA γ o)), (3, .int x3)]) hx hb dX5_possible_35 hl (k := 1) rfl (by rw [← ev7]; rfl) (by decide) rfl (fun ls hl => ?_)
          obtain ⟨v8, ev8, h⟩ := jb h
          refine lv_iinc (v := v8) (lv' := [(3, .int v8), (2, .int v7), (0, .ref (eA γ o))]) hx hb dX5_possible_38 hl (k := 2) rfl (by rw [← ev8]; rfl) (by decide) rfl (fun ls hl => ?_)
          refine lv_goto (tgt := 12) hx hb dX5_possible_41 (by decide) ?_
          exact ih h hw (lv_sub hl [2, 1, 0] rfl)
        · replace h := ifp c6 h
          refine lv_iload_n hx hb dX5_possible_30 rfl (lv_at hl 2 rfl) ?_
          obtain ⟨v9, hv9, h⟩ := ob h
          refine r_Si (rest := []) C0 z0 (c_X5_toldMove hv9) lk_X5_165 hl.1 rfl (Nat.le_of_ble_eq_true rfl) (by decide) hw dX5_possible_31 (fun {H} {locs} hw => ?_)
          have h1 := Option.some.inj h
          subst h1
          exact r_iret hx hb hr hlk hK hd hw dX5_possible_34
set_option maxHeartbeats 4000000 in
set_option maxRecDepth 10000 in
theorem b_X5_possible {γ : Ev} {o : Nat} {σ : Mm} {r : Int32} {Z : Mm} {x1 : Int32} (C : Cx p R s m args meth c RX5 cX5_possible 4 (some .int) 7 161 γ) (hB : isX5 γ o) (h : s_X5_possible Z x1 = some r) (hw : Wo γ (st 10 σ o Z) s H locs) (hl : lv_has ls 4 [(0, .ref (eA γ o)), (1, .int x1)]) : W p l e R s m args below meth c H locs 0 0 (MQ below (Qo γ (some (.int r)) (st 10 σ o Z)) args s 0 0 (AK γ)) (F0 m 0 ls []) := by
  have C0 := C
  obtain ⟨hx, hb, hr, hml, hown, hts, hlk, hK, hd, hF, hL⟩ := C
  unfold s_X5_possible at h
  refine lv_iload_n hx hb dX5_possible_0 rfl (lv_at hl 1 rfl) ?_
  refine lv_if_ge (tgt := 8) hx hb dX5_possible_1 (by decide) (fun c1 => ?_) (fun c1 => ?_)
  · replace h := ifp c1 h
    refine lv_iload_n hx hb dX5_possible_8 rfl (lv_at hl 1 rfl) ?_
    refine lv_istore_n (lv' := [(2, .int x1), (0, .ref (eA γ o)), (1, .int x1)]) hx hb dX5_possible_9 rfl hl (by decide) rfl (fun ls hl => ?_)
    refine lv_iconst (v := (0 : Int32)) hx hb dX5_possible_10 (by decide) ?_
    refine lv_istore_n (lv' := [(3, .int (0 : Int32)), (2, .int x1), (0, .ref (eA γ o)), (1, .int x1)]) hx hb dX5_possible_11 rfl hl (by decide) rfl (fun ls hl => ?_)
    exact b_X5_possible_L12 C0 hB 1000 h hw (lv_sub hl [2, 1, 0] rfl)
  · replace h := ifn c1 h
    refine lv_sipush (v := (-10002 : Int32)) hx hb dX5_possible_4 (by decide) ?_
    have h1 := Option.some.inj h
    subst h1
    exact r_iret hx hb hr hlk hK hd hw dX5_possible_7
theorem c_X5_possible {l : Launch} {γ : Ev} {o : Nat} {σ : Mm} {r : Int32} {Z : Mm} {x1 : Int32} (hB : isX5 γ o) (h : s_X5_possible Z x1 = some r) : Ct l yX5_possible cX5_possible 4 (some .int) 7 161 γ [.ref (eA γ o), .int x1] (st 10 σ o Z) (some (.int r)) (st 10 σ o Z) := Ct.of (own := RX5) (by decide +kernel) rfl (Nat.le_of_ble_eq_true rfl) (fun C hw ls hl => b_X5_possible C hB h hw hl)
set_option maxHeartbeats 4000000 in
set_option maxRecDepth 10000 in
theorem b_X5_levels_L13 {γ : Ev} {o : Nat} {σ : Mm} {r : Int32} (C : Cx p R s m args meth c RX5 cX5_levels 4 (some .int) 3 72 γ) (hB : isX5 γ o) : ∀ (n : Nat) {Z : Mm} {x1 : Int32} {x2 : Int32} {H : Heap} {locs : List Loc} {ls : Array Slot}, s_X5_levels_L13 n Z x1 x2 = some r → Wo γ (st 10 σ o Z) s H locs → lv_has ls 4 [(0, .ref (eA γ o)), (1, .int x1), (2, .int x2)] → W p l e R s m args below meth c H locs 0 0 (MQ below (Qo γ (some (.int r)) (st 10 σ o Z)) args s 0 0 (AK γ)) (F0 m 13 ls []) := by
  have C0 := C
  obtain ⟨hx, hb, hr, hml, hown, hts, hlk, hK, hd, hF, hL⟩ := C
  intro n
  induction n with
  | zero => intro Z x1 x2 H locs ls h; cases h
  | succ n ih =>
    intro Z x1 x2 H locs ls h hw hl
    unfold s_X5_levels_L13 at h
    refine lv_iload_n hx hb dX5_levels_13 rfl (lv_at hl 2 rfl) ?_
    refine lv_bipush (v := (12 : Int32)) hx hb dX5_levels_14 (by decide) ?_
    refine lv_icmp_ge (tgt := 59) hx hb dX5_levels_16 (by decide) (fun c3 => ?_) (fun c3 => ?_)
    · replace h := ifp c3 h
      refine lv_sipush (v := (-10005 : Int32)) hx hb dX5_levels_59 (by decide) ?_
      have h1 := Option.some.inj h
      subst h1
      exact r_iret hx hb hr hlk hK hd hw dX5_levels_62
    · replace h := ifn c3 h
      refine lv_iload_n hx hb dX5_levels_19 rfl (lv_at hl 2 rfl) ?_
      obtain ⟨v4, hv4, h⟩ := ob h
      refine r_Si (rest := []) C0 z0 (c_X5_placeBy hv4) lk_X5_70 hl.1 rfl (Nat.le_of_ble_eq_true rfl) (by decide) hw dX5_levels_20 (fun {H} {locs} hw => ?_)
      refine lv_istore_n (lv' := [(3, .int v4), (0, .ref (eA γ o)), (1, .int x1), (2, .int x2)]) hx hb dX5_levels_23 rfl hl (by decide) rfl (fun ls hl => ?_)
      refine lv_iload_n hx hb dX5_levels_24 rfl (lv_at hl 2 rfl) ?_
      refine lv_iload_n hx hb dX5_levels_25 rfl (lv_at hl 0 rfl) ?_
      refine lv_imul hx hb dX5_levels_26 ?_
      refine lv_aload_n hx hb dX5_levels_27 rfl (lv_at hl 1 rfl) ?_
      refine r_get (v := .ref (eA γ (o + 1))) hx hb hts hK hw hown inX5 rfl (X5_k0 hB) (st_at0 (by decide)) 0 (by decide) wd_573 rfl dX5_levels_28 ?_
      refine lv_iconst (v := (5 : Int32)) hx hb dX5_levels_31 (by decide) ?_
      obtain ⟨v5, hv5, h⟩ := ob h
      refine r_iald hx hb hK hw (X5_k1 hB) (st_at (by decide)) hv5 dX5_levels_32 ?_
      refine lv_iadd hx hb dX5_levels_33 ?_
      refine lv_if_ne (tgt := 53) hx hb dX5_levels_34 (by decide) (fun c6 => ?_) (fun c6 => ?_)
      · replace h := ifn c6 h
        obtain ⟨v7, ev7, h⟩ := jb h
        refine lv_iinc (v := v7) (lv' := [(2, .int v7), (3, .int v4), (0, .ref (eA γ o)), (1, .int x1)]) hx hb dX5_levels_53 hl (k := 3) rfl (by rw [← ev7]; rfl) (by decide) rfl (fun ls hl => ?_)
        refine lv_goto (tgt := 13) hx hb dX5_levels_56 (by decide) ?_
        exact ih h hw (lv_sub hl [2, 3, 0] rfl)
      · replace h := ifp c6 h
        refine lv_aload_n hx hb dX5_levels_37 rfl (lv_at hl 1 rfl) ?_
        refine lv_iload_n hx hb dX5_levels_38 rfl (lv_at hl 0 rfl) ?_
        obtain ⟨v8, hv8, h⟩ := ob h
        refine r_Vi (rest := []) C0 z0 (c_X5_many hB hv8) lk_X5_64 (X5_k0 hB) rfl rfl hl.1 rfl (Nat.le_of_ble_eq_true rfl) (by decide) hw dX5_levels_39 (fun {H} {locs} hw => ?_)
        refine lv_aload_n hx hb dX5_levels_42 rfl (lv_at hl 1 rfl) ?_
        refine r_get (v := .ref (eA γ (o + 1))) hx hb hts hK hw hown inX5 rfl (X5_k0 hB) (st_at0 (by decide)) 0 (by decide) wd_573 rfl dX5_levels_43 ?_
        refine lv_iconst (v := (0 : Int32)) hx hb dX5_levels_46 (by decide) ?_
        obtain ⟨v9, hv9, h⟩ := ob h
        refine r_iald hx hb hK hw (X5_k1 hB) (st_at (by decide)) hv9 dX5_levels_47 ?_
        refine lv_icmp_ge (tgt := 53) hx hb dX5_levels_48 (by decide) (fun c10 => ?_) (fun c10 => ?_)
        · replace h := ifp c10 h
          obtain ⟨v11, ev11, h⟩ := jb h
          refine lv_iinc (v := v11) (lv' := [(2, .int v11), (3, .int v4), (0, .ref (eA γ o)), (1, .int x1)]) hx hb dX5_levels_53 hl (k := 3) rfl (by rw [← ev11]; rfl) (by decide) rfl (fun ls hl => ?_)
          refine lv_goto (tgt := 13) hx hb dX5_levels_56 (by decide) ?_
          exact ih h hw (lv_sub hl [2, 3, 0] rfl)
        · replace h := ifn c10 h
          refine lv_iload_n hx hb dX5_levels_51 rfl (lv_at hl 0 rfl) ?_
          have h1 := Option.some.inj h
          subst h1
          exact r_iret hx hb hr hlk hK hd hw dX5_levels_52
set_option maxHeartbeats 4000000 in
set_option maxRecDepth 10000 in
theorem b_X5_levels {γ : Ev} {o : Nat} {σ : Mm} {r : Int32} {Z : Mm} {x1 : Int32} (C : Cx p R s m args meth c RX5 cX5_levels 4 (some .int) 3 72 γ) (hB : isX5 γ o) (h : s_X5_levels Z x1 = some r) (hw : Wo γ (st 10 σ o Z) s H locs) (hl : lv_has ls 4 [(0, .ref (eA γ o)), (1, .int x1)]) : W p l e R s m args below meth c H locs 0 0 (MQ below (Qo γ (some (.int r)) (st 10 σ o Z)) args s 0 0 (AK γ)) (F0 m 0 ls []) := by
  have C0 := C
  obtain ⟨hx, hb, hr, hml, hown, hts, hlk, hK, hd, hF, hL⟩ := C
  unfold s_X5_levels at h
  refine lv_iload_n hx hb dX5_levels_0 rfl (lv_at hl 1 rfl) ?_
  obtain ⟨v1, hv1, h⟩ := ob h
  refine r_Si (rest := []) C0 z0 (c_X5_isWeight hv1) lk_X5_123 hl.1 rfl (Nat.le_of_ble_eq_true rfl) (by decide) hw dX5_levels_1 (fun {H} {locs} hw => ?_)
  refine lv_if_ne (tgt := 11) hx hb dX5_levels_4 (by decide) (fun c2 => ?_) (fun c2 => ?_)
  · replace h := ifn c2 h
    refine lv_iconst (v := (0 : Int32)) hx hb dX5_levels_11 (by decide) ?_
    refine lv_istore_n (lv' := [(2, .int (0 : Int32)), (0, .ref (eA γ o)), (1, .int x1)]) hx hb dX5_levels_12 rfl hl (by decide) rfl (fun ls hl => ?_)
    exact b_X5_levels_L13 C0 hB 1000 h hw (lv_sub hl [1, 2, 0] rfl)
  · replace h := ifp c2 h
    refine lv_sipush (v := (-10001 : Int32)) hx hb dX5_levels_7 (by decide) ?_
    have h1 := Option.some.inj h
    subst h1
    exact r_iret hx hb hr hlk hK hd hw dX5_levels_10
theorem c_X5_levels {l : Launch} {γ : Ev} {o : Nat} {σ : Mm} {r : Int32} {Z : Mm} {x1 : Int32} (hB : isX5 γ o) (h : s_X5_levels Z x1 = some r) : Ct l yX5_levels cX5_levels 4 (some .int) 3 72 γ [.ref (eA γ o), .int x1] (st 10 σ o Z) (some (.int r)) (st 10 σ o Z) := Ct.of (own := RX5) (by decide +kernel) rfl (Nat.le_of_ble_eq_true rfl) (fun C hw ls hl => b_X5_levels C hB h hw hl)
end
