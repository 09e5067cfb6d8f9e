section
variable {p : Program} {l : Launch} {e : Env} {R : Room} {s : State} {m : MethodId} {args : Array Value} {below : List Frame} {meth : Method} {c : Code} {H : Heap} {locs : List Loc} {ls : Array Slot}
set_option maxHeartbeats 4000000 in
set_option maxRecDepth 10000 in
theorem b_X0_tryMove {γ : Ev} {o : Nat} {σ : Mm} {Bf : Mm} {B : Mm} {x1 x2 : Int32} (C : Cx p R s m args meth c RX0 cX0_tryMove 4 none 4 95 γ) (hB : isX0 γ o) (h : s_X0_tryMove B x1 x2 = some Bf) (hw : Wo γ (st 6 σ o B) s H locs) (hl : lv_has ls 4 [(0, .ref (eA γ o)), (1, .int x1), (2, .int x2)]) : W p l e R s m args below meth c H locs 0 0 (MQ below (Qo γ none (st 6 σ o Bf)) args s 0 0 (AK γ)) (F0 m 0 ls []) := by
  have C0 := C
  obtain ⟨hx, hb, hr, hml, hown, hts, hlk, hK, hd, hF, hL⟩ := C
  unfold s_X0_tryMove at h
  refine lv_iload_n hx hb dX0_tryMove_0 rfl (lv_at hl 1 rfl) ?_
  refine lv_iload_n hx hb dX0_tryMove_1 rfl (lv_at hl 2 rfl) ?_
  obtain ⟨v1, hv1, h⟩ := ob h
  refine r_Si (rest := []) C0 z0 (c_X0_targetOf hv1) lk_X0_95 hl.1 rfl (Nat.le_of_ble_eq_true rfl) (by decide) hw dX0_tryMove_2 (fun {H} {locs} hw => ?_)
  refine lv_istore_n (lv' := [(3, .int v1), (0, .ref (eA γ o)), (1, .int x1), (2, .int x2)]) hx hb dX0_tryMove_5 rfl hl (by decide) rfl (fun ls hl => ?_)
  refine lv_iload_n hx hb dX0_tryMove_6 rfl (lv_at hl 2 rfl) ?_
  refine lv_bipush (v := (6 : Int32)) hx hb dX0_tryMove_7 (by decide) ?_
  refine jn_elim h (fun (k : Mm → Option (Mm)) => ∀ (N10 : Mm) {H : Heap} {locs : List Loc} {ls : Array Slot}, k N10 = some Bf → Wo γ (st 6 σ o N10) s H locs → lv_has ls 4 [(0, .ref (eA γ o))] → W p l e R s m args below meth c H locs 0 0 (MQ below (Qo γ none (st 6 σ o Bf)) args s 0 0 (AK γ)) (F0 m 51 ls [])) ?_ ?_
  · intro N10 H locs ls h hw hl
    refine lv_aload_n hx hb dX0_tryMove_51 rfl (lv_at hl 0 rfl) ?_
    refine lv_aload_n hx hb dX0_tryMove_52 rfl (lv_at hl 0 rfl) ?_
    refine r_get (v := .int (N10 0 5)) hx hb hts hK hw hown inX0 rfl (X0_k0 hB) (st_at0 (by decide)) 5 (by decide) wd_32 rfl dX0_tryMove_53 ?_
    obtain ⟨N11, hN11, h⟩ := ob h
    refine r_put (x := (N10 0 5)) (ty := .int) hx hb hts hK hd hw hown inX0 tyX0 tyX0_ok nmX0 rfl (by decide) (X0_k0 hB) 6 (by decide) wd_33 rfl rfl rfl rfl (fun _ => (Nat.le_of_ble_eq_true rfl)) (fun _ => rfl) hN11 dX0_tryMove_56 (fun {H} {locs} hw => ?_)
    refine lv_aload_n hx hb dX0_tryMove_59 rfl (lv_at hl 0 rfl) ?_
    refine lv_aload_n hx hb dX0_tryMove_60 rfl (lv_at hl 0 rfl) ?_
    refine lv_aload_n hx hb dX0_tryMove_61 rfl (lv_at hl 0 rfl) ?_
    refine r_get (v := .int (N11 0 5)) hx hb hts hK hw hown inX0 rfl (X0_k0 hB) (st_at0 (by decide)) 5 (by decide) wd_32 rfl dX0_tryMove_62 ?_
    obtain ⟨v12, hv12, h⟩ := ob h
    refine r_Vi (rest := [.ref (eA γ o)]) C0 z0 (c_X0_sideBehind hB hv12) lk_X0_127 (X0_k0 hB) rfl rfl hl.1 rfl (Nat.le_of_ble_eq_true rfl) (by decide) hw dX0_tryMove_65 (fun {H} {locs} hw => ?_)
    obtain ⟨N13, hN13, h⟩ := ob h
    refine r_put (x := v12) (ty := .int) hx hb hts hK hd hw hown inX0 tyX0 tyX0_ok nmX0 rfl (by decide) (X0_k0 hB) 5 (by decide) wd_32 rfl rfl rfl rfl (fun _ => (Nat.le_of_ble_eq_true rfl)) (fun _ => rfl) hN13 dX0_tryMove_68 (fun {H} {locs} hw => ?_)
    have h1 := Option.some.inj h
    subst h1
    exact r_vret hx hb hr hlk hK hd hw dX0_tryMove_71
  intro k9 J_k9 h
  refine lv_icmp_ge (tgt := 36) hx hb dX0_tryMove_9 (by decide) (fun c14 => ?_) (fun c14 => ?_)
  · replace h := ifp c14 h
    refine lv_aload_n hx hb dX0_tryMove_36 rfl (lv_at hl 1 rfl) ?_
    refine lv_aload_n hx hb dX0_tryMove_37 rfl (lv_at hl 1 rfl) ?_
    refine lv_iload_n hx hb dX0_tryMove_38 rfl (lv_at hl 3 rfl) ?_
    obtain ⟨q15, hq15, h⟩ := ob h
    refine r_Vi (rest := [.ref (eA γ o)]) C0 z0 (c_X0_takeFrom hB hq15) lk_X0_124 (X0_k0 hB) rfl rfl hl.1 rfl (Nat.le_of_ble_eq_true rfl) (by decide) hw dX0_tryMove_39 (fun {H} {locs} hw => ?_)
    refine lv_iload_n hx hb dX0_tryMove_42 rfl (lv_at hl 0 rfl) ?_
    obtain ⟨N16, hN16, h⟩ := ob h
    refine r_Vv (rest := []) C0 z0 (c_X0_putOn hB hN16) lk_X0_121 (X0_k0 hB) rfl rfl hl.1 rfl (Nat.le_of_ble_eq_true rfl) (by decide) hw dX0_tryMove_43 (fun {H} {locs} hw => ?_)
    refine lv_aload_n hx hb dX0_tryMove_46 rfl (lv_at hl 1 rfl) ?_
    refine lv_iload_n hx hb dX0_tryMove_47 rfl (lv_at hl 0 rfl) ?_
    obtain ⟨N17, hN17, h⟩ := ob h
    refine r_put (x := v1) (ty := .int) hx hb hts hK hd hw hown inX0 tyX0 tyX0_ok nmX0 rfl (by decide) (X0_k0 hB) 7 (by decide) wd_34 rfl rfl rfl rfl (fun _ => (Nat.le_of_ble_eq_true rfl)) (fun _ => rfl) hN17 dX0_tryMove_48 (fun {H} {locs} hw => ?_)
    exact J_k9 N17 h hw (lv_sub hl [1] rfl)
  · replace h := ifn c14 h
    refine lv_aload_n hx hb dX0_tryMove_12 rfl (lv_at hl 1 rfl) ?_
    refine lv_aload_n hx hb dX0_tryMove_13 rfl (lv_at hl 1 rfl) ?_
    refine r_get (v := .int (B 0 5)) hx hb hts hK hw hown inX0 rfl (X0_k0 hB) (st_at0 (by decide)) 5 (by decide) wd_32 rfl dX0_tryMove_14 ?_
    refine lv_iload_n hx hb dX0_tryMove_17 rfl (lv_at hl 2 rfl) ?_
    refine lv_iconst (v := (-1 : Int32)) hx hb dX0_tryMove_18 (by decide) ?_
    obtain ⟨N18, hN18, h⟩ := ob h
    refine r_Vv (rest := []) C0 z0 (c_X0_changeBag hB hN18) lk_X0_117 (X0_k0 hB) rfl rfl hl.1 rfl (Nat.le_of_ble_eq_true rfl) (by decide) hw dX0_tryMove_19 (fun {H} {locs} hw => ?_)
    refine lv_aload_n hx hb dX0_tryMove_22 rfl (lv_at hl 1 rfl) ?_
    refine lv_iload_n hx hb dX0_tryMove_23 rfl (lv_at hl 2 rfl) ?_
    refine lv_iload_n hx hb dX0_tryMove_24 rfl (lv_at hl 3 rfl) ?_
    obtain ⟨N19, hN19, h⟩ := ob h
    refine r_Vv (rest := []) C0 z0 (c_X0_putOn hB hN19) lk_X0_121 (X0_k0 hB) rfl rfl hl.1 rfl (Nat.le_of_ble_eq_true rfl) (by decide) hw dX0_tryMove_25 (fun {H} {locs} hw => ?_)
    refine lv_aload_n hx hb dX0_tryMove_28 rfl (lv_at hl 1 rfl) ?_
    refine lv_iconst (v := (0 : Int32)) hx hb dX0_tryMove_29 (by decide) ?_
    obtain ⟨N20, hN20, h⟩ := ob h
    refine r_put (x := (0 : Int32)) (ty := .int) hx hb hts hK hd hw hown inX0 tyX0 tyX0_ok nmX0 rfl (by decide) (X0_k0 hB) 7 (by decide) wd_34 rfl rfl rfl rfl (fun _ => (Nat.le_of_ble_eq_true rfl)) (fun _ => rfl) hN20 dX0_tryMove_30 (fun {H} {locs} hw => ?_)
    refine lv_goto (tgt := 51) hx hb dX0_tryMove_33 (by decide) ?_
    exact J_k9 N20 h hw (lv_sub hl [1] rfl)
theorem c_X0_tryMove {l : Launch} {γ : Ev} {o : Nat} {σ : Mm} {Bf : Mm} {B : Mm} {x1 x2 : Int32} (hB : isX0 γ o) (h : s_X0_tryMove B x1 x2 = some Bf) : Ct l yX0_tryMove cX0_tryMove 4 none 4 95 γ [.ref (eA γ o), .int x1, .int x2] (st 6 σ o B) none (st 6 σ o Bf) := Ct.of (own := RX0) (by decide +kernel) rfl (Nat.le_of_ble_eq_true rfl) (fun C hw ls hl => b_X0_tryMove C hB h hw hl)
set_option maxHeartbeats 4000000 in
set_option maxRecDepth 10000 in
theorem b_X0_makeMove {γ : Ev} {o : Nat} {σ : Mm} {Bf : Mm} {B : Mm} {x1 x2 : Int32} (C : Cx p R s m args meth c RX0 cX0_makeMove 4 none 5 118 γ) (hB : isX0 γ o) (h : s_X0_makeMove B x1 x2 = some Bf) (hw : Wo γ (st 6 σ o B) s H locs) (hl : lv_has ls 4 [(0, .ref (eA γ o)), (1, .int x1), (2, .int x2)]) : W p l e R s m args below meth c H locs 0 0 (MQ below (Qo γ none (st 6 σ o Bf)) args s 0 0 (AK γ)) (F0 m 0 ls []) := by
  have C0 := C
  obtain ⟨hx, hb, hr, hml, hown, hts, hlk, hK, hd, hF, hL⟩ := C
  unfold s_X0_makeMove at h
  refine lv_aload_n hx hb dX0_makeMove_0 rfl (lv_at hl 0 rfl) ?_
  refine r_get (v := .int (B 0 11)) hx hb hts hK hw hown inX0 rfl (X0_k0 hB) (st_at0 (by decide)) 11 (by decide) wd_38 rfl dX0_makeMove_1 ?_
  obtain ⟨v1, hv1, h⟩ := ob h
  refine r_Si (rest := []) C0 z0 (c_X0_rowOf hv1) lk_X0_104 hl.1 rfl (Nat.le_of_ble_eq_true rfl) (by decide) hw dX0_makeMove_4 (fun {H} {locs} hw => ?_)
  refine lv_istore_n (lv' := [(3, .int v1), (0, .ref (eA γ o)), (1, .int x1), (2, .int x2)]) hx hb dX0_makeMove_7 rfl hl (by decide) rfl (fun ls hl => ?_)
  refine lv_aload_n hx hb dX0_makeMove_8 rfl (lv_at hl 1 rfl) ?_
  refine r_get (v := .ref (eA γ (o + 5))) hx hb hts hK hw hown inX0 rfl (X0_k0 hB) (st_at0 (by decide)) 4 (by decide) wd_31 rfl dX0_makeMove_9 ?_
  refine lv_iload_n hx hb dX0_makeMove_12 rfl (lv_at hl 0 rfl) ?_
  refine lv_aload_n hx hb dX0_makeMove_13 rfl (lv_at hl 1 rfl) ?_
  refine r_get (v := .int (B 0 5)) hx hb hts hK hw hown inX0 rfl (X0_k0 hB) (st_at0 (by decide)) 5 (by decide) wd_32 rfl dX0_makeMove_14 ?_
  obtain ⟨N2, hN2, h⟩ := ob h
  refine r_iast hx hb hK hd hw (by decide) (X0_k5 hB) hN2 dX0_makeMove_17 (fun {H} {locs} hw => ?_)
  refine lv_aload_n hx hb dX0_makeMove_18 rfl (lv_at hl 1 rfl) ?_
  refine r_get (v := .ref (eA γ (o + 5))) hx hb hts hK hw hown inX0 rfl (X0_k0 hB) (st_at0 (by decide)) 4 (by decide) wd_31 rfl dX0_makeMove_19 ?_
  refine lv_iload_n hx hb dX0_makeMove_22 rfl (lv_at hl 0 rfl) ?_
  refine lv_iconst (v := (1 : Int32)) hx hb dX0_makeMove_23 (by decide) ?_
  refine lv_iadd hx hb dX0_makeMove_24 ?_
  refine lv_iload_n hx hb dX0_makeMove_25 rfl (lv_at hl 2 rfl) ?_
  obtain ⟨N3, hN3, h⟩ := ob h
  refine r_iast hx hb hK hd hw (by decide) (X0_k5 hB) hN3 dX0_makeMove_26 (fun {H} {locs} hw => ?_)
  refine lv_aload_n hx hb dX0_makeMove_27 rfl (lv_at hl 1 rfl) ?_
  refine r_get (v := .ref (eA γ (o + 5))) hx hb hts hK hw hown inX0 rfl (X0_k0 hB) (st_at0 (by decide)) 4 (by decide) wd_31 rfl dX0_makeMove_28 ?_
  refine lv_iload_n hx hb dX0_makeMove_31 rfl (lv_at hl 0 rfl) ?_
  refine lv_iconst (v := (2 : Int32)) hx hb dX0_makeMove_32 (by decide) ?_
  refine lv_iadd hx hb dX0_makeMove_33 ?_
  refine lv_iload_n hx hb dX0_makeMove_34 rfl (lv_at hl 3 rfl) ?_
  obtain ⟨N4, hN4, h⟩ := ob h
  refine r_iast hx hb hK hd hw (by decide) (X0_k5 hB) hN4 dX0_makeMove_35 (fun {H} {locs} hw => ?_)
  refine lv_aload_n hx hb dX0_makeMove_36 rfl (lv_at hl 1 rfl) ?_
  refine r_get (v := .ref (eA γ (o + 5))) hx hb hts hK hw hown inX0 rfl (X0_k0 hB) (st_at0 (by decide)) 4 (by decide) wd_31 rfl dX0_makeMove_37 ?_
  refine lv_iload_n hx hb dX0_makeMove_40 rfl (lv_at hl 0 rfl) ?_
  refine lv_iconst (v := (3 : Int32)) hx hb dX0_makeMove_41 (by decide) ?_
  refine lv_iadd hx hb dX0_makeMove_42 ?_
  refine lv_aload_n hx hb dX0_makeMove_43 rfl (lv_at hl 1 rfl) ?_
  refine lv_iload_n hx hb dX0_makeMove_44 rfl (lv_at hl 2 rfl) ?_
  refine lv_iload_n hx hb dX0_makeMove_45 rfl (lv_at hl 3 rfl) ?_
  obtain ⟨v5, hv5, h⟩ := ob h
  refine r_Vi (rest := [.int (v1 + (3 : Int32)), .ref (eA γ (o + 5))]) C0 z0 (c_X0_tellingOf hB hv5) lk_X0_107 (X0_k0 hB) rfl rfl hl.1 rfl (Nat.le_of_ble_eq_true rfl) (by decide) hw dX0_makeMove_46 (fun {H} {locs} hw => ?_)
  obtain ⟨N6, hN6, h⟩ := ob h
  refine r_iast hx hb hK hd hw (by decide) (X0_k5 hB) hN6 dX0_makeMove_49 (fun {H} {locs} hw => ?_)
  refine lv_aload_n hx hb dX0_makeMove_50 rfl (lv_at hl 1 rfl) ?_
  refine lv_dup hx hb dX0_makeMove_51 rfl ?_
  refine r_get (v := .int (N6 0 9)) hx hb hts hK hw hown inX0 rfl (X0_k0 hB) (st_at0 (by decide)) 9 (by decide) wd_36 rfl dX0_makeMove_52 ?_
  refine lv_aload_n hx hb dX0_makeMove_55 rfl (lv_at hl 1 rfl) ?_
  refine r_get (v := .ref (eA γ (o + 5))) hx hb hts hK hw hown inX0 rfl (X0_k0 hB) (st_at0 (by decide)) 4 (by decide) wd_31 rfl dX0_makeMove_56 ?_
  refine lv_iload_n hx hb dX0_makeMove_59 rfl (lv_at hl 0 rfl) ?_
  refine lv_iconst (v := (3 : Int32)) hx hb dX0_makeMove_60 (by decide) ?_
  refine lv_iadd hx hb dX0_makeMove_61 ?_
  obtain ⟨v7, hv7, h⟩ := ob h
  refine r_iald hx hb hK hw (X0_k5 hB) (st_at (by decide)) hv7 dX0_makeMove_62 ?_
  refine lv_iadd hx hb dX0_makeMove_63 ?_
  obtain ⟨N8, hN8, h⟩ := ob h
  refine r_put (x := ((N6 0 9) + v7)) (ty := .int) hx hb hts hK hd hw hown inX0 tyX0 tyX0_ok nmX0 rfl (by decide) (X0_k0 hB) 9 (by decide) wd_36 rfl rfl rfl rfl (fun _ => (Nat.le_of_ble_eq_true rfl)) (fun _ => rfl) hN8 dX0_makeMove_64 (fun {H} {locs} hw => ?_)
  refine lv_aload_n hx hb dX0_makeMove_67 rfl (lv_at hl 1 rfl) ?_
  refine lv_dup hx hb dX0_makeMove_68 rfl ?_
  refine r_get (v := .int (N8 0 11)) hx hb hts hK hw hown inX0 rfl (X0_k0 hB) (st_at0 (by decide)) 11 (by decide) wd_38 rfl dX0_makeMove_69 ?_
  refine lv_iconst (v := (1 : Int32)) hx hb dX0_makeMove_72 (by decide) ?_
  refine lv_iadd hx hb dX0_makeMove_73 ?_
  obtain ⟨N9, hN9, h⟩ := ob h
  refine r_put (x := ((N8 0 11) + (1 : Int32))) (ty := .int) hx hb hts hK hd hw hown inX0 tyX0 tyX0_ok nmX0 rfl (by decide) (X0_k0 hB) 11 (by decide) wd_38 rfl rfl rfl rfl (fun _ => (Nat.le_of_ble_eq_true rfl)) (fun _ => rfl) hN9 dX0_makeMove_74 (fun {H} {locs} hw => ?_)
  refine lv_aload_n hx hb dX0_makeMove_77 rfl (lv_at hl 1 rfl) ?_
  refine lv_iload_n hx hb dX0_makeMove_78 rfl (lv_at hl 2 rfl) ?_
  refine lv_iload_n hx hb dX0_makeMove_79 rfl (lv_at hl 3 rfl) ?_
  obtain ⟨N10, hN10, h⟩ := ob h
  refine r_Vv (rest := []) C0 z0 (c_X0_tryMove hB hN10) lk_X0_110 (X0_k0 hB) rfl rfl hl.1 rfl (Nat.le_of_ble_eq_true rfl) (by decide) hw dX0_makeMove_80 (fun {H} {locs} hw => ?_)
  refine lv_aload_n hx hb dX0_makeMove_83 rfl (lv_at hl 1 rfl) ?_
  refine lv_aload_n hx hb dX0_makeMove_84 rfl (lv_at hl 1 rfl) ?_
  refine r_get (v := .int (N10 0 10)) hx hb hts hK hw hown inX0 rfl (X0_k0 hB) (st_at0 (by decide)) 10 (by decide) wd_37 rfl dX0_makeMove_85 ?_
  refine lv_aload_n hx hb dX0_makeMove_88 rfl (lv_at hl 1 rfl) ?_
  refine r_get (v := .int (N10 0 8)) hx hb hts hK hw hown inX0 rfl (X0_k0 hB) (st_at0 (by decide)) 8 (by decide) wd_35 rfl dX0_makeMove_89 ?_
  refine r_abs C0 z0 lk_X0_80 hl.1 (Nat.le_of_ble_eq_true rfl) (by decide) dX0_makeMove_92 ?_
  refine r_max C0 z0 lk_X0_114 hl.1 (Nat.le_of_ble_eq_true rfl) (by decide) dX0_makeMove_95 ?_
  obtain ⟨N11, hN11, h⟩ := ob h
  refine r_put (x := (imax (N10 0 10) (iabs (N10 0 8)))) (ty := .int) hx hb hts hK hd hw hown inX0 tyX0 tyX0_ok nmX0 rfl (by decide) (X0_k0 hB) 10 (by decide) wd_37 rfl rfl rfl rfl (fun _ => (Nat.le_of_ble_eq_true rfl)) (fun _ => rfl) hN11 dX0_makeMove_98 (fun {H} {locs} hw => ?_)
  have h1 := Option.some.inj h
  subst h1
  exact r_vret hx hb hr hlk hK hd hw dX0_makeMove_101
theorem c_X0_makeMove {l : Launch} {γ : Ev} {o : Nat} {σ : Mm} {Bf : Mm} {B : Mm} {x1 x2 : Int32} (hB : isX0 γ o) (h : s_X0_makeMove B x1 x2 = some Bf) : Ct l yX0_makeMove cX0_makeMove 4 none 5 118 γ [.ref (eA γ o), .int x1, .int x2] (st 6 σ o B) none (st 6 σ o Bf) := Ct.of (own := RX0) (by decide +kernel) rfl (Nat.le_of_ble_eq_true rfl) (fun C hw ls hl => b_X0_makeMove C hB h hw hl)
set_option maxHeartbeats 4000000 in
set_option maxRecDepth 10000 in
theorem b_X0_takeBack {γ : Ev} {o : Nat} {σ : Mm} {Bf : Mm} {B : Mm} {x1 x2 x3 x4 x5 : Int32} (C : Cx p R s m args meth c RX0 cX0_takeBack 7 none 4 95 γ) (hB : isX0 γ o) (h : s_X0_takeBack B x1 x2 x3 x4 x5 = some Bf) (hw : Wo γ (st 6 σ o B) s H locs) (hl : lv_has ls 7 [(0, .ref (eA γ o)), (1, .int x1), (2, .int x2), (3, .int x3), (4, .int x4), (5, .int x5)]) : W p l e R s m args below meth c H locs 0 0 (MQ below (Qo γ none (st 6 σ o Bf)) args s 0 0 (AK γ)) (F0 m 0 ls []) := by
  have C0 := C
  obtain ⟨hx, hb, hr, hml, hown, hts, hlk, hK, hd, hF, hL⟩ := C
  unfold s_X0_takeBack at h
  refine lv_aload_n hx hb dX0_takeBack_0 rfl (lv_at hl 0 rfl) ?_
  refine lv_iload_n hx hb dX0_takeBack_1 rfl (lv_at hl 1 rfl) ?_
  refine lv_iload_n hx hb dX0_takeBack_2 rfl (lv_at hl 2 rfl) ?_
  obtain ⟨v1, hv1, h⟩ := ob h
  refine r_Si (rest := [.ref (eA γ o)]) C0 z0 (c_X0_targetOf hv1) lk_X0_95 hl.1 rfl (Nat.le_of_ble_eq_true rfl) (by decide) hw dX0_takeBack_3 (fun {H} {locs} hw => ?_)
  obtain ⟨q2, hq2, h⟩ := ob h
  refine r_Vi (rest := []) C0 z0 (c_X0_takeFrom hB hq2) lk_X0_124 (X0_k0 hB) rfl rfl hl.1 rfl (Nat.le_of_ble_eq_true rfl) (by decide) hw dX0_takeBack_6 (fun {H} {locs} hw => ?_)
  obtain ⟨v3, ev3, h⟩ := jb h
  refine r_top ev3 ?_
  refine lv_istore (lv' := [(6, .int v3), (0, .ref (eA γ o)), (1, .int x1), (2, .int x2), (3, .int x3), (4, .int x4), (5, .int x5)]) hx hb dX0_takeBack_9 hl (by decide) rfl (fun ls hl => ?_)
  refine lv_iload_n hx hb dX0_takeBack_11 rfl (lv_at hl 2 rfl) ?_
  refine lv_bipush (v := (6 : Int32)) hx hb dX0_takeBack_12 (by decide) ?_
  refine jn_elim h (fun (k : Mm → Option (Mm)) => ∀ (N7 : Mm) {H : Heap} {locs : List Loc} {ls : Array Slot}, k N7 = some Bf → Wo γ (st 6 σ o N7) s H locs → lv_has ls 7 [(0, .ref (eA γ o)), (3, .int x3), (4, .int x4), (5, .int x5)] → W p l e R s m args below meth c H locs 0 0 (MQ below (Qo γ none (st 6 σ o Bf)) args s 0 0 (AK γ)) (F0 m 34 ls [])) ?_ ?_
  · intro N7 H locs ls h hw hl
    refine lv_aload_n hx hb dX0_takeBack_34 rfl (lv_at hl 0 rfl) ?_
    refine lv_iload_n hx hb dX0_takeBack_35 rfl (lv_at hl 1 rfl) ?_
    obtain ⟨N8, hN8, h⟩ := ob h
    refine r_put (x := x3) (ty := .int) hx hb hts hK hd hw hown inX0 tyX0 tyX0_ok nmX0 rfl (by decide) (X0_k0 hB) 5 (by decide) wd_32 rfl rfl rfl rfl (fun _ => (Nat.le_of_ble_eq_true rfl)) (fun _ => rfl) hN8 dX0_takeBack_36 (fun {H} {locs} hw => ?_)
    refine lv_aload_n hx hb dX0_takeBack_39 rfl (lv_at hl 0 rfl) ?_
    refine lv_iload hx hb dX0_takeBack_40 (lv_at hl 2 rfl) ?_
    obtain ⟨N9, hN9, h⟩ := ob h
    refine r_put (x := x4) (ty := .int) hx hb hts hK hd hw hown inX0 tyX0 tyX0_ok nmX0 rfl (by decide) (X0_k0 hB) 6 (by decide) wd_33 rfl rfl rfl rfl (fun _ => (Nat.le_of_ble_eq_true rfl)) (fun _ => rfl) hN9 dX0_takeBack_42 (fun {H} {locs} hw => ?_)
    refine lv_aload_n hx hb dX0_takeBack_45 rfl (lv_at hl 0 rfl) ?_
    refine lv_iload hx hb dX0_takeBack_46 (lv_at hl 3 rfl) ?_
    obtain ⟨N10, hN10, h⟩ := ob h
    refine r_put (x := x5) (ty := .int) hx hb hts hK hd hw hown inX0 tyX0 tyX0_ok nmX0 rfl (by decide) (X0_k0 hB) 7 (by decide) wd_34 rfl rfl rfl rfl (fun _ => (Nat.le_of_ble_eq_true rfl)) (fun _ => rfl) hN10 dX0_takeBack_48 (fun {H} {locs} hw => ?_)
    have h1 := Option.some.inj h
    subst h1
    exact r_vret hx hb hr hlk hK hd hw dX0_takeBack_51
  intro k6 J_k6 h
  refine lv_icmp_ge (tgt := 27) hx hb dX0_takeBack_14 (by decide) (fun c11 => ?_) (fun c11 => ?_)
  · replace h := ifp c11 h
    refine lv_aload_n hx hb dX0_takeBack_27 rfl (lv_at hl 1 rfl) ?_
    refine lv_iload hx hb dX0_takeBack_28 (lv_at hl 0 rfl) ?_
    refine lv_iload_n hx hb dX0_takeBack_30 rfl (lv_at hl 3 rfl) ?_
    obtain ⟨N12, hN12, h⟩ := ob h
    refine r_Vv (rest := []) C0 z0 (c_X0_putOn hB hN12) lk_X0_121 (X0_k0 hB) rfl rfl hl.1 rfl (Nat.le_of_ble_eq_true rfl) (by decide) hw dX0_takeBack_31 (fun {H} {locs} hw => ?_)
    exact J_k6 N12 h hw (lv_sub hl [1, 4, 5, 6] rfl)
  · replace h := ifn c11 h
    refine lv_aload_n hx hb dX0_takeBack_17 rfl (lv_at hl 1 rfl) ?_
    refine lv_iload_n hx hb dX0_takeBack_18 rfl (lv_at hl 4 rfl) ?_
    refine lv_iload_n hx hb dX0_takeBack_19 rfl (lv_at hl 2 rfl) ?_
    refine lv_iconst (v := (1 : Int32)) hx hb dX0_takeBack_20 (by decide) ?_
    obtain ⟨N13, hN13, h⟩ := ob h
    refine r_Vv (rest := []) C0 z0 (c_X0_changeBag hB hN13) lk_X0_117 (X0_k0 hB) rfl rfl hl.1 rfl (Nat.le_of_ble_eq_true rfl) (by decide) hw dX0_takeBack_21 (fun {H} {locs} hw => ?_)
    refine lv_goto (tgt := 34) hx hb dX0_takeBack_24 (by decide) ?_
    exact J_k6 N13 h hw (lv_sub hl [1, 4, 5, 6] rfl)
theorem c_X0_takeBack {l : Launch} {γ : Ev} {o : Nat} {σ : Mm} {Bf : Mm} {B : Mm} {x1 x2 x3 x4 x5 : Int32} (hB : isX0 γ o) (h : s_X0_takeBack B x1 x2 x3 x4 x5 = some Bf) : Ct l yX0_takeBack cX0_takeBack 7 none 4 95 γ [.ref (eA γ o), .int x1, .int x2, .int x3, .int x4, .int x5] (st 6 σ o B) none (st 6 σ o Bf) := Ct.of (own := RX0) (by decide +kernel) rfl (Nat.le_of_ble_eq_true rfl) (fun C hw ls hl => b_X0_takeBack C hB h hw hl)
set_option maxHeartbeats 4000000 in
set_option maxRecDepth 10000 in
theorem b_X0_isMoveKept {γ : Ev} {o : Nat} {σ : Mm} {r : Int32} {B : Mm} {x1 : Int32} (C : Cx p R s m args meth c RX0 cX0_isMoveKept 2 (some .boolean) 1 30 γ) (hB : isX0 γ o) (h : s_X0_isMoveKept B x1 = some r) (hw : Wo γ (st 6 σ o B) s H locs) (hl : lv_has ls 2 [(0, .ref (eA γ o)), (1, .int x1)]) : W p l e R s m args below meth c H locs 0 0 (MQ below (Qo γ (some (.int r)) (st 6 σ o B)) args s 0 0 (AK γ)) (F0 m 0 ls []) := by
  have C0 := C
  obtain ⟨hx, hb, hr, hml, hown, hts, hlk, hK, hd, hF, hL⟩ := C
  unfold s_X0_isMoveKept at h
  refine lv_iload_n hx hb dX0_isMoveKept_0 rfl (lv_at hl 1 rfl) ?_
  refine lv_if_lt (tgt := 22) hx hb dX0_isMoveKept_1 (by decide) (fun c1 => ?_) (fun c1 => ?_)
  · replace h := ifp c1 h
    refine lv_iconst (v := (0 : Int32)) hx hb dX0_isMoveKept_22 (by decide) ?_
    have h1 := Option.some.inj h
    subst h1
    exact r_zret hx hb hr hlk hK hd hw rfl dX0_isMoveKept_23
  · replace h := ifn c1 h
    refine lv_iload_n hx hb dX0_isMoveKept_4 rfl (lv_at hl 1 rfl) ?_
    refine lv_bipush (v := (40 : Int32)) hx hb dX0_isMoveKept_5 (by decide) ?_
    refine lv_icmp_ge (tgt := 22) hx hb dX0_isMoveKept_7 (by decide) (fun c2 => ?_) (fun c2 => ?_)
    · replace h := ifp c2 h
      refine lv_iconst (v := (0 : Int32)) hx hb dX0_isMoveKept_22 (by decide) ?_
      have h1 := Option.some.inj h
      subst h1
      exact r_zret hx hb hr hlk hK hd hw rfl dX0_isMoveKept_23
    · replace h := ifn c2 h
      refine lv_iload_n hx hb dX0_isMoveKept_10 rfl (lv_at hl 1 rfl) ?_
      refine lv_aload_n hx hb dX0_isMoveKept_11 rfl (lv_at hl 0 rfl) ?_
      refine r_get (v := .int (B 0 11)) hx hb hts hK hw hown inX0 rfl (X0_k0 hB) (st_at0 (by decide)) 11 (by decide) wd_38 rfl dX0_isMoveKept_12 ?_
      refine lv_icmp_ge (tgt := 22) hx hb dX0_isMoveKept_15 (by decide) (fun c3 => ?_) (fun c3 => ?_)
      · replace h := ifp c3 h
        refine lv_iconst (v := (0 : Int32)) hx hb dX0_isMoveKept_22 (by decide) ?_
        have h1 := Option.some.inj h
        subst h1
        exact r_zret hx hb hr hlk hK hd hw rfl dX0_isMoveKept_23
      · replace h := ifn c3 h
        refine lv_iconst (v := (1 : Int32)) hx hb dX0_isMoveKept_18 (by decide) ?_
        refine lv_goto (tgt := 23) hx hb dX0_isMoveKept_19 (by decide) ?_
        have h1 := Option.some.inj h
        subst h1
        exact r_zret hx hb hr hlk hK hd hw rfl dX0_isMoveKept_23
theorem c_X0_isMoveKept {l : Launch} {γ : Ev} {o : Nat} {σ : Mm} {r : Int32} {B : Mm} {x1 : Int32} (hB : isX0 γ o) (h : s_X0_isMoveKept B x1 = some r) : Ct l yX0_isMoveKept cX0_isMoveKept 2 (some .boolean) 1 30 γ [.ref (eA γ o), .int x1] (st 6 σ o B) (some (.int r)) (st 6 σ o B) := Ct.of (own := RX0) (by decide +kernel) rfl (Nat.le_of_ble_eq_true rfl) (fun C hw ls hl => b_X0_isMoveKept C hB h hw hl)
set_option maxHeartbeats 4000000 in
set_option maxRecDepth 10000 in
theorem b_X0_partOfMove {γ : Ev} {o : Nat} {σ : Mm} {r : Int32} {B : Mm} {x1 x2 : Int32} (C : Cx p R s m args meth c RX0 cX0_partOfMove 3 (some .int) 3 72 γ) (hB : isX0 γ o) (h : s_X0_partOfMove B x1 x2 = some r) (hw : Wo γ (st 6 σ o B) s H locs) (hl : lv_has ls 3 [(0, .ref (eA γ o)), (1, .int x1), (2, .int x2)]) : W p l e R s m args below meth c H locs 0 0 (MQ below (Qo γ (some (.int r)) (st 6 σ o B)) args s 0 0 (AK γ)) (F0 m 0 ls []) := by
  have C0 := C
  obtain ⟨hx, hb, hr, hml, hown, hts, hlk, hK, hd, hF, hL⟩ := C
  unfold s_X0_partOfMove at h
  refine lv_aload_n hx hb dX0_partOfMove_0 rfl (lv_at hl 0 rfl) ?_
  refine lv_iload_n hx hb dX0_partOfMove_1 rfl (lv_at hl 1 rfl) ?_
  obtain ⟨v1, hv1, h⟩ := ob h
  refine r_Vi (rest := []) C0 z0 (c_X0_isMoveKept hB hv1) lk_X0_133 (X0_k0 hB) rfl rfl hl.1 rfl (Nat.le_of_ble_eq_true rfl) (by decide) hw dX0_partOfMove_2 (fun {H} {locs} hw => ?_)
  refine lv_if_eq (tgt := 17) hx hb dX0_partOfMove_5 (by decide) (fun c2 => ?_) (fun c2 => ?_)
  · replace h := ifp c2 h
    refine lv_iconst (v := (0 : Int32)) hx hb dX0_partOfMove_17 (by decide) ?_
    have h1 := Option.some.inj h
    subst h1
    exact r_iret hx hb hr hlk hK hd hw dX0_partOfMove_18
  · replace h := ifn c2 h
    refine lv_iload_n hx hb dX0_partOfMove_8 rfl (lv_at hl 2 rfl) ?_
    refine lv_if_lt (tgt := 17) hx hb dX0_partOfMove_9 (by decide) (fun c3 => ?_) (fun c3 => ?_)
    · replace h := ifp c3 h
      refine lv_iconst (v := (0 : Int32)) hx hb dX0_partOfMove_17 (by decide) ?_
      have h1 := Option.some.inj h
      subst h1
      exact r_iret hx hb hr hlk hK hd hw dX0_partOfMove_18
    · replace h := ifn c3 h
      refine lv_iload_n hx hb dX0_partOfMove_12 rfl (lv_at hl 2 rfl) ?_
      refine lv_iconst (v := (4 : Int32)) hx hb dX0_partOfMove_13 (by decide) ?_
      refine lv_icmp_lt (tgt := 19) hx hb dX0_partOfMove_14 (by decide) (fun c4 => ?_) (fun c4 => ?_)
      · replace h := ifp c4 h
        refine lv_aload_n hx hb dX0_partOfMove_19 rfl (lv_at hl 0 rfl) ?_
        refine r_get (v := .ref (eA γ (o + 5))) hx hb hts hK hw hown inX0 rfl (X0_k0 hB) (st_at0 (by decide)) 4 (by decide) wd_31 rfl dX0_partOfMove_20 ?_
        refine lv_aload_n hx hb dX0_partOfMove_23 rfl (lv_at hl 0 rfl) ?_
        refine r_get (v := .int (B 0 11)) hx hb hts hK hw hown inX0 rfl (X0_k0 hB) (st_at0 (by decide)) 11 (by decide) wd_38 rfl dX0_partOfMove_24 ?_
        refine lv_iconst (v := (1 : Int32)) hx hb dX0_partOfMove_27 (by decide) ?_
        refine lv_isub hx hb dX0_partOfMove_28 ?_
        refine lv_iload_n hx hb dX0_partOfMove_29 rfl (lv_at hl 1 rfl) ?_
        refine lv_isub hx hb dX0_partOfMove_30 ?_
        obtain ⟨v5, hv5, h⟩ := ob h
        refine r_Si (rest := [.ref (eA γ (o + 5))]) C0 z0 (c_X0_rowOf hv5) lk_X0_104 hl.1 rfl (Nat.le_of_ble_eq_true rfl) (by decide) hw dX0_partOfMove_31 (fun {H} {locs} hw => ?_)
        refine lv_iload_n hx hb dX0_partOfMove_34 rfl (lv_at hl 2 rfl) ?_
        refine lv_iadd hx hb dX0_partOfMove_35 ?_
        obtain ⟨v6, hv6, h⟩ := ob h
        refine r_iald hx hb hK hw (X0_k5 hB) (st_at (by decide)) hv6 dX0_partOfMove_36 ?_
        have h1 := Option.some.inj h
        subst h1
        exact r_iret hx hb hr hlk hK hd hw dX0_partOfMove_37
      · replace h := ifn c4 h
        refine lv_iconst (v := (0 : Int32)) hx hb dX0_partOfMove_17 (by decide) ?_
        have h1 := Option.some.inj h
        subst h1
        exact r_iret hx hb hr hlk hK hd hw dX0_partOfMove_18
theorem c_X0_partOfMove {l : Launch} {γ : Ev} {o : Nat} {σ : Mm} {r : Int32} {B : Mm} {x1 x2 : Int32} (hB : isX0 γ o) (h : s_X0_partOfMove B x1 x2 = some r) : Ct l yX0_partOfMove cX0_partOfMove 3 (some .int) 3 72 γ [.ref (eA γ o), .int x1, .int x2] (st 6 σ o B) (some (.int r)) (st 6 σ o B) := Ct.of (own := RX0) (by decide +kernel) rfl (Nat.le_of_ble_eq_true rfl) (fun C hw ls hl => b_X0_partOfMove C hB h hw hl)
set_option maxHeartbeats 4000000 in
set_option maxRecDepth 10000 in
theorem b_X0_possibleMoves_L4 {γ : Ev} {o : Nat} {σ : Mm} {r : Int32} (C : Cx p R s m args meth c RX0 cX0_possibleMoves 3 (some .int) 6 137 γ) (hB : isX0 γ o) : ∀ (n : Nat) {B : Mm} {x1 : Int32} {x2 : Int32} {H : Heap} {locs : List Loc} {ls : Array Slot}, s_X0_possibleMoves_L4 n B x1 x2 = some r → Wo γ (st 6 σ o B) s H locs → lv_has ls 3 [(0, .ref (eA γ o)), (1, .int x1), (2, .int x2)] → W p l e R s m args below meth c H locs 0 0 (MQ below (Qo γ (some (.int r)) (st 6 σ o B)) args s 0 0 (AK γ)) (F0 m 4 ls []) := by
  have C0 := C
  obtain ⟨hx, hb, hr, hml, hown, hts, hlk, hK, hd, hF, hL⟩ := C
  intro n
  induction n with
  | zero => intro B x1 x2 H locs ls h; cases h
  | succ n ih =>
    intro B x1 x2 H locs ls h hw hl
    unfold s_X0_possibleMoves_L4 at h
    refine lv_iload_n hx hb dX0_possibleMoves_4 rfl (lv_at hl 2 rfl) ?_
    refine lv_bipush (v := (84 : Int32)) hx hb dX0_possibleMoves_5 (by decide) ?_
    refine lv_icmp_ge (tgt := 34) hx hb dX0_possibleMoves_7 (by decide) (fun c1 => ?_) (fun c1 => ?_)
    · replace h := ifp c1 h
      refine lv_iload_n hx hb dX0_possibleMoves_34 rfl (lv_at hl 1 rfl) ?_
      have h1 := Option.some.inj h
      subst h1
      exact r_iret hx hb hr hlk hK hd hw dX0_possibleMoves_35
    · replace h := ifn c1 h
      refine lv_aload_n hx hb dX0_possibleMoves_10 rfl (lv_at hl 0 rfl) ?_
      refine lv_iload_n hx hb dX0_possibleMoves_11 rfl (lv_at hl 2 rfl) ?_
      obtain ⟨v2, hv2, h⟩ := ob h
      refine r_Si (rest := [.ref (eA γ o)]) C0 z0 (c_X0_numberOf hv2) lk_X0_136 hl.1 rfl (Nat.le_of_ble_eq_true rfl) (by decide) hw dX0_possibleMoves_12 (fun {H} {locs} hw => ?_)
      refine lv_iload_n hx hb dX0_possibleMoves_15 rfl (lv_at hl 2 rfl) ?_
      obtain ⟨v3, hv3, h⟩ := ob h
      refine r_Si (rest := [.int v2, .ref (eA γ o)]) C0 z0 (c_X0_placeOf hv3) lk_X0_139 hl.1 rfl (Nat.le_of_ble_eq_true rfl) (by decide) hw dX0_possibleMoves_16 (fun {H} {locs} hw => ?_)
      obtain ⟨v4, hv4, h⟩ := ob h
      refine r_Vi (rest := []) C0 z0 (c_X0_whyNot hB hv4) lk_X0_142 (X0_k0 hB) rfl rfl hl.1 rfl (Nat.le_of_ble_eq_true rfl) (by decide) hw dX0_possibleMoves_19 (fun {H} {locs} hw => ?_)
      refine lv_if_ne (tgt := 28) hx hb dX0_possibleMoves_22 (by decide) (fun c5 => ?_) (fun c5 => ?_)
      · replace h := ifn c5 h
        obtain ⟨v6, ev6, h⟩ := jb h
        refine lv_iinc (v := v6) (lv' := [(2, .int v6), (0, .ref (eA γ o)), (1, .int x1)]) hx hb dX0_possibleMoves_28 hl (k := 2) rfl (by rw [← ev6]; rfl) (by decide) rfl (fun ls hl => ?_)
        refine lv_goto (tgt := 4) hx hb dX0_possibleMoves_31 (by decide) ?_
        exact ih h hw (lv_sub hl [1, 2, 0] rfl)
      · replace h := ifp c5 h
        obtain ⟨v7, ev7, h⟩ := jb h
        refine lv_iinc (v := v7) (lv' := [(1, .int v7), (0, .ref (eA γ o)), (2, .int x2)]) hx hb dX0_possibleMoves_25 hl (k := 1) rfl (by rw [← ev7]; rfl) (by decide) rfl (fun ls hl => ?_)
        obtain ⟨v8, ev8, h⟩ := jb h
        refine lv_iinc (v := v8) (lv' := [(2, .int v8), (1, .int v7), (0, .ref (eA γ o))]) hx hb dX0_possibleMoves_28 hl (k := 2) rfl (by rw [← ev8]; rfl) (by decide) rfl (fun ls hl => ?_)
        refine lv_goto (tgt := 4) hx hb dX0_possibleMoves_31 (by decide) ?_
        exact ih h hw (lv_sub hl [2, 1, 0] rfl)
set_option maxHeartbeats 4000000 in
set_option maxRecDepth 10000 in
theorem b_X0_possibleMoves {γ : Ev} {o : Nat} {σ : Mm} {r : Int32} {B : Mm} (C : Cx p R s m args meth c RX0 cX0_possibleMoves 3 (some .int) 6 137 γ) (hB : isX0 γ o) (h : s_X0_possibleMoves B = some r) (hw : Wo γ (st 6 σ o B) s H locs) (hl : lv_has ls 3 [(0, .ref (eA γ o))]) : W p l e R s m args below meth c H locs 0 0 (MQ below (Qo γ (some (.int r)) (st 6 σ o B)) args s 0 0 (AK γ)) (F0 m 0 ls []) := by
  have C0 := C
  obtain ⟨hx, hb, hr, hml, hown, hts, hlk, hK, hd, hF, hL⟩ := C
  unfold s_X0_possibleMoves at h
  refine lv_iconst (v := (0 : Int32)) hx hb dX0_possibleMoves_0 (by decide) ?_
  refine lv_istore_n (lv' := [(1, .int (0 : Int32)), (0, .ref (eA γ o))]) hx hb dX0_possibleMoves_1 rfl hl (by decide) rfl (fun ls hl => ?_)
  refine lv_iconst (v := (0 : Int32)) hx hb dX0_possibleMoves_2 (by decide) ?_
  refine lv_istore_n (lv' := [(2, .int (0 : Int32)), (1, .int (0 : Int32)), (0, .ref (eA γ o))]) hx hb dX0_possibleMoves_3 rfl hl (by decide) rfl (fun ls hl => ?_)
  exact b_X0_possibleMoves_L4 C0 hB 1000 h hw (lv_sub hl [2, 1, 0] rfl)
theorem c_X0_possibleMoves {l : Launch} {γ : Ev} {o : Nat} {σ : Mm} {r : Int32} {B : Mm} (hB : isX0 γ o) (h : s_X0_possibleMoves B = some r) : Ct l yX0_possibleMoves cX0_possibleMoves 3 (some .int) 6 137 γ [.ref (eA γ o)] (st 6 σ o B) (some (.int r)) (st 6 σ o B) := Ct.of (own := RX0) (by decide +kernel) rfl (Nat.le_of_ble_eq_true rfl) (fun C hw ls hl => b_X0_possibleMoves C hB h hw hl)
set_option maxHeartbeats 4000000 in
set_option maxRecDepth 10000 in
theorem b_X0_safeMoves_L4 {γ : Ev} {o : Nat} {σ : Mm} {r : Int32} (C : Cx p R s m args meth c RX0 cX0_safeMoves 5 (some .int) 6 137 γ) (hB : isX0 γ o) : ∀ (n : Nat) {B : Mm} {x1 : Int32} {x2 : Int32} {H : Heap} {locs : List Loc} {ls : Array Slot}, s_X0_safeMoves_L4 n B x1 x2 = some r → Wo γ (st 6 σ o B) s H locs → lv_has ls 5 [(0, .ref (eA γ o)), (1, .int x1), (2, .int x2)] → W p l e R s m args below meth c H locs 0 0 (MQ below (Qo γ (some (.int r)) (st 6 σ o B)) args s 0 0 (AK γ)) (F0 m 4 ls []) := by
  have C0 := C
  obtain ⟨hx, hb, hr, hml, hown, hts, hlk, hK, hd, hF, hL⟩ := C
  intro n
  induction n with
  | zero => intro B x1 x2 H locs ls h; cases h
  | succ n ih =>
    intro B x1 x2 H locs ls h hw hl
    unfold s_X0_safeMoves_L4 at h
    refine lv_iload_n hx hb dX0_safeMoves_4 rfl (lv_at hl 2 rfl) ?_
    refine lv_bipush (v := (84 : Int32)) hx hb dX0_safeMoves_5 (by decide) ?_
    refine lv_icmp_ge (tgt := 64) hx hb dX0_safeMoves_7 (by decide) (fun c1 => ?_) (fun c1 => ?_)
    · replace h := ifp c1 h
      refine lv_iload_n hx hb dX0_safeMoves_64 rfl (lv_at hl 1 rfl) ?_
      have h1 := Option.some.inj h
      subst h1
      exact r_iret hx hb hr hlk hK hd hw dX0_safeMoves_65
    · replace h := ifn c1 h
      refine lv_iload_n hx hb dX0_safeMoves_10 rfl (lv_at hl 2 rfl) ?_
      obtain ⟨v2, hv2, h⟩ := ob h
      refine r_Si (rest := []) C0 z0 (c_X0_numberOf hv2) lk_X0_136 hl.1 rfl (Nat.le_of_ble_eq_true rfl) (by decide) hw dX0_safeMoves_11 (fun {H} {locs} hw => ?_)
      refine lv_istore_n (lv' := [(3, .int v2), (0, .ref (eA γ o)), (1, .int x1), (2, .int x2)]) hx hb dX0_safeMoves_14 rfl hl (by decide) rfl (fun ls hl => ?_)
      refine lv_iload_n hx hb dX0_safeMoves_15 rfl (lv_at hl 3 rfl) ?_
      obtain ⟨v3, hv3, h⟩ := ob h
      refine r_Si (rest := []) C0 z0 (c_X0_placeOf hv3) lk_X0_139 hl.1 rfl (Nat.le_of_ble_eq_true rfl) (by decide) hw dX0_safeMoves_16 (fun {H} {locs} hw => ?_)
      refine lv_istore (lv' := [(4, .int v3), (3, .int v2), (0, .ref (eA γ o)), (1, .int x1), (2, .int x2)]) hx hb dX0_safeMoves_19 hl (by decide) rfl (fun ls hl => ?_)
      refine lv_aload_n hx hb dX0_safeMoves_21 rfl (lv_at hl 2 rfl) ?_
      refine lv_iload_n hx hb dX0_safeMoves_22 rfl (lv_at hl 1 rfl) ?_
      refine lv_iload hx hb dX0_safeMoves_23 (lv_at hl 0 rfl) ?_
      obtain ⟨v4, hv4, h⟩ := ob h
      refine r_Vi (rest := []) C0 z0 (c_X0_whyNot hB hv4) lk_X0_142 (X0_k0 hB) rfl rfl hl.1 rfl (Nat.le_of_ble_eq_true rfl) (by decide) hw dX0_safeMoves_25 (fun {H} {locs} hw => ?_)
      refine lv_if_ne (tgt := 58) hx hb dX0_safeMoves_28 (by decide) (fun c5 => ?_) (fun c5 => ?_)
      · replace h := ifn c5 h
        obtain ⟨v6, ev6, h⟩ := jb h
        refine lv_iinc (v := v6) (lv' := [(2, .int v6), (4, .int v3), (3, .int v2), (0, .ref (eA γ o)), (1, .int x1)]) hx hb dX0_safeMoves_58 hl (k := 4) rfl (by rw [← ev6]; rfl) (by decide) rfl (fun ls hl => ?_)
        refine lv_goto (tgt := 4) hx hb dX0_safeMoves_61 (by decide) ?_
        exact ih h hw (lv_sub hl [3, 4, 0] rfl)
      · replace h := ifp c5 h
        refine lv_aload_n hx hb dX0_safeMoves_31 rfl (lv_at hl 2 rfl) ?_
        refine r_get (v := .int (B 0 8)) hx hb hts hK hw hown inX0 rfl (X0_k0 hB) (st_at0 (by decide)) 8 (by decide) wd_35 rfl dX0_safeMoves_32 ?_
        refine lv_aload_n hx hb dX0_safeMoves_35 rfl (lv_at hl 2 rfl) ?_
        refine lv_iload_n hx hb dX0_safeMoves_36 rfl (lv_at hl 1 rfl) ?_
        refine lv_iload hx hb dX0_safeMoves_37 (lv_at hl 0 rfl) ?_
        obtain ⟨v7, hv7, h⟩ := ob h
        refine r_Vi (rest := [.int (B 0 8)]) C0 z0 (c_X0_tellingOf hB hv7) lk_X0_107 (X0_k0 hB) rfl rfl hl.1 rfl (Nat.le_of_ble_eq_true rfl) (by decide) hw dX0_safeMoves_39 (fun {H} {locs} hw => ?_)
        refine lv_iadd hx hb dX0_safeMoves_42 ?_
        refine r_abs C0 z0 lk_X0_80 hl.1 (Nat.le_of_ble_eq_true rfl) (by decide) dX0_safeMoves_43 ?_
        refine lv_aload_n hx hb dX0_safeMoves_46 rfl (lv_at hl 2 rfl) ?_
        refine r_get (v := .ref (eA γ (o + 4))) hx hb hts hK hw hown inX0 rfl (X0_k0 hB) (st_at0 (by decide)) 3 (by decide) wd_30 rfl dX0_safeMoves_47 ?_
        refine lv_iconst (v := (1 : Int32)) hx hb dX0_safeMoves_50 (by decide) ?_
        obtain ⟨v8, hv8, h⟩ := ob h
        refine r_iald hx hb hK hw (X0_k4 hB) (st_at (by decide)) hv8 dX0_safeMoves_51 ?_
        refine lv_icmp_gt (tgt := 58) hx hb dX0_safeMoves_52 (by decide) (fun c9 => ?_) (fun c9 => ?_)
        · replace h := ifp c9 h
          obtain ⟨v10, ev10, h⟩ := jb h
          refine lv_iinc (v := v10) (lv' := [(2, .int v10), (4, .int v3), (3, .int v2), (0, .ref (eA γ o)), (1, .int x1)]) hx hb dX0_safeMoves_58 hl (k := 4) rfl (by rw [← ev10]; rfl) (by decide) rfl (fun ls hl => ?_)
          refine lv_goto (tgt := 4) hx hb dX0_safeMoves_61 (by decide) ?_
          exact ih h hw (lv_sub hl [3, 4, 0] rfl)
        · replace h := ifn c9 h
          obtain ⟨v11, ev11, h⟩ := jb h
          refine lv_iinc (v := v11) (lv' := [(1, .int v11), (4, .int v3), (3, .int v2), (0, .ref (eA γ o)), (2, .int x2)]) hx hb dX0_safeMoves_55 hl (k := 3) rfl (by rw [← ev11]; rfl) (by decide) rfl (fun ls hl => ?_)
          obtain ⟨v12, ev12, h⟩ := jb h
          refine lv_iinc (v := v12) (lv' := [(2, .int v12), (1, .int v11), (4, .int v3), (3, .int v2), (0, .ref (eA γ o))]) hx hb dX0_safeMoves_58 hl (k := 4) rfl (by rw [← ev12]; rfl) (by decide) rfl (fun ls hl => ?_)
          refine lv_goto (tgt := 4) hx hb dX0_safeMoves_61 (by decide) ?_
          exact ih h hw (lv_sub hl [4, 1, 0] rfl)
set_option maxHeartbeats 4000000 in
set_option maxRecDepth 10000 in
theorem b_X0_safeMoves {γ : Ev} {o : Nat} {σ : Mm} {r : Int32} {B : Mm} (C : Cx p R s m args meth c RX0 cX0_safeMoves 5 (some .int) 6 137 γ) (hB : isX0 γ o) (h : s_X0_safeMoves B = some r) (hw : Wo γ (st 6 σ o B) s H locs) (hl : lv_has ls 5 [(0, .ref (eA γ o))]) : W p l e R s m args below meth c H locs 0 0 (MQ below (Qo γ (some (.int r)) (st 6 σ o B)) args s 0 0 (AK γ)) (F0 m 0 ls []) := by
  have C0 := C
  obtain ⟨hx, hb, hr, hml, hown, hts, hlk, hK, hd, hF, hL⟩ := C
  unfold s_X0_safeMoves at h
  refine lv_iconst (v := (0 : Int32)) hx hb dX0_safeMoves_0 (by decide) ?_
  refine lv_istore_n (lv' := [(1, .int (0 : Int32)), (0, .ref (eA γ o))]) hx hb dX0_safeMoves_1 rfl hl (by decide) rfl (fun ls hl => ?_)
  refine lv_iconst (v := (0 : Int32)) hx hb dX0_safeMoves_2 (by decide) ?_
  refine lv_istore_n (lv' := [(2, .int (0 : Int32)), (1, .int (0 : Int32)), (0, .ref (eA γ o))]) hx hb dX0_safeMoves_3 rfl hl (by decide) rfl (fun ls hl => ?_)
  exact b_X0_safeMoves_L4 C0 hB 1000 h hw (lv_sub hl [2, 1, 0] rfl)
theorem c_X0_safeMoves {l : Launch} {γ : Ev} {o : Nat} {σ : Mm} {r : Int32} {B : Mm} (hB : isX0 γ o) (h : s_X0_safeMoves B = some r) : Ct l yX0_safeMoves cX0_safeMoves 5 (some .int) 6 137 γ [.ref (eA γ o)] (st 6 σ o B) (some (.int r)) (st 6 σ o B) := Ct.of (own := RX0) (by decide +kernel) rfl (Nat.le_of_ble_eq_true rfl) (fun C hw ls hl => b_X0_safeMoves C hB h hw hl)
set_option maxHeartbeats 4000000 in
set_option maxRecDepth 10000 in
theorem b_X0_side {γ : Ev} {o : Nat} {σ : Mm} {r : Int32} {B : Mm} (C : Cx p R s m args meth c RX0 cX0_side 1 (some .int) 1 30 γ) (hB : isX0 γ o) (h : s_X0_side B = some r) (hw : Wo γ (st 6 σ o B) s H locs) (hl : lv_has ls 1 [(0, .ref (eA γ o))]) : W p l e R s m args below meth c H locs 0 0 (MQ below (Qo γ (some (.int r)) (st 6 σ o B)) args s 0 0 (AK γ)) (F0 m 0 ls []) := by
  have C0 := C
  obtain ⟨hx, hb, hr, hml, hown, hts, hlk, hK, hd, hF, hL⟩ := C
  unfold s_X0_side at h
  refine lv_aload_n hx hb dX0_side_0 rfl (lv_at hl 0 rfl) ?_
  refine r_get (v := .int (B 0 5)) hx hb hts hK hw hown inX0 rfl (X0_k0 hB) (st_at0 (by decide)) 5 (by decide) wd_32 rfl dX0_side_1 ?_
  have h1 := Option.some.inj h
  subst h1
  exact r_iret hx hb hr hlk hK hd hw dX0_side_4
theorem c_X0_side {l : Launch} {γ : Ev} {o : Nat} {σ : Mm} {r : Int32} {B : Mm} (hB : isX0 γ o) (h : s_X0_side B = some r) : Ct l yX0_side cX0_side 1 (some .int) 1 30 γ [.ref (eA γ o)] (st 6 σ o B) (some (.int r)) (st 6 σ o B) := Ct.of (own := RX0) (by decide +kernel) rfl (Nat.le_of_ble_eq_true rfl) (fun C hw ls hl => b_X0_side C hB h hw hl)
set_option maxHeartbeats 4000000 in
set_option maxRecDepth 10000 in
theorem b_X0_latestSide {γ : Ev} {o : Nat} {σ : Mm} {r : Int32} {B : Mm} (C : Cx p R s m args meth c RX0 cX0_latestSide 1 (some .int) 1 30 γ) (hB : isX0 γ o) (h : s_X0_latestSide B = some r) (hw : Wo γ (st 6 σ o B) s H locs) (hl : lv_has ls 1 [(0, .ref (eA γ o))]) : W p l e R s m args below meth c H locs 0 0 (MQ below (Qo γ (some (.int r)) (st 6 σ o B)) args s 0 0 (AK γ)) (F0 m 0 ls []) := by
  have C0 := C
  obtain ⟨hx, hb, hr, hml, hown, hts, hlk, hK, hd, hF, hL⟩ := C
  unfold s_X0_latestSide at h
  refine lv_aload_n hx hb dX0_latestSide_0 rfl (lv_at hl 0 rfl) ?_
  refine r_get (v := .int (B 0 6)) hx hb hts hK hw hown inX0 rfl (X0_k0 hB) (st_at0 (by decide)) 6 (by decide) wd_33 rfl dX0_latestSide_1 ?_
  have h1 := Option.some.inj h
  subst h1
  exact r_iret hx hb hr hlk hK hd hw dX0_latestSide_4
theorem c_X0_latestSide {l : Launch} {γ : Ev} {o : Nat} {σ : Mm} {r : Int32} {B : Mm} (hB : isX0 γ o) (h : s_X0_latestSide B = some r) : Ct l yX0_latestSide cX0_latestSide 1 (some .int) 1 30 γ [.ref (eA γ o)] (st 6 σ o B) (some (.int r)) (st 6 σ o B) := Ct.of (own := RX0) (by decide +kernel) rfl (Nat.le_of_ble_eq_true rfl) (fun C hw ls hl => b_X0_latestSide C hB h hw hl)
set_option maxHeartbeats 4000000 in
set_option maxRecDepth 10000 in
theorem b_X0_movedTo {γ : Ev} {o : Nat} {σ : Mm} {r : Int32} {B : Mm} (C : Cx p R s m args meth c RX0 cX0_movedTo 1 (some .int) 1 30 γ) (hB : isX0 γ o) (h : s_X0_movedTo B = some r) (hw : Wo γ (st 6 σ o B) s H locs) (hl : lv_has ls 1 [(0, .ref (eA γ o))]) : W p l e R s m args below meth c H locs 0 0 (MQ below (Qo γ (some (.int r)) (st 6 σ o B)) args s 0 0 (AK γ)) (F0 m 0 ls []) := by
  have C0 := C
  obtain ⟨hx, hb, hr, hml, hown, hts, hlk, hK, hd, hF, hL⟩ := C
  unfold s_X0_movedTo at h
  refine lv_aload_n hx hb dX0_movedTo_0 rfl (lv_at hl 0 rfl) ?_
  refine r_get (v := .int (B 0 7)) hx hb hts hK hw hown inX0 rfl (X0_k0 hB) (st_at0 (by decide)) 7 (by decide) wd_34 rfl dX0_movedTo_1 ?_
  have h1 := Option.some.inj h
  subst h1
  exact r_iret hx hb hr hlk hK hd hw dX0_movedTo_4
theorem c_X0_movedTo {l : Launch} {γ : Ev} {o : Nat} {σ : Mm} {r : Int32} {B : Mm} (hB : isX0 γ o) (h : s_X0_movedTo B = some r) : Ct l yX0_movedTo cX0_movedTo 1 (some .int) 1 30 γ [.ref (eA γ o)] (st 6 σ o B) (some (.int r)) (st 6 σ o B) := Ct.of (own := RX0) (by decide +kernel) rfl (Nat.le_of_ble_eq_true rfl) (fun C hw ls hl => b_X0_movedTo C hB h hw hl)
set_option maxHeartbeats 4000000 in
set_option maxRecDepth 10000 in
theorem b_X0_turn {γ : Ev} {o : Nat} {σ : Mm} {r : Int32} {B : Mm} (C : Cx p R s m args meth c RX0 cX0_turn 1 (some .int) 1 30 γ) (hB : isX0 γ o) (h : s_X0_turn B = some r) (hw : Wo γ (st 6 σ o B) s H locs) (hl : lv_has ls 1 [(0, .ref (eA γ o))]) : W p l e R s m args below meth c H locs 0 0 (MQ below (Qo γ (some (.int r)) (st 6 σ o B)) args s 0 0 (AK γ)) (F0 m 0 ls []) := by
  have C0 := C
  obtain ⟨hx, hb, hr, hml, hown, hts, hlk, hK, hd, hF, hL⟩ := C
  unfold s_X0_turn at h
  refine lv_aload_n hx hb dX0_turn_0 rfl (lv_at hl 0 rfl) ?_
  refine r_get (v := .int (B 0 8)) hx hb hts hK hw hown inX0 rfl (X0_k0 hB) (st_at0 (by decide)) 8 (by decide) wd_35 rfl dX0_turn_1 ?_
  have h1 := Option.some.inj h
  subst h1
  exact r_iret hx hb hr hlk hK hd hw dX0_turn_4
theorem c_X0_turn {l : Launch} {γ : Ev} {o : Nat} {σ : Mm} {r : Int32} {B : Mm} (hB : isX0 γ o) (h : s_X0_turn B = some r) : Ct l yX0_turn cX0_turn 1 (some .int) 1 30 γ [.ref (eA γ o)] (st 6 σ o B) (some (.int r)) (st 6 σ o B) := Ct.of (own := RX0) (by decide +kernel) rfl (Nat.le_of_ble_eq_true rfl) (fun C hw ls hl => b_X0_turn C hB h hw hl)
set_option maxHeartbeats 4000000 in
set_option maxRecDepth 10000 in
theorem b_X0_toldByMoves {γ : Ev} {o : Nat} {σ : Mm} {r : Int32} {B : Mm} (C : Cx p R s m args meth c RX0 cX0_toldByMoves 1 (some .int) 1 30 γ) (hB : isX0 γ o) (h : s_X0_toldByMoves B = some r) (hw : Wo γ (st 6 σ o B) s H locs) (hl : lv_has ls 1 [(0, .ref (eA γ o))]) : W p l e R s m args below meth c H locs 0 0 (MQ below (Qo γ (some (.int r)) (st 6 σ o B)) args s 0 0 (AK γ)) (F0 m 0 ls []) := by
  have C0 := C
  obtain ⟨hx, hb, hr, hml, hown, hts, hlk, hK, hd, hF, hL⟩ := C
  unfold s_X0_toldByMoves at h
  refine lv_aload_n hx hb dX0_toldByMoves_0 rfl (lv_at hl 0 rfl) ?_
  refine r_get (v := .int (B 0 9)) hx hb hts hK hw hown inX0 rfl (X0_k0 hB) (st_at0 (by decide)) 9 (by decide) wd_36 rfl dX0_toldByMoves_1 ?_
  have h1 := Option.some.inj h
  subst h1
  exact r_iret hx hb hr hlk hK hd hw dX0_toldByMoves_4
theorem c_X0_toldByMoves {l : Launch} {γ : Ev} {o : Nat} {σ : Mm} {r : Int32} {B : Mm} (hB : isX0 γ o) (h : s_X0_toldByMoves B = some r) : Ct l yX0_toldByMoves cX0_toldByMoves 1 (some .int) 1 30 γ [.ref (eA γ o)] (st 6 σ o B) (some (.int r)) (st 6 σ o B) := Ct.of (own := RX0) (by decide +kernel) rfl (Nat.le_of_ble_eq_true rfl) (fun C hw ls hl => b_X0_toldByMoves C hB h hw hl)
set_option maxHeartbeats 4000000 in
set_option maxRecDepth 10000 in
theorem b_X0_greatestTurn {γ : Ev} {o : Nat} {σ : Mm} {r : Int32} {B : Mm} (C : Cx p R s m args meth c RX0 cX0_greatestTurn 1 (some .int) 1 30 γ) (hB : isX0 γ o) (h : s_X0_greatestTurn B = some r) (hw : Wo γ (st 6 σ o B) s H locs) (hl : lv_has ls 1 [(0, .ref (eA γ o))]) : W p l e R s m args below meth c H locs 0 0 (MQ below (Qo γ (some (.int r)) (st 6 σ o B)) args s 0 0 (AK γ)) (F0 m 0 ls []) := by
  have C0 := C
  obtain ⟨hx, hb, hr, hml, hown, hts, hlk, hK, hd, hF, hL⟩ := C
  unfold s_X0_greatestTurn at h
  refine lv_aload_n hx hb dX0_greatestTurn_0 rfl (lv_at hl 0 rfl) ?_
  refine r_get (v := .int (B 0 10)) hx hb hts hK hw hown inX0 rfl (X0_k0 hB) (st_at0 (by decide)) 10 (by decide) wd_37 rfl dX0_greatestTurn_1 ?_
  have h1 := Option.some.inj h
  subst h1
  exact r_iret hx hb hr hlk hK hd hw dX0_greatestTurn_4
theorem c_X0_greatestTurn {l : Launch} {γ : Ev} {o : Nat} {σ : Mm} {r : Int32} {B : Mm} (hB : isX0 γ o) (h : s_X0_greatestTurn B = some r) : Ct l yX0_greatestTurn cX0_greatestTurn 1 (some .int) 1 30 γ [.ref (eA γ o)] (st 6 σ o B) (some (.int r)) (st 6 σ o B) := Ct.of (own := RX0) (by decide +kernel) rfl (Nat.le_of_ble_eq_true rfl) (fun C hw ls hl => b_X0_greatestTurn C hB h hw hl)
set_option maxHeartbeats 4000000 in
set_option maxRecDepth 10000 in
theorem b_X0_moveCount {γ : Ev} {o : Nat} {σ : Mm} {r : Int32} {B : Mm} (C : Cx p R s m args meth c RX0 cX0_moveCount 1 (some .int) 1 30 γ) (hB : isX0 γ o) (h : s_X0_moveCount B = some r) (hw : Wo γ (st 6 σ o B) s H locs) (hl : lv_has ls 1 [(0, .ref (eA γ o))]) : W p l e R s m args below meth c H locs 0 0 (MQ below (Qo γ (some (.int r)) (st 6 σ o B)) args s 0 0 (AK γ)) (F0 m 0 ls []) := by
  have C0 := C
  obtain ⟨hx, hb, hr, hml, hown, hts, hlk, hK, hd, hF, hL⟩ := C
  unfold s_X0_moveCount at h
  refine lv_aload_n hx hb dX0_moveCount_0 rfl (lv_at hl 0 rfl) ?_
  refine r_get (v := .int (B 0 11)) hx hb hts hK hw hown inX0 rfl (X0_k0 hB) (st_at0 (by decide)) 11 (by decide) wd_38 rfl dX0_moveCount_1 ?_
  have h1 := Option.some.inj h
  subst h1
  exact r_iret hx hb hr hlk hK hd hw dX0_moveCount_4
theorem c_X0_moveCount {l : Launch} {γ : Ev} {o : Nat} {σ : Mm} {r : Int32} {B : Mm} (hB : isX0 γ o) (h : s_X0_moveCount B = some r) : Ct l yX0_moveCount cX0_moveCount 1 (some .int) 1 30 γ [.ref (eA γ o)] (st 6 σ o B) (some (.int r)) (st 6 σ o B) := Ct.of (own := RX0) (by decide +kernel) rfl (Nat.le_of_ble_eq_true rfl) (fun C hw ls hl => b_X0_moveCount C hB h hw hl)
set_option maxHeartbeats 4000000 in
set_option maxRecDepth 10000 in
theorem b_X2_length {γ : Ev} {o : Nat} {σ : Mm} {r : Int32} {M : Mm} (C : Cx p R s m args meth c RX2 cX2_length 1 (some .int) 1 30 γ) (hB : isX2 γ o) (h : s_X2_length M = some r) (hw : Wo γ (st 4 σ o M) s H locs) (hl : lv_has ls 1 [(0, .ref (eA γ o))]) : W p l e R s m args below meth c H locs 0 0 (MQ below (Qo γ (some (.int r)) (st 4 σ o M)) args s 0 0 (AK γ)) (F0 m 0 ls []) := by
  have C0 := C
  obtain ⟨hx, hb, hr, hml, hown, hts, hlk, hK, hd, hF, hL⟩ := C
  unfold s_X2_length at h
  refine lv_aload_n hx hb dX2_length_0 rfl (lv_at hl 0 rfl) ?_
  refine r_get (v := .int (M 0 3)) hx hb hts hK hw hown inX2 rfl (X2_k0 hB) (st_at0 (by decide)) 3 (by decide) wd_90 rfl dX2_length_1 ?_
  have h1 := Option.some.inj h
  subst h1
  exact r_iret hx hb hr hlk hK hd hw dX2_length_4
theorem c_X2_length {l : Launch} {γ : Ev} {o : Nat} {σ : Mm} {r : Int32} {M : Mm} (hB : isX2 γ o) (h : s_X2_length M = some r) : Ct l yX2_length cX2_length 1 (some .int) 1 30 γ [.ref (eA γ o)] (st 4 σ o M) (some (.int r)) (st 4 σ o M) := Ct.of (own := RX2) (by decide +kernel) rfl (Nat.le_of_ble_eq_true rfl) (fun C hw ls hl => b_X2_length C hB h hw hl)
set_option maxHeartbeats 4000000 in
set_option maxRecDepth 10000 in
theorem b_X3_behind {γ : Ev} {o : Nat} {σ : Mm} {Bf : Mm} {A : Mm → Int32 → Int32 → Int32 → Option (Int32 × Mm)} {fA lA : Nat} {r : Int32} {B : Mm} {x1 x2 x3 x4 x5 : Int32} (C : Cx p R s m args meth c RX3 cX3_behind 10 (some .int) (fA + 8) (lA + 300) γ) (hB : isX0 γ o) (hA : ∀ {σ B Bf : Mm} {x1 x2 x3 r : Int32}, A B x1 x2 x3 = some (r, Bf) → Ct l yX3_ahead cX3_ahead 10 (some .int) fA lA γ [.ref (eA γ o), .int x1, .int x2, .int x3] (st 6 σ o B) (some (.int r)) (st 6 σ o Bf)) (h : s_X3_behind A B x1 x2 x3 x4 x5 = some (r, Bf)) (hw : Wo γ (st 6 σ o B) s H locs) (hl : lv_has ls 10 [(0, .ref (eA γ o)), (1, .int x1), (2, .int x2), (3, .int x3), (4, .int x4), (5, .int x5)]) : W p l e R s m args below meth c H locs 0 0 (MQ below (Qo γ (some (.int r)) (st 6 σ o Bf)) args s 0 0 (AK γ)) (F0 m 0 ls []) := by
  have C0 := C
  obtain ⟨hx, hb, hr, hml, hown, hts, hlk, hK, hd, hF, hL⟩ := C
  unfold s_X3_behind at h
  refine lv_aload_n hx hb dX3_behind_0 rfl (lv_at hl 0 rfl) ?_
  obtain ⟨v1, hv1, h⟩ := ob h
  refine r_Vi (rest := []) C0 z0 (c_X0_side hB hv1) lk_X3_51 (X0_k0 hB) rfl rfl hl.1 rfl (Nat.le_of_ble_eq_true rfl) (by omega) hw dX3_behind_1 (fun {H} {locs} hw => ?_)
  refine lv_istore (lv' := [(6, .int v1), (0, .ref (eA γ o)), (1, .int x1), (2, .int x2), (3, .int x3), (4, .int x4), (5, .int x5)]) hx hb dX3_behind_4 hl (by decide) rfl (fun ls hl => ?_)
  refine lv_aload_n hx hb dX3_behind_6 rfl (lv_at hl 1 rfl) ?_
  obtain ⟨v2, hv2, h⟩ := ob h
  refine r_Vi (rest := []) C0 z0 (c_X0_latestSide hB hv2) lk_X3_54 (X0_k0 hB) rfl rfl hl.1 rfl (Nat.le_of_ble_eq_true rfl) (by omega) hw dX3_behind_7 (fun {H} {locs} hw => ?_)
  refine lv_istore (lv' := [(7, .int v2), (6, .int v1), (0, .ref (eA γ o)), (1, .int x1), (2, .int x2), (3, .int x3), (4, .int x4), (5, .int x5)]) hx hb dX3_behind_10 hl (by decide) rfl (fun ls hl => ?_)
  refine lv_aload_n hx hb dX3_behind_12 rfl (lv_at hl 2 rfl) ?_
  obtain ⟨v3, hv3, h⟩ := ob h
  refine r_Vi (rest := []) C0 z0 (c_X0_movedTo hB hv3) lk_X3_57 (X0_k0 hB) rfl rfl hl.1 rfl (Nat.le_of_ble_eq_true rfl) (by omega) hw dX3_behind_13 (fun {H} {locs} hw => ?_)
  refine lv_istore (lv' := [(8, .int v3), (7, .int v2), (6, .int v1), (0, .ref (eA γ o)), (1, .int x1), (2, .int x2), (3, .int x3), (4, .int x4), (5, .int x5)]) hx hb dX3_behind_16 hl (by decide) rfl (fun ls hl => ?_)
  refine lv_aload_n hx hb dX3_behind_18 rfl (lv_at hl 3 rfl) ?_
  refine lv_iload_n hx hb dX3_behind_19 rfl (lv_at hl 4 rfl) ?_
  refine lv_iload_n hx hb dX3_behind_20 rfl (lv_at hl 5 rfl) ?_
  obtain ⟨N4, hN4, h⟩ := ob h
  refine r_Vv (rest := []) C0 z0 (c_X0_tryMove hB hN4) lk_X3_60 (X0_k0 hB) rfl rfl hl.1 rfl (Nat.le_of_ble_eq_true rfl) (by omega) hw dX3_behind_21 (fun {H} {locs} hw => ?_)
  refine lv_aload_n hx hb dX3_behind_24 rfl (lv_at hl 3 rfl) ?_
  obtain ⟨v5, hv5, h⟩ := ob h
  refine r_Vi (rest := []) C0 z0 (c_X0_side hB hv5) lk_X3_51 (X0_k0 hB) rfl rfl hl.1 rfl (Nat.le_of_ble_eq_true rfl) (by omega) hw dX3_behind_25 (fun {H} {locs} hw => ?_)
  refine lv_iload hx hb dX3_behind_28 (lv_at hl 2 rfl) ?_
  refine jn_elim h (fun (k : Int32 → Mm → Option (Int32 × (Mm))) => ∀ (v14 : Int32) (N15 : Mm) {H : Heap} {locs : List Loc} {ls : Array Slot}, k v14 N15 = some (r, Bf) → Wo γ (st 6 σ o N15) s H locs → lv_has ls 10 [(0, .ref (eA γ o)), (1, .int x1), (2, .int x2), (6, .int v1), (7, .int v2), (8, .int v3)] → W p l e R s m args below meth c H locs 0 0 (MQ below (Qo γ (some (.int r)) (st 6 σ o Bf)) args s 0 0 (AK γ)) (F0 m 57 ls [.int v14])) ?_ ?_
  · intro v14 N15 H locs ls h hw hl
    refine lv_istore (lv' := [(9, .int v14), (0, .ref (eA γ o)), (1, .int x1), (2, .int x2), (6, .int v1), (7, .int v2), (8, .int v3)]) hx hb dX3_behind_57 hl (by decide) rfl (fun ls hl => ?_)
    refine lv_aload_n hx hb dX3_behind_59 rfl (lv_at hl 1 rfl) ?_
    refine lv_iload_n hx hb dX3_behind_60 rfl (lv_at hl 2 rfl) ?_
    refine lv_iload_n hx hb dX3_behind_61 rfl (lv_at hl 3 rfl) ?_
    refine lv_iload hx hb dX3_behind_62 (lv_at hl 4 rfl) ?_
    refine lv_iload hx hb dX3_behind_64 (lv_at hl 5 rfl) ?_
    refine lv_iload hx hb dX3_behind_66 (lv_at hl 6 rfl) ?_
    obtain ⟨N16, hN16, h⟩ := ob h
    refine r_Vv (rest := []) C0 z0 (c_X0_takeBack hB hN16) lk_X3_64 (X0_k0 hB) rfl rfl hl.1 rfl (Nat.le_of_ble_eq_true rfl) (by omega) hw dX3_behind_68 (fun {H} {locs} hw => ?_)
    refine lv_iload hx hb dX3_behind_71 (lv_at hl 0 rfl) ?_
    obtain ⟨h1, h2⟩ := s2 h
    subst h1
    subst h2
    exact r_iret hx hb hr hlk hK hd hw dX3_behind_73
  intro k13 J_k13 h
  refine lv_icmp_ne (tgt := 45) hx hb dX3_behind_30 (by decide) (fun c17 => ?_) (fun c17 => ?_)
  · replace h := ifn c17 h
    refine lv_aload_n hx hb dX3_behind_45 rfl (lv_at hl 3 rfl) ?_
    refine lv_iload_n hx hb dX3_behind_46 rfl (lv_at hl 6 rfl) ?_
    refine lv_iload hx hb dX3_behind_47 (lv_at hl 8 rfl) ?_
    refine lv_ineg hx hb dX3_behind_49 ?_
    refine lv_iload hx hb dX3_behind_50 (lv_at hl 7 rfl) ?_
    refine lv_ineg hx hb dX3_behind_52 ?_
    obtain ⟨q18, hq18, h⟩ := ob h
    refine r_Si (rest := []) C0 z0 (hA hq18) lk_X3_7 hl.1 rfl (Nat.le_of_ble_eq_true rfl) (by omega) hw dX3_behind_53 (fun {H} {locs} hw => ?_)
    refine lv_ineg hx hb dX3_behind_56 ?_
    exact J_k13 (-q18.1) q18.2 h hw (lv_sub hl [3, 4, 5, 2, 1, 0] rfl)
  · replace h := ifp c17 h
    refine lv_aload_n hx hb dX3_behind_33 rfl (lv_at hl 3 rfl) ?_
    refine lv_iload_n hx hb dX3_behind_34 rfl (lv_at hl 6 rfl) ?_
    refine lv_iload hx hb dX3_behind_35 (lv_at hl 7 rfl) ?_
    refine lv_iload hx hb dX3_behind_37 (lv_at hl 8 rfl) ?_
    obtain ⟨q19, hq19, h⟩ := ob h
    refine r_Si (rest := []) C0 z0 (hA hq19) lk_X3_7 hl.1 rfl (Nat.le_of_ble_eq_true rfl) (by omega) hw dX3_behind_39 (fun {H} {locs} hw => ?_)
    refine lv_goto (tgt := 57) hx hb dX3_behind_42 (by decide) ?_
    exact J_k13 q19.1 q19.2 h hw (lv_sub hl [3, 4, 5, 2, 1, 0] rfl)
theorem c_X3_behind {l : Launch} {γ : Ev} {o : Nat} {σ : Mm} {Bf : Mm} {A : Mm → Int32 → Int32 → Int32 → Option (Int32 × Mm)} {fA lA : Nat} {r : Int32} {B : Mm} {x1 x2 x3 x4 x5 : Int32} (hB : isX0 γ o) (hA : ∀ {σ B Bf : Mm} {x1 x2 x3 r : Int32}, A B x1 x2 x3 = some (r, Bf) → Ct l yX3_ahead cX3_ahead 10 (some .int) fA lA γ [.ref (eA γ o), .int x1, .int x2, .int x3] (st 6 σ o B) (some (.int r)) (st 6 σ o Bf)) (h : s_X3_behind A B x1 x2 x3 x4 x5 = some (r, Bf)) : Ct l yX3_behind cX3_behind 10 (some .int) (fA + 8) (lA + 300) γ [.ref (eA γ o), .int x1, .int x2, .int x3, .int x4, .int x5] (st 6 σ o B) (some (.int r)) (st 6 σ o Bf) := Ct.of (own := RX3) (by decide +kernel) rfl (Nat.le_of_ble_eq_true rfl) (fun C hw ls hl => b_X3_behind C hB hA h hw hl)
set_option maxHeartbeats 4000000 in
set_option maxRecDepth 10000 in
theorem b_X3_ahead_L31 {γ : Ev} {o : Nat} {σ : Mm} {Bf : Mm} {A : Mm → Int32 → Int32 → Int32 → Option (Int32 × Mm)} {fA lA : Nat} {r : Int32} (C : Cx p R s m args meth c RX3 cX3_ahead 10 (some .int) (fA + 16) (lA + 600) γ) (hB : isX0 γ o) (hA : ∀ {σ B Bf : Mm} {x1 x2 x3 r : Int32}, A B x1 x2 x3 = some (r, Bf) → Ct l yX3_ahead cX3_ahead 10 (some .int) fA lA γ [.ref (eA γ o), .int x1, .int x2, .int x3] (st 6 σ o B) (some (.int r)) (st 6 σ o Bf)) : ∀ (n : Nat) {B : Mm} {x1 : Int32} {x2 : Int32} {x3 : Int32} {x5 : Int32} {x6 : Int32} {H : Heap} {locs : List Loc} {ls : Array Slot}, s_X3_ahead_L31 A n B x1 x2 x3 x5 x6 = some (r, Bf) → Wo γ (st 6 σ o B) s H locs → lv_has ls 10 [(0, .ref (eA γ o)), (1, .int x1), (2, .int x2), (3, .int x3), (5, .int x5), (6, .int x6)] → W p l e R s m args below meth c H locs 0 0 (MQ below (Qo γ (some (.int r)) (st 6 σ o Bf)) args s 0 0 (AK γ)) (F0 m 31 ls []) := by
  have C0 := C
  obtain ⟨hx, hb, hr, hml, hown, hts, hlk, hK, hd, hF, hL⟩ := C
  intro n
  induction n with
  | zero => intro B x1 x2 x3 x5 x6 H locs ls h; cases h
  | succ n ih =>
    intro B x1 x2 x3 x5 x6 H locs ls h hw hl
    unfold s_X3_ahead_L31 at h
    refine lv_iload hx hb dX3_ahead_31 (lv_at hl 5 rfl) ?_
    refine lv_bipush (v := (84 : Int32)) hx hb dX3_ahead_33 (by decide) ?_
    refine lv_icmp_ge (tgt := 110) hx hb dX3_ahead_35 (by decide) (fun c4 => ?_) (fun c4 => ?_)
    · replace h := ifp c4 h
      refine lv_iload hx hb dX3_ahead_110 (lv_at hl 4 rfl) ?_
      refine lv_bipush (v := (-2 : Int32)) hx hb dX3_ahead_112 (by decide) ?_
      refine lv_icmp_ne (tgt := 121) hx hb dX3_ahead_114 (by decide) (fun c5 => ?_) (fun c5 => ?_)
      · replace h := ifn c5 h
        refine lv_iload hx hb dX3_ahead_121 (lv_at hl 4 rfl) ?_
        obtain ⟨h1, h2⟩ := s2 h
        subst h1
        subst h2
        exact r_iret hx hb hr hlk hK hd hw dX3_ahead_123
      · replace h := ifp c5 h
        refine lv_iconst (v := (0 : Int32)) hx hb dX3_ahead_117 (by decide) ?_
        refine lv_goto (tgt := 123) hx hb dX3_ahead_118 (by decide) ?_
        obtain ⟨h1, h2⟩ := s2 h
        subst h1
        subst h2
        exact r_iret hx hb hr hlk hK hd hw dX3_ahead_123
    · replace h := ifn c4 h
      refine lv_iload hx hb dX3_ahead_38 (lv_at hl 5 rfl) ?_
      obtain ⟨v6, hv6, h⟩ := ob h
      refine r_Si (rest := []) C0 z0 (c_X0_numberOf hv6) lk_X3_19 hl.1 rfl (Nat.le_of_ble_eq_true rfl) (by omega) hw dX3_ahead_40 (fun {H} {locs} hw => ?_)
      refine lv_istore (lv' := [(7, .int v6), (0, .ref (eA γ o)), (1, .int x1), (2, .int x2), (3, .int x3), (5, .int x5), (6, .int x6)]) hx hb dX3_ahead_43 hl (by decide) rfl (fun ls hl => ?_)
      refine lv_iload hx hb dX3_ahead_45 (lv_at hl 6 rfl) ?_
      obtain ⟨v7, hv7, h⟩ := ob h
      refine r_Si (rest := []) C0 z0 (c_X0_placeOf hv7) lk_X3_23 hl.1 rfl (Nat.le_of_ble_eq_true rfl) (by omega) hw dX3_ahead_47 (fun {H} {locs} hw => ?_)
      refine lv_istore (lv' := [(8, .int v7), (7, .int v6), (0, .ref (eA γ o)), (1, .int x1), (2, .int x2), (3, .int x3), (5, .int x5), (6, .int x6)]) hx hb dX3_ahead_50 hl (by decide) rfl (fun ls hl => ?_)
      refine lv_aload_n hx hb dX3_ahead_52 rfl (lv_at hl 2 rfl) ?_
      refine lv_iload hx hb dX3_ahead_53 (lv_at hl 1 rfl) ?_
      refine lv_iload hx hb dX3_ahead_55 (lv_at hl 0 rfl) ?_
      obtain ⟨v8, hv8, h⟩ := ob h
      refine r_Vi (rest := []) C0 z0 (c_X0_hindrance hB hv8) lk_X3_26 (X0_k0 hB) rfl rfl hl.1 rfl (Nat.le_of_ble_eq_true rfl) (by omega) hw dX3_ahead_57 (fun {H} {locs} hw => ?_)
      refine lv_if_eq (tgt := 66) hx hb dX3_ahead_60 (by decide) (fun c9 => ?_) (fun c9 => ?_)
      · replace h := ifp c9 h
        refine lv_aload_n hx hb dX3_ahead_66 rfl (lv_at hl 2 rfl) ?_
        refine lv_iload hx hb dX3_ahead_67 (lv_at hl 1 rfl) ?_
        refine lv_iload hx hb dX3_ahead_69 (lv_at hl 0 rfl) ?_
        refine lv_iload_n hx hb dX3_ahead_71 rfl (lv_at hl 3 rfl) ?_
        refine lv_iconst (v := (1 : Int32)) hx hb dX3_ahead_72 (by decide) ?_
        refine lv_isub hx hb dX3_ahead_73 ?_
        refine lv_iload_n hx hb dX3_ahead_74 rfl (lv_at hl 4 rfl) ?_
        refine lv_iload hx hb dX3_ahead_75 (lv_at hl 6 rfl) ?_
        refine r_max C0 z0 lk_X3_48 hl.1 (Nat.le_of_ble_eq_true rfl) (by omega) dX3_ahead_77 ?_
        refine lv_iload_n hx hb dX3_ahead_80 rfl (lv_at hl 5 rfl) ?_
        obtain ⟨q10, hq10, h⟩ := ob h
        refine r_Si (rest := []) C0 z0 (c_X3_behind hB hA hq10) lk_X3_41 hl.1 rfl (Nat.le_of_ble_eq_true rfl) (by omega) hw dX3_ahead_81 (fun {H} {locs} hw => ?_)
        obtain ⟨v11, ev11, h⟩ := jb h
        refine r_top ev11 ?_
        refine lv_istore (lv' := [(9, .int v11), (8, .int v7), (7, .int v6), (0, .ref (eA γ o)), (1, .int x1), (2, .int x2), (3, .int x3), (5, .int x5), (6, .int x6)]) hx hb dX3_ahead_84 hl (by decide) rfl (fun ls hl => ?_)
        refine lv_iload hx hb dX3_ahead_86 (lv_at hl 7 rfl) ?_
        refine lv_iload hx hb dX3_ahead_88 (lv_at hl 0 rfl) ?_
        refine r_max C0 z0 lk_X3_48 hl.1 (Nat.le_of_ble_eq_true rfl) (by omega) dX3_ahead_90 ?_
        obtain ⟨v12, ev12, h⟩ := jb h
        refine r_top ev12 ?_
        refine lv_istore (lv' := [(5, .int v12), (9, .int v11), (8, .int v7), (7, .int v6), (0, .ref (eA γ o)), (1, .int x1), (2, .int x2), (3, .int x3), (6, .int x6)]) hx hb dX3_ahead_93 hl (by decide) rfl (fun ls hl => ?_)
        refine lv_iload hx hb dX3_ahead_95 (lv_at hl 0 rfl) ?_
        refine lv_iload_n hx hb dX3_ahead_97 rfl (lv_at hl 7 rfl) ?_
        refine lv_icmp_lt (tgt := 104) hx hb dX3_ahead_98 (by decide) (fun c13 => ?_) (fun c13 => ?_)
        · replace h := ifp c13 h
          obtain ⟨v14, ev14, h⟩ := jb h
          refine lv_iinc (v := v14) (lv' := [(6, .int v14), (5, .int v12), (9, .int v11), (8, .int v7), (7, .int v6), (0, .ref (eA γ o)), (1, .int x1), (2, .int x2), (3, .int x3)]) hx hb dX3_ahead_104 hl (k := 8) rfl (by rw [← ev14]; rfl) (by decide) rfl (fun ls hl => ?_)
          refine lv_goto (tgt := 31) hx hb dX3_ahead_107 (by decide) ?_
          exact ih h hw (lv_sub hl [5, 6, 7, 8, 1, 0] rfl)
        · replace h := ifn c13 h
          refine lv_iload hx hb dX3_ahead_101 (lv_at hl 0 rfl) ?_
          obtain ⟨h1, h2⟩ := s2 h
          subst h1
          subst h2
          exact r_iret hx hb hr hlk hK hd hw dX3_ahead_103
      · replace h := ifn c9 h
        refine lv_goto (tgt := 104) hx hb dX3_ahead_63 (by decide) ?_
        obtain ⟨v15, ev15, h⟩ := jb h
        refine lv_iinc (v := v15) (lv' := [(6, .int v15), (8, .int v7), (7, .int v6), (0, .ref (eA γ o)), (1, .int x1), (2, .int x2), (3, .int x3), (5, .int x5)]) hx hb dX3_ahead_104 hl (k := 7) rfl (by rw [← ev15]; rfl) (by decide) rfl (fun ls hl => ?_)
        refine lv_goto (tgt := 31) hx hb dX3_ahead_107 (by decide) ?_
        exact ih h hw (lv_sub hl [3, 4, 5, 6, 7, 0] rfl)
set_option maxHeartbeats 4000000 in
set_option maxRecDepth 10000 in
theorem b_X3_aheadF {γ : Ev} {o : Nat} {σ : Mm} {Bf : Mm} {A : Mm → Int32 → Int32 → Int32 → Option (Int32 × Mm)} {fA lA : Nat} {r : Int32} {B : Mm} {x1 x2 x3 : Int32} (C : Cx p R s m args meth c RX3 cX3_ahead 10 (some .int) (fA + 16) (lA + 600) γ) (hB : isX0 γ o) (hA : ∀ {σ B Bf : Mm} {x1 x2 x3 r : Int32}, A B x1 x2 x3 = some (r, Bf) → Ct l yX3_ahead cX3_ahead 10 (some .int) fA lA γ [.ref (eA γ o), .int x1, .int x2, .int x3] (st 6 σ o B) (some (.int r)) (st 6 σ o Bf)) (h : s_X3_aheadF A B x1 x2 x3 = some (r, Bf)) (hw : Wo γ (st 6 σ o B) s H locs) (hl : lv_has ls 10 [(0, .ref (eA γ o)), (1, .int x1), (2, .int x2), (3, .int x3)]) : W p l e R s m args below meth c H locs 0 0 (MQ below (Qo γ (some (.int r)) (st 6 σ o Bf)) args s 0 0 (AK γ)) (F0 m 0 ls []) := by
  have C0 := C
  obtain ⟨hx, hb, hr, hml, hown, hts, hlk, hK, hd, hF, hL⟩ := C
  unfold s_X3_aheadF at h
  refine lv_aload_n hx hb dX3_ahead_0 rfl (lv_at hl 0 rfl) ?_
  obtain ⟨v1, hv1, h⟩ := ob h
  refine r_Vi (rest := []) C0 z0 (c_X0_outcome hB hv1) lk_X3_13 (X0_k0 hB) rfl rfl hl.1 rfl (Nat.le_of_ble_eq_true rfl) (by omega) hw dX3_ahead_1 (fun {H} {locs} hw => ?_)
  refine lv_istore (lv' := [(4, .int v1), (0, .ref (eA γ o)), (1, .int x1), (2, .int x2), (3, .int x3)]) hx hb dX3_ahead_4 hl (by decide) rfl (fun ls hl => ?_)
  refine lv_iload hx hb dX3_ahead_6 (lv_at hl 0 rfl) ?_
  refine lv_if_eq (tgt := 18) hx hb dX3_ahead_8 (by decide) (fun c2 => ?_) (fun c2 => ?_)
  · replace h := ifp c2 h
    refine lv_iload_n hx hb dX3_ahead_18 rfl (lv_at hl 2 rfl) ?_
    refine lv_if_gt (tgt := 24) hx hb dX3_ahead_19 (by decide) (fun c3 => ?_) (fun c3 => ?_)
    · replace h := ifp c3 h
      refine lv_bipush (v := (-2 : Int32)) hx hb dX3_ahead_24 (by decide) ?_
      refine lv_istore (lv' := [(5, .int (-2 : Int32)), (4, .int v1), (0, .ref (eA γ o)), (1, .int x1), (2, .int x2), (3, .int x3)]) hx hb dX3_ahead_26 hl (by decide) rfl (fun ls hl => ?_)
      refine lv_iconst (v := (0 : Int32)) hx hb dX3_ahead_28 (by decide) ?_
      refine lv_istore (lv' := [(6, .int (0 : Int32)), (5, .int (-2 : Int32)), (4, .int v1), (0, .ref (eA γ o)), (1, .int x1), (2, .int x2), (3, .int x3)]) hx hb dX3_ahead_29 hl (by decide) rfl (fun ls hl => ?_)
      exact b_X3_ahead_L31 C0 hB hA 1000 h hw (lv_sub hl [3, 4, 5, 6, 1, 0] rfl)
    · replace h := ifn c3 h
      refine lv_iconst (v := (0 : Int32)) hx hb dX3_ahead_22 (by decide) ?_
      obtain ⟨h1, h2⟩ := s2 h
      subst h1
      subst h2
      exact r_iret hx hb hr hlk hK hd hw dX3_ahead_23
  · replace h := ifn c2 h
    refine lv_aload_n hx hb dX3_ahead_11 rfl (lv_at hl 1 rfl) ?_
    refine lv_iload hx hb dX3_ahead_12 (lv_at hl 0 rfl) ?_
    obtain ⟨v16, hv16, h⟩ := ob h
    refine r_Vi (rest := []) C0 z0 (c_X0_worth hB hv16) lk_X3_45 (X0_k0 hB) rfl rfl hl.1 rfl (Nat.le_of_ble_eq_true rfl) (by omega) hw dX3_ahead_14 (fun {H} {locs} hw => ?_)
    obtain ⟨h1, h2⟩ := s2 h
    subst h1
    subst h2
    exact r_iret hx hb hr hlk hK hd hw dX3_ahead_17
theorem c_X3_aheadF {l : Launch} {γ : Ev} {o : Nat} {σ : Mm} {Bf : Mm} {A : Mm → Int32 → Int32 → Int32 → Option (Int32 × Mm)} {fA lA : Nat} {r : Int32} {B : Mm} {x1 x2 x3 : Int32} (hB : isX0 γ o) (hA : ∀ {σ B Bf : Mm} {x1 x2 x3 r : Int32}, A B x1 x2 x3 = some (r, Bf) → Ct l yX3_ahead cX3_ahead 10 (some .int) fA lA γ [.ref (eA γ o), .int x1, .int x2, .int x3] (st 6 σ o B) (some (.int r)) (st 6 σ o Bf)) (h : s_X3_aheadF A B x1 x2 x3 = some (r, Bf)) : Ct l yX3_ahead cX3_ahead 10 (some .int) (fA + 16) (lA + 600) γ [.ref (eA γ o), .int x1, .int x2, .int x3] (st 6 σ o B) (some (.int r)) (st 6 σ o Bf) := Ct.of (own := RX3) (by decide +kernel) rfl (Nat.le_of_ble_eq_true rfl) (fun C hw ls hl => b_X3_aheadF C hB hA h hw hl)

theorem c_X3_ahead {l : Launch} {γ : Ev} {o : Nat} (hB : isX0 γ o) : ∀ (n : Nat) {σ B Bf : Mm} {x1 x2 x3 r : Int32}, s_X3_ahead n B x1 x2 x3 = some (r, Bf) → Ct l yX3_ahead cX3_ahead 10 (some .int) (16 * n) (600 * n) γ [.ref (eA γ o), .int x1, .int x2, .int x3] (st 6 σ o B) (some (.int r)) (st 6 σ o Bf) := by
  intro n
  induction n with
  | zero => intro σ B Bf x1 x2 x3 r h; cases h
  | succ n ih =>
    intro σ B Bf x1 x2 x3 r h
    exact c_X3_aheadF hB (fA := 16 * n) (lA := 600 * n) (fun h => ih h) h

set_option maxHeartbeats 4000000 in
set_option maxRecDepth 10000 in
theorem b_X3_lookAhead {γ : Ev} {o : Nat} {σ : Mm} {Bf : Mm} {r : Int32} {B : Mm} {x1 : Int32} (C : Cx p R s m args meth c RX3 cX3_lookAhead 2 (some .int) 81 3029 γ) (hB : isX0 γ o) (h : s_X3_lookAhead B x1 = some (r, Bf)) (hw : Wo γ (st 6 σ o B) s H locs) (hl : lv_has ls 2 [(0, .ref (eA γ o)), (1, .int x1)]) : W p l e R s m args below meth c H locs 0 0 (MQ below (Qo γ (some (.int r)) (st 6 σ o Bf)) args s 0 0 (AK γ)) (F0 m 0 ls []) := by
  have C0 := C
  obtain ⟨hx, hb, hr, hml, hown, hts, hlk, hK, hd, hF, hL⟩ := C
  unfold s_X3_lookAhead at h
  refine lv_aload_n hx hb dX3_lookAhead_0 rfl (lv_at hl 0 rfl) ?_
  refine lv_iload_n hx hb dX3_lookAhead_1 rfl (lv_at hl 1 rfl) ?_
  refine lv_iconst (v := (-1 : Int32)) hx hb dX3_lookAhead_2 (by decide) ?_
  refine lv_iconst (v := (1 : Int32)) hx hb dX3_lookAhead_3 (by decide) ?_
  obtain ⟨q1, hq1, h⟩ := ob h
  refine r_Si (rest := []) C0 z0 (c_X3_ahead hB 5 hq1) lk_X3_7 hl.1 rfl (Nat.le_of_ble_eq_true rfl) (by omega) hw dX3_lookAhead_4 (fun {H} {locs} hw => ?_)
  obtain ⟨h1, h2⟩ := s2 h
  subst h1
  subst h2
  exact r_iret hx hb hr hlk hK hd hw dX3_lookAhead_7
theorem c_X3_lookAhead {l : Launch} {γ : Ev} {o : Nat} {σ : Mm} {Bf : Mm} {r : Int32} {B : Mm} {x1 : Int32} (hB : isX0 γ o) (h : s_X3_lookAhead B x1 = some (r, Bf)) : Ct l yX3_lookAhead cX3_lookAhead 2 (some .int) 81 3029 γ [.ref (eA γ o), .int x1] (st 6 σ o B) (some (.int r)) (st 6 σ o Bf) := Ct.of (own := RX3) (by decide +kernel) rfl (Nat.le_of_ble_eq_true rfl) (fun C hw ls hl => b_X3_lookAhead C hB h hw hl)
set_option maxHeartbeats 4000000 in
set_option maxRecDepth 10000 in
theorem b_X3_bestRank_L20 {γ : Ev} {o : Nat} {σ : Mm} {Bf : Mm} {r : Int32} (C : Cx p R s m args meth c RX3 cX3_bestRank 11 (some .int) 89 3329 γ) (hB : isX0 γ o) : ∀ (n : Nat) {B : Mm} {x1 : Int32} {x2 : Int32} {x3 : Int32} {x4 : Int32} {x5 : Int32} {H : Heap} {locs : List Loc} {ls : Array Slot}, s_X3_bestRank_L20 n B x1 x2 x3 x4 x5 = some (r, Bf) → Wo γ (st 6 σ o B) s H locs → lv_has ls 11 [(0, .ref (eA γ o)), (1, .int x1), (2, .int x2), (3, .int x3), (4, .int x4), (5, .int x5)] → W p l e R s m args below meth c H locs 0 0 (MQ below (Qo γ (some (.int r)) (st 6 σ o Bf)) args s 0 0 (AK γ)) (F0 m 20 ls []) := by
  have C0 := C
  obtain ⟨hx, hb, hr, hml, hown, hts, hlk, hK, hd, hF, hL⟩ := C
  intro n
  induction n with
  | zero => intro B x1 x2 x3 x4 x5 H locs ls h; cases h
  | succ n ih =>
    intro B x1 x2 x3 x4 x5 H locs ls h hw hl
    unfold s_X3_bestRank_L20 at h
    refine lv_iload hx hb dX3_bestRank_20 (lv_at hl 5 rfl) ?_
    refine lv_bipush (v := (84 : Int32)) hx hb dX3_bestRank_22 (by decide) ?_
    refine lv_icmp_ge (tgt := 143) hx hb dX3_bestRank_24 (by decide) (fun c3 => ?_) (fun c3 => ?_)
    · replace h := ifp c3 h
      refine lv_iload_n hx hb dX3_bestRank_143 rfl (lv_at hl 2 rfl) ?_
      obtain ⟨h1, h2⟩ := s2 h
      subst h1
      subst h2
      exact r_iret hx hb hr hlk hK hd hw dX3_bestRank_144
    · replace h := ifn c3 h
      refine lv_iload hx hb dX3_bestRank_27 (lv_at hl 5 rfl) ?_
      obtain ⟨v4, hv4, h⟩ := ob h
      refine r_Si (rest := []) C0 z0 (c_X0_numberOf hv4) lk_X3_19 hl.1 rfl (Nat.le_of_ble_eq_true rfl) (by decide) hw dX3_bestRank_29 (fun {H} {locs} hw => ?_)
      refine lv_istore (lv' := [(6, .int v4), (0, .ref (eA γ o)), (1, .int x1), (2, .int x2), (3, .int x3), (4, .int x4), (5, .int x5)]) hx hb dX3_bestRank_32 hl (by decide) rfl (fun ls hl => ?_)
      refine lv_iload hx hb dX3_bestRank_34 (lv_at hl 6 rfl) ?_
      obtain ⟨v5, hv5, h⟩ := ob h
      refine r_Si (rest := []) C0 z0 (c_X0_placeOf hv5) lk_X3_23 hl.1 rfl (Nat.le_of_ble_eq_true rfl) (by decide) hw dX3_bestRank_36 (fun {H} {locs} hw => ?_)
      refine lv_istore (lv' := [(7, .int v5), (6, .int v4), (0, .ref (eA γ o)), (1, .int x1), (2, .int x2), (3, .int x3), (4, .int x4), (5, .int x5)]) hx hb dX3_bestRank_39 hl (by decide) rfl (fun ls hl => ?_)
      refine lv_aload_n hx hb dX3_bestRank_41 rfl (lv_at hl 2 rfl) ?_
      refine lv_iload hx hb dX3_bestRank_42 (lv_at hl 1 rfl) ?_
      refine lv_iload hx hb dX3_bestRank_44 (lv_at hl 0 rfl) ?_
      obtain ⟨v6, hv6, h⟩ := ob h
      refine r_Vi (rest := []) C0 z0 (c_X0_hindrance hB hv6) lk_X3_26 (X0_k0 hB) rfl rfl hl.1 rfl (Nat.le_of_ble_eq_true rfl) (by decide) hw dX3_bestRank_46 (fun {H} {locs} hw => ?_)
      refine lv_if_eq (tgt := 55) hx hb dX3_bestRank_49 (by decide) (fun c7 => ?_) (fun c7 => ?_)
      · replace h := ifp c7 h
        refine lv_aload_n hx hb dX3_bestRank_55 rfl (lv_at hl 2 rfl) ?_
        obtain ⟨v8, hv8, h⟩ := ob h
        refine r_Vi (rest := []) C0 z0 (c_X0_turn hB hv8) lk_X3_30 (X0_k0 hB) rfl rfl hl.1 rfl (Nat.le_of_ble_eq_true rfl) (by decide) hw dX3_bestRank_56 (fun {H} {locs} hw => ?_)
        refine lv_aload_n hx hb dX3_bestRank_59 rfl (lv_at hl 2 rfl) ?_
        refine lv_iload hx hb dX3_bestRank_60 (lv_at hl 1 rfl) ?_
        refine lv_iload hx hb dX3_bestRank_62 (lv_at hl 0 rfl) ?_
        obtain ⟨v9, hv9, h⟩ := ob h
        refine r_Vi (rest := [.int v8]) C0 z0 (c_X0_tellingOf hB hv9) lk_X3_33 (X0_k0 hB) rfl rfl hl.1 rfl (Nat.le_of_ble_eq_true rfl) (by decide) hw dX3_bestRank_64 (fun {H} {locs} hw => ?_)
        refine lv_iadd hx hb dX3_bestRank_67 ?_
        refine r_abs C0 z0 lk_X3_36 hl.1 (Nat.le_of_ble_eq_true rfl) (by decide) dX3_bestRank_68 ?_
        obtain ⟨v10, ev10, h⟩ := jb h
        refine r_top ev10 ?_
        refine lv_istore (lv' := [(8, .int v10), (7, .int v5), (6, .int v4), (0, .ref (eA γ o)), (1, .int x1), (2, .int x2), (3, .int x3), (4, .int x4), (5, .int x5)]) hx hb dX3_bestRank_71 hl (by decide) rfl (fun ls hl => ?_)
        refine lv_iload_n hx hb dX3_bestRank_73 rfl (lv_at hl 5 rfl) ?_
        refine jn_elim h (fun (k : Int32 → Option (Int32 × (Mm))) => ∀ (v13 : Int32) {H : Heap} {locs : List Loc} {ls : Array Slot}, k v13 = some (r, Bf) → Wo γ (st 6 σ o B) s H locs → lv_has ls 11 [(0, .ref (eA γ o)), (1, .int x1), (2, .int x2), (3, .int x3), (4, .int x4), (5, .int x5), (6, .int v4), (7, .int v5), (8, .int v10)] → W p l e R s m args below meth c H locs 0 0 (MQ below (Qo γ (some (.int r)) (st 6 σ o Bf)) args s 0 0 (AK γ)) (F0 m 91 ls [.int v13])) ?_ ?_
        · intro v13 H locs ls h hw hl
          refine lv_istore (lv' := [(9, .int v13), (0, .ref (eA γ o)), (1, .int x1), (2, .int x2), (3, .int x3), (4, .int x4), (5, .int x5), (6, .int v4), (7, .int v5), (8, .int v10)]) hx hb dX3_bestRank_91 hl (by decide) rfl (fun ls hl => ?_)
          refine lv_iload hx hb dX3_bestRank_93 (lv_at hl 0 rfl) ?_
          refine lv_iconst (v := (1 : Int32)) hx hb dX3_bestRank_95 (by decide) ?_
          refine lv_icmp_le (tgt := 102) hx hb dX3_bestRank_96 (by decide) (fun c14 => ?_) (fun c14 => ?_)
          · replace h := ifp c14 h
            refine lv_aload_n hx hb dX3_bestRank_102 rfl (lv_at hl 1 rfl) ?_
            refine lv_iload hx hb dX3_bestRank_103 (lv_at hl 7 rfl) ?_
            refine lv_iload hx hb dX3_bestRank_105 (lv_at hl 8 rfl) ?_
            refine lv_iload_n hx hb dX3_bestRank_107 rfl (lv_at hl 2 rfl) ?_
            refine lv_iconst (v := (1 : Int32)) hx hb dX3_bestRank_108 (by decide) ?_
            refine lv_isub hx hb dX3_bestRank_109 ?_
            refine lv_iload hx hb dX3_bestRank_110 (lv_at hl 0 rfl) ?_
            refine lv_iconst (v := (1 : Int32)) hx hb dX3_bestRank_112 (by decide) ?_
            refine lv_isub hx hb dX3_bestRank_113 ?_
            refine lv_iconst (v := (1 : Int32)) hx hb dX3_bestRank_114 (by decide) ?_
            obtain ⟨q15, hq15, h⟩ := ob h
            refine r_Si (rest := []) C0 z0 (c_X3_behind hB (fun h => c_X3_ahead hB 5 h) hq15) lk_X3_41 hl.1 rfl (Nat.le_of_ble_eq_true rfl) (by decide) hw dX3_bestRank_115 (fun {H} {locs} hw => ?_)
            obtain ⟨v16, ev16, h⟩ := jb h
            refine r_top ev16 ?_
            refine lv_istore (lv' := [(10, .int v16), (9, .int v13), (0, .ref (eA γ o)), (1, .int x1), (2, .int x2), (3, .int x3), (4, .int x4), (5, .int x5), (6, .int v4), (7, .int v5), (8, .int v10)]) hx hb dX3_bestRank_118 hl (by decide) rfl (fun ls hl => ?_)
            refine lv_iload hx hb dX3_bestRank_120 (lv_at hl 0 rfl) ?_
            refine lv_iload hx hb dX3_bestRank_122 (lv_at hl 1 rfl) ?_
            refine lv_icmp_lt (tgt := 137) hx hb dX3_bestRank_124 (by decide) (fun c17 => ?_) (fun c17 => ?_)
            · replace h := ifp c17 h
              obtain ⟨v18, ev18, h⟩ := jb h
              refine lv_iinc (v := v18) (lv' := [(5, .int v18), (10, .int v16), (9, .int v13), (0, .ref (eA γ o)), (1, .int x1), (2, .int x2), (3, .int x3), (4, .int x4), (6, .int v4), (7, .int v5), (8, .int v10)]) hx hb dX3_bestRank_137 hl (k := 7) rfl (by rw [← ev18]; rfl) (by decide) rfl (fun ls hl => ?_)
              refine lv_goto (tgt := 20) hx hb dX3_bestRank_140 (by decide) ?_
              exact ih h hw (lv_sub hl [3, 4, 5, 6, 7, 0] rfl)
            · replace h := ifn c17 h
              refine lv_iload hx hb dX3_bestRank_127 (lv_at hl 7 rfl) ?_
              refine lv_istore_n (lv' := [(2, .int x5), (10, .int v16), (9, .int v13), (0, .ref (eA γ o)), (1, .int x1), (3, .int x3), (4, .int x4), (5, .int x5), (6, .int v4), (7, .int v5), (8, .int v10)]) hx hb dX3_bestRank_129 rfl hl (by decide) rfl (fun ls hl => ?_)
              refine lv_iload hx hb dX3_bestRank_130 (lv_at hl 1 rfl) ?_
              refine lv_istore_n (lv' := [(3, .int v16), (2, .int x5), (10, .int v16), (9, .int v13), (0, .ref (eA γ o)), (1, .int x1), (4, .int x4), (5, .int x5), (6, .int v4), (7, .int v5), (8, .int v10)]) hx hb dX3_bestRank_132 rfl hl (by decide) rfl (fun ls hl => ?_)
              refine lv_iload hx hb dX3_bestRank_133 (lv_at hl 10 rfl) ?_
              refine lv_istore (lv' := [(4, .int v10), (3, .int v16), (2, .int x5), (10, .int v16), (9, .int v13), (0, .ref (eA γ o)), (1, .int x1), (5, .int x5), (6, .int v4), (7, .int v5), (8, .int v10)]) hx hb dX3_bestRank_135 hl (by decide) rfl (fun ls hl => ?_)
              obtain ⟨v19, ev19, h⟩ := jb h
              refine lv_iinc (v := v19) (lv' := [(5, .int v19), (4, .int v10), (3, .int v16), (2, .int x5), (10, .int v16), (9, .int v13), (0, .ref (eA γ o)), (1, .int x1), (6, .int v4), (7, .int v5), (8, .int v10)]) hx hb dX3_bestRank_137 hl (k := 7) rfl (by rw [← ev19]; rfl) (by decide) rfl (fun ls hl => ?_)
              refine lv_goto (tgt := 20) hx hb dX3_bestRank_140 (by decide) ?_
              exact ih h hw (lv_sub hl [6, 7, 3, 2, 1, 0] rfl)
          · replace h := ifn c14 h
            refine lv_goto (tgt := 137) hx hb dX3_bestRank_99 (by decide) ?_
            obtain ⟨v20, ev20, h⟩ := jb h
            refine lv_iinc (v := v20) (lv' := [(5, .int v20), (9, .int v13), (0, .ref (eA γ o)), (1, .int x1), (2, .int x2), (3, .int x3), (4, .int x4), (6, .int v4), (7, .int v5), (8, .int v10)]) hx hb dX3_bestRank_137 hl (k := 6) rfl (by rw [← ev20]; rfl) (by decide) rfl (fun ls hl => ?_)
            refine lv_goto (tgt := 20) hx hb dX3_bestRank_140 (by decide) ?_
            exact ih h hw (lv_sub hl [2, 3, 4, 5, 6, 0] rfl)
        intro k12 J_k12 h
        refine jn_elim h (fun (k : Unit → Option (Int32 × (Mm))) => ∀ (u : Unit) {H : Heap} {locs : List Loc} {ls : Array Slot}, k u = some (r, Bf) → Wo γ (st 6 σ o B) s H locs → lv_has ls 11 [(0, .ref (eA γ o)), (1, .int x1), (2, .int x2), (3, .int x3), (4, .int x4), (5, .int x5), (6, .int v4), (7, .int v5), (8, .int v10)] → W p l e R s m args below meth c H locs 0 0 (MQ below (Qo γ (some (.int r)) (st 6 σ o Bf)) args s 0 0 (AK γ)) (F0 m 84 ls [])) ?_ ?_
        · intro u H locs ls h hw hl
          refine lv_iload_n hx hb dX3_bestRank_84 rfl (lv_at hl 3 rfl) ?_
          refine lv_goto (tgt := 91) hx hb dX3_bestRank_85 (by decide) ?_
          exact J_k12 x3 h hw (lv_sub hl [0, 1, 2, 3, 4, 5, 6, 7, 8] rfl)
        intro k29 J_k29 h
        refine lv_if_lt (tgt := 84) hx hb dX3_bestRank_74 (by decide) (fun c30 => ?_) (fun c30 => ?_)
        · replace h := ifp c30 h
          exact J_k29 () h hw (lv_sub hl [3, 4, 5, 6, 7, 8, 2, 1, 0] rfl)
        · replace h := ifn c30 h
          refine lv_iload hx hb dX3_bestRank_77 (lv_at hl 0 rfl) ?_
          refine lv_iload hx hb dX3_bestRank_79 (lv_at hl 7 rfl) ?_
          refine lv_icmp_ge (tgt := 88) hx hb dX3_bestRank_81 (by decide) (fun c31 => ?_) (fun c31 => ?_)
          · replace h := ifp c31 h
            refine lv_iload_n hx hb dX3_bestRank_88 rfl (lv_at hl 6 rfl) ?_
            refine lv_iconst (v := (1 : Int32)) hx hb dX3_bestRank_89 (by decide) ?_
            refine lv_iadd hx hb dX3_bestRank_90 ?_
            exact J_k12 (x3 + (1 : Int32)) h hw (lv_sub hl [3, 4, 5, 6, 7, 8, 2, 1, 0] rfl)
          · replace h := ifn c31 h
            exact J_k29 () h hw (lv_sub hl [3, 4, 5, 6, 7, 8, 2, 1, 0] rfl)
      · replace h := ifn c7 h
        refine lv_goto (tgt := 137) hx hb dX3_bestRank_52 (by decide) ?_
        obtain ⟨v32, ev32, h⟩ := jb h
        refine lv_iinc (v := v32) (lv' := [(5, .int v32), (7, .int v5), (6, .int v4), (0, .ref (eA γ o)), (1, .int x1), (2, .int x2), (3, .int x3), (4, .int x4)]) hx hb dX3_bestRank_137 hl (k := 7) rfl (by rw [← ev32]; rfl) (by decide) rfl (fun ls hl => ?_)
        refine lv_goto (tgt := 20) hx hb dX3_bestRank_140 (by decide) ?_
        exact ih h hw (lv_sub hl [3, 4, 5, 6, 7, 0] rfl)
set_option maxHeartbeats 4000000 in
set_option maxRecDepth 10000 in
theorem b_X3_bestRank {γ : Ev} {o : Nat} {σ : Mm} {Bf : Mm} {r : Int32} {B : Mm} {x1 : Int32} (C : Cx p R s m args meth c RX3 cX3_bestRank 11 (some .int) 89 3329 γ) (hB : isX0 γ o) (h : s_X3_bestRank B x1 = some (r, Bf)) (hw : Wo γ (st 6 σ o B) s H locs) (hl : lv_has ls 11 [(0, .ref (eA γ o)), (1, .int x1)]) : W p l e R s m args below meth c H locs 0 0 (MQ below (Qo γ (some (.int r)) (st 6 σ o Bf)) args s 0 0 (AK γ)) (F0 m 0 ls []) := by
  have C0 := C
  obtain ⟨hx, hb, hr, hml, hown, hts, hlk, hK, hd, hF, hL⟩ := C
  unfold s_X3_bestRank at h
  refine lv_aload_n hx hb dX3_bestRank_0 rfl (lv_at hl 0 rfl) ?_
  obtain ⟨v1, hv1, h⟩ := ob h
  refine r_Vi (rest := []) C0 z0 (c_X0_outcome hB hv1) lk_X3_13 (X0_k0 hB) rfl rfl hl.1 rfl (Nat.le_of_ble_eq_true rfl) (by decide) hw dX3_bestRank_1 (fun {H} {locs} hw => ?_)
  refine lv_if_eq (tgt := 9) hx hb dX3_bestRank_4 (by decide) (fun c2 => ?_) (fun c2 => ?_)
  · replace h := ifp c2 h
    refine lv_iconst (v := (-1 : Int32)) hx hb dX3_bestRank_9 (by decide) ?_
    refine lv_istore_n (lv' := [(2, .int (-1 : Int32)), (0, .ref (eA γ o)), (1, .int x1)]) hx hb dX3_bestRank_10 rfl hl (by decide) rfl (fun ls hl => ?_)
    refine lv_bipush (v := (-2 : Int32)) hx hb dX3_bestRank_11 (by decide) ?_
    refine lv_istore_n (lv' := [(3, .int (-2 : Int32)), (2, .int (-1 : Int32)), (0, .ref (eA γ o)), (1, .int x1)]) hx hb dX3_bestRank_13 rfl hl (by decide) rfl (fun ls hl => ?_)
    refine lv_iconst (v := (0 : Int32)) hx hb dX3_bestRank_14 (by decide) ?_
    refine lv_istore (lv' := [(4, .int (0 : Int32)), (3, .int (-2 : Int32)), (2, .int (-1 : Int32)), (0, .ref (eA γ o)), (1, .int x1)]) hx hb dX3_bestRank_15 hl (by decide) rfl (fun ls hl => ?_)
    refine lv_iconst (v := (0 : Int32)) hx hb dX3_bestRank_17 (by decide) ?_
    refine lv_istore (lv' := [(5, .int (0 : Int32)), (4, .int (0 : Int32)), (3, .int (-2 : Int32)), (2, .int (-1 : Int32)), (0, .ref (eA γ o)), (1, .int x1)]) hx hb dX3_bestRank_18 hl (by decide) rfl (fun ls hl => ?_)
    exact b_X3_bestRank_L20 C0 hB 1000 h hw (lv_sub hl [4, 5, 3, 2, 1, 0] rfl)
  · replace h := ifn c2 h
    refine lv_iconst (v := (-1 : Int32)) hx hb dX3_bestRank_7 (by decide) ?_
    obtain ⟨h1, h2⟩ := s2 h
    subst h1
    subst h2
    exact r_iret hx hb hr hlk hK hd hw dX3_bestRank_8
theorem c_X3_bestRank {l : Launch} {γ : Ev} {o : Nat} {σ : Mm} {Bf : Mm} {r : Int32} {B : Mm} {x1 : Int32} (hB : isX0 γ o) (h : s_X3_bestRank B x1 = some (r, Bf)) : Ct l yX3_bestRank cX3_bestRank 11 (some .int) 89 3329 γ [.ref (eA γ o), .int x1] (st 6 σ o B) (some (.int r)) (st 6 σ o Bf) := Ct.of (own := RX3) (by decide +kernel) rfl (Nat.le_of_ble_eq_true rfl) (fun C hw ls hl => b_X3_bestRank C hB h hw hl)
end
