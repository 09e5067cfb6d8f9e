section
variable {p : Program} {l : Launch} {e : Env} {R : Room} {s : State} {m : MethodId} {args : Array Value} {below : List Frame} {meth : Method} {c : Code} {H : Heap} {locs : List Loc} {ls : Array Slot}
set_option maxHeartbeats 4000000 in
set_option maxRecDepth 10000 in
theorem b_X0_tryMove {γ : Ev} {o : Nat} {σ : Mm} {Bf : Mm} {B : Mm} {x1 x2 : Int32} (C : Cx p R s m args meth c RX0 cX0_tryMove 4 none 4 95 γ) (hB : isX0 γ o) (h : s_X0_tryMove B x1 x2 = some Bf) (hw : Wo γ (st 6 σ o B) s H locs) (hl : lv_has ls 4 [(0, .ref (eA γ o)), (1, .int x1), (2, .int x2)]) : W p l e R s m args below meth c H locs 0 0 (MQ below (Qo γ none (st 6 σ o Bf)) args s 0 0 (AK γ)) (F0 m 0 ls []) := by
  have C0 := C
  obtain ⟨hx, hb, hr, hml, hown, hts, hlk, hK, hd, hF, hL⟩ := C
  unfold s_X0_tryMove at h
  refine lv_iload_n hx hb dX0_tryMove_0 rfl (lv_at hl 1 rfl) ?_
  refine lv_iload_n hx hb dX0_tryMove_1 rfl (lv_at hl 2 rfl) ?_
  obtain ⟨v1, hv1, h⟩ := ob h
  refine r_Si (rest := []) C0 z0 (c_X0_targetOf hv1) lk_X0_95 hl.1 rfl (Nat.le_of_ble_eq_true rfl) (by decide) hw dX0_tryMove_2 (fun {H} {locs} hw => ?_)
  refine lv_istore_n (lv' := [(3, .int v1), (0, .ref (eA γ o)), (1, .int x1), (2, .int x2)]) hx hb dX0_tryMove_5 rfl hl (by decide) rfl (fun ls hl => ?_)
  refine lv_iload_n hx hb dX0_tryMove_6 rfl (lv_at hl 2 rfl) ?_
  refine lv_bipush (v := (6 : Int32)) hx hb dX0_tryMove_7 (by decide) ?_
  refine jn_elim h (fun (k : Mm → Option (Mm)) => ∀ (N10 : Mm) {H : Heap} {locs : List Loc} {ls : Array Slot}, k N10 = some Bf → Wo γ (st 6 σ o N10) s H locs → lv_has ls 4 [(0, .ref (eA γ o))] → W p l e R s m args below meth c H locs 0 0 (MQ below (Qo γ none (st 6 σ o Bf)) args s 0 0 (AK γ)) (F0 m 51 ls [])) ?_ ?_
  · intro N10 H locs ls h hw hl
    refine lv_aload_n hx hb dX0_tryMove_51 rfl (lv_at hl 0 rfl) ?_
    refine lv_aload_n hx hb dX0_tryMove_52 rfl (lv_at hl 0 rfl) ?_
    refine r_get (v := .int (N10 0 5)) hx hb hts hK hw hown inX0 rfl (X0_k0 hB) (st_at0 (by decide)) 5 (by decide) wd_72 rfl dX0_tryMove_53 ?_
    obtain ⟨N11, hN11, h⟩ := ob h
    refine r_put (x := (N10 0 5)) (ty := .int) hx hb hts hK hd hw hown inX0 tyX0 tyX0_ok nmX0 rfl (by decide) (X0_k0 hB) 6 (by decide) wd_73 rfl rfl rfl rfl (fun _ => (Nat.le_of_ble_eq_true rfl)) (fun _ => rfl) hN11 dX0_tryMove_56 (fun {H} {locs} hw => ?_)
    refine lv_aload_n hx hb dX0_tryMove_59 rfl (lv_at hl 0 rfl) ?_
    refine lv_aload_n hx hb dX0_tryMove_60 rfl (lv_at hl 0 rfl) ?_
    refine lv_aload_n hx hb dX0_tryMove_61 rfl (lv_at hl 0 rfl) ?_
    refine r_get (v := .int (N11 0 5)) hx hb hts hK hw hown inX0 rfl (X0_k0 hB) (st_at0 (by decide)) 5 (by decide) wd_72 rfl dX0_tryMove_62 ?_
    obtain ⟨v12, hv12, h⟩ := ob h
    refine r_Vi (rest := [.ref (eA γ o)]) C0 z0 (c_X0_sideBehind hB hv12) lk_X0_127 (X0_k0 hB) rfl rfl hl.1 rfl (Nat.le_of_ble_eq_true rfl) (by decide) hw dX0_tryMove_65 (fun {H} {locs} hw => ?_)
    obtain ⟨N13, hN13, h⟩ := ob h
    refine r_put (x := v12) (ty := .int) hx hb hts hK hd hw hown inX0 tyX0 tyX0_ok nmX0 rfl (by decide) (X0_k0 hB) 5 (by decide) wd_72 rfl rfl rfl rfl (fun _ => (Nat.le_of_ble_eq_true rfl)) (fun _ => rfl) hN13 dX0_tryMove_68 (fun {H} {locs} hw => ?_)
    have h1 := Option.some.inj h
    subst h1
    exact r_vret hx hb hr hlk hK hd hw dX0_tryMove_71
  intro k9 J_k9 h
  refine lv_icmp_ge (tgt := 36) hx hb dX0_tryMove_9 (by decide) (fun c14 => ?_) (fun c14 => ?_)
  · replace h := ifp c14 h
    refine lv_aload_n hx hb dX0_tryMove_36 rfl (lv_at hl 1 rfl) ?_
    refine lv_aload_n hx hb dX0_tryMove_37 rfl (lv_at hl 1 rfl) ?_
    refine lv_iload_n hx hb dX0_tryMove_38 rfl (lv_at hl 3 rfl) ?_
    obtain ⟨q15, hq15, h⟩ := ob h
    refine r_Vi (rest := [.ref (eA γ o)]) C0 z0 (c_X0_takeFrom hB hq15) lk_X0_124 (X0_k0 hB) rfl rfl hl.1 rfl (Nat.le_of_ble_eq_true rfl) (by decide) hw dX0_tryMove_39 (fun {H} {locs} hw => ?_)
    refine lv_iload_n hx hb dX0_tryMove_42 rfl (lv_at hl 0 rfl) ?_
    obtain ⟨N16, hN16, h⟩ := ob h
    refine r_Vv (rest := []) C0 z0 (c_X0_putOn hB hN16) lk_X0_121 (X0_k0 hB) rfl rfl hl.1 rfl (Nat.le_of_ble_eq_true rfl) (by decide) hw dX0_tryMove_43 (fun {H} {locs} hw => ?_)
    refine lv_aload_n hx hb dX0_tryMove_46 rfl (lv_at hl 1 rfl) ?_
    refine lv_iload_n hx hb dX0_tryMove_47 rfl (lv_at hl 0 rfl) ?_
    obtain ⟨N17, hN17, h⟩ := ob h
    refine r_put (x := v1) (ty := .int) hx hb hts hK hd hw hown inX0 tyX0 tyX0_ok nmX0 rfl (by decide) (X0_k0 hB) 7 (by decide) wd_74 rfl rfl rfl rfl (fun _ => (Nat.le_of_ble_eq_true rfl)) (fun _ => rfl) hN17 dX0_tryMove_48 (fun {H} {locs} hw => ?_)
    exact J_k9 N17 h hw (lv_sub hl [1] rfl)
  · replace h := ifn c14 h
    refine lv_aload_n hx hb dX0_tryMove_12 rfl (lv_at hl 1 rfl) ?_
    refine lv_aload_n hx hb dX0_tryMove_13 rfl (lv_at hl 1 rfl) ?_
    refine r_get (v := .int (B 0 5)) hx hb hts hK hw hown inX0 rfl (X0_k0 hB) (st_at0 (by decide)) 5 (by decide) wd_72 rfl dX0_tryMove_14 ?_
    refine lv_iload_n hx hb dX0_tryMove_17 rfl (lv_at hl 2 rfl) ?_
    refine lv_iconst (v := (-1 : Int32)) hx hb dX0_tryMove_18 (by decide) ?_
    obtain ⟨N18, hN18, h⟩ := ob h
    refine r_Vv (rest := []) C0 z0 (c_X0_changeBag hB hN18) lk_X0_117 (X0_k0 hB) rfl rfl hl.1 rfl (Nat.le_of_ble_eq_true rfl) (by decide) hw dX0_tryMove_19 (fun {H} {locs} hw => ?_)
    refine lv_aload_n hx hb dX0_tryMove_22 rfl (lv_at hl 1 rfl) ?_
    refine lv_iload_n hx hb dX0_tryMove_23 rfl (lv_at hl 2 rfl) ?_
    refine lv_iload_n hx hb dX0_tryMove_24 rfl (lv_at hl 3 rfl) ?_
    obtain ⟨N19, hN19, h⟩ := ob h
    refine r_Vv (rest := []) C0 z0 (c_X0_putOn hB hN19) lk_X0_121 (X0_k0 hB) rfl rfl hl.1 rfl (Nat.le_of_ble_eq_true rfl) (by decide) hw dX0_tryMove_25 (fun {H} {locs} hw => ?_)
    refine lv_aload_n hx hb dX0_tryMove_28 rfl (lv_at hl 1 rfl) ?_
    refine lv_iconst (v := (0 : Int32)) hx hb dX0_tryMove_29 (by decide) ?_
    obtain ⟨N20, hN20, h⟩ := ob h
    refine r_put (x := (0 : Int32)) (ty := .int) hx hb hts hK hd hw hown inX0 tyX0 tyX0_ok nmX0 rfl (by decide) (X0_k0 hB) 7 (by decide) wd_74 rfl rfl rfl rfl (fun _ => (Nat.le_of_ble_eq_true rfl)) (fun _ => rfl) hN20 dX0_tryMove_30 (fun {H} {locs} hw => ?_)
    refine lv_goto (tgt := 51) hx hb dX0_tryMove_33 (by decide) ?_
    exact J_k9 N20 h hw (lv_sub hl [1] rfl)
theorem c_X0_tryMove {l : Launch} {γ : Ev} {o : Nat} {σ : Mm} {Bf : Mm} {B : Mm} {x1 x2 : Int32} (hB : isX0 γ o) (h : s_X0_tryMove B x1 x2 = some Bf) : Ct l yX0_tryMove cX0_tryMove 4 none 4 95 γ [.ref (eA γ o), .int x1, .int x2] (st 6 σ o B) none (st 6 σ o Bf) := Ct.of (own := RX0) (by decide +kernel) rfl (Nat.le_of_ble_eq_true rfl) (fun C hw ls hl => b_X0_tryMove C hB h hw hl)
set_option maxHeartbeats 4000000 in
set_option maxRecDepth 10000 in
theorem b_X0_makeMove {γ : Ev} {o : Nat} {σ : Mm} {Bf : Mm} {B : Mm} {x1 x2 : Int32} (C : Cx p R s m args meth c RX0 cX0_makeMove 4 none 5 118 γ) (hB : isX0 γ o) (h : s_X0_makeMove B x1 x2 = some Bf) (hw : Wo γ (st 6 σ o B) s H locs) (hl : lv_has ls 4 [(0, .ref (eA γ o)), (1, .int x1), (2, .int x2)]) : W p l e R s m args below meth c H locs 0 0 (MQ below (Qo γ none (st 6 σ o Bf)) args s 0 0 (AK γ)) (F0 m 0 ls []) := by
  have C0 := C
  obtain ⟨hx, hb, hr, hml, hown, hts, hlk, hK, hd, hF, hL⟩ := C
  unfold s_X0_makeMove at h
  refine lv_aload_n hx hb dX0_makeMove_0 rfl (lv_at hl 0 rfl) ?_
  refine r_get (v := .int (B 0 11)) hx hb hts hK hw hown inX0 rfl (X0_k0 hB) (st_at0 (by decide)) 11 (by decide) wd_78 rfl dX0_makeMove_1 ?_
  obtain ⟨v1, hv1, h⟩ := ob h
  refine r_Si (rest := []) C0 z0 (c_X0_rowOf hv1) lk_X0_104 hl.1 rfl (Nat.le_of_ble_eq_true rfl) (by decide) hw dX0_makeMove_4 (fun {H} {locs} hw => ?_)
  refine lv_istore_n (lv' := [(3, .int v1), (0, .ref (eA γ o)), (1, .int x1), (2, .int x2)]) hx hb dX0_makeMove_7 rfl hl (by decide) rfl (fun ls hl => ?_)
  refine lv_aload_n hx hb dX0_makeMove_8 rfl (lv_at hl 1 rfl) ?_
  refine r_get (v := .ref (eA γ (o + 5))) hx hb hts hK hw hown inX0 rfl (X0_k0 hB) (st_at0 (by decide)) 4 (by decide) wd_71 rfl dX0_makeMove_9 ?_
  refine lv_iload_n hx hb dX0_makeMove_12 rfl (lv_at hl 0 rfl) ?_
  refine lv_aload_n hx hb dX0_makeMove_13 rfl (lv_at hl 1 rfl) ?_
  refine r_get (v := .int (B 0 5)) hx hb hts hK hw hown inX0 rfl (X0_k0 hB) (st_at0 (by decide)) 5 (by decide) wd_72 rfl dX0_makeMove_14 ?_
  obtain ⟨N2, hN2, h⟩ := ob h
  refine r_iast hx hb hK hd hw (by decide) (X0_k5 hB) hN2 dX0_makeMove_17 (fun {H} {locs} hw => ?_)
  refine lv_aload_n hx hb dX0_makeMove_18 rfl (lv_at hl 1 rfl) ?_
  refine r_get (v := .ref (eA γ (o + 5))) hx hb hts hK hw hown inX0 rfl (X0_k0 hB) (st_at0 (by decide)) 4 (by decide) wd_71 rfl dX0_makeMove_19 ?_
  refine lv_iload_n hx hb dX0_makeMove_22 rfl (lv_at hl 0 rfl) ?_
  refine lv_iconst (v := (1 : Int32)) hx hb dX0_makeMove_23 (by decide) ?_
  refine lv_iadd hx hb dX0_makeMove_24 ?_
  refine lv_iload_n hx hb dX0_makeMove_25 rfl (lv_at hl 2 rfl) ?_
  obtain ⟨N3, hN3, h⟩ := ob h
  refine r_iast hx hb hK hd hw (by decide) (X0_k5 hB) hN3 dX0_makeMove_26 (fun {H} {locs} hw => ?_)
  refine lv_aload_n hx hb dX0_makeMove_27 rfl (lv_at hl 1 rfl) ?_
  refine r_get (v := .ref (eA γ (o + 5))) hx hb hts hK hw hown inX0 rfl (X0_k0 hB) (st_at0 (by decide)) 4 (by decide) wd_71 rfl dX0_makeMove_28 ?_
  refine lv_iload_n hx hb dX0_makeMove_31 rfl (lv_at hl 0 rfl) ?_
  refine lv_iconst (v := (2 : Int32)) hx hb dX0_makeMove_32 (by decide) ?_
  refine lv_iadd hx hb dX0_makeMove_33 ?_
  refine lv_iload_n hx hb dX0_makeMove_34 rfl (lv_at hl 3 rfl) ?_
  obtain ⟨N4, hN4, h⟩ := ob h
  refine r_iast hx hb hK hd hw (by decide) (X0_k5 hB) hN4 dX0_makeMove_35 (fun {H} {locs} hw => ?_)
  refine lv_aload_n hx hb dX0_makeMove_36 rfl (lv_at hl 1 rfl) ?_
  refine r_get (v := .ref (eA γ (o + 5))) hx hb hts hK hw hown inX0 rfl (X0_k0 hB) (st_at0 (by decide)) 4 (by decide) wd_71 rfl dX0_makeMove_37 ?_
  refine lv_iload_n hx hb dX0_makeMove_40 rfl (lv_at hl 0 rfl) ?_
  refine lv_iconst (v := (3 : Int32)) hx hb dX0_makeMove_41 (by decide) ?_
  refine lv_iadd hx hb dX0_makeMove_42 ?_
  refine lv_aload_n hx hb dX0_makeMove_43 rfl (lv_at hl 1 rfl) ?_
  refine lv_iload_n hx hb dX0_makeMove_44 rfl (lv_at hl 2 rfl) ?_
  refine lv_iload_n hx hb dX0_makeMove_45 rfl (lv_at hl 3 rfl) ?_
  obtain ⟨v5, hv5, h⟩ := ob h
  refine r_Vi (rest := [.int (v1 + (3 : Int32)), .ref (eA γ (o + 5))]) C0 z0 (c_X0_tellingOf hB hv5) lk_X0_107 (X0_k0 hB) rfl rfl hl.1 rfl (Nat.le_of_ble_eq_true rfl) (by decide) hw dX0_makeMove_46 (fun {H} {locs} hw => ?_)
  obtain ⟨N6, hN6, h⟩ := ob h
  refine r_iast hx hb hK hd hw (by decide) (X0_k5 hB) hN6 dX0_makeMove_49 (fun {H} {locs} hw => ?_)
  refine lv_aload_n hx hb dX0_makeMove_50 rfl (lv_at hl 1 rfl) ?_
  refine lv_dup hx hb dX0_makeMove_51 rfl ?_
  refine r_get (v := .int (N6 0 9)) hx hb hts hK hw hown inX0 rfl (X0_k0 hB) (st_at0 (by decide)) 9 (by decide) wd_76 rfl dX0_makeMove_52 ?_
  refine lv_aload_n hx hb dX0_makeMove_55 rfl (lv_at hl 1 rfl) ?_
  refine r_get (v := .ref (eA γ (o + 5))) hx hb hts hK hw hown inX0 rfl (X0_k0 hB) (st_at0 (by decide)) 4 (by decide) wd_71 rfl dX0_makeMove_56 ?_
  refine lv_iload_n hx hb dX0_makeMove_59 rfl (lv_at hl 0 rfl) ?_
  refine lv_iconst (v := (3 : Int32)) hx hb dX0_makeMove_60 (by decide) ?_
  refine lv_iadd hx hb dX0_makeMove_61 ?_
  obtain ⟨v7, hv7, h⟩ := ob h
  refine r_iald hx hb hK hw (X0_k5 hB) (st_at (by decide)) hv7 dX0_makeMove_62 ?_
  refine lv_iadd hx hb dX0_makeMove_63 ?_
  obtain ⟨N8, hN8, h⟩ := ob h
  refine r_put (x := ((N6 0 9) + v7)) (ty := .int) hx hb hts hK hd hw hown inX0 tyX0 tyX0_ok nmX0 rfl (by decide) (X0_k0 hB) 9 (by decide) wd_76 rfl rfl rfl rfl (fun _ => (Nat.le_of_ble_eq_true rfl)) (fun _ => rfl) hN8 dX0_makeMove_64 (fun {H} {locs} hw => ?_)
  refine lv_aload_n hx hb dX0_makeMove_67 rfl (lv_at hl 1 rfl) ?_
  refine lv_dup hx hb dX0_makeMove_68 rfl ?_
  refine r_get (v := .int (N8 0 11)) hx hb hts hK hw hown inX0 rfl (X0_k0 hB) (st_at0 (by decide)) 11 (by decide) wd_78 rfl dX0_makeMove_69 ?_
  refine lv_iconst (v := (1 : Int32)) hx hb dX0_makeMove_72 (by decide) ?_
  refine lv_iadd hx hb dX0_makeMove_73 ?_
  obtain ⟨N9, hN9, h⟩ := ob h
  refine r_put (x := ((N8 0 11) + (1 : Int32))) (ty := .int) hx hb hts hK hd hw hown inX0 tyX0 tyX0_ok nmX0 rfl (by decide) (X0_k0 hB) 11 (by decide) wd_78 rfl rfl rfl rfl (fun _ => (Nat.le_of_ble_eq_true rfl)) (fun _ => rfl) hN9 dX0_makeMove_74 (fun {H} {locs} hw => ?_)
  refine lv_aload_n hx hb dX0_makeMove_77 rfl (lv_at hl 1 rfl) ?_
  refine lv_iload_n hx hb dX0_makeMove_78 rfl (lv_at hl 2 rfl) ?_
  refine lv_iload_n hx hb dX0_makeMove_79 rfl (lv_at hl 3 rfl) ?_
  obtain ⟨N10, hN10, h⟩ := ob h
  refine r_Vv (rest := []) C0 z0 (c_X0_tryMove hB hN10) lk_X0_110 (X0_k0 hB) rfl rfl hl.1 rfl (Nat.le_of_ble_eq_true rfl) (by decide) hw dX0_makeMove_80 (fun {H} {locs} hw => ?_)
  refine lv_aload_n hx hb dX0_makeMove_83 rfl (lv_at hl 1 rfl) ?_
  refine lv_aload_n hx hb dX0_makeMove_84 rfl (lv_at hl 1 rfl) ?_
  refine r_get (v := .int (N10 0 10)) hx hb hts hK hw hown inX0 rfl (X0_k0 hB) (st_at0 (by decide)) 10 (by decide) wd_77 rfl dX0_makeMove_85 ?_
  refine lv_aload_n hx hb dX0_makeMove_88 rfl (lv_at hl 1 rfl) ?_
  refine r_get (v := .int (N10 0 8)) hx hb hts hK hw hown inX0 rfl (X0_k0 hB) (st_at0 (by decide)) 8 (by decide) wd_75 rfl dX0_makeMove_89 ?_
  refine r_abs C0 z0 lk_X0_80 hl.1 (Nat.le_of_ble_eq_true rfl) (by decide) dX0_makeMove_92 ?_
  refine r_max C0 z0 lk_X0_114 hl.1 (Nat.le_of_ble_eq_true rfl) (by decide) dX0_makeMove_95 ?_
  obtain ⟨N11, hN11, h⟩ := ob h
  refine r_put (x := (imax (N10 0 10) (iabs (N10 0 8)))) (ty := .int) hx hb hts hK hd hw hown inX0 tyX0 tyX0_ok nmX0 rfl (by decide) (X0_k0 hB) 10 (by decide) wd_77 rfl rfl rfl rfl (fun _ => (Nat.le_of_ble_eq_true rfl)) (fun _ => rfl) hN11 dX0_makeMove_98 (fun {H} {locs} hw => ?_)
  have h1 := Option.some.inj h
  subst h1
  exact r_vret hx hb hr hlk hK hd hw dX0_makeMove_101
theorem c_X0_makeMove {l : Launch} {γ : Ev} {o : Nat} {σ : Mm} {Bf : Mm} {B : Mm} {x1 x2 : Int32} (hB : isX0 γ o) (h : s_X0_makeMove B x1 x2 = some Bf) : Ct l yX0_makeMove cX0_makeMove 4 none 5 118 γ [.ref (eA γ o), .int x1, .int x2] (st 6 σ o B) none (st 6 σ o Bf) := Ct.of (own := RX0) (by decide +kernel) rfl (Nat.le_of_ble_eq_true rfl) (fun C hw ls hl => b_X0_makeMove C hB h hw hl)
set_option maxHeartbeats 4000000 in
set_option maxRecDepth 10000 in
theorem b_X0_takeBack {γ : Ev} {o : Nat} {σ : Mm} {Bf : Mm} {B : Mm} {x1 x2 x3 x4 x5 : Int32} (C : Cx p R s m args meth c RX0 cX0_takeBack 7 none 4 95 γ) (hB : isX0 γ o) (h : s_X0_takeBack B x1 x2 x3 x4 x5 = some Bf) (hw : Wo γ (st 6 σ o B) s H locs) (hl : lv_has ls 7 [(0, .ref (eA γ o)), (1, .int x1), (2, .int x2), (3, .int x3), (4, .int x4), (5, .int x5)]) : W p l e R s m args below meth c H locs 0 0 (MQ below (Qo γ none (st 6 σ o Bf)) args s 0 0 (AK γ)) (F0 m 0 ls []) := by
  have C0 := C
  obtain ⟨hx, hb, hr, hml, hown, hts, hlk, hK, hd, hF, hL⟩ := C
  unfold s_X0_takeBack at h
  refine lv_aload_n hx hb dX0_takeBack_0 rfl (lv_at hl 0 rfl) ?_
  refine lv_iload_n hx hb dX0_takeBack_1 rfl (lv_at hl 1 rfl) ?_
  refine lv_iload_n hx hb dX0_takeBack_2 rfl (lv_at hl 2 rfl) ?_
  obtain ⟨v1, hv1, h⟩ := ob h
  refine r_Si (rest := [.ref (eA γ o)]) C0 z0 (c_X0_targetOf hv1) lk_X0_95 hl.1 rfl (Nat.le_of_ble_eq_true rfl) (by decide) hw dX0_takeBack_3 (fun {H} {locs} hw => ?_)
  obtain ⟨q2, hq2, h⟩ := ob h
  refine r_Vi (rest := []) C0 z0 (c_X0_takeFrom hB hq2) lk_X0_124 (X0_k0 hB) rfl rfl hl.1 rfl (Nat.le_of_ble_eq_true rfl) (by decide) hw dX0_takeBack_6 (fun {H} {locs} hw => ?_)
  obtain ⟨v3, ev3, h⟩ := jb h
  refine r_top ev3 ?_
  refine lv_istore (lv' := [(6, .int v3), (0, .ref (eA γ o)), (1, .int x1), (2, .int x2), (3, .int x3), (4, .int x4), (5, .int x5)]) hx hb dX0_takeBack_9 hl (by decide) rfl (fun ls hl => ?_)
  refine lv_iload_n hx hb dX0_takeBack_11 rfl (lv_at hl 2 rfl) ?_
  refine lv_bipush (v := (6 : Int32)) hx hb dX0_takeBack_12 (by decide) ?_
  refine jn_elim h (fun (k : Mm → Option (Mm)) => ∀ (N7 : Mm) {H : Heap} {locs : List Loc} {ls : Array Slot}, k N7 = some Bf → Wo γ (st 6 σ o N7) s H locs → lv_has ls 7 [(0, .ref (eA γ o)), (3, .int x3), (4, .int x4), (5, .int x5)] → W p l e R s m args below meth c H locs 0 0 (MQ below (Qo γ none (st 6 σ o Bf)) args s 0 0 (AK γ)) (F0 m 34 ls [])) ?_ ?_
  · intro N7 H locs ls h hw hl
    refine lv_aload_n hx hb dX0_takeBack_34 rfl (lv_at hl 0 rfl) ?_
    refine lv_iload_n hx hb dX0_takeBack_35 rfl (lv_at hl 1 rfl) ?_
    obtain ⟨N8, hN8, h⟩ := ob h
    refine r_put (x := x3) (ty := .int) hx hb hts hK hd hw hown inX0 tyX0 tyX0_ok nmX0 rfl (by decide) (X0_k0 hB) 5 (by decide) wd_72 rfl rfl rfl rfl (fun _ => (Nat.le_of_ble_eq_true rfl)) (fun _ => rfl) hN8 dX0_takeBack_36 (fun {H} {locs} hw => ?_)
    refine lv_aload_n hx hb dX0_takeBack_39 rfl (lv_at hl 0 rfl) ?_
    refine lv_iload hx hb dX0_takeBack_40 (lv_at hl 2 rfl) ?_
    obtain ⟨N9, hN9, h⟩ := ob h
    refine r_put (x := x4) (ty := .int) hx hb hts hK hd hw hown inX0 tyX0 tyX0_ok nmX0 rfl (by decide) (X0_k0 hB) 6 (by decide) wd_73 rfl rfl rfl rfl (fun _ => (Nat.le_of_ble_eq_true rfl)) (fun _ => rfl) hN9 dX0_takeBack_42 (fun {H} {locs} hw => ?_)
    refine lv_aload_n hx hb dX0_takeBack_45 rfl (lv_at hl 0 rfl) ?_
    refine lv_iload hx hb dX0_takeBack_46 (lv_at hl 3 rfl) ?_
    obtain ⟨N10, hN10, h⟩ := ob h
    refine r_put (x := x5) (ty := .int) hx hb hts hK hd hw hown inX0 tyX0 tyX0_ok nmX0 rfl (by decide) (X0_k0 hB) 7 (by decide) wd_74 rfl rfl rfl rfl (fun _ => (Nat.le_of_ble_eq_true rfl)) (fun _ => rfl) hN10 dX0_takeBack_48 (fun {H} {locs} hw => ?_)
    have h1 := Option.some.inj h
    subst h1
    exact r_vret hx hb hr hlk hK hd hw dX0_takeBack_51
  intro k6 J_k6 h
  refine lv_icmp_ge (tgt := 27) hx hb dX0_takeBack_14 (by decide) (fun c11 => ?_) (fun c11 => ?_)
  · replace h := ifp c11 h
    refine lv_aload_n hx hb dX0_takeBack_27 rfl (lv_at hl 1 rfl) ?_
    refine lv_iload hx hb dX0_takeBack_28 (lv_at hl 0 rfl) ?_
    refine lv_iload_n hx hb dX0_takeBack_30 rfl (lv_at hl 3 rfl) ?_
    obtain ⟨N12, hN12, h⟩ := ob h
    refine r_Vv (rest := []) C0 z0 (c_X0_putOn hB hN12) lk_X0_121 (X0_k0 hB) rfl rfl hl.1 rfl (Nat.le_of_ble_eq_true rfl) (by decide) hw dX0_takeBack_31 (fun {H} {locs} hw => ?_)
    exact J_k6 N12 h hw (lv_sub hl [1, 4, 5, 6] rfl)
  · replace h := ifn c11 h
    refine lv_aload_n hx hb dX0_takeBack_17 rfl (lv_at hl 1 rfl) ?_
    refine lv_iload_n hx hb dX0_takeBack_18 rfl (lv_at hl 4 rfl) ?_
    refine lv_iload_n hx hb dX0_takeBack_19 rfl (lv_at hl 2 rfl) ?_
    refine lv_iconst (v := (1 : Int32)) hx hb dX0_takeBack_20 (by decide) ?_
    obtain ⟨N13, hN13, h⟩ := ob h
    refine r_Vv (rest := []) C0 z0 (c_X0_changeBag hB hN13) lk_X0_117 (X0_k0 hB) rfl rfl hl.1 rfl (Nat.le_of_ble_eq_true rfl) (by decide) hw dX0_takeBack_21 (fun {H} {locs} hw => ?_)
    refine lv_goto (tgt := 34) hx hb dX0_takeBack_24 (by decide) ?_
    exact J_k6 N13 h hw (lv_sub hl [1, 4, 5, 6] rfl)
theorem c_X0_takeBack {l : Launch} {γ : Ev} {o : Nat} {σ : Mm} {Bf : Mm} {B : Mm} {x1 x2 x3 x4 x5 : Int32} (hB : isX0 γ o) (h : s_X0_takeBack B x1 x2 x3 x4 x5 = some Bf) : Ct l yX0_takeBack cX0_takeBack 7 none 4 95 γ [.ref (eA γ o), .int x1, .int x2, .int x3, .int x4, .int x5] (st 6 σ o B) none (st 6 σ o Bf) := Ct.of (own := RX0) (by decide +kernel) rfl (Nat.le_of_ble_eq_true rfl) (fun C hw ls hl => b_X0_takeBack C hB h hw hl)
set_option maxHeartbeats 4000000 in
set_option maxRecDepth 10000 in
theorem b_X0_isMoveKept {γ : Ev} {o : Nat} {σ : Mm} {r : Int32} {B : Mm} {x1 : Int32} (C : Cx p R s m args meth c RX0 cX0_isMoveKept 2 (some .boolean) 1 30 γ) (hB : isX0 γ o) (h : s_X0_isMoveKept B x1 = some r) (hw : Wo γ (st 6 σ o B) s H locs) (hl : lv_has ls 2 [(0, .ref (eA γ o)), (1, .int x1)]) : W p l e R s m args below meth c H locs 0 0 (MQ below (Qo γ (some (.int r)) (st 6 σ o B)) args s 0 0 (AK γ)) (F0 m 0 ls []) := by
  have C0 := C
  obtain ⟨hx, hb, hr, hml, hown, hts, hlk, hK, hd, hF, hL⟩ := C
  unfold s_X0_isMoveKept at h
  refine lv_iload_n hx hb dX0_isMoveKept_0 rfl (lv_at hl 1 rfl) ?_
  refine lv_if_lt (tgt := 22) hx hb dX0_isMoveKept_1 (by decide) (fun c1 => ?_) (fun c1 => ?_)
  · replace h := ifp c1 h
    refine lv_iconst (v := (0 : Int32)) hx hb dX0_isMoveKept_22 (by decide) ?_
    have h1 := Option.some.inj h
    subst h1
    exact r_zret hx hb hr hlk hK hd hw rfl dX0_isMoveKept_23
  · replace h := ifn c1 h
    refine lv_iload_n hx hb dX0_isMoveKept_4 rfl (lv_at hl 1 rfl) ?_
    refine lv_bipush (v := (40 : Int32)) hx hb dX0_isMoveKept_5 (by decide) ?_
    refine lv_icmp_ge (tgt := 22) hx hb dX0_isMoveKept_7 (by decide) (fun c2 => ?_) (fun c2 => ?_)
    · replace h := ifp c2 h
      refine lv_iconst (v := (0 : Int32)) hx hb dX0_isMoveKept_22 (by decide) ?_
      have h1 := Option.some.inj h
      subst h1
      exact r_zret hx hb hr hlk hK hd hw rfl dX0_isMoveKept_23
    · replace h := ifn c2 h
      refine lv_iload_n hx hb dX0_isMoveKept_10 rfl (lv_at hl 1 rfl) ?_
      refine lv_aload_n hx hb dX0_isMoveKept_11 rfl (lv_at hl 0 rfl) ?_
      refine r_get (v := .int (B 0 11)) hx hb hts hK hw hown inX0 rfl (X0_k0 hB) (st_at0 (by decide)) 11 (by decide) wd_78 rfl dX0_isMoveKept_12 ?_
      refine lv_icmp_ge (tgt := 22) hx hb dX0_isMoveKept_15 (by decide) (fun c3 => ?_) (fun c3 => ?_)
      · replace h := ifp c3 h
        refine lv_iconst (v := (0 : Int32)) hx hb dX0_isMoveKept_22 (by decide) ?_
        have h1 := Option.some.inj h
        subst h1
        exact r_zret hx hb hr hlk hK hd hw rfl dX0_isMoveKept_23
      · replace h := ifn c3 h
        refine lv_iconst (v := (1 : Int32)) hx hb dX0_isMoveKept_18 (by decide) ?_
        refine lv_goto (tgt := 23) hx hb dX0_isMoveKept_19 (by decide) ?_
        have h1 := Option.some.inj h
        subst h1
        exact r_zret hx hb hr hlk hK hd hw rfl dX0_isMoveKept_23
theorem c_X0_isMoveKept {l : Launch} {γ : Ev} {o : Nat} {σ : Mm} {r : Int32} {B : Mm} {x1 : Int32} (hB : isX0 γ o) (h : s_X0_isMoveKept B x1 = some r) : Ct l yX0_isMoveKept cX0_isMoveKept 2 (some .boolean) 1 30 γ [.ref (eA γ o), .int x1] (st 6 σ o B) (some (.int r)) (st 6 σ o B) := Ct.of (own := RX0) (by decide +kernel) rfl (Nat.le_of_ble_eq_true rfl) (fun C hw ls hl => b_X0_isMoveKept C hB h hw hl)
set_option maxHeartbeats 4000000 in
set_option maxRecDepth 10000 in
theorem b_X0_partOfMove {γ : Ev} {o : Nat} {σ : Mm} {r : Int32} {B : Mm} {x1 x2 : Int32} (C : Cx p R s m args meth c RX0 cX0_partOfMove 3 (some .int) 3 72 γ) (hB : isX0 γ o) (h : s_X0_partOfMove B x1 x2 = some r) (hw : Wo γ (st 6 σ o B) s H locs) (hl : lv_has ls 3 [(0, .ref (eA γ o)), (1, .int x1), (2, .int x2)]) : W p l e R s m args below meth c H locs 0 0 (MQ below (Qo γ (some (.int r)) (st 6 σ o B)) args s 0 0 (AK γ)) (F0 m 0 ls []) := by
  have C0 := C
  obtain ⟨hx, hb, hr, hml, hown, hts, hlk, hK, hd, hF, hL⟩ := C
  unfold s_X0_partOfMove at h
  refine lv_aload_n hx hb dX0_partOfMove_0 rfl (lv_at hl 0 rfl) ?_
  refine lv_iload_n hx hb dX0_partOfMove_1 rfl (lv_at hl 1 rfl) ?_
  obtain ⟨v1, hv1, h⟩ := ob h
  refine r_Vi (rest := []) C0 z0 (c_X0_isMoveKept hB hv1) lk_X0_133 (X0_k0 hB) rfl rfl hl.1 rfl (Nat.le_of_ble_eq_true rfl) (by decide) hw dX0_partOfMove_2 (fun {H} {locs} hw => ?_)
  refine lv_if_eq (tgt := 17) hx hb dX0_partOfMove_5 (by decide) (fun c2 => ?_) (fun c2 => ?_)
  · replace h := ifp c2 h
    refine lv_iconst (v := (0 : Int32)) hx hb dX0_partOfMove_17 (by decide) ?_
    have h1 := Option.some.inj h
    subst h1
    exact r_iret hx hb hr hlk hK hd hw dX0_partOfMove_18
  · replace h := ifn c2 h
    refine lv_iload_n hx hb dX0_partOfMove_8 rfl (lv_at hl 2 rfl) ?_
    refine lv_if_lt (tgt := 17) hx hb dX0_partOfMove_9 (by decide) (fun c3 => ?_) (fun c3 => ?_)
    · replace h := ifp c3 h
      refine lv_iconst (v := (0 : Int32)) hx hb dX0_partOfMove_17 (by decide) ?_
      have h1 := Option.some.inj h
      subst h1
      exact r_iret hx hb hr hlk hK hd hw dX0_partOfMove_18
    · replace h := ifn c3 h
      refine lv_iload_n hx hb dX0_partOfMove_12 rfl (lv_at hl 2 rfl) ?_
      refine lv_iconst (v := (4 : Int32)) hx hb dX0_partOfMove_13 (by decide) ?_
      refine lv_icmp_lt (tgt := 19) hx hb dX0_partOfMove_14 (by decide) (fun c4 => ?_) (fun c4 => ?_)
      · replace h := ifp c4 h
        refine lv_aload_n hx hb dX0_partOfMove_19 rfl (lv_at hl 0 rfl) ?_
        refine r_get (v := .ref (eA γ (o + 5))) hx hb hts hK hw hown inX0 rfl (X0_k0 hB) (st_at0 (by decide)) 4 (by decide) wd_71 rfl dX0_partOfMove_20 ?_
        refine lv_aload_n hx hb dX0_partOfMove_23 rfl (lv_at hl 0 rfl) ?_
        refine r_get (v := .int (B 0 11)) hx hb hts hK hw hown inX0 rfl (X0_k0 hB) (st_at0 (by decide)) 11 (by decide) wd_78 rfl dX0_partOfMove_24 ?_
        refine lv_iconst (v := (1 : Int32)) hx hb dX0_partOfMove_27 (by decide) ?_
        refine lv_isub hx hb dX0_partOfMove_28 ?_
        refine lv_iload_n hx hb dX0_partOfMove_29 rfl (lv_at hl 1 rfl) ?_
        refine lv_isub hx hb dX0_partOfMove_30 ?_
        obtain ⟨v5, hv5, h⟩ := ob h
        refine r_Si (rest := [.ref (eA γ (o + 5))]) C0 z0 (c_X0_rowOf hv5) lk_X0_104 hl.1 rfl (Nat.le_of_ble_eq_true rfl) (by decide) hw dX0_partOfMove_31 (fun {H} {locs} hw => ?_)
        refine lv_iload_n hx hb dX0_partOfMove_34 rfl (lv_at hl 2 rfl) ?_
        refine lv_iadd hx hb dX0_partOfMove_35 ?_
        obtain ⟨v6, hv6, h⟩ := ob h
        refine r_iald hx hb hK hw (X0_k5 hB) (st_at (by decide)) hv6 dX0_partOfMove_36 ?_
        have h1 := Option.some.inj h
        subst h1
        exact r_iret hx hb hr hlk hK hd hw dX0_partOfMove_37
      · replace h := ifn c4 h
        refine lv_iconst (v := (0 : Int32)) hx hb dX0_partOfMove_17 (by decide) ?_
        have h1 := Option.some.inj h
        subst h1
        exact r_iret hx hb hr hlk hK hd hw dX0_partOfMove_18
theorem c_X0_partOfMove {l : Launch} {γ : Ev} {o : Nat} {σ : Mm} {r : Int32} {B : Mm} {x1 x2 : Int32} (hB : isX0 γ o) (h : s_X0_partOfMove B x1 x2 = some r) : Ct l yX0_partOfMove cX0_partOfMove 3 (some .int) 3 72 γ [.ref (eA γ o), .int x1, .int x2] (st 6 σ o B) (some (.int r)) (st 6 σ o B) := Ct.of (own := RX0) (by decide +kernel) rfl (Nat.le_of_ble_eq_true rfl) (fun C hw ls hl => b_X0_partOfMove C hB h hw hl)
set_option maxHeartbeats 4000000 in
set_option maxRecDepth 10000 in
theorem b_X0_possibleMoves_L4 {γ : Ev} {o : Nat} {σ : Mm} {r : Int32} (C : Cx p R s m args meth c RX0 cX0_possibleMoves 3 (some .int) 6 137 γ) (hB : isX0 γ o) : ∀ (n : Nat) {B : Mm} {x1 : Int32} {x2 : Int32} {H : Heap} {locs : List Loc} {ls : Array Slot}, s_X0_possibleMoves_L4 n B x1 x2 = some r → Wo γ (st 6 σ o B) s H locs → lv_has ls 3 [(0, .ref (eA γ o)), (1, .int x1), (2, .int x2)] → W p l e R s m args below meth c H locs 0 0 (MQ below (Qo γ (some (.int r)) (st 6 σ o B)) args s 0 0 (AK γ)) (F0 m 4 ls []) := by
  have C0 := C
  obtain ⟨hx, hb, hr, hml, hown, hts, hlk, hK, hd, hF, hL⟩ := C
  intro n
  induction n with
  | zero => intro B x1 x2 H locs ls h; cases h
  | succ n ih =>
    intro B x1 x2 H locs ls h hw hl
    unfold s_X0_possibleMoves_L4 at h
    refine lv_iload_n hx hb dX0_possibleMoves_4 rfl (lv_at hl 2 rfl) ?_
    refine lv_bipush (v := (84 : Int32)) hx hb dX0_possibleMoves_5 (by decide) ?_
    refine lv_icmp_ge (tgt := 34) hx hb dX0_possibleMoves_7 (by decide) (fun c1 => ?_) (fun c1 => ?_)
    · replace h := ifp c1 h
      refine lv_iload_n hx hb dX0_possibleMoves_34 rfl (lv_at hl 1 rfl) ?_
      have h1 := Option.some.inj h
      subst h1
      exact r_iret hx hb hr hlk hK hd hw dX0_possibleMoves_35
    · replace h := ifn c1 h
      refine lv_aload_n hx hb dX0_possibleMoves_10 rfl (lv_at hl 0 rfl) ?_
      refine lv_iload_n hx hb dX0_possibleMoves_11 rfl (lv_at hl 2 rfl) ?_
      obtain ⟨v2, hv2, h⟩ := ob h
      refine r_Si (rest := [.ref (eA γ o)]) C0 z0 (c_X0_numberOf hv2) lk_X0_136 hl.1 rfl (Nat.le_of_ble_eq_true rfl) (by decide) hw dX0_possibleMoves_12 (fun {H} {locs} hw => ?_)
      refine lv_iload_n hx hb dX0_possibleMoves_15 rfl (lv_at hl 2 rfl) ?_
      obtain ⟨v3, hv3, h⟩ := ob h
      refine r_Si (rest := [.int v2, .ref (eA γ o)]) C0 z0 (c_X0_placeOf hv3) lk_X0_139 hl.1 rfl (Nat.le_of_ble_eq_true rfl) (by decide) hw dX0_possibleMoves_16 (fun {H} {locs} hw => ?_)
      obtain ⟨v4, hv4, h⟩ := ob h
      refine r_Vi (rest := []) C0 z0 (c_X0_whyNot hB hv4) lk_X0_142 (X0_k0 hB) rfl rfl hl.1 rfl (Nat.le_of_ble_eq_true rfl) (by decide) hw dX0_possibleMoves_19 (fun {H} {locs} hw => ?_)
      refine lv_if_ne (tgt := 28) hx hb dX0_possibleMoves_22 (by decide) (fun c5 => ?_) (fun c5 => ?_)
      · replace h := ifn c5 h
        obtain ⟨v6, ev6, h⟩ := jb h
        refine lv_iinc (v := v6) (lv' := [(2, .int v6), (0, .ref (eA γ o)), (1, .int x1)]) hx hb dX0_possibleMoves_28 hl (k := 2) rfl (by rw [← ev6]; rfl) (by decide) rfl (fun ls hl => ?_)
        refine lv_goto (tgt := 4) hx hb dX0_possibleMoves_31 (by decide) ?_
        exact ih h hw (lv_sub hl [1, 2, 0] rfl)
      · replace h := ifp c5 h
        obtain ⟨v7, ev7, h⟩ := jb h
        refine lv_iinc (v := v7) (lv' := [(1, .int v7), (0, .ref (eA γ o)), (2, .int x2)]) hx hb dX0_possibleMoves_25 hl (k := 1) rfl (by rw [← ev7]; rfl) (by decide) rfl (fun ls hl => ?_)
        obtain ⟨v8, ev8, h⟩ := jb h
        refine lv_iinc (v := v8) (lv' := [(2, .int v8), (1, .int v7), (0, .ref (eA γ o))]) hx hb dX0_possibleMoves_28 hl (k := 2) rfl (by rw [← ev8]; rfl) (by decide) rfl (fun ls hl => ?_)
        refine lv_goto (tgt := 4) hx hb dX0_possibleMoves_31 (by decide) ?_
        exact ih h hw (lv_sub hl [2, 1, 0] rfl)
set_option maxHeartbeats 4000000 in
set_option maxRecDepth 10000 in
theorem b_X0_possibleMoves {γ : Ev} {o : Nat} {σ : Mm} {r : Int32} {B : Mm} (C : Cx p R s m args meth c RX0 cX0_possibleMoves 3 (some .int) 6 137 γ) (hB : isX0 γ o) (h : s_X0_possibleMoves B = some r) (hw : Wo γ (st 6 σ o B) s H locs) (hl : lv_has ls 3 [(0, .ref (eA γ o))]) : W p l e R s m args below meth c H locs 0 0 (MQ below (Qo γ (some (.int r)) (st 6 σ o B)) args s 0 0 (AK γ)) (F0 m 0 ls []) := by
  have C0 := C
  obtain ⟨hx, hb, hr, hml, hown, hts, hlk, hK, hd, hF, hL⟩ := C
  unfold s_X0_possibleMoves at h
  refine lv_iconst (v := (0 : Int32)) hx hb dX0_possibleMoves_0 (by decide) ?_
  refine lv_istore_n (lv' := [(1, .int (0 : Int32)), (0, .ref (eA γ o))]) hx hb dX0_possibleMoves_1 rfl hl (by decide) rfl (fun ls hl => ?_)
  refine lv_iconst (v := (0 : Int32)) hx hb dX0_possibleMoves_2 (by decide) ?_
  refine lv_istore_n (lv' := [(2, .int (0 : Int32)), (1, .int (0 : Int32)), (0, .ref (eA γ o))]) hx hb dX0_possibleMoves_3 rfl hl (by decide) rfl (fun ls hl => ?_)
  exact b_X0_possibleMoves_L4 C0 hB 1000 h hw (lv_sub hl [2, 1, 0] rfl)
theorem c_X0_possibleMoves {l : Launch} {γ : Ev} {o : Nat} {σ : Mm} {r : Int32} {B : Mm} (hB : isX0 γ o) (h : s_X0_possibleMoves B = some r) : Ct l yX0_possibleMoves cX0_possibleMoves 3 (some .int) 6 137 γ [.ref (eA γ o)] (st 6 σ o B) (some (.int r)) (st 6 σ o B) := Ct.of (own := RX0) (by decide +kernel) rfl (Nat.le_of_ble_eq_true rfl) (fun C hw ls hl => b_X0_possibleMoves C hB h hw hl)
set_option maxHeartbeats 4000000 in
set_option maxRecDepth 10000 in
theorem b_X0_safeMoves_L4 {γ : Ev} {o : Nat} {σ : Mm} {r : Int32} (C : Cx p R s m args meth c RX0 cX0_safeMoves 5 (some .int) 6 137 γ) (hB : isX0 γ o) : ∀ (n : Nat) {B : Mm} {x1 : Int32} {x2 : Int32} {H : Heap} {locs : List Loc} {ls : Array Slot}, s_X0_safeMoves_L4 n B x1 x2 = some r → Wo γ (st 6 σ o B) s H locs → lv_has ls 5 [(0, .ref (eA γ o)), (1, .int x1), (2, .int x2)] → W p l e R s m args below meth c H locs 0 0 (MQ below (Qo γ (some (.int r)) (st 6 σ o B)) args s 0 0 (AK γ)) (F0 m 4 ls []) := by
  have C0 := C
  obtain ⟨hx, hb, hr, hml, hown, hts, hlk, hK, hd, hF, hL⟩ := C
  intro n
  induction n with
  | zero => intro B x1 x2 H locs ls h; cases h
  | succ n ih =>
    intro B x1 x2 H locs ls h hw hl
    unfold s_X0_safeMoves_L4 at h
    refine lv_iload_n hx hb dX0_safeMoves_4 rfl (lv_at hl 2 rfl) ?_
    refine lv_bipush (v := (84 : Int32)) hx hb dX0_safeMoves_5 (by decide) ?_
    refine lv_icmp_ge (tgt := 64) hx hb dX0_safeMoves_7 (by decide) (fun c1 => ?_) (fun c1 => ?_)
    · replace h := ifp c1 h
      refine lv_iload_n hx hb dX0_safeMoves_64 rfl (lv_at hl 1 rfl) ?_
      have h1 := Option.some.inj h
      subst h1
      exact r_iret hx hb hr hlk hK hd hw dX0_safeMoves_65
    · replace h := ifn c1 h
      refine lv_iload_n hx hb dX0_safeMoves_10 rfl (lv_at hl 2 rfl) ?_
      obtain ⟨v2, hv2, h⟩ := ob h
      refine r_Si (rest := []) C0 z0 (c_X0_numberOf hv2) lk_X0_136 hl.1 rfl (Nat.le_of_ble_eq_true rfl) (by decide) hw dX0_safeMoves_11 (fun {H} {locs} hw => ?_)
      refine lv_istore_n (lv' := [(3, .int v2), (0, .ref (eA γ o)), (1, .int x1), (2, .int x2)]) hx hb dX0_safeMoves_14 rfl hl (by decide) rfl (fun ls hl => ?_)
      refine lv_iload_n hx hb dX0_safeMoves_15 rfl (lv_at hl 3 rfl) ?_
      obtain ⟨v3, hv3, h⟩ := ob h
      refine r_Si (rest := []) C0 z0 (c_X0_placeOf hv3) lk_X0_139 hl.1 rfl (Nat.le_of_ble_eq_true rfl) (by decide) hw dX0_safeMoves_16 (fun {H} {locs} hw => ?_)
      refine lv_istore (lv' := [(4, .int v3), (3, .int v2), (0, .ref (eA γ o)), (1, .int x1), (2, .int x2)]) hx hb dX0_safeMoves_19 hl (by decide) rfl (fun ls hl => ?_)
      refine lv_aload_n hx hb dX0_safeMoves_21 rfl (lv_at hl 2 rfl) ?_
      refine lv_iload_n hx hb dX0_safeMoves_22 rfl (lv_at hl 1 rfl) ?_
      refine lv_iload hx hb dX0_safeMoves_23 (lv_at hl 0 rfl) ?_
      obtain ⟨v4, hv4, h⟩ := ob h
      refine r_Vi (rest := []) C0 z0 (c_X0_whyNot hB hv4) lk_X0_142 (X0_k0 hB) rfl rfl hl.1 rfl (Nat.le_of_ble_eq_true rfl) (by decide) hw dX0_safeMoves_25 (fun {H} {locs} hw => ?_)
      refine lv_if_ne (tgt := 58) hx hb dX0_safeMoves_28 (by decide) (fun c5 => ?_) (fun c5 => ?_)
      · replace h := ifn c5 h
        obtain ⟨v6, ev6, h⟩ := jb h
        refine lv_iinc (v := v6) (lv' := [(2, .int v6), (4, .int v3), (3, .int v2), (0, .ref (eA γ o)), (1, .int x1)]) hx hb dX0_safeMoves_58 hl (k := 4) rfl (by rw [← ev6]; rfl) (by decide) rfl (fun ls hl => ?_)
        refine lv_goto (tgt := 4) hx hb dX0_safeMoves_61 (by decide) ?_
        exact ih h hw (lv_sub hl [3, 4, 0] rfl)
      · replace h := ifp c5 h
        refine lv_aload_n hx hb dX0_safeMoves_31 rfl (lv_at hl 2 rfl) ?_
        refine r_get (v := .int (B 0 8)) hx hb hts hK hw hown inX0 rfl (X0_k0 hB) (st_at0 (by decide)) 8 (by decide) wd_75 rfl dX0_safeMoves_32 ?_
        refine lv_aload_n hx hb dX0_safeMoves_35 rfl (lv_at hl 2 rfl) ?_
        refine lv_iload_n hx hb dX0_safeMoves_36 rfl (lv_at hl 1 rfl) ?_
        refine lv_iload hx hb dX0_safeMoves_37 (lv_at hl 0 rfl) ?_
        obtain ⟨v7, hv7, h⟩ := ob h
        refine r_Vi (rest := [.int (B 0 8)]) C0 z0 (c_X0_tellingOf hB hv7) lk_X0_107 (X0_k0 hB) rfl rfl hl.1 rfl (Nat.le_of_ble_eq_true rfl) (by decide) hw dX0_safeMoves_39 (fun {H} {locs} hw => ?_)
        refine lv_iadd hx hb dX0_safeMoves_42 ?_
        refine r_abs C0 z0 lk_X0_80 hl.1 (Nat.le_of_ble_eq_true rfl) (by decide) dX0_safeMoves_43 ?_
        refine lv_aload_n hx hb dX0_safeMoves_46 rfl (lv_at hl 2 rfl) ?_
        refine r_get (v := .ref (eA γ (o + 4))) hx hb hts hK hw hown inX0 rfl (X0_k0 hB) (st_at0 (by decide)) 3 (by decide) wd_70 rfl dX0_safeMoves_47 ?_
        refine lv_iconst (v := (1 : Int32)) hx hb dX0_safeMoves_50 (by decide) ?_
        obtain ⟨v8, hv8, h⟩ := ob h
        refine r_iald hx hb hK hw (X0_k4 hB) (st_at (by decide)) hv8 dX0_safeMoves_51 ?_
        refine lv_icmp_gt (tgt := 58) hx hb dX0_safeMoves_52 (by decide) (fun c9 => ?_) (fun c9 => ?_)
        · replace h := ifp c9 h
          obtain ⟨v10, ev10, h⟩ := jb h
          refine lv_iinc (v := v10) (lv' := [(2, .int v10), (4, .int v3), (3, .int v2), (0, .ref (eA γ o)), (1, .int x1)]) hx hb dX0_safeMoves_58 hl (k := 4) rfl (by rw [← ev10]; rfl) (by decide) rfl (fun ls hl => ?_)
          refine lv_goto (tgt := 4) hx hb dX0_safeMoves_61 (by decide) ?_
          exact ih h hw (lv_sub hl [3, 4, 0] rfl)
        · replace h := ifn c9 h
          obtain ⟨v11, ev11, h⟩ := jb h
          refine lv_iinc (v := v11) (lv' := [(1, .int v11), (4, .int v3), (3, .int v2), (0, .ref (eA γ o)), (2, .int x2)]) hx hb dX0_safeMoves_55 hl (k := 3) rfl (by rw [← ev11]; rfl) (by decide) rfl (fun ls hl => ?_)
          obtain ⟨v12, ev12, h⟩ := jb h
          refine lv_iinc (v := v12) (lv' := [(2, .int v12), (1, .int v11), (4, .int v3), (3, .int v2), (0, .ref (eA γ o))]) hx hb dX0_safeMoves_58 hl (k := 4) rfl (by rw [← ev12]; rfl) (by decide) rfl (fun ls hl => ?_)
          refine lv_goto (tgt := 4) hx hb dX0_safeMoves_61 (by decide) ?_
          exact ih h hw (lv_sub hl [4, 1, 0] rfl)
set_option maxHeartbeats 4000000 in
set_option maxRecDepth 10000 in
theorem b_X0_safeMoves {γ : Ev} {o : Nat} {σ : Mm} {r : Int32} {B : Mm} (C : Cx p R s m args meth c RX0 cX0_safeMoves 5 (some .int) 6 137 γ) (hB : isX0 γ o) (h : s_X0_safeMoves B = some r) (hw : Wo γ (st 6 σ o B) s H locs) (hl : lv_has ls 5 [(0, .ref (eA γ o))]) : W p l e R s m args below meth c H locs 0 0 (MQ below (Qo γ (some (.int r)) (st 6 σ o B)) args s 0 0 (AK γ)) (F0 m 0 ls []) := by
  have C0 := C
  obtain ⟨hx, hb, hr, hml, hown, hts, hlk, hK, hd, hF, hL⟩ := C
  unfold s_X0_safeMoves at h
  refine lv_iconst (v := (0 : Int32)) hx hb dX0_safeMoves_0 (by decide) ?_
  refine lv_istore_n (lv' := [(1, .int (0 : Int32)), (0, .ref (eA γ o))]) hx hb dX0_safeMoves_1 rfl hl (by decide) rfl (fun ls hl => ?_)
  refine lv_iconst (v := (0 : Int32)) hx hb dX0_safeMoves_2 (by decide) ?_
  refine lv_istore_n (lv' := [(2, .int (0 : Int32)), (1, .int (0 : Int32)), (0, .ref (eA γ o))]) hx hb dX0_safeMoves_3 rfl hl (by decide) rfl (fun ls hl => ?_)
  exact b_X0_safeMoves_L4 C0 hB 1000 h hw (lv_sub hl [2, 1, 0] rfl)
theorem c_X0_safeMoves {l : Launch} {γ : Ev} {o : Nat} {σ : Mm} {r : Int32} {B : Mm} (hB : isX0 γ o) (h : s_X0_safeMoves B = some r) : Ct l yX0_safeMoves cX0_safeMoves 5 (some .int) 6 137 γ [.ref (eA γ o)] (st 6 σ o B) (some (.int r)) (st 6 σ o B) := Ct.of (own := RX0) (by decide +kernel) rfl (Nat.le_of_ble_eq_true rfl) (fun C hw ls hl => b_X0_safeMoves C hB h hw hl)
set_option maxHeartbeats 4000000 in
set_option maxRecDepth 10000 in
theorem b_X0_side {γ : Ev} {o : Nat} {σ : Mm} {r : Int32} {B : Mm} (C : Cx p R s m args meth c RX0 cX0_side 1 (some .int) 1 30 γ) (hB : isX0 γ o) (h : s_X0_side B = some r) (hw : Wo γ (st 6 σ o B) s H locs) (hl : lv_has ls 1 [(0, .ref (eA γ o))]) : W p l e R s m args below meth c H locs 0 0 (MQ below (Qo γ (some (.int r)) (st 6 σ o B)) args s 0 0 (AK γ)) (F0 m 0 ls []) := by
  have C0 := C
  obtain ⟨hx, hb, hr, hml, hown, hts, hlk, hK, hd, hF, hL⟩ := C
  unfold s_X0_side at h
  refine lv_aload_n hx hb dX0_side_0 rfl (lv_at hl 0 rfl) ?_
  refine r_get (v := .int (B 0 5)) hx hb hts hK hw hown inX0 rfl (X0_k0 hB) (st_at0 (by decide)) 5 (by decide) wd_72 rfl dX0_side_1 ?_
  have h1 := Option.some.inj h
  subst h1
  exact r_iret hx hb hr hlk hK hd hw dX0_side_4
theorem c_X0_side {l : Launch} {γ : Ev} {o : Nat} {σ : Mm} {r : Int32} {B : Mm} (hB : isX0 γ o) (h : s_X0_side B = some r) : Ct l yX0_side cX0_side 1 (some .int) 1 30 γ [.ref (eA γ o)] (st 6 σ o B) (some (.int r)) (st 6 σ o B) := Ct.of (own := RX0) (by decide +kernel) rfl (Nat.le_of_ble_eq_true rfl) (fun C hw ls hl => b_X0_side C hB h hw hl)
set_option maxHeartbeats 4000000 in
set_option maxRecDepth 10000 in
theorem b_X0_latestSide {γ : Ev} {o : Nat} {σ : Mm} {r : Int32} {B : Mm} (C : Cx p R s m args meth c RX0 cX0_latestSide 1 (some .int) 1 30 γ) (hB : isX0 γ o) (h : s_X0_latestSide B = some r) (hw : Wo γ (st 6 σ o B) s H locs) (hl : lv_has ls 1 [(0, .ref (eA γ o))]) : W p l e R s m args below meth c H locs 0 0 (MQ below (Qo γ (some (.int r)) (st 6 σ o B)) args s 0 0 (AK γ)) (F0 m 0 ls []) := by
  have C0 := C
  obtain ⟨hx, hb, hr, hml, hown, hts, hlk, hK, hd, hF, hL⟩ := C
  unfold s_X0_latestSide at h
  refine lv_aload_n hx hb dX0_latestSide_0 rfl (lv_at hl 0 rfl) ?_
  refine r_get (v := .int (B 0 6)) hx hb hts hK hw hown inX0 rfl (X0_k0 hB) (st_at0 (by decide)) 6 (by decide) wd_73 rfl dX0_latestSide_1 ?_
  have h1 := Option.some.inj h
  subst h1
  exact r_iret hx hb hr hlk hK hd hw dX0_latestSide_4
theorem c_X0_latestSide {l : Launch} {γ : Ev} {o : Nat} {σ : Mm} {r : Int32} {B : Mm} (hB : isX0 γ o) (h : s_X0_latestSide B = some r) : Ct l yX0_latestSide cX0_latestSide 1 (some .int) 1 30 γ [.ref (eA γ o)] (st 6 σ o B) (some (.int r)) (st 6 σ o B) := Ct.of (own := RX0) (by decide +kernel) rfl (Nat.le_of_ble_eq_true rfl) (fun C hw ls hl => b_X0_latestSide C hB h hw hl)
set_option maxHeartbeats 4000000 in
set_option maxRecDepth 10000 in
theorem b_X0_movedTo {γ : Ev} {o : Nat} {σ : Mm} {r : Int32} {B : Mm} (C : Cx p R s m args meth c RX0 cX0_movedTo 1 (some .int) 1 30 γ) (hB : isX0 γ o) (h : s_X0_movedTo B = some r) (hw : Wo γ (st 6 σ o B) s H locs) (hl : lv_has ls 1 [(0, .ref (eA γ o))]) : W p l e R s m args below meth c H locs 0 0 (MQ below (Qo γ (some (.int r)) (st 6 σ o B)) args s 0 0 (AK γ)) (F0 m 0 ls []) := by
  have C0 := C
  obtain ⟨hx, hb, hr, hml, hown, hts, hlk, hK, hd, hF, hL⟩ := C
  unfold s_X0_movedTo at h
  refine lv_aload_n hx hb dX0_movedTo_0 rfl (lv_at hl 0 rfl) ?_
  refine r_get (v := .int (B 0 7)) hx hb hts hK hw hown inX0 rfl (X0_k0 hB) (st_at0 (by decide)) 7 (by decide) wd_74 rfl dX0_movedTo_1 ?_
  have h1 := Option.some.inj h
  subst h1
  exact r_iret hx hb hr hlk hK hd hw dX0_movedTo_4
theorem c_X0_movedTo {l : Launch} {γ : Ev} {o : Nat} {σ : Mm} {r : Int32} {B : Mm} (hB : isX0 γ o) (h : s_X0_movedTo B = some r) : Ct l yX0_movedTo cX0_movedTo 1 (some .int) 1 30 γ [.ref (eA γ o)] (st 6 σ o B) (some (.int r)) (st 6 σ o B) := Ct.of (own := RX0) (by decide +kernel) rfl (Nat.le_of_ble_eq_true rfl) (fun C hw ls hl => b_X0_movedTo C hB h hw hl)
set_option maxHeartbeats 4000000 in
set_option maxRecDepth 10000 in
theorem b_X0_turn {γ : Ev} {o : Nat} {σ : Mm} {r : Int32} {B : Mm} (C : Cx p R s m args meth c RX0 cX0_turn 1 (some .int) 1 30 γ) (hB : isX0 γ o) (h : s_X0_turn B = some r) (hw : Wo γ (st 6 σ o B) s H locs) (hl : lv_has ls 1 [(0, .ref (eA γ o))]) : W p l e R s m args below meth c H locs 0 0 (MQ below (Qo γ (some (.int r)) (st 6 σ o B)) args s 0 0 (AK γ)) (F0 m 0 ls []) := by
  have C0 := C
  obtain ⟨hx, hb, hr, hml, hown, hts, hlk, hK, hd, hF, hL⟩ := C
  unfold s_X0_turn at h
  refine lv_aload_n hx hb dX0_turn_0 rfl (lv_at hl 0 rfl) ?_
  refine r_get (v := .int (B 0 8)) hx hb hts hK hw hown inX0 rfl (X0_k0 hB) (st_at0 (by decide)) 8 (by decide) wd_75 rfl dX0_turn_1 ?_
  have h1 := Option.some.inj h
  subst h1
  exact r_iret hx hb hr hlk hK hd hw dX0_turn_4
theorem c_X0_turn {l : Launch} {γ : Ev} {o : Nat} {σ : Mm} {r : Int32} {B : Mm} (hB : isX0 γ o) (h : s_X0_turn B = some r) : Ct l yX0_turn cX0_turn 1 (some .int) 1 30 γ [.ref (eA γ o)] (st 6 σ o B) (some (.int r)) (st 6 σ o B) := Ct.of (own := RX0) (by decide +kernel) rfl (Nat.le_of_ble_eq_true rfl) (fun C hw ls hl => b_X0_turn C hB h hw hl)
set_option maxHeartbeats 4000000 in
set_option maxRecDepth 10000 in
theorem b_X0_toldByMoves {γ : Ev} {o : Nat} {σ : Mm} {r : Int32} {B : Mm} (C : Cx p R s m args meth c RX0 cX0_toldByMoves 1 (some .int) 1 30 γ) (hB : isX0 γ o) (h : s_X0_toldByMoves B = some r) (hw : Wo γ (st 6 σ o B) s H locs) (hl : lv_has ls 1 [(0, .ref (eA γ o))]) : W p l e R s m args below meth c H locs 0 0 (MQ below (Qo γ (some (.int r)) (st 6 σ o B)) args s 0 0 (AK γ)) (F0 m 0 ls []) := by
  have C0 := C
  obtain ⟨hx, hb, hr, hml, hown, hts, hlk, hK, hd, hF, hL⟩ := C
  unfold s_X0_toldByMoves at h
  refine lv_aload_n hx hb dX0_toldByMoves_0 rfl (lv_at hl 0 rfl) ?_
  refine r_get (v := .int (B 0 9)) hx hb hts hK hw hown inX0 rfl (X0_k0 hB) (st_at0 (by decide)) 9 (by decide) wd_76 rfl dX0_toldByMoves_1 ?_
  have h1 := Option.some.inj h
  subst h1
  exact r_iret hx hb hr hlk hK hd hw dX0_toldByMoves_4
theorem c_X0_toldByMoves {l : Launch} {γ : Ev} {o : Nat} {σ : Mm} {r : Int32} {B : Mm} (hB : isX0 γ o) (h : s_X0_toldByMoves B = some r) : Ct l yX0_toldByMoves cX0_toldByMoves 1 (some .int) 1 30 γ [.ref (eA γ o)] (st 6 σ o B) (some (.int r)) (st 6 σ o B) := Ct.of (own := RX0) (by decide +kernel) rfl (Nat.le_of_ble_eq_true rfl) (fun C hw ls hl => b_X0_toldByMoves C hB h hw hl)
set_option maxHeartbeats 4000000 in
set_option maxRecDepth 10000 in
theorem b_X0_greatestTurn {γ : Ev} {o : Nat} {σ : Mm} {r : Int32} {B : Mm} (C : Cx p R s m args meth c RX0 cX0_greatestTurn 1 (some .int) 1 30 γ) (hB : isX0 γ o) (h : s_X0_greatestTurn B = some r) (hw : Wo γ (st 6 σ o B) s H locs) (hl : lv_has ls 1 [(0, .ref (eA γ o))]) : W p l e R s m args below meth c H locs 0 0 (MQ below (Qo γ (some (.int r)) (st 6 σ o B)) args s 0 0 (AK γ)) (F0 m 0 ls []) := by
  have C0 := C
  obtain ⟨hx, hb, hr, hml, hown, hts, hlk, hK, hd, hF, hL⟩ := C
  unfold s_X0_greatestTurn at h
  refine lv_aload_n hx hb dX0_greatestTurn_0 rfl (lv_at hl 0 rfl) ?_
  refine r_get (v := .int (B 0 10)) hx hb hts hK hw hown inX0 rfl (X0_k0 hB) (st_at0 (by decide)) 10 (by decide) wd_77 rfl dX0_greatestTurn_1 ?_
  have h1 := Option.some.inj h
  subst h1
  exact r_iret hx hb hr hlk hK hd hw dX0_greatestTurn_4
theorem c_X0_greatestTurn {l : Launch} {γ : Ev} {o : Nat} {σ : Mm} {r : Int32} {B : Mm} (hB : isX0 γ o) (h : s_X0_greatestTurn B = some r) : Ct l yX0_greatestTurn cX0_greatestTurn 1 (some .int) 1 30 γ [.ref (eA γ o)] (st 6 σ o B) (some (.int r)) (st 6 σ o B) := Ct.of (own := RX0) (by decide +kernel) rfl (Nat.le_of_ble_eq_true rfl) (fun C hw ls hl => b_X0_greatestTurn C hB h hw hl)
set_option maxHeartbeats 4000000 in
set_option maxRecDepth 10000 in
theorem b_X0_moveCount {γ : Ev} {o : Nat} {σ : Mm} {r : Int32} {B : Mm} (C : Cx p R s m args meth c RX0 cX0_moveCount 1 (some .int) 1 30 γ) (hB : isX0 γ o) (h : s_X0_moveCount B = some r) (hw : Wo γ (st 6 σ o B) s H locs) (hl : lv_has ls 1 [(0, .ref (eA γ o))]) : W p l e R s m args below meth c H locs 0 0 (MQ below (Qo γ (some (.int r)) (st 6 σ o B)) args s 0 0 (AK γ)) (F0 m 0 ls []) := by
  have C0 := C
  obtain ⟨hx, hb, hr, hml, hown, hts, hlk, hK, hd, hF, hL⟩ := C
  unfold s_X0_moveCount at h
  refine lv_aload_n hx hb dX0_moveCount_0 rfl (lv_at hl 0 rfl) ?_
  refine r_get (v := .int (B 0 11)) hx hb hts hK hw hown inX0 rfl (X0_k0 hB) (st_at0 (by decide)) 11 (by decide) wd_78 rfl dX0_moveCount_1 ?_
  have h1 := Option.some.inj h
  subst h1
  exact r_iret hx hb hr hlk hK hd hw dX0_moveCount_4
theorem c_X0_moveCount {l : Launch} {γ : Ev} {o : Nat} {σ : Mm} {r : Int32} {B : Mm} (hB : isX0 γ o) (h : s_X0_moveCount B = some r) : Ct l yX0_moveCount cX0_moveCount 1 (some .int) 1 30 γ [.ref (eA γ o)] (st 6 σ o B) (some (.int r)) (st 6 σ o B) := Ct.of (own := RX0) (by decide +kernel) rfl (Nat.le_of_ble_eq_true rfl) (fun C hw ls hl => b_X0_moveCount C hB h hw hl)
set_option maxHeartbeats 4000000 in
set_option maxRecDepth 10000 in
theorem b_X2_length {γ : Ev} {o : Nat} {σ : Mm} {r : Int32} {M : Mm} (C : Cx p R s m args meth c RX2 cX2_length 1 (some .int) 1 30 γ) (hB : isX2 γ o) (h : s_X2_length M = some r) (hw : Wo γ (st 4 σ o M) s H locs) (hl : lv_has ls 1 [(0, .ref (eA γ o))]) : W p l e R s m args below meth c H locs 0 0 (MQ below (Qo γ (some (.int r)) (st 4 σ o M)) args s 0 0 (AK γ)) (F0 m 0 ls []) := by
  have C0 := C
  obtain ⟨hx, hb, hr, hml, hown, hts, hlk, hK, hd, hF, hL⟩ := C
  unfold s_X2_length at h
  refine lv_aload_n hx hb dX2_length_0 rfl (lv_at hl 0 rfl) ?_
  refine r_get (v := .int (M 0 3)) hx hb hts hK hw hown inX2 rfl (X2_k0 hB) (st_at0 (by decide)) 3 (by decide) wd_130 rfl dX2_length_1 ?_
  have h1 := Option.some.inj h
  subst h1
  exact r_iret hx hb hr hlk hK hd hw dX2_length_4
theorem c_X2_length {l : Launch} {γ : Ev} {o : Nat} {σ : Mm} {r : Int32} {M : Mm} (hB : isX2 γ o) (h : s_X2_length M = some r) : Ct l yX2_length cX2_length 1 (some .int) 1 30 γ [.ref (eA γ o)] (st 4 σ o M) (some (.int r)) (st 4 σ o M) := Ct.of (own := RX2) (by decide +kernel) rfl (Nat.le_of_ble_eq_true rfl) (fun C hw ls hl => b_X2_length C hB h hw hl)
set_option maxHeartbeats 4000000 in
set_option maxRecDepth 10000 in
theorem b_X2_append {γ : Ev} {o : Nat} {σ : Mm} {Bf : Mm} {r : Int32} {M : Mm} {x1 : Int32} (C : Cx p R s m args meth c RX2 cX2_append 2 (some .boolean) 1 30 γ) (hB : isX2 γ o) (h : s_X2_append M x1 = some (r, Bf)) (hw : Wo γ (st 4 σ o M) s H locs) (hl : lv_has ls 2 [(0, .ref (eA γ o)), (1, .int x1)]) : W p l e R s m args below meth c H locs 0 0 (MQ below (Qo γ (some (.int r)) (st 4 σ o Bf)) args s 0 0 (AK γ)) (F0 m 0 ls []) := by
  have C0 := C
  obtain ⟨hx, hb, hr, hml, hown, hts, hlk, hK, hd, hF, hL⟩ := C
  unfold s_X2_append at h
  refine lv_aload_n hx hb dX2_append_0 rfl (lv_at hl 0 rfl) ?_
  refine r_get (v := .int (M 0 3)) hx hb hts hK hw hown inX2 rfl (X2_k0 hB) (st_at0 (by decide)) 3 (by decide) wd_130 rfl dX2_append_1 ?_
  refine lv_if_lt (tgt := 19) hx hb dX2_append_4 (by decide) (fun c1 => ?_) (fun c1 => ?_)
  · replace h := ifp c1 h
    refine lv_iconst (v := (0 : Int32)) hx hb dX2_append_19 (by decide) ?_
    obtain ⟨h1, h2⟩ := s2 h
    subst h1
    subst h2
    exact r_zret hx hb hr hlk hK hd hw rfl dX2_append_20
  · replace h := ifn c1 h
    refine lv_aload_n hx hb dX2_append_7 rfl (lv_at hl 0 rfl) ?_
    refine r_get (v := .int (M 0 3)) hx hb hts hK hw hown inX2 rfl (X2_k0 hB) (st_at0 (by decide)) 3 (by decide) wd_130 rfl dX2_append_8 ?_
    refine lv_aload_n hx hb dX2_append_11 rfl (lv_at hl 0 rfl) ?_
    refine r_get (v := .ref (eA γ (o + 1))) hx hb hts hK hw hown inX2 rfl (X2_k0 hB) (st_at0 (by decide)) 0 (by decide) wd_127 rfl dX2_append_12 ?_
    refine r_alenC hx hb hK hw (X2_k1 hB) (60 : Int32) (by decide) dX2_append_15 ?_
    refine lv_icmp_lt (tgt := 21) hx hb dX2_append_16 (by decide) (fun c2 => ?_) (fun c2 => ?_)
    · replace h := ifp c2 h
      refine lv_aload_n hx hb dX2_append_21 rfl (lv_at hl 0 rfl) ?_
      refine r_get (v := .ref (eA γ (o + 1))) hx hb hts hK hw hown inX2 rfl (X2_k0 hB) (st_at0 (by decide)) 0 (by decide) wd_127 rfl dX2_append_22 ?_
      refine lv_aload_n hx hb dX2_append_25 rfl (lv_at hl 0 rfl) ?_
      refine r_get (v := .int (M 0 3)) hx hb hts hK hw hown inX2 rfl (X2_k0 hB) (st_at0 (by decide)) 3 (by decide) wd_130 rfl dX2_append_26 ?_
      refine lv_iload_n hx hb dX2_append_29 rfl (lv_at hl 1 rfl) ?_
      obtain ⟨N3, hN3, h⟩ := ob h
      refine r_cast hx hb hK hd hw (by decide) (X2_k1 hB) hN3 dX2_append_30 (fun {H} {locs} hw => ?_)
      refine lv_aload_n hx hb dX2_append_31 rfl (lv_at hl 0 rfl) ?_
      refine lv_dup hx hb dX2_append_32 rfl ?_
      refine r_get (v := .int (N3 0 3)) hx hb hts hK hw hown inX2 rfl (X2_k0 hB) (st_at0 (by decide)) 3 (by decide) wd_130 rfl dX2_append_33 ?_
      refine lv_iconst (v := (1 : Int32)) hx hb dX2_append_36 (by decide) ?_
      refine lv_iadd hx hb dX2_append_37 ?_
      obtain ⟨N4, hN4, h⟩ := ob h
      refine r_put (x := ((N3 0 3) + (1 : Int32))) (ty := .int) hx hb hts hK hd hw hown inX2 tyX2 tyX2_ok nmX2 rfl (by decide) (X2_k0 hB) 3 (by decide) wd_130 rfl rfl rfl rfl (fun _ => (Nat.le_of_ble_eq_true rfl)) (fun _ => rfl) hN4 dX2_append_38 (fun {H} {locs} hw => ?_)
      refine lv_iconst (v := (1 : Int32)) hx hb dX2_append_41 (by decide) ?_
      obtain ⟨h1, h2⟩ := s2 h
      subst h1
      subst h2
      exact r_zret hx hb hr hlk hK hd hw rfl dX2_append_42
    · replace h := ifn c2 h
      refine lv_iconst (v := (0 : Int32)) hx hb dX2_append_19 (by decide) ?_
      obtain ⟨h1, h2⟩ := s2 h
      subst h1
      subst h2
      exact r_zret hx hb hr hlk hK hd hw rfl dX2_append_20
theorem c_X2_append {l : Launch} {γ : Ev} {o : Nat} {σ : Mm} {Bf : Mm} {r : Int32} {M : Mm} {x1 : Int32} (hB : isX2 γ o) (h : s_X2_append M x1 = some (r, Bf)) : Ct l yX2_append cX2_append 2 (some .boolean) 1 30 γ [.ref (eA γ o), .int x1] (st 4 σ o M) (some (.int r)) (st 4 σ o Bf) := Ct.of (own := RX2) (by decide +kernel) rfl (Nat.le_of_ble_eq_true rfl) (fun C hw ls hl => b_X2_append C hB h hw hl)
set_option maxHeartbeats 4000000 in
set_option maxRecDepth 10000 in
theorem b_X2_empty {γ : Ev} {o : Nat} {σ : Mm} {Bf : Mm} {M : Mm} (C : Cx p R s m args meth c RX2 cX2_empty 1 none 1 30 γ) (hB : isX2 γ o) (h : s_X2_empty M = some Bf) (hw : Wo γ (st 4 σ o M) s H locs) (hl : lv_has ls 1 [(0, .ref (eA γ o))]) : W p l e R s m args below meth c H locs 0 0 (MQ below (Qo γ none (st 4 σ o Bf)) args s 0 0 (AK γ)) (F0 m 0 ls []) := by
  have C0 := C
  obtain ⟨hx, hb, hr, hml, hown, hts, hlk, hK, hd, hF, hL⟩ := C
  unfold s_X2_empty at h
  refine lv_aload_n hx hb dX2_empty_0 rfl (lv_at hl 0 rfl) ?_
  refine lv_iconst (v := (0 : Int32)) hx hb dX2_empty_1 (by decide) ?_
  obtain ⟨N1, hN1, h⟩ := ob h
  refine r_put (x := (0 : Int32)) (ty := .int) hx hb hts hK hd hw hown inX2 tyX2 tyX2_ok nmX2 rfl (by decide) (X2_k0 hB) 3 (by decide) wd_130 rfl rfl rfl rfl (fun _ => (Nat.le_of_ble_eq_true rfl)) (fun _ => rfl) hN1 dX2_empty_2 (fun {H} {locs} hw => ?_)
  have h1 := Option.some.inj h
  subst h1
  exact r_vret hx hb hr hlk hK hd hw dX2_empty_5
theorem c_X2_empty {l : Launch} {γ : Ev} {o : Nat} {σ : Mm} {Bf : Mm} {M : Mm} (hB : isX2 γ o) (h : s_X2_empty M = some Bf) : Ct l yX2_empty cX2_empty 1 none 1 30 γ [.ref (eA γ o)] (st 4 σ o M) none (st 4 σ o Bf) := Ct.of (own := RX2) (by decide +kernel) rfl (Nat.le_of_ble_eq_true rfl) (fun C hw ls hl => b_X2_empty C hB h hw hl)
set_option maxHeartbeats 4000000 in
set_option maxRecDepth 10000 in
theorem b_X2_moves {γ : Ev} {o : Nat} {σ : Mm} {r : Int32} {M : Mm} (C : Cx p R s m args meth c RX2 cX2_moves 1 (some .int) 1 30 γ) (hB : isX2 γ o) (h : s_X2_moves M = some r) (hw : Wo γ (st 4 σ o M) s H locs) (hl : lv_has ls 1 [(0, .ref (eA γ o))]) : W p l e R s m args below meth c H locs 0 0 (MQ below (Qo γ (some (.int r)) (st 4 σ o M)) args s 0 0 (AK γ)) (F0 m 0 ls []) := by
  have C0 := C
  obtain ⟨hx, hb, hr, hml, hown, hts, hlk, hK, hd, hF, hL⟩ := C
  unfold s_X2_moves at h
  refine lv_aload_n hx hb dX2_moves_0 rfl (lv_at hl 0 rfl) ?_
  refine r_get (v := .int (M 0 4)) hx hb hts hK hw hown inX2 rfl (X2_k0 hB) (st_at0 (by decide)) 4 (by decide) wd_131 rfl dX2_moves_1 ?_
  have h1 := Option.some.inj h
  subst h1
  exact r_iret hx hb hr hlk hK hd hw dX2_moves_4
theorem c_X2_moves {l : Launch} {γ : Ev} {o : Nat} {σ : Mm} {r : Int32} {M : Mm} (hB : isX2 γ o) (h : s_X2_moves M = some r) : Ct l yX2_moves cX2_moves 1 (some .int) 1 30 γ [.ref (eA γ o)] (st 4 σ o M) (some (.int r)) (st 4 σ o M) := Ct.of (own := RX2) (by decide +kernel) rfl (Nat.le_of_ble_eq_true rfl) (fun C hw ls hl => b_X2_moves C hB h hw hl)
set_option maxHeartbeats 4000000 in
set_option maxRecDepth 10000 in
theorem b_X2_numberOf {γ : Ev} {o : Nat} {σ : Mm} {r : Int32} {M : Mm} {x1 : Int32} (C : Cx p R s m args meth c RX2 cX2_numberOf 2 (some .int) 1 30 γ) (hB : isX2 γ o) (h : s_X2_numberOf M x1 = some r) (hw : Wo γ (st 4 σ o M) s H locs) (hl : lv_has ls 2 [(0, .ref (eA γ o)), (1, .int x1)]) : W p l e R s m args below meth c H locs 0 0 (MQ below (Qo γ (some (.int r)) (st 4 σ o M)) args s 0 0 (AK γ)) (F0 m 0 ls []) := by
  have C0 := C
  obtain ⟨hx, hb, hr, hml, hown, hts, hlk, hK, hd, hF, hL⟩ := C
  unfold s_X2_numberOf at h
  refine lv_iload_n hx hb dX2_numberOf_0 rfl (lv_at hl 1 rfl) ?_
  refine lv_if_lt (tgt := 22) hx hb dX2_numberOf_1 (by decide) (fun c1 => ?_) (fun c1 => ?_)
  · replace h := ifp c1 h
    refine lv_iconst (v := (0 : Int32)) hx hb dX2_numberOf_22 (by decide) ?_
    have h1 := Option.some.inj h
    subst h1
    exact r_iret hx hb hr hlk hK hd hw dX2_numberOf_23
  · replace h := ifn c1 h
    refine lv_iload_n hx hb dX2_numberOf_4 rfl (lv_at hl 1 rfl) ?_
    refine lv_aload_n hx hb dX2_numberOf_5 rfl (lv_at hl 0 rfl) ?_
    refine r_get (v := .ref (eA γ (o + 2))) hx hb hts hK hw hown inX2 rfl (X2_k0 hB) (st_at0 (by decide)) 1 (by decide) wd_128 rfl dX2_numberOf_6 ?_
    refine r_alen hx hb hK hw (X2_k2 hB) (20 : Int32) (by decide) dX2_numberOf_9 ?_
    refine lv_icmp_ge (tgt := 22) hx hb dX2_numberOf_10 (by decide) (fun c2 => ?_) (fun c2 => ?_)
    · replace h := ifp c2 h
      refine lv_iconst (v := (0 : Int32)) hx hb dX2_numberOf_22 (by decide) ?_
      have h1 := Option.some.inj h
      subst h1
      exact r_iret hx hb hr hlk hK hd hw dX2_numberOf_23
    · replace h := ifn c2 h
      refine lv_aload_n hx hb dX2_numberOf_13 rfl (lv_at hl 0 rfl) ?_
      refine r_get (v := .ref (eA γ (o + 2))) hx hb hts hK hw hown inX2 rfl (X2_k0 hB) (st_at0 (by decide)) 1 (by decide) wd_128 rfl dX2_numberOf_14 ?_
      refine lv_iload_n hx hb dX2_numberOf_17 rfl (lv_at hl 1 rfl) ?_
      obtain ⟨v3, hv3, h⟩ := ob h
      refine r_iald hx hb hK hw (X2_k2 hB) (st_at (by decide)) hv3 dX2_numberOf_18 ?_
      refine lv_goto (tgt := 23) hx hb dX2_numberOf_19 (by decide) ?_
      have h1 := Option.some.inj h
      subst h1
      exact r_iret hx hb hr hlk hK hd hw dX2_numberOf_23
theorem c_X2_numberOf {l : Launch} {γ : Ev} {o : Nat} {σ : Mm} {r : Int32} {M : Mm} {x1 : Int32} (hB : isX2 γ o) (h : s_X2_numberOf M x1 = some r) : Ct l yX2_numberOf cX2_numberOf 2 (some .int) 1 30 γ [.ref (eA γ o), .int x1] (st 4 σ o M) (some (.int r)) (st 4 σ o M) := Ct.of (own := RX2) (by decide +kernel) rfl (Nat.le_of_ble_eq_true rfl) (fun C hw ls hl => b_X2_numberOf C hB h hw hl)
set_option maxHeartbeats 4000000 in
set_option maxRecDepth 10000 in
theorem b_X2_placeOf {γ : Ev} {o : Nat} {σ : Mm} {r : Int32} {M : Mm} {x1 : Int32} (C : Cx p R s m args meth c RX2 cX2_placeOf 2 (some .int) 1 30 γ) (hB : isX2 γ o) (h : s_X2_placeOf M x1 = some r) (hw : Wo γ (st 4 σ o M) s H locs) (hl : lv_has ls 2 [(0, .ref (eA γ o)), (1, .int x1)]) : W p l e R s m args below meth c H locs 0 0 (MQ below (Qo γ (some (.int r)) (st 4 σ o M)) args s 0 0 (AK γ)) (F0 m 0 ls []) := by
  have C0 := C
  obtain ⟨hx, hb, hr, hml, hown, hts, hlk, hK, hd, hF, hL⟩ := C
  unfold s_X2_placeOf at h
  refine lv_iload_n hx hb dX2_placeOf_0 rfl (lv_at hl 1 rfl) ?_
  refine lv_if_lt (tgt := 22) hx hb dX2_placeOf_1 (by decide) (fun c1 => ?_) (fun c1 => ?_)
  · replace h := ifp c1 h
    refine lv_iconst (v := (0 : Int32)) hx hb dX2_placeOf_22 (by decide) ?_
    have h1 := Option.some.inj h
    subst h1
    exact r_iret hx hb hr hlk hK hd hw dX2_placeOf_23
  · replace h := ifn c1 h
    refine lv_iload_n hx hb dX2_placeOf_4 rfl (lv_at hl 1 rfl) ?_
    refine lv_aload_n hx hb dX2_placeOf_5 rfl (lv_at hl 0 rfl) ?_
    refine r_get (v := .ref (eA γ (o + 3))) hx hb hts hK hw hown inX2 rfl (X2_k0 hB) (st_at0 (by decide)) 2 (by decide) wd_129 rfl dX2_placeOf_6 ?_
    refine r_alen hx hb hK hw (X2_k3 hB) (20 : Int32) (by decide) dX2_placeOf_9 ?_
    refine lv_icmp_ge (tgt := 22) hx hb dX2_placeOf_10 (by decide) (fun c2 => ?_) (fun c2 => ?_)
    · replace h := ifp c2 h
      refine lv_iconst (v := (0 : Int32)) hx hb dX2_placeOf_22 (by decide) ?_
      have h1 := Option.some.inj h
      subst h1
      exact r_iret hx hb hr hlk hK hd hw dX2_placeOf_23
    · replace h := ifn c2 h
      refine lv_aload_n hx hb dX2_placeOf_13 rfl (lv_at hl 0 rfl) ?_
      refine r_get (v := .ref (eA γ (o + 3))) hx hb hts hK hw hown inX2 rfl (X2_k0 hB) (st_at0 (by decide)) 2 (by decide) wd_129 rfl dX2_placeOf_14 ?_
      refine lv_iload_n hx hb dX2_placeOf_17 rfl (lv_at hl 1 rfl) ?_
      obtain ⟨v3, hv3, h⟩ := ob h
      refine r_iald hx hb hK hw (X2_k3 hB) (st_at (by decide)) hv3 dX2_placeOf_18 ?_
      refine lv_goto (tgt := 23) hx hb dX2_placeOf_19 (by decide) ?_
      have h1 := Option.some.inj h
      subst h1
      exact r_iret hx hb hr hlk hK hd hw dX2_placeOf_23
theorem c_X2_placeOf {l : Launch} {γ : Ev} {o : Nat} {σ : Mm} {r : Int32} {M : Mm} {x1 : Int32} (hB : isX2 γ o) (h : s_X2_placeOf M x1 = some r) : Ct l yX2_placeOf cX2_placeOf 2 (some .int) 1 30 γ [.ref (eA γ o), .int x1] (st 4 σ o M) (some (.int r)) (st 4 σ o M) := Ct.of (own := RX2) (by decide +kernel) rfl (Nat.le_of_ble_eq_true rfl) (fun C hw ls hl => b_X2_placeOf C hB h hw hl)
set_option maxHeartbeats 4000000 in
set_option maxRecDepth 10000 in
theorem b_X2_stateBehind {γ : Ev} {μ : Mm} {r : Int32} {x0 x1 : Int32} (C : Cx p R s m args meth c RX2 cX2_stateBehind 4 (some .int) 1 30 γ) (h : s_X2_stateBehind x0 x1 = some r) (hw : Wo γ μ s H locs) (hl : lv_has ls 4 [(0, .int x0), (1, .int x1)]) : W p l e R s m args below meth c H locs 0 0 (MQ below (Qo γ (some (.int r)) μ) args s 0 0 (AK γ)) (F0 m 0 ls []) := by
  have C0 := C
  obtain ⟨hx, hb, hr, hml, hown, hts, hlk, hK, hd, hF, hL⟩ := C
  unfold s_X2_stateBehind at h
  refine lv_iload_n hx hb dX2_stateBehind_0 rfl (lv_at hl 1 rfl) ?_
  refine lv_bipush (v := (49 : Int32)) hx hb dX2_stateBehind_1 (by decide) ?_
  refine jn_elim h (fun (k : Int32 → Option Int32) => ∀ (v2 : Int32) {H : Heap} {locs : List Loc} {ls : Array Slot}, k v2 = some r → Wo γ μ s H locs → lv_has ls 4 [(0, .int x0), (1, .int x1)] → W p l e R s m args below meth c H locs 0 0 (MQ below (Qo γ (some (.int r)) μ) args s 0 0 (AK γ)) (F0 m 17 ls [.int v2])) ?_ ?_
  · intro v2 H locs ls h hw hl
    refine lv_istore_n (lv' := [(2, .int v2), (0, .int x0), (1, .int x1)]) hx hb dX2_stateBehind_17 rfl hl (by decide) rfl (fun ls hl => ?_)
    refine lv_iload_n hx hb dX2_stateBehind_18 rfl (lv_at hl 2 rfl) ?_
    refine lv_bipush (v := (105 : Int32)) hx hb dX2_stateBehind_19 (by decide) ?_
    refine jn_elim h (fun (k : Int32 → Option Int32) => ∀ (v4 : Int32) {H : Heap} {locs : List Loc} {ls : Array Slot}, k v4 = some r → Wo γ μ s H locs → lv_has ls 4 [(0, .int x0), (1, .int x1), (2, .int v2)] → W p l e R s m args below meth c H locs 0 0 (MQ below (Qo γ (some (.int r)) μ) args s 0 0 (AK γ)) (F0 m 35 ls [.int v4])) ?_ ?_
    · intro v4 H locs ls h hw hl
      refine lv_istore_n (lv' := [(3, .int v4), (0, .int x0), (1, .int x1), (2, .int v2)]) hx hb dX2_stateBehind_35 rfl hl (by decide) rfl (fun ls hl => ?_)
      refine lv_iload_n hx hb dX2_stateBehind_36 rfl (lv_at hl 1 rfl) ?_
      by_cases c5 : x0 = (0 : Int32)
      · replace h := ifp c5 h
        refine r_tabIn (tgt := 80) (off := 43) hx hb dX2_stateBehind_37 c5 (by decide) (by decide) (by decide) (by decide) ?_
        refine lv_iload_n hx hb dX2_stateBehind_80 rfl (lv_at hl 2 rfl) ?_
        refine lv_bipush (v := (45 : Int32)) hx hb dX2_stateBehind_81 (by decide) ?_
        refine lv_icmp_ne (tgt := 88) hx hb dX2_stateBehind_83 (by decide) (fun c6 => ?_) (fun c6 => ?_)
        · replace h := ifn c6 h
          refine lv_iload_n hx hb dX2_stateBehind_88 rfl (lv_at hl 3 rfl) ?_
          refine lv_if_eq (tgt := 106) hx hb dX2_stateBehind_89 (by decide) (fun c7 => ?_) (fun c7 => ?_)
          · replace h := ifp c7 h
            refine lv_bipush (v := (7 : Int32)) hx hb dX2_stateBehind_106 (by decide) ?_
            have h1 := Option.some.inj h
            subst h1
            exact r_iret hx hb hr hlk hK hd hw dX2_stateBehind_108
          · replace h := ifn c7 h
            refine lv_iload_n hx hb dX2_stateBehind_92 rfl (lv_at hl 2 rfl) ?_
            refine lv_bipush (v := (54 : Int32)) hx hb dX2_stateBehind_93 (by decide) ?_
            refine lv_icmp_ne (tgt := 102) hx hb dX2_stateBehind_95 (by decide) (fun c8 => ?_) (fun c8 => ?_)
            · replace h := ifn c8 h
              refine lv_iconst (v := (1 : Int32)) hx hb dX2_stateBehind_102 (by decide) ?_
              refine lv_goto (tgt := 108) hx hb dX2_stateBehind_103 (by decide) ?_
              have h1 := Option.some.inj h
              subst h1
              exact r_iret hx hb hr hlk hK hd hw dX2_stateBehind_108
            · replace h := ifp c8 h
              refine lv_iconst (v := (2 : Int32)) hx hb dX2_stateBehind_98 (by decide) ?_
              refine lv_goto (tgt := 108) hx hb dX2_stateBehind_99 (by decide) ?_
              have h1 := Option.some.inj h
              subst h1
              exact r_iret hx hb hr hlk hK hd hw dX2_stateBehind_108
        · replace h := ifp c6 h
          refine lv_iconst (v := (3 : Int32)) hx hb dX2_stateBehind_86 (by decide) ?_
          have h1 := Option.some.inj h
          subst h1
          exact r_iret hx hb hr hlk hK hd hw dX2_stateBehind_87
      replace h := ifn c5 h
      by_cases c9 : x0 = (1 : Int32)
      · replace h := ifp c9 h
        refine r_tabIn (tgt := 109) (off := 72) hx hb dX2_stateBehind_37 c9 (by decide) (by decide) (by decide) (by decide) ?_
        refine lv_iload_n hx hb dX2_stateBehind_109 rfl (lv_at hl 2 rfl) ?_
        refine lv_bipush (v := (64 : Int32)) hx hb dX2_stateBehind_110 (by decide) ?_
        refine lv_icmp_ne (tgt := 119) hx hb dX2_stateBehind_112 (by decide) (fun c10 => ?_) (fun c10 => ?_)
        · replace h := ifn c10 h
          refine lv_iload_n hx hb dX2_stateBehind_119 rfl (lv_at hl 0 rfl) ?_
          refine lv_if_eq (tgt := 128) hx hb dX2_stateBehind_120 (by decide) (fun c11 => ?_) (fun c11 => ?_)
          · replace h := ifp c11 h
            refine lv_bipush (v := (7 : Int32)) hx hb dX2_stateBehind_128 (by decide) ?_
            have h1 := Option.some.inj h
            subst h1
            exact r_iret hx hb hr hlk hK hd hw dX2_stateBehind_130
          · replace h := ifn c11 h
            refine lv_bipush (v := (6 : Int32)) hx hb dX2_stateBehind_123 (by decide) ?_
            refine lv_goto (tgt := 130) hx hb dX2_stateBehind_125 (by decide) ?_
            have h1 := Option.some.inj h
            subst h1
            exact r_iret hx hb hr hlk hK hd hw dX2_stateBehind_130
        · replace h := ifp c10 h
          refine lv_iconst (v := (4 : Int32)) hx hb dX2_stateBehind_115 (by decide) ?_
          refine lv_goto (tgt := 130) hx hb dX2_stateBehind_116 (by decide) ?_
          have h1 := Option.some.inj h
          subst h1
          exact r_iret hx hb hr hlk hK hd hw dX2_stateBehind_130
      replace h := ifn c9 h
      by_cases c12 : x0 = (2 : Int32)
      · replace h := ifp c12 h
        refine r_tabIn (tgt := 131) (off := 94) hx hb dX2_stateBehind_37 c12 (by decide) (by decide) (by decide) (by decide) ?_
        refine lv_iload_n hx hb dX2_stateBehind_131 rfl (lv_at hl 0 rfl) ?_
        refine lv_if_eq (tgt := 140) hx hb dX2_stateBehind_132 (by decide) (fun c13 => ?_) (fun c13 => ?_)
        · replace h := ifp c13 h
          refine lv_bipush (v := (7 : Int32)) hx hb dX2_stateBehind_140 (by decide) ?_
          have h1 := Option.some.inj h
          subst h1
          exact r_iret hx hb hr hlk hK hd hw dX2_stateBehind_142
        · replace h := ifn c13 h
          refine lv_bipush (v := (6 : Int32)) hx hb dX2_stateBehind_135 (by decide) ?_
          refine lv_goto (tgt := 142) hx hb dX2_stateBehind_137 (by decide) ?_
          have h1 := Option.some.inj h
          subst h1
          exact r_iret hx hb hr hlk hK hd hw dX2_stateBehind_142
      replace h := ifn c12 h
      by_cases c14 : x0 = (3 : Int32)
      · replace h := ifp c14 h
        refine r_tabIn (tgt := 143) (off := 106) hx hb dX2_stateBehind_37 c14 (by decide) (by decide) (by decide) (by decide) ?_
        refine lv_iload_n hx hb dX2_stateBehind_143 rfl (lv_at hl 3 rfl) ?_
        refine lv_if_eq (tgt := 151) hx hb dX2_stateBehind_144 (by decide) (fun c15 => ?_) (fun c15 => ?_)
        · replace h := ifp c15 h
          refine lv_bipush (v := (7 : Int32)) hx hb dX2_stateBehind_151 (by decide) ?_
          have h1 := Option.some.inj h
          subst h1
          exact r_iret hx hb hr hlk hK hd hw dX2_stateBehind_153
        · replace h := ifn c15 h
          refine lv_iconst (v := (2 : Int32)) hx hb dX2_stateBehind_147 (by decide) ?_
          refine lv_goto (tgt := 153) hx hb dX2_stateBehind_148 (by decide) ?_
          have h1 := Option.some.inj h
          subst h1
          exact r_iret hx hb hr hlk hK hd hw dX2_stateBehind_153
      replace h := ifn c14 h
      by_cases c16 : x0 = (4 : Int32)
      · replace h := ifp c16 h
        refine r_tabIn (tgt := 154) (off := 117) hx hb dX2_stateBehind_37 c16 (by decide) (by decide) (by decide) (by decide) ?_
        refine lv_iload_n hx hb dX2_stateBehind_154 rfl (lv_at hl 2 rfl) ?_
        refine lv_bipush (v := (45 : Int32)) hx hb dX2_stateBehind_155 (by decide) ?_
        refine lv_icmp_ne (tgt := 164) hx hb dX2_stateBehind_157 (by decide) (fun c17 => ?_) (fun c17 => ?_)
        · replace h := ifn c17 h
          refine lv_iload_n hx hb dX2_stateBehind_164 rfl (lv_at hl 3 rfl) ?_
          refine lv_if_eq (tgt := 173) hx hb dX2_stateBehind_165 (by decide) (fun c18 => ?_) (fun c18 => ?_)
          · replace h := ifp c18 h
            refine lv_bipush (v := (7 : Int32)) hx hb dX2_stateBehind_173 (by decide) ?_
            have h1 := Option.some.inj h
            subst h1
            exact r_iret hx hb hr hlk hK hd hw dX2_stateBehind_175
          · replace h := ifn c18 h
            refine lv_bipush (v := (6 : Int32)) hx hb dX2_stateBehind_168 (by decide) ?_
            refine lv_goto (tgt := 175) hx hb dX2_stateBehind_170 (by decide) ?_
            have h1 := Option.some.inj h
            subst h1
            exact r_iret hx hb hr hlk hK hd hw dX2_stateBehind_175
        · replace h := ifp c17 h
          refine lv_iconst (v := (5 : Int32)) hx hb dX2_stateBehind_160 (by decide) ?_
          refine lv_goto (tgt := 175) hx hb dX2_stateBehind_161 (by decide) ?_
          have h1 := Option.some.inj h
          subst h1
          exact r_iret hx hb hr hlk hK hd hw dX2_stateBehind_175
      replace h := ifn c16 h
      by_cases c19 : x0 = (5 : Int32)
      · replace h := ifp c19 h
        refine r_tabIn (tgt := 176) (off := 139) hx hb dX2_stateBehind_37 c19 (by decide) (by decide) (by decide) (by decide) ?_
        refine lv_iload_n hx hb dX2_stateBehind_176 rfl (lv_at hl 3 rfl) ?_
        refine lv_if_eq (tgt := 185) hx hb dX2_stateBehind_177 (by decide) (fun c20 => ?_) (fun c20 => ?_)
        · replace h := ifp c20 h
          refine lv_bipush (v := (7 : Int32)) hx hb dX2_stateBehind_185 (by decide) ?_
          have h1 := Option.some.inj h
          subst h1
          exact r_iret hx hb hr hlk hK hd hw dX2_stateBehind_187
        · replace h := ifn c20 h
          refine lv_bipush (v := (6 : Int32)) hx hb dX2_stateBehind_180 (by decide) ?_
          refine lv_goto (tgt := 187) hx hb dX2_stateBehind_182 (by decide) ?_
          have h1 := Option.some.inj h
          subst h1
          exact r_iret hx hb hr hlk hK hd hw dX2_stateBehind_187
      replace h := ifn c19 h
      by_cases c21 : x0 = (6 : Int32)
      · replace h := ifp c21 h
        refine r_tabIn (tgt := 188) (off := 151) hx hb dX2_stateBehind_37 c21 (by decide) (by decide) (by decide) (by decide) ?_
        refine lv_iload_n hx hb dX2_stateBehind_188 rfl (lv_at hl 2 rfl) ?_
        refine lv_bipush (v := (59 : Int32)) hx hb dX2_stateBehind_189 (by decide) ?_
        refine lv_icmp_ne (tgt := 198) hx hb dX2_stateBehind_191 (by decide) (fun c22 => ?_) (fun c22 => ?_)
        · replace h := ifn c22 h
          refine lv_bipush (v := (7 : Int32)) hx hb dX2_stateBehind_198 (by decide) ?_
          have h1 := Option.some.inj h
          subst h1
          exact r_iret hx hb hr hlk hK hd hw dX2_stateBehind_200
        · replace h := ifp c22 h
          refine lv_iconst (v := (0 : Int32)) hx hb dX2_stateBehind_194 (by decide) ?_
          refine lv_goto (tgt := 200) hx hb dX2_stateBehind_195 (by decide) ?_
          have h1 := Option.some.inj h
          subst h1
          exact r_iret hx hb hr hlk hK hd hw dX2_stateBehind_200
      replace h := ifn c21 h
      refine lv_tableOut (tgt := 201) hx hb dX2_stateBehind_37 (by have q0 := i32_ne (z := 0) rfl c5; have q1 := i32_ne (z := 1) rfl c9; have q2 := i32_ne (z := 2) rfl c12; have q3 := i32_ne (z := 3) rfl c14; have q4 := i32_ne (z := 4) rfl c16; have q5 := i32_ne (z := 5) rfl c19; have q6 := i32_ne (z := 6) rfl c21; omega) (by decide) ?_
      refine lv_bipush (v := (7 : Int32)) hx hb dX2_stateBehind_201 (by decide) ?_
      have h1 := Option.some.inj h
      subst h1
      exact r_iret hx hb hr hlk hK hd hw dX2_stateBehind_203
    intro k3 J_k3 h
    refine jn_elim h (fun (k : Unit → Option Int32) => ∀ (u : Unit) {H : Heap} {locs : List Loc} {ls : Array Slot}, k u = some r → Wo γ μ s H locs → lv_has ls 4 [(0, .int x0), (1, .int x1), (2, .int v2)] → W p l e R s m args below meth c H locs 0 0 (MQ below (Qo γ (some (.int r)) μ) args s 0 0 (AK γ)) (F0 m 30 ls [])) ?_ ?_
    · intro u H locs ls h hw hl
      refine lv_iconst (v := (1 : Int32)) hx hb dX2_stateBehind_30 (by decide) ?_
      refine lv_goto (tgt := 35) hx hb dX2_stateBehind_31 (by decide) ?_
      exact J_k3 (1 : Int32) h hw (lv_sub hl [0, 1, 2] rfl)
    intro k23 J_k23 h
    refine lv_icmp_eq (tgt := 30) hx hb dX2_stateBehind_21 (by decide) (fun c24 => ?_) (fun c24 => ?_)
    · replace h := ifp c24 h
      exact J_k23 () h hw (lv_sub hl [1, 2, 0] rfl)
    · replace h := ifn c24 h
      refine lv_iload_n hx hb dX2_stateBehind_24 rfl (lv_at hl 2 rfl) ?_
      refine lv_bipush (v := (111 : Int32)) hx hb dX2_stateBehind_25 (by decide) ?_
      refine lv_icmp_ne (tgt := 34) hx hb dX2_stateBehind_27 (by decide) (fun c25 => ?_) (fun c25 => ?_)
      · replace h := ifn c25 h
        refine lv_iconst (v := (0 : Int32)) hx hb dX2_stateBehind_34 (by decide) ?_
        exact J_k3 (0 : Int32) h hw (lv_sub hl [1, 2, 0] rfl)
      · replace h := ifp c25 h
        exact J_k23 () h hw (lv_sub hl [1, 2, 0] rfl)
  intro k1 J_k1 h
  refine jn_elim h (fun (k : Unit → Option Int32) => ∀ (u : Unit) {H : Heap} {locs : List Loc} {ls : Array Slot}, k u = some r → Wo γ μ s H locs → lv_has ls 4 [(0, .int x0), (1, .int x1)] → W p l e R s m args below meth c H locs 0 0 (MQ below (Qo γ (some (.int r)) μ) args s 0 0 (AK γ)) (F0 m 16 ls [])) ?_ ?_
  · intro u H locs ls h hw hl
    refine lv_iconst (v := (0 : Int32)) hx hb dX2_stateBehind_16 (by decide) ?_
    exact J_k1 (0 : Int32) h hw (lv_sub hl [0, 1] rfl)
  intro k26 J_k26 h
  refine lv_icmp_lt (tgt := 16) hx hb dX2_stateBehind_3 (by decide) (fun c27 => ?_) (fun c27 => ?_)
  · replace h := ifp c27 h
    exact J_k26 () h hw (lv_sub hl [0, 1] rfl)
  · replace h := ifn c27 h
    refine lv_iload_n hx hb dX2_stateBehind_6 rfl (lv_at hl 1 rfl) ?_
    refine lv_bipush (v := (54 : Int32)) hx hb dX2_stateBehind_7 (by decide) ?_
    refine lv_icmp_gt (tgt := 16) hx hb dX2_stateBehind_9 (by decide) (fun c28 => ?_) (fun c28 => ?_)
    · replace h := ifp c28 h
      exact J_k26 () h hw (lv_sub hl [0, 1] rfl)
    · replace h := ifn c28 h
      refine lv_iconst (v := (1 : Int32)) hx hb dX2_stateBehind_12 (by decide) ?_
      refine lv_goto (tgt := 17) hx hb dX2_stateBehind_13 (by decide) ?_
      exact J_k1 (1 : Int32) h hw (lv_sub hl [0, 1] rfl)
theorem c_X2_stateBehind {l : Launch} {γ : Ev} {μ : Mm} {r : Int32} {x0 x1 : Int32} (h : s_X2_stateBehind x0 x1 = some r) : Ct l yX2_stateBehind cX2_stateBehind 4 (some .int) 1 30 γ [.int x0, .int x1] μ (some (.int r)) μ := Ct.of (own := RX2) (by decide +kernel) rfl (Nat.le_of_ble_eq_true rfl) (fun C hw ls hl => b_X2_stateBehind C h hw hl)
set_option maxHeartbeats 4000000 in
set_option maxRecDepth 10000 in
theorem b_X2_take {γ : Ev} {o : Nat} {σ : Mm} {Bf : Mm} {M : Mm} {x1 : Int32} (C : Cx p R s m args meth c RX2 cX2_take 2 none 1 30 γ) (hB : isX2 γ o) (h : s_X2_take M x1 = some Bf) (hw : Wo γ (st 4 σ o M) s H locs) (hl : lv_has ls 2 [(0, .ref (eA γ o)), (1, .int x1)]) : W p l e R s m args below meth c H locs 0 0 (MQ below (Qo γ none (st 4 σ o Bf)) args s 0 0 (AK γ)) (F0 m 0 ls []) := by
  have C0 := C
  obtain ⟨hx, hb, hr, hml, hown, hts, hlk, hK, hd, hF, hL⟩ := C
  unfold s_X2_take at h
  refine lv_iload_n hx hb dX2_take_0 rfl (lv_at hl 1 rfl) ?_
  by_cases c1 : x1 = (45 : Int32)
  · replace h := ifp c1 h
    refine r_lkIn (tgt := 60) (off := 59) hx hb dX2_take_1 c1 (by decide) (by decide) (by decide) ?_
    refine lv_aload_n hx hb dX2_take_60 rfl (lv_at hl 0 rfl) ?_
    refine lv_iconst (v := (1 : Int32)) hx hb dX2_take_61 (by decide) ?_
    obtain ⟨N2, hN2, h⟩ := ob h
    refine r_put (x := (1 : Int32)) (ty := .boolean) hx hb hts hK hd hw hown inX2 tyX2 tyX2_ok nmX2 rfl (by decide) (X2_k0 hB) 7 (by decide) wd_134 rfl rfl rfl rfl (fun _ => (Nat.le_of_ble_eq_true rfl)) (fun _ => rfl) hN2 dX2_take_62 (fun {H} {locs} hw => ?_)
    refine lv_goto (tgt := 105) hx hb dX2_take_65 (by decide) ?_
    have h1 := Option.some.inj h
    subst h1
    exact r_vret hx hb hr hlk hK hd hw dX2_take_105
  replace h := ifn c1 h
  by_cases c3 : x1 = (59 : Int32)
  · replace h := ifp c3 h
    refine r_lkIn (tgt := 52) (off := 51) hx hb dX2_take_1 c3 (by decide) (by decide) (by decide) ?_
    refine lv_aload_n hx hb dX2_take_52 rfl (lv_at hl 0 rfl) ?_
    refine lv_iconst (v := (0 : Int32)) hx hb dX2_take_53 (by decide) ?_
    obtain ⟨N4, hN4, h⟩ := ob h
    refine r_put (x := (0 : Int32)) (ty := .boolean) hx hb hts hK hd hw hown inX2 tyX2 tyX2_ok nmX2 rfl (by decide) (X2_k0 hB) 7 (by decide) wd_134 rfl rfl rfl rfl (fun _ => (Nat.le_of_ble_eq_true rfl)) (fun _ => rfl) hN4 dX2_take_54 (fun {H} {locs} hw => ?_)
    refine lv_goto (tgt := 105) hx hb dX2_take_57 (by decide) ?_
    have h1 := Option.some.inj h
    subst h1
    exact r_vret hx hb hr hlk hK hd hw dX2_take_105
  replace h := ifn c3 h
  by_cases c5 : x1 = (64 : Int32)
  · replace h := ifp c5 h
    refine r_lkIn (tgt := 68) (off := 67) hx hb dX2_take_1 c5 (by decide) (by decide) (by decide) ?_
    refine lv_aload_n hx hb dX2_take_68 rfl (lv_at hl 0 rfl) ?_
    refine lv_aload_n hx hb dX2_take_69 rfl (lv_at hl 0 rfl) ?_
    refine r_get (v := .int (M 0 6)) hx hb hts hK hw hown inX2 rfl (X2_k0 hB) (st_at0 (by decide)) 6 (by decide) wd_133 rfl dX2_take_70 ?_
    obtain ⟨N6, hN6, h⟩ := ob h
    refine r_put (x := (M 0 6)) (ty := .int) hx hb hts hK hd hw hown inX2 tyX2 tyX2_ok nmX2 rfl (by decide) (X2_k0 hB) 5 (by decide) wd_132 rfl rfl rfl rfl (fun _ => (Nat.le_of_ble_eq_true rfl)) (fun _ => rfl) hN6 dX2_take_73 (fun {H} {locs} hw => ?_)
    refine lv_goto (tgt := 105) hx hb dX2_take_76 (by decide) ?_
    have h1 := Option.some.inj h
    subst h1
    exact r_vret hx hb hr hlk hK hd hw dX2_take_105
  replace h := ifn c5 h
  by_cases c7 : x1 = (105 : Int32)
  · replace h := ifp c7 h
    refine r_lkIn (tgt := 79) (off := 78) hx hb dX2_take_1 c7 (by decide) (by decide) (by decide) ?_
    refine lv_aload_n hx hb dX2_take_79 rfl (lv_at hl 0 rfl) ?_
    refine lv_bipush (v := (6 : Int32)) hx hb dX2_take_80 (by decide) ?_
    obtain ⟨N8, hN8, h⟩ := ob h
    refine r_put (x := (6 : Int32)) (ty := .int) hx hb hts hK hd hw hown inX2 tyX2 tyX2_ok nmX2 rfl (by decide) (X2_k0 hB) 5 (by decide) wd_132 rfl rfl rfl rfl (fun _ => (Nat.le_of_ble_eq_true rfl)) (fun _ => rfl) hN8 dX2_take_82 (fun {H} {locs} hw => ?_)
    refine lv_goto (tgt := 105) hx hb dX2_take_85 (by decide) ?_
    have h1 := Option.some.inj h
    subst h1
    exact r_vret hx hb hr hlk hK hd hw dX2_take_105
  replace h := ifn c7 h
  by_cases c9 : x1 = (111 : Int32)
  · replace h := ifp c9 h
    refine r_lkIn (tgt := 88) (off := 87) hx hb dX2_take_1 c9 (by decide) (by decide) (by decide) ?_
    refine lv_aload_n hx hb dX2_take_88 rfl (lv_at hl 0 rfl) ?_
    refine lv_bipush (v := (7 : Int32)) hx hb dX2_take_89 (by decide) ?_
    obtain ⟨N10, hN10, h⟩ := ob h
    refine r_put (x := (7 : Int32)) (ty := .int) hx hb hts hK hd hw hown inX2 tyX2 tyX2_ok nmX2 rfl (by decide) (X2_k0 hB) 5 (by decide) wd_132 rfl rfl rfl rfl (fun _ => (Nat.le_of_ble_eq_true rfl)) (fun _ => rfl) hN10 dX2_take_91 (fun {H} {locs} hw => ?_)
    refine lv_goto (tgt := 105) hx hb dX2_take_94 (by decide) ?_
    have h1 := Option.some.inj h
    subst h1
    exact r_vret hx hb hr hlk hK hd hw dX2_take_105
  replace h := ifn c9 h
  refine lv_lookup (tgt := 97) (off := 96) hx hb dX2_take_1 (by decide) (lk_def (by have q0 := i32_ne (z := 45) rfl c1; have q1 := i32_ne (z := 59) rfl c3; have q2 := i32_ne (z := 64) rfl c5; have q3 := i32_ne (z := 105) rfl c7; have q4 := i32_ne (z := 111) rfl c9; intro q hq; simp only [List.mem_cons, List.not_mem_nil, or_false] at hq; rcases hq with rfl | rfl | rfl | rfl | rfl <;> (dsimp only; omega))) (by decide) ?_
  refine lv_aload_n hx hb dX2_take_97 rfl (lv_at hl 0 rfl) ?_
  refine lv_iload_n hx hb dX2_take_98 rfl (lv_at hl 1 rfl) ?_
  refine lv_bipush (v := (48 : Int32)) hx hb dX2_take_99 (by decide) ?_
  refine lv_isub hx hb dX2_take_101 ?_
  obtain ⟨N11, hN11, h⟩ := ob h
  refine r_put (x := (x1 - (48 : Int32))) (ty := .int) hx hb hts hK hd hw hown inX2 tyX2 tyX2_ok nmX2 rfl (by decide) (X2_k0 hB) 6 (by decide) wd_133 rfl rfl rfl rfl (fun _ => (Nat.le_of_ble_eq_true rfl)) (fun _ => rfl) hN11 dX2_take_102 (fun {H} {locs} hw => ?_)
  have h1 := Option.some.inj h
  subst h1
  exact r_vret hx hb hr hlk hK hd hw dX2_take_105
theorem c_X2_take {l : Launch} {γ : Ev} {o : Nat} {σ : Mm} {Bf : Mm} {M : Mm} {x1 : Int32} (hB : isX2 γ o) (h : s_X2_take M x1 = some Bf) : Ct l yX2_take cX2_take 2 none 1 30 γ [.ref (eA γ o), .int x1] (st 4 σ o M) none (st 4 σ o Bf) := Ct.of (own := RX2) (by decide +kernel) rfl (Nat.le_of_ble_eq_true rfl) (fun C hw ls hl => b_X2_take C hB h hw hl)
set_option maxHeartbeats 4000000 in
set_option maxRecDepth 10000 in
theorem b_X2_endMove {γ : Ev} {o : Nat} {σ : Mm} {Bf : Mm} {M : Mm} (C : Cx p R s m args meth c RX2 cX2_endMove 1 none 1 30 γ) (hB : isX2 γ o) (h : s_X2_endMove M = some Bf) (hw : Wo γ (st 4 σ o M) s H locs) (hl : lv_has ls 1 [(0, .ref (eA γ o))]) : W p l e R s m args below meth c H locs 0 0 (MQ below (Qo γ none (st 4 σ o Bf)) args s 0 0 (AK γ)) (F0 m 0 ls []) := by
  have C0 := C
  obtain ⟨hx, hb, hr, hml, hown, hts, hlk, hK, hd, hF, hL⟩ := C
  unfold s_X2_endMove at h
  refine lv_aload_n hx hb dX2_endMove_0 rfl (lv_at hl 0 rfl) ?_
  refine r_get (v := .int (M 0 4)) hx hb hts hK hw hown inX2 rfl (X2_k0 hB) (st_at0 (by decide)) 4 (by decide) wd_131 rfl dX2_endMove_1 ?_
  refine lv_if_lt (tgt := 31) hx hb dX2_endMove_4 (by decide) (fun c1 => ?_) (fun c1 => ?_)
  · replace h := ifp c1 h
    have h1 := Option.some.inj h
    subst h1
    exact r_vret hx hb hr hlk hK hd hw dX2_endMove_31
  · replace h := ifn c1 h
    refine lv_aload_n hx hb dX2_endMove_7 rfl (lv_at hl 0 rfl) ?_
    refine r_get (v := .int (M 0 4)) hx hb hts hK hw hown inX2 rfl (X2_k0 hB) (st_at0 (by decide)) 4 (by decide) wd_131 rfl dX2_endMove_8 ?_
    refine lv_aload_n hx hb dX2_endMove_11 rfl (lv_at hl 0 rfl) ?_
    refine r_get (v := .ref (eA γ (o + 2))) hx hb hts hK hw hown inX2 rfl (X2_k0 hB) (st_at0 (by decide)) 1 (by decide) wd_128 rfl dX2_endMove_12 ?_
    refine r_alen hx hb hK hw (X2_k2 hB) (20 : Int32) (by decide) dX2_endMove_15 ?_
    refine lv_icmp_ge (tgt := 31) hx hb dX2_endMove_16 (by decide) (fun c2 => ?_) (fun c2 => ?_)
    · replace h := ifp c2 h
      have h1 := Option.some.inj h
      subst h1
      exact r_vret hx hb hr hlk hK hd hw dX2_endMove_31
    · replace h := ifn c2 h
      refine lv_aload_n hx hb dX2_endMove_19 rfl (lv_at hl 0 rfl) ?_
      refine r_get (v := .int (M 0 4)) hx hb hts hK hw hown inX2 rfl (X2_k0 hB) (st_at0 (by decide)) 4 (by decide) wd_131 rfl dX2_endMove_20 ?_
      refine lv_aload_n hx hb dX2_endMove_23 rfl (lv_at hl 0 rfl) ?_
      refine r_get (v := .ref (eA γ (o + 3))) hx hb hts hK hw hown inX2 rfl (X2_k0 hB) (st_at0 (by decide)) 2 (by decide) wd_129 rfl dX2_endMove_24 ?_
      refine r_alen hx hb hK hw (X2_k3 hB) (20 : Int32) (by decide) dX2_endMove_27 ?_
      refine lv_icmp_lt (tgt := 32) hx hb dX2_endMove_28 (by decide) (fun c3 => ?_) (fun c3 => ?_)
      · replace h := ifp c3 h
        refine lv_aload_n hx hb dX2_endMove_32 rfl (lv_at hl 0 rfl) ?_
        refine r_get (v := .ref (eA γ (o + 2))) hx hb hts hK hw hown inX2 rfl (X2_k0 hB) (st_at0 (by decide)) 1 (by decide) wd_128 rfl dX2_endMove_33 ?_
        refine lv_aload_n hx hb dX2_endMove_36 rfl (lv_at hl 0 rfl) ?_
        refine r_get (v := .int (M 0 4)) hx hb hts hK hw hown inX2 rfl (X2_k0 hB) (st_at0 (by decide)) 4 (by decide) wd_131 rfl dX2_endMove_37 ?_
        refine lv_aload_n hx hb dX2_endMove_40 rfl (lv_at hl 0 rfl) ?_
        refine r_get (v := .int (M 0 5)) hx hb hts hK hw hown inX2 rfl (X2_k0 hB) (st_at0 (by decide)) 5 (by decide) wd_132 rfl dX2_endMove_41 ?_
        obtain ⟨N4, hN4, h⟩ := ob h
        refine r_iast hx hb hK hd hw (by decide) (X2_k2 hB) hN4 dX2_endMove_44 (fun {H} {locs} hw => ?_)
        refine lv_aload_n hx hb dX2_endMove_45 rfl (lv_at hl 0 rfl) ?_
        refine r_get (v := .ref (eA γ (o + 3))) hx hb hts hK hw hown inX2 rfl (X2_k0 hB) (st_at0 (by decide)) 2 (by decide) wd_129 rfl dX2_endMove_46 ?_
        refine lv_aload_n hx hb dX2_endMove_49 rfl (lv_at hl 0 rfl) ?_
        refine r_get (v := .int (N4 0 4)) hx hb hts hK hw hown inX2 rfl (X2_k0 hB) (st_at0 (by decide)) 4 (by decide) wd_131 rfl dX2_endMove_50 ?_
        refine lv_aload_n hx hb dX2_endMove_53 rfl (lv_at hl 0 rfl) ?_
        refine r_get (v := .int (N4 0 7)) hx hb hts hK hw hown inX2 rfl (X2_k0 hB) (st_at0 (by decide)) 7 (by decide) wd_134 rfl dX2_endMove_54 ?_
        refine jn_elim h (fun (k : Int32 → Option (Mm)) => ∀ (v7 : Int32) {H : Heap} {locs : List Loc} {ls : Array Slot}, k v7 = some Bf → Wo γ (st 4 σ o N4) s H locs → lv_has ls 1 [(0, .ref (eA γ o))] → W p l e R s m args below meth c H locs 0 0 (MQ below (Qo γ none (st 4 σ o Bf)) args s 0 0 (AK γ)) (F0 m 72 ls [.int v7, .int (N4 0 4), .ref (eA γ (o + 3))])) ?_ ?_
        · intro v7 H locs ls h hw hl
          obtain ⟨N8, hN8, h⟩ := ob h
          refine r_iast hx hb hK hd hw (by decide) (X2_k3 hB) hN8 dX2_endMove_72 (fun {H} {locs} hw => ?_)
          refine lv_aload_n hx hb dX2_endMove_73 rfl (lv_at hl 0 rfl) ?_
          refine lv_dup hx hb dX2_endMove_74 rfl ?_
          refine r_get (v := .int (N8 0 4)) hx hb hts hK hw hown inX2 rfl (X2_k0 hB) (st_at0 (by decide)) 4 (by decide) wd_131 rfl dX2_endMove_75 ?_
          refine lv_iconst (v := (1 : Int32)) hx hb dX2_endMove_78 (by decide) ?_
          refine lv_iadd hx hb dX2_endMove_79 ?_
          obtain ⟨N9, hN9, h⟩ := ob h
          refine r_put (x := ((N8 0 4) + (1 : Int32))) (ty := .int) hx hb hts hK hd hw hown inX2 tyX2 tyX2_ok nmX2 rfl (by decide) (X2_k0 hB) 4 (by decide) wd_131 rfl rfl rfl rfl (fun _ => (Nat.le_of_ble_eq_true rfl)) (fun _ => rfl) hN9 dX2_endMove_80 (fun {H} {locs} hw => ?_)
          have h1 := Option.some.inj h
          subst h1
          exact r_vret hx hb hr hlk hK hd hw dX2_endMove_83
        intro k6 J_k6 h
        refine lv_if_eq (tgt := 68) hx hb dX2_endMove_57 (by decide) (fun c10 => ?_) (fun c10 => ?_)
        · replace h := ifp c10 h
          refine lv_aload_n hx hb dX2_endMove_68 rfl (lv_at hl 0 rfl) ?_
          refine r_get (v := .int (N4 0 6)) hx hb hts hK hw hown inX2 rfl (X2_k0 hB) (st_at0 (by decide)) 6 (by decide) wd_133 rfl dX2_endMove_69 ?_
          exact J_k6 (N4 0 6) h hw (lv_sub hl [0] rfl)
        · replace h := ifn c10 h
          refine lv_aload_n hx hb dX2_endMove_60 rfl (lv_at hl 0 rfl) ?_
          refine r_get (v := .int (N4 0 6)) hx hb hts hK hw hown inX2 rfl (X2_k0 hB) (st_at0 (by decide)) 6 (by decide) wd_133 rfl dX2_endMove_61 ?_
          refine lv_ineg hx hb dX2_endMove_64 ?_
          refine lv_goto (tgt := 72) hx hb dX2_endMove_65 (by decide) ?_
          exact J_k6 (-(N4 0 6)) h hw (lv_sub hl [0] rfl)
      · replace h := ifn c3 h
        have h1 := Option.some.inj h
        subst h1
        exact r_vret hx hb hr hlk hK hd hw dX2_endMove_31
theorem c_X2_endMove {l : Launch} {γ : Ev} {o : Nat} {σ : Mm} {Bf : Mm} {M : Mm} (hB : isX2 γ o) (h : s_X2_endMove M = some Bf) : Ct l yX2_endMove cX2_endMove 1 none 1 30 γ [.ref (eA γ o)] (st 4 σ o M) none (st 4 σ o Bf) := Ct.of (own := RX2) (by decide +kernel) rfl (Nat.le_of_ble_eq_true rfl) (fun C hw ls hl => b_X2_endMove C hB h hw hl)
set_option maxHeartbeats 4000000 in
set_option maxRecDepth 10000 in
theorem b_X2_read_L14 {γ : Ev} {o : Nat} {σ : Mm} {Bf : Mm} {r : Int32} (C : Cx p R s m args meth c RX2 cX2_read 3 (some .int) 2 53 γ) (hB : isX2 γ o) : ∀ (n : Nat) {M : Mm} {x1 : Int32} {x2 : Int32} {H : Heap} {locs : List Loc} {ls : Array Slot}, s_X2_read_L14 n M x1 x2 = some (r, Bf) → Wo γ (st 4 σ o M) s H locs → lv_has ls 3 [(0, .ref (eA γ o)), (1, .int x1), (2, .int x2)] → W p l e R s m args below meth c H locs 0 0 (MQ below (Qo γ (some (.int r)) (st 4 σ o Bf)) args s 0 0 (AK γ)) (F0 m 14 ls []) := by
  have C0 := C
  obtain ⟨hx, hb, hr, hml, hown, hts, hlk, hK, hd, hF, hL⟩ := C
  intro n
  induction n with
  | zero => intro M x1 x2 H locs ls h; cases h
  | succ n ih =>
    intro M x1 x2 H locs ls h hw hl
    unfold s_X2_read_L14 at h
    refine lv_iload_n hx hb dX2_read_14 rfl (lv_at hl 2 rfl) ?_
    refine lv_aload_n hx hb dX2_read_15 rfl (lv_at hl 0 rfl) ?_
    refine r_get (v := .int (M 0 3)) hx hb hts hK hw hown inX2 rfl (X2_k0 hB) (st_at0 (by decide)) 3 (by decide) wd_130 rfl dX2_read_16 ?_
    refine jn_elim h (fun (k : Unit → Option (Int32 × (Mm))) => ∀ (u : Unit) {H : Heap} {locs : List Loc} {ls : Array Slot}, k u = some (r, Bf) → Wo γ (st 4 σ o M) s H locs → lv_has ls 3 [(0, .ref (eA γ o)), (1, .int x1)] → W p l e R s m args below meth c H locs 0 0 (MQ below (Qo γ (some (.int r)) (st 4 σ o Bf)) args s 0 0 (AK γ)) (F0 m 76 ls [])) ?_ ?_
    · intro u H locs ls h hw hl
      refine lv_iload_n hx hb dX2_read_76 rfl (lv_at hl 1 rfl) ?_
      refine lv_bipush (v := (6 : Int32)) hx hb dX2_read_77 (by decide) ?_
      refine lv_icmp_ne (tgt := 86) hx hb dX2_read_79 (by decide) (fun c12 => ?_) (fun c12 => ?_)
      · replace h := ifn c12 h
        refine lv_aload_n hx hb dX2_read_86 rfl (lv_at hl 0 rfl) ?_
        refine r_get (v := .int (M 0 3)) hx hb hts hK hw hown inX2 rfl (X2_k0 hB) (st_at0 (by decide)) 3 (by decide) wd_130 rfl dX2_read_87 ?_
        obtain ⟨h1, h2⟩ := s2 h
        subst h1
        subst h2
        exact r_iret hx hb hr hlk hK hd hw dX2_read_90
      · replace h := ifp c12 h
        refine lv_iconst (v := (-1 : Int32)) hx hb dX2_read_82 (by decide) ?_
        refine lv_goto (tgt := 90) hx hb dX2_read_83 (by decide) ?_
        obtain ⟨h1, h2⟩ := s2 h
        subst h1
        subst h2
        exact r_iret hx hb hr hlk hK hd hw dX2_read_90
    intro k11 J_k11 h
    refine lv_icmp_ge (tgt := 76) hx hb dX2_read_19 (by decide) (fun c13 => ?_) (fun c13 => ?_)
    · replace h := ifp c13 h
      exact J_k11 () h hw (lv_sub hl [0, 1] rfl)
    · replace h := ifn c13 h
      refine lv_iload_n hx hb dX2_read_22 rfl (lv_at hl 2 rfl) ?_
      refine lv_aload_n hx hb dX2_read_23 rfl (lv_at hl 0 rfl) ?_
      refine r_get (v := .ref (eA γ (o + 1))) hx hb hts hK hw hown inX2 rfl (X2_k0 hB) (st_at0 (by decide)) 0 (by decide) wd_127 rfl dX2_read_24 ?_
      refine r_alenC hx hb hK hw (X2_k1 hB) (60 : Int32) (by decide) dX2_read_27 ?_
      refine lv_icmp_ge (tgt := 76) hx hb dX2_read_28 (by decide) (fun c14 => ?_) (fun c14 => ?_)
      · replace h := ifp c14 h
        exact J_k11 () h hw (lv_sub hl [0, 1] rfl)
      · replace h := ifn c14 h
        refine lv_iload_n hx hb dX2_read_31 rfl (lv_at hl 1 rfl) ?_
        refine lv_aload_n hx hb dX2_read_32 rfl (lv_at hl 0 rfl) ?_
        refine r_get (v := .ref (eA γ (o + 1))) hx hb hts hK hw hown inX2 rfl (X2_k0 hB) (st_at0 (by decide)) 0 (by decide) wd_127 rfl dX2_read_33 ?_
        refine lv_iload_n hx hb dX2_read_36 rfl (lv_at hl 2 rfl) ?_
        obtain ⟨v15, hv15, h⟩ := ob h
        refine r_cald hx hb hK hw (X2_k1 hB) (st_at (by decide)) hv15 dX2_read_37 ?_
        obtain ⟨v16, hv16, h⟩ := ob h
        refine r_Si (rest := []) C0 z0 (c_X2_stateBehind hv16) lk_X2_31 hl.1 rfl (Nat.le_of_ble_eq_true rfl) (by decide) hw dX2_read_38 (fun {H} {locs} hw => ?_)
        refine lv_istore_n (lv' := [(1, .int v16), (0, .ref (eA γ o)), (2, .int x2)]) hx hb dX2_read_41 rfl hl (by decide) rfl (fun ls hl => ?_)
        refine lv_iload_n hx hb dX2_read_42 rfl (lv_at hl 0 rfl) ?_
        refine lv_bipush (v := (7 : Int32)) hx hb dX2_read_43 (by decide) ?_
        refine lv_icmp_ne (tgt := 50) hx hb dX2_read_45 (by decide) (fun c17 => ?_) (fun c17 => ?_)
        · replace h := ifn c17 h
          refine lv_aload_n hx hb dX2_read_50 rfl (lv_at hl 1 rfl) ?_
          refine lv_aload_n hx hb dX2_read_51 rfl (lv_at hl 1 rfl) ?_
          refine r_get (v := .ref (eA γ (o + 1))) hx hb hts hK hw hown inX2 rfl (X2_k0 hB) (st_at0 (by decide)) 0 (by decide) wd_127 rfl dX2_read_52 ?_
          refine lv_iload_n hx hb dX2_read_55 rfl (lv_at hl 2 rfl) ?_
          obtain ⟨v18, hv18, h⟩ := ob h
          refine r_cald hx hb hK hw (X2_k1 hB) (st_at (by decide)) hv18 dX2_read_56 ?_
          obtain ⟨N19, hN19, h⟩ := ob h
          refine r_Vv (rest := []) C0 z0 (c_X2_take hB hN19) lk_X2_35 (X2_k0 hB) rfl rfl hl.1 rfl (Nat.le_of_ble_eq_true rfl) (by decide) hw dX2_read_57 (fun {H} {locs} hw => ?_)
          refine lv_iload_n hx hb dX2_read_60 rfl (lv_at hl 0 rfl) ?_
          refine lv_bipush (v := (6 : Int32)) hx hb dX2_read_61 (by decide) ?_
          refine lv_icmp_ne (tgt := 70) hx hb dX2_read_63 (by decide) (fun c20 => ?_) (fun c20 => ?_)
          · replace h := ifn c20 h
            obtain ⟨v21, ev21, h⟩ := jb h
            refine lv_iinc (v := v21) (lv' := [(2, .int v21), (1, .int v16), (0, .ref (eA γ o))]) hx hb dX2_read_70 hl (k := 2) rfl (by rw [← ev21]; rfl) (by decide) rfl (fun ls hl => ?_)
            refine lv_goto (tgt := 14) hx hb dX2_read_73 (by decide) ?_
            exact ih h hw (lv_sub hl [2, 1, 0] rfl)
          · replace h := ifp c20 h
            refine lv_aload_n hx hb dX2_read_66 rfl (lv_at hl 1 rfl) ?_
            obtain ⟨N22, hN22, h⟩ := ob h
            refine r_Vv (rest := []) C0 z0 (c_X2_endMove hB hN22) lk_X2_39 (X2_k0 hB) rfl rfl hl.1 rfl (Nat.le_of_ble_eq_true rfl) (by decide) hw dX2_read_67 (fun {H} {locs} hw => ?_)
            obtain ⟨v23, ev23, h⟩ := jb h
            refine lv_iinc (v := v23) (lv' := [(2, .int v23), (1, .int v16), (0, .ref (eA γ o))]) hx hb dX2_read_70 hl (k := 2) rfl (by rw [← ev23]; rfl) (by decide) rfl (fun ls hl => ?_)
            refine lv_goto (tgt := 14) hx hb dX2_read_73 (by decide) ?_
            exact ih h hw (lv_sub hl [2, 1, 0] rfl)
        · replace h := ifp c17 h
          refine lv_iload_n hx hb dX2_read_48 rfl (lv_at hl 2 rfl) ?_
          obtain ⟨h1, h2⟩ := s2 h
          subst h1
          subst h2
          exact r_iret hx hb hr hlk hK hd hw dX2_read_49
set_option maxHeartbeats 4000000 in
set_option maxRecDepth 10000 in
theorem b_X2_read {γ : Ev} {o : Nat} {σ : Mm} {Bf : Mm} {r : Int32} {M : Mm} (C : Cx p R s m args meth c RX2 cX2_read 3 (some .int) 2 53 γ) (hB : isX2 γ o) (h : s_X2_read M = some (r, Bf)) (hw : Wo γ (st 4 σ o M) s H locs) (hl : lv_has ls 3 [(0, .ref (eA γ o))]) : W p l e R s m args below meth c H locs 0 0 (MQ below (Qo γ (some (.int r)) (st 4 σ o Bf)) args s 0 0 (AK γ)) (F0 m 0 ls []) := by
  have C0 := C
  obtain ⟨hx, hb, hr, hml, hown, hts, hlk, hK, hd, hF, hL⟩ := C
  unfold s_X2_read at h
  refine lv_aload_n hx hb dX2_read_0 rfl (lv_at hl 0 rfl) ?_
  refine lv_iconst (v := (0 : Int32)) hx hb dX2_read_1 (by decide) ?_
  obtain ⟨N1, hN1, h⟩ := ob h
  refine r_put (x := (0 : Int32)) (ty := .int) hx hb hts hK hd hw hown inX2 tyX2 tyX2_ok nmX2 rfl (by decide) (X2_k0 hB) 4 (by decide) wd_131 rfl rfl rfl rfl (fun _ => (Nat.le_of_ble_eq_true rfl)) (fun _ => rfl) hN1 dX2_read_2 (fun {H} {locs} hw => ?_)
  refine lv_aload_n hx hb dX2_read_5 rfl (lv_at hl 0 rfl) ?_
  refine lv_iconst (v := (0 : Int32)) hx hb dX2_read_6 (by decide) ?_
  obtain ⟨N2, hN2, h⟩ := ob h
  refine r_put (x := (0 : Int32)) (ty := .boolean) hx hb hts hK hd hw hown inX2 tyX2 tyX2_ok nmX2 rfl (by decide) (X2_k0 hB) 7 (by decide) wd_134 rfl rfl rfl rfl (fun _ => (Nat.le_of_ble_eq_true rfl)) (fun _ => rfl) hN2 dX2_read_7 (fun {H} {locs} hw => ?_)
  refine lv_iconst (v := (0 : Int32)) hx hb dX2_read_10 (by decide) ?_
  refine lv_istore_n (lv' := [(1, .int (0 : Int32)), (0, .ref (eA γ o))]) hx hb dX2_read_11 rfl hl (by decide) rfl (fun ls hl => ?_)
  refine lv_iconst (v := (0 : Int32)) hx hb dX2_read_12 (by decide) ?_
  refine lv_istore_n (lv' := [(2, .int (0 : Int32)), (1, .int (0 : Int32)), (0, .ref (eA γ o))]) hx hb dX2_read_13 rfl hl (by decide) rfl (fun ls hl => ?_)
  exact b_X2_read_L14 C0 hB 1000 h hw (lv_sub hl [2, 1, 0] rfl)
theorem c_X2_read {l : Launch} {γ : Ev} {o : Nat} {σ : Mm} {Bf : Mm} {r : Int32} {M : Mm} (hB : isX2 γ o) (h : s_X2_read M = some (r, Bf)) : Ct l yX2_read cX2_read 3 (some .int) 2 53 γ [.ref (eA γ o)] (st 4 σ o M) (some (.int r)) (st 4 σ o Bf) := Ct.of (own := RX2) (by decide +kernel) rfl (Nat.le_of_ble_eq_true rfl) (fun C hw ls hl => b_X2_read C hB h hw hl)
set_option maxHeartbeats 4000000 in
set_option maxRecDepth 10000 in
theorem b_X3_behind {γ : Ev} {o : Nat} {σ : Mm} {Bf : Mm} {A : Mm → Int32 → Int32 → Int32 → Option (Int32 × Mm)} {fA lA : Nat} {r : Int32} {B : Mm} {x1 x2 x3 x4 x5 : Int32} (C : Cx p R s m args meth c RX3 cX3_behind 10 (some .int) (fA + 8) (lA + 300) γ) (hB : isX0 γ o) (hA : ∀ {σ B Bf : Mm} {x1 x2 x3 r : Int32}, A B x1 x2 x3 = some (r, Bf) → Ct l yX3_ahead cX3_ahead 10 (some .int) fA lA γ [.ref (eA γ o), .int x1, .int x2, .int x3] (st 6 σ o B) (some (.int r)) (st 6 σ o Bf)) (h : s_X3_behind A B x1 x2 x3 x4 x5 = some (r, Bf)) (hw : Wo γ (st 6 σ o B) s H locs) (hl : lv_has ls 10 [(0, .ref (eA γ o)), (1, .int x1), (2, .int x2), (3, .int x3), (4, .int x4), (5, .int x5)]) : W p l e R s m args below meth c H locs 0 0 (MQ below (Qo γ (some (.int r)) (st 6 σ o Bf)) args s 0 0 (AK γ)) (F0 m 0 ls []) := by
  have C0 := C
  obtain ⟨hx, hb, hr, hml, hown, hts, hlk, hK, hd, hF, hL⟩ := C
  unfold s_X3_behind at h
  refine lv_aload_n hx hb dX3_behind_0 rfl (lv_at hl 0 rfl) ?_
  obtain ⟨v1, hv1, h⟩ := ob h
  refine r_Vi (rest := []) C0 z0 (c_X0_side hB hv1) lk_X3_51 (X0_k0 hB) rfl rfl hl.1 rfl (Nat.le_of_ble_eq_true rfl) (by omega) hw dX3_behind_1 (fun {H} {locs} hw => ?_)
  refine lv_istore (lv' := [(6, .int v1), (0, .ref (eA γ o)), (1, .int x1), (2, .int x2), (3, .int x3), (4, .int x4), (5, .int x5)]) hx hb dX3_behind_4 hl (by decide) rfl (fun ls hl => ?_)
  refine lv_aload_n hx hb dX3_behind_6 rfl (lv_at hl 1 rfl) ?_
  obtain ⟨v2, hv2, h⟩ := ob h
  refine r_Vi (rest := []) C0 z0 (c_X0_latestSide hB hv2) lk_X3_54 (X0_k0 hB) rfl rfl hl.1 rfl (Nat.le_of_ble_eq_true rfl) (by omega) hw dX3_behind_7 (fun {H} {locs} hw => ?_)
  refine lv_istore (lv' := [(7, .int v2), (6, .int v1), (0, .ref (eA γ o)), (1, .int x1), (2, .int x2), (3, .int x3), (4, .int x4), (5, .int x5)]) hx hb dX3_behind_10 hl (by decide) rfl (fun ls hl => ?_)
  refine lv_aload_n hx hb dX3_behind_12 rfl (lv_at hl 2 rfl) ?_
  obtain ⟨v3, hv3, h⟩ := ob h
  refine r_Vi (rest := []) C0 z0 (c_X0_movedTo hB hv3) lk_X3_57 (X0_k0 hB) rfl rfl hl.1 rfl (Nat.le_of_ble_eq_true rfl) (by omega) hw dX3_behind_13 (fun {H} {locs} hw => ?_)
  refine lv_istore (lv' := [(8, .int v3), (7, .int v2), (6, .int v1), (0, .ref (eA γ o)), (1, .int x1), (2, .int x2), (3, .int x3), (4, .int x4), (5, .int x5)]) hx hb dX3_behind_16 hl (by decide) rfl (fun ls hl => ?_)
  refine lv_aload_n hx hb dX3_behind_18 rfl (lv_at hl 3 rfl) ?_
  refine lv_iload_n hx hb dX3_behind_19 rfl (lv_at hl 4 rfl) ?_
  refine lv_iload_n hx hb dX3_behind_20 rfl (lv_at hl 5 rfl) ?_
  obtain ⟨N4, hN4, h⟩ := ob h
  refine r_Vv (rest := []) C0 z0 (c_X0_tryMove hB hN4) lk_X3_60 (X0_k0 hB) rfl rfl hl.1 rfl (Nat.le_of_ble_eq_true rfl) (by omega) hw dX3_behind_21 (fun {H} {locs} hw => ?_)
  refine lv_aload_n hx hb dX3_behind_24 rfl (lv_at hl 3 rfl) ?_
  obtain ⟨v5, hv5, h⟩ := ob h
  refine r_Vi (rest := []) C0 z0 (c_X0_side hB hv5) lk_X3_51 (X0_k0 hB) rfl rfl hl.1 rfl (Nat.le_of_ble_eq_true rfl) (by omega) hw dX3_behind_25 (fun {H} {locs} hw => ?_)
  refine lv_iload hx hb dX3_behind_28 (lv_at hl 2 rfl) ?_
  refine jn_elim h (fun (k : Int32 → Mm → Option (Int32 × (Mm))) => ∀ (v14 : Int32) (N15 : Mm) {H : Heap} {locs : List Loc} {ls : Array Slot}, k v14 N15 = some (r, Bf) → Wo γ (st 6 σ o N15) s H locs → lv_has ls 10 [(0, .ref (eA γ o)), (1, .int x1), (2, .int x2), (6, .int v1), (7, .int v2), (8, .int v3)] → W p l e R s m args below meth c H locs 0 0 (MQ below (Qo γ (some (.int r)) (st 6 σ o Bf)) args s 0 0 (AK γ)) (F0 m 57 ls [.int v14])) ?_ ?_
  · intro v14 N15 H locs ls h hw hl
    refine lv_istore (lv' := [(9, .int v14), (0, .ref (eA γ o)), (1, .int x1), (2, .int x2), (6, .int v1), (7, .int v2), (8, .int v3)]) hx hb dX3_behind_57 hl (by decide) rfl (fun ls hl => ?_)
    refine lv_aload_n hx hb dX3_behind_59 rfl (lv_at hl 1 rfl) ?_
    refine lv_iload_n hx hb dX3_behind_60 rfl (lv_at hl 2 rfl) ?_
    refine lv_iload_n hx hb dX3_behind_61 rfl (lv_at hl 3 rfl) ?_
    refine lv_iload hx hb dX3_behind_62 (lv_at hl 4 rfl) ?_
    refine lv_iload hx hb dX3_behind_64 (lv_at hl 5 rfl) ?_
    refine lv_iload hx hb dX3_behind_66 (lv_at hl 6 rfl) ?_
    obtain ⟨N16, hN16, h⟩ := ob h
    refine r_Vv (rest := []) C0 z0 (c_X0_takeBack hB hN16) lk_X3_64 (X0_k0 hB) rfl rfl hl.1 rfl (Nat.le_of_ble_eq_true rfl) (by omega) hw dX3_behind_68 (fun {H} {locs} hw => ?_)
    refine lv_iload hx hb dX3_behind_71 (lv_at hl 0 rfl) ?_
    obtain ⟨h1, h2⟩ := s2 h
    subst h1
    subst h2
    exact r_iret hx hb hr hlk hK hd hw dX3_behind_73
  intro k13 J_k13 h
  refine lv_icmp_ne (tgt := 45) hx hb dX3_behind_30 (by decide) (fun c17 => ?_) (fun c17 => ?_)
  · replace h := ifn c17 h
    refine lv_aload_n hx hb dX3_behind_45 rfl (lv_at hl 3 rfl) ?_
    refine lv_iload_n hx hb dX3_behind_46 rfl (lv_at hl 6 rfl) ?_
    refine lv_iload hx hb dX3_behind_47 (lv_at hl 8 rfl) ?_
    refine lv_ineg hx hb dX3_behind_49 ?_
    refine lv_iload hx hb dX3_behind_50 (lv_at hl 7 rfl) ?_
    refine lv_ineg hx hb dX3_behind_52 ?_
    obtain ⟨q18, hq18, h⟩ := ob h
    refine r_Si (rest := []) C0 z0 (hA hq18) lk_X3_7 hl.1 rfl (Nat.le_of_ble_eq_true rfl) (by omega) hw dX3_behind_53 (fun {H} {locs} hw => ?_)
    refine lv_ineg hx hb dX3_behind_56 ?_
    exact J_k13 (-q18.1) q18.2 h hw (lv_sub hl [3, 4, 5, 2, 1, 0] rfl)
  · replace h := ifp c17 h
    refine lv_aload_n hx hb dX3_behind_33 rfl (lv_at hl 3 rfl) ?_
    refine lv_iload_n hx hb dX3_behind_34 rfl (lv_at hl 6 rfl) ?_
    refine lv_iload hx hb dX3_behind_35 (lv_at hl 7 rfl) ?_
    refine lv_iload hx hb dX3_behind_37 (lv_at hl 8 rfl) ?_
    obtain ⟨q19, hq19, h⟩ := ob h
    refine r_Si (rest := []) C0 z0 (hA hq19) lk_X3_7 hl.1 rfl (Nat.le_of_ble_eq_true rfl) (by omega) hw dX3_behind_39 (fun {H} {locs} hw => ?_)
    refine lv_goto (tgt := 57) hx hb dX3_behind_42 (by decide) ?_
    exact J_k13 q19.1 q19.2 h hw (lv_sub hl [3, 4, 5, 2, 1, 0] rfl)
theorem c_X3_behind {l : Launch} {γ : Ev} {o : Nat} {σ : Mm} {Bf : Mm} {A : Mm → Int32 → Int32 → Int32 → Option (Int32 × Mm)} {fA lA : Nat} {r : Int32} {B : Mm} {x1 x2 x3 x4 x5 : Int32} (hB : isX0 γ o) (hA : ∀ {σ B Bf : Mm} {x1 x2 x3 r : Int32}, A B x1 x2 x3 = some (r, Bf) → Ct l yX3_ahead cX3_ahead 10 (some .int) fA lA γ [.ref (eA γ o), .int x1, .int x2, .int x3] (st 6 σ o B) (some (.int r)) (st 6 σ o Bf)) (h : s_X3_behind A B x1 x2 x3 x4 x5 = some (r, Bf)) : Ct l yX3_behind cX3_behind 10 (some .int) (fA + 8) (lA + 300) γ [.ref (eA γ o), .int x1, .int x2, .int x3, .int x4, .int x5] (st 6 σ o B) (some (.int r)) (st 6 σ o Bf) := Ct.of (own := RX3) (by decide +kernel) rfl (Nat.le_of_ble_eq_true rfl) (fun C hw ls hl => b_X3_behind C hB hA h hw hl)
set_option maxHeartbeats 4000000 in
set_option maxRecDepth 10000 in
theorem b_X3_ahead_L31 {γ : Ev} {o : Nat} {σ : Mm} {Bf : Mm} {A : Mm → Int32 → Int32 → Int32 → Option (Int32 × Mm)} {fA lA : Nat} {r : Int32} (C : Cx p R s m args meth c RX3 cX3_ahead 10 (some .int) (fA + 16) (lA + 600) γ) (hB : isX0 γ o) (hA : ∀ {σ B Bf : Mm} {x1 x2 x3 r : Int32}, A B x1 x2 x3 = some (r, Bf) → Ct l yX3_ahead cX3_ahead 10 (some .int) fA lA γ [.ref (eA γ o), .int x1, .int x2, .int x3] (st 6 σ o B) (some (.int r)) (st 6 σ o Bf)) : ∀ (n : Nat) {B : Mm} {x1 : Int32} {x2 : Int32} {x3 : Int32} {x5 : Int32} {x6 : Int32} {H : Heap} {locs : List Loc} {ls : Array Slot}, s_X3_ahead_L31 A n B x1 x2 x3 x5 x6 = some (r, Bf) → Wo γ (st 6 σ o B) s H locs → lv_has ls 10 [(0, .ref (eA γ o)), (1, .int x1), (2, .int x2), (3, .int x3), (5, .int x5), (6, .int x6)] → W p l e R s m args below meth c H locs 0 0 (MQ below (Qo γ (some (.int r)) (st 6 σ o Bf)) args s 0 0 (AK γ)) (F0 m 31 ls []) := by
  have C0 := C
  obtain ⟨hx, hb, hr, hml, hown, hts, hlk, hK, hd, hF, hL⟩ := C
  intro n
  induction n with
  | zero => intro B x1 x2 x3 x5 x6 H locs ls h; cases h
  | succ n ih =>
    intro B x1 x2 x3 x5 x6 H locs ls h hw hl
    unfold s_X3_ahead_L31 at h
    refine lv_iload hx hb dX3_ahead_31 (lv_at hl 5 rfl) ?_
    refine lv_bipush (v := (84 : Int32)) hx hb dX3_ahead_33 (by decide) ?_
    refine lv_icmp_ge (tgt := 110) hx hb dX3_ahead_35 (by decide) (fun c4 => ?_) (fun c4 => ?_)
    · replace h := ifp c4 h
      refine lv_iload hx hb dX3_ahead_110 (lv_at hl 4 rfl) ?_
      refine lv_bipush (v := (-2 : Int32)) hx hb dX3_ahead_112 (by decide) ?_
      refine lv_icmp_ne (tgt := 121) hx hb dX3_ahead_114 (by decide) (fun c5 => ?_) (fun c5 => ?_)
      · replace h := ifn c5 h
        refine lv_iload hx hb dX3_ahead_121 (lv_at hl 4 rfl) ?_
        obtain ⟨h1, h2⟩ := s2 h
        subst h1
        subst h2
        exact r_iret hx hb hr hlk hK hd hw dX3_ahead_123
      · replace h := ifp c5 h
        refine lv_iconst (v := (0 : Int32)) hx hb dX3_ahead_117 (by decide) ?_
        refine lv_goto (tgt := 123) hx hb dX3_ahead_118 (by decide) ?_
        obtain ⟨h1, h2⟩ := s2 h
        subst h1
        subst h2
        exact r_iret hx hb hr hlk hK hd hw dX3_ahead_123
    · replace h := ifn c4 h
      refine lv_iload hx hb dX3_ahead_38 (lv_at hl 5 rfl) ?_
      obtain ⟨v6, hv6, h⟩ := ob h
      refine r_Si (rest := []) C0 z0 (c_X0_numberOf hv6) lk_X3_19 hl.1 rfl (Nat.le_of_ble_eq_true rfl) (by omega) hw dX3_ahead_40 (fun {H} {locs} hw => ?_)
      refine lv_istore (lv' := [(7, .int v6), (0, .ref (eA γ o)), (1, .int x1), (2, .int x2), (3, .int x3), (5, .int x5), (6, .int x6)]) hx hb dX3_ahead_43 hl (by decide) rfl (fun ls hl => ?_)
      refine lv_iload hx hb dX3_ahead_45 (lv_at hl 6 rfl) ?_
      obtain ⟨v7, hv7, h⟩ := ob h
      refine r_Si (rest := []) C0 z0 (c_X0_placeOf hv7) lk_X3_23 hl.1 rfl (Nat.le_of_ble_eq_true rfl) (by omega) hw dX3_ahead_47 (fun {H} {locs} hw => ?_)
      refine lv_istore (lv' := [(8, .int v7), (7, .int v6), (0, .ref (eA γ o)), (1, .int x1), (2, .int x2), (3, .int x3), (5, .int x5), (6, .int x6)]) hx hb dX3_ahead_50 hl (by decide) rfl (fun ls hl => ?_)
      refine lv_aload_n hx hb dX3_ahead_52 rfl (lv_at hl 2 rfl) ?_
      refine lv_iload hx hb dX3_ahead_53 (lv_at hl 1 rfl) ?_
      refine lv_iload hx hb dX3_ahead_55 (lv_at hl 0 rfl) ?_
      obtain ⟨v8, hv8, h⟩ := ob h
      refine r_Vi (rest := []) C0 z0 (c_X0_hindrance hB hv8) lk_X3_26 (X0_k0 hB) rfl rfl hl.1 rfl (Nat.le_of_ble_eq_true rfl) (by omega) hw dX3_ahead_57 (fun {H} {locs} hw => ?_)
      refine lv_if_eq (tgt := 66) hx hb dX3_ahead_60 (by decide) (fun c9 => ?_) (fun c9 => ?_)
      · replace h := ifp c9 h
        refine lv_aload_n hx hb dX3_ahead_66 rfl (lv_at hl 2 rfl) ?_
        refine lv_iload hx hb dX3_ahead_67 (lv_at hl 1 rfl) ?_
        refine lv_iload hx hb dX3_ahead_69 (lv_at hl 0 rfl) ?_
        refine lv_iload_n hx hb dX3_ahead_71 rfl (lv_at hl 3 rfl) ?_
        refine lv_iconst (v := (1 : Int32)) hx hb dX3_ahead_72 (by decide) ?_
        refine lv_isub hx hb dX3_ahead_73 ?_
        refine lv_iload_n hx hb dX3_ahead_74 rfl (lv_at hl 4 rfl) ?_
        refine lv_iload hx hb dX3_ahead_75 (lv_at hl 6 rfl) ?_
        refine r_max C0 z0 lk_X3_48 hl.1 (Nat.le_of_ble_eq_true rfl) (by omega) dX3_ahead_77 ?_
        refine lv_iload_n hx hb dX3_ahead_80 rfl (lv_at hl 5 rfl) ?_
        obtain ⟨q10, hq10, h⟩ := ob h
        refine r_Si (rest := []) C0 z0 (c_X3_behind hB hA hq10) lk_X3_41 hl.1 rfl (Nat.le_of_ble_eq_true rfl) (by omega) hw dX3_ahead_81 (fun {H} {locs} hw => ?_)
        obtain ⟨v11, ev11, h⟩ := jb h
        refine r_top ev11 ?_
        refine lv_istore (lv' := [(9, .int v11), (8, .int v7), (7, .int v6), (0, .ref (eA γ o)), (1, .int x1), (2, .int x2), (3, .int x3), (5, .int x5), (6, .int x6)]) hx hb dX3_ahead_84 hl (by decide) rfl (fun ls hl => ?_)
        refine lv_iload hx hb dX3_ahead_86 (lv_at hl 7 rfl) ?_
        refine lv_iload hx hb dX3_ahead_88 (lv_at hl 0 rfl) ?_
        refine r_max C0 z0 lk_X3_48 hl.1 (Nat.le_of_ble_eq_true rfl) (by omega) dX3_ahead_90 ?_
        obtain ⟨v12, ev12, h⟩ := jb h
        refine r_top ev12 ?_
        refine lv_istore (lv' := [(5, .int v12), (9, .int v11), (8, .int v7), (7, .int v6), (0, .ref (eA γ o)), (1, .int x1), (2, .int x2), (3, .int x3), (6, .int x6)]) hx hb dX3_ahead_93 hl (by decide) rfl (fun ls hl => ?_)
        refine lv_iload hx hb dX3_ahead_95 (lv_at hl 0 rfl) ?_
        refine lv_iload_n hx hb dX3_ahead_97 rfl (lv_at hl 7 rfl) ?_
        refine lv_icmp_lt (tgt := 104) hx hb dX3_ahead_98 (by decide) (fun c13 => ?_) (fun c13 => ?_)
        · replace h := ifp c13 h
          obtain ⟨v14, ev14, h⟩ := jb h
          refine lv_iinc (v := v14) (lv' := [(6, .int v14), (5, .int v12), (9, .int v11), (8, .int v7), (7, .int v6), (0, .ref (eA γ o)), (1, .int x1), (2, .int x2), (3, .int x3)]) hx hb dX3_ahead_104 hl (k := 8) rfl (by rw [← ev14]; rfl) (by decide) rfl (fun ls hl => ?_)
          refine lv_goto (tgt := 31) hx hb dX3_ahead_107 (by decide) ?_
          exact ih h hw (lv_sub hl [5, 6, 7, 8, 1, 0] rfl)
        · replace h := ifn c13 h
          refine lv_iload hx hb dX3_ahead_101 (lv_at hl 0 rfl) ?_
          obtain ⟨h1, h2⟩ := s2 h
          subst h1
          subst h2
          exact r_iret hx hb hr hlk hK hd hw dX3_ahead_103
      · replace h := ifn c9 h
        refine lv_goto (tgt := 104) hx hb dX3_ahead_63 (by decide) ?_
        obtain ⟨v15, ev15, h⟩ := jb h
        refine lv_iinc (v := v15) (lv' := [(6, .int v15), (8, .int v7), (7, .int v6), (0, .ref (eA γ o)), (1, .int x1), (2, .int x2), (3, .int x3), (5, .int x5)]) hx hb dX3_ahead_104 hl (k := 7) rfl (by rw [← ev15]; rfl) (by decide) rfl (fun ls hl => ?_)
        refine lv_goto (tgt := 31) hx hb dX3_ahead_107 (by decide) ?_
        exact ih h hw (lv_sub hl [3, 4, 5, 6, 7, 0] rfl)
set_option maxHeartbeats 4000000 in
set_option maxRecDepth 10000 in
theorem b_X3_aheadF {γ : Ev} {o : Nat} {σ : Mm} {Bf : Mm} {A : Mm → Int32 → Int32 → Int32 → Option (Int32 × Mm)} {fA lA : Nat} {r : Int32} {B : Mm} {x1 x2 x3 : Int32} (C : Cx p R s m args meth c RX3 cX3_ahead 10 (some .int) (fA + 16) (lA + 600) γ) (hB : isX0 γ o) (hA : ∀ {σ B Bf : Mm} {x1 x2 x3 r : Int32}, A B x1 x2 x3 = some (r, Bf) → Ct l yX3_ahead cX3_ahead 10 (some .int) fA lA γ [.ref (eA γ o), .int x1, .int x2, .int x3] (st 6 σ o B) (some (.int r)) (st 6 σ o Bf)) (h : s_X3_aheadF A B x1 x2 x3 = some (r, Bf)) (hw : Wo γ (st 6 σ o B) s H locs) (hl : lv_has ls 10 [(0, .ref (eA γ o)), (1, .int x1), (2, .int x2), (3, .int x3)]) : W p l e R s m args below meth c H locs 0 0 (MQ below (Qo γ (some (.int r)) (st 6 σ o Bf)) args s 0 0 (AK γ)) (F0 m 0 ls []) := by
  have C0 := C
  obtain ⟨hx, hb, hr, hml, hown, hts, hlk, hK, hd, hF, hL⟩ := C
  unfold s_X3_aheadF at h
  refine lv_aload_n hx hb dX3_ahead_0 rfl (lv_at hl 0 rfl) ?_
  obtain ⟨v1, hv1, h⟩ := ob h
  refine r_Vi (rest := []) C0 z0 (c_X0_outcome hB hv1) lk_X3_13 (X0_k0 hB) rfl rfl hl.1 rfl (Nat.le_of_ble_eq_true rfl) (by omega) hw dX3_ahead_1 (fun {H} {locs} hw => ?_)
  refine lv_istore (lv' := [(4, .int v1), (0, .ref (eA γ o)), (1, .int x1), (2, .int x2), (3, .int x3)]) hx hb dX3_ahead_4 hl (by decide) rfl (fun ls hl => ?_)
  refine lv_iload hx hb dX3_ahead_6 (lv_at hl 0 rfl) ?_
  refine lv_if_eq (tgt := 18) hx hb dX3_ahead_8 (by decide) (fun c2 => ?_) (fun c2 => ?_)
  · replace h := ifp c2 h
    refine lv_iload_n hx hb dX3_ahead_18 rfl (lv_at hl 2 rfl) ?_
    refine lv_if_gt (tgt := 24) hx hb dX3_ahead_19 (by decide) (fun c3 => ?_) (fun c3 => ?_)
    · replace h := ifp c3 h
      refine lv_bipush (v := (-2 : Int32)) hx hb dX3_ahead_24 (by decide) ?_
      refine lv_istore (lv' := [(5, .int (-2 : Int32)), (4, .int v1), (0, .ref (eA γ o)), (1, .int x1), (2, .int x2), (3, .int x3)]) hx hb dX3_ahead_26 hl (by decide) rfl (fun ls hl => ?_)
      refine lv_iconst (v := (0 : Int32)) hx hb dX3_ahead_28 (by decide) ?_
      refine lv_istore (lv' := [(6, .int (0 : Int32)), (5, .int (-2 : Int32)), (4, .int v1), (0, .ref (eA γ o)), (1, .int x1), (2, .int x2), (3, .int x3)]) hx hb dX3_ahead_29 hl (by decide) rfl (fun ls hl => ?_)
      exact b_X3_ahead_L31 C0 hB hA 1000 h hw (lv_sub hl [3, 4, 5, 6, 1, 0] rfl)
    · replace h := ifn c3 h
      refine lv_iconst (v := (0 : Int32)) hx hb dX3_ahead_22 (by decide) ?_
      obtain ⟨h1, h2⟩ := s2 h
      subst h1
      subst h2
      exact r_iret hx hb hr hlk hK hd hw dX3_ahead_23
  · replace h := ifn c2 h
    refine lv_aload_n hx hb dX3_ahead_11 rfl (lv_at hl 1 rfl) ?_
    refine lv_iload hx hb dX3_ahead_12 (lv_at hl 0 rfl) ?_
    obtain ⟨v16, hv16, h⟩ := ob h
    refine r_Vi (rest := []) C0 z0 (c_X0_worth hB hv16) lk_X3_45 (X0_k0 hB) rfl rfl hl.1 rfl (Nat.le_of_ble_eq_true rfl) (by omega) hw dX3_ahead_14 (fun {H} {locs} hw => ?_)
    obtain ⟨h1, h2⟩ := s2 h
    subst h1
    subst h2
    exact r_iret hx hb hr hlk hK hd hw dX3_ahead_17
theorem c_X3_aheadF {l : Launch} {γ : Ev} {o : Nat} {σ : Mm} {Bf : Mm} {A : Mm → Int32 → Int32 → Int32 → Option (Int32 × Mm)} {fA lA : Nat} {r : Int32} {B : Mm} {x1 x2 x3 : Int32} (hB : isX0 γ o) (hA : ∀ {σ B Bf : Mm} {x1 x2 x3 r : Int32}, A B x1 x2 x3 = some (r, Bf) → Ct l yX3_ahead cX3_ahead 10 (some .int) fA lA γ [.ref (eA γ o), .int x1, .int x2, .int x3] (st 6 σ o B) (some (.int r)) (st 6 σ o Bf)) (h : s_X3_aheadF A B x1 x2 x3 = some (r, Bf)) : Ct l yX3_ahead cX3_ahead 10 (some .int) (fA + 16) (lA + 600) γ [.ref (eA γ o), .int x1, .int x2, .int x3] (st 6 σ o B) (some (.int r)) (st 6 σ o Bf) := Ct.of (own := RX3) (by decide +kernel) rfl (Nat.le_of_ble_eq_true rfl) (fun C hw ls hl => b_X3_aheadF C hB hA h hw hl)
end
