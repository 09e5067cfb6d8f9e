section
variable {p : Program} {l : Launch} {e : Env} {R : Room} {s : State} {m : MethodId} {args : Array Value} {below : List Frame} {meth : Method} {c : Code} {H : Heap} {locs : List Loc} {ls : Array Slot}
set_option maxHeartbeats 4000000 in
set_option maxRecDepth 10000 in
theorem b_X0_copyFrom {γ : Ev} {o : Nat} {σ : Mm} {Bf : Mm} {o2 : Nat} {B2 : Mm} {B : Mm} (C : Cx p R s m args meth c RX0 cX0_copyFrom 2 none 2 80 γ) (hB : isX0 γ o) (hB2 : isX0 γ o2) (hm2 : ∀ i, i < 6 → σ (o2 + i) = B2 i) (hdj : o2 + 6 ≤ o ∨ o + 6 ≤ o2) (h : s_X0_copyFrom B B2 = some Bf) (hw : Wo γ (st 6 σ o B) s H locs) (hl : lv_has ls 2 [(0, .ref (eA γ o)), (1, .ref (eA γ o2))]) : W p l e R s m args below meth c H locs 0 0 (MQ below (Qo γ none (st 6 σ o Bf)) args s 0 0 (AK γ)) (F0 m 0 ls []) := by
  have C0 := C
  obtain ⟨hx, hb, hr, hml, hown, hts, hlk, hK, hd, hF, hL⟩ := C
  unfold s_X0_copyFrom at h
  refine lv_aload_n hx hb dX0_copyFrom_0 rfl (lv_at hl 1 rfl) ?_
  refine lv_ifnonnull (tgt := 5) hx hb dX0_copyFrom_1 (by decide) ?_
  refine lv_aload_n hx hb dX0_copyFrom_5 rfl (lv_at hl 1 rfl) ?_
  refine r_get (v := .ref (eA γ (o2 + 1))) hx hb hts hK hw hown inX0 rfl (X0_k0 hB2) (st_at2z hdj hm2) 0 (by decide) wd_27 rfl dX0_copyFrom_6 ?_
  refine lv_iconst (v := (0 : Int32)) hx hb dX0_copyFrom_9 (by decide) ?_
  refine lv_aload_n hx hb dX0_copyFrom_10 rfl (lv_at hl 0 rfl) ?_
  refine r_get (v := .ref (eA γ (o + 1))) hx hb hts hK hw hown inX0 rfl (X0_k0 hB) (st_at0 (by decide)) 0 (by decide) wd_27 rfl dX0_copyFrom_11 ?_
  refine lv_iconst (v := (0 : Int32)) hx hb dX0_copyFrom_14 (by decide) ?_
  refine lv_bipush (v := (48 : Int32)) hx hb dX0_copyFrom_15 (by decide) ?_
  obtain ⟨N1, hN1, h⟩ := ob h
  refine r_copy (A := B2) (ca := 1) C0 z0 lk_X0_29 hl.1 (Nat.le_of_ble_eq_true rfl) (by decide) hw (X0_k1 hB2) (st_at2 hdj (by decide) hm2) (by decide) (X0_k1 hB) hN1 dX0_copyFrom_17 (fun {H} {locs} hw => ?_)
  refine lv_aload_n hx hb dX0_copyFrom_20 rfl (lv_at hl 1 rfl) ?_
  refine r_get (v := .ref (eA γ (o2 + 2))) hx hb hts hK hw hown inX0 rfl (X0_k0 hB2) (st_at2z hdj hm2) 1 (by decide) wd_28 rfl dX0_copyFrom_21 ?_
  refine lv_iconst (v := (0 : Int32)) hx hb dX0_copyFrom_24 (by decide) ?_
  refine lv_aload_n hx hb dX0_copyFrom_25 rfl (lv_at hl 0 rfl) ?_
  refine r_get (v := .ref (eA γ (o + 2))) hx hb hts hK hw hown inX0 rfl (X0_k0 hB) (st_at0 (by decide)) 1 (by decide) wd_28 rfl dX0_copyFrom_26 ?_
  refine lv_iconst (v := (0 : Int32)) hx hb dX0_copyFrom_29 (by decide) ?_
  refine lv_bipush (v := (12 : Int32)) hx hb dX0_copyFrom_30 (by decide) ?_
  obtain ⟨N2, hN2, h⟩ := ob h
  refine r_copy (A := B2) (ca := 2) C0 z0 lk_X0_29 hl.1 (Nat.le_of_ble_eq_true rfl) (by decide) hw (X0_k2 hB2) (st_at2 hdj (by decide) hm2) (by decide) (X0_k2 hB) hN2 dX0_copyFrom_32 (fun {H} {locs} hw => ?_)
  refine lv_aload_n hx hb dX0_copyFrom_35 rfl (lv_at hl 1 rfl) ?_
  refine r_get (v := .ref (eA γ (o2 + 3))) hx hb hts hK hw hown inX0 rfl (X0_k0 hB2) (st_at2z hdj hm2) 2 (by decide) wd_29 rfl dX0_copyFrom_36 ?_
  refine lv_iconst (v := (0 : Int32)) hx hb dX0_copyFrom_39 (by decide) ?_
  refine lv_aload_n hx hb dX0_copyFrom_40 rfl (lv_at hl 0 rfl) ?_
  refine r_get (v := .ref (eA γ (o + 3))) hx hb hts hK hw hown inX0 rfl (X0_k0 hB) (st_at0 (by decide)) 2 (by decide) wd_29 rfl dX0_copyFrom_41 ?_
  refine lv_iconst (v := (0 : Int32)) hx hb dX0_copyFrom_44 (by decide) ?_
  refine lv_bipush (v := (12 : Int32)) hx hb dX0_copyFrom_45 (by decide) ?_
  obtain ⟨N3, hN3, h⟩ := ob h
  refine r_copy (A := B2) (ca := 3) C0 z0 lk_X0_29 hl.1 (Nat.le_of_ble_eq_true rfl) (by decide) hw (X0_k3 hB2) (st_at2 hdj (by decide) hm2) (by decide) (X0_k3 hB) hN3 dX0_copyFrom_47 (fun {H} {locs} hw => ?_)
  refine lv_aload_n hx hb dX0_copyFrom_50 rfl (lv_at hl 1 rfl) ?_
  refine r_get (v := .ref (eA γ (o2 + 4))) hx hb hts hK hw hown inX0 rfl (X0_k0 hB2) (st_at2z hdj hm2) 3 (by decide) wd_30 rfl dX0_copyFrom_51 ?_
  refine lv_iconst (v := (0 : Int32)) hx hb dX0_copyFrom_54 (by decide) ?_
  refine lv_aload_n hx hb dX0_copyFrom_55 rfl (lv_at hl 0 rfl) ?_
  refine r_get (v := .ref (eA γ (o + 4))) hx hb hts hK hw hown inX0 rfl (X0_k0 hB) (st_at0 (by decide)) 3 (by decide) wd_30 rfl dX0_copyFrom_56 ?_
  refine lv_iconst (v := (0 : Int32)) hx hb dX0_copyFrom_59 (by decide) ?_
  refine lv_iconst (v := (4 : Int32)) hx hb dX0_copyFrom_60 (by decide) ?_
  obtain ⟨N4, hN4, h⟩ := ob h
  refine r_copy (A := B2) (ca := 4) C0 z0 lk_X0_29 hl.1 (Nat.le_of_ble_eq_true rfl) (by decide) hw (X0_k4 hB2) (st_at2 hdj (by decide) hm2) (by decide) (X0_k4 hB) hN4 dX0_copyFrom_61 (fun {H} {locs} hw => ?_)
  refine lv_aload_n hx hb dX0_copyFrom_64 rfl (lv_at hl 1 rfl) ?_
  refine r_get (v := .ref (eA γ (o2 + 5))) hx hb hts hK hw hown inX0 rfl (X0_k0 hB2) (st_at2z hdj hm2) 4 (by decide) wd_31 rfl dX0_copyFrom_65 ?_
  refine lv_iconst (v := (0 : Int32)) hx hb dX0_copyFrom_68 (by decide) ?_
  refine lv_aload_n hx hb dX0_copyFrom_69 rfl (lv_at hl 0 rfl) ?_
  refine r_get (v := .ref (eA γ (o + 5))) hx hb hts hK hw hown inX0 rfl (X0_k0 hB) (st_at0 (by decide)) 4 (by decide) wd_31 rfl dX0_copyFrom_70 ?_
  refine lv_iconst (v := (0 : Int32)) hx hb dX0_copyFrom_73 (by decide) ?_
  refine lv_sipush (v := (160 : Int32)) hx hb dX0_copyFrom_74 (by decide) ?_
  obtain ⟨N5, hN5, h⟩ := ob h
  refine r_copy (A := B2) (ca := 5) C0 z0 lk_X0_29 hl.1 (Nat.le_of_ble_eq_true rfl) (by decide) hw (X0_k5 hB2) (st_at2 hdj (by decide) hm2) (by decide) (X0_k5 hB) hN5 dX0_copyFrom_77 (fun {H} {locs} hw => ?_)
  refine lv_aload_n hx hb dX0_copyFrom_80 rfl (lv_at hl 0 rfl) ?_
  refine lv_aload_n hx hb dX0_copyFrom_81 rfl (lv_at hl 1 rfl) ?_
  refine r_get (v := .int (B2 0 5)) hx hb hts hK hw hown inX0 rfl (X0_k0 hB2) (st_at2z hdj hm2) 5 (by decide) wd_32 rfl dX0_copyFrom_82 ?_
  obtain ⟨N6, hN6, h⟩ := ob h
  refine r_put (x := (B2 0 5)) (ty := .int) hx hb hts hK hd hw hown inX0 tyX0 tyX0_ok nmX0 rfl (by decide) (X0_k0 hB) 5 (by decide) wd_32 rfl rfl rfl rfl (fun _ => (Nat.le_of_ble_eq_true rfl)) (fun _ => rfl) hN6 dX0_copyFrom_85 (fun {H} {locs} hw => ?_)
  refine lv_aload_n hx hb dX0_copyFrom_88 rfl (lv_at hl 0 rfl) ?_
  refine lv_aload_n hx hb dX0_copyFrom_89 rfl (lv_at hl 1 rfl) ?_
  refine r_get (v := .int (B2 0 6)) hx hb hts hK hw hown inX0 rfl (X0_k0 hB2) (st_at2z hdj hm2) 6 (by decide) wd_33 rfl dX0_copyFrom_90 ?_
  obtain ⟨N7, hN7, h⟩ := ob h
  refine r_put (x := (B2 0 6)) (ty := .int) hx hb hts hK hd hw hown inX0 tyX0 tyX0_ok nmX0 rfl (by decide) (X0_k0 hB) 6 (by decide) wd_33 rfl rfl rfl rfl (fun _ => (Nat.le_of_ble_eq_true rfl)) (fun _ => rfl) hN7 dX0_copyFrom_93 (fun {H} {locs} hw => ?_)
  refine lv_aload_n hx hb dX0_copyFrom_96 rfl (lv_at hl 0 rfl) ?_
  refine lv_aload_n hx hb dX0_copyFrom_97 rfl (lv_at hl 1 rfl) ?_
  refine r_get (v := .int (B2 0 7)) hx hb hts hK hw hown inX0 rfl (X0_k0 hB2) (st_at2z hdj hm2) 7 (by decide) wd_34 rfl dX0_copyFrom_98 ?_
  obtain ⟨N8, hN8, h⟩ := ob h
  refine r_put (x := (B2 0 7)) (ty := .int) hx hb hts hK hd hw hown inX0 tyX0 tyX0_ok nmX0 rfl (by decide) (X0_k0 hB) 7 (by decide) wd_34 rfl rfl rfl rfl (fun _ => (Nat.le_of_ble_eq_true rfl)) (fun _ => rfl) hN8 dX0_copyFrom_101 (fun {H} {locs} hw => ?_)
  refine lv_aload_n hx hb dX0_copyFrom_104 rfl (lv_at hl 0 rfl) ?_
  refine lv_aload_n hx hb dX0_copyFrom_105 rfl (lv_at hl 1 rfl) ?_
  refine r_get (v := .int (B2 0 8)) hx hb hts hK hw hown inX0 rfl (X0_k0 hB2) (st_at2z hdj hm2) 8 (by decide) wd_35 rfl dX0_copyFrom_106 ?_
  obtain ⟨N9, hN9, h⟩ := ob h
  refine r_put (x := (B2 0 8)) (ty := .int) hx hb hts hK hd hw hown inX0 tyX0 tyX0_ok nmX0 rfl (by decide) (X0_k0 hB) 8 (by decide) wd_35 rfl rfl rfl rfl (fun _ => (Nat.le_of_ble_eq_true rfl)) (fun _ => rfl) hN9 dX0_copyFrom_109 (fun {H} {locs} hw => ?_)
  refine lv_aload_n hx hb dX0_copyFrom_112 rfl (lv_at hl 0 rfl) ?_
  refine lv_aload_n hx hb dX0_copyFrom_113 rfl (lv_at hl 1 rfl) ?_
  refine r_get (v := .int (B2 0 9)) hx hb hts hK hw hown inX0 rfl (X0_k0 hB2) (st_at2z hdj hm2) 9 (by decide) wd_36 rfl dX0_copyFrom_114 ?_
  obtain ⟨N10, hN10, h⟩ := ob h
  refine r_put (x := (B2 0 9)) (ty := .int) hx hb hts hK hd hw hown inX0 tyX0 tyX0_ok nmX0 rfl (by decide) (X0_k0 hB) 9 (by decide) wd_36 rfl rfl rfl rfl (fun _ => (Nat.le_of_ble_eq_true rfl)) (fun _ => rfl) hN10 dX0_copyFrom_117 (fun {H} {locs} hw => ?_)
  refine lv_aload_n hx hb dX0_copyFrom_120 rfl (lv_at hl 0 rfl) ?_
  refine lv_aload_n hx hb dX0_copyFrom_121 rfl (lv_at hl 1 rfl) ?_
  refine r_get (v := .int (B2 0 10)) hx hb hts hK hw hown inX0 rfl (X0_k0 hB2) (st_at2z hdj hm2) 10 (by decide) wd_37 rfl dX0_copyFrom_122 ?_
  obtain ⟨N11, hN11, h⟩ := ob h
  refine r_put (x := (B2 0 10)) (ty := .int) hx hb hts hK hd hw hown inX0 tyX0 tyX0_ok nmX0 rfl (by decide) (X0_k0 hB) 10 (by decide) wd_37 rfl rfl rfl rfl (fun _ => (Nat.le_of_ble_eq_true rfl)) (fun _ => rfl) hN11 dX0_copyFrom_125 (fun {H} {locs} hw => ?_)
  refine lv_aload_n hx hb dX0_copyFrom_128 rfl (lv_at hl 0 rfl) ?_
  refine lv_aload_n hx hb dX0_copyFrom_129 rfl (lv_at hl 1 rfl) ?_
  refine r_get (v := .int (B2 0 11)) hx hb hts hK hw hown inX0 rfl (X0_k0 hB2) (st_at2z hdj hm2) 11 (by decide) wd_38 rfl dX0_copyFrom_130 ?_
  obtain ⟨N12, hN12, h⟩ := ob h
  refine r_put (x := (B2 0 11)) (ty := .int) hx hb hts hK hd hw hown inX0 tyX0 tyX0_ok nmX0 rfl (by decide) (X0_k0 hB) 11 (by decide) wd_38 rfl rfl rfl rfl (fun _ => (Nat.le_of_ble_eq_true rfl)) (fun _ => rfl) hN12 dX0_copyFrom_133 (fun {H} {locs} hw => ?_)
  have h1 := Option.some.inj h
  subst h1
  exact r_vret hx hb hr hlk hK hd hw dX0_copyFrom_136
theorem c_X0_copyFrom {l : Launch} {γ : Ev} {o : Nat} {σ : Mm} {Bf : Mm} {o2 : Nat} {B2 : Mm} {B : Mm} (hB : isX0 γ o) (hB2 : isX0 γ o2) (hm2 : ∀ i, i < 6 → σ (o2 + i) = B2 i) (hdj : o2 + 6 ≤ o ∨ o + 6 ≤ o2) (h : s_X0_copyFrom B B2 = some Bf) : Ct l yX0_copyFrom cX0_copyFrom 2 none 2 80 γ [.ref (eA γ o), .ref (eA γ o2)] (st 6 σ o B) none (st 6 σ o Bf) := Ct.of (own := RX0) (by decide +kernel) rfl (Nat.le_of_ble_eq_true rfl) (fun C hw ls hl => b_X0_copyFrom C hB hB2 hm2 hdj h hw hl)
set_option maxHeartbeats 4000000 in
set_option maxRecDepth 10000 in
theorem b_X0_empty_L2 {γ : Ev} {o : Nat} {σ : Mm} {Bf : Mm} (C : Cx p R s m args meth c RX0 cX0_empty 2 none 1 30 γ) (hB : isX0 γ o) : ∀ (n : Nat) {B : Mm} {x1 : Int32} {H : Heap} {locs : List Loc} {ls : Array Slot}, s_X0_empty_L2 n B x1 = some Bf → Wo γ (st 6 σ o B) s H locs → lv_has ls 2 [(0, .ref (eA γ o)), (1, .int x1)] → W p l e R s m args below meth c H locs 0 0 (MQ below (Qo γ none (st 6 σ o Bf)) args s 0 0 (AK γ)) (F0 m 2 ls []) := by
  have C0 := C
  obtain ⟨hx, hb, hr, hml, hown, hts, hlk, hK, hd, hF, hL⟩ := C
  intro n
  induction n with
  | zero => intro B x1 H locs ls h; cases h
  | succ n ih =>
    intro B x1 H locs ls h hw hl
    unfold s_X0_empty_L2 at h
    refine lv_iload_n hx hb dX0_empty_2 rfl (lv_at hl 1 rfl) ?_
    refine lv_aload_n hx hb dX0_empty_3 rfl (lv_at hl 0 rfl) ?_
    refine r_get (v := .ref (eA γ (o + 2))) hx hb hts hK hw hown inX0 rfl (X0_k0 hB) (st_at0 (by decide)) 1 (by decide) wd_28 rfl dX0_empty_4 ?_
    refine r_alen hx hb hK hw (X0_k2 hB) (12 : Int32) (by decide) dX0_empty_7 ?_
    refine lv_icmp_ge (tgt := 24) hx hb dX0_empty_8 (by decide) (fun c1 => ?_) (fun c1 => ?_)
    · replace h := ifp c1 h
      refine lv_aload_n hx hb dX0_empty_24 rfl (lv_at hl 0 rfl) ?_
      refine lv_iconst (v := (0 : Int32)) hx hb dX0_empty_25 (by decide) ?_
      obtain ⟨N2, hN2, h⟩ := ob h
      refine r_put (x := (0 : Int32)) (ty := .int) hx hb hts hK hd hw hown inX0 tyX0 tyX0_ok nmX0 rfl (by decide) (X0_k0 hB) 5 (by decide) wd_32 rfl rfl rfl rfl (fun _ => (Nat.le_of_ble_eq_true rfl)) (fun _ => rfl) hN2 dX0_empty_26 (fun {H} {locs} hw => ?_)
      refine lv_aload_n hx hb dX0_empty_29 rfl (lv_at hl 0 rfl) ?_
      refine lv_iconst (v := (1 : Int32)) hx hb dX0_empty_30 (by decide) ?_
      obtain ⟨N3, hN3, h⟩ := ob h
      refine r_put (x := (1 : Int32)) (ty := .int) hx hb hts hK hd hw hown inX0 tyX0 tyX0_ok nmX0 rfl (by decide) (X0_k0 hB) 6 (by decide) wd_33 rfl rfl rfl rfl (fun _ => (Nat.le_of_ble_eq_true rfl)) (fun _ => rfl) hN3 dX0_empty_31 (fun {H} {locs} hw => ?_)
      refine lv_aload_n hx hb dX0_empty_34 rfl (lv_at hl 0 rfl) ?_
      refine lv_iconst (v := (0 : Int32)) hx hb dX0_empty_35 (by decide) ?_
      obtain ⟨N4, hN4, h⟩ := ob h
      refine r_put (x := (0 : Int32)) (ty := .int) hx hb hts hK hd hw hown inX0 tyX0 tyX0_ok nmX0 rfl (by decide) (X0_k0 hB) 7 (by decide) wd_34 rfl rfl rfl rfl (fun _ => (Nat.le_of_ble_eq_true rfl)) (fun _ => rfl) hN4 dX0_empty_36 (fun {H} {locs} hw => ?_)
      refine lv_aload_n hx hb dX0_empty_39 rfl (lv_at hl 0 rfl) ?_
      refine lv_iconst (v := (0 : Int32)) hx hb dX0_empty_40 (by decide) ?_
      obtain ⟨N5, hN5, h⟩ := ob h
      refine r_put (x := (0 : Int32)) (ty := .int) hx hb hts hK hd hw hown inX0 tyX0 tyX0_ok nmX0 rfl (by decide) (X0_k0 hB) 8 (by decide) wd_35 rfl rfl rfl rfl (fun _ => (Nat.le_of_ble_eq_true rfl)) (fun _ => rfl) hN5 dX0_empty_41 (fun {H} {locs} hw => ?_)
      refine lv_aload_n hx hb dX0_empty_44 rfl (lv_at hl 0 rfl) ?_
      refine lv_iconst (v := (0 : Int32)) hx hb dX0_empty_45 (by decide) ?_
      obtain ⟨N6, hN6, h⟩ := ob h
      refine r_put (x := (0 : Int32)) (ty := .int) hx hb hts hK hd hw hown inX0 tyX0 tyX0_ok nmX0 rfl (by decide) (X0_k0 hB) 9 (by decide) wd_36 rfl rfl rfl rfl (fun _ => (Nat.le_of_ble_eq_true rfl)) (fun _ => rfl) hN6 dX0_empty_46 (fun {H} {locs} hw => ?_)
      refine lv_aload_n hx hb dX0_empty_49 rfl (lv_at hl 0 rfl) ?_
      refine lv_iconst (v := (0 : Int32)) hx hb dX0_empty_50 (by decide) ?_
      obtain ⟨N7, hN7, h⟩ := ob h
      refine r_put (x := (0 : Int32)) (ty := .int) hx hb hts hK hd hw hown inX0 tyX0 tyX0_ok nmX0 rfl (by decide) (X0_k0 hB) 10 (by decide) wd_37 rfl rfl rfl rfl (fun _ => (Nat.le_of_ble_eq_true rfl)) (fun _ => rfl) hN7 dX0_empty_51 (fun {H} {locs} hw => ?_)
      refine lv_aload_n hx hb dX0_empty_54 rfl (lv_at hl 0 rfl) ?_
      refine lv_iconst (v := (0 : Int32)) hx hb dX0_empty_55 (by decide) ?_
      obtain ⟨N8, hN8, h⟩ := ob h
      refine r_put (x := (0 : Int32)) (ty := .int) hx hb hts hK hd hw hown inX0 tyX0 tyX0_ok nmX0 rfl (by decide) (X0_k0 hB) 11 (by decide) wd_38 rfl rfl rfl rfl (fun _ => (Nat.le_of_ble_eq_true rfl)) (fun _ => rfl) hN8 dX0_empty_56 (fun {H} {locs} hw => ?_)
      have h1 := Option.some.inj h
      subst h1
      exact r_vret hx hb hr hlk hK hd hw dX0_empty_59
    · replace h := ifn c1 h
      refine lv_aload_n hx hb dX0_empty_11 rfl (lv_at hl 0 rfl) ?_
      refine r_get (v := .ref (eA γ (o + 2))) hx hb hts hK hw hown inX0 rfl (X0_k0 hB) (st_at0 (by decide)) 1 (by decide) wd_28 rfl dX0_empty_12 ?_
      refine lv_iload_n hx hb dX0_empty_15 rfl (lv_at hl 1 rfl) ?_
      refine lv_iconst (v := (0 : Int32)) hx hb dX0_empty_16 (by decide) ?_
      obtain ⟨N9, hN9, h⟩ := ob h
      refine r_iast hx hb hK hd hw (by decide) (X0_k2 hB) hN9 dX0_empty_17 (fun {H} {locs} hw => ?_)
      obtain ⟨v10, ev10, h⟩ := jb h
      refine lv_iinc (v := v10) (lv' := [(1, .int v10), (0, .ref (eA γ o))]) hx hb dX0_empty_18 hl (k := 1) rfl (by rw [← ev10]; rfl) (by decide) rfl (fun ls hl => ?_)
      refine lv_goto (tgt := 2) hx hb dX0_empty_21 (by decide) ?_
      exact ih h hw (lv_sub hl [1, 0] rfl)
set_option maxHeartbeats 4000000 in
set_option maxRecDepth 10000 in
theorem b_X0_empty {γ : Ev} {o : Nat} {σ : Mm} {Bf : Mm} {B : Mm} (C : Cx p R s m args meth c RX0 cX0_empty 2 none 1 30 γ) (hB : isX0 γ o) (h : s_X0_empty B = some Bf) (hw : Wo γ (st 6 σ o B) s H locs) (hl : lv_has ls 2 [(0, .ref (eA γ o))]) : W p l e R s m args below meth c H locs 0 0 (MQ below (Qo γ none (st 6 σ o Bf)) args s 0 0 (AK γ)) (F0 m 0 ls []) := by
  have C0 := C
  obtain ⟨hx, hb, hr, hml, hown, hts, hlk, hK, hd, hF, hL⟩ := C
  unfold s_X0_empty at h
  refine lv_iconst (v := (0 : Int32)) hx hb dX0_empty_0 (by decide) ?_
  refine lv_istore_n (lv' := [(1, .int (0 : Int32)), (0, .ref (eA γ o))]) hx hb dX0_empty_1 rfl hl (by decide) rfl (fun ls hl => ?_)
  exact b_X0_empty_L2 C0 hB 1000 h hw (lv_sub hl [1, 0] rfl)
theorem c_X0_empty {l : Launch} {γ : Ev} {o : Nat} {σ : Mm} {Bf : Mm} {B : Mm} (hB : isX0 γ o) (h : s_X0_empty B = some Bf) : Ct l yX0_empty cX0_empty 2 none 1 30 γ [.ref (eA γ o)] (st 6 σ o B) none (st 6 σ o Bf) := Ct.of (own := RX0) (by decide +kernel) rfl (Nat.le_of_ble_eq_true rfl) (fun C hw ls hl => b_X0_empty C hB h hw hl)
set_option maxHeartbeats 4000000 in
set_option maxRecDepth 10000 in
theorem b_X0_isPlace {γ : Ev} {μ : Mm} {r : Int32} {x0 : Int32} (C : Cx p R s m args meth c RX0 cX0_isPlace 1 (some .boolean) 1 30 γ) (h : s_X0_isPlace x0 = some r) (hw : Wo γ μ s H locs) (hl : lv_has ls 1 [(0, .int x0)]) : W p l e R s m args below meth c H locs 0 0 (MQ below (Qo γ (some (.int r)) μ) args s 0 0 (AK γ)) (F0 m 0 ls []) := by
  have C0 := C
  obtain ⟨hx, hb, hr, hml, hown, hts, hlk, hK, hd, hF, hL⟩ := C
  unfold s_X0_isPlace at h
  refine lv_iload_n hx hb dX0_isPlace_0 rfl (lv_at hl 0 rfl) ?_
  refine lv_bipush (v := (-6 : Int32)) hx hb dX0_isPlace_1 (by decide) ?_
  refine lv_icmp_lt (tgt := 20) hx hb dX0_isPlace_3 (by decide) (fun c1 => ?_) (fun c1 => ?_)
  · replace h := ifp c1 h
    refine lv_iconst (v := (0 : Int32)) hx hb dX0_isPlace_20 (by decide) ?_
    have h1 := Option.some.inj h
    subst h1
    exact r_zret hx hb hr hlk hK hd hw rfl dX0_isPlace_21
  · replace h := ifn c1 h
    refine lv_iload_n hx hb dX0_isPlace_6 rfl (lv_at hl 0 rfl) ?_
    refine lv_bipush (v := (6 : Int32)) hx hb dX0_isPlace_7 (by decide) ?_
    refine lv_icmp_gt (tgt := 20) hx hb dX0_isPlace_9 (by decide) (fun c2 => ?_) (fun c2 => ?_)
    · replace h := ifp c2 h
      refine lv_iconst (v := (0 : Int32)) hx hb dX0_isPlace_20 (by decide) ?_
      have h1 := Option.some.inj h
      subst h1
      exact r_zret hx hb hr hlk hK hd hw rfl dX0_isPlace_21
    · replace h := ifn c2 h
      refine lv_iload_n hx hb dX0_isPlace_12 rfl (lv_at hl 0 rfl) ?_
      refine lv_if_eq (tgt := 20) hx hb dX0_isPlace_13 (by decide) (fun c3 => ?_) (fun c3 => ?_)
      · replace h := ifp c3 h
        refine lv_iconst (v := (0 : Int32)) hx hb dX0_isPlace_20 (by decide) ?_
        have h1 := Option.some.inj h
        subst h1
        exact r_zret hx hb hr hlk hK hd hw rfl dX0_isPlace_21
      · replace h := ifn c3 h
        refine lv_iconst (v := (1 : Int32)) hx hb dX0_isPlace_16 (by decide) ?_
        refine lv_goto (tgt := 21) hx hb dX0_isPlace_17 (by decide) ?_
        have h1 := Option.some.inj h
        subst h1
        exact r_zret hx hb hr hlk hK hd hw rfl dX0_isPlace_21
theorem c_X0_isPlace {l : Launch} {γ : Ev} {μ : Mm} {r : Int32} {x0 : Int32} (h : s_X0_isPlace x0 = some r) : Ct l yX0_isPlace cX0_isPlace 1 (some .boolean) 1 30 γ [.int x0] μ (some (.int r)) μ := Ct.of (own := RX0) (by decide +kernel) rfl (Nat.le_of_ble_eq_true rfl) (fun C hw ls hl => b_X0_isPlace C h hw hl)
set_option maxHeartbeats 4000000 in
set_option maxRecDepth 10000 in
theorem b_X0_isWeight {γ : Ev} {μ : Mm} {r : Int32} {x0 : Int32} (C : Cx p R s m args meth c RX0 cX0_isWeight 1 (some .boolean) 1 30 γ) (h : s_X0_isWeight x0 = some r) (hw : Wo γ μ s H locs) (hl : lv_has ls 1 [(0, .int x0)]) : W p l e R s m args below meth c H locs 0 0 (MQ below (Qo γ (some (.int r)) μ) args s 0 0 (AK γ)) (F0 m 0 ls []) := by
  have C0 := C
  obtain ⟨hx, hb, hr, hml, hown, hts, hlk, hK, hd, hF, hL⟩ := C
  unfold s_X0_isWeight at h
  refine lv_iload_n hx hb dX0_isWeight_0 rfl (lv_at hl 0 rfl) ?_
  refine lv_iconst (v := (1 : Int32)) hx hb dX0_isWeight_1 (by decide) ?_
  refine lv_icmp_lt (tgt := 14) hx hb dX0_isWeight_2 (by decide) (fun c1 => ?_) (fun c1 => ?_)
  · replace h := ifp c1 h
    refine lv_iconst (v := (0 : Int32)) hx hb dX0_isWeight_14 (by decide) ?_
    have h1 := Option.some.inj h
    subst h1
    exact r_zret hx hb hr hlk hK hd hw rfl dX0_isWeight_15
  · replace h := ifn c1 h
    refine lv_iload_n hx hb dX0_isWeight_5 rfl (lv_at hl 0 rfl) ?_
    refine lv_iconst (v := (5 : Int32)) hx hb dX0_isWeight_6 (by decide) ?_
    refine lv_icmp_gt (tgt := 14) hx hb dX0_isWeight_7 (by decide) (fun c2 => ?_) (fun c2 => ?_)
    · replace h := ifp c2 h
      refine lv_iconst (v := (0 : Int32)) hx hb dX0_isWeight_14 (by decide) ?_
      have h1 := Option.some.inj h
      subst h1
      exact r_zret hx hb hr hlk hK hd hw rfl dX0_isWeight_15
    · replace h := ifn c2 h
      refine lv_iconst (v := (1 : Int32)) hx hb dX0_isWeight_10 (by decide) ?_
      refine lv_goto (tgt := 15) hx hb dX0_isWeight_11 (by decide) ?_
      have h1 := Option.some.inj h
      subst h1
      exact r_zret hx hb hr hlk hK hd hw rfl dX0_isWeight_15
theorem c_X0_isWeight {l : Launch} {γ : Ev} {μ : Mm} {r : Int32} {x0 : Int32} (h : s_X0_isWeight x0 = some r) : Ct l yX0_isWeight cX0_isWeight 1 (some .boolean) 1 30 γ [.int x0] μ (some (.int r)) μ := Ct.of (own := RX0) (by decide +kernel) rfl (Nat.le_of_ble_eq_true rfl) (fun C hw ls hl => b_X0_isWeight C h hw hl)
set_option maxHeartbeats 4000000 in
set_option maxRecDepth 10000 in
theorem b_X0_isSide {γ : Ev} {μ : Mm} {r : Int32} {x0 : Int32} (C : Cx p R s m args meth c RX0 cX0_isSide 1 (some .boolean) 1 30 γ) (h : s_X0_isSide x0 = some r) (hw : Wo γ μ s H locs) (hl : lv_has ls 1 [(0, .int x0)]) : W p l e R s m args below meth c H locs 0 0 (MQ below (Qo γ (some (.int r)) μ) args s 0 0 (AK γ)) (F0 m 0 ls []) := by
  have C0 := C
  obtain ⟨hx, hb, hr, hml, hown, hts, hlk, hK, hd, hF, hL⟩ := C
  unfold s_X0_isSide at h
  refine lv_iload_n hx hb dX0_isSide_0 rfl (lv_at hl 0 rfl) ?_
  refine lv_if_eq (tgt := 9) hx hb dX0_isSide_1 (by decide) (fun c1 => ?_) (fun c1 => ?_)
  · replace h := ifp c1 h
    refine lv_iconst (v := (1 : Int32)) hx hb dX0_isSide_9 (by decide) ?_
    refine lv_goto (tgt := 14) hx hb dX0_isSide_10 (by decide) ?_
    have h1 := Option.some.inj h
    subst h1
    exact r_zret hx hb hr hlk hK hd hw rfl dX0_isSide_14
  · replace h := ifn c1 h
    refine lv_iload_n hx hb dX0_isSide_4 rfl (lv_at hl 0 rfl) ?_
    refine lv_iconst (v := (1 : Int32)) hx hb dX0_isSide_5 (by decide) ?_
    refine lv_icmp_ne (tgt := 13) hx hb dX0_isSide_6 (by decide) (fun c2 => ?_) (fun c2 => ?_)
    · replace h := ifn c2 h
      refine lv_iconst (v := (0 : Int32)) hx hb dX0_isSide_13 (by decide) ?_
      have h1 := Option.some.inj h
      subst h1
      exact r_zret hx hb hr hlk hK hd hw rfl dX0_isSide_14
    · replace h := ifp c2 h
      refine lv_iconst (v := (1 : Int32)) hx hb dX0_isSide_9 (by decide) ?_
      refine lv_goto (tgt := 14) hx hb dX0_isSide_10 (by decide) ?_
      have h1 := Option.some.inj h
      subst h1
      exact r_zret hx hb hr hlk hK hd hw rfl dX0_isSide_14
theorem c_X0_isSide {l : Launch} {γ : Ev} {μ : Mm} {r : Int32} {x0 : Int32} (h : s_X0_isSide x0 = some r) : Ct l yX0_isSide cX0_isSide 1 (some .boolean) 1 30 γ [.int x0] μ (some (.int r)) μ := Ct.of (own := RX0) (by decide +kernel) rfl (Nat.le_of_ble_eq_true rfl) (fun C hw ls hl => b_X0_isSide C h hw hl)
set_option maxHeartbeats 4000000 in
set_option maxRecDepth 10000 in
theorem b_X0_isSetting {γ : Ev} {μ : Mm} {r : Int32} {x0 : Int32} (C : Cx p R s m args meth c RX0 cX0_isSetting 1 (some .boolean) 1 30 γ) (h : s_X0_isSetting x0 = some r) (hw : Wo γ μ s H locs) (hl : lv_has ls 1 [(0, .int x0)]) : W p l e R s m args below meth c H locs 0 0 (MQ below (Qo γ (some (.int r)) μ) args s 0 0 (AK γ)) (F0 m 0 ls []) := by
  have C0 := C
  obtain ⟨hx, hb, hr, hml, hown, hts, hlk, hK, hd, hF, hL⟩ := C
  unfold s_X0_isSetting at h
  refine lv_iload_n hx hb dX0_isSetting_0 rfl (lv_at hl 0 rfl) ?_
  refine lv_if_lt (tgt := 13) hx hb dX0_isSetting_1 (by decide) (fun c1 => ?_) (fun c1 => ?_)
  · replace h := ifp c1 h
    refine lv_iconst (v := (0 : Int32)) hx hb dX0_isSetting_13 (by decide) ?_
    have h1 := Option.some.inj h
    subst h1
    exact r_zret hx hb hr hlk hK hd hw rfl dX0_isSetting_14
  · replace h := ifn c1 h
    refine lv_iload_n hx hb dX0_isSetting_4 rfl (lv_at hl 0 rfl) ?_
    refine lv_iconst (v := (4 : Int32)) hx hb dX0_isSetting_5 (by decide) ?_
    refine lv_icmp_ge (tgt := 13) hx hb dX0_isSetting_6 (by decide) (fun c2 => ?_) (fun c2 => ?_)
    · replace h := ifp c2 h
      refine lv_iconst (v := (0 : Int32)) hx hb dX0_isSetting_13 (by decide) ?_
      have h1 := Option.some.inj h
      subst h1
      exact r_zret hx hb hr hlk hK hd hw rfl dX0_isSetting_14
    · replace h := ifn c2 h
      refine lv_iconst (v := (1 : Int32)) hx hb dX0_isSetting_9 (by decide) ?_
      refine lv_goto (tgt := 14) hx hb dX0_isSetting_10 (by decide) ?_
      have h1 := Option.some.inj h
      subst h1
      exact r_zret hx hb hr hlk hK hd hw rfl dX0_isSetting_14
theorem c_X0_isSetting {l : Launch} {γ : Ev} {μ : Mm} {r : Int32} {x0 : Int32} (h : s_X0_isSetting x0 = some r) : Ct l yX0_isSetting cX0_isSetting 1 (some .boolean) 1 30 γ [.int x0] μ (some (.int r)) μ := Ct.of (own := RX0) (by decide +kernel) rfl (Nat.le_of_ble_eq_true rfl) (fun C hw ls hl => b_X0_isSetting C h hw hl)
set_option maxHeartbeats 4000000 in
set_option maxRecDepth 10000 in
theorem b_X0_leastOfSetting {γ : Ev} {μ : Mm} {r : Int32} {x0 : Int32} (C : Cx p R s m args meth c RX0 cX0_leastOfSetting 1 (some .int) 1 30 γ) (h : s_X0_leastOfSetting x0 = some r) (hw : Wo γ μ s H locs) (hl : lv_has ls 1 [(0, .int x0)]) : W p l e R s m args below meth c H locs 0 0 (MQ below (Qo γ (some (.int r)) μ) args s 0 0 (AK γ)) (F0 m 0 ls []) := by
  have C0 := C
  obtain ⟨hx, hb, hr, hml, hown, hts, hlk, hK, hd, hF, hL⟩ := C
  unfold s_X0_leastOfSetting at h
  refine lv_iload_n hx hb dX0_leastOfSetting_0 rfl (lv_at hl 0 rfl) ?_
  refine lv_if_ne (tgt := 8) hx hb dX0_leastOfSetting_1 (by decide) (fun c1 => ?_) (fun c1 => ?_)
  · replace h := ifn c1 h
    refine lv_iconst (v := (0 : Int32)) hx hb dX0_leastOfSetting_8 (by decide) ?_
    have h1 := Option.some.inj h
    subst h1
    exact r_iret hx hb hr hlk hK hd hw dX0_leastOfSetting_9
  · replace h := ifp c1 h
    refine lv_iconst (v := (1 : Int32)) hx hb dX0_leastOfSetting_4 (by decide) ?_
    refine lv_goto (tgt := 9) hx hb dX0_leastOfSetting_5 (by decide) ?_
    have h1 := Option.some.inj h
    subst h1
    exact r_iret hx hb hr hlk hK hd hw dX0_leastOfSetting_9
theorem c_X0_leastOfSetting {l : Launch} {γ : Ev} {μ : Mm} {r : Int32} {x0 : Int32} (h : s_X0_leastOfSetting x0 = some r) : Ct l yX0_leastOfSetting cX0_leastOfSetting 1 (some .int) 1 30 γ [.int x0] μ (some (.int r)) μ := Ct.of (own := RX0) (by decide +kernel) rfl (Nat.le_of_ble_eq_true rfl) (fun C hw ls hl => b_X0_leastOfSetting C h hw hl)
set_option maxHeartbeats 4000000 in
set_option maxRecDepth 10000 in
theorem b_X0_mostOfSetting {γ : Ev} {μ : Mm} {r : Int32} {x0 : Int32} (C : Cx p R s m args meth c RX0 cX0_mostOfSetting 1 (some .int) 1 30 γ) (h : s_X0_mostOfSetting x0 = some r) (hw : Wo γ μ s H locs) (hl : lv_has ls 1 [(0, .int x0)]) : W p l e R s m args below meth c H locs 0 0 (MQ below (Qo γ (some (.int r)) μ) args s 0 0 (AK γ)) (F0 m 0 ls []) := by
  have C0 := C
  obtain ⟨hx, hb, hr, hml, hown, hts, hlk, hK, hd, hF, hL⟩ := C
  unfold s_X0_mostOfSetting at h
  refine lv_iload_n hx hb dX0_mostOfSetting_0 rfl (lv_at hl 0 rfl) ?_
  by_cases c1 : x0 = (0 : Int32)
  · replace h := ifp c1 h
    refine r_lkIn (tgt := 28) (off := 27) hx hb dX0_mostOfSetting_1 c1 (by decide) (by decide) (by decide) ?_
    refine lv_iconst (v := (4 : Int32)) hx hb dX0_mostOfSetting_28 (by decide) ?_
    have h1 := Option.some.inj h
    subst h1
    exact r_iret hx hb hr hlk hK hd hw dX0_mostOfSetting_29
  replace h := ifn c1 h
  by_cases c2 : x0 = (1 : Int32)
  · replace h := ifp c2 h
    refine r_lkIn (tgt := 30) (off := 29) hx hb dX0_mostOfSetting_1 c2 (by decide) (by decide) (by decide) ?_
    refine lv_bipush (v := (40 : Int32)) hx hb dX0_mostOfSetting_30 (by decide) ?_
    have h1 := Option.some.inj h
    subst h1
    exact r_iret hx hb hr hlk hK hd hw dX0_mostOfSetting_32
  replace h := ifn c2 h
  refine lv_lookup (tgt := 33) (off := 32) hx hb dX0_mostOfSetting_1 (by decide) (lk_def (by have q0 := i32_ne (z := 0) rfl c1; have q1 := i32_ne (z := 1) rfl c2; intro q hq; simp only [List.mem_cons, List.not_mem_nil, or_false] at hq; rcases hq with rfl | rfl <;> (dsimp only; omega))) (by decide) ?_
  refine lv_iconst (v := (1 : Int32)) hx hb dX0_mostOfSetting_33 (by decide) ?_
  have h1 := Option.some.inj h
  subst h1
  exact r_iret hx hb hr hlk hK hd hw dX0_mostOfSetting_34
theorem c_X0_mostOfSetting {l : Launch} {γ : Ev} {μ : Mm} {r : Int32} {x0 : Int32} (h : s_X0_mostOfSetting x0 = some r) : Ct l yX0_mostOfSetting cX0_mostOfSetting 1 (some .int) 1 30 γ [.int x0] μ (some (.int r)) μ := Ct.of (own := RX0) (by decide +kernel) rfl (Nat.le_of_ble_eq_true rfl) (fun C hw ls hl => b_X0_mostOfSetting C h hw hl)
set_option maxHeartbeats 4000000 in
set_option maxRecDepth 10000 in
theorem b_X0_numberOf {γ : Ev} {μ : Mm} {r : Int32} {x0 : Int32} (C : Cx p R s m args meth c RX0 cX0_numberOf 1 (some .int) 1 30 γ) (h : s_X0_numberOf x0 = some r) (hw : Wo γ μ s H locs) (hl : lv_has ls 1 [(0, .int x0)]) : W p l e R s m args below meth c H locs 0 0 (MQ below (Qo γ (some (.int r)) μ) args s 0 0 (AK γ)) (F0 m 0 ls []) := by
  have C0 := C
  obtain ⟨hx, hb, hr, hml, hown, hts, hlk, hK, hd, hF, hL⟩ := C
  unfold s_X0_numberOf at h
  refine lv_iload_n hx hb dX0_numberOf_0 rfl (lv_at hl 0 rfl) ?_
  refine lv_bipush (v := (60 : Int32)) hx hb dX0_numberOf_1 (by decide) ?_
  refine lv_icmp_ge (tgt := 13) hx hb dX0_numberOf_3 (by decide) (fun c1 => ?_) (fun c1 => ?_)
  · replace h := ifp c1 h
    refine lv_iload_n hx hb dX0_numberOf_13 rfl (lv_at hl 0 rfl) ?_
    refine lv_bipush (v := (60 : Int32)) hx hb dX0_numberOf_14 (by decide) ?_
    refine lv_isub hx hb dX0_numberOf_16 ?_
    refine lv_iconst (v := (2 : Int32)) hx hb dX0_numberOf_17 (by decide) ?_
    obtain ⟨v2, hv2, h⟩ := ob h
    refine lv_irem hx hb dX0_numberOf_18 (rmi_some hv2).1 ?_
    refine r_top (rmi_some hv2).2 ?_
    refine lv_if_ne (tgt := 27) hx hb dX0_numberOf_19 (by decide) (fun c3 => ?_) (fun c3 => ?_)
    · replace h := ifn c3 h
      refine lv_bipush (v := (7 : Int32)) hx hb dX0_numberOf_27 (by decide) ?_
      have h1 := Option.some.inj h
      subst h1
      exact r_iret hx hb hr hlk hK hd hw dX0_numberOf_29
    · replace h := ifp c3 h
      refine lv_bipush (v := (6 : Int32)) hx hb dX0_numberOf_22 (by decide) ?_
      refine lv_goto (tgt := 29) hx hb dX0_numberOf_24 (by decide) ?_
      have h1 := Option.some.inj h
      subst h1
      exact r_iret hx hb hr hlk hK hd hw dX0_numberOf_29
  · replace h := ifn c1 h
    refine lv_iconst (v := (1 : Int32)) hx hb dX0_numberOf_6 (by decide) ?_
    refine lv_iload_n hx hb dX0_numberOf_7 rfl (lv_at hl 0 rfl) ?_
    refine lv_bipush (v := (12 : Int32)) hx hb dX0_numberOf_8 (by decide) ?_
    obtain ⟨v4, hv4, h⟩ := ob h
    refine lv_idiv hx hb dX0_numberOf_10 (dvi_some hv4).1 ?_
    refine r_top (dvi_some hv4).2 ?_
    refine lv_iadd hx hb dX0_numberOf_11 ?_
    have h1 := Option.some.inj h
    subst h1
    exact r_iret hx hb hr hlk hK hd hw dX0_numberOf_12
theorem c_X0_numberOf {l : Launch} {γ : Ev} {μ : Mm} {r : Int32} {x0 : Int32} (h : s_X0_numberOf x0 = some r) : Ct l yX0_numberOf cX0_numberOf 1 (some .int) 1 30 γ [.int x0] μ (some (.int r)) μ := Ct.of (own := RX0) (by decide +kernel) rfl (Nat.le_of_ble_eq_true rfl) (fun C hw ls hl => b_X0_numberOf C h hw hl)
set_option maxHeartbeats 4000000 in
set_option maxRecDepth 10000 in
theorem b_X0_placeOf {γ : Ev} {μ : Mm} {r : Int32} {x0 : Int32} (C : Cx p R s m args meth c RX0 cX0_placeOf 2 (some .int) 1 30 γ) (h : s_X0_placeOf x0 = some r) (hw : Wo γ μ s H locs) (hl : lv_has ls 2 [(0, .int x0)]) : W p l e R s m args below meth c H locs 0 0 (MQ below (Qo γ (some (.int r)) μ) args s 0 0 (AK γ)) (F0 m 0 ls []) := by
  have C0 := C
  obtain ⟨hx, hb, hr, hml, hown, hts, hlk, hK, hd, hF, hL⟩ := C
  unfold s_X0_placeOf at h
  refine lv_iload_n hx hb dX0_placeOf_0 rfl (lv_at hl 0 rfl) ?_
  refine lv_bipush (v := (60 : Int32)) hx hb dX0_placeOf_1 (by decide) ?_
  refine jn_elim h (fun (k : Int32 → Option Int32) => ∀ (v5 : Int32) {H : Heap} {locs : List Loc} {ls : Array Slot}, k v5 = some r → Wo γ μ s H locs → lv_has ls 2 [] → W p l e R s m args below meth c H locs 0 0 (MQ below (Qo γ (some (.int r)) μ) args s 0 0 (AK γ)) (F0 m 19 ls [.int v5])) ?_ ?_
  · intro v5 H locs ls h hw hl
    refine lv_istore_n (lv' := [(1, .int v5)]) hx hb dX0_placeOf_19 rfl hl (by decide) rfl (fun ls hl => ?_)
    refine lv_iload_n hx hb dX0_placeOf_20 rfl (lv_at hl 0 rfl) ?_
    refine lv_bipush (v := (6 : Int32)) hx hb dX0_placeOf_21 (by decide) ?_
    refine lv_icmp_ge (tgt := 33) hx hb dX0_placeOf_23 (by decide) (fun c6 => ?_) (fun c6 => ?_)
    · replace h := ifp c6 h
      refine lv_iload_n hx hb dX0_placeOf_33 rfl (lv_at hl 0 rfl) ?_
      refine lv_bipush (v := (6 : Int32)) hx hb dX0_placeOf_34 (by decide) ?_
      refine lv_isub hx hb dX0_placeOf_36 ?_
      refine lv_iconst (v := (1 : Int32)) hx hb dX0_placeOf_37 (by decide) ?_
      refine lv_iadd hx hb dX0_placeOf_38 ?_
      have h1 := Option.some.inj h
      subst h1
      exact r_iret hx hb hr hlk hK hd hw dX0_placeOf_39
    · replace h := ifn c6 h
      refine lv_iload_n hx hb dX0_placeOf_26 rfl (lv_at hl 0 rfl) ?_
      refine lv_bipush (v := (6 : Int32)) hx hb dX0_placeOf_27 (by decide) ?_
      refine lv_isub hx hb dX0_placeOf_29 ?_
      refine lv_goto (tgt := 39) hx hb dX0_placeOf_30 (by decide) ?_
      have h1 := Option.some.inj h
      subst h1
      exact r_iret hx hb hr hlk hK hd hw dX0_placeOf_39
  intro k4 J_k4 h
  refine lv_icmp_ge (tgt := 13) hx hb dX0_placeOf_3 (by decide) (fun c7 => ?_) (fun c7 => ?_)
  · replace h := ifp c7 h
    refine lv_iload_n hx hb dX0_placeOf_13 rfl (lv_at hl 0 rfl) ?_
    refine lv_bipush (v := (60 : Int32)) hx hb dX0_placeOf_14 (by decide) ?_
    refine lv_isub hx hb dX0_placeOf_16 ?_
    refine lv_iconst (v := (2 : Int32)) hx hb dX0_placeOf_17 (by decide) ?_
    obtain ⟨v8, hv8, h⟩ := ob h
    refine lv_idiv hx hb dX0_placeOf_18 (dvi_some hv8).1 ?_
    refine r_top (dvi_some hv8).2 ?_
    exact J_k4 v8 h hw (lv_sub hl [] rfl)
  · replace h := ifn c7 h
    refine lv_iload_n hx hb dX0_placeOf_6 rfl (lv_at hl 0 rfl) ?_
    refine lv_bipush (v := (12 : Int32)) hx hb dX0_placeOf_7 (by decide) ?_
    obtain ⟨v9, hv9, h⟩ := ob h
    refine lv_irem hx hb dX0_placeOf_9 (rmi_some hv9).1 ?_
    refine r_top (rmi_some hv9).2 ?_
    refine lv_goto (tgt := 19) hx hb dX0_placeOf_10 (by decide) ?_
    exact J_k4 v9 h hw (lv_sub hl [] rfl)
theorem c_X0_placeOf {l : Launch} {γ : Ev} {μ : Mm} {r : Int32} {x0 : Int32} (h : s_X0_placeOf x0 = some r) : Ct l yX0_placeOf cX0_placeOf 2 (some .int) 1 30 γ [.int x0] μ (some (.int r)) μ := Ct.of (own := RX0) (by decide +kernel) rfl (Nat.le_of_ble_eq_true rfl) (fun C hw ls hl => b_X0_placeOf C h hw hl)
set_option maxHeartbeats 4000000 in
set_option maxRecDepth 10000 in
theorem b_X0_slotOf {γ : Ev} {μ : Mm} {r : Int32} {x0 : Int32} (C : Cx p R s m args meth c RX0 cX0_slotOf 1 (some .int) 1 30 γ) (h : s_X0_slotOf x0 = some r) (hw : Wo γ μ s H locs) (hl : lv_has ls 1 [(0, .int x0)]) : W p l e R s m args below meth c H locs 0 0 (MQ below (Qo γ (some (.int r)) μ) args s 0 0 (AK γ)) (F0 m 0 ls []) := by
  have C0 := C
  obtain ⟨hx, hb, hr, hml, hown, hts, hlk, hK, hd, hF, hL⟩ := C
  unfold s_X0_slotOf at h
  refine lv_iload_n hx hb dX0_slotOf_0 rfl (lv_at hl 0 rfl) ?_
  refine lv_if_ge (tgt := 11) hx hb dX0_slotOf_1 (by decide) (fun c1 => ?_) (fun c1 => ?_)
  · replace h := ifp c1 h
    refine lv_iload_n hx hb dX0_slotOf_11 rfl (lv_at hl 0 rfl) ?_
    refine lv_bipush (v := (6 : Int32)) hx hb dX0_slotOf_12 (by decide) ?_
    refine lv_iadd hx hb dX0_slotOf_14 ?_
    refine lv_iconst (v := (1 : Int32)) hx hb dX0_slotOf_15 (by decide) ?_
    refine lv_isub hx hb dX0_slotOf_16 ?_
    have h1 := Option.some.inj h
    subst h1
    exact r_iret hx hb hr hlk hK hd hw dX0_slotOf_17
  · replace h := ifn c1 h
    refine lv_iload_n hx hb dX0_slotOf_4 rfl (lv_at hl 0 rfl) ?_
    refine lv_bipush (v := (6 : Int32)) hx hb dX0_slotOf_5 (by decide) ?_
    refine lv_iadd hx hb dX0_slotOf_7 ?_
    refine lv_goto (tgt := 17) hx hb dX0_slotOf_8 (by decide) ?_
    have h1 := Option.some.inj h
    subst h1
    exact r_iret hx hb hr hlk hK hd hw dX0_slotOf_17
theorem c_X0_slotOf {l : Launch} {γ : Ev} {μ : Mm} {r : Int32} {x0 : Int32} (h : s_X0_slotOf x0 = some r) : Ct l yX0_slotOf cX0_slotOf 1 (some .int) 1 30 γ [.int x0] μ (some (.int r)) μ := Ct.of (own := RX0) (by decide +kernel) rfl (Nat.le_of_ble_eq_true rfl) (fun C hw ls hl => b_X0_slotOf C h hw hl)
set_option maxHeartbeats 4000000 in
set_option maxRecDepth 10000 in
theorem b_X0_heightAt {γ : Ev} {o : Nat} {σ : Mm} {r : Int32} {B : Mm} {x1 : Int32} (C : Cx p R s m args meth c RX0 cX0_heightAt 2 (some .int) 2 50 γ) (hB : isX0 γ o) (h : s_X0_heightAt B x1 = some r) (hw : Wo γ (st 6 σ o B) s H locs) (hl : lv_has ls 2 [(0, .ref (eA γ o)), (1, .int x1)]) : W p l e R s m args below meth c H locs 0 0 (MQ below (Qo γ (some (.int r)) (st 6 σ o B)) args s 0 0 (AK γ)) (F0 m 0 ls []) := by
  have C0 := C
  obtain ⟨hx, hb, hr, hml, hown, hts, hlk, hK, hd, hF, hL⟩ := C
  unfold s_X0_heightAt at h
  refine lv_iload_n hx hb dX0_heightAt_0 rfl (lv_at hl 1 rfl) ?_
  obtain ⟨v1, hv1, h⟩ := ob h
  refine r_Si (rest := []) C0 z0 (c_X0_isPlace hv1) lk_X0_53 hl.1 rfl (Nat.le_of_ble_eq_true rfl) (by decide) hw dX0_heightAt_1 (fun {H} {locs} hw => ?_)
  refine lv_if_eq (tgt := 19) hx hb dX0_heightAt_4 (by decide) (fun c2 => ?_) (fun c2 => ?_)
  · replace h := ifp c2 h
    refine lv_iconst (v := (0 : Int32)) hx hb dX0_heightAt_19 (by decide) ?_
    have h1 := Option.some.inj h
    subst h1
    exact r_iret hx hb hr hlk hK hd hw dX0_heightAt_20
  · replace h := ifn c2 h
    refine lv_aload_n hx hb dX0_heightAt_7 rfl (lv_at hl 0 rfl) ?_
    refine r_get (v := .ref (eA γ (o + 2))) hx hb hts hK hw hown inX0 rfl (X0_k0 hB) (st_at0 (by decide)) 1 (by decide) wd_28 rfl dX0_heightAt_8 ?_
    refine lv_iload_n hx hb dX0_heightAt_11 rfl (lv_at hl 1 rfl) ?_
    obtain ⟨v3, hv3, h⟩ := ob h
    refine r_Si (rest := [.ref (eA γ (o + 2))]) C0 z0 (c_X0_slotOf hv3) lk_X0_57 hl.1 rfl (Nat.le_of_ble_eq_true rfl) (by decide) hw dX0_heightAt_12 (fun {H} {locs} hw => ?_)
    obtain ⟨v4, hv4, h⟩ := ob h
    refine r_iald hx hb hK hw (X0_k2 hB) (st_at (by decide)) hv4 dX0_heightAt_15 ?_
    refine lv_goto (tgt := 20) hx hb dX0_heightAt_16 (by decide) ?_
    have h1 := Option.some.inj h
    subst h1
    exact r_iret hx hb hr hlk hK hd hw dX0_heightAt_20
theorem c_X0_heightAt {l : Launch} {γ : Ev} {o : Nat} {σ : Mm} {r : Int32} {B : Mm} {x1 : Int32} (hB : isX0 γ o) (h : s_X0_heightAt B x1 = some r) : Ct l yX0_heightAt cX0_heightAt 2 (some .int) 2 50 γ [.ref (eA γ o), .int x1] (st 6 σ o B) (some (.int r)) (st 6 σ o B) := Ct.of (own := RX0) (by decide +kernel) rfl (Nat.le_of_ble_eq_true rfl) (fun C hw ls hl => b_X0_heightAt C hB h hw hl)
set_option maxHeartbeats 4000000 in
set_option maxRecDepth 10000 in
theorem b_X0_weightAt {γ : Ev} {o : Nat} {σ : Mm} {r : Int32} {B : Mm} {x1 x2 : Int32} (C : Cx p R s m args meth c RX0 cX0_weightAt 3 (some .int) 2 50 γ) (hB : isX0 γ o) (h : s_X0_weightAt B x1 x2 = some r) (hw : Wo γ (st 6 σ o B) s H locs) (hl : lv_has ls 3 [(0, .ref (eA γ o)), (1, .int x1), (2, .int x2)]) : W p l e R s m args below meth c H locs 0 0 (MQ below (Qo γ (some (.int r)) (st 6 σ o B)) args s 0 0 (AK γ)) (F0 m 0 ls []) := by
  have C0 := C
  obtain ⟨hx, hb, hr, hml, hown, hts, hlk, hK, hd, hF, hL⟩ := C
  unfold s_X0_weightAt at h
  refine lv_iload_n hx hb dX0_weightAt_0 rfl (lv_at hl 1 rfl) ?_
  obtain ⟨v1, hv1, h⟩ := ob h
  refine r_Si (rest := []) C0 z0 (c_X0_isPlace hv1) lk_X0_53 hl.1 rfl (Nat.le_of_ble_eq_true rfl) (by decide) hw dX0_weightAt_1 (fun {H} {locs} hw => ?_)
  refine lv_if_eq (tgt := 16) hx hb dX0_weightAt_4 (by decide) (fun c2 => ?_) (fun c2 => ?_)
  · replace h := ifp c2 h
    refine lv_iconst (v := (0 : Int32)) hx hb dX0_weightAt_16 (by decide) ?_
    have h1 := Option.some.inj h
    subst h1
    exact r_iret hx hb hr hlk hK hd hw dX0_weightAt_17
  · replace h := ifn c2 h
    refine lv_iload_n hx hb dX0_weightAt_7 rfl (lv_at hl 2 rfl) ?_
    refine lv_if_lt (tgt := 16) hx hb dX0_weightAt_8 (by decide) (fun c3 => ?_) (fun c3 => ?_)
    · replace h := ifp c3 h
      refine lv_iconst (v := (0 : Int32)) hx hb dX0_weightAt_16 (by decide) ?_
      have h1 := Option.some.inj h
      subst h1
      exact r_iret hx hb hr hlk hK hd hw dX0_weightAt_17
    · replace h := ifn c3 h
      refine lv_iload_n hx hb dX0_weightAt_11 rfl (lv_at hl 2 rfl) ?_
      refine lv_iconst (v := (4 : Int32)) hx hb dX0_weightAt_12 (by decide) ?_
      refine lv_icmp_lt (tgt := 18) hx hb dX0_weightAt_13 (by decide) (fun c4 => ?_) (fun c4 => ?_)
      · replace h := ifp c4 h
        refine lv_aload_n hx hb dX0_weightAt_18 rfl (lv_at hl 0 rfl) ?_
        refine r_get (v := .ref (eA γ (o + 1))) hx hb hts hK hw hown inX0 rfl (X0_k0 hB) (st_at0 (by decide)) 0 (by decide) wd_27 rfl dX0_weightAt_19 ?_
        refine lv_iload_n hx hb dX0_weightAt_22 rfl (lv_at hl 1 rfl) ?_
        obtain ⟨v5, hv5, h⟩ := ob h
        refine r_Si (rest := [.ref (eA γ (o + 1))]) C0 z0 (c_X0_slotOf hv5) lk_X0_57 hl.1 rfl (Nat.le_of_ble_eq_true rfl) (by decide) hw dX0_weightAt_23 (fun {H} {locs} hw => ?_)
        refine lv_iconst (v := (4 : Int32)) hx hb dX0_weightAt_26 (by decide) ?_
        refine lv_imul hx hb dX0_weightAt_27 ?_
        refine lv_iload_n hx hb dX0_weightAt_28 rfl (lv_at hl 2 rfl) ?_
        refine lv_iadd hx hb dX0_weightAt_29 ?_
        obtain ⟨v6, hv6, h⟩ := ob h
        refine r_iald hx hb hK hw (X0_k1 hB) (st_at (by decide)) hv6 dX0_weightAt_30 ?_
        have h1 := Option.some.inj h
        subst h1
        exact r_iret hx hb hr hlk hK hd hw dX0_weightAt_31
      · replace h := ifn c4 h
        refine lv_iconst (v := (0 : Int32)) hx hb dX0_weightAt_16 (by decide) ?_
        have h1 := Option.some.inj h
        subst h1
        exact r_iret hx hb hr hlk hK hd hw dX0_weightAt_17
theorem c_X0_weightAt {l : Launch} {γ : Ev} {o : Nat} {σ : Mm} {r : Int32} {B : Mm} {x1 x2 : Int32} (hB : isX0 γ o) (h : s_X0_weightAt B x1 x2 = some r) : Ct l yX0_weightAt cX0_weightAt 3 (some .int) 2 50 γ [.ref (eA γ o), .int x1, .int x2] (st 6 σ o B) (some (.int r)) (st 6 σ o B) := Ct.of (own := RX0) (by decide +kernel) rfl (Nat.le_of_ble_eq_true rfl) (fun C hw ls hl => b_X0_weightAt C hB h hw hl)
set_option maxHeartbeats 4000000 in
set_option maxRecDepth 10000 in
theorem b_X0_uppermostAt {γ : Ev} {o : Nat} {σ : Mm} {r : Int32} {B : Mm} {x1 : Int32} (C : Cx p R s m args meth c RX0 cX0_uppermostAt 2 (some .int) 3 72 γ) (hB : isX0 γ o) (h : s_X0_uppermostAt B x1 = some r) (hw : Wo γ (st 6 σ o B) s H locs) (hl : lv_has ls 2 [(0, .ref (eA γ o)), (1, .int x1)]) : W p l e R s m args below meth c H locs 0 0 (MQ below (Qo γ (some (.int r)) (st 6 σ o B)) args s 0 0 (AK γ)) (F0 m 0 ls []) := by
  have C0 := C
  obtain ⟨hx, hb, hr, hml, hown, hts, hlk, hK, hd, hF, hL⟩ := C
  unfold s_X0_uppermostAt at h
  refine lv_aload_n hx hb dX0_uppermostAt_0 rfl (lv_at hl 0 rfl) ?_
  refine lv_iload_n hx hb dX0_uppermostAt_1 rfl (lv_at hl 1 rfl) ?_
  refine lv_aload_n hx hb dX0_uppermostAt_2 rfl (lv_at hl 0 rfl) ?_
  refine lv_iload_n hx hb dX0_uppermostAt_3 rfl (lv_at hl 1 rfl) ?_
  obtain ⟨v1, hv1, h⟩ := ob h
  refine r_Vi (rest := [.int x1, .ref (eA γ o)]) C0 z0 (c_X0_heightAt hB hv1) lk_X0_61 (X0_k0 hB) rfl rfl hl.1 rfl (Nat.le_of_ble_eq_true rfl) (by decide) hw dX0_uppermostAt_4 (fun {H} {locs} hw => ?_)
  refine lv_iconst (v := (1 : Int32)) hx hb dX0_uppermostAt_7 (by decide) ?_
  refine lv_isub hx hb dX0_uppermostAt_8 ?_
  obtain ⟨v2, hv2, h⟩ := ob h
  refine r_Vi (rest := []) C0 z0 (c_X0_weightAt hB hv2) lk_X0_64 (X0_k0 hB) rfl rfl hl.1 rfl (Nat.le_of_ble_eq_true rfl) (by decide) hw dX0_uppermostAt_9 (fun {H} {locs} hw => ?_)
  have h1 := Option.some.inj h
  subst h1
  exact r_iret hx hb hr hlk hK hd hw dX0_uppermostAt_12
theorem c_X0_uppermostAt {l : Launch} {γ : Ev} {o : Nat} {σ : Mm} {r : Int32} {B : Mm} {x1 : Int32} (hB : isX0 γ o) (h : s_X0_uppermostAt B x1 = some r) : Ct l yX0_uppermostAt cX0_uppermostAt 2 (some .int) 3 72 γ [.ref (eA γ o), .int x1] (st 6 σ o B) (some (.int r)) (st 6 σ o B) := Ct.of (own := RX0) (by decide +kernel) rfl (Nat.le_of_ble_eq_true rfl) (fun C hw ls hl => b_X0_uppermostAt C hB h hw hl)
set_option maxHeartbeats 4000000 in
set_option maxRecDepth 10000 in
theorem b_X0_weightsAt_L11 {γ : Ev} {o : Nat} {σ : Mm} {r : Int32} (C : Cx p R s m args meth c RX0 cX0_weightsAt 5 (some .int) 3 72 γ) (hB : isX0 γ o) : ∀ (n : Nat) {B : Mm} {x1 : Int32} {x2 : Int32} {x3 : Int32} {x4 : Int32} {H : Heap} {locs : List Loc} {ls : Array Slot}, s_X0_weightsAt_L11 n B x1 x2 x3 x4 = some r → Wo γ (st 6 σ o B) s H locs → lv_has ls 5 [(0, .ref (eA γ o)), (1, .int x1), (2, .int x2), (3, .int x3), (4, .int x4)] → W p l e R s m args below meth c H locs 0 0 (MQ below (Qo γ (some (.int r)) (st 6 σ o B)) args s 0 0 (AK γ)) (F0 m 11 ls []) := by
  have C0 := C
  obtain ⟨hx, hb, hr, hml, hown, hts, hlk, hK, hd, hF, hL⟩ := C
  intro n
  induction n with
  | zero => intro B x1 x2 x3 x4 H locs ls h; cases h
  | succ n ih =>
    intro B x1 x2 x3 x4 H locs ls h hw hl
    unfold s_X0_weightsAt_L11 at h
    refine lv_iload hx hb dX0_weightsAt_11 (lv_at hl 4 rfl) ?_
    refine lv_iload_n hx hb dX0_weightsAt_13 rfl (lv_at hl 3 rfl) ?_
    refine lv_icmp_ge (tgt := 33) hx hb dX0_weightsAt_14 (by decide) (fun c2 => ?_) (fun c2 => ?_)
    · replace h := ifp c2 h
      refine lv_iload_n hx hb dX0_weightsAt_33 rfl (lv_at hl 2 rfl) ?_
      have h1 := Option.some.inj h
      subst h1
      exact r_iret hx hb hr hlk hK hd hw dX0_weightsAt_34
    · replace h := ifn c2 h
      refine lv_iload_n hx hb dX0_weightsAt_17 rfl (lv_at hl 2 rfl) ?_
      refine lv_aload_n hx hb dX0_weightsAt_18 rfl (lv_at hl 0 rfl) ?_
      refine lv_iload_n hx hb dX0_weightsAt_19 rfl (lv_at hl 1 rfl) ?_
      refine lv_iload hx hb dX0_weightsAt_20 (lv_at hl 4 rfl) ?_
      obtain ⟨v3, hv3, h⟩ := ob h
      refine r_Vi (rest := [.int x2]) C0 z0 (c_X0_weightAt hB hv3) lk_X0_64 (X0_k0 hB) rfl rfl hl.1 rfl (Nat.le_of_ble_eq_true rfl) (by decide) hw dX0_weightsAt_22 (fun {H} {locs} hw => ?_)
      refine lv_iadd hx hb dX0_weightsAt_25 ?_
      obtain ⟨v4, ev4, h⟩ := jb h
      refine r_top ev4 ?_
      refine lv_istore_n (lv' := [(2, .int v4), (0, .ref (eA γ o)), (1, .int x1), (3, .int x3), (4, .int x4)]) hx hb dX0_weightsAt_26 rfl hl (by decide) rfl (fun ls hl => ?_)
      obtain ⟨v5, ev5, h⟩ := jb h
      refine lv_iinc (v := v5) (lv' := [(4, .int v5), (2, .int v4), (0, .ref (eA γ o)), (1, .int x1), (3, .int x3)]) hx hb dX0_weightsAt_27 hl (k := 4) rfl (by rw [← ev5]; rfl) (by decide) rfl (fun ls hl => ?_)
      refine lv_goto (tgt := 11) hx hb dX0_weightsAt_30 (by decide) ?_
      exact ih h hw (lv_sub hl [2, 3, 1, 4, 0] rfl)
set_option maxHeartbeats 4000000 in
set_option maxRecDepth 10000 in
theorem b_X0_weightsAt {γ : Ev} {o : Nat} {σ : Mm} {r : Int32} {B : Mm} {x1 : Int32} (C : Cx p R s m args meth c RX0 cX0_weightsAt 5 (some .int) 3 72 γ) (hB : isX0 γ o) (h : s_X0_weightsAt B x1 = some r) (hw : Wo γ (st 6 σ o B) s H locs) (hl : lv_has ls 5 [(0, .ref (eA γ o)), (1, .int x1)]) : W p l e R s m args below meth c H locs 0 0 (MQ below (Qo γ (some (.int r)) (st 6 σ o B)) args s 0 0 (AK γ)) (F0 m 0 ls []) := by
  have C0 := C
  obtain ⟨hx, hb, hr, hml, hown, hts, hlk, hK, hd, hF, hL⟩ := C
  unfold s_X0_weightsAt at h
  refine lv_iconst (v := (0 : Int32)) hx hb dX0_weightsAt_0 (by decide) ?_
  refine lv_istore_n (lv' := [(2, .int (0 : Int32)), (0, .ref (eA γ o)), (1, .int x1)]) hx hb dX0_weightsAt_1 rfl hl (by decide) rfl (fun ls hl => ?_)
  refine lv_aload_n hx hb dX0_weightsAt_2 rfl (lv_at hl 1 rfl) ?_
  refine lv_iload_n hx hb dX0_weightsAt_3 rfl (lv_at hl 2 rfl) ?_
  obtain ⟨v1, hv1, h⟩ := ob h
  refine r_Vi (rest := []) C0 z0 (c_X0_heightAt hB hv1) lk_X0_61 (X0_k0 hB) rfl rfl hl.1 rfl (Nat.le_of_ble_eq_true rfl) (by decide) hw dX0_weightsAt_4 (fun {H} {locs} hw => ?_)
  refine lv_istore_n (lv' := [(3, .int v1), (2, .int (0 : Int32)), (0, .ref (eA γ o)), (1, .int x1)]) hx hb dX0_weightsAt_7 rfl hl (by decide) rfl (fun ls hl => ?_)
  refine lv_iconst (v := (0 : Int32)) hx hb dX0_weightsAt_8 (by decide) ?_
  refine lv_istore (lv' := [(4, .int (0 : Int32)), (3, .int v1), (2, .int (0 : Int32)), (0, .ref (eA γ o)), (1, .int x1)]) hx hb dX0_weightsAt_9 hl (by decide) rfl (fun ls hl => ?_)
  exact b_X0_weightsAt_L11 C0 hB 1000 h hw (lv_sub hl [3, 4, 2, 1, 0] rfl)
theorem c_X0_weightsAt {l : Launch} {γ : Ev} {o : Nat} {σ : Mm} {r : Int32} {B : Mm} {x1 : Int32} (hB : isX0 γ o) (h : s_X0_weightsAt B x1 = some r) : Ct l yX0_weightsAt cX0_weightsAt 5 (some .int) 3 72 γ [.ref (eA γ o), .int x1] (st 6 σ o B) (some (.int r)) (st 6 σ o B) := Ct.of (own := RX0) (by decide +kernel) rfl (Nat.le_of_ble_eq_true rfl) (fun C hw ls hl => b_X0_weightsAt C hB h hw hl)
set_option maxHeartbeats 4000000 in
set_option maxRecDepth 10000 in
theorem b_X0_isFull {γ : Ev} {o : Nat} {σ : Mm} {r : Int32} {B : Mm} {x1 : Int32} (C : Cx p R s m args meth c RX0 cX0_isFull 2 (some .boolean) 3 71 γ) (hB : isX0 γ o) (h : s_X0_isFull B x1 = some r) (hw : Wo γ (st 6 σ o B) s H locs) (hl : lv_has ls 2 [(0, .ref (eA γ o)), (1, .int x1)]) : W p l e R s m args below meth c H locs 0 0 (MQ below (Qo γ (some (.int r)) (st 6 σ o B)) args s 0 0 (AK γ)) (F0 m 0 ls []) := by
  have C0 := C
  obtain ⟨hx, hb, hr, hml, hown, hts, hlk, hK, hd, hF, hL⟩ := C
  unfold s_X0_isFull at h
  refine lv_aload_n hx hb dX0_isFull_0 rfl (lv_at hl 0 rfl) ?_
  refine lv_iload_n hx hb dX0_isFull_1 rfl (lv_at hl 1 rfl) ?_
  obtain ⟨v1, hv1, h⟩ := ob h
  refine r_Vi (rest := []) C0 z0 (c_X0_heightAt hB hv1) lk_X0_61 (X0_k0 hB) rfl rfl hl.1 rfl (Nat.le_of_ble_eq_true rfl) (by decide) hw dX0_isFull_2 (fun {H} {locs} hw => ?_)
  refine lv_aload_n hx hb dX0_isFull_5 rfl (lv_at hl 0 rfl) ?_
  refine r_get (v := .ref (eA γ (o + 4))) hx hb hts hK hw hown inX0 rfl (X0_k0 hB) (st_at0 (by decide)) 3 (by decide) wd_30 rfl dX0_isFull_6 ?_
  refine lv_iconst (v := (0 : Int32)) hx hb dX0_isFull_9 (by decide) ?_
  obtain ⟨v2, hv2, h⟩ := ob h
  refine r_iald hx hb hK hw (X0_k4 hB) (st_at (by decide)) hv2 dX0_isFull_10 ?_
  refine lv_icmp_lt (tgt := 18) hx hb dX0_isFull_11 (by decide) (fun c3 => ?_) (fun c3 => ?_)
  · replace h := ifp c3 h
    refine lv_iconst (v := (0 : Int32)) hx hb dX0_isFull_18 (by decide) ?_
    have h1 := Option.some.inj h
    subst h1
    exact r_zret hx hb hr hlk hK hd hw rfl dX0_isFull_19
  · replace h := ifn c3 h
    refine lv_iconst (v := (1 : Int32)) hx hb dX0_isFull_14 (by decide) ?_
    refine lv_goto (tgt := 19) hx hb dX0_isFull_15 (by decide) ?_
    have h1 := Option.some.inj h
    subst h1
    exact r_zret hx hb hr hlk hK hd hw rfl dX0_isFull_19
theorem c_X0_isFull {l : Launch} {γ : Ev} {o : Nat} {σ : Mm} {r : Int32} {B : Mm} {x1 : Int32} (hB : isX0 γ o) (h : s_X0_isFull B x1 = some r) : Ct l yX0_isFull cX0_isFull 2 (some .boolean) 3 71 γ [.ref (eA γ o), .int x1] (st 6 σ o B) (some (.int r)) (st 6 σ o B) := Ct.of (own := RX0) (by decide +kernel) rfl (Nat.le_of_ble_eq_true rfl) (fun C hw ls hl => b_X0_isFull C hB h hw hl)
set_option maxHeartbeats 4000000 in
set_option maxRecDepth 10000 in
theorem b_X0_putOn {γ : Ev} {o : Nat} {σ : Mm} {Bf : Mm} {B : Mm} {x1 x2 : Int32} (C : Cx p R s m args meth c RX0 cX0_putOn 4 none 3 71 γ) (hB : isX0 γ o) (h : s_X0_putOn B x1 x2 = some Bf) (hw : Wo γ (st 6 σ o B) s H locs) (hl : lv_has ls 4 [(0, .ref (eA γ o)), (1, .int x1), (2, .int x2)]) : W p l e R s m args below meth c H locs 0 0 (MQ below (Qo γ none (st 6 σ o Bf)) args s 0 0 (AK γ)) (F0 m 0 ls []) := by
  have C0 := C
  obtain ⟨hx, hb, hr, hml, hown, hts, hlk, hK, hd, hF, hL⟩ := C
  unfold s_X0_putOn at h
  refine lv_aload_n hx hb dX0_putOn_0 rfl (lv_at hl 0 rfl) ?_
  refine lv_iload_n hx hb dX0_putOn_1 rfl (lv_at hl 2 rfl) ?_
  obtain ⟨v1, hv1, h⟩ := ob h
  refine r_Vi (rest := []) C0 z0 (c_X0_heightAt hB hv1) lk_X0_61 (X0_k0 hB) rfl rfl hl.1 rfl (Nat.le_of_ble_eq_true rfl) (by decide) hw dX0_putOn_2 (fun {H} {locs} hw => ?_)
  refine lv_istore_n (lv' := [(3, .int v1), (0, .ref (eA γ o)), (1, .int x1), (2, .int x2)]) hx hb dX0_putOn_5 rfl hl (by decide) rfl (fun ls hl => ?_)
  refine lv_iload_n hx hb dX0_putOn_6 rfl (lv_at hl 3 rfl) ?_
  obtain ⟨v2, hv2, h⟩ := ob h
  refine r_Si (rest := []) C0 z0 (c_X0_isPlace hv2) lk_X0_53 hl.1 rfl (Nat.le_of_ble_eq_true rfl) (by decide) hw dX0_putOn_7 (fun {H} {locs} hw => ?_)
  refine lv_if_eq (tgt := 22) hx hb dX0_putOn_10 (by decide) (fun c3 => ?_) (fun c3 => ?_)
  · replace h := ifp c3 h
    have h1 := Option.some.inj h
    subst h1
    exact r_vret hx hb hr hlk hK hd hw dX0_putOn_22
  · replace h := ifn c3 h
    refine lv_iload_n hx hb dX0_putOn_13 rfl (lv_at hl 0 rfl) ?_
    refine lv_if_lt (tgt := 22) hx hb dX0_putOn_14 (by decide) (fun c4 => ?_) (fun c4 => ?_)
    · replace h := ifp c4 h
      have h1 := Option.some.inj h
      subst h1
      exact r_vret hx hb hr hlk hK hd hw dX0_putOn_22
    · replace h := ifn c4 h
      refine lv_iload_n hx hb dX0_putOn_17 rfl (lv_at hl 0 rfl) ?_
      refine lv_iconst (v := (4 : Int32)) hx hb dX0_putOn_18 (by decide) ?_
      refine lv_icmp_lt (tgt := 23) hx hb dX0_putOn_19 (by decide) (fun c5 => ?_) (fun c5 => ?_)
      · replace h := ifp c5 h
        refine lv_aload_n hx hb dX0_putOn_23 rfl (lv_at hl 1 rfl) ?_
        refine r_get (v := .ref (eA γ (o + 1))) hx hb hts hK hw hown inX0 rfl (X0_k0 hB) (st_at0 (by decide)) 0 (by decide) wd_27 rfl dX0_putOn_24 ?_
        refine lv_iload_n hx hb dX0_putOn_27 rfl (lv_at hl 3 rfl) ?_
        obtain ⟨v6, hv6, h⟩ := ob h
        refine r_Si (rest := [.ref (eA γ (o + 1))]) C0 z0 (c_X0_slotOf hv6) lk_X0_57 hl.1 rfl (Nat.le_of_ble_eq_true rfl) (by decide) hw dX0_putOn_28 (fun {H} {locs} hw => ?_)
        refine lv_iconst (v := (4 : Int32)) hx hb dX0_putOn_31 (by decide) ?_
        refine lv_imul hx hb dX0_putOn_32 ?_
        refine lv_iload_n hx hb dX0_putOn_33 rfl (lv_at hl 0 rfl) ?_
        refine lv_iadd hx hb dX0_putOn_34 ?_
        refine lv_iload_n hx hb dX0_putOn_35 rfl (lv_at hl 2 rfl) ?_
        obtain ⟨N7, hN7, h⟩ := ob h
        refine r_iast hx hb hK hd hw (by decide) (X0_k1 hB) hN7 dX0_putOn_36 (fun {H} {locs} hw => ?_)
        refine lv_aload_n hx hb dX0_putOn_37 rfl (lv_at hl 1 rfl) ?_
        refine r_get (v := .ref (eA γ (o + 2))) hx hb hts hK hw hown inX0 rfl (X0_k0 hB) (st_at0 (by decide)) 1 (by decide) wd_28 rfl dX0_putOn_38 ?_
        refine lv_iload_n hx hb dX0_putOn_41 rfl (lv_at hl 3 rfl) ?_
        obtain ⟨v8, hv8, h⟩ := ob h
        refine r_Si (rest := [.ref (eA γ (o + 2))]) C0 z0 (c_X0_slotOf hv8) lk_X0_57 hl.1 rfl (Nat.le_of_ble_eq_true rfl) (by decide) hw dX0_putOn_42 (fun {H} {locs} hw => ?_)
        refine lv_iload_n hx hb dX0_putOn_45 rfl (lv_at hl 0 rfl) ?_
        refine lv_iconst (v := (1 : Int32)) hx hb dX0_putOn_46 (by decide) ?_
        refine lv_iadd hx hb dX0_putOn_47 ?_
        obtain ⟨N9, hN9, h⟩ := ob h
        refine r_iast hx hb hK hd hw (by decide) (X0_k2 hB) hN9 dX0_putOn_48 (fun {H} {locs} hw => ?_)
        refine lv_aload_n hx hb dX0_putOn_49 rfl (lv_at hl 1 rfl) ?_
        refine lv_dup hx hb dX0_putOn_50 rfl ?_
        refine r_get (v := .int (N9 0 8)) hx hb hts hK hw hown inX0 rfl (X0_k0 hB) (st_at0 (by decide)) 8 (by decide) wd_35 rfl dX0_putOn_51 ?_
        refine lv_iload_n hx hb dX0_putOn_54 rfl (lv_at hl 2 rfl) ?_
        refine lv_iload_n hx hb dX0_putOn_55 rfl (lv_at hl 3 rfl) ?_
        refine lv_imul hx hb dX0_putOn_56 ?_
        refine lv_iadd hx hb dX0_putOn_57 ?_
        obtain ⟨N10, hN10, h⟩ := ob h
        refine r_put (x := ((N9 0 8) + (x1 * x2))) (ty := .int) hx hb hts hK hd hw hown inX0 tyX0 tyX0_ok nmX0 rfl (by decide) (X0_k0 hB) 8 (by decide) wd_35 rfl rfl rfl rfl (fun _ => (Nat.le_of_ble_eq_true rfl)) (fun _ => rfl) hN10 dX0_putOn_58 (fun {H} {locs} hw => ?_)
        have h1 := Option.some.inj h
        subst h1
        exact r_vret hx hb hr hlk hK hd hw dX0_putOn_61
      · replace h := ifn c5 h
        have h1 := Option.some.inj h
        subst h1
        exact r_vret hx hb hr hlk hK hd hw dX0_putOn_22
theorem c_X0_putOn {l : Launch} {γ : Ev} {o : Nat} {σ : Mm} {Bf : Mm} {B : Mm} {x1 x2 : Int32} (hB : isX0 γ o) (h : s_X0_putOn B x1 x2 = some Bf) : Ct l yX0_putOn cX0_putOn 4 none 3 71 γ [.ref (eA γ o), .int x1, .int x2] (st 6 σ o B) none (st 6 σ o Bf) := Ct.of (own := RX0) (by decide +kernel) rfl (Nat.le_of_ble_eq_true rfl) (fun C hw ls hl => b_X0_putOn C hB h hw hl)
set_option maxHeartbeats 4000000 in
set_option maxRecDepth 10000 in
theorem b_X0_takeFrom {γ : Ev} {o : Nat} {σ : Mm} {Bf : Mm} {r : Int32} {B : Mm} {x1 : Int32} (C : Cx p R s m args meth c RX0 cX0_takeFrom 4 (some .int) 3 72 γ) (hB : isX0 γ o) (h : s_X0_takeFrom B x1 = some (r, Bf)) (hw : Wo γ (st 6 σ o B) s H locs) (hl : lv_has ls 4 [(0, .ref (eA γ o)), (1, .int x1)]) : W p l e R s m args below meth c H locs 0 0 (MQ below (Qo γ (some (.int r)) (st 6 σ o Bf)) args s 0 0 (AK γ)) (F0 m 0 ls []) := by
  have C0 := C
  obtain ⟨hx, hb, hr, hml, hown, hts, hlk, hK, hd, hF, hL⟩ := C
  unfold s_X0_takeFrom at h
  refine lv_aload_n hx hb dX0_takeFrom_0 rfl (lv_at hl 0 rfl) ?_
  refine lv_iload_n hx hb dX0_takeFrom_1 rfl (lv_at hl 1 rfl) ?_
  obtain ⟨v1, hv1, h⟩ := ob h
  refine r_Vi (rest := []) C0 z0 (c_X0_heightAt hB hv1) lk_X0_61 (X0_k0 hB) rfl rfl hl.1 rfl (Nat.le_of_ble_eq_true rfl) (by decide) hw dX0_takeFrom_2 (fun {H} {locs} hw => ?_)
  refine lv_istore_n (lv' := [(2, .int v1), (0, .ref (eA γ o)), (1, .int x1)]) hx hb dX0_takeFrom_5 rfl hl (by decide) rfl (fun ls hl => ?_)
  refine lv_iload_n hx hb dX0_takeFrom_6 rfl (lv_at hl 2 rfl) ?_
  obtain ⟨v2, hv2, h⟩ := ob h
  refine r_Si (rest := []) C0 z0 (c_X0_isPlace hv2) lk_X0_53 hl.1 rfl (Nat.le_of_ble_eq_true rfl) (by decide) hw dX0_takeFrom_7 (fun {H} {locs} hw => ?_)
  refine lv_if_eq (tgt := 17) hx hb dX0_takeFrom_10 (by decide) (fun c3 => ?_) (fun c3 => ?_)
  · replace h := ifp c3 h
    refine lv_iconst (v := (0 : Int32)) hx hb dX0_takeFrom_17 (by decide) ?_
    obtain ⟨h1, h2⟩ := s2 h
    subst h1
    subst h2
    exact r_iret hx hb hr hlk hK hd hw dX0_takeFrom_18
  · replace h := ifn c3 h
    refine lv_iload_n hx hb dX0_takeFrom_13 rfl (lv_at hl 0 rfl) ?_
    refine lv_if_gt (tgt := 19) hx hb dX0_takeFrom_14 (by decide) (fun c4 => ?_) (fun c4 => ?_)
    · replace h := ifp c4 h
      refine lv_aload_n hx hb dX0_takeFrom_19 rfl (lv_at hl 1 rfl) ?_
      refine lv_iload_n hx hb dX0_takeFrom_20 rfl (lv_at hl 2 rfl) ?_
      refine lv_iload_n hx hb dX0_takeFrom_21 rfl (lv_at hl 0 rfl) ?_
      refine lv_iconst (v := (1 : Int32)) hx hb dX0_takeFrom_22 (by decide) ?_
      refine lv_isub hx hb dX0_takeFrom_23 ?_
      obtain ⟨v5, hv5, h⟩ := ob h
      refine r_Vi (rest := []) C0 z0 (c_X0_weightAt hB hv5) lk_X0_64 (X0_k0 hB) rfl rfl hl.1 rfl (Nat.le_of_ble_eq_true rfl) (by decide) hw dX0_takeFrom_24 (fun {H} {locs} hw => ?_)
      refine lv_istore_n (lv' := [(3, .int v5), (2, .int v1), (0, .ref (eA γ o)), (1, .int x1)]) hx hb dX0_takeFrom_27 rfl hl (by decide) rfl (fun ls hl => ?_)
      refine lv_aload_n hx hb dX0_takeFrom_28 rfl (lv_at hl 2 rfl) ?_
      refine r_get (v := .ref (eA γ (o + 2))) hx hb hts hK hw hown inX0 rfl (X0_k0 hB) (st_at0 (by decide)) 1 (by decide) wd_28 rfl dX0_takeFrom_29 ?_
      refine lv_iload_n hx hb dX0_takeFrom_32 rfl (lv_at hl 3 rfl) ?_
      obtain ⟨v6, hv6, h⟩ := ob h
      refine r_Si (rest := [.ref (eA γ (o + 2))]) C0 z0 (c_X0_slotOf hv6) lk_X0_57 hl.1 rfl (Nat.le_of_ble_eq_true rfl) (by decide) hw dX0_takeFrom_33 (fun {H} {locs} hw => ?_)
      refine lv_iload_n hx hb dX0_takeFrom_36 rfl (lv_at hl 1 rfl) ?_
      refine lv_iconst (v := (1 : Int32)) hx hb dX0_takeFrom_37 (by decide) ?_
      refine lv_isub hx hb dX0_takeFrom_38 ?_
      obtain ⟨N7, hN7, h⟩ := ob h
      refine r_iast hx hb hK hd hw (by decide) (X0_k2 hB) hN7 dX0_takeFrom_39 (fun {H} {locs} hw => ?_)
      refine lv_aload_n hx hb dX0_takeFrom_40 rfl (lv_at hl 2 rfl) ?_
      refine lv_dup hx hb dX0_takeFrom_41 rfl ?_
      refine r_get (v := .int (N7 0 8)) hx hb hts hK hw hown inX0 rfl (X0_k0 hB) (st_at0 (by decide)) 8 (by decide) wd_35 rfl dX0_takeFrom_42 ?_
      refine lv_iload_n hx hb dX0_takeFrom_45 rfl (lv_at hl 0 rfl) ?_
      refine lv_iload_n hx hb dX0_takeFrom_46 rfl (lv_at hl 3 rfl) ?_
      refine lv_imul hx hb dX0_takeFrom_47 ?_
      refine lv_isub hx hb dX0_takeFrom_48 ?_
      obtain ⟨N8, hN8, h⟩ := ob h
      refine r_put (x := ((N7 0 8) - (v5 * x1))) (ty := .int) hx hb hts hK hd hw hown inX0 tyX0 tyX0_ok nmX0 rfl (by decide) (X0_k0 hB) 8 (by decide) wd_35 rfl rfl rfl rfl (fun _ => (Nat.le_of_ble_eq_true rfl)) (fun _ => rfl) hN8 dX0_takeFrom_49 (fun {H} {locs} hw => ?_)
      refine lv_iload_n hx hb dX0_takeFrom_52 rfl (lv_at hl 0 rfl) ?_
      obtain ⟨h1, h2⟩ := s2 h
      subst h1
      subst h2
      exact r_iret hx hb hr hlk hK hd hw dX0_takeFrom_53
    · replace h := ifn c4 h
      refine lv_iconst (v := (0 : Int32)) hx hb dX0_takeFrom_17 (by decide) ?_
      obtain ⟨h1, h2⟩ := s2 h
      subst h1
      subst h2
      exact r_iret hx hb hr hlk hK hd hw dX0_takeFrom_18
theorem c_X0_takeFrom {l : Launch} {γ : Ev} {o : Nat} {σ : Mm} {Bf : Mm} {r : Int32} {B : Mm} {x1 : Int32} (hB : isX0 γ o) (h : s_X0_takeFrom B x1 = some (r, Bf)) : Ct l yX0_takeFrom cX0_takeFrom 4 (some .int) 3 72 γ [.ref (eA γ o), .int x1] (st 6 σ o B) (some (.int r)) (st 6 σ o Bf) := Ct.of (own := RX0) (by decide +kernel) rfl (Nat.le_of_ble_eq_true rfl) (fun C hw ls hl => b_X0_takeFrom C hB h hw hl)
set_option maxHeartbeats 4000000 in
set_option maxRecDepth 10000 in
theorem b_X0_tokens_L4 {γ : Ev} {o : Nat} {σ : Mm} {r : Int32} (C : Cx p R s m args meth c RX0 cX0_tokens 3 (some .int) 1 30 γ) (hB : isX0 γ o) : ∀ (n : Nat) {B : Mm} {x1 : Int32} {x2 : Int32} {H : Heap} {locs : List Loc} {ls : Array Slot}, s_X0_tokens_L4 n B x1 x2 = some r → Wo γ (st 6 σ o B) s H locs → lv_has ls 3 [(0, .ref (eA γ o)), (1, .int x1), (2, .int x2)] → W p l e R s m args below meth c H locs 0 0 (MQ below (Qo γ (some (.int r)) (st 6 σ o B)) args s 0 0 (AK γ)) (F0 m 4 ls []) := by
  have C0 := C
  obtain ⟨hx, hb, hr, hml, hown, hts, hlk, hK, hd, hF, hL⟩ := C
  intro n
  induction n with
  | zero => intro B x1 x2 H locs ls h; cases h
  | succ n ih =>
    intro B x1 x2 H locs ls h hw hl
    unfold s_X0_tokens_L4 at h
    refine lv_iload_n hx hb dX0_tokens_4 rfl (lv_at hl 2 rfl) ?_
    refine lv_aload_n hx hb dX0_tokens_5 rfl (lv_at hl 0 rfl) ?_
    refine r_get (v := .ref (eA γ (o + 2))) hx hb hts hK hw hown inX0 rfl (X0_k0 hB) (st_at0 (by decide)) 1 (by decide) wd_28 rfl dX0_tokens_6 ?_
    refine r_alen hx hb hK hw (X0_k2 hB) (12 : Int32) (by decide) dX0_tokens_9 ?_
    refine lv_icmp_ge (tgt := 28) hx hb dX0_tokens_10 (by decide) (fun c1 => ?_) (fun c1 => ?_)
    · replace h := ifp c1 h
      refine lv_iload_n hx hb dX0_tokens_28 rfl (lv_at hl 1 rfl) ?_
      have h1 := Option.some.inj h
      subst h1
      exact r_iret hx hb hr hlk hK hd hw dX0_tokens_29
    · replace h := ifn c1 h
      refine lv_iload_n hx hb dX0_tokens_13 rfl (lv_at hl 1 rfl) ?_
      refine lv_aload_n hx hb dX0_tokens_14 rfl (lv_at hl 0 rfl) ?_
      refine r_get (v := .ref (eA γ (o + 2))) hx hb hts hK hw hown inX0 rfl (X0_k0 hB) (st_at0 (by decide)) 1 (by decide) wd_28 rfl dX0_tokens_15 ?_
      refine lv_iload_n hx hb dX0_tokens_18 rfl (lv_at hl 2 rfl) ?_
      obtain ⟨v2, hv2, h⟩ := ob h
      refine r_iald hx hb hK hw (X0_k2 hB) (st_at (by decide)) hv2 dX0_tokens_19 ?_
      refine lv_iadd hx hb dX0_tokens_20 ?_
      obtain ⟨v3, ev3, h⟩ := jb h
      refine r_top ev3 ?_
      refine lv_istore_n (lv' := [(1, .int v3), (0, .ref (eA γ o)), (2, .int x2)]) hx hb dX0_tokens_21 rfl hl (by decide) rfl (fun ls hl => ?_)
      obtain ⟨v4, ev4, h⟩ := jb h
      refine lv_iinc (v := v4) (lv' := [(2, .int v4), (1, .int v3), (0, .ref (eA γ o))]) hx hb dX0_tokens_22 hl (k := 2) rfl (by rw [← ev4]; rfl) (by decide) rfl (fun ls hl => ?_)
      refine lv_goto (tgt := 4) hx hb dX0_tokens_25 (by decide) ?_
      exact ih h hw (lv_sub hl [2, 1, 0] rfl)
set_option maxHeartbeats 4000000 in
set_option maxRecDepth 10000 in
theorem b_X0_tokens {γ : Ev} {o : Nat} {σ : Mm} {r : Int32} {B : Mm} (C : Cx p R s m args meth c RX0 cX0_tokens 3 (some .int) 1 30 γ) (hB : isX0 γ o) (h : s_X0_tokens B = some r) (hw : Wo γ (st 6 σ o B) s H locs) (hl : lv_has ls 3 [(0, .ref (eA γ o))]) : W p l e R s m args below meth c H locs 0 0 (MQ below (Qo γ (some (.int r)) (st 6 σ o B)) args s 0 0 (AK γ)) (F0 m 0 ls []) := by
  have C0 := C
  obtain ⟨hx, hb, hr, hml, hown, hts, hlk, hK, hd, hF, hL⟩ := C
  unfold s_X0_tokens at h
  refine lv_iconst (v := (0 : Int32)) hx hb dX0_tokens_0 (by decide) ?_
  refine lv_istore_n (lv' := [(1, .int (0 : Int32)), (0, .ref (eA γ o))]) hx hb dX0_tokens_1 rfl hl (by decide) rfl (fun ls hl => ?_)
  refine lv_iconst (v := (0 : Int32)) hx hb dX0_tokens_2 (by decide) ?_
  refine lv_istore_n (lv' := [(2, .int (0 : Int32)), (1, .int (0 : Int32)), (0, .ref (eA γ o))]) hx hb dX0_tokens_3 rfl hl (by decide) rfl (fun ls hl => ?_)
  exact b_X0_tokens_L4 C0 hB 1000 h hw (lv_sub hl [2, 1, 0] rfl)
theorem c_X0_tokens {l : Launch} {γ : Ev} {o : Nat} {σ : Mm} {r : Int32} {B : Mm} (hB : isX0 γ o) (h : s_X0_tokens B = some r) : Ct l yX0_tokens cX0_tokens 3 (some .int) 1 30 γ [.ref (eA γ o)] (st 6 σ o B) (some (.int r)) (st 6 σ o B) := Ct.of (own := RX0) (by decide +kernel) rfl (Nat.le_of_ble_eq_true rfl) (fun C hw ls hl => b_X0_tokens C hB h hw hl)
set_option maxHeartbeats 4000000 in
set_option maxRecDepth 10000 in
theorem b_X0_weights_L5 {γ : Ev} {o : Nat} {σ : Mm} {r : Int32} (C : Cx p R s m args meth c RX0 cX0_weights 3 (some .int) 4 96 γ) (hB : isX0 γ o) : ∀ (n : Nat) {B : Mm} {x1 : Int32} {x2 : Int32} {H : Heap} {locs : List Loc} {ls : Array Slot}, s_X0_weights_L5 n B x1 x2 = some r → Wo γ (st 6 σ o B) s H locs → lv_has ls 3 [(0, .ref (eA γ o)), (1, .int x1), (2, .int x2)] → W p l e R s m args below meth c H locs 0 0 (MQ below (Qo γ (some (.int r)) (st 6 σ o B)) args s 0 0 (AK γ)) (F0 m 5 ls []) := by
  have C0 := C
  obtain ⟨hx, hb, hr, hml, hown, hts, hlk, hK, hd, hF, hL⟩ := C
  intro n
  induction n with
  | zero => intro B x1 x2 H locs ls h; cases h
  | succ n ih =>
    intro B x1 x2 H locs ls h hw hl
    unfold s_X0_weights_L5 at h
    refine lv_iload_n hx hb dX0_weights_5 rfl (lv_at hl 2 rfl) ?_
    refine lv_bipush (v := (6 : Int32)) hx hb dX0_weights_6 (by decide) ?_
    refine lv_icmp_gt (tgt := 25) hx hb dX0_weights_8 (by decide) (fun c1 => ?_) (fun c1 => ?_)
    · replace h := ifp c1 h
      refine lv_iload_n hx hb dX0_weights_25 rfl (lv_at hl 1 rfl) ?_
      have h1 := Option.some.inj h
      subst h1
      exact r_iret hx hb hr hlk hK hd hw dX0_weights_26
    · replace h := ifn c1 h
      refine lv_iload_n hx hb dX0_weights_11 rfl (lv_at hl 1 rfl) ?_
      refine lv_aload_n hx hb dX0_weights_12 rfl (lv_at hl 0 rfl) ?_
      refine lv_iload_n hx hb dX0_weights_13 rfl (lv_at hl 2 rfl) ?_
      obtain ⟨v2, hv2, h⟩ := ob h
      refine r_Vi (rest := [.int x1]) C0 z0 (c_X0_weightsAt hB hv2) lk_X0_68 (X0_k0 hB) rfl rfl hl.1 rfl (Nat.le_of_ble_eq_true rfl) (by decide) hw dX0_weights_14 (fun {H} {locs} hw => ?_)
      refine lv_iadd hx hb dX0_weights_17 ?_
      obtain ⟨v3, ev3, h⟩ := jb h
      refine r_top ev3 ?_
      refine lv_istore_n (lv' := [(1, .int v3), (0, .ref (eA γ o)), (2, .int x2)]) hx hb dX0_weights_18 rfl hl (by decide) rfl (fun ls hl => ?_)
      obtain ⟨v4, ev4, h⟩ := jb h
      refine lv_iinc (v := v4) (lv' := [(2, .int v4), (1, .int v3), (0, .ref (eA γ o))]) hx hb dX0_weights_19 hl (k := 2) rfl (by rw [← ev4]; rfl) (by decide) rfl (fun ls hl => ?_)
      refine lv_goto (tgt := 5) hx hb dX0_weights_22 (by decide) ?_
      exact ih h hw (lv_sub hl [2, 1, 0] rfl)
set_option maxHeartbeats 4000000 in
set_option maxRecDepth 10000 in
theorem b_X0_weights {γ : Ev} {o : Nat} {σ : Mm} {r : Int32} {B : Mm} (C : Cx p R s m args meth c RX0 cX0_weights 3 (some .int) 4 96 γ) (hB : isX0 γ o) (h : s_X0_weights B = some r) (hw : Wo γ (st 6 σ o B) s H locs) (hl : lv_has ls 3 [(0, .ref (eA γ o))]) : W p l e R s m args below meth c H locs 0 0 (MQ below (Qo γ (some (.int r)) (st 6 σ o B)) args s 0 0 (AK γ)) (F0 m 0 ls []) := by
  have C0 := C
  obtain ⟨hx, hb, hr, hml, hown, hts, hlk, hK, hd, hF, hL⟩ := C
  unfold s_X0_weights at h
  refine lv_iconst (v := (0 : Int32)) hx hb dX0_weights_0 (by decide) ?_
  refine lv_istore_n (lv' := [(1, .int (0 : Int32)), (0, .ref (eA γ o))]) hx hb dX0_weights_1 rfl hl (by decide) rfl (fun ls hl => ?_)
  refine lv_bipush (v := (-6 : Int32)) hx hb dX0_weights_2 (by decide) ?_
  refine lv_istore_n (lv' := [(2, .int (-6 : Int32)), (1, .int (0 : Int32)), (0, .ref (eA γ o))]) hx hb dX0_weights_4 rfl hl (by decide) rfl (fun ls hl => ?_)
  exact b_X0_weights_L5 C0 hB 1000 h hw (lv_sub hl [2, 1, 0] rfl)
theorem c_X0_weights {l : Launch} {γ : Ev} {o : Nat} {σ : Mm} {r : Int32} {B : Mm} (hB : isX0 γ o) (h : s_X0_weights B = some r) : Ct l yX0_weights cX0_weights 3 (some .int) 4 96 γ [.ref (eA γ o)] (st 6 σ o B) (some (.int r)) (st 6 σ o B) := Ct.of (own := RX0) (by decide +kernel) rfl (Nat.le_of_ble_eq_true rfl) (fun C hw ls hl => b_X0_weights C hB h hw hl)
set_option maxHeartbeats 4000000 in
set_option maxRecDepth 10000 in
theorem b_X0_inBag {γ : Ev} {o : Nat} {σ : Mm} {r : Int32} {B : Mm} {x1 x2 : Int32} (C : Cx p R s m args meth c RX0 cX0_inBag 3 (some .int) 2 50 γ) (hB : isX0 γ o) (h : s_X0_inBag B x1 x2 = some r) (hw : Wo γ (st 6 σ o B) s H locs) (hl : lv_has ls 3 [(0, .ref (eA γ o)), (1, .int x1), (2, .int x2)]) : W p l e R s m args below meth c H locs 0 0 (MQ below (Qo γ (some (.int r)) (st 6 σ o B)) args s 0 0 (AK γ)) (F0 m 0 ls []) := by
  have C0 := C
  obtain ⟨hx, hb, hr, hml, hown, hts, hlk, hK, hd, hF, hL⟩ := C
  unfold s_X0_inBag at h
  refine lv_iload_n hx hb dX0_inBag_0 rfl (lv_at hl 1 rfl) ?_
  obtain ⟨v1, hv1, h⟩ := ob h
  refine r_Si (rest := []) C0 z0 (c_X0_isSide hv1) lk_X0_71 hl.1 rfl (Nat.le_of_ble_eq_true rfl) (by decide) hw dX0_inBag_1 (fun {H} {locs} hw => ?_)
  refine lv_if_eq (tgt := 16) hx hb dX0_inBag_4 (by decide) (fun c2 => ?_) (fun c2 => ?_)
  · replace h := ifp c2 h
    refine lv_iconst (v := (0 : Int32)) hx hb dX0_inBag_16 (by decide) ?_
    have h1 := Option.some.inj h
    subst h1
    exact r_iret hx hb hr hlk hK hd hw dX0_inBag_17
  · replace h := ifn c2 h
    refine lv_iload_n hx hb dX0_inBag_7 rfl (lv_at hl 2 rfl) ?_
    refine lv_if_lt (tgt := 16) hx hb dX0_inBag_8 (by decide) (fun c3 => ?_) (fun c3 => ?_)
    · replace h := ifp c3 h
      refine lv_iconst (v := (0 : Int32)) hx hb dX0_inBag_16 (by decide) ?_
      have h1 := Option.some.inj h
      subst h1
      exact r_iret hx hb hr hlk hK hd hw dX0_inBag_17
    · replace h := ifn c3 h
      refine lv_iload_n hx hb dX0_inBag_11 rfl (lv_at hl 2 rfl) ?_
      refine lv_iconst (v := (5 : Int32)) hx hb dX0_inBag_12 (by decide) ?_
      refine lv_icmp_le (tgt := 18) hx hb dX0_inBag_13 (by decide) (fun c4 => ?_) (fun c4 => ?_)
      · replace h := ifp c4 h
        refine lv_aload_n hx hb dX0_inBag_18 rfl (lv_at hl 0 rfl) ?_
        refine r_get (v := .ref (eA γ (o + 3))) hx hb hts hK hw hown inX0 rfl (X0_k0 hB) (st_at0 (by decide)) 2 (by decide) wd_29 rfl dX0_inBag_19 ?_
        refine lv_iload_n hx hb dX0_inBag_22 rfl (lv_at hl 1 rfl) ?_
        refine lv_bipush (v := (6 : Int32)) hx hb dX0_inBag_23 (by decide) ?_
        refine lv_imul hx hb dX0_inBag_25 ?_
        refine lv_iload_n hx hb dX0_inBag_26 rfl (lv_at hl 2 rfl) ?_
        refine lv_iadd hx hb dX0_inBag_27 ?_
        obtain ⟨v5, hv5, h⟩ := ob h
        refine r_iald hx hb hK hw (X0_k3 hB) (st_at (by decide)) hv5 dX0_inBag_28 ?_
        have h1 := Option.some.inj h
        subst h1
        exact r_iret hx hb hr hlk hK hd hw dX0_inBag_29
      · replace h := ifn c4 h
        refine lv_iconst (v := (0 : Int32)) hx hb dX0_inBag_16 (by decide) ?_
        have h1 := Option.some.inj h
        subst h1
        exact r_iret hx hb hr hlk hK hd hw dX0_inBag_17
theorem c_X0_inBag {l : Launch} {γ : Ev} {o : Nat} {σ : Mm} {r : Int32} {B : Mm} {x1 x2 : Int32} (hB : isX0 γ o) (h : s_X0_inBag B x1 x2 = some r) : Ct l yX0_inBag cX0_inBag 3 (some .int) 2 50 γ [.ref (eA γ o), .int x1, .int x2] (st 6 σ o B) (some (.int r)) (st 6 σ o B) := Ct.of (own := RX0) (by decide +kernel) rfl (Nat.le_of_ble_eq_true rfl) (fun C hw ls hl => b_X0_inBag C hB h hw hl)
set_option maxHeartbeats 4000000 in
set_option maxRecDepth 10000 in
theorem b_X0_changeBag {γ : Ev} {o : Nat} {σ : Mm} {Bf : Mm} {B : Mm} {x1 x2 x3 : Int32} (C : Cx p R s m args meth c RX0 cX0_changeBag 4 none 2 50 γ) (hB : isX0 γ o) (h : s_X0_changeBag B x1 x2 x3 = some Bf) (hw : Wo γ (st 6 σ o B) s H locs) (hl : lv_has ls 4 [(0, .ref (eA γ o)), (1, .int x1), (2, .int x2), (3, .int x3)]) : W p l e R s m args below meth c H locs 0 0 (MQ below (Qo γ none (st 6 σ o Bf)) args s 0 0 (AK γ)) (F0 m 0 ls []) := by
  have C0 := C
  obtain ⟨hx, hb, hr, hml, hown, hts, hlk, hK, hd, hF, hL⟩ := C
  unfold s_X0_changeBag at h
  refine lv_iload_n hx hb dX0_changeBag_0 rfl (lv_at hl 1 rfl) ?_
  obtain ⟨v1, hv1, h⟩ := ob h
  refine r_Si (rest := []) C0 z0 (c_X0_isSide hv1) lk_X0_71 hl.1 rfl (Nat.le_of_ble_eq_true rfl) (by decide) hw dX0_changeBag_1 (fun {H} {locs} hw => ?_)
  refine lv_if_eq (tgt := 14) hx hb dX0_changeBag_4 (by decide) (fun c2 => ?_) (fun c2 => ?_)
  · replace h := ifp c2 h
    have h1 := Option.some.inj h
    subst h1
    exact r_vret hx hb hr hlk hK hd hw dX0_changeBag_14
  · replace h := ifn c2 h
    refine lv_iload_n hx hb dX0_changeBag_7 rfl (lv_at hl 2 rfl) ?_
    obtain ⟨v3, hv3, h⟩ := ob h
    refine r_Si (rest := []) C0 z0 (c_X0_isWeight hv3) lk_X0_74 hl.1 rfl (Nat.le_of_ble_eq_true rfl) (by decide) hw dX0_changeBag_8 (fun {H} {locs} hw => ?_)
    refine lv_if_ne (tgt := 15) hx hb dX0_changeBag_11 (by decide) (fun c4 => ?_) (fun c4 => ?_)
    · replace h := ifn c4 h
      refine lv_aload_n hx hb dX0_changeBag_15 rfl (lv_at hl 0 rfl) ?_
      refine r_get (v := .ref (eA γ (o + 3))) hx hb hts hK hw hown inX0 rfl (X0_k0 hB) (st_at0 (by decide)) 2 (by decide) wd_29 rfl dX0_changeBag_16 ?_
      refine lv_iload_n hx hb dX0_changeBag_19 rfl (lv_at hl 1 rfl) ?_
      refine lv_bipush (v := (6 : Int32)) hx hb dX0_changeBag_20 (by decide) ?_
      refine lv_imul hx hb dX0_changeBag_22 ?_
      refine lv_iload_n hx hb dX0_changeBag_23 rfl (lv_at hl 2 rfl) ?_
      refine lv_iadd hx hb dX0_changeBag_24 ?_
      refine lv_dup2_11 hx hb dX0_changeBag_25 rfl rfl ?_
      obtain ⟨v5, hv5, h⟩ := ob h
      refine r_iald hx hb hK hw (X0_k3 hB) (st_at (by decide)) hv5 dX0_changeBag_26 ?_
      refine lv_iload_n hx hb dX0_changeBag_27 rfl (lv_at hl 3 rfl) ?_
      refine lv_iadd hx hb dX0_changeBag_28 ?_
      obtain ⟨N6, hN6, h⟩ := ob h
      refine r_iast hx hb hK hd hw (by decide) (X0_k3 hB) hN6 dX0_changeBag_29 (fun {H} {locs} hw => ?_)
      refine lv_aload_n hx hb dX0_changeBag_30 rfl (lv_at hl 0 rfl) ?_
      refine r_get (v := .ref (eA γ (o + 3))) hx hb hts hK hw hown inX0 rfl (X0_k0 hB) (st_at0 (by decide)) 2 (by decide) wd_29 rfl dX0_changeBag_31 ?_
      refine lv_iload_n hx hb dX0_changeBag_34 rfl (lv_at hl 1 rfl) ?_
      refine lv_bipush (v := (6 : Int32)) hx hb dX0_changeBag_35 (by decide) ?_
      refine lv_imul hx hb dX0_changeBag_37 ?_
      refine lv_iconst (v := (0 : Int32)) hx hb dX0_changeBag_38 (by decide) ?_
      refine lv_iadd hx hb dX0_changeBag_39 ?_
      refine lv_dup2_11 hx hb dX0_changeBag_40 rfl rfl ?_
      obtain ⟨v7, hv7, h⟩ := ob h
      refine r_iald hx hb hK hw (X0_k3 hB) (st_at (by decide)) hv7 dX0_changeBag_41 ?_
      refine lv_iload_n hx hb dX0_changeBag_42 rfl (lv_at hl 3 rfl) ?_
      refine lv_iadd hx hb dX0_changeBag_43 ?_
      obtain ⟨N8, hN8, h⟩ := ob h
      refine r_iast hx hb hK hd hw (by decide) (X0_k3 hB) hN8 dX0_changeBag_44 (fun {H} {locs} hw => ?_)
      have h1 := Option.some.inj h
      subst h1
      exact r_vret hx hb hr hlk hK hd hw dX0_changeBag_45
    · replace h := ifp c4 h
      have h1 := Option.some.inj h
      subst h1
      exact r_vret hx hb hr hlk hK hd hw dX0_changeBag_14
theorem c_X0_changeBag {l : Launch} {γ : Ev} {o : Nat} {σ : Mm} {Bf : Mm} {B : Mm} {x1 x2 x3 : Int32} (hB : isX0 γ o) (h : s_X0_changeBag B x1 x2 x3 = some Bf) : Ct l yX0_changeBag cX0_changeBag 4 none 2 50 γ [.ref (eA γ o), .int x1, .int x2, .int x3] (st 6 σ o B) none (st 6 σ o Bf) := Ct.of (own := RX0) (by decide +kernel) rfl (Nat.le_of_ble_eq_true rfl) (fun C hw ls hl => b_X0_changeBag C hB h hw hl)
set_option maxHeartbeats 4000000 in
set_option maxRecDepth 10000 in
theorem b_X0_setting {γ : Ev} {o : Nat} {σ : Mm} {r : Int32} {B : Mm} {x1 : Int32} (C : Cx p R s m args meth c RX0 cX0_setting 2 (some .int) 2 50 γ) (hB : isX0 γ o) (h : s_X0_setting B x1 = some r) (hw : Wo γ (st 6 σ o B) s H locs) (hl : lv_has ls 2 [(0, .ref (eA γ o)), (1, .int x1)]) : W p l e R s m args below meth c H locs 0 0 (MQ below (Qo γ (some (.int r)) (st 6 σ o B)) args s 0 0 (AK γ)) (F0 m 0 ls []) := by
  have C0 := C
  obtain ⟨hx, hb, hr, hml, hown, hts, hlk, hK, hd, hF, hL⟩ := C
  unfold s_X0_setting at h
  refine lv_iload_n hx hb dX0_setting_0 rfl (lv_at hl 1 rfl) ?_
  obtain ⟨v1, hv1, h⟩ := ob h
  refine r_Si (rest := []) C0 z0 (c_X0_isSetting hv1) lk_X0_77 hl.1 rfl (Nat.le_of_ble_eq_true rfl) (by decide) hw dX0_setting_1 (fun {H} {locs} hw => ?_)
  refine lv_if_eq (tgt := 16) hx hb dX0_setting_4 (by decide) (fun c2 => ?_) (fun c2 => ?_)
  · replace h := ifp c2 h
    refine lv_iconst (v := (0 : Int32)) hx hb dX0_setting_16 (by decide) ?_
    have h1 := Option.some.inj h
    subst h1
    exact r_iret hx hb hr hlk hK hd hw dX0_setting_17
  · replace h := ifn c2 h
    refine lv_aload_n hx hb dX0_setting_7 rfl (lv_at hl 0 rfl) ?_
    refine r_get (v := .ref (eA γ (o + 4))) hx hb hts hK hw hown inX0 rfl (X0_k0 hB) (st_at0 (by decide)) 3 (by decide) wd_30 rfl dX0_setting_8 ?_
    refine lv_iload_n hx hb dX0_setting_11 rfl (lv_at hl 1 rfl) ?_
    obtain ⟨v3, hv3, h⟩ := ob h
    refine r_iald hx hb hK hw (X0_k4 hB) (st_at (by decide)) hv3 dX0_setting_12 ?_
    refine lv_goto (tgt := 17) hx hb dX0_setting_13 (by decide) ?_
    have h1 := Option.some.inj h
    subst h1
    exact r_iret hx hb hr hlk hK hd hw dX0_setting_17
theorem c_X0_setting {l : Launch} {γ : Ev} {o : Nat} {σ : Mm} {r : Int32} {B : Mm} {x1 : Int32} (hB : isX0 γ o) (h : s_X0_setting B x1 = some r) : Ct l yX0_setting cX0_setting 2 (some .int) 2 50 γ [.ref (eA γ o), .int x1] (st 6 σ o B) (some (.int r)) (st 6 σ o B) := Ct.of (own := RX0) (by decide +kernel) rfl (Nat.le_of_ble_eq_true rfl) (fun C hw ls hl => b_X0_setting C hB h hw hl)
set_option maxHeartbeats 4000000 in
set_option maxRecDepth 10000 in
theorem b_X0_changeSetting {γ : Ev} {o : Nat} {σ : Mm} {Bf : Mm} {B : Mm} {x1 x2 : Int32} (C : Cx p R s m args meth c RX0 cX0_changeSetting 3 none 2 50 γ) (hB : isX0 γ o) (h : s_X0_changeSetting B x1 x2 = some Bf) (hw : Wo γ (st 6 σ o B) s H locs) (hl : lv_has ls 3 [(0, .ref (eA γ o)), (1, .int x1), (2, .int x2)]) : W p l e R s m args below meth c H locs 0 0 (MQ below (Qo γ none (st 6 σ o Bf)) args s 0 0 (AK γ)) (F0 m 0 ls []) := by
  have C0 := C
  obtain ⟨hx, hb, hr, hml, hown, hts, hlk, hK, hd, hF, hL⟩ := C
  unfold s_X0_changeSetting at h
  refine lv_iload_n hx hb dX0_changeSetting_0 rfl (lv_at hl 1 rfl) ?_
  obtain ⟨v1, hv1, h⟩ := ob h
  refine r_Si (rest := []) C0 z0 (c_X0_isSetting hv1) lk_X0_77 hl.1 rfl (Nat.le_of_ble_eq_true rfl) (by decide) hw dX0_changeSetting_1 (fun {H} {locs} hw => ?_)
  refine lv_if_eq (tgt := 14) hx hb dX0_changeSetting_4 (by decide) (fun c2 => ?_) (fun c2 => ?_)
  · replace h := ifp c2 h
    have h1 := Option.some.inj h
    subst h1
    exact r_vret hx hb hr hlk hK hd hw dX0_changeSetting_14
  · replace h := ifn c2 h
    refine lv_aload_n hx hb dX0_changeSetting_7 rfl (lv_at hl 0 rfl) ?_
    refine r_get (v := .ref (eA γ (o + 4))) hx hb hts hK hw hown inX0 rfl (X0_k0 hB) (st_at0 (by decide)) 3 (by decide) wd_30 rfl dX0_changeSetting_8 ?_
    refine lv_iload_n hx hb dX0_changeSetting_11 rfl (lv_at hl 1 rfl) ?_
    refine lv_iload_n hx hb dX0_changeSetting_12 rfl (lv_at hl 2 rfl) ?_
    obtain ⟨N3, hN3, h⟩ := ob h
    refine r_iast hx hb hK hd hw (by decide) (X0_k4 hB) hN3 dX0_changeSetting_13 (fun {H} {locs} hw => ?_)
    have h1 := Option.some.inj h
    subst h1
    exact r_vret hx hb hr hlk hK hd hw dX0_changeSetting_14
theorem c_X0_changeSetting {l : Launch} {γ : Ev} {o : Nat} {σ : Mm} {Bf : Mm} {B : Mm} {x1 x2 : Int32} (hB : isX0 γ o) (h : s_X0_changeSetting B x1 x2 = some Bf) : Ct l yX0_changeSetting cX0_changeSetting 3 none 2 50 γ [.ref (eA γ o), .int x1, .int x2] (st 6 σ o B) none (st 6 σ o Bf) := Ct.of (own := RX0) (by decide +kernel) rfl (Nat.le_of_ble_eq_true rfl) (fun C hw ls hl => b_X0_changeSetting C hB h hw hl)
set_option maxHeartbeats 4000000 in
set_option maxRecDepth 10000 in
theorem b_X0_outcome {γ : Ev} {o : Nat} {σ : Mm} {r : Int32} {B : Mm} (C : Cx p R s m args meth c RX0 cX0_outcome 2 (some .int) 3 72 γ) (hB : isX0 γ o) (h : s_X0_outcome B = some r) (hw : Wo γ (st 6 σ o B) s H locs) (hl : lv_has ls 2 [(0, .ref (eA γ o))]) : W p l e R s m args below meth c H locs 0 0 (MQ below (Qo γ (some (.int r)) (st 6 σ o B)) args s 0 0 (AK γ)) (F0 m 0 ls []) := by
  have C0 := C
  obtain ⟨hx, hb, hr, hml, hown, hts, hlk, hK, hd, hF, hL⟩ := C
  unfold s_X0_outcome at h
  refine lv_aload_n hx hb dX0_outcome_0 rfl (lv_at hl 0 rfl) ?_
  refine r_get (v := .int (B 0 8)) hx hb hts hK hw hown inX0 rfl (X0_k0 hB) (st_at0 (by decide)) 8 (by decide) wd_35 rfl dX0_outcome_1 ?_
  refine r_abs C0 z0 lk_X0_80 hl.1 (Nat.le_of_ble_eq_true rfl) (by decide) dX0_outcome_4 ?_
  refine lv_aload_n hx hb dX0_outcome_7 rfl (lv_at hl 0 rfl) ?_
  refine r_get (v := .ref (eA γ (o + 4))) hx hb hts hK hw hown inX0 rfl (X0_k0 hB) (st_at0 (by decide)) 3 (by decide) wd_30 rfl dX0_outcome_8 ?_
  refine lv_iconst (v := (1 : Int32)) hx hb dX0_outcome_11 (by decide) ?_
  obtain ⟨v1, hv1, h⟩ := ob h
  refine r_iald hx hb hK hw (X0_k4 hB) (st_at (by decide)) hv1 dX0_outcome_12 ?_
  refine lv_icmp_le (tgt := 44) hx hb dX0_outcome_13 (by decide) (fun c2 => ?_) (fun c2 => ?_)
  · replace h := ifp c2 h
    refine lv_aload_n hx hb dX0_outcome_44 rfl (lv_at hl 0 rfl) ?_
    refine lv_iconst (v := (0 : Int32)) hx hb dX0_outcome_45 (by decide) ?_
    refine lv_iconst (v := (0 : Int32)) hx hb dX0_outcome_46 (by decide) ?_
    obtain ⟨v3, hv3, h⟩ := ob h
    refine r_Vi (rest := []) C0 z0 (c_X0_inBag hB hv3) lk_X0_85 (X0_k0 hB) rfl rfl hl.1 rfl (Nat.le_of_ble_eq_true rfl) (by decide) hw dX0_outcome_47 (fun {H} {locs} hw => ?_)
    refine lv_if_ne (tgt := 66) hx hb dX0_outcome_50 (by decide) (fun c4 => ?_) (fun c4 => ?_)
    · replace h := ifn c4 h
      refine lv_iconst (v := (0 : Int32)) hx hb dX0_outcome_66 (by decide) ?_
      have h1 := Option.some.inj h
      subst h1
      exact r_iret hx hb hr hlk hK hd hw dX0_outcome_67
    · replace h := ifp c4 h
      refine lv_aload_n hx hb dX0_outcome_53 rfl (lv_at hl 0 rfl) ?_
      refine lv_iconst (v := (1 : Int32)) hx hb dX0_outcome_54 (by decide) ?_
      refine lv_iconst (v := (0 : Int32)) hx hb dX0_outcome_55 (by decide) ?_
      obtain ⟨v5, hv5, h⟩ := ob h
      refine r_Vi (rest := []) C0 z0 (c_X0_inBag hB hv5) lk_X0_85 (X0_k0 hB) rfl rfl hl.1 rfl (Nat.le_of_ble_eq_true rfl) (by decide) hw dX0_outcome_56 (fun {H} {locs} hw => ?_)
      refine lv_if_ne (tgt := 66) hx hb dX0_outcome_59 (by decide) (fun c6 => ?_) (fun c6 => ?_)
      · replace h := ifn c6 h
        refine lv_iconst (v := (0 : Int32)) hx hb dX0_outcome_66 (by decide) ?_
        have h1 := Option.some.inj h
        subst h1
        exact r_iret hx hb hr hlk hK hd hw dX0_outcome_67
      · replace h := ifp c6 h
        refine lv_iconst (v := (3 : Int32)) hx hb dX0_outcome_62 (by decide) ?_
        refine lv_goto (tgt := 67) hx hb dX0_outcome_63 (by decide) ?_
        have h1 := Option.some.inj h
        subst h1
        exact r_iret hx hb hr hlk hK hd hw dX0_outcome_67
  · replace h := ifn c2 h
    refine lv_aload_n hx hb dX0_outcome_16 rfl (lv_at hl 0 rfl) ?_
    refine r_get (v := .ref (eA γ (o + 4))) hx hb hts hK hw hown inX0 rfl (X0_k0 hB) (st_at0 (by decide)) 3 (by decide) wd_30 rfl dX0_outcome_17 ?_
    refine lv_iconst (v := (3 : Int32)) hx hb dX0_outcome_20 (by decide) ?_
    obtain ⟨v7, hv7, h⟩ := ob h
    refine r_iald hx hb hK hw (X0_k4 hB) (st_at (by decide)) hv7 dX0_outcome_21 ?_
    refine lv_iconst (v := (1 : Int32)) hx hb dX0_outcome_22 (by decide) ?_
    refine lv_icmp_ne (tgt := 33) hx hb dX0_outcome_23 (by decide) (fun c8 => ?_) (fun c8 => ?_)
    · replace h := ifn c8 h
      refine lv_iconst (v := (1 : Int32)) hx hb dX0_outcome_33 (by decide) ?_
      refine lv_aload_n hx hb dX0_outcome_34 rfl (lv_at hl 0 rfl) ?_
      refine r_get (v := .int (B 0 6)) hx hb hts hK hw hown inX0 rfl (X0_k0 hB) (st_at0 (by decide)) 6 (by decide) wd_33 rfl dX0_outcome_35 ?_
      refine lv_isub hx hb dX0_outcome_38 ?_
      obtain ⟨v9, ev9, h⟩ := jb h
      refine r_top ev9 ?_
      refine lv_istore_n (lv' := [(1, .int v9), (0, .ref (eA γ o))]) hx hb dX0_outcome_39 rfl hl (by decide) rfl (fun ls hl => ?_)
      refine lv_iconst (v := (1 : Int32)) hx hb dX0_outcome_40 (by decide) ?_
      refine lv_iload_n hx hb dX0_outcome_41 rfl (lv_at hl 0 rfl) ?_
      refine lv_iadd hx hb dX0_outcome_42 ?_
      have h1 := Option.some.inj h
      subst h1
      exact r_iret hx hb hr hlk hK hd hw dX0_outcome_43
    · replace h := ifp c8 h
      refine lv_aload_n hx hb dX0_outcome_26 rfl (lv_at hl 0 rfl) ?_
      refine r_get (v := .int (B 0 6)) hx hb hts hK hw hown inX0 rfl (X0_k0 hB) (st_at0 (by decide)) 6 (by decide) wd_33 rfl dX0_outcome_27 ?_
      refine lv_goto (tgt := 39) hx hb dX0_outcome_30 (by decide) ?_
      obtain ⟨v10, ev10, h⟩ := jb h
      refine r_top ev10 ?_
      refine lv_istore_n (lv' := [(1, .int v10), (0, .ref (eA γ o))]) hx hb dX0_outcome_39 rfl hl (by decide) rfl (fun ls hl => ?_)
      refine lv_iconst (v := (1 : Int32)) hx hb dX0_outcome_40 (by decide) ?_
      refine lv_iload_n hx hb dX0_outcome_41 rfl (lv_at hl 0 rfl) ?_
      refine lv_iadd hx hb dX0_outcome_42 ?_
      have h1 := Option.some.inj h
      subst h1
      exact r_iret hx hb hr hlk hK hd hw dX0_outcome_43
theorem c_X0_outcome {l : Launch} {γ : Ev} {o : Nat} {σ : Mm} {r : Int32} {B : Mm} (hB : isX0 γ o) (h : s_X0_outcome B = some r) : Ct l yX0_outcome cX0_outcome 2 (some .int) 3 72 γ [.ref (eA γ o)] (st 6 σ o B) (some (.int r)) (st 6 σ o B) := Ct.of (own := RX0) (by decide +kernel) rfl (Nat.le_of_ble_eq_true rfl) (fun C hw ls hl => b_X0_outcome C hB h hw hl)
set_option maxHeartbeats 4000000 in
set_option maxRecDepth 10000 in
theorem b_X0_worth {γ : Ev} {o : Nat} {σ : Mm} {r : Int32} {B : Mm} {x1 : Int32} (C : Cx p R s m args meth c RX0 cX0_worth 2 (some .int) 1 30 γ) (hB : isX0 γ o) (h : s_X0_worth B x1 = some r) (hw : Wo γ (st 6 σ o B) s H locs) (hl : lv_has ls 2 [(0, .ref (eA γ o)), (1, .int x1)]) : W p l e R s m args below meth c H locs 0 0 (MQ below (Qo γ (some (.int r)) (st 6 σ o B)) args s 0 0 (AK γ)) (F0 m 0 ls []) := by
  have C0 := C
  obtain ⟨hx, hb, hr, hml, hown, hts, hlk, hK, hd, hF, hL⟩ := C
  unfold s_X0_worth at h
  refine lv_iload_n hx hb dX0_worth_0 rfl (lv_at hl 1 rfl) ?_
  refine lv_if_eq (tgt := 9) hx hb dX0_worth_1 (by decide) (fun c1 => ?_) (fun c1 => ?_)
  · replace h := ifp c1 h
    refine lv_iconst (v := (0 : Int32)) hx hb dX0_worth_9 (by decide) ?_
    have h1 := Option.some.inj h
    subst h1
    exact r_iret hx hb hr hlk hK hd hw dX0_worth_10
  · replace h := ifn c1 h
    refine lv_iload_n hx hb dX0_worth_4 rfl (lv_at hl 1 rfl) ?_
    refine lv_iconst (v := (3 : Int32)) hx hb dX0_worth_5 (by decide) ?_
    refine lv_icmp_ne (tgt := 11) hx hb dX0_worth_6 (by decide) (fun c2 => ?_) (fun c2 => ?_)
    · replace h := ifn c2 h
      refine lv_iload_n hx hb dX0_worth_11 rfl (lv_at hl 1 rfl) ?_
      refine lv_iconst (v := (1 : Int32)) hx hb dX0_worth_12 (by decide) ?_
      refine lv_aload_n hx hb dX0_worth_13 rfl (lv_at hl 0 rfl) ?_
      refine r_get (v := .int (B 0 5)) hx hb hts hK hw hown inX0 rfl (X0_k0 hB) (st_at0 (by decide)) 5 (by decide) wd_32 rfl dX0_worth_14 ?_
      refine lv_iadd hx hb dX0_worth_17 ?_
      refine lv_icmp_ne (tgt := 25) hx hb dX0_worth_18 (by decide) (fun c3 => ?_) (fun c3 => ?_)
      · replace h := ifn c3 h
        refine lv_iconst (v := (-1 : Int32)) hx hb dX0_worth_25 (by decide) ?_
        have h1 := Option.some.inj h
        subst h1
        exact r_iret hx hb hr hlk hK hd hw dX0_worth_26
      · replace h := ifp c3 h
        refine lv_iconst (v := (1 : Int32)) hx hb dX0_worth_21 (by decide) ?_
        refine lv_goto (tgt := 26) hx hb dX0_worth_22 (by decide) ?_
        have h1 := Option.some.inj h
        subst h1
        exact r_iret hx hb hr hlk hK hd hw dX0_worth_26
    · replace h := ifp c2 h
      refine lv_iconst (v := (0 : Int32)) hx hb dX0_worth_9 (by decide) ?_
      have h1 := Option.some.inj h
      subst h1
      exact r_iret hx hb hr hlk hK hd hw dX0_worth_10
theorem c_X0_worth {l : Launch} {γ : Ev} {o : Nat} {σ : Mm} {r : Int32} {B : Mm} {x1 : Int32} (hB : isX0 γ o) (h : s_X0_worth B x1 = some r) : Ct l yX0_worth cX0_worth 2 (some .int) 1 30 γ [.ref (eA γ o), .int x1] (st 6 σ o B) (some (.int r)) (st 6 σ o B) := Ct.of (own := RX0) (by decide +kernel) rfl (Nat.le_of_ble_eq_true rfl) (fun C hw ls hl => b_X0_worth C hB h hw hl)
set_option maxHeartbeats 4000000 in
set_option maxRecDepth 10000 in
theorem b_X0_targetOf {γ : Ev} {μ : Mm} {r : Int32} {x0 x1 : Int32} (C : Cx p R s m args meth c RX0 cX0_targetOf 3 (some .int) 1 30 γ) (h : s_X0_targetOf x0 x1 = some r) (hw : Wo γ μ s H locs) (hl : lv_has ls 3 [(0, .int x0), (1, .int x1)]) : W p l e R s m args below meth c H locs 0 0 (MQ below (Qo γ (some (.int r)) μ) args s 0 0 (AK γ)) (F0 m 0 ls []) := by
  have C0 := C
  obtain ⟨hx, hb, hr, hml, hown, hts, hlk, hK, hd, hF, hL⟩ := C
  unfold s_X0_targetOf at h
  refine lv_iload_n hx hb dX0_targetOf_0 rfl (lv_at hl 0 rfl) ?_
  refine lv_bipush (v := (6 : Int32)) hx hb dX0_targetOf_1 (by decide) ?_
  refine lv_icmp_ge (tgt := 8) hx hb dX0_targetOf_3 (by decide) (fun c1 => ?_) (fun c1 => ?_)
  · replace h := ifp c1 h
    refine lv_iload_n hx hb dX0_targetOf_8 rfl (lv_at hl 1 rfl) ?_
    refine jn_elim h (fun (k : Int32 → Option Int32) => ∀ (v3 : Int32) {H : Heap} {locs : List Loc} {ls : Array Slot}, k v3 = some r → Wo γ μ s H locs → lv_has ls 3 [(0, .int x0), (1, .int x1)] → W p l e R s m args below meth c H locs 0 0 (MQ below (Qo γ (some (.int r)) μ) args s 0 0 (AK γ)) (F0 m 17 ls [.int v3])) ?_ ?_
    · intro v3 H locs ls h hw hl
      refine lv_istore_n (lv' := [(2, .int v3), (0, .int x0), (1, .int x1)]) hx hb dX0_targetOf_17 rfl hl (by decide) rfl (fun ls hl => ?_)
      refine lv_iload_n hx hb dX0_targetOf_18 rfl (lv_at hl 1 rfl) ?_
      refine lv_bipush (v := (7 : Int32)) hx hb dX0_targetOf_19 (by decide) ?_
      refine lv_icmp_ne (tgt := 28) hx hb dX0_targetOf_21 (by decide) (fun c4 => ?_) (fun c4 => ?_)
      · replace h := ifn c4 h
        refine lv_iload_n hx hb dX0_targetOf_28 rfl (lv_at hl 2 rfl) ?_
        refine lv_iload_n hx hb dX0_targetOf_29 rfl (lv_at hl 0 rfl) ?_
        refine lv_icmp_ne (tgt := 38) hx hb dX0_targetOf_30 (by decide) (fun c5 => ?_) (fun c5 => ?_)
        · replace h := ifn c5 h
          refine lv_iload_n hx hb dX0_targetOf_38 rfl (lv_at hl 2 rfl) ?_
          refine lv_iload_n hx hb dX0_targetOf_39 rfl (lv_at hl 0 rfl) ?_
          refine lv_isub hx hb dX0_targetOf_40 ?_
          have h1 := Option.some.inj h
          subst h1
          exact r_iret hx hb hr hlk hK hd hw dX0_targetOf_41
        · replace h := ifp c5 h
          refine lv_iload_n hx hb dX0_targetOf_33 rfl (lv_at hl 0 rfl) ?_
          refine lv_ineg hx hb dX0_targetOf_34 ?_
          refine lv_goto (tgt := 41) hx hb dX0_targetOf_35 (by decide) ?_
          have h1 := Option.some.inj h
          subst h1
          exact r_iret hx hb hr hlk hK hd hw dX0_targetOf_41
      · replace h := ifp c4 h
        refine lv_iload_n hx hb dX0_targetOf_24 rfl (lv_at hl 2 rfl) ?_
        refine lv_iload_n hx hb dX0_targetOf_25 rfl (lv_at hl 0 rfl) ?_
        refine lv_iadd hx hb dX0_targetOf_26 ?_
        have h1 := Option.some.inj h
        subst h1
        exact r_iret hx hb hr hlk hK hd hw dX0_targetOf_27
    intro k2 J_k2 h
    refine lv_if_le (tgt := 16) hx hb dX0_targetOf_9 (by decide) (fun c6 => ?_) (fun c6 => ?_)
    · replace h := ifp c6 h
      refine lv_iconst (v := (-1 : Int32)) hx hb dX0_targetOf_16 (by decide) ?_
      exact J_k2 (-1 : Int32) h hw (lv_sub hl [0, 1] rfl)
    · replace h := ifn c6 h
      refine lv_iconst (v := (1 : Int32)) hx hb dX0_targetOf_12 (by decide) ?_
      refine lv_goto (tgt := 17) hx hb dX0_targetOf_13 (by decide) ?_
      exact J_k2 (1 : Int32) h hw (lv_sub hl [0, 1] rfl)
  · replace h := ifn c1 h
    refine lv_iload_n hx hb dX0_targetOf_6 rfl (lv_at hl 1 rfl) ?_
    have h1 := Option.some.inj h
    subst h1
    exact r_iret hx hb hr hlk hK hd hw dX0_targetOf_7
theorem c_X0_targetOf {l : Launch} {γ : Ev} {μ : Mm} {r : Int32} {x0 x1 : Int32} (h : s_X0_targetOf x0 x1 = some r) : Ct l yX0_targetOf cX0_targetOf 3 (some .int) 1 30 γ [.int x0, .int x1] μ (some (.int r)) μ := Ct.of (own := RX0) (by decide +kernel) rfl (Nat.le_of_ble_eq_true rfl) (fun C hw ls hl => b_X0_targetOf C h hw hl)
set_option maxHeartbeats 4000000 in
set_option maxRecDepth 10000 in
theorem b_X0_hindrance {γ : Ev} {o : Nat} {σ : Mm} {r : Int32} {B : Mm} {x1 x2 : Int32} (C : Cx p R s m args meth c RX0 cX0_hindrance 4 (some .int) 4 92 γ) (hB : isX0 γ o) (h : s_X0_hindrance B x1 x2 = some r) (hw : Wo γ (st 6 σ o B) s H locs) (hl : lv_has ls 4 [(0, .ref (eA γ o)), (1, .int x1), (2, .int x2)]) : W p l e R s m args below meth c H locs 0 0 (MQ below (Qo γ (some (.int r)) (st 6 σ o B)) args s 0 0 (AK γ)) (F0 m 0 ls []) := by
  have C0 := C
  obtain ⟨hx, hb, hr, hml, hown, hts, hlk, hK, hd, hF, hL⟩ := C
  unfold s_X0_hindrance at h
  refine lv_iload_n hx hb dX0_hindrance_0 rfl (lv_at hl 1 rfl) ?_
  refine lv_bipush (v := (6 : Int32)) hx hb dX0_hindrance_1 (by decide) ?_
  refine jn_elim h (fun (k : Unit → Option Int32) => ∀ (u : Unit) {H : Heap} {locs : List Loc} {ls : Array Slot}, k u = some r → Wo γ (st 6 σ o B) s H locs → lv_has ls 4 [(0, .ref (eA γ o)), (1, .int x1), (2, .int x2)] → W p l e R s m args below meth c H locs 0 0 (MQ below (Qo γ (some (.int r)) (st 6 σ o B)) args s 0 0 (AK γ)) (F0 m 49 ls [])) ?_ ?_
  · intro u H locs ls h hw hl
    refine lv_iload_n hx hb dX0_hindrance_49 rfl (lv_at hl 1 rfl) ?_
    refine lv_iload_n hx hb dX0_hindrance_50 rfl (lv_at hl 2 rfl) ?_
    obtain ⟨v5, hv5, h⟩ := ob h
    refine r_Si (rest := []) C0 z0 (c_X0_targetOf hv5) lk_X0_95 hl.1 rfl (Nat.le_of_ble_eq_true rfl) (by decide) hw dX0_hindrance_51 (fun {H} {locs} hw => ?_)
    refine lv_istore_n (lv' := [(3, .int v5), (0, .ref (eA γ o)), (1, .int x1), (2, .int x2)]) hx hb dX0_hindrance_54 rfl hl (by decide) rfl (fun ls hl => ?_)
    refine lv_iload_n hx hb dX0_hindrance_55 rfl (lv_at hl 0 rfl) ?_
    obtain ⟨v6, hv6, h⟩ := ob h
    refine r_Si (rest := []) C0 z0 (c_X0_isPlace hv6) lk_X0_53 hl.1 rfl (Nat.le_of_ble_eq_true rfl) (by decide) hw dX0_hindrance_56 (fun {H} {locs} hw => ?_)
    refine lv_if_eq (tgt := 70) hx hb dX0_hindrance_59 (by decide) (fun c7 => ?_) (fun c7 => ?_)
    · replace h := ifp c7 h
      refine lv_iconst (v := (4 : Int32)) hx hb dX0_hindrance_70 (by decide) ?_
      refine lv_goto (tgt := 75) hx hb dX0_hindrance_71 (by decide) ?_
      have h1 := Option.some.inj h
      subst h1
      exact r_iret hx hb hr hlk hK hd hw dX0_hindrance_75
    · replace h := ifn c7 h
      refine lv_aload_n hx hb dX0_hindrance_62 rfl (lv_at hl 1 rfl) ?_
      refine lv_iload_n hx hb dX0_hindrance_63 rfl (lv_at hl 0 rfl) ?_
      obtain ⟨v8, hv8, h⟩ := ob h
      refine r_Vi (rest := []) C0 z0 (c_X0_isFull hB hv8) lk_X0_98 (X0_k0 hB) rfl rfl hl.1 rfl (Nat.le_of_ble_eq_true rfl) (by decide) hw dX0_hindrance_64 (fun {H} {locs} hw => ?_)
      refine lv_if_eq (tgt := 74) hx hb dX0_hindrance_67 (by decide) (fun c9 => ?_) (fun c9 => ?_)
      · replace h := ifp c9 h
        refine lv_iconst (v := (0 : Int32)) hx hb dX0_hindrance_74 (by decide) ?_
        have h1 := Option.some.inj h
        subst h1
        exact r_iret hx hb hr hlk hK hd hw dX0_hindrance_75
      · replace h := ifn c9 h
        refine lv_iconst (v := (4 : Int32)) hx hb dX0_hindrance_70 (by decide) ?_
        refine lv_goto (tgt := 75) hx hb dX0_hindrance_71 (by decide) ?_
        have h1 := Option.some.inj h
        subst h1
        exact r_iret hx hb hr hlk hK hd hw dX0_hindrance_75
  intro k4 J_k4 h
  refine lv_icmp_ge (tgt := 20) hx hb dX0_hindrance_3 (by decide) (fun c10 => ?_) (fun c10 => ?_)
  · replace h := ifp c10 h
    refine lv_aload_n hx hb dX0_hindrance_20 rfl (lv_at hl 0 rfl) ?_
    refine r_get (v := .ref (eA γ (o + 4))) hx hb hts hK hw hown inX0 rfl (X0_k0 hB) (st_at0 (by decide)) 3 (by decide) wd_30 rfl dX0_hindrance_21 ?_
    refine lv_iconst (v := (2 : Int32)) hx hb dX0_hindrance_24 (by decide) ?_
    obtain ⟨v11, hv11, h⟩ := ob h
    refine r_iald hx hb hK hw (X0_k4 hB) (st_at (by decide)) hv11 dX0_hindrance_25 ?_
    refine lv_if_ne (tgt := 31) hx hb dX0_hindrance_26 (by decide) (fun c12 => ?_) (fun c12 => ?_)
    · replace h := ifn c12 h
      refine lv_aload_n hx hb dX0_hindrance_31 rfl (lv_at hl 0 rfl) ?_
      refine lv_iload_n hx hb dX0_hindrance_32 rfl (lv_at hl 2 rfl) ?_
      obtain ⟨v13, hv13, h⟩ := ob h
      refine r_Vi (rest := []) C0 z0 (c_X0_heightAt hB hv13) lk_X0_61 (X0_k0 hB) rfl rfl hl.1 rfl (Nat.le_of_ble_eq_true rfl) (by decide) hw dX0_hindrance_33 (fun {H} {locs} hw => ?_)
      refine lv_if_eq (tgt := 47) hx hb dX0_hindrance_36 (by decide) (fun c14 => ?_) (fun c14 => ?_)
      · replace h := ifp c14 h
        refine lv_iconst (v := (3 : Int32)) hx hb dX0_hindrance_47 (by decide) ?_
        have h1 := Option.some.inj h
        subst h1
        exact r_iret hx hb hr hlk hK hd hw dX0_hindrance_48
      · replace h := ifn c14 h
        refine lv_iload_n hx hb dX0_hindrance_39 rfl (lv_at hl 2 rfl) ?_
        refine lv_aload_n hx hb dX0_hindrance_40 rfl (lv_at hl 0 rfl) ?_
        refine r_get (v := .int (B 0 7)) hx hb hts hK hw hown inX0 rfl (X0_k0 hB) (st_at0 (by decide)) 7 (by decide) wd_34 rfl dX0_hindrance_41 ?_
        refine lv_icmp_ne (tgt := 49) hx hb dX0_hindrance_44 (by decide) (fun c15 => ?_) (fun c15 => ?_)
        · replace h := ifn c15 h
          exact J_k4 () h hw (lv_sub hl [0, 1, 2] rfl)
        · replace h := ifp c15 h
          refine lv_iconst (v := (3 : Int32)) hx hb dX0_hindrance_47 (by decide) ?_
          have h1 := Option.some.inj h
          subst h1
          exact r_iret hx hb hr hlk hK hd hw dX0_hindrance_48
    · replace h := ifp c12 h
      refine lv_iconst (v := (2 : Int32)) hx hb dX0_hindrance_29 (by decide) ?_
      have h1 := Option.some.inj h
      subst h1
      exact r_iret hx hb hr hlk hK hd hw dX0_hindrance_30
  · replace h := ifn c10 h
    refine lv_aload_n hx hb dX0_hindrance_6 rfl (lv_at hl 0 rfl) ?_
    refine lv_aload_n hx hb dX0_hindrance_7 rfl (lv_at hl 0 rfl) ?_
    refine r_get (v := .int (B 0 5)) hx hb hts hK hw hown inX0 rfl (X0_k0 hB) (st_at0 (by decide)) 5 (by decide) wd_32 rfl dX0_hindrance_8 ?_
    refine lv_iload_n hx hb dX0_hindrance_11 rfl (lv_at hl 1 rfl) ?_
    obtain ⟨v16, hv16, h⟩ := ob h
    refine r_Vi (rest := []) C0 z0 (c_X0_inBag hB hv16) lk_X0_85 (X0_k0 hB) rfl rfl hl.1 rfl (Nat.le_of_ble_eq_true rfl) (by decide) hw dX0_hindrance_12 (fun {H} {locs} hw => ?_)
    refine lv_if_ne (tgt := 49) hx hb dX0_hindrance_15 (by decide) (fun c17 => ?_) (fun c17 => ?_)
    · replace h := ifn c17 h
      exact J_k4 () h hw (lv_sub hl [0, 1, 2] rfl)
    · replace h := ifp c17 h
      refine lv_iconst (v := (2 : Int32)) hx hb dX0_hindrance_18 (by decide) ?_
      have h1 := Option.some.inj h
      subst h1
      exact r_iret hx hb hr hlk hK hd hw dX0_hindrance_19
theorem c_X0_hindrance {l : Launch} {γ : Ev} {o : Nat} {σ : Mm} {r : Int32} {B : Mm} {x1 x2 : Int32} (hB : isX0 γ o) (h : s_X0_hindrance B x1 x2 = some r) : Ct l yX0_hindrance cX0_hindrance 4 (some .int) 4 92 γ [.ref (eA γ o), .int x1, .int x2] (st 6 σ o B) (some (.int r)) (st 6 σ o B) := Ct.of (own := RX0) (by decide +kernel) rfl (Nat.le_of_ble_eq_true rfl) (fun C hw ls hl => b_X0_hindrance C hB h hw hl)
set_option maxHeartbeats 4000000 in
set_option maxRecDepth 10000 in
theorem b_X0_whyNot {γ : Ev} {o : Nat} {σ : Mm} {r : Int32} {B : Mm} {x1 x2 : Int32} (C : Cx p R s m args meth c RX0 cX0_whyNot 3 (some .int) 5 115 γ) (hB : isX0 γ o) (h : s_X0_whyNot B x1 x2 = some r) (hw : Wo γ (st 6 σ o B) s H locs) (hl : lv_has ls 3 [(0, .ref (eA γ o)), (1, .int x1), (2, .int x2)]) : W p l e R s m args below meth c H locs 0 0 (MQ below (Qo γ (some (.int r)) (st 6 σ o B)) args s 0 0 (AK γ)) (F0 m 0 ls []) := by
  have C0 := C
  obtain ⟨hx, hb, hr, hml, hown, hts, hlk, hK, hd, hF, hL⟩ := C
  unfold s_X0_whyNot at h
  refine lv_aload_n hx hb dX0_whyNot_0 rfl (lv_at hl 0 rfl) ?_
  obtain ⟨v1, hv1, h⟩ := ob h
  refine r_Vi (rest := []) C0 z0 (c_X0_outcome hB hv1) lk_X0_88 (X0_k0 hB) rfl rfl hl.1 rfl (Nat.le_of_ble_eq_true rfl) (by decide) hw dX0_whyNot_1 (fun {H} {locs} hw => ?_)
  refine lv_if_eq (tgt := 11) hx hb dX0_whyNot_4 (by decide) (fun c2 => ?_) (fun c2 => ?_)
  · replace h := ifp c2 h
    refine lv_aload_n hx hb dX0_whyNot_11 rfl (lv_at hl 0 rfl) ?_
    refine lv_iload_n hx hb dX0_whyNot_12 rfl (lv_at hl 1 rfl) ?_
    refine lv_iload_n hx hb dX0_whyNot_13 rfl (lv_at hl 2 rfl) ?_
    obtain ⟨v3, hv3, h⟩ := ob h
    refine r_Vi (rest := []) C0 z0 (c_X0_hindrance hB hv3) lk_X0_92 (X0_k0 hB) rfl rfl hl.1 rfl (Nat.le_of_ble_eq_true rfl) (by decide) hw dX0_whyNot_14 (fun {H} {locs} hw => ?_)
    have h1 := Option.some.inj h
    subst h1
    exact r_iret hx hb hr hlk hK hd hw dX0_whyNot_17
  · replace h := ifn c2 h
    refine lv_iconst (v := (1 : Int32)) hx hb dX0_whyNot_7 (by decide) ?_
    refine lv_goto (tgt := 17) hx hb dX0_whyNot_8 (by decide) ?_
    have h1 := Option.some.inj h
    subst h1
    exact r_iret hx hb hr hlk hK hd hw dX0_whyNot_17
theorem c_X0_whyNot {l : Launch} {γ : Ev} {o : Nat} {σ : Mm} {r : Int32} {B : Mm} {x1 x2 : Int32} (hB : isX0 γ o) (h : s_X0_whyNot B x1 x2 = some r) : Ct l yX0_whyNot cX0_whyNot 3 (some .int) 5 115 γ [.ref (eA γ o), .int x1, .int x2] (st 6 σ o B) (some (.int r)) (st 6 σ o B) := Ct.of (own := RX0) (by decide +kernel) rfl (Nat.le_of_ble_eq_true rfl) (fun C hw ls hl => b_X0_whyNot C hB h hw hl)
set_option maxHeartbeats 4000000 in
set_option maxRecDepth 10000 in
theorem b_X0_tellingOf {γ : Ev} {o : Nat} {σ : Mm} {r : Int32} {B : Mm} {x1 x2 : Int32} (C : Cx p R s m args meth c RX0 cX0_tellingOf 3 (some .int) 4 93 γ) (hB : isX0 γ o) (h : s_X0_tellingOf B x1 x2 = some r) (hw : Wo γ (st 6 σ o B) s H locs) (hl : lv_has ls 3 [(0, .ref (eA γ o)), (1, .int x1), (2, .int x2)]) : W p l e R s m args below meth c H locs 0 0 (MQ below (Qo γ (some (.int r)) (st 6 σ o B)) args s 0 0 (AK γ)) (F0 m 0 ls []) := by
  have C0 := C
  obtain ⟨hx, hb, hr, hml, hown, hts, hlk, hK, hd, hF, hL⟩ := C
  unfold s_X0_tellingOf at h
  refine lv_iload_n hx hb dX0_tellingOf_0 rfl (lv_at hl 1 rfl) ?_
  refine lv_bipush (v := (6 : Int32)) hx hb dX0_tellingOf_1 (by decide) ?_
  refine lv_icmp_ge (tgt := 10) hx hb dX0_tellingOf_3 (by decide) (fun c1 => ?_) (fun c1 => ?_)
  · replace h := ifp c1 h
    refine lv_aload_n hx hb dX0_tellingOf_10 rfl (lv_at hl 0 rfl) ?_
    refine lv_iload_n hx hb dX0_tellingOf_11 rfl (lv_at hl 2 rfl) ?_
    obtain ⟨v2, hv2, h⟩ := ob h
    refine r_Vi (rest := []) C0 z0 (c_X0_uppermostAt hB hv2) lk_X0_101 (X0_k0 hB) rfl rfl hl.1 rfl (Nat.le_of_ble_eq_true rfl) (by decide) hw dX0_tellingOf_12 (fun {H} {locs} hw => ?_)
    refine lv_iload_n hx hb dX0_tellingOf_15 rfl (lv_at hl 1 rfl) ?_
    refine lv_iload_n hx hb dX0_tellingOf_16 rfl (lv_at hl 2 rfl) ?_
    obtain ⟨v3, hv3, h⟩ := ob h
    refine r_Si (rest := [.int v2]) C0 z0 (c_X0_targetOf hv3) lk_X0_95 hl.1 rfl (Nat.le_of_ble_eq_true rfl) (by decide) hw dX0_tellingOf_17 (fun {H} {locs} hw => ?_)
    refine lv_iload_n hx hb dX0_tellingOf_20 rfl (lv_at hl 2 rfl) ?_
    refine lv_isub hx hb dX0_tellingOf_21 ?_
    refine lv_imul hx hb dX0_tellingOf_22 ?_
    have h1 := Option.some.inj h
    subst h1
    exact r_iret hx hb hr hlk hK hd hw dX0_tellingOf_23
  · replace h := ifn c1 h
    refine lv_iload_n hx hb dX0_tellingOf_6 rfl (lv_at hl 1 rfl) ?_
    refine lv_iload_n hx hb dX0_tellingOf_7 rfl (lv_at hl 2 rfl) ?_
    refine lv_imul hx hb dX0_tellingOf_8 ?_
    have h1 := Option.some.inj h
    subst h1
    exact r_iret hx hb hr hlk hK hd hw dX0_tellingOf_9
theorem c_X0_tellingOf {l : Launch} {γ : Ev} {o : Nat} {σ : Mm} {r : Int32} {B : Mm} {x1 x2 : Int32} (hB : isX0 γ o) (h : s_X0_tellingOf B x1 x2 = some r) : Ct l yX0_tellingOf cX0_tellingOf 3 (some .int) 4 93 γ [.ref (eA γ o), .int x1, .int x2] (st 6 σ o B) (some (.int r)) (st 6 σ o B) := Ct.of (own := RX0) (by decide +kernel) rfl (Nat.le_of_ble_eq_true rfl) (fun C hw ls hl => b_X0_tellingOf C hB h hw hl)
set_option maxHeartbeats 4000000 in
set_option maxRecDepth 10000 in
theorem b_J9_floorMod_7cf53 {γ : Ev} {μ : Mm} {r : Int32} {x0 x1 : Int32} (C : Cx p R s m args meth c RJ9 cJ9_floorMod_7cf53 3 (some .int) 1 30 γ) (h : s_J9_floorMod_7cf53 x0 x1 = some r) (hw : Wo γ μ s H locs) (hl : lv_has ls 3 [(0, .int x0), (1, .int x1)]) : W p l e R s m args below meth c H locs 0 0 (MQ below (Qo γ (some (.int r)) μ) args s 0 0 (AK γ)) (F0 m 0 ls []) := by
  have C0 := C
  obtain ⟨hx, hb, hr, hml, hown, hts, hlk, hK, hd, hF, hL⟩ := C
  unfold s_J9_floorMod_7cf53 at h
  refine lv_iload_n hx hb dJ9_floorMod_7cf53_0 rfl (lv_at hl 0 rfl) ?_
  refine lv_iload_n hx hb dJ9_floorMod_7cf53_1 rfl (lv_at hl 1 rfl) ?_
  obtain ⟨v1, hv1, h⟩ := ob h
  refine lv_irem hx hb dJ9_floorMod_7cf53_2 (rmi_some hv1).1 ?_
  refine r_top (rmi_some hv1).2 ?_
  refine lv_istore_n (lv' := [(2, .int v1), (0, .int x0), (1, .int x1)]) hx hb dJ9_floorMod_7cf53_3 rfl hl (by decide) rfl (fun ls hl => ?_)
  refine lv_iload_n hx hb dJ9_floorMod_7cf53_4 rfl (lv_at hl 1 rfl) ?_
  refine lv_iload_n hx hb dJ9_floorMod_7cf53_5 rfl (lv_at hl 2 rfl) ?_
  refine lv_ixor hx hb dJ9_floorMod_7cf53_6 ?_
  refine lv_if_ge (tgt := 18) hx hb dJ9_floorMod_7cf53_7 (by decide) (fun c2 => ?_) (fun c2 => ?_)
  · replace h := ifp c2 h
    refine lv_iload_n hx hb dJ9_floorMod_7cf53_18 rfl (lv_at hl 0 rfl) ?_
    have h1 := Option.some.inj h
    subst h1
    exact r_iret hx hb hr hlk hK hd hw dJ9_floorMod_7cf53_19
  · replace h := ifn c2 h
    refine lv_iload_n hx hb dJ9_floorMod_7cf53_10 rfl (lv_at hl 0 rfl) ?_
    refine lv_if_eq (tgt := 18) hx hb dJ9_floorMod_7cf53_11 (by decide) (fun c3 => ?_) (fun c3 => ?_)
    · replace h := ifp c3 h
      refine lv_iload_n hx hb dJ9_floorMod_7cf53_18 rfl (lv_at hl 0 rfl) ?_
      have h1 := Option.some.inj h
      subst h1
      exact r_iret hx hb hr hlk hK hd hw dJ9_floorMod_7cf53_19
    · replace h := ifn c3 h
      refine lv_iload_n hx hb dJ9_floorMod_7cf53_14 rfl (lv_at hl 0 rfl) ?_
      refine lv_iload_n hx hb dJ9_floorMod_7cf53_15 rfl (lv_at hl 2 rfl) ?_
      refine lv_iadd hx hb dJ9_floorMod_7cf53_16 ?_
      have h1 := Option.some.inj h
      subst h1
      exact r_iret hx hb hr hlk hK hd hw dJ9_floorMod_7cf53_17
theorem c_J9_floorMod_7cf53 {l : Launch} {γ : Ev} {μ : Mm} {r : Int32} {x0 x1 : Int32} (h : s_J9_floorMod_7cf53 x0 x1 = some r) : Ct l yJ9_floorMod_7cf53 cJ9_floorMod_7cf53 3 (some .int) 1 30 γ [.int x0, .int x1] μ (some (.int r)) μ := Ct.of (own := RJ9) (by decide +kernel) rfl (Nat.le_of_ble_eq_true rfl) (fun C hw ls hl => b_J9_floorMod_7cf53 C h hw hl)
set_option maxHeartbeats 4000000 in
set_option maxRecDepth 10000 in
theorem b_X0_rowOf {γ : Ev} {μ : Mm} {r : Int32} {x0 : Int32} (C : Cx p R s m args meth c RX0 cX0_rowOf 1 (some .int) 2 52 γ) (h : s_X0_rowOf x0 = some r) (hw : Wo γ μ s H locs) (hl : lv_has ls 1 [(0, .int x0)]) : W p l e R s m args below meth c H locs 0 0 (MQ below (Qo γ (some (.int r)) μ) args s 0 0 (AK γ)) (F0 m 0 ls []) := by
  have C0 := C
  obtain ⟨hx, hb, hr, hml, hown, hts, hlk, hK, hd, hF, hL⟩ := C
  unfold s_X0_rowOf at h
  refine lv_iload_n hx hb dX0_rowOf_0 rfl (lv_at hl 0 rfl) ?_
  refine lv_bipush (v := (40 : Int32)) hx hb dX0_rowOf_1 (by decide) ?_
  obtain ⟨v1, hv1, h⟩ := ob h
  refine r_Si (rest := []) C0 z0 (c_J9_floorMod_7cf53 hv1) lk_X0_130 hl.1 rfl (Nat.le_of_ble_eq_true rfl) (by decide) hw dX0_rowOf_3 (fun {H} {locs} hw => ?_)
  refine lv_iconst (v := (4 : Int32)) hx hb dX0_rowOf_6 (by decide) ?_
  refine lv_imul hx hb dX0_rowOf_7 ?_
  have h1 := Option.some.inj h
  subst h1
  exact r_iret hx hb hr hlk hK hd hw dX0_rowOf_8
theorem c_X0_rowOf {l : Launch} {γ : Ev} {μ : Mm} {r : Int32} {x0 : Int32} (h : s_X0_rowOf x0 = some r) : Ct l yX0_rowOf cX0_rowOf 1 (some .int) 2 52 γ [.int x0] μ (some (.int r)) μ := Ct.of (own := RX0) (by decide +kernel) rfl (Nat.le_of_ble_eq_true rfl) (fun C hw ls hl => b_X0_rowOf C h hw hl)
set_option maxHeartbeats 4000000 in
set_option maxRecDepth 10000 in
theorem b_X0_sideBehind {γ : Ev} {o : Nat} {σ : Mm} {r : Int32} {B : Mm} {x1 : Int32} (C : Cx p R s m args meth c RX0 cX0_sideBehind 4 (some .int) 3 72 γ) (hB : isX0 γ o) (h : s_X0_sideBehind B x1 = some r) (hw : Wo γ (st 6 σ o B) s H locs) (hl : lv_has ls 4 [(0, .ref (eA γ o)), (1, .int x1)]) : W p l e R s m args below meth c H locs 0 0 (MQ below (Qo γ (some (.int r)) (st 6 σ o B)) args s 0 0 (AK γ)) (F0 m 0 ls []) := by
  have C0 := C
  obtain ⟨hx, hb, hr, hml, hown, hts, hlk, hK, hd, hF, hL⟩ := C
  unfold s_X0_sideBehind at h
  refine lv_iconst (v := (1 : Int32)) hx hb dX0_sideBehind_0 (by decide) ?_
  refine lv_iload_n hx hb dX0_sideBehind_1 rfl (lv_at hl 1 rfl) ?_
  refine lv_isub hx hb dX0_sideBehind_2 ?_
  obtain ⟨v1, ev1, h⟩ := jb h
  refine r_top ev1 ?_
  refine lv_istore_n (lv' := [(2, .int v1), (0, .ref (eA γ o)), (1, .int x1)]) hx hb dX0_sideBehind_3 rfl hl (by decide) rfl (fun ls hl => ?_)
  refine lv_aload_n hx hb dX0_sideBehind_4 rfl (lv_at hl 1 rfl) ?_
  refine r_get (v := .ref (eA γ (o + 4))) hx hb hts hK hw hown inX0 rfl (X0_k0 hB) (st_at0 (by decide)) 3 (by decide) wd_30 rfl dX0_sideBehind_5 ?_
  refine lv_iconst (v := (2 : Int32)) hx hb dX0_sideBehind_8 (by decide) ?_
  obtain ⟨v2, hv2, h⟩ := ob h
  refine r_iald hx hb hK hw (X0_k4 hB) (st_at (by decide)) hv2 dX0_sideBehind_9 ?_
  refine jn_elim h (fun (k : Int32 → Option Int32) => ∀ (v5 : Int32) {H : Heap} {locs : List Loc} {ls : Array Slot}, k v5 = some r → Wo γ (st 6 σ o B) s H locs → lv_has ls 4 [(0, .ref (eA γ o)), (1, .int x1), (2, .int v1)] → W p l e R s m args below meth c H locs 0 0 (MQ below (Qo γ (some (.int r)) (st 6 σ o B)) args s 0 0 (AK γ)) (F0 m 27 ls [.int v5])) ?_ ?_
  · intro v5 H locs ls h hw hl
    refine lv_istore_n (lv' := [(3, .int v5), (0, .ref (eA γ o)), (1, .int x1), (2, .int v1)]) hx hb dX0_sideBehind_27 rfl hl (by decide) rfl (fun ls hl => ?_)
    refine lv_iload_n hx hb dX0_sideBehind_28 rfl (lv_at hl 0 rfl) ?_
    refine lv_if_eq (tgt := 45) hx hb dX0_sideBehind_29 (by decide) (fun c6 => ?_) (fun c6 => ?_)
    · replace h := ifp c6 h
      refine lv_iload_n hx hb dX0_sideBehind_45 rfl (lv_at hl 3 rfl) ?_
      have h1 := Option.some.inj h
      subst h1
      exact r_iret hx hb hr hlk hK hd hw dX0_sideBehind_46
    · replace h := ifn c6 h
      refine lv_aload_n hx hb dX0_sideBehind_32 rfl (lv_at hl 1 rfl) ?_
      refine lv_iload_n hx hb dX0_sideBehind_33 rfl (lv_at hl 2 rfl) ?_
      refine lv_iconst (v := (0 : Int32)) hx hb dX0_sideBehind_34 (by decide) ?_
      obtain ⟨v7, hv7, h⟩ := ob h
      refine r_Vi (rest := []) C0 z0 (c_X0_inBag hB hv7) lk_X0_85 (X0_k0 hB) rfl rfl hl.1 rfl (Nat.le_of_ble_eq_true rfl) (by decide) hw dX0_sideBehind_35 (fun {H} {locs} hw => ?_)
      refine lv_if_le (tgt := 45) hx hb dX0_sideBehind_38 (by decide) (fun c8 => ?_) (fun c8 => ?_)
      · replace h := ifp c8 h
        refine lv_iload_n hx hb dX0_sideBehind_45 rfl (lv_at hl 3 rfl) ?_
        have h1 := Option.some.inj h
        subst h1
        exact r_iret hx hb hr hlk hK hd hw dX0_sideBehind_46
      · replace h := ifn c8 h
        refine lv_iload_n hx hb dX0_sideBehind_41 rfl (lv_at hl 2 rfl) ?_
        refine lv_goto (tgt := 46) hx hb dX0_sideBehind_42 (by decide) ?_
        have h1 := Option.some.inj h
        subst h1
        exact r_iret hx hb hr hlk hK hd hw dX0_sideBehind_46
  intro k4 J_k4 h
  refine jn_elim h (fun (k : Unit → Option Int32) => ∀ (u : Unit) {H : Heap} {locs : List Loc} {ls : Array Slot}, k u = some r → Wo γ (st 6 σ o B) s H locs → lv_has ls 4 [(0, .ref (eA γ o)), (1, .int x1), (2, .int v1)] → W p l e R s m args below meth c H locs 0 0 (MQ below (Qo γ (some (.int r)) (st 6 σ o B)) args s 0 0 (AK γ)) (F0 m 26 ls [])) ?_ ?_
  · intro u H locs ls h hw hl
    refine lv_iconst (v := (0 : Int32)) hx hb dX0_sideBehind_26 (by decide) ?_
    exact J_k4 (0 : Int32) h hw (lv_sub hl [0, 1, 2] rfl)
  intro k11 J_k11 h
  refine lv_if_ne (tgt := 26) hx hb dX0_sideBehind_10 (by decide) (fun c12 => ?_) (fun c12 => ?_)
  · replace h := ifn c12 h
    exact J_k11 () h hw (lv_sub hl [1, 2, 0] rfl)
  · replace h := ifp c12 h
    refine lv_aload_n hx hb dX0_sideBehind_13 rfl (lv_at hl 1 rfl) ?_
    refine lv_iload_n hx hb dX0_sideBehind_14 rfl (lv_at hl 0 rfl) ?_
    refine lv_iconst (v := (0 : Int32)) hx hb dX0_sideBehind_15 (by decide) ?_
    obtain ⟨v13, hv13, h⟩ := ob h
    refine r_Vi (rest := []) C0 z0 (c_X0_inBag hB hv13) lk_X0_85 (X0_k0 hB) rfl rfl hl.1 rfl (Nat.le_of_ble_eq_true rfl) (by decide) hw dX0_sideBehind_16 (fun {H} {locs} hw => ?_)
    refine lv_if_ne (tgt := 26) hx hb dX0_sideBehind_19 (by decide) (fun c14 => ?_) (fun c14 => ?_)
    · replace h := ifn c14 h
      exact J_k11 () h hw (lv_sub hl [1, 2, 0] rfl)
    · replace h := ifp c14 h
      refine lv_iconst (v := (1 : Int32)) hx hb dX0_sideBehind_22 (by decide) ?_
      refine lv_goto (tgt := 27) hx hb dX0_sideBehind_23 (by decide) ?_
      exact J_k4 (1 : Int32) h hw (lv_sub hl [1, 2, 0] rfl)
theorem c_X0_sideBehind {l : Launch} {γ : Ev} {o : Nat} {σ : Mm} {r : Int32} {B : Mm} {x1 : Int32} (hB : isX0 γ o) (h : s_X0_sideBehind B x1 = some r) : Ct l yX0_sideBehind cX0_sideBehind 4 (some .int) 3 72 γ [.ref (eA γ o), .int x1] (st 6 σ o B) (some (.int r)) (st 6 σ o B) := Ct.of (own := RX0) (by decide +kernel) rfl (Nat.le_of_ble_eq_true rfl) (fun C hw ls hl => b_X0_sideBehind C hB h hw hl)
end
