section
variable {p : Program} {l : Launch} {e : Env} {R : Room} {s : State} {m : MethodId} {args : Array Value} {below : List Frame} {meth : Method} {c : Code} {H : Heap} {locs : List Loc} {ls : Array Slot}
set_option maxHeartbeats 4000000 in
set_option maxRecDepth 10000 in
theorem b_X5_made {γ : Ev} {o : Nat} {σ : Mm} {r : Int32} {Z : Mm} {x1 x2 : Int32} (C : Cx p R s m args meth c RX5 cX5_made 3 (some .int) 2 52 γ) (hB : isX5 γ o) (h : s_X5_made Z x1 x2 = some r) (hw : Wo γ (st 10 σ o Z) s H locs) (hl : lv_has ls 3 [(0, .ref (eA γ o)), (1, .int x1), (2, .int x2)]) : W p l e R s m args below meth c H locs 0 0 (MQ below (Qo γ (some (.int r)) (st 10 σ o Z)) args s 0 0 (AK γ)) (F0 m 0 ls []) := by
  have C0 := C
  obtain ⟨hx, hb, hr, hml, hown, hts, hlk, hK, hd, hF, hL⟩ := C
  unfold s_X5_made at h
  refine lv_iload_n hx hb dX5_made_0 rfl (lv_at hl 1 rfl) ?_
  refine lv_if_lt (tgt := 13) hx hb dX5_made_1 (by decide) (fun c1 => ?_) (fun c1 => ?_)
  · replace h := ifp c1 h
    refine lv_sipush (v := (-10002 : Int32)) hx hb dX5_made_13 (by decide) ?_
    have h1 := Option.some.inj h
    subst h1
    exact r_iret hx hb hr hlk hK hd hw dX5_made_16
  · replace h := ifn c1 h
    refine lv_iload_n hx hb dX5_made_4 rfl (lv_at hl 2 rfl) ?_
    refine lv_iconst (v := (0 : Int32)) hx hb dX5_made_5 (by decide) ?_
    refine lv_iconst (v := (3 : Int32)) hx hb dX5_made_6 (by decide) ?_
    obtain ⟨v2, hv2, h⟩ := ob h
    refine r_Si (rest := []) C0 z0 (c_X5_in hv2) lk_X5_49 hl.1 rfl (Nat.le_of_ble_eq_true rfl) (by decide) hw dX5_made_7 (fun {H} {locs} hw => ?_)
    refine lv_if_ne (tgt := 17) hx hb dX5_made_10 (by decide) (fun c3 => ?_) (fun c3 => ?_)
    · replace h := ifn c3 h
      refine lv_iload_n hx hb dX5_made_17 rfl (lv_at hl 1 rfl) ?_
      refine lv_aload_n hx hb dX5_made_18 rfl (lv_at hl 0 rfl) ?_
      refine r_get (v := .ref (eA γ (o + 1))) hx hb hts hK hw hown inX5 rfl (X5_k0 hB) (st_at0 (by decide)) 0 (by decide) wd_573 rfl dX5_made_19 ?_
      refine lv_bipush (v := (12 : Int32)) hx hb dX5_made_22 (by decide) ?_
      obtain ⟨v4, hv4, h⟩ := ob h
      refine r_iald hx hb hK hw (X5_k1 hB) (st_at (by decide)) hv4 dX5_made_24 ?_
      refine lv_icmp_ge (tgt := 54) hx hb dX5_made_25 (by decide) (fun c5 => ?_) (fun c5 => ?_)
      · replace h := ifp c5 h
        refine lv_sipush (v := (-10005 : Int32)) hx hb dX5_made_54 (by decide) ?_
        have h1 := Option.some.inj h
        subst h1
        exact r_iret hx hb hr hlk hK hd hw dX5_made_57
      · replace h := ifn c5 h
        refine lv_aload_n hx hb dX5_made_28 rfl (lv_at hl 0 rfl) ?_
        refine r_get (v := .ref (eA γ (o + 1))) hx hb hts hK hw hown inX5 rfl (X5_k0 hB) (st_at0 (by decide)) 0 (by decide) wd_573 rfl dX5_made_29 ?_
        refine lv_bipush (v := (83 : Int32)) hx hb dX5_made_32 (by decide) ?_
        refine lv_iconst (v := (4 : Int32)) hx hb dX5_made_34 (by decide) ?_
        refine lv_aload_n hx hb dX5_made_35 rfl (lv_at hl 0 rfl) ?_
        refine r_get (v := .ref (eA γ (o + 1))) hx hb hts hK hw hown inX5 rfl (X5_k0 hB) (st_at0 (by decide)) 0 (by decide) wd_573 rfl dX5_made_36 ?_
        refine lv_bipush (v := (12 : Int32)) hx hb dX5_made_39 (by decide) ?_
        obtain ⟨v6, hv6, h⟩ := ob h
        refine r_iald hx hb hK hw (X5_k1 hB) (st_at (by decide)) hv6 dX5_made_41 ?_
        refine lv_iconst (v := (1 : Int32)) hx hb dX5_made_42 (by decide) ?_
        refine lv_isub hx hb dX5_made_43 ?_
        refine lv_iload_n hx hb dX5_made_44 rfl (lv_at hl 1 rfl) ?_
        refine lv_isub hx hb dX5_made_45 ?_
        refine lv_imul hx hb dX5_made_46 ?_
        refine lv_iadd hx hb dX5_made_47 ?_
        refine lv_iload_n hx hb dX5_made_48 rfl (lv_at hl 2 rfl) ?_
        refine lv_iadd hx hb dX5_made_49 ?_
        obtain ⟨v7, hv7, h⟩ := ob h
        refine r_iald hx hb hK hw (X5_k1 hB) (st_at (by decide)) hv7 dX5_made_50 ?_
        refine lv_goto (tgt := 57) hx hb dX5_made_51 (by decide) ?_
        have h1 := Option.some.inj h
        subst h1
        exact r_iret hx hb hr hlk hK hd hw dX5_made_57
    · replace h := ifp c3 h
      refine lv_sipush (v := (-10002 : Int32)) hx hb dX5_made_13 (by decide) ?_
      have h1 := Option.some.inj h
      subst h1
      exact r_iret hx hb hr hlk hK hd hw dX5_made_16
theorem c_X5_made {l : Launch} {γ : Ev} {o : Nat} {σ : Mm} {r : Int32} {Z : Mm} {x1 x2 : Int32} (hB : isX5 γ o) (h : s_X5_made Z x1 x2 = some r) : Ct l yX5_made cX5_made 3 (some .int) 2 52 γ [.ref (eA γ o), .int x1, .int x2] (st 10 σ o Z) (some (.int r)) (st 10 σ o Z) := Ct.of (own := RX5) (by decide +kernel) rfl (Nat.le_of_ble_eq_true rfl) (fun C hw ls hl => b_X5_made C hB h hw hl)
set_option maxHeartbeats 4000000 in
set_option maxRecDepth 10000 in
theorem b_X5_moves_L4 {γ : Ev} {o : Nat} {σ : Mm} {Bf : Mm} {r : Int32} (C : Cx p R s m args meth c RX5 cX5_moves 4 (some .int) 7 161 γ) (hB : isX5 γ o) : ∀ (n : Nat) {Z : Mm} {x1 : Int32} {x2 : Int32} {x3 : Int32} {H : Heap} {locs : List Loc} {ls : Array Slot}, s_X5_moves_L4 n Z x1 x2 x3 = some (r, Bf) → Wo γ (st 10 σ o Z) s H locs → lv_has ls 4 [(0, .ref (eA γ o)), (1, .int x1), (2, .int x2), (3, .int x3)] → W p l e R s m args below meth c H locs 0 0 (MQ below (Qo γ (some (.int r)) (st 10 σ o Bf)) args s 0 0 (AK γ)) (F0 m 4 ls []) := by
  have C0 := C
  obtain ⟨hx, hb, hr, hml, hown, hts, hlk, hK, hd, hF, hL⟩ := C
  intro n
  induction n with
  | zero => intro Z x1 x2 x3 H locs ls h; cases h
  | succ n ih =>
    intro Z x1 x2 x3 H locs ls h hw hl
    unfold s_X5_moves_L4 at h
    refine lv_iload_n hx hb dX5_moves_4 rfl (lv_at hl 3 rfl) ?_
    refine lv_bipush (v := (84 : Int32)) hx hb dX5_moves_5 (by decide) ?_
    refine lv_icmp_ge (tgt := 55) hx hb dX5_moves_7 (by decide) (fun c1 => ?_) (fun c1 => ?_)
    · replace h := ifp c1 h
      refine lv_iload_n hx hb dX5_moves_55 rfl (lv_at hl 2 rfl) ?_
      obtain ⟨h1, h2⟩ := s2 h
      subst h1
      subst h2
      exact r_iret hx hb hr hlk hK hd hw dX5_moves_56
    · replace h := ifn c1 h
      refine lv_aload_n hx hb dX5_moves_10 rfl (lv_at hl 0 rfl) ?_
      refine lv_iload_n hx hb dX5_moves_11 rfl (lv_at hl 3 rfl) ?_
      obtain ⟨v2, hv2, h⟩ := ob h
      refine r_Vi (rest := []) C0 z0 (c_X5_isPossible hB hv2) lk_X5_138 (X5_k0 hB) rfl rfl hl.1 rfl (Nat.le_of_ble_eq_true rfl) (by decide) hw dX5_moves_12 (fun {H} {locs} hw => ?_)
      refine lv_if_eq (tgt := 49) hx hb dX5_moves_15 (by decide) (fun c3 => ?_) (fun c3 => ?_)
      · replace h := ifp c3 h
        obtain ⟨v4, ev4, h⟩ := jb h
        refine lv_iinc (v := v4) (lv' := [(3, .int v4), (0, .ref (eA γ o)), (1, .int x1), (2, .int x2)]) hx hb dX5_moves_49 hl (k := 3) rfl (by rw [← ev4]; rfl) (by decide) rfl (fun ls hl => ?_)
        refine lv_goto (tgt := 4) hx hb dX5_moves_52 (by decide) ?_
        exact ih h hw (lv_sub hl [1, 2, 3, 0] rfl)
      · replace h := ifn c3 h
        refine lv_aload_n hx hb dX5_moves_18 rfl (lv_at hl 0 rfl) ?_
        refine lv_iconst (v := (1 : Int32)) hx hb dX5_moves_19 (by decide) ?_
        refine lv_iload_n hx hb dX5_moves_20 rfl (lv_at hl 3 rfl) ?_
        obtain ⟨N5, hN5, h⟩ := ob h
        refine r_Vv (rest := []) C0 z0 (c_X5_ahead hB hN5) lk_X5_141 (X5_k0 hB) rfl rfl hl.1 rfl (Nat.le_of_ble_eq_true rfl) (by decide) hw dX5_moves_21 (fun {H} {locs} hw => ?_)
        refine lv_iload_n hx hb dX5_moves_24 rfl (lv_at hl 2 rfl) ?_
        refine lv_iload_n hx hb dX5_moves_25 rfl (lv_at hl 1 rfl) ?_
        refine jn_elim h (fun (k : Int32 → Option (Int32 × (Mm))) => ∀ (v8 : Int32) {H : Heap} {locs : List Loc} {ls : Array Slot}, k v8 = some (r, Bf) → Wo γ (st 10 σ o N5) s H locs → lv_has ls 4 [(0, .ref (eA γ o)), (1, .int x1), (3, .int x3)] → W p l e R s m args below meth c H locs 0 0 (MQ below (Qo γ (some (.int r)) (st 10 σ o Bf)) args s 0 0 (AK γ)) (F0 m 41 ls [.int v8, .int x2])) ?_ ?_
        · intro v8 H locs ls h hw hl
          refine lv_iadd hx hb dX5_moves_41 ?_
          obtain ⟨v9, ev9, h⟩ := jb h
          refine r_top ev9 ?_
          refine lv_istore_n (lv' := [(2, .int v9), (0, .ref (eA γ o)), (1, .int x1), (3, .int x3)]) hx hb dX5_moves_42 rfl hl (by decide) rfl (fun ls hl => ?_)
          refine lv_aload_n hx hb dX5_moves_43 rfl (lv_at hl 1 rfl) ?_
          refine lv_iconst (v := (1 : Int32)) hx hb dX5_moves_44 (by decide) ?_
          refine lv_iload_n hx hb dX5_moves_45 rfl (lv_at hl 3 rfl) ?_
          obtain ⟨N10, hN10, h⟩ := ob h
          refine r_Vv (rest := []) C0 z0 (c_X5_back hB hN10) lk_X5_147 (X5_k0 hB) rfl rfl hl.1 rfl (Nat.le_of_ble_eq_true rfl) (by decide) hw dX5_moves_46 (fun {H} {locs} hw => ?_)
          obtain ⟨v11, ev11, h⟩ := jb h
          refine lv_iinc (v := v11) (lv' := [(3, .int v11), (2, .int v9), (0, .ref (eA γ o)), (1, .int x1)]) hx hb dX5_moves_49 hl (k := 3) rfl (by rw [← ev11]; rfl) (by decide) rfl (fun ls hl => ?_)
          refine lv_goto (tgt := 4) hx hb dX5_moves_52 (by decide) ?_
          exact ih h hw (lv_sub hl [2, 3, 1, 0] rfl)
        intro k7 J_k7 h
        refine jn_elim h (fun (k : Unit → Option (Int32 × (Mm))) => ∀ (u : Unit) {H : Heap} {locs : List Loc} {ls : Array Slot}, k u = some (r, Bf) → Wo γ (st 10 σ o N5) s H locs → lv_has ls 4 [(0, .ref (eA γ o)), (1, .int x1), (3, .int x3)] → W p l e R s m args below meth c H locs 0 0 (MQ below (Qo γ (some (.int r)) (st 10 σ o Bf)) args s 0 0 (AK γ)) (F0 m 40 ls [.int x2])) ?_ ?_
        · intro u H locs ls h hw hl
          refine lv_iconst (v := (1 : Int32)) hx hb dX5_moves_40 (by decide) ?_
          exact J_k7 (1 : Int32) h hw (lv_sub hl [0, 1, 2] rfl)
        intro k16 J_k16 h
        refine lv_if_eq (tgt := 40) hx hb dX5_moves_26 (by decide) (fun c17 => ?_) (fun c17 => ?_)
        · replace h := ifp c17 h
          exact J_k16 () h hw (lv_sub hl [0, 1, 3] rfl)
        · replace h := ifn c17 h
          refine lv_aload_n hx hb dX5_moves_29 rfl (lv_at hl 0 rfl) ?_
          obtain ⟨v18, hv18, h⟩ := ob h
          refine r_Vi (rest := [.int x2]) C0 z0 (c_X5_hasTipped hB hv18) lk_X5_87 (X5_k0 hB) rfl rfl hl.1 rfl (Nat.le_of_ble_eq_true rfl) (by decide) hw dX5_moves_30 (fun {H} {locs} hw => ?_)
          refine lv_if_eq (tgt := 40) hx hb dX5_moves_33 (by decide) (fun c19 => ?_) (fun c19 => ?_)
          · replace h := ifp c19 h
            exact J_k16 () h hw (lv_sub hl [0, 1, 3] rfl)
          · replace h := ifn c19 h
            refine lv_iconst (v := (0 : Int32)) hx hb dX5_moves_36 (by decide) ?_
            refine lv_goto (tgt := 41) hx hb dX5_moves_37 (by decide) ?_
            exact J_k7 (0 : Int32) h hw (lv_sub hl [0, 1, 3] rfl)
set_option maxHeartbeats 4000000 in
set_option maxRecDepth 10000 in
theorem b_X5_moves {γ : Ev} {o : Nat} {σ : Mm} {Bf : Mm} {r : Int32} {Z : Mm} {x1 : Int32} (C : Cx p R s m args meth c RX5 cX5_moves 4 (some .int) 7 161 γ) (hB : isX5 γ o) (h : s_X5_moves Z x1 = some (r, Bf)) (hw : Wo γ (st 10 σ o Z) s H locs) (hl : lv_has ls 4 [(0, .ref (eA γ o)), (1, .int x1)]) : W p l e R s m args below meth c H locs 0 0 (MQ below (Qo γ (some (.int r)) (st 10 σ o Bf)) args s 0 0 (AK γ)) (F0 m 0 ls []) := by
  have C0 := C
  obtain ⟨hx, hb, hr, hml, hown, hts, hlk, hK, hd, hF, hL⟩ := C
  unfold s_X5_moves at h
  refine lv_iconst (v := (0 : Int32)) hx hb dX5_moves_0 (by decide) ?_
  refine lv_istore_n (lv' := [(2, .int (0 : Int32)), (0, .ref (eA γ o)), (1, .int x1)]) hx hb dX5_moves_1 rfl hl (by decide) rfl (fun ls hl => ?_)
  refine lv_iconst (v := (0 : Int32)) hx hb dX5_moves_2 (by decide) ?_
  refine lv_istore_n (lv' := [(3, .int (0 : Int32)), (2, .int (0 : Int32)), (0, .ref (eA γ o)), (1, .int x1)]) hx hb dX5_moves_3 rfl hl (by decide) rfl (fun ls hl => ?_)
  exact b_X5_moves_L4 C0 hB 1000 h hw (lv_sub hl [2, 3, 1, 0] rfl)
theorem c_X5_moves {l : Launch} {γ : Ev} {o : Nat} {σ : Mm} {Bf : Mm} {r : Int32} {Z : Mm} {x1 : Int32} (hB : isX5 γ o) (h : s_X5_moves Z x1 = some (r, Bf)) : Ct l yX5_moves cX5_moves 4 (some .int) 7 161 γ [.ref (eA γ o), .int x1] (st 10 σ o Z) (some (.int r)) (st 10 σ o Bf) := Ct.of (own := RX5) (by decide +kernel) rfl (Nat.le_of_ble_eq_true rfl) (fun C hw ls hl => b_X5_moves C hB h hw hl)
set_option maxHeartbeats 4000000 in
set_option maxRecDepth 10000 in
theorem b_X5_allWeights_L4 {γ : Ev} {o : Nat} {σ : Mm} {r : Int32} (C : Cx p R s m args meth c RX5 cX5_allWeights 3 (some .int) 4 94 γ) (hB : isX5 γ o) : ∀ (n : Nat) {Z : Mm} {x1 : Int32} {x2 : Int32} {H : Heap} {locs : List Loc} {ls : Array Slot}, s_X5_allWeights_L4 n Z x1 x2 = some r → Wo γ (st 10 σ o Z) s H locs → lv_has ls 3 [(0, .ref (eA γ o)), (1, .int x1), (2, .int x2)] → W p l e R s m args below meth c H locs 0 0 (MQ below (Qo γ (some (.int r)) (st 10 σ o Z)) args s 0 0 (AK γ)) (F0 m 4 ls []) := by
  have C0 := C
  obtain ⟨hx, hb, hr, hml, hown, hts, hlk, hK, hd, hF, hL⟩ := C
  intro n
  induction n with
  | zero => intro Z x1 x2 H locs ls h; cases h
  | succ n ih =>
    intro Z x1 x2 H locs ls h hw hl
    unfold s_X5_allWeights_L4 at h
    refine lv_iload_n hx hb dX5_allWeights_4 rfl (lv_at hl 2 rfl) ?_
    refine lv_bipush (v := (12 : Int32)) hx hb dX5_allWeights_5 (by decide) ?_
    refine lv_icmp_ge (tgt := 27) hx hb dX5_allWeights_7 (by decide) (fun c1 => ?_) (fun c1 => ?_)
    · replace h := ifp c1 h
      refine lv_iload_n hx hb dX5_allWeights_27 rfl (lv_at hl 1 rfl) ?_
      have h1 := Option.some.inj h
      subst h1
      exact r_iret hx hb hr hlk hK hd hw dX5_allWeights_28
    · replace h := ifn c1 h
      refine lv_iload_n hx hb dX5_allWeights_10 rfl (lv_at hl 1 rfl) ?_
      refine lv_aload_n hx hb dX5_allWeights_11 rfl (lv_at hl 0 rfl) ?_
      refine lv_iload_n hx hb dX5_allWeights_12 rfl (lv_at hl 2 rfl) ?_
      obtain ⟨v2, hv2, h⟩ := ob h
      refine r_Si (rest := [.ref (eA γ o), .int x1]) C0 z0 (c_X5_placeBy hv2) lk_X5_70 hl.1 rfl (Nat.le_of_ble_eq_true rfl) (by decide) hw dX5_allWeights_13 (fun {H} {locs} hw => ?_)
      obtain ⟨v3, hv3, h⟩ := ob h
      refine r_Vi (rest := [.int x1]) C0 z0 (c_X5_weights hB hv3) lk_X5_206 (X5_k0 hB) rfl rfl hl.1 rfl (Nat.le_of_ble_eq_true rfl) (by decide) hw dX5_allWeights_16 (fun {H} {locs} hw => ?_)
      refine lv_iadd hx hb dX5_allWeights_19 ?_
      obtain ⟨v4, ev4, h⟩ := jb h
      refine r_top ev4 ?_
      refine lv_istore_n (lv' := [(1, .int v4), (0, .ref (eA γ o)), (2, .int x2)]) hx hb dX5_allWeights_20 rfl hl (by decide) rfl (fun ls hl => ?_)
      obtain ⟨v5, ev5, h⟩ := jb h
      refine lv_iinc (v := v5) (lv' := [(2, .int v5), (1, .int v4), (0, .ref (eA γ o))]) hx hb dX5_allWeights_21 hl (k := 2) rfl (by rw [← ev5]; rfl) (by decide) rfl (fun ls hl => ?_)
      refine lv_goto (tgt := 4) hx hb dX5_allWeights_24 (by decide) ?_
      exact ih h hw (lv_sub hl [2, 1, 0] rfl)
set_option maxHeartbeats 4000000 in
set_option maxRecDepth 10000 in
theorem b_X5_allWeights {γ : Ev} {o : Nat} {σ : Mm} {r : Int32} {Z : Mm} (C : Cx p R s m args meth c RX5 cX5_allWeights 3 (some .int) 4 94 γ) (hB : isX5 γ o) (h : s_X5_allWeights Z = some r) (hw : Wo γ (st 10 σ o Z) s H locs) (hl : lv_has ls 3 [(0, .ref (eA γ o))]) : W p l e R s m args below meth c H locs 0 0 (MQ below (Qo γ (some (.int r)) (st 10 σ o Z)) args s 0 0 (AK γ)) (F0 m 0 ls []) := by
  have C0 := C
  obtain ⟨hx, hb, hr, hml, hown, hts, hlk, hK, hd, hF, hL⟩ := C
  unfold s_X5_allWeights at h
  refine lv_iconst (v := (0 : Int32)) hx hb dX5_allWeights_0 (by decide) ?_
  refine lv_istore_n (lv' := [(1, .int (0 : Int32)), (0, .ref (eA γ o))]) hx hb dX5_allWeights_1 rfl hl (by decide) rfl (fun ls hl => ?_)
  refine lv_iconst (v := (0 : Int32)) hx hb dX5_allWeights_2 (by decide) ?_
  refine lv_istore_n (lv' := [(2, .int (0 : Int32)), (1, .int (0 : Int32)), (0, .ref (eA γ o))]) hx hb dX5_allWeights_3 rfl hl (by decide) rfl (fun ls hl => ?_)
  exact b_X5_allWeights_L4 C0 hB 1000 h hw (lv_sub hl [2, 1, 0] rfl)
theorem c_X5_allWeights {l : Launch} {γ : Ev} {o : Nat} {σ : Mm} {r : Int32} {Z : Mm} (hB : isX5 γ o) (h : s_X5_allWeights Z = some r) : Ct l yX5_allWeights cX5_allWeights 3 (some .int) 4 94 γ [.ref (eA γ o)] (st 10 σ o Z) (some (.int r)) (st 10 σ o Z) := Ct.of (own := RX5) (by decide +kernel) rfl (Nat.le_of_ble_eq_true rfl) (fun C hw ls hl => b_X5_allWeights C hB h hw hl)
set_option maxHeartbeats 4000000 in
set_option maxRecDepth 10000 in
theorem b_X5_count {γ : Ev} {o : Nat} {σ : Mm} {Bf : Mm} {r : Int32} {Z : Mm} {x1 : Int32} (C : Cx p R s m args meth c RX5 cX5_count 2 (some .int) 8 184 γ) (hB : isX5 γ o) (h : s_X5_count Z x1 = some (r, Bf)) (hw : Wo γ (st 10 σ o Z) s H locs) (hl : lv_has ls 2 [(0, .ref (eA γ o)), (1, .int x1)]) : W p l e R s m args below meth c H locs 0 0 (MQ below (Qo γ (some (.int r)) (st 10 σ o Bf)) args s 0 0 (AK γ)) (F0 m 0 ls []) := by
  have C0 := C
  obtain ⟨hx, hb, hr, hml, hown, hts, hlk, hK, hd, hF, hL⟩ := C
  unfold s_X5_count at h
  refine lv_iload_n hx hb dX5_count_0 rfl (lv_at hl 1 rfl) ?_
  refine jn_elim h (fun (k : Unit → Option (Int32 × (Mm))) => ∀ (u : Unit) {H : Heap} {locs : List Loc} {ls : Array Slot}, k u = some (r, Bf) → Wo γ (st 10 σ o Z) s H locs → lv_has ls 2 [(0, .ref (eA γ o)), (1, .int x1)] → W p l e R s m args below meth c H locs 0 0 (MQ below (Qo γ (some (.int r)) (st 10 σ o Bf)) args s 0 0 (AK γ)) (F0 m 84 ls [])) ?_ ?_
  · intro u H locs ls h hw hl
    refine lv_aload_n hx hb dX5_count_84 rfl (lv_at hl 0 rfl) ?_
    refine r_get (v := .ref (eA γ (o + 1))) hx hb hts hK hw hown inX5 rfl (X5_k0 hB) (st_at0 (by decide)) 0 (by decide) wd_573 rfl dX5_count_85 ?_
    refine lv_iconst (v := (4 : Int32)) hx hb dX5_count_88 (by decide) ?_
    refine lv_iload_n hx hb dX5_count_89 rfl (lv_at hl 1 rfl) ?_
    refine lv_iadd hx hb dX5_count_90 ?_
    obtain ⟨v31, hv31, h⟩ := ob h
    refine r_iald hx hb hK hw (X5_k1 hB) (st_at (by decide)) hv31 dX5_count_91 ?_
    obtain ⟨h1, h2⟩ := s2 h
    subst h1
    subst h2
    exact r_iret hx hb hr hlk hK hd hw dX5_count_92
  intro k30 J_k30 h
  refine jn_elim h (fun (k : Unit → Option (Int32 × (Mm))) => ∀ (u : Unit) {H : Heap} {locs : List Loc} {ls : Array Slot}, k u = some (r, Bf) → Wo γ (st 10 σ o Z) s H locs → lv_has ls 2 [(0, .ref (eA γ o)), (1, .int x1)] → W p l e R s m args below meth c H locs 0 0 (MQ below (Qo γ (some (.int r)) (st 10 σ o Bf)) args s 0 0 (AK γ)) (F0 m 98 ls [])) ?_ ?_
  · intro u H locs ls h hw hl
    refine lv_aload_n hx hb dX5_count_98 rfl (lv_at hl 0 rfl) ?_
    refine r_get (v := .ref (eA γ (o + 1))) hx hb hts hK hw hown inX5 rfl (X5_k0 hB) (st_at0 (by decide)) 0 (by decide) wd_573 rfl dX5_count_99 ?_
    refine lv_bipush (v := (6 : Int32)) hx hb dX5_count_102 (by decide) ?_
    refine lv_iload_n hx hb dX5_count_104 rfl (lv_at hl 1 rfl) ?_
    refine lv_iadd hx hb dX5_count_105 ?_
    refine lv_iconst (v := (3 : Int32)) hx hb dX5_count_106 (by decide) ?_
    refine lv_isub hx hb dX5_count_107 ?_
    obtain ⟨v57, hv57, h⟩ := ob h
    refine r_iald hx hb hK hw (X5_k1 hB) (st_at (by decide)) hv57 dX5_count_108 ?_
    obtain ⟨h1, h2⟩ := s2 h
    subst h1
    subst h2
    exact r_iret hx hb hr hlk hK hd hw dX5_count_109
  intro k56 J_k56 h
  refine jn_elim h (fun (k : Unit → Option (Int32 × (Mm))) => ∀ (u : Unit) {H : Heap} {locs : List Loc} {ls : Array Slot}, k u = some (r, Bf) → Wo γ (st 10 σ o Z) s H locs → lv_has ls 2 [(0, .ref (eA γ o)), (1, .int x1)] → W p l e R s m args below meth c H locs 0 0 (MQ below (Qo γ (some (.int r)) (st 10 σ o Bf)) args s 0 0 (AK γ)) (F0 m 120 ls [])) ?_ ?_
  · intro u H locs ls h hw hl
    refine lv_aload_n hx hb dX5_count_120 rfl (lv_at hl 0 rfl) ?_
    refine lv_iload_n hx hb dX5_count_121 rfl (lv_at hl 1 rfl) ?_
    refine lv_bipush (v := (9 : Int32)) hx hb dX5_count_122 (by decide) ?_
    refine lv_icmp_ne (tgt := 131) hx hb dX5_count_124 (by decide) (fun c84 => ?_) (fun c84 => ?_)
    · replace h := ifn c84 h
      refine lv_iconst (v := (0 : Int32)) hx hb dX5_count_131 (by decide) ?_
      obtain ⟨q85, hq85, h⟩ := ob h
      refine r_Vi (rest := []) C0 z0 (c_X5_moves hB hq85) lk_X5_218 (X5_k0 hB) rfl rfl hl.1 rfl (Nat.le_of_ble_eq_true rfl) (by decide) hw dX5_count_132 (fun {H} {locs} hw => ?_)
      obtain ⟨h1, h2⟩ := s2 h
      subst h1
      subst h2
      exact r_iret hx hb hr hlk hK hd hw dX5_count_135
    · replace h := ifp c84 h
      refine lv_iconst (v := (1 : Int32)) hx hb dX5_count_127 (by decide) ?_
      refine lv_goto (tgt := 132) hx hb dX5_count_128 (by decide) ?_
      obtain ⟨q86, hq86, h⟩ := ob h
      refine r_Vi (rest := []) C0 z0 (c_X5_moves hB hq86) lk_X5_218 (X5_k0 hB) rfl rfl hl.1 rfl (Nat.le_of_ble_eq_true rfl) (by decide) hw dX5_count_132 (fun {H} {locs} hw => ?_)
      obtain ⟨h1, h2⟩ := s2 h
      subst h1
      subst h2
      exact r_iret hx hb hr hlk hK hd hw dX5_count_135
  intro k83 J_k83 h
  refine jn_elim h (fun (k : Unit → Option (Int32 × (Mm))) => ∀ (u : Unit) {H : Heap} {locs : List Loc} {ls : Array Slot}, k u = some (r, Bf) → Wo γ (st 10 σ o Z) s H locs → lv_has ls 2 [(0, .ref (eA γ o)), (1, .int x1)] → W p l e R s m args below meth c H locs 0 0 (MQ below (Qo γ (some (.int r)) (st 10 σ o Bf)) args s 0 0 (AK γ)) (F0 m 144 ls [])) ?_ ?_
  · intro u H locs ls h hw hl
    refine lv_aload_n hx hb dX5_count_144 rfl (lv_at hl 0 rfl) ?_
    refine r_get (v := .ref (eA γ (o + 1))) hx hb hts hK hw hown inX5 rfl (X5_k0 hB) (st_at0 (by decide)) 0 (by decide) wd_573 rfl dX5_count_145 ?_
    refine lv_iload_n hx hb dX5_count_148 rfl (lv_at hl 1 rfl) ?_
    refine lv_bipush (v := (11 : Int32)) hx hb dX5_count_149 (by decide) ?_
    refine lv_isub hx hb dX5_count_151 ?_
    obtain ⟨v113, hv113, h⟩ := ob h
    refine r_iald hx hb hK hw (X5_k1 hB) (st_at (by decide)) hv113 dX5_count_152 ?_
    obtain ⟨h1, h2⟩ := s2 h
    subst h1
    subst h2
    exact r_iret hx hb hr hlk hK hd hw dX5_count_153
  intro k112 J_k112 h
  by_cases c114 : x1 = (0 : Int32)
  · replace h := ifp c114 h
    refine r_tabIn (tgt := 84) (off := 83) hx hb dX5_count_1 c114 (by decide) (by decide) (by decide) (by decide) ?_
    exact J_k30 () h hw (lv_sub hl [0, 1] rfl)
  replace h := ifn c114 h
  by_cases c115 : x1 = (1 : Int32)
  · replace h := ifp c115 h
    refine r_tabIn (tgt := 84) (off := 83) hx hb dX5_count_1 c115 (by decide) (by decide) (by decide) (by decide) ?_
    exact J_k30 () h hw (lv_sub hl [0, 1] rfl)
  replace h := ifn c115 h
  by_cases c116 : x1 = (2 : Int32)
  · replace h := ifp c116 h
    refine r_tabIn (tgt := 93) (off := 92) hx hb dX5_count_1 c116 (by decide) (by decide) (by decide) (by decide) ?_
    refine lv_aload_n hx hb dX5_count_93 rfl (lv_at hl 0 rfl) ?_
    obtain ⟨v117, hv117, h⟩ := ob h
    refine r_Vi (rest := []) C0 z0 (c_X5_result hB hv117) lk_X5_212 (X5_k0 hB) rfl rfl hl.1 rfl (Nat.le_of_ble_eq_true rfl) (by decide) hw dX5_count_94 (fun {H} {locs} hw => ?_)
    obtain ⟨h1, h2⟩ := s2 h
    subst h1
    subst h2
    exact r_iret hx hb hr hlk hK hd hw dX5_count_97
  replace h := ifn c116 h
  by_cases c118 : x1 = (3 : Int32)
  · replace h := ifp c118 h
    refine r_tabIn (tgt := 98) (off := 97) hx hb dX5_count_1 c118 (by decide) (by decide) (by decide) (by decide) ?_
    exact J_k56 () h hw (lv_sub hl [0, 1] rfl)
  replace h := ifn c118 h
  by_cases c119 : x1 = (4 : Int32)
  · replace h := ifp c119 h
    refine r_tabIn (tgt := 98) (off := 97) hx hb dX5_count_1 c119 (by decide) (by decide) (by decide) (by decide) ?_
    exact J_k56 () h hw (lv_sub hl [0, 1] rfl)
  replace h := ifn c119 h
  by_cases c120 : x1 = (5 : Int32)
  · replace h := ifp c120 h
    refine r_tabIn (tgt := 98) (off := 97) hx hb dX5_count_1 c120 (by decide) (by decide) (by decide) (by decide) ?_
    exact J_k56 () h hw (lv_sub hl [0, 1] rfl)
  replace h := ifn c120 h
  by_cases c121 : x1 = (6 : Int32)
  · replace h := ifp c121 h
    refine r_tabIn (tgt := 110) (off := 109) hx hb dX5_count_1 c121 (by decide) (by decide) (by decide) (by decide) ?_
    refine lv_aload_n hx hb dX5_count_110 rfl (lv_at hl 0 rfl) ?_
    obtain ⟨v122, hv122, h⟩ := ob h
    refine r_Vi (rest := []) C0 z0 (c_X5_tokens hB hv122) lk_X5_77 (X5_k0 hB) rfl rfl hl.1 rfl (Nat.le_of_ble_eq_true rfl) (by decide) hw dX5_count_111 (fun {H} {locs} hw => ?_)
    obtain ⟨h1, h2⟩ := s2 h
    subst h1
    subst h2
    exact r_iret hx hb hr hlk hK hd hw dX5_count_114
  replace h := ifn c121 h
  by_cases c123 : x1 = (7 : Int32)
  · replace h := ifp c123 h
    refine r_tabIn (tgt := 115) (off := 114) hx hb dX5_count_1 c123 (by decide) (by decide) (by decide) (by decide) ?_
    refine lv_aload_n hx hb dX5_count_115 rfl (lv_at hl 0 rfl) ?_
    obtain ⟨v124, hv124, h⟩ := ob h
    refine r_Vi (rest := []) C0 z0 (c_X5_allWeights hB hv124) lk_X5_215 (X5_k0 hB) rfl rfl hl.1 rfl (Nat.le_of_ble_eq_true rfl) (by decide) hw dX5_count_116 (fun {H} {locs} hw => ?_)
    obtain ⟨h1, h2⟩ := s2 h
    subst h1
    subst h2
    exact r_iret hx hb hr hlk hK hd hw dX5_count_119
  replace h := ifn c123 h
  by_cases c125 : x1 = (8 : Int32)
  · replace h := ifp c125 h
    refine r_tabIn (tgt := 120) (off := 119) hx hb dX5_count_1 c125 (by decide) (by decide) (by decide) (by decide) ?_
    exact J_k83 () h hw (lv_sub hl [0, 1] rfl)
  replace h := ifn c125 h
  by_cases c126 : x1 = (9 : Int32)
  · replace h := ifp c126 h
    refine r_tabIn (tgt := 120) (off := 119) hx hb dX5_count_1 c126 (by decide) (by decide) (by decide) (by decide) ?_
    exact J_k83 () h hw (lv_sub hl [0, 1] rfl)
  replace h := ifn c126 h
  by_cases c127 : x1 = (10 : Int32)
  · replace h := ifp c127 h
    refine r_tabIn (tgt := 136) (off := 135) hx hb dX5_count_1 c127 (by decide) (by decide) (by decide) (by decide) ?_
    refine lv_aload_n hx hb dX5_count_136 rfl (lv_at hl 0 rfl) ?_
    refine r_get (v := .ref (eA γ (o + 1))) hx hb hts hK hw hown inX5 rfl (X5_k0 hB) (st_at0 (by decide)) 0 (by decide) wd_573 rfl dX5_count_137 ?_
    refine lv_bipush (v := (9 : Int32)) hx hb dX5_count_140 (by decide) ?_
    obtain ⟨v128, hv128, h⟩ := ob h
    refine r_iald hx hb hK hw (X5_k1 hB) (st_at (by decide)) hv128 dX5_count_142 ?_
    obtain ⟨h1, h2⟩ := s2 h
    subst h1
    subst h2
    exact r_iret hx hb hr hlk hK hd hw dX5_count_143
  replace h := ifn c127 h
  by_cases c129 : x1 = (11 : Int32)
  · replace h := ifp c129 h
    refine r_tabIn (tgt := 144) (off := 143) hx hb dX5_count_1 c129 (by decide) (by decide) (by decide) (by decide) ?_
    exact J_k112 () h hw (lv_sub hl [0, 1] rfl)
  replace h := ifn c129 h
  by_cases c130 : x1 = (12 : Int32)
  · replace h := ifp c130 h
    refine r_tabIn (tgt := 144) (off := 143) hx hb dX5_count_1 c130 (by decide) (by decide) (by decide) (by decide) ?_
    exact J_k112 () h hw (lv_sub hl [0, 1] rfl)
  replace h := ifn c130 h
  by_cases c131 : x1 = (13 : Int32)
  · replace h := ifp c131 h
    refine r_tabIn (tgt := 144) (off := 143) hx hb dX5_count_1 c131 (by decide) (by decide) (by decide) (by decide) ?_
    exact J_k112 () h hw (lv_sub hl [0, 1] rfl)
  replace h := ifn c131 h
  by_cases c132 : x1 = (14 : Int32)
  · replace h := ifp c132 h
    refine r_tabIn (tgt := 144) (off := 143) hx hb dX5_count_1 c132 (by decide) (by decide) (by decide) (by decide) ?_
    exact J_k112 () h hw (lv_sub hl [0, 1] rfl)
  replace h := ifn c132 h
  by_cases c133 : x1 = (15 : Int32)
  · replace h := ifp c133 h
    refine r_tabIn (tgt := 154) (off := 153) hx hb dX5_count_1 c133 (by decide) (by decide) (by decide) (by decide) ?_
    refine lv_aload_n hx hb dX5_count_154 rfl (lv_at hl 0 rfl) ?_
    refine r_get (v := .int (Z 0 2)) hx hb hts hK hw hown inX5 rfl (X5_k0 hB) (st_at0 (by decide)) 2 (by decide) wd_575 rfl dX5_count_155 ?_
    obtain ⟨h1, h2⟩ := s2 h
    subst h1
    subst h2
    exact r_iret hx hb hr hlk hK hd hw dX5_count_158
  replace h := ifn c133 h
  by_cases c134 : x1 = (16 : Int32)
  · replace h := ifp c134 h
    refine r_tabIn (tgt := 159) (off := 158) hx hb dX5_count_1 c134 (by decide) (by decide) (by decide) (by decide) ?_
    refine lv_aload_n hx hb dX5_count_159 rfl (lv_at hl 0 rfl) ?_
    refine r_get (v := .int (Z 0 7)) hx hb hts hK hw hown inX5 rfl (X5_k0 hB) (st_at0 (by decide)) 7 (by decide) wd_580 rfl dX5_count_160 ?_
    obtain ⟨h1, h2⟩ := s2 h
    subst h1
    subst h2
    exact r_iret hx hb hr hlk hK hd hw dX5_count_163
  replace h := ifn c134 h
  refine lv_tableOut (tgt := 164) hx hb dX5_count_1 (by have q0 := i32_ne (z := 0) rfl c114; have q1 := i32_ne (z := 1) rfl c115; have q2 := i32_ne (z := 2) rfl c116; have q3 := i32_ne (z := 3) rfl c118; have q4 := i32_ne (z := 4) rfl c119; have q5 := i32_ne (z := 5) rfl c120; have q6 := i32_ne (z := 6) rfl c121; have q7 := i32_ne (z := 7) rfl c123; have q8 := i32_ne (z := 8) rfl c125; have q9 := i32_ne (z := 9) rfl c126; have q10 := i32_ne (z := 10) rfl c127; have q11 := i32_ne (z := 11) rfl c129; have q12 := i32_ne (z := 12) rfl c130; have q13 := i32_ne (z := 13) rfl c131; have q14 := i32_ne (z := 14) rfl c132; have q15 := i32_ne (z := 15) rfl c133; have q16 := i32_ne (z := 16) rfl c134; omega) (by decide) ?_
  refine lv_sipush (v := (-10002 : Int32)) hx hb dX5_count_164 (by decide) ?_
  obtain ⟨h1, h2⟩ := s2 h
  subst h1
  subst h2
  exact r_iret hx hb hr hlk hK hd hw dX5_count_167
theorem c_X5_count {l : Launch} {γ : Ev} {o : Nat} {σ : Mm} {Bf : Mm} {r : Int32} {Z : Mm} {x1 : Int32} (hB : isX5 γ o) (h : s_X5_count Z x1 = some (r, Bf)) : Ct l yX5_count cX5_count 2 (some .int) 8 184 γ [.ref (eA γ o), .int x1] (st 10 σ o Z) (some (.int r)) (st 10 σ o Bf) := Ct.of (own := RX5) (by decide +kernel) rfl (Nat.le_of_ble_eq_true rfl) (fun C hw ls hl => b_X5_count C hB h hw hl)
end
