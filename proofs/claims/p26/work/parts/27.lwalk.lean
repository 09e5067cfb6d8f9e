section
variable {p : Program} {l : Launch} {e : Env} {R : Room} {s : State} {m : MethodId} {args : Array Value} {below : List Frame} {meth : Method} {c : Code} {H : Heap} {locs : List Loc} {ls : Array Slot}
set_option maxHeartbeats 4000000 in
set_option maxRecDepth 10000 in
theorem b_L_low {γ : Ev} {μ : Mm} {x0 x1 : Int32} {r : Int32} (C : Cx p R s m args meth c RL cL_low 2 (some .int) 2 80 γ) (h : s_L_low x0 x1 = some r) (hw : Wo γ μ s H locs) (hl : lv_has ls 2 [(0, .int x0), (1, .int x1)]) : W p l e R s m args below meth c H locs 0 0 (MQ below (Qo γ (some (.int r)) μ) args s 0 0 (AK γ)) (F0 m 0 ls []) := by
  have C0 := C
  obtain ⟨hx, hb, hr, hml, hown, hts, hlk, hK, hd, hF, hL⟩ := id C
  unfold s_L_low at h
  refine lv_iload_n hx hb dL_low_0 rfl (lv_at hl 0 rfl) ?_
  refine lv_ldc (v := (2147483647 : Int32)) hx hb hown (hts _ wd_382) dL_low_1 ?_
  refine lv_iand hx hb dL_low_3 ?_
  refine lv_iload_n hx hb dL_low_4 rfl (lv_at hl 1 rfl) ?_
  obtain ⟨v1, hv1, h⟩ := ob h
  refine lv_irem hx hb dL_low_5 (rmi_some hv1).1 ?_
  refine r_top (rmi_some hv1).2 ?_
  have h1 := Option.some.inj h
  subst h1
  exact r_iret hx hb hr hlk hK hd hw dL_low_6
theorem c_L_low {l : Launch} {γ : Ev} {μ : Mm} {x0 x1 : Int32} {r : Int32} (h : s_L_low x0 x1 = some r) : Ct l yL_low cL_low 2 (some .int) 2 80 γ [.int x0, .int x1] μ (some (.int r)) μ := Ct.of (own := RL) (by decide +kernel) rfl (Nat.le_of_ble_eq_true rfl) (fun C hw ls hl => b_L_low C h hw hl)
set_option maxHeartbeats 4000000 in
set_option maxRecDepth 10000 in
theorem b_L_place {γ : Ev} {μ : Mm} {x0 : Int32} {r : Int32} (C : Cx p R s m args meth c RL cL_place 1 (some .int) 2 80 γ) (h : s_L_place x0 = some r) (hw : Wo γ μ s H locs) (hl : lv_has ls 1 [(0, .int x0)]) : W p l e R s m args below meth c H locs 0 0 (MQ below (Qo γ (some (.int r)) μ) args s 0 0 (AK γ)) (F0 m 0 ls []) := by
  have C0 := C
  obtain ⟨hx, hb, hr, hml, hown, hts, hlk, hK, hd, hF, hL⟩ := id C
  unfold s_L_place at h
  refine lv_iload_n hx hb dL_place_0 rfl (lv_at hl 0 rfl) ?_
  refine lv_bipush (v := (6 : Int32)) hx hb dL_place_1 (by decide) ?_
  refine lv_icmp_ge (tgt := 13) hx hb dL_place_3 (by decide) (fun c1 => ?_) (fun c1 => ?_)
  · replace h := ifp c1 h
    refine lv_iload_n hx hb dL_place_13 rfl (lv_at hl 0 rfl) ?_
    refine lv_iconst (v := (5 : Int32)) hx hb dL_place_14 (by decide) ?_
    refine lv_isub hx hb dL_place_15 ?_
    have h1 := Option.some.inj h
    subst h1
    exact r_iret hx hb hr hlk hK hd hw dL_place_16
  · replace h := ifn c1 h
    refine lv_iload_n hx hb dL_place_6 rfl (lv_at hl 0 rfl) ?_
    refine lv_bipush (v := (6 : Int32)) hx hb dL_place_7 (by decide) ?_
    refine lv_isub hx hb dL_place_9 ?_
    refine lv_goto (tgt := 16) hx hb dL_place_10 (by decide) ?_
    have h1 := Option.some.inj h
    subst h1
    exact r_iret hx hb hr hlk hK hd hw dL_place_16
theorem c_L_place {l : Launch} {γ : Ev} {μ : Mm} {x0 : Int32} {r : Int32} (h : s_L_place x0 = some r) : Ct l yL_place cL_place 1 (some .int) 2 80 γ [.int x0] μ (some (.int r)) μ := Ct.of (own := RL) (by decide +kernel) rfl (Nat.le_of_ble_eq_true rfl) (fun C hw ls hl => b_L_place C h hw hl)
set_option maxHeartbeats 4000000 in
set_option maxRecDepth 10000 in
theorem b_L_index {γ : Ev} {μ : Mm} {x0 : Int32} {r : Int32} (C : Cx p R s m args meth c RL cL_index 1 (some .int) 2 80 γ) (h : s_L_index x0 = some r) (hw : Wo γ μ s H locs) (hl : lv_has ls 1 [(0, .int x0)]) : W p l e R s m args below meth c H locs 0 0 (MQ below (Qo γ (some (.int r)) μ) args s 0 0 (AK γ)) (F0 m 0 ls []) := by
  have C0 := C
  obtain ⟨hx, hb, hr, hml, hown, hts, hlk, hK, hd, hF, hL⟩ := id C
  unfold s_L_index at h
  refine lv_iload_n hx hb dL_index_0 rfl (lv_at hl 0 rfl) ?_
  refine lv_if_ge (tgt := 11) hx hb dL_index_1 (by decide) (fun c1 => ?_) (fun c1 => ?_)
  · replace h := ifp c1 h
    refine lv_iload_n hx hb dL_index_11 rfl (lv_at hl 0 rfl) ?_
    refine lv_iconst (v := (5 : Int32)) hx hb dL_index_12 (by decide) ?_
    refine lv_iadd hx hb dL_index_13 ?_
    have h1 := Option.some.inj h
    subst h1
    exact r_iret hx hb hr hlk hK hd hw dL_index_14
  · replace h := ifn c1 h
    refine lv_iload_n hx hb dL_index_4 rfl (lv_at hl 0 rfl) ?_
    refine lv_bipush (v := (6 : Int32)) hx hb dL_index_5 (by decide) ?_
    refine lv_iadd hx hb dL_index_7 ?_
    refine lv_goto (tgt := 14) hx hb dL_index_8 (by decide) ?_
    have h1 := Option.some.inj h
    subst h1
    exact r_iret hx hb hr hlk hK hd hw dL_index_14
theorem c_L_index {l : Launch} {γ : Ev} {μ : Mm} {x0 : Int32} {r : Int32} (h : s_L_index x0 = some r) : Ct l yL_index cL_index 1 (some .int) 2 80 γ [.int x0] μ (some (.int r)) μ := Ct.of (own := RL) (by decide +kernel) rfl (Nat.le_of_ble_eq_true rfl) (fun C hw ls hl => b_L_index C h hw hl)
set_option maxHeartbeats 4000000 in
set_option maxRecDepth 10000 in
theorem b_L_goal {γ : Ev} {μ : Mm} {x0 x1 : Int32} {r : Int32} (C : Cx p R s m args meth c RL cL_goal 4 (some .int) 2 80 γ) (h : s_L_goal x0 x1 = some r) (hw : Wo γ μ s H locs) (hl : lv_has ls 4 [(0, .int x0), (1, .int x1)]) : W p l e R s m args below meth c H locs 0 0 (MQ below (Qo γ (some (.int r)) μ) args s 0 0 (AK γ)) (F0 m 0 ls []) := by
  have C0 := C
  obtain ⟨hx, hb, hr, hml, hown, hts, hlk, hK, hd, hF, hL⟩ := id C
  unfold s_L_goal at h
  refine lv_iload_n hx hb dL_goal_0 rfl (lv_at hl 0 rfl) ?_
  refine lv_bipush (v := (6 : Int32)) hx hb dL_goal_1 (by decide) ?_
  refine lv_icmp_ge (tgt := 8) hx hb dL_goal_3 (by decide) (fun c1 => ?_) (fun c1 => ?_)
  · replace h := ifp c1 h
    refine lv_iload_n hx hb dL_goal_8 rfl (lv_at hl 1 rfl) ?_
    refine jn_elim h (fun (k : Int32 → Option (Int32)) => ∀ (v4 : Int32) {H : Heap} {locs : List Loc} {ls : Array Slot}, k v4 = some r → Wo γ μ s H locs → lv_has ls 4 [(0, .int x0), (1, .int x1)] → W p l e R s m args below meth c H locs 0 0 (MQ below (Qo γ (some (.int r)) μ) args s 0 0 (AK γ)) (F0 m 18 ls [.int v4])) ?_ ?_
    · intro v4 H locs ls h hw hl
      refine lv_istore_n (lv' := [(2, .int v4), (0, .int x0), (1, .int x1)]) hx hb dL_goal_18 rfl hl (by decide) rfl (fun ls hl => ?_)
      refine lv_iload_n hx hb dL_goal_19 rfl (lv_at hl 2 rfl) ?_
      refine jn_elim h (fun (k : Int32 → Option (Int32)) => ∀ (v6 : Int32) {H : Heap} {locs : List Loc} {ls : Array Slot}, k v6 = some r → Wo γ μ s H locs → lv_has ls 4 [(0, .int x0), (1, .int x1), (2, .int v4)] → W p l e R s m args below meth c H locs 0 0 (MQ below (Qo γ (some (.int r)) μ) args s 0 0 (AK γ)) (F0 m 28 ls [.int v6])) ?_ ?_
      · intro v6 H locs ls h hw hl
        refine lv_istore_n (lv' := [(3, .int v6), (0, .int x0), (1, .int x1), (2, .int v4)]) hx hb dL_goal_28 rfl hl (by decide) rfl (fun ls hl => ?_)
        refine lv_iload_n hx hb dL_goal_29 rfl (lv_at hl 1 rfl) ?_
        refine lv_bipush (v := (6 : Int32)) hx hb dL_goal_30 (by decide) ?_
        refine lv_icmp_ne (tgt := 51) hx hb dL_goal_32 (by decide) (fun c7 => ?_) (fun c7 => ?_)
        · replace h := ifn c7 h
          refine lv_iload_n hx hb dL_goal_51 rfl (lv_at hl 3 rfl) ?_
          refine lv_bipush (v := (6 : Int32)) hx hb dL_goal_52 (by decide) ?_
          refine lv_icmp_ne (tgt := 61) hx hb dL_goal_54 (by decide) (fun c8 => ?_) (fun c8 => ?_)
          · replace h := ifn c8 h
            refine lv_iload_n hx hb dL_goal_61 rfl (lv_at hl 0 rfl) ?_
            refine lv_iload_n hx hb dL_goal_62 rfl (lv_at hl 3 rfl) ?_
            refine lv_iconst (v := (1 : Int32)) hx hb dL_goal_63 (by decide) ?_
            refine lv_iadd hx hb dL_goal_64 ?_
            refine lv_imul hx hb dL_goal_65 ?_
            have h1 := Option.some.inj h
            subst h1
            exact r_iret hx hb hr hlk hK hd hw dL_goal_66
          · replace h := ifp c8 h
            refine lv_iconst (v := (0 : Int32)) hx hb dL_goal_57 (by decide) ?_
            refine lv_goto (tgt := 66) hx hb dL_goal_58 (by decide) ?_
            have h1 := Option.some.inj h
            subst h1
            exact r_iret hx hb hr hlk hK hd hw dL_goal_66
        · replace h := ifp c7 h
          refine lv_iload_n hx hb dL_goal_35 rfl (lv_at hl 3 rfl) ?_
          refine lv_iconst (v := (1 : Int32)) hx hb dL_goal_36 (by decide) ?_
          refine lv_icmp_ne (tgt := 45) hx hb dL_goal_37 (by decide) (fun c9 => ?_) (fun c9 => ?_)
          · replace h := ifn c9 h
            refine lv_iload_n hx hb dL_goal_45 rfl (lv_at hl 0 rfl) ?_
            refine lv_iload_n hx hb dL_goal_46 rfl (lv_at hl 3 rfl) ?_
            refine lv_iconst (v := (1 : Int32)) hx hb dL_goal_47 (by decide) ?_
            refine lv_isub hx hb dL_goal_48 ?_
            refine lv_imul hx hb dL_goal_49 ?_
            have h1 := Option.some.inj h
            subst h1
            exact r_iret hx hb hr hlk hK hd hw dL_goal_50
          · replace h := ifp c9 h
            refine lv_iload_n hx hb dL_goal_40 rfl (lv_at hl 2 rfl) ?_
            refine lv_ineg hx hb dL_goal_41 ?_
            refine lv_goto (tgt := 50) hx hb dL_goal_42 (by decide) ?_
            have h1 := Option.some.inj h
            subst h1
            exact r_iret hx hb hr hlk hK hd hw dL_goal_50
      intro k5 J_k5 h
      refine lv_if_ge (tgt := 27) hx hb dL_goal_20 (by decide) (fun c10 => ?_) (fun c10 => ?_)
      · replace h := ifp c10 h
        refine lv_iconst (v := (1 : Int32)) hx hb dL_goal_27 (by decide) ?_
        exact J_k5 (1 : Int32) h hw (lv_sub hl [1, 2, 0] rfl)
      · replace h := ifn c10 h
        refine lv_iconst (v := (-1 : Int32)) hx hb dL_goal_23 (by decide) ?_
        refine lv_goto (tgt := 28) hx hb dL_goal_24 (by decide) ?_
        exact J_k5 (-1 : Int32) h hw (lv_sub hl [1, 2, 0] rfl)
    intro k3 J_k3 h
    refine lv_if_ge (tgt := 17) hx hb dL_goal_9 (by decide) (fun c11 => ?_) (fun c11 => ?_)
    · replace h := ifp c11 h
      refine lv_iload_n hx hb dL_goal_17 rfl (lv_at hl 1 rfl) ?_
      exact J_k3 x1 h hw (lv_sub hl [0, 1] rfl)
    · replace h := ifn c11 h
      refine lv_iload_n hx hb dL_goal_12 rfl (lv_at hl 1 rfl) ?_
      refine lv_ineg hx hb dL_goal_13 ?_
      refine lv_goto (tgt := 18) hx hb dL_goal_14 (by decide) ?_
      exact J_k3 (-x1) h hw (lv_sub hl [0, 1] rfl)
  · replace h := ifn c1 h
    refine lv_iload_n hx hb dL_goal_6 rfl (lv_at hl 1 rfl) ?_
    have h1 := Option.some.inj h
    subst h1
    exact r_iret hx hb hr hlk hK hd hw dL_goal_7
theorem c_L_goal {l : Launch} {γ : Ev} {μ : Mm} {x0 x1 : Int32} {r : Int32} (h : s_L_goal x0 x1 = some r) : Ct l yL_goal cL_goal 4 (some .int) 2 80 γ [.int x0, .int x1] μ (some (.int r)) μ := Ct.of (own := RL) (by decide +kernel) rfl (Nat.le_of_ble_eq_true rfl) (fun C hw ls hl => b_L_goal C h hw hl)
set_option maxHeartbeats 4000000 in
set_option maxRecDepth 10000 in
theorem b_L_order {γ : Ev} {μ : Mm} {x0 : Int32} {r : Int32} (C : Cx p R s m args meth c RL cL_order 1 (some .int) 3 100 γ) (h : s_L_order x0 = some r) (hw : Wo γ μ s H locs) (hl : lv_has ls 1 [(0, .int x0)]) : W p l e R s m args below meth c H locs 0 0 (MQ below (Qo γ (some (.int r)) μ) args s 0 0 (AK γ)) (F0 m 0 ls []) := by
  have C0 := C
  obtain ⟨hx, hb, hr, hml, hown, hts, hlk, hK, hd, hF, hL⟩ := id C
  unfold s_L_order at h
  refine lv_iload_n hx hb dL_order_0 rfl (lv_at hl 0 rfl) ?_
  refine lv_bipush (v := (60 : Int32)) hx hb dL_order_1 (by decide) ?_
  refine lv_icmp_ge (tgt := 29) hx hb dL_order_3 (by decide) (fun c1 => ?_) (fun c1 => ?_)
  · replace h := ifp c1 h
    refine lv_bipush (v := (100 : Int32)) hx hb dL_order_29 (by decide) ?_
    refine lv_bipush (v := (6 : Int32)) hx hb dL_order_31 (by decide) ?_
    refine lv_iload_n hx hb dL_order_33 rfl (lv_at hl 0 rfl) ?_
    refine lv_iconst (v := (2 : Int32)) hx hb dL_order_34 (by decide) ?_
    obtain ⟨v2, hv2, h⟩ := ob h
    refine lv_irem hx hb dL_order_35 (rmi_some hv2).1 ?_
    refine r_top (rmi_some hv2).2 ?_
    refine lv_iadd hx hb dL_order_36 ?_
    refine lv_imul hx hb dL_order_37 ?_
    refine lv_iload_n hx hb dL_order_38 rfl (lv_at hl 0 rfl) ?_
    refine lv_bipush (v := (60 : Int32)) hx hb dL_order_39 (by decide) ?_
    refine lv_isub hx hb dL_order_41 ?_
    refine lv_iconst (v := (2 : Int32)) hx hb dL_order_42 (by decide) ?_
    obtain ⟨v3, hv3, h⟩ := ob h
    refine lv_idiv hx hb dL_order_43 (dvi_some hv3).1 ?_
    refine r_top (dvi_some hv3).2 ?_
    obtain ⟨v4, hv4, h⟩ := ob h
    refine r_Si (rest := [.int ((100 : Int32) * ((6 : Int32) + v2))]) C0 z0 (c_L_place hv4) lk_L_10 hl.1 rfl (Nat.le_of_ble_eq_true rfl) (by decide) hw dL_order_44 (fun {H} {locs} hw => ?_)
    refine lv_iadd hx hb dL_order_47 ?_
    refine lv_bipush (v := (50 : Int32)) hx hb dL_order_48 (by decide) ?_
    refine lv_iadd hx hb dL_order_50 ?_
    have h1 := Option.some.inj h
    subst h1
    exact r_iret hx hb hr hlk hK hd hw dL_order_51
  · replace h := ifn c1 h
    refine lv_bipush (v := (100 : Int32)) hx hb dL_order_6 (by decide) ?_
    refine lv_iload_n hx hb dL_order_8 rfl (lv_at hl 0 rfl) ?_
    refine lv_bipush (v := (12 : Int32)) hx hb dL_order_9 (by decide) ?_
    obtain ⟨v5, hv5, h⟩ := ob h
    refine lv_idiv hx hb dL_order_11 (dvi_some hv5).1 ?_
    refine r_top (dvi_some hv5).2 ?_
    refine lv_iconst (v := (1 : Int32)) hx hb dL_order_12 (by decide) ?_
    refine lv_iadd hx hb dL_order_13 ?_
    refine lv_imul hx hb dL_order_14 ?_
    refine lv_iload_n hx hb dL_order_15 rfl (lv_at hl 0 rfl) ?_
    refine lv_bipush (v := (12 : Int32)) hx hb dL_order_16 (by decide) ?_
    obtain ⟨v6, hv6, h⟩ := ob h
    refine lv_irem hx hb dL_order_18 (rmi_some hv6).1 ?_
    refine r_top (rmi_some hv6).2 ?_
    obtain ⟨v7, hv7, h⟩ := ob h
    refine r_Si (rest := [.int ((100 : Int32) * (v5 + (1 : Int32)))]) C0 z0 (c_L_place hv7) lk_L_10 hl.1 rfl (Nat.le_of_ble_eq_true rfl) (by decide) hw dL_order_19 (fun {H} {locs} hw => ?_)
    refine lv_iadd hx hb dL_order_22 ?_
    refine lv_bipush (v := (50 : Int32)) hx hb dL_order_23 (by decide) ?_
    refine lv_iadd hx hb dL_order_25 ?_
    refine lv_goto (tgt := 51) hx hb dL_order_26 (by decide) ?_
    have h1 := Option.some.inj h
    subst h1
    exact r_iret hx hb hr hlk hK hd hw dL_order_51
theorem c_L_order {l : Launch} {γ : Ev} {μ : Mm} {x0 : Int32} {r : Int32} (h : s_L_order x0 = some r) : Ct l yL_order cL_order 1 (some .int) 3 100 γ [.int x0] μ (some (.int r)) μ := Ct.of (own := RL) (by decide +kernel) rfl (Nat.le_of_ble_eq_true rfl) (fun C hw ls hl => b_L_order C h hw hl)
set_option maxHeartbeats 4000000 in
set_option maxRecDepth 10000 in
theorem b_L_turn_L4 {γ : Ev} {μ : Mm} {j0 : Nat} {r : Int32} (C : Cx p R s m args meth c RL cL_turn 3 (some .int) 3 100 γ) (hN : ([j0] : List Nat).Nodup) (hA0 : isA γ j0 60) : ∀ (n : Nat) {a0 : Nat → Int32} {x1 : Int32} {x2 : Int32} {H : Heap} {locs : List Loc} {ls : Array Slot}, s_L_turn_L4 n a0 x1 x2 = some r → Wo γ (mm μ [(j0, a0)]) s H locs → lv_has ls 3 [(0, .ref (eA γ j0)), (1, .int x1), (2, .int x2)] → W p l e R s m args below meth c H locs 0 0 (MQ below (Qo γ (some (.int r)) (mm μ [(j0, a0)])) args s 0 0 (AK γ)) (F0 m 4 ls []) := by
  have C0 := C
  obtain ⟨hx, hb, hr, hml, hown, hts, hlk, hK, hd, hF, hL⟩ := id C
  intro n
  induction n with
  | zero => intro a0 x1 x2 H locs ls h; cases h
  | succ n ih =>
    intro a0 x1 x2 H locs ls h hw hl
    unfold s_L_turn_L4 at h
    refine lv_iload_n hx hb dL_turn_4 rfl (lv_at hl 2 rfl) ?_
    refine lv_bipush (v := (48 : Int32)) hx hb dL_turn_5 (by decide) ?_
    refine lv_icmp_ge (tgt := 47) hx hb dL_turn_7 (by decide) (fun c1 => ?_) (fun c1 => ?_)
    · replace h := ifp c1 h
      refine lv_iload_n hx hb dL_turn_47 rfl (lv_at hl 1 rfl) ?_
      have h1 := Option.some.inj h
      subst h1
      exact r_iret hx hb hr hlk hK hd hw dL_turn_48
    · replace h := ifn c1 h
      refine lv_iload_n hx hb dL_turn_10 rfl (lv_at hl 1 rfl) ?_
      refine lv_iload_n hx hb dL_turn_11 rfl (lv_at hl 2 rfl) ?_
      refine lv_iconst (v := (4 : Int32)) hx hb dL_turn_12 (by decide) ?_
      obtain ⟨v2, hv2, h⟩ := ob h
      refine lv_irem hx hb dL_turn_13 (rmi_some hv2).1 ?_
      refine r_top (rmi_some hv2).2 ?_
      refine lv_aload_n hx hb dL_turn_14 rfl (lv_at hl 0 rfl) ?_
      refine lv_bipush (v := (48 : Int32)) hx hb dL_turn_15 (by decide) ?_
      refine lv_iload_n hx hb dL_turn_17 rfl (lv_at hl 2 rfl) ?_
      refine lv_iconst (v := (4 : Int32)) hx hb dL_turn_18 (by decide) ?_
      obtain ⟨v3, hv3, h⟩ := ob h
      refine lv_idiv hx hb dL_turn_19 (dvi_some hv3).1 ?_
      refine r_top (dvi_some hv3).2 ?_
      refine lv_iadd hx hb dL_turn_20 ?_
      obtain ⟨v4, hv4, h⟩ := ob h
      refine r_iald hx hb hK hw hA0 (mm_at (i := 0) (f := a0) hN rfl) hv4 dL_turn_21 ?_
      refine lv_icmp_ge (tgt := 38) hx hb dL_turn_22 (by decide) (fun c5 => ?_) (fun c5 => ?_)
      · replace h := ifp c5 h
        refine lv_iconst (v := (0 : Int32)) hx hb dL_turn_38 (by decide) ?_
        refine lv_iadd hx hb dL_turn_39 ?_
        obtain ⟨v6, ev6, h⟩ := jb h
        refine r_top ev6 ?_
        refine lv_istore_n (lv' := [(1, .int v6), (0, .ref (eA γ j0)), (2, .int x2)]) hx hb dL_turn_40 rfl hl (by decide) rfl (fun ls hl => ?_)
        obtain ⟨v7, ev7, h⟩ := jb h
        refine lv_iinc (v := v7) (lv' := [(2, .int v7), (1, .int v6), (0, .ref (eA γ j0))]) hx hb dL_turn_41 hl (k := 2) rfl (by rw [← ev7]; rfl) (by decide) rfl (fun ls hl => ?_)
        refine lv_goto (tgt := 4) hx hb dL_turn_44 (by decide) ?_
        exact ih h hw (lv_sub hl [2, 1, 0] rfl)
      · replace h := ifn c5 h
        refine lv_aload_n hx hb dL_turn_25 rfl (lv_at hl 0 rfl) ?_
        refine lv_iload_n hx hb dL_turn_26 rfl (lv_at hl 2 rfl) ?_
        obtain ⟨v8, hv8, h⟩ := ob h
        refine r_iald hx hb hK hw hA0 (mm_at (i := 0) (f := a0) hN rfl) hv8 dL_turn_27 ?_
        refine lv_iload_n hx hb dL_turn_28 rfl (lv_at hl 2 rfl) ?_
        refine lv_iconst (v := (4 : Int32)) hx hb dL_turn_29 (by decide) ?_
        obtain ⟨v9, hv9, h⟩ := ob h
        refine lv_idiv hx hb dL_turn_30 (dvi_some hv9).1 ?_
        refine r_top (dvi_some hv9).2 ?_
        obtain ⟨v10, hv10, h⟩ := ob h
        refine r_Si (rest := [.int v8, .int x1]) C0 z0 (c_L_place hv10) lk_L_10 hl.1 rfl (Nat.le_of_ble_eq_true rfl) (by decide) hw dL_turn_31 (fun {H} {locs} hw => ?_)
        refine lv_imul hx hb dL_turn_34 ?_
        refine lv_goto (tgt := 39) hx hb dL_turn_35 (by decide) ?_
        refine lv_iadd hx hb dL_turn_39 ?_
        obtain ⟨v11, ev11, h⟩ := jb h
        refine r_top ev11 ?_
        refine lv_istore_n (lv' := [(1, .int v11), (0, .ref (eA γ j0)), (2, .int x2)]) hx hb dL_turn_40 rfl hl (by decide) rfl (fun ls hl => ?_)
        obtain ⟨v12, ev12, h⟩ := jb h
        refine lv_iinc (v := v12) (lv' := [(2, .int v12), (1, .int v11), (0, .ref (eA γ j0))]) hx hb dL_turn_41 hl (k := 2) rfl (by rw [← ev12]; rfl) (by decide) rfl (fun ls hl => ?_)
        refine lv_goto (tgt := 4) hx hb dL_turn_44 (by decide) ?_
        exact ih h hw (lv_sub hl [2, 1, 0] rfl)
set_option maxHeartbeats 4000000 in
set_option maxRecDepth 10000 in
theorem b_L_turn {γ : Ev} {μ : Mm} {j0 : Nat} {a0 : Nat → Int32} {r : Int32} (C : Cx p R s m args meth c RL cL_turn 3 (some .int) 3 100 γ) (hN : ([j0] : List Nat).Nodup) (hA0 : isA γ j0 60) (h : s_L_turn a0 = some r) (hw : Wo γ (mm μ [(j0, a0)]) s H locs) (hl : lv_has ls 3 [(0, .ref (eA γ j0))]) : W p l e R s m args below meth c H locs 0 0 (MQ below (Qo γ (some (.int r)) (mm μ [(j0, a0)])) args s 0 0 (AK γ)) (F0 m 0 ls []) := by
  have C0 := C
  obtain ⟨hx, hb, hr, hml, hown, hts, hlk, hK, hd, hF, hL⟩ := id C
  unfold s_L_turn at h
  refine lv_iconst (v := (0 : Int32)) hx hb dL_turn_0 (by decide) ?_
  refine lv_istore_n (lv' := [(1, .int (0 : Int32)), (0, .ref (eA γ j0))]) hx hb dL_turn_1 rfl hl (by decide) rfl (fun ls hl => ?_)
  refine lv_iconst (v := (0 : Int32)) hx hb dL_turn_2 (by decide) ?_
  refine lv_istore_n (lv' := [(2, .int (0 : Int32)), (1, .int (0 : Int32)), (0, .ref (eA γ j0))]) hx hb dL_turn_3 rfl hl (by decide) rfl (fun ls hl => ?_)
  exact b_L_turn_L4 C hN hA0 1000 h hw (lv_sub hl [2, 1, 0] rfl)
theorem c_L_turn {l : Launch} {γ : Ev} {μ : Mm} {j0 : Nat} {a0 : Nat → Int32} {r : Int32} (hN : ([j0] : List Nat).Nodup) (hA0 : isA γ j0 60) (h : s_L_turn a0 = some r) : Ct l yL_turn cL_turn 3 (some .int) 3 100 γ [.ref (eA γ j0)] (mm μ [(j0, a0)]) (some (.int r)) (mm μ [(j0, a0)]) := Ct.of (own := RL) (by decide +kernel) rfl (Nat.le_of_ble_eq_true rfl) (fun C hw ls hl => b_L_turn C hN hA0 h hw hl)
set_option maxHeartbeats 4000000 in
set_option maxRecDepth 10000 in
theorem b_L_all_L4 {γ : Ev} {μ : Mm} {j0 : Nat} {r : Int32} (C : Cx p R s m args meth c RL cL_all 4 (some .int) 2 80 γ) (hN : ([j0] : List Nat).Nodup) (hA0 : isA γ j0 10) : ∀ (n : Nat) {a0 : Nat → Int32} {x1 : Int32} {x2 : Int32} {x3 : Int32} {H : Heap} {locs : List Loc} {ls : Array Slot}, s_L_all_L4 n a0 x1 x2 x3 = some r → Wo γ (mm μ [(j0, a0)]) s H locs → lv_has ls 4 [(0, .ref (eA γ j0)), (1, .int x1), (2, .int x2), (3, .int x3)] → W p l e R s m args below meth c H locs 0 0 (MQ below (Qo γ (some (.int r)) (mm μ [(j0, a0)])) args s 0 0 (AK γ)) (F0 m 4 ls []) := by
  have C0 := C
  obtain ⟨hx, hb, hr, hml, hown, hts, hlk, hK, hd, hF, hL⟩ := id C
  intro n
  induction n with
  | zero => intro a0 x1 x2 x3 H locs ls h; cases h
  | succ n ih =>
    intro a0 x1 x2 x3 H locs ls h hw hl
    unfold s_L_all_L4 at h
    refine lv_iload_n hx hb dL_all_4 rfl (lv_at hl 3 rfl) ?_
    refine lv_iconst (v := (5 : Int32)) hx hb dL_all_5 (by decide) ?_
    refine lv_icmp_ge (tgt := 25) hx hb dL_all_6 (by decide) (fun c1 => ?_) (fun c1 => ?_)
    · replace h := ifp c1 h
      refine lv_iload_n hx hb dL_all_25 rfl (lv_at hl 2 rfl) ?_
      have h1 := Option.some.inj h
      subst h1
      exact r_iret hx hb hr hlk hK hd hw dL_all_26
    · replace h := ifn c1 h
      refine lv_iload_n hx hb dL_all_9 rfl (lv_at hl 2 rfl) ?_
      refine lv_aload_n hx hb dL_all_10 rfl (lv_at hl 0 rfl) ?_
      refine lv_iconst (v := (5 : Int32)) hx hb dL_all_11 (by decide) ?_
      refine lv_iload_n hx hb dL_all_12 rfl (lv_at hl 1 rfl) ?_
      refine lv_imul hx hb dL_all_13 ?_
      refine lv_iload_n hx hb dL_all_14 rfl (lv_at hl 3 rfl) ?_
      refine lv_iadd hx hb dL_all_15 ?_
      obtain ⟨v2, hv2, h⟩ := ob h
      refine r_iald hx hb hK hw hA0 (mm_at (i := 0) (f := a0) hN rfl) hv2 dL_all_16 ?_
      refine lv_iadd hx hb dL_all_17 ?_
      obtain ⟨v3, ev3, h⟩ := jb h
      refine r_top ev3 ?_
      refine lv_istore_n (lv' := [(2, .int v3), (0, .ref (eA γ j0)), (1, .int x1), (3, .int x3)]) hx hb dL_all_18 rfl hl (by decide) rfl (fun ls hl => ?_)
      obtain ⟨v4, ev4, h⟩ := jb h
      refine lv_iinc (v := v4) (lv' := [(3, .int v4), (2, .int v3), (0, .ref (eA γ j0)), (1, .int x1)]) hx hb dL_all_19 hl (k := 3) rfl (by rw [← ev4]; rfl) (by decide) rfl (fun ls hl => ?_)
      refine lv_goto (tgt := 4) hx hb dL_all_22 (by decide) ?_
      exact ih h hw (lv_sub hl [2, 3, 1, 0] rfl)
set_option maxHeartbeats 4000000 in
set_option maxRecDepth 10000 in
theorem b_L_all {γ : Ev} {μ : Mm} {j0 : Nat} {a0 : Nat → Int32} {x1 : Int32} {r : Int32} (C : Cx p R s m args meth c RL cL_all 4 (some .int) 2 80 γ) (hN : ([j0] : List Nat).Nodup) (hA0 : isA γ j0 10) (h : s_L_all a0 x1 = some r) (hw : Wo γ (mm μ [(j0, a0)]) s H locs) (hl : lv_has ls 4 [(0, .ref (eA γ j0)), (1, .int x1)]) : W p l e R s m args below meth c H locs 0 0 (MQ below (Qo γ (some (.int r)) (mm μ [(j0, a0)])) args s 0 0 (AK γ)) (F0 m 0 ls []) := by
  have C0 := C
  obtain ⟨hx, hb, hr, hml, hown, hts, hlk, hK, hd, hF, hL⟩ := id C
  unfold s_L_all at h
  refine lv_iconst (v := (0 : Int32)) hx hb dL_all_0 (by decide) ?_
  refine lv_istore_n (lv' := [(2, .int (0 : Int32)), (0, .ref (eA γ j0)), (1, .int x1)]) hx hb dL_all_1 rfl hl (by decide) rfl (fun ls hl => ?_)
  refine lv_iconst (v := (0 : Int32)) hx hb dL_all_2 (by decide) ?_
  refine lv_istore_n (lv' := [(3, .int (0 : Int32)), (2, .int (0 : Int32)), (0, .ref (eA γ j0)), (1, .int x1)]) hx hb dL_all_3 rfl hl (by decide) rfl (fun ls hl => ?_)
  exact b_L_all_L4 C hN hA0 1000 h hw (lv_sub hl [2, 3, 1, 0] rfl)
theorem c_L_all {l : Launch} {γ : Ev} {μ : Mm} {j0 : Nat} {a0 : Nat → Int32} {x1 : Int32} {r : Int32} (hN : ([j0] : List Nat).Nodup) (hA0 : isA γ j0 10) (h : s_L_all a0 x1 = some r) : Ct l yL_all cL_all 4 (some .int) 2 80 γ [.ref (eA γ j0), .int x1] (mm μ [(j0, a0)]) (some (.int r)) (mm μ [(j0, a0)]) := Ct.of (own := RL) (by decide +kernel) rfl (Nat.le_of_ble_eq_true rfl) (fun C hw ls hl => b_L_all C hN hA0 h hw hl)
set_option maxHeartbeats 4000000 in
set_option maxRecDepth 10000 in
theorem b_L_result {γ : Ev} {μ : Mm} {j0 : Nat} {a0 : Nat → Int32} {j1 : Nat} {a1 : Nat → Int32} {j2 : Nat} {a2 : Nat → Int32} {r : Int32} (C : Cx p R s m args meth c RL cL_result 4 (some .int) 4 122 γ) (hN : ([j0, j1, j2] : List Nat).Nodup) (hA0 : isA γ j0 60) (hA1 : isA γ j1 10) (hA2 : isA γ j2 11) (h : s_L_result a0 a1 a2 = some r) (hw : Wo γ (mm μ [(j0, a0), (j1, a1), (j2, a2)]) s H locs) (hl : lv_has ls 4 [(0, .ref (eA γ j0)), (1, .ref (eA γ j1)), (2, .ref (eA γ j2))]) : W p l e R s m args below meth c H locs 0 0 (MQ below (Qo γ (some (.int r)) (mm μ [(j0, a0), (j1, a1), (j2, a2)])) args s 0 0 (AK γ)) (F0 m 0 ls []) := by
  have C0 := C
  obtain ⟨hx, hb, hr, hml, hown, hts, hlk, hK, hd, hF, hL⟩ := id C
  unfold s_L_result at h
  refine lv_aload_n hx hb dL_result_0 rfl (lv_at hl 0 rfl) ?_
  obtain ⟨v1, hv1, h⟩ := ob h
  refine r_Si (rest := []) C0 z0 (c_L_turn (μ := mm μ [(j0, a0), (j1, a1), (j2, a2)]) (nd_sub hN [0] (by decide) rfl) hA0 hv1) lk_L_16 hl.1 rfl (Nat.le_of_ble_eq_true rfl) (by decide) (Wo.cg (mm_pre (μ := μ) (L := [(j0, a0), (j1, a1), (j2, a2)]) (L' := [(j0, a0)]) hN [0] rfl) hw) dL_result_1 (fun {H} {locs} hw => ?_)
  replace hw := Wo.cg (mm_pre (μ := μ) (L := [(j0, a0), (j1, a1), (j2, a2)]) (L' := [(j0, a0)]) hN [0] rfl).symm hw
  refine lv_istore_n (lv' := [(3, .int v1), (0, .ref (eA γ j0)), (1, .ref (eA γ j1)), (2, .ref (eA γ j2))]) hx hb dL_result_4 rfl hl (by decide) rfl (fun ls hl => ?_)
  refine lv_iload_n hx hb dL_result_5 rfl (lv_at hl 0 rfl) ?_
  refine lv_aload_n hx hb dL_result_6 rfl (lv_at hl 3 rfl) ?_
  refine lv_iconst (v := (1 : Int32)) hx hb dL_result_7 (by decide) ?_
  obtain ⟨v2, hv2, h⟩ := ob h
  refine r_iald hx hb hK hw hA2 (mm_at (i := 2) (f := a2) hN rfl) hv2 dL_result_8 ?_
  refine jn_elim h (fun (k : Unit → Option (Int32)) => ∀ (u : Unit) {H : Heap} {locs : List Loc} {ls : Array Slot}, k u = some r → Wo γ (mm μ [(j0, a0), (j1, a1), (j2, a2)]) s H locs → lv_has ls 4 [(2, .ref (eA γ j2))] → W p l e R s m args below meth c H locs 0 0 (MQ below (Qo γ (some (.int r)) (mm μ [(j0, a0), (j1, a1), (j2, a2)])) args s 0 0 (AK γ)) (F0 m 20 ls [])) ?_ ?_
  · intro u H locs ls h hw hl
    refine lv_aload_n hx hb dL_result_20 rfl (lv_at hl 0 rfl) ?_
    refine lv_iconst (v := (3 : Int32)) hx hb dL_result_21 (by decide) ?_
    obtain ⟨v9, hv9, h⟩ := ob h
    refine r_iald hx hb hK hw hA2 (mm_at (i := 2) (f := a2) hN rfl) hv9 dL_result_22 ?_
    refine lv_iconst (v := (1 : Int32)) hx hb dL_result_23 (by decide) ?_
    refine lv_icmp_ne (tgt := 36) hx hb dL_result_24 (by decide) (fun c10 => ?_) (fun c10 => ?_)
    · replace h := ifn c10 h
      refine lv_iconst (v := (2 : Int32)) hx hb dL_result_36 (by decide) ?_
      refine lv_aload_n hx hb dL_result_37 rfl (lv_at hl 0 rfl) ?_
      refine lv_bipush (v := (9 : Int32)) hx hb dL_result_38 (by decide) ?_
      obtain ⟨v11, hv11, h⟩ := ob h
      refine r_iald hx hb hK hw hA2 (mm_at (i := 2) (f := a2) hN rfl) hv11 dL_result_40 ?_
      refine lv_isub hx hb dL_result_41 ?_
      have h1 := Option.some.inj h
      subst h1
      exact r_iret hx hb hr hlk hK hd hw dL_result_42
    · replace h := ifp c10 h
      refine lv_aload_n hx hb dL_result_27 rfl (lv_at hl 0 rfl) ?_
      refine lv_bipush (v := (9 : Int32)) hx hb dL_result_28 (by decide) ?_
      obtain ⟨v12, hv12, h⟩ := ob h
      refine r_iald hx hb hK hw hA2 (mm_at (i := 2) (f := a2) hN rfl) hv12 dL_result_30 ?_
      refine lv_iconst (v := (1 : Int32)) hx hb dL_result_31 (by decide) ?_
      refine lv_iadd hx hb dL_result_32 ?_
      refine lv_goto (tgt := 42) hx hb dL_result_33 (by decide) ?_
      have h1 := Option.some.inj h
      subst h1
      exact r_iret hx hb hr hlk hK hd hw dL_result_42
  intro k8 J_k8 h
  refine lv_icmp_gt (tgt := 20) hx hb dL_result_9 (by decide) (fun c13 => ?_) (fun c13 => ?_)
  · replace h := ifp c13 h
    exact J_k8 () h hw (lv_sub hl [3] rfl)
  · replace h := ifn c13 h
    refine lv_iload_n hx hb dL_result_12 rfl (lv_at hl 0 rfl) ?_
    refine lv_ineg hx hb dL_result_13 ?_
    refine lv_aload_n hx hb dL_result_14 rfl (lv_at hl 3 rfl) ?_
    refine lv_iconst (v := (1 : Int32)) hx hb dL_result_15 (by decide) ?_
    obtain ⟨v14, hv14, h⟩ := ob h
    refine r_iald hx hb hK hw hA2 (mm_at (i := 2) (f := a2) hN rfl) hv14 dL_result_16 ?_
    refine lv_icmp_le (tgt := 43) hx hb dL_result_17 (by decide) (fun c15 => ?_) (fun c15 => ?_)
    · replace h := ifp c15 h
      refine lv_aload_n hx hb dL_result_43 rfl (lv_at hl 2 rfl) ?_
      refine lv_iconst (v := (0 : Int32)) hx hb dL_result_44 (by decide) ?_
      obtain ⟨v16, hv16, h⟩ := ob h
      refine r_Si (rest := []) C0 z0 (c_L_all (μ := mm μ [(j0, a0), (j1, a1), (j2, a2)]) (nd_sub hN [1] (by decide) rfl) hA1 hv16) lk_L_20 hl.1 rfl (Nat.le_of_ble_eq_true rfl) (by decide) (Wo.cg (mm_pre (μ := μ) (L := [(j0, a0), (j1, a1), (j2, a2)]) (L' := [(j1, a1)]) hN [1] rfl) hw) dL_result_45 (fun {H} {locs} hw => ?_)
      replace hw := Wo.cg (mm_pre (μ := μ) (L := [(j0, a0), (j1, a1), (j2, a2)]) (L' := [(j1, a1)]) hN [1] rfl).symm hw
      refine lv_aload_n hx hb dL_result_48 rfl (lv_at hl 2 rfl) ?_
      refine lv_iconst (v := (1 : Int32)) hx hb dL_result_49 (by decide) ?_
      obtain ⟨v17, hv17, h⟩ := ob h
      refine r_Si (rest := [.int v16]) C0 z0 (c_L_all (μ := mm μ [(j0, a0), (j1, a1), (j2, a2)]) (nd_sub hN [1] (by decide) rfl) hA1 hv17) lk_L_20 hl.1 rfl (Nat.le_of_ble_eq_true rfl) (by decide) (Wo.cg (mm_pre (μ := μ) (L := [(j0, a0), (j1, a1), (j2, a2)]) (L' := [(j1, a1)]) hN [1] rfl) hw) dL_result_50 (fun {H} {locs} hw => ?_)
      replace hw := Wo.cg (mm_pre (μ := μ) (L := [(j0, a0), (j1, a1), (j2, a2)]) (L' := [(j1, a1)]) hN [1] rfl).symm hw
      refine lv_iadd hx hb dL_result_53 ?_
      refine lv_if_le (tgt := 61) hx hb dL_result_54 (by decide) (fun c18 => ?_) (fun c18 => ?_)
      · replace h := ifp c18 h
        refine lv_iconst (v := (3 : Int32)) hx hb dL_result_61 (by decide) ?_
        have h1 := Option.some.inj h
        subst h1
        exact r_iret hx hb hr hlk hK hd hw dL_result_62
      · replace h := ifn c18 h
        refine lv_iconst (v := (0 : Int32)) hx hb dL_result_57 (by decide) ?_
        refine lv_goto (tgt := 62) hx hb dL_result_58 (by decide) ?_
        have h1 := Option.some.inj h
        subst h1
        exact r_iret hx hb hr hlk hK hd hw dL_result_62
    · replace h := ifn c15 h
      exact J_k8 () h hw (lv_sub hl [3] rfl)
theorem c_L_result {l : Launch} {γ : Ev} {μ : Mm} {j0 : Nat} {a0 : Nat → Int32} {j1 : Nat} {a1 : Nat → Int32} {j2 : Nat} {a2 : Nat → Int32} {r : Int32} (hN : ([j0, j1, j2] : List Nat).Nodup) (hA0 : isA γ j0 60) (hA1 : isA γ j1 10) (hA2 : isA γ j2 11) (h : s_L_result a0 a1 a2 = some r) : Ct l yL_result cL_result 4 (some .int) 4 122 γ [.ref (eA γ j0), .ref (eA γ j1), .ref (eA γ j2)] (mm μ [(j0, a0), (j1, a1), (j2, a2)]) (some (.int r)) (mm μ [(j0, a0), (j1, a1), (j2, a2)]) := Ct.of (own := RL) (by decide +kernel) rfl (Nat.le_of_ble_eq_true rfl) (fun C hw ls hl => b_L_result C hN hA0 hA1 hA2 h hw hl)
set_option maxHeartbeats 4000000 in
set_option maxRecDepth 10000 in
theorem b_L_why {γ : Ev} {μ : Mm} {j0 : Nat} {a0 : Nat → Int32} {j1 : Nat} {a1 : Nat → Int32} {j2 : Nat} {a2 : Nat → Int32} {x3 x4 : Int32} {r : Int32} (C : Cx p R s m args meth c RL cL_why 6 (some .int) 5 145 γ) (hN : ([j0, j1, j2] : List Nat).Nodup) (hA0 : isA γ j0 60) (hA1 : isA γ j1 10) (hA2 : isA γ j2 11) (h : s_L_why a0 a1 a2 x3 x4 = some r) (hw : Wo γ (mm μ [(j0, a0), (j1, a1), (j2, a2)]) s H locs) (hl : lv_has ls 6 [(0, .ref (eA γ j0)), (1, .ref (eA γ j1)), (2, .ref (eA γ j2)), (3, .int x3), (4, .int x4)]) : W p l e R s m args below meth c H locs 0 0 (MQ below (Qo γ (some (.int r)) (mm μ [(j0, a0), (j1, a1), (j2, a2)])) args s 0 0 (AK γ)) (F0 m 0 ls []) := by
  have C0 := C
  obtain ⟨hx, hb, hr, hml, hown, hts, hlk, hK, hd, hF, hL⟩ := id C
  unfold s_L_why at h
  refine lv_aload_n hx hb dL_why_0 rfl (lv_at hl 0 rfl) ?_
  refine lv_aload_n hx hb dL_why_1 rfl (lv_at hl 1 rfl) ?_
  refine lv_aload_n hx hb dL_why_2 rfl (lv_at hl 2 rfl) ?_
  obtain ⟨v1, hv1, h⟩ := ob h
  refine r_Si (rest := []) C0 z0 (c_L_result (μ := mm μ [(j0, a0), (j1, a1), (j2, a2)]) (nd_sub hN [0, 1, 2] (by decide) rfl) hA0 hA1 hA2 hv1) lk_L_24 hl.1 rfl (Nat.le_of_ble_eq_true rfl) (by decide) (Wo.cg (mm_pre (μ := μ) (L := [(j0, a0), (j1, a1), (j2, a2)]) (L' := [(j0, a0), (j1, a1), (j2, a2)]) hN [0, 1, 2] rfl) hw) dL_why_3 (fun {H} {locs} hw => ?_)
  replace hw := Wo.cg (mm_pre (μ := μ) (L := [(j0, a0), (j1, a1), (j2, a2)]) (L' := [(j0, a0), (j1, a1), (j2, a2)]) hN [0, 1, 2] rfl).symm hw
  refine lv_if_le (tgt := 11) hx hb dL_why_6 (by decide) (fun c2 => ?_) (fun c2 => ?_)
  · replace h := ifp c2 h
    refine lv_iload_n hx hb dL_why_11 rfl (lv_at hl 3 rfl) ?_
    refine lv_iconst (v := (5 : Int32)) hx hb dL_why_12 (by decide) ?_
    refine jn_elim h (fun (k : Unit → Option (Int32)) => ∀ (u : Unit) {H : Heap} {locs : List Loc} {ls : Array Slot}, k u = some r → Wo γ (mm μ [(j0, a0), (j1, a1), (j2, a2)]) s H locs → lv_has ls 6 [(0, .ref (eA γ j0)), (2, .ref (eA γ j2)), (3, .int x3), (4, .int x4)] → W p l e R s m args below meth c H locs 0 0 (MQ below (Qo γ (some (.int r)) (mm μ [(j0, a0), (j1, a1), (j2, a2)])) args s 0 0 (AK γ)) (F0 m 41 ls [])) ?_ ?_
    · intro u H locs ls h hw hl
      refine lv_iload_n hx hb dL_why_41 rfl (lv_at hl 2 rfl) ?_
      refine lv_iconst (v := (5 : Int32)) hx hb dL_why_42 (by decide) ?_
      refine jn_elim h (fun (k : Unit → Option (Int32)) => ∀ (u : Unit) {H : Heap} {locs : List Loc} {ls : Array Slot}, k u = some r → Wo γ (mm μ [(j0, a0), (j1, a1), (j2, a2)]) s H locs → lv_has ls 6 [(0, .ref (eA γ j0)), (2, .ref (eA γ j2)), (3, .int x3), (4, .int x4)] → W p l e R s m args below meth c H locs 0 0 (MQ below (Qo γ (some (.int r)) (mm μ [(j0, a0), (j1, a1), (j2, a2)])) args s 0 0 (AK γ)) (F0 m 70 ls [])) ?_ ?_
      · intro u H locs ls h hw hl
        refine lv_iload_n hx hb dL_why_70 rfl (lv_at hl 2 rfl) ?_
        refine lv_iload hx hb dL_why_71 (lv_at hl 3 rfl) ?_
        obtain ⟨v15, hv15, h⟩ := ob h
        refine r_Si (rest := []) C0 z0 (c_L_goal hv15) lk_L_31 hl.1 rfl (Nat.le_of_ble_eq_true rfl) (by decide) hw dL_why_73 (fun {H} {locs} hw => ?_)
        refine lv_istore (lv' := [(5, .int v15), (0, .ref (eA γ j0)), (2, .ref (eA γ j2)), (3, .int x3), (4, .int x4)]) hx hb dL_why_76 hl (by decide) rfl (fun ls hl => ?_)
        refine lv_iload hx hb dL_why_78 (lv_at hl 0 rfl) ?_
        refine lv_if_ne (tgt := 87) hx hb dL_why_80 (by decide) (fun c16 => ?_) (fun c16 => ?_)
        · replace h := ifn c16 h
          refine lv_aload_n hx hb dL_why_87 rfl (lv_at hl 1 rfl) ?_
          refine lv_bipush (v := (48 : Int32)) hx hb dL_why_88 (by decide) ?_
          refine lv_iload hx hb dL_why_90 (lv_at hl 0 rfl) ?_
          obtain ⟨v17, hv17, h⟩ := ob h
          refine r_Si (rest := [.int (48 : Int32), .ref (eA γ j0)]) C0 z0 (c_L_index hv17) lk_L_28 hl.1 rfl (Nat.le_of_ble_eq_true rfl) (by decide) hw dL_why_92 (fun {H} {locs} hw => ?_)
          refine lv_iadd hx hb dL_why_95 ?_
          obtain ⟨v18, hv18, h⟩ := ob h
          refine r_iald hx hb hK hw hA0 (mm_at (i := 0) (f := a0) hN rfl) hv18 dL_why_96 ?_
          refine lv_aload_n hx hb dL_why_97 rfl (lv_at hl 2 rfl) ?_
          refine lv_iconst (v := (0 : Int32)) hx hb dL_why_98 (by decide) ?_
          obtain ⟨v19, hv19, h⟩ := ob h
          refine r_iald hx hb hK hw hA2 (mm_at (i := 2) (f := a2) hN rfl) hv19 dL_why_99 ?_
          refine lv_icmp_ge (tgt := 107) hx hb dL_why_100 (by decide) (fun c20 => ?_) (fun c20 => ?_)
          · replace h := ifp c20 h
            refine lv_iconst (v := (4 : Int32)) hx hb dL_why_107 (by decide) ?_
            have h1 := Option.some.inj h
            subst h1
            exact r_iret hx hb hr hlk hK hd hw dL_why_108
          · replace h := ifn c20 h
            refine lv_iconst (v := (0 : Int32)) hx hb dL_why_103 (by decide) ?_
            refine lv_goto (tgt := 108) hx hb dL_why_104 (by decide) ?_
            have h1 := Option.some.inj h
            subst h1
            exact r_iret hx hb hr hlk hK hd hw dL_why_108
        · replace h := ifp c16 h
          refine lv_iconst (v := (4 : Int32)) hx hb dL_why_83 (by decide) ?_
          refine lv_goto (tgt := 108) hx hb dL_why_84 (by decide) ?_
          have h1 := Option.some.inj h
          subst h1
          exact r_iret hx hb hr hlk hK hd hw dL_why_108
      intro k14 J_k14 h
      refine lv_icmp_le (tgt := 70) hx hb dL_why_43 (by decide) (fun c21 => ?_) (fun c21 => ?_)
      · replace h := ifp c21 h
        exact J_k14 () h hw (lv_sub hl [0, 1, 2, 3] rfl)
      · replace h := ifn c21 h
        refine lv_aload_n hx hb dL_why_46 rfl (lv_at hl 0 rfl) ?_
        refine lv_bipush (v := (48 : Int32)) hx hb dL_why_47 (by decide) ?_
        refine lv_iload hx hb dL_why_49 (lv_at hl 3 rfl) ?_
        obtain ⟨v22, hv22, h⟩ := ob h
        refine r_Si (rest := [.int (48 : Int32), .ref (eA γ j0)]) C0 z0 (c_L_index hv22) lk_L_28 hl.1 rfl (Nat.le_of_ble_eq_true rfl) (by decide) hw dL_why_51 (fun {H} {locs} hw => ?_)
        refine lv_iadd hx hb dL_why_54 ?_
        obtain ⟨v23, hv23, h⟩ := ob h
        refine r_iald hx hb hK hw hA0 (mm_at (i := 0) (f := a0) hN rfl) hv23 dL_why_55 ?_
        refine lv_if_eq (tgt := 68) hx hb dL_why_56 (by decide) (fun c24 => ?_) (fun c24 => ?_)
        · replace h := ifp c24 h
          refine lv_iconst (v := (3 : Int32)) hx hb dL_why_68 (by decide) ?_
          have h1 := Option.some.inj h
          subst h1
          exact r_iret hx hb hr hlk hK hd hw dL_why_69
        · replace h := ifn c24 h
          refine lv_aload_n hx hb dL_why_59 rfl (lv_at hl 1 rfl) ?_
          refine lv_bipush (v := (10 : Int32)) hx hb dL_why_60 (by decide) ?_
          obtain ⟨v25, hv25, h⟩ := ob h
          refine r_iald hx hb hK hw hA2 (mm_at (i := 2) (f := a2) hN rfl) hv25 dL_why_62 ?_
          refine lv_iload hx hb dL_why_63 (lv_at hl 3 rfl) ?_
          refine lv_icmp_ne (tgt := 70) hx hb dL_why_65 (by decide) (fun c26 => ?_) (fun c26 => ?_)
          · replace h := ifn c26 h
            exact J_k14 () h hw (lv_sub hl [0, 1, 2, 3] rfl)
          · replace h := ifp c26 h
            refine lv_iconst (v := (3 : Int32)) hx hb dL_why_68 (by decide) ?_
            have h1 := Option.some.inj h
            subst h1
            exact r_iret hx hb hr hlk hK hd hw dL_why_69
    intro k9 J_k9 h
    refine lv_icmp_le (tgt := 25) hx hb dL_why_13 (by decide) (fun c27 => ?_) (fun c27 => ?_)
    · replace h := ifp c27 h
      refine lv_aload_n hx hb dL_why_25 rfl (lv_at hl 1 rfl) ?_
      refine lv_iconst (v := (5 : Int32)) hx hb dL_why_26 (by decide) ?_
      refine lv_aload_n hx hb dL_why_27 rfl (lv_at hl 2 rfl) ?_
      refine lv_iconst (v := (4 : Int32)) hx hb dL_why_28 (by decide) ?_
      obtain ⟨v28, hv28, h⟩ := ob h
      refine r_iald hx hb hK hw hA2 (mm_at (i := 2) (f := a2) hN rfl) hv28 dL_why_29 ?_
      refine lv_imul hx hb dL_why_30 ?_
      refine lv_iload_n hx hb dL_why_31 rfl (lv_at hl 3 rfl) ?_
      refine lv_iadd hx hb dL_why_32 ?_
      refine lv_iconst (v := (1 : Int32)) hx hb dL_why_33 (by decide) ?_
      refine lv_isub hx hb dL_why_34 ?_
      obtain ⟨v29, hv29, h⟩ := ob h
      refine r_iald hx hb hK hw hA1 (mm_at (i := 1) (f := a1) hN rfl) hv29 dL_why_35 ?_
      refine lv_if_ne (tgt := 41) hx hb dL_why_36 (by decide) (fun c30 => ?_) (fun c30 => ?_)
      · replace h := ifn c30 h
        exact J_k9 () h hw (lv_sub hl [0, 2, 3, 4] rfl)
      · replace h := ifp c30 h
        refine lv_iconst (v := (2 : Int32)) hx hb dL_why_39 (by decide) ?_
        have h1 := Option.some.inj h
        subst h1
        exact r_iret hx hb hr hlk hK hd hw dL_why_40
    · replace h := ifn c27 h
      refine lv_aload_n hx hb dL_why_16 rfl (lv_at hl 2 rfl) ?_
      refine lv_iconst (v := (2 : Int32)) hx hb dL_why_17 (by decide) ?_
      obtain ⟨v31, hv31, h⟩ := ob h
      refine r_iald hx hb hK hw hA2 (mm_at (i := 2) (f := a2) hN rfl) hv31 dL_why_18 ?_
      refine lv_if_ne (tgt := 41) hx hb dL_why_19 (by decide) (fun c32 => ?_) (fun c32 => ?_)
      · replace h := ifn c32 h
        exact J_k9 () h hw (lv_sub hl [0, 2, 3, 4] rfl)
      · replace h := ifp c32 h
        refine lv_goto (tgt := 39) hx hb dL_why_22 (by decide) ?_
        refine lv_iconst (v := (2 : Int32)) hx hb dL_why_39 (by decide) ?_
        have h1 := Option.some.inj h
        subst h1
        exact r_iret hx hb hr hlk hK hd hw dL_why_40
  · replace h := ifn c2 h
    refine lv_iconst (v := (1 : Int32)) hx hb dL_why_9 (by decide) ?_
    have h1 := Option.some.inj h
    subst h1
    exact r_iret hx hb hr hlk hK hd hw dL_why_10
theorem c_L_why {l : Launch} {γ : Ev} {μ : Mm} {j0 : Nat} {a0 : Nat → Int32} {j1 : Nat} {a1 : Nat → Int32} {j2 : Nat} {a2 : Nat → Int32} {x3 x4 : Int32} {r : Int32} (hN : ([j0, j1, j2] : List Nat).Nodup) (hA0 : isA γ j0 60) (hA1 : isA γ j1 10) (hA2 : isA γ j2 11) (h : s_L_why a0 a1 a2 x3 x4 = some r) : Ct l yL_why cL_why 6 (some .int) 5 145 γ [.ref (eA γ j0), .ref (eA γ j1), .ref (eA γ j2), .int x3, .int x4] (mm μ [(j0, a0), (j1, a1), (j2, a2)]) (some (.int r)) (mm μ [(j0, a0), (j1, a1), (j2, a2)]) := Ct.of (own := RL) (by decide +kernel) rfl (Nat.le_of_ble_eq_true rfl) (fun C hw ls hl => b_L_why C hN hA0 hA1 hA2 h hw hl)
set_option maxHeartbeats 4000000 in
set_option maxRecDepth 10000 in
theorem b_L_put {γ : Ev} {μ : Mm} {j0 : Nat} {a0 : Nat → Int32} {x1 x2 : Int32} {w0 : Nat → Int32} (C : Cx p R s m args meth c RL cL_put 4 none 3 100 γ) (hN : ([j0] : List Nat).Nodup) (hA0 : isA γ j0 60) (h : s_L_put a0 x1 x2 = some w0) (hw : Wo γ (mm μ [(j0, a0)]) s H locs) (hl : lv_has ls 4 [(0, .ref (eA γ j0)), (1, .int x1), (2, .int x2)]) : W p l e R s m args below meth c H locs 0 0 (MQ below (Qo γ none (mm μ [(j0, w0)])) args s 0 0 (AK γ)) (F0 m 0 ls []) := by
  have C0 := C
  obtain ⟨hx, hb, hr, hml, hown, hts, hlk, hK, hd, hF, hL⟩ := id C
  unfold s_L_put at h
  refine lv_iload_n hx hb dL_put_0 rfl (lv_at hl 1 rfl) ?_
  obtain ⟨v1, hv1, h⟩ := ob h
  refine r_Si (rest := []) C0 z0 (c_L_index hv1) lk_L_28 hl.1 rfl (Nat.le_of_ble_eq_true rfl) (by decide) hw dL_put_1 (fun {H} {locs} hw => ?_)
  refine lv_istore_n (lv' := [(3, .int v1), (0, .ref (eA γ j0)), (1, .int x1), (2, .int x2)]) hx hb dL_put_4 rfl hl (by decide) rfl (fun ls hl => ?_)
  refine lv_aload_n hx hb dL_put_5 rfl (lv_at hl 1 rfl) ?_
  refine lv_iconst (v := (4 : Int32)) hx hb dL_put_6 (by decide) ?_
  refine lv_iload_n hx hb dL_put_7 rfl (lv_at hl 0 rfl) ?_
  refine lv_imul hx hb dL_put_8 ?_
  refine lv_aload_n hx hb dL_put_9 rfl (lv_at hl 1 rfl) ?_
  refine lv_bipush (v := (48 : Int32)) hx hb dL_put_10 (by decide) ?_
  refine lv_iload_n hx hb dL_put_12 rfl (lv_at hl 0 rfl) ?_
  refine lv_iadd hx hb dL_put_13 ?_
  obtain ⟨v2, hv2, h⟩ := ob h
  refine r_iald hx hb hK hw hA0 (mm_at (i := 0) (f := a0) hN rfl) hv2 dL_put_14 ?_
  refine lv_iadd hx hb dL_put_15 ?_
  refine lv_iload_n hx hb dL_put_16 rfl (lv_at hl 3 rfl) ?_
  obtain ⟨A3, hA3, h⟩ := ob h
  refine r_astm (L := [(j0, a0)]) (L' := [(j0, A3)]) (i := 0) hx hb hK hd hN hw hA0 rfl hA3 rfl dL_put_17 (fun {H} {locs} hw => ?_)
  refine lv_aload_n hx hb dL_put_18 rfl (lv_at hl 1 rfl) ?_
  refine lv_bipush (v := (48 : Int32)) hx hb dL_put_19 (by decide) ?_
  refine lv_iload_n hx hb dL_put_21 rfl (lv_at hl 0 rfl) ?_
  refine lv_iadd hx hb dL_put_22 ?_
  refine lv_dup2_11 hx hb dL_put_23 rfl rfl ?_
  obtain ⟨v4, hv4, h⟩ := ob h
  refine r_iald hx hb hK hw hA0 (mm_at (i := 0) (f := A3) hN rfl) hv4 dL_put_24 ?_
  refine lv_iconst (v := (1 : Int32)) hx hb dL_put_25 (by decide) ?_
  refine lv_iadd hx hb dL_put_26 ?_
  obtain ⟨A5, hA5, h⟩ := ob h
  refine r_astm (L := [(j0, A3)]) (L' := [(j0, A5)]) (i := 0) hx hb hK hd hN hw hA0 rfl hA5 rfl dL_put_27 (fun {H} {locs} hw => ?_)
  have h1 := Option.some.inj h
  subst h1
  exact r_vret hx hb hr hlk hK hd hw dL_put_28
theorem c_L_put {l : Launch} {γ : Ev} {μ : Mm} {j0 : Nat} {a0 : Nat → Int32} {x1 x2 : Int32} {w0 : Nat → Int32} (hN : ([j0] : List Nat).Nodup) (hA0 : isA γ j0 60) (h : s_L_put a0 x1 x2 = some w0) : Ct l yL_put cL_put 4 none 3 100 γ [.ref (eA γ j0), .int x1, .int x2] (mm μ [(j0, a0)]) none (mm μ [(j0, w0)]) := Ct.of (own := RL) (by decide +kernel) rfl (Nat.le_of_ble_eq_true rfl) (fun C hw ls hl => b_L_put C hN hA0 h hw hl)
set_option maxHeartbeats 4000000 in
set_option maxRecDepth 10000 in
theorem b_L_move {γ : Ev} {μ : Mm} {j0 : Nat} {a0 : Nat → Int32} {j1 : Nat} {a1 : Nat → Int32} {j2 : Nat} {a2 : Nat → Int32} {x3 x4 : Int32} {w0 : Nat → Int32} {w1 : Nat → Int32} {w2 : Nat → Int32} (C : Cx p R s m args meth c RL cL_move 8 none 4 123 γ) (hN : ([j0, j1, j2] : List Nat).Nodup) (hA0 : isA γ j0 60) (hA1 : isA γ j1 10) (hA2 : isA γ j2 11) (h : s_L_move a0 a1 a2 x3 x4 = some (w0, w1, w2)) (hw : Wo γ (mm μ [(j0, a0), (j1, a1), (j2, a2)]) s H locs) (hl : lv_has ls 8 [(0, .ref (eA γ j0)), (1, .ref (eA γ j1)), (2, .ref (eA γ j2)), (3, .int x3), (4, .int x4)]) : W p l e R s m args below meth c H locs 0 0 (MQ below (Qo γ none (mm μ [(j0, w0), (j1, w1), (j2, w2)])) args s 0 0 (AK γ)) (F0 m 0 ls []) := by
  have C0 := C
  obtain ⟨hx, hb, hr, hml, hown, hts, hlk, hK, hd, hF, hL⟩ := id C
  unfold s_L_move at h
  refine lv_iload_n hx hb dL_move_0 rfl (lv_at hl 3 rfl) ?_
  refine lv_iload hx hb dL_move_1 (lv_at hl 4 rfl) ?_
  obtain ⟨v1, hv1, h⟩ := ob h
  refine r_Si (rest := []) C0 z0 (c_L_goal hv1) lk_L_31 hl.1 rfl (Nat.le_of_ble_eq_true rfl) (by decide) hw dL_move_3 (fun {H} {locs} hw => ?_)
  refine lv_istore (lv' := [(5, .int v1), (0, .ref (eA γ j0)), (1, .ref (eA γ j1)), (2, .ref (eA γ j2)), (3, .int x3), (4, .int x4)]) hx hb dL_move_6 hl (by decide) rfl (fun ls hl => ?_)
  refine lv_iload_n hx hb dL_move_8 rfl (lv_at hl 4 rfl) ?_
  refine lv_istore (lv' := [(6, .int x3), (5, .int v1), (0, .ref (eA γ j0)), (1, .ref (eA γ j1)), (2, .ref (eA γ j2)), (3, .int x3), (4, .int x4)]) hx hb dL_move_9 hl (by decide) rfl (fun ls hl => ?_)
  refine lv_iload_n hx hb dL_move_11 rfl (lv_at hl 5 rfl) ?_
  refine lv_iconst (v := (5 : Int32)) hx hb dL_move_12 (by decide) ?_
  refine jn_elim h (fun (k : Int32 → (Nat → Int32) → (Nat → Int32) → Option ((Nat → Int32) × (Nat → Int32) × (Nat → Int32))) => ∀ (v20 : Int32) (A21 : Nat → Int32) (A22 : Nat → Int32) {H : Heap} {locs : List Loc} {ls : Array Slot}, k v20 A21 A22 = some (w0, w1, w2) → Wo γ (mm μ [(j0, A21), (j1, A22), (j2, a2)]) s H locs → lv_has ls 8 [(0, .ref (eA γ j0)), (1, .ref (eA γ j1)), (2, .ref (eA γ j2)), (3, .int x3), (5, .int v1), (6, .int v20)] → W p l e R s m args below meth c H locs 0 0 (MQ below (Qo γ none (mm μ [(j0, w0), (j1, w1), (j2, w2)])) args s 0 0 (AK γ)) (F0 m 68 ls [])) ?_ ?_
  · intro v20 A21 A22 H locs ls h hw hl
    refine lv_aload_n hx hb dL_move_68 rfl (lv_at hl 0 rfl) ?_
    refine lv_iload hx hb dL_move_69 (lv_at hl 4 rfl) ?_
    refine lv_iload hx hb dL_move_71 (lv_at hl 5 rfl) ?_
    obtain ⟨A23, hA23, h⟩ := ob h
    refine r_Sv (rest := []) C0 z0 (c_L_put (μ := mm μ [(j0, A21), (j1, A22), (j2, a2)]) (nd_sub hN [0] (by decide) rfl) hA0 hA23) lk_L_35 hl.1 rfl (Nat.le_of_ble_eq_true rfl) (by decide) (Wo.cg (mm_pre (μ := μ) (L := [(j0, A21), (j1, A22), (j2, a2)]) (L' := [(j0, A21)]) hN [0] rfl) hw) dL_move_73 (fun {H} {locs} hw => ?_)
    replace hw := Wo.cg (mm_post (μ := μ) (L := [(j0, A21), (j1, A22), (j2, a2)]) (L' := [(j0, A23)]) (Ln := [(j0, A23), (j1, A22), (j2, a2)]) hN [(0, A23)] rfl rfl rfl) hw
    refine lv_aload_n hx hb dL_move_76 rfl (lv_at hl 2 rfl) ?_
    refine lv_bipush (v := (10 : Int32)) hx hb dL_move_77 (by decide) ?_
    refine lv_iload_n hx hb dL_move_79 rfl (lv_at hl 3 rfl) ?_
    refine lv_iconst (v := (5 : Int32)) hx hb dL_move_80 (by decide) ?_
    refine jn_elim h (fun (k : Int32 → Option ((Nat → Int32) × (Nat → Int32) × (Nat → Int32))) => ∀ (v25 : Int32) {H : Heap} {locs : List Loc} {ls : Array Slot}, k v25 = some (w0, w1, w2) → Wo γ (mm μ [(j0, A23), (j1, A22), (j2, a2)]) s H locs → lv_has ls 8 [(1, .ref (eA γ j1)), (2, .ref (eA γ j2))] → W p l e R s m args below meth c H locs 0 0 (MQ below (Qo γ none (mm μ [(j0, w0), (j1, w1), (j2, w2)])) args s 0 0 (AK γ)) (F0 m 90 ls [.int v25, .int (10 : Int32), .ref (eA γ j2)])) ?_ ?_
    · intro v25 H locs ls h hw hl
      obtain ⟨A26, hA26, h⟩ := ob h
      refine r_astm (L := [(j0, A23), (j1, A22), (j2, a2)]) (L' := [(j0, A23), (j1, A22), (j2, A26)]) (i := 2) hx hb hK hd hN hw hA2 rfl hA26 rfl dL_move_90 (fun {H} {locs} hw => ?_)
      refine lv_aload_n hx hb dL_move_91 rfl (lv_at hl 1 rfl) ?_
      refine lv_bipush (v := (9 : Int32)) hx hb dL_move_92 (by decide) ?_
      refine lv_aload_n hx hb dL_move_94 rfl (lv_at hl 1 rfl) ?_
      refine lv_iconst (v := (4 : Int32)) hx hb dL_move_95 (by decide) ?_
      obtain ⟨v27, hv27, h⟩ := ob h
      refine r_iald hx hb hK hw hA2 (mm_at (i := 2) (f := A26) hN rfl) hv27 dL_move_96 ?_
      obtain ⟨A28, hA28, h⟩ := ob h
      refine r_astm (L := [(j0, A23), (j1, A22), (j2, A26)]) (L' := [(j0, A23), (j1, A22), (j2, A28)]) (i := 2) hx hb hK hd hN hw hA2 rfl hA28 rfl dL_move_97 (fun {H} {locs} hw => ?_)
      refine lv_aload_n hx hb dL_move_98 rfl (lv_at hl 1 rfl) ?_
      refine lv_iconst (v := (2 : Int32)) hx hb dL_move_99 (by decide) ?_
      obtain ⟨v29, hv29, h⟩ := ob h
      refine r_iald hx hb hK hw hA2 (mm_at (i := 2) (f := A28) hN rfl) hv29 dL_move_100 ?_
      refine jn_elim h (fun (k : Int32 → Option ((Nat → Int32) × (Nat → Int32) × (Nat → Int32))) => ∀ (v36 : Int32) {H : Heap} {locs : List Loc} {ls : Array Slot}, k v36 = some (w0, w1, w2) → Wo γ (mm μ [(j0, A23), (j1, A22), (j2, A28)]) s H locs → lv_has ls 8 [(2, .ref (eA γ j2))] → W p l e R s m args below meth c H locs 0 0 (MQ below (Qo γ none (mm μ [(j0, w0), (j1, w1), (j2, w2)])) args s 0 0 (AK γ)) (F0 m 131 ls [.int v36])) ?_ ?_
      · intro v36 H locs ls h hw hl
        refine lv_istore (lv' := [(7, .int v36), (2, .ref (eA γ j2))]) hx hb dL_move_131 hl (by decide) rfl (fun ls hl => ?_)
        refine lv_aload_n hx hb dL_move_133 rfl (lv_at hl 1 rfl) ?_
        refine lv_iconst (v := (4 : Int32)) hx hb dL_move_134 (by decide) ?_
        refine lv_iload hx hb dL_move_135 (lv_at hl 0 rfl) ?_
        refine lv_if_eq (tgt := 146) hx hb dL_move_137 (by decide) (fun c37 => ?_) (fun c37 => ?_)
        · replace h := ifp c37 h
          refine lv_iconst (v := (1 : Int32)) hx hb dL_move_146 (by decide) ?_
          refine lv_aload_n hx hb dL_move_147 rfl (lv_at hl 1 rfl) ?_
          refine lv_iconst (v := (4 : Int32)) hx hb dL_move_148 (by decide) ?_
          obtain ⟨v38, hv38, h⟩ := ob h
          refine r_iald hx hb hK hw hA2 (mm_at (i := 2) (f := A28) hN rfl) hv38 dL_move_149 ?_
          refine lv_isub hx hb dL_move_150 ?_
          obtain ⟨A39, hA39, h⟩ := ob h
          refine r_astm (L := [(j0, A23), (j1, A22), (j2, A28)]) (L' := [(j0, A23), (j1, A22), (j2, A39)]) (i := 2) hx hb hK hd hN hw hA2 rfl hA39 rfl dL_move_151 (fun {H} {locs} hw => ?_)
          obtain ⟨h1, h2⟩ := s2 h
          subst h1
          obtain ⟨h1, h3⟩ := i2_inj h2
          subst h1
          subst h3
          exact r_vret hx hb hr hlk hK hd hw dL_move_152
        · replace h := ifn c37 h
          refine lv_aload_n hx hb dL_move_140 rfl (lv_at hl 1 rfl) ?_
          refine lv_iconst (v := (4 : Int32)) hx hb dL_move_141 (by decide) ?_
          obtain ⟨v40, hv40, h⟩ := ob h
          refine r_iald hx hb hK hw hA2 (mm_at (i := 2) (f := A28) hN rfl) hv40 dL_move_142 ?_
          refine lv_goto (tgt := 151) hx hb dL_move_143 (by decide) ?_
          obtain ⟨A41, hA41, h⟩ := ob h
          refine r_astm (L := [(j0, A23), (j1, A22), (j2, A28)]) (L' := [(j0, A23), (j1, A22), (j2, A41)]) (i := 2) hx hb hK hd hN hw hA2 rfl hA41 rfl dL_move_151 (fun {H} {locs} hw => ?_)
          obtain ⟨h1, h2⟩ := s2 h
          subst h1
          obtain ⟨h1, h3⟩ := i2_inj h2
          subst h1
          subst h3
          exact r_vret hx hb hr hlk hK hd hw dL_move_152
      intro k35 J_k35 h
      refine jn_elim h (fun (k : Unit → Option ((Nat → Int32) × (Nat → Int32) × (Nat → Int32))) => ∀ (u : Unit) {H : Heap} {locs : List Loc} {ls : Array Slot}, k u = some (w0, w1, w2) → Wo γ (mm μ [(j0, A23), (j1, A22), (j2, A28)]) s H locs → lv_has ls 8 [(2, .ref (eA γ j2))] → W p l e R s m args below meth c H locs 0 0 (MQ below (Qo γ none (mm μ [(j0, w0), (j1, w1), (j2, w2)])) args s 0 0 (AK γ)) (F0 m 130 ls [])) ?_ ?_
      · intro u H locs ls h hw hl
        refine lv_iconst (v := (0 : Int32)) hx hb dL_move_130 (by decide) ?_
        exact J_k35 (0 : Int32) h hw (lv_sub hl [0] rfl)
      intro k52 J_k52 h
      refine lv_if_ne (tgt := 130) hx hb dL_move_101 (by decide) (fun c53 => ?_) (fun c53 => ?_)
      · replace h := ifn c53 h
        exact J_k52 () h hw (lv_sub hl [1] rfl)
      · replace h := ifp c53 h
        refine lv_aload_n hx hb dL_move_104 rfl (lv_at hl 0 rfl) ?_
        refine lv_iconst (v := (1 : Int32)) hx hb dL_move_105 (by decide) ?_
        refine lv_aload_n hx hb dL_move_106 rfl (lv_at hl 1 rfl) ?_
        refine lv_iconst (v := (4 : Int32)) hx hb dL_move_107 (by decide) ?_
        obtain ⟨v54, hv54, h⟩ := ob h
        refine r_iald hx hb hK hw hA2 (mm_at (i := 2) (f := A28) hN rfl) hv54 dL_move_108 ?_
        refine lv_isub hx hb dL_move_109 ?_
        obtain ⟨v55, hv55, h⟩ := ob h
        refine r_Si (rest := []) C0 z0 (c_L_all (μ := mm μ [(j0, A23), (j1, A22), (j2, A28)]) (nd_sub hN [1] (by decide) rfl) hA1 hv55) lk_L_20 hl.1 rfl (Nat.le_of_ble_eq_true rfl) (by decide) (Wo.cg (mm_pre (μ := μ) (L := [(j0, A23), (j1, A22), (j2, A28)]) (L' := [(j1, A22)]) hN [1] rfl) hw) dL_move_110 (fun {H} {locs} hw => ?_)
        replace hw := Wo.cg (mm_pre (μ := μ) (L := [(j0, A23), (j1, A22), (j2, A28)]) (L' := [(j1, A22)]) hN [1] rfl).symm hw
        refine lv_if_ne (tgt := 130) hx hb dL_move_113 (by decide) (fun c56 => ?_) (fun c56 => ?_)
        · replace h := ifn c56 h
          exact J_k52 () h hw (lv_sub hl [1] rfl)
        · replace h := ifp c56 h
          refine lv_aload_n hx hb dL_move_116 rfl (lv_at hl 0 rfl) ?_
          refine lv_aload_n hx hb dL_move_117 rfl (lv_at hl 1 rfl) ?_
          refine lv_iconst (v := (4 : Int32)) hx hb dL_move_118 (by decide) ?_
          obtain ⟨v57, hv57, h⟩ := ob h
          refine r_iald hx hb hK hw hA2 (mm_at (i := 2) (f := A28) hN rfl) hv57 dL_move_119 ?_
          obtain ⟨v58, hv58, h⟩ := ob h
          refine r_Si (rest := []) C0 z0 (c_L_all (μ := mm μ [(j0, A23), (j1, A22), (j2, A28)]) (nd_sub hN [1] (by decide) rfl) hA1 hv58) lk_L_20 hl.1 rfl (Nat.le_of_ble_eq_true rfl) (by decide) (Wo.cg (mm_pre (μ := μ) (L := [(j0, A23), (j1, A22), (j2, A28)]) (L' := [(j1, A22)]) hN [1] rfl) hw) dL_move_120 (fun {H} {locs} hw => ?_)
          replace hw := Wo.cg (mm_pre (μ := μ) (L := [(j0, A23), (j1, A22), (j2, A28)]) (L' := [(j1, A22)]) hN [1] rfl).symm hw
          refine lv_if_le (tgt := 130) hx hb dL_move_123 (by decide) (fun c59 => ?_) (fun c59 => ?_)
          · replace h := ifp c59 h
            exact J_k52 () h hw (lv_sub hl [1] rfl)
          · replace h := ifn c59 h
            refine lv_iconst (v := (1 : Int32)) hx hb dL_move_126 (by decide) ?_
            refine lv_goto (tgt := 131) hx hb dL_move_127 (by decide) ?_
            exact J_k35 (1 : Int32) h hw (lv_sub hl [1] rfl)
    intro k24 J_k24 h
    refine lv_icmp_le (tgt := 89) hx hb dL_move_81 (by decide) (fun c60 => ?_) (fun c60 => ?_)
    · replace h := ifp c60 h
      refine lv_iconst (v := (0 : Int32)) hx hb dL_move_89 (by decide) ?_
      exact J_k24 (0 : Int32) h hw (lv_sub hl [1, 2] rfl)
    · replace h := ifn c60 h
      refine lv_iload hx hb dL_move_84 (lv_at hl 4 rfl) ?_
      refine lv_goto (tgt := 90) hx hb dL_move_86 (by decide) ?_
      exact J_k24 v1 h hw (lv_sub hl [1, 2] rfl)
  intro k19 J_k19 h
  refine lv_icmp_le (tgt := 53) hx hb dL_move_13 (by decide) (fun c61 => ?_) (fun c61 => ?_)
  · replace h := ifp c61 h
    refine lv_aload_n hx hb dL_move_53 rfl (lv_at hl 3 rfl) ?_
    refine lv_iconst (v := (5 : Int32)) hx hb dL_move_54 (by decide) ?_
    refine lv_aload_n hx hb dL_move_55 rfl (lv_at hl 4 rfl) ?_
    refine lv_iconst (v := (4 : Int32)) hx hb dL_move_56 (by decide) ?_
    obtain ⟨v62, hv62, h⟩ := ob h
    refine r_iald hx hb hK hw hA2 (mm_at (i := 2) (f := a2) hN rfl) hv62 dL_move_57 ?_
    refine lv_imul hx hb dL_move_58 ?_
    refine lv_iload_n hx hb dL_move_59 rfl (lv_at hl 5 rfl) ?_
    refine lv_iadd hx hb dL_move_60 ?_
    refine lv_iconst (v := (1 : Int32)) hx hb dL_move_61 (by decide) ?_
    refine lv_isub hx hb dL_move_62 ?_
    refine lv_dup2_11 hx hb dL_move_63 rfl rfl ?_
    obtain ⟨v63, hv63, h⟩ := ob h
    refine r_iald hx hb hK hw hA1 (mm_at (i := 1) (f := a1) hN rfl) hv63 dL_move_64 ?_
    refine lv_iconst (v := (1 : Int32)) hx hb dL_move_65 (by decide) ?_
    refine lv_isub hx hb dL_move_66 ?_
    obtain ⟨A64, hA64, h⟩ := ob h
    refine r_astm (L := [(j0, a0), (j1, a1), (j2, a2)]) (L' := [(j0, a0), (j1, A64), (j2, a2)]) (i := 1) hx hb hK hd hN hw hA1 rfl hA64 rfl dL_move_67 (fun {H} {locs} hw => ?_)
    exact J_k19 x3 a0 A64 h hw (lv_sub hl [2, 3, 4, 5, 1, 0] rfl)
  · replace h := ifn c61 h
    refine lv_iload hx hb dL_move_16 (lv_at hl 6 rfl) ?_
    obtain ⟨v65, hv65, h⟩ := ob h
    refine r_Si (rest := []) C0 z0 (c_L_index hv65) lk_L_28 hl.1 rfl (Nat.le_of_ble_eq_true rfl) (by decide) hw dL_move_18 (fun {H} {locs} hw => ?_)
    refine lv_istore (lv' := [(7, .int v65), (6, .int x3), (5, .int v1), (0, .ref (eA γ j0)), (1, .ref (eA γ j1)), (2, .ref (eA γ j2)), (3, .int x3), (4, .int x4)]) hx hb dL_move_21 hl (by decide) rfl (fun ls hl => ?_)
    refine lv_aload_n hx hb dL_move_23 rfl (lv_at hl 3 rfl) ?_
    refine lv_bipush (v := (48 : Int32)) hx hb dL_move_24 (by decide) ?_
    refine lv_iload hx hb dL_move_26 (lv_at hl 0 rfl) ?_
    refine lv_iadd hx hb dL_move_28 ?_
    refine lv_dup2_11 hx hb dL_move_29 rfl rfl ?_
    obtain ⟨v66, hv66, h⟩ := ob h
    refine r_iald hx hb hK hw hA0 (mm_at (i := 0) (f := a0) hN rfl) hv66 dL_move_30 ?_
    refine lv_iconst (v := (1 : Int32)) hx hb dL_move_31 (by decide) ?_
    refine lv_isub hx hb dL_move_32 ?_
    obtain ⟨A67, hA67, h⟩ := ob h
    refine r_astm (L := [(j0, a0), (j1, a1), (j2, a2)]) (L' := [(j0, A67), (j1, a1), (j2, a2)]) (i := 0) hx hb hK hd hN hw hA0 rfl hA67 rfl dL_move_33 (fun {H} {locs} hw => ?_)
    refine lv_aload_n hx hb dL_move_34 rfl (lv_at hl 3 rfl) ?_
    refine lv_iconst (v := (4 : Int32)) hx hb dL_move_35 (by decide) ?_
    refine lv_iload hx hb dL_move_36 (lv_at hl 0 rfl) ?_
    refine lv_imul hx hb dL_move_38 ?_
    refine lv_aload_n hx hb dL_move_39 rfl (lv_at hl 3 rfl) ?_
    refine lv_bipush (v := (48 : Int32)) hx hb dL_move_40 (by decide) ?_
    refine lv_iload hx hb dL_move_42 (lv_at hl 0 rfl) ?_
    refine lv_iadd hx hb dL_move_44 ?_
    obtain ⟨v68, hv68, h⟩ := ob h
    refine r_iald hx hb hK hw hA0 (mm_at (i := 0) (f := A67) hN rfl) hv68 dL_move_45 ?_
    refine lv_iadd hx hb dL_move_46 ?_
    obtain ⟨v69, hv69, h⟩ := ob h
    refine r_iald hx hb hK hw hA0 (mm_at (i := 0) (f := A67) hN rfl) hv69 dL_move_47 ?_
    refine lv_istore (lv' := [(6, .int v69), (7, .int v65), (5, .int v1), (0, .ref (eA γ j0)), (1, .ref (eA γ j1)), (2, .ref (eA γ j2)), (3, .int x3), (4, .int x4)]) hx hb dL_move_48 hl (by decide) rfl (fun ls hl => ?_)
    refine lv_goto (tgt := 68) hx hb dL_move_50 (by decide) ?_
    exact J_k19 v69 A67 a1 h hw (lv_sub hl [3, 4, 5, 6, 2, 0] rfl)
theorem c_L_move {l : Launch} {γ : Ev} {μ : Mm} {j0 : Nat} {a0 : Nat → Int32} {j1 : Nat} {a1 : Nat → Int32} {j2 : Nat} {a2 : Nat → Int32} {x3 x4 : Int32} {w0 : Nat → Int32} {w1 : Nat → Int32} {w2 : Nat → Int32} (hN : ([j0, j1, j2] : List Nat).Nodup) (hA0 : isA γ j0 60) (hA1 : isA γ j1 10) (hA2 : isA γ j2 11) (h : s_L_move a0 a1 a2 x3 x4 = some (w0, w1, w2)) : Ct l yL_move cL_move 8 none 4 123 γ [.ref (eA γ j0), .ref (eA γ j1), .ref (eA γ j2), .int x3, .int x4] (mm μ [(j0, a0), (j1, a1), (j2, a2)]) none (mm μ [(j0, w0), (j1, w1), (j2, w2)]) := Ct.of (own := RL) (by decide +kernel) rfl (Nat.le_of_ble_eq_true rfl) (fun C hw ls hl => b_L_move C hN hA0 hA1 hA2 h hw hl)
set_option maxHeartbeats 4000000 in
set_option maxRecDepth 10000 in
theorem b_L_copy_L2 {γ : Ev} {μ : Mm} {nn : Nat} {j0 : Nat} {j1 : Nat} {w1 : Nat → Int32} (C : Cx p R s m args meth c RL cL_copy 3 none 2 80 γ) (hN : ([j0, j1] : List Nat).Nodup) (hA0 : isA γ j0 nn) (hA1 : isA γ j1 nn) : ∀ (n : Nat) {a0 : Nat → Int32} {a1 : Nat → Int32} {x2 : Int32} {H : Heap} {locs : List Loc} {ls : Array Slot}, s_L_copy_L2 nn n a0 a1 x2 = some w1 → Wo γ (mm μ [(j0, a0), (j1, a1)]) s H locs → lv_has ls 3 [(0, .ref (eA γ j0)), (1, .ref (eA γ j1)), (2, .int x2)] → W p l e R s m args below meth c H locs 0 0 (MQ below (Qo γ none (mm μ [(j0, a0), (j1, w1)])) args s 0 0 (AK γ)) (F0 m 2 ls []) := by
  have C0 := C
  obtain ⟨hx, hb, hr, hml, hown, hts, hlk, hK, hd, hF, hL⟩ := id C
  intro n
  induction n with
  | zero => intro a0 a1 x2 H locs ls h; cases h
  | succ n ih =>
    intro a0 a1 x2 H locs ls h hw hl
    unfold s_L_copy_L2 at h
    refine lv_iload_n hx hb dL_copy_2 rfl (lv_at hl 2 rfl) ?_
    refine lv_aload_n hx hb dL_copy_3 rfl (lv_at hl 0 rfl) ?_
    refine r_alen hx hb hK hw hA0 (nI nn) rfl dL_copy_4 ?_
    refine lv_icmp_ge (tgt := 20) hx hb dL_copy_5 (by decide) (fun c1 => ?_) (fun c1 => ?_)
    · replace h := ifp c1 h
      have h1 := Option.some.inj h
      subst h1
      exact r_vret hx hb hr hlk hK hd hw dL_copy_20
    · replace h := ifn c1 h
      refine lv_aload_n hx hb dL_copy_8 rfl (lv_at hl 1 rfl) ?_
      refine lv_iload_n hx hb dL_copy_9 rfl (lv_at hl 2 rfl) ?_
      refine lv_aload_n hx hb dL_copy_10 rfl (lv_at hl 0 rfl) ?_
      refine lv_iload_n hx hb dL_copy_11 rfl (lv_at hl 2 rfl) ?_
      obtain ⟨v2, hv2, h⟩ := ob h
      refine r_iald hx hb hK hw hA0 (mm_at (i := 0) (f := a0) hN rfl) hv2 dL_copy_12 ?_
      obtain ⟨A3, hA3, h⟩ := ob h
      refine r_astm (L := [(j0, a0), (j1, a1)]) (L' := [(j0, a0), (j1, A3)]) (i := 1) hx hb hK hd hN hw hA1 rfl hA3 rfl dL_copy_13 (fun {H} {locs} hw => ?_)
      obtain ⟨v4, ev4, h⟩ := jb h
      refine lv_iinc (v := v4) (lv' := [(2, .int v4), (0, .ref (eA γ j0)), (1, .ref (eA γ j1))]) hx hb dL_copy_14 hl (k := 2) rfl (by rw [← ev4]; rfl) (by decide) rfl (fun ls hl => ?_)
      refine lv_goto (tgt := 2) hx hb dL_copy_17 (by decide) ?_
      exact ih h hw (lv_sub hl [1, 2, 0] rfl)
set_option maxHeartbeats 4000000 in
set_option maxRecDepth 10000 in
theorem b_L_copy {γ : Ev} {μ : Mm} {nn : Nat} {j0 : Nat} {a0 : Nat → Int32} {j1 : Nat} {a1 : Nat → Int32} {w1 : Nat → Int32} (C : Cx p R s m args meth c RL cL_copy 3 none 2 80 γ) (hN : ([j0, j1] : List Nat).Nodup) (hA0 : isA γ j0 nn) (hA1 : isA γ j1 nn) (h : s_L_copy nn a0 a1 = some w1) (hw : Wo γ (mm μ [(j0, a0), (j1, a1)]) s H locs) (hl : lv_has ls 3 [(0, .ref (eA γ j0)), (1, .ref (eA γ j1))]) : W p l e R s m args below meth c H locs 0 0 (MQ below (Qo γ none (mm μ [(j0, a0), (j1, w1)])) args s 0 0 (AK γ)) (F0 m 0 ls []) := by
  have C0 := C
  obtain ⟨hx, hb, hr, hml, hown, hts, hlk, hK, hd, hF, hL⟩ := id C
  unfold s_L_copy at h
  refine lv_iconst (v := (0 : Int32)) hx hb dL_copy_0 (by decide) ?_
  refine lv_istore_n (lv' := [(2, .int (0 : Int32)), (0, .ref (eA γ j0)), (1, .ref (eA γ j1))]) hx hb dL_copy_1 rfl hl (by decide) rfl (fun ls hl => ?_)
  exact b_L_copy_L2 C hN hA0 hA1 1000 h hw (lv_sub hl [1, 2, 0] rfl)
theorem c_L_copy {l : Launch} {γ : Ev} {μ : Mm} {nn : Nat} {j0 : Nat} {a0 : Nat → Int32} {j1 : Nat} {a1 : Nat → Int32} {w1 : Nat → Int32} (hN : ([j0, j1] : List Nat).Nodup) (hA0 : isA γ j0 nn) (hA1 : isA γ j1 nn) (h : s_L_copy nn a0 a1 = some w1) : Ct l yL_copy cL_copy 3 none 2 80 γ [.ref (eA γ j0), .ref (eA γ j1)] (mm μ [(j0, a0), (j1, a1)]) none (mm μ [(j0, a0), (j1, w1)]) := Ct.of (own := RL) (by decide +kernel) rfl (Nat.le_of_ble_eq_true rfl) (fun C hw ls hl => b_L_copy C hN hA0 hA1 h hw hl)
set_option maxHeartbeats 4000000 in
set_option maxRecDepth 10000 in
theorem b_L_told {γ : Ev} {μ : Mm} {j0 : Nat} {a0 : Nat → Int32} {j1 : Nat} {a1 : Nat → Int32} {j2 : Nat} {a2 : Nat → Int32} {x3 : Int32} {r : Int32} (C : Cx p R s m args meth c RL cL_told 5 (some .int) 5 145 γ) (hN : ([j0, j1, j2] : List Nat).Nodup) (hA0 : isA γ j0 60) (hA1 : isA γ j1 10) (hA2 : isA γ j2 11) (h : s_L_told a0 a1 a2 x3 = some r) (hw : Wo γ (mm μ [(j0, a0), (j1, a1), (j2, a2)]) s H locs) (hl : lv_has ls 5 [(0, .ref (eA γ j0)), (1, .ref (eA γ j1)), (2, .ref (eA γ j2)), (3, .int x3)]) : W p l e R s m args below meth c H locs 0 0 (MQ below (Qo γ (some (.int r)) (mm μ [(j0, a0), (j1, a1), (j2, a2)])) args s 0 0 (AK γ)) (F0 m 0 ls []) := by
  have C0 := C
  obtain ⟨hx, hb, hr, hml, hown, hts, hlk, hK, hd, hF, hL⟩ := id C
  unfold s_L_told at h
  refine lv_aload_n hx hb dL_told_0 rfl (lv_at hl 0 rfl) ?_
  refine lv_aload_n hx hb dL_told_1 rfl (lv_at hl 1 rfl) ?_
  refine lv_aload_n hx hb dL_told_2 rfl (lv_at hl 2 rfl) ?_
  obtain ⟨v1, hv1, h⟩ := ob h
  refine r_Si (rest := []) C0 z0 (c_L_result (μ := mm μ [(j0, a0), (j1, a1), (j2, a2)]) (nd_sub hN [0, 1, 2] (by decide) rfl) hA0 hA1 hA2 hv1) lk_L_24 hl.1 rfl (Nat.le_of_ble_eq_true rfl) (by decide) (Wo.cg (mm_pre (μ := μ) (L := [(j0, a0), (j1, a1), (j2, a2)]) (L' := [(j0, a0), (j1, a1), (j2, a2)]) hN [0, 1, 2] rfl) hw) dL_told_3 (fun {H} {locs} hw => ?_)
  replace hw := Wo.cg (mm_pre (μ := μ) (L := [(j0, a0), (j1, a1), (j2, a2)]) (L' := [(j0, a0), (j1, a1), (j2, a2)]) hN [0, 1, 2] rfl).symm hw
  refine lv_istore (lv' := [(4, .int v1), (0, .ref (eA γ j0)), (1, .ref (eA γ j1)), (2, .ref (eA γ j2)), (3, .int x3)]) hx hb dL_told_6 hl (by decide) rfl (fun ls hl => ?_)
  refine lv_iload hx hb dL_told_8 (lv_at hl 0 rfl) ?_
  refine lv_if_eq (tgt := 19) hx hb dL_told_10 (by decide) (fun c2 => ?_) (fun c2 => ?_)
  · replace h := ifp c2 h
    refine lv_iconst (v := (0 : Int32)) hx hb dL_told_19 (by decide) ?_
    refine lv_goto (tgt := 36) hx hb dL_told_20 (by decide) ?_
    have h1 := Option.some.inj h
    subst h1
    exact r_iret hx hb hr hlk hK hd hw dL_told_36
  · replace h := ifn c2 h
    refine lv_iload hx hb dL_told_13 (lv_at hl 0 rfl) ?_
    refine lv_iconst (v := (3 : Int32)) hx hb dL_told_15 (by decide) ?_
    refine lv_icmp_ne (tgt := 23) hx hb dL_told_16 (by decide) (fun c3 => ?_) (fun c3 => ?_)
    · replace h := ifn c3 h
      refine lv_iload hx hb dL_told_23 (lv_at hl 0 rfl) ?_
      refine lv_iload_n hx hb dL_told_25 rfl (lv_at hl 4 rfl) ?_
      refine lv_iconst (v := (1 : Int32)) hx hb dL_told_26 (by decide) ?_
      refine lv_iadd hx hb dL_told_27 ?_
      refine lv_icmp_ne (tgt := 35) hx hb dL_told_28 (by decide) (fun c4 => ?_) (fun c4 => ?_)
      · replace h := ifn c4 h
        refine lv_iconst (v := (-1 : Int32)) hx hb dL_told_35 (by decide) ?_
        have h1 := Option.some.inj h
        subst h1
        exact r_iret hx hb hr hlk hK hd hw dL_told_36
      · replace h := ifp c4 h
        refine lv_iconst (v := (1 : Int32)) hx hb dL_told_31 (by decide) ?_
        refine lv_goto (tgt := 36) hx hb dL_told_32 (by decide) ?_
        have h1 := Option.some.inj h
        subst h1
        exact r_iret hx hb hr hlk hK hd hw dL_told_36
    · replace h := ifp c3 h
      refine lv_iconst (v := (0 : Int32)) hx hb dL_told_19 (by decide) ?_
      refine lv_goto (tgt := 36) hx hb dL_told_20 (by decide) ?_
      have h1 := Option.some.inj h
      subst h1
      exact r_iret hx hb hr hlk hK hd hw dL_told_36
theorem c_L_told {l : Launch} {γ : Ev} {μ : Mm} {j0 : Nat} {a0 : Nat → Int32} {j1 : Nat} {a1 : Nat → Int32} {j2 : Nat} {a2 : Nat → Int32} {x3 : Int32} {r : Int32} (hN : ([j0, j1, j2] : List Nat).Nodup) (hA0 : isA γ j0 60) (hA1 : isA γ j1 10) (hA2 : isA γ j2 11) (h : s_L_told a0 a1 a2 x3 = some r) : Ct l yL_told cL_told 5 (some .int) 5 145 γ [.ref (eA γ j0), .ref (eA γ j1), .ref (eA γ j2), .int x3] (mm μ [(j0, a0), (j1, a1), (j2, a2)]) (some (.int r)) (mm μ [(j0, a0), (j1, a1), (j2, a2)]) := Ct.of (own := RL) (by decide +kernel) rfl (Nat.le_of_ble_eq_true rfl) (fun C hw ls hl => b_L_told C hN hA0 hA1 hA2 h hw hl)
end
