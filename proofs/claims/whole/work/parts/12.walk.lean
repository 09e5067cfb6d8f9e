section
variable {p : Program} {l : Launch} {e : Env} {R : Room} {s : State} {m : MethodId} {args : Array Value} {below : List Frame} {meth : Method} {c : Code} {H : Heap} {locs : List Loc} {ls : Array Slot}

theorem c_X3_ahead {l : Launch} {γ : Ev} {o : Nat} (hB : isX0 γ o) : ∀ (n : Nat) {σ B Bf : Mm} {x1 x2 x3 r : Int32}, s_X3_ahead n B x1 x2 x3 = some (r, Bf) → Ct l yX3_ahead cX3_ahead 10 (some .int) (16 * n) (600 * n) γ [.ref (eA γ o), .int x1, .int x2, .int x3] (st 6 σ o B) (some (.int r)) (st 6 σ o Bf) := by
  intro n
  induction n with
  | zero => intro σ B Bf x1 x2 x3 r h; cases h
  | succ n ih =>
    intro σ B Bf x1 x2 x3 r h
    exact c_X3_aheadF hB (fA := 16 * n) (lA := 600 * n) (fun h => ih h) h

set_option maxHeartbeats 4000000 in
set_option maxRecDepth 10000 in
theorem b_X3_lookAhead {γ : Ev} {o : Nat} {σ : Mm} {Bf : Mm} {r : Int32} {B : Mm} {x1 : Int32} (C : Cx p R s m args meth c RX3 cX3_lookAhead 2 (some .int) 81 3029 γ) (hB : isX0 γ o) (h : s_X3_lookAhead B x1 = some (r, Bf)) (hw : Wo γ (st 6 σ o B) s H locs) (hl : lv_has ls 2 [(0, .ref (eA γ o)), (1, .int x1)]) : W p l e R s m args below meth c H locs 0 0 (MQ below (Qo γ (some (.int r)) (st 6 σ o Bf)) args s 0 0 (AK γ)) (F0 m 0 ls []) := by
  have C0 := C
  obtain ⟨hx, hb, hr, hml, hown, hts, hlk, hK, hd, hF, hL⟩ := C
  unfold s_X3_lookAhead at h
  refine lv_aload_n hx hb dX3_lookAhead_0 rfl (lv_at hl 0 rfl) ?_
  refine lv_iload_n hx hb dX3_lookAhead_1 rfl (lv_at hl 1 rfl) ?_
  refine lv_iconst (v := (-1 : Int32)) hx hb dX3_lookAhead_2 (by decide) ?_
  refine lv_iconst (v := (1 : Int32)) hx hb dX3_lookAhead_3 (by decide) ?_
  obtain ⟨q1, hq1, h⟩ := ob h
  refine r_Si (rest := []) C0 z0 (c_X3_ahead hB 5 hq1) lk_X3_7 hl.1 rfl (Nat.le_of_ble_eq_true rfl) (by omega) hw dX3_lookAhead_4 (fun {H} {locs} hw => ?_)
  obtain ⟨h1, h2⟩ := s2 h
  subst h1
  subst h2
  exact r_iret hx hb hr hlk hK hd hw dX3_lookAhead_7
theorem c_X3_lookAhead {l : Launch} {γ : Ev} {o : Nat} {σ : Mm} {Bf : Mm} {r : Int32} {B : Mm} {x1 : Int32} (hB : isX0 γ o) (h : s_X3_lookAhead B x1 = some (r, Bf)) : Ct l yX3_lookAhead cX3_lookAhead 2 (some .int) 81 3029 γ [.ref (eA γ o), .int x1] (st 6 σ o B) (some (.int r)) (st 6 σ o Bf) := Ct.of (own := RX3) (by decide +kernel) rfl (Nat.le_of_ble_eq_true rfl) (fun C hw ls hl => b_X3_lookAhead C hB h hw hl)
set_option maxHeartbeats 4000000 in
set_option maxRecDepth 10000 in
theorem b_X3_bestRank_L20 {γ : Ev} {o : Nat} {σ : Mm} {Bf : Mm} {r : Int32} (C : Cx p R s m args meth c RX3 cX3_bestRank 11 (some .int) 89 3329 γ) (hB : isX0 γ o) : ∀ (n : Nat) {B : Mm} {x1 : Int32} {x2 : Int32} {x3 : Int32} {x4 : Int32} {x5 : Int32} {H : Heap} {locs : List Loc} {ls : Array Slot}, s_X3_bestRank_L20 n B x1 x2 x3 x4 x5 = some (r, Bf) → Wo γ (st 6 σ o B) s H locs → lv_has ls 11 [(0, .ref (eA γ o)), (1, .int x1), (2, .int x2), (3, .int x3), (4, .int x4), (5, .int x5)] → W p l e R s m args below meth c H locs 0 0 (MQ below (Qo γ (some (.int r)) (st 6 σ o Bf)) args s 0 0 (AK γ)) (F0 m 20 ls []) := by
  have C0 := C
  obtain ⟨hx, hb, hr, hml, hown, hts, hlk, hK, hd, hF, hL⟩ := C
  intro n
  induction n with
  | zero => intro B x1 x2 x3 x4 x5 H locs ls h; cases h
  | succ n ih =>
    intro B x1 x2 x3 x4 x5 H locs ls h hw hl
    unfold s_X3_bestRank_L20 at h
    refine lv_iload hx hb dX3_bestRank_20 (lv_at hl 5 rfl) ?_
    refine lv_bipush (v := (84 : Int32)) hx hb dX3_bestRank_22 (by decide) ?_
    refine lv_icmp_ge (tgt := 143) hx hb dX3_bestRank_24 (by decide) (fun c3 => ?_) (fun c3 => ?_)
    · replace h := ifp c3 h
      refine lv_iload_n hx hb dX3_bestRank_143 rfl (lv_at hl 2 rfl) ?_
      obtain ⟨h1, h2⟩ := s2 h
      subst h1
      subst h2
      exact r_iret hx hb hr hlk hK hd hw dX3_bestRank_144
    · replace h := ifn c3 h
      refine lv_iload hx hb dX3_bestRank_27 (lv_at hl 5 rfl) ?_
      obtain ⟨v4, hv4, h⟩ := ob h
      refine r_Si (rest := []) C0 z0 (c_X0_numberOf hv4) lk_X3_19 hl.1 rfl (Nat.le_of_ble_eq_true rfl) (by decide) hw dX3_bestRank_29 (fun {H} {locs} hw => ?_)
      refine lv_istore (lv' := [(6, .int v4), (0, .ref (eA γ o)), (1, .int x1), (2, .int x2), (3, .int x3), (4, .int x4), (5, .int x5)]) hx hb dX3_bestRank_32 hl (by decide) rfl (fun ls hl => ?_)
      refine lv_iload hx hb dX3_bestRank_34 (lv_at hl 6 rfl) ?_
      obtain ⟨v5, hv5, h⟩ := ob h
      refine r_Si (rest := []) C0 z0 (c_X0_placeOf hv5) lk_X3_23 hl.1 rfl (Nat.le_of_ble_eq_true rfl) (by decide) hw dX3_bestRank_36 (fun {H} {locs} hw => ?_)
      refine lv_istore (lv' := [(7, .int v5), (6, .int v4), (0, .ref (eA γ o)), (1, .int x1), (2, .int x2), (3, .int x3), (4, .int x4), (5, .int x5)]) hx hb dX3_bestRank_39 hl (by decide) rfl (fun ls hl => ?_)
      refine lv_aload_n hx hb dX3_bestRank_41 rfl (lv_at hl 2 rfl) ?_
      refine lv_iload hx hb dX3_bestRank_42 (lv_at hl 1 rfl) ?_
      refine lv_iload hx hb dX3_bestRank_44 (lv_at hl 0 rfl) ?_
      obtain ⟨v6, hv6, h⟩ := ob h
      refine r_Vi (rest := []) C0 z0 (c_X0_hindrance hB hv6) lk_X3_26 (X0_k0 hB) rfl rfl hl.1 rfl (Nat.le_of_ble_eq_true rfl) (by decide) hw dX3_bestRank_46 (fun {H} {locs} hw => ?_)
      refine lv_if_eq (tgt := 55) hx hb dX3_bestRank_49 (by decide) (fun c7 => ?_) (fun c7 => ?_)
      · replace h := ifp c7 h
        refine lv_aload_n hx hb dX3_bestRank_55 rfl (lv_at hl 2 rfl) ?_
        obtain ⟨v8, hv8, h⟩ := ob h
        refine r_Vi (rest := []) C0 z0 (c_X0_turn hB hv8) lk_X3_30 (X0_k0 hB) rfl rfl hl.1 rfl (Nat.le_of_ble_eq_true rfl) (by decide) hw dX3_bestRank_56 (fun {H} {locs} hw => ?_)
        refine lv_aload_n hx hb dX3_bestRank_59 rfl (lv_at hl 2 rfl) ?_
        refine lv_iload hx hb dX3_bestRank_60 (lv_at hl 1 rfl) ?_
        refine lv_iload hx hb dX3_bestRank_62 (lv_at hl 0 rfl) ?_
        obtain ⟨v9, hv9, h⟩ := ob h
        refine r_Vi (rest := [.int v8]) C0 z0 (c_X0_tellingOf hB hv9) lk_X3_33 (X0_k0 hB) rfl rfl hl.1 rfl (Nat.le_of_ble_eq_true rfl) (by decide) hw dX3_bestRank_64 (fun {H} {locs} hw => ?_)
        refine lv_iadd hx hb dX3_bestRank_67 ?_
        refine r_abs C0 z0 lk_X3_36 hl.1 (Nat.le_of_ble_eq_true rfl) (by decide) dX3_bestRank_68 ?_
        obtain ⟨v10, ev10, h⟩ := jb h
        refine r_top ev10 ?_
        refine lv_istore (lv' := [(8, .int v10), (7, .int v5), (6, .int v4), (0, .ref (eA γ o)), (1, .int x1), (2, .int x2), (3, .int x3), (4, .int x4), (5, .int x5)]) hx hb dX3_bestRank_71 hl (by decide) rfl (fun ls hl => ?_)
        refine lv_iload_n hx hb dX3_bestRank_73 rfl (lv_at hl 5 rfl) ?_
        refine jn_elim h (fun (k : Int32 → Option (Int32 × (Mm))) => ∀ (v13 : Int32) {H : Heap} {locs : List Loc} {ls : Array Slot}, k v13 = some (r, Bf) → Wo γ (st 6 σ o B) s H locs → lv_has ls 11 [(0, .ref (eA γ o)), (1, .int x1), (2, .int x2), (3, .int x3), (4, .int x4), (5, .int x5), (6, .int v4), (7, .int v5), (8, .int v10)] → W p l e R s m args below meth c H locs 0 0 (MQ below (Qo γ (some (.int r)) (st 6 σ o Bf)) args s 0 0 (AK γ)) (F0 m 91 ls [.int v13])) ?_ ?_
        · intro v13 H locs ls h hw hl
          refine lv_istore (lv' := [(9, .int v13), (0, .ref (eA γ o)), (1, .int x1), (2, .int x2), (3, .int x3), (4, .int x4), (5, .int x5), (6, .int v4), (7, .int v5), (8, .int v10)]) hx hb dX3_bestRank_91 hl (by decide) rfl (fun ls hl => ?_)
          refine lv_iload hx hb dX3_bestRank_93 (lv_at hl 0 rfl) ?_
          refine lv_iconst (v := (1 : Int32)) hx hb dX3_bestRank_95 (by decide) ?_
          refine lv_icmp_le (tgt := 102) hx hb dX3_bestRank_96 (by decide) (fun c14 => ?_) (fun c14 => ?_)
          · replace h := ifp c14 h
            refine lv_aload_n hx hb dX3_bestRank_102 rfl (lv_at hl 1 rfl) ?_
            refine lv_iload hx hb dX3_bestRank_103 (lv_at hl 7 rfl) ?_
            refine lv_iload hx hb dX3_bestRank_105 (lv_at hl 8 rfl) ?_
            refine lv_iload_n hx hb dX3_bestRank_107 rfl (lv_at hl 2 rfl) ?_
            refine lv_iconst (v := (1 : Int32)) hx hb dX3_bestRank_108 (by decide) ?_
            refine lv_isub hx hb dX3_bestRank_109 ?_
            refine lv_iload hx hb dX3_bestRank_110 (lv_at hl 0 rfl) ?_
            refine lv_iconst (v := (1 : Int32)) hx hb dX3_bestRank_112 (by decide) ?_
            refine lv_isub hx hb dX3_bestRank_113 ?_
            refine lv_iconst (v := (1 : Int32)) hx hb dX3_bestRank_114 (by decide) ?_
            obtain ⟨q15, hq15, h⟩ := ob h
            refine r_Si (rest := []) C0 z0 (c_X3_behind hB (fun h => c_X3_ahead hB 5 h) hq15) lk_X3_41 hl.1 rfl (Nat.le_of_ble_eq_true rfl) (by decide) hw dX3_bestRank_115 (fun {H} {locs} hw => ?_)
            obtain ⟨v16, ev16, h⟩ := jb h
            refine r_top ev16 ?_
            refine lv_istore (lv' := [(10, .int v16), (9, .int v13), (0, .ref (eA γ o)), (1, .int x1), (2, .int x2), (3, .int x3), (4, .int x4), (5, .int x5), (6, .int v4), (7, .int v5), (8, .int v10)]) hx hb dX3_bestRank_118 hl (by decide) rfl (fun ls hl => ?_)
            refine lv_iload hx hb dX3_bestRank_120 (lv_at hl 0 rfl) ?_
            refine lv_iload hx hb dX3_bestRank_122 (lv_at hl 1 rfl) ?_
            refine lv_icmp_lt (tgt := 137) hx hb dX3_bestRank_124 (by decide) (fun c17 => ?_) (fun c17 => ?_)
            · replace h := ifp c17 h
              obtain ⟨v18, ev18, h⟩ := jb h
              refine lv_iinc (v := v18) (lv' := [(5, .int v18), (10, .int v16), (9, .int v13), (0, .ref (eA γ o)), (1, .int x1), (2, .int x2), (3, .int x3), (4, .int x4), (6, .int v4), (7, .int v5), (8, .int v10)]) hx hb dX3_bestRank_137 hl (k := 7) rfl (by rw [← ev18]; rfl) (by decide) rfl (fun ls hl => ?_)
              refine lv_goto (tgt := 20) hx hb dX3_bestRank_140 (by decide) ?_
              exact ih h hw (lv_sub hl [3, 4, 5, 6, 7, 0] rfl)
            · replace h := ifn c17 h
              refine lv_iload hx hb dX3_bestRank_127 (lv_at hl 7 rfl) ?_
              refine lv_istore_n (lv' := [(2, .int x5), (10, .int v16), (9, .int v13), (0, .ref (eA γ o)), (1, .int x1), (3, .int x3), (4, .int x4), (5, .int x5), (6, .int v4), (7, .int v5), (8, .int v10)]) hx hb dX3_bestRank_129 rfl hl (by decide) rfl (fun ls hl => ?_)
              refine lv_iload hx hb dX3_bestRank_130 (lv_at hl 1 rfl) ?_
              refine lv_istore_n (lv' := [(3, .int v16), (2, .int x5), (10, .int v16), (9, .int v13), (0, .ref (eA γ o)), (1, .int x1), (4, .int x4), (5, .int x5), (6, .int v4), (7, .int v5), (8, .int v10)]) hx hb dX3_bestRank_132 rfl hl (by decide) rfl (fun ls hl => ?_)
              refine lv_iload hx hb dX3_bestRank_133 (lv_at hl 10 rfl) ?_
              refine lv_istore (lv' := [(4, .int v10), (3, .int v16), (2, .int x5), (10, .int v16), (9, .int v13), (0, .ref (eA γ o)), (1, .int x1), (5, .int x5), (6, .int v4), (7, .int v5), (8, .int v10)]) hx hb dX3_bestRank_135 hl (by decide) rfl (fun ls hl => ?_)
              obtain ⟨v19, ev19, h⟩ := jb h
              refine lv_iinc (v := v19) (lv' := [(5, .int v19), (4, .int v10), (3, .int v16), (2, .int x5), (10, .int v16), (9, .int v13), (0, .ref (eA γ o)), (1, .int x1), (6, .int v4), (7, .int v5), (8, .int v10)]) hx hb dX3_bestRank_137 hl (k := 7) rfl (by rw [← ev19]; rfl) (by decide) rfl (fun ls hl => ?_)
              refine lv_goto (tgt := 20) hx hb dX3_bestRank_140 (by decide) ?_
              exact ih h hw (lv_sub hl [6, 7, 3, 2, 1, 0] rfl)
          · replace h := ifn c14 h
            refine lv_goto (tgt := 137) hx hb dX3_bestRank_99 (by decide) ?_
            obtain ⟨v20, ev20, h⟩ := jb h
            refine lv_iinc (v := v20) (lv' := [(5, .int v20), (9, .int v13), (0, .ref (eA γ o)), (1, .int x1), (2, .int x2), (3, .int x3), (4, .int x4), (6, .int v4), (7, .int v5), (8, .int v10)]) hx hb dX3_bestRank_137 hl (k := 6) rfl (by rw [← ev20]; rfl) (by decide) rfl (fun ls hl => ?_)
            refine lv_goto (tgt := 20) hx hb dX3_bestRank_140 (by decide) ?_
            exact ih h hw (lv_sub hl [2, 3, 4, 5, 6, 0] rfl)
        intro k12 J_k12 h
        refine jn_elim h (fun (k : Unit → Option (Int32 × (Mm))) => ∀ (u : Unit) {H : Heap} {locs : List Loc} {ls : Array Slot}, k u = some (r, Bf) → Wo γ (st 6 σ o B) s H locs → lv_has ls 11 [(0, .ref (eA γ o)), (1, .int x1), (2, .int x2), (3, .int x3), (4, .int x4), (5, .int x5), (6, .int v4), (7, .int v5), (8, .int v10)] → W p l e R s m args below meth c H locs 0 0 (MQ below (Qo γ (some (.int r)) (st 6 σ o Bf)) args s 0 0 (AK γ)) (F0 m 84 ls [])) ?_ ?_
        · intro u H locs ls h hw hl
          refine lv_iload_n hx hb dX3_bestRank_84 rfl (lv_at hl 3 rfl) ?_
          refine lv_goto (tgt := 91) hx hb dX3_bestRank_85 (by decide) ?_
          exact J_k12 x3 h hw (lv_sub hl [0, 1, 2, 3, 4, 5, 6, 7, 8] rfl)
        intro k29 J_k29 h
        refine lv_if_lt (tgt := 84) hx hb dX3_bestRank_74 (by decide) (fun c30 => ?_) (fun c30 => ?_)
        · replace h := ifp c30 h
          exact J_k29 () h hw (lv_sub hl [3, 4, 5, 6, 7, 8, 2, 1, 0] rfl)
        · replace h := ifn c30 h
          refine lv_iload hx hb dX3_bestRank_77 (lv_at hl 0 rfl) ?_
          refine lv_iload hx hb dX3_bestRank_79 (lv_at hl 7 rfl) ?_
          refine lv_icmp_ge (tgt := 88) hx hb dX3_bestRank_81 (by decide) (fun c31 => ?_) (fun c31 => ?_)
          · replace h := ifp c31 h
            refine lv_iload_n hx hb dX3_bestRank_88 rfl (lv_at hl 6 rfl) ?_
            refine lv_iconst (v := (1 : Int32)) hx hb dX3_bestRank_89 (by decide) ?_
            refine lv_iadd hx hb dX3_bestRank_90 ?_
            exact J_k12 (x3 + (1 : Int32)) h hw (lv_sub hl [3, 4, 5, 6, 7, 8, 2, 1, 0] rfl)
          · replace h := ifn c31 h
            exact J_k29 () h hw (lv_sub hl [3, 4, 5, 6, 7, 8, 2, 1, 0] rfl)
      · replace h := ifn c7 h
        refine lv_goto (tgt := 137) hx hb dX3_bestRank_52 (by decide) ?_
        obtain ⟨v32, ev32, h⟩ := jb h
        refine lv_iinc (v := v32) (lv' := [(5, .int v32), (7, .int v5), (6, .int v4), (0, .ref (eA γ o)), (1, .int x1), (2, .int x2), (3, .int x3), (4, .int x4)]) hx hb dX3_bestRank_137 hl (k := 7) rfl (by rw [← ev32]; rfl) (by decide) rfl (fun ls hl => ?_)
        refine lv_goto (tgt := 20) hx hb dX3_bestRank_140 (by decide) ?_
        exact ih h hw (lv_sub hl [3, 4, 5, 6, 7, 0] rfl)
set_option maxHeartbeats 4000000 in
set_option maxRecDepth 10000 in
theorem b_X3_bestRank {γ : Ev} {o : Nat} {σ : Mm} {Bf : Mm} {r : Int32} {B : Mm} {x1 : Int32} (C : Cx p R s m args meth c RX3 cX3_bestRank 11 (some .int) 89 3329 γ) (hB : isX0 γ o) (h : s_X3_bestRank B x1 = some (r, Bf)) (hw : Wo γ (st 6 σ o B) s H locs) (hl : lv_has ls 11 [(0, .ref (eA γ o)), (1, .int x1)]) : W p l e R s m args below meth c H locs 0 0 (MQ below (Qo γ (some (.int r)) (st 6 σ o Bf)) args s 0 0 (AK γ)) (F0 m 0 ls []) := by
  have C0 := C
  obtain ⟨hx, hb, hr, hml, hown, hts, hlk, hK, hd, hF, hL⟩ := C
  unfold s_X3_bestRank at h
  refine lv_aload_n hx hb dX3_bestRank_0 rfl (lv_at hl 0 rfl) ?_
  obtain ⟨v1, hv1, h⟩ := ob h
  refine r_Vi (rest := []) C0 z0 (c_X0_outcome hB hv1) lk_X3_13 (X0_k0 hB) rfl rfl hl.1 rfl (Nat.le_of_ble_eq_true rfl) (by decide) hw dX3_bestRank_1 (fun {H} {locs} hw => ?_)
  refine lv_if_eq (tgt := 9) hx hb dX3_bestRank_4 (by decide) (fun c2 => ?_) (fun c2 => ?_)
  · replace h := ifp c2 h
    refine lv_iconst (v := (-1 : Int32)) hx hb dX3_bestRank_9 (by decide) ?_
    refine lv_istore_n (lv' := [(2, .int (-1 : Int32)), (0, .ref (eA γ o)), (1, .int x1)]) hx hb dX3_bestRank_10 rfl hl (by decide) rfl (fun ls hl => ?_)
    refine lv_bipush (v := (-2 : Int32)) hx hb dX3_bestRank_11 (by decide) ?_
    refine lv_istore_n (lv' := [(3, .int (-2 : Int32)), (2, .int (-1 : Int32)), (0, .ref (eA γ o)), (1, .int x1)]) hx hb dX3_bestRank_13 rfl hl (by decide) rfl (fun ls hl => ?_)
    refine lv_iconst (v := (0 : Int32)) hx hb dX3_bestRank_14 (by decide) ?_
    refine lv_istore (lv' := [(4, .int (0 : Int32)), (3, .int (-2 : Int32)), (2, .int (-1 : Int32)), (0, .ref (eA γ o)), (1, .int x1)]) hx hb dX3_bestRank_15 hl (by decide) rfl (fun ls hl => ?_)
    refine lv_iconst (v := (0 : Int32)) hx hb dX3_bestRank_17 (by decide) ?_
    refine lv_istore (lv' := [(5, .int (0 : Int32)), (4, .int (0 : Int32)), (3, .int (-2 : Int32)), (2, .int (-1 : Int32)), (0, .ref (eA γ o)), (1, .int x1)]) hx hb dX3_bestRank_18 hl (by decide) rfl (fun ls hl => ?_)
    exact b_X3_bestRank_L20 C0 hB 1000 h hw (lv_sub hl [4, 5, 3, 2, 1, 0] rfl)
  · replace h := ifn c2 h
    refine lv_iconst (v := (-1 : Int32)) hx hb dX3_bestRank_7 (by decide) ?_
    obtain ⟨h1, h2⟩ := s2 h
    subst h1
    subst h2
    exact r_iret hx hb hr hlk hK hd hw dX3_bestRank_8
theorem c_X3_bestRank {l : Launch} {γ : Ev} {o : Nat} {σ : Mm} {Bf : Mm} {r : Int32} {B : Mm} {x1 : Int32} (hB : isX0 γ o) (h : s_X3_bestRank B x1 = some (r, Bf)) : Ct l yX3_bestRank cX3_bestRank 11 (some .int) 89 3329 γ [.ref (eA γ o), .int x1] (st 6 σ o B) (some (.int r)) (st 6 σ o Bf) := Ct.of (own := RX3) (by decide +kernel) rfl (Nat.le_of_ble_eq_true rfl) (fun C hw ls hl => b_X3_bestRank C hB h hw hl)
set_option maxHeartbeats 4000000 in
set_option maxRecDepth 10000 in
theorem b_X5_in {γ : Ev} {μ : Mm} {r : Int32} {x0 x1 x2 : Int32} (C : Cx p R s m args meth c RX5 cX5_in 3 (some .boolean) 1 30 γ) (h : s_X5_in x0 x1 x2 = some r) (hw : Wo γ μ s H locs) (hl : lv_has ls 3 [(0, .int x0), (1, .int x1), (2, .int x2)]) : W p l e R s m args below meth c H locs 0 0 (MQ below (Qo γ (some (.int r)) μ) args s 0 0 (AK γ)) (F0 m 0 ls []) := by
  have C0 := C
  obtain ⟨hx, hb, hr, hml, hown, hts, hlk, hK, hd, hF, hL⟩ := C
  unfold s_X5_in at h
  refine lv_iload_n hx hb dX5_in_0 rfl (lv_at hl 0 rfl) ?_
  refine lv_iload_n hx hb dX5_in_1 rfl (lv_at hl 1 rfl) ?_
  refine lv_icmp_lt (tgt := 14) hx hb dX5_in_2 (by decide) (fun c1 => ?_) (fun c1 => ?_)
  · replace h := ifp c1 h
    refine lv_iconst (v := (0 : Int32)) hx hb dX5_in_14 (by decide) ?_
    have h1 := Option.some.inj h
    subst h1
    exact r_zret hx hb hr hlk hK hd hw rfl dX5_in_15
  · replace h := ifn c1 h
    refine lv_iload_n hx hb dX5_in_5 rfl (lv_at hl 0 rfl) ?_
    refine lv_iload_n hx hb dX5_in_6 rfl (lv_at hl 2 rfl) ?_
    refine lv_icmp_gt (tgt := 14) hx hb dX5_in_7 (by decide) (fun c2 => ?_) (fun c2 => ?_)
    · replace h := ifp c2 h
      refine lv_iconst (v := (0 : Int32)) hx hb dX5_in_14 (by decide) ?_
      have h1 := Option.some.inj h
      subst h1
      exact r_zret hx hb hr hlk hK hd hw rfl dX5_in_15
    · replace h := ifn c2 h
      refine lv_iconst (v := (1 : Int32)) hx hb dX5_in_10 (by decide) ?_
      refine lv_goto (tgt := 15) hx hb dX5_in_11 (by decide) ?_
      have h1 := Option.some.inj h
      subst h1
      exact r_zret hx hb hr hlk hK hd hw rfl dX5_in_15
theorem c_X5_in {l : Launch} {γ : Ev} {μ : Mm} {r : Int32} {x0 x1 x2 : Int32} (h : s_X5_in x0 x1 x2 = some r) : Ct l yX5_in cX5_in 3 (some .boolean) 1 30 γ [.int x0, .int x1, .int x2] μ (some (.int r)) μ := Ct.of (own := RX5) (by decide +kernel) rfl (Nat.le_of_ble_eq_true rfl) (fun C hw ls hl => b_X5_in C h hw hl)
set_option maxHeartbeats 4000000 in
set_option maxRecDepth 10000 in
theorem b_X5_isPlace {γ : Ev} {μ : Mm} {r : Int32} {x0 : Int32} (C : Cx p R s m args meth c RX5 cX5_isPlace 1 (some .boolean) 2 52 γ) (h : s_X5_isPlace x0 = some r) (hw : Wo γ μ s H locs) (hl : lv_has ls 1 [(0, .int x0)]) : W p l e R s m args below meth c H locs 0 0 (MQ below (Qo γ (some (.int r)) μ) args s 0 0 (AK γ)) (F0 m 0 ls []) := by
  have C0 := C
  obtain ⟨hx, hb, hr, hml, hown, hts, hlk, hK, hd, hF, hL⟩ := C
  unfold s_X5_isPlace at h
  refine lv_iload_n hx hb dX5_isPlace_0 rfl (lv_at hl 0 rfl) ?_
  refine lv_bipush (v := (-6 : Int32)) hx hb dX5_isPlace_1 (by decide) ?_
  refine lv_bipush (v := (6 : Int32)) hx hb dX5_isPlace_3 (by decide) ?_
  obtain ⟨v1, hv1, h⟩ := ob h
  refine r_Si (rest := []) C0 z0 (c_X5_in hv1) lk_X5_49 hl.1 rfl (Nat.le_of_ble_eq_true rfl) (by decide) hw dX5_isPlace_5 (fun {H} {locs} hw => ?_)
  refine lv_if_eq (tgt := 19) hx hb dX5_isPlace_8 (by decide) (fun c2 => ?_) (fun c2 => ?_)
  · replace h := ifp c2 h
    refine lv_iconst (v := (0 : Int32)) hx hb dX5_isPlace_19 (by decide) ?_
    have h1 := Option.some.inj h
    subst h1
    exact r_zret hx hb hr hlk hK hd hw rfl dX5_isPlace_20
  · replace h := ifn c2 h
    refine lv_iload_n hx hb dX5_isPlace_11 rfl (lv_at hl 0 rfl) ?_
    refine lv_if_eq (tgt := 19) hx hb dX5_isPlace_12 (by decide) (fun c3 => ?_) (fun c3 => ?_)
    · replace h := ifp c3 h
      refine lv_iconst (v := (0 : Int32)) hx hb dX5_isPlace_19 (by decide) ?_
      have h1 := Option.some.inj h
      subst h1
      exact r_zret hx hb hr hlk hK hd hw rfl dX5_isPlace_20
    · replace h := ifn c3 h
      refine lv_iconst (v := (1 : Int32)) hx hb dX5_isPlace_15 (by decide) ?_
      refine lv_goto (tgt := 20) hx hb dX5_isPlace_16 (by decide) ?_
      have h1 := Option.some.inj h
      subst h1
      exact r_zret hx hb hr hlk hK hd hw rfl dX5_isPlace_20
theorem c_X5_isPlace {l : Launch} {γ : Ev} {μ : Mm} {r : Int32} {x0 : Int32} (h : s_X5_isPlace x0 = some r) : Ct l yX5_isPlace cX5_isPlace 1 (some .boolean) 2 52 γ [.int x0] μ (some (.int r)) μ := Ct.of (own := RX5) (by decide +kernel) rfl (Nat.le_of_ble_eq_true rfl) (fun C hw ls hl => b_X5_isPlace C h hw hl)
set_option maxHeartbeats 4000000 in
set_option maxRecDepth 10000 in
theorem b_X5_isWeight {γ : Ev} {μ : Mm} {r : Int32} {x0 : Int32} (C : Cx p R s m args meth c RX5 cX5_isWeight 1 (some .boolean) 2 52 γ) (h : s_X5_isWeight x0 = some r) (hw : Wo γ μ s H locs) (hl : lv_has ls 1 [(0, .int x0)]) : W p l e R s m args below meth c H locs 0 0 (MQ below (Qo γ (some (.int r)) μ) args s 0 0 (AK γ)) (F0 m 0 ls []) := by
  have C0 := C
  obtain ⟨hx, hb, hr, hml, hown, hts, hlk, hK, hd, hF, hL⟩ := C
  unfold s_X5_isWeight at h
  refine lv_iload_n hx hb dX5_isWeight_0 rfl (lv_at hl 0 rfl) ?_
  refine lv_iconst (v := (1 : Int32)) hx hb dX5_isWeight_1 (by decide) ?_
  refine lv_iconst (v := (5 : Int32)) hx hb dX5_isWeight_2 (by decide) ?_
  obtain ⟨v1, hv1, h⟩ := ob h
  refine r_Si (rest := []) C0 z0 (c_X5_in hv1) lk_X5_49 hl.1 rfl (Nat.le_of_ble_eq_true rfl) (by decide) hw dX5_isWeight_3 (fun {H} {locs} hw => ?_)
  obtain ⟨v2, hv2, h⟩ := ob h
  have ev2 := (bo_some hv2).2
  have nv2 := bo_narrow hv2
  rw [← ev2] at nv2 h
  have h1 := Option.some.inj h
  subst h1
  exact r_zret hx hb hr hlk hK hd hw nv2 dX5_isWeight_6
theorem c_X5_isWeight {l : Launch} {γ : Ev} {μ : Mm} {r : Int32} {x0 : Int32} (h : s_X5_isWeight x0 = some r) : Ct l yX5_isWeight cX5_isWeight 1 (some .boolean) 2 52 γ [.int x0] μ (some (.int r)) μ := Ct.of (own := RX5) (by decide +kernel) rfl (Nat.le_of_ble_eq_true rfl) (fun C hw ls hl => b_X5_isWeight C h hw hl)
set_option maxHeartbeats 4000000 in
set_option maxRecDepth 10000 in
theorem b_X5_isSide {γ : Ev} {μ : Mm} {r : Int32} {x0 : Int32} (C : Cx p R s m args meth c RX5 cX5_isSide 1 (some .boolean) 2 52 γ) (h : s_X5_isSide x0 = some r) (hw : Wo γ μ s H locs) (hl : lv_has ls 1 [(0, .int x0)]) : W p l e R s m args below meth c H locs 0 0 (MQ below (Qo γ (some (.int r)) μ) args s 0 0 (AK γ)) (F0 m 0 ls []) := by
  have C0 := C
  obtain ⟨hx, hb, hr, hml, hown, hts, hlk, hK, hd, hF, hL⟩ := C
  unfold s_X5_isSide at h
  refine lv_iload_n hx hb dX5_isSide_0 rfl (lv_at hl 0 rfl) ?_
  refine lv_iconst (v := (0 : Int32)) hx hb dX5_isSide_1 (by decide) ?_
  refine lv_iconst (v := (1 : Int32)) hx hb dX5_isSide_2 (by decide) ?_
  obtain ⟨v1, hv1, h⟩ := ob h
  refine r_Si (rest := []) C0 z0 (c_X5_in hv1) lk_X5_49 hl.1 rfl (Nat.le_of_ble_eq_true rfl) (by decide) hw dX5_isSide_3 (fun {H} {locs} hw => ?_)
  obtain ⟨v2, hv2, h⟩ := ob h
  have ev2 := (bo_some hv2).2
  have nv2 := bo_narrow hv2
  rw [← ev2] at nv2 h
  have h1 := Option.some.inj h
  subst h1
  exact r_zret hx hb hr hlk hK hd hw nv2 dX5_isSide_6
theorem c_X5_isSide {l : Launch} {γ : Ev} {μ : Mm} {r : Int32} {x0 : Int32} (h : s_X5_isSide x0 = some r) : Ct l yX5_isSide cX5_isSide 1 (some .boolean) 2 52 γ [.int x0] μ (some (.int r)) μ := Ct.of (own := RX5) (by decide +kernel) rfl (Nat.le_of_ble_eq_true rfl) (fun C hw ls hl => b_X5_isSide C h hw hl)
set_option maxHeartbeats 4000000 in
set_option maxRecDepth 10000 in
theorem b_X5_bagAt {γ : Ev} {o : Nat} {σ : Mm} {r : Int32} {Z : Mm} {x1 x2 : Int32} (C : Cx p R s m args meth c RX5 cX5_bagAt 3 (some .int) 1 30 γ) (hB : isX5 γ o) (h : s_X5_bagAt Z x1 x2 = some r) (hw : Wo γ (st 10 σ o Z) s H locs) (hl : lv_has ls 3 [(0, .ref (eA γ o)), (1, .int x1), (2, .int x2)]) : W p l e R s m args below meth c H locs 0 0 (MQ below (Qo γ (some (.int r)) (st 10 σ o Z)) args s 0 0 (AK γ)) (F0 m 0 ls []) := by
  have C0 := C
  obtain ⟨hx, hb, hr, hml, hown, hts, hlk, hK, hd, hF, hL⟩ := C
  unfold s_X5_bagAt at h
  refine lv_bipush (v := (13 : Int32)) hx hb dX5_bagAt_0 (by decide) ?_
  refine lv_iconst (v := (5 : Int32)) hx hb dX5_bagAt_2 (by decide) ?_
  refine lv_iload_n hx hb dX5_bagAt_3 rfl (lv_at hl 1 rfl) ?_
  refine lv_imul hx hb dX5_bagAt_4 ?_
  refine lv_iadd hx hb dX5_bagAt_5 ?_
  refine lv_iload_n hx hb dX5_bagAt_6 rfl (lv_at hl 2 rfl) ?_
  refine lv_iadd hx hb dX5_bagAt_7 ?_
  refine lv_iconst (v := (1 : Int32)) hx hb dX5_bagAt_8 (by decide) ?_
  refine lv_isub hx hb dX5_bagAt_9 ?_
  have h1 := Option.some.inj h
  subst h1
  exact r_iret hx hb hr hlk hK hd hw dX5_bagAt_10
theorem c_X5_bagAt {l : Launch} {γ : Ev} {o : Nat} {σ : Mm} {r : Int32} {Z : Mm} {x1 x2 : Int32} (hB : isX5 γ o) (h : s_X5_bagAt Z x1 x2 = some r) : Ct l yX5_bagAt cX5_bagAt 3 (some .int) 1 30 γ [.ref (eA γ o), .int x1, .int x2] (st 10 σ o Z) (some (.int r)) (st 10 σ o Z) := Ct.of (own := RX5) (by decide +kernel) rfl (Nat.le_of_ble_eq_true rfl) (fun C hw ls hl => b_X5_bagAt C hB h hw hl)
set_option maxHeartbeats 4000000 in
set_option maxRecDepth 10000 in
theorem b_X5_inBag {γ : Ev} {o : Nat} {σ : Mm} {r : Int32} {Z : Mm} {x1 x2 : Int32} (C : Cx p R s m args meth c RX5 cX5_inBag 3 (some .int) 2 52 γ) (hB : isX5 γ o) (h : s_X5_inBag Z x1 x2 = some r) (hw : Wo γ (st 10 σ o Z) s H locs) (hl : lv_has ls 3 [(0, .ref (eA γ o)), (1, .int x1), (2, .int x2)]) : W p l e R s m args below meth c H locs 0 0 (MQ below (Qo γ (some (.int r)) (st 10 σ o Z)) args s 0 0 (AK γ)) (F0 m 0 ls []) := by
  have C0 := C
  obtain ⟨hx, hb, hr, hml, hown, hts, hlk, hK, hd, hF, hL⟩ := C
  unfold s_X5_inBag at h
  refine lv_aload_n hx hb dX5_inBag_0 rfl (lv_at hl 0 rfl) ?_
  refine r_get (v := .ref (eA γ (o + 1))) hx hb hts hK hw hown inX5 rfl (X5_k0 hB) (st_at0 (by decide)) 0 (by decide) wd_573 rfl dX5_inBag_1 ?_
  refine lv_aload_n hx hb dX5_inBag_4 rfl (lv_at hl 0 rfl) ?_
  refine lv_iload_n hx hb dX5_inBag_5 rfl (lv_at hl 1 rfl) ?_
  refine lv_iload_n hx hb dX5_inBag_6 rfl (lv_at hl 2 rfl) ?_
  obtain ⟨v1, hv1, h⟩ := ob h
  refine r_Vi (rest := [.ref (eA γ (o + 1))]) C0 z0 (c_X5_bagAt hB hv1) lk_X5_53 (X5_k0 hB) rfl rfl hl.1 rfl (Nat.le_of_ble_eq_true rfl) (by decide) hw dX5_inBag_7 (fun {H} {locs} hw => ?_)
  obtain ⟨v2, hv2, h⟩ := ob h
  refine r_iald hx hb hK hw (X5_k1 hB) (st_at (by decide)) hv2 dX5_inBag_10 ?_
  have h1 := Option.some.inj h
  subst h1
  exact r_iret hx hb hr hlk hK hd hw dX5_inBag_11
theorem c_X5_inBag {l : Launch} {γ : Ev} {o : Nat} {σ : Mm} {r : Int32} {Z : Mm} {x1 x2 : Int32} (hB : isX5 γ o) (h : s_X5_inBag Z x1 x2 = some r) : Ct l yX5_inBag cX5_inBag 3 (some .int) 2 52 γ [.ref (eA γ o), .int x1, .int x2] (st 10 σ o Z) (some (.int r)) (st 10 σ o Z) := Ct.of (own := RX5) (by decide +kernel) rfl (Nat.le_of_ble_eq_true rfl) (fun C hw ls hl => b_X5_inBag C hB h hw hl)
set_option maxHeartbeats 4000000 in
set_option maxRecDepth 10000 in
theorem b_X5_addBag {γ : Ev} {o : Nat} {σ : Mm} {Bf : Mm} {Z : Mm} {x1 x2 x3 : Int32} (C : Cx p R s m args meth c RX5 cX5_addBag 4 none 2 52 γ) (hB : isX5 γ o) (h : s_X5_addBag Z x1 x2 x3 = some Bf) (hw : Wo γ (st 10 σ o Z) s H locs) (hl : lv_has ls 4 [(0, .ref (eA γ o)), (1, .int x1), (2, .int x2), (3, .int x3)]) : W p l e R s m args below meth c H locs 0 0 (MQ below (Qo γ none (st 10 σ o Bf)) args s 0 0 (AK γ)) (F0 m 0 ls []) := by
  have C0 := C
  obtain ⟨hx, hb, hr, hml, hown, hts, hlk, hK, hd, hF, hL⟩ := C
  unfold s_X5_addBag at h
  refine lv_aload_n hx hb dX5_addBag_0 rfl (lv_at hl 0 rfl) ?_
  refine r_get (v := .ref (eA γ (o + 1))) hx hb hts hK hw hown inX5 rfl (X5_k0 hB) (st_at0 (by decide)) 0 (by decide) wd_573 rfl dX5_addBag_1 ?_
  refine lv_aload_n hx hb dX5_addBag_4 rfl (lv_at hl 0 rfl) ?_
  refine lv_iload_n hx hb dX5_addBag_5 rfl (lv_at hl 1 rfl) ?_
  refine lv_iload_n hx hb dX5_addBag_6 rfl (lv_at hl 2 rfl) ?_
  obtain ⟨v1, hv1, h⟩ := ob h
  refine r_Vi (rest := [.ref (eA γ (o + 1))]) C0 z0 (c_X5_bagAt hB hv1) lk_X5_53 (X5_k0 hB) rfl rfl hl.1 rfl (Nat.le_of_ble_eq_true rfl) (by decide) hw dX5_addBag_7 (fun {H} {locs} hw => ?_)
  refine lv_dup2_11 hx hb dX5_addBag_10 rfl rfl ?_
  obtain ⟨v2, hv2, h⟩ := ob h
  refine r_iald hx hb hK hw (X5_k1 hB) (st_at (by decide)) hv2 dX5_addBag_11 ?_
  refine lv_iload_n hx hb dX5_addBag_12 rfl (lv_at hl 3 rfl) ?_
  refine lv_iadd hx hb dX5_addBag_13 ?_
  obtain ⟨N3, hN3, h⟩ := ob h
  refine r_iast hx hb hK hd hw (by decide) (X5_k1 hB) hN3 dX5_addBag_14 (fun {H} {locs} hw => ?_)
  have h1 := Option.some.inj h
  subst h1
  exact r_vret hx hb hr hlk hK hd hw dX5_addBag_15
theorem c_X5_addBag {l : Launch} {γ : Ev} {o : Nat} {σ : Mm} {Bf : Mm} {Z : Mm} {x1 x2 x3 : Int32} (hB : isX5 γ o) (h : s_X5_addBag Z x1 x2 x3 = some Bf) : Ct l yX5_addBag cX5_addBag 4 none 2 52 γ [.ref (eA γ o), .int x1, .int x2, .int x3] (st 10 σ o Z) none (st 10 σ o Bf) := Ct.of (own := RX5) (by decide +kernel) rfl (Nat.le_of_ble_eq_true rfl) (fun C hw ls hl => b_X5_addBag C hB h hw hl)
set_option maxHeartbeats 4000000 in
set_option maxRecDepth 10000 in
theorem b_X5_allIn_L4 {γ : Ev} {o : Nat} {σ : Mm} {r : Int32} (C : Cx p R s m args meth c RX5 cX5_allIn 4 (some .int) 3 74 γ) (hB : isX5 γ o) : ∀ (n : Nat) {Z : Mm} {x1 : Int32} {x2 : Int32} {x3 : Int32} {H : Heap} {locs : List Loc} {ls : Array Slot}, s_X5_allIn_L4 n Z x1 x2 x3 = some r → Wo γ (st 10 σ o Z) s H locs → lv_has ls 4 [(0, .ref (eA γ o)), (1, .int x1), (2, .int x2), (3, .int x3)] → W p l e R s m args below meth c H locs 0 0 (MQ below (Qo γ (some (.int r)) (st 10 σ o Z)) args s 0 0 (AK γ)) (F0 m 4 ls []) := by
  have C0 := C
  obtain ⟨hx, hb, hr, hml, hown, hts, hlk, hK, hd, hF, hL⟩ := C
  intro n
  induction n with
  | zero => intro Z x1 x2 x3 H locs ls h; cases h
  | succ n ih =>
    intro Z x1 x2 x3 H locs ls h hw hl
    unfold s_X5_allIn_L4 at h
    refine lv_iload_n hx hb dX5_allIn_4 rfl (lv_at hl 3 rfl) ?_
    refine lv_iconst (v := (5 : Int32)) hx hb dX5_allIn_5 (by decide) ?_
    refine lv_icmp_gt (tgt := 24) hx hb dX5_allIn_6 (by decide) (fun c1 => ?_) (fun c1 => ?_)
    · replace h := ifp c1 h
      refine lv_iload_n hx hb dX5_allIn_24 rfl (lv_at hl 2 rfl) ?_
      have h1 := Option.some.inj h
      subst h1
      exact r_iret hx hb hr hlk hK hd hw dX5_allIn_25
    · replace h := ifn c1 h
      refine lv_iload_n hx hb dX5_allIn_9 rfl (lv_at hl 2 rfl) ?_
      refine lv_aload_n hx hb dX5_allIn_10 rfl (lv_at hl 0 rfl) ?_
      refine lv_iload_n hx hb dX5_allIn_11 rfl (lv_at hl 1 rfl) ?_
      refine lv_iload_n hx hb dX5_allIn_12 rfl (lv_at hl 3 rfl) ?_
      obtain ⟨v2, hv2, h⟩ := ob h
      refine r_Vi (rest := [.int x2]) C0 z0 (c_X5_inBag hB hv2) lk_X5_57 (X5_k0 hB) rfl rfl hl.1 rfl (Nat.le_of_ble_eq_true rfl) (by decide) hw dX5_allIn_13 (fun {H} {locs} hw => ?_)
      refine lv_iadd hx hb dX5_allIn_16 ?_
      obtain ⟨v3, ev3, h⟩ := jb h
      refine r_top ev3 ?_
      refine lv_istore_n (lv' := [(2, .int v3), (0, .ref (eA γ o)), (1, .int x1), (3, .int x3)]) hx hb dX5_allIn_17 rfl hl (by decide) rfl (fun ls hl => ?_)
      obtain ⟨v4, ev4, h⟩ := jb h
      refine lv_iinc (v := v4) (lv' := [(3, .int v4), (2, .int v3), (0, .ref (eA γ o)), (1, .int x1)]) hx hb dX5_allIn_18 hl (k := 3) rfl (by rw [← ev4]; rfl) (by decide) rfl (fun ls hl => ?_)
      refine lv_goto (tgt := 4) hx hb dX5_allIn_21 (by decide) ?_
      exact ih h hw (lv_sub hl [2, 3, 1, 0] rfl)
set_option maxHeartbeats 4000000 in
set_option maxRecDepth 10000 in
theorem b_X5_allIn {γ : Ev} {o : Nat} {σ : Mm} {r : Int32} {Z : Mm} {x1 : Int32} (C : Cx p R s m args meth c RX5 cX5_allIn 4 (some .int) 3 74 γ) (hB : isX5 γ o) (h : s_X5_allIn Z x1 = some r) (hw : Wo γ (st 10 σ o Z) s H locs) (hl : lv_has ls 4 [(0, .ref (eA γ o)), (1, .int x1)]) : W p l e R s m args below meth c H locs 0 0 (MQ below (Qo γ (some (.int r)) (st 10 σ o Z)) args s 0 0 (AK γ)) (F0 m 0 ls []) := by
  have C0 := C
  obtain ⟨hx, hb, hr, hml, hown, hts, hlk, hK, hd, hF, hL⟩ := C
  unfold s_X5_allIn at h
  refine lv_iconst (v := (0 : Int32)) hx hb dX5_allIn_0 (by decide) ?_
  refine lv_istore_n (lv' := [(2, .int (0 : Int32)), (0, .ref (eA γ o)), (1, .int x1)]) hx hb dX5_allIn_1 rfl hl (by decide) rfl (fun ls hl => ?_)
  refine lv_iconst (v := (1 : Int32)) hx hb dX5_allIn_2 (by decide) ?_
  refine lv_istore_n (lv' := [(3, .int (1 : Int32)), (2, .int (0 : Int32)), (0, .ref (eA γ o)), (1, .int x1)]) hx hb dX5_allIn_3 rfl hl (by decide) rfl (fun ls hl => ?_)
  exact b_X5_allIn_L4 C0 hB 1000 h hw (lv_sub hl [2, 3, 1, 0] rfl)
theorem c_X5_allIn {l : Launch} {γ : Ev} {o : Nat} {σ : Mm} {r : Int32} {Z : Mm} {x1 : Int32} (hB : isX5 γ o) (h : s_X5_allIn Z x1 = some r) : Ct l yX5_allIn cX5_allIn 4 (some .int) 3 74 γ [.ref (eA γ o), .int x1] (st 10 σ o Z) (some (.int r)) (st 10 σ o Z) := Ct.of (own := RX5) (by decide +kernel) rfl (Nat.le_of_ble_eq_true rfl) (fun C hw ls hl => b_X5_allIn C hB h hw hl)
set_option maxHeartbeats 4000000 in
set_option maxRecDepth 10000 in
theorem b_X5_spotOf {γ : Ev} {μ : Mm} {r : Int32} {x0 : Int32} (C : Cx p R s m args meth c RX5 cX5_spotOf 1 (some .int) 1 30 γ) (h : s_X5_spotOf x0 = some r) (hw : Wo γ μ s H locs) (hl : lv_has ls 1 [(0, .int x0)]) : W p l e R s m args below meth c H locs 0 0 (MQ below (Qo γ (some (.int r)) μ) args s 0 0 (AK γ)) (F0 m 0 ls []) := by
  have C0 := C
  obtain ⟨hx, hb, hr, hml, hown, hts, hlk, hK, hd, hF, hL⟩ := C
  unfold s_X5_spotOf at h
  refine lv_bipush (v := (23 : Int32)) hx hb dX5_spotOf_0 (by decide) ?_
  refine lv_iconst (v := (5 : Int32)) hx hb dX5_spotOf_2 (by decide) ?_
  refine lv_iload_n hx hb dX5_spotOf_3 rfl (lv_at hl 0 rfl) ?_
  refine lv_if_ge (tgt := 14) hx hb dX5_spotOf_4 (by decide) (fun c1 => ?_) (fun c1 => ?_)
  · replace h := ifp c1 h
    refine lv_iload_n hx hb dX5_spotOf_14 rfl (lv_at hl 0 rfl) ?_
    refine lv_bipush (v := (6 : Int32)) hx hb dX5_spotOf_15 (by decide) ?_
    refine lv_iadd hx hb dX5_spotOf_17 ?_
    refine lv_iconst (v := (1 : Int32)) hx hb dX5_spotOf_18 (by decide) ?_
    refine lv_isub hx hb dX5_spotOf_19 ?_
    refine lv_imul hx hb dX5_spotOf_20 ?_
    refine lv_iadd hx hb dX5_spotOf_21 ?_
    have h1 := Option.some.inj h
    subst h1
    exact r_iret hx hb hr hlk hK hd hw dX5_spotOf_22
  · replace h := ifn c1 h
    refine lv_iload_n hx hb dX5_spotOf_7 rfl (lv_at hl 0 rfl) ?_
    refine lv_bipush (v := (6 : Int32)) hx hb dX5_spotOf_8 (by decide) ?_
    refine lv_iadd hx hb dX5_spotOf_10 ?_
    refine lv_goto (tgt := 20) hx hb dX5_spotOf_11 (by decide) ?_
    refine lv_imul hx hb dX5_spotOf_20 ?_
    refine lv_iadd hx hb dX5_spotOf_21 ?_
    have h1 := Option.some.inj h
    subst h1
    exact r_iret hx hb hr hlk hK hd hw dX5_spotOf_22
theorem c_X5_spotOf {l : Launch} {γ : Ev} {μ : Mm} {r : Int32} {x0 : Int32} (h : s_X5_spotOf x0 = some r) : Ct l yX5_spotOf cX5_spotOf 1 (some .int) 1 30 γ [.int x0] μ (some (.int r)) μ := Ct.of (own := RX5) (by decide +kernel) rfl (Nat.le_of_ble_eq_true rfl) (fun C hw ls hl => b_X5_spotOf C h hw hl)
set_option maxHeartbeats 4000000 in
set_option maxRecDepth 10000 in
theorem b_X5_many {γ : Ev} {o : Nat} {σ : Mm} {r : Int32} {Z : Mm} {x1 : Int32} (C : Cx p R s m args meth c RX5 cX5_many 2 (some .int) 2 50 γ) (hB : isX5 γ o) (h : s_X5_many Z x1 = some r) (hw : Wo γ (st 10 σ o Z) s H locs) (hl : lv_has ls 2 [(0, .ref (eA γ o)), (1, .int x1)]) : W p l e R s m args below meth c H locs 0 0 (MQ below (Qo γ (some (.int r)) (st 10 σ o Z)) args s 0 0 (AK γ)) (F0 m 0 ls []) := by
  have C0 := C
  obtain ⟨hx, hb, hr, hml, hown, hts, hlk, hK, hd, hF, hL⟩ := C
  unfold s_X5_many at h
  refine lv_aload_n hx hb dX5_many_0 rfl (lv_at hl 0 rfl) ?_
  refine r_get (v := .ref (eA γ (o + 1))) hx hb hts hK hw hown inX5 rfl (X5_k0 hB) (st_at0 (by decide)) 0 (by decide) wd_573 rfl dX5_many_1 ?_
  refine lv_iload_n hx hb dX5_many_4 rfl (lv_at hl 1 rfl) ?_
  obtain ⟨v1, hv1, h⟩ := ob h
  refine r_Si (rest := [.ref (eA γ (o + 1))]) C0 z0 (c_X5_spotOf hv1) lk_X5_60 hl.1 rfl (Nat.le_of_ble_eq_true rfl) (by decide) hw dX5_many_5 (fun {H} {locs} hw => ?_)
  obtain ⟨v2, hv2, h⟩ := ob h
  refine r_iald hx hb hK hw (X5_k1 hB) (st_at (by decide)) hv2 dX5_many_8 ?_
  have h1 := Option.some.inj h
  subst h1
  exact r_iret hx hb hr hlk hK hd hw dX5_many_9
theorem c_X5_many {l : Launch} {γ : Ev} {o : Nat} {σ : Mm} {r : Int32} {Z : Mm} {x1 : Int32} (hB : isX5 γ o) (h : s_X5_many Z x1 = some r) : Ct l yX5_many cX5_many 2 (some .int) 2 50 γ [.ref (eA γ o), .int x1] (st 10 σ o Z) (some (.int r)) (st 10 σ o Z) := Ct.of (own := RX5) (by decide +kernel) rfl (Nat.le_of_ble_eq_true rfl) (fun C hw ls hl => b_X5_many C hB h hw hl)
set_option maxHeartbeats 4000000 in
set_option maxRecDepth 10000 in
theorem b_X5_top {γ : Ev} {o : Nat} {σ : Mm} {r : Int32} {Z : Mm} {x1 : Int32} (C : Cx p R s m args meth c RX5 cX5_top 2 (some .int) 3 71 γ) (hB : isX5 γ o) (h : s_X5_top Z x1 = some r) (hw : Wo γ (st 10 σ o Z) s H locs) (hl : lv_has ls 2 [(0, .ref (eA γ o)), (1, .int x1)]) : W p l e R s m args below meth c H locs 0 0 (MQ below (Qo γ (some (.int r)) (st 10 σ o Z)) args s 0 0 (AK γ)) (F0 m 0 ls []) := by
  have C0 := C
  obtain ⟨hx, hb, hr, hml, hown, hts, hlk, hK, hd, hF, hL⟩ := C
  unfold s_X5_top at h
  refine lv_aload_n hx hb dX5_top_0 rfl (lv_at hl 0 rfl) ?_
  refine r_get (v := .ref (eA γ (o + 1))) hx hb hts hK hw hown inX5 rfl (X5_k0 hB) (st_at0 (by decide)) 0 (by decide) wd_573 rfl dX5_top_1 ?_
  refine lv_iload_n hx hb dX5_top_4 rfl (lv_at hl 1 rfl) ?_
  obtain ⟨v1, hv1, h⟩ := ob h
  refine r_Si (rest := [.ref (eA γ (o + 1))]) C0 z0 (c_X5_spotOf hv1) lk_X5_60 hl.1 rfl (Nat.le_of_ble_eq_true rfl) (by decide) hw dX5_top_5 (fun {H} {locs} hw => ?_)
  refine lv_aload_n hx hb dX5_top_8 rfl (lv_at hl 0 rfl) ?_
  refine lv_iload_n hx hb dX5_top_9 rfl (lv_at hl 1 rfl) ?_
  obtain ⟨v2, hv2, h⟩ := ob h
  refine r_Vi (rest := [.int v1, .ref (eA γ (o + 1))]) C0 z0 (c_X5_many hB hv2) lk_X5_64 (X5_k0 hB) rfl rfl hl.1 rfl (Nat.le_of_ble_eq_true rfl) (by decide) hw dX5_top_10 (fun {H} {locs} hw => ?_)
  refine lv_iadd hx hb dX5_top_13 ?_
  obtain ⟨v3, hv3, h⟩ := ob h
  refine r_iald hx hb hK hw (X5_k1 hB) (st_at (by decide)) hv3 dX5_top_14 ?_
  have h1 := Option.some.inj h
  subst h1
  exact r_iret hx hb hr hlk hK hd hw dX5_top_15
theorem c_X5_top {l : Launch} {γ : Ev} {o : Nat} {σ : Mm} {r : Int32} {Z : Mm} {x1 : Int32} (hB : isX5 γ o) (h : s_X5_top Z x1 = some r) : Ct l yX5_top cX5_top 2 (some .int) 3 71 γ [.ref (eA γ o), .int x1] (st 10 σ o Z) (some (.int r)) (st 10 σ o Z) := Ct.of (own := RX5) (by decide +kernel) rfl (Nat.le_of_ble_eq_true rfl) (fun C hw ls hl => b_X5_top C hB h hw hl)
set_option maxHeartbeats 4000000 in
set_option maxRecDepth 10000 in
theorem b_X5_put {γ : Ev} {o : Nat} {σ : Mm} {Bf : Mm} {Z : Mm} {x1 x2 : Int32} (C : Cx p R s m args meth c RX5 cX5_put 4 none 2 50 γ) (hB : isX5 γ o) (h : s_X5_put Z x1 x2 = some Bf) (hw : Wo γ (st 10 σ o Z) s H locs) (hl : lv_has ls 4 [(0, .ref (eA γ o)), (1, .int x1), (2, .int x2)]) : W p l e R s m args below meth c H locs 0 0 (MQ below (Qo γ none (st 10 σ o Bf)) args s 0 0 (AK γ)) (F0 m 0 ls []) := by
  have C0 := C
  obtain ⟨hx, hb, hr, hml, hown, hts, hlk, hK, hd, hF, hL⟩ := C
  unfold s_X5_put at h
  refine lv_iload_n hx hb dX5_put_0 rfl (lv_at hl 1 rfl) ?_
  obtain ⟨v1, hv1, h⟩ := ob h
  refine r_Si (rest := []) C0 z0 (c_X5_spotOf hv1) lk_X5_60 hl.1 rfl (Nat.le_of_ble_eq_true rfl) (by decide) hw dX5_put_1 (fun {H} {locs} hw => ?_)
  refine lv_istore_n (lv' := [(3, .int v1), (0, .ref (eA γ o)), (1, .int x1), (2, .int x2)]) hx hb dX5_put_4 rfl hl (by decide) rfl (fun ls hl => ?_)
  refine lv_aload_n hx hb dX5_put_5 rfl (lv_at hl 1 rfl) ?_
  refine r_get (v := .ref (eA γ (o + 1))) hx hb hts hK hw hown inX5 rfl (X5_k0 hB) (st_at0 (by decide)) 0 (by decide) wd_573 rfl dX5_put_6 ?_
  refine lv_iload_n hx hb dX5_put_9 rfl (lv_at hl 0 rfl) ?_
  refine lv_dup2_11 hx hb dX5_put_10 rfl rfl ?_
  obtain ⟨v2, hv2, h⟩ := ob h
  refine r_iald hx hb hK hw (X5_k1 hB) (st_at (by decide)) hv2 dX5_put_11 ?_
  refine lv_iconst (v := (1 : Int32)) hx hb dX5_put_12 (by decide) ?_
  refine lv_iadd hx hb dX5_put_13 ?_
  obtain ⟨N3, hN3, h⟩ := ob h
  refine r_iast hx hb hK hd hw (by decide) (X5_k1 hB) hN3 dX5_put_14 (fun {H} {locs} hw => ?_)
  refine lv_aload_n hx hb dX5_put_15 rfl (lv_at hl 1 rfl) ?_
  refine r_get (v := .ref (eA γ (o + 1))) hx hb hts hK hw hown inX5 rfl (X5_k0 hB) (st_at0 (by decide)) 0 (by decide) wd_573 rfl dX5_put_16 ?_
  refine lv_iload_n hx hb dX5_put_19 rfl (lv_at hl 0 rfl) ?_
  refine lv_aload_n hx hb dX5_put_20 rfl (lv_at hl 1 rfl) ?_
  refine r_get (v := .ref (eA γ (o + 1))) hx hb hts hK hw hown inX5 rfl (X5_k0 hB) (st_at0 (by decide)) 0 (by decide) wd_573 rfl dX5_put_21 ?_
  refine lv_iload_n hx hb dX5_put_24 rfl (lv_at hl 0 rfl) ?_
  obtain ⟨v4, hv4, h⟩ := ob h
  refine r_iald hx hb hK hw (X5_k1 hB) (st_at (by decide)) hv4 dX5_put_25 ?_
  refine lv_iadd hx hb dX5_put_26 ?_
  refine lv_iload_n hx hb dX5_put_27 rfl (lv_at hl 3 rfl) ?_
  obtain ⟨N5, hN5, h⟩ := ob h
  refine r_iast hx hb hK hd hw (by decide) (X5_k1 hB) hN5 dX5_put_28 (fun {H} {locs} hw => ?_)
  refine lv_aload_n hx hb dX5_put_29 rfl (lv_at hl 1 rfl) ?_
  refine r_get (v := .ref (eA γ (o + 1))) hx hb hts hK hw hown inX5 rfl (X5_k0 hB) (st_at0 (by decide)) 0 (by decide) wd_573 rfl dX5_put_30 ?_
  refine lv_iconst (v := (5 : Int32)) hx hb dX5_put_33 (by decide) ?_
  refine lv_dup2_11 hx hb dX5_put_34 rfl rfl ?_
  obtain ⟨v6, hv6, h⟩ := ob h
  refine r_iald hx hb hK hw (X5_k1 hB) (st_at (by decide)) hv6 dX5_put_35 ?_
  refine lv_iload_n hx hb dX5_put_36 rfl (lv_at hl 3 rfl) ?_
  refine lv_iload_n hx hb dX5_put_37 rfl (lv_at hl 2 rfl) ?_
  refine lv_imul hx hb dX5_put_38 ?_
  refine lv_iadd hx hb dX5_put_39 ?_
  obtain ⟨N7, hN7, h⟩ := ob h
  refine r_iast hx hb hK hd hw (by decide) (X5_k1 hB) hN7 dX5_put_40 (fun {H} {locs} hw => ?_)
  have h1 := Option.some.inj h
  subst h1
  exact r_vret hx hb hr hlk hK hd hw dX5_put_41
theorem c_X5_put {l : Launch} {γ : Ev} {o : Nat} {σ : Mm} {Bf : Mm} {Z : Mm} {x1 x2 : Int32} (hB : isX5 γ o) (h : s_X5_put Z x1 x2 = some Bf) : Ct l yX5_put cX5_put 4 none 2 50 γ [.ref (eA γ o), .int x1, .int x2] (st 10 σ o Z) none (st 10 σ o Bf) := Ct.of (own := RX5) (by decide +kernel) rfl (Nat.le_of_ble_eq_true rfl) (fun C hw ls hl => b_X5_put C hB h hw hl)
set_option maxHeartbeats 4000000 in
set_option maxRecDepth 10000 in
theorem b_X5_takeOff {γ : Ev} {o : Nat} {σ : Mm} {Bf : Mm} {r : Int32} {Z : Mm} {x1 : Int32} (C : Cx p R s m args meth c RX5 cX5_takeOff 4 (some .int) 2 50 γ) (hB : isX5 γ o) (h : s_X5_takeOff Z x1 = some (r, Bf)) (hw : Wo γ (st 10 σ o Z) s H locs) (hl : lv_has ls 4 [(0, .ref (eA γ o)), (1, .int x1)]) : W p l e R s m args below meth c H locs 0 0 (MQ below (Qo γ (some (.int r)) (st 10 σ o Bf)) args s 0 0 (AK γ)) (F0 m 0 ls []) := by
  have C0 := C
  obtain ⟨hx, hb, hr, hml, hown, hts, hlk, hK, hd, hF, hL⟩ := C
  unfold s_X5_takeOff at h
  refine lv_iload_n hx hb dX5_takeOff_0 rfl (lv_at hl 1 rfl) ?_
  obtain ⟨v1, hv1, h⟩ := ob h
  refine r_Si (rest := []) C0 z0 (c_X5_spotOf hv1) lk_X5_60 hl.1 rfl (Nat.le_of_ble_eq_true rfl) (by decide) hw dX5_takeOff_1 (fun {H} {locs} hw => ?_)
  refine lv_istore_n (lv' := [(2, .int v1), (0, .ref (eA γ o)), (1, .int x1)]) hx hb dX5_takeOff_4 rfl hl (by decide) rfl (fun ls hl => ?_)
  refine lv_aload_n hx hb dX5_takeOff_5 rfl (lv_at hl 1 rfl) ?_
  refine r_get (v := .ref (eA γ (o + 1))) hx hb hts hK hw hown inX5 rfl (X5_k0 hB) (st_at0 (by decide)) 0 (by decide) wd_573 rfl dX5_takeOff_6 ?_
  refine lv_iload_n hx hb dX5_takeOff_9 rfl (lv_at hl 0 rfl) ?_
  refine lv_aload_n hx hb dX5_takeOff_10 rfl (lv_at hl 1 rfl) ?_
  refine r_get (v := .ref (eA γ (o + 1))) hx hb hts hK hw hown inX5 rfl (X5_k0 hB) (st_at0 (by decide)) 0 (by decide) wd_573 rfl dX5_takeOff_11 ?_
  refine lv_iload_n hx hb dX5_takeOff_14 rfl (lv_at hl 0 rfl) ?_
  obtain ⟨v2, hv2, h⟩ := ob h
  refine r_iald hx hb hK hw (X5_k1 hB) (st_at (by decide)) hv2 dX5_takeOff_15 ?_
  refine lv_iadd hx hb dX5_takeOff_16 ?_
  obtain ⟨v3, hv3, h⟩ := ob h
  refine r_iald hx hb hK hw (X5_k1 hB) (st_at (by decide)) hv3 dX5_takeOff_17 ?_
  refine lv_istore_n (lv' := [(3, .int v3), (2, .int v1), (0, .ref (eA γ o)), (1, .int x1)]) hx hb dX5_takeOff_18 rfl hl (by decide) rfl (fun ls hl => ?_)
  refine lv_aload_n hx hb dX5_takeOff_19 rfl (lv_at hl 2 rfl) ?_
  refine r_get (v := .ref (eA γ (o + 1))) hx hb hts hK hw hown inX5 rfl (X5_k0 hB) (st_at0 (by decide)) 0 (by decide) wd_573 rfl dX5_takeOff_20 ?_
  refine lv_iload_n hx hb dX5_takeOff_23 rfl (lv_at hl 1 rfl) ?_
  refine lv_aload_n hx hb dX5_takeOff_24 rfl (lv_at hl 2 rfl) ?_
  refine r_get (v := .ref (eA γ (o + 1))) hx hb hts hK hw hown inX5 rfl (X5_k0 hB) (st_at0 (by decide)) 0 (by decide) wd_573 rfl dX5_takeOff_25 ?_
  refine lv_iload_n hx hb dX5_takeOff_28 rfl (lv_at hl 1 rfl) ?_
  obtain ⟨v4, hv4, h⟩ := ob h
  refine r_iald hx hb hK hw (X5_k1 hB) (st_at (by decide)) hv4 dX5_takeOff_29 ?_
  refine lv_iadd hx hb dX5_takeOff_30 ?_
  refine lv_iconst (v := (0 : Int32)) hx hb dX5_takeOff_31 (by decide) ?_
  obtain ⟨N5, hN5, h⟩ := ob h
  refine r_iast hx hb hK hd hw (by decide) (X5_k1 hB) hN5 dX5_takeOff_32 (fun {H} {locs} hw => ?_)
  refine lv_aload_n hx hb dX5_takeOff_33 rfl (lv_at hl 2 rfl) ?_
  refine r_get (v := .ref (eA γ (o + 1))) hx hb hts hK hw hown inX5 rfl (X5_k0 hB) (st_at0 (by decide)) 0 (by decide) wd_573 rfl dX5_takeOff_34 ?_
  refine lv_iload_n hx hb dX5_takeOff_37 rfl (lv_at hl 1 rfl) ?_
  refine lv_dup2_11 hx hb dX5_takeOff_38 rfl rfl ?_
  obtain ⟨v6, hv6, h⟩ := ob h
  refine r_iald hx hb hK hw (X5_k1 hB) (st_at (by decide)) hv6 dX5_takeOff_39 ?_
  refine lv_iconst (v := (1 : Int32)) hx hb dX5_takeOff_40 (by decide) ?_
  refine lv_isub hx hb dX5_takeOff_41 ?_
  obtain ⟨N7, hN7, h⟩ := ob h
  refine r_iast hx hb hK hd hw (by decide) (X5_k1 hB) hN7 dX5_takeOff_42 (fun {H} {locs} hw => ?_)
  refine lv_aload_n hx hb dX5_takeOff_43 rfl (lv_at hl 2 rfl) ?_
  refine r_get (v := .ref (eA γ (o + 1))) hx hb hts hK hw hown inX5 rfl (X5_k0 hB) (st_at0 (by decide)) 0 (by decide) wd_573 rfl dX5_takeOff_44 ?_
  refine lv_iconst (v := (5 : Int32)) hx hb dX5_takeOff_47 (by decide) ?_
  refine lv_dup2_11 hx hb dX5_takeOff_48 rfl rfl ?_
  obtain ⟨v8, hv8, h⟩ := ob h
  refine r_iald hx hb hK hw (X5_k1 hB) (st_at (by decide)) hv8 dX5_takeOff_49 ?_
  refine lv_iload_n hx hb dX5_takeOff_50 rfl (lv_at hl 0 rfl) ?_
  refine lv_iload_n hx hb dX5_takeOff_51 rfl (lv_at hl 3 rfl) ?_
  refine lv_imul hx hb dX5_takeOff_52 ?_
  refine lv_isub hx hb dX5_takeOff_53 ?_
  obtain ⟨N9, hN9, h⟩ := ob h
  refine r_iast hx hb hK hd hw (by decide) (X5_k1 hB) hN9 dX5_takeOff_54 (fun {H} {locs} hw => ?_)
  refine lv_iload_n hx hb dX5_takeOff_55 rfl (lv_at hl 0 rfl) ?_
  obtain ⟨h1, h2⟩ := s2 h
  subst h1
  subst h2
  exact r_iret hx hb hr hlk hK hd hw dX5_takeOff_56
theorem c_X5_takeOff {l : Launch} {γ : Ev} {o : Nat} {σ : Mm} {Bf : Mm} {r : Int32} {Z : Mm} {x1 : Int32} (hB : isX5 γ o) (h : s_X5_takeOff Z x1 = some (r, Bf)) : Ct l yX5_takeOff cX5_takeOff 4 (some .int) 2 50 γ [.ref (eA γ o), .int x1] (st 10 σ o Z) (some (.int r)) (st 10 σ o Bf) := Ct.of (own := RX5) (by decide +kernel) rfl (Nat.le_of_ble_eq_true rfl) (fun C hw ls hl => b_X5_takeOff C hB h hw hl)
set_option maxHeartbeats 4000000 in
set_option maxRecDepth 10000 in
theorem b_X5_size {γ : Ev} {μ : Mm} {r : Int32} {x0 : Int32} (C : Cx p R s m args meth c RX5 cX5_size 1 (some .int) 1 30 γ) (h : s_X5_size x0 = some r) (hw : Wo γ μ s H locs) (hl : lv_has ls 1 [(0, .int x0)]) : W p l e R s m args below meth c H locs 0 0 (MQ below (Qo γ (some (.int r)) μ) args s 0 0 (AK γ)) (F0 m 0 ls []) := by
  have C0 := C
  obtain ⟨hx, hb, hr, hml, hown, hts, hlk, hK, hd, hF, hL⟩ := C
  unfold s_X5_size at h
  refine lv_iload_n hx hb dX5_size_0 rfl (lv_at hl 0 rfl) ?_
  refine lv_if_ge (tgt := 9) hx hb dX5_size_1 (by decide) (fun c1 => ?_) (fun c1 => ?_)
  · replace h := ifp c1 h
    refine lv_iload_n hx hb dX5_size_9 rfl (lv_at hl 0 rfl) ?_
    have h1 := Option.some.inj h
    subst h1
    exact r_iret hx hb hr hlk hK hd hw dX5_size_10
  · replace h := ifn c1 h
    refine lv_iload_n hx hb dX5_size_4 rfl (lv_at hl 0 rfl) ?_
    refine lv_ineg hx hb dX5_size_5 ?_
    refine lv_goto (tgt := 10) hx hb dX5_size_6 (by decide) ?_
    have h1 := Option.some.inj h
    subst h1
    exact r_iret hx hb hr hlk hK hd hw dX5_size_10
theorem c_X5_size {l : Launch} {γ : Ev} {μ : Mm} {r : Int32} {x0 : Int32} (h : s_X5_size x0 = some r) : Ct l yX5_size cX5_size 1 (some .int) 1 30 γ [.int x0] μ (some (.int r)) μ := Ct.of (own := RX5) (by decide +kernel) rfl (Nat.le_of_ble_eq_true rfl) (fun C hw ls hl => b_X5_size C h hw hl)
set_option maxHeartbeats 4000000 in
set_option maxRecDepth 10000 in
theorem b_X5_placeBy {γ : Ev} {μ : Mm} {r : Int32} {x0 : Int32} (C : Cx p R s m args meth c RX5 cX5_placeBy 1 (some .int) 1 30 γ) (h : s_X5_placeBy x0 = some r) (hw : Wo γ μ s H locs) (hl : lv_has ls 1 [(0, .int x0)]) : W p l e R s m args below meth c H locs 0 0 (MQ below (Qo γ (some (.int r)) μ) args s 0 0 (AK γ)) (F0 m 0 ls []) := by
  have C0 := C
  obtain ⟨hx, hb, hr, hml, hown, hts, hlk, hK, hd, hF, hL⟩ := C
  unfold s_X5_placeBy at h
  refine lv_iload_n hx hb dX5_placeBy_0 rfl (lv_at hl 0 rfl) ?_
  refine lv_bipush (v := (6 : Int32)) hx hb dX5_placeBy_1 (by decide) ?_
  refine lv_icmp_ge (tgt := 13) hx hb dX5_placeBy_3 (by decide) (fun c1 => ?_) (fun c1 => ?_)
  · replace h := ifp c1 h
    refine lv_iload_n hx hb dX5_placeBy_13 rfl (lv_at hl 0 rfl) ?_
    refine lv_bipush (v := (6 : Int32)) hx hb dX5_placeBy_14 (by decide) ?_
    refine lv_isub hx hb dX5_placeBy_16 ?_
    refine lv_iconst (v := (1 : Int32)) hx hb dX5_placeBy_17 (by decide) ?_
    refine lv_iadd hx hb dX5_placeBy_18 ?_
    have h1 := Option.some.inj h
    subst h1
    exact r_iret hx hb hr hlk hK hd hw dX5_placeBy_19
  · replace h := ifn c1 h
    refine lv_iload_n hx hb dX5_placeBy_6 rfl (lv_at hl 0 rfl) ?_
    refine lv_bipush (v := (6 : Int32)) hx hb dX5_placeBy_7 (by decide) ?_
    refine lv_isub hx hb dX5_placeBy_9 ?_
    refine lv_goto (tgt := 19) hx hb dX5_placeBy_10 (by decide) ?_
    have h1 := Option.some.inj h
    subst h1
    exact r_iret hx hb hr hlk hK hd hw dX5_placeBy_19
theorem c_X5_placeBy {l : Launch} {γ : Ev} {μ : Mm} {r : Int32} {x0 : Int32} (h : s_X5_placeBy x0 = some r) : Ct l yX5_placeBy cX5_placeBy 1 (some .int) 1 30 γ [.int x0] μ (some (.int r)) μ := Ct.of (own := RX5) (by decide +kernel) rfl (Nat.le_of_ble_eq_true rfl) (fun C hw ls hl => b_X5_placeBy C h hw hl)
set_option maxHeartbeats 4000000 in
set_option maxRecDepth 10000 in
theorem b_X5_record_L51 {γ : Ev} {o : Nat} {σ : Mm} {Bf : Mm} (C : Cx p R s m args meth c RX5 cX5_record 2 none 1 30 γ) (hB : isX5 γ o) : ∀ (n : Nat) {Z : Mm} {x1 : Int32} {H : Heap} {locs : List Loc} {ls : Array Slot}, s_X5_record_L51 n Z x1 = some Bf → Wo γ (st 10 σ o Z) s H locs → lv_has ls 2 [(0, .ref (eA γ o)), (1, .int x1)] → W p l e R s m args below meth c H locs 0 0 (MQ below (Qo γ none (st 10 σ o Bf)) args s 0 0 (AK γ)) (F0 m 51 ls []) := by
  have C0 := C
  obtain ⟨hx, hb, hr, hml, hown, hts, hlk, hK, hd, hF, hL⟩ := C
  intro n
  induction n with
  | zero => intro Z x1 H locs ls h; cases h
  | succ n ih =>
    intro Z x1 H locs ls h hw hl
    unfold s_X5_record_L51 at h
    refine lv_iload_n hx hb dX5_record_51 rfl (lv_at hl 1 rfl) ?_
    refine lv_sipush (v := (243 : Int32)) hx hb dX5_record_52 (by decide) ?_
    refine lv_icmp_ge (tgt := 85) hx hb dX5_record_55 (by decide) (fun c2 => ?_) (fun c2 => ?_)
    · replace h := ifp c2 h
      refine lv_aload_n hx hb dX5_record_85 rfl (lv_at hl 0 rfl) ?_
      refine lv_dup hx hb dX5_record_86 rfl ?_
      refine r_get (v := .int (Z 0 2)) hx hb hts hK hw hown inX5 rfl (X5_k0 hB) (st_at0 (by decide)) 2 (by decide) wd_575 rfl dX5_record_87 ?_
      refine lv_iconst (v := (1 : Int32)) hx hb dX5_record_90 (by decide) ?_
      refine lv_iadd hx hb dX5_record_91 ?_
      obtain ⟨N3, hN3, h⟩ := ob h
      refine r_put (x := ((Z 0 2) + (1 : Int32))) (ty := .int) hx hb hts hK hd hw hown inX5 tyX5 tyX5_ok nmX5 rfl (by decide) (X5_k0 hB) 2 (by decide) wd_575 rfl rfl rfl rfl (fun _ => (Nat.le_of_ble_eq_true rfl)) (fun _ => rfl) hN3 dX5_record_92 (fun {H} {locs} hw => ?_)
      have h1 := Option.some.inj h
      subst h1
      exact r_vret hx hb hr hlk hK hd hw dX5_record_95
    · replace h := ifn c2 h
      refine lv_aload_n hx hb dX5_record_58 rfl (lv_at hl 0 rfl) ?_
      refine r_get (v := .ref (eA γ (o + 2))) hx hb hts hK hw hown inX5 rfl (X5_k0 hB) (st_at0 (by decide)) 1 (by decide) wd_574 rfl dX5_record_59 ?_
      refine lv_aload_n hx hb dX5_record_62 rfl (lv_at hl 0 rfl) ?_
      refine r_get (v := .int (Z 0 2)) hx hb hts hK hw hown inX5 rfl (X5_k0 hB) (st_at0 (by decide)) 2 (by decide) wd_575 rfl dX5_record_63 ?_
      refine lv_sipush (v := (243 : Int32)) hx hb dX5_record_66 (by decide) ?_
      refine lv_imul hx hb dX5_record_69 ?_
      refine lv_iload_n hx hb dX5_record_70 rfl (lv_at hl 1 rfl) ?_
      refine lv_iadd hx hb dX5_record_71 ?_
      refine lv_aload_n hx hb dX5_record_72 rfl (lv_at hl 0 rfl) ?_
      refine r_get (v := .ref (eA γ (o + 1))) hx hb hts hK hw hown inX5 rfl (X5_k0 hB) (st_at0 (by decide)) 0 (by decide) wd_573 rfl dX5_record_73 ?_
      refine lv_iload_n hx hb dX5_record_76 rfl (lv_at hl 1 rfl) ?_
      obtain ⟨v4, hv4, h⟩ := ob h
      refine r_iald hx hb hK hw (X5_k1 hB) (st_at (by decide)) hv4 dX5_record_77 ?_
      obtain ⟨N5, hN5, h⟩ := ob h
      refine r_iast hx hb hK hd hw (by decide) (X5_k2 hB) hN5 dX5_record_78 (fun {H} {locs} hw => ?_)
      obtain ⟨v6, ev6, h⟩ := jb h
      refine lv_iinc (v := v6) (lv' := [(1, .int v6), (0, .ref (eA γ o))]) hx hb dX5_record_79 hl (k := 1) rfl (by rw [← ev6]; rfl) (by decide) rfl (fun ls hl => ?_)
      refine lv_goto (tgt := 51) hx hb dX5_record_82 (by decide) ?_
      exact ih h hw (lv_sub hl [1, 0] rfl)
set_option maxHeartbeats 4000000 in
set_option maxRecDepth 10000 in
theorem b_X5_record_L10 {γ : Ev} {o : Nat} {σ : Mm} {Bf : Mm} (C : Cx p R s m args meth c RX5 cX5_record 2 none 1 30 γ) (hB : isX5 γ o) : ∀ (n : Nat) {Z : Mm} {x1 : Int32} {H : Heap} {locs : List Loc} {ls : Array Slot}, s_X5_record_L10 n Z x1 = some Bf → Wo γ (st 10 σ o Z) s H locs → lv_has ls 2 [(0, .ref (eA γ o)), (1, .int x1)] → W p l e R s m args below meth c H locs 0 0 (MQ below (Qo γ none (st 10 σ o Bf)) args s 0 0 (AK γ)) (F0 m 10 ls []) := by
  have C0 := C
  obtain ⟨hx, hb, hr, hml, hown, hts, hlk, hK, hd, hF, hL⟩ := C
  intro n
  induction n with
  | zero => intro Z x1 H locs ls h; cases h
  | succ n ih =>
    intro Z x1 H locs ls h hw hl
    unfold s_X5_record_L10 at h
    refine lv_iload_n hx hb dX5_record_10 rfl (lv_at hl 1 rfl) ?_
    refine lv_sipush (v := (729 : Int32)) hx hb dX5_record_11 (by decide) ?_
    refine lv_icmp_ge (tgt := 39) hx hb dX5_record_14 (by decide) (fun c7 => ?_) (fun c7 => ?_)
    · replace h := ifp c7 h
      refine lv_aload_n hx hb dX5_record_39 rfl (lv_at hl 0 rfl) ?_
      refine lv_dup hx hb dX5_record_40 rfl ?_
      refine r_get (v := .int (Z 0 2)) hx hb hts hK hw hown inX5 rfl (X5_k0 hB) (st_at0 (by decide)) 2 (by decide) wd_575 rfl dX5_record_41 ?_
      refine lv_iconst (v := (1 : Int32)) hx hb dX5_record_44 (by decide) ?_
      refine lv_isub hx hb dX5_record_45 ?_
      obtain ⟨N8, hN8, h⟩ := ob h
      refine r_put (x := ((Z 0 2) - (1 : Int32))) (ty := .int) hx hb hts hK hd hw hown inX5 tyX5 tyX5_ok nmX5 rfl (by decide) (X5_k0 hB) 2 (by decide) wd_575 rfl rfl rfl rfl (fun _ => (Nat.le_of_ble_eq_true rfl)) (fun _ => rfl) hN8 dX5_record_46 (fun {H} {locs} hw => ?_)
      refine lv_iconst (v := (0 : Int32)) hx hb dX5_record_49 (by decide) ?_
      refine lv_istore_n (lv' := [(1, .int (0 : Int32)), (0, .ref (eA γ o))]) hx hb dX5_record_50 rfl hl (by decide) rfl (fun ls hl => ?_)
      exact b_X5_record_L51 C0 hB 1000 h hw (lv_sub hl [1, 0] rfl)
    · replace h := ifn c7 h
      refine lv_aload_n hx hb dX5_record_17 rfl (lv_at hl 0 rfl) ?_
      refine r_get (v := .ref (eA γ (o + 2))) hx hb hts hK hw hown inX5 rfl (X5_k0 hB) (st_at0 (by decide)) 1 (by decide) wd_574 rfl dX5_record_18 ?_
      refine lv_iload_n hx hb dX5_record_21 rfl (lv_at hl 1 rfl) ?_
      refine lv_aload_n hx hb dX5_record_22 rfl (lv_at hl 0 rfl) ?_
      refine r_get (v := .ref (eA γ (o + 2))) hx hb hts hK hw hown inX5 rfl (X5_k0 hB) (st_at0 (by decide)) 1 (by decide) wd_574 rfl dX5_record_23 ?_
      refine lv_iload_n hx hb dX5_record_26 rfl (lv_at hl 1 rfl) ?_
      refine lv_sipush (v := (243 : Int32)) hx hb dX5_record_27 (by decide) ?_
      refine lv_iadd hx hb dX5_record_30 ?_
      obtain ⟨v9, hv9, h⟩ := ob h
      refine r_iald hx hb hK hw (X5_k2 hB) (st_at (by decide)) hv9 dX5_record_31 ?_
      obtain ⟨N10, hN10, h⟩ := ob h
      refine r_iast hx hb hK hd hw (by decide) (X5_k2 hB) hN10 dX5_record_32 (fun {H} {locs} hw => ?_)
      obtain ⟨v11, ev11, h⟩ := jb h
      refine lv_iinc (v := v11) (lv' := [(1, .int v11), (0, .ref (eA γ o))]) hx hb dX5_record_33 hl (k := 1) rfl (by rw [← ev11]; rfl) (by decide) rfl (fun ls hl => ?_)
      refine lv_goto (tgt := 10) hx hb dX5_record_36 (by decide) ?_
      exact ih h hw (lv_sub hl [1, 0] rfl)
set_option maxHeartbeats 4000000 in
set_option maxRecDepth 10000 in
theorem b_X5_record {γ : Ev} {o : Nat} {σ : Mm} {Bf : Mm} {Z : Mm} (C : Cx p R s m args meth c RX5 cX5_record 2 none 1 30 γ) (hB : isX5 γ o) (h : s_X5_record Z = some Bf) (hw : Wo γ (st 10 σ o Z) s H locs) (hl : lv_has ls 2 [(0, .ref (eA γ o))]) : W p l e R s m args below meth c H locs 0 0 (MQ below (Qo γ none (st 10 σ o Bf)) args s 0 0 (AK γ)) (F0 m 0 ls []) := by
  have C0 := C
  obtain ⟨hx, hb, hr, hml, hown, hts, hlk, hK, hd, hF, hL⟩ := C
  unfold s_X5_record at h
  refine lv_aload_n hx hb dX5_record_0 rfl (lv_at hl 0 rfl) ?_
  refine r_get (v := .int (Z 0 2)) hx hb hts hK hw hown inX5 rfl (X5_k0 hB) (st_at0 (by decide)) 2 (by decide) wd_575 rfl dX5_record_1 ?_
  refine lv_iconst (v := (4 : Int32)) hx hb dX5_record_4 (by decide) ?_
  refine lv_icmp_ne (tgt := 49) hx hb dX5_record_5 (by decide) (fun c1 => ?_) (fun c1 => ?_)
  · replace h := ifn c1 h
    refine lv_iconst (v := (0 : Int32)) hx hb dX5_record_49 (by decide) ?_
    refine lv_istore_n (lv' := [(1, .int (0 : Int32)), (0, .ref (eA γ o))]) hx hb dX5_record_50 rfl hl (by decide) rfl (fun ls hl => ?_)
    exact b_X5_record_L51 C0 hB 1000 h hw (lv_sub hl [1, 0] rfl)
  · replace h := ifp c1 h
    refine lv_iconst (v := (0 : Int32)) hx hb dX5_record_8 (by decide) ?_
    refine lv_istore_n (lv' := [(1, .int (0 : Int32)), (0, .ref (eA γ o))]) hx hb dX5_record_9 rfl hl (by decide) rfl (fun ls hl => ?_)
    exact b_X5_record_L10 C0 hB 1000 h hw (lv_sub hl [1, 0] rfl)
theorem c_X5_record {l : Launch} {γ : Ev} {o : Nat} {σ : Mm} {Bf : Mm} {Z : Mm} (hB : isX5 γ o) (h : s_X5_record Z = some Bf) : Ct l yX5_record cX5_record 2 none 1 30 γ [.ref (eA γ o)] (st 10 σ o Z) none (st 10 σ o Bf) := Ct.of (own := RX5) (by decide +kernel) rfl (Nat.le_of_ble_eq_true rfl) (fun C hw ls hl => b_X5_record C hB h hw hl)
set_option maxHeartbeats 4000000 in
set_option maxRecDepth 10000 in
theorem b_X5_undo_L23 {γ : Ev} {o : Nat} {σ : Mm} {Bf : Mm} {r : Int32} (C : Cx p R s m args meth c RX5 cX5_undo 2 (some .int) 1 30 γ) (hB : isX5 γ o) : ∀ (n : Nat) {Z : Mm} {x1 : Int32} {H : Heap} {locs : List Loc} {ls : Array Slot}, s_X5_undo_L23 n Z x1 = some (r, Bf) → Wo γ (st 10 σ o Z) s H locs → lv_has ls 2 [(0, .ref (eA γ o)), (1, .int x1)] → W p l e R s m args below meth c H locs 0 0 (MQ below (Qo γ (some (.int r)) (st 10 σ o Bf)) args s 0 0 (AK γ)) (F0 m 23 ls []) := by
  have C0 := C
  obtain ⟨hx, hb, hr, hml, hown, hts, hlk, hK, hd, hF, hL⟩ := C
  intro n
  induction n with
  | zero => intro Z x1 H locs ls h; cases h
  | succ n ih =>
    intro Z x1 H locs ls h hw hl
    unfold s_X5_undo_L23 at h
    refine lv_iload_n hx hb dX5_undo_23 rfl (lv_at hl 1 rfl) ?_
    refine lv_sipush (v := (243 : Int32)) hx hb dX5_undo_24 (by decide) ?_
    refine lv_icmp_ge (tgt := 57) hx hb dX5_undo_27 (by decide) (fun c3 => ?_) (fun c3 => ?_)
    · replace h := ifp c3 h
      refine lv_aload_n hx hb dX5_undo_57 rfl (lv_at hl 0 rfl) ?_
      refine r_get (v := .int (Z 0 2)) hx hb hts hK hw hown inX5 rfl (X5_k0 hB) (st_at0 (by decide)) 2 (by decide) wd_575 rfl dX5_undo_58 ?_
      obtain ⟨h1, h2⟩ := s2 h
      subst h1
      subst h2
      exact r_iret hx hb hr hlk hK hd hw dX5_undo_61
    · replace h := ifn c3 h
      refine lv_aload_n hx hb dX5_undo_30 rfl (lv_at hl 0 rfl) ?_
      refine r_get (v := .ref (eA γ (o + 1))) hx hb hts hK hw hown inX5 rfl (X5_k0 hB) (st_at0 (by decide)) 0 (by decide) wd_573 rfl dX5_undo_31 ?_
      refine lv_iload_n hx hb dX5_undo_34 rfl (lv_at hl 1 rfl) ?_
      refine lv_aload_n hx hb dX5_undo_35 rfl (lv_at hl 0 rfl) ?_
      refine r_get (v := .ref (eA γ (o + 2))) hx hb hts hK hw hown inX5 rfl (X5_k0 hB) (st_at0 (by decide)) 1 (by decide) wd_574 rfl dX5_undo_36 ?_
      refine lv_aload_n hx hb dX5_undo_39 rfl (lv_at hl 0 rfl) ?_
      refine r_get (v := .int (Z 0 2)) hx hb hts hK hw hown inX5 rfl (X5_k0 hB) (st_at0 (by decide)) 2 (by decide) wd_575 rfl dX5_undo_40 ?_
      refine lv_sipush (v := (243 : Int32)) hx hb dX5_undo_43 (by decide) ?_
      refine lv_imul hx hb dX5_undo_46 ?_
      refine lv_iload_n hx hb dX5_undo_47 rfl (lv_at hl 1 rfl) ?_
      refine lv_iadd hx hb dX5_undo_48 ?_
      obtain ⟨v4, hv4, h⟩ := ob h
      refine r_iald hx hb hK hw (X5_k2 hB) (st_at (by decide)) hv4 dX5_undo_49 ?_
      obtain ⟨N5, hN5, h⟩ := ob h
      refine r_iast hx hb hK hd hw (by decide) (X5_k1 hB) hN5 dX5_undo_50 (fun {H} {locs} hw => ?_)
      obtain ⟨v6, ev6, h⟩ := jb h
      refine lv_iinc (v := v6) (lv' := [(1, .int v6), (0, .ref (eA γ o))]) hx hb dX5_undo_51 hl (k := 1) rfl (by rw [← ev6]; rfl) (by decide) rfl (fun ls hl => ?_)
      refine lv_goto (tgt := 23) hx hb dX5_undo_54 (by decide) ?_
      exact ih h hw (lv_sub hl [1, 0] rfl)
set_option maxHeartbeats 4000000 in
set_option maxRecDepth 10000 in
theorem b_X5_undo {γ : Ev} {o : Nat} {σ : Mm} {Bf : Mm} {r : Int32} {Z : Mm} (C : Cx p R s m args meth c RX5 cX5_undo 2 (some .int) 1 30 γ) (hB : isX5 γ o) (h : s_X5_undo Z = some (r, Bf)) (hw : Wo γ (st 10 σ o Z) s H locs) (hl : lv_has ls 2 [(0, .ref (eA γ o))]) : W p l e R s m args below meth c H locs 0 0 (MQ below (Qo γ (some (.int r)) (st 10 σ o Bf)) args s 0 0 (AK γ)) (F0 m 0 ls []) := by
  have C0 := C
  obtain ⟨hx, hb, hr, hml, hown, hts, hlk, hK, hd, hF, hL⟩ := C
  unfold s_X5_undo at h
  refine lv_aload_n hx hb dX5_undo_0 rfl (lv_at hl 0 rfl) ?_
  refine r_get (v := .int (Z 0 2)) hx hb hts hK hw hown inX5 rfl (X5_k0 hB) (st_at0 (by decide)) 2 (by decide) wd_575 rfl dX5_undo_1 ?_
  refine lv_if_ne (tgt := 11) hx hb dX5_undo_4 (by decide) (fun c1 => ?_) (fun c1 => ?_)
  · replace h := ifn c1 h
    refine lv_aload_n hx hb dX5_undo_11 rfl (lv_at hl 0 rfl) ?_
    refine lv_dup hx hb dX5_undo_12 rfl ?_
    refine r_get (v := .int (Z 0 2)) hx hb hts hK hw hown inX5 rfl (X5_k0 hB) (st_at0 (by decide)) 2 (by decide) wd_575 rfl dX5_undo_13 ?_
    refine lv_iconst (v := (1 : Int32)) hx hb dX5_undo_16 (by decide) ?_
    refine lv_isub hx hb dX5_undo_17 ?_
    obtain ⟨N2, hN2, h⟩ := ob h
    refine r_put (x := ((Z 0 2) - (1 : Int32))) (ty := .int) hx hb hts hK hd hw hown inX5 tyX5 tyX5_ok nmX5 rfl (by decide) (X5_k0 hB) 2 (by decide) wd_575 rfl rfl rfl rfl (fun _ => (Nat.le_of_ble_eq_true rfl)) (fun _ => rfl) hN2 dX5_undo_18 (fun {H} {locs} hw => ?_)
    refine lv_iconst (v := (0 : Int32)) hx hb dX5_undo_21 (by decide) ?_
    refine lv_istore_n (lv' := [(1, .int (0 : Int32)), (0, .ref (eA γ o))]) hx hb dX5_undo_22 rfl hl (by decide) rfl (fun ls hl => ?_)
    exact b_X5_undo_L23 C0 hB 1000 h hw (lv_sub hl [1, 0] rfl)
  · replace h := ifp c1 h
    refine lv_sipush (v := (-10005 : Int32)) hx hb dX5_undo_7 (by decide) ?_
    obtain ⟨h1, h2⟩ := s2 h
    subst h1
    subst h2
    exact r_iret hx hb hr hlk hK hd hw dX5_undo_10
theorem c_X5_undo {l : Launch} {γ : Ev} {o : Nat} {σ : Mm} {Bf : Mm} {r : Int32} {Z : Mm} (hB : isX5 γ o) (h : s_X5_undo Z = some (r, Bf)) : Ct l yX5_undo cX5_undo 2 (some .int) 1 30 γ [.ref (eA γ o)] (st 10 σ o Z) (some (.int r)) (st 10 σ o Bf) := Ct.of (own := RX5) (by decide +kernel) rfl (Nat.le_of_ble_eq_true rfl) (fun C hw ls hl => b_X5_undo C hB h hw hl)
set_option maxHeartbeats 4000000 in
set_option maxRecDepth 10000 in
theorem b_X5_tokens_L4 {γ : Ev} {o : Nat} {σ : Mm} {r : Int32} (C : Cx p R s m args meth c RX5 cX5_tokens 3 (some .int) 3 71 γ) (hB : isX5 γ o) : ∀ (n : Nat) {Z : Mm} {x1 : Int32} {x2 : Int32} {H : Heap} {locs : List Loc} {ls : Array Slot}, s_X5_tokens_L4 n Z x1 x2 = some r → Wo γ (st 10 σ o Z) s H locs → lv_has ls 3 [(0, .ref (eA γ o)), (1, .int x1), (2, .int x2)] → W p l e R s m args below meth c H locs 0 0 (MQ below (Qo γ (some (.int r)) (st 10 σ o Z)) args s 0 0 (AK γ)) (F0 m 4 ls []) := by
  have C0 := C
  obtain ⟨hx, hb, hr, hml, hown, hts, hlk, hK, hd, hF, hL⟩ := C
  intro n
  induction n with
  | zero => intro Z x1 x2 H locs ls h; cases h
  | succ n ih =>
    intro Z x1 x2 H locs ls h hw hl
    unfold s_X5_tokens_L4 at h
    refine lv_iload_n hx hb dX5_tokens_4 rfl (lv_at hl 2 rfl) ?_
    refine lv_bipush (v := (12 : Int32)) hx hb dX5_tokens_5 (by decide) ?_
    refine lv_icmp_ge (tgt := 27) hx hb dX5_tokens_7 (by decide) (fun c1 => ?_) (fun c1 => ?_)
    · replace h := ifp c1 h
      refine lv_iload_n hx hb dX5_tokens_27 rfl (lv_at hl 1 rfl) ?_
      have h1 := Option.some.inj h
      subst h1
      exact r_iret hx hb hr hlk hK hd hw dX5_tokens_28
    · replace h := ifn c1 h
      refine lv_iload_n hx hb dX5_tokens_10 rfl (lv_at hl 1 rfl) ?_
      refine lv_aload_n hx hb dX5_tokens_11 rfl (lv_at hl 0 rfl) ?_
      refine lv_iload_n hx hb dX5_tokens_12 rfl (lv_at hl 2 rfl) ?_
      obtain ⟨v2, hv2, h⟩ := ob h
      refine r_Si (rest := [.ref (eA γ o), .int x1]) C0 z0 (c_X5_placeBy hv2) lk_X5_70 hl.1 rfl (Nat.le_of_ble_eq_true rfl) (by decide) hw dX5_tokens_13 (fun {H} {locs} hw => ?_)
      obtain ⟨v3, hv3, h⟩ := ob h
      refine r_Vi (rest := [.int x1]) C0 z0 (c_X5_many hB hv3) lk_X5_64 (X5_k0 hB) rfl rfl hl.1 rfl (Nat.le_of_ble_eq_true rfl) (by decide) hw dX5_tokens_16 (fun {H} {locs} hw => ?_)
      refine lv_iadd hx hb dX5_tokens_19 ?_
      obtain ⟨v4, ev4, h⟩ := jb h
      refine r_top ev4 ?_
      refine lv_istore_n (lv' := [(1, .int v4), (0, .ref (eA γ o)), (2, .int x2)]) hx hb dX5_tokens_20 rfl hl (by decide) rfl (fun ls hl => ?_)
      obtain ⟨v5, ev5, h⟩ := jb h
      refine lv_iinc (v := v5) (lv' := [(2, .int v5), (1, .int v4), (0, .ref (eA γ o))]) hx hb dX5_tokens_21 hl (k := 2) rfl (by rw [← ev5]; rfl) (by decide) rfl (fun ls hl => ?_)
      refine lv_goto (tgt := 4) hx hb dX5_tokens_24 (by decide) ?_
      exact ih h hw (lv_sub hl [2, 1, 0] rfl)
set_option maxHeartbeats 4000000 in
set_option maxRecDepth 10000 in
theorem b_X5_tokens {γ : Ev} {o : Nat} {σ : Mm} {r : Int32} {Z : Mm} (C : Cx p R s m args meth c RX5 cX5_tokens 3 (some .int) 3 71 γ) (hB : isX5 γ o) (h : s_X5_tokens Z = some r) (hw : Wo γ (st 10 σ o Z) s H locs) (hl : lv_has ls 3 [(0, .ref (eA γ o))]) : W p l e R s m args below meth c H locs 0 0 (MQ below (Qo γ (some (.int r)) (st 10 σ o Z)) args s 0 0 (AK γ)) (F0 m 0 ls []) := by
  have C0 := C
  obtain ⟨hx, hb, hr, hml, hown, hts, hlk, hK, hd, hF, hL⟩ := C
  unfold s_X5_tokens at h
  refine lv_iconst (v := (0 : Int32)) hx hb dX5_tokens_0 (by decide) ?_
  refine lv_istore_n (lv' := [(1, .int (0 : Int32)), (0, .ref (eA γ o))]) hx hb dX5_tokens_1 rfl hl (by decide) rfl (fun ls hl => ?_)
  refine lv_iconst (v := (0 : Int32)) hx hb dX5_tokens_2 (by decide) ?_
  refine lv_istore_n (lv' := [(2, .int (0 : Int32)), (1, .int (0 : Int32)), (0, .ref (eA γ o))]) hx hb dX5_tokens_3 rfl hl (by decide) rfl (fun ls hl => ?_)
  exact b_X5_tokens_L4 C0 hB 1000 h hw (lv_sub hl [2, 1, 0] rfl)
theorem c_X5_tokens {l : Launch} {γ : Ev} {o : Nat} {σ : Mm} {r : Int32} {Z : Mm} (hB : isX5 γ o) (h : s_X5_tokens Z = some r) : Ct l yX5_tokens cX5_tokens 3 (some .int) 3 71 γ [.ref (eA γ o)] (st 10 σ o Z) (some (.int r)) (st 10 σ o Z) := Ct.of (own := RX5) (by decide +kernel) rfl (Nat.le_of_ble_eq_true rfl) (fun C hw ls hl => b_X5_tokens C hB h hw hl)
set_option maxHeartbeats 4000000 in
set_option maxRecDepth 10000 in
theorem b_X5_keep_L7 {γ : Ev} {o : Nat} {σ : Mm} {Bf : Mm} {r : Int32} (C : Cx p R s m args meth c RX5 cX5_keep 2 (some .int) 4 93 γ) (hB : isX5 γ o) : ∀ (n : Nat) {Z : Mm} {x1 : Int32} {H : Heap} {locs : List Loc} {ls : Array Slot}, s_X5_keep_L7 n Z x1 = some (r, Bf) → Wo γ (st 10 σ o Z) s H locs → lv_has ls 2 [(0, .ref (eA γ o)), (1, .int x1)] → W p l e R s m args below meth c H locs 0 0 (MQ below (Qo γ (some (.int r)) (st 10 σ o Bf)) args s 0 0 (AK γ)) (F0 m 7 ls []) := by
  have C0 := C
  obtain ⟨hx, hb, hr, hml, hown, hts, hlk, hK, hd, hF, hL⟩ := C
  intro n
  induction n with
  | zero => intro Z x1 H locs ls h; cases h
  | succ n ih =>
    intro Z x1 H locs ls h hw hl
    unfold s_X5_keep_L7 at h
    refine lv_iload_n hx hb dX5_keep_7 rfl (lv_at hl 1 rfl) ?_
    refine lv_sipush (v := (243 : Int32)) hx hb dX5_keep_8 (by decide) ?_
    refine lv_icmp_ge (tgt := 32) hx hb dX5_keep_11 (by decide) (fun c2 => ?_) (fun c2 => ?_)
    · replace h := ifp c2 h
      refine lv_aload_n hx hb dX5_keep_32 rfl (lv_at hl 0 rfl) ?_
      obtain ⟨v3, hv3, h⟩ := ob h
      refine r_Vi (rest := []) C0 z0 (c_X5_tokens hB hv3) lk_X5_77 (X5_k0 hB) rfl rfl hl.1 rfl (Nat.le_of_ble_eq_true rfl) (by decide) hw dX5_keep_33 (fun {H} {locs} hw => ?_)
      obtain ⟨h1, h2⟩ := s2 h
      subst h1
      subst h2
      exact r_iret hx hb hr hlk hK hd hw dX5_keep_36
    · replace h := ifn c2 h
      refine lv_aload_n hx hb dX5_keep_14 rfl (lv_at hl 0 rfl) ?_
      refine r_get (v := .ref (eA γ (o + 3))) hx hb hts hK hw hown inX5 rfl (X5_k0 hB) (st_at0 (by decide)) 3 (by decide) wd_576 rfl dX5_keep_15 ?_
      refine lv_iload_n hx hb dX5_keep_18 rfl (lv_at hl 1 rfl) ?_
      refine lv_aload_n hx hb dX5_keep_19 rfl (lv_at hl 0 rfl) ?_
      refine r_get (v := .ref (eA γ (o + 1))) hx hb hts hK hw hown inX5 rfl (X5_k0 hB) (st_at0 (by decide)) 0 (by decide) wd_573 rfl dX5_keep_20 ?_
      refine lv_iload_n hx hb dX5_keep_23 rfl (lv_at hl 1 rfl) ?_
      obtain ⟨v4, hv4, h⟩ := ob h
      refine r_iald hx hb hK hw (X5_k1 hB) (st_at (by decide)) hv4 dX5_keep_24 ?_
      obtain ⟨N5, hN5, h⟩ := ob h
      refine r_iast hx hb hK hd hw (by decide) (X5_k3 hB) hN5 dX5_keep_25 (fun {H} {locs} hw => ?_)
      obtain ⟨v6, ev6, h⟩ := jb h
      refine lv_iinc (v := v6) (lv' := [(1, .int v6), (0, .ref (eA γ o))]) hx hb dX5_keep_26 hl (k := 1) rfl (by rw [← ev6]; rfl) (by decide) rfl (fun ls hl => ?_)
      refine lv_goto (tgt := 7) hx hb dX5_keep_29 (by decide) ?_
      exact ih h hw (lv_sub hl [1, 0] rfl)
set_option maxHeartbeats 4000000 in
set_option maxRecDepth 10000 in
theorem b_X5_keep {γ : Ev} {o : Nat} {σ : Mm} {Bf : Mm} {r : Int32} {Z : Mm} (C : Cx p R s m args meth c RX5 cX5_keep 2 (some .int) 4 93 γ) (hB : isX5 γ o) (h : s_X5_keep Z = some (r, Bf)) (hw : Wo γ (st 10 σ o Z) s H locs) (hl : lv_has ls 2 [(0, .ref (eA γ o))]) : W p l e R s m args below meth c H locs 0 0 (MQ below (Qo γ (some (.int r)) (st 10 σ o Bf)) args s 0 0 (AK γ)) (F0 m 0 ls []) := by
  have C0 := C
  obtain ⟨hx, hb, hr, hml, hown, hts, hlk, hK, hd, hF, hL⟩ := C
  unfold s_X5_keep at h
  refine lv_aload_n hx hb dX5_keep_0 rfl (lv_at hl 0 rfl) ?_
  refine lv_iconst (v := (1 : Int32)) hx hb dX5_keep_1 (by decide) ?_
  obtain ⟨N1, hN1, h⟩ := ob h
  refine r_put (x := (1 : Int32)) (ty := .boolean) hx hb hts hK hd hw hown inX5 tyX5 tyX5_ok nmX5 rfl (by decide) (X5_k0 hB) 4 (by decide) wd_577 rfl rfl rfl rfl (fun _ => (Nat.le_of_ble_eq_true rfl)) (fun _ => rfl) hN1 dX5_keep_2 (fun {H} {locs} hw => ?_)
  refine lv_iconst (v := (0 : Int32)) hx hb dX5_keep_5 (by decide) ?_
  refine lv_istore_n (lv' := [(1, .int (0 : Int32)), (0, .ref (eA γ o))]) hx hb dX5_keep_6 rfl hl (by decide) rfl (fun ls hl => ?_)
  exact b_X5_keep_L7 C0 hB 1000 h hw (lv_sub hl [1, 0] rfl)
theorem c_X5_keep {l : Launch} {γ : Ev} {o : Nat} {σ : Mm} {Bf : Mm} {r : Int32} {Z : Mm} (hB : isX5 γ o) (h : s_X5_keep Z = some (r, Bf)) : Ct l yX5_keep cX5_keep 2 (some .int) 4 93 γ [.ref (eA γ o)] (st 10 σ o Z) (some (.int r)) (st 10 σ o Bf) := Ct.of (own := RX5) (by decide +kernel) rfl (Nat.le_of_ble_eq_true rfl) (fun C hw ls hl => b_X5_keep C hB h hw hl)
set_option maxHeartbeats 4000000 in
set_option maxRecDepth 10000 in
theorem b_X5_restore_L17 {γ : Ev} {o : Nat} {σ : Mm} {Bf : Mm} {r : Int32} (C : Cx p R s m args meth c RX5 cX5_restore 2 (some .int) 4 93 γ) (hB : isX5 γ o) : ∀ (n : Nat) {Z : Mm} {x1 : Int32} {H : Heap} {locs : List Loc} {ls : Array Slot}, s_X5_restore_L17 n Z x1 = some (r, Bf) → Wo γ (st 10 σ o Z) s H locs → lv_has ls 2 [(0, .ref (eA γ o)), (1, .int x1)] → W p l e R s m args below meth c H locs 0 0 (MQ below (Qo γ (some (.int r)) (st 10 σ o Bf)) args s 0 0 (AK γ)) (F0 m 17 ls []) := by
  have C0 := C
  obtain ⟨hx, hb, hr, hml, hown, hts, hlk, hK, hd, hF, hL⟩ := C
  intro n
  induction n with
  | zero => intro Z x1 H locs ls h; cases h
  | succ n ih =>
    intro Z x1 H locs ls h hw hl
    unfold s_X5_restore_L17 at h
    refine lv_iload_n hx hb dX5_restore_17 rfl (lv_at hl 1 rfl) ?_
    refine lv_sipush (v := (243 : Int32)) hx hb dX5_restore_18 (by decide) ?_
    refine lv_icmp_ge (tgt := 42) hx hb dX5_restore_21 (by decide) (fun c3 => ?_) (fun c3 => ?_)
    · replace h := ifp c3 h
      refine lv_aload_n hx hb dX5_restore_42 rfl (lv_at hl 0 rfl) ?_
      obtain ⟨v4, hv4, h⟩ := ob h
      refine r_Vi (rest := []) C0 z0 (c_X5_tokens hB hv4) lk_X5_77 (X5_k0 hB) rfl rfl hl.1 rfl (Nat.le_of_ble_eq_true rfl) (by decide) hw dX5_restore_43 (fun {H} {locs} hw => ?_)
      obtain ⟨h1, h2⟩ := s2 h
      subst h1
      subst h2
      exact r_iret hx hb hr hlk hK hd hw dX5_restore_46
    · replace h := ifn c3 h
      refine lv_aload_n hx hb dX5_restore_24 rfl (lv_at hl 0 rfl) ?_
      refine r_get (v := .ref (eA γ (o + 1))) hx hb hts hK hw hown inX5 rfl (X5_k0 hB) (st_at0 (by decide)) 0 (by decide) wd_573 rfl dX5_restore_25 ?_
      refine lv_iload_n hx hb dX5_restore_28 rfl (lv_at hl 1 rfl) ?_
      refine lv_aload_n hx hb dX5_restore_29 rfl (lv_at hl 0 rfl) ?_
      refine r_get (v := .ref (eA γ (o + 3))) hx hb hts hK hw hown inX5 rfl (X5_k0 hB) (st_at0 (by decide)) 3 (by decide) wd_576 rfl dX5_restore_30 ?_
      refine lv_iload_n hx hb dX5_restore_33 rfl (lv_at hl 1 rfl) ?_
      obtain ⟨v5, hv5, h⟩ := ob h
      refine r_iald hx hb hK hw (X5_k3 hB) (st_at (by decide)) hv5 dX5_restore_34 ?_
      obtain ⟨N6, hN6, h⟩ := ob h
      refine r_iast hx hb hK hd hw (by decide) (X5_k1 hB) hN6 dX5_restore_35 (fun {H} {locs} hw => ?_)
      obtain ⟨v7, ev7, h⟩ := jb h
      refine lv_iinc (v := v7) (lv' := [(1, .int v7), (0, .ref (eA γ o))]) hx hb dX5_restore_36 hl (k := 1) rfl (by rw [← ev7]; rfl) (by decide) rfl (fun ls hl => ?_)
      refine lv_goto (tgt := 17) hx hb dX5_restore_39 (by decide) ?_
      exact ih h hw (lv_sub hl [1, 0] rfl)
set_option maxHeartbeats 4000000 in
set_option maxRecDepth 10000 in
theorem b_X5_restore {γ : Ev} {o : Nat} {σ : Mm} {Bf : Mm} {r : Int32} {Z : Mm} (C : Cx p R s m args meth c RX5 cX5_restore 2 (some .int) 4 93 γ) (hB : isX5 γ o) (h : s_X5_restore Z = some (r, Bf)) (hw : Wo γ (st 10 σ o Z) s H locs) (hl : lv_has ls 2 [(0, .ref (eA γ o))]) : W p l e R s m args below meth c H locs 0 0 (MQ below (Qo γ (some (.int r)) (st 10 σ o Bf)) args s 0 0 (AK γ)) (F0 m 0 ls []) := by
  have C0 := C
  obtain ⟨hx, hb, hr, hml, hown, hts, hlk, hK, hd, hF, hL⟩ := C
  unfold s_X5_restore at h
  refine lv_aload_n hx hb dX5_restore_0 rfl (lv_at hl 0 rfl) ?_
  refine r_get (v := .int (Z 0 4)) hx hb hts hK hw hown inX5 rfl (X5_k0 hB) (st_at0 (by decide)) 4 (by decide) wd_577 rfl dX5_restore_1 ?_
  refine lv_if_ne (tgt := 11) hx hb dX5_restore_4 (by decide) (fun c1 => ?_) (fun c1 => ?_)
  · replace h := ifn c1 h
    refine lv_aload_n hx hb dX5_restore_11 rfl (lv_at hl 0 rfl) ?_
    obtain ⟨N2, hN2, h⟩ := ob h
    refine r_Vv (rest := []) C0 z0 (c_X5_record hB hN2) lk_X5_81 (X5_k0 hB) rfl rfl hl.1 rfl (Nat.le_of_ble_eq_true rfl) (by decide) hw dX5_restore_12 (fun {H} {locs} hw => ?_)
    refine lv_iconst (v := (0 : Int32)) hx hb dX5_restore_15 (by decide) ?_
    refine lv_istore_n (lv' := [(1, .int (0 : Int32)), (0, .ref (eA γ o))]) hx hb dX5_restore_16 rfl hl (by decide) rfl (fun ls hl => ?_)
    exact b_X5_restore_L17 C0 hB 1000 h hw (lv_sub hl [1, 0] rfl)
  · replace h := ifp c1 h
    refine lv_sipush (v := (-10005 : Int32)) hx hb dX5_restore_7 (by decide) ?_
    obtain ⟨h1, h2⟩ := s2 h
    subst h1
    subst h2
    exact r_iret hx hb hr hlk hK hd hw dX5_restore_10
theorem c_X5_restore {l : Launch} {γ : Ev} {o : Nat} {σ : Mm} {Bf : Mm} {r : Int32} {Z : Mm} (hB : isX5 γ o) (h : s_X5_restore Z = some (r, Bf)) : Ct l yX5_restore cX5_restore 2 (some .int) 4 93 γ [.ref (eA γ o)] (st 10 σ o Z) (some (.int r)) (st 10 σ o Bf) := Ct.of (own := RX5) (by decide +kernel) rfl (Nat.le_of_ble_eq_true rfl) (fun C hw ls hl => b_X5_restore C hB h hw hl)
set_option maxHeartbeats 4000000 in
set_option maxRecDepth 10000 in
theorem b_X5_hasTipped {γ : Ev} {o : Nat} {σ : Mm} {r : Int32} {Z : Mm} (C : Cx p R s m args meth c RX5 cX5_hasTipped 1 (some .boolean) 2 50 γ) (hB : isX5 γ o) (h : s_X5_hasTipped Z = some r) (hw : Wo γ (st 10 σ o Z) s H locs) (hl : lv_has ls 1 [(0, .ref (eA γ o))]) : W p l e R s m args below meth c H locs 0 0 (MQ below (Qo γ (some (.int r)) (st 10 σ o Z)) args s 0 0 (AK γ)) (F0 m 0 ls []) := by
  have C0 := C
  obtain ⟨hx, hb, hr, hml, hown, hts, hlk, hK, hd, hF, hL⟩ := C
  unfold s_X5_hasTipped at h
  refine lv_aload_n hx hb dX5_hasTipped_0 rfl (lv_at hl 0 rfl) ?_
  refine r_get (v := .ref (eA γ (o + 1))) hx hb hts hK hw hown inX5 rfl (X5_k0 hB) (st_at0 (by decide)) 0 (by decide) wd_573 rfl dX5_hasTipped_1 ?_
  refine lv_iconst (v := (5 : Int32)) hx hb dX5_hasTipped_4 (by decide) ?_
  obtain ⟨v1, hv1, h⟩ := ob h
  refine r_iald hx hb hK hw (X5_k1 hB) (st_at (by decide)) hv1 dX5_hasTipped_5 ?_
  obtain ⟨v2, hv2, h⟩ := ob h
  refine r_Si (rest := []) C0 z0 (c_X5_size hv2) lk_X5_84 hl.1 rfl (Nat.le_of_ble_eq_true rfl) (by decide) hw dX5_hasTipped_6 (fun {H} {locs} hw => ?_)
  refine lv_aload_n hx hb dX5_hasTipped_9 rfl (lv_at hl 0 rfl) ?_
  refine r_get (v := .ref (eA γ (o + 1))) hx hb hts hK hw hown inX5 rfl (X5_k0 hB) (st_at0 (by decide)) 0 (by decide) wd_573 rfl dX5_hasTipped_10 ?_
  refine lv_iconst (v := (1 : Int32)) hx hb dX5_hasTipped_13 (by decide) ?_
  obtain ⟨v3, hv3, h⟩ := ob h
  refine r_iald hx hb hK hw (X5_k1 hB) (st_at (by decide)) hv3 dX5_hasTipped_14 ?_
  refine lv_icmp_le (tgt := 22) hx hb dX5_hasTipped_15 (by decide) (fun c4 => ?_) (fun c4 => ?_)
  · replace h := ifp c4 h
    refine lv_iconst (v := (0 : Int32)) hx hb dX5_hasTipped_22 (by decide) ?_
    have h1 := Option.some.inj h
    subst h1
    exact r_zret hx hb hr hlk hK hd hw rfl dX5_hasTipped_23
  · replace h := ifn c4 h
    refine lv_iconst (v := (1 : Int32)) hx hb dX5_hasTipped_18 (by decide) ?_
    refine lv_goto (tgt := 23) hx hb dX5_hasTipped_19 (by decide) ?_
    have h1 := Option.some.inj h
    subst h1
    exact r_zret hx hb hr hlk hK hd hw rfl dX5_hasTipped_23
theorem c_X5_hasTipped {l : Launch} {γ : Ev} {o : Nat} {σ : Mm} {r : Int32} {Z : Mm} (hB : isX5 γ o) (h : s_X5_hasTipped Z = some r) : Ct l yX5_hasTipped cX5_hasTipped 1 (some .boolean) 2 50 γ [.ref (eA γ o)] (st 10 σ o Z) (some (.int r)) (st 10 σ o Z) := Ct.of (own := RX5) (by decide +kernel) rfl (Nat.le_of_ble_eq_true rfl) (fun C hw ls hl => b_X5_hasTipped C hB h hw hl)
set_option maxHeartbeats 4000000 in
set_option maxRecDepth 10000 in
theorem b_X5_isOver {γ : Ev} {o : Nat} {σ : Mm} {r : Int32} {Z : Mm} (C : Cx p R s m args meth c RX5 cX5_isOver 1 (some .boolean) 4 97 γ) (hB : isX5 γ o) (h : s_X5_isOver Z = some r) (hw : Wo γ (st 10 σ o Z) s H locs) (hl : lv_has ls 1 [(0, .ref (eA γ o))]) : W p l e R s m args below meth c H locs 0 0 (MQ below (Qo γ (some (.int r)) (st 10 σ o Z)) args s 0 0 (AK γ)) (F0 m 0 ls []) := by
  have C0 := C
  obtain ⟨hx, hb, hr, hml, hown, hts, hlk, hK, hd, hF, hL⟩ := C
  unfold s_X5_isOver at h
  refine lv_aload_n hx hb dX5_isOver_0 rfl (lv_at hl 0 rfl) ?_
  obtain ⟨v1, hv1, h⟩ := ob h
  refine r_Vi (rest := []) C0 z0 (c_X5_hasTipped hB hv1) lk_X5_87 (X5_k0 hB) rfl rfl hl.1 rfl (Nat.le_of_ble_eq_true rfl) (by decide) hw dX5_isOver_1 (fun {H} {locs} hw => ?_)
  refine lv_if_ne (tgt := 21) hx hb dX5_isOver_4 (by decide) (fun c2 => ?_) (fun c2 => ?_)
  · replace h := ifn c2 h
    refine lv_iconst (v := (1 : Int32)) hx hb dX5_isOver_21 (by decide) ?_
    refine lv_goto (tgt := 26) hx hb dX5_isOver_22 (by decide) ?_
    have h1 := Option.some.inj h
    subst h1
    exact r_zret hx hb hr hlk hK hd hw rfl dX5_isOver_26
  · replace h := ifp c2 h
    refine lv_aload_n hx hb dX5_isOver_7 rfl (lv_at hl 0 rfl) ?_
    refine lv_iconst (v := (0 : Int32)) hx hb dX5_isOver_8 (by decide) ?_
    obtain ⟨v3, hv3, h⟩ := ob h
    refine r_Vi (rest := []) C0 z0 (c_X5_allIn hB hv3) lk_X5_91 (X5_k0 hB) rfl rfl hl.1 rfl (Nat.le_of_ble_eq_true rfl) (by decide) hw dX5_isOver_9 (fun {H} {locs} hw => ?_)
    refine lv_aload_n hx hb dX5_isOver_12 rfl (lv_at hl 0 rfl) ?_
    refine lv_iconst (v := (1 : Int32)) hx hb dX5_isOver_13 (by decide) ?_
    obtain ⟨v4, hv4, h⟩ := ob h
    refine r_Vi (rest := [.int v3]) C0 z0 (c_X5_allIn hB hv4) lk_X5_91 (X5_k0 hB) rfl rfl hl.1 rfl (Nat.le_of_ble_eq_true rfl) (by decide) hw dX5_isOver_14 (fun {H} {locs} hw => ?_)
    refine lv_iadd hx hb dX5_isOver_17 ?_
    refine lv_if_ne (tgt := 25) hx hb dX5_isOver_18 (by decide) (fun c5 => ?_) (fun c5 => ?_)
    · replace h := ifn c5 h
      refine lv_iconst (v := (0 : Int32)) hx hb dX5_isOver_25 (by decide) ?_
      have h1 := Option.some.inj h
      subst h1
      exact r_zret hx hb hr hlk hK hd hw rfl dX5_isOver_26
    · replace h := ifp c5 h
      refine lv_iconst (v := (1 : Int32)) hx hb dX5_isOver_21 (by decide) ?_
      refine lv_goto (tgt := 26) hx hb dX5_isOver_22 (by decide) ?_
      have h1 := Option.some.inj h
      subst h1
      exact r_zret hx hb hr hlk hK hd hw rfl dX5_isOver_26
theorem c_X5_isOver {l : Launch} {γ : Ev} {o : Nat} {σ : Mm} {r : Int32} {Z : Mm} (hB : isX5 γ o) (h : s_X5_isOver Z = some r) : Ct l yX5_isOver cX5_isOver 1 (some .boolean) 4 97 γ [.ref (eA γ o)] (st 10 σ o Z) (some (.int r)) (st 10 σ o Z) := Ct.of (own := RX5) (by decide +kernel) rfl (Nat.le_of_ble_eq_true rfl) (fun C hw ls hl => b_X5_isOver C hB h hw hl)
set_option maxHeartbeats 4000000 in
set_option maxRecDepth 10000 in
theorem b_X5_winner {γ : Ev} {o : Nat} {σ : Mm} {r : Int32} {Z : Mm} (C : Cx p R s m args meth c RX5 cX5_winner 1 (some .int) 1 30 γ) (hB : isX5 γ o) (h : s_X5_winner Z = some r) (hw : Wo γ (st 10 σ o Z) s H locs) (hl : lv_has ls 1 [(0, .ref (eA γ o))]) : W p l e R s m args below meth c H locs 0 0 (MQ below (Qo γ (some (.int r)) (st 10 σ o Z)) args s 0 0 (AK γ)) (F0 m 0 ls []) := by
  have C0 := C
  obtain ⟨hx, hb, hr, hml, hown, hts, hlk, hK, hd, hF, hL⟩ := C
  unfold s_X5_winner at h
  refine lv_aload_n hx hb dX5_winner_0 rfl (lv_at hl 0 rfl) ?_
  refine r_get (v := .ref (eA γ (o + 1))) hx hb hts hK hw hown inX5 rfl (X5_k0 hB) (st_at0 (by decide)) 0 (by decide) wd_573 rfl dX5_winner_1 ?_
  refine lv_iconst (v := (3 : Int32)) hx hb dX5_winner_4 (by decide) ?_
  obtain ⟨v1, hv1, h⟩ := ob h
  refine r_iald hx hb hK hw (X5_k1 hB) (st_at (by decide)) hv1 dX5_winner_5 ?_
  refine lv_iconst (v := (1 : Int32)) hx hb dX5_winner_6 (by decide) ?_
  refine lv_icmp_ne (tgt := 20) hx hb dX5_winner_7 (by decide) (fun c2 => ?_) (fun c2 => ?_)
  · replace h := ifn c2 h
    refine lv_iconst (v := (1 : Int32)) hx hb dX5_winner_20 (by decide) ?_
    refine lv_aload_n hx hb dX5_winner_21 rfl (lv_at hl 0 rfl) ?_
    refine r_get (v := .ref (eA γ (o + 1))) hx hb hts hK hw hown inX5 rfl (X5_k0 hB) (st_at0 (by decide)) 0 (by decide) wd_573 rfl dX5_winner_22 ?_
    refine lv_bipush (v := (10 : Int32)) hx hb dX5_winner_25 (by decide) ?_
    obtain ⟨v3, hv3, h⟩ := ob h
    refine r_iald hx hb hK hw (X5_k1 hB) (st_at (by decide)) hv3 dX5_winner_27 ?_
    refine lv_isub hx hb dX5_winner_28 ?_
    have h1 := Option.some.inj h
    subst h1
    exact r_iret hx hb hr hlk hK hd hw dX5_winner_29
  · replace h := ifp c2 h
    refine lv_aload_n hx hb dX5_winner_10 rfl (lv_at hl 0 rfl) ?_
    refine r_get (v := .ref (eA γ (o + 1))) hx hb hts hK hw hown inX5 rfl (X5_k0 hB) (st_at0 (by decide)) 0 (by decide) wd_573 rfl dX5_winner_11 ?_
    refine lv_bipush (v := (10 : Int32)) hx hb dX5_winner_14 (by decide) ?_
    obtain ⟨v4, hv4, h⟩ := ob h
    refine r_iald hx hb hK hw (X5_k1 hB) (st_at (by decide)) hv4 dX5_winner_16 ?_
    refine lv_goto (tgt := 29) hx hb dX5_winner_17 (by decide) ?_
    have h1 := Option.some.inj h
    subst h1
    exact r_iret hx hb hr hlk hK hd hw dX5_winner_29
theorem c_X5_winner {l : Launch} {γ : Ev} {o : Nat} {σ : Mm} {r : Int32} {Z : Mm} (hB : isX5 γ o) (h : s_X5_winner Z = some r) : Ct l yX5_winner cX5_winner 1 (some .int) 1 30 γ [.ref (eA γ o)] (st 10 σ o Z) (some (.int r)) (st 10 σ o Z) := Ct.of (own := RX5) (by decide +kernel) rfl (Nat.le_of_ble_eq_true rfl) (fun C hw ls hl => b_X5_winner C hB h hw hl)
set_option maxHeartbeats 4000000 in
set_option maxRecDepth 10000 in
theorem b_X5_result {γ : Ev} {o : Nat} {σ : Mm} {r : Int32} {Z : Mm} (C : Cx p R s m args meth c RX5 cX5_result 1 (some .int) 5 117 γ) (hB : isX5 γ o) (h : s_X5_result Z = some r) (hw : Wo γ (st 10 σ o Z) s H locs) (hl : lv_has ls 1 [(0, .ref (eA γ o))]) : W p l e R s m args below meth c H locs 0 0 (MQ below (Qo γ (some (.int r)) (st 10 σ o Z)) args s 0 0 (AK γ)) (F0 m 0 ls []) := by
  have C0 := C
  obtain ⟨hx, hb, hr, hml, hown, hts, hlk, hK, hd, hF, hL⟩ := C
  unfold s_X5_result at h
  refine lv_aload_n hx hb dX5_result_0 rfl (lv_at hl 0 rfl) ?_
  obtain ⟨v1, hv1, h⟩ := ob h
  refine r_Vi (rest := []) C0 z0 (c_X5_isOver hB hv1) lk_X5_94 (X5_k0 hB) rfl rfl hl.1 rfl (Nat.le_of_ble_eq_true rfl) (by decide) hw dX5_result_1 (fun {H} {locs} hw => ?_)
  refine lv_if_ne (tgt := 11) hx hb dX5_result_4 (by decide) (fun c2 => ?_) (fun c2 => ?_)
  · replace h := ifn c2 h
    refine lv_aload_n hx hb dX5_result_11 rfl (lv_at hl 0 rfl) ?_
    obtain ⟨v3, hv3, h⟩ := ob h
    refine r_Vi (rest := []) C0 z0 (c_X5_hasTipped hB hv3) lk_X5_87 (X5_k0 hB) rfl rfl hl.1 rfl (Nat.le_of_ble_eq_true rfl) (by decide) hw dX5_result_12 (fun {H} {locs} hw => ?_)
    refine lv_if_eq (tgt := 27) hx hb dX5_result_15 (by decide) (fun c4 => ?_) (fun c4 => ?_)
    · replace h := ifp c4 h
      refine lv_iconst (v := (3 : Int32)) hx hb dX5_result_27 (by decide) ?_
      have h1 := Option.some.inj h
      subst h1
      exact r_iret hx hb hr hlk hK hd hw dX5_result_28
    · replace h := ifn c4 h
      refine lv_aload_n hx hb dX5_result_18 rfl (lv_at hl 0 rfl) ?_
      obtain ⟨v5, hv5, h⟩ := ob h
      refine r_Vi (rest := []) C0 z0 (c_X5_winner hB hv5) lk_X5_97 (X5_k0 hB) rfl rfl hl.1 rfl (Nat.le_of_ble_eq_true rfl) (by decide) hw dX5_result_19 (fun {H} {locs} hw => ?_)
      refine lv_iconst (v := (1 : Int32)) hx hb dX5_result_22 (by decide) ?_
      refine lv_iadd hx hb dX5_result_23 ?_
      refine lv_goto (tgt := 28) hx hb dX5_result_24 (by decide) ?_
      have h1 := Option.some.inj h
      subst h1
      exact r_iret hx hb hr hlk hK hd hw dX5_result_28
  · replace h := ifp c2 h
    refine lv_iconst (v := (0 : Int32)) hx hb dX5_result_7 (by decide) ?_
    refine lv_goto (tgt := 28) hx hb dX5_result_8 (by decide) ?_
    have h1 := Option.some.inj h
    subst h1
    exact r_iret hx hb hr hlk hK hd hw dX5_result_28
theorem c_X5_result {l : Launch} {γ : Ev} {o : Nat} {σ : Mm} {r : Int32} {Z : Mm} (hB : isX5 γ o) (h : s_X5_result Z = some r) : Ct l yX5_result cX5_result 1 (some .int) 5 117 γ [.ref (eA γ o)] (st 10 σ o Z) (some (.int r)) (st 10 σ o Z) := Ct.of (own := RX5) (by decide +kernel) rfl (Nat.le_of_ble_eq_true rfl) (fun C hw ls hl => b_X5_result C hB h hw hl)
set_option maxHeartbeats 4000000 in
set_option maxRecDepth 10000 in
theorem b_X5_goal {γ : Ev} {μ : Mm} {r : Int32} {x0 x1 : Int32} (C : Cx p R s m args meth c RX5 cX5_goal 4 (some .int) 3 72 γ) (h : s_X5_goal x0 x1 = some r) (hw : Wo γ μ s H locs) (hl : lv_has ls 4 [(0, .int x0), (1, .int x1)]) : W p l e R s m args below meth c H locs 0 0 (MQ below (Qo γ (some (.int r)) μ) args s 0 0 (AK γ)) (F0 m 0 ls []) := by
  have C0 := C
  obtain ⟨hx, hb, hr, hml, hown, hts, hlk, hK, hd, hF, hL⟩ := C
  unfold s_X5_goal at h
  refine lv_iload_n hx hb dX5_goal_0 rfl (lv_at hl 0 rfl) ?_
  refine lv_bipush (v := (6 : Int32)) hx hb dX5_goal_1 (by decide) ?_
  refine lv_icmp_ge (tgt := 8) hx hb dX5_goal_3 (by decide) (fun c1 => ?_) (fun c1 => ?_)
  · replace h := ifp c1 h
    refine lv_iload_n hx hb dX5_goal_8 rfl (lv_at hl 1 rfl) ?_
    refine jn_elim h (fun (k : Int32 → Option Int32) => ∀ (v3 : Int32) {H : Heap} {locs : List Loc} {ls : Array Slot}, k v3 = some r → Wo γ μ s H locs → lv_has ls 4 [(0, .int x0), (1, .int x1)] → W p l e R s m args below meth c H locs 0 0 (MQ below (Qo γ (some (.int r)) μ) args s 0 0 (AK γ)) (F0 m 17 ls [.int v3])) ?_ ?_
    · intro v3 H locs ls h hw hl
      refine lv_istore_n (lv' := [(2, .int v3), (0, .int x0), (1, .int x1)]) hx hb dX5_goal_17 rfl hl (by decide) rfl (fun ls hl => ?_)
      refine lv_iload_n hx hb dX5_goal_18 rfl (lv_at hl 1 rfl) ?_
      refine lv_bipush (v := (6 : Int32)) hx hb dX5_goal_19 (by decide) ?_
      refine jn_elim h (fun (k : Int32 → Option Int32) => ∀ (v8 : Int32) {H : Heap} {locs : List Loc} {ls : Array Slot}, k v8 = some r → Wo γ μ s H locs → lv_has ls 4 [] → W p l e R s m args below meth c H locs 0 0 (MQ below (Qo γ (some (.int r)) μ) args s 0 0 (AK γ)) (F0 m 43 ls [.int v8])) ?_ ?_
      · intro v8 H locs ls h hw hl
        refine lv_istore_n (lv' := [(3, .int v8)]) hx hb dX5_goal_43 rfl hl (by decide) rfl (fun ls hl => ?_)
        refine lv_iload_n hx hb dX5_goal_44 rfl (lv_at hl 0 rfl) ?_
        obtain ⟨v9, hv9, h⟩ := ob h
        refine r_Si (rest := []) C0 z0 (c_X5_isPlace hv9) lk_X5_100 hl.1 rfl (Nat.le_of_ble_eq_true rfl) (by decide) hw dX5_goal_45 (fun {H} {locs} hw => ?_)
        refine lv_if_eq (tgt := 55) hx hb dX5_goal_48 (by decide) (fun c10 => ?_) (fun c10 => ?_)
        · replace h := ifp c10 h
          refine lv_iconst (v := (0 : Int32)) hx hb dX5_goal_55 (by decide) ?_
          have h1 := Option.some.inj h
          subst h1
          exact r_iret hx hb hr hlk hK hd hw dX5_goal_56
        · replace h := ifn c10 h
          refine lv_iload_n hx hb dX5_goal_51 rfl (lv_at hl 0 rfl) ?_
          refine lv_goto (tgt := 56) hx hb dX5_goal_52 (by decide) ?_
          have h1 := Option.some.inj h
          subst h1
          exact r_iret hx hb hr hlk hK hd hw dX5_goal_56
      intro k7 J_k7 h
      refine lv_icmp_ne (tgt := 40) hx hb dX5_goal_21 (by decide) (fun c11 => ?_) (fun c11 => ?_)
      · replace h := ifn c11 h
        refine lv_iload_n hx hb dX5_goal_40 rfl (lv_at hl 2 rfl) ?_
        refine lv_iload_n hx hb dX5_goal_41 rfl (lv_at hl 0 rfl) ?_
        refine lv_iadd hx hb dX5_goal_42 ?_
        exact J_k7 (x1 + v3) h hw (lv_sub hl [] rfl)
      · replace h := ifp c11 h
        refine lv_iload_n hx hb dX5_goal_24 rfl (lv_at hl 2 rfl) ?_
        refine lv_iload_n hx hb dX5_goal_25 rfl (lv_at hl 0 rfl) ?_
        refine lv_icmp_ne (tgt := 34) hx hb dX5_goal_26 (by decide) (fun c12 => ?_) (fun c12 => ?_)
        · replace h := ifn c12 h
          refine lv_iload_n hx hb dX5_goal_34 rfl (lv_at hl 2 rfl) ?_
          refine lv_iload_n hx hb dX5_goal_35 rfl (lv_at hl 0 rfl) ?_
          refine lv_isub hx hb dX5_goal_36 ?_
          refine lv_goto (tgt := 43) hx hb dX5_goal_37 (by decide) ?_
          exact J_k7 (x1 - v3) h hw (lv_sub hl [] rfl)
        · replace h := ifp c12 h
          refine lv_iload_n hx hb dX5_goal_29 rfl (lv_at hl 0 rfl) ?_
          refine lv_ineg hx hb dX5_goal_30 ?_
          refine lv_goto (tgt := 43) hx hb dX5_goal_31 (by decide) ?_
          exact J_k7 (-v3) h hw (lv_sub hl [] rfl)
    intro k2 J_k2 h
    refine lv_if_ge (tgt := 16) hx hb dX5_goal_9 (by decide) (fun c13 => ?_) (fun c13 => ?_)
    · replace h := ifp c13 h
      refine lv_iconst (v := (1 : Int32)) hx hb dX5_goal_16 (by decide) ?_
      exact J_k2 (1 : Int32) h hw (lv_sub hl [0, 1] rfl)
    · replace h := ifn c13 h
      refine lv_iconst (v := (-1 : Int32)) hx hb dX5_goal_12 (by decide) ?_
      refine lv_goto (tgt := 17) hx hb dX5_goal_13 (by decide) ?_
      exact J_k2 (-1 : Int32) h hw (lv_sub hl [0, 1] rfl)
  · replace h := ifn c1 h
    refine lv_iload_n hx hb dX5_goal_6 rfl (lv_at hl 1 rfl) ?_
    have h1 := Option.some.inj h
    subst h1
    exact r_iret hx hb hr hlk hK hd hw dX5_goal_7
theorem c_X5_goal {l : Launch} {γ : Ev} {μ : Mm} {r : Int32} {x0 x1 : Int32} (h : s_X5_goal x0 x1 = some r) : Ct l yX5_goal cX5_goal 4 (some .int) 3 72 γ [.int x0, .int x1] μ (some (.int r)) μ := Ct.of (own := RX5) (by decide +kernel) rfl (Nat.le_of_ble_eq_true rfl) (fun C hw ls hl => b_X5_goal C h hw hl)
set_option maxHeartbeats 4000000 in
set_option maxRecDepth 10000 in
theorem b_X5_whyNot {γ : Ev} {o : Nat} {σ : Mm} {r : Int32} {Z : Mm} {x1 x2 : Int32} (C : Cx p R s m args meth c RX5 cX5_whyNot 4 (some .int) 5 117 γ) (hB : isX5 γ o) (h : s_X5_whyNot Z x1 x2 = some r) (hw : Wo γ (st 10 σ o Z) s H locs) (hl : lv_has ls 4 [(0, .ref (eA γ o)), (1, .int x1), (2, .int x2)]) : W p l e R s m args below meth c H locs 0 0 (MQ below (Qo γ (some (.int r)) (st 10 σ o Z)) args s 0 0 (AK γ)) (F0 m 0 ls []) := by
  have C0 := C
  obtain ⟨hx, hb, hr, hml, hown, hts, hlk, hK, hd, hF, hL⟩ := C
  unfold s_X5_whyNot at h
  refine lv_aload_n hx hb dX5_whyNot_0 rfl (lv_at hl 0 rfl) ?_
  obtain ⟨v1, hv1, h⟩ := ob h
  refine r_Vi (rest := []) C0 z0 (c_X5_isOver hB hv1) lk_X5_94 (X5_k0 hB) rfl rfl hl.1 rfl (Nat.le_of_ble_eq_true rfl) (by decide) hw dX5_whyNot_1 (fun {H} {locs} hw => ?_)
  refine lv_if_eq (tgt := 9) hx hb dX5_whyNot_4 (by decide) (fun c2 => ?_) (fun c2 => ?_)
  · replace h := ifp c2 h
    refine lv_iload_n hx hb dX5_whyNot_9 rfl (lv_at hl 1 rfl) ?_
    refine lv_bipush (v := (6 : Int32)) hx hb dX5_whyNot_10 (by decide) ?_
    refine jn_elim h (fun (k : Unit → Option Int32) => ∀ (u : Unit) {H : Heap} {locs : List Loc} {ls : Array Slot}, k u = some r → Wo γ (st 10 σ o Z) s H locs → lv_has ls 4 [(0, .ref (eA γ o)), (1, .int x1), (2, .int x2)] → W p l e R s m args below meth c H locs 0 0 (MQ below (Qo γ (some (.int r)) (st 10 σ o Z)) args s 0 0 (AK γ)) (F0 m 43 ls [])) ?_ ?_
    · intro u H locs ls h hw hl
      refine lv_iload_n hx hb dX5_whyNot_43 rfl (lv_at hl 1 rfl) ?_
      refine lv_bipush (v := (6 : Int32)) hx hb dX5_whyNot_44 (by decide) ?_
      refine jn_elim h (fun (k : Unit → Option Int32) => ∀ (u : Unit) {H : Heap} {locs : List Loc} {ls : Array Slot}, k u = some r → Wo γ (st 10 σ o Z) s H locs → lv_has ls 4 [(0, .ref (eA γ o)), (1, .int x1), (2, .int x2)] → W p l e R s m args below meth c H locs 0 0 (MQ below (Qo γ (some (.int r)) (st 10 σ o Z)) args s 0 0 (AK γ)) (F0 m 70 ls [])) ?_ ?_
      · intro u H locs ls h hw hl
        refine lv_iload_n hx hb dX5_whyNot_70 rfl (lv_at hl 1 rfl) ?_
        refine lv_iload_n hx hb dX5_whyNot_71 rfl (lv_at hl 2 rfl) ?_
        obtain ⟨v10, hv10, h⟩ := ob h
        refine r_Si (rest := []) C0 z0 (c_X5_goal hv10) lk_X5_104 hl.1 rfl (Nat.le_of_ble_eq_true rfl) (by decide) hw dX5_whyNot_72 (fun {H} {locs} hw => ?_)
        refine lv_istore_n (lv' := [(3, .int v10), (0, .ref (eA γ o)), (1, .int x1), (2, .int x2)]) hx hb dX5_whyNot_75 rfl hl (by decide) rfl (fun ls hl => ?_)
        refine lv_iload_n hx hb dX5_whyNot_76 rfl (lv_at hl 0 rfl) ?_
        refine lv_if_eq (tgt := 94) hx hb dX5_whyNot_77 (by decide) (fun c11 => ?_) (fun c11 => ?_)
        · replace h := ifp c11 h
          refine lv_iconst (v := (4 : Int32)) hx hb dX5_whyNot_94 (by decide) ?_
          refine lv_goto (tgt := 99) hx hb dX5_whyNot_95 (by decide) ?_
          have h1 := Option.some.inj h
          subst h1
          exact r_iret hx hb hr hlk hK hd hw dX5_whyNot_99
        · replace h := ifn c11 h
          refine lv_aload_n hx hb dX5_whyNot_80 rfl (lv_at hl 1 rfl) ?_
          refine lv_iload_n hx hb dX5_whyNot_81 rfl (lv_at hl 0 rfl) ?_
          obtain ⟨v12, hv12, h⟩ := ob h
          refine r_Vi (rest := []) C0 z0 (c_X5_many hB hv12) lk_X5_64 (X5_k0 hB) rfl rfl hl.1 rfl (Nat.le_of_ble_eq_true rfl) (by decide) hw dX5_whyNot_82 (fun {H} {locs} hw => ?_)
          refine lv_aload_n hx hb dX5_whyNot_85 rfl (lv_at hl 1 rfl) ?_
          refine r_get (v := .ref (eA γ (o + 1))) hx hb hts hK hw hown inX5 rfl (X5_k0 hB) (st_at0 (by decide)) 0 (by decide) wd_573 rfl dX5_whyNot_86 ?_
          refine lv_iconst (v := (0 : Int32)) hx hb dX5_whyNot_89 (by decide) ?_
          obtain ⟨v13, hv13, h⟩ := ob h
          refine r_iald hx hb hK hw (X5_k1 hB) (st_at (by decide)) hv13 dX5_whyNot_90 ?_
          refine lv_icmp_lt (tgt := 98) hx hb dX5_whyNot_91 (by decide) (fun c14 => ?_) (fun c14 => ?_)
          · replace h := ifp c14 h
            refine lv_iconst (v := (0 : Int32)) hx hb dX5_whyNot_98 (by decide) ?_
            have h1 := Option.some.inj h
            subst h1
            exact r_iret hx hb hr hlk hK hd hw dX5_whyNot_99
          · replace h := ifn c14 h
            refine lv_iconst (v := (4 : Int32)) hx hb dX5_whyNot_94 (by decide) ?_
            refine lv_goto (tgt := 99) hx hb dX5_whyNot_95 (by decide) ?_
            have h1 := Option.some.inj h
            subst h1
            exact r_iret hx hb hr hlk hK hd hw dX5_whyNot_99
      intro k9 J_k9 h
      refine lv_icmp_lt (tgt := 70) hx hb dX5_whyNot_46 (by decide) (fun c15 => ?_) (fun c15 => ?_)
      · replace h := ifp c15 h
        exact J_k9 () h hw (lv_sub hl [0, 1, 2] rfl)
      · replace h := ifn c15 h
        refine lv_aload_n hx hb dX5_whyNot_49 rfl (lv_at hl 0 rfl) ?_
        refine lv_iload_n hx hb dX5_whyNot_50 rfl (lv_at hl 2 rfl) ?_
        obtain ⟨v16, hv16, h⟩ := ob h
        refine r_Vi (rest := []) C0 z0 (c_X5_many hB hv16) lk_X5_64 (X5_k0 hB) rfl rfl hl.1 rfl (Nat.le_of_ble_eq_true rfl) (by decide) hw dX5_whyNot_51 (fun {H} {locs} hw => ?_)
        refine lv_if_eq (tgt := 68) hx hb dX5_whyNot_54 (by decide) (fun c17 => ?_) (fun c17 => ?_)
        · replace h := ifp c17 h
          refine lv_iconst (v := (3 : Int32)) hx hb dX5_whyNot_68 (by decide) ?_
          have h1 := Option.some.inj h
          subst h1
          exact r_iret hx hb hr hlk hK hd hw dX5_whyNot_69
        · replace h := ifn c17 h
          refine lv_aload_n hx hb dX5_whyNot_57 rfl (lv_at hl 0 rfl) ?_
          refine r_get (v := .ref (eA γ (o + 1))) hx hb hts hK hw hown inX5 rfl (X5_k0 hB) (st_at0 (by decide)) 0 (by decide) wd_573 rfl dX5_whyNot_58 ?_
          refine lv_bipush (v := (11 : Int32)) hx hb dX5_whyNot_61 (by decide) ?_
          obtain ⟨v18, hv18, h⟩ := ob h
          refine r_iald hx hb hK hw (X5_k1 hB) (st_at (by decide)) hv18 dX5_whyNot_63 ?_
          refine lv_iload_n hx hb dX5_whyNot_64 rfl (lv_at hl 2 rfl) ?_
          refine lv_icmp_ne (tgt := 70) hx hb dX5_whyNot_65 (by decide) (fun c19 => ?_) (fun c19 => ?_)
          · replace h := ifn c19 h
            exact J_k9 () h hw (lv_sub hl [0, 1, 2] rfl)
          · replace h := ifp c19 h
            refine lv_iconst (v := (3 : Int32)) hx hb dX5_whyNot_68 (by decide) ?_
            have h1 := Option.some.inj h
            subst h1
            exact r_iret hx hb hr hlk hK hd hw dX5_whyNot_69
    intro k6 J_k6 h
    refine lv_icmp_ge (tgt := 32) hx hb dX5_whyNot_12 (by decide) (fun c20 => ?_) (fun c20 => ?_)
    · replace h := ifp c20 h
      refine lv_aload_n hx hb dX5_whyNot_32 rfl (lv_at hl 0 rfl) ?_
      refine r_get (v := .ref (eA γ (o + 1))) hx hb hts hK hw hown inX5 rfl (X5_k0 hB) (st_at0 (by decide)) 0 (by decide) wd_573 rfl dX5_whyNot_33 ?_
      refine lv_iconst (v := (2 : Int32)) hx hb dX5_whyNot_36 (by decide) ?_
      obtain ⟨v21, hv21, h⟩ := ob h
      refine r_iald hx hb hK hw (X5_k1 hB) (st_at (by decide)) hv21 dX5_whyNot_37 ?_
      refine lv_if_ne (tgt := 43) hx hb dX5_whyNot_38 (by decide) (fun c22 => ?_) (fun c22 => ?_)
      · replace h := ifn c22 h
        exact J_k6 () h hw (lv_sub hl [0, 1, 2] rfl)
      · replace h := ifp c22 h
        refine lv_iconst (v := (2 : Int32)) hx hb dX5_whyNot_41 (by decide) ?_
        have h1 := Option.some.inj h
        subst h1
        exact r_iret hx hb hr hlk hK hd hw dX5_whyNot_42
    · replace h := ifn c20 h
      refine lv_aload_n hx hb dX5_whyNot_15 rfl (lv_at hl 0 rfl) ?_
      refine lv_aload_n hx hb dX5_whyNot_16 rfl (lv_at hl 0 rfl) ?_
      refine r_get (v := .ref (eA γ (o + 1))) hx hb hts hK hw hown inX5 rfl (X5_k0 hB) (st_at0 (by decide)) 0 (by decide) wd_573 rfl dX5_whyNot_17 ?_
      refine lv_iconst (v := (4 : Int32)) hx hb dX5_whyNot_20 (by decide) ?_
      obtain ⟨v23, hv23, h⟩ := ob h
      refine r_iald hx hb hK hw (X5_k1 hB) (st_at (by decide)) hv23 dX5_whyNot_21 ?_
      refine lv_iload_n hx hb dX5_whyNot_22 rfl (lv_at hl 1 rfl) ?_
      obtain ⟨v24, hv24, h⟩ := ob h
      refine r_Vi (rest := []) C0 z0 (c_X5_inBag hB hv24) lk_X5_57 (X5_k0 hB) rfl rfl hl.1 rfl (Nat.le_of_ble_eq_true rfl) (by decide) hw dX5_whyNot_23 (fun {H} {locs} hw => ?_)
      refine lv_if_ne (tgt := 43) hx hb dX5_whyNot_26 (by decide) (fun c25 => ?_) (fun c25 => ?_)
      · replace h := ifn c25 h
        exact J_k6 () h hw (lv_sub hl [0, 1, 2] rfl)
      · replace h := ifp c25 h
        refine lv_goto (tgt := 41) hx hb dX5_whyNot_29 (by decide) ?_
        refine lv_iconst (v := (2 : Int32)) hx hb dX5_whyNot_41 (by decide) ?_
        have h1 := Option.some.inj h
        subst h1
        exact r_iret hx hb hr hlk hK hd hw dX5_whyNot_42
  · replace h := ifn c2 h
    refine lv_iconst (v := (1 : Int32)) hx hb dX5_whyNot_7 (by decide) ?_
    have h1 := Option.some.inj h
    subst h1
    exact r_iret hx hb hr hlk hK hd hw dX5_whyNot_8
theorem c_X5_whyNot {l : Launch} {γ : Ev} {o : Nat} {σ : Mm} {r : Int32} {Z : Mm} {x1 x2 : Int32} (hB : isX5 γ o) (h : s_X5_whyNot Z x1 x2 = some r) : Ct l yX5_whyNot cX5_whyNot 4 (some .int) 5 117 γ [.ref (eA γ o), .int x1, .int x2] (st 10 σ o Z) (some (.int r)) (st 10 σ o Z) := Ct.of (own := RX5) (by decide +kernel) rfl (Nat.le_of_ble_eq_true rfl) (fun C hw ls hl => b_X5_whyNot C hB h hw hl)
set_option maxHeartbeats 4000000 in
set_option maxRecDepth 10000 in
theorem b_X5_change {γ : Ev} {o : Nat} {σ : Mm} {Bf : Mm} {Z : Mm} {x1 x2 : Int32} (C : Cx p R s m args meth c RX5 cX5_change 5 none 4 97 γ) (hB : isX5 γ o) (h : s_X5_change Z x1 x2 = some Bf) (hw : Wo γ (st 10 σ o Z) s H locs) (hl : lv_has ls 5 [(0, .ref (eA γ o)), (1, .int x1), (2, .int x2)]) : W p l e R s m args below meth c H locs 0 0 (MQ below (Qo γ none (st 10 σ o Bf)) args s 0 0 (AK γ)) (F0 m 0 ls []) := by
  have C0 := C
  obtain ⟨hx, hb, hr, hml, hown, hts, hlk, hK, hd, hF, hL⟩ := C
  unfold s_X5_change at h
  refine lv_iload_n hx hb dX5_change_0 rfl (lv_at hl 1 rfl) ?_
  refine lv_iload_n hx hb dX5_change_1 rfl (lv_at hl 2 rfl) ?_
  obtain ⟨v1, hv1, h⟩ := ob h
  refine r_Si (rest := []) C0 z0 (c_X5_goal hv1) lk_X5_104 hl.1 rfl (Nat.le_of_ble_eq_true rfl) (by decide) hw dX5_change_2 (fun {H} {locs} hw => ?_)
  refine lv_istore_n (lv' := [(3, .int v1), (0, .ref (eA γ o)), (1, .int x1), (2, .int x2)]) hx hb dX5_change_5 rfl hl (by decide) rfl (fun ls hl => ?_)
  refine lv_iload_n hx hb dX5_change_6 rfl (lv_at hl 2 rfl) ?_
  refine lv_bipush (v := (6 : Int32)) hx hb dX5_change_7 (by decide) ?_
  refine jn_elim h (fun (k : Mm → Option (Mm)) => ∀ (N11 : Mm) {H : Heap} {locs : List Loc} {ls : Array Slot}, k N11 = some Bf → Wo γ (st 10 σ o N11) s H locs → lv_has ls 5 [(0, .ref (eA γ o))] → W p l e R s m args below meth c H locs 0 0 (MQ below (Qo γ none (st 10 σ o Bf)) args s 0 0 (AK γ)) (F0 m 63 ls [])) ?_ ?_
  · intro N11 H locs ls h hw hl
    refine lv_aload_n hx hb dX5_change_63 rfl (lv_at hl 0 rfl) ?_
    refine r_get (v := .ref (eA γ (o + 1))) hx hb hts hK hw hown inX5 rfl (X5_k0 hB) (st_at0 (by decide)) 0 (by decide) wd_573 rfl dX5_change_64 ?_
    refine lv_bipush (v := (10 : Int32)) hx hb dX5_change_67 (by decide) ?_
    refine lv_aload_n hx hb dX5_change_69 rfl (lv_at hl 0 rfl) ?_
    refine r_get (v := .ref (eA γ (o + 1))) hx hb hts hK hw hown inX5 rfl (X5_k0 hB) (st_at0 (by decide)) 0 (by decide) wd_573 rfl dX5_change_70 ?_
    refine lv_iconst (v := (4 : Int32)) hx hb dX5_change_73 (by decide) ?_
    obtain ⟨v12, hv12, h⟩ := ob h
    refine r_iald hx hb hK hw (X5_k1 hB) (st_at (by decide)) hv12 dX5_change_74 ?_
    obtain ⟨N13, hN13, h⟩ := ob h
    refine r_iast hx hb hK hd hw (by decide) (X5_k1 hB) hN13 dX5_change_75 (fun {H} {locs} hw => ?_)
    refine lv_aload_n hx hb dX5_change_76 rfl (lv_at hl 0 rfl) ?_
    refine r_get (v := .ref (eA γ (o + 1))) hx hb hts hK hw hown inX5 rfl (X5_k0 hB) (st_at0 (by decide)) 0 (by decide) wd_573 rfl dX5_change_77 ?_
    refine lv_iconst (v := (2 : Int32)) hx hb dX5_change_80 (by decide) ?_
    obtain ⟨v14, hv14, h⟩ := ob h
    refine r_iald hx hb hK hw (X5_k1 hB) (st_at (by decide)) hv14 dX5_change_81 ?_
    refine jn_elim h (fun (k : Int32 → Option (Mm)) => ∀ (v21 : Int32) {H : Heap} {locs : List Loc} {ls : Array Slot}, k v21 = some Bf → Wo γ (st 10 σ o N13) s H locs → lv_has ls 5 [(0, .ref (eA γ o))] → W p l e R s m args below meth c H locs 0 0 (MQ below (Qo γ none (st 10 σ o Bf)) args s 0 0 (AK γ)) (F0 m 118 ls [.int v21])) ?_ ?_
    · intro v21 H locs ls h hw hl
      refine lv_istore (lv' := [(4, .int v21), (0, .ref (eA γ o))]) hx hb dX5_change_118 hl (by decide) rfl (fun ls hl => ?_)
      refine lv_aload_n hx hb dX5_change_120 rfl (lv_at hl 1 rfl) ?_
      refine r_get (v := .ref (eA γ (o + 1))) hx hb hts hK hw hown inX5 rfl (X5_k0 hB) (st_at0 (by decide)) 0 (by decide) wd_573 rfl dX5_change_121 ?_
      refine lv_iconst (v := (4 : Int32)) hx hb dX5_change_124 (by decide) ?_
      refine lv_iload hx hb dX5_change_125 (lv_at hl 0 rfl) ?_
      refine lv_if_eq (tgt := 139) hx hb dX5_change_127 (by decide) (fun c22 => ?_) (fun c22 => ?_)
      · replace h := ifp c22 h
        refine lv_iconst (v := (1 : Int32)) hx hb dX5_change_139 (by decide) ?_
        refine lv_aload_n hx hb dX5_change_140 rfl (lv_at hl 1 rfl) ?_
        refine r_get (v := .ref (eA γ (o + 1))) hx hb hts hK hw hown inX5 rfl (X5_k0 hB) (st_at0 (by decide)) 0 (by decide) wd_573 rfl dX5_change_141 ?_
        refine lv_iconst (v := (4 : Int32)) hx hb dX5_change_144 (by decide) ?_
        obtain ⟨v23, hv23, h⟩ := ob h
        refine r_iald hx hb hK hw (X5_k1 hB) (st_at (by decide)) hv23 dX5_change_145 ?_
        refine lv_isub hx hb dX5_change_146 ?_
        obtain ⟨N24, hN24, h⟩ := ob h
        refine r_iast hx hb hK hd hw (by decide) (X5_k1 hB) hN24 dX5_change_147 (fun {H} {locs} hw => ?_)
        have h1 := Option.some.inj h
        subst h1
        exact r_vret hx hb hr hlk hK hd hw dX5_change_148
      · replace h := ifn c22 h
        refine lv_aload_n hx hb dX5_change_130 rfl (lv_at hl 1 rfl) ?_
        refine r_get (v := .ref (eA γ (o + 1))) hx hb hts hK hw hown inX5 rfl (X5_k0 hB) (st_at0 (by decide)) 0 (by decide) wd_573 rfl dX5_change_131 ?_
        refine lv_iconst (v := (4 : Int32)) hx hb dX5_change_134 (by decide) ?_
        obtain ⟨v25, hv25, h⟩ := ob h
        refine r_iald hx hb hK hw (X5_k1 hB) (st_at (by decide)) hv25 dX5_change_135 ?_
        refine lv_goto (tgt := 147) hx hb dX5_change_136 (by decide) ?_
        obtain ⟨N26, hN26, h⟩ := ob h
        refine r_iast hx hb hK hd hw (by decide) (X5_k1 hB) hN26 dX5_change_147 (fun {H} {locs} hw => ?_)
        have h1 := Option.some.inj h
        subst h1
        exact r_vret hx hb hr hlk hK hd hw dX5_change_148
    intro k20 J_k20 h
    refine jn_elim h (fun (k : Unit → Option (Mm)) => ∀ (u : Unit) {H : Heap} {locs : List Loc} {ls : Array Slot}, k u = some Bf → Wo γ (st 10 σ o N13) s H locs → lv_has ls 5 [(0, .ref (eA γ o))] → W p l e R s m args below meth c H locs 0 0 (MQ below (Qo γ none (st 10 σ o Bf)) args s 0 0 (AK γ)) (F0 m 117 ls [])) ?_ ?_
    · intro u H locs ls h hw hl
      refine lv_iconst (v := (0 : Int32)) hx hb dX5_change_117 (by decide) ?_
      exact J_k20 (0 : Int32) h hw (lv_sub hl [0] rfl)
    intro k37 J_k37 h
    refine lv_if_ne (tgt := 117) hx hb dX5_change_82 (by decide) (fun c38 => ?_) (fun c38 => ?_)
    · replace h := ifn c38 h
      exact J_k37 () h hw (lv_sub hl [0] rfl)
    · replace h := ifp c38 h
      refine lv_aload_n hx hb dX5_change_85 rfl (lv_at hl 0 rfl) ?_
      refine lv_iconst (v := (1 : Int32)) hx hb dX5_change_86 (by decide) ?_
      refine lv_aload_n hx hb dX5_change_87 rfl (lv_at hl 0 rfl) ?_
      refine r_get (v := .ref (eA γ (o + 1))) hx hb hts hK hw hown inX5 rfl (X5_k0 hB) (st_at0 (by decide)) 0 (by decide) wd_573 rfl dX5_change_88 ?_
      refine lv_iconst (v := (4 : Int32)) hx hb dX5_change_91 (by decide) ?_
      obtain ⟨v39, hv39, h⟩ := ob h
      refine r_iald hx hb hK hw (X5_k1 hB) (st_at (by decide)) hv39 dX5_change_92 ?_
      refine lv_isub hx hb dX5_change_93 ?_
      obtain ⟨v40, hv40, h⟩ := ob h
      refine r_Vi (rest := []) C0 z0 (c_X5_allIn hB hv40) lk_X5_91 (X5_k0 hB) rfl rfl hl.1 rfl (Nat.le_of_ble_eq_true rfl) (by decide) hw dX5_change_94 (fun {H} {locs} hw => ?_)
      refine lv_if_ne (tgt := 117) hx hb dX5_change_97 (by decide) (fun c41 => ?_) (fun c41 => ?_)
      · replace h := ifn c41 h
        exact J_k37 () h hw (lv_sub hl [0] rfl)
      · replace h := ifp c41 h
        refine lv_aload_n hx hb dX5_change_100 rfl (lv_at hl 0 rfl) ?_
        refine lv_aload_n hx hb dX5_change_101 rfl (lv_at hl 0 rfl) ?_
        refine r_get (v := .ref (eA γ (o + 1))) hx hb hts hK hw hown inX5 rfl (X5_k0 hB) (st_at0 (by decide)) 0 (by decide) wd_573 rfl dX5_change_102 ?_
        refine lv_iconst (v := (4 : Int32)) hx hb dX5_change_105 (by decide) ?_
        obtain ⟨v42, hv42, h⟩ := ob h
        refine r_iald hx hb hK hw (X5_k1 hB) (st_at (by decide)) hv42 dX5_change_106 ?_
        obtain ⟨v43, hv43, h⟩ := ob h
        refine r_Vi (rest := []) C0 z0 (c_X5_allIn hB hv43) lk_X5_91 (X5_k0 hB) rfl rfl hl.1 rfl (Nat.le_of_ble_eq_true rfl) (by decide) hw dX5_change_107 (fun {H} {locs} hw => ?_)
        refine lv_if_le (tgt := 117) hx hb dX5_change_110 (by decide) (fun c44 => ?_) (fun c44 => ?_)
        · replace h := ifp c44 h
          exact J_k37 () h hw (lv_sub hl [0] rfl)
        · replace h := ifn c44 h
          refine lv_iconst (v := (1 : Int32)) hx hb dX5_change_113 (by decide) ?_
          refine lv_goto (tgt := 118) hx hb dX5_change_114 (by decide) ?_
          exact J_k20 (1 : Int32) h hw (lv_sub hl [0] rfl)
  intro k10 J_k10 h
  refine lv_icmp_ge (tgt := 41) hx hb dX5_change_9 (by decide) (fun c45 => ?_) (fun c45 => ?_)
  · replace h := ifp c45 h
    refine lv_aload_n hx hb dX5_change_41 rfl (lv_at hl 1 rfl) ?_
    refine lv_iload_n hx hb dX5_change_42 rfl (lv_at hl 3 rfl) ?_
    obtain ⟨q46, hq46, h⟩ := ob h
    refine r_Vi (rest := []) C0 z0 (c_X5_takeOff hB hq46) lk_X5_111 (X5_k0 hB) rfl rfl hl.1 rfl (Nat.le_of_ble_eq_true rfl) (by decide) hw dX5_change_43 (fun {H} {locs} hw => ?_)
    obtain ⟨v47, ev47, h⟩ := jb h
    refine r_top ev47 ?_
    refine lv_istore (lv' := [(4, .int v47), (3, .int v1), (0, .ref (eA γ o)), (1, .int x1), (2, .int x2)]) hx hb dX5_change_46 hl (by decide) rfl (fun ls hl => ?_)
    refine lv_aload_n hx hb dX5_change_48 rfl (lv_at hl 2 rfl) ?_
    refine lv_iload_n hx hb dX5_change_49 rfl (lv_at hl 1 rfl) ?_
    refine lv_iload hx hb dX5_change_50 (lv_at hl 0 rfl) ?_
    obtain ⟨N48, hN48, h⟩ := ob h
    refine r_Vv (rest := []) C0 z0 (c_X5_put hB hN48) lk_X5_107 (X5_k0 hB) rfl rfl hl.1 rfl (Nat.le_of_ble_eq_true rfl) (by decide) hw dX5_change_52 (fun {H} {locs} hw => ?_)
    refine lv_aload_n hx hb dX5_change_55 rfl (lv_at hl 2 rfl) ?_
    refine r_get (v := .ref (eA γ (o + 1))) hx hb hts hK hw hown inX5 rfl (X5_k0 hB) (st_at0 (by decide)) 0 (by decide) wd_573 rfl dX5_change_56 ?_
    refine lv_bipush (v := (11 : Int32)) hx hb dX5_change_59 (by decide) ?_
    refine lv_iload_n hx hb dX5_change_61 rfl (lv_at hl 1 rfl) ?_
    obtain ⟨N49, hN49, h⟩ := ob h
    refine r_iast hx hb hK hd hw (by decide) (X5_k1 hB) hN49 dX5_change_62 (fun {H} {locs} hw => ?_)
    exact J_k10 N49 h hw (lv_sub hl [2] rfl)
  · replace h := ifn c45 h
    refine lv_aload_n hx hb dX5_change_12 rfl (lv_at hl 1 rfl) ?_
    refine lv_aload_n hx hb dX5_change_13 rfl (lv_at hl 1 rfl) ?_
    refine r_get (v := .ref (eA γ (o + 1))) hx hb hts hK hw hown inX5 rfl (X5_k0 hB) (st_at0 (by decide)) 0 (by decide) wd_573 rfl dX5_change_14 ?_
    refine lv_iconst (v := (4 : Int32)) hx hb dX5_change_17 (by decide) ?_
    obtain ⟨v50, hv50, h⟩ := ob h
    refine r_iald hx hb hK hw (X5_k1 hB) (st_at (by decide)) hv50 dX5_change_18 ?_
    refine lv_iload_n hx hb dX5_change_19 rfl (lv_at hl 2 rfl) ?_
    refine lv_iconst (v := (-1 : Int32)) hx hb dX5_change_20 (by decide) ?_
    obtain ⟨N51, hN51, h⟩ := ob h
    refine r_Vv (rest := []) C0 z0 (c_X5_addBag hB hN51) lk_X5_45 (X5_k0 hB) rfl rfl hl.1 rfl (Nat.le_of_ble_eq_true rfl) (by decide) hw dX5_change_21 (fun {H} {locs} hw => ?_)
    refine lv_aload_n hx hb dX5_change_24 rfl (lv_at hl 1 rfl) ?_
    refine lv_iload_n hx hb dX5_change_25 rfl (lv_at hl 0 rfl) ?_
    refine lv_iload_n hx hb dX5_change_26 rfl (lv_at hl 2 rfl) ?_
    obtain ⟨N52, hN52, h⟩ := ob h
    refine r_Vv (rest := []) C0 z0 (c_X5_put hB hN52) lk_X5_107 (X5_k0 hB) rfl rfl hl.1 rfl (Nat.le_of_ble_eq_true rfl) (by decide) hw dX5_change_27 (fun {H} {locs} hw => ?_)
    refine lv_aload_n hx hb dX5_change_30 rfl (lv_at hl 1 rfl) ?_
    refine r_get (v := .ref (eA γ (o + 1))) hx hb hts hK hw hown inX5 rfl (X5_k0 hB) (st_at0 (by decide)) 0 (by decide) wd_573 rfl dX5_change_31 ?_
    refine lv_bipush (v := (11 : Int32)) hx hb dX5_change_34 (by decide) ?_
    refine lv_iconst (v := (0 : Int32)) hx hb dX5_change_36 (by decide) ?_
    obtain ⟨N53, hN53, h⟩ := ob h
    refine r_iast hx hb hK hd hw (by decide) (X5_k1 hB) hN53 dX5_change_37 (fun {H} {locs} hw => ?_)
    refine lv_goto (tgt := 63) hx hb dX5_change_38 (by decide) ?_
    exact J_k10 N53 h hw (lv_sub hl [1] rfl)
theorem c_X5_change {l : Launch} {γ : Ev} {o : Nat} {σ : Mm} {Bf : Mm} {Z : Mm} {x1 x2 : Int32} (hB : isX5 γ o) (h : s_X5_change Z x1 x2 = some Bf) : Ct l yX5_change cX5_change 5 none 4 97 γ [.ref (eA γ o), .int x1, .int x2] (st 10 σ o Z) none (st 10 σ o Bf) := Ct.of (own := RX5) (by decide +kernel) rfl (Nat.le_of_ble_eq_true rfl) (fun C hw ls hl => b_X5_change C hB h hw hl)
end
