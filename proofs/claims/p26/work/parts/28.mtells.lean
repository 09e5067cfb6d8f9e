section
variable {p : Program} {l : Launch} {e : Env} {R : Room} {s : State} {m : MethodId} {args : Array Value} {below : List Frame} {meth : Method} {c : Code} {H : Heap} {locs : List Loc} {ls : Array Slot}
set_option maxHeartbeats 4000000 in
set_option maxRecDepth 10000 in
theorem b_L_tells_I592 {γ0 γ : Ev} {σ : Mm} {j5 : Nat} {j4 : Nat} {j3 : Nat} {j0 : Nat} {j1 : Nat} {j2 : Nat} {y14 : Int32} {cells slots : Nat} {Q : State → Prop} {MC MS : Nat} {T : Nat → Mm} {a5 : Nat → Int32} {a4 : Nat → Int32} {a3 : Nat → Int32} {a0 : Nat → Int32} {a1 : Nat → Int32} {a2 : Nat → Int32} {x11 : Int32} {x12 : Int32} {x13 : Int32} (C : Cx p R s m args meth c RL cL_tells 16 (some .boolean) 83 3071 γ0) (hS : Sub γ0 γ) (hd : dis γ) (hA : ∀ q, s.heap.size ≤ q → AK γ q) (hR : MC ≤ R.cells ∧ MS ≤ R.slots) (hN : ([j5, j4, j3, j0, j1, j2] : List Nat).Nodup) (hlt : ∀ i ∈ ([j5, j4, j3, j0, j1, j2] : List Nat), i < eN γ) (hlo : ∀ i ∈ ([j5, j4, j3] : List Nat), eN γ0 ≤ i) (hA5 : isA γ j5 11) (hA4 : isA γ j4 10) (hA3 : isA γ j3 60) (hA0 : isA γ j0 60) (hA1 : isA γ j1 10) (hA2 : isA γ j2 11) (hB : isX4 γ 0) (h49 : 49 ≤ eN γ) (hC : ∀ i ∈ ([j5, j4, j3, j0, j1, j2] : List Nat), 49 ≤ i) (hcs : cells ≤ R.cells ∧ slots ≤ R.slots) (kk : ∀ {H : Heap} {locs : List Loc} {ls : Array Slot}, Wo γ (mm (stT σ 0 T) [(j5, a5), (j4, a4), (j3, a3), (j0, a0), (j1, a1), (j2, a2)]) s H locs → lv_has ls 16 [(0, .ref (eA γ 0)), (1, .ref (eA γ j0)), (2, .ref (eA γ j1)), (3, .ref (eA γ j2)), (11, .int x11), (12, .int x12), (13, .int x13), (14, .int y14)] → W p l e R s m args below meth c H locs cells slots Q (F0 m 644 ls [])) : ∀ (n : Nat) {x14 : Int32} {x15 : Int32} {H : Heap} {locs : List Loc} {ls : Array Slot}, s_L_tells_I592 n T a5 a4 a3 a0 a1 a2 x11 x12 x13 x14 x15 = some y14 → Wo γ (mm (stT σ 0 T) [(j5, a5), (j4, a4), (j3, a3), (j0, a0), (j1, a1), (j2, a2)]) s H locs → lv_has ls 16 [(0, .ref (eA γ 0)), (1, .ref (eA γ j0)), (2, .ref (eA γ j1)), (3, .ref (eA γ j2)), (11, .int x11), (12, .int x12), (13, .int x13), (14, .int x14), (15, .int x15)] → W p l e R s m args below meth c H locs cells slots Q (F0 m 592 ls []) := by
  have C0 := C.sub hS hd
  obtain ⟨hx, hb, hr, hml, hown, hts, hlk, hK0, hd0, hF, hL⟩ := id C
  have hK := hS.1.hK hK0
  have zz := hcs
  intro n
  induction n with
  | zero => intro x14 x15 H locs ls h; cases h
  | succ n ih =>
    intro x14 x15 H locs ls h hw hl
    unfold s_L_tells_I592 at h
    refine lv_iload hx hb dL_tells_592 (lv_at hl 8 rfl) ?_
    refine lv_bipush (v := (12 : Int32)) hx hb dL_tells_594 (by decide) ?_
    refine lv_icmp_ge (tgt := 644) hx hb dL_tells_596 (by decide) (fun c15 => ?_) (fun c15 => ?_)
    · replace h := ifp c15 h
      have h1 := Option.some.inj h
      subst h1
      exact kk hw (lv_sub hl [0, 1, 2, 3, 4, 5, 6, 7] rfl)
    · replace h := ifn c15 h
      refine lv_iload hx hb dL_tells_599 (lv_at hl 4 rfl) ?_
      refine lv_iload hx hb dL_tells_601 (lv_at hl 6 rfl) ?_
      refine lv_iload hx hb dL_tells_603 (lv_at hl 8 rfl) ?_
      obtain ⟨v16, hv16, h⟩ := ob h
      refine r_Si (rest := [.int x13, .int x11]) C0 zz (c_L_place hv16) lk_L_10 hl.1 rfl (Nat.le_of_ble_eq_true rfl) (by decide) hw dL_tells_605 (fun {H} {locs} hw => ?_)
      refine lv_imul hx hb dL_tells_608 ?_
      refine lv_iadd hx hb dL_tells_609 ?_
      refine jn_elim h (fun (k : Int32 → Option (Int32)) => ∀ (v22 : Int32) {H : Heap} {locs : List Loc} {ls : Array Slot}, k v22 = some y14 → Wo γ (mm (stT σ 0 T) [(j5, a5), (j4, a4), (j3, a3), (j0, a0), (j1, a1), (j2, a2)]) s H locs → lv_has ls 16 [(0, .ref (eA γ 0)), (1, .ref (eA γ j0)), (2, .ref (eA γ j1)), (3, .ref (eA γ j2)), (11, .int x11), (12, .int x12), (13, .int x13), (15, .int x15)] → W p l e R s m args below meth c H locs cells slots Q (F0 m 636 ls [.int v22])) ?_ ?_
      · intro v22 H locs ls h hw hl
        refine lv_istore (lv' := [(14, .int v22), (0, .ref (eA γ 0)), (1, .ref (eA γ j0)), (2, .ref (eA γ j1)), (3, .ref (eA γ j2)), (11, .int x11), (12, .int x12), (13, .int x13), (15, .int x15)]) hx hb dL_tells_636 hl (by decide) rfl (fun ls hl => ?_)
        obtain ⟨v23, ev23, h⟩ := jb h
        refine lv_iinc (v := v23) (lv' := [(15, .int v23), (14, .int v22), (0, .ref (eA γ 0)), (1, .ref (eA γ j0)), (2, .ref (eA γ j1)), (3, .ref (eA γ j2)), (11, .int x11), (12, .int x12), (13, .int x13)]) hx hb dL_tells_638 hl (k := 8) rfl (by rw [← ev23]; rfl) (by decide) rfl (fun ls hl => ?_)
        refine lv_goto (tgt := 592) hx hb dL_tells_641 (by decide) ?_
        exact ih h hw (lv_sub hl [2, 3, 4, 5, 6, 7, 8, 1, 0] rfl)
      intro k21 J_k21 h
      refine jn_elim h (fun (k : Unit → Option (Int32)) => ∀ (u : Unit) {H : Heap} {locs : List Loc} {ls : Array Slot}, k u = some y14 → Wo γ (mm (stT σ 0 T) [(j5, a5), (j4, a4), (j3, a3), (j0, a0), (j1, a1), (j2, a2)]) s H locs → lv_has ls 16 [(0, .ref (eA γ 0)), (1, .ref (eA γ j0)), (2, .ref (eA γ j1)), (3, .ref (eA γ j2)), (11, .int x11), (12, .int x12), (13, .int x13), (14, .int x14), (15, .int x15)] → W p l e R s m args below meth c H locs cells slots Q (F0 m 634 ls [])) ?_ ?_
      · intro u H locs ls h hw hl
        refine lv_iload hx hb dL_tells_634 (lv_at hl 7 rfl) ?_
        exact J_k21 x14 h hw (lv_sub hl [0, 1, 2, 3, 4, 5, 6, 8] rfl)
      intro k29 J_k29 h
      refine lv_if_ne (tgt := 634) hx hb dL_tells_610 (by decide) (fun c30 => ?_) (fun c30 => ?_)
      · replace h := ifn c30 h
        exact J_k29 () h hw (lv_sub hl [0, 1, 2, 3, 4, 5, 6, 7, 8] rfl)
      · replace h := ifp c30 h
        refine lv_aload_n hx hb dL_tells_613 rfl (lv_at hl 1 rfl) ?_
        refine lv_bipush (v := (48 : Int32)) hx hb dL_tells_614 (by decide) ?_
        refine lv_iload hx hb dL_tells_616 (lv_at hl 8 rfl) ?_
        refine lv_iadd hx hb dL_tells_618 ?_
        obtain ⟨v31, hv31, h⟩ := ob h
        refine r_iald hx hb hK hw hA0 (mm_at (i := 3) (f := a0) hN rfl) hv31 dL_tells_619 ?_
        refine lv_aload_n hx hb dL_tells_620 rfl (lv_at hl 3 rfl) ?_
        refine lv_iconst (v := (0 : Int32)) hx hb dL_tells_621 (by decide) ?_
        obtain ⟨v32, hv32, h⟩ := ob h
        refine r_iald hx hb hK hw hA2 (mm_at (i := 5) (f := a2) hN rfl) hv32 dL_tells_622 ?_
        refine lv_icmp_ge (tgt := 634) hx hb dL_tells_623 (by decide) (fun c33 => ?_) (fun c33 => ?_)
        · replace h := ifp c33 h
          exact J_k29 () h hw (lv_sub hl [0, 1, 2, 3, 4, 5, 6, 7, 8] rfl)
        · replace h := ifn c33 h
          refine lv_iload hx hb dL_tells_626 (lv_at hl 8 rfl) ?_
          obtain ⟨v34, hv34, h⟩ := ob h
          refine r_Si (rest := []) C0 zz (c_L_place hv34) lk_L_10 hl.1 rfl (Nat.le_of_ble_eq_true rfl) (by decide) hw dL_tells_628 (fun {H} {locs} hw => ?_)
          refine lv_goto (tgt := 636) hx hb dL_tells_631 (by decide) ?_
          exact J_k21 v34 h hw (lv_sub hl [0, 1, 2, 3, 4, 5, 6, 8] rfl)
set_option maxHeartbeats 4000000 in
set_option maxRecDepth 10000 in
theorem b_L_tells_L577 {γ0 γ : Ev} {σ : Mm} {j5 : Nat} {j4 : Nat} {j3 : Nat} {j0 : Nat} {j1 : Nat} {j2 : Nat} {r : Int32} {Tf : Nat → Mm} {MC MS : Nat} (C : Cx p R s m args meth c RL cL_tells 16 (some .boolean) 83 3071 γ0) (hS : Sub γ0 γ) (hd : dis γ) (hA : ∀ q, s.heap.size ≤ q → AK γ q) (hR : MC ≤ R.cells ∧ MS ≤ R.slots) (hN : ([j5, j4, j3, j0, j1, j2] : List Nat).Nodup) (hlt : ∀ i ∈ ([j5, j4, j3, j0, j1, j2] : List Nat), i < eN γ) (hlo : ∀ i ∈ ([j5, j4, j3] : List Nat), eN γ0 ≤ i) (hA5 : isA γ j5 11) (hA4 : isA γ j4 10) (hA3 : isA γ j3 60) (hA0 : isA γ j0 60) (hA1 : isA γ j1 10) (hA2 : isA γ j2 11) (hB : isX4 γ 0) (h49 : 49 ≤ eN γ) (hC : ∀ i ∈ ([j5, j4, j3, j0, j1, j2] : List Nat), 49 ≤ i) : ∀ (n : Nat) {T : Nat → Mm} {a5 : Nat → Int32} {a4 : Nat → Int32} {a3 : Nat → Int32} {a0 : Nat → Int32} {a1 : Nat → Int32} {a2 : Nat → Int32} {x11 : Int32} {x12 : Int32} {x13 : Int32} {cells slots : Nat} {H : Heap} {locs : List Loc} {ls : Array Slot} (_ : cells + (0) ≤ MC ∧ slots + (0) ≤ MS), s_L_tells_L577 n T a5 a4 a3 a0 a1 a2 x11 x12 x13 = some (r, Tf) → Wo γ (mm (stT σ 0 T) [(j5, a5), (j4, a4), (j3, a3), (j0, a0), (j1, a1), (j2, a2)]) s H locs → lv_has ls 16 [(0, .ref (eA γ 0)), (1, .ref (eA γ j0)), (2, .ref (eA γ j1)), (3, .ref (eA γ j2)), (11, .int x11), (12, .int x12), (13, .int x13)] → W p l e R s m args below meth c H locs cells slots (MQ below (Qo γ0 (some (.int r)) (mm (stT σ 0 Tf) [(j0, a0), (j1, a1), (j2, a2)])) args s MC MS (AK γ0)) (F0 m 577 ls []) := by
  have C0 := C.sub hS hd
  obtain ⟨hx, hb, hr, hml, hown, hts, hlk, hK0, hd0, hF, hL⟩ := id C
  have hK := hS.1.hK hK0
  obtain ⟨hr1, hr2⟩ := id hR
  intro n
  induction n with
  | zero => intro T a5 a4 a3 a0 a1 a2 x11 x12 x13 cells slots H locs ls _ h; cases h
  | succ n ih =>
    intro T a5 a4 a3 a0 a1 a2 x11 x12 x13 cells slots H locs ls hcs h hw hl
    obtain ⟨hc1, hc2⟩ := hcs
    have zz := And.intro (cin hc1 hr1) (cin hc2 hr2)
    unfold s_L_tells_L577 at h
    refine lv_iload hx hb dL_tells_577 (lv_at hl 6 rfl) ?_
    refine lv_bipush (v := (6 : Int32)) hx hb dL_tells_579 (by decide) ?_
    refine lv_icmp_ge (tgt := 705) hx hb dL_tells_581 (by decide) (fun c7 => ?_) (fun c7 => ?_)
    · replace h := ifp c7 h
      refine lv_iload hx hb dL_tells_705 (lv_at hl 5 rfl) ?_
      refine lv_if_eq (tgt := 742) hx hb dL_tells_707 (by decide) (fun c8 => ?_) (fun c8 => ?_)
      · replace h := ifp c8 h
        refine lv_iconst (v := (0 : Int32)) hx hb dL_tells_742 (by decide) ?_
        obtain ⟨h1, h2⟩ := s2 h
        subst h1
        subst h2
        exact r_zretA hx hb hr hlk hS hK0 hd0 hw (mm_lo2 (μ := (stT σ 0 T)) (L := [(j5, a5), (j4, a4), (j3, a3)]) (L' := [(j0, a0), (j1, a1), (j2, a2)]) hlo) ⟨cMC hc1, cMC hc2⟩ rfl dL_tells_743
      · replace h := ifn c8 h
        refine lv_aload_n hx hb dL_tells_710 rfl (lv_at hl 0 rfl) ?_
        refine lv_iconst (v := (0 : Int32)) hx hb dL_tells_711 (by decide) ?_
        refine lv_iconst (v := (0 : Int32)) hx hb dL_tells_712 (by decide) ?_
        obtain ⟨v9, hv9, h⟩ := ob h
        refine r_Vi (rest := []) C0 zz (c_X4_bag (γ := γ) (o := 0) hB hv9) lk_L_82 (X4_k0 hB) rfl rfl hl.1 rfl (Nat.le_of_ble_eq_true rfl) (by decide) (Wo.cg (mmT (σ := σ) (L := [(j5, a5), (j4, a4), (j3, a3), (j0, a0), (j1, a1), (j2, a2)]) hC) hw) dL_tells_713 (fun {H} {locs} hw => ?_)
        replace hw := Wo.cg (mmT (σ := σ) (T := T) (L := [(j5, a5), (j4, a4), (j3, a3), (j0, a0), (j1, a1), (j2, a2)]) hC).symm hw
        refine lv_aload_n hx hb dL_tells_716 rfl (lv_at hl 2 rfl) ?_
        refine lv_iconst (v := (0 : Int32)) hx hb dL_tells_717 (by decide) ?_
        obtain ⟨v10, hv10, h⟩ := ob h
        refine r_Si (rest := [.int v9]) C0 zz (c_L_all (μ := mm (stT σ 0 T) [(j5, a5), (j4, a4), (j3, a3), (j0, a0), (j1, a1), (j2, a2)]) (nd_sub hN [4] (by decide) rfl) hA1 hv10) lk_L_20 hl.1 rfl (Nat.le_of_ble_eq_true rfl) (by decide) (Wo.cg (mm_pre (μ := (stT σ 0 T)) (L := [(j5, a5), (j4, a4), (j3, a3), (j0, a0), (j1, a1), (j2, a2)]) (L' := [(j1, a1)]) hN [4] rfl) hw) dL_tells_718 (fun {H} {locs} hw => ?_)
        replace hw := Wo.cg (mm_pre (μ := (stT σ 0 T)) (L := [(j5, a5), (j4, a4), (j3, a3), (j0, a0), (j1, a1), (j2, a2)]) (L' := [(j1, a1)]) hN [4] rfl).symm hw
        refine lv_icmp_ne (tgt := 742) hx hb dL_tells_721 (by decide) (fun c11 => ?_) (fun c11 => ?_)
        · replace h := ifn c11 h
          refine lv_iconst (v := (0 : Int32)) hx hb dL_tells_742 (by decide) ?_
          obtain ⟨h1, h2⟩ := s2 h
          subst h1
          subst h2
          exact r_zretA hx hb hr hlk hS hK0 hd0 hw (mm_lo2 (μ := (stT σ 0 T)) (L := [(j5, a5), (j4, a4), (j3, a3)]) (L' := [(j0, a0), (j1, a1), (j2, a2)]) hlo) ⟨cMC hc1, cMC hc2⟩ rfl dL_tells_743
        · replace h := ifp c11 h
          refine lv_aload_n hx hb dL_tells_724 rfl (lv_at hl 0 rfl) ?_
          refine lv_iconst (v := (1 : Int32)) hx hb dL_tells_725 (by decide) ?_
          refine lv_iconst (v := (0 : Int32)) hx hb dL_tells_726 (by decide) ?_
          obtain ⟨v12, hv12, h⟩ := ob h
          refine r_Vi (rest := []) C0 zz (c_X4_bag (γ := γ) (o := 0) hB hv12) lk_L_82 (X4_k0 hB) rfl rfl hl.1 rfl (Nat.le_of_ble_eq_true rfl) (by decide) (Wo.cg (mmT (σ := σ) (L := [(j5, a5), (j4, a4), (j3, a3), (j0, a0), (j1, a1), (j2, a2)]) hC) hw) dL_tells_727 (fun {H} {locs} hw => ?_)
          replace hw := Wo.cg (mmT (σ := σ) (T := T) (L := [(j5, a5), (j4, a4), (j3, a3), (j0, a0), (j1, a1), (j2, a2)]) hC).symm hw
          refine lv_aload_n hx hb dL_tells_730 rfl (lv_at hl 2 rfl) ?_
          refine lv_iconst (v := (1 : Int32)) hx hb dL_tells_731 (by decide) ?_
          obtain ⟨v13, hv13, h⟩ := ob h
          refine r_Si (rest := [.int v12]) C0 zz (c_L_all (μ := mm (stT σ 0 T) [(j5, a5), (j4, a4), (j3, a3), (j0, a0), (j1, a1), (j2, a2)]) (nd_sub hN [4] (by decide) rfl) hA1 hv13) lk_L_20 hl.1 rfl (Nat.le_of_ble_eq_true rfl) (by decide) (Wo.cg (mm_pre (μ := (stT σ 0 T)) (L := [(j5, a5), (j4, a4), (j3, a3), (j0, a0), (j1, a1), (j2, a2)]) (L' := [(j1, a1)]) hN [4] rfl) hw) dL_tells_732 (fun {H} {locs} hw => ?_)
          replace hw := Wo.cg (mm_pre (μ := (stT σ 0 T)) (L := [(j5, a5), (j4, a4), (j3, a3), (j0, a0), (j1, a1), (j2, a2)]) (L' := [(j1, a1)]) hN [4] rfl).symm hw
          refine lv_icmp_ne (tgt := 742) hx hb dL_tells_735 (by decide) (fun c14 => ?_) (fun c14 => ?_)
          · replace h := ifn c14 h
            refine lv_iconst (v := (0 : Int32)) hx hb dL_tells_742 (by decide) ?_
            obtain ⟨h1, h2⟩ := s2 h
            subst h1
            subst h2
            exact r_zretA hx hb hr hlk hS hK0 hd0 hw (mm_lo2 (μ := (stT σ 0 T)) (L := [(j5, a5), (j4, a4), (j3, a3)]) (L' := [(j0, a0), (j1, a1), (j2, a2)]) hlo) ⟨cMC hc1, cMC hc2⟩ rfl dL_tells_743
          · replace h := ifp c14 h
            refine lv_iconst (v := (1 : Int32)) hx hb dL_tells_738 (by decide) ?_
            refine lv_goto (tgt := 743) hx hb dL_tells_739 (by decide) ?_
            obtain ⟨h1, h2⟩ := s2 h
            subst h1
            subst h2
            exact r_zretA hx hb hr hlk hS hK0 hd0 hw (mm_lo2 (μ := (stT σ 0 T)) (L := [(j5, a5), (j4, a4), (j3, a3)]) (L' := [(j0, a0), (j1, a1), (j2, a2)]) hlo) ⟨cMC hc1, cMC hc2⟩ rfl dL_tells_743
    · replace h := ifn c7 h
      refine lv_sipush (v := (-10005 : Int32)) hx hb dL_tells_584 (by decide) ?_
      refine lv_istore (lv' := [(14, .int (-10005 : Int32)), (0, .ref (eA γ 0)), (1, .ref (eA γ j0)), (2, .ref (eA γ j1)), (3, .ref (eA γ j2)), (11, .int x11), (12, .int x12), (13, .int x13)]) hx hb dL_tells_587 hl (by decide) rfl (fun ls hl => ?_)
      refine lv_iconst (v := (0 : Int32)) hx hb dL_tells_589 (by decide) ?_
      refine lv_istore (lv' := [(15, .int (0 : Int32)), (14, .int (-10005 : Int32)), (0, .ref (eA γ 0)), (1, .ref (eA γ j0)), (2, .ref (eA γ j1)), (3, .ref (eA γ j2)), (11, .int x11), (12, .int x12), (13, .int x13)]) hx hb dL_tells_590 hl (by decide) rfl (fun ls hl => ?_)
      obtain ⟨q35, hq35, h⟩ := ob h
      refine b_L_tells_I592 C hS hd hA hR hN hlt hlo hA5 hA4 hA3 hA0 hA1 hA2 hB h49 hC zz (fun {H} {locs} {ls} hw hl => ?_) 1000 hq35 hw (lv_sub hl [2, 3, 4, 5, 6, 7, 8, 1, 0] rfl)
      refine lv_iload hx hb dL_tells_644 (lv_at hl 5 rfl) ?_
      refine lv_if_eq (tgt := 696) hx hb dL_tells_646 (by decide) (fun c36 => ?_) (fun c36 => ?_)
      · replace h := ifp c36 h
        refine lv_iconst (v := (0 : Int32)) hx hb dL_tells_696 (by decide) ?_
        refine lv_istore (lv' := [(12, .int (0 : Int32)), (0, .ref (eA γ 0)), (1, .ref (eA γ j0)), (2, .ref (eA γ j1)), (3, .ref (eA γ j2)), (11, .int x11), (13, .int x13), (14, .int q35)]) hx hb dL_tells_697 hl (by decide) rfl (fun ls hl => ?_)
        obtain ⟨v37, ev37, h⟩ := jb h
        refine lv_iinc (v := v37) (lv' := [(13, .int v37), (12, .int (0 : Int32)), (0, .ref (eA γ 0)), (1, .ref (eA γ j0)), (2, .ref (eA γ j1)), (3, .ref (eA γ j2)), (11, .int x11), (14, .int q35)]) hx hb dL_tells_699 hl (k := 6) rfl (by rw [← ev37]; rfl) (by decide) rfl (fun ls hl => ?_)
        refine lv_goto (tgt := 577) hx hb dL_tells_702 (by decide) ?_
        exact ih ⟨cle hc1 (Nat.le_of_ble_eq_true rfl), cle hc2 (Nat.le_of_ble_eq_true rfl)⟩ h hw (lv_sub hl [2, 3, 4, 5, 6, 1, 0] rfl)
      · replace h := ifn c36 h
        refine lv_aload_n hx hb dL_tells_649 rfl (lv_at hl 0 rfl) ?_
        refine lv_iload hx hb dL_tells_650 (lv_at hl 6 rfl) ?_
        obtain ⟨v38, hv38, h⟩ := ob h
        refine r_Vi (rest := []) C0 zz (c_X4_levels (γ := γ) (o := 0) hB hv38) lk_L_79 (X4_k0 hB) rfl rfl hl.1 rfl (Nat.le_of_ble_eq_true rfl) (by decide) (Wo.cg (mmT (σ := σ) (L := [(j5, a5), (j4, a4), (j3, a3), (j0, a0), (j1, a1), (j2, a2)]) hC) hw) dL_tells_652 (fun {H} {locs} hw => ?_)
        replace hw := Wo.cg (mmT (σ := σ) (T := T) (L := [(j5, a5), (j4, a4), (j3, a3), (j0, a0), (j1, a1), (j2, a2)]) hC).symm hw
        refine lv_iload hx hb dL_tells_655 (lv_at hl 7 rfl) ?_
        refine lv_icmp_ne (tgt := 696) hx hb dL_tells_657 (by decide) (fun c39 => ?_) (fun c39 => ?_)
        · replace h := ifn c39 h
          refine lv_iconst (v := (0 : Int32)) hx hb dL_tells_696 (by decide) ?_
          refine lv_istore (lv' := [(12, .int (0 : Int32)), (0, .ref (eA γ 0)), (1, .ref (eA γ j0)), (2, .ref (eA γ j1)), (3, .ref (eA γ j2)), (11, .int x11), (13, .int x13), (14, .int q35)]) hx hb dL_tells_697 hl (by decide) rfl (fun ls hl => ?_)
          obtain ⟨v40, ev40, h⟩ := jb h
          refine lv_iinc (v := v40) (lv' := [(13, .int v40), (12, .int (0 : Int32)), (0, .ref (eA γ 0)), (1, .ref (eA γ j0)), (2, .ref (eA γ j1)), (3, .ref (eA γ j2)), (11, .int x11), (14, .int q35)]) hx hb dL_tells_699 hl (k := 6) rfl (by rw [← ev40]; rfl) (by decide) rfl (fun ls hl => ?_)
          refine lv_goto (tgt := 577) hx hb dL_tells_702 (by decide) ?_
          exact ih ⟨cle hc1 (Nat.le_of_ble_eq_true rfl), cle hc2 (Nat.le_of_ble_eq_true rfl)⟩ h hw (lv_sub hl [2, 3, 4, 5, 6, 1, 0] rfl)
        · replace h := ifp c39 h
          refine lv_aload_n hx hb dL_tells_660 rfl (lv_at hl 0 rfl) ?_
          refine lv_iconst (v := (0 : Int32)) hx hb dL_tells_661 (by decide) ?_
          refine lv_iload hx hb dL_tells_662 (lv_at hl 6 rfl) ?_
          obtain ⟨v41, hv41, h⟩ := ob h
          refine r_Vi (rest := []) C0 zz (c_X4_bag (γ := γ) (o := 0) hB hv41) lk_L_82 (X4_k0 hB) rfl rfl hl.1 rfl (Nat.le_of_ble_eq_true rfl) (by decide) (Wo.cg (mmT (σ := σ) (L := [(j5, a5), (j4, a4), (j3, a3), (j0, a0), (j1, a1), (j2, a2)]) hC) hw) dL_tells_664 (fun {H} {locs} hw => ?_)
          replace hw := Wo.cg (mmT (σ := σ) (T := T) (L := [(j5, a5), (j4, a4), (j3, a3), (j0, a0), (j1, a1), (j2, a2)]) hC).symm hw
          refine lv_aload_n hx hb dL_tells_667 rfl (lv_at hl 2 rfl) ?_
          refine lv_iload hx hb dL_tells_668 (lv_at hl 6 rfl) ?_
          refine lv_iconst (v := (1 : Int32)) hx hb dL_tells_670 (by decide) ?_
          refine lv_isub hx hb dL_tells_671 ?_
          obtain ⟨v42, hv42, h⟩ := ob h
          refine r_iald hx hb hK hw hA1 (mm_at (i := 4) (f := a1) hN rfl) hv42 dL_tells_672 ?_
          refine lv_icmp_ne (tgt := 696) hx hb dL_tells_673 (by decide) (fun c43 => ?_) (fun c43 => ?_)
          · replace h := ifn c43 h
            refine lv_iconst (v := (0 : Int32)) hx hb dL_tells_696 (by decide) ?_
            refine lv_istore (lv' := [(12, .int (0 : Int32)), (0, .ref (eA γ 0)), (1, .ref (eA γ j0)), (2, .ref (eA γ j1)), (3, .ref (eA γ j2)), (11, .int x11), (13, .int x13), (14, .int q35)]) hx hb dL_tells_697 hl (by decide) rfl (fun ls hl => ?_)
            obtain ⟨v44, ev44, h⟩ := jb h
            refine lv_iinc (v := v44) (lv' := [(13, .int v44), (12, .int (0 : Int32)), (0, .ref (eA γ 0)), (1, .ref (eA γ j0)), (2, .ref (eA γ j1)), (3, .ref (eA γ j2)), (11, .int x11), (14, .int q35)]) hx hb dL_tells_699 hl (k := 6) rfl (by rw [← ev44]; rfl) (by decide) rfl (fun ls hl => ?_)
            refine lv_goto (tgt := 577) hx hb dL_tells_702 (by decide) ?_
            exact ih ⟨cle hc1 (Nat.le_of_ble_eq_true rfl), cle hc2 (Nat.le_of_ble_eq_true rfl)⟩ h hw (lv_sub hl [2, 3, 4, 5, 6, 1, 0] rfl)
          · replace h := ifp c43 h
            refine lv_aload_n hx hb dL_tells_676 rfl (lv_at hl 0 rfl) ?_
            refine lv_iconst (v := (1 : Int32)) hx hb dL_tells_677 (by decide) ?_
            refine lv_iload hx hb dL_tells_678 (lv_at hl 6 rfl) ?_
            obtain ⟨v45, hv45, h⟩ := ob h
            refine r_Vi (rest := []) C0 zz (c_X4_bag (γ := γ) (o := 0) hB hv45) lk_L_82 (X4_k0 hB) rfl rfl hl.1 rfl (Nat.le_of_ble_eq_true rfl) (by decide) (Wo.cg (mmT (σ := σ) (L := [(j5, a5), (j4, a4), (j3, a3), (j0, a0), (j1, a1), (j2, a2)]) hC) hw) dL_tells_680 (fun {H} {locs} hw => ?_)
            replace hw := Wo.cg (mmT (σ := σ) (T := T) (L := [(j5, a5), (j4, a4), (j3, a3), (j0, a0), (j1, a1), (j2, a2)]) hC).symm hw
            refine lv_aload_n hx hb dL_tells_683 rfl (lv_at hl 2 rfl) ?_
            refine lv_iconst (v := (4 : Int32)) hx hb dL_tells_684 (by decide) ?_
            refine lv_iload hx hb dL_tells_685 (lv_at hl 6 rfl) ?_
            refine lv_iadd hx hb dL_tells_687 ?_
            obtain ⟨v46, hv46, h⟩ := ob h
            refine r_iald hx hb hK hw hA1 (mm_at (i := 4) (f := a1) hN rfl) hv46 dL_tells_688 ?_
            refine lv_icmp_ne (tgt := 696) hx hb dL_tells_689 (by decide) (fun c47 => ?_) (fun c47 => ?_)
            · replace h := ifn c47 h
              refine lv_iconst (v := (0 : Int32)) hx hb dL_tells_696 (by decide) ?_
              refine lv_istore (lv' := [(12, .int (0 : Int32)), (0, .ref (eA γ 0)), (1, .ref (eA γ j0)), (2, .ref (eA γ j1)), (3, .ref (eA γ j2)), (11, .int x11), (13, .int x13), (14, .int q35)]) hx hb dL_tells_697 hl (by decide) rfl (fun ls hl => ?_)
              obtain ⟨v48, ev48, h⟩ := jb h
              refine lv_iinc (v := v48) (lv' := [(13, .int v48), (12, .int (0 : Int32)), (0, .ref (eA γ 0)), (1, .ref (eA γ j0)), (2, .ref (eA γ j1)), (3, .ref (eA γ j2)), (11, .int x11), (14, .int q35)]) hx hb dL_tells_699 hl (k := 6) rfl (by rw [← ev48]; rfl) (by decide) rfl (fun ls hl => ?_)
              refine lv_goto (tgt := 577) hx hb dL_tells_702 (by decide) ?_
              exact ih ⟨cle hc1 (Nat.le_of_ble_eq_true rfl), cle hc2 (Nat.le_of_ble_eq_true rfl)⟩ h hw (lv_sub hl [2, 3, 4, 5, 6, 1, 0] rfl)
            · replace h := ifp c47 h
              refine lv_iconst (v := (1 : Int32)) hx hb dL_tells_692 (by decide) ?_
              refine lv_goto (tgt := 697) hx hb dL_tells_693 (by decide) ?_
              refine lv_istore (lv' := [(12, .int (1 : Int32)), (0, .ref (eA γ 0)), (1, .ref (eA γ j0)), (2, .ref (eA γ j1)), (3, .ref (eA γ j2)), (11, .int x11), (13, .int x13), (14, .int q35)]) hx hb dL_tells_697 hl (by decide) rfl (fun ls hl => ?_)
              obtain ⟨v49, ev49, h⟩ := jb h
              refine lv_iinc (v := v49) (lv' := [(13, .int v49), (12, .int (1 : Int32)), (0, .ref (eA γ 0)), (1, .ref (eA γ j0)), (2, .ref (eA γ j1)), (3, .ref (eA γ j2)), (11, .int x11), (14, .int q35)]) hx hb dL_tells_699 hl (k := 6) rfl (by rw [← ev49]; rfl) (by decide) rfl (fun ls hl => ?_)
              refine lv_goto (tgt := 577) hx hb dL_tells_702 (by decide) ?_
              exact ih ⟨cle hc1 (Nat.le_of_ble_eq_true rfl), cle hc2 (Nat.le_of_ble_eq_true rfl)⟩ h hw (lv_sub hl [2, 3, 4, 5, 6, 1, 0] rfl)
set_option maxHeartbeats 4000000 in
set_option maxRecDepth 10000 in
theorem b_L_tells_L534 {γ0 γ : Ev} {σ : Mm} {j5 : Nat} {j4 : Nat} {j3 : Nat} {j0 : Nat} {j1 : Nat} {j2 : Nat} {r : Int32} {Tf : Nat → Mm} {MC MS : Nat} (C : Cx p R s m args meth c RL cL_tells 16 (some .boolean) 83 3071 γ0) (hS : Sub γ0 γ) (hd : dis γ) (hA : ∀ q, s.heap.size ≤ q → AK γ q) (hR : MC ≤ R.cells ∧ MS ≤ R.slots) (hN : ([j5, j4, j3, j0, j1, j2] : List Nat).Nodup) (hlt : ∀ i ∈ ([j5, j4, j3, j0, j1, j2] : List Nat), i < eN γ) (hlo : ∀ i ∈ ([j5, j4, j3] : List Nat), eN γ0 ≤ i) (hA5 : isA γ j5 11) (hA4 : isA γ j4 10) (hA3 : isA γ j3 60) (hA0 : isA γ j0 60) (hA1 : isA γ j1 10) (hA2 : isA γ j2 11) (hB : isX4 γ 0) (h49 : 49 ≤ eN γ) (hC : ∀ i ∈ ([j5, j4, j3, j0, j1, j2] : List Nat), 49 ≤ i) : ∀ (n : Nat) {T : Nat → Mm} {a5 : Nat → Int32} {a4 : Nat → Int32} {a3 : Nat → Int32} {a0 : Nat → Int32} {a1 : Nat → Int32} {a2 : Nat → Int32} {x11 : Int32} {x12 : Int32} {x13 : Int32} {cells slots : Nat} {H : Heap} {locs : List Loc} {ls : Array Slot} (_ : cells + (0) ≤ MC ∧ slots + (0) ≤ MS), s_L_tells_L534 n T a5 a4 a3 a0 a1 a2 x11 x12 x13 = some (r, Tf) → Wo γ (mm (stT σ 0 T) [(j5, a5), (j4, a4), (j3, a3), (j0, a0), (j1, a1), (j2, a2)]) s H locs → lv_has ls 16 [(0, .ref (eA γ 0)), (1, .ref (eA γ j0)), (2, .ref (eA γ j1)), (3, .ref (eA γ j2)), (11, .int x11), (12, .int x12), (13, .int x13)] → W p l e R s m args below meth c H locs cells slots (MQ below (Qo γ0 (some (.int r)) (mm (stT σ 0 Tf) [(j0, a0), (j1, a1), (j2, a2)])) args s MC MS (AK γ0)) (F0 m 534 ls []) := by
  have C0 := C.sub hS hd
  obtain ⟨hx, hb, hr, hml, hown, hts, hlk, hK0, hd0, hF, hL⟩ := id C
  have hK := hS.1.hK hK0
  obtain ⟨hr1, hr2⟩ := id hR
  intro n
  induction n with
  | zero => intro T a5 a4 a3 a0 a1 a2 x11 x12 x13 cells slots H locs ls _ h; cases h
  | succ n ih =>
    intro T a5 a4 a3 a0 a1 a2 x11 x12 x13 cells slots H locs ls hcs h hw hl
    obtain ⟨hc1, hc2⟩ := hcs
    have zz := And.intro (cin hc1 hr1) (cin hc2 hr2)
    unfold s_L_tells_L534 at h
    refine lv_iload hx hb dL_tells_534 (lv_at hl 6 rfl) ?_
    refine lv_iconst (v := (4 : Int32)) hx hb dL_tells_536 (by decide) ?_
    refine lv_icmp_ge (tgt := 574) hx hb dL_tells_537 (by decide) (fun c6 => ?_) (fun c6 => ?_)
    · replace h := ifp c6 h
      refine lv_iconst (v := (1 : Int32)) hx hb dL_tells_574 (by decide) ?_
      refine lv_istore (lv' := [(13, .int (1 : Int32)), (0, .ref (eA γ 0)), (1, .ref (eA γ j0)), (2, .ref (eA γ j1)), (3, .ref (eA γ j2)), (11, .int x11), (12, .int x12)]) hx hb dL_tells_575 hl (by decide) rfl (fun ls hl => ?_)
      exact b_L_tells_L577 C hS hd hA hR hN hlt hlo hA5 hA4 hA3 hA0 hA1 hA2 hB h49 hC 1000 ⟨cle hc1 (Nat.le_of_ble_eq_true rfl), cle hc2 (Nat.le_of_ble_eq_true rfl)⟩ h hw (lv_sub hl [1, 2, 3, 4, 5, 6, 0] rfl)
    · replace h := ifn c6 h
      refine lv_iload hx hb dL_tells_540 (lv_at hl 5 rfl) ?_
      refine lv_if_eq (tgt := 565) hx hb dL_tells_542 (by decide) (fun c50 => ?_) (fun c50 => ?_)
      · replace h := ifp c50 h
        refine lv_iconst (v := (0 : Int32)) hx hb dL_tells_565 (by decide) ?_
        refine lv_istore (lv' := [(12, .int (0 : Int32)), (0, .ref (eA γ 0)), (1, .ref (eA γ j0)), (2, .ref (eA γ j1)), (3, .ref (eA γ j2)), (11, .int x11), (13, .int x13)]) hx hb dL_tells_566 hl (by decide) rfl (fun ls hl => ?_)
        obtain ⟨v51, ev51, h⟩ := jb h
        refine lv_iinc (v := v51) (lv' := [(13, .int v51), (12, .int (0 : Int32)), (0, .ref (eA γ 0)), (1, .ref (eA γ j0)), (2, .ref (eA γ j1)), (3, .ref (eA γ j2)), (11, .int x11)]) hx hb dL_tells_568 hl (k := 6) rfl (by rw [← ev51]; rfl) (by decide) rfl (fun ls hl => ?_)
        refine lv_goto (tgt := 534) hx hb dL_tells_571 (by decide) ?_
        exact ih ⟨cle hc1 (Nat.le_of_ble_eq_true rfl), cle hc2 (Nat.le_of_ble_eq_true rfl)⟩ h hw (lv_sub hl [2, 3, 4, 5, 6, 1, 0] rfl)
      · replace h := ifn c50 h
        refine lv_aload_n hx hb dL_tells_545 rfl (lv_at hl 0 rfl) ?_
        refine lv_bipush (v := (11 : Int32)) hx hb dL_tells_546 (by decide) ?_
        refine lv_iload hx hb dL_tells_548 (lv_at hl 6 rfl) ?_
        refine lv_iadd hx hb dL_tells_550 ?_
        obtain ⟨v52, hv52, h⟩ := ob h
        refine r_Vi (rest := []) C0 zz (c_X4_count (γ := γ) (o := 0) hB hv52) lk_L_73 (X4_k0 hB) rfl rfl hl.1 rfl (Nat.le_of_ble_eq_true rfl) (by decide) (Wo.cg (mmT (σ := σ) (L := [(j5, a5), (j4, a4), (j3, a3), (j0, a0), (j1, a1), (j2, a2)]) hC) hw) dL_tells_551 (fun {H} {locs} hw => ?_)
        replace hw := Wo.cg (mmT (σ := σ) (T := T) (L := [(j5, a5), (j4, a4), (j3, a3), (j0, a0), (j1, a1), (j2, a2)]) hC).symm hw
        refine lv_aload_n hx hb dL_tells_554 rfl (lv_at hl 3 rfl) ?_
        refine lv_iload hx hb dL_tells_555 (lv_at hl 6 rfl) ?_
        obtain ⟨v53, hv53, h⟩ := ob h
        refine r_iald hx hb hK hw hA2 (mm_at (i := 5) (f := a2) hN rfl) hv53 dL_tells_557 ?_
        refine lv_icmp_ne (tgt := 565) hx hb dL_tells_558 (by decide) (fun c54 => ?_) (fun c54 => ?_)
        · replace h := ifn c54 h
          refine lv_iconst (v := (0 : Int32)) hx hb dL_tells_565 (by decide) ?_
          refine lv_istore (lv' := [(12, .int (0 : Int32)), (0, .ref (eA γ 0)), (1, .ref (eA γ j0)), (2, .ref (eA γ j1)), (3, .ref (eA γ j2)), (11, .int x11), (13, .int x13)]) hx hb dL_tells_566 hl (by decide) rfl (fun ls hl => ?_)
          obtain ⟨v55, ev55, h⟩ := jb h
          refine lv_iinc (v := v55) (lv' := [(13, .int v55), (12, .int (0 : Int32)), (0, .ref (eA γ 0)), (1, .ref (eA γ j0)), (2, .ref (eA γ j1)), (3, .ref (eA γ j2)), (11, .int x11)]) hx hb dL_tells_568 hl (k := 6) rfl (by rw [← ev55]; rfl) (by decide) rfl (fun ls hl => ?_)
          refine lv_goto (tgt := 534) hx hb dL_tells_571 (by decide) ?_
          exact ih ⟨cle hc1 (Nat.le_of_ble_eq_true rfl), cle hc2 (Nat.le_of_ble_eq_true rfl)⟩ h hw (lv_sub hl [2, 3, 4, 5, 6, 1, 0] rfl)
        · replace h := ifp c54 h
          refine lv_iconst (v := (1 : Int32)) hx hb dL_tells_561 (by decide) ?_
          refine lv_goto (tgt := 566) hx hb dL_tells_562 (by decide) ?_
          refine lv_istore (lv' := [(12, .int (1 : Int32)), (0, .ref (eA γ 0)), (1, .ref (eA γ j0)), (2, .ref (eA γ j1)), (3, .ref (eA γ j2)), (11, .int x11), (13, .int x13)]) hx hb dL_tells_566 hl (by decide) rfl (fun ls hl => ?_)
          obtain ⟨v56, ev56, h⟩ := jb h
          refine lv_iinc (v := v56) (lv' := [(13, .int v56), (12, .int (1 : Int32)), (0, .ref (eA γ 0)), (1, .ref (eA γ j0)), (2, .ref (eA γ j1)), (3, .ref (eA γ j2)), (11, .int x11)]) hx hb dL_tells_568 hl (k := 6) rfl (by rw [← ev56]; rfl) (by decide) rfl (fun ls hl => ?_)
          refine lv_goto (tgt := 534) hx hb dL_tells_571 (by decide) ?_
          exact ih ⟨cle hc1 (Nat.le_of_ble_eq_true rfl), cle hc2 (Nat.le_of_ble_eq_true rfl)⟩ h hw (lv_sub hl [2, 3, 4, 5, 6, 1, 0] rfl)
set_option maxHeartbeats 4000000 in
set_option maxRecDepth 10000 in
theorem b_L_tells_L185 {γ0 γ : Ev} {σ : Mm} {j5 : Nat} {j4 : Nat} {j3 : Nat} {j0 : Nat} {j1 : Nat} {j2 : Nat} {r : Int32} {Tf : Nat → Mm} {MC MS : Nat} (C : Cx p R s m args meth c RL cL_tells 16 (some .boolean) 83 3071 γ0) (hS : Sub γ0 γ) (hd : dis γ) (hA : ∀ q, s.heap.size ≤ q → AK γ q) (hR : MC ≤ R.cells ∧ MS ≤ R.slots) (hN : ([j5, j4, j3, j0, j1, j2] : List Nat).Nodup) (hlt : ∀ i ∈ ([j5, j4, j3, j0, j1, j2] : List Nat), i < eN γ) (hlo : ∀ i ∈ ([j5, j4, j3] : List Nat), eN γ0 ≤ i) (hA5 : isA γ j5 11) (hA4 : isA γ j4 10) (hA3 : isA γ j3 60) (hA0 : isA γ j0 60) (hA1 : isA γ j1 10) (hA2 : isA γ j2 11) (hB : isX4 γ 0) (h49 : 49 ≤ eN γ) (hC : ∀ i ∈ ([j5, j4, j3, j0, j1, j2] : List Nat), 49 ≤ i) : ∀ (n : Nat) {T : Nat → Mm} {a5 : Nat → Int32} {a4 : Nat → Int32} {a3 : Nat → Int32} {a0 : Nat → Int32} {a1 : Nat → Int32} {a2 : Nat → Int32} {x4 : Int32} {x5 : Int32} {x6 : Int32} {x7 : Int32} {x11 : Int32} {cells slots : Nat} {H : Heap} {locs : List Loc} {ls : Array Slot} (_ : cells + (0) ≤ MC ∧ slots + (0) ≤ MS), s_L_tells_L185 n T a5 a4 a3 a0 a1 a2 x4 x5 x6 x7 x11 = some (r, Tf) → Wo γ (mm (stT σ 0 T) [(j5, a5), (j4, a4), (j3, a3), (j0, a0), (j1, a1), (j2, a2)]) s H locs → lv_has ls 16 [(0, .ref (eA γ 0)), (1, .ref (eA γ j0)), (2, .ref (eA γ j1)), (3, .ref (eA γ j2)), (4, .int x4), (5, .int x5), (6, .int x6), (7, .int x7), (8, .ref (eA γ j3)), (9, .ref (eA γ j4)), (10, .ref (eA γ j5)), (11, .int x11)] → W p l e R s m args below meth c H locs cells slots (MQ below (Qo γ0 (some (.int r)) (mm (stT σ 0 Tf) [(j0, a0), (j1, a1), (j2, a2)])) args s MC MS (AK γ0)) (F0 m 185 ls []) := by
  have C0 := C.sub hS hd
  obtain ⟨hx, hb, hr, hml, hown, hts, hlk, hK0, hd0, hF, hL⟩ := id C
  have hK := hS.1.hK hK0
  obtain ⟨hr1, hr2⟩ := id hR
  intro n
  induction n with
  | zero => intro T a5 a4 a3 a0 a1 a2 x4 x5 x6 x7 x11 cells slots H locs ls _ h; cases h
  | succ n ih =>
    intro T a5 a4 a3 a0 a1 a2 x4 x5 x6 x7 x11 cells slots H locs ls hcs h hw hl
    obtain ⟨hc1, hc2⟩ := hcs
    have zz := And.intro (cin hc1 hr1) (cin hc2 hr2)
    unfold s_L_tells_L185 at h
    refine lv_iload hx hb dL_tells_185 (lv_at hl 11 rfl) ?_
    refine lv_bipush (v := (84 : Int32)) hx hb dL_tells_187 (by decide) ?_
    refine lv_icmp_ge (tgt := 348) hx hb dL_tells_189 (by decide) (fun c2 => ?_) (fun c2 => ?_)
    · replace h := ifp c2 h
      refine lv_aload_n hx hb dL_tells_348 rfl (lv_at hl 1 rfl) ?_
      obtain ⟨v3, hv3, h⟩ := ob h
      refine r_Si (rest := []) C0 zz (c_L_turn (μ := mm (stT σ 0 T) [(j5, a5), (j4, a4), (j3, a3), (j0, a0), (j1, a1), (j2, a2)]) (nd_sub hN [3] (by decide) rfl) hA0 hv3) lk_L_16 hl.1 rfl (Nat.le_of_ble_eq_true rfl) (by decide) (Wo.cg (mm_pre (μ := (stT σ 0 T)) (L := [(j5, a5), (j4, a4), (j3, a3), (j0, a0), (j1, a1), (j2, a2)]) (L' := [(j0, a0)]) hN [3] rfl) hw) dL_tells_349 (fun {H} {locs} hw => ?_)
      replace hw := Wo.cg (mm_pre (μ := (stT σ 0 T)) (L := [(j5, a5), (j4, a4), (j3, a3), (j0, a0), (j1, a1), (j2, a2)]) (L' := [(j0, a0)]) hN [3] rfl).symm hw
      refine lv_istore (lv' := [(11, .int v3), (0, .ref (eA γ 0)), (1, .ref (eA γ j0)), (2, .ref (eA γ j1)), (3, .ref (eA γ j2)), (4, .int x4), (5, .int x5), (6, .int x6), (7, .int x7), (8, .ref (eA γ j3)), (9, .ref (eA γ j4)), (10, .ref (eA γ j5))]) hx hb dL_tells_352 hl (by decide) rfl (fun ls hl => ?_)
      refine lv_aload_n hx hb dL_tells_354 rfl (lv_at hl 1 rfl) ?_
      refine lv_iload hx hb dL_tells_355 (lv_at hl 7 rfl) ?_
      obtain ⟨v4, hv4, h⟩ := ob h
      refine r_Vi (rest := []) C0 zz (c_X4_possible (γ := γ) (o := 0) hB hv4) lk_L_70 (X4_k0 hB) rfl rfl hl.1 rfl (Nat.le_of_ble_eq_true rfl) (by decide) (Wo.cg (mmT (σ := σ) (L := [(j5, a5), (j4, a4), (j3, a3), (j0, a0), (j1, a1), (j2, a2)]) hC) hw) dL_tells_357 (fun {H} {locs} hw => ?_)
      replace hw := Wo.cg (mmT (σ := σ) (T := T) (L := [(j5, a5), (j4, a4), (j3, a3), (j0, a0), (j1, a1), (j2, a2)]) hC).symm hw
      refine lv_sipush (v := (-10005 : Int32)) hx hb dL_tells_360 (by decide) ?_
      refine lv_icmp_ne (tgt := 528) hx hb dL_tells_363 (by decide) (fun c5 => ?_) (fun c5 => ?_)
      · replace h := ifn c5 h
        refine lv_iconst (v := (0 : Int32)) hx hb dL_tells_528 (by decide) ?_
        refine lv_istore (lv' := [(12, .int (0 : Int32)), (11, .int v3), (0, .ref (eA γ 0)), (1, .ref (eA γ j0)), (2, .ref (eA γ j1)), (3, .ref (eA γ j2)), (4, .int x4), (5, .int x5), (6, .int x6), (7, .int x7), (8, .ref (eA γ j3)), (9, .ref (eA γ j4)), (10, .ref (eA γ j5))]) hx hb dL_tells_529 hl (by decide) rfl (fun ls hl => ?_)
        refine lv_iconst (v := (0 : Int32)) hx hb dL_tells_531 (by decide) ?_
        refine lv_istore (lv' := [(13, .int (0 : Int32)), (12, .int (0 : Int32)), (11, .int v3), (0, .ref (eA γ 0)), (1, .ref (eA γ j0)), (2, .ref (eA γ j1)), (3, .ref (eA γ j2)), (4, .int x4), (5, .int x5), (6, .int x6), (7, .int x7), (8, .ref (eA γ j3)), (9, .ref (eA γ j4)), (10, .ref (eA γ j5))]) hx hb dL_tells_532 hl (by decide) rfl (fun ls hl => ?_)
        exact b_L_tells_L534 C hS hd hA hR hN hlt hlo hA5 hA4 hA3 hA0 hA1 hA2 hB h49 hC 1000 ⟨cle hc1 (Nat.le_of_ble_eq_true rfl), cle hc2 (Nat.le_of_ble_eq_true rfl)⟩ h hw (lv_sub hl [3, 4, 5, 6, 2, 1, 0] rfl)
      · replace h := ifp c5 h
        refine lv_aload_n hx hb dL_tells_366 rfl (lv_at hl 1 rfl) ?_
        refine lv_bipush (v := (8 : Int32)) hx hb dL_tells_367 (by decide) ?_
        obtain ⟨v57, hv57, h⟩ := ob h
        refine r_Vi (rest := []) C0 zz (c_X4_count (γ := γ) (o := 0) hB hv57) lk_L_73 (X4_k0 hB) rfl rfl hl.1 rfl (Nat.le_of_ble_eq_true rfl) (by decide) (Wo.cg (mmT (σ := σ) (L := [(j5, a5), (j4, a4), (j3, a3), (j0, a0), (j1, a1), (j2, a2)]) hC) hw) dL_tells_369 (fun {H} {locs} hw => ?_)
        replace hw := Wo.cg (mmT (σ := σ) (T := T) (L := [(j5, a5), (j4, a4), (j3, a3), (j0, a0), (j1, a1), (j2, a2)]) hC).symm hw
        refine lv_iload hx hb dL_tells_372 (lv_at hl 7 rfl) ?_
        refine lv_icmp_ne (tgt := 528) hx hb dL_tells_374 (by decide) (fun c58 => ?_) (fun c58 => ?_)
        · replace h := ifn c58 h
          refine lv_iconst (v := (0 : Int32)) hx hb dL_tells_528 (by decide) ?_
          refine lv_istore (lv' := [(12, .int (0 : Int32)), (11, .int v3), (0, .ref (eA γ 0)), (1, .ref (eA γ j0)), (2, .ref (eA γ j1)), (3, .ref (eA γ j2)), (4, .int x4), (5, .int x5), (6, .int x6), (7, .int x7), (8, .ref (eA γ j3)), (9, .ref (eA γ j4)), (10, .ref (eA γ j5))]) hx hb dL_tells_529 hl (by decide) rfl (fun ls hl => ?_)
          refine lv_iconst (v := (0 : Int32)) hx hb dL_tells_531 (by decide) ?_
          refine lv_istore (lv' := [(13, .int (0 : Int32)), (12, .int (0 : Int32)), (11, .int v3), (0, .ref (eA γ 0)), (1, .ref (eA γ j0)), (2, .ref (eA γ j1)), (3, .ref (eA γ j2)), (4, .int x4), (5, .int x5), (6, .int x6), (7, .int x7), (8, .ref (eA γ j3)), (9, .ref (eA γ j4)), (10, .ref (eA γ j5))]) hx hb dL_tells_532 hl (by decide) rfl (fun ls hl => ?_)
          exact b_L_tells_L534 C hS hd hA hR hN hlt hlo hA5 hA4 hA3 hA0 hA1 hA2 hB h49 hC 1000 ⟨cle hc1 (Nat.le_of_ble_eq_true rfl), cle hc2 (Nat.le_of_ble_eq_true rfl)⟩ h hw (lv_sub hl [3, 4, 5, 6, 2, 1, 0] rfl)
        · replace h := ifp c58 h
          refine lv_aload_n hx hb dL_tells_377 rfl (lv_at hl 1 rfl) ?_
          refine lv_bipush (v := (9 : Int32)) hx hb dL_tells_378 (by decide) ?_
          obtain ⟨v59, hv59, h⟩ := ob h
          refine r_Vi (rest := []) C0 zz (c_X4_count (γ := γ) (o := 0) hB hv59) lk_L_73 (X4_k0 hB) rfl rfl hl.1 rfl (Nat.le_of_ble_eq_true rfl) (by decide) (Wo.cg (mmT (σ := σ) (L := [(j5, a5), (j4, a4), (j3, a3), (j0, a0), (j1, a1), (j2, a2)]) hC) hw) dL_tells_380 (fun {H} {locs} hw => ?_)
          replace hw := Wo.cg (mmT (σ := σ) (T := T) (L := [(j5, a5), (j4, a4), (j3, a3), (j0, a0), (j1, a1), (j2, a2)]) hC).symm hw
          refine lv_iload hx hb dL_tells_383 (lv_at hl 8 rfl) ?_
          refine lv_icmp_ne (tgt := 528) hx hb dL_tells_385 (by decide) (fun c60 => ?_) (fun c60 => ?_)
          · replace h := ifn c60 h
            refine lv_iconst (v := (0 : Int32)) hx hb dL_tells_528 (by decide) ?_
            refine lv_istore (lv' := [(12, .int (0 : Int32)), (11, .int v3), (0, .ref (eA γ 0)), (1, .ref (eA γ j0)), (2, .ref (eA γ j1)), (3, .ref (eA γ j2)), (4, .int x4), (5, .int x5), (6, .int x6), (7, .int x7), (8, .ref (eA γ j3)), (9, .ref (eA γ j4)), (10, .ref (eA γ j5))]) hx hb dL_tells_529 hl (by decide) rfl (fun ls hl => ?_)
            refine lv_iconst (v := (0 : Int32)) hx hb dL_tells_531 (by decide) ?_
            refine lv_istore (lv' := [(13, .int (0 : Int32)), (12, .int (0 : Int32)), (11, .int v3), (0, .ref (eA γ 0)), (1, .ref (eA γ j0)), (2, .ref (eA γ j1)), (3, .ref (eA γ j2)), (4, .int x4), (5, .int x5), (6, .int x6), (7, .int x7), (8, .ref (eA γ j3)), (9, .ref (eA γ j4)), (10, .ref (eA γ j5))]) hx hb dL_tells_532 hl (by decide) rfl (fun ls hl => ?_)
            exact b_L_tells_L534 C hS hd hA hR hN hlt hlo hA5 hA4 hA3 hA0 hA1 hA2 hB h49 hC 1000 ⟨cle hc1 (Nat.le_of_ble_eq_true rfl), cle hc2 (Nat.le_of_ble_eq_true rfl)⟩ h hw (lv_sub hl [3, 4, 5, 6, 2, 1, 0] rfl)
          · replace h := ifp c60 h
            refine lv_aload_n hx hb dL_tells_388 rfl (lv_at hl 1 rfl) ?_
            refine lv_iconst (v := (0 : Int32)) hx hb dL_tells_389 (by decide) ?_
            obtain ⟨v61, hv61, h⟩ := ob h
            refine r_Vi (rest := []) C0 zz (c_X4_count (γ := γ) (o := 0) hB hv61) lk_L_73 (X4_k0 hB) rfl rfl hl.1 rfl (Nat.le_of_ble_eq_true rfl) (by decide) (Wo.cg (mmT (σ := σ) (L := [(j5, a5), (j4, a4), (j3, a3), (j0, a0), (j1, a1), (j2, a2)]) hC) hw) dL_tells_390 (fun {H} {locs} hw => ?_)
            replace hw := Wo.cg (mmT (σ := σ) (T := T) (L := [(j5, a5), (j4, a4), (j3, a3), (j0, a0), (j1, a1), (j2, a2)]) hC).symm hw
            refine lv_aload_n hx hb dL_tells_393 rfl (lv_at hl 4 rfl) ?_
            refine lv_iconst (v := (4 : Int32)) hx hb dL_tells_394 (by decide) ?_
            obtain ⟨v62, hv62, h⟩ := ob h
            refine r_iald hx hb hK hw hA2 (mm_at (i := 5) (f := a2) hN rfl) hv62 dL_tells_395 ?_
            refine lv_icmp_ne (tgt := 528) hx hb dL_tells_396 (by decide) (fun c63 => ?_) (fun c63 => ?_)
            · replace h := ifn c63 h
              refine lv_iconst (v := (0 : Int32)) hx hb dL_tells_528 (by decide) ?_
              refine lv_istore (lv' := [(12, .int (0 : Int32)), (11, .int v3), (0, .ref (eA γ 0)), (1, .ref (eA γ j0)), (2, .ref (eA γ j1)), (3, .ref (eA γ j2)), (4, .int x4), (5, .int x5), (6, .int x6), (7, .int x7), (8, .ref (eA γ j3)), (9, .ref (eA γ j4)), (10, .ref (eA γ j5))]) hx hb dL_tells_529 hl (by decide) rfl (fun ls hl => ?_)
              refine lv_iconst (v := (0 : Int32)) hx hb dL_tells_531 (by decide) ?_
              refine lv_istore (lv' := [(13, .int (0 : Int32)), (12, .int (0 : Int32)), (11, .int v3), (0, .ref (eA γ 0)), (1, .ref (eA γ j0)), (2, .ref (eA γ j1)), (3, .ref (eA γ j2)), (4, .int x4), (5, .int x5), (6, .int x6), (7, .int x7), (8, .ref (eA γ j3)), (9, .ref (eA γ j4)), (10, .ref (eA γ j5))]) hx hb dL_tells_532 hl (by decide) rfl (fun ls hl => ?_)
              exact b_L_tells_L534 C hS hd hA hR hN hlt hlo hA5 hA4 hA3 hA0 hA1 hA2 hB h49 hC 1000 ⟨cle hc1 (Nat.le_of_ble_eq_true rfl), cle hc2 (Nat.le_of_ble_eq_true rfl)⟩ h hw (lv_sub hl [3, 4, 5, 6, 2, 1, 0] rfl)
            · replace h := ifp c63 h
              refine lv_aload_n hx hb dL_tells_399 rfl (lv_at hl 1 rfl) ?_
              refine lv_iconst (v := (1 : Int32)) hx hb dL_tells_400 (by decide) ?_
              obtain ⟨v64, hv64, h⟩ := ob h
              refine r_Vi (rest := []) C0 zz (c_X4_count (γ := γ) (o := 0) hB hv64) lk_L_73 (X4_k0 hB) rfl rfl hl.1 rfl (Nat.le_of_ble_eq_true rfl) (by decide) (Wo.cg (mmT (σ := σ) (L := [(j5, a5), (j4, a4), (j3, a3), (j0, a0), (j1, a1), (j2, a2)]) hC) hw) dL_tells_401 (fun {H} {locs} hw => ?_)
              replace hw := Wo.cg (mmT (σ := σ) (T := T) (L := [(j5, a5), (j4, a4), (j3, a3), (j0, a0), (j1, a1), (j2, a2)]) hC).symm hw
              refine lv_iload hx hb dL_tells_404 (lv_at hl 0 rfl) ?_
              refine lv_icmp_ne (tgt := 528) hx hb dL_tells_406 (by decide) (fun c65 => ?_) (fun c65 => ?_)
              · replace h := ifn c65 h
                refine lv_iconst (v := (0 : Int32)) hx hb dL_tells_528 (by decide) ?_
                refine lv_istore (lv' := [(12, .int (0 : Int32)), (11, .int v3), (0, .ref (eA γ 0)), (1, .ref (eA γ j0)), (2, .ref (eA γ j1)), (3, .ref (eA γ j2)), (4, .int x4), (5, .int x5), (6, .int x6), (7, .int x7), (8, .ref (eA γ j3)), (9, .ref (eA γ j4)), (10, .ref (eA γ j5))]) hx hb dL_tells_529 hl (by decide) rfl (fun ls hl => ?_)
                refine lv_iconst (v := (0 : Int32)) hx hb dL_tells_531 (by decide) ?_
                refine lv_istore (lv' := [(13, .int (0 : Int32)), (12, .int (0 : Int32)), (11, .int v3), (0, .ref (eA γ 0)), (1, .ref (eA γ j0)), (2, .ref (eA γ j1)), (3, .ref (eA γ j2)), (4, .int x4), (5, .int x5), (6, .int x6), (7, .int x7), (8, .ref (eA γ j3)), (9, .ref (eA γ j4)), (10, .ref (eA γ j5))]) hx hb dL_tells_532 hl (by decide) rfl (fun ls hl => ?_)
                exact b_L_tells_L534 C hS hd hA hR hN hlt hlo hA5 hA4 hA3 hA0 hA1 hA2 hB h49 hC 1000 ⟨cle hc1 (Nat.le_of_ble_eq_true rfl), cle hc2 (Nat.le_of_ble_eq_true rfl)⟩ h hw (lv_sub hl [3, 4, 5, 6, 2, 1, 0] rfl)
              · replace h := ifp c65 h
                refine lv_aload_n hx hb dL_tells_409 rfl (lv_at hl 1 rfl) ?_
                refine lv_iconst (v := (2 : Int32)) hx hb dL_tells_410 (by decide) ?_
                obtain ⟨v66, hv66, h⟩ := ob h
                refine r_Vi (rest := []) C0 zz (c_X4_count (γ := γ) (o := 0) hB hv66) lk_L_73 (X4_k0 hB) rfl rfl hl.1 rfl (Nat.le_of_ble_eq_true rfl) (by decide) (Wo.cg (mmT (σ := σ) (L := [(j5, a5), (j4, a4), (j3, a3), (j0, a0), (j1, a1), (j2, a2)]) hC) hw) dL_tells_411 (fun {H} {locs} hw => ?_)
                replace hw := Wo.cg (mmT (σ := σ) (T := T) (L := [(j5, a5), (j4, a4), (j3, a3), (j0, a0), (j1, a1), (j2, a2)]) hC).symm hw
                refine lv_aload_n hx hb dL_tells_414 rfl (lv_at hl 2 rfl) ?_
                refine lv_aload_n hx hb dL_tells_415 rfl (lv_at hl 3 rfl) ?_
                refine lv_aload_n hx hb dL_tells_416 rfl (lv_at hl 4 rfl) ?_
                obtain ⟨v67, hv67, h⟩ := ob h
                refine r_Si (rest := [.int v66]) C0 zz (c_L_result (μ := mm (stT σ 0 T) [(j5, a5), (j4, a4), (j3, a3), (j0, a0), (j1, a1), (j2, a2)]) (nd_sub hN [3, 4, 5] (by decide) rfl) hA0 hA1 hA2 hv67) lk_L_24 hl.1 rfl (Nat.le_of_ble_eq_true rfl) (by decide) (Wo.cg (mm_pre (μ := (stT σ 0 T)) (L := [(j5, a5), (j4, a4), (j3, a3), (j0, a0), (j1, a1), (j2, a2)]) (L' := [(j0, a0), (j1, a1), (j2, a2)]) hN [3, 4, 5] rfl) hw) dL_tells_417 (fun {H} {locs} hw => ?_)
                replace hw := Wo.cg (mm_pre (μ := (stT σ 0 T)) (L := [(j5, a5), (j4, a4), (j3, a3), (j0, a0), (j1, a1), (j2, a2)]) (L' := [(j0, a0), (j1, a1), (j2, a2)]) hN [3, 4, 5] rfl).symm hw
                refine lv_icmp_ne (tgt := 528) hx hb dL_tells_420 (by decide) (fun c68 => ?_) (fun c68 => ?_)
                · replace h := ifn c68 h
                  refine lv_iconst (v := (0 : Int32)) hx hb dL_tells_528 (by decide) ?_
                  refine lv_istore (lv' := [(12, .int (0 : Int32)), (11, .int v3), (0, .ref (eA γ 0)), (1, .ref (eA γ j0)), (2, .ref (eA γ j1)), (3, .ref (eA γ j2)), (4, .int x4), (5, .int x5), (6, .int x6), (7, .int x7), (8, .ref (eA γ j3)), (9, .ref (eA γ j4)), (10, .ref (eA γ j5))]) hx hb dL_tells_529 hl (by decide) rfl (fun ls hl => ?_)
                  refine lv_iconst (v := (0 : Int32)) hx hb dL_tells_531 (by decide) ?_
                  refine lv_istore (lv' := [(13, .int (0 : Int32)), (12, .int (0 : Int32)), (11, .int v3), (0, .ref (eA γ 0)), (1, .ref (eA γ j0)), (2, .ref (eA γ j1)), (3, .ref (eA γ j2)), (4, .int x4), (5, .int x5), (6, .int x6), (7, .int x7), (8, .ref (eA γ j3)), (9, .ref (eA γ j4)), (10, .ref (eA γ j5))]) hx hb dL_tells_532 hl (by decide) rfl (fun ls hl => ?_)
                  exact b_L_tells_L534 C hS hd hA hR hN hlt hlo hA5 hA4 hA3 hA0 hA1 hA2 hB h49 hC 1000 ⟨cle hc1 (Nat.le_of_ble_eq_true rfl), cle hc2 (Nat.le_of_ble_eq_true rfl)⟩ h hw (lv_sub hl [3, 4, 5, 6, 2, 1, 0] rfl)
                · replace h := ifp c68 h
                  refine lv_aload_n hx hb dL_tells_423 rfl (lv_at hl 1 rfl) ?_
                  refine lv_iconst (v := (3 : Int32)) hx hb dL_tells_424 (by decide) ?_
                  obtain ⟨v69, hv69, h⟩ := ob h
                  refine r_Vi (rest := []) C0 zz (c_X4_count (γ := γ) (o := 0) hB hv69) lk_L_73 (X4_k0 hB) rfl rfl hl.1 rfl (Nat.le_of_ble_eq_true rfl) (by decide) (Wo.cg (mmT (σ := σ) (L := [(j5, a5), (j4, a4), (j3, a3), (j0, a0), (j1, a1), (j2, a2)]) hC) hw) dL_tells_425 (fun {H} {locs} hw => ?_)
                  replace hw := Wo.cg (mmT (σ := σ) (T := T) (L := [(j5, a5), (j4, a4), (j3, a3), (j0, a0), (j1, a1), (j2, a2)]) hC).symm hw
                  refine lv_aload_n hx hb dL_tells_428 rfl (lv_at hl 4 rfl) ?_
                  refine lv_iconst (v := (5 : Int32)) hx hb dL_tells_429 (by decide) ?_
                  obtain ⟨v70, hv70, h⟩ := ob h
                  refine r_iald hx hb hK hw hA2 (mm_at (i := 5) (f := a2) hN rfl) hv70 dL_tells_430 ?_
                  refine lv_icmp_ne (tgt := 528) hx hb dL_tells_431 (by decide) (fun c71 => ?_) (fun c71 => ?_)
                  · replace h := ifn c71 h
                    refine lv_iconst (v := (0 : Int32)) hx hb dL_tells_528 (by decide) ?_
                    refine lv_istore (lv' := [(12, .int (0 : Int32)), (11, .int v3), (0, .ref (eA γ 0)), (1, .ref (eA γ j0)), (2, .ref (eA γ j1)), (3, .ref (eA γ j2)), (4, .int x4), (5, .int x5), (6, .int x6), (7, .int x7), (8, .ref (eA γ j3)), (9, .ref (eA γ j4)), (10, .ref (eA γ j5))]) hx hb dL_tells_529 hl (by decide) rfl (fun ls hl => ?_)
                    refine lv_iconst (v := (0 : Int32)) hx hb dL_tells_531 (by decide) ?_
                    refine lv_istore (lv' := [(13, .int (0 : Int32)), (12, .int (0 : Int32)), (11, .int v3), (0, .ref (eA γ 0)), (1, .ref (eA γ j0)), (2, .ref (eA γ j1)), (3, .ref (eA γ j2)), (4, .int x4), (5, .int x5), (6, .int x6), (7, .int x7), (8, .ref (eA γ j3)), (9, .ref (eA γ j4)), (10, .ref (eA γ j5))]) hx hb dL_tells_532 hl (by decide) rfl (fun ls hl => ?_)
                    exact b_L_tells_L534 C hS hd hA hR hN hlt hlo hA5 hA4 hA3 hA0 hA1 hA2 hB h49 hC 1000 ⟨cle hc1 (Nat.le_of_ble_eq_true rfl), cle hc2 (Nat.le_of_ble_eq_true rfl)⟩ h hw (lv_sub hl [3, 4, 5, 6, 2, 1, 0] rfl)
                  · replace h := ifp c71 h
                    refine lv_aload_n hx hb dL_tells_434 rfl (lv_at hl 1 rfl) ?_
                    refine lv_iconst (v := (4 : Int32)) hx hb dL_tells_435 (by decide) ?_
                    obtain ⟨v72, hv72, h⟩ := ob h
                    refine r_Vi (rest := []) C0 zz (c_X4_count (γ := γ) (o := 0) hB hv72) lk_L_73 (X4_k0 hB) rfl rfl hl.1 rfl (Nat.le_of_ble_eq_true rfl) (by decide) (Wo.cg (mmT (σ := σ) (L := [(j5, a5), (j4, a4), (j3, a3), (j0, a0), (j1, a1), (j2, a2)]) hC) hw) dL_tells_436 (fun {H} {locs} hw => ?_)
                    replace hw := Wo.cg (mmT (σ := σ) (T := T) (L := [(j5, a5), (j4, a4), (j3, a3), (j0, a0), (j1, a1), (j2, a2)]) hC).symm hw
                    refine lv_aload_n hx hb dL_tells_439 rfl (lv_at hl 4 rfl) ?_
                    refine lv_bipush (v := (6 : Int32)) hx hb dL_tells_440 (by decide) ?_
                    obtain ⟨v73, hv73, h⟩ := ob h
                    refine r_iald hx hb hK hw hA2 (mm_at (i := 5) (f := a2) hN rfl) hv73 dL_tells_442 ?_
                    refine lv_icmp_ne (tgt := 528) hx hb dL_tells_443 (by decide) (fun c74 => ?_) (fun c74 => ?_)
                    · replace h := ifn c74 h
                      refine lv_iconst (v := (0 : Int32)) hx hb dL_tells_528 (by decide) ?_
                      refine lv_istore (lv' := [(12, .int (0 : Int32)), (11, .int v3), (0, .ref (eA γ 0)), (1, .ref (eA γ j0)), (2, .ref (eA γ j1)), (3, .ref (eA γ j2)), (4, .int x4), (5, .int x5), (6, .int x6), (7, .int x7), (8, .ref (eA γ j3)), (9, .ref (eA γ j4)), (10, .ref (eA γ j5))]) hx hb dL_tells_529 hl (by decide) rfl (fun ls hl => ?_)
                      refine lv_iconst (v := (0 : Int32)) hx hb dL_tells_531 (by decide) ?_
                      refine lv_istore (lv' := [(13, .int (0 : Int32)), (12, .int (0 : Int32)), (11, .int v3), (0, .ref (eA γ 0)), (1, .ref (eA γ j0)), (2, .ref (eA γ j1)), (3, .ref (eA γ j2)), (4, .int x4), (5, .int x5), (6, .int x6), (7, .int x7), (8, .ref (eA γ j3)), (9, .ref (eA γ j4)), (10, .ref (eA γ j5))]) hx hb dL_tells_532 hl (by decide) rfl (fun ls hl => ?_)
                      exact b_L_tells_L534 C hS hd hA hR hN hlt hlo hA5 hA4 hA3 hA0 hA1 hA2 hB h49 hC 1000 ⟨cle hc1 (Nat.le_of_ble_eq_true rfl), cle hc2 (Nat.le_of_ble_eq_true rfl)⟩ h hw (lv_sub hl [3, 4, 5, 6, 2, 1, 0] rfl)
                    · replace h := ifp c74 h
                      refine lv_aload_n hx hb dL_tells_446 rfl (lv_at hl 1 rfl) ?_
                      refine lv_iconst (v := (5 : Int32)) hx hb dL_tells_447 (by decide) ?_
                      obtain ⟨v75, hv75, h⟩ := ob h
                      refine r_Vi (rest := []) C0 zz (c_X4_count (γ := γ) (o := 0) hB hv75) lk_L_73 (X4_k0 hB) rfl rfl hl.1 rfl (Nat.le_of_ble_eq_true rfl) (by decide) (Wo.cg (mmT (σ := σ) (L := [(j5, a5), (j4, a4), (j3, a3), (j0, a0), (j1, a1), (j2, a2)]) hC) hw) dL_tells_448 (fun {H} {locs} hw => ?_)
                      replace hw := Wo.cg (mmT (σ := σ) (T := T) (L := [(j5, a5), (j4, a4), (j3, a3), (j0, a0), (j1, a1), (j2, a2)]) hC).symm hw
                      refine lv_aload_n hx hb dL_tells_451 rfl (lv_at hl 4 rfl) ?_
                      refine lv_bipush (v := (7 : Int32)) hx hb dL_tells_452 (by decide) ?_
                      obtain ⟨v76, hv76, h⟩ := ob h
                      refine r_iald hx hb hK hw hA2 (mm_at (i := 5) (f := a2) hN rfl) hv76 dL_tells_454 ?_
                      refine lv_icmp_ne (tgt := 528) hx hb dL_tells_455 (by decide) (fun c77 => ?_) (fun c77 => ?_)
                      · replace h := ifn c77 h
                        refine lv_iconst (v := (0 : Int32)) hx hb dL_tells_528 (by decide) ?_
                        refine lv_istore (lv' := [(12, .int (0 : Int32)), (11, .int v3), (0, .ref (eA γ 0)), (1, .ref (eA γ j0)), (2, .ref (eA γ j1)), (3, .ref (eA γ j2)), (4, .int x4), (5, .int x5), (6, .int x6), (7, .int x7), (8, .ref (eA γ j3)), (9, .ref (eA γ j4)), (10, .ref (eA γ j5))]) hx hb dL_tells_529 hl (by decide) rfl (fun ls hl => ?_)
                        refine lv_iconst (v := (0 : Int32)) hx hb dL_tells_531 (by decide) ?_
                        refine lv_istore (lv' := [(13, .int (0 : Int32)), (12, .int (0 : Int32)), (11, .int v3), (0, .ref (eA γ 0)), (1, .ref (eA γ j0)), (2, .ref (eA γ j1)), (3, .ref (eA γ j2)), (4, .int x4), (5, .int x5), (6, .int x6), (7, .int x7), (8, .ref (eA γ j3)), (9, .ref (eA γ j4)), (10, .ref (eA γ j5))]) hx hb dL_tells_532 hl (by decide) rfl (fun ls hl => ?_)
                        exact b_L_tells_L534 C hS hd hA hR hN hlt hlo hA5 hA4 hA3 hA0 hA1 hA2 hB h49 hC 1000 ⟨cle hc1 (Nat.le_of_ble_eq_true rfl), cle hc2 (Nat.le_of_ble_eq_true rfl)⟩ h hw (lv_sub hl [3, 4, 5, 6, 2, 1, 0] rfl)
                      · replace h := ifp c77 h
                        refine lv_aload_n hx hb dL_tells_458 rfl (lv_at hl 4 rfl) ?_
                        refine lv_bipush (v := (6 : Int32)) hx hb dL_tells_459 (by decide) ?_
                        obtain ⟨v78, hv78, h⟩ := ob h
                        refine r_iald hx hb hK hw hA2 (mm_at (i := 5) (f := a2) hN rfl) hv78 dL_tells_461 ?_
                        refine lv_aload_n hx hb dL_tells_462 rfl (lv_at hl 4 rfl) ?_
                        refine lv_bipush (v := (7 : Int32)) hx hb dL_tells_463 (by decide) ?_
                        obtain ⟨v79, hv79, h⟩ := ob h
                        refine r_iald hx hb hK hw hA2 (mm_at (i := 5) (f := a2) hN rfl) hv79 dL_tells_465 ?_
                        refine lv_iadd hx hb dL_tells_466 ?_
                        refine lv_iload hx hb dL_tells_467 (lv_at hl 0 rfl) ?_
                        refine lv_icmp_ne (tgt := 528) hx hb dL_tells_469 (by decide) (fun c80 => ?_) (fun c80 => ?_)
                        · replace h := ifn c80 h
                          refine lv_iconst (v := (0 : Int32)) hx hb dL_tells_528 (by decide) ?_
                          refine lv_istore (lv' := [(12, .int (0 : Int32)), (11, .int v3), (0, .ref (eA γ 0)), (1, .ref (eA γ j0)), (2, .ref (eA γ j1)), (3, .ref (eA γ j2)), (4, .int x4), (5, .int x5), (6, .int x6), (7, .int x7), (8, .ref (eA γ j3)), (9, .ref (eA γ j4)), (10, .ref (eA γ j5))]) hx hb dL_tells_529 hl (by decide) rfl (fun ls hl => ?_)
                          refine lv_iconst (v := (0 : Int32)) hx hb dL_tells_531 (by decide) ?_
                          refine lv_istore (lv' := [(13, .int (0 : Int32)), (12, .int (0 : Int32)), (11, .int v3), (0, .ref (eA γ 0)), (1, .ref (eA γ j0)), (2, .ref (eA γ j1)), (3, .ref (eA γ j2)), (4, .int x4), (5, .int x5), (6, .int x6), (7, .int x7), (8, .ref (eA γ j3)), (9, .ref (eA γ j4)), (10, .ref (eA γ j5))]) hx hb dL_tells_532 hl (by decide) rfl (fun ls hl => ?_)
                          exact b_L_tells_L534 C hS hd hA hR hN hlt hlo hA5 hA4 hA3 hA0 hA1 hA2 hB h49 hC 1000 ⟨cle hc1 (Nat.le_of_ble_eq_true rfl), cle hc2 (Nat.le_of_ble_eq_true rfl)⟩ h hw (lv_sub hl [3, 4, 5, 6, 2, 1, 0] rfl)
                        · replace h := ifp c80 h
                          refine lv_aload_n hx hb dL_tells_472 rfl (lv_at hl 1 rfl) ?_
                          refine lv_bipush (v := (6 : Int32)) hx hb dL_tells_473 (by decide) ?_
                          obtain ⟨v81, hv81, h⟩ := ob h
                          refine r_Vi (rest := []) C0 zz (c_X4_count (γ := γ) (o := 0) hB hv81) lk_L_73 (X4_k0 hB) rfl rfl hl.1 rfl (Nat.le_of_ble_eq_true rfl) (by decide) (Wo.cg (mmT (σ := σ) (L := [(j5, a5), (j4, a4), (j3, a3), (j0, a0), (j1, a1), (j2, a2)]) hC) hw) dL_tells_475 (fun {H} {locs} hw => ?_)
                          replace hw := Wo.cg (mmT (σ := σ) (T := T) (L := [(j5, a5), (j4, a4), (j3, a3), (j0, a0), (j1, a1), (j2, a2)]) hC).symm hw
                          refine lv_iload hx hb dL_tells_478 (lv_at hl 5 rfl) ?_
                          refine lv_icmp_ne (tgt := 528) hx hb dL_tells_480 (by decide) (fun c82 => ?_) (fun c82 => ?_)
                          · replace h := ifn c82 h
                            refine lv_iconst (v := (0 : Int32)) hx hb dL_tells_528 (by decide) ?_
                            refine lv_istore (lv' := [(12, .int (0 : Int32)), (11, .int v3), (0, .ref (eA γ 0)), (1, .ref (eA γ j0)), (2, .ref (eA γ j1)), (3, .ref (eA γ j2)), (4, .int x4), (5, .int x5), (6, .int x6), (7, .int x7), (8, .ref (eA γ j3)), (9, .ref (eA γ j4)), (10, .ref (eA γ j5))]) hx hb dL_tells_529 hl (by decide) rfl (fun ls hl => ?_)
                            refine lv_iconst (v := (0 : Int32)) hx hb dL_tells_531 (by decide) ?_
                            refine lv_istore (lv' := [(13, .int (0 : Int32)), (12, .int (0 : Int32)), (11, .int v3), (0, .ref (eA γ 0)), (1, .ref (eA γ j0)), (2, .ref (eA γ j1)), (3, .ref (eA γ j2)), (4, .int x4), (5, .int x5), (6, .int x6), (7, .int x7), (8, .ref (eA γ j3)), (9, .ref (eA γ j4)), (10, .ref (eA γ j5))]) hx hb dL_tells_532 hl (by decide) rfl (fun ls hl => ?_)
                            exact b_L_tells_L534 C hS hd hA hR hN hlt hlo hA5 hA4 hA3 hA0 hA1 hA2 hB h49 hC 1000 ⟨cle hc1 (Nat.le_of_ble_eq_true rfl), cle hc2 (Nat.le_of_ble_eq_true rfl)⟩ h hw (lv_sub hl [3, 4, 5, 6, 2, 1, 0] rfl)
                          · replace h := ifp c82 h
                            refine lv_aload_n hx hb dL_tells_483 rfl (lv_at hl 1 rfl) ?_
                            refine lv_bipush (v := (7 : Int32)) hx hb dL_tells_484 (by decide) ?_
                            obtain ⟨v83, hv83, h⟩ := ob h
                            refine r_Vi (rest := []) C0 zz (c_X4_count (γ := γ) (o := 0) hB hv83) lk_L_73 (X4_k0 hB) rfl rfl hl.1 rfl (Nat.le_of_ble_eq_true rfl) (by decide) (Wo.cg (mmT (σ := σ) (L := [(j5, a5), (j4, a4), (j3, a3), (j0, a0), (j1, a1), (j2, a2)]) hC) hw) dL_tells_486 (fun {H} {locs} hw => ?_)
                            replace hw := Wo.cg (mmT (σ := σ) (T := T) (L := [(j5, a5), (j4, a4), (j3, a3), (j0, a0), (j1, a1), (j2, a2)]) hC).symm hw
                            refine lv_iload hx hb dL_tells_489 (lv_at hl 6 rfl) ?_
                            refine lv_icmp_ne (tgt := 528) hx hb dL_tells_491 (by decide) (fun c84 => ?_) (fun c84 => ?_)
                            · replace h := ifn c84 h
                              refine lv_iconst (v := (0 : Int32)) hx hb dL_tells_528 (by decide) ?_
                              refine lv_istore (lv' := [(12, .int (0 : Int32)), (11, .int v3), (0, .ref (eA γ 0)), (1, .ref (eA γ j0)), (2, .ref (eA γ j1)), (3, .ref (eA γ j2)), (4, .int x4), (5, .int x5), (6, .int x6), (7, .int x7), (8, .ref (eA γ j3)), (9, .ref (eA γ j4)), (10, .ref (eA γ j5))]) hx hb dL_tells_529 hl (by decide) rfl (fun ls hl => ?_)
                              refine lv_iconst (v := (0 : Int32)) hx hb dL_tells_531 (by decide) ?_
                              refine lv_istore (lv' := [(13, .int (0 : Int32)), (12, .int (0 : Int32)), (11, .int v3), (0, .ref (eA γ 0)), (1, .ref (eA γ j0)), (2, .ref (eA γ j1)), (3, .ref (eA γ j2)), (4, .int x4), (5, .int x5), (6, .int x6), (7, .int x7), (8, .ref (eA γ j3)), (9, .ref (eA γ j4)), (10, .ref (eA γ j5))]) hx hb dL_tells_532 hl (by decide) rfl (fun ls hl => ?_)
                              exact b_L_tells_L534 C hS hd hA hR hN hlt hlo hA5 hA4 hA3 hA0 hA1 hA2 hB h49 hC 1000 ⟨cle hc1 (Nat.le_of_ble_eq_true rfl), cle hc2 (Nat.le_of_ble_eq_true rfl)⟩ h hw (lv_sub hl [3, 4, 5, 6, 2, 1, 0] rfl)
                            · replace h := ifp c84 h
                              refine lv_aload_n hx hb dL_tells_494 rfl (lv_at hl 1 rfl) ?_
                              refine lv_bipush (v := (10 : Int32)) hx hb dL_tells_495 (by decide) ?_
                              obtain ⟨v85, hv85, h⟩ := ob h
                              refine r_Vi (rest := []) C0 zz (c_X4_count (γ := γ) (o := 0) hB hv85) lk_L_73 (X4_k0 hB) rfl rfl hl.1 rfl (Nat.le_of_ble_eq_true rfl) (by decide) (Wo.cg (mmT (σ := σ) (L := [(j5, a5), (j4, a4), (j3, a3), (j0, a0), (j1, a1), (j2, a2)]) hC) hw) dL_tells_497 (fun {H} {locs} hw => ?_)
                              replace hw := Wo.cg (mmT (σ := σ) (T := T) (L := [(j5, a5), (j4, a4), (j3, a3), (j0, a0), (j1, a1), (j2, a2)]) hC).symm hw
                              refine lv_aload_n hx hb dL_tells_500 rfl (lv_at hl 4 rfl) ?_
                              refine lv_bipush (v := (8 : Int32)) hx hb dL_tells_501 (by decide) ?_
                              obtain ⟨v86, hv86, h⟩ := ob h
                              refine r_iald hx hb hK hw hA2 (mm_at (i := 5) (f := a2) hN rfl) hv86 dL_tells_503 ?_
                              refine lv_icmp_ne (tgt := 528) hx hb dL_tells_504 (by decide) (fun c87 => ?_) (fun c87 => ?_)
                              · replace h := ifn c87 h
                                refine lv_iconst (v := (0 : Int32)) hx hb dL_tells_528 (by decide) ?_
                                refine lv_istore (lv' := [(12, .int (0 : Int32)), (11, .int v3), (0, .ref (eA γ 0)), (1, .ref (eA γ j0)), (2, .ref (eA γ j1)), (3, .ref (eA γ j2)), (4, .int x4), (5, .int x5), (6, .int x6), (7, .int x7), (8, .ref (eA γ j3)), (9, .ref (eA γ j4)), (10, .ref (eA γ j5))]) hx hb dL_tells_529 hl (by decide) rfl (fun ls hl => ?_)
                                refine lv_iconst (v := (0 : Int32)) hx hb dL_tells_531 (by decide) ?_
                                refine lv_istore (lv' := [(13, .int (0 : Int32)), (12, .int (0 : Int32)), (11, .int v3), (0, .ref (eA γ 0)), (1, .ref (eA γ j0)), (2, .ref (eA γ j1)), (3, .ref (eA γ j2)), (4, .int x4), (5, .int x5), (6, .int x6), (7, .int x7), (8, .ref (eA γ j3)), (9, .ref (eA γ j4)), (10, .ref (eA γ j5))]) hx hb dL_tells_532 hl (by decide) rfl (fun ls hl => ?_)
                                exact b_L_tells_L534 C hS hd hA hR hN hlt hlo hA5 hA4 hA3 hA0 hA1 hA2 hB h49 hC 1000 ⟨cle hc1 (Nat.le_of_ble_eq_true rfl), cle hc2 (Nat.le_of_ble_eq_true rfl)⟩ h hw (lv_sub hl [3, 4, 5, 6, 2, 1, 0] rfl)
                              · replace h := ifp c87 h
                                refine lv_aload_n hx hb dL_tells_507 rfl (lv_at hl 1 rfl) ?_
                                refine lv_iconst (v := (0 : Int32)) hx hb dL_tells_508 (by decide) ?_
                                obtain ⟨q88, hq88, h⟩ := ob h
                                refine r_Vi (rest := []) C0 zz (c_X4_look (γ := γ) (o := 0) hB hq88) lk_L_76 (X4_k0 hB) rfl rfl hl.1 rfl (Nat.le_of_ble_eq_true rfl) (by decide) (Wo.cg (mmT (σ := σ) (L := [(j5, a5), (j4, a4), (j3, a3), (j0, a0), (j1, a1), (j2, a2)]) hC) hw) dL_tells_509 (fun {H} {locs} hw => ?_)
                                replace hw := Wo.cg (mmT (σ := σ) (T := q88.2) (L := [(j5, a5), (j4, a4), (j3, a3), (j0, a0), (j1, a1), (j2, a2)]) hC).symm hw
                                refine lv_aload_n hx hb dL_tells_512 rfl (lv_at hl 2 rfl) ?_
                                refine lv_aload_n hx hb dL_tells_513 rfl (lv_at hl 3 rfl) ?_
                                refine lv_aload_n hx hb dL_tells_514 rfl (lv_at hl 4 rfl) ?_
                                refine lv_aload_n hx hb dL_tells_515 rfl (lv_at hl 4 rfl) ?_
                                refine lv_iconst (v := (4 : Int32)) hx hb dL_tells_516 (by decide) ?_
                                obtain ⟨v89, hv89, h⟩ := ob h
                                refine r_iald hx hb hK hw hA2 (mm_at (i := 5) (f := a2) hN rfl) hv89 dL_tells_517 ?_
                                obtain ⟨v90, hv90, h⟩ := ob h
                                refine r_Si (rest := [.int q88.1]) C0 zz (c_L_told (μ := mm (stT σ 0 q88.2) [(j5, a5), (j4, a4), (j3, a3), (j0, a0), (j1, a1), (j2, a2)]) (nd_sub hN [3, 4, 5] (by decide) rfl) hA0 hA1 hA2 hv90) lk_L_41 hl.1 rfl (Nat.le_of_ble_eq_true rfl) (by decide) (Wo.cg (mm_pre (μ := (stT σ 0 q88.2)) (L := [(j5, a5), (j4, a4), (j3, a3), (j0, a0), (j1, a1), (j2, a2)]) (L' := [(j0, a0), (j1, a1), (j2, a2)]) hN [3, 4, 5] rfl) hw) dL_tells_518 (fun {H} {locs} hw => ?_)
                                replace hw := Wo.cg (mm_pre (μ := (stT σ 0 q88.2)) (L := [(j5, a5), (j4, a4), (j3, a3), (j0, a0), (j1, a1), (j2, a2)]) (L' := [(j0, a0), (j1, a1), (j2, a2)]) hN [3, 4, 5] rfl).symm hw
                                refine lv_icmp_ne (tgt := 528) hx hb dL_tells_521 (by decide) (fun c91 => ?_) (fun c91 => ?_)
                                · replace h := ifn c91 h
                                  refine lv_iconst (v := (0 : Int32)) hx hb dL_tells_528 (by decide) ?_
                                  refine lv_istore (lv' := [(12, .int (0 : Int32)), (11, .int v3), (0, .ref (eA γ 0)), (1, .ref (eA γ j0)), (2, .ref (eA γ j1)), (3, .ref (eA γ j2)), (4, .int x4), (5, .int x5), (6, .int x6), (7, .int x7), (8, .ref (eA γ j3)), (9, .ref (eA γ j4)), (10, .ref (eA γ j5))]) hx hb dL_tells_529 hl (by decide) rfl (fun ls hl => ?_)
                                  refine lv_iconst (v := (0 : Int32)) hx hb dL_tells_531 (by decide) ?_
                                  refine lv_istore (lv' := [(13, .int (0 : Int32)), (12, .int (0 : Int32)), (11, .int v3), (0, .ref (eA γ 0)), (1, .ref (eA γ j0)), (2, .ref (eA γ j1)), (3, .ref (eA γ j2)), (4, .int x4), (5, .int x5), (6, .int x6), (7, .int x7), (8, .ref (eA γ j3)), (9, .ref (eA γ j4)), (10, .ref (eA γ j5))]) hx hb dL_tells_532 hl (by decide) rfl (fun ls hl => ?_)
                                  exact b_L_tells_L534 C hS hd hA hR hN hlt hlo hA5 hA4 hA3 hA0 hA1 hA2 hB h49 hC 1000 ⟨cle hc1 (Nat.le_of_ble_eq_true rfl), cle hc2 (Nat.le_of_ble_eq_true rfl)⟩ h hw (lv_sub hl [3, 4, 5, 6, 2, 1, 0] rfl)
                                · replace h := ifp c91 h
                                  refine lv_iconst (v := (1 : Int32)) hx hb dL_tells_524 (by decide) ?_
                                  refine lv_goto (tgt := 529) hx hb dL_tells_525 (by decide) ?_
                                  refine lv_istore (lv' := [(12, .int (1 : Int32)), (11, .int v3), (0, .ref (eA γ 0)), (1, .ref (eA γ j0)), (2, .ref (eA γ j1)), (3, .ref (eA γ j2)), (4, .int x4), (5, .int x5), (6, .int x6), (7, .int x7), (8, .ref (eA γ j3)), (9, .ref (eA γ j4)), (10, .ref (eA γ j5))]) hx hb dL_tells_529 hl (by decide) rfl (fun ls hl => ?_)
                                  refine lv_iconst (v := (0 : Int32)) hx hb dL_tells_531 (by decide) ?_
                                  refine lv_istore (lv' := [(13, .int (0 : Int32)), (12, .int (1 : Int32)), (11, .int v3), (0, .ref (eA γ 0)), (1, .ref (eA γ j0)), (2, .ref (eA γ j1)), (3, .ref (eA γ j2)), (4, .int x4), (5, .int x5), (6, .int x6), (7, .int x7), (8, .ref (eA γ j3)), (9, .ref (eA γ j4)), (10, .ref (eA γ j5))]) hx hb dL_tells_532 hl (by decide) rfl (fun ls hl => ?_)
                                  exact b_L_tells_L534 C hS hd hA hR hN hlt hlo hA5 hA4 hA3 hA0 hA1 hA2 hB h49 hC 1000 ⟨cle hc1 (Nat.le_of_ble_eq_true rfl), cle hc2 (Nat.le_of_ble_eq_true rfl)⟩ h hw (lv_sub hl [3, 4, 5, 6, 2, 1, 0] rfl)
    · replace h := ifn c2 h
      refine lv_iload hx hb dL_tells_192 (lv_at hl 11 rfl) ?_
      obtain ⟨v92, hv92, h⟩ := ob h
      refine r_Si (rest := []) C0 zz (c_L_order hv92) lk_L_45 hl.1 rfl (Nat.le_of_ble_eq_true rfl) (by decide) hw dL_tells_194 (fun {H} {locs} hw => ?_)
      refine lv_istore (lv' := [(12, .int v92), (0, .ref (eA γ 0)), (1, .ref (eA γ j0)), (2, .ref (eA γ j1)), (3, .ref (eA γ j2)), (4, .int x4), (5, .int x5), (6, .int x6), (7, .int x7), (8, .ref (eA γ j3)), (9, .ref (eA γ j4)), (10, .ref (eA γ j5)), (11, .int x11)]) hx hb dL_tells_197 hl (by decide) rfl (fun ls hl => ?_)
      refine lv_aload_n hx hb dL_tells_199 rfl (lv_at hl 2 rfl) ?_
      refine lv_aload_n hx hb dL_tells_200 rfl (lv_at hl 3 rfl) ?_
      refine lv_aload_n hx hb dL_tells_201 rfl (lv_at hl 4 rfl) ?_
      refine lv_iload hx hb dL_tells_202 (lv_at hl 0 rfl) ?_
      refine lv_bipush (v := (100 : Int32)) hx hb dL_tells_204 (by decide) ?_
      obtain ⟨v93, hv93, h⟩ := ob h
      refine lv_idiv hx hb dL_tells_206 (dvi_some hv93).1 ?_
      refine r_top (dvi_some hv93).2 ?_
      refine lv_iload hx hb dL_tells_207 (lv_at hl 0 rfl) ?_
      refine lv_bipush (v := (100 : Int32)) hx hb dL_tells_209 (by decide) ?_
      obtain ⟨v94, hv94, h⟩ := ob h
      refine lv_irem hx hb dL_tells_211 (rmi_some hv94).1 ?_
      refine r_top (rmi_some hv94).2 ?_
      refine lv_bipush (v := (50 : Int32)) hx hb dL_tells_212 (by decide) ?_
      refine lv_isub hx hb dL_tells_214 ?_
      obtain ⟨v95, hv95, h⟩ := ob h
      refine r_Si (rest := []) C0 zz (c_L_why (μ := mm (stT σ 0 T) [(j5, a5), (j4, a4), (j3, a3), (j0, a0), (j1, a1), (j2, a2)]) (nd_sub hN [3, 4, 5] (by decide) rfl) hA0 hA1 hA2 hv95) lk_L_48 hl.1 rfl (Nat.le_of_ble_eq_true rfl) (by decide) (Wo.cg (mm_pre (μ := (stT σ 0 T)) (L := [(j5, a5), (j4, a4), (j3, a3), (j0, a0), (j1, a1), (j2, a2)]) (L' := [(j0, a0), (j1, a1), (j2, a2)]) hN [3, 4, 5] rfl) hw) dL_tells_215 (fun {H} {locs} hw => ?_)
      replace hw := Wo.cg (mm_pre (μ := (stT σ 0 T)) (L := [(j5, a5), (j4, a4), (j3, a3), (j0, a0), (j1, a1), (j2, a2)]) (L' := [(j0, a0), (j1, a1), (j2, a2)]) hN [3, 4, 5] rfl).symm hw
      refine lv_istore (lv' := [(13, .int v95), (12, .int v92), (0, .ref (eA γ 0)), (1, .ref (eA γ j0)), (2, .ref (eA γ j1)), (3, .ref (eA γ j2)), (4, .int x4), (5, .int x5), (6, .int x6), (7, .int x7), (8, .ref (eA γ j3)), (9, .ref (eA γ j4)), (10, .ref (eA γ j5)), (11, .int x11)]) hx hb dL_tells_218 hl (by decide) rfl (fun ls hl => ?_)
      refine lv_aload_n hx hb dL_tells_220 rfl (lv_at hl 2 rfl) ?_
      refine lv_iload hx hb dL_tells_221 (lv_at hl 1 rfl) ?_
      refine lv_bipush (v := (100 : Int32)) hx hb dL_tells_223 (by decide) ?_
      obtain ⟨v96, hv96, h⟩ := ob h
      refine lv_idiv hx hb dL_tells_225 (dvi_some hv96).1 ?_
      refine r_top (dvi_some hv96).2 ?_
      refine lv_iload hx hb dL_tells_226 (lv_at hl 1 rfl) ?_
      refine lv_bipush (v := (100 : Int32)) hx hb dL_tells_228 (by decide) ?_
      obtain ⟨v97, hv97, h⟩ := ob h
      refine lv_irem hx hb dL_tells_230 (rmi_some hv97).1 ?_
      refine r_top (rmi_some hv97).2 ?_
      refine lv_bipush (v := (50 : Int32)) hx hb dL_tells_231 (by decide) ?_
      refine lv_isub hx hb dL_tells_233 ?_
      obtain ⟨v98, hv98, h⟩ := ob h
      refine r_Vi (rest := []) C0 zz (c_X4_reason (γ := γ) (o := 0) hB hv98) lk_L_67 (X4_k0 hB) rfl rfl hl.1 rfl (Nat.le_of_ble_eq_true rfl) (by decide) (Wo.cg (mmT (σ := σ) (L := [(j5, a5), (j4, a4), (j3, a3), (j0, a0), (j1, a1), (j2, a2)]) hC) hw) dL_tells_234 (fun {H} {locs} hw => ?_)
      replace hw := Wo.cg (mmT (σ := σ) (T := T) (L := [(j5, a5), (j4, a4), (j3, a3), (j0, a0), (j1, a1), (j2, a2)]) hC).symm hw
      refine lv_iload hx hb dL_tells_237 (lv_at hl 0 rfl) ?_
      refine lv_icmp_ne (tgt := 258) hx hb dL_tells_239 (by decide) (fun c99 => ?_) (fun c99 => ?_)
      · replace h := ifn c99 h
        refine lv_iconst (v := (0 : Int32)) hx hb dL_tells_258 (by decide) ?_
        obtain ⟨h1, h2⟩ := s2 h
        subst h1
        subst h2
        exact r_zretA hx hb hr hlk hS hK0 hd0 hw (mm_lo2 (μ := (stT σ 0 T)) (L := [(j5, a5), (j4, a4), (j3, a3)]) (L' := [(j0, a0), (j1, a1), (j2, a2)]) hlo) ⟨cMC hc1, cMC hc2⟩ rfl dL_tells_259
      · replace h := ifp c99 h
        refine lv_iload hx hb dL_tells_242 (lv_at hl 0 rfl) ?_
        refine jn_elim h (fun (k : Unit → Option (Int32 × (Nat → Mm))) => ∀ (u : Unit) {cells slots : Nat} {H : Heap} {locs : List Loc} {ls : Array Slot}, k u = some (r, Tf) → cells + (0) ≤ MC ∧ slots + (0) ≤ MS → Wo γ (mm (stT σ 0 T) [(j5, a5), (j4, a4), (j3, a3), (j0, a0), (j1, a1), (j2, a2)]) s H locs → lv_has ls 16 [(0, .ref (eA γ 0)), (1, .ref (eA γ j0)), (2, .ref (eA γ j1)), (3, .ref (eA γ j2)), (4, .int x4), (5, .int x5), (6, .int x6), (7, .int x7), (8, .ref (eA γ j3)), (9, .ref (eA γ j4)), (10, .ref (eA γ j5)), (11, .int x11), (12, .int v92), (13, .int v95)] → W p l e R s m args below meth c H locs cells slots (MQ below (Qo γ0 (some (.int r)) (mm (stT σ 0 Tf) [(j0, a0), (j1, a1), (j2, a2)])) args s MC MS (AK γ0)) (F0 m 260 ls [])) ?_ ?_
        · intro u cells slots H locs ls h hcs hw hl
          obtain ⟨hc1, hc2⟩ := hcs
          have zz := And.intro (cin hc1 hr1) (cin hc2 hr2)
          refine lv_iload hx hb dL_tells_260 (lv_at hl 13 rfl) ?_
          refine lv_if_ne (tgt := 342) hx hb dL_tells_262 (by decide) (fun c102 => ?_) (fun c102 => ?_)
          · replace h := ifn c102 h
            obtain ⟨v103, ev103, h⟩ := jb h
            refine lv_iinc (v := v103) (lv' := [(11, .int v103), (0, .ref (eA γ 0)), (1, .ref (eA γ j0)), (2, .ref (eA γ j1)), (3, .ref (eA γ j2)), (4, .int x4), (5, .int x5), (6, .int x6), (7, .int x7), (8, .ref (eA γ j3)), (9, .ref (eA γ j4)), (10, .ref (eA γ j5)), (12, .int v92), (13, .int v95)]) hx hb dL_tells_342 hl (k := 11) rfl (by rw [← ev103]; rfl) (by decide) rfl (fun ls hl => ?_)
            refine lv_goto (tgt := 185) hx hb dL_tells_345 (by decide) ?_
            exact ih ⟨cle hc1 (Nat.le_of_ble_eq_true rfl), cle hc2 (Nat.le_of_ble_eq_true rfl)⟩ h hw (lv_sub hl [1, 2, 3, 4, 5, 6, 7, 8, 9, 10, 11, 0] rfl)
          · replace h := ifp c102 h
            obtain ⟨v104, ev104, h⟩ := jb h
            refine lv_iinc (v := v104) (lv' := [(6, .int v104), (0, .ref (eA γ 0)), (1, .ref (eA γ j0)), (2, .ref (eA γ j1)), (3, .ref (eA γ j2)), (4, .int x4), (5, .int x5), (7, .int x7), (8, .ref (eA γ j3)), (9, .ref (eA γ j4)), (10, .ref (eA γ j5)), (11, .int x11), (12, .int v92), (13, .int v95)]) hx hb dL_tells_265 hl (k := 6) rfl (by rw [← ev104]; rfl) (by decide) rfl (fun ls hl => ?_)
            refine lv_aload_n hx hb dL_tells_268 rfl (lv_at hl 2 rfl) ?_
            refine lv_aload hx hb dL_tells_269 (lv_at hl 8 rfl) ?_
            obtain ⟨A105, hA105, h⟩ := ob h
            refine r_Sv (rest := []) C0 zz (c_L_copy (μ := mm (stT σ 0 T) [(j5, a5), (j4, a4), (j3, a3), (j0, a0), (j1, a1), (j2, a2)]) (nd_sub hN [3, 2] (by decide) rfl) hA0 hA3 hA105) lk_L_52 hl.1 rfl (Nat.le_of_ble_eq_true rfl) (by decide) (Wo.cg (mm_pre (μ := (stT σ 0 T)) (L := [(j5, a5), (j4, a4), (j3, a3), (j0, a0), (j1, a1), (j2, a2)]) (L' := [(j0, a0), (j3, a3)]) hN [3, 2] rfl) hw) dL_tells_271 (fun {H} {locs} hw => ?_)
            replace hw := Wo.cg (mm_post (μ := (stT σ 0 T)) (L := [(j5, a5), (j4, a4), (j3, a3), (j0, a0), (j1, a1), (j2, a2)]) (L' := [(j0, a0), (j3, A105)]) (Ln := [(j5, a5), (j4, a4), (j3, A105), (j0, a0), (j1, a1), (j2, a2)]) hN [(3, a0), (2, A105)] rfl rfl rfl) hw
            refine lv_aload_n hx hb dL_tells_274 rfl (lv_at hl 3 rfl) ?_
            refine lv_aload hx hb dL_tells_275 (lv_at hl 9 rfl) ?_
            obtain ⟨A106, hA106, h⟩ := ob h
            refine r_Sv (rest := []) C0 zz (c_L_copy (μ := mm (stT σ 0 T) [(j5, a5), (j4, a4), (j3, A105), (j0, a0), (j1, a1), (j2, a2)]) (nd_sub hN [4, 1] (by decide) rfl) hA1 hA4 hA106) lk_L_52 hl.1 rfl (Nat.le_of_ble_eq_true rfl) (by decide) (Wo.cg (mm_pre (μ := (stT σ 0 T)) (L := [(j5, a5), (j4, a4), (j3, A105), (j0, a0), (j1, a1), (j2, a2)]) (L' := [(j1, a1), (j4, a4)]) hN [4, 1] rfl) hw) dL_tells_277 (fun {H} {locs} hw => ?_)
            replace hw := Wo.cg (mm_post (μ := (stT σ 0 T)) (L := [(j5, a5), (j4, a4), (j3, A105), (j0, a0), (j1, a1), (j2, a2)]) (L' := [(j1, a1), (j4, A106)]) (Ln := [(j5, a5), (j4, A106), (j3, A105), (j0, a0), (j1, a1), (j2, a2)]) hN [(4, a1), (1, A106)] rfl rfl rfl) hw
            refine lv_aload_n hx hb dL_tells_280 rfl (lv_at hl 4 rfl) ?_
            refine lv_aload hx hb dL_tells_281 (lv_at hl 10 rfl) ?_
            obtain ⟨A107, hA107, h⟩ := ob h
            refine r_Sv (rest := []) C0 zz (c_L_copy (μ := mm (stT σ 0 T) [(j5, a5), (j4, A106), (j3, A105), (j0, a0), (j1, a1), (j2, a2)]) (nd_sub hN [5, 0] (by decide) rfl) hA2 hA5 hA107) lk_L_52 hl.1 rfl (Nat.le_of_ble_eq_true rfl) (by decide) (Wo.cg (mm_pre (μ := (stT σ 0 T)) (L := [(j5, a5), (j4, A106), (j3, A105), (j0, a0), (j1, a1), (j2, a2)]) (L' := [(j2, a2), (j5, a5)]) hN [5, 0] rfl) hw) dL_tells_283 (fun {H} {locs} hw => ?_)
            replace hw := Wo.cg (mm_post (μ := (stT σ 0 T)) (L := [(j5, a5), (j4, A106), (j3, A105), (j0, a0), (j1, a1), (j2, a2)]) (L' := [(j2, a2), (j5, A107)]) (Ln := [(j5, A107), (j4, A106), (j3, A105), (j0, a0), (j1, a1), (j2, a2)]) hN [(5, a2), (0, A107)] rfl rfl rfl) hw
            refine lv_aload hx hb dL_tells_286 (lv_at hl 8 rfl) ?_
            refine lv_aload hx hb dL_tells_288 (lv_at hl 9 rfl) ?_
            refine lv_aload hx hb dL_tells_290 (lv_at hl 10 rfl) ?_
            refine lv_iload hx hb dL_tells_292 (lv_at hl 12 rfl) ?_
            refine lv_bipush (v := (100 : Int32)) hx hb dL_tells_294 (by decide) ?_
            obtain ⟨v108, hv108, h⟩ := ob h
            refine lv_idiv hx hb dL_tells_296 (dvi_some hv108).1 ?_
            refine r_top (dvi_some hv108).2 ?_
            refine lv_iload hx hb dL_tells_297 (lv_at hl 12 rfl) ?_
            refine lv_bipush (v := (100 : Int32)) hx hb dL_tells_299 (by decide) ?_
            obtain ⟨v109, hv109, h⟩ := ob h
            refine lv_irem hx hb dL_tells_301 (rmi_some hv109).1 ?_
            refine r_top (rmi_some hv109).2 ?_
            refine lv_bipush (v := (50 : Int32)) hx hb dL_tells_302 (by decide) ?_
            refine lv_isub hx hb dL_tells_304 ?_
            obtain ⟨q110, hq110, h⟩ := ob h
            refine r_Sv (rest := []) C0 zz (c_L_move (μ := mm (stT σ 0 T) [(j5, A107), (j4, A106), (j3, A105), (j0, a0), (j1, a1), (j2, a2)]) (nd_sub hN [2, 1, 0] (by decide) rfl) hA3 hA4 hA5 hq110) lk_L_56 hl.1 rfl (Nat.le_of_ble_eq_true rfl) (by decide) (Wo.cg (mm_pre (μ := (stT σ 0 T)) (L := [(j5, A107), (j4, A106), (j3, A105), (j0, a0), (j1, a1), (j2, a2)]) (L' := [(j3, A105), (j4, A106), (j5, A107)]) hN [2, 1, 0] rfl) hw) dL_tells_305 (fun {H} {locs} hw => ?_)
            replace hw := Wo.cg (mm_post (μ := (stT σ 0 T)) (L := [(j5, A107), (j4, A106), (j3, A105), (j0, a0), (j1, a1), (j2, a2)]) (L' := [(j3, q110.1), (j4, q110.2.1), (j5, q110.2.2)]) (Ln := [(j5, q110.2.2), (j4, q110.2.1), (j3, q110.1), (j0, a0), (j1, a1), (j2, a2)]) hN [(2, q110.1), (1, q110.2.1), (0, q110.2.2)] rfl rfl rfl) hw
            refine lv_aload hx hb dL_tells_308 (lv_at hl 8 rfl) ?_
            obtain ⟨v111, hv111, h⟩ := ob h
            refine r_Si (rest := []) C0 zz (c_L_turn (μ := mm (stT σ 0 T) [(j5, q110.2.2), (j4, q110.2.1), (j3, q110.1), (j0, a0), (j1, a1), (j2, a2)]) (nd_sub hN [2] (by decide) rfl) hA3 hv111) lk_L_16 hl.1 rfl (Nat.le_of_ble_eq_true rfl) (by decide) (Wo.cg (mm_pre (μ := (stT σ 0 T)) (L := [(j5, q110.2.2), (j4, q110.2.1), (j3, q110.1), (j0, a0), (j1, a1), (j2, a2)]) (L' := [(j3, q110.1)]) hN [2] rfl) hw) dL_tells_310 (fun {H} {locs} hw => ?_)
            replace hw := Wo.cg (mm_pre (μ := (stT σ 0 T)) (L := [(j5, q110.2.2), (j4, q110.2.1), (j3, q110.1), (j0, a0), (j1, a1), (j2, a2)]) (L' := [(j3, q110.1)]) hN [2] rfl).symm hw
            refine lv_istore (lv' := [(14, .int v111), (6, .int v104), (0, .ref (eA γ 0)), (1, .ref (eA γ j0)), (2, .ref (eA γ j1)), (3, .ref (eA γ j2)), (4, .int x4), (5, .int x5), (7, .int x7), (8, .ref (eA γ j3)), (9, .ref (eA γ j4)), (10, .ref (eA γ j5)), (11, .int x11), (12, .int v92), (13, .int v95)]) hx hb dL_tells_313 hl (by decide) rfl (fun ls hl => ?_)
            refine lv_iload hx hb dL_tells_315 (lv_at hl 8 rfl) ?_
            refine lv_iload hx hb dL_tells_317 (lv_at hl 0 rfl) ?_
            refine lv_aload_n hx hb dL_tells_319 rfl (lv_at hl 5 rfl) ?_
            refine lv_iconst (v := (1 : Int32)) hx hb dL_tells_320 (by decide) ?_
            obtain ⟨v112, hv112, h⟩ := ob h
            refine r_iald hx hb hK hw hA2 (mm_at (i := 5) (f := a2) hN rfl) hv112 dL_tells_321 ?_
            refine lv_icmp_gt (tgt := 338) hx hb dL_tells_322 (by decide) (fun c113 => ?_) (fun c113 => ?_)
            · replace h := ifp c113 h
              refine lv_iconst (v := (0 : Int32)) hx hb dL_tells_338 (by decide) ?_
              refine lv_iadd hx hb dL_tells_339 ?_
              obtain ⟨v114, ev114, h⟩ := jb h
              refine r_top ev114 ?_
              refine lv_istore (lv' := [(7, .int v114), (14, .int v111), (6, .int v104), (0, .ref (eA γ 0)), (1, .ref (eA γ j0)), (2, .ref (eA γ j1)), (3, .ref (eA γ j2)), (4, .int x4), (5, .int x5), (8, .ref (eA γ j3)), (9, .ref (eA γ j4)), (10, .ref (eA γ j5)), (11, .int x11), (12, .int v92), (13, .int v95)]) hx hb dL_tells_340 hl (by decide) rfl (fun ls hl => ?_)
              obtain ⟨v115, ev115, h⟩ := jb h
              refine lv_iinc (v := v115) (lv' := [(11, .int v115), (7, .int v114), (14, .int v111), (6, .int v104), (0, .ref (eA γ 0)), (1, .ref (eA γ j0)), (2, .ref (eA γ j1)), (3, .ref (eA γ j2)), (4, .int x4), (5, .int x5), (8, .ref (eA γ j3)), (9, .ref (eA γ j4)), (10, .ref (eA γ j5)), (12, .int v92), (13, .int v95)]) hx hb dL_tells_342 hl (k := 12) rfl (by rw [← ev115]; rfl) (by decide) rfl (fun ls hl => ?_)
              refine lv_goto (tgt := 185) hx hb dL_tells_345 (by decide) ?_
              exact ih ⟨cle hc1 (Nat.le_of_ble_eq_true rfl), cle hc2 (Nat.le_of_ble_eq_true rfl)⟩ h hw (lv_sub hl [4, 5, 6, 7, 8, 9, 3, 1, 10, 11, 12, 0] rfl)
            · replace h := ifn c113 h
              refine lv_iload hx hb dL_tells_325 (lv_at hl 0 rfl) ?_
              refine lv_ineg hx hb dL_tells_327 ?_
              refine lv_aload_n hx hb dL_tells_328 rfl (lv_at hl 5 rfl) ?_
              refine lv_iconst (v := (1 : Int32)) hx hb dL_tells_329 (by decide) ?_
              obtain ⟨v116, hv116, h⟩ := ob h
              refine r_iald hx hb hK hw hA2 (mm_at (i := 5) (f := a2) hN rfl) hv116 dL_tells_330 ?_
              refine lv_icmp_gt (tgt := 338) hx hb dL_tells_331 (by decide) (fun c117 => ?_) (fun c117 => ?_)
              · replace h := ifp c117 h
                refine lv_iconst (v := (0 : Int32)) hx hb dL_tells_338 (by decide) ?_
                refine lv_iadd hx hb dL_tells_339 ?_
                obtain ⟨v118, ev118, h⟩ := jb h
                refine r_top ev118 ?_
                refine lv_istore (lv' := [(7, .int v118), (14, .int v111), (6, .int v104), (0, .ref (eA γ 0)), (1, .ref (eA γ j0)), (2, .ref (eA γ j1)), (3, .ref (eA γ j2)), (4, .int x4), (5, .int x5), (8, .ref (eA γ j3)), (9, .ref (eA γ j4)), (10, .ref (eA γ j5)), (11, .int x11), (12, .int v92), (13, .int v95)]) hx hb dL_tells_340 hl (by decide) rfl (fun ls hl => ?_)
                obtain ⟨v119, ev119, h⟩ := jb h
                refine lv_iinc (v := v119) (lv' := [(11, .int v119), (7, .int v118), (14, .int v111), (6, .int v104), (0, .ref (eA γ 0)), (1, .ref (eA γ j0)), (2, .ref (eA γ j1)), (3, .ref (eA γ j2)), (4, .int x4), (5, .int x5), (8, .ref (eA γ j3)), (9, .ref (eA γ j4)), (10, .ref (eA γ j5)), (12, .int v92), (13, .int v95)]) hx hb dL_tells_342 hl (k := 12) rfl (by rw [← ev119]; rfl) (by decide) rfl (fun ls hl => ?_)
                refine lv_goto (tgt := 185) hx hb dL_tells_345 (by decide) ?_
                exact ih ⟨cle hc1 (Nat.le_of_ble_eq_true rfl), cle hc2 (Nat.le_of_ble_eq_true rfl)⟩ h hw (lv_sub hl [4, 5, 6, 7, 8, 9, 3, 1, 10, 11, 12, 0] rfl)
              · replace h := ifn c117 h
                refine lv_iconst (v := (1 : Int32)) hx hb dL_tells_334 (by decide) ?_
                refine lv_goto (tgt := 339) hx hb dL_tells_335 (by decide) ?_
                refine lv_iadd hx hb dL_tells_339 ?_
                obtain ⟨v120, ev120, h⟩ := jb h
                refine r_top ev120 ?_
                refine lv_istore (lv' := [(7, .int v120), (14, .int v111), (6, .int v104), (0, .ref (eA γ 0)), (1, .ref (eA γ j0)), (2, .ref (eA γ j1)), (3, .ref (eA γ j2)), (4, .int x4), (5, .int x5), (8, .ref (eA γ j3)), (9, .ref (eA γ j4)), (10, .ref (eA γ j5)), (11, .int x11), (12, .int v92), (13, .int v95)]) hx hb dL_tells_340 hl (by decide) rfl (fun ls hl => ?_)
                obtain ⟨v121, ev121, h⟩ := jb h
                refine lv_iinc (v := v121) (lv' := [(11, .int v121), (7, .int v120), (14, .int v111), (6, .int v104), (0, .ref (eA γ 0)), (1, .ref (eA γ j0)), (2, .ref (eA γ j1)), (3, .ref (eA γ j2)), (4, .int x4), (5, .int x5), (8, .ref (eA γ j3)), (9, .ref (eA γ j4)), (10, .ref (eA γ j5)), (12, .int v92), (13, .int v95)]) hx hb dL_tells_342 hl (k := 12) rfl (by rw [← ev121]; rfl) (by decide) rfl (fun ls hl => ?_)
                refine lv_goto (tgt := 185) hx hb dL_tells_345 (by decide) ?_
                exact ih ⟨cle hc1 (Nat.le_of_ble_eq_true rfl), cle hc2 (Nat.le_of_ble_eq_true rfl)⟩ h hw (lv_sub hl [4, 5, 6, 7, 8, 9, 3, 1, 10, 11, 12, 0] rfl)
        intro k101 J_k101 h
        refine lv_if_ne (tgt := 260) hx hb dL_tells_244 (by decide) (fun c122 => ?_) (fun c122 => ?_)
        · replace h := ifn c122 h
          exact J_k101 () h ⟨cle hc1 (Nat.le_of_ble_eq_true rfl), cle hc2 (Nat.le_of_ble_eq_true rfl)⟩ hw (lv_sub hl [2, 3, 4, 5, 6, 7, 8, 9, 10, 11, 12, 13, 1, 0] rfl)
        · replace h := ifp c122 h
          refine lv_aload_n hx hb dL_tells_247 rfl (lv_at hl 2 rfl) ?_
          refine lv_iload hx hb dL_tells_248 (lv_at hl 8 rfl) ?_
          obtain ⟨v123, hv123, h⟩ := ob h
          refine r_Vi (rest := []) C0 zz (c_X4_possible (γ := γ) (o := 0) hB hv123) lk_L_70 (X4_k0 hB) rfl rfl hl.1 rfl (Nat.le_of_ble_eq_true rfl) (by decide) (Wo.cg (mmT (σ := σ) (L := [(j5, a5), (j4, a4), (j3, a3), (j0, a0), (j1, a1), (j2, a2)]) hC) hw) dL_tells_250 (fun {H} {locs} hw => ?_)
          replace hw := Wo.cg (mmT (σ := σ) (T := T) (L := [(j5, a5), (j4, a4), (j3, a3), (j0, a0), (j1, a1), (j2, a2)]) hC).symm hw
          refine lv_iload hx hb dL_tells_253 (lv_at hl 1 rfl) ?_
          refine lv_icmp_eq (tgt := 260) hx hb dL_tells_255 (by decide) (fun c124 => ?_) (fun c124 => ?_)
          · replace h := ifp c124 h
            exact J_k101 () h ⟨cle hc1 (Nat.le_of_ble_eq_true rfl), cle hc2 (Nat.le_of_ble_eq_true rfl)⟩ hw (lv_sub hl [2, 3, 4, 5, 6, 7, 8, 9, 10, 11, 12, 13, 1, 0] rfl)
          · replace h := ifn c124 h
            refine lv_iconst (v := (0 : Int32)) hx hb dL_tells_258 (by decide) ?_
            obtain ⟨h1, h2⟩ := s2 h
            subst h1
            subst h2
            exact r_zretA hx hb hr hlk hS hK0 hd0 hw (mm_lo2 (μ := (stT σ 0 T)) (L := [(j5, a5), (j4, a4), (j3, a3)]) (L' := [(j0, a0), (j1, a1), (j2, a2)]) hlo) ⟨cMC hc1, cMC hc2⟩ rfl dL_tells_259
set_option maxHeartbeats 4000000 in
set_option maxRecDepth 10000 in
theorem b_L_tells_I31 {γ0 γ : Ev} {σ : Mm} {j0 : Nat} {j1 : Nat} {j2 : Nat} {y8 : Int32} {cells slots : Nat} {Q : State → Prop} {MC MS : Nat} {T : Nat → Mm} {a0 : Nat → Int32} {a1 : Nat → Int32} {a2 : Nat → Int32} {x4 : Int32} {x5 : Int32} {x6 : Int32} {x7 : Int32} (C : Cx p R s m args meth c RL cL_tells 16 (some .boolean) 83 3071 γ0) (hS : Sub γ0 γ) (hd : dis γ) (hA : ∀ q, s.heap.size ≤ q → AK γ q) (hR : MC ≤ R.cells ∧ MS ≤ R.slots) (hN : ([j0, j1, j2] : List Nat).Nodup) (hlt : ∀ i ∈ ([j0, j1, j2] : List Nat), i < eN γ) (hlo : ∀ i ∈ ([] : List Nat), eN γ0 ≤ i) (hA0 : isA γ j0 60) (hA1 : isA γ j1 10) (hA2 : isA γ j2 11) (hB : isX4 γ 0) (h49 : 49 ≤ eN γ) (hC : ∀ i ∈ ([j0, j1, j2] : List Nat), 49 ≤ i) (hcs : cells ≤ R.cells ∧ slots ≤ R.slots) (kk : ∀ {H : Heap} {locs : List Loc} {ls : Array Slot}, Wo γ (mm (stT σ 0 T) [(j0, a0), (j1, a1), (j2, a2)]) s H locs → lv_has ls 16 [(0, .ref (eA γ 0)), (1, .ref (eA γ j0)), (2, .ref (eA γ j1)), (3, .ref (eA γ j2)), (4, .int x4), (5, .int x5), (6, .int x6), (7, .int x7), (8, .int y8)] → W p l e R s m args below meth c H locs cells slots Q (F0 m 58 ls [])) : ∀ (n : Nat) {x8 : Int32} {x9 : Int32} {H : Heap} {locs : List Loc} {ls : Array Slot}, s_L_tells_I31 n T a0 a1 a2 x4 x5 x6 x7 x8 x9 = some y8 → Wo γ (mm (stT σ 0 T) [(j0, a0), (j1, a1), (j2, a2)]) s H locs → lv_has ls 16 [(0, .ref (eA γ 0)), (1, .ref (eA γ j0)), (2, .ref (eA γ j1)), (3, .ref (eA γ j2)), (4, .int x4), (5, .int x5), (6, .int x6), (7, .int x7), (8, .int x8), (9, .int x9)] → W p l e R s m args below meth c H locs cells slots Q (F0 m 31 ls []) := by
  have C0 := C.sub hS hd
  obtain ⟨hx, hb, hr, hml, hown, hts, hlk, hK0, hd0, hF, hL⟩ := id C
  have hK := hS.1.hK hK0
  have zz := hcs
  intro n
  induction n with
  | zero => intro x8 x9 H locs ls h; cases h
  | succ n ih =>
    intro x8 x9 H locs ls h hw hl
    unfold s_L_tells_I31 at h
    refine lv_iload hx hb dL_tells_31 (lv_at hl 9 rfl) ?_
    refine lv_iload hx hb dL_tells_33 (lv_at hl 7 rfl) ?_
    refine lv_icmp_ge (tgt := 58) hx hb dL_tells_35 (by decide) (fun c126 => ?_) (fun c126 => ?_)
    · replace h := ifp c126 h
      have h1 := Option.some.inj h
      subst h1
      exact kk hw (lv_sub hl [0, 1, 2, 3, 4, 5, 6, 7, 8] rfl)
    · replace h := ifn c126 h
      refine lv_iload hx hb dL_tells_38 (lv_at hl 8 rfl) ?_
      refine lv_aload_n hx hb dL_tells_40 rfl (lv_at hl 1 rfl) ?_
      refine lv_iconst (v := (4 : Int32)) hx hb dL_tells_41 (by decide) ?_
      refine lv_iload hx hb dL_tells_42 (lv_at hl 6 rfl) ?_
      refine lv_imul hx hb dL_tells_44 ?_
      refine lv_iload hx hb dL_tells_45 (lv_at hl 9 rfl) ?_
      refine lv_iadd hx hb dL_tells_47 ?_
      obtain ⟨v127, hv127, h⟩ := ob h
      refine r_iald hx hb hK hw hA0 (mm_at (i := 0) (f := a0) hN rfl) hv127 dL_tells_48 ?_
      refine lv_iadd hx hb dL_tells_49 ?_
      obtain ⟨v128, ev128, h⟩ := jb h
      refine r_top ev128 ?_
      refine lv_istore (lv' := [(8, .int v128), (0, .ref (eA γ 0)), (1, .ref (eA γ j0)), (2, .ref (eA γ j1)), (3, .ref (eA γ j2)), (4, .int x4), (5, .int x5), (6, .int x6), (7, .int x7), (9, .int x9)]) hx hb dL_tells_50 hl (by decide) rfl (fun ls hl => ?_)
      obtain ⟨v129, ev129, h⟩ := jb h
      refine lv_iinc (v := v129) (lv' := [(9, .int v129), (8, .int v128), (0, .ref (eA γ 0)), (1, .ref (eA γ j0)), (2, .ref (eA γ j1)), (3, .ref (eA γ j2)), (4, .int x4), (5, .int x5), (6, .int x6), (7, .int x7)]) hx hb dL_tells_52 hl (k := 9) rfl (by rw [← ev129]; rfl) (by decide) rfl (fun ls hl => ?_)
      refine lv_goto (tgt := 31) hx hb dL_tells_55 (by decide) ?_
      exact ih h hw (lv_sub hl [2, 3, 4, 5, 6, 7, 8, 9, 1, 0] rfl)
set_option maxHeartbeats 4000000 in
set_option maxRecDepth 10000 in
theorem b_L_tells_L9 {γ0 γ : Ev} {σ : Mm} {j0 : Nat} {j1 : Nat} {j2 : Nat} {r : Int32} {Tf : Nat → Mm} {MC MS : Nat} (C : Cx p R s m args meth c RL cL_tells 16 (some .boolean) 83 3071 γ0) (hS : Sub γ0 γ) (hd : dis γ) (hA : ∀ q, s.heap.size ≤ q → AK γ q) (hR : MC ≤ R.cells ∧ MS ≤ R.slots) (hN : ([j0, j1, j2] : List Nat).Nodup) (hlt : ∀ i ∈ ([j0, j1, j2] : List Nat), i < eN γ) (hlo : ∀ i ∈ ([] : List Nat), eN γ0 ≤ i) (hA0 : isA γ j0 60) (hA1 : isA γ j1 10) (hA2 : isA γ j2 11) (hB : isX4 γ 0) (h49 : 49 ≤ eN γ) (hC : ∀ i ∈ ([j0, j1, j2] : List Nat), 49 ≤ i) : ∀ (n : Nat) {T : Nat → Mm} {a0 : Nat → Int32} {a1 : Nat → Int32} {a2 : Nat → Int32} {x4 : Int32} {x5 : Int32} {x6 : Int32} {cells slots : Nat} {H : Heap} {locs : List Loc} {ls : Array Slot} (_ : cells + (3) ≤ MC ∧ slots + (81) ≤ MS), s_L_tells_L9 n T a0 a1 a2 x4 x5 x6 = some (r, Tf) → Wo γ (mm (stT σ 0 T) [(j0, a0), (j1, a1), (j2, a2)]) s H locs → lv_has ls 16 [(0, .ref (eA γ 0)), (1, .ref (eA γ j0)), (2, .ref (eA γ j1)), (3, .ref (eA γ j2)), (4, .int x4), (5, .int x5), (6, .int x6)] → W p l e R s m args below meth c H locs cells slots (MQ below (Qo γ0 (some (.int r)) (mm (stT σ 0 Tf) [(j0, a0), (j1, a1), (j2, a2)])) args s MC MS (AK γ0)) (F0 m 9 ls []) := by
  have C0 := C.sub hS hd
  obtain ⟨hx, hb, hr, hml, hown, hts, hlk, hK0, hd0, hF, hL⟩ := id C
  have hK := hS.1.hK hK0
  obtain ⟨hr1, hr2⟩ := id hR
  intro n
  induction n with
  | zero => intro T a0 a1 a2 x4 x5 x6 cells slots H locs ls _ h; cases h
  | succ n ih =>
    intro T a0 a1 a2 x4 x5 x6 cells slots H locs ls hcs h hw hl
    obtain ⟨hc1, hc2⟩ := hcs
    have zz := And.intro (cin hc1 hr1) (cin hc2 hr2)
    unfold s_L_tells_L9 at h
    refine lv_iload hx hb dL_tells_9 (lv_at hl 6 rfl) ?_
    refine lv_bipush (v := (12 : Int32)) hx hb dL_tells_11 (by decide) ?_
    refine lv_icmp_ge (tgt := 158) hx hb dL_tells_13 (by decide) (fun c1 => ?_) (fun c1 => ?_)
    · replace h := ifp c1 h
      refine lv_iconst (v := (0 : Int32)) hx hb dL_tells_158 (by decide) ?_
      refine lv_istore (lv' := [(6, .int (0 : Int32)), (0, .ref (eA γ 0)), (1, .ref (eA γ j0)), (2, .ref (eA γ j1)), (3, .ref (eA γ j2)), (4, .int x4), (5, .int x5)]) hx hb dL_tells_159 hl (by decide) rfl (fun ls hl => ?_)
      refine lv_iconst (v := (0 : Int32)) hx hb dL_tells_161 (by decide) ?_
      refine lv_istore (lv' := [(7, .int (0 : Int32)), (6, .int (0 : Int32)), (0, .ref (eA γ 0)), (1, .ref (eA γ j0)), (2, .ref (eA γ j1)), (3, .ref (eA γ j2)), (4, .int x4), (5, .int x5)]) hx hb dL_tells_162 hl (by decide) rfl (fun ls hl => ?_)
      refine lv_bipush (v := (60 : Int32)) hx hb dL_tells_164 (by decide) ?_
      refine r_newA (n := 60) hx hb hts hK hd hw hA (by decide) (by decide) (by decide) ⟨csa hc1 (Nat.le_of_ble_eq_true rfl) hr1, csa hc2 (Nat.le_of_ble_eq_true rfl) hr2⟩ dL_tells_166 (fun {γa} {H} ga na aa da hw => ?_)
      replace hc1 := cadd 1 2 hc1 (Nat.le_of_ble_eq_true rfl)
      replace hc2 := cadd 60 21 hc2 (Nat.le_of_ble_eq_true rfl)
      have zz := And.intro (cin hc1 hr1) (cin hc2 hr2)
      have hA0a := hA0.sub ga
      have hA1a := hA1.sub ga
      have hA2a := hA2.sub ga
      have Na : ([eN γ, j0, j1, j2] : List Nat).Nodup := nd_new hN hlt
      have lta : ∀ i ∈ ([eN γ, j0, j1, j2] : List Nat), i < eN γa := lt_new hlt na
      have loa : ∀ i ∈ ([eN γ] : List Nat), eN γ0 ≤ i := all_cons hlo hS.2.1
      have Ba := hB.sub h49 ga
      have C49a : ∀ i ∈ ([eN γ, j0, j1, j2] : List Nat), 49 ≤ i := all_cons hC h49
      have h49a := Nat.le_trans h49 ga.2.1
      have C0a := C0.sub ga da
      have Ka := ga.1.hK hK
      have Sa : Sub γ0 γa := hS.tr ga
      have Ala := ga.1.hA hA
      replace hw : Wo γa (mm (stT σ 0 T) [((eN γ), zr), (j0, a0), (j1, a1), (j2, a2)]) s _ _ := hw
      replace hl : lv_has ls 16 [(7, .int (0 : Int32)), (6, .int (0 : Int32)), (0, .ref (eA γa 0)), (1, .ref (eA γa j0)), (2, .ref (eA γa j1)), (3, .ref (eA γa j2)), (4, .int x4), (5, .int x5)] := by rw [ga.A (j := 0) (by omega), ga.A (j := j0) (hlt _ (by simp)), ga.A (j := j1) (hlt _ (by simp)), ga.A (j := j2) (hlt _ (by simp))]; exact hl
      refine lv_astore (lv' := [(8, .ref (eA γa (eN γ))), (7, .int (0 : Int32)), (6, .int (0 : Int32)), (0, .ref (eA γa 0)), (1, .ref (eA γa j0)), (2, .ref (eA γa j1)), (3, .ref (eA γa j2)), (4, .int x4), (5, .int x5)]) hx hb dL_tells_168 hl (by decide) rfl (fun ls hl => ?_)
      refine lv_bipush (v := (10 : Int32)) hx hb dL_tells_170 (by decide) ?_
      refine r_newA (n := 10) hx hb hts Ka da hw Ala (by decide) (by decide) (by decide) ⟨csa hc1 (Nat.le_of_ble_eq_true rfl) hr1, csa hc2 (Nat.le_of_ble_eq_true rfl) hr2⟩ dL_tells_172 (fun {γb} {H} gb nb ab db hw => ?_)
      replace hc1 := cadd 1 1 hc1 (Nat.le_of_ble_eq_true rfl)
      replace hc2 := cadd 10 11 hc2 (Nat.le_of_ble_eq_true rfl)
      have zz := And.intro (cin hc1 hr1) (cin hc2 hr2)
      have hA3b := aa.sub gb
      have hA0b := hA0a.sub gb
      have hA1b := hA1a.sub gb
      have hA2b := hA2a.sub gb
      have Nb : ([eN γa, (eN γ), j0, j1, j2] : List Nat).Nodup := nd_new Na lta
      have ltb : ∀ i ∈ ([eN γa, (eN γ), j0, j1, j2] : List Nat), i < eN γb := lt_new lta nb
      have lob : ∀ i ∈ ([eN γa, (eN γ)] : List Nat), eN γ0 ≤ i := all_cons loa Sa.2.1
      have Bb := Ba.sub h49a gb
      have C49b : ∀ i ∈ ([eN γa, (eN γ), j0, j1, j2] : List Nat), 49 ≤ i := all_cons C49a h49a
      have h49b := Nat.le_trans h49a gb.2.1
      have C0b := C0a.sub gb db
      have Kb := gb.1.hK Ka
      have Sb : Sub γ0 γb := Sa.tr gb
      have Alb := gb.1.hA Ala
      replace hw : Wo γb (mm (stT σ 0 T) [((eN γa), zr), ((eN γ), zr), (j0, a0), (j1, a1), (j2, a2)]) s _ _ := hw
      replace hl : lv_has ls 16 [(8, .ref (eA γb (eN γ))), (7, .int (0 : Int32)), (6, .int (0 : Int32)), (0, .ref (eA γb 0)), (1, .ref (eA γb j0)), (2, .ref (eA γb j1)), (3, .ref (eA γb j2)), (4, .int x4), (5, .int x5)] := by rw [gb.A (j := (eN γ)) (lta _ (by simp)), gb.A (j := 0) (by omega), gb.A (j := j0) (lta _ (by simp)), gb.A (j := j1) (lta _ (by simp)), gb.A (j := j2) (lta _ (by simp))]; exact hl
      refine lv_astore (lv' := [(9, .ref (eA γb (eN γa))), (8, .ref (eA γb (eN γ))), (7, .int (0 : Int32)), (6, .int (0 : Int32)), (0, .ref (eA γb 0)), (1, .ref (eA γb j0)), (2, .ref (eA γb j1)), (3, .ref (eA γb j2)), (4, .int x4), (5, .int x5)]) hx hb dL_tells_174 hl (by decide) rfl (fun ls hl => ?_)
      refine lv_bipush (v := (11 : Int32)) hx hb dL_tells_176 (by decide) ?_
      refine r_newA (n := 11) hx hb hts Kb db hw Alb (by decide) (by decide) (by decide) ⟨csa hc1 (Nat.le_of_ble_eq_true rfl) hr1, csa hc2 (Nat.le_of_ble_eq_true rfl) hr2⟩ dL_tells_178 (fun {γc} {H} gc nc ac dc hw => ?_)
      replace hc1 := cadd 1 0 hc1 (Nat.le_of_ble_eq_true rfl)
      replace hc2 := cadd 11 0 hc2 (Nat.le_of_ble_eq_true rfl)
      have zz := And.intro (cin hc1 hr1) (cin hc2 hr2)
      have hA4c := ab.sub gc
      have hA3c := hA3b.sub gc
      have hA0c := hA0b.sub gc
      have hA1c := hA1b.sub gc
      have hA2c := hA2b.sub gc
      have Nc : ([eN γb, (eN γa), (eN γ), j0, j1, j2] : List Nat).Nodup := nd_new Nb ltb
      have ltc : ∀ i ∈ ([eN γb, (eN γa), (eN γ), j0, j1, j2] : List Nat), i < eN γc := lt_new ltb nc
      have loc : ∀ i ∈ ([eN γb, (eN γa), (eN γ)] : List Nat), eN γ0 ≤ i := all_cons lob Sb.2.1
      have Bc := Bb.sub h49b gc
      have C49c : ∀ i ∈ ([eN γb, (eN γa), (eN γ), j0, j1, j2] : List Nat), 49 ≤ i := all_cons C49b h49b
      have h49c := Nat.le_trans h49b gc.2.1
      have C0c := C0b.sub gc dc
      have Kc := gc.1.hK Kb
      have Sc : Sub γ0 γc := Sb.tr gc
      have Alc := gc.1.hA Alb
      replace hw : Wo γc (mm (stT σ 0 T) [((eN γb), zr), ((eN γa), zr), ((eN γ), zr), (j0, a0), (j1, a1), (j2, a2)]) s _ _ := hw
      replace hl : lv_has ls 16 [(9, .ref (eA γc (eN γa))), (8, .ref (eA γc (eN γ))), (7, .int (0 : Int32)), (6, .int (0 : Int32)), (0, .ref (eA γc 0)), (1, .ref (eA γc j0)), (2, .ref (eA γc j1)), (3, .ref (eA γc j2)), (4, .int x4), (5, .int x5)] := by rw [gc.A (j := (eN γa)) (ltb _ (by simp)), gc.A (j := (eN γ)) (ltb _ (by simp)), gc.A (j := 0) (by omega), gc.A (j := j0) (ltb _ (by simp)), gc.A (j := j1) (ltb _ (by simp)), gc.A (j := j2) (ltb _ (by simp))]; exact hl
      refine lv_astore (lv' := [(10, .ref (eA γc (eN γb))), (9, .ref (eA γc (eN γa))), (8, .ref (eA γc (eN γ))), (7, .int (0 : Int32)), (6, .int (0 : Int32)), (0, .ref (eA γc 0)), (1, .ref (eA γc j0)), (2, .ref (eA γc j1)), (3, .ref (eA γc j2)), (4, .int x4), (5, .int x5)]) hx hb dL_tells_180 hl (by decide) rfl (fun ls hl => ?_)
      refine lv_iconst (v := (0 : Int32)) hx hb dL_tells_182 (by decide) ?_
      refine lv_istore (lv' := [(11, .int (0 : Int32)), (10, .ref (eA γc (eN γb))), (9, .ref (eA γc (eN γa))), (8, .ref (eA γc (eN γ))), (7, .int (0 : Int32)), (6, .int (0 : Int32)), (0, .ref (eA γc 0)), (1, .ref (eA γc j0)), (2, .ref (eA γc j1)), (3, .ref (eA γc j2)), (4, .int x4), (5, .int x5)]) hx hb dL_tells_183 hl (by decide) rfl (fun ls hl => ?_)
      exact b_L_tells_L185 C Sc dc Alc hR Nc ltc loc ac hA4c hA3c hA0c hA1c hA2c Bc h49c C49c 1000 ⟨cle hc1 (Nat.le_of_ble_eq_true rfl), cle hc2 (Nat.le_of_ble_eq_true rfl)⟩ h hw (lv_sub hl [6, 7, 8, 9, 10, 11, 5, 4, 3, 2, 1, 0] rfl)
    · replace h := ifn c1 h
      refine lv_aload_n hx hb dL_tells_16 rfl (lv_at hl 1 rfl) ?_
      refine lv_bipush (v := (48 : Int32)) hx hb dL_tells_17 (by decide) ?_
      refine lv_iload hx hb dL_tells_19 (lv_at hl 6 rfl) ?_
      refine lv_iadd hx hb dL_tells_21 ?_
      obtain ⟨v125, hv125, h⟩ := ob h
      refine r_iald hx hb hK hw hA0 (mm_at (i := 0) (f := a0) hN rfl) hv125 dL_tells_22 ?_
      refine lv_istore (lv' := [(7, .int v125), (0, .ref (eA γ 0)), (1, .ref (eA γ j0)), (2, .ref (eA γ j1)), (3, .ref (eA γ j2)), (4, .int x4), (5, .int x5), (6, .int x6)]) hx hb dL_tells_23 hl (by decide) rfl (fun ls hl => ?_)
      refine lv_iconst (v := (0 : Int32)) hx hb dL_tells_25 (by decide) ?_
      refine lv_istore (lv' := [(8, .int (0 : Int32)), (7, .int v125), (0, .ref (eA γ 0)), (1, .ref (eA γ j0)), (2, .ref (eA γ j1)), (3, .ref (eA γ j2)), (4, .int x4), (5, .int x5), (6, .int x6)]) hx hb dL_tells_26 hl (by decide) rfl (fun ls hl => ?_)
      refine lv_iconst (v := (0 : Int32)) hx hb dL_tells_28 (by decide) ?_
      refine lv_istore (lv' := [(9, .int (0 : Int32)), (8, .int (0 : Int32)), (7, .int v125), (0, .ref (eA γ 0)), (1, .ref (eA γ j0)), (2, .ref (eA γ j1)), (3, .ref (eA γ j2)), (4, .int x4), (5, .int x5), (6, .int x6)]) hx hb dL_tells_29 hl (by decide) rfl (fun ls hl => ?_)
      obtain ⟨q130, hq130, h⟩ := ob h
      refine b_L_tells_I31 C hS hd hA hR hN hlt hlo hA0 hA1 hA2 hB h49 hC zz (fun {H} {locs} {ls} hw hl => ?_) 1000 hq130 hw (lv_sub hl [3, 4, 5, 6, 7, 8, 9, 2, 1, 0] rfl)
      refine lv_iload hx hb dL_tells_58 (lv_at hl 6 rfl) ?_
      obtain ⟨v131, hv131, h⟩ := ob h
      refine r_Si (rest := []) C0 zz (c_L_place hv131) lk_L_10 hl.1 rfl (Nat.le_of_ble_eq_true rfl) (by decide) hw dL_tells_60 (fun {H} {locs} hw => ?_)
      refine lv_istore (lv' := [(9, .int v131), (0, .ref (eA γ 0)), (1, .ref (eA γ j0)), (2, .ref (eA γ j1)), (3, .ref (eA γ j2)), (4, .int x4), (5, .int x5), (6, .int x6), (7, .int v125), (8, .int q130)]) hx hb dL_tells_63 hl (by decide) rfl (fun ls hl => ?_)
      refine lv_aload_n hx hb dL_tells_65 rfl (lv_at hl 1 rfl) ?_
      refine lv_iload hx hb dL_tells_66 (lv_at hl 0 rfl) ?_
      refine lv_iconst (v := (0 : Int32)) hx hb dL_tells_68 (by decide) ?_
      obtain ⟨v132, hv132, h⟩ := ob h
      refine r_Vi (rest := []) C0 zz (c_X4_at (γ := γ) (o := 0) hB hv132) lk_L_64 (X4_k0 hB) rfl rfl hl.1 rfl (Nat.le_of_ble_eq_true rfl) (by decide) (Wo.cg (mmT (σ := σ) (L := [(j0, a0), (j1, a1), (j2, a2)]) hC) hw) dL_tells_69 (fun {H} {locs} hw => ?_)
      replace hw := Wo.cg (mmT (σ := σ) (T := T) (L := [(j0, a0), (j1, a1), (j2, a2)]) hC).symm hw
      refine lv_iload hx hb dL_tells_72 (lv_at hl 8 rfl) ?_
      refine lv_icmp_ne (tgt := 136) hx hb dL_tells_74 (by decide) (fun c133 => ?_) (fun c133 => ?_)
      · replace h := ifn c133 h
        refine lv_iconst (v := (0 : Int32)) hx hb dL_tells_136 (by decide) ?_
        obtain ⟨h1, h2⟩ := s2 h
        subst h1
        subst h2
        exact r_zretA hx hb hr hlk hS hK0 hd0 hw (fun _ _ => rfl) ⟨cMC hc1, cMC hc2⟩ rfl dL_tells_137
      · replace h := ifp c133 h
        refine lv_aload_n hx hb dL_tells_77 rfl (lv_at hl 1 rfl) ?_
        refine lv_iload hx hb dL_tells_78 (lv_at hl 0 rfl) ?_
        refine lv_iconst (v := (1 : Int32)) hx hb dL_tells_80 (by decide) ?_
        obtain ⟨v134, hv134, h⟩ := ob h
        refine r_Vi (rest := []) C0 zz (c_X4_at (γ := γ) (o := 0) hB hv134) lk_L_64 (X4_k0 hB) rfl rfl hl.1 rfl (Nat.le_of_ble_eq_true rfl) (by decide) (Wo.cg (mmT (σ := σ) (L := [(j0, a0), (j1, a1), (j2, a2)]) hC) hw) dL_tells_81 (fun {H} {locs} hw => ?_)
        replace hw := Wo.cg (mmT (σ := σ) (T := T) (L := [(j0, a0), (j1, a1), (j2, a2)]) hC).symm hw
        refine lv_iload hx hb dL_tells_84 (lv_at hl 9 rfl) ?_
        refine lv_icmp_ne (tgt := 136) hx hb dL_tells_86 (by decide) (fun c135 => ?_) (fun c135 => ?_)
        · replace h := ifn c135 h
          refine lv_iconst (v := (0 : Int32)) hx hb dL_tells_136 (by decide) ?_
          obtain ⟨h1, h2⟩ := s2 h
          subst h1
          subst h2
          exact r_zretA hx hb hr hlk hS hK0 hd0 hw (fun _ _ => rfl) ⟨cMC hc1, cMC hc2⟩ rfl dL_tells_137
        · replace h := ifp c135 h
          refine lv_aload_n hx hb dL_tells_89 rfl (lv_at hl 1 rfl) ?_
          refine lv_iload hx hb dL_tells_90 (lv_at hl 0 rfl) ?_
          refine lv_iconst (v := (2 : Int32)) hx hb dL_tells_92 (by decide) ?_
          obtain ⟨v136, hv136, h⟩ := ob h
          refine r_Vi (rest := []) C0 zz (c_X4_at (γ := γ) (o := 0) hB hv136) lk_L_64 (X4_k0 hB) rfl rfl hl.1 rfl (Nat.le_of_ble_eq_true rfl) (by decide) (Wo.cg (mmT (σ := σ) (L := [(j0, a0), (j1, a1), (j2, a2)]) hC) hw) dL_tells_93 (fun {H} {locs} hw => ?_)
          replace hw := Wo.cg (mmT (σ := σ) (T := T) (L := [(j0, a0), (j1, a1), (j2, a2)]) hC).symm hw
          refine lv_iload hx hb dL_tells_96 (lv_at hl 8 rfl) ?_
          refine jn_elim h (fun (k : Int32 → Option (Int32 × (Nat → Mm))) => ∀ (v142 : Int32) {cells slots : Nat} {H : Heap} {locs : List Loc} {ls : Array Slot}, k v142 = some (r, Tf) → cells + (3) ≤ MC ∧ slots + (81) ≤ MS → Wo γ (mm (stT σ 0 T) [(j0, a0), (j1, a1), (j2, a2)]) s H locs → lv_has ls 16 [(0, .ref (eA γ 0)), (1, .ref (eA γ j0)), (2, .ref (eA γ j1)), (3, .ref (eA γ j2)), (4, .int x4), (5, .int x5), (6, .int x6), (7, .int v125), (8, .int q130), (9, .int v131)] → W p l e R s m args below meth c H locs cells slots (MQ below (Qo γ0 (some (.int r)) (mm (stT σ 0 Tf) [(j0, a0), (j1, a1), (j2, a2)])) args s MC MS (AK γ0)) (F0 m 118 ls [.int v142, .int v136])) ?_ ?_
          · intro v142 cells slots H locs ls h hcs hw hl
            obtain ⟨hc1, hc2⟩ := hcs
            have zz := And.intro (cin hc1 hr1) (cin hc2 hr2)
            refine lv_icmp_ne (tgt := 136) hx hb dL_tells_118 (by decide) (fun c143 => ?_) (fun c143 => ?_)
            · replace h := ifn c143 h
              refine lv_iconst (v := (0 : Int32)) hx hb dL_tells_136 (by decide) ?_
              obtain ⟨h1, h2⟩ := s2 h
              subst h1
              subst h2
              exact r_zretA hx hb hr hlk hS hK0 hd0 hw (fun _ _ => rfl) ⟨cMC hc1, cMC hc2⟩ rfl dL_tells_137
            · replace h := ifp c143 h
              refine lv_aload_n hx hb dL_tells_121 rfl (lv_at hl 0 rfl) ?_
              refine lv_iload hx hb dL_tells_122 (lv_at hl 9 rfl) ?_
              refine lv_iconst (v := (3 : Int32)) hx hb dL_tells_124 (by decide) ?_
              obtain ⟨v144, hv144, h⟩ := ob h
              refine r_Vi (rest := []) C0 zz (c_X4_at (γ := γ) (o := 0) hB hv144) lk_L_64 (X4_k0 hB) rfl rfl hl.1 rfl (Nat.le_of_ble_eq_true rfl) (by decide) (Wo.cg (mmT (σ := σ) (L := [(j0, a0), (j1, a1), (j2, a2)]) hC) hw) dL_tells_125 (fun {H} {locs} hw => ?_)
              replace hw := Wo.cg (mmT (σ := σ) (T := T) (L := [(j0, a0), (j1, a1), (j2, a2)]) hC).symm hw
              refine lv_iload hx hb dL_tells_128 (lv_at hl 8 rfl) ?_
              refine lv_iload hx hb dL_tells_130 (lv_at hl 9 rfl) ?_
              refine lv_imul hx hb dL_tells_132 ?_
              refine lv_icmp_eq (tgt := 138) hx hb dL_tells_133 (by decide) (fun c145 => ?_) (fun c145 => ?_)
              · replace h := ifp c145 h
                refine lv_iload hx hb dL_tells_138 (lv_at hl 4 rfl) ?_
                refine lv_iload hx hb dL_tells_140 (lv_at hl 7 rfl) ?_
                refine lv_iadd hx hb dL_tells_142 ?_
                obtain ⟨v146, ev146, h⟩ := jb h
                refine r_top ev146 ?_
                refine lv_istore (lv' := [(4, .int v146), (0, .ref (eA γ 0)), (1, .ref (eA γ j0)), (2, .ref (eA γ j1)), (3, .ref (eA γ j2)), (5, .int x5), (6, .int x6), (7, .int v125), (8, .int q130), (9, .int v131)]) hx hb dL_tells_143 hl (by decide) rfl (fun ls hl => ?_)
                refine lv_iload hx hb dL_tells_145 (lv_at hl 5 rfl) ?_
                refine lv_iload hx hb dL_tells_147 (lv_at hl 8 rfl) ?_
                refine lv_iadd hx hb dL_tells_149 ?_
                obtain ⟨v147, ev147, h⟩ := jb h
                refine r_top ev147 ?_
                refine lv_istore (lv' := [(5, .int v147), (4, .int v146), (0, .ref (eA γ 0)), (1, .ref (eA γ j0)), (2, .ref (eA γ j1)), (3, .ref (eA γ j2)), (6, .int x6), (7, .int v125), (8, .int q130), (9, .int v131)]) hx hb dL_tells_150 hl (by decide) rfl (fun ls hl => ?_)
                obtain ⟨v148, ev148, h⟩ := jb h
                refine lv_iinc (v := v148) (lv' := [(6, .int v148), (5, .int v147), (4, .int v146), (0, .ref (eA γ 0)), (1, .ref (eA γ j0)), (2, .ref (eA γ j1)), (3, .ref (eA γ j2)), (7, .int v125), (8, .int q130), (9, .int v131)]) hx hb dL_tells_152 hl (k := 6) rfl (by rw [← ev148]; rfl) (by decide) rfl (fun ls hl => ?_)
                refine lv_goto (tgt := 9) hx hb dL_tells_155 (by decide) ?_
                exact ih ⟨cle hc1 (Nat.le_of_ble_eq_true rfl), cle hc2 (Nat.le_of_ble_eq_true rfl)⟩ h hw (lv_sub hl [3, 4, 5, 6, 2, 1, 0] rfl)
              · replace h := ifn c145 h
                refine lv_iconst (v := (0 : Int32)) hx hb dL_tells_136 (by decide) ?_
                obtain ⟨h1, h2⟩ := s2 h
                subst h1
                subst h2
                exact r_zretA hx hb hr hlk hS hK0 hd0 hw (fun _ _ => rfl) ⟨cMC hc1, cMC hc2⟩ rfl dL_tells_137
          intro k141 J_k141 h
          refine lv_if_ne (tgt := 107) hx hb dL_tells_98 (by decide) (fun c149 => ?_) (fun c149 => ?_)
          · replace h := ifn c149 h
            refine lv_aload_n hx hb dL_tells_107 rfl (lv_at hl 2 rfl) ?_
            refine lv_iconst (v := (4 : Int32)) hx hb dL_tells_108 (by decide) ?_
            refine lv_iload hx hb dL_tells_109 (lv_at hl 7 rfl) ?_
            refine lv_imul hx hb dL_tells_111 ?_
            refine lv_iload hx hb dL_tells_112 (lv_at hl 8 rfl) ?_
            refine lv_iadd hx hb dL_tells_114 ?_
            refine lv_iconst (v := (1 : Int32)) hx hb dL_tells_115 (by decide) ?_
            refine lv_isub hx hb dL_tells_116 ?_
            obtain ⟨v150, hv150, h⟩ := ob h
            refine r_iald hx hb hK hw hA0 (mm_at (i := 0) (f := a0) hN rfl) hv150 dL_tells_117 ?_
            exact J_k141 v150 h ⟨cle hc1 (Nat.le_of_ble_eq_true rfl), cle hc2 (Nat.le_of_ble_eq_true rfl)⟩ hw (lv_sub hl [1, 2, 3, 4, 5, 6, 7, 8, 9, 0] rfl)
          · replace h := ifp c149 h
            refine lv_sipush (v := (-10005 : Int32)) hx hb dL_tells_101 (by decide) ?_
            refine lv_goto (tgt := 118) hx hb dL_tells_104 (by decide) ?_
            exact J_k141 (-10005 : Int32) h ⟨cle hc1 (Nat.le_of_ble_eq_true rfl), cle hc2 (Nat.le_of_ble_eq_true rfl)⟩ hw (lv_sub hl [1, 2, 3, 4, 5, 6, 7, 8, 9, 0] rfl)
set_option maxHeartbeats 4000000 in
set_option maxRecDepth 10000 in
theorem b_L_tells {γ0 : Ev} {σ : Mm} {T : Nat → Mm} {j0 : Nat} {a0 : Nat → Int32} {j1 : Nat} {a1 : Nat → Int32} {j2 : Nat} {a2 : Nat → Int32} {r : Int32} {Tf : Nat → Mm} {MC MS cells slots : Nat} (C : Cx p R s m args meth c RL cL_tells 16 (some .boolean) 83 3071 γ0) (hA : ∀ q, s.heap.size ≤ q → AK γ0 q) (hR : MC ≤ R.cells ∧ MS ≤ R.slots) (hN : ([j0, j1, j2] : List Nat).Nodup) (hlt : ∀ i ∈ ([j0, j1, j2] : List Nat), i < eN γ0) (hA0 : isA γ0 j0 60) (hA1 : isA γ0 j1 10) (hA2 : isA γ0 j2 11) (hB : isX4 γ0 0) (h49 : 49 ≤ eN γ0) (hC : ∀ i ∈ ([j0, j1, j2] : List Nat), 49 ≤ i) (hcs : cells + (3) ≤ MC ∧ slots + (81) ≤ MS) (h : s_L_tells T a0 a1 a2 = some (r, Tf)) (hw : Wo γ0 (mm (stT σ 0 T) [(j0, a0), (j1, a1), (j2, a2)]) s H locs) (hl : lv_has ls 16 [(0, .ref (eA γ0 0)), (1, .ref (eA γ0 j0)), (2, .ref (eA γ0 j1)), (3, .ref (eA γ0 j2))]) : W p l e R s m args below meth c H locs cells slots (MQ below (Qo γ0 (some (.int r)) (mm (stT σ 0 Tf) [(j0, a0), (j1, a1), (j2, a2)])) args s MC MS (AK γ0)) (F0 m 0 ls []) := by
  have C0 := C
  obtain ⟨hx, hb, hr, hml, hown, hts, hlk, hK0, hd0, hF, hL⟩ := id C
  have hK := hK0
  have hd := hd0
  obtain ⟨hc1, hc2⟩ := hcs
  obtain ⟨hr1, hr2⟩ := hR
  have hR : MC ≤ R.cells ∧ MS ≤ R.slots := ⟨hr1, hr2⟩
  have zz := And.intro (cin hc1 hr1) (cin hc2 hr2)
  unfold s_L_tells at h
  refine lv_iconst (v := (0 : Int32)) hx hb dL_tells_0 (by decide) ?_
  refine lv_istore (lv' := [(4, .int (0 : Int32)), (0, .ref (eA γ0 0)), (1, .ref (eA γ0 j0)), (2, .ref (eA γ0 j1)), (3, .ref (eA γ0 j2))]) hx hb dL_tells_1 hl (by decide) rfl (fun ls hl => ?_)
  refine lv_iconst (v := (0 : Int32)) hx hb dL_tells_3 (by decide) ?_
  refine lv_istore (lv' := [(5, .int (0 : Int32)), (4, .int (0 : Int32)), (0, .ref (eA γ0 0)), (1, .ref (eA γ0 j0)), (2, .ref (eA γ0 j1)), (3, .ref (eA γ0 j2))]) hx hb dL_tells_4 hl (by decide) rfl (fun ls hl => ?_)
  refine lv_iconst (v := (0 : Int32)) hx hb dL_tells_6 (by decide) ?_
  refine lv_istore (lv' := [(6, .int (0 : Int32)), (5, .int (0 : Int32)), (4, .int (0 : Int32)), (0, .ref (eA γ0 0)), (1, .ref (eA γ0 j0)), (2, .ref (eA γ0 j1)), (3, .ref (eA γ0 j2))]) hx hb dL_tells_7 hl (by decide) rfl (fun ls hl => ?_)
  exact b_L_tells_L9 C Sub.rf hd hA hR hN hlt (fun _ h => absurd h List.not_mem_nil) hA0 hA1 hA2 hB h49 hC 1000 ⟨cle hc1 (Nat.le_of_ble_eq_true rfl), cle hc2 (Nat.le_of_ble_eq_true rfl)⟩ h hw (lv_sub hl [3, 4, 5, 6, 2, 1, 0] rfl)
theorem c_L_tells {l : Launch} {γ0 : Ev} {σ : Mm} {T : Nat → Mm} {j0 : Nat} {a0 : Nat → Int32} {j1 : Nat} {a1 : Nat → Int32} {j2 : Nat} {a2 : Nat → Int32} {r : Int32} {Tf : Nat → Mm} (hN : ([j0, j1, j2] : List Nat).Nodup) (hlt : ∀ i ∈ ([j0, j1, j2] : List Nat), i < eN γ0) (hA0 : isA γ0 j0 60) (hA1 : isA γ0 j1 10) (hA2 : isA γ0 j2 11) (hB : isX4 γ0 0) (h49 : 49 ≤ eN γ0) (hC : ∀ i ∈ ([j0, j1, j2] : List Nat), 49 ≤ i) (h : s_L_tells T a0 a1 a2 = some (r, Tf)) : CtA l yL_tells cL_tells 16 (some .boolean) 83 3071 3 81 γ0 [.ref (eA γ0 0), .ref (eA γ0 j0), .ref (eA γ0 j1), .ref (eA γ0 j2)] (mm (stT σ 0 T) [(j0, a0), (j1, a1), (j2, a2)]) (some (.int r)) (mm (stT σ 0 Tf) [(j0, a0), (j1, a1), (j2, a2)]) := CtA.of (own := RL) (by decide +kernel) rfl (Nat.le_of_ble_eq_true rfl) (fun hR C hA hw ls hl => b_L_tells C hA hR hN hlt hA0 hA1 hA2 hB h49 hC ⟨by omega, by omega⟩ h hw hl)
set_option maxHeartbeats 4000000 in
set_option maxRecDepth 10000 in
theorem b_L_looks {γ0 : Ev} {σ : Mm} {T : Nat → Mm} {j0 : Nat} {a0 : Nat → Int32} {j1 : Nat} {a1 : Nat → Int32} {j2 : Nat} {a2 : Nat → Int32} {x4 : Int32} {r : Int32} {Tf : Nat → Mm} {MC MS cells slots : Nat} (C : Cx p R s m args meth c RL cL_looks 7 (some .boolean) 91 3381 γ0) (hA : ∀ q, s.heap.size ≤ q → AK γ0 q) (hR : MC ≤ R.cells ∧ MS ≤ R.slots) (hN : ([j0, j1, j2] : List Nat).Nodup) (hlt : ∀ i ∈ ([j0, j1, j2] : List Nat), i < eN γ0) (hA0 : isA γ0 j0 60) (hA1 : isA γ0 j1 10) (hA2 : isA γ0 j2 11) (hB : isX4 γ0 0) (h49 : 49 ≤ eN γ0) (hC : ∀ i ∈ ([j0, j1, j2] : List Nat), 49 ≤ i) (hcs : cells + (3008) ≤ MC ∧ slots + (81164) ≤ MS) (h : s_L_looks T a0 a1 a2 x4 = some (r, Tf)) (hw : Wo γ0 (mm (stT σ 0 T) [(j0, a0), (j1, a1), (j2, a2)]) s H locs) (hl : lv_has ls 7 [(0, .ref (eA γ0 0)), (1, .ref (eA γ0 j0)), (2, .ref (eA γ0 j1)), (3, .ref (eA γ0 j2)), (4, .int x4)]) : W p l e R s m args below meth c H locs cells slots (MQ below (Qo γ0 (some (.int r)) (mm (stT σ 0 Tf) [(j0, a0), (j1, a1), (j2, a2)])) args s MC MS (AK γ0)) (F0 m 0 ls []) := by
  have C0 := C
  obtain ⟨hx, hb, hr, hml, hown, hts, hlk, hK0, hd0, hF, hL⟩ := id C
  have hK := hK0
  have hd := hd0
  obtain ⟨hc1, hc2⟩ := hcs
  obtain ⟨hr1, hr2⟩ := hR
  have hR : MC ≤ R.cells ∧ MS ≤ R.slots := ⟨hr1, hr2⟩
  have zz := And.intro (cin hc1 hr1) (cin hc2 hr2)
  unfold s_L_looks at h
  refine lv_iconst (v := (1 : Int32)) hx hb dL_looks_0 (by decide) ?_
  refine r_newA (n := 1) hx hb hts hK hd hw hA (by decide) (by decide) (by decide) ⟨csa hc1 (Nat.le_of_ble_eq_true rfl) hr1, csa hc2 (Nat.le_of_ble_eq_true rfl) hr2⟩ dL_looks_1 (fun {γa} {H} ga na aa da hw => ?_)
  replace hc1 := cadd 1 3007 hc1 (Nat.le_of_ble_eq_true rfl)
  replace hc2 := cadd 1 81163 hc2 (Nat.le_of_ble_eq_true rfl)
  have zz := And.intro (cin hc1 hr1) (cin hc2 hr2)
  have hA0a := hA0.sub ga
  have hA1a := hA1.sub ga
  have hA2a := hA2.sub ga
  have Na : ([eN γ0, j0, j1, j2] : List Nat).Nodup := nd_new hN hlt
  have lta : ∀ i ∈ ([eN γ0, j0, j1, j2] : List Nat), i < eN γa := lt_new hlt na
  have loa : ∀ i ∈ ([eN γ0] : List Nat), eN γ0 ≤ i := all_cons (fun _ h => absurd h List.not_mem_nil) (Nat.le_refl _)
  have Ba := hB.sub h49 ga
  have C49a : ∀ i ∈ ([eN γ0, j0, j1, j2] : List Nat), 49 ≤ i := all_cons hC h49
  have h49a := Nat.le_trans h49 ga.2.1
  have C0a := C0.sub ga da
  have Ka := ga.1.hK hK
  have Sa : Sub γ0 γa := ga
  have Ala := ga.1.hA hA
  replace hw : Wo γa (mm (stT σ 0 T) [((eN γ0), zr), (j0, a0), (j1, a1), (j2, a2)]) s _ _ := hw
  replace hl : lv_has ls 7 [(0, .ref (eA γa 0)), (1, .ref (eA γa j0)), (2, .ref (eA γa j1)), (3, .ref (eA γa j2)), (4, .int x4)] := by rw [ga.A (j := 0) (by omega), ga.A (j := j0) (hlt _ (by simp)), ga.A (j := j1) (hlt _ (by simp)), ga.A (j := j2) (hlt _ (by simp))]; exact hl
  refine lv_astore (lv' := [(5, .ref (eA γa (eN γ0))), (0, .ref (eA γa 0)), (1, .ref (eA γa j0)), (2, .ref (eA γa j1)), (3, .ref (eA γa j2)), (4, .int x4)]) hx hb dL_looks_3 hl (by decide) rfl (fun ls hl => ?_)
  refine lv_aload_n hx hb dL_looks_5 rfl (lv_at hl 2 rfl) ?_
  refine lv_aload_n hx hb dL_looks_6 rfl (lv_at hl 3 rfl) ?_
  refine lv_aload_n hx hb dL_looks_7 rfl (lv_at hl 4 rfl) ?_
  refine lv_aload hx hb dL_looks_8 (lv_at hl 0 rfl) ?_
  obtain ⟨q1, hq1, h⟩ := ob h
  refine r_SA (rest := []) C0a Ala ⟨csa hc1 (Nat.le_of_ble_eq_true rfl) hr1, csa hc2 (Nat.le_of_ble_eq_true rfl) hr2⟩ (c_L_one (μ := mm (stT σ 0 T) [((eN γ0), zr), (j0, a0), (j1, a1), (j2, a2)]) (nd_sub Na [1, 2, 3, 0] (by decide) rfl) (all_sub lta [1, 2, 3, 0] rfl) hA0a hA1a hA2a aa hq1) lk_L_60 hl.1 rfl (Nat.le_of_ble_eq_true rfl) (by decide) (Wo.cg (mm_pre (μ := (stT σ 0 T)) (L := [((eN γ0), zr), (j0, a0), (j1, a1), (j2, a2)]) (L' := [(j0, a0), (j1, a1), (j2, a2), ((eN γ0), zr)]) Na [1, 2, 3, 0] rfl) hw) dL_looks_10 (fun {H} {locs} hw => ?_)
  replace hc1 := cadd 3 3004 hc1 (Nat.le_of_ble_eq_true rfl)
  replace hc2 := cadd 81 81082 hc2 (Nat.le_of_ble_eq_true rfl)
  have zz := And.intro (cin hc1 hr1) (cin hc2 hr2)
  replace hw := Wo.cg (mm_post (μ := (stT σ 0 T)) (L := [((eN γ0), zr), (j0, a0), (j1, a1), (j2, a2)]) (L' := [(j0, a0), (j1, a1), (j2, a2), ((eN γ0), q1.2)]) (Ln := [((eN γ0), q1.2), (j0, a0), (j1, a1), (j2, a2)]) Na [(1, a0), (2, a1), (3, a2), (0, q1.2)] rfl rfl rfl) hw
  obtain ⟨v2, ev2, h⟩ := jb h
  refine r_top ev2 ?_
  refine lv_istore (lv' := [(6, .int v2), (5, .ref (eA γa (eN γ0))), (0, .ref (eA γa 0)), (1, .ref (eA γa j0)), (2, .ref (eA γa j1)), (3, .ref (eA γa j2)), (4, .int x4)]) hx hb dL_looks_13 hl (by decide) rfl (fun ls hl => ?_)
  refine lv_aload_n hx hb dL_looks_15 rfl (lv_at hl 2 rfl) ?_
  refine lv_iconst (v := (1 : Int32)) hx hb dL_looks_16 (by decide) ?_
  obtain ⟨q3, hq3, h⟩ := ob h
  refine r_Vi (rest := []) C0a zz (c_X4_look (γ := γa) (o := 0) Ba hq3) lk_L_76 (X4_k0 Ba) rfl rfl hl.1 rfl (Nat.le_of_ble_eq_true rfl) (by decide) (Wo.cg (mmT (σ := σ) (L := [((eN γ0), q1.2), (j0, a0), (j1, a1), (j2, a2)]) C49a) hw) dL_looks_17 (fun {H} {locs} hw => ?_)
  replace hw := Wo.cg (mmT (σ := σ) (T := q3.2) (L := [((eN γ0), q1.2), (j0, a0), (j1, a1), (j2, a2)]) C49a).symm hw
  refine lv_iload hx hb dL_looks_20 (lv_at hl 0 rfl) ?_
  refine lv_icmp_ne (tgt := 37) hx hb dL_looks_22 (by decide) (fun c4 => ?_) (fun c4 => ?_)
  · replace h := ifn c4 h
    refine lv_iconst (v := (0 : Int32)) hx hb dL_looks_37 (by decide) ?_
    obtain ⟨h1, h2⟩ := s2 h
    subst h1
    subst h2
    exact r_zretA hx hb hr hlk Sa hK0 hd0 hw (mm_lo2 (μ := (stT σ 0 q3.2)) (L := [((eN γ0), q1.2)]) (L' := [(j0, a0), (j1, a1), (j2, a2)]) loa) ⟨cMC hc1, cMC hc2⟩ rfl dL_looks_38
  · replace h := ifp c4 h
    refine lv_aload_n hx hb dL_looks_25 rfl (lv_at hl 2 rfl) ?_
    refine lv_iconst (v := (1 : Int32)) hx hb dL_looks_26 (by decide) ?_
    obtain ⟨q5, hq5, h⟩ := ob h
    refine r_Vi (rest := []) C0a zz (c_X4_best (γ := γa) (o := 0) Ba hq5) lk_L_85 (X4_k0 Ba) rfl rfl hl.1 rfl (Nat.le_of_ble_eq_true rfl) (by decide) (Wo.cg (mmT (σ := σ) (L := [((eN γ0), q1.2), (j0, a0), (j1, a1), (j2, a2)]) C49a) hw) dL_looks_27 (fun {H} {locs} hw => ?_)
    replace hw := Wo.cg (mmT (σ := σ) (T := q5.2) (L := [((eN γ0), q1.2), (j0, a0), (j1, a1), (j2, a2)]) C49a).symm hw
    refine lv_aload hx hb dL_looks_30 (lv_at hl 1 rfl) ?_
    refine lv_iconst (v := (0 : Int32)) hx hb dL_looks_32 (by decide) ?_
    obtain ⟨v6, hv6, h⟩ := ob h
    refine r_iald hx hb Ka hw aa (mm_at (i := 0) (f := q1.2) Na rfl) hv6 dL_looks_33 ?_
    refine lv_icmp_eq (tgt := 39) hx hb dL_looks_34 (by decide) (fun c7 => ?_) (fun c7 => ?_)
    · replace h := ifp c7 h
      refine lv_iload hx hb dL_looks_39 (lv_at hl 6 rfl) ?_
      refine lv_if_eq (tgt := 82) hx hb dL_looks_41 (by decide) (fun c8 => ?_) (fun c8 => ?_)
      · replace h := ifp c8 h
        refine lv_iconst (v := (1 : Int32)) hx hb dL_looks_82 (by decide) ?_
        obtain ⟨h1, h2⟩ := s2 h
        subst h1
        subst h2
        exact r_zretA hx hb hr hlk Sa hK0 hd0 hw (mm_lo2 (μ := (stT σ 0 q5.2)) (L := [((eN γ0), q1.2)]) (L' := [(j0, a0), (j1, a1), (j2, a2)]) loa) ⟨cMC hc1, cMC hc2⟩ rfl dL_looks_83
      · replace h := ifn c8 h
        refine lv_aload_n hx hb dL_looks_44 rfl (lv_at hl 3 rfl) ?_
        refine lv_aload_n hx hb dL_looks_45 rfl (lv_at hl 4 rfl) ?_
        refine lv_aload_n hx hb dL_looks_46 rfl (lv_at hl 5 rfl) ?_
        refine lv_aload hx hb dL_looks_47 (lv_at hl 1 rfl) ?_
        obtain ⟨q9, hq9, h⟩ := ob h
        refine r_SA (rest := []) C0a Ala ⟨csa hc1 (Nat.le_of_ble_eq_true rfl) hr1, csa hc2 (Nat.le_of_ble_eq_true rfl) hr2⟩ (c_L_two (μ := mm (stT σ 0 q5.2) [((eN γ0), q1.2), (j0, a0), (j1, a1), (j2, a2)]) (nd_sub Na [1, 2, 3, 0] (by decide) rfl) (all_sub lta [1, 2, 3, 0] rfl) hA0a hA1a hA2a aa hq9) lk_L_88 hl.1 rfl (Nat.le_of_ble_eq_true rfl) (by decide) (Wo.cg (mm_pre (μ := (stT σ 0 q5.2)) (L := [((eN γ0), q1.2), (j0, a0), (j1, a1), (j2, a2)]) (L' := [(j0, a0), (j1, a1), (j2, a2), ((eN γ0), q1.2)]) Na [1, 2, 3, 0] rfl) hw) dL_looks_49 (fun {H} {locs} hw => ?_)
        replace hc1 := cadd 3004 0 hc1 (Nat.le_of_ble_eq_true rfl)
        replace hc2 := cadd 81082 0 hc2 (Nat.le_of_ble_eq_true rfl)
        have zz := And.intro (cin hc1 hr1) (cin hc2 hr2)
        replace hw := Wo.cg (mm_post (μ := (stT σ 0 q5.2)) (L := [((eN γ0), q1.2), (j0, a0), (j1, a1), (j2, a2)]) (L' := [(j0, a0), (j1, a1), (j2, a2), ((eN γ0), q9.2)]) (Ln := [((eN γ0), q9.2), (j0, a0), (j1, a1), (j2, a2)]) Na [(1, a0), (2, a1), (3, a2), (0, q9.2)] rfl rfl rfl) hw
        obtain ⟨v10, ev10, h⟩ := jb h
        refine r_top ev10 ?_
        refine lv_istore (lv' := [(6, .int v10), (5, .ref (eA γa (eN γ0))), (0, .ref (eA γa 0)), (1, .ref (eA γa j0)), (2, .ref (eA γa j1)), (3, .ref (eA γa j2)), (4, .int x4)]) hx hb dL_looks_52 hl (by decide) rfl (fun ls hl => ?_)
        refine lv_aload_n hx hb dL_looks_54 rfl (lv_at hl 2 rfl) ?_
        refine lv_iconst (v := (2 : Int32)) hx hb dL_looks_55 (by decide) ?_
        obtain ⟨q11, hq11, h⟩ := ob h
        refine r_Vi (rest := []) C0a zz (c_X4_look (γ := γa) (o := 0) Ba hq11) lk_L_76 (X4_k0 Ba) rfl rfl hl.1 rfl (Nat.le_of_ble_eq_true rfl) (by decide) (Wo.cg (mmT (σ := σ) (L := [((eN γ0), q9.2), (j0, a0), (j1, a1), (j2, a2)]) C49a) hw) dL_looks_56 (fun {H} {locs} hw => ?_)
        replace hw := Wo.cg (mmT (σ := σ) (T := q11.2) (L := [((eN γ0), q9.2), (j0, a0), (j1, a1), (j2, a2)]) C49a).symm hw
        refine lv_iload hx hb dL_looks_59 (lv_at hl 0 rfl) ?_
        refine lv_icmp_ne (tgt := 80) hx hb dL_looks_61 (by decide) (fun c12 => ?_) (fun c12 => ?_)
        · replace h := ifn c12 h
          refine lv_iconst (v := (0 : Int32)) hx hb dL_looks_80 (by decide) ?_
          obtain ⟨h1, h2⟩ := s2 h
          subst h1
          subst h2
          exact r_zretA hx hb hr hlk Sa hK0 hd0 hw (mm_lo2 (μ := (stT σ 0 q11.2)) (L := [((eN γ0), q9.2)]) (L' := [(j0, a0), (j1, a1), (j2, a2)]) loa) ⟨cMC hc1, cMC hc2⟩ rfl dL_looks_81
        · replace h := ifp c12 h
          refine lv_aload_n hx hb dL_looks_64 rfl (lv_at hl 2 rfl) ?_
          refine lv_iconst (v := (2 : Int32)) hx hb dL_looks_65 (by decide) ?_
          obtain ⟨q13, hq13, h⟩ := ob h
          refine r_Vi (rest := []) C0a zz (c_X4_best (γ := γa) (o := 0) Ba hq13) lk_L_85 (X4_k0 Ba) rfl rfl hl.1 rfl (Nat.le_of_ble_eq_true rfl) (by decide) (Wo.cg (mmT (σ := σ) (L := [((eN γ0), q9.2), (j0, a0), (j1, a1), (j2, a2)]) C49a) hw) dL_looks_66 (fun {H} {locs} hw => ?_)
          replace hw := Wo.cg (mmT (σ := σ) (T := q13.2) (L := [((eN γ0), q9.2), (j0, a0), (j1, a1), (j2, a2)]) C49a).symm hw
          refine lv_aload hx hb dL_looks_69 (lv_at hl 1 rfl) ?_
          refine lv_iconst (v := (0 : Int32)) hx hb dL_looks_71 (by decide) ?_
          obtain ⟨v14, hv14, h⟩ := ob h
          refine r_iald hx hb Ka hw aa (mm_at (i := 0) (f := q9.2) Na rfl) hv14 dL_looks_72 ?_
          refine lv_icmp_ne (tgt := 80) hx hb dL_looks_73 (by decide) (fun c15 => ?_) (fun c15 => ?_)
          · replace h := ifn c15 h
            refine lv_iconst (v := (0 : Int32)) hx hb dL_looks_80 (by decide) ?_
            obtain ⟨h1, h2⟩ := s2 h
            subst h1
            subst h2
            exact r_zretA hx hb hr hlk Sa hK0 hd0 hw (mm_lo2 (μ := (stT σ 0 q13.2)) (L := [((eN γ0), q9.2)]) (L' := [(j0, a0), (j1, a1), (j2, a2)]) loa) ⟨cMC hc1, cMC hc2⟩ rfl dL_looks_81
          · replace h := ifp c15 h
            refine lv_iconst (v := (1 : Int32)) hx hb dL_looks_76 (by decide) ?_
            refine lv_goto (tgt := 81) hx hb dL_looks_77 (by decide) ?_
            obtain ⟨h1, h2⟩ := s2 h
            subst h1
            subst h2
            exact r_zretA hx hb hr hlk Sa hK0 hd0 hw (mm_lo2 (μ := (stT σ 0 q13.2)) (L := [((eN γ0), q9.2)]) (L' := [(j0, a0), (j1, a1), (j2, a2)]) loa) ⟨cMC hc1, cMC hc2⟩ rfl dL_looks_81
    · replace h := ifn c7 h
      refine lv_iconst (v := (0 : Int32)) hx hb dL_looks_37 (by decide) ?_
      obtain ⟨h1, h2⟩ := s2 h
      subst h1
      subst h2
      exact r_zretA hx hb hr hlk Sa hK0 hd0 hw (mm_lo2 (μ := (stT σ 0 q5.2)) (L := [((eN γ0), q1.2)]) (L' := [(j0, a0), (j1, a1), (j2, a2)]) loa) ⟨cMC hc1, cMC hc2⟩ rfl dL_looks_38
theorem c_L_looks {l : Launch} {γ0 : Ev} {σ : Mm} {T : Nat → Mm} {j0 : Nat} {a0 : Nat → Int32} {j1 : Nat} {a1 : Nat → Int32} {j2 : Nat} {a2 : Nat → Int32} {x4 : Int32} {r : Int32} {Tf : Nat → Mm} (hN : ([j0, j1, j2] : List Nat).Nodup) (hlt : ∀ i ∈ ([j0, j1, j2] : List Nat), i < eN γ0) (hA0 : isA γ0 j0 60) (hA1 : isA γ0 j1 10) (hA2 : isA γ0 j2 11) (hB : isX4 γ0 0) (h49 : 49 ≤ eN γ0) (hC : ∀ i ∈ ([j0, j1, j2] : List Nat), 49 ≤ i) (h : s_L_looks T a0 a1 a2 x4 = some (r, Tf)) : CtA l yL_looks cL_looks 7 (some .boolean) 91 3381 3008 81164 γ0 [.ref (eA γ0 0), .ref (eA γ0 j0), .ref (eA γ0 j1), .ref (eA γ0 j2), .int x4] (mm (stT σ 0 T) [(j0, a0), (j1, a1), (j2, a2)]) (some (.int r)) (mm (stT σ 0 Tf) [(j0, a0), (j1, a1), (j2, a2)]) := CtA.of (own := RL) (by decide +kernel) rfl (Nat.le_of_ble_eq_true rfl) (fun hR C hA hw ls hl => b_L_looks C hA hR hN hlt hA0 hA1 hA2 hB h49 hC ⟨by omega, by omega⟩ h hw hl)
end
