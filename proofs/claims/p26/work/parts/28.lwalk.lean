section
variable {p : Program} {l : Launch} {e : Env} {R : Room} {s : State} {m : MethodId} {args : Array Value} {below : List Frame} {meth : Method} {c : Code} {H : Heap} {locs : List Loc} {ls : Array Slot}
set_option maxHeartbeats 4000000 in
set_option maxRecDepth 10000 in
theorem b_L_one_L57 {γ0 γ : Ev} {μ : Mm} {j6 : Nat} {j5 : Nat} {j4 : Nat} {j0 : Nat} {j1 : Nat} {j2 : Nat} {j3 : Nat} {r : Int32} {w3 : Nat → Int32} {MC MS : Nat} (C : Cx p R s m args meth c RL cL_one 15 (some .int) 6 170 γ0) (hS : Sub γ0 γ) (hd : dis γ) (hA : ∀ q, s.heap.size ≤ q → AK γ q) (hR : MC ≤ R.cells ∧ MS ≤ R.slots) (hN : ([j6, j5, j4, j0, j1, j2, j3] : List Nat).Nodup) (hlt : ∀ i ∈ ([j6, j5, j4, j0, j1, j2, j3] : List Nat), i < eN γ) (hlo : ∀ i ∈ ([j6, j5, j4] : List Nat), eN γ0 ≤ i) (hA6 : isA γ j6 11) (hA5 : isA γ j5 10) (hA4 : isA γ j4 60) (hA0 : isA γ j0 60) (hA1 : isA γ j1 10) (hA2 : isA γ j2 11) (hA3 : isA γ j3 1) : ∀ (n : Nat) {a6 : Nat → Int32} {a5 : Nat → Int32} {a4 : Nat → Int32} {a0 : Nat → Int32} {a1 : Nat → Int32} {a2 : Nat → Int32} {a3 : Nat → Int32} {x4 : Int32} {x5 : Int32} {x6 : Int32} {x10 : Int32} {cells slots : Nat} {H : Heap} {locs : List Loc} {ls : Array Slot} (_ : cells + (0) ≤ MC ∧ slots + (0) ≤ MS), s_L_one_L57 n a6 a5 a4 a0 a1 a2 a3 x4 x5 x6 x10 = some (r, w3) → Wo γ (mm μ [(j6, a6), (j5, a5), (j4, a4), (j0, a0), (j1, a1), (j2, a2), (j3, a3)]) s H locs → lv_has ls 15 [(0, .ref (eA γ j0)), (1, .ref (eA γ j1)), (2, .ref (eA γ j2)), (3, .ref (eA γ j3)), (4, .int x4), (5, .int x5), (6, .int x6), (7, .ref (eA γ j4)), (8, .ref (eA γ j5)), (9, .ref (eA γ j6)), (10, .int x10)] → W p l e R s m args below meth c H locs cells slots (MQ below (Qo γ0 (some (.int r)) (mm μ [(j0, a0), (j1, a1), (j2, a2), (j3, w3)])) args s MC MS (AK γ0)) (F0 m 57 ls []) := by
  have C0 := C.sub hS hd
  obtain ⟨hx, hb, hr, hml, hown, hts, hlk, hK0, hd0, hF, hL⟩ := id C
  have hK := hS.1.hK hK0
  obtain ⟨hr1, hr2⟩ := id hR
  intro n
  induction n with
  | zero => intro a6 a5 a4 a0 a1 a2 a3 x4 x5 x6 x10 cells slots H locs ls _ h; cases h
  | succ n ih =>
    intro a6 a5 a4 a0 a1 a2 a3 x4 x5 x6 x10 cells slots H locs ls hcs h hw hl
    obtain ⟨hc1, hc2⟩ := hcs
    have zz := And.intro (cin hc1 hr1) (cin hc2 hr2)
    unfold s_L_one_L57 at h
    refine lv_iload hx hb dL_one_57 (lv_at hl 10 rfl) ?_
    refine lv_bipush (v := (84 : Int32)) hx hb dL_one_59 (by decide) ?_
    refine lv_icmp_ge (tgt := 248) hx hb dL_one_61 (by decide) (fun c5 => ?_) (fun c5 => ?_)
    · replace h := ifp c5 h
      refine lv_iload hx hb dL_one_248 (lv_at hl 5 rfl) ?_
      refine lv_iconst (v := (-1 : Int32)) hx hb dL_one_250 (by decide) ?_
      refine lv_icmp_ge (tgt := 258) hx hb dL_one_251 (by decide) (fun c6 => ?_) (fun c6 => ?_)
      · replace h := ifp c6 h
        refine lv_iload hx hb dL_one_258 (lv_at hl 5 rfl) ?_
        obtain ⟨h1, h2⟩ := s2 h
        subst h1
        subst h2
        exact r_iretA hx hb hr hlk hS hK0 hd0 hw (mm_lo2 (μ := μ) (L := [(j6, a6), (j5, a5), (j4, a4)]) (L' := [(j0, a0), (j1, a1), (j2, a2), (j3, a3)]) hlo) ⟨cMC hc1, cMC hc2⟩ dL_one_260
      · replace h := ifn c6 h
        refine lv_iconst (v := (0 : Int32)) hx hb dL_one_254 (by decide) ?_
        refine lv_goto (tgt := 260) hx hb dL_one_255 (by decide) ?_
        obtain ⟨h1, h2⟩ := s2 h
        subst h1
        subst h2
        exact r_iretA hx hb hr hlk hS hK0 hd0 hw (mm_lo2 (μ := μ) (L := [(j6, a6), (j5, a5), (j4, a4)]) (L' := [(j0, a0), (j1, a1), (j2, a2), (j3, a3)]) hlo) ⟨cMC hc1, cMC hc2⟩ dL_one_260
    · replace h := ifn c5 h
      refine lv_iload hx hb dL_one_64 (lv_at hl 10 rfl) ?_
      obtain ⟨v7, hv7, h⟩ := ob h
      refine r_Si (rest := []) C0 zz (c_L_order hv7) lk_L_45 hl.1 rfl (Nat.le_of_ble_eq_true rfl) (by decide) hw dL_one_66 (fun {H} {locs} hw => ?_)
      refine lv_istore (lv' := [(11, .int v7), (0, .ref (eA γ j0)), (1, .ref (eA γ j1)), (2, .ref (eA γ j2)), (3, .ref (eA γ j3)), (4, .int x4), (5, .int x5), (6, .int x6), (7, .ref (eA γ j4)), (8, .ref (eA γ j5)), (9, .ref (eA γ j6)), (10, .int x10)]) hx hb dL_one_69 hl (by decide) rfl (fun ls hl => ?_)
      refine lv_aload_n hx hb dL_one_71 rfl (lv_at hl 1 rfl) ?_
      refine lv_aload_n hx hb dL_one_72 rfl (lv_at hl 2 rfl) ?_
      refine lv_aload_n hx hb dL_one_73 rfl (lv_at hl 3 rfl) ?_
      refine lv_iload hx hb dL_one_74 (lv_at hl 0 rfl) ?_
      refine lv_bipush (v := (100 : Int32)) hx hb dL_one_76 (by decide) ?_
      obtain ⟨v8, hv8, h⟩ := ob h
      refine lv_idiv hx hb dL_one_78 (dvi_some hv8).1 ?_
      refine r_top (dvi_some hv8).2 ?_
      refine lv_iload hx hb dL_one_79 (lv_at hl 0 rfl) ?_
      refine lv_bipush (v := (100 : Int32)) hx hb dL_one_81 (by decide) ?_
      obtain ⟨v9, hv9, h⟩ := ob h
      refine lv_irem hx hb dL_one_83 (rmi_some hv9).1 ?_
      refine r_top (rmi_some hv9).2 ?_
      refine lv_bipush (v := (50 : Int32)) hx hb dL_one_84 (by decide) ?_
      refine lv_isub hx hb dL_one_86 ?_
      obtain ⟨v10, hv10, h⟩ := ob h
      refine r_Si (rest := []) C0 zz (c_L_why (μ := mm μ [(j6, a6), (j5, a5), (j4, a4), (j0, a0), (j1, a1), (j2, a2), (j3, a3)]) (nd_sub hN [3, 4, 5] (by decide) rfl) hA0 hA1 hA2 hv10) lk_L_48 hl.1 rfl (Nat.le_of_ble_eq_true rfl) (by decide) (Wo.cg (mm_pre (μ := μ) (L := [(j6, a6), (j5, a5), (j4, a4), (j0, a0), (j1, a1), (j2, a2), (j3, a3)]) (L' := [(j0, a0), (j1, a1), (j2, a2)]) hN [3, 4, 5] rfl) hw) dL_one_87 (fun {H} {locs} hw => ?_)
      replace hw := Wo.cg (mm_pre (μ := μ) (L := [(j6, a6), (j5, a5), (j4, a4), (j0, a0), (j1, a1), (j2, a2), (j3, a3)]) (L' := [(j0, a0), (j1, a1), (j2, a2)]) hN [3, 4, 5] rfl).symm hw
      refine lv_if_ne (tgt := 242) hx hb dL_one_90 (by decide) (fun c11 => ?_) (fun c11 => ?_)
      · replace h := ifn c11 h
        obtain ⟨v12, ev12, h⟩ := jb h
        refine lv_iinc (v := v12) (lv' := [(10, .int v12), (11, .int v7), (0, .ref (eA γ j0)), (1, .ref (eA γ j1)), (2, .ref (eA γ j2)), (3, .ref (eA γ j3)), (4, .int x4), (5, .int x5), (6, .int x6), (7, .ref (eA γ j4)), (8, .ref (eA γ j5)), (9, .ref (eA γ j6))]) hx hb dL_one_242 hl (k := 11) rfl (by rw [← ev12]; rfl) (by decide) rfl (fun ls hl => ?_)
        refine lv_goto (tgt := 57) hx hb dL_one_245 (by decide) ?_
        exact ih ⟨cle hc1 (Nat.le_of_ble_eq_true rfl), cle hc2 (Nat.le_of_ble_eq_true rfl)⟩ h hw (lv_sub hl [2, 3, 4, 5, 6, 7, 8, 9, 10, 11, 0] rfl)
      · replace h := ifp c11 h
        refine lv_aload_n hx hb dL_one_93 rfl (lv_at hl 1 rfl) ?_
        refine lv_aload hx hb dL_one_94 (lv_at hl 8 rfl) ?_
        obtain ⟨A13, hA13, h⟩ := ob h
        refine r_Sv (rest := []) C0 zz (c_L_copy (μ := mm μ [(j6, a6), (j5, a5), (j4, a4), (j0, a0), (j1, a1), (j2, a2), (j3, a3)]) (nd_sub hN [3, 2] (by decide) rfl) hA0 hA4 hA13) lk_L_52 hl.1 rfl (Nat.le_of_ble_eq_true rfl) (by decide) (Wo.cg (mm_pre (μ := μ) (L := [(j6, a6), (j5, a5), (j4, a4), (j0, a0), (j1, a1), (j2, a2), (j3, a3)]) (L' := [(j0, a0), (j4, a4)]) hN [3, 2] rfl) hw) dL_one_96 (fun {H} {locs} hw => ?_)
        replace hw := Wo.cg (mm_post (μ := μ) (L := [(j6, a6), (j5, a5), (j4, a4), (j0, a0), (j1, a1), (j2, a2), (j3, a3)]) (L' := [(j0, a0), (j4, A13)]) (Ln := [(j6, a6), (j5, a5), (j4, A13), (j0, a0), (j1, a1), (j2, a2), (j3, a3)]) hN [(3, a0), (2, A13)] rfl rfl rfl) hw
        refine lv_aload_n hx hb dL_one_99 rfl (lv_at hl 2 rfl) ?_
        refine lv_aload hx hb dL_one_100 (lv_at hl 9 rfl) ?_
        obtain ⟨A14, hA14, h⟩ := ob h
        refine r_Sv (rest := []) C0 zz (c_L_copy (μ := mm μ [(j6, a6), (j5, a5), (j4, A13), (j0, a0), (j1, a1), (j2, a2), (j3, a3)]) (nd_sub hN [4, 1] (by decide) rfl) hA1 hA5 hA14) lk_L_52 hl.1 rfl (Nat.le_of_ble_eq_true rfl) (by decide) (Wo.cg (mm_pre (μ := μ) (L := [(j6, a6), (j5, a5), (j4, A13), (j0, a0), (j1, a1), (j2, a2), (j3, a3)]) (L' := [(j1, a1), (j5, a5)]) hN [4, 1] rfl) hw) dL_one_102 (fun {H} {locs} hw => ?_)
        replace hw := Wo.cg (mm_post (μ := μ) (L := [(j6, a6), (j5, a5), (j4, A13), (j0, a0), (j1, a1), (j2, a2), (j3, a3)]) (L' := [(j1, a1), (j5, A14)]) (Ln := [(j6, a6), (j5, A14), (j4, A13), (j0, a0), (j1, a1), (j2, a2), (j3, a3)]) hN [(4, a1), (1, A14)] rfl rfl rfl) hw
        refine lv_aload_n hx hb dL_one_105 rfl (lv_at hl 3 rfl) ?_
        refine lv_aload hx hb dL_one_106 (lv_at hl 10 rfl) ?_
        obtain ⟨A15, hA15, h⟩ := ob h
        refine r_Sv (rest := []) C0 zz (c_L_copy (μ := mm μ [(j6, a6), (j5, A14), (j4, A13), (j0, a0), (j1, a1), (j2, a2), (j3, a3)]) (nd_sub hN [5, 0] (by decide) rfl) hA2 hA6 hA15) lk_L_52 hl.1 rfl (Nat.le_of_ble_eq_true rfl) (by decide) (Wo.cg (mm_pre (μ := μ) (L := [(j6, a6), (j5, A14), (j4, A13), (j0, a0), (j1, a1), (j2, a2), (j3, a3)]) (L' := [(j2, a2), (j6, a6)]) hN [5, 0] rfl) hw) dL_one_108 (fun {H} {locs} hw => ?_)
        replace hw := Wo.cg (mm_post (μ := μ) (L := [(j6, a6), (j5, A14), (j4, A13), (j0, a0), (j1, a1), (j2, a2), (j3, a3)]) (L' := [(j2, a2), (j6, A15)]) (Ln := [(j6, A15), (j5, A14), (j4, A13), (j0, a0), (j1, a1), (j2, a2), (j3, a3)]) hN [(5, a2), (0, A15)] rfl rfl rfl) hw
        refine lv_aload hx hb dL_one_111 (lv_at hl 8 rfl) ?_
        refine lv_aload hx hb dL_one_113 (lv_at hl 9 rfl) ?_
        refine lv_aload hx hb dL_one_115 (lv_at hl 10 rfl) ?_
        refine lv_iload hx hb dL_one_117 (lv_at hl 0 rfl) ?_
        refine lv_bipush (v := (100 : Int32)) hx hb dL_one_119 (by decide) ?_
        obtain ⟨v16, hv16, h⟩ := ob h
        refine lv_idiv hx hb dL_one_121 (dvi_some hv16).1 ?_
        refine r_top (dvi_some hv16).2 ?_
        refine lv_iload hx hb dL_one_122 (lv_at hl 0 rfl) ?_
        refine lv_bipush (v := (100 : Int32)) hx hb dL_one_124 (by decide) ?_
        obtain ⟨v17, hv17, h⟩ := ob h
        refine lv_irem hx hb dL_one_126 (rmi_some hv17).1 ?_
        refine r_top (rmi_some hv17).2 ?_
        refine lv_bipush (v := (50 : Int32)) hx hb dL_one_127 (by decide) ?_
        refine lv_isub hx hb dL_one_129 ?_
        obtain ⟨q18, hq18, h⟩ := ob h
        refine r_Sv (rest := []) C0 zz (c_L_move (μ := mm μ [(j6, A15), (j5, A14), (j4, A13), (j0, a0), (j1, a1), (j2, a2), (j3, a3)]) (nd_sub hN [2, 1, 0] (by decide) rfl) hA4 hA5 hA6 hq18) lk_L_56 hl.1 rfl (Nat.le_of_ble_eq_true rfl) (by decide) (Wo.cg (mm_pre (μ := μ) (L := [(j6, A15), (j5, A14), (j4, A13), (j0, a0), (j1, a1), (j2, a2), (j3, a3)]) (L' := [(j4, A13), (j5, A14), (j6, A15)]) hN [2, 1, 0] rfl) hw) dL_one_130 (fun {H} {locs} hw => ?_)
        replace hw := Wo.cg (mm_post (μ := μ) (L := [(j6, A15), (j5, A14), (j4, A13), (j0, a0), (j1, a1), (j2, a2), (j3, a3)]) (L' := [(j4, q18.1), (j5, q18.2.1), (j6, q18.2.2)]) (Ln := [(j6, q18.2.2), (j5, q18.2.1), (j4, q18.1), (j0, a0), (j1, a1), (j2, a2), (j3, a3)]) hN [(2, q18.1), (1, q18.2.1), (0, q18.2.2)] rfl rfl rfl) hw
        refine lv_aload hx hb dL_one_133 (lv_at hl 8 rfl) ?_
        refine lv_aload hx hb dL_one_135 (lv_at hl 9 rfl) ?_
        refine lv_aload hx hb dL_one_137 (lv_at hl 10 rfl) ?_
        refine lv_iload hx hb dL_one_139 (lv_at hl 5 rfl) ?_
        obtain ⟨v19, hv19, h⟩ := ob h
        refine r_Si (rest := []) C0 zz (c_L_told (μ := mm μ [(j6, q18.2.2), (j5, q18.2.1), (j4, q18.1), (j0, a0), (j1, a1), (j2, a2), (j3, a3)]) (nd_sub hN [2, 1, 0] (by decide) rfl) hA4 hA5 hA6 hv19) lk_L_41 hl.1 rfl (Nat.le_of_ble_eq_true rfl) (by decide) (Wo.cg (mm_pre (μ := μ) (L := [(j6, q18.2.2), (j5, q18.2.1), (j4, q18.1), (j0, a0), (j1, a1), (j2, a2), (j3, a3)]) (L' := [(j4, q18.1), (j5, q18.2.1), (j6, q18.2.2)]) hN [2, 1, 0] rfl) hw) dL_one_141 (fun {H} {locs} hw => ?_)
        replace hw := Wo.cg (mm_pre (μ := μ) (L := [(j6, q18.2.2), (j5, q18.2.1), (j4, q18.1), (j0, a0), (j1, a1), (j2, a2), (j3, a3)]) (L' := [(j4, q18.1), (j5, q18.2.1), (j6, q18.2.2)]) hN [2, 1, 0] rfl).symm hw
        refine lv_istore (lv' := [(12, .int v19), (11, .int v7), (0, .ref (eA γ j0)), (1, .ref (eA γ j1)), (2, .ref (eA γ j2)), (3, .ref (eA γ j3)), (4, .int x4), (5, .int x5), (6, .int x6), (7, .ref (eA γ j4)), (8, .ref (eA γ j5)), (9, .ref (eA γ j6)), (10, .int x10)]) hx hb dL_one_144 hl (by decide) rfl (fun ls hl => ?_)
        refine lv_aload hx hb dL_one_146 (lv_at hl 9 rfl) ?_
        obtain ⟨v20, hv20, h⟩ := ob h
        refine r_Si (rest := []) C0 zz (c_L_turn (μ := mm μ [(j6, q18.2.2), (j5, q18.2.1), (j4, q18.1), (j0, a0), (j1, a1), (j2, a2), (j3, a3)]) (nd_sub hN [2] (by decide) rfl) hA4 hv20) lk_L_16 hl.1 rfl (Nat.le_of_ble_eq_true rfl) (by decide) (Wo.cg (mm_pre (μ := μ) (L := [(j6, q18.2.2), (j5, q18.2.1), (j4, q18.1), (j0, a0), (j1, a1), (j2, a2), (j3, a3)]) (L' := [(j4, q18.1)]) hN [2] rfl) hw) dL_one_148 (fun {H} {locs} hw => ?_)
        replace hw := Wo.cg (mm_pre (μ := μ) (L := [(j6, q18.2.2), (j5, q18.2.1), (j4, q18.1), (j0, a0), (j1, a1), (j2, a2), (j3, a3)]) (L' := [(j4, q18.1)]) hN [2] rfl).symm hw
        refine jn_elim h (fun (k : Int32 → Option (Int32 × (Nat → Int32))) => ∀ (v25 : Int32) {cells slots : Nat} {H : Heap} {locs : List Loc} {ls : Array Slot}, k v25 = some (r, w3) → cells + (0) ≤ MC ∧ slots + (0) ≤ MS → Wo γ (mm μ [(j6, q18.2.2), (j5, q18.2.1), (j4, q18.1), (j0, a0), (j1, a1), (j2, a2), (j3, a3)]) s H locs → lv_has ls 15 [(0, .ref (eA γ j0)), (1, .ref (eA γ j1)), (2, .ref (eA γ j2)), (3, .ref (eA γ j3)), (4, .int x4), (5, .int x5), (6, .int x6), (7, .ref (eA γ j4)), (8, .ref (eA γ j5)), (9, .ref (eA γ j6)), (10, .int x10), (11, .int v7), (12, .int v19)] → W p l e R s m args below meth c H locs cells slots (MQ below (Qo γ0 (some (.int r)) (mm μ [(j0, a0), (j1, a1), (j2, a2), (j3, w3)])) args s MC MS (AK γ0)) (F0 m 168 ls [.int v25])) ?_ ?_
        · intro v25 cells slots H locs ls h hcs hw hl
          obtain ⟨hc1, hc2⟩ := hcs
          have zz := And.intro (cin hc1 hr1) (cin hc2 hr2)
          refine lv_istore (lv' := [(13, .int v25), (0, .ref (eA γ j0)), (1, .ref (eA γ j1)), (2, .ref (eA γ j2)), (3, .ref (eA γ j3)), (4, .int x4), (5, .int x5), (6, .int x6), (7, .ref (eA γ j4)), (8, .ref (eA γ j5)), (9, .ref (eA γ j6)), (10, .int x10), (11, .int v7), (12, .int v19)]) hx hb dL_one_168 hl (by decide) rfl (fun ls hl => ?_)
          refine lv_iload hx hb dL_one_170 (lv_at hl 13 rfl) ?_
          refine lv_iload hx hb dL_one_172 (lv_at hl 6 rfl) ?_
          refine jn_elim h (fun (k : Int32 → Option (Int32 × (Nat → Int32))) => ∀ (v27 : Int32) {cells slots : Nat} {H : Heap} {locs : List Loc} {ls : Array Slot}, k v27 = some (r, w3) → cells + (0) ≤ MC ∧ slots + (0) ≤ MS → Wo γ (mm μ [(j6, q18.2.2), (j5, q18.2.1), (j4, q18.1), (j0, a0), (j1, a1), (j2, a2), (j3, a3)]) s H locs → lv_has ls 15 [(0, .ref (eA γ j0)), (1, .ref (eA γ j1)), (2, .ref (eA γ j2)), (3, .ref (eA γ j3)), (4, .int x4), (5, .int x5), (6, .int x6), (7, .ref (eA γ j4)), (8, .ref (eA γ j5)), (9, .ref (eA γ j6)), (10, .int x10), (11, .int v7), (12, .int v19), (13, .int v25)] → W p l e R s m args below meth c H locs cells slots (MQ below (Qo γ0 (some (.int r)) (mm μ [(j0, a0), (j1, a1), (j2, a2), (j3, w3)])) args s MC MS (AK γ0)) (F0 m 196 ls [.int v27])) ?_ ?_
          · intro v27 cells slots H locs ls h hcs hw hl
            obtain ⟨hc1, hc2⟩ := hcs
            have zz := And.intro (cin hc1 hr1) (cin hc2 hr2)
            refine lv_istore (lv' := [(14, .int v27), (0, .ref (eA γ j0)), (1, .ref (eA γ j1)), (2, .ref (eA γ j2)), (3, .ref (eA γ j3)), (4, .int x4), (5, .int x5), (6, .int x6), (7, .ref (eA γ j4)), (8, .ref (eA γ j5)), (9, .ref (eA γ j6)), (10, .int x10), (11, .int v7), (12, .int v19), (13, .int v25)]) hx hb dL_one_196 hl (by decide) rfl (fun ls hl => ?_)
            refine lv_iload hx hb dL_one_198 (lv_at hl 0 rfl) ?_
            refine jn_elim h (fun (k : Int32 → Option (Int32 × (Nat → Int32))) => ∀ (v29 : Int32) {cells slots : Nat} {H : Heap} {locs : List Loc} {ls : Array Slot}, k v29 = some (r, w3) → cells + (0) ≤ MC ∧ slots + (0) ≤ MS → Wo γ (mm μ [(j6, q18.2.2), (j5, q18.2.1), (j4, q18.1), (j0, a0), (j1, a1), (j2, a2), (j3, a3)]) s H locs → lv_has ls 15 [(0, .ref (eA γ j0)), (1, .ref (eA γ j1)), (2, .ref (eA γ j2)), (3, .ref (eA γ j3)), (4, .int x4), (6, .int x6), (7, .ref (eA γ j4)), (8, .ref (eA γ j5)), (9, .ref (eA γ j6)), (10, .int x10), (11, .int v7), (13, .int v25), (14, .int v27)] → W p l e R s m args below meth c H locs cells slots (MQ below (Qo γ0 (some (.int r)) (mm μ [(j0, a0), (j1, a1), (j2, a2), (j3, w3)])) args s MC MS (AK γ0)) (F0 m 210 ls [.int v29])) ?_ ?_
            · intro v29 cells slots H locs ls h hcs hw hl
              obtain ⟨hc1, hc2⟩ := hcs
              have zz := And.intro (cin hc1 hr1) (cin hc2 hr2)
              refine lv_istore (lv' := [(5, .int v29), (0, .ref (eA γ j0)), (1, .ref (eA γ j1)), (2, .ref (eA γ j2)), (3, .ref (eA γ j3)), (4, .int x4), (6, .int x6), (7, .ref (eA γ j4)), (8, .ref (eA γ j5)), (9, .ref (eA γ j6)), (10, .int x10), (11, .int v7), (13, .int v25), (14, .int v27)]) hx hb dL_one_210 hl (by decide) rfl (fun ls hl => ?_)
              refine lv_iload hx hb dL_one_212 (lv_at hl 13 rfl) ?_
              refine jn_elim h (fun (k : Int32 → Option (Int32 × (Nat → Int32))) => ∀ (v31 : Int32) {cells slots : Nat} {H : Heap} {locs : List Loc} {ls : Array Slot}, k v31 = some (r, w3) → cells + (0) ≤ MC ∧ slots + (0) ≤ MS → Wo γ (mm μ [(j6, q18.2.2), (j5, q18.2.1), (j4, q18.1), (j0, a0), (j1, a1), (j2, a2), (j3, a3)]) s H locs → lv_has ls 15 [(0, .ref (eA γ j0)), (1, .ref (eA γ j1)), (2, .ref (eA γ j2)), (3, .ref (eA γ j3)), (4, .int x4), (5, .int v29), (7, .ref (eA γ j4)), (8, .ref (eA γ j5)), (9, .ref (eA γ j6)), (10, .int x10), (11, .int v7), (14, .int v27)] → W p l e R s m args below meth c H locs cells slots (MQ below (Qo γ0 (some (.int r)) (mm μ [(j0, a0), (j1, a1), (j2, a2), (j3, w3)])) args s MC MS (AK γ0)) (F0 m 224 ls [.int v31])) ?_ ?_
              · intro v31 cells slots H locs ls h hcs hw hl
                obtain ⟨hc1, hc2⟩ := hcs
                have zz := And.intro (cin hc1 hr1) (cin hc2 hr2)
                refine lv_istore (lv' := [(6, .int v31), (0, .ref (eA γ j0)), (1, .ref (eA γ j1)), (2, .ref (eA γ j2)), (3, .ref (eA γ j3)), (4, .int x4), (5, .int v29), (7, .ref (eA γ j4)), (8, .ref (eA γ j5)), (9, .ref (eA γ j6)), (10, .int x10), (11, .int v7), (14, .int v27)]) hx hb dL_one_224 hl (by decide) rfl (fun ls hl => ?_)
                refine lv_aload_n hx hb dL_one_226 rfl (lv_at hl 4 rfl) ?_
                refine lv_iconst (v := (0 : Int32)) hx hb dL_one_227 (by decide) ?_
                refine lv_iload hx hb dL_one_228 (lv_at hl 12 rfl) ?_
                refine lv_if_eq (tgt := 238) hx hb dL_one_230 (by decide) (fun c32 => ?_) (fun c32 => ?_)
                · replace h := ifp c32 h
                  refine lv_aload_n hx hb dL_one_238 rfl (lv_at hl 4 rfl) ?_
                  refine lv_iconst (v := (0 : Int32)) hx hb dL_one_239 (by decide) ?_
                  obtain ⟨v33, hv33, h⟩ := ob h
                  refine r_iald hx hb hK hw hA3 (mm_at (i := 6) (f := a3) hN rfl) hv33 dL_one_240 ?_
                  obtain ⟨A34, hA34, h⟩ := ob h
                  refine r_astm (L := [(j6, q18.2.2), (j5, q18.2.1), (j4, q18.1), (j0, a0), (j1, a1), (j2, a2), (j3, a3)]) (L' := [(j6, q18.2.2), (j5, q18.2.1), (j4, q18.1), (j0, a0), (j1, a1), (j2, a2), (j3, A34)]) (i := 6) hx hb hK hd hN hw hA3 rfl hA34 rfl dL_one_241 (fun {H} {locs} hw => ?_)
                  obtain ⟨v35, ev35, h⟩ := jb h
                  refine lv_iinc (v := v35) (lv' := [(10, .int v35), (6, .int v31), (0, .ref (eA γ j0)), (1, .ref (eA γ j1)), (2, .ref (eA γ j2)), (3, .ref (eA γ j3)), (4, .int x4), (5, .int v29), (7, .ref (eA γ j4)), (8, .ref (eA γ j5)), (9, .ref (eA γ j6)), (11, .int v7), (14, .int v27)]) hx hb dL_one_242 hl (k := 10) rfl (by rw [← ev35]; rfl) (by decide) rfl (fun ls hl => ?_)
                  refine lv_goto (tgt := 57) hx hb dL_one_245 (by decide) ?_
                  exact ih ⟨cle hc1 (Nat.le_of_ble_eq_true rfl), cle hc2 (Nat.le_of_ble_eq_true rfl)⟩ h hw (lv_sub hl [2, 3, 4, 5, 6, 7, 1, 8, 9, 10, 0] rfl)
                · replace h := ifn c32 h
                  refine lv_iload hx hb dL_one_233 (lv_at hl 11 rfl) ?_
                  refine lv_goto (tgt := 241) hx hb dL_one_235 (by decide) ?_
                  obtain ⟨A36, hA36, h⟩ := ob h
                  refine r_astm (L := [(j6, q18.2.2), (j5, q18.2.1), (j4, q18.1), (j0, a0), (j1, a1), (j2, a2), (j3, a3)]) (L' := [(j6, q18.2.2), (j5, q18.2.1), (j4, q18.1), (j0, a0), (j1, a1), (j2, a2), (j3, A36)]) (i := 6) hx hb hK hd hN hw hA3 rfl hA36 rfl dL_one_241 (fun {H} {locs} hw => ?_)
                  obtain ⟨v37, ev37, h⟩ := jb h
                  refine lv_iinc (v := v37) (lv' := [(10, .int v37), (6, .int v31), (0, .ref (eA γ j0)), (1, .ref (eA γ j1)), (2, .ref (eA γ j2)), (3, .ref (eA γ j3)), (4, .int x4), (5, .int v29), (7, .ref (eA γ j4)), (8, .ref (eA γ j5)), (9, .ref (eA γ j6)), (11, .int v7), (14, .int v27)]) hx hb dL_one_242 hl (k := 10) rfl (by rw [← ev37]; rfl) (by decide) rfl (fun ls hl => ?_)
                  refine lv_goto (tgt := 57) hx hb dL_one_245 (by decide) ?_
                  exact ih ⟨cle hc1 (Nat.le_of_ble_eq_true rfl), cle hc2 (Nat.le_of_ble_eq_true rfl)⟩ h hw (lv_sub hl [2, 3, 4, 5, 6, 7, 1, 8, 9, 10, 0] rfl)
              intro k30 J_k30 h
              refine lv_if_eq (tgt := 222) hx hb dL_one_214 (by decide) (fun c38 => ?_) (fun c38 => ?_)
              · replace h := ifp c38 h
                refine lv_iload hx hb dL_one_222 (lv_at hl 6 rfl) ?_
                exact J_k30 x6 h ⟨cle hc1 (Nat.le_of_ble_eq_true rfl), cle hc2 (Nat.le_of_ble_eq_true rfl)⟩ hw (lv_sub hl [1, 2, 3, 4, 5, 0, 7, 8, 9, 10, 11, 13] rfl)
              · replace h := ifn c38 h
                refine lv_iload hx hb dL_one_217 (lv_at hl 12 rfl) ?_
                refine lv_goto (tgt := 224) hx hb dL_one_219 (by decide) ?_
                exact J_k30 v25 h ⟨cle hc1 (Nat.le_of_ble_eq_true rfl), cle hc2 (Nat.le_of_ble_eq_true rfl)⟩ hw (lv_sub hl [1, 2, 3, 4, 5, 0, 7, 8, 9, 10, 11, 13] rfl)
            intro k28 J_k28 h
            refine lv_if_eq (tgt := 208) hx hb dL_one_200 (by decide) (fun c39 => ?_) (fun c39 => ?_)
            · replace h := ifp c39 h
              refine lv_iload hx hb dL_one_208 (lv_at hl 6 rfl) ?_
              exact J_k28 x5 h ⟨cle hc1 (Nat.le_of_ble_eq_true rfl), cle hc2 (Nat.le_of_ble_eq_true rfl)⟩ hw (lv_sub hl [1, 2, 3, 4, 5, 7, 8, 9, 10, 11, 12, 14, 0] rfl)
            · replace h := ifn c39 h
              refine lv_iload hx hb dL_one_203 (lv_at hl 13 rfl) ?_
              refine lv_goto (tgt := 210) hx hb dL_one_205 (by decide) ?_
              exact J_k28 v19 h ⟨cle hc1 (Nat.le_of_ble_eq_true rfl), cle hc2 (Nat.le_of_ble_eq_true rfl)⟩ hw (lv_sub hl [1, 2, 3, 4, 5, 7, 8, 9, 10, 11, 12, 14, 0] rfl)
          intro k26 J_k26 h
          refine jn_elim h (fun (k : Unit → Option (Int32 × (Nat → Int32))) => ∀ (u : Unit) {cells slots : Nat} {H : Heap} {locs : List Loc} {ls : Array Slot}, k u = some (r, w3) → cells + (0) ≤ MC ∧ slots + (0) ≤ MS → Wo γ (mm μ [(j6, q18.2.2), (j5, q18.2.1), (j4, q18.1), (j0, a0), (j1, a1), (j2, a2), (j3, a3)]) s H locs → lv_has ls 15 [(0, .ref (eA γ j0)), (1, .ref (eA γ j1)), (2, .ref (eA γ j2)), (3, .ref (eA γ j3)), (4, .int x4), (5, .int x5), (6, .int x6), (7, .ref (eA γ j4)), (8, .ref (eA γ j5)), (9, .ref (eA γ j6)), (10, .int x10), (11, .int v7), (12, .int v19), (13, .int v25)] → W p l e R s m args below meth c H locs cells slots (MQ below (Qo γ0 (some (.int r)) (mm μ [(j0, a0), (j1, a1), (j2, a2), (j3, w3)])) args s MC MS (AK γ0)) (F0 m 191 ls [])) ?_ ?_
          · intro u cells slots H locs ls h hcs hw hl
            obtain ⟨hc1, hc2⟩ := hcs
            have zz := And.intro (cin hc1 hr1) (cin hc2 hr2)
            refine lv_iconst (v := (1 : Int32)) hx hb dL_one_191 (by decide) ?_
            refine lv_goto (tgt := 196) hx hb dL_one_192 (by decide) ?_
            exact J_k26 (1 : Int32) h ⟨cle hc1 (Nat.le_of_ble_eq_true rfl), cle hc2 (Nat.le_of_ble_eq_true rfl)⟩ hw (lv_sub hl [0, 1, 2, 3, 4, 5, 6, 7, 8, 9, 10, 11, 12, 13] rfl)
          intro k80 J_k80 h
          refine lv_icmp_gt (tgt := 191) hx hb dL_one_174 (by decide) (fun c81 => ?_) (fun c81 => ?_)
          · replace h := ifp c81 h
            exact J_k80 () h ⟨cle hc1 (Nat.le_of_ble_eq_true rfl), cle hc2 (Nat.le_of_ble_eq_true rfl)⟩ hw (lv_sub hl [1, 2, 3, 4, 5, 6, 7, 8, 9, 10, 11, 12, 13, 0] rfl)
          · replace h := ifn c81 h
            refine lv_iload hx hb dL_one_177 (lv_at hl 13 rfl) ?_
            refine lv_iload hx hb dL_one_179 (lv_at hl 6 rfl) ?_
            refine jn_elim h (fun (k : Unit → Option (Int32 × (Nat → Int32))) => ∀ (u : Unit) {cells slots : Nat} {H : Heap} {locs : List Loc} {ls : Array Slot}, k u = some (r, w3) → cells + (0) ≤ MC ∧ slots + (0) ≤ MS → Wo γ (mm μ [(j6, q18.2.2), (j5, q18.2.1), (j4, q18.1), (j0, a0), (j1, a1), (j2, a2), (j3, a3)]) s H locs → lv_has ls 15 [(0, .ref (eA γ j0)), (1, .ref (eA γ j1)), (2, .ref (eA γ j2)), (3, .ref (eA γ j3)), (4, .int x4), (5, .int x5), (6, .int x6), (7, .ref (eA γ j4)), (8, .ref (eA γ j5)), (9, .ref (eA γ j6)), (10, .int x10), (11, .int v7), (12, .int v19), (13, .int v25)] → W p l e R s m args below meth c H locs cells slots (MQ below (Qo γ0 (some (.int r)) (mm μ [(j0, a0), (j1, a1), (j2, a2), (j3, w3)])) args s MC MS (AK γ0)) (F0 m 195 ls [])) ?_ ?_
            · intro u cells slots H locs ls h hcs hw hl
              obtain ⟨hc1, hc2⟩ := hcs
              have zz := And.intro (cin hc1 hr1) (cin hc2 hr2)
              refine lv_iconst (v := (0 : Int32)) hx hb dL_one_195 (by decide) ?_
              exact J_k26 (0 : Int32) h ⟨cle hc1 (Nat.le_of_ble_eq_true rfl), cle hc2 (Nat.le_of_ble_eq_true rfl)⟩ hw (lv_sub hl [0, 1, 2, 3, 4, 5, 6, 7, 8, 9, 10, 11, 12, 13] rfl)
            intro k102 J_k102 h
            refine lv_icmp_ne (tgt := 195) hx hb dL_one_181 (by decide) (fun c103 => ?_) (fun c103 => ?_)
            · replace h := ifn c103 h
              exact J_k102 () h ⟨cle hc1 (Nat.le_of_ble_eq_true rfl), cle hc2 (Nat.le_of_ble_eq_true rfl)⟩ hw (lv_sub hl [1, 2, 3, 4, 5, 6, 7, 8, 9, 10, 11, 12, 13, 0] rfl)
            · replace h := ifp c103 h
              refine lv_iload hx hb dL_one_184 (lv_at hl 0 rfl) ?_
              refine lv_iload hx hb dL_one_186 (lv_at hl 7 rfl) ?_
              refine lv_icmp_ge (tgt := 195) hx hb dL_one_188 (by decide) (fun c104 => ?_) (fun c104 => ?_)
              · replace h := ifp c104 h
                exact J_k102 () h ⟨cle hc1 (Nat.le_of_ble_eq_true rfl), cle hc2 (Nat.le_of_ble_eq_true rfl)⟩ hw (lv_sub hl [1, 2, 3, 4, 5, 6, 7, 8, 9, 10, 11, 12, 13, 0] rfl)
              · replace h := ifn c104 h
                exact J_k80 () h ⟨cle hc1 (Nat.le_of_ble_eq_true rfl), cle hc2 (Nat.le_of_ble_eq_true rfl)⟩ hw (lv_sub hl [1, 2, 3, 4, 5, 6, 7, 8, 9, 10, 11, 12, 13, 0] rfl)
        intro k24 J_k24 h
        refine lv_if_ge (tgt := 163) hx hb dL_one_151 (by decide) (fun c105 => ?_) (fun c105 => ?_)
        · replace h := ifp c105 h
          refine lv_aload hx hb dL_one_163 (lv_at hl 9 rfl) ?_
          obtain ⟨v106, hv106, h⟩ := ob h
          refine r_Si (rest := []) C0 zz (c_L_turn (μ := mm μ [(j6, q18.2.2), (j5, q18.2.1), (j4, q18.1), (j0, a0), (j1, a1), (j2, a2), (j3, a3)]) (nd_sub hN [2] (by decide) rfl) hA4 hv106) lk_L_16 hl.1 rfl (Nat.le_of_ble_eq_true rfl) (by decide) (Wo.cg (mm_pre (μ := μ) (L := [(j6, q18.2.2), (j5, q18.2.1), (j4, q18.1), (j0, a0), (j1, a1), (j2, a2), (j3, a3)]) (L' := [(j4, q18.1)]) hN [2] rfl) hw) dL_one_165 (fun {H} {locs} hw => ?_)
          replace hw := Wo.cg (mm_pre (μ := μ) (L := [(j6, q18.2.2), (j5, q18.2.1), (j4, q18.1), (j0, a0), (j1, a1), (j2, a2), (j3, a3)]) (L' := [(j4, q18.1)]) hN [2] rfl).symm hw
          exact J_k24 v106 h ⟨cle hc1 (Nat.le_of_ble_eq_true rfl), cle hc2 (Nat.le_of_ble_eq_true rfl)⟩ hw (lv_sub hl [2, 3, 4, 5, 6, 7, 8, 9, 10, 11, 12, 1, 0] rfl)
        · replace h := ifn c105 h
          refine lv_aload hx hb dL_one_154 (lv_at hl 9 rfl) ?_
          obtain ⟨v107, hv107, h⟩ := ob h
          refine r_Si (rest := []) C0 zz (c_L_turn (μ := mm μ [(j6, q18.2.2), (j5, q18.2.1), (j4, q18.1), (j0, a0), (j1, a1), (j2, a2), (j3, a3)]) (nd_sub hN [2] (by decide) rfl) hA4 hv107) lk_L_16 hl.1 rfl (Nat.le_of_ble_eq_true rfl) (by decide) (Wo.cg (mm_pre (μ := μ) (L := [(j6, q18.2.2), (j5, q18.2.1), (j4, q18.1), (j0, a0), (j1, a1), (j2, a2), (j3, a3)]) (L' := [(j4, q18.1)]) hN [2] rfl) hw) dL_one_156 (fun {H} {locs} hw => ?_)
          replace hw := Wo.cg (mm_pre (μ := μ) (L := [(j6, q18.2.2), (j5, q18.2.1), (j4, q18.1), (j0, a0), (j1, a1), (j2, a2), (j3, a3)]) (L' := [(j4, q18.1)]) hN [2] rfl).symm hw
          refine lv_ineg hx hb dL_one_159 ?_
          refine lv_goto (tgt := 168) hx hb dL_one_160 (by decide) ?_
          exact J_k24 (-v107) h ⟨cle hc1 (Nat.le_of_ble_eq_true rfl), cle hc2 (Nat.le_of_ble_eq_true rfl)⟩ hw (lv_sub hl [2, 3, 4, 5, 6, 7, 8, 9, 10, 11, 12, 1, 0] rfl)
set_option maxHeartbeats 4000000 in
set_option maxRecDepth 10000 in
theorem b_L_one {γ0 : Ev} {μ : Mm} {j0 : Nat} {a0 : Nat → Int32} {j1 : Nat} {a1 : Nat → Int32} {j2 : Nat} {a2 : Nat → Int32} {j3 : Nat} {a3 : Nat → Int32} {r : Int32} {w3 : Nat → Int32} {MC MS cells slots : Nat} (C : Cx p R s m args meth c RL cL_one 15 (some .int) 6 170 γ0) (hA : ∀ q, s.heap.size ≤ q → AK γ0 q) (hR : MC ≤ R.cells ∧ MS ≤ R.slots) (hN : ([j0, j1, j2, j3] : List Nat).Nodup) (hlt : ∀ i ∈ ([j0, j1, j2, j3] : List Nat), i < eN γ0) (hA0 : isA γ0 j0 60) (hA1 : isA γ0 j1 10) (hA2 : isA γ0 j2 11) (hA3 : isA γ0 j3 1) (hcs : cells + (3) ≤ MC ∧ slots + (81) ≤ MS) (h : s_L_one a0 a1 a2 a3 = some (r, w3)) (hw : Wo γ0 (mm μ [(j0, a0), (j1, a1), (j2, a2), (j3, a3)]) s H locs) (hl : lv_has ls 15 [(0, .ref (eA γ0 j0)), (1, .ref (eA γ0 j1)), (2, .ref (eA γ0 j2)), (3, .ref (eA γ0 j3))]) : W p l e R s m args below meth c H locs cells slots (MQ below (Qo γ0 (some (.int r)) (mm μ [(j0, a0), (j1, a1), (j2, a2), (j3, w3)])) args s MC MS (AK γ0)) (F0 m 0 ls []) := by
  have C0 := C
  obtain ⟨hx, hb, hr, hml, hown, hts, hlk, hK0, hd0, hF, hL⟩ := id C
  have hK := hK0
  have hd := hd0
  obtain ⟨hc1, hc2⟩ := hcs
  obtain ⟨hr1, hr2⟩ := hR
  have hR : MC ≤ R.cells ∧ MS ≤ R.slots := ⟨hr1, hr2⟩
  have zz := And.intro (cin hc1 hr1) (cin hc2 hr2)
  unfold s_L_one at h
  refine lv_aload_n hx hb dL_one_0 rfl (lv_at hl 2 rfl) ?_
  refine lv_iconst (v := (4 : Int32)) hx hb dL_one_1 (by decide) ?_
  obtain ⟨v1, hv1, h⟩ := ob h
  refine r_iald hx hb hK hw hA2 (mm_at (i := 2) (f := a2) hN rfl) hv1 dL_one_2 ?_
  refine lv_istore (lv' := [(4, .int v1), (0, .ref (eA γ0 j0)), (1, .ref (eA γ0 j1)), (2, .ref (eA γ0 j2)), (3, .ref (eA γ0 j3))]) hx hb dL_one_3 hl (by decide) rfl (fun ls hl => ?_)
  refine lv_bipush (v := (-2 : Int32)) hx hb dL_one_5 (by decide) ?_
  refine lv_istore (lv' := [(5, .int (-2 : Int32)), (4, .int v1), (0, .ref (eA γ0 j0)), (1, .ref (eA γ0 j1)), (2, .ref (eA γ0 j2)), (3, .ref (eA γ0 j3))]) hx hb dL_one_7 hl (by decide) rfl (fun ls hl => ?_)
  refine lv_iconst (v := (0 : Int32)) hx hb dL_one_9 (by decide) ?_
  refine lv_istore (lv' := [(6, .int (0 : Int32)), (5, .int (-2 : Int32)), (4, .int v1), (0, .ref (eA γ0 j0)), (1, .ref (eA γ0 j1)), (2, .ref (eA γ0 j2)), (3, .ref (eA γ0 j3))]) hx hb dL_one_10 hl (by decide) rfl (fun ls hl => ?_)
  refine lv_bipush (v := (60 : Int32)) hx hb dL_one_12 (by decide) ?_
  refine r_newA (n := 60) hx hb hts hK hd hw hA (by decide) (by decide) (by decide) ⟨csa hc1 (Nat.le_of_ble_eq_true rfl) hr1, csa hc2 (Nat.le_of_ble_eq_true rfl) hr2⟩ dL_one_14 (fun {γa} {H} ga na aa da hw => ?_)
  replace hc1 := cadd 1 2 hc1 (Nat.le_of_ble_eq_true rfl)
  replace hc2 := cadd 60 21 hc2 (Nat.le_of_ble_eq_true rfl)
  have zz := And.intro (cin hc1 hr1) (cin hc2 hr2)
  have hA0a := hA0.sub ga
  have hA1a := hA1.sub ga
  have hA2a := hA2.sub ga
  have hA3a := hA3.sub ga
  have Na : ([eN γ0, j0, j1, j2, j3] : List Nat).Nodup := nd_new hN hlt
  have lta : ∀ i ∈ ([eN γ0, j0, j1, j2, j3] : List Nat), i < eN γa := lt_new hlt na
  have loa : ∀ i ∈ ([eN γ0] : List Nat), eN γ0 ≤ i := all_cons (fun _ h => absurd h List.not_mem_nil) (Nat.le_refl _)
  have C0a := C0.sub ga da
  have Ka := ga.1.hK hK
  have Sa : Sub γ0 γa := ga
  have Ala := ga.1.hA hA
  replace hw : Wo γa (mm μ [((eN γ0), zr), (j0, a0), (j1, a1), (j2, a2), (j3, a3)]) s _ _ := hw
  replace hl : lv_has ls 15 [(6, .int (0 : Int32)), (5, .int (-2 : Int32)), (4, .int v1), (0, .ref (eA γa j0)), (1, .ref (eA γa j1)), (2, .ref (eA γa j2)), (3, .ref (eA γa j3))] := by rw [ga.A (j := j0) (hlt _ (by simp)), ga.A (j := j1) (hlt _ (by simp)), ga.A (j := j2) (hlt _ (by simp)), ga.A (j := j3) (hlt _ (by simp))]; exact hl
  refine lv_astore (lv' := [(7, .ref (eA γa (eN γ0))), (6, .int (0 : Int32)), (5, .int (-2 : Int32)), (4, .int v1), (0, .ref (eA γa j0)), (1, .ref (eA γa j1)), (2, .ref (eA γa j2)), (3, .ref (eA γa j3))]) hx hb dL_one_16 hl (by decide) rfl (fun ls hl => ?_)
  refine lv_bipush (v := (10 : Int32)) hx hb dL_one_18 (by decide) ?_
  refine r_newA (n := 10) hx hb hts Ka da hw Ala (by decide) (by decide) (by decide) ⟨csa hc1 (Nat.le_of_ble_eq_true rfl) hr1, csa hc2 (Nat.le_of_ble_eq_true rfl) hr2⟩ dL_one_20 (fun {γb} {H} gb nb ab db hw => ?_)
  replace hc1 := cadd 1 1 hc1 (Nat.le_of_ble_eq_true rfl)
  replace hc2 := cadd 10 11 hc2 (Nat.le_of_ble_eq_true rfl)
  have zz := And.intro (cin hc1 hr1) (cin hc2 hr2)
  have hA4b := aa.sub gb
  have hA0b := hA0a.sub gb
  have hA1b := hA1a.sub gb
  have hA2b := hA2a.sub gb
  have hA3b := hA3a.sub gb
  have Nb : ([eN γa, (eN γ0), j0, j1, j2, j3] : List Nat).Nodup := nd_new Na lta
  have ltb : ∀ i ∈ ([eN γa, (eN γ0), j0, j1, j2, j3] : List Nat), i < eN γb := lt_new lta nb
  have lob : ∀ i ∈ ([eN γa, (eN γ0)] : List Nat), eN γ0 ≤ i := all_cons loa Sa.2.1
  have C0b := C0a.sub gb db
  have Kb := gb.1.hK Ka
  have Sb : Sub γ0 γb := Sa.tr gb
  have Alb := gb.1.hA Ala
  replace hw : Wo γb (mm μ [((eN γa), zr), ((eN γ0), zr), (j0, a0), (j1, a1), (j2, a2), (j3, a3)]) s _ _ := hw
  replace hl : lv_has ls 15 [(7, .ref (eA γb (eN γ0))), (6, .int (0 : Int32)), (5, .int (-2 : Int32)), (4, .int v1), (0, .ref (eA γb j0)), (1, .ref (eA γb j1)), (2, .ref (eA γb j2)), (3, .ref (eA γb j3))] := by rw [gb.A (j := (eN γ0)) (lta _ (by simp)), gb.A (j := j0) (lta _ (by simp)), gb.A (j := j1) (lta _ (by simp)), gb.A (j := j2) (lta _ (by simp)), gb.A (j := j3) (lta _ (by simp))]; exact hl
  refine lv_astore (lv' := [(8, .ref (eA γb (eN γa))), (7, .ref (eA γb (eN γ0))), (6, .int (0 : Int32)), (5, .int (-2 : Int32)), (4, .int v1), (0, .ref (eA γb j0)), (1, .ref (eA γb j1)), (2, .ref (eA γb j2)), (3, .ref (eA γb j3))]) hx hb dL_one_22 hl (by decide) rfl (fun ls hl => ?_)
  refine lv_bipush (v := (11 : Int32)) hx hb dL_one_24 (by decide) ?_
  refine r_newA (n := 11) hx hb hts Kb db hw Alb (by decide) (by decide) (by decide) ⟨csa hc1 (Nat.le_of_ble_eq_true rfl) hr1, csa hc2 (Nat.le_of_ble_eq_true rfl) hr2⟩ dL_one_26 (fun {γc} {H} gc nc ac dc hw => ?_)
  replace hc1 := cadd 1 0 hc1 (Nat.le_of_ble_eq_true rfl)
  replace hc2 := cadd 11 0 hc2 (Nat.le_of_ble_eq_true rfl)
  have zz := And.intro (cin hc1 hr1) (cin hc2 hr2)
  have hA5c := ab.sub gc
  have hA4c := hA4b.sub gc
  have hA0c := hA0b.sub gc
  have hA1c := hA1b.sub gc
  have hA2c := hA2b.sub gc
  have hA3c := hA3b.sub gc
  have Nc : ([eN γb, (eN γa), (eN γ0), j0, j1, j2, j3] : List Nat).Nodup := nd_new Nb ltb
  have ltc : ∀ i ∈ ([eN γb, (eN γa), (eN γ0), j0, j1, j2, j3] : List Nat), i < eN γc := lt_new ltb nc
  have loc : ∀ i ∈ ([eN γb, (eN γa), (eN γ0)] : List Nat), eN γ0 ≤ i := all_cons lob Sb.2.1
  have C0c := C0b.sub gc dc
  have Kc := gc.1.hK Kb
  have Sc : Sub γ0 γc := Sb.tr gc
  have Alc := gc.1.hA Alb
  replace hw : Wo γc (mm μ [((eN γb), zr), ((eN γa), zr), ((eN γ0), zr), (j0, a0), (j1, a1), (j2, a2), (j3, a3)]) s _ _ := hw
  replace hl : lv_has ls 15 [(8, .ref (eA γc (eN γa))), (7, .ref (eA γc (eN γ0))), (6, .int (0 : Int32)), (5, .int (-2 : Int32)), (4, .int v1), (0, .ref (eA γc j0)), (1, .ref (eA γc j1)), (2, .ref (eA γc j2)), (3, .ref (eA γc j3))] := by rw [gc.A (j := (eN γa)) (ltb _ (by simp)), gc.A (j := (eN γ0)) (ltb _ (by simp)), gc.A (j := j0) (ltb _ (by simp)), gc.A (j := j1) (ltb _ (by simp)), gc.A (j := j2) (ltb _ (by simp)), gc.A (j := j3) (ltb _ (by simp))]; exact hl
  refine lv_astore (lv' := [(9, .ref (eA γc (eN γb))), (8, .ref (eA γc (eN γa))), (7, .ref (eA γc (eN γ0))), (6, .int (0 : Int32)), (5, .int (-2 : Int32)), (4, .int v1), (0, .ref (eA γc j0)), (1, .ref (eA γc j1)), (2, .ref (eA γc j2)), (3, .ref (eA γc j3))]) hx hb dL_one_28 hl (by decide) rfl (fun ls hl => ?_)
  refine lv_aload_n hx hb dL_one_30 rfl (lv_at hl 9 rfl) ?_
  refine lv_iconst (v := (0 : Int32)) hx hb dL_one_31 (by decide) ?_
  refine lv_sipush (v := (-10005 : Int32)) hx hb dL_one_32 (by decide) ?_
  obtain ⟨A2, hA2, h⟩ := ob h
  refine r_astm (L := [((eN γb), zr), ((eN γa), zr), ((eN γ0), zr), (j0, a0), (j1, a1), (j2, a2), (j3, a3)]) (L' := [((eN γb), zr), ((eN γa), zr), ((eN γ0), zr), (j0, a0), (j1, a1), (j2, a2), (j3, A2)]) (i := 6) hx hb Kc dc Nc hw hA3c rfl hA2 rfl dL_one_35 (fun {H} {locs} hw => ?_)
  refine lv_aload_n hx hb dL_one_36 rfl (lv_at hl 6 rfl) ?_
  refine lv_aload_n hx hb dL_one_37 rfl (lv_at hl 7 rfl) ?_
  refine lv_aload_n hx hb dL_one_38 rfl (lv_at hl 8 rfl) ?_
  obtain ⟨v3, hv3, h⟩ := ob h
  refine r_Si (rest := []) C0c zz (c_L_result (μ := mm μ [((eN γb), zr), ((eN γa), zr), ((eN γ0), zr), (j0, a0), (j1, a1), (j2, a2), (j3, A2)]) (nd_sub Nc [3, 4, 5] (by decide) rfl) hA0c hA1c hA2c hv3) lk_L_24 hl.1 rfl (Nat.le_of_ble_eq_true rfl) (by decide) (Wo.cg (mm_pre (μ := μ) (L := [((eN γb), zr), ((eN γa), zr), ((eN γ0), zr), (j0, a0), (j1, a1), (j2, a2), (j3, A2)]) (L' := [(j0, a0), (j1, a1), (j2, a2)]) Nc [3, 4, 5] rfl) hw) dL_one_39 (fun {H} {locs} hw => ?_)
  replace hw := Wo.cg (mm_pre (μ := μ) (L := [((eN γb), zr), ((eN γa), zr), ((eN γ0), zr), (j0, a0), (j1, a1), (j2, a2), (j3, A2)]) (L' := [(j0, a0), (j1, a1), (j2, a2)]) Nc [3, 4, 5] rfl).symm hw
  refine lv_if_le (tgt := 54) hx hb dL_one_42 (by decide) (fun c4 => ?_) (fun c4 => ?_)
  · replace h := ifp c4 h
    refine lv_iconst (v := (0 : Int32)) hx hb dL_one_54 (by decide) ?_
    refine lv_istore (lv' := [(10, .int (0 : Int32)), (9, .ref (eA γc (eN γb))), (8, .ref (eA γc (eN γa))), (7, .ref (eA γc (eN γ0))), (6, .int (0 : Int32)), (5, .int (-2 : Int32)), (4, .int v1), (0, .ref (eA γc j0)), (1, .ref (eA γc j1)), (2, .ref (eA γc j2)), (3, .ref (eA γc j3))]) hx hb dL_one_55 hl (by decide) rfl (fun ls hl => ?_)
    exact b_L_one_L57 C Sc dc Alc hR Nc ltc loc ac hA5c hA4c hA0c hA1c hA2c hA3c 1000 ⟨cle hc1 (Nat.le_of_ble_eq_true rfl), cle hc2 (Nat.le_of_ble_eq_true rfl)⟩ h hw (lv_sub hl [7, 8, 9, 10, 6, 5, 4, 3, 2, 1, 0] rfl)
  · replace h := ifn c4 h
    refine lv_aload_n hx hb dL_one_45 rfl (lv_at hl 6 rfl) ?_
    refine lv_aload_n hx hb dL_one_46 rfl (lv_at hl 7 rfl) ?_
    refine lv_aload_n hx hb dL_one_47 rfl (lv_at hl 8 rfl) ?_
    refine lv_iload hx hb dL_one_48 (lv_at hl 5 rfl) ?_
    obtain ⟨v108, hv108, h⟩ := ob h
    refine r_Si (rest := []) C0c zz (c_L_told (μ := mm μ [((eN γb), zr), ((eN γa), zr), ((eN γ0), zr), (j0, a0), (j1, a1), (j2, a2), (j3, A2)]) (nd_sub Nc [3, 4, 5] (by decide) rfl) hA0c hA1c hA2c hv108) lk_L_41 hl.1 rfl (Nat.le_of_ble_eq_true rfl) (by decide) (Wo.cg (mm_pre (μ := μ) (L := [((eN γb), zr), ((eN γa), zr), ((eN γ0), zr), (j0, a0), (j1, a1), (j2, a2), (j3, A2)]) (L' := [(j0, a0), (j1, a1), (j2, a2)]) Nc [3, 4, 5] rfl) hw) dL_one_50 (fun {H} {locs} hw => ?_)
    replace hw := Wo.cg (mm_pre (μ := μ) (L := [((eN γb), zr), ((eN γa), zr), ((eN γ0), zr), (j0, a0), (j1, a1), (j2, a2), (j3, A2)]) (L' := [(j0, a0), (j1, a1), (j2, a2)]) Nc [3, 4, 5] rfl).symm hw
    obtain ⟨h1, h2⟩ := s2 h
    subst h1
    subst h2
    exact r_iretA hx hb hr hlk Sc hK0 hd0 hw (mm_lo2 (μ := μ) (L := [((eN γb), zr), ((eN γa), zr), ((eN γ0), zr)]) (L' := [(j0, a0), (j1, a1), (j2, a2), (j3, A2)]) loc) ⟨cMC hc1, cMC hc2⟩ dL_one_53
theorem c_L_one {l : Launch} {γ0 : Ev} {μ : Mm} {j0 : Nat} {a0 : Nat → Int32} {j1 : Nat} {a1 : Nat → Int32} {j2 : Nat} {a2 : Nat → Int32} {j3 : Nat} {a3 : Nat → Int32} {r : Int32} {w3 : Nat → Int32} (hN : ([j0, j1, j2, j3] : List Nat).Nodup) (hlt : ∀ i ∈ ([j0, j1, j2, j3] : List Nat), i < eN γ0) (hA0 : isA γ0 j0 60) (hA1 : isA γ0 j1 10) (hA2 : isA γ0 j2 11) (hA3 : isA γ0 j3 1) (h : s_L_one a0 a1 a2 a3 = some (r, w3)) : CtA l yL_one cL_one 15 (some .int) 6 170 3 81 γ0 [.ref (eA γ0 j0), .ref (eA γ0 j1), .ref (eA γ0 j2), .ref (eA γ0 j3)] (mm μ [(j0, a0), (j1, a1), (j2, a2), (j3, a3)]) (some (.int r)) (mm μ [(j0, a0), (j1, a1), (j2, a2), (j3, w3)]) := CtA.of (own := RL) (by decide +kernel) rfl (Nat.le_of_ble_eq_true rfl) (fun hR C hA hw ls hl => b_L_one C hA hR hN hlt hA0 hA1 hA2 hA3 ⟨by omega, by omega⟩ h hw hl)
set_option maxHeartbeats 4000000 in
set_option maxRecDepth 10000 in
theorem b_L_two_L62 {γ0 γ : Ev} {μ : Mm} {j7 : Nat} {j6 : Nat} {j5 : Nat} {j4 : Nat} {j0 : Nat} {j1 : Nat} {j2 : Nat} {j3 : Nat} {r : Int32} {w3 : Nat → Int32} {MC MS : Nat} (C : Cx p R s m args meth c RL cL_two 17 (some .int) 7 204 γ0) (hS : Sub γ0 γ) (hd : dis γ) (hA : ∀ q, s.heap.size ≤ q → AK γ q) (hR : MC ≤ R.cells ∧ MS ≤ R.slots) (hN : ([j7, j6, j5, j4, j0, j1, j2, j3] : List Nat).Nodup) (hlt : ∀ i ∈ ([j7, j6, j5, j4, j0, j1, j2, j3] : List Nat), i < eN γ) (hlo : ∀ i ∈ ([j7, j6, j5, j4] : List Nat), eN γ0 ≤ i) (hA7 : isA γ j7 1) (hA6 : isA γ j6 11) (hA5 : isA γ j5 10) (hA4 : isA γ j4 60) (hA0 : isA γ j0 60) (hA1 : isA γ j1 10) (hA2 : isA γ j2 11) (hA3 : isA γ j3 1) : ∀ (n : Nat) {a7 : Nat → Int32} {a6 : Nat → Int32} {a5 : Nat → Int32} {a4 : Nat → Int32} {a0 : Nat → Int32} {a1 : Nat → Int32} {a2 : Nat → Int32} {a3 : Nat → Int32} {x4 : Int32} {x5 : Int32} {x6 : Int32} {x11 : Int32} {cells slots : Nat} {H : Heap} {locs : List Loc} {ls : Array Slot} (_ : cells + (n * 3 + 0) ≤ MC ∧ slots + (n * 81 + 0) ≤ MS), s_L_two_L62 n a7 a6 a5 a4 a0 a1 a2 a3 x4 x5 x6 x11 = some (r, w3) → Wo γ (mm μ [(j7, a7), (j6, a6), (j5, a5), (j4, a4), (j0, a0), (j1, a1), (j2, a2), (j3, a3)]) s H locs → lv_has ls 17 [(0, .ref (eA γ j0)), (1, .ref (eA γ j1)), (2, .ref (eA γ j2)), (3, .ref (eA γ j3)), (4, .int x4), (5, .int x5), (6, .int x6), (7, .ref (eA γ j4)), (8, .ref (eA γ j5)), (9, .ref (eA γ j6)), (10, .ref (eA γ j7)), (11, .int x11)] → W p l e R s m args below meth c H locs cells slots (MQ below (Qo γ0 (some (.int r)) (mm μ [(j0, a0), (j1, a1), (j2, a2), (j3, w3)])) args s MC MS (AK γ0)) (F0 m 62 ls []) := by
  have C0 := C.sub hS hd
  obtain ⟨hx, hb, hr, hml, hown, hts, hlk, hK0, hd0, hF, hL⟩ := id C
  have hK := hS.1.hK hK0
  obtain ⟨hr1, hr2⟩ := id hR
  intro n
  induction n with
  | zero => intro a7 a6 a5 a4 a0 a1 a2 a3 x4 x5 x6 x11 cells slots H locs ls _ h; cases h
  | succ n ih =>
    intro a7 a6 a5 a4 a0 a1 a2 a3 x4 x5 x6 x11 cells slots H locs ls hcs h hw hl
    obtain ⟨hc1, hc2⟩ := hcs
    replace hc1 : cells + (n * 3 + 3) ≤ MC := chd hc1
    replace hc2 : slots + (n * 81 + 81) ≤ MS := chd hc2
    have zz := And.intro (cin hc1 hr1) (cin hc2 hr2)
    unfold s_L_two_L62 at h
    refine lv_iload hx hb dL_two_62 (lv_at hl 11 rfl) ?_
    refine lv_bipush (v := (84 : Int32)) hx hb dL_two_64 (by decide) ?_
    refine lv_icmp_ge (tgt := 272) hx hb dL_two_66 (by decide) (fun c5 => ?_) (fun c5 => ?_)
    · replace h := ifp c5 h
      refine lv_iload hx hb dL_two_272 (lv_at hl 5 rfl) ?_
      refine lv_iconst (v := (-1 : Int32)) hx hb dL_two_274 (by decide) ?_
      refine lv_icmp_ge (tgt := 282) hx hb dL_two_275 (by decide) (fun c6 => ?_) (fun c6 => ?_)
      · replace h := ifp c6 h
        refine lv_iload hx hb dL_two_282 (lv_at hl 5 rfl) ?_
        obtain ⟨h1, h2⟩ := s2 h
        subst h1
        subst h2
        exact r_iretA hx hb hr hlk hS hK0 hd0 hw (mm_lo2 (μ := μ) (L := [(j7, a7), (j6, a6), (j5, a5), (j4, a4)]) (L' := [(j0, a0), (j1, a1), (j2, a2), (j3, a3)]) hlo) ⟨cMC hc1, cMC hc2⟩ dL_two_284
      · replace h := ifn c6 h
        refine lv_iconst (v := (0 : Int32)) hx hb dL_two_278 (by decide) ?_
        refine lv_goto (tgt := 284) hx hb dL_two_279 (by decide) ?_
        obtain ⟨h1, h2⟩ := s2 h
        subst h1
        subst h2
        exact r_iretA hx hb hr hlk hS hK0 hd0 hw (mm_lo2 (μ := μ) (L := [(j7, a7), (j6, a6), (j5, a5), (j4, a4)]) (L' := [(j0, a0), (j1, a1), (j2, a2), (j3, a3)]) hlo) ⟨cMC hc1, cMC hc2⟩ dL_two_284
    · replace h := ifn c5 h
      refine lv_iload hx hb dL_two_69 (lv_at hl 11 rfl) ?_
      obtain ⟨v7, hv7, h⟩ := ob h
      refine r_Si (rest := []) C0 zz (c_L_order hv7) lk_L_45 hl.1 rfl (Nat.le_of_ble_eq_true rfl) (by decide) hw dL_two_71 (fun {H} {locs} hw => ?_)
      refine lv_istore (lv' := [(12, .int v7), (0, .ref (eA γ j0)), (1, .ref (eA γ j1)), (2, .ref (eA γ j2)), (3, .ref (eA γ j3)), (4, .int x4), (5, .int x5), (6, .int x6), (7, .ref (eA γ j4)), (8, .ref (eA γ j5)), (9, .ref (eA γ j6)), (10, .ref (eA γ j7)), (11, .int x11)]) hx hb dL_two_74 hl (by decide) rfl (fun ls hl => ?_)
      refine lv_aload_n hx hb dL_two_76 rfl (lv_at hl 1 rfl) ?_
      refine lv_aload_n hx hb dL_two_77 rfl (lv_at hl 2 rfl) ?_
      refine lv_aload_n hx hb dL_two_78 rfl (lv_at hl 3 rfl) ?_
      refine lv_iload hx hb dL_two_79 (lv_at hl 0 rfl) ?_
      refine lv_bipush (v := (100 : Int32)) hx hb dL_two_81 (by decide) ?_
      obtain ⟨v8, hv8, h⟩ := ob h
      refine lv_idiv hx hb dL_two_83 (dvi_some hv8).1 ?_
      refine r_top (dvi_some hv8).2 ?_
      refine lv_iload hx hb dL_two_84 (lv_at hl 0 rfl) ?_
      refine lv_bipush (v := (100 : Int32)) hx hb dL_two_86 (by decide) ?_
      obtain ⟨v9, hv9, h⟩ := ob h
      refine lv_irem hx hb dL_two_88 (rmi_some hv9).1 ?_
      refine r_top (rmi_some hv9).2 ?_
      refine lv_bipush (v := (50 : Int32)) hx hb dL_two_89 (by decide) ?_
      refine lv_isub hx hb dL_two_91 ?_
      obtain ⟨v10, hv10, h⟩ := ob h
      refine r_Si (rest := []) C0 zz (c_L_why (μ := mm μ [(j7, a7), (j6, a6), (j5, a5), (j4, a4), (j0, a0), (j1, a1), (j2, a2), (j3, a3)]) (nd_sub hN [4, 5, 6] (by decide) rfl) hA0 hA1 hA2 hv10) lk_L_48 hl.1 rfl (Nat.le_of_ble_eq_true rfl) (by decide) (Wo.cg (mm_pre (μ := μ) (L := [(j7, a7), (j6, a6), (j5, a5), (j4, a4), (j0, a0), (j1, a1), (j2, a2), (j3, a3)]) (L' := [(j0, a0), (j1, a1), (j2, a2)]) hN [4, 5, 6] rfl) hw) dL_two_92 (fun {H} {locs} hw => ?_)
      replace hw := Wo.cg (mm_pre (μ := μ) (L := [(j7, a7), (j6, a6), (j5, a5), (j4, a4), (j0, a0), (j1, a1), (j2, a2), (j3, a3)]) (L' := [(j0, a0), (j1, a1), (j2, a2)]) hN [4, 5, 6] rfl).symm hw
      refine lv_if_ne (tgt := 266) hx hb dL_two_95 (by decide) (fun c11 => ?_) (fun c11 => ?_)
      · replace h := ifn c11 h
        obtain ⟨v12, ev12, h⟩ := jb h
        refine lv_iinc (v := v12) (lv' := [(11, .int v12), (12, .int v7), (0, .ref (eA γ j0)), (1, .ref (eA γ j1)), (2, .ref (eA γ j2)), (3, .ref (eA γ j3)), (4, .int x4), (5, .int x5), (6, .int x6), (7, .ref (eA γ j4)), (8, .ref (eA γ j5)), (9, .ref (eA γ j6)), (10, .ref (eA γ j7))]) hx hb dL_two_266 hl (k := 12) rfl (by rw [← ev12]; rfl) (by decide) rfl (fun ls hl => ?_)
        refine lv_goto (tgt := 62) hx hb dL_two_269 (by decide) ?_
        exact ih ⟨cle hc1 (Nat.add_le_add_left (Nat.le_of_ble_eq_true rfl) _), cle hc2 (Nat.add_le_add_left (Nat.le_of_ble_eq_true rfl) _)⟩ h hw (lv_sub hl [2, 3, 4, 5, 6, 7, 8, 9, 10, 11, 12, 0] rfl)
      · replace h := ifp c11 h
        refine lv_aload_n hx hb dL_two_98 rfl (lv_at hl 1 rfl) ?_
        refine lv_aload hx hb dL_two_99 (lv_at hl 8 rfl) ?_
        obtain ⟨A13, hA13, h⟩ := ob h
        refine r_Sv (rest := []) C0 zz (c_L_copy (μ := mm μ [(j7, a7), (j6, a6), (j5, a5), (j4, a4), (j0, a0), (j1, a1), (j2, a2), (j3, a3)]) (nd_sub hN [4, 3] (by decide) rfl) hA0 hA4 hA13) lk_L_52 hl.1 rfl (Nat.le_of_ble_eq_true rfl) (by decide) (Wo.cg (mm_pre (μ := μ) (L := [(j7, a7), (j6, a6), (j5, a5), (j4, a4), (j0, a0), (j1, a1), (j2, a2), (j3, a3)]) (L' := [(j0, a0), (j4, a4)]) hN [4, 3] rfl) hw) dL_two_101 (fun {H} {locs} hw => ?_)
        replace hw := Wo.cg (mm_post (μ := μ) (L := [(j7, a7), (j6, a6), (j5, a5), (j4, a4), (j0, a0), (j1, a1), (j2, a2), (j3, a3)]) (L' := [(j0, a0), (j4, A13)]) (Ln := [(j7, a7), (j6, a6), (j5, a5), (j4, A13), (j0, a0), (j1, a1), (j2, a2), (j3, a3)]) hN [(4, a0), (3, A13)] rfl rfl rfl) hw
        refine lv_aload_n hx hb dL_two_104 rfl (lv_at hl 2 rfl) ?_
        refine lv_aload hx hb dL_two_105 (lv_at hl 9 rfl) ?_
        obtain ⟨A14, hA14, h⟩ := ob h
        refine r_Sv (rest := []) C0 zz (c_L_copy (μ := mm μ [(j7, a7), (j6, a6), (j5, a5), (j4, A13), (j0, a0), (j1, a1), (j2, a2), (j3, a3)]) (nd_sub hN [5, 2] (by decide) rfl) hA1 hA5 hA14) lk_L_52 hl.1 rfl (Nat.le_of_ble_eq_true rfl) (by decide) (Wo.cg (mm_pre (μ := μ) (L := [(j7, a7), (j6, a6), (j5, a5), (j4, A13), (j0, a0), (j1, a1), (j2, a2), (j3, a3)]) (L' := [(j1, a1), (j5, a5)]) hN [5, 2] rfl) hw) dL_two_107 (fun {H} {locs} hw => ?_)
        replace hw := Wo.cg (mm_post (μ := μ) (L := [(j7, a7), (j6, a6), (j5, a5), (j4, A13), (j0, a0), (j1, a1), (j2, a2), (j3, a3)]) (L' := [(j1, a1), (j5, A14)]) (Ln := [(j7, a7), (j6, a6), (j5, A14), (j4, A13), (j0, a0), (j1, a1), (j2, a2), (j3, a3)]) hN [(5, a1), (2, A14)] rfl rfl rfl) hw
        refine lv_aload_n hx hb dL_two_110 rfl (lv_at hl 3 rfl) ?_
        refine lv_aload hx hb dL_two_111 (lv_at hl 10 rfl) ?_
        obtain ⟨A15, hA15, h⟩ := ob h
        refine r_Sv (rest := []) C0 zz (c_L_copy (μ := mm μ [(j7, a7), (j6, a6), (j5, A14), (j4, A13), (j0, a0), (j1, a1), (j2, a2), (j3, a3)]) (nd_sub hN [6, 1] (by decide) rfl) hA2 hA6 hA15) lk_L_52 hl.1 rfl (Nat.le_of_ble_eq_true rfl) (by decide) (Wo.cg (mm_pre (μ := μ) (L := [(j7, a7), (j6, a6), (j5, A14), (j4, A13), (j0, a0), (j1, a1), (j2, a2), (j3, a3)]) (L' := [(j2, a2), (j6, a6)]) hN [6, 1] rfl) hw) dL_two_113 (fun {H} {locs} hw => ?_)
        replace hw := Wo.cg (mm_post (μ := μ) (L := [(j7, a7), (j6, a6), (j5, A14), (j4, A13), (j0, a0), (j1, a1), (j2, a2), (j3, a3)]) (L' := [(j2, a2), (j6, A15)]) (Ln := [(j7, a7), (j6, A15), (j5, A14), (j4, A13), (j0, a0), (j1, a1), (j2, a2), (j3, a3)]) hN [(6, a2), (1, A15)] rfl rfl rfl) hw
        refine lv_aload hx hb dL_two_116 (lv_at hl 8 rfl) ?_
        refine lv_aload hx hb dL_two_118 (lv_at hl 9 rfl) ?_
        refine lv_aload hx hb dL_two_120 (lv_at hl 10 rfl) ?_
        refine lv_iload hx hb dL_two_122 (lv_at hl 0 rfl) ?_
        refine lv_bipush (v := (100 : Int32)) hx hb dL_two_124 (by decide) ?_
        obtain ⟨v16, hv16, h⟩ := ob h
        refine lv_idiv hx hb dL_two_126 (dvi_some hv16).1 ?_
        refine r_top (dvi_some hv16).2 ?_
        refine lv_iload hx hb dL_two_127 (lv_at hl 0 rfl) ?_
        refine lv_bipush (v := (100 : Int32)) hx hb dL_two_129 (by decide) ?_
        obtain ⟨v17, hv17, h⟩ := ob h
        refine lv_irem hx hb dL_two_131 (rmi_some hv17).1 ?_
        refine r_top (rmi_some hv17).2 ?_
        refine lv_bipush (v := (50 : Int32)) hx hb dL_two_132 (by decide) ?_
        refine lv_isub hx hb dL_two_134 ?_
        obtain ⟨q18, hq18, h⟩ := ob h
        refine r_Sv (rest := []) C0 zz (c_L_move (μ := mm μ [(j7, a7), (j6, A15), (j5, A14), (j4, A13), (j0, a0), (j1, a1), (j2, a2), (j3, a3)]) (nd_sub hN [3, 2, 1] (by decide) rfl) hA4 hA5 hA6 hq18) lk_L_56 hl.1 rfl (Nat.le_of_ble_eq_true rfl) (by decide) (Wo.cg (mm_pre (μ := μ) (L := [(j7, a7), (j6, A15), (j5, A14), (j4, A13), (j0, a0), (j1, a1), (j2, a2), (j3, a3)]) (L' := [(j4, A13), (j5, A14), (j6, A15)]) hN [3, 2, 1] rfl) hw) dL_two_135 (fun {H} {locs} hw => ?_)
        replace hw := Wo.cg (mm_post (μ := μ) (L := [(j7, a7), (j6, A15), (j5, A14), (j4, A13), (j0, a0), (j1, a1), (j2, a2), (j3, a3)]) (L' := [(j4, q18.1), (j5, q18.2.1), (j6, q18.2.2)]) (Ln := [(j7, a7), (j6, q18.2.2), (j5, q18.2.1), (j4, q18.1), (j0, a0), (j1, a1), (j2, a2), (j3, a3)]) hN [(3, q18.1), (2, q18.2.1), (1, q18.2.2)] rfl rfl rfl) hw
        refine lv_aload hx hb dL_two_138 (lv_at hl 8 rfl) ?_
        refine lv_aload hx hb dL_two_140 (lv_at hl 9 rfl) ?_
        refine lv_aload hx hb dL_two_142 (lv_at hl 10 rfl) ?_
        refine lv_aload hx hb dL_two_144 (lv_at hl 11 rfl) ?_
        obtain ⟨q19, hq19, h⟩ := ob h
        refine r_SA (rest := []) C0 hA ⟨csa hc1 (Nat.le_trans (Nat.le_of_ble_eq_true rfl : 3 ≤ 3) (Nat.le_add_left _ _)) hr1, csa hc2 (Nat.le_trans (Nat.le_of_ble_eq_true rfl : 81 ≤ 81) (Nat.le_add_left _ _)) hr2⟩ (c_L_one (μ := mm μ [(j7, a7), (j6, q18.2.2), (j5, q18.2.1), (j4, q18.1), (j0, a0), (j1, a1), (j2, a2), (j3, a3)]) (nd_sub hN [3, 2, 1, 0] (by decide) rfl) (all_sub hlt [3, 2, 1, 0] rfl) hA4 hA5 hA6 hA7 hq19) lk_L_60 hl.1 rfl (Nat.le_of_ble_eq_true rfl) (by decide) (Wo.cg (mm_pre (μ := μ) (L := [(j7, a7), (j6, q18.2.2), (j5, q18.2.1), (j4, q18.1), (j0, a0), (j1, a1), (j2, a2), (j3, a3)]) (L' := [(j4, q18.1), (j5, q18.2.1), (j6, q18.2.2), (j7, a7)]) hN [3, 2, 1, 0] rfl) hw) dL_two_146 (fun {H} {locs} hw => ?_)
        replace hc1 := cadd 3 (n * 3 + 0) hc1 (cmul (Nat.le_of_ble_eq_true rfl))
        replace hc2 := cadd 81 (n * 81 + 0) hc2 (cmul (Nat.le_of_ble_eq_true rfl))
        have zz := And.intro (cin hc1 hr1) (cin hc2 hr2)
        replace hw := Wo.cg (mm_post (μ := μ) (L := [(j7, a7), (j6, q18.2.2), (j5, q18.2.1), (j4, q18.1), (j0, a0), (j1, a1), (j2, a2), (j3, a3)]) (L' := [(j4, q18.1), (j5, q18.2.1), (j6, q18.2.2), (j7, q19.2)]) (Ln := [(j7, q19.2), (j6, q18.2.2), (j5, q18.2.1), (j4, q18.1), (j0, a0), (j1, a1), (j2, a2), (j3, a3)]) hN [(3, q18.1), (2, q18.2.1), (1, q18.2.2), (0, q19.2)] rfl rfl rfl) hw
        obtain ⟨v20, ev20, h⟩ := jb h
        refine r_top ev20 ?_
        refine lv_istore (lv' := [(13, .int v20), (12, .int v7), (0, .ref (eA γ j0)), (1, .ref (eA γ j1)), (2, .ref (eA γ j2)), (3, .ref (eA γ j3)), (4, .int x4), (5, .int x5), (6, .int x6), (7, .ref (eA γ j4)), (8, .ref (eA γ j5)), (9, .ref (eA γ j6)), (10, .ref (eA γ j7)), (11, .int x11)]) hx hb dL_two_149 hl (by decide) rfl (fun ls hl => ?_)
        refine lv_aload hx hb dL_two_151 (lv_at hl 11 rfl) ?_
        refine lv_iconst (v := (4 : Int32)) hx hb dL_two_153 (by decide) ?_
        obtain ⟨v21, hv21, h⟩ := ob h
        refine r_iald hx hb hK hw hA6 (mm_at (i := 1) (f := q18.2.2) hN rfl) hv21 dL_two_154 ?_
        refine lv_iload hx hb dL_two_155 (lv_at hl 6 rfl) ?_
        refine jn_elim h (fun (k : Int32 → Option (Int32 × (Nat → Int32))) => ∀ (v24 : Int32) {cells slots : Nat} {H : Heap} {locs : List Loc} {ls : Array Slot}, k v24 = some (r, w3) → cells + (n * 3 + 0) ≤ MC ∧ slots + (n * 81 + 0) ≤ MS → Wo γ (mm μ [(j7, q19.2), (j6, q18.2.2), (j5, q18.2.1), (j4, q18.1), (j0, a0), (j1, a1), (j2, a2), (j3, a3)]) s H locs → lv_has ls 17 [(0, .ref (eA γ j0)), (1, .ref (eA γ j1)), (2, .ref (eA γ j2)), (3, .ref (eA γ j3)), (4, .int x4), (5, .int x5), (6, .int x6), (7, .ref (eA γ j4)), (8, .ref (eA γ j5)), (9, .ref (eA γ j6)), (10, .ref (eA γ j7)), (11, .int x11), (12, .int v7)] → W p l e R s m args below meth c H locs cells slots (MQ below (Qo γ0 (some (.int r)) (mm μ [(j0, a0), (j1, a1), (j2, a2), (j3, w3)])) args s MC MS (AK γ0)) (F0 m 168 ls [.int v24])) ?_ ?_
        · intro v24 cells slots H locs ls h hcs hw hl
          obtain ⟨hc1, hc2⟩ := hcs
          have zz := And.intro (cin hc1 hr1) (cin hc2 hr2)
          refine lv_istore (lv' := [(14, .int v24), (0, .ref (eA γ j0)), (1, .ref (eA γ j1)), (2, .ref (eA γ j2)), (3, .ref (eA γ j3)), (4, .int x4), (5, .int x5), (6, .int x6), (7, .ref (eA γ j4)), (8, .ref (eA γ j5)), (9, .ref (eA γ j6)), (10, .ref (eA γ j7)), (11, .int x11), (12, .int v7)]) hx hb dL_two_168 hl (by decide) rfl (fun ls hl => ?_)
          refine lv_aload hx hb dL_two_170 (lv_at hl 8 rfl) ?_
          obtain ⟨v25, hv25, h⟩ := ob h
          refine r_Si (rest := []) C0 zz (c_L_turn (μ := mm μ [(j7, q19.2), (j6, q18.2.2), (j5, q18.2.1), (j4, q18.1), (j0, a0), (j1, a1), (j2, a2), (j3, a3)]) (nd_sub hN [3] (by decide) rfl) hA4 hv25) lk_L_16 hl.1 rfl (Nat.le_of_ble_eq_true rfl) (by decide) (Wo.cg (mm_pre (μ := μ) (L := [(j7, q19.2), (j6, q18.2.2), (j5, q18.2.1), (j4, q18.1), (j0, a0), (j1, a1), (j2, a2), (j3, a3)]) (L' := [(j4, q18.1)]) hN [3] rfl) hw) dL_two_172 (fun {H} {locs} hw => ?_)
          replace hw := Wo.cg (mm_pre (μ := μ) (L := [(j7, q19.2), (j6, q18.2.2), (j5, q18.2.1), (j4, q18.1), (j0, a0), (j1, a1), (j2, a2), (j3, a3)]) (L' := [(j4, q18.1)]) hN [3] rfl).symm hw
          refine jn_elim h (fun (k : Int32 → Option (Int32 × (Nat → Int32))) => ∀ (v30 : Int32) {cells slots : Nat} {H : Heap} {locs : List Loc} {ls : Array Slot}, k v30 = some (r, w3) → cells + (n * 3 + 0) ≤ MC ∧ slots + (n * 81 + 0) ≤ MS → Wo γ (mm μ [(j7, q19.2), (j6, q18.2.2), (j5, q18.2.1), (j4, q18.1), (j0, a0), (j1, a1), (j2, a2), (j3, a3)]) s H locs → lv_has ls 17 [(0, .ref (eA γ j0)), (1, .ref (eA γ j1)), (2, .ref (eA γ j2)), (3, .ref (eA γ j3)), (4, .int x4), (5, .int x5), (6, .int x6), (7, .ref (eA γ j4)), (8, .ref (eA γ j5)), (9, .ref (eA γ j6)), (10, .ref (eA γ j7)), (11, .int x11), (12, .int v7), (14, .int v24)] → W p l e R s m args below meth c H locs cells slots (MQ below (Qo γ0 (some (.int r)) (mm μ [(j0, a0), (j1, a1), (j2, a2), (j3, w3)])) args s MC MS (AK γ0)) (F0 m 192 ls [.int v30])) ?_ ?_
          · intro v30 cells slots H locs ls h hcs hw hl
            obtain ⟨hc1, hc2⟩ := hcs
            have zz := And.intro (cin hc1 hr1) (cin hc2 hr2)
            refine lv_istore (lv' := [(15, .int v30), (0, .ref (eA γ j0)), (1, .ref (eA γ j1)), (2, .ref (eA γ j2)), (3, .ref (eA γ j3)), (4, .int x4), (5, .int x5), (6, .int x6), (7, .ref (eA γ j4)), (8, .ref (eA γ j5)), (9, .ref (eA γ j6)), (10, .ref (eA γ j7)), (11, .int x11), (12, .int v7), (14, .int v24)]) hx hb dL_two_192 hl (by decide) rfl (fun ls hl => ?_)
            refine lv_iload hx hb dL_two_194 (lv_at hl 14 rfl) ?_
            refine lv_iload hx hb dL_two_196 (lv_at hl 6 rfl) ?_
            refine jn_elim h (fun (k : Int32 → Option (Int32 × (Nat → Int32))) => ∀ (v32 : Int32) {cells slots : Nat} {H : Heap} {locs : List Loc} {ls : Array Slot}, k v32 = some (r, w3) → cells + (n * 3 + 0) ≤ MC ∧ slots + (n * 81 + 0) ≤ MS → Wo γ (mm μ [(j7, q19.2), (j6, q18.2.2), (j5, q18.2.1), (j4, q18.1), (j0, a0), (j1, a1), (j2, a2), (j3, a3)]) s H locs → lv_has ls 17 [(0, .ref (eA γ j0)), (1, .ref (eA γ j1)), (2, .ref (eA γ j2)), (3, .ref (eA γ j3)), (4, .int x4), (5, .int x5), (6, .int x6), (7, .ref (eA γ j4)), (8, .ref (eA γ j5)), (9, .ref (eA γ j6)), (10, .ref (eA γ j7)), (11, .int x11), (12, .int v7), (14, .int v24), (15, .int v30)] → W p l e R s m args below meth c H locs cells slots (MQ below (Qo γ0 (some (.int r)) (mm μ [(j0, a0), (j1, a1), (j2, a2), (j3, w3)])) args s MC MS (AK γ0)) (F0 m 220 ls [.int v32])) ?_ ?_
            · intro v32 cells slots H locs ls h hcs hw hl
              obtain ⟨hc1, hc2⟩ := hcs
              have zz := And.intro (cin hc1 hr1) (cin hc2 hr2)
              refine lv_istore (lv' := [(16, .int v32), (0, .ref (eA γ j0)), (1, .ref (eA γ j1)), (2, .ref (eA γ j2)), (3, .ref (eA γ j3)), (4, .int x4), (5, .int x5), (6, .int x6), (7, .ref (eA γ j4)), (8, .ref (eA γ j5)), (9, .ref (eA γ j6)), (10, .ref (eA γ j7)), (11, .int x11), (12, .int v7), (14, .int v24), (15, .int v30)]) hx hb dL_two_220 hl (by decide) rfl (fun ls hl => ?_)
              refine lv_iload hx hb dL_two_222 (lv_at hl 0 rfl) ?_
              refine jn_elim h (fun (k : Int32 → Option (Int32 × (Nat → Int32))) => ∀ (v34 : Int32) {cells slots : Nat} {H : Heap} {locs : List Loc} {ls : Array Slot}, k v34 = some (r, w3) → cells + (n * 3 + 0) ≤ MC ∧ slots + (n * 81 + 0) ≤ MS → Wo γ (mm μ [(j7, q19.2), (j6, q18.2.2), (j5, q18.2.1), (j4, q18.1), (j0, a0), (j1, a1), (j2, a2), (j3, a3)]) s H locs → lv_has ls 17 [(0, .ref (eA γ j0)), (1, .ref (eA γ j1)), (2, .ref (eA γ j2)), (3, .ref (eA γ j3)), (4, .int x4), (6, .int x6), (7, .ref (eA γ j4)), (8, .ref (eA γ j5)), (9, .ref (eA γ j6)), (10, .ref (eA γ j7)), (11, .int x11), (12, .int v7), (15, .int v30), (16, .int v32)] → W p l e R s m args below meth c H locs cells slots (MQ below (Qo γ0 (some (.int r)) (mm μ [(j0, a0), (j1, a1), (j2, a2), (j3, w3)])) args s MC MS (AK γ0)) (F0 m 234 ls [.int v34])) ?_ ?_
              · intro v34 cells slots H locs ls h hcs hw hl
                obtain ⟨hc1, hc2⟩ := hcs
                have zz := And.intro (cin hc1 hr1) (cin hc2 hr2)
                refine lv_istore (lv' := [(5, .int v34), (0, .ref (eA γ j0)), (1, .ref (eA γ j1)), (2, .ref (eA γ j2)), (3, .ref (eA γ j3)), (4, .int x4), (6, .int x6), (7, .ref (eA γ j4)), (8, .ref (eA γ j5)), (9, .ref (eA γ j6)), (10, .ref (eA γ j7)), (11, .int x11), (12, .int v7), (15, .int v30), (16, .int v32)]) hx hb dL_two_234 hl (by decide) rfl (fun ls hl => ?_)
                refine lv_iload hx hb dL_two_236 (lv_at hl 14 rfl) ?_
                refine jn_elim h (fun (k : Int32 → Option (Int32 × (Nat → Int32))) => ∀ (v36 : Int32) {cells slots : Nat} {H : Heap} {locs : List Loc} {ls : Array Slot}, k v36 = some (r, w3) → cells + (n * 3 + 0) ≤ MC ∧ slots + (n * 81 + 0) ≤ MS → Wo γ (mm μ [(j7, q19.2), (j6, q18.2.2), (j5, q18.2.1), (j4, q18.1), (j0, a0), (j1, a1), (j2, a2), (j3, a3)]) s H locs → lv_has ls 17 [(0, .ref (eA γ j0)), (1, .ref (eA γ j1)), (2, .ref (eA γ j2)), (3, .ref (eA γ j3)), (4, .int x4), (5, .int v34), (7, .ref (eA γ j4)), (8, .ref (eA γ j5)), (9, .ref (eA γ j6)), (10, .ref (eA γ j7)), (11, .int x11), (12, .int v7), (16, .int v32)] → W p l e R s m args below meth c H locs cells slots (MQ below (Qo γ0 (some (.int r)) (mm μ [(j0, a0), (j1, a1), (j2, a2), (j3, w3)])) args s MC MS (AK γ0)) (F0 m 248 ls [.int v36])) ?_ ?_
                · intro v36 cells slots H locs ls h hcs hw hl
                  obtain ⟨hc1, hc2⟩ := hcs
                  have zz := And.intro (cin hc1 hr1) (cin hc2 hr2)
                  refine lv_istore (lv' := [(6, .int v36), (0, .ref (eA γ j0)), (1, .ref (eA γ j1)), (2, .ref (eA γ j2)), (3, .ref (eA γ j3)), (4, .int x4), (5, .int v34), (7, .ref (eA γ j4)), (8, .ref (eA γ j5)), (9, .ref (eA γ j6)), (10, .ref (eA γ j7)), (11, .int x11), (12, .int v7), (16, .int v32)]) hx hb dL_two_248 hl (by decide) rfl (fun ls hl => ?_)
                  refine lv_aload_n hx hb dL_two_250 rfl (lv_at hl 4 rfl) ?_
                  refine lv_iconst (v := (0 : Int32)) hx hb dL_two_251 (by decide) ?_
                  refine lv_iload hx hb dL_two_252 (lv_at hl 13 rfl) ?_
                  refine lv_if_eq (tgt := 262) hx hb dL_two_254 (by decide) (fun c37 => ?_) (fun c37 => ?_)
                  · replace h := ifp c37 h
                    refine lv_aload_n hx hb dL_two_262 rfl (lv_at hl 4 rfl) ?_
                    refine lv_iconst (v := (0 : Int32)) hx hb dL_two_263 (by decide) ?_
                    obtain ⟨v38, hv38, h⟩ := ob h
                    refine r_iald hx hb hK hw hA3 (mm_at (i := 7) (f := a3) hN rfl) hv38 dL_two_264 ?_
                    obtain ⟨A39, hA39, h⟩ := ob h
                    refine r_astm (L := [(j7, q19.2), (j6, q18.2.2), (j5, q18.2.1), (j4, q18.1), (j0, a0), (j1, a1), (j2, a2), (j3, a3)]) (L' := [(j7, q19.2), (j6, q18.2.2), (j5, q18.2.1), (j4, q18.1), (j0, a0), (j1, a1), (j2, a2), (j3, A39)]) (i := 7) hx hb hK hd hN hw hA3 rfl hA39 rfl dL_two_265 (fun {H} {locs} hw => ?_)
                    obtain ⟨v40, ev40, h⟩ := jb h
                    refine lv_iinc (v := v40) (lv' := [(11, .int v40), (6, .int v36), (0, .ref (eA γ j0)), (1, .ref (eA γ j1)), (2, .ref (eA γ j2)), (3, .ref (eA γ j3)), (4, .int x4), (5, .int v34), (7, .ref (eA γ j4)), (8, .ref (eA γ j5)), (9, .ref (eA γ j6)), (10, .ref (eA γ j7)), (12, .int v7), (16, .int v32)]) hx hb dL_two_266 hl (k := 11) rfl (by rw [← ev40]; rfl) (by decide) rfl (fun ls hl => ?_)
                    refine lv_goto (tgt := 62) hx hb dL_two_269 (by decide) ?_
                    exact ih ⟨cle hc1 (Nat.add_le_add_left (Nat.le_of_ble_eq_true rfl) _), cle hc2 (Nat.add_le_add_left (Nat.le_of_ble_eq_true rfl) _)⟩ h hw (lv_sub hl [2, 3, 4, 5, 6, 7, 1, 8, 9, 10, 11, 0] rfl)
                  · replace h := ifn c37 h
                    refine lv_iload hx hb dL_two_257 (lv_at hl 12 rfl) ?_
                    refine lv_goto (tgt := 265) hx hb dL_two_259 (by decide) ?_
                    obtain ⟨A41, hA41, h⟩ := ob h
                    refine r_astm (L := [(j7, q19.2), (j6, q18.2.2), (j5, q18.2.1), (j4, q18.1), (j0, a0), (j1, a1), (j2, a2), (j3, a3)]) (L' := [(j7, q19.2), (j6, q18.2.2), (j5, q18.2.1), (j4, q18.1), (j0, a0), (j1, a1), (j2, a2), (j3, A41)]) (i := 7) hx hb hK hd hN hw hA3 rfl hA41 rfl dL_two_265 (fun {H} {locs} hw => ?_)
                    obtain ⟨v42, ev42, h⟩ := jb h
                    refine lv_iinc (v := v42) (lv' := [(11, .int v42), (6, .int v36), (0, .ref (eA γ j0)), (1, .ref (eA γ j1)), (2, .ref (eA γ j2)), (3, .ref (eA γ j3)), (4, .int x4), (5, .int v34), (7, .ref (eA γ j4)), (8, .ref (eA γ j5)), (9, .ref (eA γ j6)), (10, .ref (eA γ j7)), (12, .int v7), (16, .int v32)]) hx hb dL_two_266 hl (k := 11) rfl (by rw [← ev42]; rfl) (by decide) rfl (fun ls hl => ?_)
                    refine lv_goto (tgt := 62) hx hb dL_two_269 (by decide) ?_
                    exact ih ⟨cle hc1 (Nat.add_le_add_left (Nat.le_of_ble_eq_true rfl) _), cle hc2 (Nat.add_le_add_left (Nat.le_of_ble_eq_true rfl) _)⟩ h hw (lv_sub hl [2, 3, 4, 5, 6, 7, 1, 8, 9, 10, 11, 0] rfl)
                intro k35 J_k35 h
                refine lv_if_eq (tgt := 246) hx hb dL_two_238 (by decide) (fun c43 => ?_) (fun c43 => ?_)
                · replace h := ifp c43 h
                  refine lv_iload hx hb dL_two_246 (lv_at hl 6 rfl) ?_
                  exact J_k35 x6 h ⟨cle hc1 (Nat.add_le_add_left (Nat.le_of_ble_eq_true rfl) _), cle hc2 (Nat.add_le_add_left (Nat.le_of_ble_eq_true rfl) _)⟩ hw (lv_sub hl [1, 2, 3, 4, 5, 0, 7, 8, 9, 10, 11, 12, 14] rfl)
                · replace h := ifn c43 h
                  refine lv_iload hx hb dL_two_241 (lv_at hl 13 rfl) ?_
                  refine lv_goto (tgt := 248) hx hb dL_two_243 (by decide) ?_
                  exact J_k35 v30 h ⟨cle hc1 (Nat.add_le_add_left (Nat.le_of_ble_eq_true rfl) _), cle hc2 (Nat.add_le_add_left (Nat.le_of_ble_eq_true rfl) _)⟩ hw (lv_sub hl [1, 2, 3, 4, 5, 0, 7, 8, 9, 10, 11, 12, 14] rfl)
              intro k33 J_k33 h
              refine lv_if_eq (tgt := 232) hx hb dL_two_224 (by decide) (fun c44 => ?_) (fun c44 => ?_)
              · replace h := ifp c44 h
                refine lv_iload hx hb dL_two_232 (lv_at hl 6 rfl) ?_
                exact J_k33 x5 h ⟨cle hc1 (Nat.add_le_add_left (Nat.le_of_ble_eq_true rfl) _), cle hc2 (Nat.add_le_add_left (Nat.le_of_ble_eq_true rfl) _)⟩ hw (lv_sub hl [1, 2, 3, 4, 5, 7, 8, 9, 10, 11, 12, 13, 15, 0] rfl)
              · replace h := ifn c44 h
                refine lv_iload hx hb dL_two_227 (lv_at hl 14 rfl) ?_
                refine lv_goto (tgt := 234) hx hb dL_two_229 (by decide) ?_
                exact J_k33 v24 h ⟨cle hc1 (Nat.add_le_add_left (Nat.le_of_ble_eq_true rfl) _), cle hc2 (Nat.add_le_add_left (Nat.le_of_ble_eq_true rfl) _)⟩ hw (lv_sub hl [1, 2, 3, 4, 5, 7, 8, 9, 10, 11, 12, 13, 15, 0] rfl)
            intro k31 J_k31 h
            refine jn_elim h (fun (k : Unit → Option (Int32 × (Nat → Int32))) => ∀ (u : Unit) {cells slots : Nat} {H : Heap} {locs : List Loc} {ls : Array Slot}, k u = some (r, w3) → cells + (n * 3 + 0) ≤ MC ∧ slots + (n * 81 + 0) ≤ MS → Wo γ (mm μ [(j7, q19.2), (j6, q18.2.2), (j5, q18.2.1), (j4, q18.1), (j0, a0), (j1, a1), (j2, a2), (j3, a3)]) s H locs → lv_has ls 17 [(0, .ref (eA γ j0)), (1, .ref (eA γ j1)), (2, .ref (eA γ j2)), (3, .ref (eA γ j3)), (4, .int x4), (5, .int x5), (6, .int x6), (7, .ref (eA γ j4)), (8, .ref (eA γ j5)), (9, .ref (eA γ j6)), (10, .ref (eA γ j7)), (11, .int x11), (12, .int v7), (14, .int v24), (15, .int v30)] → W p l e R s m args below meth c H locs cells slots (MQ below (Qo γ0 (some (.int r)) (mm μ [(j0, a0), (j1, a1), (j2, a2), (j3, w3)])) args s MC MS (AK γ0)) (F0 m 215 ls [])) ?_ ?_
            · intro u cells slots H locs ls h hcs hw hl
              obtain ⟨hc1, hc2⟩ := hcs
              have zz := And.intro (cin hc1 hr1) (cin hc2 hr2)
              refine lv_iconst (v := (1 : Int32)) hx hb dL_two_215 (by decide) ?_
              refine lv_goto (tgt := 220) hx hb dL_two_216 (by decide) ?_
              exact J_k31 (1 : Int32) h ⟨cle hc1 (Nat.add_le_add_left (Nat.le_of_ble_eq_true rfl) _), cle hc2 (Nat.add_le_add_left (Nat.le_of_ble_eq_true rfl) _)⟩ hw (lv_sub hl [0, 1, 2, 3, 4, 5, 6, 7, 8, 9, 10, 11, 12, 13, 14] rfl)
            intro k85 J_k85 h
            refine lv_icmp_gt (tgt := 215) hx hb dL_two_198 (by decide) (fun c86 => ?_) (fun c86 => ?_)
            · replace h := ifp c86 h
              exact J_k85 () h ⟨cle hc1 (Nat.add_le_add_left (Nat.le_of_ble_eq_true rfl) _), cle hc2 (Nat.add_le_add_left (Nat.le_of_ble_eq_true rfl) _)⟩ hw (lv_sub hl [1, 2, 3, 4, 5, 6, 7, 8, 9, 10, 11, 12, 13, 14, 0] rfl)
            · replace h := ifn c86 h
              refine lv_iload hx hb dL_two_201 (lv_at hl 14 rfl) ?_
              refine lv_iload hx hb dL_two_203 (lv_at hl 6 rfl) ?_
              refine jn_elim h (fun (k : Unit → Option (Int32 × (Nat → Int32))) => ∀ (u : Unit) {cells slots : Nat} {H : Heap} {locs : List Loc} {ls : Array Slot}, k u = some (r, w3) → cells + (n * 3 + 0) ≤ MC ∧ slots + (n * 81 + 0) ≤ MS → Wo γ (mm μ [(j7, q19.2), (j6, q18.2.2), (j5, q18.2.1), (j4, q18.1), (j0, a0), (j1, a1), (j2, a2), (j3, a3)]) s H locs → lv_has ls 17 [(0, .ref (eA γ j0)), (1, .ref (eA γ j1)), (2, .ref (eA γ j2)), (3, .ref (eA γ j3)), (4, .int x4), (5, .int x5), (6, .int x6), (7, .ref (eA γ j4)), (8, .ref (eA γ j5)), (9, .ref (eA γ j6)), (10, .ref (eA γ j7)), (11, .int x11), (12, .int v7), (14, .int v24), (15, .int v30)] → W p l e R s m args below meth c H locs cells slots (MQ below (Qo γ0 (some (.int r)) (mm μ [(j0, a0), (j1, a1), (j2, a2), (j3, w3)])) args s MC MS (AK γ0)) (F0 m 219 ls [])) ?_ ?_
              · intro u cells slots H locs ls h hcs hw hl
                obtain ⟨hc1, hc2⟩ := hcs
                have zz := And.intro (cin hc1 hr1) (cin hc2 hr2)
                refine lv_iconst (v := (0 : Int32)) hx hb dL_two_219 (by decide) ?_
                exact J_k31 (0 : Int32) h ⟨cle hc1 (Nat.add_le_add_left (Nat.le_of_ble_eq_true rfl) _), cle hc2 (Nat.add_le_add_left (Nat.le_of_ble_eq_true rfl) _)⟩ hw (lv_sub hl [0, 1, 2, 3, 4, 5, 6, 7, 8, 9, 10, 11, 12, 13, 14] rfl)
              intro k107 J_k107 h
              refine lv_icmp_ne (tgt := 219) hx hb dL_two_205 (by decide) (fun c108 => ?_) (fun c108 => ?_)
              · replace h := ifn c108 h
                exact J_k107 () h ⟨cle hc1 (Nat.add_le_add_left (Nat.le_of_ble_eq_true rfl) _), cle hc2 (Nat.add_le_add_left (Nat.le_of_ble_eq_true rfl) _)⟩ hw (lv_sub hl [1, 2, 3, 4, 5, 6, 7, 8, 9, 10, 11, 12, 13, 14, 0] rfl)
              · replace h := ifp c108 h
                refine lv_iload hx hb dL_two_208 (lv_at hl 0 rfl) ?_
                refine lv_iload hx hb dL_two_210 (lv_at hl 7 rfl) ?_
                refine lv_icmp_ge (tgt := 219) hx hb dL_two_212 (by decide) (fun c109 => ?_) (fun c109 => ?_)
                · replace h := ifp c109 h
                  exact J_k107 () h ⟨cle hc1 (Nat.add_le_add_left (Nat.le_of_ble_eq_true rfl) _), cle hc2 (Nat.add_le_add_left (Nat.le_of_ble_eq_true rfl) _)⟩ hw (lv_sub hl [1, 2, 3, 4, 5, 6, 7, 8, 9, 10, 11, 12, 13, 14, 0] rfl)
                · replace h := ifn c109 h
                  exact J_k85 () h ⟨cle hc1 (Nat.add_le_add_left (Nat.le_of_ble_eq_true rfl) _), cle hc2 (Nat.add_le_add_left (Nat.le_of_ble_eq_true rfl) _)⟩ hw (lv_sub hl [1, 2, 3, 4, 5, 6, 7, 8, 9, 10, 11, 12, 13, 14, 0] rfl)
          intro k29 J_k29 h
          refine lv_if_ge (tgt := 187) hx hb dL_two_175 (by decide) (fun c110 => ?_) (fun c110 => ?_)
          · replace h := ifp c110 h
            refine lv_aload hx hb dL_two_187 (lv_at hl 8 rfl) ?_
            obtain ⟨v111, hv111, h⟩ := ob h
            refine r_Si (rest := []) C0 zz (c_L_turn (μ := mm μ [(j7, q19.2), (j6, q18.2.2), (j5, q18.2.1), (j4, q18.1), (j0, a0), (j1, a1), (j2, a2), (j3, a3)]) (nd_sub hN [3] (by decide) rfl) hA4 hv111) lk_L_16 hl.1 rfl (Nat.le_of_ble_eq_true rfl) (by decide) (Wo.cg (mm_pre (μ := μ) (L := [(j7, q19.2), (j6, q18.2.2), (j5, q18.2.1), (j4, q18.1), (j0, a0), (j1, a1), (j2, a2), (j3, a3)]) (L' := [(j4, q18.1)]) hN [3] rfl) hw) dL_two_189 (fun {H} {locs} hw => ?_)
            replace hw := Wo.cg (mm_pre (μ := μ) (L := [(j7, q19.2), (j6, q18.2.2), (j5, q18.2.1), (j4, q18.1), (j0, a0), (j1, a1), (j2, a2), (j3, a3)]) (L' := [(j4, q18.1)]) hN [3] rfl).symm hw
            exact J_k29 v111 h ⟨cle hc1 (Nat.add_le_add_left (Nat.le_of_ble_eq_true rfl) _), cle hc2 (Nat.add_le_add_left (Nat.le_of_ble_eq_true rfl) _)⟩ hw (lv_sub hl [1, 2, 3, 4, 5, 6, 7, 8, 9, 10, 11, 12, 13, 0] rfl)
          · replace h := ifn c110 h
            refine lv_aload hx hb dL_two_178 (lv_at hl 8 rfl) ?_
            obtain ⟨v112, hv112, h⟩ := ob h
            refine r_Si (rest := []) C0 zz (c_L_turn (μ := mm μ [(j7, q19.2), (j6, q18.2.2), (j5, q18.2.1), (j4, q18.1), (j0, a0), (j1, a1), (j2, a2), (j3, a3)]) (nd_sub hN [3] (by decide) rfl) hA4 hv112) lk_L_16 hl.1 rfl (Nat.le_of_ble_eq_true rfl) (by decide) (Wo.cg (mm_pre (μ := μ) (L := [(j7, q19.2), (j6, q18.2.2), (j5, q18.2.1), (j4, q18.1), (j0, a0), (j1, a1), (j2, a2), (j3, a3)]) (L' := [(j4, q18.1)]) hN [3] rfl) hw) dL_two_180 (fun {H} {locs} hw => ?_)
            replace hw := Wo.cg (mm_pre (μ := μ) (L := [(j7, q19.2), (j6, q18.2.2), (j5, q18.2.1), (j4, q18.1), (j0, a0), (j1, a1), (j2, a2), (j3, a3)]) (L' := [(j4, q18.1)]) hN [3] rfl).symm hw
            refine lv_ineg hx hb dL_two_183 ?_
            refine lv_goto (tgt := 192) hx hb dL_two_184 (by decide) ?_
            exact J_k29 (-v112) h ⟨cle hc1 (Nat.add_le_add_left (Nat.le_of_ble_eq_true rfl) _), cle hc2 (Nat.add_le_add_left (Nat.le_of_ble_eq_true rfl) _)⟩ hw (lv_sub hl [1, 2, 3, 4, 5, 6, 7, 8, 9, 10, 11, 12, 13, 0] rfl)
        intro k23 J_k23 h
        refine lv_icmp_ne (tgt := 165) hx hb dL_two_157 (by decide) (fun c113 => ?_) (fun c113 => ?_)
        · replace h := ifn c113 h
          refine lv_iload hx hb dL_two_165 (lv_at hl 0 rfl) ?_
          refine lv_ineg hx hb dL_two_167 ?_
          exact J_k23 (-v20) h ⟨cle hc1 (Nat.add_le_add_left (Nat.le_of_ble_eq_true rfl) _), cle hc2 (Nat.add_le_add_left (Nat.le_of_ble_eq_true rfl) _)⟩ hw (lv_sub hl [2, 3, 4, 5, 6, 7, 8, 9, 10, 11, 12, 13, 1] rfl)
        · replace h := ifp c113 h
          refine lv_iload hx hb dL_two_160 (lv_at hl 0 rfl) ?_
          refine lv_goto (tgt := 168) hx hb dL_two_162 (by decide) ?_
          exact J_k23 v20 h ⟨cle hc1 (Nat.add_le_add_left (Nat.le_of_ble_eq_true rfl) _), cle hc2 (Nat.add_le_add_left (Nat.le_of_ble_eq_true rfl) _)⟩ hw (lv_sub hl [2, 3, 4, 5, 6, 7, 8, 9, 10, 11, 12, 13, 1] rfl)
set_option maxHeartbeats 4000000 in
set_option maxRecDepth 10000 in
theorem b_L_two {γ0 : Ev} {μ : Mm} {j0 : Nat} {a0 : Nat → Int32} {j1 : Nat} {a1 : Nat → Int32} {j2 : Nat} {a2 : Nat → Int32} {j3 : Nat} {a3 : Nat → Int32} {r : Int32} {w3 : Nat → Int32} {MC MS cells slots : Nat} (C : Cx p R s m args meth c RL cL_two 17 (some .int) 7 204 γ0) (hA : ∀ q, s.heap.size ≤ q → AK γ0 q) (hR : MC ≤ R.cells ∧ MS ≤ R.slots) (hN : ([j0, j1, j2, j3] : List Nat).Nodup) (hlt : ∀ i ∈ ([j0, j1, j2, j3] : List Nat), i < eN γ0) (hA0 : isA γ0 j0 60) (hA1 : isA γ0 j1 10) (hA2 : isA γ0 j2 11) (hA3 : isA γ0 j3 1) (hcs : cells + (3004) ≤ MC ∧ slots + (81082) ≤ MS) (h : s_L_two a0 a1 a2 a3 = some (r, w3)) (hw : Wo γ0 (mm μ [(j0, a0), (j1, a1), (j2, a2), (j3, a3)]) s H locs) (hl : lv_has ls 17 [(0, .ref (eA γ0 j0)), (1, .ref (eA γ0 j1)), (2, .ref (eA γ0 j2)), (3, .ref (eA γ0 j3))]) : W p l e R s m args below meth c H locs cells slots (MQ below (Qo γ0 (some (.int r)) (mm μ [(j0, a0), (j1, a1), (j2, a2), (j3, w3)])) args s MC MS (AK γ0)) (F0 m 0 ls []) := by
  have C0 := C
  obtain ⟨hx, hb, hr, hml, hown, hts, hlk, hK0, hd0, hF, hL⟩ := id C
  have hK := hK0
  have hd := hd0
  obtain ⟨hc1, hc2⟩ := hcs
  obtain ⟨hr1, hr2⟩ := hR
  have hR : MC ≤ R.cells ∧ MS ≤ R.slots := ⟨hr1, hr2⟩
  have zz := And.intro (cin hc1 hr1) (cin hc2 hr2)
  unfold s_L_two at h
  refine lv_aload_n hx hb dL_two_0 rfl (lv_at hl 2 rfl) ?_
  refine lv_iconst (v := (4 : Int32)) hx hb dL_two_1 (by decide) ?_
  obtain ⟨v1, hv1, h⟩ := ob h
  refine r_iald hx hb hK hw hA2 (mm_at (i := 2) (f := a2) hN rfl) hv1 dL_two_2 ?_
  refine lv_istore (lv' := [(4, .int v1), (0, .ref (eA γ0 j0)), (1, .ref (eA γ0 j1)), (2, .ref (eA γ0 j2)), (3, .ref (eA γ0 j3))]) hx hb dL_two_3 hl (by decide) rfl (fun ls hl => ?_)
  refine lv_bipush (v := (-2 : Int32)) hx hb dL_two_5 (by decide) ?_
  refine lv_istore (lv' := [(5, .int (-2 : Int32)), (4, .int v1), (0, .ref (eA γ0 j0)), (1, .ref (eA γ0 j1)), (2, .ref (eA γ0 j2)), (3, .ref (eA γ0 j3))]) hx hb dL_two_7 hl (by decide) rfl (fun ls hl => ?_)
  refine lv_iconst (v := (0 : Int32)) hx hb dL_two_9 (by decide) ?_
  refine lv_istore (lv' := [(6, .int (0 : Int32)), (5, .int (-2 : Int32)), (4, .int v1), (0, .ref (eA γ0 j0)), (1, .ref (eA γ0 j1)), (2, .ref (eA γ0 j2)), (3, .ref (eA γ0 j3))]) hx hb dL_two_10 hl (by decide) rfl (fun ls hl => ?_)
  refine lv_bipush (v := (60 : Int32)) hx hb dL_two_12 (by decide) ?_
  refine r_newA (n := 60) hx hb hts hK hd hw hA (by decide) (by decide) (by decide) ⟨csa hc1 (Nat.le_of_ble_eq_true rfl) hr1, csa hc2 (Nat.le_of_ble_eq_true rfl) hr2⟩ dL_two_14 (fun {γa} {H} ga na aa da hw => ?_)
  replace hc1 := cadd 1 3003 hc1 (Nat.le_of_ble_eq_true rfl)
  replace hc2 := cadd 60 81022 hc2 (Nat.le_of_ble_eq_true rfl)
  have zz := And.intro (cin hc1 hr1) (cin hc2 hr2)
  have hA0a := hA0.sub ga
  have hA1a := hA1.sub ga
  have hA2a := hA2.sub ga
  have hA3a := hA3.sub ga
  have Na : ([eN γ0, j0, j1, j2, j3] : List Nat).Nodup := nd_new hN hlt
  have lta : ∀ i ∈ ([eN γ0, j0, j1, j2, j3] : List Nat), i < eN γa := lt_new hlt na
  have loa : ∀ i ∈ ([eN γ0] : List Nat), eN γ0 ≤ i := all_cons (fun _ h => absurd h List.not_mem_nil) (Nat.le_refl _)
  have C0a := C0.sub ga da
  have Ka := ga.1.hK hK
  have Sa : Sub γ0 γa := ga
  have Ala := ga.1.hA hA
  replace hw : Wo γa (mm μ [((eN γ0), zr), (j0, a0), (j1, a1), (j2, a2), (j3, a3)]) s _ _ := hw
  replace hl : lv_has ls 17 [(6, .int (0 : Int32)), (5, .int (-2 : Int32)), (4, .int v1), (0, .ref (eA γa j0)), (1, .ref (eA γa j1)), (2, .ref (eA γa j2)), (3, .ref (eA γa j3))] := by rw [ga.A (j := j0) (hlt _ (by simp)), ga.A (j := j1) (hlt _ (by simp)), ga.A (j := j2) (hlt _ (by simp)), ga.A (j := j3) (hlt _ (by simp))]; exact hl
  refine lv_astore (lv' := [(7, .ref (eA γa (eN γ0))), (6, .int (0 : Int32)), (5, .int (-2 : Int32)), (4, .int v1), (0, .ref (eA γa j0)), (1, .ref (eA γa j1)), (2, .ref (eA γa j2)), (3, .ref (eA γa j3))]) hx hb dL_two_16 hl (by decide) rfl (fun ls hl => ?_)
  refine lv_bipush (v := (10 : Int32)) hx hb dL_two_18 (by decide) ?_
  refine r_newA (n := 10) hx hb hts Ka da hw Ala (by decide) (by decide) (by decide) ⟨csa hc1 (Nat.le_of_ble_eq_true rfl) hr1, csa hc2 (Nat.le_of_ble_eq_true rfl) hr2⟩ dL_two_20 (fun {γb} {H} gb nb ab db hw => ?_)
  replace hc1 := cadd 1 3002 hc1 (Nat.le_of_ble_eq_true rfl)
  replace hc2 := cadd 10 81012 hc2 (Nat.le_of_ble_eq_true rfl)
  have zz := And.intro (cin hc1 hr1) (cin hc2 hr2)
  have hA4b := aa.sub gb
  have hA0b := hA0a.sub gb
  have hA1b := hA1a.sub gb
  have hA2b := hA2a.sub gb
  have hA3b := hA3a.sub gb
  have Nb : ([eN γa, (eN γ0), j0, j1, j2, j3] : List Nat).Nodup := nd_new Na lta
  have ltb : ∀ i ∈ ([eN γa, (eN γ0), j0, j1, j2, j3] : List Nat), i < eN γb := lt_new lta nb
  have lob : ∀ i ∈ ([eN γa, (eN γ0)] : List Nat), eN γ0 ≤ i := all_cons loa Sa.2.1
  have C0b := C0a.sub gb db
  have Kb := gb.1.hK Ka
  have Sb : Sub γ0 γb := Sa.tr gb
  have Alb := gb.1.hA Ala
  replace hw : Wo γb (mm μ [((eN γa), zr), ((eN γ0), zr), (j0, a0), (j1, a1), (j2, a2), (j3, a3)]) s _ _ := hw
  replace hl : lv_has ls 17 [(7, .ref (eA γb (eN γ0))), (6, .int (0 : Int32)), (5, .int (-2 : Int32)), (4, .int v1), (0, .ref (eA γb j0)), (1, .ref (eA γb j1)), (2, .ref (eA γb j2)), (3, .ref (eA γb j3))] := by rw [gb.A (j := (eN γ0)) (lta _ (by simp)), gb.A (j := j0) (lta _ (by simp)), gb.A (j := j1) (lta _ (by simp)), gb.A (j := j2) (lta _ (by simp)), gb.A (j := j3) (lta _ (by simp))]; exact hl
  refine lv_astore (lv' := [(8, .ref (eA γb (eN γa))), (7, .ref (eA γb (eN γ0))), (6, .int (0 : Int32)), (5, .int (-2 : Int32)), (4, .int v1), (0, .ref (eA γb j0)), (1, .ref (eA γb j1)), (2, .ref (eA γb j2)), (3, .ref (eA γb j3))]) hx hb dL_two_22 hl (by decide) rfl (fun ls hl => ?_)
  refine lv_bipush (v := (11 : Int32)) hx hb dL_two_24 (by decide) ?_
  refine r_newA (n := 11) hx hb hts Kb db hw Alb (by decide) (by decide) (by decide) ⟨csa hc1 (Nat.le_of_ble_eq_true rfl) hr1, csa hc2 (Nat.le_of_ble_eq_true rfl) hr2⟩ dL_two_26 (fun {γc} {H} gc nc ac dc hw => ?_)
  replace hc1 := cadd 1 3001 hc1 (Nat.le_of_ble_eq_true rfl)
  replace hc2 := cadd 11 81001 hc2 (Nat.le_of_ble_eq_true rfl)
  have zz := And.intro (cin hc1 hr1) (cin hc2 hr2)
  have hA5c := ab.sub gc
  have hA4c := hA4b.sub gc
  have hA0c := hA0b.sub gc
  have hA1c := hA1b.sub gc
  have hA2c := hA2b.sub gc
  have hA3c := hA3b.sub gc
  have Nc : ([eN γb, (eN γa), (eN γ0), j0, j1, j2, j3] : List Nat).Nodup := nd_new Nb ltb
  have ltc : ∀ i ∈ ([eN γb, (eN γa), (eN γ0), j0, j1, j2, j3] : List Nat), i < eN γc := lt_new ltb nc
  have loc : ∀ i ∈ ([eN γb, (eN γa), (eN γ0)] : List Nat), eN γ0 ≤ i := all_cons lob Sb.2.1
  have C0c := C0b.sub gc dc
  have Kc := gc.1.hK Kb
  have Sc : Sub γ0 γc := Sb.tr gc
  have Alc := gc.1.hA Alb
  replace hw : Wo γc (mm μ [((eN γb), zr), ((eN γa), zr), ((eN γ0), zr), (j0, a0), (j1, a1), (j2, a2), (j3, a3)]) s _ _ := hw
  replace hl : lv_has ls 17 [(8, .ref (eA γc (eN γa))), (7, .ref (eA γc (eN γ0))), (6, .int (0 : Int32)), (5, .int (-2 : Int32)), (4, .int v1), (0, .ref (eA γc j0)), (1, .ref (eA γc j1)), (2, .ref (eA γc j2)), (3, .ref (eA γc j3))] := by rw [gc.A (j := (eN γa)) (ltb _ (by simp)), gc.A (j := (eN γ0)) (ltb _ (by simp)), gc.A (j := j0) (ltb _ (by simp)), gc.A (j := j1) (ltb _ (by simp)), gc.A (j := j2) (ltb _ (by simp)), gc.A (j := j3) (ltb _ (by simp))]; exact hl
  refine lv_astore (lv' := [(9, .ref (eA γc (eN γb))), (8, .ref (eA γc (eN γa))), (7, .ref (eA γc (eN γ0))), (6, .int (0 : Int32)), (5, .int (-2 : Int32)), (4, .int v1), (0, .ref (eA γc j0)), (1, .ref (eA γc j1)), (2, .ref (eA γc j2)), (3, .ref (eA γc j3))]) hx hb dL_two_28 hl (by decide) rfl (fun ls hl => ?_)
  refine lv_iconst (v := (1 : Int32)) hx hb dL_two_30 (by decide) ?_
  refine r_newA (n := 1) hx hb hts Kc dc hw Alc (by decide) (by decide) (by decide) ⟨csa hc1 (Nat.le_of_ble_eq_true rfl) hr1, csa hc2 (Nat.le_of_ble_eq_true rfl) hr2⟩ dL_two_31 (fun {γd} {H} gd nd ad dd hw => ?_)
  replace hc1 := cadd 1 3000 hc1 (Nat.le_of_ble_eq_true rfl)
  replace hc2 := cadd 1 81000 hc2 (Nat.le_of_ble_eq_true rfl)
  have zz := And.intro (cin hc1 hr1) (cin hc2 hr2)
  have hA6d := ac.sub gd
  have hA5d := hA5c.sub gd
  have hA4d := hA4c.sub gd
  have hA0d := hA0c.sub gd
  have hA1d := hA1c.sub gd
  have hA2d := hA2c.sub gd
  have hA3d := hA3c.sub gd
  have Nd : ([eN γc, (eN γb), (eN γa), (eN γ0), j0, j1, j2, j3] : List Nat).Nodup := nd_new Nc ltc
  have ltd : ∀ i ∈ ([eN γc, (eN γb), (eN γa), (eN γ0), j0, j1, j2, j3] : List Nat), i < eN γd := lt_new ltc nd
  have lod : ∀ i ∈ ([eN γc, (eN γb), (eN γa), (eN γ0)] : List Nat), eN γ0 ≤ i := all_cons loc Sc.2.1
  have C0d := C0c.sub gd dd
  have Kd := gd.1.hK Kc
  have Sd : Sub γ0 γd := Sc.tr gd
  have Ald := gd.1.hA Alc
  replace hw : Wo γd (mm μ [((eN γc), zr), ((eN γb), zr), ((eN γa), zr), ((eN γ0), zr), (j0, a0), (j1, a1), (j2, a2), (j3, a3)]) s _ _ := hw
  replace hl : lv_has ls 17 [(9, .ref (eA γd (eN γb))), (8, .ref (eA γd (eN γa))), (7, .ref (eA γd (eN γ0))), (6, .int (0 : Int32)), (5, .int (-2 : Int32)), (4, .int v1), (0, .ref (eA γd j0)), (1, .ref (eA γd j1)), (2, .ref (eA γd j2)), (3, .ref (eA γd j3))] := by rw [gd.A (j := (eN γb)) (ltc _ (by simp)), gd.A (j := (eN γa)) (ltc _ (by simp)), gd.A (j := (eN γ0)) (ltc _ (by simp)), gd.A (j := j0) (ltc _ (by simp)), gd.A (j := j1) (ltc _ (by simp)), gd.A (j := j2) (ltc _ (by simp)), gd.A (j := j3) (ltc _ (by simp))]; exact hl
  refine lv_astore (lv' := [(10, .ref (eA γd (eN γc))), (9, .ref (eA γd (eN γb))), (8, .ref (eA γd (eN γa))), (7, .ref (eA γd (eN γ0))), (6, .int (0 : Int32)), (5, .int (-2 : Int32)), (4, .int v1), (0, .ref (eA γd j0)), (1, .ref (eA γd j1)), (2, .ref (eA γd j2)), (3, .ref (eA γd j3))]) hx hb dL_two_33 hl (by decide) rfl (fun ls hl => ?_)
  refine lv_aload_n hx hb dL_two_35 rfl (lv_at hl 10 rfl) ?_
  refine lv_iconst (v := (0 : Int32)) hx hb dL_two_36 (by decide) ?_
  refine lv_sipush (v := (-10005 : Int32)) hx hb dL_two_37 (by decide) ?_
  obtain ⟨A2, hA2, h⟩ := ob h
  refine r_astm (L := [((eN γc), zr), ((eN γb), zr), ((eN γa), zr), ((eN γ0), zr), (j0, a0), (j1, a1), (j2, a2), (j3, a3)]) (L' := [((eN γc), zr), ((eN γb), zr), ((eN γa), zr), ((eN γ0), zr), (j0, a0), (j1, a1), (j2, a2), (j3, A2)]) (i := 7) hx hb Kd dd Nd hw hA3d rfl hA2 rfl dL_two_40 (fun {H} {locs} hw => ?_)
  refine lv_aload_n hx hb dL_two_41 rfl (lv_at hl 7 rfl) ?_
  refine lv_aload_n hx hb dL_two_42 rfl (lv_at hl 8 rfl) ?_
  refine lv_aload_n hx hb dL_two_43 rfl (lv_at hl 9 rfl) ?_
  obtain ⟨v3, hv3, h⟩ := ob h
  refine r_Si (rest := []) C0d zz (c_L_result (μ := mm μ [((eN γc), zr), ((eN γb), zr), ((eN γa), zr), ((eN γ0), zr), (j0, a0), (j1, a1), (j2, a2), (j3, A2)]) (nd_sub Nd [4, 5, 6] (by decide) rfl) hA0d hA1d hA2d hv3) lk_L_24 hl.1 rfl (Nat.le_of_ble_eq_true rfl) (by decide) (Wo.cg (mm_pre (μ := μ) (L := [((eN γc), zr), ((eN γb), zr), ((eN γa), zr), ((eN γ0), zr), (j0, a0), (j1, a1), (j2, a2), (j3, A2)]) (L' := [(j0, a0), (j1, a1), (j2, a2)]) Nd [4, 5, 6] rfl) hw) dL_two_44 (fun {H} {locs} hw => ?_)
  replace hw := Wo.cg (mm_pre (μ := μ) (L := [((eN γc), zr), ((eN γb), zr), ((eN γa), zr), ((eN γ0), zr), (j0, a0), (j1, a1), (j2, a2), (j3, A2)]) (L' := [(j0, a0), (j1, a1), (j2, a2)]) Nd [4, 5, 6] rfl).symm hw
  refine lv_if_le (tgt := 59) hx hb dL_two_47 (by decide) (fun c4 => ?_) (fun c4 => ?_)
  · replace h := ifp c4 h
    refine lv_iconst (v := (0 : Int32)) hx hb dL_two_59 (by decide) ?_
    refine lv_istore (lv' := [(11, .int (0 : Int32)), (10, .ref (eA γd (eN γc))), (9, .ref (eA γd (eN γb))), (8, .ref (eA γd (eN γa))), (7, .ref (eA γd (eN γ0))), (6, .int (0 : Int32)), (5, .int (-2 : Int32)), (4, .int v1), (0, .ref (eA γd j0)), (1, .ref (eA γd j1)), (2, .ref (eA γd j2)), (3, .ref (eA γd j3))]) hx hb dL_two_60 hl (by decide) rfl (fun ls hl => ?_)
    exact b_L_two_L62 C Sd dd Ald hR Nd ltd lod ad hA6d hA5d hA4d hA0d hA1d hA2d hA3d 1000 ⟨cle hc1 (Nat.le_of_ble_eq_true rfl), cle hc2 (Nat.le_of_ble_eq_true rfl)⟩ h hw (lv_sub hl [8, 9, 10, 11, 7, 6, 5, 4, 3, 2, 1, 0] rfl)
  · replace h := ifn c4 h
    refine lv_aload_n hx hb dL_two_50 rfl (lv_at hl 7 rfl) ?_
    refine lv_aload_n hx hb dL_two_51 rfl (lv_at hl 8 rfl) ?_
    refine lv_aload_n hx hb dL_two_52 rfl (lv_at hl 9 rfl) ?_
    refine lv_iload hx hb dL_two_53 (lv_at hl 6 rfl) ?_
    obtain ⟨v114, hv114, h⟩ := ob h
    refine r_Si (rest := []) C0d zz (c_L_told (μ := mm μ [((eN γc), zr), ((eN γb), zr), ((eN γa), zr), ((eN γ0), zr), (j0, a0), (j1, a1), (j2, a2), (j3, A2)]) (nd_sub Nd [4, 5, 6] (by decide) rfl) hA0d hA1d hA2d hv114) lk_L_41 hl.1 rfl (Nat.le_of_ble_eq_true rfl) (by decide) (Wo.cg (mm_pre (μ := μ) (L := [((eN γc), zr), ((eN γb), zr), ((eN γa), zr), ((eN γ0), zr), (j0, a0), (j1, a1), (j2, a2), (j3, A2)]) (L' := [(j0, a0), (j1, a1), (j2, a2)]) Nd [4, 5, 6] rfl) hw) dL_two_55 (fun {H} {locs} hw => ?_)
    replace hw := Wo.cg (mm_pre (μ := μ) (L := [((eN γc), zr), ((eN γb), zr), ((eN γa), zr), ((eN γ0), zr), (j0, a0), (j1, a1), (j2, a2), (j3, A2)]) (L' := [(j0, a0), (j1, a1), (j2, a2)]) Nd [4, 5, 6] rfl).symm hw
    obtain ⟨h1, h2⟩ := s2 h
    subst h1
    subst h2
    exact r_iretA hx hb hr hlk Sd hK0 hd0 hw (mm_lo2 (μ := μ) (L := [((eN γc), zr), ((eN γb), zr), ((eN γa), zr), ((eN γ0), zr)]) (L' := [(j0, a0), (j1, a1), (j2, a2), (j3, A2)]) lod) ⟨cMC hc1, cMC hc2⟩ dL_two_58
theorem c_L_two {l : Launch} {γ0 : Ev} {μ : Mm} {j0 : Nat} {a0 : Nat → Int32} {j1 : Nat} {a1 : Nat → Int32} {j2 : Nat} {a2 : Nat → Int32} {j3 : Nat} {a3 : Nat → Int32} {r : Int32} {w3 : Nat → Int32} (hN : ([j0, j1, j2, j3] : List Nat).Nodup) (hlt : ∀ i ∈ ([j0, j1, j2, j3] : List Nat), i < eN γ0) (hA0 : isA γ0 j0 60) (hA1 : isA γ0 j1 10) (hA2 : isA γ0 j2 11) (hA3 : isA γ0 j3 1) (h : s_L_two a0 a1 a2 a3 = some (r, w3)) : CtA l yL_two cL_two 17 (some .int) 7 204 3004 81082 γ0 [.ref (eA γ0 j0), .ref (eA γ0 j1), .ref (eA γ0 j2), .ref (eA γ0 j3)] (mm μ [(j0, a0), (j1, a1), (j2, a2), (j3, a3)]) (some (.int r)) (mm μ [(j0, a0), (j1, a1), (j2, a2), (j3, w3)]) := CtA.of (own := RL) (by decide +kernel) rfl (Nat.le_of_ble_eq_true rfl) (fun hR C hA hw ls hl => b_L_two C hA hR hN hlt hA0 hA1 hA2 hA3 ⟨by omega, by omega⟩ h hw hl)
end
