section
variable {p : Program} {l : Launch} {e : Env} {R : Room} {s : State} {m : MethodId} {args : Array Value} {below : List Frame} {meth : Method} {c : Code} {H : Heap} {locs : List Loc} {ls : Array Slot}
set_option maxHeartbeats 4000000 in
set_option maxRecDepth 10000 in
theorem b_X0_init_L66 {γ : Ev} {o : Nat} {σ : Mm} {Bf : Mm} {cells slots : Nat} {Q : State → Prop} (C : Cx p R s m args meth c RX0 cX0_init 2 none 20 600 γ) (hcs : cells ≤ R.cells ∧ slots ≤ R.slots) (hB : isX0 γ o) (kk : ∀ {H : Heap} {locs : List Loc} {ls : Array Slot}, Wo γ (st 6 σ o Bf) s H locs → W p l e R s m args below meth c H locs cells slots Q (F0 m 103 ls [])) : ∀ (n : Nat) {B : Mm} {x1 : Int32} {H : Heap} {locs : List Loc} {ls : Array Slot}, s_X0_init_L66 n B x1 = some Bf → Wo γ (st 6 σ o B) s H locs → lv_has ls 2 [(0, .ref (eA γ o)), (1, .int x1)] → W p l e R s m args below meth c H locs cells slots Q (F0 m 66 ls []) := by
  have C0 := C
  obtain ⟨hx, hb, hr, hml, hown, hts, hlk, hK, hd, hF, hL⟩ := C
  intro n
  induction n with
  | zero => intro B x1 H locs ls h; cases h
  | succ n ih =>
    intro B x1 H locs ls h hw hl
    unfold s_X0_init_L66 at h
    refine lv_iload_n hx hb dX0_init_66 rfl (lv_at hl 1 rfl) ?_
    refine lv_aload_n hx hb dX0_init_67 rfl (lv_at hl 0 rfl) ?_
    refine r_get (v := .ref (eA γ (o + 3))) hx hb hts hK hw hown inX0 rfl (X0_k0 hB) (st_at0 (by decide)) 2 (by decide) wd_69 rfl dX0_init_68 ?_
    refine r_alen hx hb hK hw (X0_k3 hB) (12 : Int32) (by decide) dX0_init_71 ?_
    refine lv_icmp_ge (tgt := 103) hx hb dX0_init_72 (by decide) (fun c4 => ?_) (fun c4 => ?_)
    · replace h := ifp c4 h
      have h1 := Option.some.inj h
      subst h1
      exact kk hw
    · replace h := ifn c4 h
      refine lv_aload_n hx hb dX0_init_75 rfl (lv_at hl 0 rfl) ?_
      refine r_get (v := .ref (eA γ (o + 3))) hx hb hts hK hw hown inX0 rfl (X0_k0 hB) (st_at0 (by decide)) 2 (by decide) wd_69 rfl dX0_init_76 ?_
      refine lv_iload_n hx hb dX0_init_79 rfl (lv_at hl 1 rfl) ?_
      refine lv_iload_n hx hb dX0_init_80 rfl (lv_at hl 1 rfl) ?_
      refine lv_if_eq (tgt := 90) hx hb dX0_init_81 (by decide) (fun c5 => ?_) (fun c5 => ?_)
      · replace h := ifp c5 h
        refine lv_bipush (v := (10 : Int32)) hx hb dX0_init_90 (by decide) ?_
        refine lv_goto (tgt := 96) hx hb dX0_init_92 (by decide) ?_
        obtain ⟨N6, hN6, h⟩ := ob h
        refine r_iast hx hb hK hd hw (by decide) (X0_k3 hB) hN6 dX0_init_96 (fun {H} {locs} hw => ?_)
        obtain ⟨v7, ev7, h⟩ := jb h
        refine lv_iinc (v := v7) (lv' := [(1, .int v7), (0, .ref (eA γ o))]) hx hb dX0_init_97 hl (k := 1) rfl (by rw [← ev7]; rfl) (by decide) rfl (fun ls hl => ?_)
        refine lv_goto (tgt := 66) hx hb dX0_init_100 (by decide) ?_
        exact ih h hw (lv_sub hl [1, 0] rfl)
      · replace h := ifn c5 h
        refine lv_iload_n hx hb dX0_init_84 rfl (lv_at hl 1 rfl) ?_
        refine lv_bipush (v := (6 : Int32)) hx hb dX0_init_85 (by decide) ?_
        refine lv_icmp_ne (tgt := 95) hx hb dX0_init_87 (by decide) (fun c8 => ?_) (fun c8 => ?_)
        · replace h := ifn c8 h
          refine lv_iconst (v := (2 : Int32)) hx hb dX0_init_95 (by decide) ?_
          obtain ⟨N9, hN9, h⟩ := ob h
          refine r_iast hx hb hK hd hw (by decide) (X0_k3 hB) hN9 dX0_init_96 (fun {H} {locs} hw => ?_)
          obtain ⟨v10, ev10, h⟩ := jb h
          refine lv_iinc (v := v10) (lv' := [(1, .int v10), (0, .ref (eA γ o))]) hx hb dX0_init_97 hl (k := 1) rfl (by rw [← ev10]; rfl) (by decide) rfl (fun ls hl => ?_)
          refine lv_goto (tgt := 66) hx hb dX0_init_100 (by decide) ?_
          exact ih h hw (lv_sub hl [1, 0] rfl)
        · replace h := ifp c8 h
          refine lv_bipush (v := (10 : Int32)) hx hb dX0_init_90 (by decide) ?_
          refine lv_goto (tgt := 96) hx hb dX0_init_92 (by decide) ?_
          obtain ⟨N11, hN11, h⟩ := ob h
          refine r_iast hx hb hK hd hw (by decide) (X0_k3 hB) hN11 dX0_init_96 (fun {H} {locs} hw => ?_)
          obtain ⟨v12, ev12, h⟩ := jb h
          refine lv_iinc (v := v12) (lv' := [(1, .int v12), (0, .ref (eA γ o))]) hx hb dX0_init_97 hl (k := 1) rfl (by rw [← ev12]; rfl) (by decide) rfl (fun ls hl => ?_)
          refine lv_goto (tgt := 66) hx hb dX0_init_100 (by decide) ?_
          exact ih h hw (lv_sub hl [1, 0] rfl)
set_option maxHeartbeats 4000000 in
set_option maxRecDepth 10000 in
theorem b_X0_initT {γ : Ev} {o : Nat} {σ : Mm} {Bf : Mm} {cells slots : Nat} {Q : State → Prop} {B : Mm} (C : Cx p R s m args meth c RX0 cX0_init 2 none 20 600 γ) (hcs : cells ≤ R.cells ∧ slots ≤ R.slots) (hB : isX0 γ o) (h : s_X0_initT B = some Bf) (hw : Wo γ (st 6 σ o B) s H locs) (hl : lv_has ls 2 [(0, .ref (eA γ o))]) (kk : ∀ {H : Heap} {locs : List Loc} {ls : Array Slot}, Wo γ (st 6 σ o Bf) s H locs → W p l e R s m args below meth c H locs cells slots Q (F0 m 103 ls [])) : W p l e R s m args below meth c H locs cells slots Q (F0 m 44 ls []) := by
  have C0 := C
  obtain ⟨hx, hb, hr, hml, hown, hts, hlk, hK, hd, hF, hL⟩ := C
  unfold s_X0_initT at h
  refine lv_aload_n hx hb dX0_init_44 rfl (lv_at hl 0 rfl) ?_
  refine lv_iconst (v := (1 : Int32)) hx hb dX0_init_45 (by decide) ?_
  obtain ⟨N1, hN1, h⟩ := ob h
  refine r_put (x := (1 : Int32)) (ty := .int) hx hb hts hK hd hw hown inX0 tyX0 tyX0_ok nmX0 rfl (by decide) (X0_k0 hB) 6 (by decide) wd_73 rfl rfl rfl rfl (fun _ => (Nat.le_of_ble_eq_true rfl)) (fun _ => rfl) hN1 dX0_init_46 (fun {H} {locs} hw => ?_)
  refine lv_aload_n hx hb dX0_init_49 rfl (lv_at hl 0 rfl) ?_
  refine r_get (v := .ref (eA γ (o + 4))) hx hb hts hK hw hown inX0 rfl (X0_k0 hB) (st_at0 (by decide)) 3 (by decide) wd_70 rfl dX0_init_50 ?_
  refine lv_iconst (v := (0 : Int32)) hx hb dX0_init_53 (by decide) ?_
  refine lv_iconst (v := (2 : Int32)) hx hb dX0_init_54 (by decide) ?_
  obtain ⟨N2, hN2, h⟩ := ob h
  refine r_iast hx hb hK hd hw (by decide) (X0_k4 hB) hN2 dX0_init_55 (fun {H} {locs} hw => ?_)
  refine lv_aload_n hx hb dX0_init_56 rfl (lv_at hl 0 rfl) ?_
  refine r_get (v := .ref (eA γ (o + 4))) hx hb hts hK hw hown inX0 rfl (X0_k0 hB) (st_at0 (by decide)) 3 (by decide) wd_70 rfl dX0_init_57 ?_
  refine lv_iconst (v := (1 : Int32)) hx hb dX0_init_60 (by decide) ?_
  refine lv_bipush (v := (8 : Int32)) hx hb dX0_init_61 (by decide) ?_
  obtain ⟨N3, hN3, h⟩ := ob h
  refine r_iast hx hb hK hd hw (by decide) (X0_k4 hB) hN3 dX0_init_63 (fun {H} {locs} hw => ?_)
  refine lv_iconst (v := (0 : Int32)) hx hb dX0_init_64 (by decide) ?_
  refine lv_istore_n (lv' := [(1, .int (0 : Int32)), (0, .ref (eA γ o))]) hx hb dX0_init_65 rfl hl (by decide) rfl (fun ls hl => ?_)
  exact b_X0_init_L66 C0 hcs hB kk 1000 h hw (lv_sub hl [1, 0] rfl)
set_option maxHeartbeats 4000000 in
set_option maxRecDepth 10000 in
theorem b_X5_init_L116 {γ : Ev} {o : Nat} {σ : Mm} {Bf : Mm} {cells slots : Nat} {Q : State → Prop} (C : Cx p R s m args meth c RX5 cX5_init 2 none 20 600 γ) (hcs : cells ≤ R.cells ∧ slots ≤ R.slots) (hB : isX5 γ o) (kk : ∀ {H : Heap} {locs : List Loc} {ls : Array Slot}, Wo γ (st 10 σ o Bf) s H locs → W p l e R s m args below meth c H locs cells slots Q (F0 m 141 ls [])) : ∀ (n : Nat) {Z : Mm} {x1 : Int32} {H : Heap} {locs : List Loc} {ls : Array Slot}, s_X5_init_L116 n Z x1 = some Bf → Wo γ (st 10 σ o Z) s H locs → lv_has ls 2 [(0, .ref (eA γ o)), (1, .int x1)] → W p l e R s m args below meth c H locs cells slots Q (F0 m 116 ls []) := by
  have C0 := C
  obtain ⟨hx, hb, hr, hml, hown, hts, hlk, hK, hd, hF, hL⟩ := C
  intro n
  induction n with
  | zero => intro Z x1 H locs ls h; cases h
  | succ n ih =>
    intro Z x1 H locs ls h hw hl
    unfold s_X5_init_L116 at h
    refine lv_iload_n hx hb dX5_init_116 rfl (lv_at hl 1 rfl) ?_
    refine lv_bipush (v := (10 : Int32)) hx hb dX5_init_117 (by decide) ?_
    refine lv_icmp_ge (tgt := 141) hx hb dX5_init_119 (by decide) (fun c4 => ?_) (fun c4 => ?_)
    · replace h := ifp c4 h
      have h1 := Option.some.inj h
      subst h1
      exact kk hw
    · replace h := ifn c4 h
      refine lv_aload_n hx hb dX5_init_122 rfl (lv_at hl 0 rfl) ?_
      refine lv_iload_n hx hb dX5_init_123 rfl (lv_at hl 1 rfl) ?_
      refine lv_iconst (v := (5 : Int32)) hx hb dX5_init_124 (by decide) ?_
      obtain ⟨v5, hv5, h⟩ := ob h
      refine lv_idiv hx hb dX5_init_125 (dvi_some hv5).1 ?_
      refine r_top (dvi_some hv5).2 ?_
      refine lv_iload_n hx hb dX5_init_126 rfl (lv_at hl 1 rfl) ?_
      refine lv_iconst (v := (5 : Int32)) hx hb dX5_init_127 (by decide) ?_
      obtain ⟨v6, hv6, h⟩ := ob h
      refine lv_irem hx hb dX5_init_128 (rmi_some hv6).1 ?_
      refine r_top (rmi_some hv6).2 ?_
      refine lv_iconst (v := (1 : Int32)) hx hb dX5_init_129 (by decide) ?_
      refine lv_iadd hx hb dX5_init_130 ?_
      refine lv_iconst (v := (2 : Int32)) hx hb dX5_init_131 (by decide) ?_
      obtain ⟨N7, hN7, h⟩ := ob h
      refine r_Vv (rest := []) C0 hcs (c_X5_addBag hB hN7) lk_X5_45 (X5_k0 hB) rfl rfl hl.1 rfl (Nat.le_of_ble_eq_true rfl) (by decide) hw dX5_init_132 (fun {H} {locs} hw => ?_)
      obtain ⟨v8, ev8, h⟩ := jb h
      refine lv_iinc (v := v8) (lv' := [(1, .int v8), (0, .ref (eA γ o))]) hx hb dX5_init_135 hl (k := 1) rfl (by rw [← ev8]; rfl) (by decide) rfl (fun ls hl => ?_)
      refine lv_goto (tgt := 116) hx hb dX5_init_138 (by decide) ?_
      exact ih h hw (lv_sub hl [1, 0] rfl)
set_option maxHeartbeats 4000000 in
set_option maxRecDepth 10000 in
theorem b_X5_initT {γ : Ev} {o : Nat} {σ : Mm} {Bf : Mm} {cells slots : Nat} {Q : State → Prop} {Z : Mm} (C : Cx p R s m args meth c RX5 cX5_init 2 none 20 600 γ) (hcs : cells ≤ R.cells ∧ slots ≤ R.slots) (hB : isX5 γ o) (h : s_X5_initT Z = some Bf) (hw : Wo γ (st 10 σ o Z) s H locs) (hl : lv_has ls 2 [(0, .ref (eA γ o))]) (kk : ∀ {H : Heap} {locs : List Loc} {ls : Array Slot}, Wo γ (st 10 σ o Bf) s H locs → W p l e R s m args below meth c H locs cells slots Q (F0 m 141 ls [])) : W p l e R s m args below meth c H locs cells slots Q (F0 m 91 ls []) := by
  have C0 := C
  obtain ⟨hx, hb, hr, hml, hown, hts, hlk, hK, hd, hF, hL⟩ := C
  unfold s_X5_initT at h
  refine lv_aload_n hx hb dX5_init_91 rfl (lv_at hl 0 rfl) ?_
  refine r_get (v := .ref (eA γ (o + 1))) hx hb hts hK hw hown inX5 rfl (X5_k0 hB) (st_at0 (by decide)) 0 (by decide) wd_573 rfl dX5_init_92 ?_
  refine lv_iconst (v := (0 : Int32)) hx hb dX5_init_95 (by decide) ?_
  refine lv_iconst (v := (2 : Int32)) hx hb dX5_init_96 (by decide) ?_
  obtain ⟨N1, hN1, h⟩ := ob h
  refine r_iast hx hb hK hd hw (by decide) (X5_k1 hB) hN1 dX5_init_97 (fun {H} {locs} hw => ?_)
  refine lv_aload_n hx hb dX5_init_98 rfl (lv_at hl 0 rfl) ?_
  refine r_get (v := .ref (eA γ (o + 1))) hx hb hts hK hw hown inX5 rfl (X5_k0 hB) (st_at0 (by decide)) 0 (by decide) wd_573 rfl dX5_init_99 ?_
  refine lv_iconst (v := (1 : Int32)) hx hb dX5_init_102 (by decide) ?_
  refine lv_bipush (v := (8 : Int32)) hx hb dX5_init_103 (by decide) ?_
  obtain ⟨N2, hN2, h⟩ := ob h
  refine r_iast hx hb hK hd hw (by decide) (X5_k1 hB) hN2 dX5_init_105 (fun {H} {locs} hw => ?_)
  refine lv_aload_n hx hb dX5_init_106 rfl (lv_at hl 0 rfl) ?_
  refine r_get (v := .ref (eA γ (o + 1))) hx hb hts hK hw hown inX5 rfl (X5_k0 hB) (st_at0 (by decide)) 0 (by decide) wd_573 rfl dX5_init_107 ?_
  refine lv_bipush (v := (10 : Int32)) hx hb dX5_init_110 (by decide) ?_
  refine lv_iconst (v := (1 : Int32)) hx hb dX5_init_112 (by decide) ?_
  obtain ⟨N3, hN3, h⟩ := ob h
  refine r_iast hx hb hK hd hw (by decide) (X5_k1 hB) hN3 dX5_init_113 (fun {H} {locs} hw => ?_)
  refine lv_iconst (v := (0 : Int32)) hx hb dX5_init_114 (by decide) ?_
  refine lv_istore_n (lv' := [(1, .int (0 : Int32)), (0, .ref (eA γ o))]) hx hb dX5_init_115 rfl hl (by decide) rfl (fun ls hl => ?_)
  exact b_X5_init_L116 C0 hcs hB kk 1000 h hw (lv_sub hl [1, 0] rfl)
end
