section
variable {p : Program} {l : Launch} {e : Env} {R : Room} {s : State} {m : MethodId} {args : Array Value} {below : List Frame} {meth : Method} {c : Code} {H : Heap} {locs : List Loc} {ls : Array Slot}
set_option maxHeartbeats 4000000 in
set_option maxRecDepth 10000 in
theorem b_L_law_I831 {γ0 γ : Ev} {σ : Mm} {j6 : Nat} {j5 : Nat} {j4 : Nat} {j3 : Nat} {j2 : Nat} {j1 : Nat} {j0 : Nat} {y14 : Int32} {b0 : Nat → Int32} {cells slots : Nat} {Q : State → Prop} {MC MS : Nat} {b LL : Nat} {xs : Nat → Int32} {T : Nat → Mm} {a6 : Nat → Int32} {a5 : Nat → Int32} {a4 : Nat → Int32} {a3 : Nat → Int32} {a2 : Nat → Int32} {a1 : Nat → Int32} {x9 : Int32} (C : Cx p R s m args meth c RL cL_law 22 (some .boolean) 92 3407 γ0) (hS : Sub γ0 γ) (hd : dis γ) (hA : ∀ q, s.heap.size ≤ q → AK γ q) (hR : MC ≤ R.cells ∧ MS ≤ R.slots) (hN : ([j6, j5, j4, j3, j2, j1, j0] : List Nat).Nodup) (hlt : ∀ i ∈ ([j6, j5, j4, j3, j2, j1, j0] : List Nat), i < eN γ) (hlo : ∀ i ∈ ([j6, j5, j4, j3, j2, j1, j0] : List Nat), eN γ0 ≤ i) (hA6 : isA γ j6 40) (hA5 : isA γ j5 40) (hA4 : isA γ j4 40) (hA3 : isA γ j3 40) (hA2 : isA γ j2 11) (hA1 : isA γ j1 10) (hA0 : isA γ j0 60) (hB : isX4 γ 0) (h49 : 49 ≤ eN γ) (hC : ∀ i ∈ ([j6, j5, j4, j3, j2, j1, j0] : List Nat), 49 ≤ i) (hX : va_X b LL xs s s.heap) (hbl : b < s.heap.size) (hbA : ¬ AK γ0 b) (hcs : cells ≤ R.cells ∧ slots ≤ R.slots) (kk : ∀ {H : Heap} {locs : List Loc} {ls : Array Slot}, Wo γ (mm (stT σ 0 T) [(j6, a6), (j5, a5), (j4, a4), (j3, a3), (j2, a2), (j1, a1), (j0, b0)]) s H locs → lv_has ls 22 [(0, .ref b), (1, .ref (eA γ 0)), (2, .ref (eA γ j0)), (3, .ref (eA γ j1)), (4, .ref (eA γ j2)), (5, .ref (eA γ j3)), (6, .ref (eA γ j4)), (7, .ref (eA γ j5)), (8, .ref (eA γ j6)), (9, .int x9), (14, .int y14)] → W p l e R s m args below meth c H locs cells slots Q (F0 m 869 ls [])) : ∀ (n : Nat) {a0 : Nat → Int32} {x14 : Int32} {x15 : Int32} {H : Heap} {locs : List Loc} {ls : Array Slot}, s_L_law_I831 xs LL n T a6 a5 a4 a3 a2 a1 a0 x9 x14 x15 = some (y14, b0) → Wo γ (mm (stT σ 0 T) [(j6, a6), (j5, a5), (j4, a4), (j3, a3), (j2, a2), (j1, a1), (j0, a0)]) s H locs → lv_has ls 22 [(0, .ref b), (1, .ref (eA γ 0)), (2, .ref (eA γ j0)), (3, .ref (eA γ j1)), (4, .ref (eA γ j2)), (5, .ref (eA γ j3)), (6, .ref (eA γ j4)), (7, .ref (eA γ j5)), (8, .ref (eA γ j6)), (9, .int x9), (14, .int x14), (15, .int x15)] → W p l e R s m args below meth c H locs cells slots Q (F0 m 831 ls []) := by
  have C0 := C.sub hS hd
  obtain ⟨hx, hb, hr, hml, hown, hts, hlk, hK0, hd0, hF, hL⟩ := id C
  have hK := hS.1.hK hK0
  have zz := hcs
  intro n
  induction n with
  | zero => intro a0 x14 x15 H locs ls h; cases h
  | succ n ih =>
    intro a0 x14 x15 H locs ls h hw hl
    unfold s_L_law_I831 at h
    refine lv_iload hx hb dL_law_831 (lv_at hl 11 rfl) ?_
    refine lv_bipush (v := (60 : Int32)) hx hb dL_law_833 (by decide) ?_
    refine lv_icmp_ge (tgt := 869) hx hb dL_law_835 (by decide) (fun c10 => ?_) (fun c10 => ?_)
    · replace h := ifp c10 h
      obtain ⟨h1, h2⟩ := s2 h
      subst h1
      subst h2
      exact kk hw (lv_sub hl [0, 1, 2, 3, 4, 5, 6, 7, 8, 9, 10] rfl)
    · replace h := ifn c10 h
      refine lv_iload hx hb dL_law_838 (lv_at hl 10 rfl) ?_
      refine lv_iload hx hb dL_law_840 (lv_at hl 11 rfl) ?_
      refine lv_bipush (v := (48 : Int32)) hx hb dL_law_842 (by decide) ?_
      refine jn_elim h (fun (k : Int32 → Option (Int32 × (Nat → Int32))) => ∀ (v13 : Int32) {H : Heap} {locs : List Loc} {ls : Array Slot}, k v13 = some (y14, b0) → Wo γ (mm (stT σ 0 T) [(j6, a6), (j5, a5), (j4, a4), (j3, a3), (j2, a2), (j1, a1), (j0, a0)]) s H locs → lv_has ls 22 [(0, .ref b), (1, .ref (eA γ 0)), (2, .ref (eA γ j0)), (3, .ref (eA γ j1)), (4, .ref (eA γ j2)), (5, .ref (eA γ j3)), (6, .ref (eA γ j4)), (7, .ref (eA γ j5)), (8, .ref (eA γ j6)), (9, .int x9), (15, .int x15)] → W p l e R s m args below meth c H locs cells slots Q (F0 m 855 ls [.int v13, .int x14])) ?_ ?_
      · intro v13 H locs ls h hw hl
        refine lv_iadd hx hb dL_law_855 ?_
        obtain ⟨v14, ev14, h⟩ := jb h
        refine r_top ev14 ?_
        refine lv_istore (lv' := [(14, .int v14), (0, .ref b), (1, .ref (eA γ 0)), (2, .ref (eA γ j0)), (3, .ref (eA γ j1)), (4, .ref (eA γ j2)), (5, .ref (eA γ j3)), (6, .ref (eA γ j4)), (7, .ref (eA γ j5)), (8, .ref (eA γ j6)), (9, .int x9), (15, .int x15)]) hx hb dL_law_856 hl (by decide) rfl (fun ls hl => ?_)
        refine lv_aload_n hx hb dL_law_858 rfl (lv_at hl 3 rfl) ?_
        refine lv_iload hx hb dL_law_859 (lv_at hl 11 rfl) ?_
        refine lv_iconst (v := (0 : Int32)) hx hb dL_law_861 (by decide) ?_
        obtain ⟨A15, hA15, h⟩ := ob h
        refine r_astm (L := [(j6, a6), (j5, a5), (j4, a4), (j3, a3), (j2, a2), (j1, a1), (j0, a0)]) (L' := [(j6, a6), (j5, a5), (j4, a4), (j3, a3), (j2, a2), (j1, a1), (j0, A15)]) (i := 6) hx hb hK hd hN hw hA0 rfl hA15 rfl dL_law_862 (fun {H} {locs} hw => ?_)
        obtain ⟨v16, ev16, h⟩ := jb h
        refine lv_iinc (v := v16) (lv' := [(15, .int v16), (14, .int v14), (0, .ref b), (1, .ref (eA γ 0)), (2, .ref (eA γ j0)), (3, .ref (eA γ j1)), (4, .ref (eA γ j2)), (5, .ref (eA γ j3)), (6, .ref (eA γ j4)), (7, .ref (eA γ j5)), (8, .ref (eA γ j6)), (9, .int x9)]) hx hb dL_law_863 hl (k := 11) rfl (by rw [← ev16]; rfl) (by decide) rfl (fun ls hl => ?_)
        refine lv_goto (tgt := 831) hx hb dL_law_866 (by decide) ?_
        exact ih h hw (lv_sub hl [2, 3, 4, 5, 6, 7, 8, 9, 10, 11, 1, 0] rfl)
      intro k12 J_k12 h
      refine lv_icmp_ge (tgt := 851) hx hb dL_law_844 (by decide) (fun c17 => ?_) (fun c17 => ?_)
      · replace h := ifp c17 h
        refine lv_aload_n hx hb dL_law_851 rfl (lv_at hl 2 rfl) ?_
        refine lv_iload hx hb dL_law_852 (lv_at hl 11 rfl) ?_
        obtain ⟨v18, hv18, h⟩ := ob h
        refine r_iald hx hb hK hw hA0 (mm_at (i := 6) (f := a0) hN rfl) hv18 dL_law_854 ?_
        exact J_k12 v18 h hw (lv_sub hl [0, 1, 2, 3, 4, 5, 6, 7, 8, 9, 11] rfl)
      · replace h := ifn c17 h
        refine lv_iconst (v := (0 : Int32)) hx hb dL_law_847 (by decide) ?_
        refine lv_goto (tgt := 855) hx hb dL_law_848 (by decide) ?_
        exact J_k12 (0 : Int32) h hw (lv_sub hl [0, 1, 2, 3, 4, 5, 6, 7, 8, 9, 11] rfl)
set_option maxHeartbeats 4000000 in
set_option maxRecDepth 10000 in
theorem b_L_law_I872 {γ0 γ : Ev} {σ : Mm} {j6 : Nat} {j5 : Nat} {j4 : Nat} {j3 : Nat} {j2 : Nat} {j1 : Nat} {j0 : Nat} {b2 : Nat → Int32} {cells slots : Nat} {Q : State → Prop} {MC MS : Nat} {b LL : Nat} {xs : Nat → Int32} {T : Nat → Mm} {a6 : Nat → Int32} {a5 : Nat → Int32} {a4 : Nat → Int32} {a3 : Nat → Int32} {a1 : Nat → Int32} {a0 : Nat → Int32} {x9 : Int32} {x14 : Int32} (C : Cx p R s m args meth c RL cL_law 22 (some .boolean) 92 3407 γ0) (hS : Sub γ0 γ) (hd : dis γ) (hA : ∀ q, s.heap.size ≤ q → AK γ q) (hR : MC ≤ R.cells ∧ MS ≤ R.slots) (hN : ([j6, j5, j4, j3, j2, j1, j0] : List Nat).Nodup) (hlt : ∀ i ∈ ([j6, j5, j4, j3, j2, j1, j0] : List Nat), i < eN γ) (hlo : ∀ i ∈ ([j6, j5, j4, j3, j2, j1, j0] : List Nat), eN γ0 ≤ i) (hA6 : isA γ j6 40) (hA5 : isA γ j5 40) (hA4 : isA γ j4 40) (hA3 : isA γ j3 40) (hA2 : isA γ j2 11) (hA1 : isA γ j1 10) (hA0 : isA γ j0 60) (hB : isX4 γ 0) (h49 : 49 ≤ eN γ) (hC : ∀ i ∈ ([j6, j5, j4, j3, j2, j1, j0] : List Nat), 49 ≤ i) (hX : va_X b LL xs s s.heap) (hbl : b < s.heap.size) (hbA : ¬ AK γ0 b) (hcs : cells ≤ R.cells ∧ slots ≤ R.slots) (kk : ∀ {H : Heap} {locs : List Loc} {ls : Array Slot}, Wo γ (mm (stT σ 0 T) [(j6, a6), (j5, a5), (j4, a4), (j3, a3), (j2, b2), (j1, a1), (j0, a0)]) s H locs → lv_has ls 22 [(0, .ref b), (1, .ref (eA γ 0)), (2, .ref (eA γ j0)), (3, .ref (eA γ j1)), (4, .ref (eA γ j2)), (5, .ref (eA γ j3)), (6, .ref (eA γ j4)), (7, .ref (eA γ j5)), (8, .ref (eA γ j6)), (9, .int x9), (14, .int x14)] → W p l e R s m args below meth c H locs cells slots Q (F0 m 902 ls [])) : ∀ (n : Nat) {a2 : Nat → Int32} {x15 : Int32} {H : Heap} {locs : List Loc} {ls : Array Slot}, s_L_law_I872 xs LL n T a6 a5 a4 a3 a2 a1 a0 x9 x14 x15 = some b2 → Wo γ (mm (stT σ 0 T) [(j6, a6), (j5, a5), (j4, a4), (j3, a3), (j2, a2), (j1, a1), (j0, a0)]) s H locs → lv_has ls 22 [(0, .ref b), (1, .ref (eA γ 0)), (2, .ref (eA γ j0)), (3, .ref (eA γ j1)), (4, .ref (eA γ j2)), (5, .ref (eA γ j3)), (6, .ref (eA γ j4)), (7, .ref (eA γ j5)), (8, .ref (eA γ j6)), (9, .int x9), (14, .int x14), (15, .int x15)] → W p l e R s m args below meth c H locs cells slots Q (F0 m 872 ls []) := by
  have C0 := C.sub hS hd
  obtain ⟨hx, hb, hr, hml, hown, hts, hlk, hK0, hd0, hF, hL⟩ := id C
  have hK := hS.1.hK hK0
  have zz := hcs
  intro n
  induction n with
  | zero => intro a2 x15 H locs ls h; cases h
  | succ n ih =>
    intro a2 x15 H locs ls h hw hl
    unfold s_L_law_I872 at h
    refine lv_iload hx hb dL_law_872 (lv_at hl 11 rfl) ?_
    refine lv_bipush (v := (11 : Int32)) hx hb dL_law_874 (by decide) ?_
    refine lv_icmp_ge (tgt := 902) hx hb dL_law_876 (by decide) (fun c21 => ?_) (fun c21 => ?_)
    · replace h := ifp c21 h
      have h1 := Option.some.inj h
      subst h1
      exact kk hw (lv_sub hl [0, 1, 2, 3, 4, 5, 6, 7, 8, 9, 10] rfl)
    · replace h := ifn c21 h
      refine lv_aload hx hb dL_law_879 (lv_at hl 4 rfl) ?_
      refine lv_iload hx hb dL_law_881 (lv_at hl 11 rfl) ?_
      refine lv_iload hx hb dL_law_883 (lv_at hl 11 rfl) ?_
      refine lv_bipush (v := (9 : Int32)) hx hb dL_law_885 (by decide) ?_
      refine jn_elim h (fun (k : Int32 → Option ((Nat → Int32))) => ∀ (v23 : Int32) {H : Heap} {locs : List Loc} {ls : Array Slot}, k v23 = some b2 → Wo γ (mm (stT σ 0 T) [(j6, a6), (j5, a5), (j4, a4), (j3, a3), (j2, a2), (j1, a1), (j0, a0)]) s H locs → lv_has ls 22 [(0, .ref b), (1, .ref (eA γ 0)), (2, .ref (eA γ j0)), (3, .ref (eA γ j1)), (4, .ref (eA γ j2)), (5, .ref (eA γ j3)), (6, .ref (eA γ j4)), (7, .ref (eA γ j5)), (8, .ref (eA γ j6)), (9, .int x9), (14, .int x14), (15, .int x15)] → W p l e R s m args below meth c H locs cells slots Q (F0 m 895 ls [.int v23, .int x15, .ref (eA γ j2)])) ?_ ?_
      · intro v23 H locs ls h hw hl
        obtain ⟨A24, hA24, h⟩ := ob h
        refine r_astm (L := [(j6, a6), (j5, a5), (j4, a4), (j3, a3), (j2, a2), (j1, a1), (j0, a0)]) (L' := [(j6, a6), (j5, a5), (j4, a4), (j3, a3), (j2, A24), (j1, a1), (j0, a0)]) (i := 4) hx hb hK hd hN hw hA2 rfl hA24 rfl dL_law_895 (fun {H} {locs} hw => ?_)
        obtain ⟨v25, ev25, h⟩ := jb h
        refine lv_iinc (v := v25) (lv' := [(15, .int v25), (0, .ref b), (1, .ref (eA γ 0)), (2, .ref (eA γ j0)), (3, .ref (eA γ j1)), (4, .ref (eA γ j2)), (5, .ref (eA γ j3)), (6, .ref (eA γ j4)), (7, .ref (eA γ j5)), (8, .ref (eA γ j6)), (9, .int x9), (14, .int x14)]) hx hb dL_law_896 hl (k := 11) rfl (by rw [← ev25]; rfl) (by decide) rfl (fun ls hl => ?_)
        refine lv_goto (tgt := 872) hx hb dL_law_899 (by decide) ?_
        exact ih h hw (lv_sub hl [1, 2, 3, 4, 5, 6, 7, 8, 9, 10, 11, 0] rfl)
      intro k22 J_k22 h
      refine lv_icmp_ne (tgt := 894) hx hb dL_law_887 (by decide) (fun c26 => ?_) (fun c26 => ?_)
      · replace h := ifn c26 h
        refine lv_iconst (v := (0 : Int32)) hx hb dL_law_894 (by decide) ?_
        exact J_k22 (0 : Int32) h hw (lv_sub hl [0, 1, 2, 3, 4, 5, 6, 7, 8, 9, 10, 11] rfl)
      · replace h := ifp c26 h
        refine lv_iconst (v := (1 : Int32)) hx hb dL_law_890 (by decide) ?_
        refine lv_goto (tgt := 895) hx hb dL_law_891 (by decide) ?_
        exact J_k22 (1 : Int32) h hw (lv_sub hl [0, 1, 2, 3, 4, 5, 6, 7, 8, 9, 10, 11] rfl)
set_option maxHeartbeats 4000000 in
set_option maxRecDepth 10000 in
theorem b_L_law_I921 {γ0 γ : Ev} {σ : Mm} {j6 : Nat} {j5 : Nat} {j4 : Nat} {j3 : Nat} {j2 : Nat} {j1 : Nat} {j0 : Nat} {y13 : Int32} {cells slots : Nat} {Q : State → Prop} {MC MS : Nat} {b LL : Nat} {xs : Nat → Int32} {T : Nat → Mm} {a6 : Nat → Int32} {a5 : Nat → Int32} {a4 : Nat → Int32} {a3 : Nat → Int32} {a2 : Nat → Int32} {a1 : Nat → Int32} {a0 : Nat → Int32} {x9 : Int32} (C : Cx p R s m args meth c RL cL_law 22 (some .boolean) 92 3407 γ0) (hS : Sub γ0 γ) (hd : dis γ) (hA : ∀ q, s.heap.size ≤ q → AK γ q) (hR : MC ≤ R.cells ∧ MS ≤ R.slots) (hN : ([j6, j5, j4, j3, j2, j1, j0] : List Nat).Nodup) (hlt : ∀ i ∈ ([j6, j5, j4, j3, j2, j1, j0] : List Nat), i < eN γ) (hlo : ∀ i ∈ ([j6, j5, j4, j3, j2, j1, j0] : List Nat), eN γ0 ≤ i) (hA6 : isA γ j6 40) (hA5 : isA γ j5 40) (hA4 : isA γ j4 40) (hA3 : isA γ j3 40) (hA2 : isA γ j2 11) (hA1 : isA γ j1 10) (hA0 : isA γ j0 60) (hB : isX4 γ 0) (h49 : 49 ≤ eN γ) (hC : ∀ i ∈ ([j6, j5, j4, j3, j2, j1, j0] : List Nat), 49 ≤ i) (hX : va_X b LL xs s s.heap) (hbl : b < s.heap.size) (hbA : ¬ AK γ0 b) (hcs : cells ≤ R.cells ∧ slots ≤ R.slots) (kk : ∀ {H : Heap} {locs : List Loc} {ls : Array Slot}, Wo γ (mm (stT σ 0 T) [(j6, a6), (j5, a5), (j4, a4), (j3, a3), (j2, a2), (j1, a1), (j0, a0)]) s H locs → lv_has ls 22 [(0, .ref b), (1, .ref (eA γ 0)), (2, .ref (eA γ j0)), (3, .ref (eA γ j1)), (4, .ref (eA γ j2)), (5, .ref (eA γ j3)), (6, .ref (eA γ j4)), (7, .ref (eA γ j5)), (8, .ref (eA γ j6)), (9, .int x9), (13, .int y13)] → W p l e R s m args below meth c H locs cells slots Q (F0 m 1096 ls [])) : ∀ (n : Nat) {x13 : Int32} {x14 : Int32} {H : Heap} {locs : List Loc} {ls : Array Slot}, s_L_law_I921 xs LL n T a6 a5 a4 a3 a2 a1 a0 x9 x13 x14 = some y13 → Wo γ (mm (stT σ 0 T) [(j6, a6), (j5, a5), (j4, a4), (j3, a3), (j2, a2), (j1, a1), (j0, a0)]) s H locs → lv_has ls 22 [(0, .ref b), (1, .ref (eA γ 0)), (2, .ref (eA γ j0)), (3, .ref (eA γ j1)), (4, .ref (eA γ j2)), (5, .ref (eA γ j3)), (6, .ref (eA γ j4)), (7, .ref (eA γ j5)), (8, .ref (eA γ j6)), (9, .int x9), (13, .int x13), (14, .int x14)] → W p l e R s m args below meth c H locs cells slots Q (F0 m 921 ls []) := by
  have C0 := C.sub hS hd
  obtain ⟨hx, hb, hr, hml, hown, hts, hlk, hK0, hd0, hF, hL⟩ := id C
  have hK := hS.1.hK hK0
  have zz := hcs
  intro n
  induction n with
  | zero => intro x13 x14 H locs ls h; cases h
  | succ n ih =>
    intro x13 x14 H locs ls h hw hl
    unfold s_L_law_I921 at h
    refine lv_iload hx hb dL_law_921 (lv_at hl 11 rfl) ?_
    refine lv_bipush (v := (41 : Int32)) hx hb dL_law_923 (by decide) ?_
    refine lv_icmp_ge (tgt := 1096) hx hb dL_law_925 (by decide) (fun c634 => ?_) (fun c634 => ?_)
    · replace h := ifp c634 h
      have h1 := Option.some.inj h
      subst h1
      exact kk hw (lv_sub hl [0, 1, 2, 3, 4, 5, 6, 7, 8, 9, 10] rfl)
    · replace h := ifn c634 h
      refine lv_iload hx hb dL_law_928 (lv_at hl 10 rfl) ?_
      refine lv_if_eq (tgt := 1096) hx hb dL_law_930 (by decide) (fun c635 => ?_) (fun c635 => ?_)
      · replace h := ifp c635 h
        have h1 := Option.some.inj h
        subst h1
        exact kk hw (lv_sub hl [0, 1, 2, 3, 4, 5, 6, 7, 8, 9, 10] rfl)
      · replace h := ifn c635 h
        refine lv_aload hx hb dL_law_933 (lv_at hl 4 rfl) ?_
        refine lv_iconst (v := (5 : Int32)) hx hb dL_law_935 (by decide) ?_
        obtain ⟨v636, hv636, h⟩ := ob h
        refine r_iald hx hb hK hw hA2 (mm_at (i := 4) (f := a2) hN rfl) hv636 dL_law_936 ?_
        refine lv_bipush (v := (79 : Int32)) hx hb dL_law_937 (by decide) ?_
        refine lv_iadd hx hb dL_law_939 ?_
        refine lv_iload hx hb dL_law_940 (lv_at hl 11 rfl) ?_
        refine lv_isub hx hb dL_law_942 ?_
        refine lv_bipush (v := (40 : Int32)) hx hb dL_law_943 (by decide) ?_
        obtain ⟨v637, hv637, h⟩ := ob h
        refine lv_irem hx hb dL_law_945 (rmi_some hv637).1 ?_
        refine r_top (rmi_some hv637).2 ?_
        refine lv_istore (lv' := [(15, .int v637), (0, .ref b), (1, .ref (eA γ 0)), (2, .ref (eA γ j0)), (3, .ref (eA γ j1)), (4, .ref (eA γ j2)), (5, .ref (eA γ j3)), (6, .ref (eA γ j4)), (7, .ref (eA γ j5)), (8, .ref (eA γ j6)), (9, .int x9), (13, .int x13), (14, .int x14)]) hx hb dL_law_946 hl (by decide) rfl (fun ls hl => ?_)
        refine lv_iload hx hb dL_law_948 (lv_at hl 12 rfl) ?_
        refine lv_aload hx hb dL_law_950 (lv_at hl 5 rfl) ?_
        refine lv_iconst (v := (5 : Int32)) hx hb dL_law_952 (by decide) ?_
        obtain ⟨v638, hv638, h⟩ := ob h
        refine r_iald hx hb hK hw hA2 (mm_at (i := 4) (f := a2) hN rfl) hv638 dL_law_953 ?_
        refine jn_elim h (fun (k : Int32 → Option (Int32)) => ∀ (v640 : Int32) {H : Heap} {locs : List Loc} {ls : Array Slot}, k v640 = some y13 → Wo γ (mm (stT σ 0 T) [(j6, a6), (j5, a5), (j4, a4), (j3, a3), (j2, a2), (j1, a1), (j0, a0)]) s H locs → lv_has ls 22 [(0, .ref b), (1, .ref (eA γ 0)), (2, .ref (eA γ j0)), (3, .ref (eA γ j1)), (4, .ref (eA γ j2)), (5, .ref (eA γ j3)), (6, .ref (eA γ j4)), (7, .ref (eA γ j5)), (8, .ref (eA γ j6)), (9, .int x9), (14, .int x14), (15, .int v637)] → W p l e R s m args below meth c H locs cells slots Q (F0 m 969 ls [.int v640])) ?_ ?_
        · intro v640 H locs ls h hw hl
          refine lv_istore (lv' := [(16, .int v640), (0, .ref b), (1, .ref (eA γ 0)), (2, .ref (eA γ j0)), (3, .ref (eA γ j1)), (4, .ref (eA γ j2)), (5, .ref (eA γ j3)), (6, .ref (eA γ j4)), (7, .ref (eA γ j5)), (8, .ref (eA γ j6)), (9, .int x9), (14, .int x14), (15, .int v637)]) hx hb dL_law_969 hl (by decide) rfl (fun ls hl => ?_)
          refine lv_aload_n hx hb dL_law_971 rfl (lv_at hl 2 rfl) ?_
          refine lv_iload hx hb dL_law_972 (lv_at hl 11 rfl) ?_
          refine lv_iconst (v := (0 : Int32)) hx hb dL_law_974 (by decide) ?_
          obtain ⟨v641, hv641, h⟩ := ob h
          refine r_Vi (rest := []) C0 zz (c_X4_made (γ := γ) (o := 0) hB hv641) lk_L_119 (X4_k0 hB) rfl rfl hl.1 rfl (Nat.le_of_ble_eq_true rfl) (by decide) (Wo.cg (mmT (σ := σ) (L := [(j6, a6), (j5, a5), (j4, a4), (j3, a3), (j2, a2), (j1, a1), (j0, a0)]) hC) hw) dL_law_975 (fun {H} {locs} hw => ?_)
          replace hw := Wo.cg (mmT (σ := σ) (T := T) (L := [(j6, a6), (j5, a5), (j4, a4), (j3, a3), (j2, a2), (j1, a1), (j0, a0)]) hC).symm hw
          refine lv_iload hx hb dL_law_978 (lv_at hl 0 rfl) ?_
          refine jn_elim h (fun (k : Int32 → Option (Int32)) => ∀ (v644 : Int32) {H : Heap} {locs : List Loc} {ls : Array Slot}, k v644 = some y13 → Wo γ (mm (stT σ 0 T) [(j6, a6), (j5, a5), (j4, a4), (j3, a3), (j2, a2), (j1, a1), (j0, a0)]) s H locs → lv_has ls 22 [(0, .ref b), (1, .ref (eA γ 0)), (2, .ref (eA γ j0)), (3, .ref (eA γ j1)), (4, .ref (eA γ j2)), (5, .ref (eA γ j3)), (6, .ref (eA γ j4)), (7, .ref (eA γ j5)), (8, .ref (eA γ j6)), (9, .int x9), (14, .int x14), (15, .int v637), (16, .int v640)] → W p l e R s m args below meth c H locs cells slots Q (F0 m 994 ls [.int v644, .int v641])) ?_ ?_
          · intro v644 H locs ls h hw hl
            refine jn_elim h (fun (k : Int32 → Option (Int32)) => ∀ (v660 : Int32) {H : Heap} {locs : List Loc} {ls : Array Slot}, k v660 = some y13 → Wo γ (mm (stT σ 0 T) [(j6, a6), (j5, a5), (j4, a4), (j3, a3), (j2, a2), (j1, a1), (j0, a0)]) s H locs → lv_has ls 22 [(0, .ref b), (1, .ref (eA γ 0)), (2, .ref (eA γ j0)), (3, .ref (eA γ j1)), (4, .ref (eA γ j2)), (5, .ref (eA γ j3)), (6, .ref (eA γ j4)), (7, .ref (eA γ j5)), (8, .ref (eA γ j6)), (9, .int x9), (14, .int x14)] → W p l e R s m args below meth c H locs cells slots Q (F0 m 1080 ls [.int v660])) ?_ ?_
            · intro v660 H locs ls h hw hl
              refine lv_istore (lv' := [(13, .int v660), (0, .ref b), (1, .ref (eA γ 0)), (2, .ref (eA γ j0)), (3, .ref (eA γ j1)), (4, .ref (eA γ j2)), (5, .ref (eA γ j3)), (6, .ref (eA γ j4)), (7, .ref (eA γ j5)), (8, .ref (eA γ j6)), (9, .int x9), (14, .int x14)]) hx hb dL_law_1080 hl (by decide) rfl (fun ls hl => ?_)
              refine lv_iload hx hb dL_law_1082 (lv_at hl 11 rfl) ?_
              refine lv_iconst (v := (1 : Int32)) hx hb dL_law_1084 (by decide) ?_
              refine lv_iload hx hb dL_law_1085 (lv_at hl 11 rfl) ?_
              refine lv_iconst (v := (3 : Int32)) hx hb dL_law_1087 (by decide) ?_
              obtain ⟨v661, hv661, h⟩ := ob h
              refine lv_idiv hx hb dL_law_1088 (dvi_some hv661).1 ?_
              refine r_top (dvi_some hv661).2 ?_
              refine lv_iadd hx hb dL_law_1089 ?_
              refine lv_iadd hx hb dL_law_1090 ?_
              obtain ⟨v662, ev662, h⟩ := jb h
              refine r_top ev662 ?_
              refine lv_istore (lv' := [(14, .int v662), (13, .int v660), (0, .ref b), (1, .ref (eA γ 0)), (2, .ref (eA γ j0)), (3, .ref (eA γ j1)), (4, .ref (eA γ j2)), (5, .ref (eA γ j3)), (6, .ref (eA γ j4)), (7, .ref (eA γ j5)), (8, .ref (eA γ j6)), (9, .int x9)]) hx hb dL_law_1091 hl (by decide) rfl (fun ls hl => ?_)
              refine lv_goto (tgt := 921) hx hb dL_law_1093 (by decide) ?_
              exact ih h hw (lv_sub hl [2, 3, 4, 5, 6, 7, 8, 9, 10, 11, 1, 0] rfl)
            intro k659 J_k659 h
            refine jn_elim h (fun (k : Unit → Option (Int32)) => ∀ (u : Unit) {H : Heap} {locs : List Loc} {ls : Array Slot}, k u = some y13 → Wo γ (mm (stT σ 0 T) [(j6, a6), (j5, a5), (j4, a4), (j3, a3), (j2, a2), (j1, a1), (j0, a0)]) s H locs → lv_has ls 22 [(0, .ref b), (1, .ref (eA γ 0)), (2, .ref (eA γ j0)), (3, .ref (eA γ j1)), (4, .ref (eA γ j2)), (5, .ref (eA γ j3)), (6, .ref (eA γ j4)), (7, .ref (eA γ j5)), (8, .ref (eA γ j6)), (9, .int x9), (14, .int x14)] → W p l e R s m args below meth c H locs cells slots Q (F0 m 1079 ls [])) ?_ ?_
            · intro u H locs ls h hw hl
              refine lv_iconst (v := (0 : Int32)) hx hb dL_law_1079 (by decide) ?_
              exact J_k659 (0 : Int32) h hw (lv_sub hl [0, 1, 2, 3, 4, 5, 6, 7, 8, 9, 10] rfl)
            intro k701 J_k701 h
            refine lv_icmp_ne (tgt := 1079) hx hb dL_law_994 (by decide) (fun c702 => ?_) (fun c702 => ?_)
            · replace h := ifn c702 h
              exact J_k701 () h hw (lv_sub hl [0, 1, 2, 3, 4, 5, 6, 7, 8, 9, 10] rfl)
            · replace h := ifp c702 h
              refine lv_aload_n hx hb dL_law_997 rfl (lv_at hl 1 rfl) ?_
              refine lv_iload hx hb dL_law_998 (lv_at hl 10 rfl) ?_
              refine lv_iconst (v := (1 : Int32)) hx hb dL_law_1000 (by decide) ?_
              obtain ⟨v703, hv703, h⟩ := ob h
              refine r_Vi (rest := []) C0 zz (c_X4_made (γ := γ) (o := 0) hB hv703) lk_L_119 (X4_k0 hB) rfl rfl hl.1 rfl (Nat.le_of_ble_eq_true rfl) (by decide) (Wo.cg (mmT (σ := σ) (L := [(j6, a6), (j5, a5), (j4, a4), (j3, a3), (j2, a2), (j1, a1), (j0, a0)]) hC) hw) dL_law_1001 (fun {H} {locs} hw => ?_)
              replace hw := Wo.cg (mmT (σ := σ) (T := T) (L := [(j6, a6), (j5, a5), (j4, a4), (j3, a3), (j2, a2), (j1, a1), (j0, a0)]) hC).symm hw
              refine lv_iload hx hb dL_law_1004 (lv_at hl 12 rfl) ?_
              refine jn_elim h (fun (k : Int32 → Option (Int32)) => ∀ (v706 : Int32) {H : Heap} {locs : List Loc} {ls : Array Slot}, k v706 = some y13 → Wo γ (mm (stT σ 0 T) [(j6, a6), (j5, a5), (j4, a4), (j3, a3), (j2, a2), (j1, a1), (j0, a0)]) s H locs → lv_has ls 22 [(0, .ref b), (1, .ref (eA γ 0)), (2, .ref (eA γ j0)), (3, .ref (eA γ j1)), (4, .ref (eA γ j2)), (5, .ref (eA γ j3)), (6, .ref (eA γ j4)), (7, .ref (eA γ j5)), (8, .ref (eA γ j6)), (9, .int x9), (14, .int x14), (15, .int v637), (16, .int v640)] → W p l e R s m args below meth c H locs cells slots Q (F0 m 1020 ls [.int v706, .int v703])) ?_ ?_
              · intro v706 H locs ls h hw hl
                refine lv_icmp_ne (tgt := 1079) hx hb dL_law_1020 (by decide) (fun c707 => ?_) (fun c707 => ?_)
                · replace h := ifn c707 h
                  exact J_k701 () h hw (lv_sub hl [0, 1, 2, 3, 4, 5, 6, 7, 8, 9, 10] rfl)
                · replace h := ifp c707 h
                  refine lv_aload_n hx hb dL_law_1023 rfl (lv_at hl 1 rfl) ?_
                  refine lv_iload hx hb dL_law_1024 (lv_at hl 10 rfl) ?_
                  refine lv_iconst (v := (2 : Int32)) hx hb dL_law_1026 (by decide) ?_
                  obtain ⟨v708, hv708, h⟩ := ob h
                  refine r_Vi (rest := []) C0 zz (c_X4_made (γ := γ) (o := 0) hB hv708) lk_L_119 (X4_k0 hB) rfl rfl hl.1 rfl (Nat.le_of_ble_eq_true rfl) (by decide) (Wo.cg (mmT (σ := σ) (L := [(j6, a6), (j5, a5), (j4, a4), (j3, a3), (j2, a2), (j1, a1), (j0, a0)]) hC) hw) dL_law_1027 (fun {H} {locs} hw => ?_)
                  replace hw := Wo.cg (mmT (σ := σ) (T := T) (L := [(j6, a6), (j5, a5), (j4, a4), (j3, a3), (j2, a2), (j1, a1), (j0, a0)]) hC).symm hw
                  refine lv_iload hx hb dL_law_1030 (lv_at hl 12 rfl) ?_
                  refine jn_elim h (fun (k : Int32 → Option (Int32)) => ∀ (v711 : Int32) {H : Heap} {locs : List Loc} {ls : Array Slot}, k v711 = some y13 → Wo γ (mm (stT σ 0 T) [(j6, a6), (j5, a5), (j4, a4), (j3, a3), (j2, a2), (j1, a1), (j0, a0)]) s H locs → lv_has ls 22 [(0, .ref b), (1, .ref (eA γ 0)), (2, .ref (eA γ j0)), (3, .ref (eA γ j1)), (4, .ref (eA γ j2)), (5, .ref (eA γ j3)), (6, .ref (eA γ j4)), (7, .ref (eA γ j5)), (8, .ref (eA γ j6)), (9, .int x9), (14, .int x14), (15, .int v637), (16, .int v640)] → W p l e R s m args below meth c H locs cells slots Q (F0 m 1046 ls [.int v711, .int v708])) ?_ ?_
                  · intro v711 H locs ls h hw hl
                    refine lv_icmp_ne (tgt := 1079) hx hb dL_law_1046 (by decide) (fun c712 => ?_) (fun c712 => ?_)
                    · replace h := ifn c712 h
                      exact J_k701 () h hw (lv_sub hl [0, 1, 2, 3, 4, 5, 6, 7, 8, 9, 10] rfl)
                    · replace h := ifp c712 h
                      refine lv_aload_n hx hb dL_law_1049 rfl (lv_at hl 1 rfl) ?_
                      refine lv_iload hx hb dL_law_1050 (lv_at hl 10 rfl) ?_
                      refine lv_iconst (v := (3 : Int32)) hx hb dL_law_1052 (by decide) ?_
                      obtain ⟨v713, hv713, h⟩ := ob h
                      refine r_Vi (rest := []) C0 zz (c_X4_made (γ := γ) (o := 0) hB hv713) lk_L_119 (X4_k0 hB) rfl rfl hl.1 rfl (Nat.le_of_ble_eq_true rfl) (by decide) (Wo.cg (mmT (σ := σ) (L := [(j6, a6), (j5, a5), (j4, a4), (j3, a3), (j2, a2), (j1, a1), (j0, a0)]) hC) hw) dL_law_1053 (fun {H} {locs} hw => ?_)
                      replace hw := Wo.cg (mmT (σ := σ) (T := T) (L := [(j6, a6), (j5, a5), (j4, a4), (j3, a3), (j2, a2), (j1, a1), (j0, a0)]) hC).symm hw
                      refine lv_iload hx hb dL_law_1056 (lv_at hl 12 rfl) ?_
                      refine jn_elim h (fun (k : Int32 → Option (Int32)) => ∀ (v716 : Int32) {H : Heap} {locs : List Loc} {ls : Array Slot}, k v716 = some y13 → Wo γ (mm (stT σ 0 T) [(j6, a6), (j5, a5), (j4, a4), (j3, a3), (j2, a2), (j1, a1), (j0, a0)]) s H locs → lv_has ls 22 [(0, .ref b), (1, .ref (eA γ 0)), (2, .ref (eA γ j0)), (3, .ref (eA γ j1)), (4, .ref (eA γ j2)), (5, .ref (eA γ j3)), (6, .ref (eA γ j4)), (7, .ref (eA γ j5)), (8, .ref (eA γ j6)), (9, .int x9), (14, .int x14)] → W p l e R s m args below meth c H locs cells slots Q (F0 m 1072 ls [.int v716, .int v713])) ?_ ?_
                      · intro v716 H locs ls h hw hl
                        refine lv_icmp_ne (tgt := 1079) hx hb dL_law_1072 (by decide) (fun c717 => ?_) (fun c717 => ?_)
                        · replace h := ifn c717 h
                          exact J_k701 () h hw (lv_sub hl [0, 1, 2, 3, 4, 5, 6, 7, 8, 9, 10] rfl)
                        · replace h := ifp c717 h
                          refine lv_iconst (v := (1 : Int32)) hx hb dL_law_1075 (by decide) ?_
                          refine lv_goto (tgt := 1080) hx hb dL_law_1076 (by decide) ?_
                          exact J_k659 (1 : Int32) h hw (lv_sub hl [0, 1, 2, 3, 4, 5, 6, 7, 8, 9, 10] rfl)
                      intro k715 J_k715 h
                      refine lv_if_eq (tgt := 1067) hx hb dL_law_1058 (by decide) (fun c718 => ?_) (fun c718 => ?_)
                      · replace h := ifp c718 h
                        refine lv_aload hx hb dL_law_1067 (lv_at hl 8 rfl) ?_
                        refine lv_iload hx hb dL_law_1069 (lv_at hl 11 rfl) ?_
                        obtain ⟨v719, hv719, h⟩ := ob h
                        refine r_iald hx hb hK hw hA6 (mm_at (i := 0) (f := a6) hN rfl) hv719 dL_law_1071 ?_
                        exact J_k715 v719 h hw (lv_sub hl [0, 1, 2, 3, 4, 5, 6, 7, 8, 9, 10] rfl)
                      · replace h := ifn c718 h
                        refine lv_sipush (v := (-10005 : Int32)) hx hb dL_law_1061 (by decide) ?_
                        refine lv_goto (tgt := 1072) hx hb dL_law_1064 (by decide) ?_
                        exact J_k715 (-10005 : Int32) h hw (lv_sub hl [0, 1, 2, 3, 4, 5, 6, 7, 8, 9, 10] rfl)
                  intro k710 J_k710 h
                  refine lv_if_eq (tgt := 1041) hx hb dL_law_1032 (by decide) (fun c720 => ?_) (fun c720 => ?_)
                  · replace h := ifp c720 h
                    refine lv_aload hx hb dL_law_1041 (lv_at hl 7 rfl) ?_
                    refine lv_iload hx hb dL_law_1043 (lv_at hl 11 rfl) ?_
                    obtain ⟨v721, hv721, h⟩ := ob h
                    refine r_iald hx hb hK hw hA5 (mm_at (i := 1) (f := a5) hN rfl) hv721 dL_law_1045 ?_
                    exact J_k710 v721 h hw (lv_sub hl [0, 1, 2, 3, 4, 5, 6, 7, 8, 9, 10, 11, 12] rfl)
                  · replace h := ifn c720 h
                    refine lv_sipush (v := (-10005 : Int32)) hx hb dL_law_1035 (by decide) ?_
                    refine lv_goto (tgt := 1046) hx hb dL_law_1038 (by decide) ?_
                    exact J_k710 (-10005 : Int32) h hw (lv_sub hl [0, 1, 2, 3, 4, 5, 6, 7, 8, 9, 10, 11, 12] rfl)
              intro k705 J_k705 h
              refine lv_if_eq (tgt := 1015) hx hb dL_law_1006 (by decide) (fun c722 => ?_) (fun c722 => ?_)
              · replace h := ifp c722 h
                refine lv_aload hx hb dL_law_1015 (lv_at hl 6 rfl) ?_
                refine lv_iload hx hb dL_law_1017 (lv_at hl 11 rfl) ?_
                obtain ⟨v723, hv723, h⟩ := ob h
                refine r_iald hx hb hK hw hA4 (mm_at (i := 2) (f := a4) hN rfl) hv723 dL_law_1019 ?_
                exact J_k705 v723 h hw (lv_sub hl [0, 1, 2, 3, 4, 5, 6, 7, 8, 9, 10, 11, 12] rfl)
              · replace h := ifn c722 h
                refine lv_sipush (v := (-10005 : Int32)) hx hb dL_law_1009 (by decide) ?_
                refine lv_goto (tgt := 1020) hx hb dL_law_1012 (by decide) ?_
                exact J_k705 (-10005 : Int32) h hw (lv_sub hl [0, 1, 2, 3, 4, 5, 6, 7, 8, 9, 10, 11, 12] rfl)
          intro k643 J_k643 h
          refine lv_if_eq (tgt := 989) hx hb dL_law_980 (by decide) (fun c724 => ?_) (fun c724 => ?_)
          · replace h := ifp c724 h
            refine lv_aload hx hb dL_law_989 (lv_at hl 6 rfl) ?_
            refine lv_iload hx hb dL_law_991 (lv_at hl 12 rfl) ?_
            obtain ⟨v725, hv725, h⟩ := ob h
            refine r_iald hx hb hK hw hA3 (mm_at (i := 3) (f := a3) hN rfl) hv725 dL_law_993 ?_
            exact J_k643 v725 h hw (lv_sub hl [1, 2, 3, 4, 5, 6, 7, 8, 9, 10, 11, 12, 0] rfl)
          · replace h := ifn c724 h
            refine lv_sipush (v := (-10005 : Int32)) hx hb dL_law_983 (by decide) ?_
            refine lv_goto (tgt := 994) hx hb dL_law_986 (by decide) ?_
            exact J_k643 (-10005 : Int32) h hw (lv_sub hl [1, 2, 3, 4, 5, 6, 7, 8, 9, 10, 11, 12, 0] rfl)
        intro k639 J_k639 h
        refine jn_elim h (fun (k : Unit → Option (Int32)) => ∀ (u : Unit) {H : Heap} {locs : List Loc} {ls : Array Slot}, k u = some y13 → Wo γ (mm (stT σ 0 T) [(j6, a6), (j5, a5), (j4, a4), (j3, a3), (j2, a2), (j1, a1), (j0, a0)]) s H locs → lv_has ls 22 [(0, .ref b), (1, .ref (eA γ 0)), (2, .ref (eA γ j0)), (3, .ref (eA γ j1)), (4, .ref (eA γ j2)), (5, .ref (eA γ j3)), (6, .ref (eA γ j4)), (7, .ref (eA γ j5)), (8, .ref (eA γ j6)), (9, .int x9), (14, .int x14), (15, .int v637)] → W p l e R s m args below meth c H locs cells slots Q (F0 m 964 ls [])) ?_ ?_
        · intro u H locs ls h hw hl
          refine lv_iconst (v := (1 : Int32)) hx hb dL_law_964 (by decide) ?_
          refine lv_goto (tgt := 969) hx hb dL_law_965 (by decide) ?_
          exact J_k639 (1 : Int32) h hw (lv_sub hl [0, 1, 2, 3, 4, 5, 6, 7, 8, 9, 10, 11] rfl)
        intro k894 J_k894 h
        refine lv_icmp_ge (tgt := 964) hx hb dL_law_954 (by decide) (fun c895 => ?_) (fun c895 => ?_)
        · replace h := ifp c895 h
          exact J_k894 () h hw (lv_sub hl [1, 2, 3, 4, 5, 6, 7, 8, 9, 10, 12, 0] rfl)
        · replace h := ifn c895 h
          refine lv_iload hx hb dL_law_957 (lv_at hl 12 rfl) ?_
          refine lv_bipush (v := (40 : Int32)) hx hb dL_law_959 (by decide) ?_
          refine lv_icmp_ne (tgt := 968) hx hb dL_law_961 (by decide) (fun c896 => ?_) (fun c896 => ?_)
          · replace h := ifn c896 h
            refine lv_iconst (v := (0 : Int32)) hx hb dL_law_968 (by decide) ?_
            exact J_k639 (0 : Int32) h hw (lv_sub hl [1, 2, 3, 4, 5, 6, 7, 8, 9, 10, 12, 0] rfl)
          · replace h := ifp c896 h
            exact J_k894 () h hw (lv_sub hl [1, 2, 3, 4, 5, 6, 7, 8, 9, 10, 12, 0] rfl)
set_option maxHeartbeats 4000000 in
set_option maxRecDepth 10000 in
theorem b_L_law_L89 {γ0 γ : Ev} {σ : Mm} {j6 : Nat} {j5 : Nat} {j4 : Nat} {j3 : Nat} {j2 : Nat} {j1 : Nat} {j0 : Nat} {MC MS : Nat} {b LL : Nat} {xs : Nat → Int32} {Q : State → Prop} (C : Cx p R s m args meth c RL cL_law 22 (some .boolean) 92 3407 γ0) (hS : Sub γ0 γ) (hd : dis γ) (hA : ∀ q, s.heap.size ≤ q → AK γ q) (hR : MC ≤ R.cells ∧ MS ≤ R.slots) (hN : ([j6, j5, j4, j3, j2, j1, j0] : List Nat).Nodup) (hlt : ∀ i ∈ ([j6, j5, j4, j3, j2, j1, j0] : List Nat), i < eN γ) (hlo : ∀ i ∈ ([j6, j5, j4, j3, j2, j1, j0] : List Nat), eN γ0 ≤ i) (hA6 : isA γ j6 40) (hA5 : isA γ j5 40) (hA4 : isA γ j4 40) (hA3 : isA γ j3 40) (hA2 : isA γ j2 11) (hA1 : isA γ j1 10) (hA0 : isA γ j0 60) (hB : isX4 γ 0) (h49 : 49 ≤ eN γ) (hC : ∀ i ∈ ([j6, j5, j4, j3, j2, j1, j0] : List Nat), 49 ≤ i) (hX : va_X b LL xs s s.heap) (hbl : b < s.heap.size) (hbA : ¬ AK γ0 b) (kk : ∀ {γ : Ev} {μ : Mm} {H : Heap} {locs : List Loc} {ls : Array Slot} {cells slots : Nat}, AK γ = AK γ0 → Wo γ μ s H locs → cells ≤ MC ∧ slots ≤ MS → W p l e R s m args below meth c H locs cells slots Q (F0 m 1155 ls [.int (1 : Int32)])) : ∀ (n : Nat) {T : Nat → Mm} {a6 : Nat → Int32} {a5 : Nat → Int32} {a4 : Nat → Int32} {a3 : Nat → Int32} {a2 : Nat → Int32} {a1 : Nat → Int32} {a0 : Nat → Int32} {x9 : Int32} {cells slots : Nat} {H : Heap} {locs : List Loc} {ls : Array Slot} (_ : cells + (n * 3011 + 3011) ≤ MC ∧ slots + (n * 81245 + 81245) ≤ MS), s_L_law_L89 xs LL n T a6 a5 a4 a3 a2 a1 a0 x9 = some 1 → Wo γ (mm (stT σ 0 T) [(j6, a6), (j5, a5), (j4, a4), (j3, a3), (j2, a2), (j1, a1), (j0, a0)]) s H locs → lv_has ls 22 [(0, .ref b), (1, .ref (eA γ 0)), (2, .ref (eA γ j0)), (3, .ref (eA γ j1)), (4, .ref (eA γ j2)), (5, .ref (eA γ j3)), (6, .ref (eA γ j4)), (7, .ref (eA γ j5)), (8, .ref (eA γ j6)), (9, .int x9)] → W p l e R s m args below meth c H locs cells slots Q (F0 m 89 ls []) := by
  have C0 := C.sub hS hd
  obtain ⟨hx, hb, hr, hml, hown, hts, hlk, hK0, hd0, hF, hL⟩ := id C
  have hK := hS.1.hK hK0
  obtain ⟨hr1, hr2⟩ := id hR
  intro n
  induction n with
  | zero => intro T a6 a5 a4 a3 a2 a1 a0 x9 cells slots H locs ls _ h; cases h
  | succ n ih =>
    intro T a6 a5 a4 a3 a2 a1 a0 x9 cells slots H locs ls hcs h hw hl
    obtain ⟨hc1, hc2⟩ := hcs
    replace hc1 : cells + (n * 3011 + 6022) ≤ MC := chd hc1
    replace hc2 : slots + (n * 81245 + 162490) ≤ MS := chd hc2
    have zz := And.intro (cin hc1 hr1) (cin hc2 hr2)
    unfold s_L_law_L89 at h
    refine lv_iload hx hb dL_law_89 (lv_at hl 9 rfl) ?_
    refine lv_bipush (v := (46 : Int32)) hx hb dL_law_91 (by decide) ?_
    refine lv_icmp_ge (tgt := 1154) hx hb dL_law_93 (by decide) (fun c5 => ?_) (fun c5 => ?_)
    · replace h := ifp c5 h
      refine lv_iconst (v := (1 : Int32)) hx hb dL_law_1154 (by decide) ?_
      exact kk hS.1.2.2 hw ⟨cMC hc1, cMC hc2⟩
    · replace h := ifn c5 h
      refine lv_aload_n hx hb dL_law_96 rfl (lv_at hl 0 rfl) ?_
      refine lv_iload hx hb dL_law_97 (lv_at hl 9 rfl) ?_
      obtain ⟨v6, hv6, h⟩ := ob h
      refine r_cell (rest := []) C0 zz (by rw [hS.1.2.2]; exact hbA) hX hbl hv6 hl.1 (Nat.le_of_ble_eq_true rfl) (by decide) hw dL_law_99 (fun {H} {locs} hw => ?_)
      refine lv_istore (lv' := [(10, .int v6), (0, .ref b), (1, .ref (eA γ 0)), (2, .ref (eA γ j0)), (3, .ref (eA γ j1)), (4, .ref (eA γ j2)), (5, .ref (eA γ j3)), (6, .ref (eA γ j4)), (7, .ref (eA γ j5)), (8, .ref (eA γ j6)), (9, .int x9)]) hx hb dL_law_102 hl (by decide) rfl (fun ls hl => ?_)
      refine lv_iload hx hb dL_law_104 (lv_at hl 0 rfl) ?_
      refine lv_bipush (v := (16 : Int32)) hx hb dL_law_106 (by decide) ?_
      obtain ⟨v7, hv7, h⟩ := ob h
      refine r_Si (rest := []) C0 zz (c_L_low hv7) lk_L_95 hl.1 rfl (Nat.le_of_ble_eq_true rfl) (by decide) hw dL_law_108 (fun {H} {locs} hw => ?_)
      refine lv_istore (lv' := [(11, .int v7), (10, .int v6), (0, .ref b), (1, .ref (eA γ 0)), (2, .ref (eA γ j0)), (3, .ref (eA γ j1)), (4, .ref (eA γ j2)), (5, .ref (eA γ j3)), (6, .ref (eA γ j4)), (7, .ref (eA γ j5)), (8, .ref (eA γ j6)), (9, .int x9)]) hx hb dL_law_111 hl (by decide) rfl (fun ls hl => ?_)
      refine lv_iload hx hb dL_law_113 (lv_at hl 1 rfl) ?_
      refine lv_iconst (v := (4 : Int32)) hx hb dL_law_115 (by decide) ?_
      refine lv_ishr hx hb dL_law_116 ?_
      refine lv_bipush (v := (12 : Int32)) hx hb dL_law_117 (by decide) ?_
      obtain ⟨v8, hv8, h⟩ := ob h
      refine r_Si (rest := []) C0 zz (c_L_low hv8) lk_L_95 hl.1 rfl (Nat.le_of_ble_eq_true rfl) (by decide) hw dL_law_119 (fun {H} {locs} hw => ?_)
      obtain ⟨v9, hv9, h⟩ := ob h
      refine r_Si (rest := []) C0 zz (c_L_place hv9) lk_L_10 hl.1 rfl (Nat.le_of_ble_eq_true rfl) (by decide) hw dL_law_122 (fun {H} {locs} hw => ?_)
      refine lv_istore (lv' := [(12, .int v9), (11, .int v7), (10, .int v6), (0, .ref b), (1, .ref (eA γ 0)), (2, .ref (eA γ j0)), (3, .ref (eA γ j1)), (4, .ref (eA γ j2)), (5, .ref (eA γ j3)), (6, .ref (eA γ j4)), (7, .ref (eA γ j5)), (8, .ref (eA γ j6)), (9, .int x9)]) hx hb dL_law_125 hl (by decide) rfl (fun ls hl => ?_)
      refine lv_iconst (v := (1 : Int32)) hx hb dL_law_127 (by decide) ?_
      refine lv_istore (lv' := [(13, .int (1 : Int32)), (12, .int v9), (11, .int v7), (10, .int v6), (0, .ref b), (1, .ref (eA γ 0)), (2, .ref (eA γ j0)), (3, .ref (eA γ j1)), (4, .ref (eA γ j2)), (5, .ref (eA γ j3)), (6, .ref (eA γ j4)), (7, .ref (eA γ j5)), (8, .ref (eA γ j6)), (9, .int x9)]) hx hb dL_law_128 hl (by decide) rfl (fun ls hl => ?_)
      refine lv_iload hx hb dL_law_130 (lv_at hl 2 rfl) ?_
      refine lv_bipush (v := (9 : Int32)) hx hb dL_law_132 (by decide) ?_
      refine jn_elim h (fun (k : Int32 → (Nat → Mm) → (Nat → Int32) → (Nat → Int32) → (Nat → Int32) → (Nat → Int32) → (Nat → Int32) → (Nat → Int32) → (Nat → Int32) → Option (Int32)) => ∀ (v625 : Int32) (T626 : Nat → Mm) (A627 : Nat → Int32) (A628 : Nat → Int32) (A629 : Nat → Int32) (A630 : Nat → Int32) (A631 : Nat → Int32) (A632 : Nat → Int32) (A633 : Nat → Int32) {cells slots : Nat} {H : Heap} {locs : List Loc} {ls : Array Slot}, k v625 T626 A627 A628 A629 A630 A631 A632 A633 = some 1 → cells + (n * 3011 + 6022) ≤ MC ∧ slots + (n * 81245 + 162490) ≤ MS → Wo γ (mm (stT σ 0 T626) [(j6, A627), (j5, A628), (j4, A629), (j3, A630), (j2, A631), (j1, A632), (j0, A633)]) s H locs → lv_has ls 22 [(0, .ref b), (1, .ref (eA γ 0)), (2, .ref (eA γ j0)), (3, .ref (eA γ j1)), (4, .ref (eA γ j2)), (5, .ref (eA γ j3)), (6, .ref (eA γ j4)), (7, .ref (eA γ j5)), (8, .ref (eA γ j6)), (9, .int x9), (13, .int v625)] → W p l e R s m args below meth c H locs cells slots Q (F0 m 918 ls [])) ?_ ?_
      · intro v625 T626 A627 A628 A629 A630 A631 A632 A633 cells slots H locs ls h hcs hw hl
        obtain ⟨hc1, hc2⟩ := hcs
        have zz := And.intro (cin hc1 hr1) (cin hc2 hr2)
        refine lv_iconst (v := (0 : Int32)) hx hb dL_law_918 (by decide) ?_
        refine lv_istore (lv' := [(14, .int (0 : Int32)), (0, .ref b), (1, .ref (eA γ 0)), (2, .ref (eA γ j0)), (3, .ref (eA γ j1)), (4, .ref (eA γ j2)), (5, .ref (eA γ j3)), (6, .ref (eA γ j4)), (7, .ref (eA γ j5)), (8, .ref (eA γ j6)), (9, .int x9), (13, .int v625)]) hx hb dL_law_919 hl (by decide) rfl (fun ls hl => ?_)
        obtain ⟨q897, hq897, h⟩ := ob h
        refine b_L_law_I921 C hS hd hA hR hN hlt hlo hA6 hA5 hA4 hA3 hA2 hA1 hA0 hB h49 hC hX hbl hbA zz (fun {H} {locs} {ls} hw hl => ?_) 1000 hq897 hw (lv_sub hl [1, 2, 3, 4, 5, 6, 7, 8, 9, 10, 11, 0] rfl)
        refine lv_iload hx hb dL_law_1096 (lv_at hl 10 rfl) ?_
        refine lv_if_eq (tgt := 1146) hx hb dL_law_1098 (by decide) (fun c898 => ?_) (fun c898 => ?_)
        · replace h := ifp c898 h
          refine lv_iconst (v := (0 : Int32)) hx hb dL_law_1146 (by decide) ?_
          exact absurd (Option.some.inj h) (by decide)
        · replace h := ifn c898 h
          refine lv_aload_n hx hb dL_law_1101 rfl (lv_at hl 1 rfl) ?_
          refine lv_aload_n hx hb dL_law_1102 rfl (lv_at hl 2 rfl) ?_
          refine lv_aload_n hx hb dL_law_1103 rfl (lv_at hl 3 rfl) ?_
          refine lv_aload hx hb dL_law_1104 (lv_at hl 4 rfl) ?_
          obtain ⟨q899, hq899, h⟩ := ob h
          refine r_SA (rest := []) C0 hA ⟨csa hc1 (Nat.le_trans (Nat.le_of_ble_eq_true rfl : 3 ≤ 6022) (Nat.le_add_left _ _)) hr1, csa hc2 (Nat.le_trans (Nat.le_of_ble_eq_true rfl : 81 ≤ 162490) (Nat.le_add_left _ _)) hr2⟩ (c_L_tells (σ := mm σ [(j6, A627), (j5, A628), (j4, A629), (j3, A630), (j2, A631), (j1, A632), (j0, A633)]) (nd_sub hN [6, 5, 4] (by decide) rfl) (all_sub hlt [6, 5, 4] rfl) hA0 hA1 hA2 hB h49 (all_sub hC [6, 5, 4] rfl) hq899) lk_L_122 hl.1 rfl (Nat.le_of_ble_eq_true rfl) (by decide) (Wo.cg (mm_preT (σ := σ) (T := T626) (L := [(j6, A627), (j5, A628), (j4, A629), (j3, A630), (j2, A631), (j1, A632), (j0, A633)]) (L' := [(j0, A633), (j1, A632), (j2, A631)]) hC (all_sub hC [6, 5, 4] rfl) hN [6, 5, 4] rfl) hw) dL_law_1106 (fun {H} {locs} hw => ?_)
          replace hc1 := cadd 3 (n * 3011 + 6019) hc1 (cmul (Nat.le_of_ble_eq_true rfl))
          replace hc2 := cadd 81 (n * 81245 + 162409) hc2 (cmul (Nat.le_of_ble_eq_true rfl))
          have zz := And.intro (cin hc1 hr1) (cin hc2 hr2)
          replace hw := Wo.cg (mm_preT (σ := σ) (T := q899.2) (L := [(j6, A627), (j5, A628), (j4, A629), (j3, A630), (j2, A631), (j1, A632), (j0, A633)]) (L' := [(j0, A633), (j1, A632), (j2, A631)]) hC (all_sub hC [6, 5, 4] rfl) hN [6, 5, 4] rfl).symm hw
          refine lv_if_eq (tgt := 1146) hx hb dL_law_1109 (by decide) (fun c900 => ?_) (fun c900 => ?_)
          · replace h := ifp c900 h
            refine lv_iconst (v := (0 : Int32)) hx hb dL_law_1146 (by decide) ?_
            exact absurd (Option.some.inj h) (by decide)
          · replace h := ifn c900 h
            refine lv_iload hx hb dL_law_1112 (lv_at hl 9 rfl) ?_
            refine lv_iconst (v := (4 : Int32)) hx hb dL_law_1114 (by decide) ?_
            obtain ⟨v901, hv901, h⟩ := ob h
            refine lv_irem hx hb dL_law_1115 (rmi_some hv901).1 ?_
            refine r_top (rmi_some hv901).2 ?_
            refine lv_iconst (v := (3 : Int32)) hx hb dL_law_1116 (by decide) ?_
            refine lv_icmp_ne (tgt := 1148) hx hb dL_law_1117 (by decide) (fun c902 => ?_) (fun c902 => ?_)
            · replace h := ifn c902 h
              obtain ⟨v903, ev903, h⟩ := jb h
              refine lv_iinc (v := v903) (lv' := [(9, .int v903), (0, .ref b), (1, .ref (eA γ 0)), (2, .ref (eA γ j0)), (3, .ref (eA γ j1)), (4, .ref (eA γ j2)), (5, .ref (eA γ j3)), (6, .ref (eA γ j4)), (7, .ref (eA γ j5)), (8, .ref (eA γ j6)), (13, .int q897)]) hx hb dL_law_1148 hl (k := 9) rfl (by rw [← ev903]; rfl) (by decide) rfl (fun ls hl => ?_)
              refine lv_goto (tgt := 89) hx hb dL_law_1151 (by decide) ?_
              exact ih ⟨cle hc1 (Nat.add_le_add_left (Nat.le_of_ble_eq_true rfl) _), cle hc2 (Nat.add_le_add_left (Nat.le_of_ble_eq_true rfl) _)⟩ h hw (lv_sub hl [1, 2, 3, 4, 5, 6, 7, 8, 9, 0] rfl)
            · replace h := ifp c902 h
              refine lv_aload_n hx hb dL_law_1120 rfl (lv_at hl 1 rfl) ?_
              refine lv_aload_n hx hb dL_law_1121 rfl (lv_at hl 2 rfl) ?_
              refine lv_aload_n hx hb dL_law_1122 rfl (lv_at hl 3 rfl) ?_
              refine lv_aload hx hb dL_law_1123 (lv_at hl 4 rfl) ?_
              refine lv_iload hx hb dL_law_1125 (lv_at hl 9 rfl) ?_
              refine lv_bipush (v := (16 : Int32)) hx hb dL_law_1127 (by decide) ?_
              obtain ⟨v904, hv904, h⟩ := ob h
              refine lv_irem hx hb dL_law_1129 (rmi_some hv904).1 ?_
              refine r_top (rmi_some hv904).2 ?_
              refine lv_bipush (v := (15 : Int32)) hx hb dL_law_1130 (by decide) ?_
              refine jn_elim h (fun (k : Int32 → Option (Int32)) => ∀ (v906 : Int32) {cells slots : Nat} {H : Heap} {locs : List Loc} {ls : Array Slot}, k v906 = some 1 → cells + (n * 3011 + 6019) ≤ MC ∧ slots + (n * 81245 + 162409) ≤ MS → Wo γ (mm (stT σ 0 q899.2) [(j6, A627), (j5, A628), (j4, A629), (j3, A630), (j2, A631), (j1, A632), (j0, A633)]) s H locs → lv_has ls 22 [(0, .ref b), (1, .ref (eA γ 0)), (2, .ref (eA γ j0)), (3, .ref (eA γ j1)), (4, .ref (eA γ j2)), (5, .ref (eA γ j3)), (6, .ref (eA γ j4)), (7, .ref (eA γ j5)), (8, .ref (eA γ j6)), (9, .int x9)] → W p l e R s m args below meth c H locs cells slots Q (F0 m 1140 ls [.int v906, .ref (eA γ j2), .ref (eA γ j1), .ref (eA γ j0), .ref (eA γ 0)])) ?_ ?_
              · intro v906 cells slots H locs ls h hcs hw hl
                obtain ⟨hc1, hc2⟩ := hcs
                have zz := And.intro (cin hc1 hr1) (cin hc2 hr2)
                obtain ⟨q907, hq907, h⟩ := ob h
                refine r_SA (rest := []) C0 hA ⟨csa hc1 (Nat.le_trans (Nat.le_of_ble_eq_true rfl : 3008 ≤ 6019) (Nat.le_add_left _ _)) hr1, csa hc2 (Nat.le_trans (Nat.le_of_ble_eq_true rfl : 81164 ≤ 162409) (Nat.le_add_left _ _)) hr2⟩ (c_L_looks (σ := mm σ [(j6, A627), (j5, A628), (j4, A629), (j3, A630), (j2, A631), (j1, A632), (j0, A633)]) (nd_sub hN [6, 5, 4] (by decide) rfl) (all_sub hlt [6, 5, 4] rfl) hA0 hA1 hA2 hB h49 (all_sub hC [6, 5, 4] rfl) hq907) lk_L_126 hl.1 rfl (Nat.le_of_ble_eq_true rfl) (by decide) (Wo.cg (mm_preT (σ := σ) (T := q899.2) (L := [(j6, A627), (j5, A628), (j4, A629), (j3, A630), (j2, A631), (j1, A632), (j0, A633)]) (L' := [(j0, A633), (j1, A632), (j2, A631)]) hC (all_sub hC [6, 5, 4] rfl) hN [6, 5, 4] rfl) hw) dL_law_1140 (fun {H} {locs} hw => ?_)
                replace hc1 := cadd 3008 (n * 3011 + 3011) hc1 (cmul (Nat.le_of_ble_eq_true rfl))
                replace hc2 := cadd 81164 (n * 81245 + 81245) hc2 (cmul (Nat.le_of_ble_eq_true rfl))
                have zz := And.intro (cin hc1 hr1) (cin hc2 hr2)
                replace hw := Wo.cg (mm_preT (σ := σ) (T := q907.2) (L := [(j6, A627), (j5, A628), (j4, A629), (j3, A630), (j2, A631), (j1, A632), (j0, A633)]) (L' := [(j0, A633), (j1, A632), (j2, A631)]) hC (all_sub hC [6, 5, 4] rfl) hN [6, 5, 4] rfl).symm hw
                refine lv_if_ne (tgt := 1148) hx hb dL_law_1143 (by decide) (fun c908 => ?_) (fun c908 => ?_)
                · replace h := ifn c908 h
                  obtain ⟨v909, ev909, h⟩ := jb h
                  refine lv_iinc (v := v909) (lv' := [(9, .int v909), (0, .ref b), (1, .ref (eA γ 0)), (2, .ref (eA γ j0)), (3, .ref (eA γ j1)), (4, .ref (eA γ j2)), (5, .ref (eA γ j3)), (6, .ref (eA γ j4)), (7, .ref (eA γ j5)), (8, .ref (eA γ j6))]) hx hb dL_law_1148 hl (k := 9) rfl (by rw [← ev909]; rfl) (by decide) rfl (fun ls hl => ?_)
                  refine lv_goto (tgt := 89) hx hb dL_law_1151 (by decide) ?_
                  exact ih ⟨cle hc1 (Nat.add_le_add_left (Nat.le_of_ble_eq_true rfl) _), cle hc2 (Nat.add_le_add_left (Nat.le_of_ble_eq_true rfl) _)⟩ h hw (lv_sub hl [1, 2, 3, 4, 5, 6, 7, 8, 9, 0] rfl)
                · replace h := ifp c908 h
                  refine lv_iconst (v := (0 : Int32)) hx hb dL_law_1146 (by decide) ?_
                  exact absurd (Option.some.inj h) (by decide)
              intro k905 J_k905 h
              refine lv_icmp_ne (tgt := 1139) hx hb dL_law_1132 (by decide) (fun c910 => ?_) (fun c910 => ?_)
              · replace h := ifn c910 h
                refine lv_iconst (v := (0 : Int32)) hx hb dL_law_1139 (by decide) ?_
                exact J_k905 (0 : Int32) h ⟨cle hc1 (Nat.add_le_add_left (Nat.le_of_ble_eq_true rfl) _), cle hc2 (Nat.add_le_add_left (Nat.le_of_ble_eq_true rfl) _)⟩ hw (lv_sub hl [0, 1, 2, 3, 4, 5, 6, 7, 8, 9] rfl)
              · replace h := ifp c910 h
                refine lv_iconst (v := (1 : Int32)) hx hb dL_law_1135 (by decide) ?_
                refine lv_goto (tgt := 1140) hx hb dL_law_1136 (by decide) ?_
                exact J_k905 (1 : Int32) h ⟨cle hc1 (Nat.add_le_add_left (Nat.le_of_ble_eq_true rfl) _), cle hc2 (Nat.add_le_add_left (Nat.le_of_ble_eq_true rfl) _)⟩ hw (lv_sub hl [0, 1, 2, 3, 4, 5, 6, 7, 8, 9] rfl)
      intro k624 J_k624 h
      refine lv_icmp_ge (tgt := 465) hx hb dL_law_134 (by decide) (fun c911 => ?_) (fun c911 => ?_)
      · replace h := ifp c911 h
        refine lv_iload hx hb dL_law_465 (lv_at hl 2 rfl) ?_
        refine lv_bipush (v := (11 : Int32)) hx hb dL_law_467 (by decide) ?_
        refine lv_icmp_ge (tgt := 575) hx hb dL_law_469 (by decide) (fun c912 => ?_) (fun c912 => ?_)
        · replace h := ifp c912 h
          refine lv_iload hx hb dL_law_575 (lv_at hl 2 rfl) ?_
          refine lv_bipush (v := (13 : Int32)) hx hb dL_law_577 (by decide) ?_
          refine lv_icmp_ge (tgt := 692) hx hb dL_law_579 (by decide) (fun c913 => ?_) (fun c913 => ?_)
          · replace h := ifp c913 h
            refine lv_iload hx hb dL_law_692 (lv_at hl 2 rfl) ?_
            refine lv_bipush (v := (15 : Int32)) hx hb dL_law_694 (by decide) ?_
            refine lv_icmp_ge (tgt := 825) hx hb dL_law_696 (by decide) (fun c914 => ?_) (fun c914 => ?_)
            · replace h := ifp c914 h
              refine lv_iconst (v := (0 : Int32)) hx hb dL_law_825 (by decide) ?_
              refine lv_istore (lv' := [(14, .int (0 : Int32)), (13, .int (1 : Int32)), (12, .int v9), (11, .int v7), (10, .int v6), (0, .ref b), (1, .ref (eA γ 0)), (2, .ref (eA γ j0)), (3, .ref (eA γ j1)), (4, .ref (eA γ j2)), (5, .ref (eA γ j3)), (6, .ref (eA γ j4)), (7, .ref (eA γ j5)), (8, .ref (eA γ j6)), (9, .int x9)]) hx hb dL_law_826 hl (by decide) rfl (fun ls hl => ?_)
              refine lv_iconst (v := (0 : Int32)) hx hb dL_law_828 (by decide) ?_
              refine lv_istore (lv' := [(15, .int (0 : Int32)), (14, .int (0 : Int32)), (13, .int (1 : Int32)), (12, .int v9), (11, .int v7), (10, .int v6), (0, .ref b), (1, .ref (eA γ 0)), (2, .ref (eA γ j0)), (3, .ref (eA γ j1)), (4, .ref (eA γ j2)), (5, .ref (eA γ j3)), (6, .ref (eA γ j4)), (7, .ref (eA γ j5)), (8, .ref (eA γ j6)), (9, .int x9)]) hx hb dL_law_829 hl (by decide) rfl (fun ls hl => ?_)
              obtain ⟨q915, hq915, h⟩ := ob h
              refine b_L_law_I831 C hS hd hA hR hN hlt hlo hA6 hA5 hA4 hA3 hA2 hA1 hA0 hB h49 hC hX hbl hbA zz (fun {H} {locs} {ls} hw hl => ?_) 1000 hq915 hw (lv_sub hl [6, 7, 8, 9, 10, 11, 12, 13, 14, 15, 1, 0] rfl)
              refine lv_iconst (v := (4 : Int32)) hx hb dL_law_869 (by decide) ?_
              refine lv_istore (lv' := [(15, .int (4 : Int32)), (0, .ref b), (1, .ref (eA γ 0)), (2, .ref (eA γ j0)), (3, .ref (eA γ j1)), (4, .ref (eA γ j2)), (5, .ref (eA γ j3)), (6, .ref (eA γ j4)), (7, .ref (eA γ j5)), (8, .ref (eA γ j6)), (9, .int x9), (14, .int q915.1)]) hx hb dL_law_870 hl (by decide) rfl (fun ls hl => ?_)
              obtain ⟨q916, hq916, h⟩ := ob h
              refine b_L_law_I872 C hS hd hA hR hN hlt hlo hA6 hA5 hA4 hA3 hA2 hA1 hA0 hB h49 hC hX hbl hbA zz (fun {H} {locs} {ls} hw hl => ?_) 1000 hq916 hw (lv_sub hl [1, 2, 3, 4, 5, 6, 7, 8, 9, 10, 11, 0] rfl)
              refine lv_aload_n hx hb dL_law_902 rfl (lv_at hl 1 rfl) ?_
              obtain ⟨q917, hq917, h⟩ := ob h
              refine r_Vi (rest := []) C0 zz (c_X4_begin (γ := γ) (o := 0) hB hq917) lk_L_115 (X4_k0 hB) rfl rfl hl.1 rfl (Nat.le_of_ble_eq_true rfl) (by decide) (Wo.cg (mmT (σ := σ) (L := [(j6, a6), (j5, a5), (j4, a4), (j3, a3), (j2, q916), (j1, a1), (j0, q915.2)]) hC) hw) dL_law_903 (fun {H} {locs} hw => ?_)
              replace hw := Wo.cg (mmT (σ := σ) (T := q917.2) (L := [(j6, a6), (j5, a5), (j4, a4), (j3, a3), (j2, q916), (j1, a1), (j0, q915.2)]) hC).symm hw
              refine lv_iload hx hb dL_law_906 (lv_at hl 10 rfl) ?_
              refine jn_elim h (fun (k : Int32 → Option (Int32)) => ∀ (v919 : Int32) {cells slots : Nat} {H : Heap} {locs : List Loc} {ls : Array Slot}, k v919 = some 1 → cells + (n * 3011 + 6022) ≤ MC ∧ slots + (n * 81245 + 162490) ≤ MS → Wo γ (mm (stT σ 0 q917.2) [(j6, a6), (j5, a5), (j4, a4), (j3, a3), (j2, q916), (j1, a1), (j0, q915.2)]) s H locs → lv_has ls 22 [(0, .ref b), (1, .ref (eA γ 0)), (2, .ref (eA γ j0)), (3, .ref (eA γ j1)), (4, .ref (eA γ j2)), (5, .ref (eA γ j3)), (6, .ref (eA γ j4)), (7, .ref (eA γ j5)), (8, .ref (eA γ j6)), (9, .int x9)] → W p l e R s m args below meth c H locs cells slots Q (F0 m 916 ls [.int v919])) ?_ ?_
              · intro v919 cells slots H locs ls h hcs hw hl
                obtain ⟨hc1, hc2⟩ := hcs
                have zz := And.intro (cin hc1 hr1) (cin hc2 hr2)
                refine lv_istore (lv' := [(13, .int v919), (0, .ref b), (1, .ref (eA γ 0)), (2, .ref (eA γ j0)), (3, .ref (eA γ j1)), (4, .ref (eA γ j2)), (5, .ref (eA γ j3)), (6, .ref (eA γ j4)), (7, .ref (eA γ j5)), (8, .ref (eA γ j6)), (9, .int x9)]) hx hb dL_law_916 hl (by decide) rfl (fun ls hl => ?_)
                exact J_k624 v919 q917.2 a6 a5 a4 a3 q916 a1 q915.2 h ⟨cle hc1 (Nat.add_le_add_left (Nat.le_of_ble_eq_true rfl) _), cle hc2 (Nat.add_le_add_left (Nat.le_of_ble_eq_true rfl) _)⟩ hw (lv_sub hl [1, 2, 3, 4, 5, 6, 7, 8, 9, 10, 0] rfl)
              intro k918 J_k918 h
              refine lv_icmp_ne (tgt := 915) hx hb dL_law_908 (by decide) (fun c920 => ?_) (fun c920 => ?_)
              · replace h := ifn c920 h
                refine lv_iconst (v := (0 : Int32)) hx hb dL_law_915 (by decide) ?_
                exact J_k918 (0 : Int32) h ⟨cle hc1 (Nat.add_le_add_left (Nat.le_of_ble_eq_true rfl) _), cle hc2 (Nat.add_le_add_left (Nat.le_of_ble_eq_true rfl) _)⟩ hw (lv_sub hl [0, 1, 2, 3, 4, 5, 6, 7, 8, 9] rfl)
              · replace h := ifp c920 h
                refine lv_iconst (v := (1 : Int32)) hx hb dL_law_911 (by decide) ?_
                refine lv_goto (tgt := 916) hx hb dL_law_912 (by decide) ?_
                exact J_k918 (1 : Int32) h ⟨cle hc1 (Nat.add_le_add_left (Nat.le_of_ble_eq_true rfl) _), cle hc2 (Nat.add_le_add_left (Nat.le_of_ble_eq_true rfl) _)⟩ hw (lv_sub hl [0, 1, 2, 3, 4, 5, 6, 7, 8, 9] rfl)
            · replace h := ifn c914 h
              refine lv_iload hx hb dL_law_699 (lv_at hl 3 rfl) ?_
              refine lv_iconst (v := (4 : Int32)) hx hb dL_law_701 (by decide) ?_
              refine lv_ishr hx hb dL_law_702 ?_
              refine lv_iconst (v := (4 : Int32)) hx hb dL_law_703 (by decide) ?_
              obtain ⟨v921, hv921, h⟩ := ob h
              refine r_Si (rest := []) C0 zz (c_L_low hv921) lk_L_95 hl.1 rfl (Nat.le_of_ble_eq_true rfl) (by decide) hw dL_law_704 (fun {H} {locs} hw => ?_)
              refine lv_istore (lv' := [(14, .int v921), (13, .int (1 : Int32)), (12, .int v9), (11, .int v7), (10, .int v6), (0, .ref b), (1, .ref (eA γ 0)), (2, .ref (eA γ j0)), (3, .ref (eA γ j1)), (4, .ref (eA γ j2)), (5, .ref (eA γ j3)), (6, .ref (eA γ j4)), (7, .ref (eA γ j5)), (8, .ref (eA γ j6)), (9, .int x9)]) hx hb dL_law_707 hl (by decide) rfl (fun ls hl => ?_)
              refine lv_iload hx hb dL_law_709 (lv_at hl 0 rfl) ?_
              refine jn_elim h (fun (k : Int32 → Option (Int32)) => ∀ (v933 : Int32) {cells slots : Nat} {H : Heap} {locs : List Loc} {ls : Array Slot}, k v933 = some 1 → cells + (n * 3011 + 6022) ≤ MC ∧ slots + (n * 81245 + 162490) ≤ MS → Wo γ (mm (stT σ 0 T) [(j6, a6), (j5, a5), (j4, a4), (j3, a3), (j2, a2), (j1, a1), (j0, a0)]) s H locs → lv_has ls 22 [(0, .ref b), (1, .ref (eA γ 0)), (2, .ref (eA γ j0)), (3, .ref (eA γ j1)), (4, .ref (eA γ j2)), (5, .ref (eA γ j3)), (6, .ref (eA γ j4)), (7, .ref (eA γ j5)), (8, .ref (eA γ j6)), (9, .int x9), (14, .int v921)] → W p l e R s m args below meth c H locs cells slots Q (F0 m 773 ls [.int v933])) ?_ ?_
              · intro v933 cells slots H locs ls h hcs hw hl
                obtain ⟨hc1, hc2⟩ := hcs
                have zz := And.intro (cin hc1 hr1) (cin hc2 hr2)
                refine lv_istore (lv' := [(15, .int v933), (0, .ref b), (1, .ref (eA γ 0)), (2, .ref (eA γ j0)), (3, .ref (eA γ j1)), (4, .ref (eA γ j2)), (5, .ref (eA γ j3)), (6, .ref (eA γ j4)), (7, .ref (eA γ j5)), (8, .ref (eA γ j6)), (9, .int x9), (14, .int v921)]) hx hb dL_law_773 hl (by decide) rfl (fun ls hl => ?_)
                refine lv_aload hx hb dL_law_775 (lv_at hl 5 rfl) ?_
                refine lv_iload hx hb dL_law_777 (lv_at hl 11 rfl) ?_
                obtain ⟨v934, hv934, h⟩ := ob h
                refine r_iald hx hb hK hw hA2 (mm_at (i := 4) (f := a2) hN rfl) hv934 dL_law_779 ?_
                refine lv_istore (lv' := [(16, .int v934), (15, .int v933), (0, .ref b), (1, .ref (eA γ 0)), (2, .ref (eA γ j0)), (3, .ref (eA γ j1)), (4, .ref (eA γ j2)), (5, .ref (eA γ j3)), (6, .ref (eA γ j4)), (7, .ref (eA γ j5)), (8, .ref (eA γ j6)), (9, .int x9), (14, .int v921)]) hx hb dL_law_780 hl (by decide) rfl (fun ls hl => ?_)
                refine lv_aload hx hb dL_law_782 (lv_at hl 6 rfl) ?_
                refine lv_iload hx hb dL_law_784 (lv_at hl 12 rfl) ?_
                refine lv_iload hx hb dL_law_786 (lv_at hl 1 rfl) ?_
                obtain ⟨A935, hA935, h⟩ := ob h
                refine r_astm (L := [(j6, a6), (j5, a5), (j4, a4), (j3, a3), (j2, a2), (j1, a1), (j0, a0)]) (L' := [(j6, a6), (j5, a5), (j4, a4), (j3, a3), (j2, A935), (j1, a1), (j0, a0)]) (i := 4) hx hb hK hd hN hw hA2 rfl hA935 rfl dL_law_788 (fun {H} {locs} hw => ?_)
                refine lv_aload_n hx hb dL_law_789 rfl (lv_at hl 3 rfl) ?_
                refine lv_iload hx hb dL_law_790 (lv_at hl 12 rfl) ?_
                refine lv_iload hx hb dL_law_792 (lv_at hl 1 rfl) ?_
                obtain ⟨q936, hq936, h⟩ := ob h
                refine r_Vi (rest := []) C0 zz (c_X4_set (γ := γ) (o := 0) hB hq936) lk_L_112 (X4_k0 hB) rfl rfl hl.1 rfl (Nat.le_of_ble_eq_true rfl) (by decide) (Wo.cg (mmT (σ := σ) (L := [(j6, a6), (j5, a5), (j4, a4), (j3, a3), (j2, A935), (j1, a1), (j0, a0)]) hC) hw) dL_law_794 (fun {H} {locs} hw => ?_)
                replace hw := Wo.cg (mmT (σ := σ) (T := q936.2) (L := [(j6, a6), (j5, a5), (j4, a4), (j3, a3), (j2, A935), (j1, a1), (j0, a0)]) hC).symm hw
                refine lv_iload hx hb dL_law_797 (lv_at hl 0 rfl) ?_
                refine lv_iload hx hb dL_law_799 (lv_at hl 1 rfl) ?_
                refine jn_elim h (fun (k : Int32 → Option (Int32)) => ∀ (v938 : Int32) {cells slots : Nat} {H : Heap} {locs : List Loc} {ls : Array Slot}, k v938 = some 1 → cells + (n * 3011 + 6022) ≤ MC ∧ slots + (n * 81245 + 162490) ≤ MS → Wo γ (mm (stT σ 0 q936.2) [(j6, a6), (j5, a5), (j4, a4), (j3, a3), (j2, A935), (j1, a1), (j0, a0)]) s H locs → lv_has ls 22 [(0, .ref b), (1, .ref (eA γ 0)), (2, .ref (eA γ j0)), (3, .ref (eA γ j1)), (4, .ref (eA γ j2)), (5, .ref (eA γ j3)), (6, .ref (eA γ j4)), (7, .ref (eA γ j5)), (8, .ref (eA γ j6)), (9, .int x9)] → W p l e R s m args below meth c H locs cells slots Q (F0 m 812 ls [.int v938, .int q936.1])) ?_ ?_
                · intro v938 cells slots H locs ls h hcs hw hl
                  obtain ⟨hc1, hc2⟩ := hcs
                  have zz := And.intro (cin hc1 hr1) (cin hc2 hr2)
                  refine jn_elim h (fun (k : Int32 → Option (Int32)) => ∀ (v940 : Int32) {cells slots : Nat} {H : Heap} {locs : List Loc} {ls : Array Slot}, k v940 = some 1 → cells + (n * 3011 + 6022) ≤ MC ∧ slots + (n * 81245 + 162490) ≤ MS → Wo γ (mm (stT σ 0 q936.2) [(j6, a6), (j5, a5), (j4, a4), (j3, a3), (j2, A935), (j1, a1), (j0, a0)]) s H locs → lv_has ls 22 [(0, .ref b), (1, .ref (eA γ 0)), (2, .ref (eA γ j0)), (3, .ref (eA γ j1)), (4, .ref (eA γ j2)), (5, .ref (eA γ j3)), (6, .ref (eA γ j4)), (7, .ref (eA γ j5)), (8, .ref (eA γ j6)), (9, .int x9)] → W p l e R s m args below meth c H locs cells slots Q (F0 m 820 ls [.int v940])) ?_ ?_
                  · intro v940 cells slots H locs ls h hcs hw hl
                    obtain ⟨hc1, hc2⟩ := hcs
                    have zz := And.intro (cin hc1 hr1) (cin hc2 hr2)
                    refine lv_istore (lv' := [(13, .int v940), (0, .ref b), (1, .ref (eA γ 0)), (2, .ref (eA γ j0)), (3, .ref (eA γ j1)), (4, .ref (eA γ j2)), (5, .ref (eA γ j3)), (6, .ref (eA γ j4)), (7, .ref (eA γ j5)), (8, .ref (eA γ j6)), (9, .int x9)]) hx hb dL_law_820 hl (by decide) rfl (fun ls hl => ?_)
                    refine lv_goto (tgt := 918) hx hb dL_law_822 (by decide) ?_
                    exact J_k624 v940 q936.2 a6 a5 a4 a3 A935 a1 a0 h ⟨cle hc1 (Nat.add_le_add_left (Nat.le_of_ble_eq_true rfl) _), cle hc2 (Nat.add_le_add_left (Nat.le_of_ble_eq_true rfl) _)⟩ hw (lv_sub hl [1, 2, 3, 4, 5, 6, 7, 8, 9, 10, 0] rfl)
                  intro k939 J_k939 h
                  refine lv_icmp_ne (tgt := 819) hx hb dL_law_812 (by decide) (fun c941 => ?_) (fun c941 => ?_)
                  · replace h := ifn c941 h
                    refine lv_iconst (v := (0 : Int32)) hx hb dL_law_819 (by decide) ?_
                    exact J_k939 (0 : Int32) h ⟨cle hc1 (Nat.add_le_add_left (Nat.le_of_ble_eq_true rfl) _), cle hc2 (Nat.add_le_add_left (Nat.le_of_ble_eq_true rfl) _)⟩ hw (lv_sub hl [0, 1, 2, 3, 4, 5, 6, 7, 8, 9] rfl)
                  · replace h := ifp c941 h
                    refine lv_iconst (v := (1 : Int32)) hx hb dL_law_815 (by decide) ?_
                    refine lv_goto (tgt := 820) hx hb dL_law_816 (by decide) ?_
                    exact J_k939 (1 : Int32) h ⟨cle hc1 (Nat.add_le_add_left (Nat.le_of_ble_eq_true rfl) _), cle hc2 (Nat.add_le_add_left (Nat.le_of_ble_eq_true rfl) _)⟩ hw (lv_sub hl [0, 1, 2, 3, 4, 5, 6, 7, 8, 9] rfl)
                intro k937 J_k937 h
                refine lv_icmp_ne (tgt := 810) hx hb dL_law_801 (by decide) (fun c942 => ?_) (fun c942 => ?_)
                · replace h := ifn c942 h
                  refine lv_iload hx hb dL_law_810 (lv_at hl 0 rfl) ?_
                  exact J_k937 v934 h ⟨cle hc1 (Nat.add_le_add_left (Nat.le_of_ble_eq_true rfl) _), cle hc2 (Nat.add_le_add_left (Nat.le_of_ble_eq_true rfl) _)⟩ hw (lv_sub hl [2, 3, 4, 5, 6, 7, 8, 9, 10, 11] rfl)
                · replace h := ifp c942 h
                  refine lv_sipush (v := (-10005 : Int32)) hx hb dL_law_804 (by decide) ?_
                  refine lv_goto (tgt := 812) hx hb dL_law_807 (by decide) ?_
                  exact J_k937 (-10005 : Int32) h ⟨cle hc1 (Nat.add_le_add_left (Nat.le_of_ble_eq_true rfl) _), cle hc2 (Nat.add_le_add_left (Nat.le_of_ble_eq_true rfl) _)⟩ hw (lv_sub hl [2, 3, 4, 5, 6, 7, 8, 9, 10, 11] rfl)
              intro k932 J_k932 h
              refine lv_if_ne (tgt := 728) hx hb dL_law_711 (by decide) (fun c943 => ?_) (fun c943 => ?_)
              · replace h := ifn c943 h
                refine lv_iload hx hb dL_law_728 (lv_at hl 0 rfl) ?_
                refine lv_iconst (v := (1 : Int32)) hx hb dL_law_730 (by decide) ?_
                refine lv_icmp_ne (tgt := 764) hx hb dL_law_731 (by decide) (fun c944 => ?_) (fun c944 => ?_)
                · replace h := ifn c944 h
                  refine lv_iload hx hb dL_law_764 (lv_at hl 4 rfl) ?_
                  refine lv_bipush (v := (6 : Int32)) hx hb dL_law_766 (by decide) ?_
                  refine lv_ishr hx hb dL_law_768 ?_
                  refine lv_iconst (v := (2 : Int32)) hx hb dL_law_769 (by decide) ?_
                  obtain ⟨v945, hv945, h⟩ := ob h
                  refine r_Si (rest := []) C0 zz (c_L_low hv945) lk_L_95 hl.1 rfl (Nat.le_of_ble_eq_true rfl) (by decide) hw dL_law_770 (fun {H} {locs} hw => ?_)
                  exact J_k932 v945 h ⟨cle hc1 (Nat.add_le_add_left (Nat.le_of_ble_eq_true rfl) _), cle hc2 (Nat.add_le_add_left (Nat.le_of_ble_eq_true rfl) _)⟩ hw (lv_sub hl [5, 6, 7, 8, 9, 10, 11, 12, 13, 14, 0] rfl)
                · replace h := ifp c944 h
                  refine lv_iload hx hb dL_law_734 (lv_at hl 4 rfl) ?_
                  refine lv_bipush (v := (6 : Int32)) hx hb dL_law_736 (by decide) ?_
                  refine lv_ishr hx hb dL_law_738 ?_
                  refine lv_iload hx hb dL_law_739 (lv_at hl 4 rfl) ?_
                  refine lv_bipush (v := (20 : Int32)) hx hb dL_law_741 (by decide) ?_
                  refine lv_ishr hx hb dL_law_743 ?_
                  refine lv_iconst (v := (2 : Int32)) hx hb dL_law_744 (by decide) ?_
                  obtain ⟨v946, hv946, h⟩ := ob h
                  refine r_Si (rest := [.int (v6 >>> ((6 : Int32) &&& 31))]) C0 zz (c_L_low hv946) lk_L_95 hl.1 rfl (Nat.le_of_ble_eq_true rfl) (by decide) hw dL_law_745 (fun {H} {locs} hw => ?_)
                  refine jn_elim h (fun (k : Int32 → Option (Int32)) => ∀ (v948 : Int32) {cells slots : Nat} {H : Heap} {locs : List Loc} {ls : Array Slot}, k v948 = some 1 → cells + (n * 3011 + 6022) ≤ MC ∧ slots + (n * 81245 + 162490) ≤ MS → Wo γ (mm (stT σ 0 T) [(j6, a6), (j5, a5), (j4, a4), (j3, a3), (j2, a2), (j1, a1), (j0, a0)]) s H locs → lv_has ls 22 [(0, .ref b), (1, .ref (eA γ 0)), (2, .ref (eA γ j0)), (3, .ref (eA γ j1)), (4, .ref (eA γ j2)), (5, .ref (eA γ j3)), (6, .ref (eA γ j4)), (7, .ref (eA γ j5)), (8, .ref (eA γ j6)), (9, .int x9), (14, .int v921)] → W p l e R s m args below meth c H locs cells slots Q (F0 m 758 ls [.int v948, .int (v6 >>> ((6 : Int32) &&& 31))])) ?_ ?_
                  · intro v948 cells slots H locs ls h hcs hw hl
                    obtain ⟨hc1, hc2⟩ := hcs
                    have zz := And.intro (cin hc1 hr1) (cin hc2 hr2)
                    obtain ⟨v949, hv949, h⟩ := ob h
                    refine r_Si (rest := []) C0 zz (c_L_low hv949) lk_L_95 hl.1 rfl (Nat.le_of_ble_eq_true rfl) (by decide) hw dL_law_758 (fun {H} {locs} hw => ?_)
                    refine lv_goto (tgt := 773) hx hb dL_law_761 (by decide) ?_
                    exact J_k932 v949 h ⟨cle hc1 (Nat.add_le_add_left (Nat.le_of_ble_eq_true rfl) _), cle hc2 (Nat.add_le_add_left (Nat.le_of_ble_eq_true rfl) _)⟩ hw (lv_sub hl [0, 1, 2, 3, 4, 5, 6, 7, 8, 9, 10] rfl)
                  intro k947 J_k947 h
                  refine lv_if_ne (tgt := 756) hx hb dL_law_748 (by decide) (fun c950 => ?_) (fun c950 => ?_)
                  · replace h := ifn c950 h
                    refine lv_bipush (v := (20 : Int32)) hx hb dL_law_756 (by decide) ?_
                    exact J_k947 (20 : Int32) h ⟨cle hc1 (Nat.add_le_add_left (Nat.le_of_ble_eq_true rfl) _), cle hc2 (Nat.add_le_add_left (Nat.le_of_ble_eq_true rfl) _)⟩ hw (lv_sub hl [5, 6, 7, 8, 9, 10, 11, 12, 13, 14, 0] rfl)
                  · replace h := ifp c950 h
                    refine lv_bipush (v := (41 : Int32)) hx hb dL_law_751 (by decide) ?_
                    refine lv_goto (tgt := 758) hx hb dL_law_753 (by decide) ?_
                    exact J_k947 (41 : Int32) h ⟨cle hc1 (Nat.add_le_add_left (Nat.le_of_ble_eq_true rfl) _), cle hc2 (Nat.add_le_add_left (Nat.le_of_ble_eq_true rfl) _)⟩ hw (lv_sub hl [5, 6, 7, 8, 9, 10, 11, 12, 13, 14, 0] rfl)
              · replace h := ifp c943 h
                refine lv_iconst (v := (1 : Int32)) hx hb dL_law_714 (by decide) ?_
                refine lv_iload hx hb dL_law_715 (lv_at hl 4 rfl) ?_
                refine lv_bipush (v := (6 : Int32)) hx hb dL_law_717 (by decide) ?_
                refine lv_ishr hx hb dL_law_719 ?_
                refine lv_iconst (v := (4 : Int32)) hx hb dL_law_720 (by decide) ?_
                obtain ⟨v951, hv951, h⟩ := ob h
                refine r_Si (rest := [.int (1 : Int32)]) C0 zz (c_L_low hv951) lk_L_95 hl.1 rfl (Nat.le_of_ble_eq_true rfl) (by decide) hw dL_law_721 (fun {H} {locs} hw => ?_)
                refine lv_iadd hx hb dL_law_724 ?_
                refine lv_goto (tgt := 773) hx hb dL_law_725 (by decide) ?_
                exact J_k932 ((1 : Int32) + v951) h ⟨cle hc1 (Nat.add_le_add_left (Nat.le_of_ble_eq_true rfl) _), cle hc2 (Nat.add_le_add_left (Nat.le_of_ble_eq_true rfl) _)⟩ hw (lv_sub hl [5, 6, 7, 8, 9, 10, 11, 12, 13, 14, 0] rfl)
          · replace h := ifn c913 h
            refine lv_iload hx hb dL_law_582 (lv_at hl 3 rfl) ?_
            refine lv_iconst (v := (4 : Int32)) hx hb dL_law_584 (by decide) ?_
            refine lv_ishr hx hb dL_law_585 ?_
            refine lv_iconst (v := (2 : Int32)) hx hb dL_law_586 (by decide) ?_
            obtain ⟨v952, hv952, h⟩ := ob h
            refine r_Si (rest := []) C0 zz (c_L_low hv952) lk_L_95 hl.1 rfl (Nat.le_of_ble_eq_true rfl) (by decide) hw dL_law_587 (fun {H} {locs} hw => ?_)
            refine lv_istore (lv' := [(14, .int v952), (13, .int (1 : Int32)), (12, .int v9), (11, .int v7), (10, .int v6), (0, .ref b), (1, .ref (eA γ 0)), (2, .ref (eA γ j0)), (3, .ref (eA γ j1)), (4, .ref (eA γ j2)), (5, .ref (eA γ j3)), (6, .ref (eA γ j4)), (7, .ref (eA γ j5)), (8, .ref (eA γ j6)), (9, .int x9)]) hx hb dL_law_590 hl (by decide) rfl (fun ls hl => ?_)
            refine lv_iload hx hb dL_law_592 (lv_at hl 4 rfl) ?_
            refine lv_iconst (v := (5 : Int32)) hx hb dL_law_594 (by decide) ?_
            refine lv_ishr hx hb dL_law_595 ?_
            refine lv_iconst (v := (5 : Int32)) hx hb dL_law_596 (by decide) ?_
            obtain ⟨v953, hv953, h⟩ := ob h
            refine r_Si (rest := []) C0 zz (c_L_low hv953) lk_L_95 hl.1 rfl (Nat.le_of_ble_eq_true rfl) (by decide) hw dL_law_597 (fun {H} {locs} hw => ?_)
            refine lv_istore (lv' := [(15, .int v953), (14, .int v952), (13, .int (1 : Int32)), (12, .int v9), (11, .int v7), (10, .int v6), (0, .ref b), (1, .ref (eA γ 0)), (2, .ref (eA γ j0)), (3, .ref (eA γ j1)), (4, .ref (eA γ j2)), (5, .ref (eA γ j3)), (6, .ref (eA γ j4)), (7, .ref (eA γ j5)), (8, .ref (eA γ j6)), (9, .int x9)]) hx hb dL_law_600 hl (by decide) rfl (fun ls hl => ?_)
            refine lv_iload hx hb dL_law_602 (lv_at hl 5 rfl) ?_
            refine lv_bipush (v := (8 : Int32)) hx hb dL_law_604 (by decide) ?_
            refine lv_ishr hx hb dL_law_606 ?_
            refine lv_iload hx hb dL_law_607 (lv_at hl 5 rfl) ?_
            refine lv_bipush (v := (20 : Int32)) hx hb dL_law_609 (by decide) ?_
            refine lv_ishr hx hb dL_law_611 ?_
            refine lv_iconst (v := (3 : Int32)) hx hb dL_law_612 (by decide) ?_
            obtain ⟨v954, hv954, h⟩ := ob h
            refine r_Si (rest := [.int (v6 >>> ((8 : Int32) &&& 31))]) C0 zz (c_L_low hv954) lk_L_95 hl.1 rfl (Nat.le_of_ble_eq_true rfl) (by decide) hw dL_law_613 (fun {H} {locs} hw => ?_)
            refine jn_elim h (fun (k : Int32 → Option (Int32)) => ∀ (v956 : Int32) {cells slots : Nat} {H : Heap} {locs : List Loc} {ls : Array Slot}, k v956 = some 1 → cells + (n * 3011 + 6022) ≤ MC ∧ slots + (n * 81245 + 162490) ≤ MS → Wo γ (mm (stT σ 0 T) [(j6, a6), (j5, a5), (j4, a4), (j3, a3), (j2, a2), (j1, a1), (j0, a0)]) s H locs → lv_has ls 22 [(0, .ref b), (1, .ref (eA γ 0)), (2, .ref (eA γ j0)), (3, .ref (eA γ j1)), (4, .ref (eA γ j2)), (5, .ref (eA γ j3)), (6, .ref (eA γ j4)), (7, .ref (eA γ j5)), (8, .ref (eA γ j6)), (9, .int x9), (14, .int v952), (15, .int v953)] → W p l e R s m args below meth c H locs cells slots Q (F0 m 625 ls [.int v956, .int (v6 >>> ((8 : Int32) &&& 31))])) ?_ ?_
            · intro v956 cells slots H locs ls h hcs hw hl
              obtain ⟨hc1, hc2⟩ := hcs
              have zz := And.intro (cin hc1 hr1) (cin hc2 hr2)
              obtain ⟨v957, hv957, h⟩ := ob h
              refine r_Si (rest := []) C0 zz (c_L_low hv957) lk_L_95 hl.1 rfl (Nat.le_of_ble_eq_true rfl) (by decide) hw dL_law_625 (fun {H} {locs} hw => ?_)
              refine lv_istore (lv' := [(16, .int v957), (0, .ref b), (1, .ref (eA γ 0)), (2, .ref (eA γ j0)), (3, .ref (eA γ j1)), (4, .ref (eA γ j2)), (5, .ref (eA γ j3)), (6, .ref (eA γ j4)), (7, .ref (eA γ j5)), (8, .ref (eA γ j6)), (9, .int x9), (14, .int v952), (15, .int v953)]) hx hb dL_law_628 hl (by decide) rfl (fun ls hl => ?_)
              refine lv_aload_n hx hb dL_law_630 rfl (lv_at hl 4 rfl) ?_
              refine lv_iconst (v := (5 : Int32)) hx hb dL_law_631 (by decide) ?_
              refine lv_iload hx hb dL_law_632 (lv_at hl 11 rfl) ?_
              refine lv_imul hx hb dL_law_634 ?_
              refine lv_iload hx hb dL_law_635 (lv_at hl 12 rfl) ?_
              refine lv_iadd hx hb dL_law_637 ?_
              obtain ⟨v958, hv958, h⟩ := ob h
              refine r_iald hx hb hK hw hA1 (mm_at (i := 5) (f := a1) hN rfl) hv958 dL_law_638 ?_
              refine lv_istore (lv' := [(17, .int v958), (16, .int v957), (0, .ref b), (1, .ref (eA γ 0)), (2, .ref (eA γ j0)), (3, .ref (eA γ j1)), (4, .ref (eA γ j2)), (5, .ref (eA γ j3)), (6, .ref (eA γ j4)), (7, .ref (eA γ j5)), (8, .ref (eA γ j6)), (9, .int x9), (14, .int v952), (15, .int v953)]) hx hb dL_law_639 hl (by decide) rfl (fun ls hl => ?_)
              refine lv_aload_n hx hb dL_law_641 rfl (lv_at hl 5 rfl) ?_
              refine lv_iconst (v := (5 : Int32)) hx hb dL_law_642 (by decide) ?_
              refine lv_iload hx hb dL_law_643 (lv_at hl 12 rfl) ?_
              refine lv_imul hx hb dL_law_645 ?_
              refine lv_iload hx hb dL_law_646 (lv_at hl 13 rfl) ?_
              refine lv_iadd hx hb dL_law_648 ?_
              refine lv_iload hx hb dL_law_649 (lv_at hl 1 rfl) ?_
              obtain ⟨A959, hA959, h⟩ := ob h
              refine r_astm (L := [(j6, a6), (j5, a5), (j4, a4), (j3, a3), (j2, a2), (j1, a1), (j0, a0)]) (L' := [(j6, a6), (j5, a5), (j4, a4), (j3, a3), (j2, a2), (j1, A959), (j0, a0)]) (i := 5) hx hb hK hd hN hw hA1 rfl hA959 rfl dL_law_651 (fun {H} {locs} hw => ?_)
              refine lv_aload_n hx hb dL_law_652 rfl (lv_at hl 3 rfl) ?_
              refine lv_iload hx hb dL_law_653 (lv_at hl 12 rfl) ?_
              refine lv_iload hx hb dL_law_655 (lv_at hl 13 rfl) ?_
              refine lv_iconst (v := (1 : Int32)) hx hb dL_law_657 (by decide) ?_
              refine lv_iadd hx hb dL_law_658 ?_
              refine lv_iload hx hb dL_law_659 (lv_at hl 1 rfl) ?_
              obtain ⟨q960, hq960, h⟩ := ob h
              refine r_Vi (rest := []) C0 zz (c_X4_setBag (γ := γ) (o := 0) hB hq960) lk_L_108 (X4_k0 hB) rfl rfl hl.1 rfl (Nat.le_of_ble_eq_true rfl) (by decide) (Wo.cg (mmT (σ := σ) (L := [(j6, a6), (j5, a5), (j4, a4), (j3, a3), (j2, a2), (j1, A959), (j0, a0)]) hC) hw) dL_law_661 (fun {H} {locs} hw => ?_)
              replace hw := Wo.cg (mmT (σ := σ) (T := q960.2) (L := [(j6, a6), (j5, a5), (j4, a4), (j3, a3), (j2, a2), (j1, A959), (j0, a0)]) hC).symm hw
              refine lv_iload hx hb dL_law_664 (lv_at hl 0 rfl) ?_
              refine lv_iload hx hb dL_law_666 (lv_at hl 1 rfl) ?_
              refine jn_elim h (fun (k : Int32 → Option (Int32)) => ∀ (v962 : Int32) {cells slots : Nat} {H : Heap} {locs : List Loc} {ls : Array Slot}, k v962 = some 1 → cells + (n * 3011 + 6022) ≤ MC ∧ slots + (n * 81245 + 162490) ≤ MS → Wo γ (mm (stT σ 0 q960.2) [(j6, a6), (j5, a5), (j4, a4), (j3, a3), (j2, a2), (j1, A959), (j0, a0)]) s H locs → lv_has ls 22 [(0, .ref b), (1, .ref (eA γ 0)), (2, .ref (eA γ j0)), (3, .ref (eA γ j1)), (4, .ref (eA γ j2)), (5, .ref (eA γ j3)), (6, .ref (eA γ j4)), (7, .ref (eA γ j5)), (8, .ref (eA γ j6)), (9, .int x9)] → W p l e R s m args below meth c H locs cells slots Q (F0 m 679 ls [.int v962, .int q960.1])) ?_ ?_
              · intro v962 cells slots H locs ls h hcs hw hl
                obtain ⟨hc1, hc2⟩ := hcs
                have zz := And.intro (cin hc1 hr1) (cin hc2 hr2)
                refine jn_elim h (fun (k : Int32 → Option (Int32)) => ∀ (v964 : Int32) {cells slots : Nat} {H : Heap} {locs : List Loc} {ls : Array Slot}, k v964 = some 1 → cells + (n * 3011 + 6022) ≤ MC ∧ slots + (n * 81245 + 162490) ≤ MS → Wo γ (mm (stT σ 0 q960.2) [(j6, a6), (j5, a5), (j4, a4), (j3, a3), (j2, a2), (j1, A959), (j0, a0)]) s H locs → lv_has ls 22 [(0, .ref b), (1, .ref (eA γ 0)), (2, .ref (eA γ j0)), (3, .ref (eA γ j1)), (4, .ref (eA γ j2)), (5, .ref (eA γ j3)), (6, .ref (eA γ j4)), (7, .ref (eA γ j5)), (8, .ref (eA γ j6)), (9, .int x9)] → W p l e R s m args below meth c H locs cells slots Q (F0 m 687 ls [.int v964])) ?_ ?_
                · intro v964 cells slots H locs ls h hcs hw hl
                  obtain ⟨hc1, hc2⟩ := hcs
                  have zz := And.intro (cin hc1 hr1) (cin hc2 hr2)
                  refine lv_istore (lv' := [(13, .int v964), (0, .ref b), (1, .ref (eA γ 0)), (2, .ref (eA γ j0)), (3, .ref (eA γ j1)), (4, .ref (eA γ j2)), (5, .ref (eA γ j3)), (6, .ref (eA γ j4)), (7, .ref (eA γ j5)), (8, .ref (eA γ j6)), (9, .int x9)]) hx hb dL_law_687 hl (by decide) rfl (fun ls hl => ?_)
                  refine lv_goto (tgt := 918) hx hb dL_law_689 (by decide) ?_
                  exact J_k624 v964 q960.2 a6 a5 a4 a3 a2 A959 a0 h ⟨cle hc1 (Nat.add_le_add_left (Nat.le_of_ble_eq_true rfl) _), cle hc2 (Nat.add_le_add_left (Nat.le_of_ble_eq_true rfl) _)⟩ hw (lv_sub hl [1, 2, 3, 4, 5, 6, 7, 8, 9, 10, 0] rfl)
                intro k963 J_k963 h
                refine lv_icmp_ne (tgt := 686) hx hb dL_law_679 (by decide) (fun c965 => ?_) (fun c965 => ?_)
                · replace h := ifn c965 h
                  refine lv_iconst (v := (0 : Int32)) hx hb dL_law_686 (by decide) ?_
                  exact J_k963 (0 : Int32) h ⟨cle hc1 (Nat.add_le_add_left (Nat.le_of_ble_eq_true rfl) _), cle hc2 (Nat.add_le_add_left (Nat.le_of_ble_eq_true rfl) _)⟩ hw (lv_sub hl [0, 1, 2, 3, 4, 5, 6, 7, 8, 9] rfl)
                · replace h := ifp c965 h
                  refine lv_iconst (v := (1 : Int32)) hx hb dL_law_682 (by decide) ?_
                  refine lv_goto (tgt := 687) hx hb dL_law_683 (by decide) ?_
                  exact J_k963 (1 : Int32) h ⟨cle hc1 (Nat.add_le_add_left (Nat.le_of_ble_eq_true rfl) _), cle hc2 (Nat.add_le_add_left (Nat.le_of_ble_eq_true rfl) _)⟩ hw (lv_sub hl [0, 1, 2, 3, 4, 5, 6, 7, 8, 9] rfl)
              intro k961 J_k961 h
              refine lv_icmp_ne (tgt := 677) hx hb dL_law_668 (by decide) (fun c966 => ?_) (fun c966 => ?_)
              · replace h := ifn c966 h
                refine lv_iload hx hb dL_law_677 (lv_at hl 0 rfl) ?_
                exact J_k961 v958 h ⟨cle hc1 (Nat.add_le_add_left (Nat.le_of_ble_eq_true rfl) _), cle hc2 (Nat.add_le_add_left (Nat.le_of_ble_eq_true rfl) _)⟩ hw (lv_sub hl [2, 3, 4, 5, 6, 7, 8, 9, 10, 11] rfl)
              · replace h := ifp c966 h
                refine lv_sipush (v := (-10005 : Int32)) hx hb dL_law_671 (by decide) ?_
                refine lv_goto (tgt := 679) hx hb dL_law_674 (by decide) ?_
                exact J_k961 (-10005 : Int32) h ⟨cle hc1 (Nat.add_le_add_left (Nat.le_of_ble_eq_true rfl) _), cle hc2 (Nat.add_le_add_left (Nat.le_of_ble_eq_true rfl) _)⟩ hw (lv_sub hl [2, 3, 4, 5, 6, 7, 8, 9, 10, 11] rfl)
            intro k955 J_k955 h
            refine lv_if_ne (tgt := 624) hx hb dL_law_616 (by decide) (fun c967 => ?_) (fun c967 => ?_)
            · replace h := ifn c967 h
              refine lv_iconst (v := (2 : Int32)) hx hb dL_law_624 (by decide) ?_
              exact J_k955 (2 : Int32) h ⟨cle hc1 (Nat.add_le_add_left (Nat.le_of_ble_eq_true rfl) _), cle hc2 (Nat.add_le_add_left (Nat.le_of_ble_eq_true rfl) _)⟩ hw (lv_sub hl [6, 7, 8, 9, 10, 11, 12, 13, 14, 15, 1, 0] rfl)
            · replace h := ifp c967 h
              refine lv_bipush (v := (7 : Int32)) hx hb dL_law_619 (by decide) ?_
              refine lv_goto (tgt := 625) hx hb dL_law_621 (by decide) ?_
              exact J_k955 (7 : Int32) h ⟨cle hc1 (Nat.add_le_add_left (Nat.le_of_ble_eq_true rfl) _), cle hc2 (Nat.add_le_add_left (Nat.le_of_ble_eq_true rfl) _)⟩ hw (lv_sub hl [6, 7, 8, 9, 10, 11, 12, 13, 14, 15, 1, 0] rfl)
        · replace h := ifn c912 h
          refine lv_iconst (v := (1 : Int32)) hx hb dL_law_472 (by decide) ?_
          refine lv_iload hx hb dL_law_473 (lv_at hl 3 rfl) ?_
          refine lv_bipush (v := (8 : Int32)) hx hb dL_law_475 (by decide) ?_
          refine lv_ishr hx hb dL_law_477 ?_
          refine lv_iconst (v := (5 : Int32)) hx hb dL_law_478 (by decide) ?_
          obtain ⟨v968, hv968, h⟩ := ob h
          refine r_Si (rest := [.int (1 : Int32)]) C0 zz (c_L_low hv968) lk_L_95 hl.1 rfl (Nat.le_of_ble_eq_true rfl) (by decide) hw dL_law_479 (fun {H} {locs} hw => ?_)
          refine lv_iadd hx hb dL_law_482 ?_
          obtain ⟨v969, ev969, h⟩ := jb h
          refine r_top ev969 ?_
          refine lv_istore (lv' := [(14, .int v969), (13, .int (1 : Int32)), (12, .int v9), (11, .int v7), (10, .int v6), (0, .ref b), (1, .ref (eA γ 0)), (2, .ref (eA γ j0)), (3, .ref (eA γ j1)), (4, .ref (eA γ j2)), (5, .ref (eA γ j3)), (6, .ref (eA γ j4)), (7, .ref (eA γ j5)), (8, .ref (eA γ j6)), (9, .int x9)]) hx hb dL_law_483 hl (by decide) rfl (fun ls hl => ?_)
          refine lv_iload hx hb dL_law_485 (lv_at hl 2 rfl) ?_
          obtain ⟨v970, hv970, h⟩ := ob h
          refine r_Si (rest := []) C0 zz (c_L_index hv970) lk_L_28 hl.1 rfl (Nat.le_of_ble_eq_true rfl) (by decide) hw dL_law_487 (fun {H} {locs} hw => ?_)
          refine lv_istore (lv' := [(15, .int v970), (14, .int v969), (13, .int (1 : Int32)), (12, .int v9), (11, .int v7), (10, .int v6), (0, .ref b), (1, .ref (eA γ 0)), (2, .ref (eA γ j0)), (3, .ref (eA γ j1)), (4, .ref (eA γ j2)), (5, .ref (eA γ j3)), (6, .ref (eA γ j4)), (7, .ref (eA γ j5)), (8, .ref (eA γ j6)), (9, .int x9)]) hx hb dL_law_490 hl (by decide) rfl (fun ls hl => ?_)
          refine lv_aload_n hx hb dL_law_492 rfl (lv_at hl 8 rfl) ?_
          refine lv_bipush (v := (48 : Int32)) hx hb dL_law_493 (by decide) ?_
          refine lv_iload hx hb dL_law_495 (lv_at hl 0 rfl) ?_
          refine lv_iadd hx hb dL_law_497 ?_
          obtain ⟨v971, hv971, h⟩ := ob h
          refine r_iald hx hb hK hw hA0 (mm_at (i := 6) (f := a0) hN rfl) hv971 dL_law_498 ?_
          refine lv_aload hx hb dL_law_499 (lv_at hl 10 rfl) ?_
          refine lv_iconst (v := (0 : Int32)) hx hb dL_law_501 (by decide) ?_
          obtain ⟨v972, hv972, h⟩ := ob h
          refine r_iald hx hb hK hw hA2 (mm_at (i := 4) (f := a2) hN rfl) hv972 dL_law_502 ?_
          refine jn_elim h (fun (k : Int32 → Option (Int32)) => ∀ (v974 : Int32) {cells slots : Nat} {H : Heap} {locs : List Loc} {ls : Array Slot}, k v974 = some 1 → cells + (n * 3011 + 6022) ≤ MC ∧ slots + (n * 81245 + 162490) ≤ MS → Wo γ (mm (stT σ 0 T) [(j6, a6), (j5, a5), (j4, a4), (j3, a3), (j2, a2), (j1, a1), (j0, a0)]) s H locs → lv_has ls 22 [(0, .ref b), (1, .ref (eA γ 0)), (2, .ref (eA γ j0)), (3, .ref (eA γ j1)), (4, .ref (eA γ j2)), (5, .ref (eA γ j3)), (6, .ref (eA γ j4)), (7, .ref (eA γ j5)), (8, .ref (eA γ j6)), (9, .int x9), (12, .int v9), (14, .int v969)] → W p l e R s m args below meth c H locs cells slots Q (F0 m 511 ls [.int v974])) ?_ ?_
          · intro v974 cells slots H locs ls h hcs hw hl
            obtain ⟨hc1, hc2⟩ := hcs
            have zz := And.intro (cin hc1 hr1) (cin hc2 hr2)
            refine lv_istore (lv' := [(16, .int v974), (0, .ref b), (1, .ref (eA γ 0)), (2, .ref (eA γ j0)), (3, .ref (eA γ j1)), (4, .ref (eA γ j2)), (5, .ref (eA γ j3)), (6, .ref (eA γ j4)), (7, .ref (eA γ j5)), (8, .ref (eA γ j6)), (9, .int x9), (12, .int v9), (14, .int v969)]) hx hb dL_law_511 hl (by decide) rfl (fun ls hl => ?_)
            refine lv_iload hx hb dL_law_513 (lv_at hl 0 rfl) ?_
            refine jn_elim h (fun (k : (Nat → Int32) → (Nat → Int32) → Option (Int32)) => ∀ (A981 : Nat → Int32) (A982 : Nat → Int32) {cells slots : Nat} {H : Heap} {locs : List Loc} {ls : Array Slot}, k A981 A982 = some 1 → cells + (n * 3011 + 6022) ≤ MC ∧ slots + (n * 81245 + 162490) ≤ MS → Wo γ (mm (stT σ 0 T) [(j6, a6), (j5, a5), (j4, a4), (j3, a3), (j2, A981), (j1, a1), (j0, A982)]) s H locs → lv_has ls 22 [(0, .ref b), (1, .ref (eA γ 0)), (2, .ref (eA γ j0)), (3, .ref (eA γ j1)), (4, .ref (eA γ j2)), (5, .ref (eA γ j3)), (6, .ref (eA γ j4)), (7, .ref (eA γ j5)), (8, .ref (eA γ j6)), (9, .int x9), (12, .int v9), (14, .int v969), (16, .int v974)] → W p l e R s m args below meth c H locs cells slots Q (F0 m 539 ls [])) ?_ ?_
            · intro A981 A982 cells slots H locs ls h hcs hw hl
              obtain ⟨hc1, hc2⟩ := hcs
              have zz := And.intro (cin hc1 hr1) (cin hc2 hr2)
              refine lv_aload_n hx hb dL_law_539 rfl (lv_at hl 1 rfl) ?_
              refine lv_iload hx hb dL_law_540 (lv_at hl 11 rfl) ?_
              refine lv_iload hx hb dL_law_542 (lv_at hl 10 rfl) ?_
              obtain ⟨q983, hq983, h⟩ := ob h
              refine r_Vi (rest := []) C0 zz (c_X4_setUp (γ := γ) (o := 0) hB hq983) lk_L_105 (X4_k0 hB) rfl rfl hl.1 rfl (Nat.le_of_ble_eq_true rfl) (by decide) (Wo.cg (mmT (σ := σ) (L := [(j6, a6), (j5, a5), (j4, a4), (j3, a3), (j2, A981), (j1, a1), (j0, A982)]) hC) hw) dL_law_544 (fun {H} {locs} hw => ?_)
              replace hw := Wo.cg (mmT (σ := σ) (T := q983.2) (L := [(j6, a6), (j5, a5), (j4, a4), (j3, a3), (j2, A981), (j1, a1), (j0, A982)]) hC).symm hw
              refine lv_iload hx hb dL_law_547 (lv_at hl 12 rfl) ?_
              refine jn_elim h (fun (k : Int32 → Option (Int32)) => ∀ (v986 : Int32) {cells slots : Nat} {H : Heap} {locs : List Loc} {ls : Array Slot}, k v986 = some 1 → cells + (n * 3011 + 6022) ≤ MC ∧ slots + (n * 81245 + 162490) ≤ MS → Wo γ (mm (stT σ 0 q983.2) [(j6, a6), (j5, a5), (j4, a4), (j3, a3), (j2, A981), (j1, a1), (j0, A982)]) s H locs → lv_has ls 22 [(0, .ref b), (1, .ref (eA γ 0)), (2, .ref (eA γ j0)), (3, .ref (eA γ j1)), (4, .ref (eA γ j2)), (5, .ref (eA γ j3)), (6, .ref (eA γ j4)), (7, .ref (eA γ j5)), (8, .ref (eA γ j6)), (9, .int x9)] → W p l e R s m args below meth c H locs cells slots Q (F0 m 562 ls [.int v986, .int q983.1])) ?_ ?_
              · intro v986 cells slots H locs ls h hcs hw hl
                obtain ⟨hc1, hc2⟩ := hcs
                have zz := And.intro (cin hc1 hr1) (cin hc2 hr2)
                refine jn_elim h (fun (k : Int32 → Option (Int32)) => ∀ (v988 : Int32) {cells slots : Nat} {H : Heap} {locs : List Loc} {ls : Array Slot}, k v988 = some 1 → cells + (n * 3011 + 6022) ≤ MC ∧ slots + (n * 81245 + 162490) ≤ MS → Wo γ (mm (stT σ 0 q983.2) [(j6, a6), (j5, a5), (j4, a4), (j3, a3), (j2, A981), (j1, a1), (j0, A982)]) s H locs → lv_has ls 22 [(0, .ref b), (1, .ref (eA γ 0)), (2, .ref (eA γ j0)), (3, .ref (eA γ j1)), (4, .ref (eA γ j2)), (5, .ref (eA γ j3)), (6, .ref (eA γ j4)), (7, .ref (eA γ j5)), (8, .ref (eA γ j6)), (9, .int x9)] → W p l e R s m args below meth c H locs cells slots Q (F0 m 570 ls [.int v988])) ?_ ?_
                · intro v988 cells slots H locs ls h hcs hw hl
                  obtain ⟨hc1, hc2⟩ := hcs
                  have zz := And.intro (cin hc1 hr1) (cin hc2 hr2)
                  refine lv_istore (lv' := [(13, .int v988), (0, .ref b), (1, .ref (eA γ 0)), (2, .ref (eA γ j0)), (3, .ref (eA γ j1)), (4, .ref (eA γ j2)), (5, .ref (eA γ j3)), (6, .ref (eA γ j4)), (7, .ref (eA γ j5)), (8, .ref (eA γ j6)), (9, .int x9)]) hx hb dL_law_570 hl (by decide) rfl (fun ls hl => ?_)
                  refine lv_goto (tgt := 918) hx hb dL_law_572 (by decide) ?_
                  exact J_k624 v988 q983.2 a6 a5 a4 a3 A981 a1 A982 h ⟨cle hc1 (Nat.add_le_add_left (Nat.le_of_ble_eq_true rfl) _), cle hc2 (Nat.add_le_add_left (Nat.le_of_ble_eq_true rfl) _)⟩ hw (lv_sub hl [1, 2, 3, 4, 5, 6, 7, 8, 9, 10, 0] rfl)
                intro k987 J_k987 h
                refine lv_icmp_ne (tgt := 569) hx hb dL_law_562 (by decide) (fun c989 => ?_) (fun c989 => ?_)
                · replace h := ifn c989 h
                  refine lv_iconst (v := (0 : Int32)) hx hb dL_law_569 (by decide) ?_
                  exact J_k987 (0 : Int32) h ⟨cle hc1 (Nat.add_le_add_left (Nat.le_of_ble_eq_true rfl) _), cle hc2 (Nat.add_le_add_left (Nat.le_of_ble_eq_true rfl) _)⟩ hw (lv_sub hl [0, 1, 2, 3, 4, 5, 6, 7, 8, 9] rfl)
                · replace h := ifp c989 h
                  refine lv_iconst (v := (1 : Int32)) hx hb dL_law_565 (by decide) ?_
                  refine lv_goto (tgt := 570) hx hb dL_law_566 (by decide) ?_
                  exact J_k987 (1 : Int32) h ⟨cle hc1 (Nat.add_le_add_left (Nat.le_of_ble_eq_true rfl) _), cle hc2 (Nat.add_le_add_left (Nat.le_of_ble_eq_true rfl) _)⟩ hw (lv_sub hl [0, 1, 2, 3, 4, 5, 6, 7, 8, 9] rfl)
              intro k985 J_k985 h
              refine lv_if_eq (tgt := 558) hx hb dL_law_549 (by decide) (fun c990 => ?_) (fun c990 => ?_)
              · replace h := ifp c990 h
                refine lv_aload_n hx hb dL_law_558 rfl (lv_at hl 2 rfl) ?_
                obtain ⟨v991, hv991, h⟩ := ob h
                refine r_Si (rest := [.int q983.1]) C0 zz (c_L_turn (μ := mm (stT σ 0 q983.2) [(j6, a6), (j5, a5), (j4, a4), (j3, a3), (j2, A981), (j1, a1), (j0, A982)]) (nd_sub hN [6] (by decide) rfl) hA0 hv991) lk_L_16 hl.1 rfl (Nat.le_of_ble_eq_true rfl) (by decide) (Wo.cg (mm_pre (μ := (stT σ 0 q983.2)) (L := [(j6, a6), (j5, a5), (j4, a4), (j3, a3), (j2, A981), (j1, a1), (j0, A982)]) (L' := [(j0, A982)]) hN [6] rfl) hw) dL_law_559 (fun {H} {locs} hw => ?_)
                replace hw := Wo.cg (mm_pre (μ := (stT σ 0 q983.2)) (L := [(j6, a6), (j5, a5), (j4, a4), (j3, a3), (j2, A981), (j1, a1), (j0, A982)]) (L' := [(j0, A982)]) hN [6] rfl).symm hw
                exact J_k985 v991 h ⟨cle hc1 (Nat.add_le_add_left (Nat.le_of_ble_eq_true rfl) _), cle hc2 (Nat.add_le_add_left (Nat.le_of_ble_eq_true rfl) _)⟩ hw (lv_sub hl [0, 1, 2, 3, 4, 5, 6, 7, 8, 9] rfl)
              · replace h := ifn c990 h
                refine lv_sipush (v := (-10003 : Int32)) hx hb dL_law_552 (by decide) ?_
                refine lv_goto (tgt := 562) hx hb dL_law_555 (by decide) ?_
                exact J_k985 (-10003 : Int32) h ⟨cle hc1 (Nat.add_le_add_left (Nat.le_of_ble_eq_true rfl) _), cle hc2 (Nat.add_le_add_left (Nat.le_of_ble_eq_true rfl) _)⟩ hw (lv_sub hl [0, 1, 2, 3, 4, 5, 6, 7, 8, 9] rfl)
            intro k980 J_k980 h
            refine lv_if_ne (tgt := 539) hx hb dL_law_515 (by decide) (fun c992 => ?_) (fun c992 => ?_)
            · replace h := ifn c992 h
              exact J_k980 a2 a0 h ⟨cle hc1 (Nat.add_le_add_left (Nat.le_of_ble_eq_true rfl) _), cle hc2 (Nat.add_le_add_left (Nat.le_of_ble_eq_true rfl) _)⟩ hw (lv_sub hl [1, 2, 3, 4, 5, 6, 7, 8, 9, 10, 11, 12, 0] rfl)
            · replace h := ifp c992 h
              refine lv_aload_n hx hb dL_law_518 rfl (lv_at hl 3 rfl) ?_
              refine lv_iload hx hb dL_law_519 (lv_at hl 11 rfl) ?_
              refine lv_iload hx hb dL_law_521 (lv_at hl 12 rfl) ?_
              obtain ⟨A993, hA993, h⟩ := ob h
              refine r_Sv (rest := []) C0 zz (c_L_put (μ := mm (stT σ 0 T) [(j6, a6), (j5, a5), (j4, a4), (j3, a3), (j2, a2), (j1, a1), (j0, a0)]) (nd_sub hN [6] (by decide) rfl) hA0 hA993) lk_L_35 hl.1 rfl (Nat.le_of_ble_eq_true rfl) (by decide) (Wo.cg (mm_pre (μ := (stT σ 0 T)) (L := [(j6, a6), (j5, a5), (j4, a4), (j3, a3), (j2, a2), (j1, a1), (j0, a0)]) (L' := [(j0, a0)]) hN [6] rfl) hw) dL_law_523 (fun {H} {locs} hw => ?_)
              replace hw := Wo.cg (mm_post (μ := (stT σ 0 T)) (L := [(j6, a6), (j5, a5), (j4, a4), (j3, a3), (j2, a2), (j1, a1), (j0, a0)]) (L' := [(j0, A993)]) (Ln := [(j6, a6), (j5, a5), (j4, a4), (j3, a3), (j2, a2), (j1, a1), (j0, A993)]) hN [(6, A993)] rfl rfl rfl) hw
              refine lv_aload hx hb dL_law_526 (lv_at hl 5 rfl) ?_
              refine lv_bipush (v := (7 : Int32)) hx hb dL_law_528 (by decide) ?_
              refine lv_dup2_11 hx hb dL_law_530 rfl rfl ?_
              obtain ⟨v994, hv994, h⟩ := ob h
              refine r_iald hx hb hK hw hA2 (mm_at (i := 4) (f := a2) hN rfl) hv994 dL_law_531 ?_
              refine lv_iload hx hb dL_law_532 (lv_at hl 12 rfl) ?_
              refine lv_iload hx hb dL_law_534 (lv_at hl 11 rfl) ?_
              refine lv_imul hx hb dL_law_536 ?_
              refine lv_iadd hx hb dL_law_537 ?_
              obtain ⟨A995, hA995, h⟩ := ob h
              refine r_astm (L := [(j6, a6), (j5, a5), (j4, a4), (j3, a3), (j2, a2), (j1, a1), (j0, A993)]) (L' := [(j6, a6), (j5, a5), (j4, a4), (j3, a3), (j2, A995), (j1, a1), (j0, A993)]) (i := 4) hx hb hK hd hN hw hA2 rfl hA995 rfl dL_law_538 (fun {H} {locs} hw => ?_)
              exact J_k980 A995 A993 h ⟨cle hc1 (Nat.add_le_add_left (Nat.le_of_ble_eq_true rfl) _), cle hc2 (Nat.add_le_add_left (Nat.le_of_ble_eq_true rfl) _)⟩ hw (lv_sub hl [1, 2, 3, 4, 5, 6, 7, 8, 9, 10, 11, 12, 0] rfl)
          intro k973 J_k973 h
          refine lv_icmp_lt (tgt := 510) hx hb dL_law_503 (by decide) (fun c996 => ?_) (fun c996 => ?_)
          · replace h := ifp c996 h
            refine lv_iconst (v := (0 : Int32)) hx hb dL_law_510 (by decide) ?_
            exact J_k973 (0 : Int32) h ⟨cle hc1 (Nat.add_le_add_left (Nat.le_of_ble_eq_true rfl) _), cle hc2 (Nat.add_le_add_left (Nat.le_of_ble_eq_true rfl) _)⟩ hw (lv_sub hl [6, 7, 8, 9, 10, 11, 12, 13, 14, 15, 3, 1] rfl)
          · replace h := ifn c996 h
            refine lv_iconst (v := (1 : Int32)) hx hb dL_law_506 (by decide) ?_
            refine lv_goto (tgt := 511) hx hb dL_law_507 (by decide) ?_
            exact J_k973 (1 : Int32) h ⟨cle hc1 (Nat.add_le_add_left (Nat.le_of_ble_eq_true rfl) _), cle hc2 (Nat.add_le_add_left (Nat.le_of_ble_eq_true rfl) _)⟩ hw (lv_sub hl [6, 7, 8, 9, 10, 11, 12, 13, 14, 15, 3, 1] rfl)
      · replace h := ifn c911 h
        refine lv_iload hx hb dL_law_137 (lv_at hl 2 rfl) ?_
        refine lv_bipush (v := (6 : Int32)) hx hb dL_law_139 (by decide) ?_
        refine jn_elim h (fun (k : Int32 → Option (Int32)) => ∀ (v1004 : Int32) {cells slots : Nat} {H : Heap} {locs : List Loc} {ls : Array Slot}, k v1004 = some 1 → cells + (n * 3011 + 6022) ≤ MC ∧ slots + (n * 81245 + 162490) ≤ MS → Wo γ (mm (stT σ 0 T) [(j6, a6), (j5, a5), (j4, a4), (j3, a3), (j2, a2), (j1, a1), (j0, a0)]) s H locs → lv_has ls 22 [(0, .ref b), (1, .ref (eA γ 0)), (2, .ref (eA γ j0)), (3, .ref (eA γ j1)), (4, .ref (eA γ j2)), (5, .ref (eA γ j3)), (6, .ref (eA γ j4)), (7, .ref (eA γ j5)), (8, .ref (eA γ j6)), (9, .int x9), (10, .int v6), (12, .int v9)] → W p l e R s m args below meth c H locs cells slots Q (F0 m 170 ls [.int v1004])) ?_ ?_
        · intro v1004 cells slots H locs ls h hcs hw hl
          obtain ⟨hc1, hc2⟩ := hcs
          have zz := And.intro (cin hc1 hr1) (cin hc2 hr2)
          refine lv_istore (lv' := [(14, .int v1004), (0, .ref b), (1, .ref (eA γ 0)), (2, .ref (eA γ j0)), (3, .ref (eA γ j1)), (4, .ref (eA γ j2)), (5, .ref (eA γ j3)), (6, .ref (eA γ j4)), (7, .ref (eA γ j5)), (8, .ref (eA γ j6)), (9, .int x9), (10, .int v6), (12, .int v9)]) hx hb dL_law_170 hl (by decide) rfl (fun ls hl => ?_)
          refine lv_aload_n hx hb dL_law_172 rfl (lv_at hl 2 rfl) ?_
          refine lv_bipush (v := (8 : Int32)) hx hb dL_law_173 (by decide) ?_
          obtain ⟨v1005, hv1005, h⟩ := ob h
          refine r_Vi (rest := []) C0 zz (c_X4_count (γ := γ) (o := 0) hB hv1005) lk_L_73 (X4_k0 hB) rfl rfl hl.1 rfl (Nat.le_of_ble_eq_true rfl) (by decide) (Wo.cg (mmT (σ := σ) (L := [(j6, a6), (j5, a5), (j4, a4), (j3, a3), (j2, a2), (j1, a1), (j0, a0)]) hC) hw) dL_law_175 (fun {H} {locs} hw => ?_)
          replace hw := Wo.cg (mmT (σ := σ) (T := T) (L := [(j6, a6), (j5, a5), (j4, a4), (j3, a3), (j2, a2), (j1, a1), (j0, a0)]) hC).symm hw
          refine lv_istore (lv' := [(15, .int v1005), (14, .int v1004), (0, .ref b), (1, .ref (eA γ 0)), (2, .ref (eA γ j0)), (3, .ref (eA γ j1)), (4, .ref (eA γ j2)), (5, .ref (eA γ j3)), (6, .ref (eA γ j4)), (7, .ref (eA γ j5)), (8, .ref (eA γ j6)), (9, .int x9), (10, .int v6), (12, .int v9)]) hx hb dL_law_178 hl (by decide) rfl (fun ls hl => ?_)
          refine lv_iload hx hb dL_law_180 (lv_at hl 0 rfl) ?_
          refine jn_elim h (fun (k : Int32 → Option (Int32)) => ∀ (v1018 : Int32) {cells slots : Nat} {H : Heap} {locs : List Loc} {ls : Array Slot}, k v1018 = some 1 → cells + (n * 3011 + 6022) ≤ MC ∧ slots + (n * 81245 + 162490) ≤ MS → Wo γ (mm (stT σ 0 T) [(j6, a6), (j5, a5), (j4, a4), (j3, a3), (j2, a2), (j1, a1), (j0, a0)]) s H locs → lv_has ls 22 [(0, .ref b), (1, .ref (eA γ 0)), (2, .ref (eA γ j0)), (3, .ref (eA γ j1)), (4, .ref (eA γ j2)), (5, .ref (eA γ j3)), (6, .ref (eA γ j4)), (7, .ref (eA γ j5)), (8, .ref (eA γ j6)), (9, .int x9)] → W p l e R s m args below meth c H locs cells slots Q (F0 m 225 ls [.int v1018])) ?_ ?_
          · intro v1018 cells slots H locs ls h hcs hw hl
            obtain ⟨hc1, hc2⟩ := hcs
            have zz := And.intro (cin hc1 hr1) (cin hc2 hr2)
            refine lv_istore (lv' := [(16, .int v1018), (0, .ref b), (1, .ref (eA γ 0)), (2, .ref (eA γ j0)), (3, .ref (eA γ j1)), (4, .ref (eA γ j2)), (5, .ref (eA γ j3)), (6, .ref (eA γ j4)), (7, .ref (eA γ j5)), (8, .ref (eA γ j6)), (9, .int x9)]) hx hb dL_law_225 hl (by decide) rfl (fun ls hl => ?_)
            refine lv_iload hx hb dL_law_227 (lv_at hl 0 rfl) ?_
            refine lv_bipush (v := (100 : Int32)) hx hb dL_law_229 (by decide) ?_
            obtain ⟨v1019, hv1019, h⟩ := ob h
            refine lv_idiv hx hb dL_law_231 (dvi_some hv1019).1 ?_
            refine r_top (dvi_some hv1019).2 ?_
            refine lv_istore (lv' := [(14, .int v1019), (16, .int v1018), (0, .ref b), (1, .ref (eA γ 0)), (2, .ref (eA γ j0)), (3, .ref (eA γ j1)), (4, .ref (eA γ j2)), (5, .ref (eA γ j3)), (6, .ref (eA γ j4)), (7, .ref (eA γ j5)), (8, .ref (eA γ j6)), (9, .int x9)]) hx hb dL_law_232 hl (by decide) rfl (fun ls hl => ?_)
            refine lv_iload hx hb dL_law_234 (lv_at hl 1 rfl) ?_
            refine lv_bipush (v := (100 : Int32)) hx hb dL_law_236 (by decide) ?_
            obtain ⟨v1020, hv1020, h⟩ := ob h
            refine lv_irem hx hb dL_law_238 (rmi_some hv1020).1 ?_
            refine r_top (rmi_some hv1020).2 ?_
            refine lv_bipush (v := (50 : Int32)) hx hb dL_law_239 (by decide) ?_
            refine lv_isub hx hb dL_law_241 ?_
            obtain ⟨v1021, ev1021, h⟩ := jb h
            refine r_top ev1021 ?_
            refine lv_istore (lv' := [(12, .int v1021), (14, .int v1019), (16, .int v1018), (0, .ref b), (1, .ref (eA γ 0)), (2, .ref (eA γ j0)), (3, .ref (eA γ j1)), (4, .ref (eA γ j2)), (5, .ref (eA γ j3)), (6, .ref (eA γ j4)), (7, .ref (eA γ j5)), (8, .ref (eA γ j6)), (9, .int x9)]) hx hb dL_law_242 hl (by decide) rfl (fun ls hl => ?_)
            refine lv_aload_n hx hb dL_law_244 rfl (lv_at hl 5 rfl) ?_
            refine lv_aload_n hx hb dL_law_245 rfl (lv_at hl 6 rfl) ?_
            refine lv_aload hx hb dL_law_246 (lv_at hl 7 rfl) ?_
            refine lv_iload hx hb dL_law_248 (lv_at hl 1 rfl) ?_
            refine lv_iload hx hb dL_law_250 (lv_at hl 0 rfl) ?_
            obtain ⟨v1022, hv1022, h⟩ := ob h
            refine r_Si (rest := []) C0 zz (c_L_why (μ := mm (stT σ 0 T) [(j6, a6), (j5, a5), (j4, a4), (j3, a3), (j2, a2), (j1, a1), (j0, a0)]) (nd_sub hN [6, 5, 4] (by decide) rfl) hA0 hA1 hA2 hv1022) lk_L_48 hl.1 rfl (Nat.le_of_ble_eq_true rfl) (by decide) (Wo.cg (mm_pre (μ := (stT σ 0 T)) (L := [(j6, a6), (j5, a5), (j4, a4), (j3, a3), (j2, a2), (j1, a1), (j0, a0)]) (L' := [(j0, a0), (j1, a1), (j2, a2)]) hN [6, 5, 4] rfl) hw) dL_law_252 (fun {H} {locs} hw => ?_)
            replace hw := Wo.cg (mm_pre (μ := (stT σ 0 T)) (L := [(j6, a6), (j5, a5), (j4, a4), (j3, a3), (j2, a2), (j1, a1), (j0, a0)]) (L' := [(j0, a0), (j1, a1), (j2, a2)]) hN [6, 5, 4] rfl).symm hw
            refine lv_istore (lv' := [(17, .int v1022), (12, .int v1021), (14, .int v1019), (16, .int v1018), (0, .ref b), (1, .ref (eA γ 0)), (2, .ref (eA γ j0)), (3, .ref (eA γ j1)), (4, .ref (eA γ j2)), (5, .ref (eA γ j3)), (6, .ref (eA γ j4)), (7, .ref (eA γ j5)), (8, .ref (eA γ j6)), (9, .int x9)]) hx hb dL_law_255 hl (by decide) rfl (fun ls hl => ?_)
            refine lv_aload_n hx hb dL_law_257 rfl (lv_at hl 6 rfl) ?_
            obtain ⟨v1023, hv1023, h⟩ := ob h
            refine r_Si (rest := []) C0 zz (c_L_turn (μ := mm (stT σ 0 T) [(j6, a6), (j5, a5), (j4, a4), (j3, a3), (j2, a2), (j1, a1), (j0, a0)]) (nd_sub hN [6] (by decide) rfl) hA0 hv1023) lk_L_16 hl.1 rfl (Nat.le_of_ble_eq_true rfl) (by decide) (Wo.cg (mm_pre (μ := (stT σ 0 T)) (L := [(j6, a6), (j5, a5), (j4, a4), (j3, a3), (j2, a2), (j1, a1), (j0, a0)]) (L' := [(j0, a0)]) hN [6] rfl) hw) dL_law_258 (fun {H} {locs} hw => ?_)
            replace hw := Wo.cg (mm_pre (μ := (stT σ 0 T)) (L := [(j6, a6), (j5, a5), (j4, a4), (j3, a3), (j2, a2), (j1, a1), (j0, a0)]) (L' := [(j0, a0)]) hN [6] rfl).symm hw
            refine lv_istore (lv' := [(18, .int v1023), (17, .int v1022), (12, .int v1021), (14, .int v1019), (16, .int v1018), (0, .ref b), (1, .ref (eA γ 0)), (2, .ref (eA γ j0)), (3, .ref (eA γ j1)), (4, .ref (eA γ j2)), (5, .ref (eA γ j3)), (6, .ref (eA γ j4)), (7, .ref (eA γ j5)), (8, .ref (eA γ j6)), (9, .int x9)]) hx hb dL_law_261 hl (by decide) rfl (fun ls hl => ?_)
            refine lv_aload hx hb dL_law_263 (lv_at hl 9 rfl) ?_
            refine lv_iconst (v := (4 : Int32)) hx hb dL_law_265 (by decide) ?_
            obtain ⟨v1024, hv1024, h⟩ := ob h
            refine r_iald hx hb hK hw hA2 (mm_at (i := 4) (f := a2) hN rfl) hv1024 dL_law_266 ?_
            refine lv_istore (lv' := [(19, .int v1024), (18, .int v1023), (17, .int v1022), (12, .int v1021), (14, .int v1019), (16, .int v1018), (0, .ref b), (1, .ref (eA γ 0)), (2, .ref (eA γ j0)), (3, .ref (eA γ j1)), (4, .ref (eA γ j2)), (5, .ref (eA γ j3)), (6, .ref (eA γ j4)), (7, .ref (eA γ j5)), (8, .ref (eA γ j6)), (9, .int x9)]) hx hb dL_law_267 hl (by decide) rfl (fun ls hl => ?_)
            refine lv_iload hx hb dL_law_269 (lv_at hl 2 rfl) ?_
            refine jn_elim h (fun (k : (Nat → Int32) → (Nat → Int32) → (Nat → Int32) → (Nat → Int32) → (Nat → Int32) → (Nat → Int32) → (Nat → Int32) → Option (Int32)) => ∀ (A1052 : Nat → Int32) (A1053 : Nat → Int32) (A1054 : Nat → Int32) (A1055 : Nat → Int32) (A1056 : Nat → Int32) (A1057 : Nat → Int32) (A1058 : Nat → Int32) {cells slots : Nat} {H : Heap} {locs : List Loc} {ls : Array Slot}, k A1052 A1053 A1054 A1055 A1056 A1057 A1058 = some 1 → cells + (n * 3011 + 6022) ≤ MC ∧ slots + (n * 81245 + 162490) ≤ MS → Wo γ (mm (stT σ 0 T) [(j6, A1052), (j5, A1053), (j4, A1054), (j3, A1055), (j2, A1056), (j1, A1057), (j0, A1058)]) s H locs → lv_has ls 22 [(0, .ref b), (1, .ref (eA γ 0)), (2, .ref (eA γ j0)), (3, .ref (eA γ j1)), (4, .ref (eA γ j2)), (5, .ref (eA γ j3)), (6, .ref (eA γ j4)), (7, .ref (eA γ j5)), (8, .ref (eA γ j6)), (9, .int x9), (12, .int v1021), (14, .int v1019), (17, .int v1022)] → W p l e R s m args below meth c H locs cells slots Q (F0 m 394 ls [])) ?_ ?_
            · intro A1052 A1053 A1054 A1055 A1056 A1057 A1058 cells slots H locs ls h hcs hw hl
              obtain ⟨hc1, hc2⟩ := hcs
              have zz := And.intro (cin hc1 hr1) (cin hc2 hr2)
              refine lv_iload hx hb dL_law_394 (lv_at hl 11 rfl) ?_
              refine lv_bipush (v := (6 : Int32)) hx hb dL_law_396 (by decide) ?_
              refine jn_elim h (fun (k : Int32 → (Nat → Mm) → Option (Int32)) => ∀ (v1066 : Int32) (T1067 : Nat → Mm) {cells slots : Nat} {H : Heap} {locs : List Loc} {ls : Array Slot}, k v1066 T1067 = some 1 → cells + (n * 3011 + 6022) ≤ MC ∧ slots + (n * 81245 + 162490) ≤ MS → Wo γ (mm (stT σ 0 T1067) [(j6, A1052), (j5, A1053), (j4, A1054), (j3, A1055), (j2, A1056), (j1, A1057), (j0, A1058)]) s H locs → lv_has ls 22 [(0, .ref b), (1, .ref (eA γ 0)), (2, .ref (eA γ j0)), (3, .ref (eA γ j1)), (4, .ref (eA γ j2)), (5, .ref (eA γ j3)), (6, .ref (eA γ j4)), (7, .ref (eA γ j5)), (8, .ref (eA γ j6)), (9, .int x9), (17, .int v1022)] → W p l e R s m args below meth c H locs cells slots Q (F0 m 430 ls [.int v1066])) ?_ ?_
              · intro v1066 T1067 cells slots H locs ls h hcs hw hl
                obtain ⟨hc1, hc2⟩ := hcs
                have zz := And.intro (cin hc1 hr1) (cin hc2 hr2)
                refine lv_istore (lv' := [(20, .int v1066), (0, .ref b), (1, .ref (eA γ 0)), (2, .ref (eA γ j0)), (3, .ref (eA γ j1)), (4, .ref (eA γ j2)), (5, .ref (eA γ j3)), (6, .ref (eA γ j4)), (7, .ref (eA γ j5)), (8, .ref (eA γ j6)), (9, .int x9), (17, .int v1022)]) hx hb dL_law_430 hl (by decide) rfl (fun ls hl => ?_)
                refine lv_iload hx hb dL_law_432 (lv_at hl 0 rfl) ?_
                refine lv_iload hx hb dL_law_434 (lv_at hl 11 rfl) ?_
                refine jn_elim h (fun (k : Int32 → Option (Int32)) => ∀ (v1071 : Int32) {cells slots : Nat} {H : Heap} {locs : List Loc} {ls : Array Slot}, k v1071 = some 1 → cells + (n * 3011 + 6022) ≤ MC ∧ slots + (n * 81245 + 162490) ≤ MS → Wo γ (mm (stT σ 0 T1067) [(j6, A1052), (j5, A1053), (j4, A1054), (j3, A1055), (j2, A1056), (j1, A1057), (j0, A1058)]) s H locs → lv_has ls 22 [(0, .ref b), (1, .ref (eA γ 0)), (2, .ref (eA γ j0)), (3, .ref (eA γ j1)), (4, .ref (eA γ j2)), (5, .ref (eA γ j3)), (6, .ref (eA γ j4)), (7, .ref (eA γ j5)), (8, .ref (eA γ j6)), (9, .int x9)] → W p l e R s m args below meth c H locs cells slots Q (F0 m 452 ls [.int v1071, .int v1066])) ?_ ?_
                · intro v1071 cells slots H locs ls h hcs hw hl
                  obtain ⟨hc1, hc2⟩ := hcs
                  have zz := And.intro (cin hc1 hr1) (cin hc2 hr2)
                  refine jn_elim h (fun (k : Int32 → Option (Int32)) => ∀ (v1073 : Int32) {cells slots : Nat} {H : Heap} {locs : List Loc} {ls : Array Slot}, k v1073 = some 1 → cells + (n * 3011 + 6022) ≤ MC ∧ slots + (n * 81245 + 162490) ≤ MS → Wo γ (mm (stT σ 0 T1067) [(j6, A1052), (j5, A1053), (j4, A1054), (j3, A1055), (j2, A1056), (j1, A1057), (j0, A1058)]) s H locs → lv_has ls 22 [(0, .ref b), (1, .ref (eA γ 0)), (2, .ref (eA γ j0)), (3, .ref (eA γ j1)), (4, .ref (eA γ j2)), (5, .ref (eA γ j3)), (6, .ref (eA γ j4)), (7, .ref (eA γ j5)), (8, .ref (eA γ j6)), (9, .int x9)] → W p l e R s m args below meth c H locs cells slots Q (F0 m 460 ls [.int v1073])) ?_ ?_
                  · intro v1073 cells slots H locs ls h hcs hw hl
                    obtain ⟨hc1, hc2⟩ := hcs
                    have zz := And.intro (cin hc1 hr1) (cin hc2 hr2)
                    refine lv_istore (lv' := [(13, .int v1073), (0, .ref b), (1, .ref (eA γ 0)), (2, .ref (eA γ j0)), (3, .ref (eA γ j1)), (4, .ref (eA γ j2)), (5, .ref (eA γ j3)), (6, .ref (eA γ j4)), (7, .ref (eA γ j5)), (8, .ref (eA γ j6)), (9, .int x9)]) hx hb dL_law_460 hl (by decide) rfl (fun ls hl => ?_)
                    refine lv_goto (tgt := 918) hx hb dL_law_462 (by decide) ?_
                    exact J_k624 v1073 T1067 A1052 A1053 A1054 A1055 A1056 A1057 A1058 h ⟨cle hc1 (Nat.add_le_add_left (Nat.le_of_ble_eq_true rfl) _), cle hc2 (Nat.add_le_add_left (Nat.le_of_ble_eq_true rfl) _)⟩ hw (lv_sub hl [1, 2, 3, 4, 5, 6, 7, 8, 9, 10, 0] rfl)
                  intro k1072 J_k1072 h
                  refine lv_icmp_ne (tgt := 459) hx hb dL_law_452 (by decide) (fun c1074 => ?_) (fun c1074 => ?_)
                  · replace h := ifn c1074 h
                    refine lv_iconst (v := (0 : Int32)) hx hb dL_law_459 (by decide) ?_
                    exact J_k1072 (0 : Int32) h ⟨cle hc1 (Nat.add_le_add_left (Nat.le_of_ble_eq_true rfl) _), cle hc2 (Nat.add_le_add_left (Nat.le_of_ble_eq_true rfl) _)⟩ hw (lv_sub hl [0, 1, 2, 3, 4, 5, 6, 7, 8, 9] rfl)
                  · replace h := ifp c1074 h
                    refine lv_iconst (v := (1 : Int32)) hx hb dL_law_455 (by decide) ?_
                    refine lv_goto (tgt := 460) hx hb dL_law_456 (by decide) ?_
                    exact J_k1072 (1 : Int32) h ⟨cle hc1 (Nat.add_le_add_left (Nat.le_of_ble_eq_true rfl) _), cle hc2 (Nat.add_le_add_left (Nat.le_of_ble_eq_true rfl) _)⟩ hw (lv_sub hl [0, 1, 2, 3, 4, 5, 6, 7, 8, 9] rfl)
                intro k1070 J_k1070 h
                refine lv_if_le (tgt := 448) hx hb dL_law_436 (by decide) (fun c1075 => ?_) (fun c1075 => ?_)
                · replace h := ifp c1075 h
                  refine lv_aload_n hx hb dL_law_448 rfl (lv_at hl 3 rfl) ?_
                  obtain ⟨v1076, hv1076, h⟩ := ob h
                  refine r_Si (rest := [.int v1066]) C0 zz (c_L_turn (μ := mm (stT σ 0 T1067) [(j6, A1052), (j5, A1053), (j4, A1054), (j3, A1055), (j2, A1056), (j1, A1057), (j0, A1058)]) (nd_sub hN [6] (by decide) rfl) hA0 hv1076) lk_L_16 hl.1 rfl (Nat.le_of_ble_eq_true rfl) (by decide) (Wo.cg (mm_pre (μ := (stT σ 0 T1067)) (L := [(j6, A1052), (j5, A1053), (j4, A1054), (j3, A1055), (j2, A1056), (j1, A1057), (j0, A1058)]) (L' := [(j0, A1058)]) hN [6] rfl) hw) dL_law_449 (fun {H} {locs} hw => ?_)
                  replace hw := Wo.cg (mm_pre (μ := (stT σ 0 T1067)) (L := [(j6, A1052), (j5, A1053), (j4, A1054), (j3, A1055), (j2, A1056), (j1, A1057), (j0, A1058)]) (L' := [(j0, A1058)]) hN [6] rfl).symm hw
                  exact J_k1070 v1076 h ⟨cle hc1 (Nat.add_le_add_left (Nat.le_of_ble_eq_true rfl) _), cle hc2 (Nat.add_le_add_left (Nat.le_of_ble_eq_true rfl) _)⟩ hw (lv_sub hl [1, 2, 3, 4, 5, 6, 7, 8, 9, 10] rfl)
                · replace h := ifn c1075 h
                  refine lv_sipush (v := (-10010 : Int32)) hx hb dL_law_439 (by decide) ?_
                  refine lv_iload hx hb dL_law_442 (lv_at hl 11 rfl) ?_
                  refine lv_isub hx hb dL_law_444 ?_
                  refine lv_goto (tgt := 452) hx hb dL_law_445 (by decide) ?_
                  exact J_k1070 ((-10010 : Int32) - v1022) h ⟨cle hc1 (Nat.add_le_add_left (Nat.le_of_ble_eq_true rfl) _), cle hc2 (Nat.add_le_add_left (Nat.le_of_ble_eq_true rfl) _)⟩ hw (lv_sub hl [1, 2, 3, 4, 5, 6, 7, 8, 9, 10] rfl)
              intro k1065 J_k1065 h
              refine lv_icmp_ge (tgt := 412) hx hb dL_law_398 (by decide) (fun c1077 => ?_) (fun c1077 => ?_)
              · replace h := ifp c1077 h
                refine lv_aload_n hx hb dL_law_412 rfl (lv_at hl 1 rfl) ?_
                refine lv_iload hx hb dL_law_413 (lv_at hl 10 rfl) ?_
                refine lv_iload hx hb dL_law_415 (lv_at hl 11 rfl) ?_
                refine lv_bipush (v := (6 : Int32)) hx hb dL_law_417 (by decide) ?_
                refine jn_elim h (fun (k : Int32 → Option (Int32)) => ∀ (v1079 : Int32) {cells slots : Nat} {H : Heap} {locs : List Loc} {ls : Array Slot}, k v1079 = some 1 → cells + (n * 3011 + 6022) ≤ MC ∧ slots + (n * 81245 + 162490) ≤ MS → Wo γ (mm (stT σ 0 T) [(j6, A1052), (j5, A1053), (j4, A1054), (j3, A1055), (j2, A1056), (j1, A1057), (j0, A1058)]) s H locs → lv_has ls 22 [(0, .ref b), (1, .ref (eA γ 0)), (2, .ref (eA γ j0)), (3, .ref (eA γ j1)), (4, .ref (eA γ j2)), (5, .ref (eA γ j3)), (6, .ref (eA γ j4)), (7, .ref (eA γ j5)), (8, .ref (eA γ j6)), (9, .int x9), (17, .int v1022)] → W p l e R s m args below meth c H locs cells slots Q (F0 m 427 ls [.int v1079, .int v1021, .ref (eA γ 0)])) ?_ ?_
                · intro v1079 cells slots H locs ls h hcs hw hl
                  obtain ⟨hc1, hc2⟩ := hcs
                  have zz := And.intro (cin hc1 hr1) (cin hc2 hr2)
                  obtain ⟨q1080, hq1080, h⟩ := ob h
                  refine r_Vi (rest := []) C0 zz (c_X4_push (γ := γ) (o := 0) hB hq1080) lk_L_101 (X4_k0 hB) rfl rfl hl.1 rfl (Nat.le_of_ble_eq_true rfl) (by decide) (Wo.cg (mmT (σ := σ) (L := [(j6, A1052), (j5, A1053), (j4, A1054), (j3, A1055), (j2, A1056), (j1, A1057), (j0, A1058)]) hC) hw) dL_law_427 (fun {H} {locs} hw => ?_)
                  replace hw := Wo.cg (mmT (σ := σ) (T := q1080.2) (L := [(j6, A1052), (j5, A1053), (j4, A1054), (j3, A1055), (j2, A1056), (j1, A1057), (j0, A1058)]) hC).symm hw
                  exact J_k1065 q1080.1 q1080.2 h ⟨cle hc1 (Nat.add_le_add_left (Nat.le_of_ble_eq_true rfl) _), cle hc2 (Nat.add_le_add_left (Nat.le_of_ble_eq_true rfl) _)⟩ hw (lv_sub hl [0, 1, 2, 3, 4, 5, 6, 7, 8, 9, 10] rfl)
                intro k1078 J_k1078 h
                refine lv_icmp_ne (tgt := 426) hx hb dL_law_419 (by decide) (fun c1081 => ?_) (fun c1081 => ?_)
                · replace h := ifn c1081 h
                  refine lv_iconst (v := (0 : Int32)) hx hb dL_law_426 (by decide) ?_
                  exact J_k1078 (0 : Int32) h ⟨cle hc1 (Nat.add_le_add_left (Nat.le_of_ble_eq_true rfl) _), cle hc2 (Nat.add_le_add_left (Nat.le_of_ble_eq_true rfl) _)⟩ hw (lv_sub hl [0, 1, 2, 3, 4, 5, 6, 7, 8, 9, 12] rfl)
                · replace h := ifp c1081 h
                  refine lv_iconst (v := (1 : Int32)) hx hb dL_law_422 (by decide) ?_
                  refine lv_goto (tgt := 427) hx hb dL_law_423 (by decide) ?_
                  exact J_k1078 (1 : Int32) h ⟨cle hc1 (Nat.add_le_add_left (Nat.le_of_ble_eq_true rfl) _), cle hc2 (Nat.add_le_add_left (Nat.le_of_ble_eq_true rfl) _)⟩ hw (lv_sub hl [0, 1, 2, 3, 4, 5, 6, 7, 8, 9, 12] rfl)
              · replace h := ifn c1077 h
                refine lv_aload_n hx hb dL_law_401 rfl (lv_at hl 1 rfl) ?_
                refine lv_iload hx hb dL_law_402 (lv_at hl 11 rfl) ?_
                refine lv_iload hx hb dL_law_404 (lv_at hl 10 rfl) ?_
                obtain ⟨q1082, hq1082, h⟩ := ob h
                refine r_Vi (rest := []) C0 zz (c_X4_lay (γ := γ) (o := 0) hB hq1082) lk_L_98 (X4_k0 hB) rfl rfl hl.1 rfl (Nat.le_of_ble_eq_true rfl) (by decide) (Wo.cg (mmT (σ := σ) (L := [(j6, A1052), (j5, A1053), (j4, A1054), (j3, A1055), (j2, A1056), (j1, A1057), (j0, A1058)]) hC) hw) dL_law_406 (fun {H} {locs} hw => ?_)
                replace hw := Wo.cg (mmT (σ := σ) (T := q1082.2) (L := [(j6, A1052), (j5, A1053), (j4, A1054), (j3, A1055), (j2, A1056), (j1, A1057), (j0, A1058)]) hC).symm hw
                refine lv_goto (tgt := 430) hx hb dL_law_409 (by decide) ?_
                exact J_k1065 q1082.1 q1082.2 h ⟨cle hc1 (Nat.add_le_add_left (Nat.le_of_ble_eq_true rfl) _), cle hc2 (Nat.add_le_add_left (Nat.le_of_ble_eq_true rfl) _)⟩ hw (lv_sub hl [0, 1, 2, 3, 4, 5, 6, 7, 8, 9, 12] rfl)
            intro k1051 J_k1051 h
            refine lv_if_ne (tgt := 394) hx hb dL_law_271 (by decide) (fun c1083 => ?_) (fun c1083 => ?_)
            · replace h := ifn c1083 h
              exact J_k1051 a6 a5 a4 a3 a2 a1 a0 h ⟨cle hc1 (Nat.add_le_add_left (Nat.le_of_ble_eq_true rfl) _), cle hc2 (Nat.add_le_add_left (Nat.le_of_ble_eq_true rfl) _)⟩ hw (lv_sub hl [6, 7, 8, 9, 10, 11, 12, 13, 14, 15, 3, 4, 2] rfl)
            · replace h := ifp c1083 h
              refine lv_aload_n hx hb dL_law_274 rfl (lv_at hl 8 rfl) ?_
              refine lv_aload_n hx hb dL_law_275 rfl (lv_at hl 9 rfl) ?_
              refine lv_aload hx hb dL_law_276 (lv_at hl 10 rfl) ?_
              refine lv_iload hx hb dL_law_278 (lv_at hl 4 rfl) ?_
              refine lv_iload hx hb dL_law_280 (lv_at hl 3 rfl) ?_
              obtain ⟨q1084, hq1084, h⟩ := ob h
              refine r_Sv (rest := []) C0 zz (c_L_move (μ := mm (stT σ 0 T) [(j6, a6), (j5, a5), (j4, a4), (j3, a3), (j2, a2), (j1, a1), (j0, a0)]) (nd_sub hN [6, 5, 4] (by decide) rfl) hA0 hA1 hA2 hq1084) lk_L_56 hl.1 rfl (Nat.le_of_ble_eq_true rfl) (by decide) (Wo.cg (mm_pre (μ := (stT σ 0 T)) (L := [(j6, a6), (j5, a5), (j4, a4), (j3, a3), (j2, a2), (j1, a1), (j0, a0)]) (L' := [(j0, a0), (j1, a1), (j2, a2)]) hN [6, 5, 4] rfl) hw) dL_law_282 (fun {H} {locs} hw => ?_)
              replace hw := Wo.cg (mm_post (μ := (stT σ 0 T)) (L := [(j6, a6), (j5, a5), (j4, a4), (j3, a3), (j2, a2), (j1, a1), (j0, a0)]) (L' := [(j0, q1084.1), (j1, q1084.2.1), (j2, q1084.2.2)]) (Ln := [(j6, a6), (j5, a5), (j4, a4), (j3, a3), (j2, q1084.2.2), (j1, q1084.2.1), (j0, q1084.1)]) hN [(6, q1084.1), (5, q1084.2.1), (4, q1084.2.2)] rfl rfl rfl) hw
              refine lv_aload_n hx hb dL_law_285 rfl (lv_at hl 8 rfl) ?_
              obtain ⟨v1085, hv1085, h⟩ := ob h
              refine r_Si (rest := []) C0 zz (c_L_turn (μ := mm (stT σ 0 T) [(j6, a6), (j5, a5), (j4, a4), (j3, a3), (j2, q1084.2.2), (j1, q1084.2.1), (j0, q1084.1)]) (nd_sub hN [6] (by decide) rfl) hA0 hv1085) lk_L_16 hl.1 rfl (Nat.le_of_ble_eq_true rfl) (by decide) (Wo.cg (mm_pre (μ := (stT σ 0 T)) (L := [(j6, a6), (j5, a5), (j4, a4), (j3, a3), (j2, q1084.2.2), (j1, q1084.2.1), (j0, q1084.1)]) (L' := [(j0, q1084.1)]) hN [6] rfl) hw) dL_law_286 (fun {H} {locs} hw => ?_)
              replace hw := Wo.cg (mm_pre (μ := (stT σ 0 T)) (L := [(j6, a6), (j5, a5), (j4, a4), (j3, a3), (j2, q1084.2.2), (j1, q1084.2.1), (j0, q1084.1)]) (L' := [(j0, q1084.1)]) hN [6] rfl).symm hw
              refine lv_istore (lv' := [(20, .int v1085), (19, .int v1024), (18, .int v1023), (17, .int v1022), (12, .int v1021), (14, .int v1019), (16, .int v1018), (0, .ref b), (1, .ref (eA γ 0)), (2, .ref (eA γ j0)), (3, .ref (eA γ j1)), (4, .ref (eA γ j2)), (5, .ref (eA γ j3)), (6, .ref (eA γ j4)), (7, .ref (eA γ j5)), (8, .ref (eA γ j6)), (9, .int x9)]) hx hb dL_law_289 hl (by decide) rfl (fun ls hl => ?_)
              refine lv_aload hx hb dL_law_291 (lv_at hl 11 rfl) ?_
              refine lv_iconst (v := (5 : Int32)) hx hb dL_law_293 (by decide) ?_
              obtain ⟨v1086, hv1086, h⟩ := ob h
              refine r_iald hx hb hK hw hA2 (mm_at (i := 4) (f := q1084.2.2) hN rfl) hv1086 dL_law_294 ?_
              refine lv_bipush (v := (40 : Int32)) hx hb dL_law_295 (by decide) ?_
              obtain ⟨v1087, hv1087, h⟩ := ob h
              refine lv_irem hx hb dL_law_297 (rmi_some hv1087).1 ?_
              refine r_top (rmi_some hv1087).2 ?_
              refine lv_istore (lv' := [(21, .int v1087), (20, .int v1085), (19, .int v1024), (18, .int v1023), (17, .int v1022), (12, .int v1021), (14, .int v1019), (16, .int v1018), (0, .ref b), (1, .ref (eA γ 0)), (2, .ref (eA γ j0)), (3, .ref (eA γ j1)), (4, .ref (eA γ j2)), (5, .ref (eA γ j3)), (6, .ref (eA γ j4)), (7, .ref (eA γ j5)), (8, .ref (eA γ j6)), (9, .int x9)]) hx hb dL_law_298 hl (by decide) rfl (fun ls hl => ?_)
              refine lv_aload hx hb dL_law_300 (lv_at hl 13 rfl) ?_
              refine lv_iload hx hb dL_law_302 (lv_at hl 0 rfl) ?_
              refine lv_iload hx hb dL_law_304 (lv_at hl 2 rfl) ?_
              obtain ⟨A1088, hA1088, h⟩ := ob h
              refine r_astm (L := [(j6, a6), (j5, a5), (j4, a4), (j3, a3), (j2, q1084.2.2), (j1, q1084.2.1), (j0, q1084.1)]) (L' := [(j6, a6), (j5, a5), (j4, a4), (j3, A1088), (j2, q1084.2.2), (j1, q1084.2.1), (j0, q1084.1)]) (i := 3) hx hb hK hd hN hw hA3 rfl hA1088 rfl dL_law_306 (fun {H} {locs} hw => ?_)
              refine lv_aload hx hb dL_law_307 (lv_at hl 14 rfl) ?_
              refine lv_iload hx hb dL_law_309 (lv_at hl 0 rfl) ?_
              refine lv_iload hx hb dL_law_311 (lv_at hl 6 rfl) ?_
              obtain ⟨A1089, hA1089, h⟩ := ob h
              refine r_astm (L := [(j6, a6), (j5, a5), (j4, a4), (j3, A1088), (j2, q1084.2.2), (j1, q1084.2.1), (j0, q1084.1)]) (L' := [(j6, a6), (j5, a5), (j4, A1089), (j3, A1088), (j2, q1084.2.2), (j1, q1084.2.1), (j0, q1084.1)]) (i := 2) hx hb hK hd hN hw hA4 rfl hA1089 rfl dL_law_313 (fun {H} {locs} hw => ?_)
              refine lv_aload hx hb dL_law_314 (lv_at hl 15 rfl) ?_
              refine lv_iload hx hb dL_law_316 (lv_at hl 0 rfl) ?_
              refine lv_iload hx hb dL_law_318 (lv_at hl 5 rfl) ?_
              obtain ⟨A1090, hA1090, h⟩ := ob h
              refine r_astm (L := [(j6, a6), (j5, a5), (j4, A1089), (j3, A1088), (j2, q1084.2.2), (j1, q1084.2.1), (j0, q1084.1)]) (L' := [(j6, a6), (j5, A1090), (j4, A1089), (j3, A1088), (j2, q1084.2.2), (j1, q1084.2.1), (j0, q1084.1)]) (i := 1) hx hb hK hd hN hw hA5 rfl hA1090 rfl dL_law_320 (fun {H} {locs} hw => ?_)
              refine lv_aload hx hb dL_law_321 (lv_at hl 16 rfl) ?_
              refine lv_iload hx hb dL_law_323 (lv_at hl 0 rfl) ?_
              refine lv_iload hx hb dL_law_325 (lv_at hl 1 rfl) ?_
              refine lv_iload hx hb dL_law_327 (lv_at hl 3 rfl) ?_
              refine lv_isub hx hb dL_law_329 ?_
              obtain ⟨A1091, hA1091, h⟩ := ob h
              refine r_astm (L := [(j6, a6), (j5, A1090), (j4, A1089), (j3, A1088), (j2, q1084.2.2), (j1, q1084.2.1), (j0, q1084.1)]) (L' := [(j6, A1091), (j5, A1090), (j4, A1089), (j3, A1088), (j2, q1084.2.2), (j1, q1084.2.1), (j0, q1084.1)]) (i := 0) hx hb hK hd hN hw hA6 rfl hA1091 rfl dL_law_330 (fun {H} {locs} hw => ?_)
              refine lv_aload hx hb dL_law_331 (lv_at hl 12 rfl) ?_
              refine lv_iconst (v := (5 : Int32)) hx hb dL_law_333 (by decide) ?_
              refine lv_dup2_11 hx hb dL_law_334 rfl rfl ?_
              obtain ⟨v1092, hv1092, h⟩ := ob h
              refine r_iald hx hb hK hw hA2 (mm_at (i := 4) (f := q1084.2.2) hN rfl) hv1092 dL_law_335 ?_
              refine lv_iconst (v := (1 : Int32)) hx hb dL_law_336 (by decide) ?_
              refine lv_iadd hx hb dL_law_337 ?_
              obtain ⟨A1093, hA1093, h⟩ := ob h
              refine r_astm (L := [(j6, A1091), (j5, A1090), (j4, A1089), (j3, A1088), (j2, q1084.2.2), (j1, q1084.2.1), (j0, q1084.1)]) (L' := [(j6, A1091), (j5, A1090), (j4, A1089), (j3, A1088), (j2, A1093), (j1, q1084.2.1), (j0, q1084.1)]) (i := 4) hx hb hK hd hN hw hA2 rfl hA1093 rfl dL_law_338 (fun {H} {locs} hw => ?_)
              refine lv_aload hx hb dL_law_339 (lv_at hl 12 rfl) ?_
              refine lv_bipush (v := (6 : Int32)) hx hb dL_law_341 (by decide) ?_
              refine lv_dup2_11 hx hb dL_law_343 rfl rfl ?_
              obtain ⟨v1094, hv1094, h⟩ := ob h
              refine r_iald hx hb hK hw hA2 (mm_at (i := 4) (f := A1093) hN rfl) hv1094 dL_law_344 ?_
              refine lv_iload hx hb dL_law_345 (lv_at hl 1 rfl) ?_
              refine lv_iload hx hb dL_law_347 (lv_at hl 3 rfl) ?_
              refine lv_isub hx hb dL_law_349 ?_
              refine lv_iadd hx hb dL_law_350 ?_
              obtain ⟨A1095, hA1095, h⟩ := ob h
              refine r_astm (L := [(j6, A1091), (j5, A1090), (j4, A1089), (j3, A1088), (j2, A1093), (j1, q1084.2.1), (j0, q1084.1)]) (L' := [(j6, A1091), (j5, A1090), (j4, A1089), (j3, A1088), (j2, A1095), (j1, q1084.2.1), (j0, q1084.1)]) (i := 4) hx hb hK hd hN hw hA2 rfl hA1095 rfl dL_law_351 (fun {H} {locs} hw => ?_)
              refine lv_aload hx hb dL_law_352 (lv_at hl 12 rfl) ?_
              refine lv_bipush (v := (8 : Int32)) hx hb dL_law_354 (by decide) ?_
              refine lv_iload hx hb dL_law_356 (lv_at hl 1 rfl) ?_
              refine lv_aload hx hb dL_law_358 (lv_at hl 12 rfl) ?_
              refine lv_bipush (v := (8 : Int32)) hx hb dL_law_360 (by decide) ?_
              obtain ⟨v1096, hv1096, h⟩ := ob h
              refine r_iald hx hb hK hw hA2 (mm_at (i := 4) (f := A1095) hN rfl) hv1096 dL_law_362 ?_
              refine jn_elim h (fun (k : Int32 → Option (Int32)) => ∀ (v1102 : Int32) {cells slots : Nat} {H : Heap} {locs : List Loc} {ls : Array Slot}, k v1102 = some 1 → cells + (n * 3011 + 6022) ≤ MC ∧ slots + (n * 81245 + 162490) ≤ MS → Wo γ (mm (stT σ 0 T) [(j6, A1091), (j5, A1090), (j4, A1089), (j3, A1088), (j2, A1095), (j1, q1084.2.1), (j0, q1084.1)]) s H locs → lv_has ls 22 [(0, .ref b), (1, .ref (eA γ 0)), (2, .ref (eA γ j0)), (3, .ref (eA γ j1)), (4, .ref (eA γ j2)), (5, .ref (eA γ j3)), (6, .ref (eA γ j4)), (7, .ref (eA γ j5)), (8, .ref (eA γ j6)), (9, .int x9), (12, .int v1021), (14, .int v1019), (17, .int v1022)] → W p l e R s m args below meth c H locs cells slots Q (F0 m 393 ls [.int v1102, .int (8 : Int32), .ref (eA γ j2)])) ?_ ?_
              · intro v1102 cells slots H locs ls h hcs hw hl
                obtain ⟨hc1, hc2⟩ := hcs
                have zz := And.intro (cin hc1 hr1) (cin hc2 hr2)
                obtain ⟨A1103, hA1103, h⟩ := ob h
                refine r_astm (L := [(j6, A1091), (j5, A1090), (j4, A1089), (j3, A1088), (j2, A1095), (j1, q1084.2.1), (j0, q1084.1)]) (L' := [(j6, A1091), (j5, A1090), (j4, A1089), (j3, A1088), (j2, A1103), (j1, q1084.2.1), (j0, q1084.1)]) (i := 4) hx hb hK hd hN hw hA2 rfl hA1103 rfl dL_law_393 (fun {H} {locs} hw => ?_)
                exact J_k1051 A1091 A1090 A1089 A1088 A1103 q1084.2.1 q1084.1 h ⟨cle hc1 (Nat.add_le_add_left (Nat.le_of_ble_eq_true rfl) _), cle hc2 (Nat.add_le_add_left (Nat.le_of_ble_eq_true rfl) _)⟩ hw (lv_sub hl [0, 1, 2, 3, 4, 5, 6, 7, 8, 9, 10, 11, 12] rfl)
              intro k1101 J_k1101 h
              refine lv_icmp_le (tgt := 371) hx hb dL_law_363 (by decide) (fun c1104 => ?_) (fun c1104 => ?_)
              · replace h := ifp c1104 h
                refine lv_iload hx hb dL_law_371 (lv_at hl 1 rfl) ?_
                refine lv_ineg hx hb dL_law_373 ?_
                refine lv_aload hx hb dL_law_374 (lv_at hl 12 rfl) ?_
                refine lv_bipush (v := (8 : Int32)) hx hb dL_law_376 (by decide) ?_
                obtain ⟨v1105, hv1105, h⟩ := ob h
                refine r_iald hx hb hK hw hA2 (mm_at (i := 4) (f := A1095) hN rfl) hv1105 dL_law_378 ?_
                refine lv_icmp_le (tgt := 388) hx hb dL_law_379 (by decide) (fun c1106 => ?_) (fun c1106 => ?_)
                · replace h := ifp c1106 h
                  refine lv_aload hx hb dL_law_388 (lv_at hl 12 rfl) ?_
                  refine lv_bipush (v := (8 : Int32)) hx hb dL_law_390 (by decide) ?_
                  obtain ⟨v1107, hv1107, h⟩ := ob h
                  refine r_iald hx hb hK hw hA2 (mm_at (i := 4) (f := A1095) hN rfl) hv1107 dL_law_392 ?_
                  exact J_k1101 v1107 h ⟨cle hc1 (Nat.add_le_add_left (Nat.le_of_ble_eq_true rfl) _), cle hc2 (Nat.add_le_add_left (Nat.le_of_ble_eq_true rfl) _)⟩ hw (lv_sub hl [8, 9, 10, 11, 12, 13, 14, 15, 16, 17, 5, 6, 4] rfl)
                · replace h := ifn c1106 h
                  refine lv_iload hx hb dL_law_382 (lv_at hl 1 rfl) ?_
                  refine lv_ineg hx hb dL_law_384 ?_
                  refine lv_goto (tgt := 393) hx hb dL_law_385 (by decide) ?_
                  exact J_k1101 (-v1085) h ⟨cle hc1 (Nat.add_le_add_left (Nat.le_of_ble_eq_true rfl) _), cle hc2 (Nat.add_le_add_left (Nat.le_of_ble_eq_true rfl) _)⟩ hw (lv_sub hl [8, 9, 10, 11, 12, 13, 14, 15, 16, 17, 5, 6, 4] rfl)
              · replace h := ifn c1104 h
                refine lv_iload hx hb dL_law_366 (lv_at hl 1 rfl) ?_
                refine lv_goto (tgt := 393) hx hb dL_law_368 (by decide) ?_
                exact J_k1101 v1085 h ⟨cle hc1 (Nat.add_le_add_left (Nat.le_of_ble_eq_true rfl) _), cle hc2 (Nat.add_le_add_left (Nat.le_of_ble_eq_true rfl) _)⟩ hw (lv_sub hl [8, 9, 10, 11, 12, 13, 14, 15, 16, 17, 5, 6, 4] rfl)
          intro k1017 J_k1017 h
          refine jn_elim h (fun (k : Unit → Option (Int32)) => ∀ (u : Unit) {cells slots : Nat} {H : Heap} {locs : List Loc} {ls : Array Slot}, k u = some 1 → cells + (n * 3011 + 6022) ≤ MC ∧ slots + (n * 81245 + 162490) ≤ MS → Wo γ (mm (stT σ 0 T) [(j6, a6), (j5, a5), (j4, a4), (j3, a3), (j2, a2), (j1, a1), (j0, a0)]) s H locs → lv_has ls 22 [(0, .ref b), (1, .ref (eA γ 0)), (2, .ref (eA γ j0)), (3, .ref (eA γ j1)), (4, .ref (eA γ j2)), (5, .ref (eA γ j3)), (6, .ref (eA γ j4)), (7, .ref (eA γ j5)), (8, .ref (eA γ j6)), (9, .int x9), (12, .int v9), (14, .int v1004)] → W p l e R s m args below meth c H locs cells slots Q (F0 m 214 ls [])) ?_ ?_
          · intro u cells slots H locs ls h hcs hw hl
            obtain ⟨hc1, hc2⟩ := hcs
            have zz := And.intro (cin hc1 hr1) (cin hc2 hr2)
            refine lv_bipush (v := (100 : Int32)) hx hb dL_law_214 (by decide) ?_
            refine lv_iload hx hb dL_law_216 (lv_at hl 11 rfl) ?_
            refine lv_imul hx hb dL_law_218 ?_
            refine lv_iload hx hb dL_law_219 (lv_at hl 10 rfl) ?_
            refine lv_iadd hx hb dL_law_221 ?_
            refine lv_bipush (v := (50 : Int32)) hx hb dL_law_222 (by decide) ?_
            refine lv_iadd hx hb dL_law_224 ?_
            exact J_k1017 ((((100 : Int32) * v1004) + v9) + (50 : Int32)) h ⟨cle hc1 (Nat.add_le_add_left (Nat.le_of_ble_eq_true rfl) _), cle hc2 (Nat.add_le_add_left (Nat.le_of_ble_eq_true rfl) _)⟩ hw (lv_sub hl [0, 1, 2, 3, 4, 5, 6, 7, 8, 9] rfl)
          intro k1769 J_k1769 h
          refine lv_if_le (tgt := 214) hx hb dL_law_182 (by decide) (fun c1770 => ?_) (fun c1770 => ?_)
          · replace h := ifp c1770 h
            exact J_k1769 () h ⟨cle hc1 (Nat.add_le_add_left (Nat.le_of_ble_eq_true rfl) _), cle hc2 (Nat.add_le_add_left (Nat.le_of_ble_eq_true rfl) _)⟩ hw (lv_sub hl [2, 3, 4, 5, 6, 7, 8, 9, 10, 11, 13, 1] rfl)
          · replace h := ifn c1770 h
            refine lv_iload hx hb dL_law_185 (lv_at hl 12 rfl) ?_
            refine lv_bipush (v := (20 : Int32)) hx hb dL_law_187 (by decide) ?_
            refine lv_ishr hx hb dL_law_189 ?_
            refine lv_iconst (v := (4 : Int32)) hx hb dL_law_190 (by decide) ?_
            obtain ⟨v1771, hv1771, h⟩ := ob h
            refine r_Si (rest := []) C0 zz (c_L_low hv1771) lk_L_95 hl.1 rfl (Nat.le_of_ble_eq_true rfl) (by decide) hw dL_law_191 (fun {H} {locs} hw => ?_)
            refine lv_if_le (tgt := 214) hx hb dL_law_194 (by decide) (fun c1772 => ?_) (fun c1772 => ?_)
            · replace h := ifp c1772 h
              exact J_k1769 () h ⟨cle hc1 (Nat.add_le_add_left (Nat.le_of_ble_eq_true rfl) _), cle hc2 (Nat.add_le_add_left (Nat.le_of_ble_eq_true rfl) _)⟩ hw (lv_sub hl [2, 3, 4, 5, 6, 7, 8, 9, 10, 11, 13, 1] rfl)
            · replace h := ifn c1772 h
              refine lv_aload_n hx hb dL_law_197 rfl (lv_at hl 3 rfl) ?_
              refine lv_iload hx hb dL_law_198 (lv_at hl 12 rfl) ?_
              refine lv_bipush (v := (8 : Int32)) hx hb dL_law_200 (by decide) ?_
              refine lv_ishr hx hb dL_law_202 ?_
              refine lv_iload hx hb dL_law_203 (lv_at hl 0 rfl) ?_
              obtain ⟨v1773, hv1773, h⟩ := ob h
              refine r_Si (rest := [.ref (eA γ 0)]) C0 zz (c_L_low hv1773) lk_L_95 hl.1 rfl (Nat.le_of_ble_eq_true rfl) (by decide) hw dL_law_205 (fun {H} {locs} hw => ?_)
              obtain ⟨v1774, hv1774, h⟩ := ob h
              refine r_Vi (rest := []) C0 zz (c_X4_possible (γ := γ) (o := 0) hB hv1774) lk_L_70 (X4_k0 hB) rfl rfl hl.1 rfl (Nat.le_of_ble_eq_true rfl) (by decide) (Wo.cg (mmT (σ := σ) (L := [(j6, a6), (j5, a5), (j4, a4), (j3, a3), (j2, a2), (j1, a1), (j0, a0)]) hC) hw) dL_law_208 (fun {H} {locs} hw => ?_)
              replace hw := Wo.cg (mmT (σ := σ) (T := T) (L := [(j6, a6), (j5, a5), (j4, a4), (j3, a3), (j2, a2), (j1, a1), (j0, a0)]) hC).symm hw
              refine lv_goto (tgt := 225) hx hb dL_law_211 (by decide) ?_
              exact J_k1017 v1774 h ⟨cle hc1 (Nat.add_le_add_left (Nat.le_of_ble_eq_true rfl) _), cle hc2 (Nat.add_le_add_left (Nat.le_of_ble_eq_true rfl) _)⟩ hw (lv_sub hl [2, 3, 4, 5, 6, 7, 8, 9, 10, 11] rfl)
        intro k1003 J_k1003 h
        refine lv_icmp_ge (tgt := 158) hx hb dL_law_141 (by decide) (fun c1775 => ?_) (fun c1775 => ?_)
        · replace h := ifp c1775 h
          refine lv_bipush (v := (6 : Int32)) hx hb dL_law_158 (by decide) ?_
          refine lv_iload hx hb dL_law_160 (lv_at hl 3 rfl) ?_
          refine lv_bipush (v := (8 : Int32)) hx hb dL_law_162 (by decide) ?_
          refine lv_ishr hx hb dL_law_164 ?_
          refine lv_iconst (v := (2 : Int32)) hx hb dL_law_165 (by decide) ?_
          obtain ⟨v1776, hv1776, h⟩ := ob h
          refine r_Si (rest := [.int (6 : Int32)]) C0 zz (c_L_low hv1776) lk_L_95 hl.1 rfl (Nat.le_of_ble_eq_true rfl) (by decide) hw dL_law_166 (fun {H} {locs} hw => ?_)
          refine lv_iadd hx hb dL_law_169 ?_
          exact J_k1003 ((6 : Int32) + v1776) h ⟨cle hc1 (Nat.add_le_add_left (Nat.le_of_ble_eq_true rfl) _), cle hc2 (Nat.add_le_add_left (Nat.le_of_ble_eq_true rfl) _)⟩ hw (lv_sub hl [4, 5, 6, 7, 8, 9, 10, 11, 12, 13, 3, 1] rfl)
        · replace h := ifn c1775 h
          refine lv_iconst (v := (1 : Int32)) hx hb dL_law_144 (by decide) ?_
          refine lv_iload hx hb dL_law_145 (lv_at hl 3 rfl) ?_
          refine lv_bipush (v := (8 : Int32)) hx hb dL_law_147 (by decide) ?_
          refine lv_ishr hx hb dL_law_149 ?_
          refine lv_iconst (v := (5 : Int32)) hx hb dL_law_150 (by decide) ?_
          obtain ⟨v1777, hv1777, h⟩ := ob h
          refine r_Si (rest := [.int (1 : Int32)]) C0 zz (c_L_low hv1777) lk_L_95 hl.1 rfl (Nat.le_of_ble_eq_true rfl) (by decide) hw dL_law_151 (fun {H} {locs} hw => ?_)
          refine lv_iadd hx hb dL_law_154 ?_
          refine lv_goto (tgt := 170) hx hb dL_law_155 (by decide) ?_
          exact J_k1003 ((1 : Int32) + v1777) h ⟨cle hc1 (Nat.add_le_add_left (Nat.le_of_ble_eq_true rfl) _), cle hc2 (Nat.add_le_add_left (Nat.le_of_ble_eq_true rfl) _)⟩ hw (lv_sub hl [4, 5, 6, 7, 8, 9, 10, 11, 12, 13, 3, 1] rfl)
set_option maxHeartbeats 4000000 in
set_option maxRecDepth 10000 in
theorem b_L_law_L68 {γ0 γ : Ev} {σ : Mm} {j6 : Nat} {j5 : Nat} {j4 : Nat} {j3 : Nat} {j2 : Nat} {j1 : Nat} {j0 : Nat} {MC MS : Nat} {b LL : Nat} {xs : Nat → Int32} {Q : State → Prop} (C : Cx p R s m args meth c RL cL_law 22 (some .boolean) 92 3407 γ0) (hS : Sub γ0 γ) (hd : dis γ) (hA : ∀ q, s.heap.size ≤ q → AK γ q) (hR : MC ≤ R.cells ∧ MS ≤ R.slots) (hN : ([j6, j5, j4, j3, j2, j1, j0] : List Nat).Nodup) (hlt : ∀ i ∈ ([j6, j5, j4, j3, j2, j1, j0] : List Nat), i < eN γ) (hlo : ∀ i ∈ ([j6, j5, j4, j3, j2, j1, j0] : List Nat), eN γ0 ≤ i) (hA6 : isA γ j6 40) (hA5 : isA γ j5 40) (hA4 : isA γ j4 40) (hA3 : isA γ j3 40) (hA2 : isA γ j2 11) (hA1 : isA γ j1 10) (hA0 : isA γ j0 60) (hB : isX4 γ 0) (h49 : 49 ≤ eN γ) (hC : ∀ i ∈ ([j6, j5, j4, j3, j2, j1, j0] : List Nat), 49 ≤ i) (hX : va_X b LL xs s s.heap) (hbl : b < s.heap.size) (hbA : ¬ AK γ0 b) (kk : ∀ {γ : Ev} {μ : Mm} {H : Heap} {locs : List Loc} {ls : Array Slot} {cells slots : Nat}, AK γ = AK γ0 → Wo γ μ s H locs → cells ≤ MC ∧ slots ≤ MS → W p l e R s m args below meth c H locs cells slots Q (F0 m 1155 ls [.int (1 : Int32)])) : ∀ (n : Nat) {T : Nat → Mm} {a6 : Nat → Int32} {a5 : Nat → Int32} {a4 : Nat → Int32} {a3 : Nat → Int32} {a2 : Nat → Int32} {a1 : Nat → Int32} {a0 : Nat → Int32} {x9 : Int32} {cells slots : Nat} {H : Heap} {locs : List Loc} {ls : Array Slot} (_ : cells + (153561) ≤ MC ∧ slots + (4143495) ≤ MS), s_L_law_L68 xs LL n T a6 a5 a4 a3 a2 a1 a0 x9 = some 1 → Wo γ (mm (stT σ 0 T) [(j6, a6), (j5, a5), (j4, a4), (j3, a3), (j2, a2), (j1, a1), (j0, a0)]) s H locs → lv_has ls 22 [(0, .ref b), (1, .ref (eA γ 0)), (2, .ref (eA γ j0)), (3, .ref (eA γ j1)), (4, .ref (eA γ j2)), (5, .ref (eA γ j3)), (6, .ref (eA γ j4)), (7, .ref (eA γ j5)), (8, .ref (eA γ j6)), (9, .int x9)] → W p l e R s m args below meth c H locs cells slots Q (F0 m 68 ls []) := by
  have C0 := C.sub hS hd
  obtain ⟨hx, hb, hr, hml, hown, hts, hlk, hK0, hd0, hF, hL⟩ := id C
  have hK := hS.1.hK hK0
  obtain ⟨hr1, hr2⟩ := id hR
  intro n
  induction n with
  | zero => intro T a6 a5 a4 a3 a2 a1 a0 x9 cells slots H locs ls _ h; cases h
  | succ n ih =>
    intro T a6 a5 a4 a3 a2 a1 a0 x9 cells slots H locs ls hcs h hw hl
    obtain ⟨hc1, hc2⟩ := hcs
    have zz := And.intro (cin hc1 hr1) (cin hc2 hr2)
    unfold s_L_law_L68 at h
    refine lv_iload hx hb dL_law_68 (lv_at hl 9 rfl) ?_
    refine lv_bipush (v := (10 : Int32)) hx hb dL_law_70 (by decide) ?_
    refine lv_icmp_ge (tgt := 86) hx hb dL_law_72 (by decide) (fun c4 => ?_) (fun c4 => ?_)
    · replace h := ifp c4 h
      refine lv_iconst (v := (0 : Int32)) hx hb dL_law_86 (by decide) ?_
      refine lv_istore (lv' := [(9, .int (0 : Int32)), (0, .ref b), (1, .ref (eA γ 0)), (2, .ref (eA γ j0)), (3, .ref (eA γ j1)), (4, .ref (eA γ j2)), (5, .ref (eA γ j3)), (6, .ref (eA γ j4)), (7, .ref (eA γ j5)), (8, .ref (eA γ j6))]) hx hb dL_law_87 hl (by decide) rfl (fun ls hl => ?_)
      exact b_L_law_L89 C hS hd hA hR hN hlt hlo hA6 hA5 hA4 hA3 hA2 hA1 hA0 hB h49 hC hX hbl hbA kk 50 ⟨cle hc1 (Nat.le_of_ble_eq_true rfl), cle hc2 (Nat.le_of_ble_eq_true rfl)⟩ h hw (lv_sub hl [1, 2, 3, 4, 5, 6, 7, 8, 9, 0] rfl)
    · replace h := ifn c4 h
      refine lv_aload_n hx hb dL_law_75 rfl (lv_at hl 3 rfl) ?_
      refine lv_iload hx hb dL_law_76 (lv_at hl 9 rfl) ?_
      refine lv_iconst (v := (2 : Int32)) hx hb dL_law_78 (by decide) ?_
      obtain ⟨A1778, hA1778, h⟩ := ob h
      refine r_astm (L := [(j6, a6), (j5, a5), (j4, a4), (j3, a3), (j2, a2), (j1, a1), (j0, a0)]) (L' := [(j6, a6), (j5, a5), (j4, a4), (j3, a3), (j2, a2), (j1, A1778), (j0, a0)]) (i := 5) hx hb hK hd hN hw hA1 rfl hA1778 rfl dL_law_79 (fun {H} {locs} hw => ?_)
      obtain ⟨v1779, ev1779, h⟩ := jb h
      refine lv_iinc (v := v1779) (lv' := [(9, .int v1779), (0, .ref b), (1, .ref (eA γ 0)), (2, .ref (eA γ j0)), (3, .ref (eA γ j1)), (4, .ref (eA γ j2)), (5, .ref (eA γ j3)), (6, .ref (eA γ j4)), (7, .ref (eA γ j5)), (8, .ref (eA γ j6))]) hx hb dL_law_80 hl (k := 9) rfl (by rw [← ev1779]; rfl) (by decide) rfl (fun ls hl => ?_)
      refine lv_goto (tgt := 68) hx hb dL_law_83 (by decide) ?_
      exact ih ⟨cle hc1 (Nat.le_of_ble_eq_true rfl), cle hc2 (Nat.le_of_ble_eq_true rfl)⟩ h hw (lv_sub hl [1, 2, 3, 4, 5, 6, 7, 8, 9, 0] rfl)
set_option maxHeartbeats 4000000 in
set_option maxRecDepth 10000 in
theorem b_L_law {γ0 : Ev} {σ : Mm} {T : Nat → Mm} {MC MS cells slots : Nat} {b LL : Nat} {xs : Nat → Int32} {Q : State → Prop} (C : Cx p R s m args meth c RL cL_law 22 (some .boolean) 92 3407 γ0) (hA : ∀ q, s.heap.size ≤ q → AK γ0 q) (hR : MC ≤ R.cells ∧ MS ≤ R.slots) (hN : ([] : List Nat).Nodup) (hlt : ∀ i ∈ ([] : List Nat), i < eN γ0) (hB : isX4 γ0 0) (h49 : 49 ≤ eN γ0) (hC : ∀ i ∈ ([] : List Nat), 49 ≤ i) (hX : va_X b LL xs s s.heap) (hbl : b < s.heap.size) (hbA : ¬ AK γ0 b) (kk : ∀ {γ : Ev} {μ : Mm} {H : Heap} {locs : List Loc} {ls : Array Slot} {cells slots : Nat}, AK γ = AK γ0 → Wo γ μ s H locs → cells ≤ MC ∧ slots ≤ MS → W p l e R s m args below meth c H locs cells slots Q (F0 m 1155 ls [.int (1 : Int32)])) (hcs : cells + (153568) ≤ MC ∧ slots + (4143736) ≤ MS) (h : s_L_law xs LL T = some 1) (hw : Wo γ0 (mm (stT σ 0 T) []) s H locs) (hl : lv_has ls 22 [(0, .ref b), (1, .ref (eA γ0 0))]) : W p l e R s m args below meth c H locs cells slots Q (F0 m 8 ls []) := by
  have C0 := C
  obtain ⟨hx, hb, hr, hml, hown, hts, hlk, hK0, hd0, hF, hL⟩ := id C
  have hK := hK0
  have hd := hd0
  obtain ⟨hc1, hc2⟩ := hcs
  obtain ⟨hr1, hr2⟩ := hR
  have hR : MC ≤ R.cells ∧ MS ≤ R.slots := ⟨hr1, hr2⟩
  have zz := And.intro (cin hc1 hr1) (cin hc2 hr2)
  unfold s_L_law at h
  refine lv_bipush (v := (60 : Int32)) hx hb dL_law_8 (by decide) ?_
  refine r_newA (n := 60) hx hb hts hK hd hw hA (by decide) (by decide) (by decide) ⟨csa hc1 (Nat.le_of_ble_eq_true rfl) hr1, csa hc2 (Nat.le_of_ble_eq_true rfl) hr2⟩ dL_law_10 (fun {γa} {H} ga na aa da hw => ?_)
  replace hc1 := cadd 1 153567 hc1 (Nat.le_of_ble_eq_true rfl)
  replace hc2 := cadd 60 4143676 hc2 (Nat.le_of_ble_eq_true rfl)
  have zz := And.intro (cin hc1 hr1) (cin hc2 hr2)
  have Na : ([eN γ0] : List Nat).Nodup := nd_new hN hlt
  have lta : ∀ i ∈ ([eN γ0] : List Nat), i < eN γa := lt_new hlt na
  have loa : ∀ i ∈ ([eN γ0] : List Nat), eN γ0 ≤ i := all_cons (fun _ h => absurd h List.not_mem_nil) (Nat.le_refl _)
  have Ba := hB.sub h49 ga
  have C49a : ∀ i ∈ ([eN γ0] : List Nat), 49 ≤ i := all_cons hC h49
  have h49a := Nat.le_trans h49 ga.2.1
  have C0a := C0.sub ga da
  have Ka := ga.1.hK hK
  have Sa : Sub γ0 γa := ga
  have Ala := ga.1.hA hA
  replace hw : Wo γa (mm (stT σ 0 T) [((eN γ0), zr)]) s _ _ := hw
  replace hl : lv_has ls 22 [(0, .ref b), (1, .ref (eA γa 0))] := by rw [ga.A (j := 0) (by omega)]; exact hl
  refine lv_astore_n (lv' := [(2, .ref (eA γa (eN γ0))), (0, .ref b), (1, .ref (eA γa 0))]) hx hb dL_law_12 rfl hl (by decide) rfl (fun ls hl => ?_)
  refine lv_bipush (v := (10 : Int32)) hx hb dL_law_13 (by decide) ?_
  refine r_newA (n := 10) hx hb hts Ka da hw Ala (by decide) (by decide) (by decide) ⟨csa hc1 (Nat.le_of_ble_eq_true rfl) hr1, csa hc2 (Nat.le_of_ble_eq_true rfl) hr2⟩ dL_law_15 (fun {γb} {H} gb nb ab db hw => ?_)
  replace hc1 := cadd 1 153566 hc1 (Nat.le_of_ble_eq_true rfl)
  replace hc2 := cadd 10 4143666 hc2 (Nat.le_of_ble_eq_true rfl)
  have zz := And.intro (cin hc1 hr1) (cin hc2 hr2)
  have hA0b := aa.sub gb
  have Nb : ([eN γa, (eN γ0)] : List Nat).Nodup := nd_new Na lta
  have ltb : ∀ i ∈ ([eN γa, (eN γ0)] : List Nat), i < eN γb := lt_new lta nb
  have lob : ∀ i ∈ ([eN γa, (eN γ0)] : List Nat), eN γ0 ≤ i := all_cons loa Sa.2.1
  have Bb := Ba.sub h49a gb
  have C49b : ∀ i ∈ ([eN γa, (eN γ0)] : List Nat), 49 ≤ i := all_cons C49a h49a
  have h49b := Nat.le_trans h49a gb.2.1
  have C0b := C0a.sub gb db
  have Kb := gb.1.hK Ka
  have Sb : Sub γ0 γb := Sa.tr gb
  have Alb := gb.1.hA Ala
  replace hw : Wo γb (mm (stT σ 0 T) [((eN γa), zr), ((eN γ0), zr)]) s _ _ := hw
  replace hl : lv_has ls 22 [(2, .ref (eA γb (eN γ0))), (0, .ref b), (1, .ref (eA γb 0))] := by rw [gb.A (j := (eN γ0)) (lta _ (by simp)), gb.A (j := 0) (by omega)]; exact hl
  refine lv_astore_n (lv' := [(3, .ref (eA γb (eN γa))), (2, .ref (eA γb (eN γ0))), (0, .ref b), (1, .ref (eA γb 0))]) hx hb dL_law_17 rfl hl (by decide) rfl (fun ls hl => ?_)
  refine lv_bipush (v := (11 : Int32)) hx hb dL_law_18 (by decide) ?_
  refine r_newA (n := 11) hx hb hts Kb db hw Alb (by decide) (by decide) (by decide) ⟨csa hc1 (Nat.le_of_ble_eq_true rfl) hr1, csa hc2 (Nat.le_of_ble_eq_true rfl) hr2⟩ dL_law_20 (fun {γc} {H} gc nc ac dc hw => ?_)
  replace hc1 := cadd 1 153565 hc1 (Nat.le_of_ble_eq_true rfl)
  replace hc2 := cadd 11 4143655 hc2 (Nat.le_of_ble_eq_true rfl)
  have zz := And.intro (cin hc1 hr1) (cin hc2 hr2)
  have hA1c := ab.sub gc
  have hA0c := hA0b.sub gc
  have Nc : ([eN γb, (eN γa), (eN γ0)] : List Nat).Nodup := nd_new Nb ltb
  have ltc : ∀ i ∈ ([eN γb, (eN γa), (eN γ0)] : List Nat), i < eN γc := lt_new ltb nc
  have loc : ∀ i ∈ ([eN γb, (eN γa), (eN γ0)] : List Nat), eN γ0 ≤ i := all_cons lob Sb.2.1
  have Bc := Bb.sub h49b gc
  have C49c : ∀ i ∈ ([eN γb, (eN γa), (eN γ0)] : List Nat), 49 ≤ i := all_cons C49b h49b
  have h49c := Nat.le_trans h49b gc.2.1
  have C0c := C0b.sub gc dc
  have Kc := gc.1.hK Kb
  have Sc : Sub γ0 γc := Sb.tr gc
  have Alc := gc.1.hA Alb
  replace hw : Wo γc (mm (stT σ 0 T) [((eN γb), zr), ((eN γa), zr), ((eN γ0), zr)]) s _ _ := hw
  replace hl : lv_has ls 22 [(3, .ref (eA γc (eN γa))), (2, .ref (eA γc (eN γ0))), (0, .ref b), (1, .ref (eA γc 0))] := by rw [gc.A (j := (eN γa)) (ltb _ (by simp)), gc.A (j := (eN γ0)) (ltb _ (by simp)), gc.A (j := 0) (by omega)]; exact hl
  refine lv_astore (lv' := [(4, .ref (eA γc (eN γb))), (3, .ref (eA γc (eN γa))), (2, .ref (eA γc (eN γ0))), (0, .ref b), (1, .ref (eA γc 0))]) hx hb dL_law_22 hl (by decide) rfl (fun ls hl => ?_)
  refine lv_bipush (v := (40 : Int32)) hx hb dL_law_24 (by decide) ?_
  refine r_newA (n := 40) hx hb hts Kc dc hw Alc (by decide) (by decide) (by decide) ⟨csa hc1 (Nat.le_of_ble_eq_true rfl) hr1, csa hc2 (Nat.le_of_ble_eq_true rfl) hr2⟩ dL_law_26 (fun {γd} {H} gd nd ad dd hw => ?_)
  replace hc1 := cadd 1 153564 hc1 (Nat.le_of_ble_eq_true rfl)
  replace hc2 := cadd 40 4143615 hc2 (Nat.le_of_ble_eq_true rfl)
  have zz := And.intro (cin hc1 hr1) (cin hc2 hr2)
  have hA2d := ac.sub gd
  have hA1d := hA1c.sub gd
  have hA0d := hA0c.sub gd
  have Nd : ([eN γc, (eN γb), (eN γa), (eN γ0)] : List Nat).Nodup := nd_new Nc ltc
  have ltd : ∀ i ∈ ([eN γc, (eN γb), (eN γa), (eN γ0)] : List Nat), i < eN γd := lt_new ltc nd
  have lod : ∀ i ∈ ([eN γc, (eN γb), (eN γa), (eN γ0)] : List Nat), eN γ0 ≤ i := all_cons loc Sc.2.1
  have Bd := Bc.sub h49c gd
  have C49d : ∀ i ∈ ([eN γc, (eN γb), (eN γa), (eN γ0)] : List Nat), 49 ≤ i := all_cons C49c h49c
  have h49d := Nat.le_trans h49c gd.2.1
  have C0d := C0c.sub gd dd
  have Kd := gd.1.hK Kc
  have Sd : Sub γ0 γd := Sc.tr gd
  have Ald := gd.1.hA Alc
  replace hw : Wo γd (mm (stT σ 0 T) [((eN γc), zr), ((eN γb), zr), ((eN γa), zr), ((eN γ0), zr)]) s _ _ := hw
  replace hl : lv_has ls 22 [(4, .ref (eA γd (eN γb))), (3, .ref (eA γd (eN γa))), (2, .ref (eA γd (eN γ0))), (0, .ref b), (1, .ref (eA γd 0))] := by rw [gd.A (j := (eN γb)) (ltc _ (by simp)), gd.A (j := (eN γa)) (ltc _ (by simp)), gd.A (j := (eN γ0)) (ltc _ (by simp)), gd.A (j := 0) (by omega)]; exact hl
  refine lv_astore (lv' := [(5, .ref (eA γd (eN γc))), (4, .ref (eA γd (eN γb))), (3, .ref (eA γd (eN γa))), (2, .ref (eA γd (eN γ0))), (0, .ref b), (1, .ref (eA γd 0))]) hx hb dL_law_28 hl (by decide) rfl (fun ls hl => ?_)
  refine lv_bipush (v := (40 : Int32)) hx hb dL_law_30 (by decide) ?_
  refine r_newA (n := 40) hx hb hts Kd dd hw Ald (by decide) (by decide) (by decide) ⟨csa hc1 (Nat.le_of_ble_eq_true rfl) hr1, csa hc2 (Nat.le_of_ble_eq_true rfl) hr2⟩ dL_law_32 (fun {γe} {H} ge ne ae de hw => ?_)
  replace hc1 := cadd 1 153563 hc1 (Nat.le_of_ble_eq_true rfl)
  replace hc2 := cadd 40 4143575 hc2 (Nat.le_of_ble_eq_true rfl)
  have zz := And.intro (cin hc1 hr1) (cin hc2 hr2)
  have hA3e := ad.sub ge
  have hA2e := hA2d.sub ge
  have hA1e := hA1d.sub ge
  have hA0e := hA0d.sub ge
  have Ne : ([eN γd, (eN γc), (eN γb), (eN γa), (eN γ0)] : List Nat).Nodup := nd_new Nd ltd
  have lte : ∀ i ∈ ([eN γd, (eN γc), (eN γb), (eN γa), (eN γ0)] : List Nat), i < eN γe := lt_new ltd ne
  have loe : ∀ i ∈ ([eN γd, (eN γc), (eN γb), (eN γa), (eN γ0)] : List Nat), eN γ0 ≤ i := all_cons lod Sd.2.1
  have Be := Bd.sub h49d ge
  have C49e : ∀ i ∈ ([eN γd, (eN γc), (eN γb), (eN γa), (eN γ0)] : List Nat), 49 ≤ i := all_cons C49d h49d
  have h49e := Nat.le_trans h49d ge.2.1
  have C0e := C0d.sub ge de
  have Ke := ge.1.hK Kd
  have Se : Sub γ0 γe := Sd.tr ge
  have Ale := ge.1.hA Ald
  replace hw : Wo γe (mm (stT σ 0 T) [((eN γd), zr), ((eN γc), zr), ((eN γb), zr), ((eN γa), zr), ((eN γ0), zr)]) s _ _ := hw
  replace hl : lv_has ls 22 [(5, .ref (eA γe (eN γc))), (4, .ref (eA γe (eN γb))), (3, .ref (eA γe (eN γa))), (2, .ref (eA γe (eN γ0))), (0, .ref b), (1, .ref (eA γe 0))] := by rw [ge.A (j := (eN γc)) (ltd _ (by simp)), ge.A (j := (eN γb)) (ltd _ (by simp)), ge.A (j := (eN γa)) (ltd _ (by simp)), ge.A (j := (eN γ0)) (ltd _ (by simp)), ge.A (j := 0) (by omega)]; exact hl
  refine lv_astore (lv' := [(6, .ref (eA γe (eN γd))), (5, .ref (eA γe (eN γc))), (4, .ref (eA γe (eN γb))), (3, .ref (eA γe (eN γa))), (2, .ref (eA γe (eN γ0))), (0, .ref b), (1, .ref (eA γe 0))]) hx hb dL_law_34 hl (by decide) rfl (fun ls hl => ?_)
  refine lv_bipush (v := (40 : Int32)) hx hb dL_law_36 (by decide) ?_
  refine r_newA (n := 40) hx hb hts Ke de hw Ale (by decide) (by decide) (by decide) ⟨csa hc1 (Nat.le_of_ble_eq_true rfl) hr1, csa hc2 (Nat.le_of_ble_eq_true rfl) hr2⟩ dL_law_38 (fun {γf} {H} gf nf af df hw => ?_)
  replace hc1 := cadd 1 153562 hc1 (Nat.le_of_ble_eq_true rfl)
  replace hc2 := cadd 40 4143535 hc2 (Nat.le_of_ble_eq_true rfl)
  have zz := And.intro (cin hc1 hr1) (cin hc2 hr2)
  have hA4f := ae.sub gf
  have hA3f := hA3e.sub gf
  have hA2f := hA2e.sub gf
  have hA1f := hA1e.sub gf
  have hA0f := hA0e.sub gf
  have Nf : ([eN γe, (eN γd), (eN γc), (eN γb), (eN γa), (eN γ0)] : List Nat).Nodup := nd_new Ne lte
  have ltf : ∀ i ∈ ([eN γe, (eN γd), (eN γc), (eN γb), (eN γa), (eN γ0)] : List Nat), i < eN γf := lt_new lte nf
  have lof : ∀ i ∈ ([eN γe, (eN γd), (eN γc), (eN γb), (eN γa), (eN γ0)] : List Nat), eN γ0 ≤ i := all_cons loe Se.2.1
  have Bf := Be.sub h49e gf
  have C49f : ∀ i ∈ ([eN γe, (eN γd), (eN γc), (eN γb), (eN γa), (eN γ0)] : List Nat), 49 ≤ i := all_cons C49e h49e
  have h49f := Nat.le_trans h49e gf.2.1
  have C0f := C0e.sub gf df
  have Kf := gf.1.hK Ke
  have Sf : Sub γ0 γf := Se.tr gf
  have Alf := gf.1.hA Ale
  replace hw : Wo γf (mm (stT σ 0 T) [((eN γe), zr), ((eN γd), zr), ((eN γc), zr), ((eN γb), zr), ((eN γa), zr), ((eN γ0), zr)]) s _ _ := hw
  replace hl : lv_has ls 22 [(6, .ref (eA γf (eN γd))), (5, .ref (eA γf (eN γc))), (4, .ref (eA γf (eN γb))), (3, .ref (eA γf (eN γa))), (2, .ref (eA γf (eN γ0))), (0, .ref b), (1, .ref (eA γf 0))] := by rw [gf.A (j := (eN γd)) (lte _ (by simp)), gf.A (j := (eN γc)) (lte _ (by simp)), gf.A (j := (eN γb)) (lte _ (by simp)), gf.A (j := (eN γa)) (lte _ (by simp)), gf.A (j := (eN γ0)) (lte _ (by simp)), gf.A (j := 0) (by omega)]; exact hl
  refine lv_astore (lv' := [(7, .ref (eA γf (eN γe))), (6, .ref (eA γf (eN γd))), (5, .ref (eA γf (eN γc))), (4, .ref (eA γf (eN γb))), (3, .ref (eA γf (eN γa))), (2, .ref (eA γf (eN γ0))), (0, .ref b), (1, .ref (eA γf 0))]) hx hb dL_law_40 hl (by decide) rfl (fun ls hl => ?_)
  refine lv_bipush (v := (40 : Int32)) hx hb dL_law_42 (by decide) ?_
  refine r_newA (n := 40) hx hb hts Kf df hw Alf (by decide) (by decide) (by decide) ⟨csa hc1 (Nat.le_of_ble_eq_true rfl) hr1, csa hc2 (Nat.le_of_ble_eq_true rfl) hr2⟩ dL_law_44 (fun {γg} {H} gg ng ag dg hw => ?_)
  replace hc1 := cadd 1 153561 hc1 (Nat.le_of_ble_eq_true rfl)
  replace hc2 := cadd 40 4143495 hc2 (Nat.le_of_ble_eq_true rfl)
  have zz := And.intro (cin hc1 hr1) (cin hc2 hr2)
  have hA5g := af.sub gg
  have hA4g := hA4f.sub gg
  have hA3g := hA3f.sub gg
  have hA2g := hA2f.sub gg
  have hA1g := hA1f.sub gg
  have hA0g := hA0f.sub gg
  have Ng : ([eN γf, (eN γe), (eN γd), (eN γc), (eN γb), (eN γa), (eN γ0)] : List Nat).Nodup := nd_new Nf ltf
  have ltg : ∀ i ∈ ([eN γf, (eN γe), (eN γd), (eN γc), (eN γb), (eN γa), (eN γ0)] : List Nat), i < eN γg := lt_new ltf ng
  have log : ∀ i ∈ ([eN γf, (eN γe), (eN γd), (eN γc), (eN γb), (eN γa), (eN γ0)] : List Nat), eN γ0 ≤ i := all_cons lof Sf.2.1
  have Bg := Bf.sub h49f gg
  have C49g : ∀ i ∈ ([eN γf, (eN γe), (eN γd), (eN γc), (eN γb), (eN γa), (eN γ0)] : List Nat), 49 ≤ i := all_cons C49f h49f
  have h49g := Nat.le_trans h49f gg.2.1
  have C0g := C0f.sub gg dg
  have Kg := gg.1.hK Kf
  have Sg : Sub γ0 γg := Sf.tr gg
  have Alg := gg.1.hA Alf
  replace hw : Wo γg (mm (stT σ 0 T) [((eN γf), zr), ((eN γe), zr), ((eN γd), zr), ((eN γc), zr), ((eN γb), zr), ((eN γa), zr), ((eN γ0), zr)]) s _ _ := hw
  replace hl : lv_has ls 22 [(7, .ref (eA γg (eN γe))), (6, .ref (eA γg (eN γd))), (5, .ref (eA γg (eN γc))), (4, .ref (eA γg (eN γb))), (3, .ref (eA γg (eN γa))), (2, .ref (eA γg (eN γ0))), (0, .ref b), (1, .ref (eA γg 0))] := by rw [gg.A (j := (eN γe)) (ltf _ (by simp)), gg.A (j := (eN γd)) (ltf _ (by simp)), gg.A (j := (eN γc)) (ltf _ (by simp)), gg.A (j := (eN γb)) (ltf _ (by simp)), gg.A (j := (eN γa)) (ltf _ (by simp)), gg.A (j := (eN γ0)) (ltf _ (by simp)), gg.A (j := 0) (by omega)]; exact hl
  refine lv_astore (lv' := [(8, .ref (eA γg (eN γf))), (7, .ref (eA γg (eN γe))), (6, .ref (eA γg (eN γd))), (5, .ref (eA γg (eN γc))), (4, .ref (eA γg (eN γb))), (3, .ref (eA γg (eN γa))), (2, .ref (eA γg (eN γ0))), (0, .ref b), (1, .ref (eA γg 0))]) hx hb dL_law_46 hl (by decide) rfl (fun ls hl => ?_)
  refine lv_aload hx hb dL_law_48 (lv_at hl 4 rfl) ?_
  refine lv_iconst (v := (0 : Int32)) hx hb dL_law_50 (by decide) ?_
  refine lv_iconst (v := (2 : Int32)) hx hb dL_law_51 (by decide) ?_
  obtain ⟨A1, hA1, h⟩ := ob h
  refine r_astm (L := [((eN γf), zr), ((eN γe), zr), ((eN γd), zr), ((eN γc), zr), ((eN γb), zr), ((eN γa), zr), ((eN γ0), zr)]) (L' := [((eN γf), zr), ((eN γe), zr), ((eN γd), zr), ((eN γc), zr), ((eN γb), A1), ((eN γa), zr), ((eN γ0), zr)]) (i := 4) hx hb Kg dg Ng hw hA2g rfl hA1 rfl dL_law_52 (fun {H} {locs} hw => ?_)
  refine lv_aload hx hb dL_law_53 (lv_at hl 4 rfl) ?_
  refine lv_iconst (v := (1 : Int32)) hx hb dL_law_55 (by decide) ?_
  refine lv_bipush (v := (8 : Int32)) hx hb dL_law_56 (by decide) ?_
  obtain ⟨A2, hA2, h⟩ := ob h
  refine r_astm (L := [((eN γf), zr), ((eN γe), zr), ((eN γd), zr), ((eN γc), zr), ((eN γb), A1), ((eN γa), zr), ((eN γ0), zr)]) (L' := [((eN γf), zr), ((eN γe), zr), ((eN γd), zr), ((eN γc), zr), ((eN γb), A2), ((eN γa), zr), ((eN γ0), zr)]) (i := 4) hx hb Kg dg Ng hw hA2g rfl hA2 rfl dL_law_58 (fun {H} {locs} hw => ?_)
  refine lv_aload hx hb dL_law_59 (lv_at hl 4 rfl) ?_
  refine lv_bipush (v := (9 : Int32)) hx hb dL_law_61 (by decide) ?_
  refine lv_iconst (v := (1 : Int32)) hx hb dL_law_63 (by decide) ?_
  obtain ⟨A3, hA3, h⟩ := ob h
  refine r_astm (L := [((eN γf), zr), ((eN γe), zr), ((eN γd), zr), ((eN γc), zr), ((eN γb), A2), ((eN γa), zr), ((eN γ0), zr)]) (L' := [((eN γf), zr), ((eN γe), zr), ((eN γd), zr), ((eN γc), zr), ((eN γb), A3), ((eN γa), zr), ((eN γ0), zr)]) (i := 4) hx hb Kg dg Ng hw hA2g rfl hA3 rfl dL_law_64 (fun {H} {locs} hw => ?_)
  refine lv_iconst (v := (0 : Int32)) hx hb dL_law_65 (by decide) ?_
  refine lv_istore (lv' := [(9, .int (0 : Int32)), (8, .ref (eA γg (eN γf))), (7, .ref (eA γg (eN γe))), (6, .ref (eA γg (eN γd))), (5, .ref (eA γg (eN γc))), (4, .ref (eA γg (eN γb))), (3, .ref (eA γg (eN γa))), (2, .ref (eA γg (eN γ0))), (0, .ref b), (1, .ref (eA γg 0))]) hx hb dL_law_66 hl (by decide) rfl (fun ls hl => ?_)
  exact b_L_law_L68 C Sg dg Alg hR Ng ltg log ag hA5g hA4g hA3g hA2g hA1g hA0g Bg h49g C49g hX hbl hbA kk 50 ⟨cle hc1 (Nat.le_of_ble_eq_true rfl), cle hc2 (Nat.le_of_ble_eq_true rfl)⟩ h hw (lv_sub hl [8, 9, 7, 6, 5, 4, 3, 2, 1, 0] rfl)
end
