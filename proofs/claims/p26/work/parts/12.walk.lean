section
variable {p : Program} {l : Launch} {e : Env} {R : Room} {s : State} {m : MethodId} {args : Array Value} {below : List Frame} {meth : Method} {c : Code} {H : Heap} {locs : List Loc} {ls : Array Slot}
theorem X4_bj {γ : Ev} {o : Nat} (h : isX4 γ o) : ∀ {j : Nat}, j < 4 → isX0 γ (o + 21 + 6 * j)
  | 0, _ => X4_b5 h
  | 1, _ => X4_b6 h
  | 2, _ => X4_b7 h
  | 3, _ => X4_b8 h
  | j + 4, hj => absurd hj (by omega)
theorem stT_ij {σ : Mm} {o : Nat} {T : Nat → Mm} : ∀ {j i : Nat}, j < 4 → i < 6 → stT σ o T (o + 21 + 6 * j + i) = T (5 + j) i
  | 0, _, _, h => stT_i5 h
  | 1, _, _, h => stT_i6 h
  | 2, _, _, h => stT_i7 h
  | 3, _, _, h => stT_i8 h
  | j + 4, _, hj, _ => absurd hj (by omega)
theorem stT_sj {σ B : Mm} {o : Nat} {T : Nat → Mm} : ∀ {j : Nat}, j < 4 → st 6 (stT σ o T) (o + 21 + 6 * j) B = stT σ o (tset T (5 + j) B)
  | 0, _ => stT_s5
  | 1, _ => stT_s6
  | 2, _ => stT_s7
  | 3, _ => stT_s8
  | j + 4, hj => absurd hj (by omega)
theorem stT_bj {σ : Mm} {o : Nat} {T : Nat → Mm} : ∀ {j : Nat}, j < 4 → st 6 (stT σ o T) (o + 21 + 6 * j) (T (5 + j)) = stT σ o T
  | 0, _ => stT_b5
  | 1, _ => stT_b6
  | 2, _ => stT_b7
  | 3, _ => stT_b8
  | j + 4, hj => absurd hj (by omega)
theorem hpk_some {T : Nat → Mm} {k j : Nat} (h : hpk T k = some j) : (T 4 1 k).toNatClampNeg = j ∧ j < 4 := by
  unfold hpk at h
  by_cases hc : (T 4 1 k).toNatClampNeg < 4
  · rw [if_pos hc] at h
    have h := Option.some.inj h
    exact ⟨h, h ▸ hc⟩
  · rw [if_neg hc] at h
    cases h
theorem tset_self {T : Nat → Mm} {j : Nat} {B : Mm} (h : T j = B) : tset T j B = T := by
  funext i
  unfold tset
  by_cases hi : i = j
  · rw [if_pos hi, hi, h]
  · rw [if_neg hi]
theorem tset_tset {T : Nat → Mm} {j : Nat} {B B' : Mm} : tset (tset T j B) j B' = tset T j B' := by
  funext i
  unfold tset
  by_cases hi : i = j
  · rw [if_pos hi, if_pos hi]
  · rw [if_neg hi, if_neg hi, if_neg hi]
theorem mset_self {B : Mm} {c : Nat} {f : Nat → Int32} (h : B c = f) : mset B c f = B := by
  funext i
  unfold mset
  by_cases hi : i = c
  · rw [if_pos hi, hi, h]
  · rw [if_neg hi]
theorem mset_mset {B : Mm} {c : Nat} {f f' : Nat → Int32} : mset (mset B c f) c f' = mset B c f' := by
  funext i
  unfold mset
  by_cases hi : i = c
  · rw [if_pos hi, if_pos hi]
  · rw [if_neg hi, if_neg hi, if_neg hi]
/-- the row of references, with f as what it holds -/
def hT (T : Nat → Mm) (f : Nat → Int32) : Nat → Mm := tset T 4 (mset (T 4) 1 f)
theorem hT_self (T : Nat → Mm) : hT T (T 4 1) = T := by
  unfold hT
  rw [mset_self rfl, tset_self rfl]
section
variable {cc : ByteArray} {pc : Nat} {rest : List Value} {γ : Ev} {σ : Mm} {o : Nat} {T : Nat → Mm} {Q : State → Prop} {own : String} {nL fF fL : Nat} {ret : Option FieldType} {f : Nat → Int32}
theorem r_hget (hx : p.tables.exec = Jvm.exec) (hb : c.code = cc) (hts : ∀ w ∈ wG, w.before args s = true) (hK : va_K (eG γ) vwCl (eTy γ) s) (hB : isX4 γ o) (hw : Wo γ (stT σ o T) s H locs) (hown : s.vm.findClass RX1 = some m.cls) (hdg : decode cc pc = .ok (.getfield 16, 3))
    (kk : W p l e R s m args below meth c H locs 0 0 Q (F0 m (pc + 3) ls (.int (T 4 0 1) :: rest))) : W p l e R s m args below meth c H locs 0 0 Q (F0 m pc ls (.ref (eA γ (o + 19)) :: rest)) :=
  r_get (v := .int (T 4 0 1)) hx hb hts hK hw hown inX1 rfl (X1_k0 (X4_b4 hB)) (stT_i4 (i := 0) (by decide)) 1 (by decide) wd_75 rfl hdg kk
theorem r_hrow (hx : p.tables.exec = Jvm.exec) (hb : c.code = cc) (hts : ∀ w ∈ wG, w.before args s = true) (hK : va_K (eG γ) vwCl (eTy γ) s) (hB : isX4 γ o) (hw : Wo γ (stT σ o T) s H locs) (hown : s.vm.findClass RX1 = some m.cls) (hdg : decode cc pc = .ok (.getfield 11, 3))
    (kk : W p l e R s m args below meth c H locs 0 0 Q (F0 m (pc + 3) ls (.ref (eA γ (o + 20)) :: rest))) : W p l e R s m args below meth c H locs 0 0 Q (F0 m pc ls (.ref (eA γ (o + 19)) :: rest)) :=
  r_get (v := .ref (eA γ (o + 20))) hx hb hts hK hw hown inX1 rfl (X1_k0 (X4_b4 hB)) (stT_i4 (i := 0) (by decide)) 0 (by decide) wd_74 rfl hdg kk
theorem r_hlen (hx : p.tables.exec = Jvm.exec) (hb : c.code = cc) (hK : va_K (eG γ) vwCl (eTy γ) s) (hB : isX4 γ o) (hw : Wo γ (stT σ o T) s H locs) (hdg : decode cc pc = .ok (.arraylength, 1))
    (kk : W p l e R s m args below meth c H locs 0 0 Q (F0 m (pc + 1) ls (.int 4 :: rest))) : W p l e R s m args below meth c H locs 0 0 Q (F0 m pc ls (.ref (eA γ (o + 20)) :: rest)) :=
  va_alen hx hb hK hw.1 (o + 20) 2 (x := (4, .inr (.inr (.inr (.inr (fun k => some (eA γ (o + 19 + 2 + 6 * ((T 4 1 k).toNatClampNeg % 4))))))))) (wmk_at (X1_k1 (X4_b4 hB)) (stT_i4 (i := 1) (by decide))) (ty := .object "TippingBeam$Beam") rfl rfl hdg kk
theorem r_hald (hx : p.tables.exec = Jvm.exec) (hb : c.code = cc) (hK : va_K (eG γ) vwCl (eTy γ) s) (hB : isX4 γ o) (hw : Wo γ (stT σ o T) s H locs) {i : Int32} {k j : Nat} (hi : vp_in i 4) (hk : i.toNatClampNeg = k) (hj : (T 4 1 k).toNatClampNeg = j) (hj4 : j < 4) (hdg : decode cc pc = .ok (.aaload, 1))
    (kk : W p l e R s m args below meth c H locs 0 0 Q (F0 m (pc + 1) ls (.ref (eA γ (o + 21 + 6 * j)) :: rest))) : W p l e R s m args below meth c H locs 0 0 Q (F0 m pc ls (.int i :: .ref (eA γ (o + 20)) :: rest)) := by
  subst hk
  subst hj
  refine W.eq (g2 := F0 m pc ls (.int i :: .ref (eA γ (o + 20)) :: rest)) rfl ?_
  rw [← Nat.mod_eq_of_lt hj4] at kk
  exact va_aldq hx hb hK hw.1 (o + 20) 2 (C := "TippingBeam$Beam") (n := 4) (f := fun k => some (eA γ (o + 19 + 2 + 6 * ((T 4 1 k).toNatClampNeg % 4)))) (wmk_at (X1_k1 (X4_b4 hB)) (stT_i4 (i := 1) (by decide))) rfl hi hdg kk
theorem r_hast (hx : p.tables.exec = Jvm.exec) (hb : c.code = cc) (hK : va_K (eG γ) vwCl (eTy γ) s) (hd : dis γ) (hB : isX4 γ o) (hw : Wo γ (stT σ o (hT T f)) s H locs) {i x : Int32} {k j : Nat} (hi : vp_in i 4) (hk : i.toNatClampNeg = k) (hj : x.toNatClampNeg = j) (hj4 : j < 4) (hdg : decode cc pc = .ok (.aastore, 1))
    (kk : ∀ {H1 : Heap} {locs1 : List Loc}, Wo γ (stT σ o (hT T (upd f k x))) s H1 locs1 → W p l e R s m args below meth c H1 locs1 0 0 Q (F0 m (pc + 1) ls rest)) : W p l e R s m args below meth c H locs 0 0 Q (F0 m pc ls (.ref (eA γ (o + 21 + 6 * j)) :: .int i :: .ref (eA γ (o + 20)) :: rest)) := by
  subst hk
  subst hj
  refine va_astq hx hb hK hw.1 (wmk_D hd) hw.2 (o + 20) 2 (o + 21 + 6 * x.toNatClampNeg) 0 (r := (RX0, TX0, 12)) (n := 4) (f := fun k => some (eA γ (o + 19 + 2 + 6 * ((f k).toNatClampNeg % 4)))) (wmk_at (X1_k1 (X4_b4 hB)) (stT_i4 (i := 1) (by decide))) rfl (wmk_at (X0_k0 (X4_bj hB hj4)) rfl) rfl hi hdg (fun H1 locs1 a _ b => kk ⟨?_, b⟩)
  have e : stT σ o (hT T (upd f i.toNatClampNeg x)) = mset (stT σ o (hT T f)) (o + 20) (upd f i.toNatClampNeg x) := by
    conv => rhs; rw [← stT_b4 (T := hT T f)]
    rw [show o + 20 = o + 19 + 1 from rfl, st_set (by decide), stT_s4]
    unfold hT
    rw [tset_tset]
    show stT σ o (tset T 4 _) = stT σ o (tset T 4 (mset (mset (T 4) 1 f) 1 _))
    rw [mset_mset]
  rw [e, ← wmk_set (X1_k1 (X4_b4 hB))]
  have e2 : (dSt γ (o + 19)) (upd f i.toNatClampNeg x) = .inl (eT γ 2, 4, .inr (.inr (.inr (.inr (va_up (fun k => some (eA γ (o + 19 + 2 + 6 * ((f k).toNatClampNeg % 4)))) i.toNatClampNeg (some (eA γ (o + 21 + 6 * x.toNatClampNeg)))))))) := by
    unfold dSt
    congr 7
    funext q
    unfold upd va_up
    by_cases hq : q = i.toNatClampNeg
    · rw [if_pos hq, if_pos hq, Nat.mod_eq_of_lt hj4]
    · rw [if_neg hq, if_neg hq]
  rw [e2]
  exact a
theorem r_hput (hx : p.tables.exec = Jvm.exec) (hb : c.code = cc) (hts : ∀ w ∈ wG, w.before args s = true) (hK : va_K (eG γ) vwCl (eTy γ) s) (hd : dis γ) (hB : isX4 γ o) (hw : Wo γ (stT σ o T) s H locs) (hown : s.vm.findClass RX1 = some m.cls) {x : Int32} (hdg : decode cc pc = .ok (.putfield 16, 3))
    (kk : ∀ {H1 : Heap} {locs1 : List Loc}, Wo γ (stT σ o (hsz T x)) s H1 locs1 → W p l e R s m args below meth c H1 locs1 0 0 Q (F0 m (pc + 3) ls rest)) : W p l e R s m args below meth c H locs 0 0 Q (F0 m pc ls (.int x :: .ref (eA γ (o + 19)) :: rest)) :=
  r_put (B := T 4) (N := 2) (o := o + 19) (ty := .int) hx hb hts hK hd (Wo.cg stT_b4.symm hw) hown inX1 tyX1 tyX1_ok nmX1 rfl (by decide) (X1_k0 (X4_b4 hB)) 1 (by decide) wd_75 rfl rfl rfl rfl (fun _ => (Nat.le_of_ble_eq_true rfl)) (fun _ => rfl) rfl hdg (fun hw => kk (Wo.cg stT_s4 hw))
end
set_option maxHeartbeats 4000000 in
set_option maxRecDepth 10000 in
theorem b_X1_size {γ : Ev} {o : Nat} {σ : Mm} {r : Int32} {T : Nat → Mm} (C : Cx p R s m args meth c RX1 cX1_size 1 (some .int) 1 40 γ) (hB : isX4 γ o) (h : s_X1_size T = some r) (hw : Wo γ (stT σ o T) s H locs) (hl : lv_has ls 1 [(0, .ref (eA γ (o + 19)))]) : W p l e R s m args below meth c H locs 0 0 (MQ below (Qo γ (some (.int r)) (stT σ o T)) args s 0 0 (AK γ)) (F0 m 0 ls []) := by
  obtain ⟨hx, hb, hr, hml, hown, hts, hlk, hK, hd, hF, hL⟩ := C
  refine lv_aload_n hx hb dX1_size_0 rfl (lv_at hl 0 rfl) ?_
  refine r_hget hx hb hts hK hB hw hown dX1_size_1 ?_
  have h1 := Option.some.inj h
  subst h1
  exact r_iret hx hb hr hlk hK hd hw dX1_size_4
theorem c_X1_size {l : Launch} {γ : Ev} {o : Nat} {σ : Mm} {r : Int32} {T : Nat → Mm} (hB : isX4 γ o) (h : s_X1_size T = some r) : Ct l yX1_size cX1_size 1 (some .int) 1 40 γ [.ref (eA γ (o + 19))] (stT σ o T) (some (.int r)) (stT σ o T) := Ct.of (own := RX1) (by decide +kernel) rfl (Nat.le_of_ble_eq_true rfl) (fun C hw ls hl => b_X1_size C hB h hw hl)
set_option maxHeartbeats 4000000 in
set_option maxRecDepth 10000 in
theorem b_X1_dropOldest {γ : Ev} {o : Nat} {σ : Mm} {Tf T : Nat → Mm} (C : Cx p R s m args meth c RX1 cX1_dropOldest 3 none 1 40 γ) (hB : isX4 γ o) (h : s_X1_dropOldest T = some Tf) (hw : Wo γ (stT σ o T) s H locs) (hl : lv_has ls 3 [(0, .ref (eA γ (o + 19)))]) : W p l e R s m args below meth c H locs 0 0 (MQ below (Qo γ none (stT σ o Tf)) args s 0 0 (AK γ)) (F0 m 0 ls []) := by
  obtain ⟨hx, hb, hr, hml, hown, hts, hlk, hK, hd, hF, hL⟩ := C
  unfold s_X1_dropOldest at h
  obtain ⟨j0, h0, h⟩ := ob h
  obtain ⟨j1, h1, h⟩ := ob h
  obtain ⟨j2, h2, h⟩ := ob h
  obtain ⟨j3, h3, h⟩ := ob h
  obtain ⟨e0, l0⟩ := hpk_some h0
  obtain ⟨e1, l1⟩ := hpk_some h1
  obtain ⟨e2, l2⟩ := hpk_some h2
  obtain ⟨e3, l3⟩ := hpk_some h3
  have h9 := Option.some.inj h
  subst h9
  have hw : Wo γ (stT σ o (hT T (T 4 1))) s H locs := by rw [hT_self]; exact hw
  refine lv_aload_n hx hb dX1_dropOldest_0 rfl (lv_at hl 0 rfl) ?_
  refine r_hrow hx hb hts hK hB hw hown dX1_dropOldest_1 ?_
  refine lv_iconst (v := (0 : Int32)) hx hb dX1_dropOldest_4 (by decide) ?_
  refine r_hald hx hb hK hB hw (k := 0) (j := j0) (by unfold vp_in; decide) (by decide) e0 l0 dX1_dropOldest_5 ?_
  refine lv_astore_n (lv' := [(1, .ref (eA γ (o + 21 + 6 * j0))), (0, .ref (eA γ (o + 19)))]) hx hb dX1_dropOldest_6 rfl hl (by decide) rfl (fun ls hl => ?_)
  refine lv_iconst (v := (1 : Int32)) hx hb dX1_dropOldest_7 (by decide) ?_
  refine lv_istore_n (lv' := [(2, .int (1 : Int32)), (1, .ref (eA γ (o + 21 + 6 * j0))), (0, .ref (eA γ (o + 19)))]) hx hb dX1_dropOldest_8 rfl hl (by decide) rfl (fun ls hl => ?_)
  have turn : ∀ {f : Nat → Int32} {i : Int32} {k j : Nat} {H : Heap} {locs : List Loc} {ls : Array Slot}, i < 4 → vp_in i 4 → vp_in (i - 1) 4 → i.toNatClampNeg = k + 1 → (i - 1).toNatClampNeg = k → (f (k + 1)).toNatClampNeg = j → j < 4 → Wo γ (stT σ o (hT T f)) s H locs → lv_has ls 3 [(2, .int i), (1, .ref (eA γ (o + 21 + 6 * j0))), (0, .ref (eA γ (o + 19)))] →
      (∀ {H : Heap} {locs : List Loc} {ls : Array Slot}, Wo γ (stT σ o (hT T (upd f k (f (k + 1))))) s H locs → lv_has ls 3 [(2, .int (i + 1)), (1, .ref (eA γ (o + 21 + 6 * j0))), (0, .ref (eA γ (o + 19)))] → W p l e R s m args below meth c H locs 0 0 (MQ below (Qo γ none (stT σ o (hsz (tset T 4 (mset (T 4) 1 (hrow (T 4 1)))) 3))) args s 0 0 (AK γ)) (F0 m 9 ls [])) →
      W p l e R s m args below meth c H locs 0 0 (MQ below (Qo γ none (stT σ o (hsz (tset T 4 (mset (T 4) 1 (hrow (T 4 1)))) 3))) args s 0 0 (AK γ)) (F0 m 9 ls []) := by
    intro f i k j H locs ls hi4 hi hi1 hk hk1 hj hj4 hw hl kk
    refine lv_iload_n hx hb dX1_dropOldest_9 rfl (lv_at hl 0 rfl) ?_
    refine lv_aload_n hx hb dX1_dropOldest_10 rfl (lv_at hl 2 rfl) ?_
    refine r_hrow hx hb hts hK hB hw hown dX1_dropOldest_11 ?_
    refine r_hlen hx hb hK hB hw dX1_dropOldest_14 ?_
    refine lv_icmp_ge (tgt := 38) hx hb dX1_dropOldest_15 (by decide) (fun c => absurd c (Int32.not_le.mpr hi4)) (fun _ => ?_)
    refine lv_aload_n hx hb dX1_dropOldest_18 rfl (lv_at hl 2 rfl) ?_
    refine r_hrow hx hb hts hK hB hw hown dX1_dropOldest_19 ?_
    refine lv_iload_n hx hb dX1_dropOldest_22 rfl (lv_at hl 0 rfl) ?_
    refine lv_iconst (v := (1 : Int32)) hx hb dX1_dropOldest_23 (by decide) ?_
    refine lv_isub hx hb dX1_dropOldest_24 ?_
    refine lv_aload_n hx hb dX1_dropOldest_25 rfl (lv_at hl 2 rfl) ?_
    refine r_hrow hx hb hts hK hB hw hown dX1_dropOldest_26 ?_
    refine lv_iload_n hx hb dX1_dropOldest_29 rfl (lv_at hl 0 rfl) ?_
    refine r_hald hx hb hK hB hw (k := k + 1) (j := j) hi hk hj hj4 dX1_dropOldest_30 ?_
    refine r_hast (x := f (k + 1)) hx hb hK hd hB hw hi1 hk1 hj hj4 dX1_dropOldest_31 (fun {H} {locs} hw => ?_)
    refine lv_iinc (v := i + 1) (lv' := [(2, .int (i + 1)), (1, .ref (eA γ (o + 21 + 6 * j0))), (0, .ref (eA γ (o + 19)))]) hx hb dX1_dropOldest_32 hl (k := 0) rfl rfl (by decide) rfl (fun ls hl => ?_)
    refine lv_goto (tgt := 9) hx hb dX1_dropOldest_35 (by decide) ?_
    exact kk hw hl
  refine turn (k := 0) (j := j1) (by decide) (by unfold vp_in; decide) (by unfold vp_in; decide) (by decide) (by decide) e1 l1 hw hl (fun {H} {locs} {ls} hw hl => ?_)
  refine turn (f := upd (T 4 1) 0 (T 4 1 1)) (k := 1) (j := j2) (by decide) (by unfold vp_in; decide) (by unfold vp_in; decide) (by decide) (by decide) e2 l2 hw hl (fun {H} {locs} {ls} hw hl => ?_)
  refine turn (f := upd (upd (T 4 1) 0 (T 4 1 1)) 1 (T 4 1 2)) (k := 2) (j := j3) (by decide) (by unfold vp_in; decide) (by unfold vp_in; decide) (by decide) (by decide) e3 l3 hw hl (fun {H} {locs} {ls} hw hl => ?_)
  refine lv_iload_n hx hb dX1_dropOldest_9 rfl (lv_at hl 0 rfl) ?_
  refine lv_aload_n hx hb dX1_dropOldest_10 rfl (lv_at hl 2 rfl) ?_
  refine r_hrow hx hb hts hK hB hw hown dX1_dropOldest_11 ?_
  refine r_hlen hx hb hK hB hw dX1_dropOldest_14 ?_
  refine lv_icmp_ge (tgt := 38) hx hb dX1_dropOldest_15 (by decide) (fun _ => ?_) (fun c => absurd (by decide) c)
  refine lv_aload_n hx hb dX1_dropOldest_38 rfl (lv_at hl 2 rfl) ?_
  refine r_hrow hx hb hts hK hB hw hown dX1_dropOldest_39 ?_
  refine lv_iconst (v := (3 : Int32)) hx hb dX1_dropOldest_42 (by decide) ?_
  refine lv_aload_n hx hb dX1_dropOldest_43 rfl (lv_at hl 1 rfl) ?_
  refine r_hast (k := 3) (x := T 4 1 0) hx hb hK hd hB hw (by unfold vp_in; decide) (by decide) e0 l0 dX1_dropOldest_44 (fun {H} {locs} hw => ?_)
  refine lv_aload_n hx hb dX1_dropOldest_45 rfl (lv_at hl 2 rfl) ?_
  refine lv_iconst (v := (3 : Int32)) hx hb dX1_dropOldest_46 (by decide) ?_
  refine r_hput hx hb hts hK hd hB hw hown dX1_dropOldest_47 (fun {H} {locs} hw => ?_)
  exact r_vret hx hb hr hlk hK hd hw dX1_dropOldest_50
theorem c_X1_dropOldest {l : Launch} {γ : Ev} {o : Nat} {σ : Mm} {Tf T : Nat → Mm} (hB : isX4 γ o) (h : s_X1_dropOldest T = some Tf) : Ct l yX1_dropOldest cX1_dropOldest 3 none 1 40 γ [.ref (eA γ (o + 19))] (stT σ o T) none (stT σ o Tf) := Ct.of (own := RX1) (by decide +kernel) rfl (Nat.le_of_ble_eq_true rfl) (fun C hw ls hl => b_X1_dropOldest C hB h hw hl)
set_option maxHeartbeats 4000000 in
set_option maxRecDepth 10000 in
theorem b_X1_remember {γ : Ev} {o : Nat} {σ : Mm} {Tf T : Nat → Mm} (C : Cx p R s m args meth c RX1 cX1_remember 3 none 6 300 γ) (hB : isX4 γ o) (h : s_X1_remember T = some Tf) (hw : Wo γ (stT σ o T) s H locs) (hl : lv_has ls 3 [(0, .ref (eA γ (o + 19))), (1, .ref (eA γ (o + 1)))]) : W p l e R s m args below meth c H locs 0 0 (MQ below (Qo γ none (stT σ o Tf)) args s 0 0 (AK γ)) (F0 m 0 ls []) := by
  have C0 := C
  obtain ⟨hx, hb, hr, hml, hown, hts, hlk, hK, hd, hF, hL⟩ := C
  unfold s_X1_remember at h
  obtain ⟨T1, h1, h⟩ := ob h
  have J : ∀ {H : Heap} {locs : List Loc} {ls : Array Slot}, Wo γ (stT σ o T1) s H locs → lv_has ls 3 [(0, .ref (eA γ (o + 19))), (1, .ref (eA γ (o + 1)))] → W p l e R s m args below meth c H locs 0 0 (MQ below (Qo γ none (stT σ o Tf)) args s 0 0 (AK γ)) (F0 m 12 ls []) := by
    intro H locs ls hw hl
    refine lv_aload_n hx hb dX1_remember_12 rfl (lv_at hl 0 rfl) ?_
    refine r_hget hx hb hts hK hB hw hown dX1_remember_13 ?_
    refine lv_if_lt (tgt := 43) hx hb dX1_remember_16 (by decide) (fun c1 => by cases ifp c1 h) (fun c1 => ?_)
    replace h := ifn c1 h
    refine lv_aload_n hx hb dX1_remember_19 rfl (lv_at hl 0 rfl) ?_
    refine r_hget hx hb hts hK hB hw hown dX1_remember_20 ?_
    refine lv_aload_n hx hb dX1_remember_23 rfl (lv_at hl 0 rfl) ?_
    refine r_hrow hx hb hts hK hB hw hown dX1_remember_24 ?_
    refine r_hlen hx hb hK hB hw dX1_remember_27 ?_
    refine lv_icmp_ge (tgt := 43) hx hb dX1_remember_28 (by decide) (fun c2 => by cases ifp c2 h) (fun c2 => ?_)
    replace h := ifn c2 h
    have hin : vp_in (T1 4 0 1) 4 := by
      unfold vp_in
      have q2 := Int32.not_le.mp c2
      have q1 := Int32.not_lt.mp c1
      rintro (q | q)
      · exact c1 q
      · have := Int32.lt_iff_toInt_lt.mp q2
        have := Int32.le_iff_toInt_le.mp q1
        have e4 : (4 : Int32).toInt = 4 := rfl
        have e0 : (0 : Int32).toInt = 0 := rfl
        have : (T1 4 0 1).toNatClampNeg = (T1 4 0 1).toInt.toNat := rfl
        omega
    obtain ⟨j, hj, h⟩ := ob h
    obtain ⟨ej, lj⟩ := hpk_some hj
    obtain ⟨B, hBc, h⟩ := ob h
    have h9 := Option.some.inj h
    subst h9
    refine lv_aload_n hx hb dX1_remember_31 rfl (lv_at hl 0 rfl) ?_
    refine r_hrow hx hb hts hK hB hw hown dX1_remember_32 ?_
    refine lv_aload_n hx hb dX1_remember_35 rfl (lv_at hl 0 rfl) ?_
    refine r_hget hx hb hts hK hB hw hown dX1_remember_36 ?_
    refine r_hald hx hb hK hB hw hin rfl ej lj dX1_remember_39 ?_
    refine lv_goto (tgt := 44) hx hb dX1_remember_40 (by decide) ?_
    refine lv_astore_n (lv' := [(2, .ref (eA γ (o + 21 + 6 * j))), (0, .ref (eA γ (o + 19))), (1, .ref (eA γ (o + 1)))]) hx hb dX1_remember_44 rfl hl (by decide) rfl (fun ls hl => ?_)
    refine lv_aload_n hx hb dX1_remember_45 rfl (lv_at hl 0 rfl) ?_
    refine lv_ifnonnull (tgt := 50) hx hb dX1_remember_46 (by decide) ?_
    refine lv_aload_n hx hb dX1_remember_50 rfl (lv_at hl 0 rfl) ?_
    refine lv_aload_n hx hb dX1_remember_51 rfl (lv_at hl 2 rfl) ?_
    refine r_Vv (rest := []) C0 z0 (c_X0_copyFrom (X4_bj hB lj) (X4_b1 hB) (fun i hi => stT_i1 hi) (by omega) hBc) lk_X1_23 (X0_k0 (X4_bj hB lj)) rfl rfl hl.1 rfl (Nat.le_of_ble_eq_true rfl) (by decide) (Wo.cg (stT_bj lj).symm hw) dX1_remember_52 (fun {H} {locs} hw => ?_)
    replace hw := Wo.cg (stT_sj lj) hw
    refine lv_aload_n hx hb dX1_remember_55 rfl (lv_at hl 1 rfl) ?_
    refine lv_dup hx hb dX1_remember_56 rfl ?_
    refine r_hget hx hb hts hK hB hw hown dX1_remember_57 ?_
    have e5 : (tset T1 (5 + j) B) 4 0 1 = T1 4 0 1 := by unfold tset; rw [if_neg (by omega)]
    refine r_top e5 ?_
    refine lv_iconst (v := (1 : Int32)) hx hb dX1_remember_60 (by decide) ?_
    refine lv_iadd hx hb dX1_remember_61 ?_
    refine r_hput hx hb hts hK hd hB hw hown dX1_remember_62 (fun {H} {locs} hw => ?_)
    exact r_vret hx hb hr hlk hK hd hw dX1_remember_65
  refine lv_aload_n hx hb dX1_remember_0 rfl (lv_at hl 0 rfl) ?_
  refine r_hget hx hb hts hK hB hw hown dX1_remember_1 ?_
  refine lv_iconst (v := (4 : Int32)) hx hb dX1_remember_4 (by decide) ?_
  refine lv_icmp_lt (tgt := 12) hx hb dX1_remember_5 (by decide) (fun c1 => ?_) (fun c1 => ?_)
  · replace h1 := Option.some.inj (ifp c1 h1)
    subst h1
    exact J hw hl
  · replace h1 := ifn c1 h1
    refine lv_aload_n hx hb dX1_remember_8 rfl (lv_at hl 0 rfl) ?_
    refine r_Vv (rest := []) C0 z0 (c_X1_dropOldest hB h1) lk_X1_20 (X1_k0 (X4_b4 hB)) rfl rfl hl.1 rfl (Nat.le_of_ble_eq_true rfl) (by decide) hw dX1_remember_9 (fun {H} {locs} hw => ?_)
    exact J hw hl
theorem c_X1_remember {l : Launch} {γ : Ev} {o : Nat} {σ : Mm} {Tf T : Nat → Mm} (hB : isX4 γ o) (h : s_X1_remember T = some Tf) : Ct l yX1_remember cX1_remember 3 none 6 300 γ [.ref (eA γ (o + 19)), .ref (eA γ (o + 1))] (stT σ o T) none (stT σ o Tf) := Ct.of (own := RX1) (by decide +kernel) rfl (Nat.le_of_ble_eq_true rfl) (fun C hw ls hl => b_X1_remember C hB h hw hl)

end
