/-! WORLDS THAT GROW: what constructors do -/
def zr : Nat → Int32 := fun _ => 0
def ext (γ : Ev) (q : Nat) (d : (Nat → Int32) → va_E) : Ev := (γ.1, γ.2.1, eN γ + 1, (fun c => if c = eN γ then d else eK γ c), (fun c => if c = eN γ then q else eA γ c), AK γ)
def setK (γ : Ev) (c0 : Nat) (d : (Nat → Int32) → va_E) : Ev := (γ.1, γ.2.1, eN γ, (fun c => if c = c0 then d else eK γ c), eA γ, AK γ)
theorem ext_K {γ : Ev} {q c : Nat} {d : (Nat → Int32) → va_E} (h : c ≠ eN γ) : eK (ext γ q d) c = eK γ c := if_neg h
theorem ext_A {γ : Ev} {q c : Nat} {d : (Nat → Int32) → va_E} (h : c ≠ eN γ) : eA (ext γ q d) c = eA γ c := if_neg h
theorem ext_Kn {γ : Ev} {q c : Nat} {d : (Nat → Int32) → va_E} (h : c = eN γ) : eK (ext γ q d) c = d := if_pos h
theorem ext_An {γ : Ev} {q c : Nat} {d : (Nat → Int32) → va_E} (h : c = eN γ) : eA (ext γ q d) c = q := if_pos h
theorem setK_K {γ : Ev} {c0 c : Nat} {d : (Nat → Int32) → va_E} (h : c ≠ c0) : eK (setK γ c0 d) c = eK γ c := if_neg h
theorem setK_n {γ : Ev} {c0 : Nat} {d : (Nat → Int32) → va_E} : eK (setK γ c0 d) c0 = d := if_pos rfl
theorem wmk_congr {γ γ' : Ev} {μ : Mm} (hN : eN γ = eN γ') (h : ∀ c, c < eN γ → eK γ c = eK γ' c ∧ eA γ c = eA γ' c) : wmk γ μ = wmk γ' μ := by
  unfold wmk
  rw [← hN]
  apply List.map_congr_left
  intro c hc
  obtain ⟨h1, h2⟩ := h c (List.mem_range.mp hc)
  rw [h1, h2]
theorem dis_congr {γ γ' : Ev} (hN : eN γ = eN γ') (h : ∀ c, c < eN γ → eA γ c = eA γ' c) (hA : AK γ = AK γ') (hd : dis γ) : dis γ' := by
  refine ⟨fun i j hi hj e => hd.1 i j (by omega) (by omega) (by rw [h i (by omega), h j (by omega)]; exact e), fun i hi => ?_⟩
  rw [← hA, ← h i (by omega)]
  exact hd.2 i (by omega)
theorem wmk_ext {γ : Ev} {μ : Mm} {q : Nat} {d : (Nat → Int32) → va_E} (hz : μ (eN γ) = zr) : wmk (ext γ q d) μ = wmk γ μ ++ [(q, d zr)] := by
  unfold wmk
  show (List.range (eN γ + 1)).map _ = _
  rw [List.range_succ, List.map_append]
  congr 1
  · apply List.map_congr_left
    intro c hc
    have hl := List.mem_range.mp hc
    rw [ext_A (by omega), ext_K (by omega)]
  · show [(eA (ext γ q d) (eN γ), eK (ext γ q d) (eN γ) (μ (eN γ)))] = _
    rw [ext_An rfl, ext_Kn rfl, hz]
theorem wmk_setK {γ : Ev} {μ : Mm} {c : Nat} {d : (Nat → Int32) → va_E} (hc : c < eN γ) : (wmk γ μ).set c (eA γ c, d (μ c)) = wmk (setK γ c d) μ := by
  apply List.ext_getElem?
  intro i
  rw [List.getElem?_set]
  by_cases hi : c = i
  · subst hi
    rw [if_pos rfl, if_pos (by rw [wmk_len]; exact hc), wmk_at (γ := setK γ c d) ⟨hc, setK_n⟩ rfl]
    rfl
  · rw [if_neg hi]
    by_cases hl : i < eN γ
    · rw [wmk_at (μ := μ) ⟨hl, rfl⟩ rfl, wmk_at (γ := setK γ c d) (μ := μ) ⟨hl, setK_K (fun e => hi e.symm)⟩ rfl]
      rfl
    · rw [List.getElem?_eq_none (by rw [wmk_len]; omega), List.getElem?_eq_none (by rw [wmk_len]; show eN γ ≤ i; omega)]
theorem dis_of {γ : Ev} {μ : Mm} (h : va_D (AK γ) (wmk γ μ)) : dis γ :=
  ⟨fun i j hi hj e => h.1 i j _ _ (wmk_at ⟨hi, rfl⟩ rfl) (wmk_at ⟨hj, rfl⟩ rfl) e, fun i hi => h.2 i _ (wmk_at ⟨hi, rfl⟩ rfl)⟩
theorem cls_one {γ : Ev} {s : State} (hK : va_K (eG γ) vwCl (eTy γ) s) {cA : ClassId} (h : s.vm.findClass ("[" ++ FieldType.int.toString) = some cA) : cA = eT γ 0 := by
  have h1 : s.vm.findClass ("[" ++ FieldType.int.toString) = some (eT γ 0) := (hK.2 0 _ rfl).2
  rw [h] at h1
  exact Option.some.inj h1
theorem cls_two {γ : Ev} {s : State} (hK : va_K (eG γ) vwCl (eTy γ) s) {cA : ClassId} (h : s.vm.findClass ("[" ++ FieldType.char.toString) = some cA) : cA = eT γ 1 := by
  have h1 : s.vm.findClass ("[" ++ FieldType.char.toString) = some (eT γ 1) := (hK.2 1 _ rfl).2
  rw [h] at h1
  exact Option.some.inj h1
theorem cls_three {γ : Ev} {s : State} (hK : va_K (eG γ) vwCl (eTy γ) s) {cA : ClassId} (h : va_RA s cA (.object "TippingBeam$Beam")) : cA = eT γ 2 := by
  obtain ⟨_, _, _, _, _, h1⟩ := h
  obtain ⟨_, _, _, _, _, h2⟩ := (hK.2 2 _ rfl).2
  rw [h1] at h2
  exact Option.some.inj h2
section
variable {p : Program} {l : Launch} {e : Env} {R : Room} {s : State} {m : MethodId} {args : Array Value} {below : List Frame} {meth : Method} {c : Code} {H : Heap} {locs : List Loc} {Q : State → Prop} {cc : ByteArray} {pc : Nat} {ls : Array Slot} {rest st0 : List Value} {γ : Ev} {μ : Mm} {own : String} {cells slots : Nat}
theorem r_new (hx : p.tables.exec = Jvm.exec) (hb : c.code = cc) (hts : ∀ w ∈ wG, w.before args s = true) (hK : va_K (eG γ) vwCl (eTy γ) s) (hd : dis γ) (hw : Wo γ μ s H locs) (hA : ∀ q, s.heap.size ≤ q → AK γ q) (hown : s.vm.findClass own = some m.cls) {C : String} {T : u_T} {M ci idx : Nat} (hin : ∀ w ∈ u_ws C T M, w ∈ wG) (ty : Nat → FieldType) (hty : ∀ k, k < M → parseFieldDescriptor (T k).2.2.1 = some (ty k)) (hcl : Cond.classLink own idx C ∈ wG) (hinst : Cond.instantiable C M ∈ wG) (hini : Cond.initialized C ∈ wG) (hcc : vwCl[ci]? = some (C, T, M)) (fl : (Nat → Int32) → List Value) (hfs : ∀ j, j < M → defaultValue (ty j) = vp_V (fl zr) j) (hz : μ (eN γ) = zr) (hcells : cells + 1 ≤ R.cells ∧ slots + M ≤ R.slots) (hdg : decode cc pc = .ok (.new idx, 3))
    (kk : ∀ {q : Nat} {H1 : Heap}, dis (ext γ q (fun f => .inr (ci, fl f))) → Wo (ext γ q (fun f => .inr (ci, fl f))) μ s H1 locs → W p l e R s m args below meth c H1 locs (cells + 1) (slots + M) Q (F0 m (pc + 3) ls (.ref q :: rest))) : W p l e R s m args below meth c H locs cells slots Q (F0 m pc ls rest) := by
  refine va_new hx hb hts hin ty hty hown (hts _ hcl) (hts _ hinst) (hts _ hini) hK hw.1 (wmk_D hd) hw.2 hA hcc hfs hcells.1 hcells.2 hdg (fun q H1 a b d => ?_)
  have e := wmk_ext (γ := γ) (q := q) (d := fun f => .inr (ci, fl f)) hz
  refine kk (q := q) (dis_of (μ := μ) ?_) ⟨?_, d⟩
  · rw [e]; exact b
  · rw [e]; exact a
theorem r_newi (hx : p.tables.exec = Jvm.exec) (hb : c.code = cc) (hts : ∀ w ∈ wG, w.before args s = true) (hK : va_K (eG γ) vwCl (eTy γ) s) (hd : dis γ) (hw : Wo γ μ s H locs) (hA : ∀ q, s.heap.size ≤ q → AK γ q) {i : Int32} {n : Nat} (hi : ¬ i < 0) (hn : i.toNatClampNeg = n) (hby : n * 4 ≤ 536870912) (hz : μ (eN γ) = zr) (hcells : cells + 1 ≤ R.cells ∧ slots + n ≤ R.slots) (hdg : decode cc pc = .ok (.newarray .int, 2))
    (kk : ∀ {q : Nat} {H1 : Heap}, dis (ext γ q (dArr (eT γ 0) n)) → Wo (ext γ q (dArr (eT γ 0) n)) μ s H1 locs → W p l e R s m args below meth c H1 locs (cells + 1) (slots + n) Q (F0 m (pc + 2) ls (.ref q :: rest))) : W p l e R s m args below meth c H locs cells slots Q (F0 m pc ls (.int i :: rest)) := by
  refine va_newa (atype := .int) (ty := .int) (a0 := (n, .inl zr)) hx hb (hts (Cond.arrayClass .int) wd_64) rfl hK hw.1 (wmk_D hd) hw.2 hA (fun _ => rfl) hi hn hby hcells.1 hcells.2 hdg (fun q cA H1 k a b d => ?_)
  have hcA : cA = eT γ 0 := cls_one hK (k.2 3 _ rfl).2
  subst hcA
  have e := wmk_ext (γ := γ) (q := q) (d := dArr (eT γ 0) n) hz
  refine kk (q := q) (dis_of (μ := μ) ?_) ⟨?_, d⟩
  · rw [e]; exact b
  · rw [e]; exact a
theorem r_newc (hx : p.tables.exec = Jvm.exec) (hb : c.code = cc) (hts : ∀ w ∈ wG, w.before args s = true) (hK : va_K (eG γ) vwCl (eTy γ) s) (hd : dis γ) (hw : Wo γ μ s H locs) (hA : ∀ q, s.heap.size ≤ q → AK γ q) {i : Int32} {n : Nat} (hi : ¬ i < 0) (hn : i.toNatClampNeg = n) (hby : n * 2 ≤ 536870912) (hz : μ (eN γ) = zr) (hcells : cells + 1 ≤ R.cells ∧ slots + n ≤ R.slots) (hdg : decode cc pc = .ok (.newarray .char, 2))
    (kk : ∀ {q : Nat} {H1 : Heap}, dis (ext γ q (dArr (eT γ 1) n)) → Wo (ext γ q (dArr (eT γ 1) n)) μ s H1 locs → W p l e R s m args below meth c H1 locs (cells + 1) (slots + n) Q (F0 m (pc + 2) ls (.ref q :: rest))) : W p l e R s m args below meth c H locs cells slots Q (F0 m pc ls (.int i :: rest)) := by
  refine va_newa (atype := .char) (ty := .char) (a0 := (n, .inl zr)) hx hb (hts (Cond.arrayClass .char) wd_108) rfl hK hw.1 (wmk_D hd) hw.2 hA (fun _ => rfl) hi hn hby hcells.1 hcells.2 hdg (fun q cA H1 k a b d => ?_)
  have hcA : cA = eT γ 1 := cls_two hK (k.2 3 _ rfl).2
  subst hcA
  have e := wmk_ext (γ := γ) (q := q) (d := dArr (eT γ 1) n) hz
  refine kk (q := q) (dis_of (μ := μ) ?_) ⟨?_, d⟩
  · rw [e]; exact b
  · rw [e]; exact a
def dNul (cB : ClassId) : (Nat → Int32) → va_E := fun _ => .inl (cB, 4, .inr (.inr (.inr (.inr (fun _ => none)))))
theorem r_newr (hx : p.tables.exec = Jvm.exec) (hb : c.code = cc) (hts : ∀ w ∈ wG, w.before args s = true) (hK : va_K (eG γ) vwCl (eTy γ) s) (hd : dis γ) (hw : Wo γ μ s H locs) (hA : ∀ q, s.heap.size ≤ q → AK γ q) (hown : s.vm.findClass own = some m.cls) {idx : Nat} (hao : va_AO "TippingBeam$Beam" s) (hcl : Cond.classLink own idx "TippingBeam$Beam" ∈ wG) (hz : μ (eN γ) = zr) (hcells : cells + 1 ≤ R.cells ∧ slots + 4 ≤ R.slots) (hdg : decode cc pc = .ok (.anewarray idx, 3))
    (kk : ∀ {q : Nat} {H1 : Heap}, dis (ext γ q (dNul (eT γ 2))) → Wo (ext γ q (dNul (eT γ 2))) μ s H1 locs → W p l e R s m args below meth c H1 locs (cells + 1) (slots + 4) Q (F0 m (pc + 3) ls (.ref q :: rest))) : W p l e R s m args below meth c H locs cells slots Q (F0 m pc ls (.int 4 :: rest)) := by
  refine va_newq hx hb hown (hts _ hcl) hao hK hw.1 (wmk_D hd) hw.2 hA (by decide) (N' := 4) (by decide) (by decide) hcells.1 hcells.2 hdg (fun q cA H1 k a b d => ?_)
  have hcA : cA = eT γ 2 := cls_three hK (k.2 3 _ rfl).2
  subst hcA
  have e := wmk_ext (γ := γ) (q := q) (d := dNul (eT γ 2)) hz
  refine kk (q := q) (dis_of (μ := μ) ?_) ⟨?_, d⟩
  · rw [e]; exact b
  · rw [e]; exact a
theorem r_putR (hx : p.tables.exec = Jvm.exec) (hb : c.code = cc) (hts : ∀ w ∈ wG, w.before args s = true) (hK : va_K (eG γ) vwCl (eTy γ) s) (hd : dis γ) (hw : Wo γ μ s H locs) (hown : s.vm.findClass own = some m.cls) (hin2 : meth.name = "<init>") {C : String} {T : u_T} {M ci idx : Nat} (hin : ∀ w ∈ u_ws C T M, w ∈ wG) (ty0 : Nat → FieldType) (hty : ∀ k, k < M → parseFieldDescriptor (T k).2.2.1 = some (ty0 k)) (hnm : ∀ a, a < M → ∀ b, b < M → a ≠ b → (T a).2.1 ≠ (T b).2.1) (hcl : vwCl[ci]? = some (C, T, M)) {fl fl' : (Nat → Int32) → List Value} {q a : Nat} (hq : eA γ q = a) (hc : q < eN γ ∧ eK γ q = fun f => .inr (ci, fl f)) (k : Nat) (hk : k < M) (hlink : Cond.fieldLink own idx (T k).1 (T k).2.1 (T k).2.2.1 ∈ wG) (hfin : (T k).2.2.2 = true) (hdecl : (T k).1 = own) {ty : FieldType} (htk : ty0 k = ty) {x : Nat} (hn : narrow ty (.ref x) = .ref x) (hfit : fits ty (.ref x) = true) (hl : ∀ f, k < (fl f).length) (hset : ∀ f, (fl f).set k (.ref x) = fl' f) (hdg : decode cc pc = .ok (.putfield idx, 3))
    (kk : ∀ {H1 : Heap} {locs1 : List Loc}, Wo (setK γ q (fun f => .inr (ci, fl' f))) μ s H1 locs1 → W p l e R s m args below meth c H1 locs1 cells slots Q (F0 m (pc + 3) ls rest)) : W p l e R s m args below meth c H locs cells slots Q (F0 m pc ls (.ref x :: .ref a :: rest)) := by
  subst hq
  refine va_putF hx hb hts hin ty0 hty hnm hown hK hw.1 (wmk_D hd) hw.2 q (wmk_at hc rfl) hcl k hk (hts _ hlink) (fun _ h => h) hfin hin2 hdecl (by rw [hty k hk, htk]) hn hfit (hl _) hdg (fun H1 locs1 a _ b => kk ⟨?_, b⟩)
  rw [hset] at a
  rw [← wmk_setK hc.1]
  exact a
/-- words that aren't tables' own: carried by hand -/
def NW (U : State) : Prop := va_AO "TippingBeam$Beam" U ∧ va_Nw (.methodLinkNest "TippingBeam" 31 yX2_init "TippingBeam") U
theorem NW.warm {U : State} (hW : s.WarmedH U.vm) (h : NW s) : NW U := ⟨h.1.moved hW.alike, va_Nw.warmM hW h.2⟩
/-- a constructor's contract: the world that it is given grows -/
def CtI (l : Launch) (y : MethodName) (cc : ByteArray) (n fF fL mc ms : Nat) (γ : Ev) (a : Nat) (μ : Mm) (Γ : (Nat → Nat) → Ev) (μ' : Mm) : Prop :=
  Met l y (.code y cc n none :: wG) { frames := fF, cells := mc, slots := ms, locals := fL } (va_Pc [.ref a] (fun U => Wd γ μ U ∧ (∀ q, U.heap.size ≤ q → AK γ q) ∧ NW U)) (fun _ u oc t => oc = .returned none ∧ (∃ qs : Nat → Nat, Wd (Γ qs) μ' t) ∧ va_F (AK γ) u t) mc ms (AK γ)
theorem Wd.blindI {av : List Value} : FrameBlind (va_Pc av (fun U => Wd γ μ U ∧ (∀ q, U.heap.size ≤ q → AK γ q) ∧ NW U)) := by
  intro a U g mk q
  obtain ⟨q0, ⟨qP, qK, qD⟩, qA, qN⟩ := q
  exact ⟨q0, ⟨qP, va_K.moved (u := U) (U := U.calling g mk a) (Vm.Alike.refl U.vm) qK, qD⟩, qA, qN.1.moved (u := U) (U := U.calling g mk a) (Vm.Alike.refl U.vm), qN.2.same rfl (rfl : U.vm = (U.calling g mk a).vm)⟩
set_option maxHeartbeats 4000000 in
theorem CtI.of {y : MethodName} {cc : ByteArray} {n fF fL mc ms a : Nat} {μ' : Mm} {Γ : (Nat → Nat) → Ev} (hy : plainFor y = true) (ho : y.cls = own) (hi : y.name = "<init>") (hn : 1 ≤ n)
    (body : ∀ {p : Program} {e : Env} {R : Room} {s : State} {m : MethodId} {below : List Frame} {meth : Method} {c : Code}, R = { frames := fF, cells := mc, slots := ms, locals := fL } → Cx p R s m #[Value.ref a] meth c own cc n none fF fL γ → meth.name = "<init>" → (∀ q, s.heap.size ≤ q → AK γ q) → NW s → Wo γ μ s s.heap [] → ∀ {ls : Array Slot}, lv_has ls n [(0, .ref a)] → W p l e R s m #[Value.ref a] below meth c s.heap [] 0 0 (MQ below (fun _ u oc t => oc = .returned none ∧ (∃ qs : Nat → Nat, Wd (Γ qs) μ' t) ∧ va_F (AK γ) u t) #[Value.ref a] s mc ms (AK γ)) (F0 m 0 ls [])) : CtI l y cc n fF fL mc ms γ a μ Γ μ' := by
  refine Met.ofWF (cc := cc) (maxL := n) (ret := none) hy rfl ?_
  intro p e s m args below meth c s₁ B hml hv
  obtain ⟨rfl, ⟨hP, hK, hD⟩, hA, hN⟩ := hv
  have hts := atoms_spec (ws := .code y cc n none :: wG) B.pre
  have hown : s.vm.findClass own = some m.cls := by rw [← ho]; exact findClass_of_methodNamed B.named
  have hin : meth.name = "<init>" := by rw [(name_of_methodNamed B.named B.method).1]; exact hi
  have hl := lv_entry [Value.ref a] (n := n) hn
  rw [lg_entry_eq]
  exact body rfl ⟨B.exec, B.bytes, B.returns, hml, hown, fun w hw => hts w (List.mem_cons_of_mem _ hw), B.notSynchronized, hK, hD, Nat.le_refl _, Nat.le_refl _⟩ hin hA hN ⟨hP, va_S.rf⟩ hl
/-- a constructor's end -/
theorem r_cret {γ' : Ev} {μ' : Mm} {Γ : (Nat → Nat) → Ev} {A : Nat → Prop} (hx : p.tables.exec = Jvm.exec) (hb : c.code = cc) (hr : meth.sig.returnType = none) (hlk : meth.locks = false) (hK : va_K (eG γ') vwCl (eTy γ') s) (hd : dis γ') (hw : Wo γ' μ' s H locs) (hA : AK γ' = A) (qs : Nat → Nat) (hq : Γ qs = γ') (hdg : decode cc pc = .ok (.return_, 1)) : W p l e R s m args below meth c H locs cells slots (MQ below (fun _ u oc t => oc = .returned none ∧ (∃ qs : Nat → Nat, Wd (Γ qs) μ' t) ∧ va_F A u t) args s cells slots A) (F0 m pc ls []) := by
  subst hA
  exact W.vret hx hb hr (fun t ht hW => ⟨rfl, ⟨qs, by rw [hq, ht]; exact hw.1, by rw [hq]; exact va_K.moved hW.alike hK, by rw [hq]; exact hd⟩, hw.2.F ht⟩) hw.2.2.2 hdg hlk
theorem r_runI {mc ms : Nat} {μ' : Mm} {Γ : (Nat → Nat) → Ev} {aa : Array Value} (hr : va_Run p l e R s m args below meth c H locs cells slots mc ms (F0 m pc ls st0) rest ((fun _ u oc t => oc = .returned none ∧ (∃ qs : Nat → Nat, Wd (Γ qs) μ' t) ∧ va_F (AK γ) u t : Array Value → State → Outcome → State → Prop) aa) (AK γ)) (hw : Wo γ μ s H locs) (hΓ : ∀ qs, AK (Γ qs) = AK γ ∧ eG (Γ qs) = eG γ ∧ eT (Γ qs) = eT γ)
    (kk : ∀ {qs : Nat → Nat} {H1 : Heap} {locs1 : List Loc}, dis (Γ qs) → Wo (Γ qs) μ' s H1 locs1 → W p l e R s m args below meth c H1 locs1 (cells + mc) (slots + ms) Q (F0 m (pc + 3) ls rest)) : W p l e R s m args below meth c H locs cells slots Q (F0 m pc ls st0) := by
  intro T hT X
  obtain ⟨v, st₀, t, T', L, h0, X', hL, e1, e2, ⟨hv, ⟨qs, hP1, hK1, hd1⟩, hz, hk⟩, stp⟩ := hr T hT X
  cases hv
  rw [h0] at hz hk
  have hS := hw.2
  obtain ⟨g1, g2, g3⟩ := hΓ qs
  obtain ⟨t2, a1, b1⟩ := kk (qs := qs) (H1 := T'.heap) (locs1 := locs ++ L) hd1 ⟨by rw [e1]; exact hP1, by
    rw [g1]
    exact ⟨Nat.le_trans hS.1 (by rw [e1]; exact hz), fun q h1 h2 => by rw [e1, hk q (Nat.lt_of_lt_of_le h1 hS.1) h2]; exact hS.2.1 q h1 h2, fun q hq => by
      rcases List.mem_append.mp hq with h | h
      · exact hS.2.2 q h
      · exact hL q h⟩⟩ T' rfl X'
  exact ⟨t2, stp t2 a1, b1⟩
def LkI (own : String) (idx : Nat) (y : MethodName) (cc : ByteArray) (n : Nat) : Prop :=
  (Cond.methodLink own idx y ∈ wG ∧ Cond.instanceMethod y ∈ wG ∧ Cond.initialized y.cls ∈ wG ∧ Cond.code y cc n none ∈ wG) ∧ y.name = "<init>" ∧ y.cls ≠ "java/lang/invoke/MethodHandle" ∧ y.cls ≠ "java/lang/invoke/VarHandle" ∧ (parseMethodDescriptor y.desc).map (fun d => d.parameters.length) = some 0
theorem r_I {nL fF fL : Nat} {ret : Option FieldType} {y : MethodName} {cy : ByteArray} {ny fy ly mc ms idx a : Nat} {μ' : Mm} {Γ : (Nat → Nat) → Ev} (C0 : Cx p R s m args meth c own cc nL ret fF fL γ) (hA : ∀ q, s.heap.size ≤ q → AK γ q) (hNW : NW s) (hM : CtI l y cy ny fy ly mc ms γ a μ Γ μ') (lk : LkI own idx y cy ny) (hΓ : ∀ qs, AK (Γ qs) = AK γ ∧ eG (Γ qs) = eG γ ∧ eT (Γ qs) = eT γ) (hls : ls.size = nL) (hst : st0 = .ref a :: rest) (hW : (rest.map fun v => v.category).sum ≤ 8) (hroom : fy + 1 ≤ fF ∧ 8 + (ny + 11) + ly ≤ fL) (hcells : cells + mc ≤ R.cells ∧ slots + ms ≤ R.slots) (hw : Wo γ μ s H locs) (hdg : decode cc pc = .ok (.invokespecial idx, 3))
    (kk : ∀ {qs : Nat → Nat} {H1 : Heap} {locs1 : List Loc}, dis (Γ qs) → Wo (Γ qs) μ' s H1 locs1 → W p l e R s m args below meth c H1 locs1 (cells + mc) (slots + ms) Q (F0 m (pc + 3) ls rest)) : W p l e R s m args below meth c H locs cells slots Q (F0 m pc ls st0) := by
  obtain ⟨hx, hb, hr, hml, hown, hts, hlk, hK, hd, hF, hL⟩ := C0
  obtain ⟨⟨w1, w2, w4, w5⟩, hy1, hd1, hd2, hd3⟩ := lk
  have cw := cwI (R := R) (rm := { frames := fy, cells := mc, slots := ms, locals := ly }) (mc := mc) (ms := ms) (ws := .code y cy ny none :: wG) (own := own) (index := idx) 0 hts (G_in (fun w hw => by
    rcases List.mem_cons.mp hw with rfl | h
    · exact w5
    · exact h)) rfl rfl rfl (hts _ w4) (hts _ w1) (hts _ w2) hy1 ⟨hd1, hd2, hd3⟩ ⟨Nat.le_trans hroom.1 hF, Nat.le_trans hroom.2 hL⟩
  exact r_runI (aa := [Value.ref a].toArray) (va_runI (As := []) (rest := rest) (b := a) ⟨hx, hb, hml, hown, hts⟩ hM cw ⟨Wd.blindI, fun U hU hWU => ⟨rfl, ⟨by rw [hU]; exact hw.1, va_K.moved hWU.alike hK, hd⟩, fun q hq => hA q (Nat.le_trans hw.2.1 (by rw [← hU]; exact hq)), hNW.warm hWU⟩⟩ rfl rfl hls hst (lv_room hW) hdg hcells) hw hΓ kk
/-- a nest mate's private constructor -/
theorem r_IN {nL fF fL : Nat} {ret : Option FieldType} {cy : ByteArray} {ny fy ly mc ms a : Nat} {μ' : Mm} {Γ : (Nat → Nat) → Ev} (C0 : Cx p R s m args meth c "TippingBeam" cc nL ret fF fL γ) (hA : ∀ q, s.heap.size ≤ q → AK γ q) (hNW : NW s) (hM : CtI l yX2_init cy ny fy ly mc ms γ a μ Γ μ') (w2 : Cond.instanceMethod yX2_init ∈ wG) (w4 : Cond.initialized yX2_init.cls ∈ wG) (w5 : Cond.code yX2_init cy ny none ∈ wG) (hΓ : ∀ qs, AK (Γ qs) = AK γ ∧ eG (Γ qs) = eG γ ∧ eT (Γ qs) = eT γ) (hls : ls.size = nL) (hst : st0 = .ref a :: rest) (hW : (rest.map fun v => v.category).sum ≤ 8) (hroom : fy + 1 ≤ fF ∧ 8 + (ny + 11) + ly ≤ fL) (hcells : cells + mc ≤ R.cells ∧ slots + ms ≤ R.slots) (hw : Wo γ μ s H locs) (hdg : decode cc pc = .ok (.invokespecial 31, 3))
    (kk : ∀ {qs : Nat → Nat} {H1 : Heap} {locs1 : List Loc}, dis (Γ qs) → Wo (Γ qs) μ' s H1 locs1 → W p l e R s m args below meth c H1 locs1 (cells + mc) (slots + ms) Q (F0 m (pc + 3) ls rest)) : W p l e R s m args below meth c H locs cells slots Q (F0 m pc ls st0) := by
  obtain ⟨hx, hb, hr, hml, hown, hts, hlk, hK, hd, hF, hL⟩ := C0
  have cw := va_cnB (R := R) (rm := { frames := fy, cells := mc, slots := ms, locals := ly }) (mc := mc) (ms := ms) (ws := .code yX2_init cy ny none :: wG) (own := "TippingBeam") (host := "TippingBeam") (index := 31) 0 hts (G_in (fun w hw => by
    rcases List.mem_cons.mp hw with rfl | h
    · exact w5
    · exact h)) rfl rfl rfl hNW.2 (hts _ w4) ⟨by decide, by decide, by decide +kernel⟩ ⟨Nat.le_trans hroom.1 hF, Nat.le_trans hroom.2 hL⟩
  exact r_runI (aa := [Value.ref a].toArray) (va_runIN (As := []) (rest := rest) (b := a) ⟨hx, hb, hml, hown, hts⟩ hM ⟨cw, rfl, hts _ w2⟩ ⟨Wd.blindI, fun U hU hWU => ⟨rfl, ⟨by rw [hU]; exact hw.1, va_K.moved hWU.alike hK, hd⟩, fun q hq => hA q (Nat.le_trans hw.2.1 (by rw [← hU]; exact hq)), hNW.warm hWU⟩⟩ rfl rfl hls hst (lv_room hW) hdg hcells) hw hΓ kk
end
