/-! the history's and TippingBeam's constructors -/
theorem isX0_mono {γ γ' : Ev} {o : Nat} (hN : eN γ ≤ eN γ') (hT : eT γ' = eT γ) (h : ∀ c, o ≤ c → c < o + 6 → eK γ' c = eK γ c ∧ eA γ' c = eA γ c) (hB : isX0 γ o) : isX0 γ' o := by
  obtain ⟨⟨a0, b0⟩, ⟨a1, b1⟩, ⟨a2, b2⟩, ⟨a3, b3⟩, ⟨a4, b4⟩, ⟨a5, b5⟩⟩ := hB
  refine ⟨⟨by omega, ?_⟩, ⟨by omega, ?_⟩, ⟨by omega, ?_⟩, ⟨by omega, ?_⟩, ⟨by omega, ?_⟩, ⟨by omega, ?_⟩⟩
  · rw [(h o (by omega) (by omega)).1, b0]
    unfold fX0
    rw [(h (o + 1) (by omega) (by omega)).2, (h (o + 2) (by omega) (by omega)).2, (h (o + 3) (by omega) (by omega)).2, (h (o + 4) (by omega) (by omega)).2, (h (o + 5) (by omega) (by omega)).2]
  · rw [(h (o + 1) (by omega) (by omega)).1, hT]; exact b1
  · rw [(h (o + 2) (by omega) (by omega)).1, hT]; exact b2
  · rw [(h (o + 3) (by omega) (by omega)).1, hT]; exact b3
  · rw [(h (o + 4) (by omega) (by omega)).1, hT]; exact b4
  · rw [(h (o + 5) (by omega) (by omega)).1, hT]; exact b5
theorem isX2_mono {γ γ' : Ev} {o : Nat} (hN : eN γ ≤ eN γ') (hT : eT γ' = eT γ) (h : ∀ c, o ≤ c → c < o + 4 → eK γ' c = eK γ c ∧ eA γ' c = eA γ c) (hB : isX2 γ o) : isX2 γ' o := by
  obtain ⟨⟨a0, b0⟩, ⟨a1, b1⟩, ⟨a2, b2⟩, ⟨a3, b3⟩⟩ := hB
  refine ⟨⟨by omega, ?_⟩, ⟨by omega, ?_⟩, ⟨by omega, ?_⟩, ⟨by omega, ?_⟩⟩
  · rw [(h o (by omega) (by omega)).1, b0]
    unfold fX2
    rw [(h (o + 1) (by omega) (by omega)).2, (h (o + 2) (by omega) (by omega)).2, (h (o + 3) (by omega) (by omega)).2]
  · rw [(h (o + 1) (by omega) (by omega)).1, hT]; exact b1
  · rw [(h (o + 2) (by omega) (by omega)).1, hT]; exact b2
  · rw [(h (o + 3) (by omega) (by omega)).1, hT]; exact b3
theorem isX1_mono {γ γ' : Ev} {o : Nat} (hN : eN γ ≤ eN γ') (hT : eT γ' = eT γ) (h : ∀ c, o ≤ c → c < o + 26 → eK γ' c = eK γ c ∧ eA γ' c = eA γ c) (hB : isX1 γ o) : isX1 γ' o := by
  obtain ⟨⟨a0, b0⟩, ⟨a1, b1⟩⟩ := hB
  refine ⟨⟨by omega, ?_⟩, ⟨by omega, ?_⟩⟩
  · rw [(h o (by omega) (by omega)).1, b0]
    unfold fX1
    rw [(h (o + 1) (by omega) (by omega)).2]
  · rw [(h (o + 1) (by omega) (by omega)).1, b1]
    unfold dSt
    rw [hT]
    funext f
    congr 7
    funext k
    have : (f k).toNatClampNeg % 4 < 4 := Nat.mod_lt _ (by decide)
    rw [(h (o + 2 + 6 * ((f k).toNatClampNeg % 4)) (by omega) (by omega)).2]
theorem isX4_mono {γ γ' : Ev} (hN : eN γ ≤ eN γ') (hT : eT γ' = eT γ) (h : ∀ c, c < 49 → eK γ' c = eK γ c ∧ eA γ' c = eA γ c) (hB : isX4 γ 0) : isX4 γ' 0 := by
  obtain ⟨⟨a0, b0⟩, h1, h2, h3, h4, h5, h6, h7, h8, h9⟩ := hB
  refine ⟨⟨by omega, ?_⟩, isX0_mono hN hT (fun c _ _ => h c (by omega)) h1, isX0_mono hN hT (fun c _ _ => h c (by omega)) h2, isX0_mono hN hT (fun c _ _ => h c (by omega)) h3, isX1_mono hN hT (fun c _ _ => h c (by omega)) h4, isX0_mono hN hT (fun c _ _ => h c (by omega)) h5, isX0_mono hN hT (fun c _ _ => h c (by omega)) h6, isX0_mono hN hT (fun c _ _ => h c (by omega)) h7, isX0_mono hN hT (fun c _ _ => h c (by omega)) h8, isX2_mono hN hT (fun c _ _ => h c (by omega)) h9⟩
  rw [(h 0 (by omega)).1, b0]
  unfold fX4
  rw [(h (0 + 1) (by omega)).2, (h (0 + 7) (by omega)).2, (h (0 + 13) (by omega)).2, (h (0 + 19) (by omega)).2, (h (0 + 45) (by omega)).2]
/-- the same env but for what lies behind o -/
def Ks (γ0 γ : Ev) : Prop := eG γ = eG γ0 ∧ eT γ = eT γ0 ∧ AK γ = AK γ0
theorem Ks.hK {γ0 γ : Ev} (h : Ks γ0 γ) {s : State} (hK : va_K (eG γ0) vwCl (eTy γ0) s) : va_K (eG γ) vwCl (eTy γ) s := by
  obtain ⟨h1, h2, -⟩ := h
  unfold eTy
  rw [h1, h2]
  exact hK
theorem Ks.hA {γ0 γ : Ev} (h : Ks γ0 γ) {z : Nat} (hA : ∀ q, z ≤ q → AK γ0 q) : ∀ q, z ≤ q → AK γ q := by
  obtain ⟨-, -, h3⟩ := h
  rw [h3]
  exact hA
theorem c_X0_initG {l : Launch} {γ : Ev} {o : Nat} (hN : eN γ = o + 1) (hk : eK γ o = fun f => .inr (0, dfX0 f)) {μ : Mm} (hz : ∀ c, o ≤ c → μ c = zr) : CtI l yX0_init cX0_init 2 20 600 5 236 γ (eA γ o) μ (fun qs => gX0 (eG γ) (eT γ) o (eK γ) (eA γ) (AK γ) qs) (st 6 μ o B0) := by
  obtain ⟨D, cT, N, K, ad, A⟩ := γ
  have hN : N = o + 1 := hN
  subst hN
  exact c_X0_init hk hz
theorem c_X2_initG {l : Launch} {γ : Ev} {o : Nat} (hN : eN γ = o + 1) (hk : eK γ o = fun f => .inr (2, dfX2 f)) {μ : Mm} (hz : ∀ c, o ≤ c → μ c = zr) : CtI l yX2_init cX2_init 1 2 40 3 100 γ (eA γ o) μ (fun qs => gX2 (eG γ) (eT γ) o (eK γ) (eA γ) (AK γ) qs) μ := by
  obtain ⟨D, cT, N, K, ad, A⟩ := γ
  have hN : N = o + 1 := hN
  subst hN
  exact c_X2_init hk hz
/-- what a Beam made at o leaves: the cell o, its five rows, all else as it was -/
theorem gX0_old {D : va_G} {cT : Nat → ClassId} {o c : Nat} {K : Nat → (Nat → Int32) → va_E} {ad : Nat → Nat} {A : Nat → Prop} {qs : Nat → Nat} (h : c < o) : eK (gX0 D cT o K ad A qs) c = K c ∧ eA (gX0 D cT o K ad A qs) c = ad c := ⟨if_pos h, if_pos (Nat.le_of_lt h)⟩
theorem gX2_old {D : va_G} {cT : Nat → ClassId} {o c : Nat} {K : Nat → (Nat → Int32) → va_E} {ad : Nat → Nat} {A : Nat → Prop} {qs : Nat → Nat} (h : c < o) : eK (gX2 D cT o K ad A qs) c = K c ∧ eA (gX2 D cT o K ad A qs) c = ad c := ⟨if_pos h, if_pos (Nat.le_of_lt h)⟩
def Hi (γ0 γ : Ev) (i : Nat) (f : Nat → Option Nat) : Prop :=
  eN γ = 21 + 6 * i ∧ Ks γ0 γ ∧ (∀ c, c < 19 → eK γ c = eK γ0 c ∧ eA γ c = eA γ0 c) ∧ eA γ 19 = eA γ0 19 ∧ (eK γ 19 = fun g => .inr (1, fX1 γ 19 g)) ∧ (eK γ 20 = fun _ => .inl (eT γ 2, 4, .inr (.inr (.inr (.inr f))))) ∧ (∀ b, b < i → isX0 γ (21 + 6 * b)) ∧ ∀ k, k < i → f k = some (eA γ (21 + 6 * k))
theorem Hi.step {γ0 γ : Ev} {i q : Nat} {f : Nat → Option Nat} {qs : Nat → Nat} (h : Hi γ0 γ i f) {γ1 γ2 : Ev} (h1 : γ1 = ext γ q (fun f => .inr (0, dfX0 f))) (h2 : γ2 = gX0 (eG γ1) (eT γ1) (21 + 6 * i) (eK γ1) (eA γ1) (AK γ1) qs) : Hi γ0 (setK γ2 20 (fun _ => .inl (eT γ 2, 4, .inr (.inr (.inr (.inr (va_up f i (some q)))))))) (i + 1) (va_up f i (some q)) := by
  obtain ⟨hN, hs, ho, ha, h19, h20, hb, hf⟩ := h
  have o1 : ∀ c, c < 21 + 6 * i → eK γ2 c = eK γ c ∧ eA γ2 c = eA γ c := by
    intro c hc
    subst h2
    obtain ⟨e1, e2⟩ := gX0_old (D := eG γ1) (cT := eT γ1) (K := eK γ1) (ad := eA γ1) (A := AK γ1) (qs := qs) hc
    rw [e1, e2]
    subst h1
    exact ⟨ext_K (by omega), ext_A (γ := γ) (by omega)⟩
  have o2 : eA γ2 (21 + 6 * i) = q := by
    subst h2
    rw [gX0_A0]
    subst h1
    exact ext_An (γ := γ) (by omega)
  have t2 : eT γ2 = eT γ := by subst h2; subst h1; rfl
  refine ⟨by subst h2; rfl, ?_, fun c hc => ⟨?_, ?_⟩, ?_, ?_, ?_, fun b hbi => ?_, fun k hk => ?_⟩
  · subst h2; subst h1; exact hs
  · rw [setK_K (by omega), (o1 c (by omega)).1]; exact (ho c hc).1
  · exact (o1 c (by omega)).2.trans (ho c hc).2
  · exact (o1 19 (by omega)).2.trans ha
  · rw [setK_K (by omega), (o1 19 (by omega)).1, h19]
    unfold fX1
    show (fun g => Sum.inr (1, [Value.ref (eA γ (19 + 1)), _])) = (fun g => Sum.inr (1, [Value.ref (eA γ2 (19 + 1)), _]))
    rw [(o1 (19 + 1) (by omega)).2]
  · rw [setK_n]
    show _ = (fun _ => Sum.inl (eT γ2 2, _))
    rw [t2]
  · have hB : isX0 γ2 (21 + 6 * b) := by
      by_cases e : b = i
      · subst e; subst h2; exact gX0_is
      · exact isX0_mono (by subst h2; show eN γ ≤ 21 + 6 * i + 6; omega) t2 (fun c _ _ => o1 c (by omega)) (hb b (by omega))
    exact isX0_mono (γ := γ2) (Nat.le_refl _) rfl (fun c _ _ => ⟨setK_K (by omega), rfl⟩) hB
  · unfold va_up
    by_cases e : k = i
    · subst e
      rw [if_pos rfl]
      exact congrArg some o2.symm
    · rw [if_neg e, hf k (by omega)]
      exact congrArg some (o1 _ (by omega)).2.symm

/-- a constructor's contract that says of the grown world what holds of it -/
def CtJ (l : Launch) (y : MethodName) (cc : ByteArray) (n fF fL mc ms : Nat) (γ : Ev) (a : Nat) (μ : Mm) (P : Ev → Prop) (μ' : Mm) : Prop :=
  Met l y (.code y cc n none :: wG) { frames := fF, cells := mc, slots := ms, locals := fL } (va_Pc [.ref a] (fun U => Wd γ μ U ∧ (∀ q, U.heap.size ≤ q → AK γ q) ∧ NW U)) (fun _ u oc t => oc = .returned none ∧ (∃ γ', P γ' ∧ Wd γ' μ' t) ∧ va_F (AK γ) u t) mc ms (AK γ)
section
variable {p : Program} {l : Launch} {e : Env} {R : Room} {s : State} {m : MethodId} {args : Array Value} {below : List Frame} {meth : Method} {c : Code} {H : Heap} {locs : List Loc} {Q : State → Prop} {cc : ByteArray} {pc : Nat} {ls : Array Slot} {rest st0 : List Value} {γ : Ev} {μ : Mm} {own : String} {cells slots : Nat} {P : Ev → Prop}
set_option maxHeartbeats 4000000 in
theorem CtJ.of {y : MethodName} {cc : ByteArray} {n fF fL mc ms a : Nat} {μ' : Mm} (hy : plainFor y = true) (ho : y.cls = own) (hi : y.name = "<init>") (hn : 1 ≤ n)
    (body : ∀ {p : Program} {e : Env} {R : Room} {s : State} {m : MethodId} {below : List Frame} {meth : Method} {c : Code}, R = { frames := fF, cells := mc, slots := ms, locals := fL } → Cx p R s m #[Value.ref a] meth c own cc n none fF fL γ → meth.name = "<init>" → (∀ q, s.heap.size ≤ q → AK γ q) → NW s → Wo γ μ s s.heap [] → ∀ {ls : Array Slot}, lv_has ls n [(0, .ref a)] → W p l e R s m #[Value.ref a] below meth c s.heap [] 0 0 (MQ below (fun _ u oc t => oc = .returned none ∧ (∃ γ', P γ' ∧ Wd γ' μ' t) ∧ va_F (AK γ) u t) #[Value.ref a] s mc ms (AK γ)) (F0 m 0 ls [])) : CtJ l y cc n fF fL mc ms γ a μ P μ' := by
  refine Met.ofWF (cc := cc) (maxL := n) (ret := none) hy rfl ?_
  intro p e s m args below meth c s₁ B hml hv
  obtain ⟨rfl, ⟨hP, hK, hD⟩, hA, hN⟩ := hv
  have hts := atoms_spec (ws := .code y cc n none :: wG) B.pre
  have hown : s.vm.findClass own = some m.cls := by rw [← ho]; exact findClass_of_methodNamed B.named
  have hin : meth.name = "<init>" := by rw [(name_of_methodNamed B.named B.method).1]; exact hi
  have hl := lv_entry [Value.ref a] (n := n) hn
  rw [lg_entry_eq]
  exact body rfl ⟨B.exec, B.bytes, B.returns, hml, hown, fun w hw => hts w (List.mem_cons_of_mem _ hw), B.notSynchronized, hK, hD, Nat.le_refl _, Nat.le_refl _⟩ hin hA hN ⟨hP, va_S.rf⟩ hl
theorem r_jret {γ' : Ev} {μ' : Mm} {A : Nat → Prop} (hx : p.tables.exec = Jvm.exec) (hb : c.code = cc) (hr : meth.sig.returnType = none) (hlk : meth.locks = false) (hK : va_K (eG γ') vwCl (eTy γ') s) (hd : dis γ') (hw : Wo γ' μ' s H locs) (hA : AK γ' = A) (hq : P γ') (hdg : decode cc pc = .ok (.return_, 1)) : W p l e R s m args below meth c H locs cells slots (MQ below (fun _ u oc t => oc = .returned none ∧ (∃ γ', P γ' ∧ Wd γ' μ' t) ∧ va_F A u t) args s cells slots A) (F0 m pc ls []) := by
  subst hA
  exact W.vret hx hb hr (fun t ht hW => ⟨rfl, ⟨γ', hq, by rw [ht]; exact hw.1, va_K.moved hW.alike hK, hd⟩, hw.2.F ht⟩) hw.2.2.2 hdg hlk
theorem r_runJ {mc ms : Nat} {μ' : Mm} {aa : Array Value} (hr : va_Run p l e R s m args below meth c H locs cells slots mc ms (F0 m pc ls st0) rest ((fun _ u oc t => oc = .returned none ∧ (∃ γ', P γ' ∧ Wd γ' μ' t) ∧ va_F (AK γ) u t : Array Value → State → Outcome → State → Prop) aa) (AK γ)) (hw : Wo γ μ s H locs) (hΓ : ∀ γ', P γ' → Ks γ γ')
    (kk : ∀ {γ' : Ev} {H1 : Heap} {locs1 : List Loc}, P γ' → dis γ' → Wo γ' μ' s H1 locs1 → W p l e R s m args below meth c H1 locs1 (cells + mc) (slots + ms) Q (F0 m (pc + 3) ls rest)) : W p l e R s m args below meth c H locs cells slots Q (F0 m pc ls st0) := by
  intro T hT X
  obtain ⟨v, st₀, t, T', L, h0, X', hL, e1, e2, ⟨hv, ⟨γ', hp, hP1, hK1, hd1⟩, hz, hk⟩, stp⟩ := hr T hT X
  cases hv
  rw [h0] at hz hk
  have hS := hw.2
  obtain ⟨g1, g2, g3⟩ := hΓ γ' hp
  obtain ⟨t2, a1, b1⟩ := kk (H1 := T'.heap) (locs1 := locs ++ L) hp hd1 ⟨by rw [e1]; exact hP1, by
    rw [g3]
    exact ⟨Nat.le_trans hS.1 (by rw [e1]; exact hz), fun q h1 h2 => by rw [e1, hk q (Nat.lt_of_lt_of_le h1 hS.1) h2]; exact hS.2.1 q h1 h2, fun q hq => by
      rcases List.mem_append.mp hq with h | h
      · exact hS.2.2 q h
      · exact hL q h⟩⟩ T' rfl X'
  exact ⟨t2, stp t2 a1, b1⟩
theorem r_J {nL fF fL : Nat} {ret : Option FieldType} {y : MethodName} {cy : ByteArray} {ny fy ly mc ms idx a : Nat} {μ' : Mm} (C0 : Cx p R s m args meth c own cc nL ret fF fL γ) (hA : ∀ q, s.heap.size ≤ q → AK γ q) (hNW : NW s) (hM : CtJ l y cy ny fy ly mc ms γ a μ P μ') (lk : LkI own idx y cy ny) (hΓ : ∀ γ', P γ' → Ks γ γ') (hls : ls.size = nL) (hst : st0 = .ref a :: rest) (hW : (rest.map fun v => v.category).sum ≤ 8) (hroom : fy + 1 ≤ fF ∧ 8 + (ny + 11) + ly ≤ fL) (hcells : cells + mc ≤ R.cells ∧ slots + ms ≤ R.slots) (hw : Wo γ μ s H locs) (hdg : decode cc pc = .ok (.invokespecial idx, 3))
    (kk : ∀ {γ' : Ev} {H1 : Heap} {locs1 : List Loc}, P γ' → dis γ' → Wo γ' μ' s H1 locs1 → W p l e R s m args below meth c H1 locs1 (cells + mc) (slots + ms) Q (F0 m (pc + 3) ls rest)) : W p l e R s m args below meth c H locs cells slots Q (F0 m pc ls st0) := by
  obtain ⟨hx, hb, hr, hml, hown, hts, hlk, hK, hd, hF, hL⟩ := C0
  obtain ⟨⟨w1, w2, w4, w5⟩, hy1, hd1, hd2, hd3⟩ := lk
  have cw := cwI (R := R) (rm := { frames := fy, cells := mc, slots := ms, locals := ly }) (mc := mc) (ms := ms) (ws := .code y cy ny none :: wG) (own := own) (index := idx) 0 hts (G_in (fun w hw => by
    rcases List.mem_cons.mp hw with rfl | h
    · exact w5
    · exact h)) rfl rfl rfl (hts _ w4) (hts _ w1) (hts _ w2) hy1 ⟨hd1, hd2, hd3⟩ ⟨Nat.le_trans hroom.1 hF, Nat.le_trans hroom.2 hL⟩
  exact r_runJ (aa := [Value.ref a].toArray) (va_runI (As := []) (rest := rest) (b := a) ⟨hx, hb, hml, hown, hts⟩ hM cw ⟨Wd.blindI, fun U hU hWU => ⟨rfl, ⟨by rw [hU]; exact hw.1, va_K.moved hWU.alike hK, hd⟩, fun q hq => hA q (Nat.le_trans hw.2.1 (by rw [← hU]; exact hq)), hNW.warm hWU⟩⟩ rfl rfl hls hst (lv_room hW) hdg hcells) hw hΓ kk
/-- states[i] = a beam: the row of references as it grows -/
theorem r_hset (hx : p.tables.exec = Jvm.exec) (hb : c.code = cc) (hK : va_K (eG γ) vwCl (eTy γ) s) (hd : dis γ) (hw : Wo γ μ s H locs) {f : Nat → Option Nat} {fl : (Nat → Int32) → List Value} {k q a : Nat} (hr : 20 < eN γ ∧ eK γ 20 = fun _ => .inl (eT γ 2, 4, .inr (.inr (.inr (.inr f))))) (hv : k < eN γ ∧ eK γ k = fun f => .inr (0, fl f)) (hq : eA γ k = q) (ha : eA γ 20 = a) {i : Int32} {j : Nat} (hi : vp_in i 4) (hj : i.toNatClampNeg = j) (hdg : decode cc pc = .ok (.aastore, 1))
    (kk : ∀ {H1 : Heap} {locs1 : List Loc}, Wo (setK γ 20 (fun _ => .inl (eT γ 2, 4, .inr (.inr (.inr (.inr (va_up f j (some q)))))))) μ s H1 locs1 → W p l e R s m args below meth c H1 locs1 cells slots Q (F0 m (pc + 1) ls rest)) : W p l e R s m args below meth c H locs cells slots Q (F0 m pc ls (.ref q :: .int i :: .ref a :: rest)) := by
  subst hj
  subst hq
  subst ha
  refine va_astq hx hb hK hw.1 (wmk_D hd) hw.2 20 2 k 0 (r := (RX0, TX0, 12)) (n := 4) (f := f) (wmk_at hr rfl) rfl (wmk_at hv rfl) rfl hi hdg (fun H1 locs1 a _ b => kk ⟨?_, b⟩)
  rw [← wmk_setK hr.1]
  exact a
end
def perm : Nat → Int32 := fun k => Int32.ofNat k
def HiP (γ0 γ : Ev) : Prop := eN γ = 45 ∧ Ks γ0 γ ∧ (∀ c, c < 19 → eK γ c = eK γ0 c ∧ eA γ c = eA γ0 c) ∧ eA γ 19 = eA γ0 19 ∧ isX1 γ 19 ∧ isX0 γ 21 ∧ isX0 γ 27 ∧ isX0 γ 33 ∧ isX0 γ 39
theorem arrV_congr {cI : ClassId} {N : Nat} {f g : Nat → Value} (h : ∀ j, j < N → f j = g j) : arrV cI N f = arrV cI N g := by
  unfold arrV
  congr 1
  apply Array.ext
  · simp
  · intro i h1 h2
    simp only [Array.getElem_ofFn]
    exact h i (by simpa using h1)
theorem va_P_swap {D : va_G} {cl : List vw_C} {ws : va_W} {H : Heap} {k a : Nat} {cA : ClassId} {x y : vp_A} (hP : va_P D cl ws H) (hk : ws[k]? = some (a, .inl (cA, x))) (he : vp_cell cA x = vp_cell cA y) : va_P D cl (ws.set k (a, .inl (cA, y))) H := by
  intro j q hj
  rw [List.getElem?_set] at hj
  by_cases e : k = j
  · subst e
    rw [if_pos rfl] at hj
    split at hj
    · cases hj
      have := hP k _ hk
      show H[a]? = some (vp_cell cA y)
      rw [← he]
      exact this
    · cases hj
  · rw [if_neg e] at hj
    exact hP j q hj
theorem dfX0_ok : ∀ j, j < 12 → defaultValue (tyX0 j) = vp_V (dfX0 zr) j
  | 0, _ => rfl
  | 1, _ => rfl
  | 2, _ => rfl
  | 3, _ => rfl
  | 4, _ => rfl
  | 5, _ => rfl
  | 6, _ => rfl
  | 7, _ => rfl
  | 8, _ => rfl
  | 9, _ => rfl
  | 10, _ => rfl
  | 11, _ => rfl
  | j + 12, h => absurd h (by omega)
theorem dfX2_ok : ∀ j, j < 8 → defaultValue (tyX2 j) = vp_V (dfX2 zr) j
  | 0, _ => rfl
  | 1, _ => rfl
  | 2, _ => rfl
  | 3, _ => rfl
  | 4, _ => rfl
  | 5, _ => rfl
  | 6, _ => rfl
  | 7, _ => rfl
  | j + 8, h => absurd h (by omega)
abbrev dfX1 (f : Nat → Int32) : List Value := [.null, .int (f 1)]
abbrev dfX4 (f : Nat → Int32) : List Value := [.null, .null, .null, .null, .null, .int (f 5), .int (f 6), .int (f 7), .int (f 8)]
theorem dfX1_ok : ∀ j, j < 2 → defaultValue (tyX1 j) = vp_V (dfX1 zr) j
  | 0, _ => rfl
  | 1, _ => rfl
  | j + 2, h => absurd h (by omega)
theorem dfX4_ok : ∀ j, j < 9 → defaultValue (tyX4 j) = vp_V (dfX4 zr) j
  | 0, _ => rfl
  | 1, _ => rfl
  | 2, _ => rfl
  | 3, _ => rfl
  | 4, _ => rfl
  | 5, _ => rfl
  | 6, _ => rfl
  | 7, _ => rfl
  | 8, _ => rfl
  | j + 9, h => absurd h (by omega)
theorem lkI_X1_15 : LkI RX1 15 yX0_init cX0_init 2 := ⟨⟨wd_73, wd_24, wd_7, wd_25⟩, rfl, by decide +kernel, by decide +kernel, by decide +kernel⟩
theorem lkI_X4_9 : LkI RX4 9 yX0_init cX0_init 2 := ⟨⟨wd_23, wd_24, wd_7, wd_25⟩, rfl, by decide +kernel, by decide +kernel, by decide +kernel⟩
theorem lkI_X4_24 : LkI RX4 24 yX1_init cX1_init 2 := ⟨⟨wd_67, wd_68, wd_8, wd_69⟩, rfl, by decide +kernel, by decide +kernel, by decide +kernel⟩
theorem lkI_L_91 : LkI RL 91 yX4_init cX4_init 1 := ⟨⟨wd_15, wd_16, wd_6, wd_17⟩, rfl, by decide +kernel, by decide +kernel, by decide +kernel⟩
set_option maxHeartbeats 4000000 in
set_option maxRecDepth 20000 in
theorem c_X1_init {l : Launch} {γ : Ev} (hN : eN γ = 20) (hk : eK γ 19 = fun f => .inr (1, dfX1 f)) {μ : Mm} (hz : ∀ c, 19 ≤ c → μ c = zr) : CtJ l yX1_init cX1_init 2 22 660 25 996 γ (eA γ 19) μ (HiP γ) (mset (st 6 (st 6 (st 6 (st 6 μ 21 B0) 27 B0) 33 B0) 39 B0) 20 perm) := by
  refine CtJ.of (own := RX1) (by decide +kernel) rfl rfl (by decide) ?_
  intro p e R s m below meth c hR C hin hA hNW hw ls hl
  subst hR
  have C0 := C
  obtain ⟨hx, hb, hr, hml, hown, hts, hlk, hK, hd, hF, hL⟩ := C
  refine lv_aload_n hx hb dX1_init_0 rfl (lv_at hl 0 rfl) ?_
  refine W.objInit hx hb hown (hts _ wd_70) (hts _ wd_19) (hts _ wd_20) rfl (by rw [hml]; exact hl.1) rfl dX1_init_1 (Nat.le_of_ble_eq_true rfl) (Nat.le_of_ble_eq_true rfl) ?_
  refine W.eq (g2 := F0 m 4 ls []) rfl ?_
  refine lv_aload_n hx hb dX1_init_4 rfl (lv_at hl 0 rfl) ?_
  refine lv_iconst (v := (4 : Int32)) hx hb dX1_init_5 (by decide) ?_
  refine r_newr hx hb hts hK hd hw hA hown hNW.1 wd_71 (by rw [hN]; exact hz 20 (by decide)) ⟨Nat.le_of_ble_eq_true rfl, Nat.le_of_ble_eq_true rfl⟩ dX1_init_6 (fun {q0} {H} hd hw => ?_)
  have xA : ∀ c, c ≠ 20 → eA (ext γ q0 (dNul (eT γ 2))) c = eA γ c := fun c h => ext_A (by omega)
  have xK : ∀ c, c ≠ 20 → eK (ext γ q0 (dNul (eT γ 2))) c = eK γ c := fun c h => ext_K (by omega)
  have xA2 : eA (ext γ q0 (dNul (eT γ 2))) 20 = q0 := ext_An hN.symm
  have xK2 : eK (ext γ q0 (dNul (eT γ 2))) 20 = dNul (eT γ 2) := ext_Kn hN.symm
  refine r_putR (γ := ext γ q0 (dNul (eT γ 2))) (q := 19) (fl' := fun f => [.ref q0, .int (f 1)]) (ty := .array (.object "TippingBeam$Beam")) hx hb hts hK hd hw hown hin inX1 tyX1 tyX1_ok nmX1 rfl (xA 19 (by omega)) ⟨by show 19 < eN γ + 1; omega, (xK 19 (by omega)).trans hk⟩ 0 (by decide) wd_74 rfl rfl rfl rfl rfl (fun _ => (Nat.le_of_ble_eq_true rfl)) (fun _ => rfl) dX1_init_9 (fun {H} {locs} hw => ?_)
  have hh : Hi γ (setK (ext γ q0 (dNul (eT γ 2))) 19 (fun f => .inr (1, [.ref q0, .int (f 1)]))) 0 (fun _ => none) := by
    refine ⟨by show eN γ + 1 = _; omega, ⟨rfl, rfl, rfl⟩, fun c hc => ⟨(setK_K (by omega)).trans (xK c (by omega)), xA c (by omega)⟩, xA 19 (by omega), ?_, ?_, fun b h => absurd h (Nat.not_lt_zero _), fun b h => absurd h (Nat.not_lt_zero _)⟩
    · rw [setK_n]
      unfold fX1
      have : eA (setK (ext γ q0 (dNul (eT γ 2))) 19 (fun f => .inr (1, [.ref q0, .int (f 1)]))) (19 + 1) = q0 := xA2
      rw [this]
    · exact (setK_K (by omega)).trans xK2
  replace hd : dis (setK (ext γ q0 (dNul (eT γ 2))) 19 (fun f => .inr (1, [.ref q0, .int (f 1)]))) := hd
  generalize hγ : (setK (ext γ q0 (dNul (eT γ 2))) 19 (fun f => .inr (1, [.ref q0, .int (f 1)]))) = γa at hw hd hh
  clear hγ xA xK xA2 xK2
  refine lv_iconst (v := (0 : Int32)) hx hb dX1_init_12 (by decide) ?_
  refine lv_istore_n (lv' := [(1, .int (0 : Int32)), (0, .ref (eA γ 19))]) hx hb dX1_init_13 rfl hl (by decide) rfl (fun ls hl => ?_)
  have turn : ∀ {γa : Ev} {μ : Mm} {f : Nat → Option Nat} {i : Nat} {cells slots : Nat} {x x' : Int32} {H : Heap} {locs : List Loc} {ls : Array Slot} {Q : State → Prop}, i < 4 → x < 4 → vp_in x 4 → x.toNatClampNeg = i → x + 1 = x' → (∀ c, 21 + 6 * i ≤ c → μ c = zr) → cells + 6 ≤ 25 → slots + 248 ≤ 996 → Hi γ γa i f → dis γa → Wo γa μ s H locs → lv_has ls 2 [(1, .int x), (0, .ref (eA γ 19))] →
      (∀ {γb : Ev} {f' : Nat → Option Nat} {H : Heap} {locs : List Loc} {ls : Array Slot}, Hi γ γb (i + 1) f' → dis γb → Wo γb (st 6 μ (21 + 6 * i) B0) s H locs → lv_has ls 2 [(1, .int x'), (0, .ref (eA γ 19))] → W p l e { frames := 22, cells := 25, slots := 996, locals := 660 } s m #[Value.ref (eA γ 19)] below meth c H locs (cells + 1 + 5) (slots + 12 + 236) Q (F0 m 14 ls [])) →
      W p l e { frames := 22, cells := 25, slots := 996, locals := 660 } s m #[Value.ref (eA γ 19)] below meth c H locs cells slots Q (F0 m 14 ls []) := by
    intro γa μ f i cells slots x x' H locs ls Q hi4 hx4 hxi hxe hx' hz hc1 hc2 hh hd hw hl kk
    have hh0 := hh
    obtain ⟨gN, gs, go, ga, g19, g20, gb, gf⟩ := hh
    have hKa := gs.hK hK
    have k19 : 19 < eN γa ∧ eK γa 19 = fun g => .inr (1, fX1 γa 19 g) := ⟨by omega, g19⟩
    refine lv_iload_n hx hb dX1_init_14 rfl (lv_at hl 0 rfl) ?_
    refine lv_aload_n hx hb dX1_init_15 rfl (lv_at hl 1 rfl) ?_
    refine W.eq (g2 := F0 m 16 ls (.ref (eA γa 19) :: [.int x])) (by rw [ga]) ?_
    refine r_get (v := .ref (eA γa (19 + 1))) hx hb hts hKa hw hown inX1 rfl k19 rfl 0 (by decide) wd_74 rfl dX1_init_16 ?_
    refine va_alen hx hb hKa hw.1 20 2 (x := (4, .inr (.inr (.inr (.inr f))))) (wmk_at ⟨by omega, g20⟩ rfl) (ty := .object "TippingBeam$Beam") rfl rfl dX1_init_19 ?_
    refine lv_icmp_ge (tgt := 42) hx hb dX1_init_20 (by decide) (fun c => absurd c (Int32.not_le.mpr hx4)) (fun _ => ?_)
    refine lv_aload_n hx hb dX1_init_23 rfl (lv_at hl 1 rfl) ?_
    refine W.eq (g2 := F0 m 24 ls (.ref (eA γa 19) :: [])) (by rw [ga]) ?_
    refine r_get (v := .ref (eA γa (19 + 1))) hx hb hts hKa hw hown inX1 rfl k19 rfl 0 (by decide) wd_74 rfl dX1_init_24 ?_
    refine lv_iload_n hx hb dX1_init_27 rfl (lv_at hl 0 rfl) ?_
    refine r_new (ci := 0) hx hb hts hKa hd hw (gs.hA hA) hown inX0 tyX0 tyX0_ok wd_71 wd_22 wd_7 rfl (fun f => dfX0 f) dfX0_ok (by rw [gN]; exact hz _ (Nat.le_refl _)) ⟨by show cells + 1 ≤ 25; omega, by show slots + 12 ≤ 996; omega⟩ dX1_init_28 (fun {q} {H} hd hw => ?_)
    refine lv_dup hx hb dX1_init_31 rfl ?_
    obtain ⟨γ1, h1⟩ : ∃ γ1, γ1 = ext γa q (fun f => .inr (0, dfX0 f)) := ⟨_, rfl⟩
    rw [← h1] at hd hw
    have e1 : eA γ1 (21 + 6 * i) = q := by rw [h1]; exact ext_An gN.symm
    have k1 : eK γ1 (21 + 6 * i) = fun f => .inr (0, dfX0 f) := by rw [h1]; exact ext_Kn gN.symm
    have n1 : eN γ1 = 21 + 6 * i + 1 := by rw [h1, ← gN]; rfl
    have s1 : Ks γ γ1 := by rw [h1]; exact gs
    have o1 : ∀ c, c < 21 + 6 * i → eK γ1 c = eK γa c ∧ eA γ1 c = eA γa c := fun c hc => by rw [h1]; exact ⟨ext_K (by omega), ext_A (by omega)⟩
    have t1 : eT γ1 = eT γa := by rw [h1]; rfl
    have hM := c_X0_initG (l := l) n1 k1 hz
    rw [e1] at hM
    refine r_I (rest := [.ref q, .int x, .ref (eA γa 20)]) ⟨hx, hb, hr, hml, hown, hts, hlk, s1.hK hK, hd, hF, hL⟩ (s1.hA hA) hNW hM lkI_X1_15 (fun _ => ⟨rfl, rfl, rfl⟩) hl.1 rfl (Nat.le_of_ble_eq_true rfl) (by decide) ⟨by show cells + 1 + 5 ≤ 25; omega, by show slots + 12 + 236 ≤ 996; omega⟩ hw dX1_init_32 (fun {qs} {H} {locs} hd hw => ?_)
    obtain ⟨γ2, h2⟩ : ∃ γ2, γ2 = gX0 (eG γ1) (eT γ1) (21 + 6 * i) (eK γ1) (eA γ1) (AK γ1) qs := ⟨_, rfl⟩
    have o2 : ∀ c, c < 21 + 6 * i → eK γ2 c = eK γa c ∧ eA γ2 c = eA γa c := fun c hc => by
      rw [h2]
      obtain ⟨a1, a2⟩ := gX0_old (D := eG γ1) (cT := eT γ1) (K := eK γ1) (ad := eA γ1) (A := AK γ1) (qs := qs) hc
      exact ⟨a1.trans (o1 c hc).1, a2.trans (o1 c hc).2⟩
    have e2 : eA γ2 (21 + 6 * i) = q := by rw [h2]; exact gX0_A0.trans e1
    have i2 : isX0 γ2 (21 + 6 * i) := by rw [h2]; exact gX0_is
    have t2 : eT γ2 = eT γa := by rw [h2]; exact t1
    have s2 : Ks γ γ2 := by rw [h2]; exact s1
    have n2 : eN γ2 = 21 + 6 * i + 6 := by rw [h2]; rfl
    replace hd : dis γ2 := by rw [h2]; exact hd
    replace hw : Wo γ2 (st 6 μ (21 + 6 * i) B0) s H locs := by rw [h2]; exact hw
    refine r_hset (f := f) (a := eA γa 20) hx hb (s2.hK hK) hd hw ⟨by omega, by rw [(o2 20 (by omega)).1, t2]; exact g20⟩ (X0_k0 i2) e2 (o2 20 (by omega)).2 hxi hxe dX1_init_35 (fun {H} {locs} hw => ?_)
    have hst := hh0.step (q := q) (qs := qs) h1 h2
    rw [← t2] at hst
    replace hd : dis (setK γ2 20 (fun _ => .inl (eT γ2 2, 4, .inr (.inr (.inr (.inr (va_up f i (some q)))))))) := hd
    refine lv_iinc (v := x') (lv' := [(1, .int x'), (0, .ref (eA γ 19))]) hx hb dX1_init_36 hl (k := 0) rfl (by rw [← hx']; rfl) (by decide) rfl (fun ls hl => ?_)
    refine lv_goto (tgt := 14) hx hb dX1_init_39 (by decide) ?_
    exact kk hst hd hw hl
  refine turn (i := 0) (x' := 1) (by decide) (by decide) (by unfold vp_in; decide) (by decide) (by decide) (fun c h => hz c (by omega)) (by decide) (by decide) hh hd hw hl (fun {γb} {f1} {H} {locs} {ls} hh hd hw hl => ?_)
  have hz1 : ∀ c, 27 ≤ c → st 6 μ 21 B0 c = zr := fun c h => (st_out (by omega)).trans (hz c (by omega))
  refine turn (i := 1) (x' := 2) (by decide) (by decide) (by unfold vp_in; decide) (by decide) (by decide) hz1 (by decide) (by decide) hh hd hw hl (fun {γb} {f1} {H} {locs} {ls} hh hd hw hl => ?_)
  have hz2 : ∀ c, 33 ≤ c → st 6 (st 6 μ 21 B0) 27 B0 c = zr := fun c h => (st_out (by omega)).trans (hz1 c (by omega))
  refine turn (i := 2) (x' := 3) (by decide) (by decide) (by unfold vp_in; decide) (by decide) (by decide) hz2 (by decide) (by decide) hh hd hw hl (fun {γb} {f1} {H} {locs} {ls} hh hd hw hl => ?_)
  have hz3 : ∀ c, 39 ≤ c → st 6 (st 6 (st 6 μ 21 B0) 27 B0) 33 B0 c = zr := fun c h => (st_out (by omega)).trans (hz2 c (by omega))
  refine turn (i := 3) (x' := 4) (by decide) (by decide) (by unfold vp_in; decide) (by decide) (by decide) hz3 (by decide) (by decide) hh hd hw hl (fun {γb} {f1} {H} {locs} {ls} hh hd hw hl => ?_)
  replace hw : Wo γb (st 6 (st 6 (st 6 (st 6 μ 21 B0) 27 B0) 33 B0) 39 B0) s H locs := hw
  generalize hμ : st 6 (st 6 (st 6 (st 6 μ 21 B0) 27 B0) 33 B0) 39 B0 = μ4 at hw ⊢
  obtain ⟨gN, gs, go, ga, g19, g20, gb, gf⟩ := hh
  have k19 : 19 < eN γb ∧ eK γb 19 = fun g => .inr (1, fX1 γb 19 g) := ⟨by omega, g19⟩
  refine lv_iload_n hx hb dX1_init_14 rfl (lv_at hl 0 rfl) ?_
  refine lv_aload_n hx hb dX1_init_15 rfl (lv_at hl 1 rfl) ?_
  refine W.eq (g2 := F0 m 16 ls (.ref (eA γb 19) :: [.int 4])) (by rw [ga]) ?_
  refine r_get (v := .ref (eA γb (19 + 1))) hx hb hts (gs.hK hK) hw hown inX1 rfl k19 rfl 0 (by decide) wd_74 rfl dX1_init_16 ?_
  refine va_alen (v := (4 : Int32)) hx hb (gs.hK hK) hw.1 20 2 (x := (4, .inr (.inr (.inr (.inr f1))))) (wmk_at ⟨by omega, g20⟩ rfl) (ty := .object "TippingBeam$Beam") rfl rfl dX1_init_19 ?_
  refine lv_icmp_ge (tgt := 42) hx hb dX1_init_20 (by decide) (fun _ => ?_) (fun c => absurd (by decide) c)
  have hw2 : Wo (setK γb 20 (dSt γb 19)) (mset μ4 20 perm) s H locs := by
    refine ⟨?_, hw.2⟩
    have e1 := va_P_swap (y := (4, .inr (.inr (.inr (.inr (fun k => some (eA γb (19 + 2 + 6 * ((perm k).toNatClampNeg % 4))))))))) hw.1 (wmk_at (γ := γb) (μ := μ4) ⟨by omega, g20⟩ rfl) (by
      show arrV (eT γb 2) 4 (fun j => va_rf (f1 j)) = arrV (eT γb 2) 4 (fun k => va_rf (some (eA γb (19 + 2 + 6 * ((perm k).toNatClampNeg % 4)))))
      refine arrV_congr (fun j hj => ?_)
      rw [gf j hj]
      have : (perm j).toNatClampNeg % 4 = j := by
        rcases (show j = 0 ∨ j = 1 ∨ j = 2 ∨ j = 3 by omega) with rfl | rfl | rfl | rfl <;> rfl
      rw [this])
    have e2 := wmk_set (γ := setK γb 20 (dSt γb 19)) (μ := μ4) (c := 20) (d := dSt γb 19) (f := perm) ⟨by show 20 < eN γb; omega, setK_n⟩
    rw [← e2, ← wmk_setK (γ := γb) (μ := μ4) (c := 20) (d := dSt γb 19) (by omega), List.set_set]
    exact e1
  replace hd : dis (setK γb 20 (dSt γb 19)) := hd
  have mono : ∀ {o : Nat}, 21 ≤ o → isX0 γb o → isX0 (setK γb 20 (dSt γb 19)) o := fun h => isX0_mono (γ := γb) (Nat.le_refl _) rfl (fun c _ _ => ⟨setK_K (by omega), rfl⟩)
  refine r_jret hx hb hr hlk (γ' := setK γb 20 (dSt γb 19)) (gs.hK hK) hd hw2 gs.2.2 ⟨gN, gs, fun c hc => ⟨(setK_K (by omega)).trans (go c hc).1, (go c hc).2⟩, ga, ⟨⟨by show 19 < eN γb; omega, (setK_K (by omega)).trans g19⟩, ⟨by show 20 < eN γb; omega, setK_n⟩⟩, mono (by decide) (gb 0 (by decide)), mono (by decide) (gb 1 (by decide)), mono (by decide) (gb 2 (by decide)), mono (by decide) (gb 3 (by decide))⟩ dX1_init_42
