/-! MEMORY: a cell's number and a place in it tell an int; a layout tells what a cell is -/
abbrev Mm : Type := Nat → Nat → Int32
abbrev Ev : Type := va_G × (Nat → ClassId) × Nat × (Nat → (Nat → Int32) → va_E) × (Nat → Nat) × (Nat → Prop)
abbrev eG (γ : Ev) : va_G := γ.1
abbrev eT (γ : Ev) : Nat → ClassId := γ.2.1
abbrev eN (γ : Ev) : Nat := γ.2.2.1
abbrev eK (γ : Ev) : Nat → (Nat → Int32) → va_E := γ.2.2.2.1
abbrev eA (γ : Ev) : Nat → Nat := γ.2.2.2.2.1
/-- where the method may write: its world is there -/
abbrev AK (γ : Ev) : Nat → Prop := γ.2.2.2.2.2
abbrev eTy (γ : Ev) : List (ClassId × FieldType) := [(eT γ 0, .int), (eT γ 1, .char), (eT γ 2, .object "TippingBeam$Beam")]
def wmk (γ : Ev) (μ : Mm) : va_W := (List.range (eN γ)).map (fun c => (eA γ c, eK γ c (μ c)))
def mset (μ : Mm) (c : Nat) (f : Nat → Int32) : Mm := fun j => if j = c then f else μ j
def st (n : Nat) (σ : Mm) (o : Nat) (B : Mm) : Mm := fun c => if o ≤ c ∧ c < o + n then B (c - o) else σ c
def dArr (cA : ClassId) (n : Nat) : (Nat → Int32) → va_E := fun f => .inl (cA, n, .inl f)
def dis (γ : Ev) : Prop := (∀ i j, i < eN γ → j < eN γ → eA γ i = eA γ j → i = j) ∧ ∀ i, i < eN γ → AK γ (eA γ i)
def Wo (γ : Ev) (μ : Mm) (s : State) (H : Heap) (locs : List Loc) : Prop := va_P (eG γ) vwCl (wmk γ μ) H ∧ va_S (AK γ) s.heap H locs
def Wd (γ : Ev) (μ : Mm) (U : State) : Prop := va_P (eG γ) vwCl (wmk γ μ) U.heap ∧ va_K (eG γ) vwCl (eTy γ) U ∧ dis γ
theorem st_at {n i : Nat} {σ B : Mm} {o : Nat} (h : i < n) : st n σ o B (o + i) = B i := by
  unfold st
  rw [if_pos ⟨by omega, by omega⟩, Nat.add_sub_cancel_left]
theorem st_set {n i : Nat} {σ B : Mm} {o : Nat} {f : Nat → Int32} (h : i < n) : mset (st n σ o B) (o + i) f = st n σ o (mset B i f) := by
  funext c
  unfold mset st
  by_cases hc : c = o + i
  · subst hc
    rw [if_pos rfl, if_pos ⟨by omega, by omega⟩]
    dsimp only
    rw [if_pos (by omega)]
  · rw [if_neg hc]
    by_cases h2 : o ≤ c ∧ c < o + n
    · rw [if_pos h2, if_pos h2]
      dsimp only
      rw [if_neg (by omega)]
    · rw [if_neg h2, if_neg h2]
theorem st_out {n c : Nat} {σ B : Mm} {o : Nat} (h : c < o ∨ o + n ≤ c) : st n σ o B c = σ c := by
  unfold st
  rw [if_neg (by omega)]
theorem st_st {n : Nat} {σ B B' : Mm} {o : Nat} : st n (st n σ o B) o B' = st n σ o B' := by
  funext c
  unfold st
  by_cases h2 : o ≤ c ∧ c < o + n
  · rw [if_pos h2, if_pos h2]
  · rw [if_neg h2, if_neg h2, if_neg h2]
theorem st_self {n : Nat} {σ : Mm} {o : Nat} : st n σ o (fun i => σ (o + i)) = σ := by
  funext c
  unfold st
  by_cases h2 : o ≤ c ∧ c < o + n
  · rw [if_pos h2]
    show σ (o + (c - o)) = σ c
    rw [Nat.add_sub_cancel' h2.1]
  · rw [if_neg h2]
theorem wmk_at {γ : Ev} {μ : Mm} {c : Nat} {d : (Nat → Int32) → va_E} {f : Nat → Int32} (hc : c < eN γ ∧ eK γ c = d) (hm : μ c = f) : (wmk γ μ)[c]? = some (eA γ c, d f) := by
  unfold wmk
  rw [List.getElem?_map, List.getElem?_range hc.1]
  show some (eA γ c, eK γ c (μ c)) = _
  rw [hc.2, hm]
theorem wmk_len {γ : Ev} {μ : Mm} : (wmk γ μ).length = eN γ := by simp [wmk]
theorem wmk_inv {γ : Ev} {μ : Mm} {k : Nat} {q : Nat × va_E} (h : (wmk γ μ)[k]? = some q) : k < eN γ ∧ q.1 = eA γ k := by
  have hl : k < eN γ := by
    have := (List.getElem?_eq_some_iff.mp h).1
    rwa [wmk_len] at this
  rw [wmk_at ⟨hl, rfl⟩ rfl] at h
  cases h
  exact ⟨hl, rfl⟩
theorem wmk_set {γ : Ev} {μ : Mm} {c : Nat} {d : (Nat → Int32) → va_E} {f : Nat → Int32} (hc : c < eN γ ∧ eK γ c = d) : (wmk γ μ).set c (eA γ c, d f) = wmk γ (mset μ c f) := by
  apply List.ext_getElem?
  intro i
  rw [List.getElem?_set]
  by_cases hi : c = i
  · subst hi
    rw [if_pos rfl, if_pos (by rw [wmk_len]; exact hc.1), wmk_at (μ := mset μ c f) hc (show mset μ c f c = f by unfold mset; rw [if_pos rfl])]
  · rw [if_neg hi]
    by_cases hl : i < eN γ
    · rw [wmk_at (μ := μ) ⟨hl, rfl⟩ rfl, wmk_at (μ := mset μ c f) ⟨hl, rfl⟩ (show mset μ c f i = μ i by unfold mset; rw [if_neg (fun e => hi e.symm)])]
    · rw [List.getElem?_eq_none (by rw [wmk_len]; omega), List.getElem?_eq_none (by rw [wmk_len]; omega)]
theorem wmk_D {γ : Ev} {μ : Mm} (h : dis γ) : va_D (AK γ) (wmk γ μ) := by
  refine ⟨fun i j p q hi hj hpq => ?_, fun k q hk => ?_⟩
  · obtain ⟨a1, b1⟩ := wmk_inv hi
    obtain ⟨a2, b2⟩ := wmk_inv hj
    exact h.1 i j a1 a2 (by rw [← b1, ← b2, hpq])
  · obtain ⟨a1, b1⟩ := wmk_inv hk
    rw [b1]
    exact h.2 k a1
/-! rows read and written: nothing where the place isn't there -/
def rd (n : Nat) (f : Nat → Int32) (i : Int32) : Option Int32 := if i < 0 ∨ n ≤ i.toNatClampNeg then none else some (f i.toNatClampNeg)
def wr (n : Nat) (B : Mm) (c : Nat) (i x : Int32) : Option Mm := if i < 0 ∨ n ≤ i.toNatClampNeg then none else some (mset B c (upd (B c) i.toNatClampNeg x))
def pf (B : Mm) (c k : Nat) (x : Int32) : Option Mm := some (mset B c (upd (B c) k x))
def cpy (n0 n1 : Nat) (A : Mm) (ca : Nat) (B : Mm) (cb : Nat) (sp dp n : Int32) : Option Mm := if sp < 0 ∨ dp < 0 ∨ n < 0 ∨ n0 < sp.toNatClampNeg + n.toNatClampNeg ∨ n1 < dp.toNatClampNeg + n.toNatClampNeg then none else some (mset B cb (va_cpy (A ca) (B cb) sp.toNatClampNeg dp.toNatClampNeg n.toNatClampNeg))
def dvi (x y : Int32) : Option Int32 := if y = 0 then none else some (x / y)
def rmi (x y : Int32) : Option Int32 := if y = 0 then none else some (x - x / y * y)
def bo (x : Int32) : Option Int32 := if x = 0 ∨ x = 1 then some x else none
def jn {α β : Type} (f : α) (g : α → β) : β := g f
theorem ob {α β : Type} {o : Option α} {f : α → Option β} {z : β} (h : Option.bind o f = some z) : ∃ v, o = some v ∧ f v = some z := Option.bind_eq_some_iff.mp h
theorem ifp {c : Prop} {d : Decidable c} {α : Type} {a b z : α} (hc : c) (h : @ite α c d a b = z) : a = z := by rwa [if_pos hc] at h
theorem ifn {c : Prop} {d : Decidable c} {α : Type} {a b z : α} (hc : ¬ c) (h : @ite α c d a b = z) : b = z := by rwa [if_neg hc] at h
theorem jb {α β : Type} {a : α} {g : α → Option β} {z : β} (h : jn a g = some z) : ∃ v, a = v ∧ g v = some z := ⟨a, rfl, h⟩
theorem s2 {α β : Type} {a c : α} {b d : β} (h : some (a, b) = some (c, d)) : a = c ∧ b = d := Prod.mk.inj (Option.some.inj h)
theorem jn_elim {α β : Type} {f : α} {g : α → β} {z : β} {G : Prop} (h : jn f g = z) (P : α → Prop) (hf : P f) (kk : ∀ k, P k → g k = z → G) : G := kk f hf h
theorem Wo.cg {γ : Ev} {μ μ' : Mm} {s : State} {H : Heap} {locs : List Loc} (h : μ = μ') (hw : Wo γ μ s H locs) : Wo γ μ' s H locs := h ▸ hw
theorem st_at0 {n : Nat} {σ B : Mm} {o : Nat} (h : 0 < n) : st n σ o B o = B 0 := st_at (i := 0) h
theorem st_at2 {n i o2 o : Nat} {σ B B2 : Mm} (hdj : o2 + n ≤ o ∨ o + n ≤ o2) (hi : i < n) (hm : ∀ i, i < n → σ (o2 + i) = B2 i) : st n σ o B (o2 + i) = B2 i := by
  rw [st_out (by omega)]
  exact hm i hi
theorem st_at2z {n o2 o : Nat} {σ B B2 : Mm} (hdj : o2 + (n + 1) ≤ o ∨ o + (n + 1) ≤ o2) (hm : ∀ i, i < n + 1 → σ (o2 + i) = B2 i) : st (n + 1) σ o B o2 = B2 0 := st_at2 (i := 0) hdj (Nat.zero_lt_succ n) hm
theorem i32_ne {x k : Int32} {z : Int} (hz : k.toInt = z) (h : ¬ x = k) : x.toInt ≠ z := fun e => h (Int32.toInt_inj.mp (by rw [e, hz]))
theorem lk_def {k d : Int} : ∀ {l : List (Int × Int)}, (∀ q ∈ l, q.1 ≠ k) → Op.lookupswitch.offset l d k = d
  | [], _ => rfl
  | (a, o) :: r, h => by
    rw [Op.lookupswitch.offset_cons, if_neg (h (a, o) List.mem_cons_self)]
    exact lk_def (fun q hq => h q (List.mem_cons_of_mem _ hq))
theorem rd_some {n : Nat} {f : Nat → Int32} {i v : Int32} (h : rd n f i = some v) : vp_in i n ∧ f i.toNatClampNeg = v := by
  unfold rd at h
  by_cases hc : i < 0 ∨ n ≤ i.toNatClampNeg
  · rw [if_pos hc] at h; cases h
  · rw [if_neg hc] at h; cases h; exact ⟨hc, rfl⟩
theorem wr_some {n : Nat} {B B1 : Mm} {c : Nat} {i x : Int32} (h : wr n B c i x = some B1) : vp_in i n ∧ mset B c (upd (B c) i.toNatClampNeg x) = B1 := by
  unfold wr at h
  by_cases hc : i < 0 ∨ n ≤ i.toNatClampNeg
  · rw [if_pos hc] at h; cases h
  · rw [if_neg hc] at h; cases h; exact ⟨hc, rfl⟩
theorem cpy_some {n0 n1 : Nat} {A : Mm} {ca : Nat} {B B1 : Mm} {cb : Nat} {sp dp n : Int32} (h : cpy n0 n1 A ca B cb sp dp n = some B1) : (¬ sp < 0 ∧ ¬ dp < 0 ∧ ¬ n < 0 ∧ sp.toNatClampNeg + n.toNatClampNeg ≤ n0 ∧ dp.toNatClampNeg + n.toNatClampNeg ≤ n1) ∧ mset B cb (va_cpy (A ca) (B cb) sp.toNatClampNeg dp.toNatClampNeg n.toNatClampNeg) = B1 := by
  unfold cpy at h
  by_cases hc : sp < 0 ∨ dp < 0 ∨ n < 0 ∨ n0 < sp.toNatClampNeg + n.toNatClampNeg ∨ n1 < dp.toNatClampNeg + n.toNatClampNeg
  · rw [if_pos hc] at h; cases h
  · rw [if_neg hc] at h; cases h
    simp only [not_or, Nat.not_lt] at hc
    exact ⟨hc, rfl⟩
theorem dvi_some {x y v : Int32} (h : dvi x y = some v) : ¬ y = 0 ∧ x / y = v := by
  unfold dvi at h
  by_cases hc : y = 0
  · rw [if_pos hc] at h; cases h
  · rw [if_neg hc] at h; cases h; exact ⟨hc, rfl⟩
theorem rmi_some {x y v : Int32} (h : rmi x y = some v) : ¬ y = 0 ∧ x - x / y * y = v := by
  unfold rmi at h
  by_cases hc : y = 0
  · rw [if_pos hc] at h; cases h
  · rw [if_neg hc] at h; cases h; exact ⟨hc, rfl⟩
theorem bo_some {x v : Int32} (h : bo x = some v) : (x = 0 ∨ x = 1) ∧ x = v := by
  unfold bo at h
  by_cases hc : x = 0 ∨ x = 1
  · rw [if_pos hc] at h; cases h; exact ⟨hc, rfl⟩
  · rw [if_neg hc] at h; cases h
theorem bo_narrow {x v : Int32} (h : bo x = some v) : narrow .boolean (.int v) = .int v := by
  obtain ⟨h1, rfl⟩ := bo_some h
  rcases h1 with rfl | rfl <;> rfl
/-! what holds all along a method's body -/
def Cx (p : Program) (R : Room) (s : State) (m : MethodId) (args : Array Value) (meth : Method) (c : Code) (own : String) (cc : ByteArray) (nL : Nat) (ret : Option FieldType) (fF fL : Nat) (γ : Ev) : Prop :=
  p.tables.exec = Jvm.exec ∧ c.code = cc ∧ meth.sig.returnType = ret ∧ c.maxLocals = nL ∧ s.vm.findClass own = some m.cls ∧ (∀ w ∈ wG, w.before args s = true) ∧ meth.locks = false ∧ va_K (eG γ) vwCl (eTy γ) s ∧ dis γ ∧ fF ≤ R.frames ∧ fL ≤ R.locals
def Qo (γ : Ev) (r : Option Value) (μ : Mm) : Array Value → State → Outcome → State → Prop := fun _ u oc t => oc = .returned r ∧ Wd γ μ t ∧ va_F (AK γ) u t
def Ct (l : Launch) (y : MethodName) (cc : ByteArray) (n : Nat) (ret : Option FieldType) (fF fL : Nat) (γ : Ev) (av : List Value) (μ : Mm) (r : Option Value) (μ' : Mm) : Prop :=
  Met l y (.code y cc n ret :: wG) { frames := fF, cells := 0, slots := 0, locals := fL } (va_Pc av (Wd γ μ)) (Qo γ r μ') 0 0 (AK γ)
theorem Met.ofWF {l : Launch} {y : MethodName} {ws ws' : List Cond} {rm : Room} {Pc : Array Value → State → Prop} {Qc : Array Value → State → Outcome → State → Prop} {mc ms : Nat} {free : Addr → Prop} {cc : ByteArray} {maxL : Nat} {ret : Option FieldType}
    (hy : plainFor y = true) (hw : ws = Cond.code y cc maxL ret :: ws')
    (body : ∀ p e s m args below meth c s₁, BodyLoose p l y (headSpec ws rm) cc maxL ret e s m args below meth c s₁ → c.maxLocals = maxL → Pc args s →
      W p l e (headSpec ws rm).room s m args below meth c s.heap [] 0 0 (MQ below Qc args s mc ms free) (entryFrame m args maxL)) : Met l y ws rm Pc Qc mc ms free := by
  refine MetFree.of_bodySF (code := cc) (maxLocals := maxL) (ret := ret) hy ?_ ?_
  · intro args s m h hn
    obtain ⟨meth, c, h1, h2, h3, h4, h5, h6, -, -⟩ := Cond.code_spec hn (atoms_spec (ws := ws) h _ (by rw [hw]; exact List.mem_cons_self))
    exact ⟨meth, c, h1, h2, h3, h4, h5, h6⟩
  · intro p e s m args below meth c s₁ B hml hP _
    have hh0 : s₁.heap = s.heap := by rw [B.state]; rfl
    obtain ⟨t, a1, o, b1, b2, b3⟩ := body p e s m args below meth c s₁ B hml hP s₁ hh0 (Stand.of_body B)
    exact ⟨t, o, a1, b1, b2, ⟨b3.1, b3.2⟩⟩
set_option maxHeartbeats 4000000 in
theorem Ct.of {l : Launch} {y : MethodName} {cc : ByteArray} {n : Nat} {ret : Option FieldType} {fF fL : Nat} {γ : Ev} {av : List Value} {μ μ' : Mm} {r : Option Value} {own : String} (hy : plainFor y = true) (ho : y.cls = own) (hn : (lg_sl av).length ≤ n)
    (body : ∀ {p : Program} {e : Env} {R : Room} {s : State} {m : MethodId} {below : List Frame} {meth : Method} {c : Code}, Cx p R s m av.toArray meth c own cc n ret fF fL γ → Wo γ μ s s.heap [] → ∀ {ls : Array Slot}, lv_has ls n (lv_args 0 av) → W p l e R s m av.toArray below meth c s.heap [] 0 0 (MQ below (Qo γ r μ') av.toArray s 0 0 (AK γ)) (F0 m 0 ls [])) : Ct l y cc n ret fF fL γ av μ r μ' := by
  refine Met.ofWF (cc := cc) (maxL := n) (ret := ret) hy rfl ?_
  intro p e s m args below meth c s₁ B hml hv
  obtain ⟨rfl, hP, hK, hD⟩ := hv
  have hts := atoms_spec (ws := .code y cc n ret :: wG) B.pre
  have hown : s.vm.findClass own = some m.cls := by rw [← ho]; exact findClass_of_methodNamed B.named
  have hl := lv_entry av (n := n) hn
  rw [lg_entry_eq]
  exact body ⟨B.exec, B.bytes, B.returns, hml, hown, fun w hw => hts w (List.mem_cons_of_mem _ hw), B.notSynchronized, hK, hD, Nat.le_refl _, Nat.le_refl _⟩ ⟨hP, va_S.rf⟩ hl
def LkV (own : String) (idx : Nat) (C : String) (y : MethodName) (cc : ByteArray) (n : Nat) (ret : Option FieldType) (np : Nat) : Prop :=
  y.cls = C ∧ (Cond.methodLink own idx y ∈ wG ∧ Cond.instanceMethod y ∈ wG ∧ Cond.selects C y y ∈ wG ∧ Cond.initialized C ∈ wG ∧ Cond.code y cc n ret ∈ wG) ∧ y.cls ≠ "java/lang/invoke/MethodHandle" ∧ y.cls ≠ "java/lang/invoke/VarHandle" ∧ (parseMethodDescriptor y.desc).map (fun d => d.parameters.length) = some np
def LkS (own : String) (idx : Nat) (y : MethodName) (cc : ByteArray) (n : Nat) (ret : Option FieldType) (np : Nat) : Prop :=
  (Cond.methodLink own idx y ∈ wG ∧ Cond.static y ∈ wG ∧ Cond.initialized y.cls ∈ wG ∧ Cond.code y cc n ret ∈ wG) ∧ y.cls ≠ "java/lang/invoke/MethodHandle" ∧ y.cls ≠ "java/lang/invoke/VarHandle" ∧ (parseMethodDescriptor y.desc).map (fun d => d.parameters.length) = some np
theorem Wd.blind {γ : Ev} {μ : Mm} {av : List Value} : FrameBlind (va_Pc av (Wd γ μ)) := by
  intro a U g mk q
  obtain ⟨q0, qP, qK, qD⟩ := q
  exact ⟨q0, qP, va_K.moved (u := U) (U := U.calling g mk a) (Vm.Alike.refl U.vm) qK, qD⟩
theorem z0 {R : Room} : 0 ≤ R.cells ∧ 0 ≤ R.slots := ⟨Nat.zero_le _, Nat.zero_le _⟩
section RW
variable {p : Program} {l : Launch} {e : Env} {R : Room} {s : State} {m : MethodId} {args : Array Value} {below : List Frame} {meth : Method} {c : Code} {H : Heap} {locs : List Loc} {Q : State → Prop} {cc : ByteArray} {pc : Nat} {ls : Array Slot} {rest st0 : List Value} {γ : Ev} {μ μ' : Mm} {σ B B1 : Mm} {o N : Nat} {own : String} {nL fF fL : Nat} {ret : Option FieldType} {cells slots : Nat}
theorem r_iald (hx : p.tables.exec = Jvm.exec) (hb : c.code = cc) (hK : va_K (eG γ) vwCl (eTy γ) s) (hw : Wo γ μ s H locs) {k n : Nat} {f : Nat → Int32} (hc : k < eN γ ∧ eK γ k = dArr (eT γ 0) n) (hm : μ k = f) {i v : Int32} (hv : rd n f i = some v) (hdg : decode cc pc = .ok (.iaload, 1)) (kk : W p l e R s m args below meth c H locs cells slots Q (F0 m (pc + 1) ls (.int v :: rest))) : W p l e R s m args below meth c H locs cells slots Q (F0 m pc ls (.int i :: .ref (eA γ k) :: rest)) := by
  obtain ⟨h1, rfl⟩ := rd_some hv
  exact va_iald hx hb hK hw.1 k 0 (wmk_at hc hm) rfl h1 hdg kk
theorem r_cald (hx : p.tables.exec = Jvm.exec) (hb : c.code = cc) (hK : va_K (eG γ) vwCl (eTy γ) s) (hw : Wo γ μ s H locs) {k n : Nat} {f : Nat → Int32} (hc : k < eN γ ∧ eK γ k = dArr (eT γ 1) n) (hm : μ k = f) {i v : Int32} (hv : rd n f i = some v) (hdg : decode cc pc = .ok (.caload, 1)) (kk : W p l e R s m args below meth c H locs cells slots Q (F0 m (pc + 1) ls (.int v :: rest))) : W p l e R s m args below meth c H locs cells slots Q (F0 m pc ls (.int i :: .ref (eA γ k) :: rest)) := by
  obtain ⟨h1, rfl⟩ := rd_some hv
  exact va_cald hx hb hK hw.1 k 1 (wmk_at hc hm) rfl h1 hdg kk
theorem r_alen (hx : p.tables.exec = Jvm.exec) (hb : c.code = cc) (hK : va_K (eG γ) vwCl (eTy γ) s) (hw : Wo γ μ s H locs) {k n : Nat} (hc : k < eN γ ∧ eK γ k = dArr (eT γ 0) n) (v : Int32) (hv : Int32.ofNat n = v) (hdg : decode cc pc = .ok (.arraylength, 1)) (kk : W p l e R s m args below meth c H locs cells slots Q (F0 m (pc + 1) ls (.int v :: rest))) : W p l e R s m args below meth c H locs cells slots Q (F0 m pc ls (.ref (eA γ k) :: rest)) :=
  va_alen hx hb hK hw.1 k 0 (x := (n, .inl (μ k))) (wmk_at hc rfl) (ty := .int) rfl hv hdg kk
theorem r_alenC (hx : p.tables.exec = Jvm.exec) (hb : c.code = cc) (hK : va_K (eG γ) vwCl (eTy γ) s) (hw : Wo γ μ s H locs) {k n : Nat} (hc : k < eN γ ∧ eK γ k = dArr (eT γ 1) n) (v : Int32) (hv : Int32.ofNat n = v) (hdg : decode cc pc = .ok (.arraylength, 1)) (kk : W p l e R s m args below meth c H locs cells slots Q (F0 m (pc + 1) ls (.int v :: rest))) : W p l e R s m args below meth c H locs cells slots Q (F0 m pc ls (.ref (eA γ k) :: rest)) :=
  va_alen hx hb hK hw.1 k 1 (x := (n, .inl (μ k))) (wmk_at hc rfl) (ty := .char) rfl hv hdg kk
theorem r_iast (hx : p.tables.exec = Jvm.exec) (hb : c.code = cc) (hK : va_K (eG γ) vwCl (eTy γ) s) (hd : dis γ) (hw : Wo γ (st N σ o B) s H locs) {i n : Nat} (hi : i < N) (hc : o + i < eN γ ∧ eK γ (o + i) = dArr (eT γ 0) n) {j x : Int32} (hv : wr n B i j x = some B1) (hdg : decode cc pc = .ok (.iastore, 1)) (kk : ∀ {H1 : Heap} {locs1 : List Loc}, Wo γ (st N σ o B1) s H1 locs1 → W p l e R s m args below meth c H1 locs1 cells slots Q (F0 m (pc + 1) ls rest)) : W p l e R s m args below meth c H locs cells slots Q (F0 m pc ls (.int x :: .int j :: .ref (eA γ (o + i)) :: rest)) := by
  obtain ⟨h1, rfl⟩ := wr_some hv
  refine va_iast hx hb hK hw.1 (wmk_D hd) hw.2 (o + i) 0 (wmk_at hc (st_at hi)) rfl h1 hdg (fun H1 locs1 a _ b => kk ⟨?_, b⟩)
  rw [← st_set hi, ← wmk_set hc]
  exact a
def wrc (n : Nat) (B : Mm) (c : Nat) (i x : Int32) : Option Mm := wr n B c i (vp_nar .char x)
theorem r_cast (hx : p.tables.exec = Jvm.exec) (hb : c.code = cc) (hK : va_K (eG γ) vwCl (eTy γ) s) (hd : dis γ) (hw : Wo γ (st N σ o B) s H locs) {i n : Nat} (hi : i < N) (hc : o + i < eN γ ∧ eK γ (o + i) = dArr (eT γ 1) n) {j x : Int32} (hv : wrc n B i j x = some B1) (hdg : decode cc pc = .ok (.castore, 1)) (kk : ∀ {H1 : Heap} {locs1 : List Loc}, Wo γ (st N σ o B1) s H1 locs1 → W p l e R s m args below meth c H1 locs1 cells slots Q (F0 m (pc + 1) ls rest)) : W p l e R s m args below meth c H locs cells slots Q (F0 m pc ls (.int x :: .int j :: .ref (eA γ (o + i)) :: rest)) := by
  obtain ⟨h1, rfl⟩ := wr_some hv
  refine va_cast hx hb hK hw.1 (wmk_D hd) hw.2 (o + i) 1 (wmk_at hc (st_at hi)) rfl h1 hdg (fun H1 locs1 a _ b => kk ⟨?_, b⟩)
  rw [← st_set hi, ← wmk_set hc]
  exact a
theorem r_get (hx : p.tables.exec = Jvm.exec) (hb : c.code = cc) (hts : ∀ w ∈ wG, w.before args s = true) (hK : va_K (eG γ) vwCl (eTy γ) s) (hw : Wo γ μ s H locs) (hown : s.vm.findClass own = some m.cls) {C : String} {T : u_T} {M ci idx q : Nat} (hin : ∀ w ∈ u_ws C T M, w ∈ wG) (hcl : vwCl[ci]? = some (C, T, M)) {fl : (Nat → Int32) → List Value} (hc : q < eN γ ∧ eK γ q = fun f => .inr (ci, fl f)) {f : Nat → Int32} (hm : μ q = f) (k : Nat) (hk : k < M) (hlink : Cond.fieldLink own idx (T k).1 (T k).2.1 (T k).2.2.1 ∈ wG) {v : Value} (hv : (fl f)[k]? = some v) (hdg : decode cc pc = .ok (.getfield idx, 3))
    (kk : W p l e R s m args below meth c H locs cells slots Q (F0 m (pc + 3) ls (v :: rest))) : W p l e R s m args below meth c H locs cells slots Q (F0 m pc ls (.ref (eA γ q) :: rest)) :=
  va_get hx hb hts hin hown hK hw.1 q (wmk_at hc hm) hcl k hk (hts _ hlink) (fun _ h => h) hv hdg kk
theorem r_put (hx : p.tables.exec = Jvm.exec) (hb : c.code = cc) (hts : ∀ w ∈ wG, w.before args s = true) (hK : va_K (eG γ) vwCl (eTy γ) s) (hd : dis γ) (hw : Wo γ (st N σ o B) s H locs) (hown : s.vm.findClass own = some m.cls) {C : String} {T : u_T} {M ci idx : Nat} (hin : ∀ w ∈ u_ws C T M, w ∈ wG) (ty0 : Nat → FieldType) (hty : ∀ k, k < M → parseFieldDescriptor (T k).2.2.1 = some (ty0 k)) (hnm : ∀ a, a < M → ∀ b, b < M → a ≠ b → (T a).2.1 ≠ (T b).2.1) (hcl : vwCl[ci]? = some (C, T, M)) {fl : (Nat → Int32) → List Value} (h0 : 0 < N) (hc : o < eN γ ∧ eK γ o = fun f => .inr (ci, fl f)) (k : Nat) (hk : k < M) (hlink : Cond.fieldLink own idx (T k).1 (T k).2.1 (T k).2.2.1 ∈ wG) (hfin : (T k).2.2.2 = false) {ty : FieldType} (htk : ty0 k = ty) {x : Int32} (hn : narrow ty (.int x) = .int x) (hfit : fits ty (.int x) = true) (hl : ∀ f, k < (fl f).length) (hset : ∀ f, (fl f).set k (.int x) = fl (upd f k x)) (hv : pf B 0 k x = some B1) (hdg : decode cc pc = .ok (.putfield idx, 3))
    (kk : ∀ {H1 : Heap} {locs1 : List Loc}, Wo γ (st N σ o B1) s H1 locs1 → W p l e R s m args below meth c H1 locs1 cells slots Q (F0 m (pc + 3) ls rest)) : W p l e R s m args below meth c H locs cells slots Q (F0 m pc ls (.int x :: .ref (eA γ o) :: rest)) := by
  cases hv
  have hc0 : o + 0 < eN γ ∧ eK γ (o + 0) = fun f => .inr (ci, fl f) := hc
  refine va_put hx hb hts hin ty0 hty hnm hown hK hw.1 (wmk_D hd) hw.2 (o + 0) (wmk_at hc0 (st_at h0)) hcl k hk (hts _ hlink) (fun _ h => h) hfin (by rw [hty k hk, htk]) hn hfit (hl _) hdg (fun H1 locs1 a _ b => kk ⟨?_, b⟩)
  rw [← st_set h0, ← wmk_set hc0]
  rw [hset] at a
  exact a
theorem r_iret (hx : p.tables.exec = Jvm.exec) (hb : c.code = cc) (hr : meth.sig.returnType = some .int) (hlk : meth.locks = false) (hK : va_K (eG γ) vwCl (eTy γ) s) (hd : dis γ) (hw : Wo γ μ s H locs) {v : Int32} (hdg : decode cc pc = .ok (.ireturn, 1)) : W p l e R s m args below meth c H locs 0 0 (MQ below (Qo γ (some (.int v)) μ) args s 0 0 (AK γ)) (F0 m pc ls [.int v]) :=
  W.iret hx hb hr (fun t ht hW => ⟨rfl, ⟨by rw [ht]; exact hw.1, va_K.moved hW.alike hK, hd⟩, hw.2.F ht⟩) hw.2.2.2 hdg hlk
theorem r_zret (hx : p.tables.exec = Jvm.exec) (hb : c.code = cc) (hr : meth.sig.returnType = some .boolean) (hlk : meth.locks = false) (hK : va_K (eG γ) vwCl (eTy γ) s) (hd : dis γ) (hw : Wo γ μ s H locs) {v : Int32} (hn : narrow .boolean (.int v) = .int v) (hdg : decode cc pc = .ok (.ireturn, 1)) : W p l e R s m args below meth c H locs 0 0 (MQ below (Qo γ (some (.int v)) μ) args s 0 0 (AK γ)) (F0 m pc ls [.int v]) :=
  W.zret hx hb hr hn (fun t ht hW => ⟨rfl, ⟨by rw [ht]; exact hw.1, va_K.moved hW.alike hK, hd⟩, hw.2.F ht⟩) hw.2.2.2 hdg hlk
theorem r_vret (hx : p.tables.exec = Jvm.exec) (hb : c.code = cc) (hr : meth.sig.returnType = none) (hlk : meth.locks = false) (hK : va_K (eG γ) vwCl (eTy γ) s) (hd : dis γ) (hw : Wo γ μ s H locs) (hdg : decode cc pc = .ok (.return_, 1)) : W p l e R s m args below meth c H locs 0 0 (MQ below (Qo γ none μ) args s 0 0 (AK γ)) (F0 m pc ls []) :=
  W.vret hx hb hr (fun t ht hW => ⟨rfl, ⟨by rw [ht]; exact hw.1, va_K.moved hW.alike hK, hd⟩, hw.2.F ht⟩) hw.2.2.2 hdg hlk
theorem r_run {r : Option Value} {a : Array Value} (hr : va_Run p l e R s m args below meth c H locs cells slots 0 0 (F0 m pc ls st0) rest (Qo γ r μ' a) (AK γ)) (hw : Wo γ μ s H locs)
    (kk : ∀ {H1 : Heap} {locs1 : List Loc}, Wo γ μ' s H1 locs1 → W p l e R s m args below meth c H1 locs1 cells slots Q (F0 m (pc + 3) ls (r.toList ++ rest))) : W p l e R s m args below meth c H locs cells slots Q (F0 m pc ls st0) := by
  intro T hT X
  obtain ⟨v, st₀, t, T', L, h0, X', hL, e1, e2, ⟨hv, ⟨hP1, hK1, hd1⟩, hz, hk⟩, stp⟩ := hr T hT X
  cases hv
  rw [h0] at hz hk
  have hS := hw.2
  obtain ⟨t2, a1, b1⟩ := kk (H1 := T'.heap) (locs1 := locs ++ L) ⟨by rw [e1]; exact hP1, Nat.le_trans hS.1 (by rw [e1]; exact hz), fun q h1 h2 => by rw [e1, hk q (Nat.lt_of_lt_of_le h1 hS.1) h2]; exact hS.2.1 q h1 h2, fun q hq => by
      rcases List.mem_append.mp hq with h | h
      · exact hS.2.2 q h
      · exact hL q h⟩ T' rfl X'
  exact ⟨t2, stp t2 a1, b1⟩
theorem r_V {y : MethodName} {cy : ByteArray} {ny fy ly idx : Nat} {ry : Option FieldType} {b : Nat} {As : List Value} {r : Option Value} {C : String} (C0 : Cx p R s m args meth c own cc nL ret fF fL γ) (hcs : cells ≤ R.cells ∧ slots ≤ R.slots) (hM : Ct l y cy ny ry fy ly γ (.ref b :: As) μ r μ') (lk : LkV own idx C y cy ny ry As.length) {q ci M : Nat} {T : u_T} {fl : (Nat → Int32) → List Value} (hc : q < eN γ ∧ eK γ q = fun f => .inr (ci, fl f)) (hcl : vwCl[ci]? = some (C, T, M)) (hbq : b = eA γ q) (hls : ls.size = nL) (hst : st0 = As.reverse ++ .ref b :: rest) (hW : (rest.map fun v => v.category).sum ≤ 8) (hroom : fy + 1 ≤ fF ∧ 8 + (ny + 11) + ly ≤ fL) (hw : Wo γ μ s H locs) (hdg : decode cc pc = .ok (.invokevirtual idx, 3))
    (kk : ∀ {H1 : Heap} {locs1 : List Loc}, Wo γ μ' s H1 locs1 → W p l e R s m args below meth c H1 locs1 cells slots Q (F0 m (pc + 3) ls (r.toList ++ rest))) : W p l e R s m args below meth c H locs cells slots Q (F0 m pc ls st0) := by
  obtain ⟨hx, hb, hr, hml, hown, hts, hlk, hK, hd, hF, hL⟩ := C0
  obtain ⟨hC, ⟨w1, w2, w3, w4, w5⟩, hd1, hd2, hd3⟩ := lk
  subst hbq
  subst hC
  have cw := cwV (R := R) (rm := { frames := fy, cells := 0, slots := 0, locals := ly }) (mc := 0) (ms := 0) (ws := .code y cy ny ry :: wG) (own := own) (index := idx) (C := y.cls) As.length hts (G_in (fun w hw => by
    unfold wsV at hw
    simp only [List.cons_append, List.nil_append, List.mem_cons] at hw
    rcases hw with rfl | rfl | rfl | rfl | rfl | h
    · exact w1
    · exact w2
    · exact w3
    · exact w4
    · exact w5
    · exact h)) rfl rfl rfl ⟨rfl, hd1, hd2, hd3⟩ ⟨Nat.le_trans hroom.1 hF, Nat.le_trans hroom.2 hL⟩
  refine r_run (va_runV (As := As) (rest := rest) ⟨hx, hb, hml, hown, hts⟩ hM cw ⟨Wd.blind, va_recv hK hw.1 hcl (wmk_at hc rfl), fun U hU hWU => ⟨rfl, by rw [hU]; exact hw.1, va_K.moved hWU.alike hK, hd⟩⟩ rfl rfl hls hst (lv_room hW) hdg hcs) hw kk
theorem r_S {y : MethodName} {cy : ByteArray} {ny fy ly idx : Nat} {ry : Option FieldType} {As : List Value} {r : Option Value} (C0 : Cx p R s m args meth c own cc nL ret fF fL γ) (hcs : cells ≤ R.cells ∧ slots ≤ R.slots) (hM : Ct l y cy ny ry fy ly γ As μ r μ') (lk : LkS own idx y cy ny ry As.length) (hls : ls.size = nL) (hst : st0 = As.reverse ++ rest) (hW : (rest.map fun v => v.category).sum ≤ 8) (hroom : fy + 1 ≤ fF ∧ 8 + (ny + 11) + ly ≤ fL) (hw : Wo γ μ s H locs) (hdg : decode cc pc = .ok (.invokestatic idx, 3))
    (kk : ∀ {H1 : Heap} {locs1 : List Loc}, Wo γ μ' s H1 locs1 → W p l e R s m args below meth c H1 locs1 cells slots Q (F0 m (pc + 3) ls (r.toList ++ rest))) : W p l e R s m args below meth c H locs cells slots Q (F0 m pc ls st0) := by
  obtain ⟨hx, hb, hr, hml, hown, hts, hlk, hK, hd, hF, hL⟩ := C0
  obtain ⟨⟨w1, w2, w4, w5⟩, hd1, hd2, hd3⟩ := lk
  have cw := va_cwS (R := R) (rm := { frames := fy, cells := 0, slots := 0, locals := ly }) (mc := 0) (ms := 0) (ws := .code y cy ny ry :: wG) (own := own) (index := idx) As.length hts (G_in (fun w hw => by
    unfold va_wsS at hw
    simp only [List.cons_append, List.nil_append, List.mem_cons] at hw
    rcases hw with rfl | rfl | rfl | rfl | h
    · exact w1
    · exact w2
    · exact w4
    · exact w5
    · exact h)) rfl rfl rfl ⟨hd1, hd2, hd3⟩ ⟨Nat.le_trans hroom.1 hF, Nat.le_trans hroom.2 hL⟩
  refine r_run (va_runS (As := As) (rest := rest) ⟨hx, hb, hml, hown, hts⟩ hM cw ⟨Wd.blind, fun U hU hWU => ⟨rfl, by rw [hU]; exact hw.1, va_K.moved hWU.alike hK, hd⟩⟩ rfl rfl hls hst (lv_room hW) hdg hcs) hw kk
theorem r_Vi {y : MethodName} {cy : ByteArray} {ny fy ly idx : Nat} {ry : Option FieldType} {b : Nat} {As : List Value} {r : Int32} {C : String} (C0 : Cx p R s m args meth c own cc nL ret fF fL γ) (hcs : cells ≤ R.cells ∧ slots ≤ R.slots) (hM : Ct l y cy ny ry fy ly γ (.ref b :: As) μ (some (.int r)) μ') (lk : LkV own idx C y cy ny ry As.length) {q ci M : Nat} {T : u_T} {fl : (Nat → Int32) → List Value} (hc : q < eN γ ∧ eK γ q = fun f => .inr (ci, fl f)) (hcl : vwCl[ci]? = some (C, T, M)) (hbq : b = eA γ q) (hls : ls.size = nL) (hst : st0 = As.reverse ++ .ref b :: rest) (hW : (rest.map fun v => v.category).sum ≤ 8) (hroom : fy + 1 ≤ fF ∧ 8 + (ny + 11) + ly ≤ fL) (hw : Wo γ μ s H locs) (hdg : decode cc pc = .ok (.invokevirtual idx, 3))
    (kk : ∀ {H1 : Heap} {locs1 : List Loc}, Wo γ μ' s H1 locs1 → W p l e R s m args below meth c H1 locs1 cells slots Q (F0 m (pc + 3) ls (.int r :: rest))) : W p l e R s m args below meth c H locs cells slots Q (F0 m pc ls st0) :=
  r_V C0 hcs hM lk hc hcl hbq hls hst hW hroom hw hdg kk
theorem r_Vv {y : MethodName} {cy : ByteArray} {ny fy ly idx : Nat} {ry : Option FieldType} {b : Nat} {As : List Value} {C : String} (C0 : Cx p R s m args meth c own cc nL ret fF fL γ) (hcs : cells ≤ R.cells ∧ slots ≤ R.slots) (hM : Ct l y cy ny ry fy ly γ (.ref b :: As) μ none μ') (lk : LkV own idx C y cy ny ry As.length) {q ci M : Nat} {T : u_T} {fl : (Nat → Int32) → List Value} (hc : q < eN γ ∧ eK γ q = fun f => .inr (ci, fl f)) (hcl : vwCl[ci]? = some (C, T, M)) (hbq : b = eA γ q) (hls : ls.size = nL) (hst : st0 = As.reverse ++ .ref b :: rest) (hW : (rest.map fun v => v.category).sum ≤ 8) (hroom : fy + 1 ≤ fF ∧ 8 + (ny + 11) + ly ≤ fL) (hw : Wo γ μ s H locs) (hdg : decode cc pc = .ok (.invokevirtual idx, 3))
    (kk : ∀ {H1 : Heap} {locs1 : List Loc}, Wo γ μ' s H1 locs1 → W p l e R s m args below meth c H1 locs1 cells slots Q (F0 m (pc + 3) ls rest)) : W p l e R s m args below meth c H locs cells slots Q (F0 m pc ls st0) :=
  r_V C0 hcs hM lk hc hcl hbq hls hst hW hroom hw hdg kk
theorem r_Si {y : MethodName} {cy : ByteArray} {ny fy ly idx : Nat} {ry : Option FieldType} {As : List Value} {r : Int32} (C0 : Cx p R s m args meth c own cc nL ret fF fL γ) (hcs : cells ≤ R.cells ∧ slots ≤ R.slots) (hM : Ct l y cy ny ry fy ly γ As μ (some (.int r)) μ') (lk : LkS own idx y cy ny ry As.length) (hls : ls.size = nL) (hst : st0 = As.reverse ++ rest) (hW : (rest.map fun v => v.category).sum ≤ 8) (hroom : fy + 1 ≤ fF ∧ 8 + (ny + 11) + ly ≤ fL) (hw : Wo γ μ s H locs) (hdg : decode cc pc = .ok (.invokestatic idx, 3))
    (kk : ∀ {H1 : Heap} {locs1 : List Loc}, Wo γ μ' s H1 locs1 → W p l e R s m args below meth c H1 locs1 cells slots Q (F0 m (pc + 3) ls (.int r :: rest))) : W p l e R s m args below meth c H locs cells slots Q (F0 m pc ls st0) :=
  r_S C0 hcs hM lk hls hst hW hroom hw hdg kk
/-! Math.abs, Math.max, arraycopy -/
def iabs (x : Int32) : Int32 := if 0 ≤ x then x else 0 - x
def imax (x y : Int32) : Int32 := if x < y then y else x
def LkJ (own : String) (idx : Nat) (y : MethodName) (cy : ByteArray) (n : Nat) (cls : String) : Prop := Cond.methodLink own idx y ∈ wG ∧ Cond.static y ∈ wG ∧ Cond.initialized cls ∈ wG ∧ Cond.code y cy n (some .int) ∈ wG
theorem r_abs (C0 : Cx p R s m args meth c own cc nL ret fF fL γ) (hcs : cells ≤ R.cells ∧ slots ≤ R.slots) {idx : Nat} (lk : LkJ own idx Lib.Math.abs.name Lib.Math.abs.code 1 "java/lang/Math") (hls : ls.size = nL) (hW : (rest.map fun v => v.category).sum ≤ 8) (hroom : 1 ≤ fF ∧ 21 ≤ fL) {x : Int32} (hdg : decode cc pc = .ok (.invokestatic idx, 3))
    (kk : W p l e R s m args below meth c H locs cells slots Q (F0 m (pc + 3) ls (.int (iabs x) :: rest))) : W p l e R s m args below meth c H locs cells slots Q (F0 m pc ls (.int x :: rest)) := by
  obtain ⟨hx, hb, hr, hml, hown, hts, hlk, hK, hd, hF, hL⟩ := C0
  obtain ⟨w1, w2, w3, w4⟩ := lk
  exact va_mabs hx hb (hml.trans hls.symm) hown (hts _ w1) (hts _ w2) (hts _ w3) (hts _ w4) (Nat.le_trans hroom.1 hF) (by omega) hcs.1 hcs.2 hdg kk
theorem r_max (C0 : Cx p R s m args meth c own cc nL ret fF fL γ) (hcs : cells ≤ R.cells ∧ slots ≤ R.slots) {idx : Nat} (lk : LkJ own idx Lib.Math.max.name Lib.Math.max.code 2 "java/lang/Math") (hls : ls.size = nL) (hW : (rest.map fun v => v.category).sum ≤ 8) (hroom : 1 ≤ fF ∧ 21 ≤ fL) {x y : Int32} (hdg : decode cc pc = .ok (.invokestatic idx, 3))
    (kk : W p l e R s m args below meth c H locs cells slots Q (F0 m (pc + 3) ls (.int (imax x y) :: rest))) : W p l e R s m args below meth c H locs cells slots Q (F0 m pc ls (.int y :: .int x :: rest)) := by
  obtain ⟨hx, hb, hr, hml, hown, hts, hlk, hK, hd, hF, hL⟩ := C0
  obtain ⟨w1, w2, w3, w4⟩ := lk
  exact va_mmax hx hb (hml.trans hls.symm) hown (hts _ w1) (hts _ w2) (hts _ w3) (hts _ w4) (Nat.le_trans hroom.1 hF) (by omega) hcs.1 hcs.2 hdg kk
def LkC (own : String) (idx : Nat) : Prop := Cond.methodLink own idx arraycopyName ∈ wG ∧ Cond.native arraycopyName ∈ wG ∧ Cond.static arraycopyName ∈ wG ∧ Cond.initialized "java/lang/System" ∈ wG
theorem copy_room : nativeFrameWords "java/lang/System" "arraycopy" 5 + 11 ≤ 60 := by decide +kernel
theorem r_copy (C0 : Cx p R s m args meth c own cc nL ret fF fL γ) (hcs : cells ≤ R.cells ∧ slots ≤ R.slots) {idx : Nat} (lk : LkC own idx) (hls : ls.size = nL) (hW : (rest.map fun v => v.category).sum ≤ 8) (hroom : 1 ≤ fF ∧ 68 ≤ fL) (hw : Wo γ (st N σ o B) s H locs) {i n1 k n0 ca : Nat} {A : Mm} (hc0 : k < eN γ ∧ eK γ k = dArr (eT γ 0) n0) (hm0 : st N σ o B k = A ca) (hi : i < N) (hc1 : o + i < eN γ ∧ eK γ (o + i) = dArr (eT γ 0) n1) {sp dp n : Int32} (hv : cpy n0 n1 A ca B i sp dp n = some B1) (hdg : decode cc pc = .ok (.invokestatic idx, 3))
    (kk : ∀ {H1 : Heap} {locs1 : List Loc}, Wo γ (st N σ o B1) s H1 locs1 → W p l e R s m args below meth c H1 locs1 cells slots Q (F0 m (pc + 3) ls rest)) : W p l e R s m args below meth c H locs cells slots Q (F0 m pc ls (.int n :: .int dp :: .ref (eA γ (o + i)) :: .int sp :: .ref (eA γ k) :: rest)) := by
  obtain ⟨hx, hb, hr, hml, hown, hts, hlk, hK, hd, hF, hL⟩ := C0
  obtain ⟨w1, w2, w3, w4⟩ := lk
  obtain ⟨⟨g1, g2, g3, g4, g5⟩, rfl⟩ := cpy_some hv
  have hcr := copy_room
  refine va_copyi hx hb (hml.trans hls.symm) hown (hts _ w1) (hts _ w2) (hts _ w3) (hts _ w4) hK hw.1 (wmk_D hd) hw.2 k (o + i) 0 0 (wmk_at hc0 hm0) (wmk_at hc1 (st_at hi)) rfl rfl rfl g1 g2 g3 g4 g5 (fun _ _ => rfl) (Nat.le_trans hroom.1 hF) (by omega) hdg (fun H1 locs1 a _ b => kk ⟨?_, b⟩)
  rw [← st_set hi, ← wmk_set hc1]
  exact a
theorem r_top {x y : Int32} (h : x = y) (k : W p l e R s m args below meth c H locs cells slots Q (F0 m pc ls (.int y :: rest))) : W p l e R s m args below meth c H locs cells slots Q (F0 m pc ls (.int x :: rest)) := by
  rw [h]; exact k
theorem r_tabIn (hx : p.tables.exec = Jvm.exec) (hb : c.code = cc) {dflt lo hi : Int} {offs : Array Int} {len : Nat} {x k : Int32} {off : Int} {tgt : Nat} (hdg : decode cc pc = .ok (.tableswitch dflt lo hi offs, len)) (hk : x = k) (h1 : ¬ k.toInt < lo) (h2 : ¬ hi < k.toInt) (ho : offs[(k.toInt - lo).toNat]? = some off) (ht : (pc : Int) + off = (tgt : Int))
    (kk : W p l e R s m args below meth c H locs cells slots Q (F0 m tgt ls rest)) : W p l e R s m args below meth c H locs cells slots Q (F0 m pc ls (.int x :: rest)) := by
  subst hk
  exact lv_tableIn hx hb hdg h1 h2 ho ht kk
theorem r_lkIn (hx : p.tables.exec = Jvm.exec) (hb : c.code = cc) {dflt : Int} {ps : Array (Int × Int)} {len : Nat} {x k : Int32} {off : Int} {tgt : Nat} (hdg : decode cc pc = .ok (.lookupswitch dflt ps, len)) (hk : x = k) (hp : (ps.toList.zip (ps.toList.drop 1)).all (fun (a, next) => a.1 < next.1) = true) (ho : Op.lookupswitch.offset ps.toList dflt k.toInt = off) (ht : (pc : Int) + off = (tgt : Int))
    (kk : W p l e R s m args below meth c H locs cells slots Q (F0 m tgt ls rest)) : W p l e R s m args below meth c H locs cells slots Q (F0 m pc ls (.int x :: rest)) := by
  subst hk
  exact lv_lookup hx hb hdg hp ho ht kk
end RW
