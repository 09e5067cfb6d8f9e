/-! rows of the law's own: a memory with named rows on top -/
def mm (μ : Mm) : List (Nat × (Nat → Int32)) → Mm
  | [] => μ
  | q :: r => fun c => if c = q.1 then q.2 else mm μ r c
def lw : List (Nat × (Nat → Int32)) → Nat → (Nat → Int32) → List (Nat × (Nat → Int32))
  | [], _, _ => []
  | q :: r, 0, x => (q.1, x) :: r
  | q :: r, i + 1, x => q :: lw r i x
def cl (L : List (Nat × (Nat → Int32))) : List Nat := L.map (fun q => q.1)
theorem cl_mem {L : List (Nat × (Nat → Int32))} {i j : Nat} {f : Nat → Int32} (h : L[i]? = some (j, f)) : j ∈ cl L := List.mem_map.mpr ⟨(j, f), List.mem_of_getElem? h, rfl⟩
theorem mm_at {μ : Mm} : ∀ {L : List (Nat × (Nat → Int32))} {i j : Nat} {f : Nat → Int32}, (cl L).Nodup → L[i]? = some (j, f) → mm μ L j = f
  | [], i, j, f, _, h => by simp at h
  | q :: r, 0, j, f, _, h => by
    have e : q = (j, f) := Option.some.inj h
    subst e
    exact if_pos rfl
  | q :: r, i + 1, j, f, hN, h => by
    have h1 : r[i]? = some (j, f) := h
    have h2 := List.nodup_cons.mp (show (q.1 :: cl r).Nodup from hN)
    have h3 : j ≠ q.1 := fun e => h2.1 (e ▸ cl_mem h1)
    show (if j = q.1 then q.2 else mm μ r j) = f
    rw [if_neg h3]
    exact mm_at h2.2 h1
theorem mm_set {μ : Mm} {x : Nat → Int32} : ∀ {L : List (Nat × (Nat → Int32))} {i j : Nat} {f : Nat → Int32}, (cl L).Nodup → L[i]? = some (j, f) → mset (mm μ L) j x = mm μ (lw L i x)
  | [], i, j, f, _, h => by simp at h
  | q :: r, 0, j, f, _, h => by
    have e : q = (j, f) := Option.some.inj h
    subst e
    funext c
    show (if c = j then x else if c = j then f else mm μ r c) = if c = j then x else mm μ r c
    by_cases hc : c = j
    · rw [if_pos hc, if_pos hc]
    · rw [if_neg hc, if_neg hc, if_neg hc]
  | q :: r, i + 1, j, f, hN, h => by
    have h1 : r[i]? = some (j, f) := h
    have h2 := List.nodup_cons.mp (show (q.1 :: cl r).Nodup from hN)
    have h3 : j ≠ q.1 := fun e => h2.1 (e ▸ cl_mem h1)
    have ih := mm_set (μ := μ) (x := x) h2.2 h1
    funext c
    show (if c = j then x else if c = q.1 then q.2 else mm μ r c) = if c = q.1 then q.2 else mm μ (lw r i x) c
    rw [← ih]
    show _ = if c = q.1 then q.2 else if c = j then x else mm μ r c
    by_cases hc : c = q.1
    · rw [if_pos hc, if_pos hc, if_neg (fun e => h3 (e.symm.trans hc))]
    · rw [if_neg hc, if_neg hc]
theorem cl_lw : ∀ {L : List (Nat × (Nat → Int32))} {i : Nat} {x : Nat → Int32}, cl (lw L i x) = cl L
  | [], _, _ => rfl
  | _ :: _, 0, _ => rfl
  | q :: r, i + 1, x => by
    show q.1 :: cl (lw r i x) = q.1 :: cl r
    rw [cl_lw]
theorem lw_at : ∀ {L : List (Nat × (Nat → Int32))} {i k j : Nat} {f x : Nat → Int32}, L[i]? = some (j, f) → ∃ g, (lw L k x)[i]? = some (j, g)
  | [], i, k, j, f, x, h => by simp at h
  | q :: r, 0, 0, j, f, x, h => by
    have e : q = (j, f) := Option.some.inj h
    subst e
    exact ⟨x, rfl⟩
  | q :: r, 0, k + 1, j, f, x, h => ⟨f, h⟩
  | q :: r, i + 1, 0, j, f, x, h => ⟨f, h⟩
  | q :: r, i + 1, k + 1, j, f, x, h => lw_at (L := r) (i := i) (k := k) h
theorem mm_id {M : Mm} : ∀ {L : List (Nat × (Nat → Int32))}, (∀ q ∈ L, M q.1 = q.2) → mm M L = M
  | [], _ => rfl
  | q :: r, h => by
    have ih := mm_id (M := M) (L := r) (fun p hp => h p (List.mem_cons_of_mem _ hp))
    funext c
    show (if c = q.1 then q.2 else mm M r c) = M c
    rw [ih]
    by_cases hc : c = q.1
    · rw [if_pos hc, hc, h q List.mem_cons_self]
    · rw [if_neg hc]
/-- the rows that a callee is given are there -/
theorem mm_pre {μ : Mm} {L L' : List (Nat × (Nat → Int32))} (hN : (cl L).Nodup) (f : List Nat) (e : f.filterMap (fun i => L[i]?) = L') : mm μ L = mm (mm μ L) L' := by
  subst e
  refine (mm_id (fun q hq => ?_)).symm
  obtain ⟨i, -, hi⟩ := List.mem_filterMap.mp hq
  exact mm_at (j := q.1) (f := q.2) hN hi
/-- what a callee has written comes back -/
def lws (L : List (Nat × (Nat → Int32))) : List (Nat × (Nat → Int32)) → List (Nat × (Nat → Int32))
  | [] => L
  | p :: r => lw (lws L r) p.1 p.2
theorem cl_lws {L : List (Nat × (Nat → Int32))} : ∀ {r : List (Nat × (Nat → Int32))}, cl (lws L r) = cl L
  | [] => rfl
  | p :: r => by
    show cl (lw (lws L r) p.1 p.2) = cl L
    rw [cl_lw, cl_lws]
theorem lws_at {L : List (Nat × (Nat → Int32))} {i j : Nat} {f : Nat → Int32} (h : L[i]? = some (j, f)) : ∀ {r : List (Nat × (Nat → Int32))}, ∃ g, (lws L r)[i]? = some (j, g)
  | [] => ⟨f, h⟩
  | p :: r => by
    obtain ⟨g, hg⟩ := lws_at h (r := r)
    exact lw_at hg
def lwc (L : List (Nat × (Nat → Int32))) : List (Nat × (Nat → Int32)) → List (Nat × (Nat → Int32))
  | [] => []
  | p :: r => match L[p.1]? with
    | some q => (q.1, p.2) :: lwc L r
    | none => lwc L r
def lwok (L : List (Nat × (Nat → Int32))) : List (Nat × (Nat → Int32)) → Bool
  | [] => true
  | p :: r => match L[p.1]? with
    | some _ => lwok L r
    | none => false
theorem mm_post0 {μ : Mm} {L : List (Nat × (Nat → Int32))} (hN : (cl L).Nodup) : ∀ {w : List (Nat × (Nat → Int32))}, lwok L w = true → mm (mm μ L) (lwc L w) = mm μ (lws L w)
  | [], _ => rfl
  | p :: r, h => by
    unfold lwok at h
    unfold lwc
    cases e : L[p.1]? with
    | none => rw [e] at h; cases h
    | some q =>
      rw [e] at h
      have ih := mm_post0 (μ := μ) hN h
      obtain ⟨g, hg⟩ := lws_at (L := L) (i := p.1) (j := q.1) (f := q.2) e (r := r)
      show (fun c => if c = q.1 then p.2 else mm (mm μ L) (lwc L r) c) = mm μ (lw (lws L r) p.1 p.2)
      rw [ih]
      exact mm_set (by rw [cl_lws]; exact hN) hg
theorem mm_post {μ : Mm} {L L' Ln : List (Nat × (Nat → Int32))} (hN : (cl L).Nodup) (w : List (Nat × (Nat → Int32))) (hk : lwok L w = true) (e1 : lwc L w = L') (e2 : lws L w = Ln) : mm (mm μ L) L' = mm μ Ln := by
  subst e1
  subst e2
  exact mm_post0 hN hk
theorem nd_inj {α : Type} : ∀ {L : List α} {i k : Nat} {x : α}, L.Nodup → L[i]? = some x → L[k]? = some x → i = k
  | [], i, k, x, _, h, _ => by simp at h
  | q :: r, 0, 0, x, _, _, _ => rfl
  | q :: r, 0, k + 1, x, hN, h, g => by
    have e : q = x := Option.some.inj h
    have g1 : r[k]? = some x := g
    exact absurd (e ▸ List.mem_of_getElem? g1) (List.nodup_cons.mp hN).1
  | q :: r, i + 1, 0, x, hN, h, g => by
    have e : q = x := Option.some.inj g
    have h1 : r[i]? = some x := h
    exact absurd (e ▸ List.mem_of_getElem? h1) (List.nodup_cons.mp hN).1
  | q :: r, i + 1, k + 1, x, hN, h, g => by rw [nd_inj (L := r) (i := i) (k := k) (List.nodup_cons.mp hN).2 h g]
def pk (L : List Nat) : List Nat → List Nat
  | [] => []
  | i :: r => match L[i]? with
    | some x => x :: pk L r
    | none => pk L r
theorem pk_mem {L : List Nat} {x : Nat} : ∀ {f : List Nat}, x ∈ pk L f → ∃ i, i ∈ f ∧ L[i]? = some x
  | [], h => by cases h
  | i :: r, h => by
    unfold pk at h
    cases e : L[i]? with
    | none =>
      rw [e] at h
      obtain ⟨k, h1, h2⟩ := pk_mem (f := r) h
      exact ⟨k, List.mem_cons_of_mem _ h1, h2⟩
    | some y =>
      rw [e] at h
      rcases List.mem_cons.mp h with rfl | h1
      · exact ⟨i, List.mem_cons_self, e⟩
      · obtain ⟨k, h1, h2⟩ := pk_mem (f := r) h1
        exact ⟨k, List.mem_cons_of_mem _ h1, h2⟩
theorem pk_nd {L : List Nat} (hN : L.Nodup) : ∀ {f : List Nat}, f.Nodup → (pk L f).Nodup
  | [], _ => List.nodup_nil
  | i :: r, h => by
    have h2 := List.nodup_cons.mp h
    have ih := pk_nd hN h2.2
    unfold pk
    cases e : L[i]? with
    | none => exact ih
    | some y =>
      refine List.nodup_cons.mpr ⟨fun hy => ?_, ih⟩
      obtain ⟨k, h3, h4⟩ := pk_mem hy
      rw [nd_inj hN e h4] at h2
      exact h2.1 h3
theorem nd_sub {L L' : List Nat} (hN : L.Nodup) (f : List Nat) (hf : f.Nodup) (e : pk L f = L') : L'.Nodup := e ▸ pk_nd hN hf
theorem nd_new {L : List Nat} {j : Nat} (hN : L.Nodup) (h : ∀ i ∈ L, i < j) : (j :: L).Nodup := List.nodup_cons.mpr ⟨fun hj => Nat.lt_irrefl _ (h j hj), hN⟩
theorem stT_hi {σ : Mm} {T : Nat → Mm} {c : Nat} (h : 49 ≤ c) : stT σ 0 T c = σ c := by
  unfold stT
  rw [if_neg (by omega), if_neg (by omega), if_neg (by omega), if_neg (by omega), if_neg (by omega), if_neg (by omega), if_neg (by omega), if_neg (by omega), if_neg (by omega), if_neg (by omega), if_neg (by omega)]
theorem stT_lo {σ σ' : Mm} {T : Nat → Mm} {c : Nat} (h : c < 49) : stT σ 0 T c = stT σ' 0 T c := by
  unfold stT
  rw [if_neg (Nat.not_lt_zero c), if_neg (Nat.not_lt_zero c)]
  by_cases h0 : c < 0 + 1
  · exact (if_pos h0).trans (if_pos h0).symm
  rw [if_neg h0, if_neg h0]
  by_cases h1 : c < 0 + 7
  · exact (if_pos h1).trans (if_pos h1).symm
  rw [if_neg h1, if_neg h1]
  by_cases h2 : c < 0 + 13
  · exact (if_pos h2).trans (if_pos h2).symm
  rw [if_neg h2, if_neg h2]
  by_cases h3 : c < 0 + 19
  · exact (if_pos h3).trans (if_pos h3).symm
  rw [if_neg h3, if_neg h3]
  by_cases h4 : c < 0 + 21
  · exact (if_pos h4).trans (if_pos h4).symm
  rw [if_neg h4, if_neg h4]
  by_cases h5 : c < 0 + 27
  · exact (if_pos h5).trans (if_pos h5).symm
  rw [if_neg h5, if_neg h5]
  by_cases h6 : c < 0 + 33
  · exact (if_pos h6).trans (if_pos h6).symm
  rw [if_neg h6, if_neg h6]
  by_cases h7 : c < 0 + 39
  · exact (if_pos h7).trans (if_pos h7).symm
  rw [if_neg h7, if_neg h7]
  by_cases h8 : c < 0 + 45
  · exact (if_pos h8).trans (if_pos h8).symm
  rw [if_neg h8, if_neg h8]
  have h9 : c < 0 + 49 := by omega
  exact (if_pos h9).trans (if_pos h9).symm
/-- rows above the class' cells -/
theorem mmT {σ : Mm} {T : Nat → Mm} : ∀ {L : List (Nat × (Nat → Int32))}, (∀ j ∈ cl L, 49 ≤ j) → mm (stT σ 0 T) L = stT (mm σ L) 0 T
  | [], _ => rfl
  | q :: r, h => by
    have ih := mmT (σ := σ) (T := T) (L := r) (fun p hp => h p (List.mem_cons_of_mem _ hp))
    have hq : 49 ≤ q.1 := h q.1 List.mem_cons_self
    funext c
    show (if c = q.1 then q.2 else mm (stT σ 0 T) r c) = stT (fun c => if c = q.1 then q.2 else mm σ r c) 0 T c
    rw [ih]
    by_cases hc : 49 ≤ c
    · rw [stT_hi hc, stT_hi hc]
    · rw [if_neg (by omega)]
      exact stT_lo (by omega)
theorem hC_new {L : List Nat} {j : Nat} (h : ∀ i ∈ L, 49 ≤ i) (hj : 49 ≤ j) : ∀ i ∈ j :: L, 49 ≤ i := fun i hi => by
  rcases List.mem_cons.mp hi with rfl | h1
  · exact hj
  · exact h i h1
def wr1 (n : Nat) (f : Nat → Int32) (i x : Int32) : Option (Nat → Int32) := if i < 0 ∨ n ≤ i.toNatClampNeg then none else some (upd f i.toNatClampNeg x)
theorem wr1_some {n : Nat} {f g : Nat → Int32} {i x : Int32} (h : wr1 n f i x = some g) : vp_in i n ∧ upd f i.toNatClampNeg x = g := by
  unfold wr1 at h
  by_cases hc : i < 0 ∨ n ≤ i.toNatClampNeg
  · rw [if_pos hc] at h; cases h
  · rw [if_neg hc] at h; cases h; exact ⟨hc, rfl⟩
def isA (γ : Ev) (j n : Nat) : Prop := j < eN γ ∧ eK γ j = dArr (eT γ 0) n
/-- γ has all that γ0 has, and more behind it -/
def Sub (γ0 γ : Ev) : Prop := Ks γ0 γ ∧ eN γ0 ≤ eN γ ∧ ∀ c, c < eN γ0 → eK γ c = eK γ0 c ∧ eA γ c = eA γ0 c
theorem Sub.rf {γ : Ev} : Sub γ γ := ⟨⟨rfl, rfl, rfl⟩, Nat.le_refl _, fun _ _ => ⟨rfl, rfl⟩⟩
theorem Sub.tr {γ0 γ1 γ2 : Ev} (h : Sub γ0 γ1) (g : Sub γ1 γ2) : Sub γ0 γ2 := ⟨⟨g.1.1.trans h.1.1, g.1.2.1.trans h.1.2.1, g.1.2.2.trans h.1.2.2⟩, Nat.le_trans h.2.1 g.2.1, fun c hc => ⟨(g.2.2 c (Nat.lt_of_lt_of_le hc h.2.1)).1.trans (h.2.2 c hc).1, (g.2.2 c (Nat.lt_of_lt_of_le hc h.2.1)).2.trans (h.2.2 c hc).2⟩⟩
theorem Sub.A {γ0 γ : Ev} (h : Sub γ0 γ) {j : Nat} (hj : j < eN γ0) : eA γ j = eA γ0 j := (h.2.2 j hj).2
theorem isA.sub {γ0 γ : Ev} {j n : Nat} (h : isA γ0 j n) (g : Sub γ0 γ) : isA γ j n := ⟨Nat.lt_of_lt_of_le h.1 g.2.1, by rw [(g.2.2 j h.1).1, g.1.2.1]; exact h.2⟩
theorem isX4.sub {γ0 γ : Ev} (h : isX4 γ0 0) (h49 : 49 ≤ eN γ0) (g : Sub γ0 γ) : isX4 γ 0 := isX4_mono g.2.1 g.1.2.1 (fun c hc => g.2.2 c (by omega)) h
theorem Cx.sub {p : Program} {R : Room} {s : State} {m : MethodId} {args : Array Value} {meth : Method} {c : Code} {own : String} {cc : ByteArray} {nL : Nat} {ret : Option FieldType} {fF fL : Nat} {γ0 γ : Ev} (C : Cx p R s m args meth c own cc nL ret fF fL γ0) (g : Sub γ0 γ) (hd : dis γ) : Cx p R s m args meth c own cc nL ret fF fL γ := by
  obtain ⟨hx, hb, hr, hml, hown, hts, hlk, hK, -, hF, hL⟩ := C
  exact ⟨hx, hb, hr, hml, hown, hts, hlk, g.1.hK hK, hd, hF, hL⟩
theorem Wo.lo {γ : Ev} {μ μ' : Mm} {s : State} {H : Heap} {locs : List Loc} (h : ∀ c, c < eN γ → μ c = μ' c) (hw : Wo γ μ s H locs) : Wo γ μ' s H locs := by
  have e : wmk γ μ = wmk γ μ' := by
    unfold wmk
    apply List.map_congr_left
    intro c hc
    rw [h c (List.mem_range.mp hc)]
  exact ⟨e ▸ hw.1, hw.2⟩
theorem Wo.drop {γ0 γ : Ev} {μ : Mm} {s : State} {H : Heap} {locs : List Loc} (g : Sub γ0 γ) (hw : Wo γ μ s H locs) : Wo γ0 μ s H locs := by
  refine ⟨fun k q hk => ?_, ?_⟩
  · have h1 := wmk_inv hk
    have e : (wmk γ0 μ)[k]? = some (eA γ0 k, eK γ0 k (μ k)) := wmk_at ⟨h1.1, rfl⟩ rfl
    have e2 : (wmk γ μ)[k]? = some (eA γ k, eK γ k (μ k)) := wmk_at ⟨Nat.lt_of_lt_of_le h1.1 g.2.1, rfl⟩ rfl
    rw [(g.2.2 k h1.1).1, (g.2.2 k h1.1).2] at e2
    have := hw.1 k q (by rw [← hk, e, e2])
    rwa [g.1.1] at this
  · rw [← g.1.2.2]
    exact hw.2
theorem mm_lo {μ : Mm} {N : Nat} : ∀ {L L' : List (Nat × (Nat → Int32))}, (∀ q ∈ L, N ≤ q.1) → ∀ c, c < N → mm μ (L ++ L') c = mm μ L' c
  | [], _, _, _, _ => rfl
  | q :: r, L', h, c, hc => by
    have h1 := h q List.mem_cons_self
    show (if c = q.1 then q.2 else mm μ (r ++ L') c) = _
    rw [if_neg (by omega)]
    exact mm_lo (fun p hp => h p (List.mem_cons_of_mem _ hp)) c hc
section
variable {p : Program} {l : Launch} {e : Env} {R : Room} {s : State} {m : MethodId} {args : Array Value} {below : List Frame} {meth : Method} {c : Code} {H : Heap} {locs : List Loc} {Q : State → Prop} {cc : ByteArray} {pc : Nat} {ls : Array Slot} {rest st0 : List Value} {γ : Ev} {μ μ' : Mm} {own : String} {nL fF fL : Nat} {ret : Option FieldType} {cells slots : Nat}
/-- a row of the law's is written -/
theorem r_astm (hx : p.tables.exec = Jvm.exec) (hb : c.code = cc) (hK : va_K (eG γ) vwCl (eTy γ) s) (hd : dis γ) {L L' : List (Nat × (Nat → Int32))} (hN : (cl L).Nodup) (hw : Wo γ (mm μ L) s H locs) {k i n : Nat} {f g : Nat → Int32} (hc : isA γ k n) (hi : L[i]? = some (k, f)) {j x : Int32} (hv : wr1 n f j x = some g) (hL : lw L i g = L') (hdg : decode cc pc = .ok (.iastore, 1)) (kk : ∀ {H1 : Heap} {locs1 : List Loc}, Wo γ (mm μ L') s H1 locs1 → W p l e R s m args below meth c H1 locs1 cells slots Q (F0 m (pc + 1) ls rest)) : W p l e R s m args below meth c H locs cells slots Q (F0 m pc ls (.int x :: .int j :: .ref (eA γ k) :: rest)) := by
  obtain ⟨h1, rfl⟩ := wr1_some hv
  subst hL
  refine va_iast hx hb hK hw.1 (wmk_D hd) hw.2 k 0 (wmk_at hc (mm_at hN hi)) rfl h1 hdg (fun H1 locs1 a _ b => kk ⟨?_, b⟩)
  rw [← mm_set hN hi, ← wmk_set hc]
  exact a
/-- a new row -/
theorem r_newA (hx : p.tables.exec = Jvm.exec) (hb : c.code = cc) (hts : ∀ w ∈ wG, w.before args s = true) (hK : va_K (eG γ) vwCl (eTy γ) s) (hd : dis γ) (hw : Wo γ μ s H locs) (hA : ∀ q, s.heap.size ≤ q → AK γ q) {i : Int32} {n : Nat} (hi : ¬ i < 0) (hn : i.toNatClampNeg = n) (hby : n * 4 ≤ 536870912) (hcells : cells + 1 ≤ R.cells ∧ slots + n ≤ R.slots) (hdg : decode cc pc = .ok (.newarray .int, 2))
    (kk : ∀ {γ1 : Ev} {H1 : Heap}, Sub γ γ1 → eN γ1 = eN γ + 1 → isA γ1 (eN γ) n → dis γ1 → Wo γ1 (mset μ (eN γ) zr) s H1 locs → W p l e R s m args below meth c H1 locs (cells + 1) (slots + n) Q (F0 m (pc + 2) ls (.ref (eA γ1 (eN γ)) :: rest))) : W p l e R s m args below meth c H locs cells slots Q (F0 m pc ls (.int i :: rest)) := by
  have hw2 : Wo γ (mset μ (eN γ) zr) s H locs := Wo.lo (fun c hc => (if_neg (by omega)).symm) hw
  refine r_newi hx hb hts hK hd hw2 hA hi hn hby (if_pos rfl) hcells hdg (fun {q} {H1} hd1 hw1 => ?_)
  have h := kk (γ1 := ext γ q (dArr (eT γ 0) n)) (H1 := H1) ⟨⟨rfl, rfl, rfl⟩, Nat.le_succ _, fun c hc => ⟨ext_K (by omega), ext_A (by omega)⟩⟩ rfl ⟨Nat.lt_succ_self _, ext_Kn rfl⟩ hd1 hw1
  rw [ext_An rfl] at h
  exact h
/-- a method that makes rows, and leaves them behind -/
def CtA (l : Launch) (y : MethodName) (cc : ByteArray) (n : Nat) (ret : Option FieldType) (fF fL mc ms : Nat) (γ : Ev) (av : List Value) (μ : Mm) (r : Option Value) (μ' : Mm) : Prop :=
  Met l y (.code y cc n ret :: wG) { frames := fF, cells := mc, slots := ms, locals := fL } (va_Pc av (fun U => Wd γ μ U ∧ ∀ q, U.heap.size ≤ q → AK γ q)) (Qo γ r μ') mc ms (AK γ)
theorem Wd.blindA {av : List Value} : FrameBlind (va_Pc av (fun U => Wd γ μ U ∧ ∀ q, U.heap.size ≤ q → AK γ q)) := by
  intro a U g mk q
  obtain ⟨q0, ⟨qP, qK, qD⟩, qA⟩ := q
  exact ⟨q0, ⟨qP, va_K.moved (u := U) (U := U.calling g mk a) (Vm.Alike.refl U.vm) qK, qD⟩, qA⟩
set_option maxHeartbeats 4000000 in
theorem CtA.of {y : MethodName} {cc : ByteArray} {n : Nat} {ret : Option FieldType} {fF fL mc ms : Nat} {av : List Value} {r : Option Value} (hy : plainFor y = true) (ho : y.cls = own) (hn : (lg_sl av).length ≤ n)
    (body : ∀ {p : Program} {e : Env} {R : Room} {s : State} {m : MethodId} {below : List Frame} {meth : Method} {c : Code}, mc ≤ R.cells ∧ ms ≤ R.slots → Cx p R s m av.toArray meth c own cc n ret fF fL γ → (∀ q, s.heap.size ≤ q → AK γ q) → Wo γ μ s s.heap [] → ∀ {ls : Array Slot}, lv_has ls n (lv_args 0 av) → W p l e R s m av.toArray below meth c s.heap [] 0 0 (MQ below (Qo γ r μ') av.toArray s mc ms (AK γ)) (F0 m 0 ls [])) : CtA l y cc n ret fF fL mc ms γ av μ r μ' := by
  refine Met.ofWF (cc := cc) (maxL := n) (ret := ret) hy rfl ?_
  intro p e s m args below meth c s₁ B hml hv
  obtain ⟨rfl, ⟨hP, hK, hD⟩, hA⟩ := hv
  have hts := atoms_spec (ws := .code y cc n ret :: wG) B.pre
  have hown : s.vm.findClass own = some m.cls := by rw [← ho]; exact findClass_of_methodNamed B.named
  have hl := lv_entry av (n := n) hn
  rw [lg_entry_eq]
  exact body ⟨Nat.le_refl _, Nat.le_refl _⟩ ⟨B.exec, B.bytes, B.returns, hml, hown, fun w hw => hts w (List.mem_cons_of_mem _ hw), B.notSynchronized, hK, hD, Nat.le_refl _, Nat.le_refl _⟩ hA ⟨hP, va_S.rf⟩ hl
theorem r_runA {mc ms : Nat} {r : Option Value} {a : Array Value} (hr : va_Run p l e R s m args below meth c H locs cells slots mc ms (F0 m pc ls st0) rest (Qo γ r μ' a) (AK γ)) (hw : Wo γ μ s H locs)
    (kk : ∀ {H1 : Heap} {locs1 : List Loc}, Wo γ μ' s H1 locs1 → W p l e R s m args below meth c H1 locs1 (cells + mc) (slots + ms) Q (F0 m (pc + 3) ls (r.toList ++ rest))) : W p l e R s m args below meth c H locs cells slots Q (F0 m pc ls st0) := by
  intro T hT X
  obtain ⟨v, st₀, t, T', L, h0, X', hL, e1, e2, ⟨hv, ⟨hP1, hK1, hd1⟩, hz, hk⟩, stp⟩ := hr T hT X
  cases hv
  rw [h0] at hz hk
  have hS := hw.2
  obtain ⟨t2, a1, b1⟩ := kk (H1 := T'.heap) (locs1 := locs ++ L) ⟨by rw [e1]; exact hP1, Nat.le_trans hS.1 (by rw [e1]; exact hz), fun q h1 h2 => by rw [e1, hk q (Nat.lt_of_lt_of_le h1 hS.1) h2]; exact hS.2.1 q h1 h2, fun q hq => by
      rcases List.mem_append.mp hq with h | h
      · exact hS.2.2 q h
      · exact hL q h⟩ T' rfl X'
  exact ⟨t2, stp t2 a1, b1⟩
theorem r_SA {y : MethodName} {cy : ByteArray} {ny fy ly mc ms idx : Nat} {ry : Option FieldType} {As : List Value} {r : Int32} (C0 : Cx p R s m args meth c own cc nL ret fF fL γ) (hA : ∀ q, s.heap.size ≤ q → AK γ q) (hcs : cells + mc ≤ R.cells ∧ slots + ms ≤ R.slots) (hM : CtA l y cy ny ry fy ly mc ms γ As μ (some (.int r)) μ') (lk : LkS own idx y cy ny ry As.length) (hls : ls.size = nL) (hst : st0 = As.reverse ++ rest) (hW : (rest.map fun v => v.category).sum ≤ 8) (hroom : fy + 1 ≤ fF ∧ 8 + (ny + 11) + ly ≤ fL) (hw : Wo γ μ s H locs) (hdg : decode cc pc = .ok (.invokestatic idx, 3))
    (kk : ∀ {H1 : Heap} {locs1 : List Loc}, Wo γ μ' s H1 locs1 → W p l e R s m args below meth c H1 locs1 (cells + mc) (slots + ms) Q (F0 m (pc + 3) ls (.int r :: rest))) : W p l e R s m args below meth c H locs cells slots Q (F0 m pc ls st0) := by
  obtain ⟨hx, hb, hr, hml, hown, hts, hlk, hK, hd, hF, hL⟩ := C0
  obtain ⟨⟨w1, w2, w4, w5⟩, hd1, hd2, hd3⟩ := lk
  have cw := va_cwS (R := R) (rm := { frames := fy, cells := mc, slots := ms, locals := ly }) (mc := mc) (ms := ms) (ws := .code y cy ny ry :: wG) (own := own) (index := idx) As.length hts (G_in (fun w hw => by
    unfold va_wsS at hw
    simp only [List.cons_append, List.nil_append, List.mem_cons] at hw
    rcases hw with rfl | rfl | rfl | rfl | h
    · exact w1
    · exact w2
    · exact w4
    · exact w5
    · exact h)) rfl rfl rfl ⟨hd1, hd2, hd3⟩ ⟨Nat.le_trans hroom.1 hF, Nat.le_trans hroom.2 hL⟩
  refine r_runA (va_runS (As := As) (rest := rest) ⟨hx, hb, hml, hown, hts⟩ hM cw ⟨Wd.blindA, fun U hU hWU => ⟨rfl, ⟨by rw [hU]; exact hw.1, va_K.moved hWU.alike hK, hd⟩, fun q hq => hA q (Nat.le_trans hw.2.1 (by rw [← hU]; exact hq))⟩⟩ rfl rfl hls hst (lv_room hW) hdg hcs) hw kk
/-- the end of a method that makes rows -/
theorem r_iretA {γ0 : Ev} {μ0 : Mm} {MC MS : Nat} (hx : p.tables.exec = Jvm.exec) (hb : c.code = cc) (hr : meth.sig.returnType = some .int) (hlk : meth.locks = false) (hS : Sub γ0 γ) (hK0 : va_K (eG γ0) vwCl (eTy γ0) s) (hd0 : dis γ0) (hw : Wo γ μ s H locs) (hm : ∀ c, c < eN γ0 → μ c = μ0 c) (hcs : cells ≤ MC ∧ slots ≤ MS) {v : Int32} (hdg : decode cc pc = .ok (.ireturn, 1)) : W p l e R s m args below meth c H locs cells slots (MQ below (Qo γ0 (some (.int v)) μ0) args s MC MS (AK γ0)) (F0 m pc ls [.int v]) := by
  have hw2 := Wo.lo hm (hw.drop hS)
  refine W.widen hcs.1 hcs.2 ?_
  exact W.iret hx hb hr (fun t ht hW => ⟨rfl, ⟨by rw [ht]; exact hw2.1, va_K.moved hW.alike hK0, hd0⟩, hw2.2.F ht⟩) hw2.2.2.2 hdg hlk
theorem r_zretA {γ0 : Ev} {μ0 : Mm} {MC MS : Nat} (hx : p.tables.exec = Jvm.exec) (hb : c.code = cc) (hr : meth.sig.returnType = some .boolean) (hlk : meth.locks = false) (hS : Sub γ0 γ) (hK0 : va_K (eG γ0) vwCl (eTy γ0) s) (hd0 : dis γ0) (hw : Wo γ μ s H locs) (hm : ∀ c, c < eN γ0 → μ c = μ0 c) (hcs : cells ≤ MC ∧ slots ≤ MS) {v : Int32} (hn : narrow .boolean (.int v) = .int v) (hdg : decode cc pc = .ok (.ireturn, 1)) : W p l e R s m args below meth c H locs cells slots (MQ below (Qo γ0 (some (.int v)) μ0) args s MC MS (AK γ0)) (F0 m pc ls [.int v]) := by
  have hw2 := Wo.lo hm (hw.drop hS)
  refine W.widen hcs.1 hcs.2 ?_
  exact W.zret hx hb hr hn (fun t ht hW => ⟨rfl, ⟨by rw [ht]; exact hw2.1, va_K.moved hW.alike hK0, hd0⟩, hw2.2.F ht⟩) hw2.2.2.2 hdg hlk
end
theorem all_sub {P : Nat → Prop} {L L' : List Nat} (h : ∀ i ∈ L, P i) (f : List Nat) (e : pk L f = L') : ∀ i ∈ L', P i := by
  subst e
  intro i hi
  obtain ⟨k, -, hk⟩ := pk_mem hi
  exact h i (List.mem_of_getElem? hk)
theorem all_cons {P : Nat → Prop} {L : List Nat} {j : Nat} (h : ∀ i ∈ L, P i) (hj : P j) : ∀ i ∈ j :: L, P i := fun i hi => by
  rcases List.mem_cons.mp hi with rfl | h1
  · exact hj
  · exact h i h1
theorem lt_new {γ γ1 : Ev} {L : List Nat} (h : ∀ i ∈ L, i < eN γ) (n : eN γ1 = eN γ + 1) : ∀ i ∈ eN γ :: L, i < eN γ1 := all_cons (fun i hi => by have := h i hi; omega) (by omega)
theorem mm_lo2 {μ : Mm} {N : Nat} {L L' : List (Nat × (Nat → Int32))} (h : ∀ j ∈ cl L, N ≤ j) : ∀ c, c < N → mm μ (L ++ L') c = mm μ L' c := mm_lo (fun q hq => h q.1 (List.mem_map.mpr ⟨q, hq, rfl⟩))
theorem i2_inj {α β : Type} {a c : α} {b d : β} (h : (a, b) = (c, d)) : a = c ∧ b = d := Prod.mk.inj h
/-! the script's cells -/
def s_L_cell (xs : Nat → Int32) (L : Nat) (k : Int32) : Option Int32 := if Int32.ofNat L ≤ k then some ((32452867 : Int32) * k + (15485863 : Int32)) else Option.bind (rd L xs k) fun v => some v
section
variable {p : Program} {l : Launch} {e : Env} {R : Room} {s : State} {m : MethodId} {args : Array Value} {below : List Frame} {meth : Method} {c : Code} {H : Heap} {locs : List Loc} {Q : State → Prop} {cc : ByteArray} {pc : Nat} {ls : Array Slot} {rest st0 : List Value} {γ : Ev} {μ μ' : Mm} {own : String} {nL fF fL : Nat} {ret : Option FieldType} {cells slots : Nat}
set_option maxHeartbeats 4000000 in
theorem c_L_cell {b L : Nat} {xs : Nat → Int32} {k r : Int32} (hbA : ¬ AK γ b) (h : s_L_cell xs L k = some r) : Met l yL_cell (.code yL_cell cL_cell 2 (some .int) :: wG) { frames := 1, cells := 0, slots := 0, locals := 40 } (va_Pc [.ref b, .int k] (fun U => Wd γ μ U ∧ va_X b L xs U U.heap ∧ b < U.heap.size)) (Qo γ (some (.int r)) μ) 0 0 (AK γ) := by
  refine Met.ofWF (cc := cL_cell) (maxL := 2) (ret := some .int) (by decide +kernel) rfl ?_
  intro p e s m args below meth c s₁ B hml hv
  obtain ⟨rfl, ⟨hP, hK, hD⟩, hX, hbl⟩ := hv
  have hts := atoms_spec (ws := .code yL_cell cL_cell 2 (some .int) :: wG) B.pre
  have hown : s.vm.findClass RL = some m.cls := findClass_of_methodNamed B.named
  have hl := lv_entry [Value.ref b, Value.int k] (n := 2) (Nat.le_of_ble_eq_true rfl)
  rw [lg_entry_eq]
  generalize (lg_sl [Value.ref b, Value.int k] ++ List.replicate (2 - (lg_sl [Value.ref b, Value.int k]).length) Slot.unset).toArray = ls at hl ⊢
  have hl : lv_has ls 2 [(0, .ref b), (1, .int k)] := hl
  have hx := B.exec
  have hb := B.bytes
  have hr := B.returns
  have hlk := B.notSynchronized
  have hw : Wo γ μ s s.heap [] := ⟨hP, va_S.rf⟩
  unfold s_L_cell at h
  refine lv_iload_n hx hb dL_cell_0 rfl (lv_at hl 1 rfl) ?_
  refine lv_aload_n hx hb dL_cell_1 rfl (lv_at hl 0 rfl) ?_
  refine va_slen hx hb hX hbl hbA hw.2 dL_cell_2 ?_
  refine lv_icmp_ge (tgt := 12) hx hb dL_cell_3 (by decide) (fun c1 => ?_) (fun c1 => ?_)
  · replace h := ifp c1 h
    have h1 := Option.some.inj h
    subst h1
    refine lv_ldc (v := (32452867 : Int32)) hx hb hown (hts _ (List.mem_cons_of_mem _ wd_377)) dL_cell_12 ?_
    refine lv_iload_n hx hb dL_cell_14 rfl (lv_at hl 1 rfl) ?_
    refine lv_imul hx hb dL_cell_15 ?_
    refine lv_ldc (v := (15485863 : Int32)) hx hb hown (hts _ (List.mem_cons_of_mem _ wd_378)) dL_cell_16 ?_
    refine lv_iadd hx hb dL_cell_18 ?_
    exact r_iret hx hb hr hlk hK hD hw dL_cell_19
  · replace h := ifn c1 h
    obtain ⟨v, hv, h⟩ := ob h
    have h1 := Option.some.inj h
    subst h1
    obtain ⟨hin, rfl⟩ := rd_some hv
    refine lv_aload_n hx hb dL_cell_6 rfl (lv_at hl 0 rfl) ?_
    refine lv_iload_n hx hb dL_cell_7 rfl (lv_at hl 1 rfl) ?_
    refine va_sld hx hb hX hbl hbA hw.2 hin dL_cell_8 ?_
    refine lv_goto (tgt := 19) hx hb dL_cell_9 (by decide) ?_
    exact r_iret hx hb hr hlk hK hD hw dL_cell_19
theorem r_cell {b L : Nat} {xs : Nat → Int32} {k r : Int32} (C0 : Cx p R s m args meth c RL cc nL ret fF fL γ) (hcs : cells ≤ R.cells ∧ slots ≤ R.slots) (hbA : ¬ AK γ b) (hX : va_X b L xs s s.heap) (hbl : b < s.heap.size) (h : s_L_cell xs L k = some r) (hls : ls.size = nL) (hW : (rest.map fun v => v.category).sum ≤ 8) (hroom : 2 ≤ fF ∧ 61 ≤ fL) (hw : Wo γ μ s H locs) (hdg : decode cc pc = .ok (.invokestatic 92, 3))
    (kk : ∀ {H1 : Heap} {locs1 : List Loc}, Wo γ μ s H1 locs1 → W p l e R s m args below meth c H1 locs1 cells slots Q (F0 m (pc + 3) ls (.int r :: rest))) : W p l e R s m args below meth c H locs cells slots Q (F0 m pc ls (.int k :: .ref b :: rest)) := by
  obtain ⟨hx, hb, hr, hml, hown, hts, hlk, hK, hd, hF, hL⟩ := C0
  obtain ⟨⟨w1, w2, w4, w5⟩, hd1, hd2, hd3⟩ := lk_L_92
  have cw := va_cwS (R := R) (rm := { frames := 1, cells := 0, slots := 0, locals := 40 }) (mc := 0) (ms := 0) (ws := .code yL_cell cL_cell 2 (some .int) :: wG) (own := RL) (index := 92) 2 hts (G_in (fun w hw => by
    unfold va_wsS at hw
    simp only [List.cons_append, List.nil_append, List.mem_cons] at hw
    rcases hw with rfl | rfl | rfl | rfl | h
    · exact w1
    · exact w2
    · exact w4
    · exact w5
    · exact h)) rfl rfl rfl ⟨hd1, hd2, hd3⟩ ⟨Nat.le_trans hroom.1 hF, Nat.le_trans hroom.2 hL⟩
  have hbl2 : FrameBlind (va_Pc [.ref b, .int k] (fun U => Wd γ μ U ∧ va_X b L xs U U.heap ∧ b < U.heap.size)) := by
    intro a U g mk q
    obtain ⟨q0, ⟨qP, qK, qD⟩, qX, qb⟩ := q
    exact ⟨q0, ⟨qP, va_K.moved (u := U) (U := U.calling g mk a) (Vm.Alike.refl U.vm) qK, qD⟩, va_X.moved (u := U) (U := U.calling g mk a) (Vm.Alike.refl U.vm) qX, qb⟩
  refine r_run (va_runS (As := [.ref b, .int k]) (rest := rest) ⟨hx, hb, hml, hown, hts⟩ (c_L_cell hbA h) cw ⟨hbl2, fun U hU hWU => ⟨rfl, ⟨by rw [hU]; exact hw.1, va_K.moved hWU.alike hK, hd⟩, ?_, ?_⟩⟩ rfl rfl hls rfl (lv_room hW) hdg hcs) hw kk
  · refine va_X.moved hWU.alike (va_X.kept hX ?_)
    rw [hU]
    exact hw.2.2.1 b hbl hbA
  · rw [hU]
    exact Nat.lt_of_lt_of_le hbl hw.2.1
end
section
variable {p : Program} {l : Launch} {e : Env} {R : Room} {s : State} {m : MethodId} {args : Array Value} {below : List Frame} {meth : Method} {c : Code} {H : Heap} {locs : List Loc} {Q : State → Prop} {cc : ByteArray} {pc : Nat} {ls : Array Slot} {rest st0 : List Value} {γ : Ev} {μ μ' : Mm} {own : String} {nL fF fL : Nat} {ret : Option FieldType} {cells slots : Nat}
theorem r_Sv {y : MethodName} {cy : ByteArray} {ny fy ly idx : Nat} {ry : Option FieldType} {As : List Value} (C0 : Cx p R s m args meth c own cc nL ret fF fL γ) (hcs : cells ≤ R.cells ∧ slots ≤ R.slots) (hM : Ct l y cy ny ry fy ly γ As μ none μ') (lk : LkS own idx y cy ny ry As.length) (hls : ls.size = nL) (hst : st0 = As.reverse ++ rest) (hW : (rest.map fun v => v.category).sum ≤ 8) (hroom : fy + 1 ≤ fF ∧ 8 + (ny + 11) + ly ≤ fL) (hw : Wo γ μ s H locs) (hdg : decode cc pc = .ok (.invokestatic idx, 3))
    (kk : ∀ {H1 : Heap} {locs1 : List Loc}, Wo γ μ' s H1 locs1 → W p l e R s m args below meth c H1 locs1 cells slots Q (F0 m (pc + 3) ls rest)) : W p l e R s m args below meth c H locs cells slots Q (F0 m pc ls st0) :=
  r_S C0 hcs hM lk hls hst hW hroom hw hdg kk
end
theorem mm_preT {σ : Mm} {T : Nat → Mm} {L L' : List (Nat × (Nat → Int32))} (hC : ∀ j ∈ cl L, 49 ≤ j) (hC' : ∀ j ∈ cl L', 49 ≤ j) (hN : (cl L).Nodup) (f : List Nat) (e : f.filterMap (fun i => L[i]?) = L') : mm (stT σ 0 T) L = mm (stT (mm σ L) 0 T) L' := by
  rw [mmT hC, mmT hC', ← mm_pre hN f e]
theorem cadd {a k M : Nat} (d k' : Nat) (h : a + k ≤ M) (hk : d + k' ≤ k) : a + d + k' ≤ M := by omega
theorem cmul {n P d c c' : Nat} (h : d + c' ≤ c) : d + (n * P + c') ≤ n * P + c := by omega
theorem cle {a k k' M : Nat} (h : a + k ≤ M) (hk : k' ≤ k) : a + k' ≤ M := by omega
theorem cin {a k M R : Nat} (h : a + k ≤ M) (hr : M ≤ R) : a ≤ R := by omega
theorem csa {a k d M R : Nat} (h : a + k ≤ M) (hd : d ≤ k) (hr : M ≤ R) : a + d ≤ R := by omega
theorem cMC {a k M : Nat} (h : a + k ≤ M) : a ≤ M := by omega
theorem chd {a n P E M : Nat} (h : a + ((n + 1) * P + E) ≤ M) : a + (n * P + (P + E)) ≤ M := by
  rw [Nat.succ_mul, Nat.add_assoc] at h
  exact h
