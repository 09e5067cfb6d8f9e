theorem st_zero {n o : Nat} {μ : Mm} (h : ∀ i, i < n → μ (o + i) = zr) : st n μ o (fun _ => zr) = μ := by
  funext c
  unfold st
  by_cases hc : o ≤ c ∧ c < o + n
  · rw [if_pos hc]
    have := h (c - o) (by omega)
    rw [Nat.add_sub_cancel' hc.1] at this
    exact this.symm
  · rw [if_neg hc]
theorem Wo.env {γ γ' : Ev} {μ : Mm} {s : State} {H : Heap} {locs : List Loc} (hN : eN γ = eN γ') (h : ∀ c, c < eN γ → eK γ c = eK γ' c ∧ eA γ c = eA γ' c) (hG : eG γ = eG γ') (hA : AK γ = AK γ') (hw : Wo γ μ s H locs) : Wo γ' μ s H locs := by
  refine ⟨?_, ?_⟩
  · rw [← hG, ← wmk_congr hN h]; exact hw.1
  · rw [← hA]; exact hw.2
/-- a world in the making: an object at o, with n arrays behind it so far -/
def Gr (γ0 γ : Ev) (o n : Nat) (d0 : (Nat → Int32) → va_E) (F : Nat → (Nat → Int32) → va_E) (qf : Nat → Nat) : Prop :=
  eN γ = o + 1 + n ∧ (eG γ = eG γ0 ∧ eT γ = eT γ0 ∧ AK γ = AK γ0) ∧ (∀ c, c < o → eK γ c = eK γ0 c ∧ eA γ c = eA γ0 c) ∧ (eA γ o = eA γ0 o ∧ eK γ o = d0) ∧ ∀ j, j < n → eA γ (o + 1 + j) = qf j ∧ eK γ (o + 1 + j) = F j
theorem Gr.step {γ0 γ : Ev} {o n : Nat} {d0 : (Nat → Int32) → va_E} {F : Nat → (Nat → Int32) → va_E} {qf : Nat → Nat} (h : Gr γ0 γ o n d0 F qf) {q : Nat} {d : (Nat → Int32) → va_E} (hd : d = F n) {d1 : (Nat → Int32) → va_E} : Gr γ0 (setK (ext γ q d) o d1) o (n + 1) d1 F (fun j => if j = n then q else qf j) := by
  obtain ⟨hN, hG, ho, ⟨ha, hk⟩, hj⟩ := h
  refine ⟨by show eN γ + 1 = _; omega, hG, fun c hc => ⟨?_, ?_⟩, ⟨?_, setK_n⟩, fun j hjn => ⟨?_, ?_⟩⟩
  · rw [setK_K (by omega), ext_K (by omega)]; exact (ho c hc).1
  · exact (ext_A (γ := γ) (q := q) (d := d) (by omega)).trans (ho c hc).2
  · exact (ext_A (γ := γ) (q := q) (d := d) (by omega)).trans ha
  · show _ = (if j = n then q else qf j)
    by_cases e : j = n
    · rw [if_pos e]; exact ext_An (γ := γ) (q := q) (d := d) (by omega)
    · rw [if_neg e]; exact (ext_A (γ := γ) (q := q) (d := d) (by omega)).trans (hj j (by omega)).1
  · rw [setK_K (by omega)]
    by_cases e : j = n
    · rw [ext_Kn (by omega), hd, e]
    · rw [ext_K (by omega)]; exact (hj j (by omega)).2
theorem Gr.hK {γ0 γ : Ev} {o n : Nat} {d0 : (Nat → Int32) → va_E} {F : Nat → (Nat → Int32) → va_E} {qf : Nat → Nat} (h : Gr γ0 γ o n d0 F qf) {s : State} (hK : va_K (eG γ0) vwCl (eTy γ0) s) : va_K (eG γ) vwCl (eTy γ) s := by
  obtain ⟨-, ⟨h1, h2, -⟩, -⟩ := h
  unfold eTy
  rw [h1, h2]
  exact hK
theorem Gr.hA {γ0 γ : Ev} {o n : Nat} {d0 : (Nat → Int32) → va_E} {F : Nat → (Nat → Int32) → va_E} {qf : Nat → Nat} (h : Gr γ0 γ o n d0 F qf) {z : Nat} (hA : ∀ q, z ≤ q → AK γ0 q) : ∀ q, z ≤ q → AK γ q := by
  obtain ⟨-, ⟨-, -, h3⟩, -⟩ := h
  rw [h3]
  exact hA
def B0 : Mm := (s_X0_initT (fun _ => zr)).getD (fun _ => zr)
theorem B0_eq : s_X0_initT (fun _ => zr) = some B0 := by
  have h : (s_X0_initT (fun _ => zr)).isSome = true := by decide +kernel
  obtain ⟨x, hx⟩ := Option.isSome_iff_exists.mp h
  unfold B0
  rw [hx]
  rfl
abbrev dfX0 (f : Nat → Int32) : List Value := [.null, .null, .null, .null, .null, .int (f 5), .int (f 6), .int (f 7), .int (f 8), .int (f 9), .int (f 10), .int (f 11)]
def dX0c (cT : Nat → ClassId) (qs : Nat → Nat) : Nat → (Nat → Int32) → va_E
  | 0 => fun f => .inr (0, [.ref (qs 1), .ref (qs 2), .ref (qs 3), .ref (qs 4), .ref (qs 5), .int (f 5), .int (f 6), .int (f 7), .int (f 8), .int (f 9), .int (f 10), .int (f 11)])
  | 1 => dArr (cT 0) 48
  | 2 => dArr (cT 0) 12
  | 3 => dArr (cT 0) 12
  | 4 => dArr (cT 0) 4
  | _ => dArr (cT 0) 160
def gX0 (D : va_G) (cT : Nat → ClassId) (o : Nat) (K : Nat → (Nat → Int32) → va_E) (ad : Nat → Nat) (A : Nat → Prop) (qs : Nat → Nat) : Ev := (D, cT, o + 6, (fun c => if c < o then K c else dX0c cT qs (c - o)), (fun c => if c ≤ o then ad c else qs (c - o)), A)
theorem gX0_A {D : va_G} {cT : Nat → ClassId} {o : Nat} {K : Nat → (Nat → Int32) → va_E} {ad : Nat → Nat} {A : Nat → Prop} {qs : Nat → Nat} {i : Nat} (h : 0 < i) : eA (gX0 D cT o K ad A qs) (o + i) = qs i := by
  show (if o + i ≤ o then _ else _) = _
  rw [if_neg (by omega), Nat.add_sub_cancel_left]
theorem gX0_A0 {D : va_G} {cT : Nat → ClassId} {o : Nat} {K : Nat → (Nat → Int32) → va_E} {ad : Nat → Nat} {A : Nat → Prop} {qs : Nat → Nat} : eA (gX0 D cT o K ad A qs) o = ad o := if_pos (Nat.le_refl o)
theorem gX0_K {D : va_G} {cT : Nat → ClassId} {o : Nat} {K : Nat → (Nat → Int32) → va_E} {ad : Nat → Nat} {A : Nat → Prop} {qs : Nat → Nat} {i : Nat} : eK (gX0 D cT o K ad A qs) (o + i) = dX0c cT qs i := by
  show (if o + i < o then _ else _) = _
  rw [if_neg (by omega), Nat.add_sub_cancel_left]
theorem gX0_is {D : va_G} {cT : Nat → ClassId} {o : Nat} {K : Nat → (Nat → Int32) → va_E} {ad : Nat → Nat} {A : Nat → Prop} {qs : Nat → Nat} : isX0 (gX0 D cT o K ad A qs) o := ⟨⟨by show o < o + 6; omega, (gX0_K (i := 0)).trans (by funext f; show (Sum.inr (0, _) : va_E) = .inr (0, _); unfold fX0; rw [gX0_A (i := 1) (by decide), gX0_A (i := 2) (by decide), gX0_A (i := 3) (by decide), gX0_A (i := 4) (by decide), gX0_A (i := 5) (by decide)])⟩, ⟨by show o + 1 < o + 6; omega, gX0_K⟩, ⟨by show o + 2 < o + 6; omega, gX0_K⟩, ⟨by show o + 3 < o + 6; omega, gX0_K⟩, ⟨by show o + 4 < o + 6; omega, gX0_K⟩, ⟨by show o + 5 < o + 6; omega, gX0_K⟩⟩
theorem dX0c_any {cT : Nat → ClassId} {qs qs2 : Nat → Nat} : ∀ {j : Nat}, dX0c cT qs (j + 1) = dX0c cT qs2 (j + 1)
  | 0 => rfl
  | 1 => rfl
  | 2 => rfl
  | 3 => rfl
  | 4 => rfl
  | j + 5 => rfl
theorem gX0_ce {D : va_G} {cT : Nat → ClassId} {o : Nat} {K : Nat → (Nat → Int32) → va_E} {ad : Nat → Nat} {A : Nat → Prop} {γ : Ev} {d0 : (Nat → Int32) → va_E} {qf qs0 : Nat → Nat} (h : Gr (D, cT, o + 1, K, ad, A) γ o 5 d0 (fun j => dX0c cT qs0 (j + 1)) qf) (hd : d0 = dX0c cT (fun i => qf (i - 1)) 0) : ∀ c, c < eN γ → eK γ c = eK (gX0 D cT o K ad A (fun i => qf (i - 1))) c ∧ eA γ c = eA (gX0 D cT o K ad A (fun i => qf (i - 1))) c := by
  obtain ⟨hN, -, ho, ⟨ha, hk⟩, hj⟩ := h
  intro c hc
  rcases Nat.lt_or_ge c o with h1 | h1
  · refine ⟨(ho c h1).1.trans (if_pos h1).symm, (ho c h1).2.trans (if_pos (Nat.le_of_lt h1)).symm⟩
  · rcases Nat.eq_or_lt_of_le h1 with rfl | h2
    · exact ⟨(hk.trans hd).trans (gX0_K (i := 0)).symm, ha.trans gX0_A0.symm⟩
    · obtain ⟨j, hjn, rfl⟩ : ∃ j, j < 5 ∧ c = o + 1 + j := ⟨c - (o + 1), by omega, by omega⟩
      obtain ⟨e1, e2⟩ := hj j hjn
      rw [e1, e2, show o + 1 + j = o + (j + 1) by omega, gX0_K, gX0_A (Nat.succ_pos j)]
      exact ⟨dX0c_any, rfl⟩
set_option maxHeartbeats 4000000 in
set_option maxRecDepth 20000 in
theorem c_X0_init {l : Launch} {D : va_G} {cT : Nat → ClassId} {o : Nat} {K : Nat → (Nat → Int32) → va_E} {ad : Nat → Nat} {A : Nat → Prop} (hk : K o = fun f => .inr (0, dfX0 f)) {μ : Mm} (hz : ∀ c, o ≤ c → μ c = zr) : CtI l yX0_init cX0_init 2 20 600 5 236 (D, cT, o + 1, K, ad, A) (ad o) μ (fun qs => gX0 D cT o K ad A qs) (st 6 μ o B0) := by
  refine CtI.of (own := RX0) (by decide +kernel) rfl rfl (by decide) ?_
  intro p e R s m below meth c hR C hin hA hNW hw ls hl
  subst hR
  have C0 := C
  obtain ⟨hx, hb, hr, hml, hown, hts, hlk, hK, hd, hF, hL⟩ := C
  refine lv_aload_n hx hb dX0_init_0 rfl (lv_at hl 0 rfl) ?_
  refine W.objInit hx hb hown (hts _ wd_26) (hts _ wd_19) (hts _ wd_20) rfl (by rw [hml]; exact hl.1) rfl dX0_init_1 (Nat.le_of_ble_eq_true rfl) (Nat.le_of_ble_eq_true rfl) ?_
  refine W.eq (g2 := F0 m 4 ls []) rfl ?_
  have hz0 : ∀ c, o < c → μ c = zr := fun c h => hz c (by omega)
  obtain ⟨γ, hγ⟩ : ∃ γ : Ev, γ = (D, cT, o + 1, K, ad, A) := ⟨_, rfl⟩
  rw [← hγ] at hw hd
  have hg : Gr (D, cT, o + 1, K, ad, A) γ o 0 (fun f => .inr (0, dfX0 f)) (fun j => dX0c cT (fun _ => 0) (j + 1)) (fun _ => 0) := by subst hγ; exact ⟨rfl, ⟨rfl, rfl, rfl⟩, fun _ _ => ⟨rfl, rfl⟩, ⟨rfl, hk⟩, fun _ h => absurd h (Nat.not_lt_zero _)⟩
  clear hγ
  refine lv_aload_n hx hb dX0_init_4 rfl (lv_at hl 0 rfl) ?_
  refine lv_bipush (v := (48 : Int32)) hx hb dX0_init_5 (by decide) ?_
  refine r_newi (n := 48) hx hb hts (hg.hK hK) hd hw (hg.hA hA) (by decide) (by decide) (by decide) (by rw [hg.1]; exact hz0 _ (by omega)) ⟨Nat.le_of_ble_eq_true rfl, Nat.le_of_ble_eq_true rfl⟩ dX0_init_7 (fun {q1} {H} hd hw => ?_)
  have hq0 : eA (ext γ q1 (dArr (eT γ 0) 48)) o = ad o := (ext_A (γ := γ) (by have := hg.1; omega)).trans hg.2.2.2.1.1
  have hk0 : o < eN (ext γ q1 (dArr (eT γ 0) 48)) ∧ eK (ext γ q1 (dArr (eT γ 0) 48)) o = fun f => .inr (0, [.null, .null, .null, .null, .null, .int (f 5), .int (f 6), .int (f 7), .int (f 8), .int (f 9), .int (f 10), .int (f 11)]) := ⟨by show o < eN γ + 1; have := hg.1; omega, (ext_K (γ := γ) (by have := hg.1; omega)).trans hg.2.2.2.1.2⟩
  refine r_putR (γ := ext γ q1 (dArr (eT γ 0) 48)) (fl' := fun f => [.ref q1, .null, .null, .null, .null, .int (f 5), .int (f 6), .int (f 7), .int (f 8), .int (f 9), .int (f 10), .int (f 11)]) (ty := .array .int) hx hb hts (hg.hK hK) hd hw hown hin inX0 tyX0 tyX0_ok nmX0 rfl hq0 hk0 0 (by decide) wd_27 rfl rfl rfl rfl rfl (fun _ => (Nat.le_of_ble_eq_true rfl)) (fun _ => rfl) dX0_init_9 (fun {H} {locs} hw => ?_)
  replace hg := hg.step (q := q1) (d := dArr (eT γ 0) 48) (by rw [hg.2.1.2.1]; rfl) (d1 := fun f => .inr (0, [.ref q1, .null, .null, .null, .null, .int (f 5), .int (f 6), .int (f 7), .int (f 8), .int (f 9), .int (f 10), .int (f 11)]))
  replace hd : dis (setK (ext γ q1 (dArr (eT γ 0) 48)) o (fun f => .inr (0, [.ref q1, .null, .null, .null, .null, .int (f 5), .int (f 6), .int (f 7), .int (f 8), .int (f 9), .int (f 10), .int (f 11)]))) := hd
  generalize (setK (ext γ q1 (dArr (eT γ 0) 48)) o (fun f => .inr (0, [.ref q1, .null, .null, .null, .null, .int (f 5), .int (f 6), .int (f 7), .int (f 8), .int (f 9), .int (f 10), .int (f 11)]))) = γ at hw hd hg
  clear hq0 hk0
  refine lv_aload_n hx hb dX0_init_12 rfl (lv_at hl 0 rfl) ?_
  refine lv_bipush (v := (12 : Int32)) hx hb dX0_init_13 (by decide) ?_
  refine r_newi (n := 12) hx hb hts (hg.hK hK) hd hw (hg.hA hA) (by decide) (by decide) (by decide) (by rw [hg.1]; exact hz0 _ (by omega)) ⟨Nat.le_of_ble_eq_true rfl, Nat.le_of_ble_eq_true rfl⟩ dX0_init_15 (fun {q2} {H} hd hw => ?_)
  have hq0 : eA (ext γ q2 (dArr (eT γ 0) 12)) o = ad o := (ext_A (γ := γ) (by have := hg.1; omega)).trans hg.2.2.2.1.1
  have hk0 : o < eN (ext γ q2 (dArr (eT γ 0) 12)) ∧ eK (ext γ q2 (dArr (eT γ 0) 12)) o = fun f => .inr (0, [.ref q1, .null, .null, .null, .null, .int (f 5), .int (f 6), .int (f 7), .int (f 8), .int (f 9), .int (f 10), .int (f 11)]) := ⟨by show o < eN γ + 1; have := hg.1; omega, (ext_K (γ := γ) (by have := hg.1; omega)).trans hg.2.2.2.1.2⟩
  refine r_putR (γ := ext γ q2 (dArr (eT γ 0) 12)) (fl' := fun f => [.ref q1, .ref q2, .null, .null, .null, .int (f 5), .int (f 6), .int (f 7), .int (f 8), .int (f 9), .int (f 10), .int (f 11)]) (ty := .array .int) hx hb hts (hg.hK hK) hd hw hown hin inX0 tyX0 tyX0_ok nmX0 rfl hq0 hk0 1 (by decide) wd_28 rfl rfl rfl rfl rfl (fun _ => (Nat.le_of_ble_eq_true rfl)) (fun _ => rfl) dX0_init_17 (fun {H} {locs} hw => ?_)
  replace hg := hg.step (q := q2) (d := dArr (eT γ 0) 12) (by rw [hg.2.1.2.1]; rfl) (d1 := fun f => .inr (0, [.ref q1, .ref q2, .null, .null, .null, .int (f 5), .int (f 6), .int (f 7), .int (f 8), .int (f 9), .int (f 10), .int (f 11)]))
  replace hd : dis (setK (ext γ q2 (dArr (eT γ 0) 12)) o (fun f => .inr (0, [.ref q1, .ref q2, .null, .null, .null, .int (f 5), .int (f 6), .int (f 7), .int (f 8), .int (f 9), .int (f 10), .int (f 11)]))) := hd
  generalize (setK (ext γ q2 (dArr (eT γ 0) 12)) o (fun f => .inr (0, [.ref q1, .ref q2, .null, .null, .null, .int (f 5), .int (f 6), .int (f 7), .int (f 8), .int (f 9), .int (f 10), .int (f 11)]))) = γ at hw hd hg
  clear hq0 hk0
  refine lv_aload_n hx hb dX0_init_20 rfl (lv_at hl 0 rfl) ?_
  refine lv_bipush (v := (12 : Int32)) hx hb dX0_init_21 (by decide) ?_
  refine r_newi (n := 12) hx hb hts (hg.hK hK) hd hw (hg.hA hA) (by decide) (by decide) (by decide) (by rw [hg.1]; exact hz0 _ (by omega)) ⟨Nat.le_of_ble_eq_true rfl, Nat.le_of_ble_eq_true rfl⟩ dX0_init_23 (fun {q3} {H} hd hw => ?_)
  have hq0 : eA (ext γ q3 (dArr (eT γ 0) 12)) o = ad o := (ext_A (γ := γ) (by have := hg.1; omega)).trans hg.2.2.2.1.1
  have hk0 : o < eN (ext γ q3 (dArr (eT γ 0) 12)) ∧ eK (ext γ q3 (dArr (eT γ 0) 12)) o = fun f => .inr (0, [.ref q1, .ref q2, .null, .null, .null, .int (f 5), .int (f 6), .int (f 7), .int (f 8), .int (f 9), .int (f 10), .int (f 11)]) := ⟨by show o < eN γ + 1; have := hg.1; omega, (ext_K (γ := γ) (by have := hg.1; omega)).trans hg.2.2.2.1.2⟩
  refine r_putR (γ := ext γ q3 (dArr (eT γ 0) 12)) (fl' := fun f => [.ref q1, .ref q2, .ref q3, .null, .null, .int (f 5), .int (f 6), .int (f 7), .int (f 8), .int (f 9), .int (f 10), .int (f 11)]) (ty := .array .int) hx hb hts (hg.hK hK) hd hw hown hin inX0 tyX0 tyX0_ok nmX0 rfl hq0 hk0 2 (by decide) wd_29 rfl rfl rfl rfl rfl (fun _ => (Nat.le_of_ble_eq_true rfl)) (fun _ => rfl) dX0_init_25 (fun {H} {locs} hw => ?_)
  replace hg := hg.step (q := q3) (d := dArr (eT γ 0) 12) (by rw [hg.2.1.2.1]; rfl) (d1 := fun f => .inr (0, [.ref q1, .ref q2, .ref q3, .null, .null, .int (f 5), .int (f 6), .int (f 7), .int (f 8), .int (f 9), .int (f 10), .int (f 11)]))
  replace hd : dis (setK (ext γ q3 (dArr (eT γ 0) 12)) o (fun f => .inr (0, [.ref q1, .ref q2, .ref q3, .null, .null, .int (f 5), .int (f 6), .int (f 7), .int (f 8), .int (f 9), .int (f 10), .int (f 11)]))) := hd
  generalize (setK (ext γ q3 (dArr (eT γ 0) 12)) o (fun f => .inr (0, [.ref q1, .ref q2, .ref q3, .null, .null, .int (f 5), .int (f 6), .int (f 7), .int (f 8), .int (f 9), .int (f 10), .int (f 11)]))) = γ at hw hd hg
  clear hq0 hk0
  refine lv_aload_n hx hb dX0_init_28 rfl (lv_at hl 0 rfl) ?_
  refine lv_iconst (v := (4 : Int32)) hx hb dX0_init_29 (by decide) ?_
  refine r_newi (n := 4) hx hb hts (hg.hK hK) hd hw (hg.hA hA) (by decide) (by decide) (by decide) (by rw [hg.1]; exact hz0 _ (by omega)) ⟨Nat.le_of_ble_eq_true rfl, Nat.le_of_ble_eq_true rfl⟩ dX0_init_30 (fun {q4} {H} hd hw => ?_)
  have hq0 : eA (ext γ q4 (dArr (eT γ 0) 4)) o = ad o := (ext_A (γ := γ) (by have := hg.1; omega)).trans hg.2.2.2.1.1
  have hk0 : o < eN (ext γ q4 (dArr (eT γ 0) 4)) ∧ eK (ext γ q4 (dArr (eT γ 0) 4)) o = fun f => .inr (0, [.ref q1, .ref q2, .ref q3, .null, .null, .int (f 5), .int (f 6), .int (f 7), .int (f 8), .int (f 9), .int (f 10), .int (f 11)]) := ⟨by show o < eN γ + 1; have := hg.1; omega, (ext_K (γ := γ) (by have := hg.1; omega)).trans hg.2.2.2.1.2⟩
  refine r_putR (γ := ext γ q4 (dArr (eT γ 0) 4)) (fl' := fun f => [.ref q1, .ref q2, .ref q3, .ref q4, .null, .int (f 5), .int (f 6), .int (f 7), .int (f 8), .int (f 9), .int (f 10), .int (f 11)]) (ty := .array .int) hx hb hts (hg.hK hK) hd hw hown hin inX0 tyX0 tyX0_ok nmX0 rfl hq0 hk0 3 (by decide) wd_30 rfl rfl rfl rfl rfl (fun _ => (Nat.le_of_ble_eq_true rfl)) (fun _ => rfl) dX0_init_32 (fun {H} {locs} hw => ?_)
  replace hg := hg.step (q := q4) (d := dArr (eT γ 0) 4) (by rw [hg.2.1.2.1]; rfl) (d1 := fun f => .inr (0, [.ref q1, .ref q2, .ref q3, .ref q4, .null, .int (f 5), .int (f 6), .int (f 7), .int (f 8), .int (f 9), .int (f 10), .int (f 11)]))
  replace hd : dis (setK (ext γ q4 (dArr (eT γ 0) 4)) o (fun f => .inr (0, [.ref q1, .ref q2, .ref q3, .ref q4, .null, .int (f 5), .int (f 6), .int (f 7), .int (f 8), .int (f 9), .int (f 10), .int (f 11)]))) := hd
  generalize (setK (ext γ q4 (dArr (eT γ 0) 4)) o (fun f => .inr (0, [.ref q1, .ref q2, .ref q3, .ref q4, .null, .int (f 5), .int (f 6), .int (f 7), .int (f 8), .int (f 9), .int (f 10), .int (f 11)]))) = γ at hw hd hg
  clear hq0 hk0
  refine lv_aload_n hx hb dX0_init_35 rfl (lv_at hl 0 rfl) ?_
  refine lv_sipush (v := (160 : Int32)) hx hb dX0_init_36 (by decide) ?_
  refine r_newi (n := 160) hx hb hts (hg.hK hK) hd hw (hg.hA hA) (by decide) (by decide) (by decide) (by rw [hg.1]; exact hz0 _ (by omega)) ⟨Nat.le_of_ble_eq_true rfl, Nat.le_of_ble_eq_true rfl⟩ dX0_init_39 (fun {q5} {H} hd hw => ?_)
  have hq0 : eA (ext γ q5 (dArr (eT γ 0) 160)) o = ad o := (ext_A (γ := γ) (by have := hg.1; omega)).trans hg.2.2.2.1.1
  have hk0 : o < eN (ext γ q5 (dArr (eT γ 0) 160)) ∧ eK (ext γ q5 (dArr (eT γ 0) 160)) o = fun f => .inr (0, [.ref q1, .ref q2, .ref q3, .ref q4, .null, .int (f 5), .int (f 6), .int (f 7), .int (f 8), .int (f 9), .int (f 10), .int (f 11)]) := ⟨by show o < eN γ + 1; have := hg.1; omega, (ext_K (γ := γ) (by have := hg.1; omega)).trans hg.2.2.2.1.2⟩
  refine r_putR (γ := ext γ q5 (dArr (eT γ 0) 160)) (fl' := fun f => [.ref q1, .ref q2, .ref q3, .ref q4, .ref q5, .int (f 5), .int (f 6), .int (f 7), .int (f 8), .int (f 9), .int (f 10), .int (f 11)]) (ty := .array .int) hx hb hts (hg.hK hK) hd hw hown hin inX0 tyX0 tyX0_ok nmX0 rfl hq0 hk0 4 (by decide) wd_31 rfl rfl rfl rfl rfl (fun _ => (Nat.le_of_ble_eq_true rfl)) (fun _ => rfl) dX0_init_41 (fun {H} {locs} hw => ?_)
  replace hg := hg.step (q := q5) (d := dArr (eT γ 0) 160) (by rw [hg.2.1.2.1]; rfl) (d1 := fun f => .inr (0, [.ref q1, .ref q2, .ref q3, .ref q4, .ref q5, .int (f 5), .int (f 6), .int (f 7), .int (f 8), .int (f 9), .int (f 10), .int (f 11)]))
  replace hd : dis (setK (ext γ q5 (dArr (eT γ 0) 160)) o (fun f => .inr (0, [.ref q1, .ref q2, .ref q3, .ref q4, .ref q5, .int (f 5), .int (f 6), .int (f 7), .int (f 8), .int (f 9), .int (f 10), .int (f 11)]))) := hd
  generalize (setK (ext γ q5 (dArr (eT γ 0) 160)) o (fun f => .inr (0, [.ref q1, .ref q2, .ref q3, .ref q4, .ref q5, .int (f 5), .int (f 6), .int (f 7), .int (f 8), .int (f 9), .int (f 10), .int (f 11)]))) = γ at hw hd hg
  clear hq0 hk0
  have hce := gX0_ce hg rfl
  obtain ⟨hN, ⟨hEG, -, hEA⟩, -⟩ := hg
  replace hd : dis (gX0 D cT o K ad A (fun i => (fun j => if j = 4 then q5 else (fun j => if j = 3 then q4 else (fun j => if j = 2 then q3 else (fun j => if j = 1 then q2 else (fun j => if j = 0 then q1 else (fun _ => 0) j) j) j) j) j) (i - 1))) := dis_congr (by rw [hN]; rfl) (fun c h => (hce c h).2) hEA hd
  replace hw : Wo (gX0 D cT o K ad A (fun i => (fun j => if j = 4 then q5 else (fun j => if j = 3 then q4 else (fun j => if j = 2 then q3 else (fun j => if j = 1 then q2 else (fun j => if j = 0 then q1 else (fun _ => 0) j) j) j) j) j) (i - 1))) μ s _ _ := Wo.env (by rw [hN]; rfl) hce hEG hEA hw
  generalize (fun i => (fun j => if j = 4 then q5 else (fun j => if j = 3 then q4 else (fun j => if j = 2 then q3 else (fun j => if j = 1 then q2 else (fun j => if j = 0 then q1 else (fun _ => 0) j) j) j) j) j) (i - 1)) = qs at hd hw
  replace hw := Wo.cg (st_zero (n := 6) (o := o) (fun i hi => hz _ (by omega))).symm hw
  replace hl : lv_has ls 2 [(0, .ref (eA (gX0 D cT o K ad A qs) o))] := by rw [gX0_A0]; exact hl
  refine b_X0_initT (γ := gX0 D cT o K ad A qs) (o := o) (σ := μ) (B := (fun _ => zr)) ⟨hx, hb, hr, hml, hown, hts, hlk, hK, hd, hF, hL⟩ ⟨Nat.le_of_ble_eq_true rfl, Nat.le_of_ble_eq_true rfl⟩ gX0_is B0_eq hw hl (fun {H} {locs} {ls} hw => ?_)
  exact r_cret (γ' := gX0 D cT o K ad A qs) (A := A) (Γ := fun qs => gX0 D cT o K ad A qs) hx hb hr hlk hK hd hw rfl qs rfl dX0_init_103
abbrev dfX2 (f : Nat → Int32) : List Value := [.null, .null, .null, .int (f 3), .int (f 4), .int (f 5), .int (f 6), .int (f 7)]
def dX2c (cT : Nat → ClassId) (qs : Nat → Nat) : Nat → (Nat → Int32) → va_E
  | 0 => fun f => .inr (2, [.ref (qs 1), .ref (qs 2), .ref (qs 3), .int (f 3), .int (f 4), .int (f 5), .int (f 6), .int (f 7)])
  | 1 => dArr (cT 1) 60
  | 2 => dArr (cT 0) 20
  | _ => dArr (cT 0) 20
def gX2 (D : va_G) (cT : Nat → ClassId) (o : Nat) (K : Nat → (Nat → Int32) → va_E) (ad : Nat → Nat) (A : Nat → Prop) (qs : Nat → Nat) : Ev := (D, cT, o + 4, (fun c => if c < o then K c else dX2c cT qs (c - o)), (fun c => if c ≤ o then ad c else qs (c - o)), A)
theorem gX2_A {D : va_G} {cT : Nat → ClassId} {o : Nat} {K : Nat → (Nat → Int32) → va_E} {ad : Nat → Nat} {A : Nat → Prop} {qs : Nat → Nat} {i : Nat} (h : 0 < i) : eA (gX2 D cT o K ad A qs) (o + i) = qs i := by
  show (if o + i ≤ o then _ else _) = _
  rw [if_neg (by omega), Nat.add_sub_cancel_left]
theorem gX2_A0 {D : va_G} {cT : Nat → ClassId} {o : Nat} {K : Nat → (Nat → Int32) → va_E} {ad : Nat → Nat} {A : Nat → Prop} {qs : Nat → Nat} : eA (gX2 D cT o K ad A qs) o = ad o := if_pos (Nat.le_refl o)
theorem gX2_K {D : va_G} {cT : Nat → ClassId} {o : Nat} {K : Nat → (Nat → Int32) → va_E} {ad : Nat → Nat} {A : Nat → Prop} {qs : Nat → Nat} {i : Nat} : eK (gX2 D cT o K ad A qs) (o + i) = dX2c cT qs i := by
  show (if o + i < o then _ else _) = _
  rw [if_neg (by omega), Nat.add_sub_cancel_left]
theorem gX2_is {D : va_G} {cT : Nat → ClassId} {o : Nat} {K : Nat → (Nat → Int32) → va_E} {ad : Nat → Nat} {A : Nat → Prop} {qs : Nat → Nat} : isX2 (gX2 D cT o K ad A qs) o := ⟨⟨by show o < o + 4; omega, (gX2_K (i := 0)).trans (by funext f; show (Sum.inr (2, _) : va_E) = .inr (2, _); unfold fX2; rw [gX2_A (i := 1) (by decide), gX2_A (i := 2) (by decide), gX2_A (i := 3) (by decide)])⟩, ⟨by show o + 1 < o + 4; omega, gX2_K⟩, ⟨by show o + 2 < o + 4; omega, gX2_K⟩, ⟨by show o + 3 < o + 4; omega, gX2_K⟩⟩
theorem dX2c_any {cT : Nat → ClassId} {qs qs2 : Nat → Nat} : ∀ {j : Nat}, dX2c cT qs (j + 1) = dX2c cT qs2 (j + 1)
  | 0 => rfl
  | 1 => rfl
  | 2 => rfl
  | j + 3 => rfl
theorem gX2_ce {D : va_G} {cT : Nat → ClassId} {o : Nat} {K : Nat → (Nat → Int32) → va_E} {ad : Nat → Nat} {A : Nat → Prop} {γ : Ev} {d0 : (Nat → Int32) → va_E} {qf qs0 : Nat → Nat} (h : Gr (D, cT, o + 1, K, ad, A) γ o 3 d0 (fun j => dX2c cT qs0 (j + 1)) qf) (hd : d0 = dX2c cT (fun i => qf (i - 1)) 0) : ∀ c, c < eN γ → eK γ c = eK (gX2 D cT o K ad A (fun i => qf (i - 1))) c ∧ eA γ c = eA (gX2 D cT o K ad A (fun i => qf (i - 1))) c := by
  obtain ⟨hN, -, ho, ⟨ha, hk⟩, hj⟩ := h
  intro c hc
  rcases Nat.lt_or_ge c o with h1 | h1
  · refine ⟨(ho c h1).1.trans (if_pos h1).symm, (ho c h1).2.trans (if_pos (Nat.le_of_lt h1)).symm⟩
  · rcases Nat.eq_or_lt_of_le h1 with rfl | h2
    · exact ⟨(hk.trans hd).trans (gX2_K (i := 0)).symm, ha.trans gX2_A0.symm⟩
    · obtain ⟨j, hjn, rfl⟩ : ∃ j, j < 3 ∧ c = o + 1 + j := ⟨c - (o + 1), by omega, by omega⟩
      obtain ⟨e1, e2⟩ := hj j hjn
      rw [e1, e2, show o + 1 + j = o + (j + 1) by omega, gX2_K, gX2_A (Nat.succ_pos j)]
      exact ⟨dX2c_any, rfl⟩
set_option maxHeartbeats 4000000 in
set_option maxRecDepth 20000 in
theorem c_X2_init {l : Launch} {D : va_G} {cT : Nat → ClassId} {o : Nat} {K : Nat → (Nat → Int32) → va_E} {ad : Nat → Nat} {A : Nat → Prop} (hk : K o = fun f => .inr (2, dfX2 f)) {μ : Mm} (hz : ∀ c, o ≤ c → μ c = zr) : CtI l yX2_init cX2_init 1 2 40 3 100 (D, cT, o + 1, K, ad, A) (ad o) μ (fun qs => gX2 D cT o K ad A qs) (μ) := by
  refine CtI.of (own := RX2) (by decide +kernel) rfl rfl (by decide) ?_
  intro p e R s m below meth c hR C hin hA hNW hw ls hl
  subst hR
  have C0 := C
  obtain ⟨hx, hb, hr, hml, hown, hts, hlk, hK, hd, hF, hL⟩ := C
  refine lv_aload_n hx hb dX2_init_0 rfl (lv_at hl 0 rfl) ?_
  refine W.objInit hx hb hown (hts _ wd_86) (hts _ wd_19) (hts _ wd_20) rfl (by rw [hml]; exact hl.1) rfl dX2_init_1 (Nat.le_of_ble_eq_true rfl) (Nat.le_of_ble_eq_true rfl) ?_
  refine W.eq (g2 := F0 m 4 ls []) rfl ?_
  have hz0 : ∀ c, o < c → μ c = zr := fun c h => hz c (by omega)
  obtain ⟨γ, hγ⟩ : ∃ γ : Ev, γ = (D, cT, o + 1, K, ad, A) := ⟨_, rfl⟩
  rw [← hγ] at hw hd
  have hg : Gr (D, cT, o + 1, K, ad, A) γ o 0 (fun f => .inr (2, dfX2 f)) (fun j => dX2c cT (fun _ => 0) (j + 1)) (fun _ => 0) := by subst hγ; exact ⟨rfl, ⟨rfl, rfl, rfl⟩, fun _ _ => ⟨rfl, rfl⟩, ⟨rfl, hk⟩, fun _ h => absurd h (Nat.not_lt_zero _)⟩
  clear hγ
  refine lv_aload_n hx hb dX2_init_4 rfl (lv_at hl 0 rfl) ?_
  refine lv_bipush (v := (60 : Int32)) hx hb dX2_init_5 (by decide) ?_
  refine r_newc (n := 60) hx hb hts (hg.hK hK) hd hw (hg.hA hA) (by decide) (by decide) (by decide) (by rw [hg.1]; exact hz0 _ (by omega)) ⟨Nat.le_of_ble_eq_true rfl, Nat.le_of_ble_eq_true rfl⟩ dX2_init_7 (fun {q1} {H} hd hw => ?_)
  have hq0 : eA (ext γ q1 (dArr (eT γ 1) 60)) o = ad o := (ext_A (γ := γ) (by have := hg.1; omega)).trans hg.2.2.2.1.1
  have hk0 : o < eN (ext γ q1 (dArr (eT γ 1) 60)) ∧ eK (ext γ q1 (dArr (eT γ 1) 60)) o = fun f => .inr (2, [.null, .null, .null, .int (f 3), .int (f 4), .int (f 5), .int (f 6), .int (f 7)]) := ⟨by show o < eN γ + 1; have := hg.1; omega, (ext_K (γ := γ) (by have := hg.1; omega)).trans hg.2.2.2.1.2⟩
  refine r_putR (γ := ext γ q1 (dArr (eT γ 1) 60)) (fl' := fun f => [.ref q1, .null, .null, .int (f 3), .int (f 4), .int (f 5), .int (f 6), .int (f 7)]) (ty := .array .char) hx hb hts (hg.hK hK) hd hw hown hin inX2 tyX2 tyX2_ok nmX2 rfl hq0 hk0 0 (by decide) wd_87 rfl rfl rfl rfl rfl (fun _ => (Nat.le_of_ble_eq_true rfl)) (fun _ => rfl) dX2_init_9 (fun {H} {locs} hw => ?_)
  replace hg := hg.step (q := q1) (d := dArr (eT γ 1) 60) (by rw [hg.2.1.2.1]; rfl) (d1 := fun f => .inr (2, [.ref q1, .null, .null, .int (f 3), .int (f 4), .int (f 5), .int (f 6), .int (f 7)]))
  replace hd : dis (setK (ext γ q1 (dArr (eT γ 1) 60)) o (fun f => .inr (2, [.ref q1, .null, .null, .int (f 3), .int (f 4), .int (f 5), .int (f 6), .int (f 7)]))) := hd
  generalize (setK (ext γ q1 (dArr (eT γ 1) 60)) o (fun f => .inr (2, [.ref q1, .null, .null, .int (f 3), .int (f 4), .int (f 5), .int (f 6), .int (f 7)]))) = γ at hw hd hg
  clear hq0 hk0
  refine lv_aload_n hx hb dX2_init_12 rfl (lv_at hl 0 rfl) ?_
  refine lv_bipush (v := (20 : Int32)) hx hb dX2_init_13 (by decide) ?_
  refine r_newi (n := 20) hx hb hts (hg.hK hK) hd hw (hg.hA hA) (by decide) (by decide) (by decide) (by rw [hg.1]; exact hz0 _ (by omega)) ⟨Nat.le_of_ble_eq_true rfl, Nat.le_of_ble_eq_true rfl⟩ dX2_init_15 (fun {q2} {H} hd hw => ?_)
  have hq0 : eA (ext γ q2 (dArr (eT γ 0) 20)) o = ad o := (ext_A (γ := γ) (by have := hg.1; omega)).trans hg.2.2.2.1.1
  have hk0 : o < eN (ext γ q2 (dArr (eT γ 0) 20)) ∧ eK (ext γ q2 (dArr (eT γ 0) 20)) o = fun f => .inr (2, [.ref q1, .null, .null, .int (f 3), .int (f 4), .int (f 5), .int (f 6), .int (f 7)]) := ⟨by show o < eN γ + 1; have := hg.1; omega, (ext_K (γ := γ) (by have := hg.1; omega)).trans hg.2.2.2.1.2⟩
  refine r_putR (γ := ext γ q2 (dArr (eT γ 0) 20)) (fl' := fun f => [.ref q1, .ref q2, .null, .int (f 3), .int (f 4), .int (f 5), .int (f 6), .int (f 7)]) (ty := .array .int) hx hb hts (hg.hK hK) hd hw hown hin inX2 tyX2 tyX2_ok nmX2 rfl hq0 hk0 1 (by decide) wd_88 rfl rfl rfl rfl rfl (fun _ => (Nat.le_of_ble_eq_true rfl)) (fun _ => rfl) dX2_init_17 (fun {H} {locs} hw => ?_)
  replace hg := hg.step (q := q2) (d := dArr (eT γ 0) 20) (by rw [hg.2.1.2.1]; rfl) (d1 := fun f => .inr (2, [.ref q1, .ref q2, .null, .int (f 3), .int (f 4), .int (f 5), .int (f 6), .int (f 7)]))
  replace hd : dis (setK (ext γ q2 (dArr (eT γ 0) 20)) o (fun f => .inr (2, [.ref q1, .ref q2, .null, .int (f 3), .int (f 4), .int (f 5), .int (f 6), .int (f 7)]))) := hd
  generalize (setK (ext γ q2 (dArr (eT γ 0) 20)) o (fun f => .inr (2, [.ref q1, .ref q2, .null, .int (f 3), .int (f 4), .int (f 5), .int (f 6), .int (f 7)]))) = γ at hw hd hg
  clear hq0 hk0
  refine lv_aload_n hx hb dX2_init_20 rfl (lv_at hl 0 rfl) ?_
  refine lv_bipush (v := (20 : Int32)) hx hb dX2_init_21 (by decide) ?_
  refine r_newi (n := 20) hx hb hts (hg.hK hK) hd hw (hg.hA hA) (by decide) (by decide) (by decide) (by rw [hg.1]; exact hz0 _ (by omega)) ⟨Nat.le_of_ble_eq_true rfl, Nat.le_of_ble_eq_true rfl⟩ dX2_init_23 (fun {q3} {H} hd hw => ?_)
  have hq0 : eA (ext γ q3 (dArr (eT γ 0) 20)) o = ad o := (ext_A (γ := γ) (by have := hg.1; omega)).trans hg.2.2.2.1.1
  have hk0 : o < eN (ext γ q3 (dArr (eT γ 0) 20)) ∧ eK (ext γ q3 (dArr (eT γ 0) 20)) o = fun f => .inr (2, [.ref q1, .ref q2, .null, .int (f 3), .int (f 4), .int (f 5), .int (f 6), .int (f 7)]) := ⟨by show o < eN γ + 1; have := hg.1; omega, (ext_K (γ := γ) (by have := hg.1; omega)).trans hg.2.2.2.1.2⟩
  refine r_putR (γ := ext γ q3 (dArr (eT γ 0) 20)) (fl' := fun f => [.ref q1, .ref q2, .ref q3, .int (f 3), .int (f 4), .int (f 5), .int (f 6), .int (f 7)]) (ty := .array .int) hx hb hts (hg.hK hK) hd hw hown hin inX2 tyX2 tyX2_ok nmX2 rfl hq0 hk0 2 (by decide) wd_89 rfl rfl rfl rfl rfl (fun _ => (Nat.le_of_ble_eq_true rfl)) (fun _ => rfl) dX2_init_25 (fun {H} {locs} hw => ?_)
  replace hg := hg.step (q := q3) (d := dArr (eT γ 0) 20) (by rw [hg.2.1.2.1]; rfl) (d1 := fun f => .inr (2, [.ref q1, .ref q2, .ref q3, .int (f 3), .int (f 4), .int (f 5), .int (f 6), .int (f 7)]))
  replace hd : dis (setK (ext γ q3 (dArr (eT γ 0) 20)) o (fun f => .inr (2, [.ref q1, .ref q2, .ref q3, .int (f 3), .int (f 4), .int (f 5), .int (f 6), .int (f 7)]))) := hd
  generalize (setK (ext γ q3 (dArr (eT γ 0) 20)) o (fun f => .inr (2, [.ref q1, .ref q2, .ref q3, .int (f 3), .int (f 4), .int (f 5), .int (f 6), .int (f 7)]))) = γ at hw hd hg
  clear hq0 hk0
  have hce := gX2_ce hg rfl
  obtain ⟨hN, ⟨hEG, -, hEA⟩, -⟩ := hg
  replace hd : dis (gX2 D cT o K ad A (fun i => (fun j => if j = 2 then q3 else (fun j => if j = 1 then q2 else (fun j => if j = 0 then q1 else (fun _ => 0) j) j) j) (i - 1))) := dis_congr (by rw [hN]; rfl) (fun c h => (hce c h).2) hEA hd
  replace hw : Wo (gX2 D cT o K ad A (fun i => (fun j => if j = 2 then q3 else (fun j => if j = 1 then q2 else (fun j => if j = 0 then q1 else (fun _ => 0) j) j) j) (i - 1))) μ s _ _ := Wo.env (by rw [hN]; rfl) hce hEG hEA hw
  generalize (fun i => (fun j => if j = 2 then q3 else (fun j => if j = 1 then q2 else (fun j => if j = 0 then q1 else (fun _ => 0) j) j) j) (i - 1)) = qs at hd hw
  exact r_cret (γ' := gX2 D cT o K ad A qs) (A := A) (Γ := fun qs => gX2 D cT o K ad A qs) hx hb hr hlk hK hd hw rfl qs rfl dX2_init_28