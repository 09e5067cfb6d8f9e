/-- what the memory is behind TippingBeam's constructor -/
def MT1 (μ : Mm) : Mm := st 6 (st 6 (st 6 μ 1 B0) 7 B0) 13 B0
def MT (μ : Mm) : Mm := mset (st 6 (st 6 (st 6 (st 6 (MT1 μ) 21 B0) 27 B0) 33 B0) 39 B0) 20 perm
def TbP (γ0 γ : Ev) : Prop := eN γ = 49 ∧ Ks γ0 γ ∧ eA γ 0 = eA γ0 0 ∧ isX4 γ 0
set_option maxHeartbeats 4000000 in
set_option maxRecDepth 20000 in
theorem c_X4_init {l : Launch} {γ : Ev} (hN : eN γ = 1) (hk : eK γ 0 = fun f => .inr (3, dfX4 f)) {μ : Mm} (hz : ∀ c, μ c = zr) : CtJ l yX4_init cX4_init 1 24 720 48 1850 γ (eA γ 0) μ (TbP γ) (MT μ) := by
  refine CtJ.of (own := RX4) (by decide +kernel) rfl rfl (by decide) ?_
  intro p e R s m below meth c hR C hin hA hNW hw ls hl
  subst hR
  have C0 := C
  obtain ⟨hx, hb, hr, hml, hown, hts, hlk, hK, hd, hF, hL⟩ := C
  refine lv_aload_n hx hb dX4_init_0 rfl (lv_at hl 0 rfl) ?_
  refine W.objInit hx hb hown (hts _ wd_18) (hts _ wd_19) (hts _ wd_20) rfl (by rw [hml]; exact hl.1) rfl dX4_init_1 (Nat.le_of_ble_eq_true rfl) (Nat.le_of_ble_eq_true rfl) ?_
  refine W.eq (g2 := F0 m 4 ls []) rfl ?_
  obtain ⟨γa, hγa⟩ : ∃ γa, γa = γ := ⟨_, rfl⟩
  have gN : eN γa = 1 := by rw [hγa]; exact hN
  have gs : Ks γ γa := by rw [hγa]; exact ⟨rfl, rfl, rfl⟩
  have ga : eA γa 0 = eA γ 0 := by rw [hγa]
  have gk : eK γa 0 = fun f => .inr (3, dfX4 f) := by rw [hγa]; exact hk
  rw [← hγa] at hw hd
  clear hγa
  have hz : ∀ c, 1 ≤ c → μ c = zr := fun c _ => hz c
  refine lv_aload_n hx hb dX4_init_4 rfl (lv_at hl 0 rfl) ?_
  refine r_new (ci := 0) hx hb hts (gs.hK hK) hd hw (gs.hA hA) hown inX0 tyX0 tyX0_ok wd_21 wd_22 wd_7 rfl (fun f => dfX0 f) dfX0_ok (by rw [gN]; exact hz 1 (by decide)) ⟨Nat.le_of_ble_eq_true rfl, Nat.le_of_ble_eq_true rfl⟩ dX4_init_5 (fun {q1} {H} hd hw => ?_)
  refine lv_dup hx hb dX4_init_8 rfl ?_
  obtain ⟨γ1, h1⟩ : ∃ γ1, γ1 = ext γa q1 (fun f => .inr (0, dfX0 f)) := ⟨_, rfl⟩
  rw [← h1] at hd hw
  have e1 : eA γ1 1 = q1 := by rw [h1]; exact ext_An gN.symm
  have k1 : eK γ1 1 = fun f => .inr (0, dfX0 f) := by rw [h1]; exact ext_Kn gN.symm
  have n1 : eN γ1 = 2 := by rw [h1]; show eN γa + 1 = _; rw [gN]
  have s1 : Ks γ γ1 := by rw [h1]; exact gs
  have o1 : ∀ c, c < 1 → eK γ1 c = eK γa c ∧ eA γ1 c = eA γa c := fun c hc => by rw [h1]; exact ⟨ext_K (by omega), ext_A (by omega)⟩
  have hM := c_X0_initG (l := l) n1 k1 (fun c hc => hz c (by omega))
  rw [e1] at hM
  refine r_I (rest := [.ref q1, .ref (eA γ 0)]) ⟨hx, hb, hr, hml, hown, hts, hlk, s1.hK hK, hd, hF, hL⟩ (s1.hA hA) hNW hM lkI_X4_9 (fun _ => ⟨rfl, rfl, rfl⟩) hl.1 rfl (Nat.le_of_ble_eq_true rfl) (by decide) ⟨Nat.le_of_ble_eq_true rfl, Nat.le_of_ble_eq_true rfl⟩ hw dX4_init_9 (fun {qs} {H} {locs} hd hw => ?_)
  obtain ⟨γ2, h2⟩ : ∃ γ2, γ2 = gX0 (eG γ1) (eT γ1) 1 (eK γ1) (eA γ1) (AK γ1) qs := ⟨_, rfl⟩
  have o2 : ∀ c, c < 1 → eK γ2 c = eK γa c ∧ eA γ2 c = eA γa c := fun c hc => by
    rw [h2]
    obtain ⟨a1, a2⟩ := gX0_old (D := eG γ1) (cT := eT γ1) (K := eK γ1) (ad := eA γ1) (A := AK γ1) (qs := qs) hc
    exact ⟨a1.trans (o1 c hc).1, a2.trans (o1 c hc).2⟩
  have e2 : eA γ2 1 = q1 := by rw [h2]; exact gX0_A0.trans e1
  have i2 : isX0 γ2 1 := by rw [h2]; exact gX0_is
  have s2 : Ks γ γ2 := by rw [h2]; exact s1
  have n2 : eN γ2 = 7 := by rw [h2]; rfl
  rw [← h2] at hd hw
  refine r_putR (γ := γ2) (q := 0) (fl' := fun f => [.ref q1, .null, .null, .null, .null, .int (f 5), .int (f 6), .int (f 7), .int (f 8)]) (ty := .object "TippingBeam$Beam") hx hb hts (s2.hK hK) hd hw hown hin inX4 tyX4 tyX4_ok nmX4 rfl ((o2 0 (by decide)).2.trans ga) ⟨by omega, (o2 0 (by decide)).1.trans gk⟩ 0 (by decide) wd_109 rfl rfl rfl rfl rfl (fun _ => (Nat.le_of_ble_eq_true rfl)) (fun _ => rfl) dX4_init_12 (fun {H} {locs} hw => ?_)
  replace hd : dis (setK γ2 0 (fun f => .inr (3, [.ref q1, .null, .null, .null, .null, .int (f 5), .int (f 6), .int (f 7), .int (f 8)]))) := hd
  have m0 : ∀ c, c ≠ 0 → eK (setK γ2 0 (fun f => .inr (3, [.ref q1, .null, .null, .null, .null, .int (f 5), .int (f 6), .int (f 7), .int (f 8)]))) c = eK γ2 c := fun c hc => setK_K hc
  replace gk : eK (setK γ2 0 (fun f => .inr (3, [.ref q1, .null, .null, .null, .null, .int (f 5), .int (f 6), .int (f 7), .int (f 8)]))) 0 = fun f => .inr (3, [.ref q1, .null, .null, .null, .null, .int (f 5), .int (f 6), .int (f 7), .int (f 8)]) := setK_n
  replace ga : eA (setK γ2 0 (fun f => .inr (3, [.ref q1, .null, .null, .null, .null, .int (f 5), .int (f 6), .int (f 7), .int (f 8)]))) 0 = eA γ 0 := (o2 0 (by decide)).2.trans ga
  have gs1 := gs
  replace gs : Ks γ (setK γ2 0 (fun f => .inr (3, [.ref q1, .null, .null, .null, .null, .int (f 5), .int (f 6), .int (f 7), .int (f 8)]))) := s2
  have gt : eT (setK γ2 0 (fun f => .inr (3, [.ref q1, .null, .null, .null, .null, .int (f 5), .int (f 6), .int (f 7), .int (f 8)]))) = eT γ2 := rfl
  have m1 : ∀ c, eA (setK γ2 0 (fun f => .inr (3, [.ref q1, .null, .null, .null, .null, .int (f 5), .int (f 6), .int (f 7), .int (f 8)]))) c = eA γ2 c := fun _ => rfl
  have b1 : isX0 (setK γ2 0 (fun f => .inr (3, [.ref q1, .null, .null, .null, .null, .int (f 5), .int (f 6), .int (f 7), .int (f 8)]))) 1 := isX0_mono (γ := γ2) (Nat.le_refl _) rfl (fun c h1 h2 => ⟨m0 c (by omega), rfl⟩) i2
  have hq1 : eA (setK γ2 0 (fun f => .inr (3, [.ref q1, .null, .null, .null, .null, .int (f 5), .int (f 6), .int (f 7), .int (f 8)]))) 1 = q1 := e2
  replace gN : eN (setK γ2 0 (fun f => .inr (3, [.ref q1, .null, .null, .null, .null, .int (f 5), .int (f 6), .int (f 7), .int (f 8)]))) = 7 := n2
  clear o2 o1 e1 k1 n1 s1 e2 s2 n2 hM gs1 gt m1 m0 i2
  clear h1 h2
  generalize hγn : (setK γ2 0 (fun f => .inr (3, [.ref q1, .null, .null, .null, .null, .int (f 5), .int (f 6), .int (f 7), .int (f 8)]))) = γn at hw hd gk ga gs gN b1 hq1
  clear hγn
  obtain ⟨γa, hγa⟩ : ∃ γa, γa = γn := ⟨_, rfl⟩
  rw [← hγa] at hw hd gk ga gs gN b1 hq1
  clear hγa
  replace hz : ∀ c, 7 ≤ c → (st 6 μ 1 B0) c = zr := fun c h => (st_out (by omega)).trans (hz c (by omega))
  refine lv_aload_n hx hb dX4_init_15 rfl (lv_at hl 0 rfl) ?_
  refine r_new (ci := 0) hx hb hts (gs.hK hK) hd hw (gs.hA hA) hown inX0 tyX0 tyX0_ok wd_21 wd_22 wd_7 rfl (fun f => dfX0 f) dfX0_ok (by rw [gN]; exact hz 7 (by decide)) ⟨Nat.le_of_ble_eq_true rfl, Nat.le_of_ble_eq_true rfl⟩ dX4_init_16 (fun {q7} {H} hd hw => ?_)
  refine lv_dup hx hb dX4_init_19 rfl ?_
  obtain ⟨γ1, h1⟩ : ∃ γ1, γ1 = ext γa q7 (fun f => .inr (0, dfX0 f)) := ⟨_, rfl⟩
  rw [← h1] at hd hw
  have e1 : eA γ1 7 = q7 := by rw [h1]; exact ext_An gN.symm
  have k1 : eK γ1 7 = fun f => .inr (0, dfX0 f) := by rw [h1]; exact ext_Kn gN.symm
  have n1 : eN γ1 = 8 := by rw [h1]; show eN γa + 1 = _; rw [gN]
  have s1 : Ks γ γ1 := by rw [h1]; exact gs
  have o1 : ∀ c, c < 7 → eK γ1 c = eK γa c ∧ eA γ1 c = eA γa c := fun c hc => by rw [h1]; exact ⟨ext_K (by omega), ext_A (by omega)⟩
  have hM := c_X0_initG (l := l) n1 k1 (fun c hc => hz c (by omega))
  rw [e1] at hM
  refine r_I (rest := [.ref q7, .ref (eA γ 0)]) ⟨hx, hb, hr, hml, hown, hts, hlk, s1.hK hK, hd, hF, hL⟩ (s1.hA hA) hNW hM lkI_X4_9 (fun _ => ⟨rfl, rfl, rfl⟩) hl.1 rfl (Nat.le_of_ble_eq_true rfl) (by decide) ⟨Nat.le_of_ble_eq_true rfl, Nat.le_of_ble_eq_true rfl⟩ hw dX4_init_20 (fun {qs} {H} {locs} hd hw => ?_)
  obtain ⟨γ2, h2⟩ : ∃ γ2, γ2 = gX0 (eG γ1) (eT γ1) 7 (eK γ1) (eA γ1) (AK γ1) qs := ⟨_, rfl⟩
  have o2 : ∀ c, c < 7 → eK γ2 c = eK γa c ∧ eA γ2 c = eA γa c := fun c hc => by
    rw [h2]
    obtain ⟨a1, a2⟩ := gX0_old (D := eG γ1) (cT := eT γ1) (K := eK γ1) (ad := eA γ1) (A := AK γ1) (qs := qs) hc
    exact ⟨a1.trans (o1 c hc).1, a2.trans (o1 c hc).2⟩
  have e2 : eA γ2 7 = q7 := by rw [h2]; exact gX0_A0.trans e1
  have i2 : isX0 γ2 7 := by rw [h2]; exact gX0_is
  have s2 : Ks γ γ2 := by rw [h2]; exact s1
  have n2 : eN γ2 = 13 := by rw [h2]; rfl
  rw [← h2] at hd hw
  refine r_putR (γ := γ2) (q := 0) (fl' := fun f => [.ref q1, .ref q7, .null, .null, .null, .int (f 5), .int (f 6), .int (f 7), .int (f 8)]) (ty := .object "TippingBeam$Beam") hx hb hts (s2.hK hK) hd hw hown hin inX4 tyX4 tyX4_ok nmX4 rfl ((o2 0 (by decide)).2.trans ga) ⟨by omega, (o2 0 (by decide)).1.trans gk⟩ 1 (by decide) wd_110 rfl rfl rfl rfl rfl (fun _ => (Nat.le_of_ble_eq_true rfl)) (fun _ => rfl) dX4_init_23 (fun {H} {locs} hw => ?_)
  replace hd : dis (setK γ2 0 (fun f => .inr (3, [.ref q1, .ref q7, .null, .null, .null, .int (f 5), .int (f 6), .int (f 7), .int (f 8)]))) := hd
  have m0 : ∀ c, c ≠ 0 → eK (setK γ2 0 (fun f => .inr (3, [.ref q1, .ref q7, .null, .null, .null, .int (f 5), .int (f 6), .int (f 7), .int (f 8)]))) c = eK γ2 c := fun c hc => setK_K hc
  replace gk : eK (setK γ2 0 (fun f => .inr (3, [.ref q1, .ref q7, .null, .null, .null, .int (f 5), .int (f 6), .int (f 7), .int (f 8)]))) 0 = fun f => .inr (3, [.ref q1, .ref q7, .null, .null, .null, .int (f 5), .int (f 6), .int (f 7), .int (f 8)]) := setK_n
  replace ga : eA (setK γ2 0 (fun f => .inr (3, [.ref q1, .ref q7, .null, .null, .null, .int (f 5), .int (f 6), .int (f 7), .int (f 8)]))) 0 = eA γ 0 := (o2 0 (by decide)).2.trans ga
  have gs1 := gs
  replace gs : Ks γ (setK γ2 0 (fun f => .inr (3, [.ref q1, .ref q7, .null, .null, .null, .int (f 5), .int (f 6), .int (f 7), .int (f 8)]))) := s2
  have gt : eT (setK γ2 0 (fun f => .inr (3, [.ref q1, .ref q7, .null, .null, .null, .int (f 5), .int (f 6), .int (f 7), .int (f 8)]))) = eT γ2 := rfl
  have m1 : ∀ c, eA (setK γ2 0 (fun f => .inr (3, [.ref q1, .ref q7, .null, .null, .null, .int (f 5), .int (f 6), .int (f 7), .int (f 8)]))) c = eA γ2 c := fun _ => rfl
  replace b1 : isX0 (setK γ2 0 (fun f => .inr (3, [.ref q1, .ref q7, .null, .null, .null, .int (f 5), .int (f 6), .int (f 7), .int (f 8)]))) 1 := isX0_mono (γ := γa) (by show eN γa ≤ eN γ2; omega) (s2.2.1.trans gs1.2.1.symm) (fun c h1 h2 => ⟨(m0 c (by omega)).trans (o2 c (by omega)).1, (o2 c (by omega)).2⟩) b1
  have b7 : isX0 (setK γ2 0 (fun f => .inr (3, [.ref q1, .ref q7, .null, .null, .null, .int (f 5), .int (f 6), .int (f 7), .int (f 8)]))) 7 := isX0_mono (γ := γ2) (Nat.le_refl _) rfl (fun c h1 h2 => ⟨m0 c (by omega), rfl⟩) i2
  replace hq1 : eA (setK γ2 0 (fun f => .inr (3, [.ref q1, .ref q7, .null, .null, .null, .int (f 5), .int (f 6), .int (f 7), .int (f 8)]))) 1 = q1 := (o2 1 (by decide)).2.trans hq1
  have hq7 : eA (setK γ2 0 (fun f => .inr (3, [.ref q1, .ref q7, .null, .null, .null, .int (f 5), .int (f 6), .int (f 7), .int (f 8)]))) 7 = q7 := e2
  replace gN : eN (setK γ2 0 (fun f => .inr (3, [.ref q1, .ref q7, .null, .null, .null, .int (f 5), .int (f 6), .int (f 7), .int (f 8)]))) = 13 := n2
  clear o2 o1 e1 k1 n1 s1 e2 s2 n2 hM gs1 gt m1 m0 i2
  clear h1 h2
  generalize hγn : (setK γ2 0 (fun f => .inr (3, [.ref q1, .ref q7, .null, .null, .null, .int (f 5), .int (f 6), .int (f 7), .int (f 8)]))) = γn at hw hd gk ga gs gN b1 b7 hq1 hq7
  clear hγn
  obtain ⟨γa, hγa⟩ : ∃ γa, γa = γn := ⟨_, rfl⟩
  rw [← hγa] at hw hd gk ga gs gN b1 b7 hq1 hq7
  clear hγa
  replace hz : ∀ c, 13 ≤ c → (st 6 (st 6 μ 1 B0) 7 B0) c = zr := fun c h => (st_out (by omega)).trans (hz c (by omega))
  refine lv_aload_n hx hb dX4_init_26 rfl (lv_at hl 0 rfl) ?_
  refine r_new (ci := 0) hx hb hts (gs.hK hK) hd hw (gs.hA hA) hown inX0 tyX0 tyX0_ok wd_21 wd_22 wd_7 rfl (fun f => dfX0 f) dfX0_ok (by rw [gN]; exact hz 13 (by decide)) ⟨Nat.le_of_ble_eq_true rfl, Nat.le_of_ble_eq_true rfl⟩ dX4_init_27 (fun {q13} {H} hd hw => ?_)
  refine lv_dup hx hb dX4_init_30 rfl ?_
  obtain ⟨γ1, h1⟩ : ∃ γ1, γ1 = ext γa q13 (fun f => .inr (0, dfX0 f)) := ⟨_, rfl⟩
  rw [← h1] at hd hw
  have e1 : eA γ1 13 = q13 := by rw [h1]; exact ext_An gN.symm
  have k1 : eK γ1 13 = fun f => .inr (0, dfX0 f) := by rw [h1]; exact ext_Kn gN.symm
  have n1 : eN γ1 = 14 := by rw [h1]; show eN γa + 1 = _; rw [gN]
  have s1 : Ks γ γ1 := by rw [h1]; exact gs
  have o1 : ∀ c, c < 13 → eK γ1 c = eK γa c ∧ eA γ1 c = eA γa c := fun c hc => by rw [h1]; exact ⟨ext_K (by omega), ext_A (by omega)⟩
  have hM := c_X0_initG (l := l) n1 k1 (fun c hc => hz c (by omega))
  rw [e1] at hM
  refine r_I (rest := [.ref q13, .ref (eA γ 0)]) ⟨hx, hb, hr, hml, hown, hts, hlk, s1.hK hK, hd, hF, hL⟩ (s1.hA hA) hNW hM lkI_X4_9 (fun _ => ⟨rfl, rfl, rfl⟩) hl.1 rfl (Nat.le_of_ble_eq_true rfl) (by decide) ⟨Nat.le_of_ble_eq_true rfl, Nat.le_of_ble_eq_true rfl⟩ hw dX4_init_31 (fun {qs} {H} {locs} hd hw => ?_)
  obtain ⟨γ2, h2⟩ : ∃ γ2, γ2 = gX0 (eG γ1) (eT γ1) 13 (eK γ1) (eA γ1) (AK γ1) qs := ⟨_, rfl⟩
  have o2 : ∀ c, c < 13 → eK γ2 c = eK γa c ∧ eA γ2 c = eA γa c := fun c hc => by
    rw [h2]
    obtain ⟨a1, a2⟩ := gX0_old (D := eG γ1) (cT := eT γ1) (K := eK γ1) (ad := eA γ1) (A := AK γ1) (qs := qs) hc
    exact ⟨a1.trans (o1 c hc).1, a2.trans (o1 c hc).2⟩
  have e2 : eA γ2 13 = q13 := by rw [h2]; exact gX0_A0.trans e1
  have i2 : isX0 γ2 13 := by rw [h2]; exact gX0_is
  have s2 : Ks γ γ2 := by rw [h2]; exact s1
  have n2 : eN γ2 = 19 := by rw [h2]; rfl
  rw [← h2] at hd hw
  refine r_putR (γ := γ2) (q := 0) (fl' := fun f => [.ref q1, .ref q7, .ref q13, .null, .null, .int (f 5), .int (f 6), .int (f 7), .int (f 8)]) (ty := .object "TippingBeam$Beam") hx hb hts (s2.hK hK) hd hw hown hin inX4 tyX4 tyX4_ok nmX4 rfl ((o2 0 (by decide)).2.trans ga) ⟨by omega, (o2 0 (by decide)).1.trans gk⟩ 2 (by decide) wd_111 rfl rfl rfl rfl rfl (fun _ => (Nat.le_of_ble_eq_true rfl)) (fun _ => rfl) dX4_init_34 (fun {H} {locs} hw => ?_)
  replace hd : dis (setK γ2 0 (fun f => .inr (3, [.ref q1, .ref q7, .ref q13, .null, .null, .int (f 5), .int (f 6), .int (f 7), .int (f 8)]))) := hd
  have m0 : ∀ c, c ≠ 0 → eK (setK γ2 0 (fun f => .inr (3, [.ref q1, .ref q7, .ref q13, .null, .null, .int (f 5), .int (f 6), .int (f 7), .int (f 8)]))) c = eK γ2 c := fun c hc => setK_K hc
  replace gk : eK (setK γ2 0 (fun f => .inr (3, [.ref q1, .ref q7, .ref q13, .null, .null, .int (f 5), .int (f 6), .int (f 7), .int (f 8)]))) 0 = fun f => .inr (3, [.ref q1, .ref q7, .ref q13, .null, .null, .int (f 5), .int (f 6), .int (f 7), .int (f 8)]) := setK_n
  replace ga : eA (setK γ2 0 (fun f => .inr (3, [.ref q1, .ref q7, .ref q13, .null, .null, .int (f 5), .int (f 6), .int (f 7), .int (f 8)]))) 0 = eA γ 0 := (o2 0 (by decide)).2.trans ga
  have gs1 := gs
  replace gs : Ks γ (setK γ2 0 (fun f => .inr (3, [.ref q1, .ref q7, .ref q13, .null, .null, .int (f 5), .int (f 6), .int (f 7), .int (f 8)]))) := s2
  have gt : eT (setK γ2 0 (fun f => .inr (3, [.ref q1, .ref q7, .ref q13, .null, .null, .int (f 5), .int (f 6), .int (f 7), .int (f 8)]))) = eT γ2 := rfl
  have m1 : ∀ c, eA (setK γ2 0 (fun f => .inr (3, [.ref q1, .ref q7, .ref q13, .null, .null, .int (f 5), .int (f 6), .int (f 7), .int (f 8)]))) c = eA γ2 c := fun _ => rfl
  replace b1 : isX0 (setK γ2 0 (fun f => .inr (3, [.ref q1, .ref q7, .ref q13, .null, .null, .int (f 5), .int (f 6), .int (f 7), .int (f 8)]))) 1 := isX0_mono (γ := γa) (by show eN γa ≤ eN γ2; omega) (s2.2.1.trans gs1.2.1.symm) (fun c h1 h2 => ⟨(m0 c (by omega)).trans (o2 c (by omega)).1, (o2 c (by omega)).2⟩) b1
  replace b7 : isX0 (setK γ2 0 (fun f => .inr (3, [.ref q1, .ref q7, .ref q13, .null, .null, .int (f 5), .int (f 6), .int (f 7), .int (f 8)]))) 7 := isX0_mono (γ := γa) (by show eN γa ≤ eN γ2; omega) (s2.2.1.trans gs1.2.1.symm) (fun c h1 h2 => ⟨(m0 c (by omega)).trans (o2 c (by omega)).1, (o2 c (by omega)).2⟩) b7
  have b13 : isX0 (setK γ2 0 (fun f => .inr (3, [.ref q1, .ref q7, .ref q13, .null, .null, .int (f 5), .int (f 6), .int (f 7), .int (f 8)]))) 13 := isX0_mono (γ := γ2) (Nat.le_refl _) rfl (fun c h1 h2 => ⟨m0 c (by omega), rfl⟩) i2
  replace hq1 : eA (setK γ2 0 (fun f => .inr (3, [.ref q1, .ref q7, .ref q13, .null, .null, .int (f 5), .int (f 6), .int (f 7), .int (f 8)]))) 1 = q1 := (o2 1 (by decide)).2.trans hq1
  replace hq7 : eA (setK γ2 0 (fun f => .inr (3, [.ref q1, .ref q7, .ref q13, .null, .null, .int (f 5), .int (f 6), .int (f 7), .int (f 8)]))) 7 = q7 := (o2 7 (by decide)).2.trans hq7
  have hq13 : eA (setK γ2 0 (fun f => .inr (3, [.ref q1, .ref q7, .ref q13, .null, .null, .int (f 5), .int (f 6), .int (f 7), .int (f 8)]))) 13 = q13 := e2
  replace gN : eN (setK γ2 0 (fun f => .inr (3, [.ref q1, .ref q7, .ref q13, .null, .null, .int (f 5), .int (f 6), .int (f 7), .int (f 8)]))) = 19 := n2
  clear o2 o1 e1 k1 n1 s1 e2 s2 n2 hM gs1 gt m1 m0 i2
  clear h1 h2
  generalize hγn : (setK γ2 0 (fun f => .inr (3, [.ref q1, .ref q7, .ref q13, .null, .null, .int (f 5), .int (f 6), .int (f 7), .int (f 8)]))) = γn at hw hd gk ga gs gN b1 b7 b13 hq1 hq7 hq13
  clear hγn
  obtain ⟨γa, hγa⟩ : ∃ γa, γa = γn := ⟨_, rfl⟩
  rw [← hγa] at hw hd gk ga gs gN b1 b7 b13 hq1 hq7 hq13
  clear hγa
  replace hz : ∀ c, 19 ≤ c → (st 6 (st 6 (st 6 μ 1 B0) 7 B0) 13 B0) c = zr := fun c h => (st_out (by omega)).trans (hz c (by omega))
  refine lv_aload_n hx hb dX4_init_37 rfl (lv_at hl 0 rfl) ?_
  refine r_new (ci := 1) hx hb hts (gs.hK hK) hd hw (gs.hA hA) hown inX1 tyX1 tyX1_ok wd_65 wd_66 wd_8 rfl (fun f => dfX1 f) dfX1_ok (by rw [gN]; exact hz 19 (by decide)) ⟨Nat.le_of_ble_eq_true rfl, Nat.le_of_ble_eq_true rfl⟩ dX4_init_38 (fun {q19} {H} hd hw => ?_)
  refine lv_dup hx hb dX4_init_41 rfl ?_
  obtain ⟨γ1, h1⟩ : ∃ γ1, γ1 = ext γa q19 (fun f => .inr (1, dfX1 f)) := ⟨_, rfl⟩
  rw [← h1] at hd hw
  have e1 : eA γ1 19 = q19 := by rw [h1]; exact ext_An gN.symm
  have k1 : eK γ1 19 = fun f => .inr (1, dfX1 f) := by rw [h1]; exact ext_Kn gN.symm
  have n1 : eN γ1 = 20 := by rw [h1]; show eN γa + 1 = _; rw [gN]
  have s1 : Ks γ γ1 := by rw [h1]; exact gs
  have o1 : ∀ c, c < 19 → eK γ1 c = eK γa c ∧ eA γ1 c = eA γa c := fun c hc => by rw [h1]; exact ⟨ext_K (by omega), ext_A (by omega)⟩
  have hM := c_X1_init (l := l) n1 k1 (fun c hc => hz c (by omega))
  rw [e1] at hM
  refine r_J (rest := [.ref q19, .ref (eA γ 0)]) ⟨hx, hb, hr, hml, hown, hts, hlk, s1.hK hK, hd, hF, hL⟩ (s1.hA hA) hNW hM lkI_X4_24 (fun _ h => h.2.1) hl.1 rfl (Nat.le_of_ble_eq_true rfl) (by decide) ⟨Nat.le_of_ble_eq_true rfl, Nat.le_of_ble_eq_true rfl⟩ hw dX4_init_42 (fun {γ2} {H} {locs} hP2 hd hw => ?_)
  obtain ⟨n2, t2, oo2, a2, i19, i21, i27, i33, i39⟩ := hP2
  have s2 : Ks γ γ2 := ⟨t2.1.trans s1.1, t2.2.1.trans s1.2.1, t2.2.2.trans s1.2.2⟩
  have o2 : ∀ c, c < 19 → eK γ2 c = eK γa c ∧ eA γ2 c = eA γa c := fun c hc => ⟨(oo2 c hc).1.trans (o1 c hc).1, (oo2 c hc).2.trans (o1 c hc).2⟩
  have e2 : eA γ2 19 = q19 := a2.trans e1
  replace hw : Wo γ2 (MT μ) s H locs := hw
  refine r_putR (γ := γ2) (q := 0) (fl' := fun f => [.ref q1, .ref q7, .ref q13, .ref q19, .null, .int (f 5), .int (f 6), .int (f 7), .int (f 8)]) (ty := .object "TippingBeam$History") hx hb hts (s2.hK hK) hd hw hown hin inX4 tyX4 tyX4_ok nmX4 rfl ((o2 0 (by decide)).2.trans ga) ⟨by omega, (o2 0 (by decide)).1.trans gk⟩ 3 (by decide) wd_112 rfl rfl rfl rfl rfl (fun _ => (Nat.le_of_ble_eq_true rfl)) (fun _ => rfl) dX4_init_45 (fun {H} {locs} hw => ?_)
  replace hd : dis (setK γ2 0 (fun f => .inr (3, [.ref q1, .ref q7, .ref q13, .ref q19, .null, .int (f 5), .int (f 6), .int (f 7), .int (f 8)]))) := hd
  have m0 : ∀ c, c ≠ 0 → eK (setK γ2 0 (fun f => .inr (3, [.ref q1, .ref q7, .ref q13, .ref q19, .null, .int (f 5), .int (f 6), .int (f 7), .int (f 8)]))) c = eK γ2 c := fun c hc => setK_K hc
  replace gk : eK (setK γ2 0 (fun f => .inr (3, [.ref q1, .ref q7, .ref q13, .ref q19, .null, .int (f 5), .int (f 6), .int (f 7), .int (f 8)]))) 0 = fun f => .inr (3, [.ref q1, .ref q7, .ref q13, .ref q19, .null, .int (f 5), .int (f 6), .int (f 7), .int (f 8)]) := setK_n
  replace ga : eA (setK γ2 0 (fun f => .inr (3, [.ref q1, .ref q7, .ref q13, .ref q19, .null, .int (f 5), .int (f 6), .int (f 7), .int (f 8)]))) 0 = eA γ 0 := (o2 0 (by decide)).2.trans ga
  have gs1 := gs
  replace gs : Ks γ (setK γ2 0 (fun f => .inr (3, [.ref q1, .ref q7, .ref q13, .ref q19, .null, .int (f 5), .int (f 6), .int (f 7), .int (f 8)]))) := s2
  have gt : eT (setK γ2 0 (fun f => .inr (3, [.ref q1, .ref q7, .ref q13, .ref q19, .null, .int (f 5), .int (f 6), .int (f 7), .int (f 8)]))) = eT γ2 := rfl
  have m1 : ∀ c, eA (setK γ2 0 (fun f => .inr (3, [.ref q1, .ref q7, .ref q13, .ref q19, .null, .int (f 5), .int (f 6), .int (f 7), .int (f 8)]))) c = eA γ2 c := fun _ => rfl
  replace b1 : isX0 (setK γ2 0 (fun f => .inr (3, [.ref q1, .ref q7, .ref q13, .ref q19, .null, .int (f 5), .int (f 6), .int (f 7), .int (f 8)]))) 1 := isX0_mono (γ := γa) (by show eN γa ≤ eN γ2; omega) (s2.2.1.trans gs1.2.1.symm) (fun c h1 h2 => ⟨(m0 c (by omega)).trans (o2 c (by omega)).1, (o2 c (by omega)).2⟩) b1
  replace b7 : isX0 (setK γ2 0 (fun f => .inr (3, [.ref q1, .ref q7, .ref q13, .ref q19, .null, .int (f 5), .int (f 6), .int (f 7), .int (f 8)]))) 7 := isX0_mono (γ := γa) (by show eN γa ≤ eN γ2; omega) (s2.2.1.trans gs1.2.1.symm) (fun c h1 h2 => ⟨(m0 c (by omega)).trans (o2 c (by omega)).1, (o2 c (by omega)).2⟩) b7
  replace b13 : isX0 (setK γ2 0 (fun f => .inr (3, [.ref q1, .ref q7, .ref q13, .ref q19, .null, .int (f 5), .int (f 6), .int (f 7), .int (f 8)]))) 13 := isX0_mono (γ := γa) (by show eN γa ≤ eN γ2; omega) (s2.2.1.trans gs1.2.1.symm) (fun c h1 h2 => ⟨(m0 c (by omega)).trans (o2 c (by omega)).1, (o2 c (by omega)).2⟩) b13
  have b19 : isX1 (setK γ2 0 (fun f => .inr (3, [.ref q1, .ref q7, .ref q13, .ref q19, .null, .int (f 5), .int (f 6), .int (f 7), .int (f 8)]))) 19 := isX1_mono (γ := γ2) (Nat.le_refl _) rfl (fun c h1 h2 => ⟨m0 c (by omega), rfl⟩) i19
  have b21 : isX0 (setK γ2 0 (fun f => .inr (3, [.ref q1, .ref q7, .ref q13, .ref q19, .null, .int (f 5), .int (f 6), .int (f 7), .int (f 8)]))) 21 := isX0_mono (γ := γ2) (Nat.le_refl _) rfl (fun c h1 h2 => ⟨m0 c (by omega), rfl⟩) i21
  have b27 : isX0 (setK γ2 0 (fun f => .inr (3, [.ref q1, .ref q7, .ref q13, .ref q19, .null, .int (f 5), .int (f 6), .int (f 7), .int (f 8)]))) 27 := isX0_mono (γ := γ2) (Nat.le_refl _) rfl (fun c h1 h2 => ⟨m0 c (by omega), rfl⟩) i27
  have b33 : isX0 (setK γ2 0 (fun f => .inr (3, [.ref q1, .ref q7, .ref q13, .ref q19, .null, .int (f 5), .int (f 6), .int (f 7), .int (f 8)]))) 33 := isX0_mono (γ := γ2) (Nat.le_refl _) rfl (fun c h1 h2 => ⟨m0 c (by omega), rfl⟩) i33
  have b39 : isX0 (setK γ2 0 (fun f => .inr (3, [.ref q1, .ref q7, .ref q13, .ref q19, .null, .int (f 5), .int (f 6), .int (f 7), .int (f 8)]))) 39 := isX0_mono (γ := γ2) (Nat.le_refl _) rfl (fun c h1 h2 => ⟨m0 c (by omega), rfl⟩) i39
  replace hq1 : eA (setK γ2 0 (fun f => .inr (3, [.ref q1, .ref q7, .ref q13, .ref q19, .null, .int (f 5), .int (f 6), .int (f 7), .int (f 8)]))) 1 = q1 := (o2 1 (by decide)).2.trans hq1
  replace hq7 : eA (setK γ2 0 (fun f => .inr (3, [.ref q1, .ref q7, .ref q13, .ref q19, .null, .int (f 5), .int (f 6), .int (f 7), .int (f 8)]))) 7 = q7 := (o2 7 (by decide)).2.trans hq7
  replace hq13 : eA (setK γ2 0 (fun f => .inr (3, [.ref q1, .ref q7, .ref q13, .ref q19, .null, .int (f 5), .int (f 6), .int (f 7), .int (f 8)]))) 13 = q13 := (o2 13 (by decide)).2.trans hq13
  have hq19 : eA (setK γ2 0 (fun f => .inr (3, [.ref q1, .ref q7, .ref q13, .ref q19, .null, .int (f 5), .int (f 6), .int (f 7), .int (f 8)]))) 19 = q19 := e2
  replace gN : eN (setK γ2 0 (fun f => .inr (3, [.ref q1, .ref q7, .ref q13, .ref q19, .null, .int (f 5), .int (f 6), .int (f 7), .int (f 8)]))) = 45 := n2
  clear o2 o1 e1 k1 n1 s1 e2 s2 n2 hM gs1 gt m1 m0 i19 i21 i27 i33 i39 a2 oo2 t2
  clear h1
  generalize hγn : (setK γ2 0 (fun f => .inr (3, [.ref q1, .ref q7, .ref q13, .ref q19, .null, .int (f 5), .int (f 6), .int (f 7), .int (f 8)]))) = γn at hw hd gk ga gs gN b1 b7 b13 b19 b21 b27 b33 b39 hq1 hq7 hq13 hq19
  clear hγn
  obtain ⟨γa, hγa⟩ : ∃ γa, γa = γn := ⟨_, rfl⟩
  rw [← hγa] at hw hd gk ga gs gN b1 b7 b13 b19 b21 b27 b33 b39 hq1 hq7 hq13 hq19
  clear hγa
  replace hz : ∀ c, 45 ≤ c → MT μ c = zr := fun c h => by
    unfold MT
    show mset _ 20 perm c = zr
    unfold mset
    rw [if_neg (by omega), st_out (by omega), st_out (by omega), st_out (by omega), st_out (by omega)]
    exact hz c (by omega)
  refine lv_aload_n hx hb dX4_init_48 rfl (lv_at hl 0 rfl) ?_
  refine r_new (ci := 2) hx hb hts (gs.hK hK) hd hw (gs.hA hA) hown inX2 tyX2 tyX2_ok wd_81 wd_82 wd_9 rfl (fun f => dfX2 f) dfX2_ok (by rw [gN]; exact hz 45 (by decide)) ⟨Nat.le_of_ble_eq_true rfl, Nat.le_of_ble_eq_true rfl⟩ dX4_init_49 (fun {q45} {H} hd hw => ?_)
  refine lv_dup hx hb dX4_init_52 rfl ?_
  obtain ⟨γ1, h1⟩ : ∃ γ1, γ1 = ext γa q45 (fun f => .inr (2, dfX2 f)) := ⟨_, rfl⟩
  rw [← h1] at hd hw
  have e1 : eA γ1 45 = q45 := by rw [h1]; exact ext_An gN.symm
  have k1 : eK γ1 45 = fun f => .inr (2, dfX2 f) := by rw [h1]; exact ext_Kn gN.symm
  have n1 : eN γ1 = 46 := by rw [h1]; show eN γa + 1 = _; rw [gN]
  have s1 : Ks γ γ1 := by rw [h1]; exact gs
  have o1 : ∀ c, c < 45 → eK γ1 c = eK γa c ∧ eA γ1 c = eA γa c := fun c hc => by rw [h1]; exact ⟨ext_K (by omega), ext_A (by omega)⟩
  have hM := c_X2_initG (l := l) n1 k1 (fun c hc => hz c (by omega))
  rw [e1] at hM
  refine r_IN (rest := [.ref q45, .ref (eA γ 0)]) ⟨hx, hb, hr, hml, hown, hts, hlk, s1.hK hK, hd, hF, hL⟩ (s1.hA hA) hNW hM wd_84 wd_9 wd_85 (fun _ => ⟨rfl, rfl, rfl⟩) hl.1 rfl (Nat.le_of_ble_eq_true rfl) (by decide) ⟨Nat.le_of_ble_eq_true rfl, Nat.le_of_ble_eq_true rfl⟩ hw dX4_init_53 (fun {qs} {H} {locs} hd hw => ?_)
  obtain ⟨γ2, h2⟩ : ∃ γ2, γ2 = gX2 (eG γ1) (eT γ1) 45 (eK γ1) (eA γ1) (AK γ1) qs := ⟨_, rfl⟩
  have o2 : ∀ c, c < 45 → eK γ2 c = eK γa c ∧ eA γ2 c = eA γa c := fun c hc => by
    rw [h2]
    obtain ⟨a1, a2⟩ := gX2_old (D := eG γ1) (cT := eT γ1) (K := eK γ1) (ad := eA γ1) (A := AK γ1) (qs := qs) hc
    exact ⟨a1.trans (o1 c hc).1, a2.trans (o1 c hc).2⟩
  have e2 : eA γ2 45 = q45 := by rw [h2]; exact gX2_A0.trans e1
  have i2 : isX2 γ2 45 := by rw [h2]; exact gX2_is
  have s2 : Ks γ γ2 := by rw [h2]; exact s1
  have n2 : eN γ2 = 49 := by rw [h2]; rfl
  rw [← h2] at hd hw
  refine r_putR (γ := γ2) (q := 0) (fl' := fun f => [.ref q1, .ref q7, .ref q13, .ref q19, .ref q45, .int (f 5), .int (f 6), .int (f 7), .int (f 8)]) (ty := .object "TippingBeam$MoveText") hx hb hts (s2.hK hK) hd hw hown hin inX4 tyX4 tyX4_ok nmX4 rfl ((o2 0 (by decide)).2.trans ga) ⟨by omega, (o2 0 (by decide)).1.trans gk⟩ 4 (by decide) wd_113 rfl rfl rfl rfl rfl (fun _ => (Nat.le_of_ble_eq_true rfl)) (fun _ => rfl) dX4_init_56 (fun {H} {locs} hw => ?_)
  replace hd : dis (setK γ2 0 (fun f => .inr (3, [.ref q1, .ref q7, .ref q13, .ref q19, .ref q45, .int (f 5), .int (f 6), .int (f 7), .int (f 8)]))) := hd
  have m0 : ∀ c, c ≠ 0 → eK (setK γ2 0 (fun f => .inr (3, [.ref q1, .ref q7, .ref q13, .ref q19, .ref q45, .int (f 5), .int (f 6), .int (f 7), .int (f 8)]))) c = eK γ2 c := fun c hc => setK_K hc
  replace gk : eK (setK γ2 0 (fun f => .inr (3, [.ref q1, .ref q7, .ref q13, .ref q19, .ref q45, .int (f 5), .int (f 6), .int (f 7), .int (f 8)]))) 0 = fun f => .inr (3, [.ref q1, .ref q7, .ref q13, .ref q19, .ref q45, .int (f 5), .int (f 6), .int (f 7), .int (f 8)]) := setK_n
  replace ga : eA (setK γ2 0 (fun f => .inr (3, [.ref q1, .ref q7, .ref q13, .ref q19, .ref q45, .int (f 5), .int (f 6), .int (f 7), .int (f 8)]))) 0 = eA γ 0 := (o2 0 (by decide)).2.trans ga
  have gs1 := gs
  replace gs : Ks γ (setK γ2 0 (fun f => .inr (3, [.ref q1, .ref q7, .ref q13, .ref q19, .ref q45, .int (f 5), .int (f 6), .int (f 7), .int (f 8)]))) := s2
  have gt : eT (setK γ2 0 (fun f => .inr (3, [.ref q1, .ref q7, .ref q13, .ref q19, .ref q45, .int (f 5), .int (f 6), .int (f 7), .int (f 8)]))) = eT γ2 := rfl
  have m1 : ∀ c, eA (setK γ2 0 (fun f => .inr (3, [.ref q1, .ref q7, .ref q13, .ref q19, .ref q45, .int (f 5), .int (f 6), .int (f 7), .int (f 8)]))) c = eA γ2 c := fun _ => rfl
  replace b1 : isX0 (setK γ2 0 (fun f => .inr (3, [.ref q1, .ref q7, .ref q13, .ref q19, .ref q45, .int (f 5), .int (f 6), .int (f 7), .int (f 8)]))) 1 := isX0_mono (γ := γa) (by show eN γa ≤ eN γ2; omega) (s2.2.1.trans gs1.2.1.symm) (fun c h1 h2 => ⟨(m0 c (by omega)).trans (o2 c (by omega)).1, (o2 c (by omega)).2⟩) b1
  replace b7 : isX0 (setK γ2 0 (fun f => .inr (3, [.ref q1, .ref q7, .ref q13, .ref q19, .ref q45, .int (f 5), .int (f 6), .int (f 7), .int (f 8)]))) 7 := isX0_mono (γ := γa) (by show eN γa ≤ eN γ2; omega) (s2.2.1.trans gs1.2.1.symm) (fun c h1 h2 => ⟨(m0 c (by omega)).trans (o2 c (by omega)).1, (o2 c (by omega)).2⟩) b7
  replace b13 : isX0 (setK γ2 0 (fun f => .inr (3, [.ref q1, .ref q7, .ref q13, .ref q19, .ref q45, .int (f 5), .int (f 6), .int (f 7), .int (f 8)]))) 13 := isX0_mono (γ := γa) (by show eN γa ≤ eN γ2; omega) (s2.2.1.trans gs1.2.1.symm) (fun c h1 h2 => ⟨(m0 c (by omega)).trans (o2 c (by omega)).1, (o2 c (by omega)).2⟩) b13
  replace b19 : isX1 (setK γ2 0 (fun f => .inr (3, [.ref q1, .ref q7, .ref q13, .ref q19, .ref q45, .int (f 5), .int (f 6), .int (f 7), .int (f 8)]))) 19 := isX1_mono (γ := γa) (by show eN γa ≤ eN γ2; omega) (s2.2.1.trans gs1.2.1.symm) (fun c h1 h2 => ⟨(m0 c (by omega)).trans (o2 c (by omega)).1, (o2 c (by omega)).2⟩) b19
  replace b21 : isX0 (setK γ2 0 (fun f => .inr (3, [.ref q1, .ref q7, .ref q13, .ref q19, .ref q45, .int (f 5), .int (f 6), .int (f 7), .int (f 8)]))) 21 := isX0_mono (γ := γa) (by show eN γa ≤ eN γ2; omega) (s2.2.1.trans gs1.2.1.symm) (fun c h1 h2 => ⟨(m0 c (by omega)).trans (o2 c (by omega)).1, (o2 c (by omega)).2⟩) b21
  replace b27 : isX0 (setK γ2 0 (fun f => .inr (3, [.ref q1, .ref q7, .ref q13, .ref q19, .ref q45, .int (f 5), .int (f 6), .int (f 7), .int (f 8)]))) 27 := isX0_mono (γ := γa) (by show eN γa ≤ eN γ2; omega) (s2.2.1.trans gs1.2.1.symm) (fun c h1 h2 => ⟨(m0 c (by omega)).trans (o2 c (by omega)).1, (o2 c (by omega)).2⟩) b27
  replace b33 : isX0 (setK γ2 0 (fun f => .inr (3, [.ref q1, .ref q7, .ref q13, .ref q19, .ref q45, .int (f 5), .int (f 6), .int (f 7), .int (f 8)]))) 33 := isX0_mono (γ := γa) (by show eN γa ≤ eN γ2; omega) (s2.2.1.trans gs1.2.1.symm) (fun c h1 h2 => ⟨(m0 c (by omega)).trans (o2 c (by omega)).1, (o2 c (by omega)).2⟩) b33
  replace b39 : isX0 (setK γ2 0 (fun f => .inr (3, [.ref q1, .ref q7, .ref q13, .ref q19, .ref q45, .int (f 5), .int (f 6), .int (f 7), .int (f 8)]))) 39 := isX0_mono (γ := γa) (by show eN γa ≤ eN γ2; omega) (s2.2.1.trans gs1.2.1.symm) (fun c h1 h2 => ⟨(m0 c (by omega)).trans (o2 c (by omega)).1, (o2 c (by omega)).2⟩) b39
  have b45 : isX2 (setK γ2 0 (fun f => .inr (3, [.ref q1, .ref q7, .ref q13, .ref q19, .ref q45, .int (f 5), .int (f 6), .int (f 7), .int (f 8)]))) 45 := isX2_mono (γ := γ2) (Nat.le_refl _) rfl (fun c h1 h2 => ⟨m0 c (by omega), rfl⟩) i2
  replace hq1 : eA (setK γ2 0 (fun f => .inr (3, [.ref q1, .ref q7, .ref q13, .ref q19, .ref q45, .int (f 5), .int (f 6), .int (f 7), .int (f 8)]))) 1 = q1 := (o2 1 (by decide)).2.trans hq1
  replace hq7 : eA (setK γ2 0 (fun f => .inr (3, [.ref q1, .ref q7, .ref q13, .ref q19, .ref q45, .int (f 5), .int (f 6), .int (f 7), .int (f 8)]))) 7 = q7 := (o2 7 (by decide)).2.trans hq7
  replace hq13 : eA (setK γ2 0 (fun f => .inr (3, [.ref q1, .ref q7, .ref q13, .ref q19, .ref q45, .int (f 5), .int (f 6), .int (f 7), .int (f 8)]))) 13 = q13 := (o2 13 (by decide)).2.trans hq13
  replace hq19 : eA (setK γ2 0 (fun f => .inr (3, [.ref q1, .ref q7, .ref q13, .ref q19, .ref q45, .int (f 5), .int (f 6), .int (f 7), .int (f 8)]))) 19 = q19 := (o2 19 (by decide)).2.trans hq19
  have hq45 : eA (setK γ2 0 (fun f => .inr (3, [.ref q1, .ref q7, .ref q13, .ref q19, .ref q45, .int (f 5), .int (f 6), .int (f 7), .int (f 8)]))) 45 = q45 := e2
  replace gN : eN (setK γ2 0 (fun f => .inr (3, [.ref q1, .ref q7, .ref q13, .ref q19, .ref q45, .int (f 5), .int (f 6), .int (f 7), .int (f 8)]))) = 49 := n2
  clear o2 o1 e1 k1 n1 s1 e2 s2 n2 hM gs1 gt m1 m0 i2
  clear h1 h2
  generalize hγn : (setK γ2 0 (fun f => .inr (3, [.ref q1, .ref q7, .ref q13, .ref q19, .ref q45, .int (f 5), .int (f 6), .int (f 7), .int (f 8)]))) = γn at hw hd gk ga gs gN b1 b7 b13 b19 b21 b27 b33 b39 b45 hq1 hq7 hq13 hq19 hq45
  clear hγn
  obtain ⟨γa, hγa⟩ : ∃ γa, γa = γn := ⟨_, rfl⟩
  rw [← hγa] at hw hd gk ga gs gN b1 b7 b13 b19 b21 b27 b33 b39 b45 hq1 hq7 hq13 hq19 hq45
  clear hγa
  refine r_jret hx hb hr hlk (gs.hK hK) hd hw gs.2.2 ⟨gN, gs, ga, ⟨⟨by omega, ?_⟩, b1, b7, b13, b19, b21, b27, b33, b39, b45⟩⟩ dX4_init_59
  rw [gk]
  unfold fX4
  rw [show (0 + 1 : Nat) = 1 from rfl, show (0 + 7 : Nat) = 7 from rfl, show (0 + 13 : Nat) = 13 from rfl, show (0 + 19 : Nat) = 19 from rfl, show (0 + 45 : Nat) = 45 from rfl, hq1, hq7, hq13, hq19, hq45]
