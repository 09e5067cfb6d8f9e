/-! perform -/
theorem Inv.txt {n : Nat} {T : Nat → Mm} {Z : Mm} (h : Inv n T Z) {mc a b c mz p e : Int32} {ns ps g : Nat → Int32} : Inv n (tset T 9 (q_MM (T 9) mc a b c ns ps)) (ZZ Z mz p e g) := by
  obtain ⟨h1, ⟨k, pm, k1, k2, k3, k4, k5, k6⟩, h3, h4, ⟨t, t1, t2, t3, t4⟩⟩ := h
  refine ⟨h1, ⟨k, pm, k1, k2, k3, k4, k5, fun i hi => ?_⟩, h3, h4, ⟨t, t1, t2, t3, t4⟩⟩
  have := (k4 i (by omega)).1
  rw [ts_ne (by omega)]
  exact k6 i hi
theorem Inv.t2 {n : Nat} {T : Nat → Mm} {Z B : Mm} (h : Inv n T Z) : Inv n (tset T 2 B) Z := by
  obtain ⟨h1, ⟨k, pm, k1, k2, k3, k4, k5, k6⟩, h3, h4, h5⟩ := h
  refine ⟨h1, ⟨k, pm, k1, k2, k3, k4, k5, fun i hi => ?_⟩, h3, h4, h5⟩
  rw [ts_ne (by omega)]
  exact k6 i hi
theorem Inv.z4 {n : Nat} {T : Nat → Mm} {Z : Mm} (h : Inv n T Z) {f : Nat → Int32} : Inv n T (mset Z 4 f) := by
  obtain ⟨h1, ⟨k, pm, k1, k2, k3, k4, k5, k6⟩, h3, h4, h5⟩ := h
  exact ⟨h1, ⟨k, pm, k1, k2, k3, k4, k5, k6⟩, h3, h4, h5⟩
theorem Inv.row {n : Nat} {T : Nat → Mm} {Z : Mm} (h : Inv n T Z) {f : Nat → Int32} (hf : ∀ q, q < 243 → f q = Z 1 q) : Inv n T (mset Z 1 f) := by
  have := h.new (Nat.le_refl n) (B := T 1) (z := f) (h.1.cz hf)
  rw [tset_self rfl] at this
  exact this
theorem pft_eq (T : Nat → Mm) (k : Nat) (x : Int32) : pft T k x = some (tset T 0 (mset (T 0) 0 (upd (T 0 0) k x))) := rfl
theorem rec_form {k : Nat} {Z : Mm} (hk : k ≤ 4) (h : Z 0 2 = nI k) : ∃ Z', s_X5_record Z = some Z' ∧ Z' 0 2 = nI (min k 3 + 1) ∧ (∀ q, q ≠ 2 → Z' 0 q = Z 0 q) ∧ (∀ q, Z' 2 q = if 243 * min k 3 ≤ q ∧ q < 243 * min k 3 + 243 then Z 1 (q - 243 * min k 3) else if k = 4 ∧ q < 729 then Z 2 (q + 243) else Z 2 q) ∧ ∀ c, c ≠ 0 → c ≠ 2 → Z' c = Z c := by
  unfold s_X5_record
  by_cases c : k = 4
  · subst c
    obtain ⟨f, e, hf⟩ := rec10 729 0 1000 (Z := Z) rfl (by omega)
    obtain ⟨Z', e2, z0, z2, zc⟩ := rec51 (k := 3) (by omega) 243 0 1000 (Z := mset (mset Z 2 f) 0 (upd (Z 0) 2 (Z 0 2 - 1))) rfl (by omega) (by
      show Z 0 2 - 1 = nI 3
      rw [h]
      rfl)
    rw [h, if_pos (show nI 4 = 4 from rfl)]
    rw [h] at e e2 z0 z2 zc
    refine ⟨Z', e.trans e2, ?_, fun q hq => ?_, fun q => ?_, fun c h0 h2 => ?_⟩
    · rw [z0, up_eq]
      rfl
    · rw [z0, up_ne hq, ms_eq, up_ne hq]
    · rw [z2]
      show (if 243 * 3 + 0 ≤ q ∧ q < 243 * 3 + 243 then Z 1 (q - 243 * 3) else f q) = _
      rw [hf]
      by_cases c1 : 729 ≤ q ∧ q < 972
      · rw [if_pos (show 243 * 3 + 0 ≤ q ∧ q < 243 * 3 + 243 by omega), if_pos (show 243 * min 4 3 ≤ q ∧ q < 243 * min 4 3 + 243 by omega)]
        rfl
      · rw [if_neg (show ¬ (243 * 3 + 0 ≤ q ∧ q < 243 * 3 + 243) by omega), if_neg (show ¬ (243 * min 4 3 ≤ q ∧ q < 243 * min 4 3 + 243) by omega)]
        by_cases c2 : q < 729
        · rw [if_pos (show 0 ≤ q ∧ q < 729 by omega), if_pos (show 4 = 4 ∧ q < 729 from ⟨rfl, c2⟩)]
        · rw [if_neg (show ¬ (0 ≤ q ∧ q < 729) by omega), if_neg (show ¬ (4 = 4 ∧ q < 729) from fun h => c2 h.2)]
    · rw [zc c h0 h2, ms_ne h0, ms_ne h2]
  · obtain ⟨Z', e2, z0, z2, zc⟩ := rec51 (k := k) (by omega) 243 0 1000 (Z := Z) rfl (by omega) h
    have em : min k 3 = k := by omega
    rw [if_neg (show ¬ Z 0 2 = 4 from by
      rw [h]
      intro e
      exact c ((nI_eq (a := k) (b := 4) (by omega) (by omega)).mp e)), em]
    refine ⟨Z', e2, ?_, fun q hq => ?_, fun q => ?_, zc⟩
    · rw [z0, up_eq]
    · rw [z0, up_ne hq]
    · rw [z2, Nat.add_zero]
      by_cases c1 : 243 * k ≤ q ∧ q < 243 * k + 243
      · rw [if_pos c1, if_pos c1]
      · rw [if_neg c1, if_neg c1, if_neg (fun h => c h.1)]
theorem perf162 {k : Nat} (hk : k < 4) : ∀ (j x fuel : Nat) {Z : Mm}, x + j = 243 → j < fuel → Z 0 2 = nI (k + 1) → ∃ f, s_X5_perform_L162 fuel Z (nI x) = some (Z 0 14, mset Z 2 f) ∧ ∀ q, f q = if 243 * k + x ≤ q ∧ q < 243 * k + 243 then Z 4 (q - 243 * k) else Z 2 q := by
  intro j
  induction j with
  | zero =>
    intro x fuel Z hx hf hz
    obtain ⟨f, rfl⟩ : ∃ f, fuel = f + 1 := ⟨fuel - 1, by omega⟩
    have hx : x = 243 := by omega
    subst hx
    rw [s_X5_perform_L162, if_pos (show (243 : Int32) ≤ nI 243 from by decide)]
    refine ⟨Z 2, ?_, fun q => ?_⟩
    · rw [show mset Z 2 (Z 2) = Z from mset_self rfl]
    · rw [if_neg (by omega)]
  | succ j ih =>
    intro x fuel Z hx hf hz
    obtain ⟨f, rfl⟩ : ∃ f, fuel = f + 1 := ⟨fuel - 1, by omega⟩
    rw [s_X5_perform_L162, if_neg (show ¬ (243 : Int32) ≤ nI x from nI_ge (b := 243) (by omega) (by decide)), rd_n (by omega) (by omega), bd_some, hz, nI_pred, pk243, wr_n (by omega) (by omega), bd_some, jn_eq, nI_1]
    obtain ⟨g, e, h⟩ := ih (x + 1) f (Z := mset Z 2 (upd (Z 2) (243 * k + x) (Z 4 x))) (by omega) (by omega) hz
    rw [mset_mset] at e
    refine ⟨g, e, fun q => ?_⟩
    rw [h q, ms_eq, ms_ne (by omega)]
    by_cases c1 : q = 243 * k + x
    · rw [if_neg (by omega), if_pos (by omega), c1, up_eq]
      congr 1
      omega
    · by_cases c2 : 243 * k + (x + 1) ≤ q ∧ q < 243 * k + 243
      · rw [if_pos c2, if_pos (by omega)]
      · rw [if_neg c2, if_neg (by omega), up_ne c1]
theorem perf95 : ∀ (j x fuel : Nat) {Z : Mm}, x + j = 243 → j < fuel → ∃ f, s_X5_perform_L95 fuel Z (nI x) = some (-10004, mset Z 1 f) ∧ ∀ q, f q = if x ≤ q ∧ q < 243 then Z 4 q else Z 1 q := by
  intro j
  induction j with
  | zero =>
    intro x fuel Z hx hf
    obtain ⟨f, rfl⟩ : ∃ f, fuel = f + 1 := ⟨fuel - 1, by omega⟩
    have hx : x = 243 := by omega
    subst hx
    rw [s_X5_perform_L95, if_pos (show (243 : Int32) ≤ nI 243 from by decide)]
    refine ⟨Z 1, ?_, fun q => ?_⟩
    · rw [show mset Z 1 (Z 1) = Z from mset_self rfl]
    · rw [if_neg (by omega)]
  | succ j ih =>
    intro x fuel Z hx hf
    obtain ⟨f, rfl⟩ : ∃ f, fuel = f + 1 := ⟨fuel - 1, by omega⟩
    rw [s_X5_perform_L95, if_neg (show ¬ (243 : Int32) ≤ nI x from nI_ge (b := 243) (by omega) (by decide)), rd_n (by omega) (by omega), bd_some, wr_n (by omega) (by omega), bd_some, jn_eq, nI_1]
    obtain ⟨g, e, h⟩ := ih (x + 1) f (Z := mset Z 1 (upd (Z 1) x (Z 4 x))) (by omega) (by omega)
    rw [mset_mset] at e
    refine ⟨g, e, fun q => ?_⟩
    rw [h q, ms_eq, ms_ne (by omega)]
    by_cases c1 : q = x
    · rw [if_neg (by omega), if_pos (by omega), c1, up_eq]
    · by_cases c2 : x + 1 ≤ q ∧ q < 243
      · rw [if_pos c2, if_pos (by omega)]
      · rw [if_neg c2, if_neg (by omega), up_ne c1]
theorem perf20 : ∀ (j x fuel : Nat) {Z : Mm}, x + j = 243 → j < fuel → ∃ f, s_X5_perform_L20 fuel Z (nI x) = s_X5_perform_L47 1000 (mset Z 4 f) 0 ∧ ∀ q, f q = if x ≤ q ∧ q < 243 then Z 1 q else Z 4 q := by
  intro j
  induction j with
  | zero =>
    intro x fuel Z hx hf
    obtain ⟨f, rfl⟩ : ∃ f, fuel = f + 1 := ⟨fuel - 1, by omega⟩
    have hx : x = 243 := by omega
    subst hx
    rw [s_X5_perform_L20, if_pos (show (243 : Int32) ≤ nI 243 from by decide)]
    refine ⟨Z 4, ?_, fun q => ?_⟩
    · rw [show mset Z 4 (Z 4) = Z from mset_self rfl]
    · rw [if_neg (by omega)]
  | succ j ih =>
    intro x fuel Z hx hf
    obtain ⟨f, rfl⟩ : ∃ f, fuel = f + 1 := ⟨fuel - 1, by omega⟩
    rw [s_X5_perform_L20, if_neg (show ¬ (243 : Int32) ≤ nI x from nI_ge (b := 243) (by omega) (by decide)), rd_n (by omega) (by omega), bd_some, wr_n (by omega) (by omega), bd_some, jn_eq, nI_1]
    obtain ⟨g, e, h⟩ := ih (x + 1) f (Z := mset Z 4 (upd (Z 4) x (Z 1 x))) (by omega) (by omega)
    rw [mset_mset] at e
    refine ⟨g, e, fun q => ?_⟩
    rw [h q, ms_eq, ms_ne (by omega)]
    by_cases c1 : q = x
    · rw [if_neg (by omega), if_pos (by omega), c1, up_eq]
    · by_cases c2 : x + 1 ≤ q ∧ q < 243
      · rw [if_pos c2, if_pos (by omega)]
      · rw [if_neg c2, if_neg (by omega), up_ne c1]
theorem mv_at {M : Mm} {x : Nat} (hx : x < 20) : s_X2_numberOf M (nI x) = some (M 2 x) ∧ s_X2_placeOf M (nI x) = some (M 3 x) := by
  unfold s_X2_numberOf s_X2_placeOf
  rw [if_neg (show ¬ nI x < 0 from nI_pos (by omega)), if_neg (show ¬ (20 : Int32) ≤ nI x from nI_ge (b := 20) hx (by omega)), if_neg (show ¬ nI x < 0 from nI_pos (by omega)), if_neg (show ¬ (20 : Int32) ≤ nI x from nI_ge (b := 20) hx (by omega)), rd_n hx (by omega), bd_some, rd_n hx (by omega), bd_some]
  exact ⟨rfl, rfl⟩
/-- the trial and the reference's row, behind x moves; the old row lies in 4 -/
def q_PJ (n x : Nat) (T : Nat → Mm) (Z : Mm) : Prop := Inv n T (mset Z 1 (Z 4)) ∧ ∃ a mc, RC (T 2) a ∧ RZ (Z 1) a ∧ q_ok a ∧ RG (T 2) (Z 1) mc ∧ mc ≤ 20 * n + x
theorem perf_end {n m : Nat} {T : Nat → Mm} {Z : Mm} (hm : m ≤ 20) (h : q_PJ n m T Z) (h14 : Z 0 14 = nI m) : ∃ T' Z', (Option.bind (s_X1_remember T) fun N7 => Option.bind (s_X0_copyFrom (N7 1) (N7 2)) fun N8 => some (nI m, tset N7 1 N8)) = some (nI m, T') ∧ (Option.bind (s_X5_record Z) fun N6 => s_X5_perform_L162 1000 N6 (0 : Int32)) = some (nI m, Z') ∧ Inv (n + 1) T' Z' := by
  obtain ⟨hI, a, mc, R, S, ok, G, hmc⟩ := h
  obtain ⟨T1, Z1, e1, e2, I1, F1⟩ := hI.rec
  obtain ⟨k, pm, k1, k2, k3, -⟩ := hI.2.1
  have kz : Z 0 2 = nI k := k3
  obtain ⟨Zo, f1, f2, f3, f4, f5⟩ := rec_form (Z := mset Z 1 (Z 4)) k1 k3
  rw [e2] at f1
  have f1 := Option.some.inj f1
  subst f1
  obtain ⟨Zn, g1, g2, g3, g4, g5⟩ := rec_form (Z := Z) k1 kz
  obtain ⟨f, h1, hf⟩ := perf162 (k := min k 3) (by omega) 243 0 1000 (Z := Zn) rfl (by omega) g2
  obtain ⟨B', c1, cp⟩ := C_copy (T1 1) (T1 2)
  have t2 := F1.1 2 (by omega)
  have hb : RB (n + 1) B' (Z 1) := RB.cc ⟨a, mc, by rw [t2]; exact R, S, ok, by omega, by rw [t2]; exact G⟩ cp
  rw [e1, bd_some, c1, bd_some, g1, bd_some, show s_X5_perform_L162 1000 Zn 0 = _ from h1, g3 14 (by omega), h14]
  have key : mset Zn 2 f = mset Z1 1 (Z 1) := by
    funext c
    by_cases c0 : c = 0
    · subst c0
      funext q
      rw [ms_ne (by omega), ms_ne (by omega)]
      by_cases c2 : q = 2
      · rw [c2, g2, f2]
      · rw [g3 q c2, f3 q c2]
        rfl
    · by_cases c1 : c = 1
      · subst c1
        rw [ms_ne (by omega), ms_eq, g5 1 (by omega) (by omega)]
      · by_cases c2 : c = 2
        · subst c2
          funext q
          rw [ms_eq, ms_ne (by omega), hf q, f4 q, g4 q, Nat.add_zero, g5 4 (by omega) (by omega)]
          by_cases d : 243 * min k 3 ≤ q ∧ q < 243 * min k 3 + 243
          · rw [if_pos d, if_pos d]
            rfl
          · rw [if_neg d, if_neg d, if_neg d]
            rfl
        · rw [ms_ne c2, ms_ne c1, g5 c c0 c2, f5 c c0 c2, ms_ne c1]
  rw [key]
  exact ⟨_, _, rfl, rfl, I1.new (Nat.le_succ n) hb⟩
theorem perf_loop {n m : Nat} (hn : n < 512) (hm : m ≤ 20) : ∀ (j x fc fz : Nat) {T : Nat → Mm} {Z : Mm}, x + j = m → j < fc → j < fz → q_PJ n x T Z → Z 0 14 = nI m → q_AG m (T 9 2) (T 9 3) (Z 9) →
    ∃ r T' Z', s_X4_perform_L39 fc T (nI m) (nI x) = some (r, T') ∧ s_X5_perform_L47 fz Z (nI x) = some (r, Z') ∧ Inv (n + 1) T' Z' := by
  intro j
  induction j with
  | zero =>
    intro x fc fz T Z hx h1 h2 hP h14 ag
    obtain ⟨f, rfl⟩ : ∃ f, fc = f + 1 := ⟨fc - 1, by omega⟩
    obtain ⟨g, rfl⟩ : ∃ g, fz = g + 1 := ⟨fz - 1, by omega⟩
    have hx : x = m := by omega
    subst hx
    obtain ⟨T', Z', e1, e2, I⟩ := perf_end hm hP h14
    rw [s_X4_perform_L39, s_X5_perform_L47, if_pos (Int32.le_refl _), h14, if_pos (Int32.le_refl _), e1, e2]
    exact ⟨_, _, _, rfl, rfl, I⟩
  | succ j ih =>
    intro x fc fz T Z hx h1 h2 hP h14 ag
    obtain ⟨f, rfl⟩ : ∃ f, fc = f + 1 := ⟨fc - 1, by omega⟩
    obtain ⟨g, rfl⟩ : ∃ g, fz = g + 1 := ⟨fz - 1, by omega⟩
    obtain ⟨hI, a, mc, R, S, ok, G, hmc⟩ := hP
    obtain ⟨a1, a2, ⟨k, k1, k7, ek⟩, hp⟩ := ag x (by omega)
    obtain ⟨m1, m2⟩ := mv_at (M := T 9) (show x < 20 by omega)
    have ei : (2 : Int32) * nI x = nI (2 * x) := pk_mul 2 x
    have gx : ¬ nI m ≤ nI x := nI_ge (by omega) (by omega)
    rw [s_X4_perform_L39, s_X5_perform_L47, if_neg gx, h14, if_neg gx, m1, m2, ei, nI_1 (2 * x), rd_n (k := 2 * x) (by omega) (by omega), rd_n (k := 2 * x + 1) (by omega) (by omega), ← a1, ← a2, ek]
    simp only [bd_some]
    rw [C_why R ok k1 k7 hp, bd_some, Z_why S ok k1 k7 hp, bd_some]
    rcases q_why_r (a := a) (n := k) (p := T 9 3 x) with hw | hw
    · obtain ⟨B', z', e3, e4, R', S', ok', G'⟩ := B_move R S ok G (by omega) k1 k7 hp (why_hind hw)
      rw [if_pos hw, if_pos (by rw [hw]; exact Int32.le_refl _), e3, bd_some, jn_eq, e4, bd_some, jn_eq, nI_1]
      refine ih (x + 1) f g (T := tset T 2 B') (Z := mset Z 1 z') (by omega) (by omega) (by omega) ⟨?_, _, mc + 1, R', S', ok', G', by omega⟩ h14 ag
      show Inv n (tset T 2 B') (mset (mset Z 1 z') 1 (Z 4))
      rw [mset_mset]
      exact hI.t2
    · rw [if_neg (fun e => hw (by rw [e]; exact Int32.le_refl _)), if_neg hw, pft_eq, bd_some, pft_eq, bd_some, pft_eq, bd_some, pf_eq, bd_some, pf_eq, bd_some]
      generalize q_why a k (T 9 3 x) = w
      obtain ⟨f', e5, hf⟩ := perf95 243 0 1000 (Z := mset (mset Z 0 (upd (Z 0) 8 (nI x))) 0 (upd (mset Z 0 (upd (Z 0) 8 (nI x)) 0) 9 w)) rfl (by omega)
      rw [show s_X5_perform_L95 1000 _ 0 = _ from e5]
      obtain ⟨i1, ⟨kk, pm, l1, l2, l3, l4, l5, l6⟩, i3, i4, i5⟩ := inv_skip hI
      refine ⟨_, _, _, rfl, rfl, i1.cz (fun q hq => ?_), ⟨kk, pm, l1, l2, l3, l4, l5, fun i hi => ?_⟩, i3, Or.inr ⟨rfl, rfl, rfl⟩, i5⟩
      · show f' q = Z 4 q
        rw [hf, if_pos ⟨Nat.zero_le _, hq⟩]
        rfl
      · rw [ts_ne (by omega), ts_ne (by omega), ts_ne (by omega)]
        exact l6 i hi
theorem rd_C (M : Mm) : s_X2_read M = s_X2_read_L14 1000 (q_MM M (nI 0) (M 0 5) (M 0 6) 0 (M 2) (M 3)) 0 (nI 0) := by
  have e := MM_4 (M := M) (m := M 0 4) (a := M 0 5) (b := M 0 6) (c := M 0 7) (ns := M 2) (ps := M 3) (x := 0)
  rw [← MM_in] at e
  unfold s_X2_read
  rw [e, bd_some, MM_7, bd_some]
  rfl
theorem rd_Z (Z : Mm) : s_X5_readText Z = s_X5_readText_L19 1000 (ZZ Z (nI 0) (nI 0) (-10005) (Z 9)) 1 := by
  have e := ZZ_14 (Z := Z) (m := Z 0 14) (p := Z 0 15) (e := Z 0 16) (g := Z 9) (x := 0)
  rw [← ZZ_in] at e
  unfold s_X5_readText
  rw [e, bd_some, ZZ_15, bd_some, ZZ_16, bd_some]
  rfl
theorem inv_perform {n : Nat} {T : Nat → Mm} {Z : Mm} (h : Inv n T Z) (hn : n < 512) : ∃ (r : Int32) (T' : Nat → Mm) (Z' : Mm), s_X4_perform T = some (r, T') ∧ s_X5_perform Z = some (r, Z') ∧ Inv (n + 1) T' Z' := by
  obtain ⟨t, t60, tM, tZ, tc⟩ := h.2.2.2.2
  obtain ⟨r, v, M', Z', e1, e2, mc, a, b, c, ns, ps, mz, p, e, g, rfl, rfl, alt⟩ := read_main (M := T 9) (Z := Z) tM tZ t60 tc 61 0 0 1000 1000 (a := T 9 0 5) (b := T 9 0 6) (ns := T 9 2) (ps := T 9 3) (g := Z 9) (by omega) (by omega) (by omega) (by omega) (by omega) (fun i hi => absurd hi (by omega))
  unfold s_X4_perform s_X5_perform
  rw [rd_C, e1, bd_some, jn_eq, rd_Z, e2, bd_some, jn_eq]
  rcases alt with ⟨f, f60, rfl, rfl⟩ | ⟨rfl, rfl, k, k20, rfl, rfl, ag⟩
  · dsimp only
    rw [if_neg (show ¬ nI f < 0 from nI_pos (by omega)), if_neg (nI_ne5 (by omega))]
    exact ⟨_, _, _, rfl, rfl, (inv_skip h).txt⟩
  · dsimp only
    rw [if_pos (show (-1 : Int32) < 0 from by decide), if_pos rfl]
    obtain ⟨B', e3, cp⟩ := C_copy (T 2) (T 1)
    rw [show s_X0_copyFrom (tset T 9 (q_MM (T 9) (nI k) a b c ns ps) 2) (tset T 9 (q_MM (T 9) (nI k) a b c ns ps) 1) = some B' from e3, bd_some, show s_X2_moves (tset (tset T 9 (q_MM (T 9) (nI k) a b c ns ps)) 2 B' 9) = some (nI k) from rfl, bd_some]
    obtain ⟨f, e4, hf⟩ := perf20 243 0 1000 (Z := ZZ Z (nI k) p e g) rfl (by omega)
    rw [show s_X5_perform_L20 1000 (ZZ Z (nI k) p e g) 0 = _ from e4]
    have hb := h.1.cc cp
    obtain ⟨q, mc, R, S, ok, hmc, G⟩ := hb
    have hf1 : ∀ i, i < 243 → f i = Z 1 i := fun i hi => by
      rw [hf, if_pos ⟨Nat.zero_le _, hi⟩]
      rfl
    have hI : Inv n (tset (tset T 9 (q_MM (T 9) (nI k) a b c ns ps)) 2 B') (mset (mset (ZZ Z (nI k) p e g) 4 f) 1 f) := by
      have h1 := (h.txt (mc := nI k) (a := a) (b := b) (c := c) (mz := nI k) (p := p) (e := e) (ns := ns) (ps := ps) (g := g)).t2 (B := B')
      exact (h1.z4 (f := f)).row hf1
    exact perf_loop hn k20 k 0 1000 1000 (T := tset (tset T 9 (q_MM (T 9) (nI k) a b c ns ps)) 2 B') (Z := mset (ZZ Z (nI k) p e g) 4 f) (by omega) (by omega) (by omega) ⟨hI, q, mc, R, S, ok, G, by omega⟩ rfl ag
