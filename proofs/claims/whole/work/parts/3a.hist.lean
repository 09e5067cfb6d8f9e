/-! history: remember against record -/
theorem pk243 {k x : Nat} : nI k * 243 + nI x = nI (243 * k + x) := by
  rw [show (243 : Int32) = nI 243 from rfl, pk_mul, nI_add, Nat.mul_comm]
theorem rec51 {k : Nat} (hk : k < 4) : ∀ (j x fuel : Nat) {Z : Mm}, x + j = 243 → j < fuel → Z 0 2 = nI k →
    ∃ Z', s_X5_record_L51 fuel Z (nI x) = some Z' ∧ Z' 0 = upd (Z 0) 2 (nI (k + 1)) ∧ (∀ q, Z' 2 q = if 243 * k + x ≤ q ∧ q < 243 * k + 243 then Z 1 (q - 243 * k) else Z 2 q) ∧ ∀ c, c ≠ 0 → c ≠ 2 → Z' c = Z c := by
  intro j
  induction j with
  | zero =>
    intro x fuel Z hx hf hz
    obtain ⟨f, rfl⟩ : ∃ f, fuel = f + 1 := ⟨fuel - 1, by omega⟩
    have hx : x = 243 := by omega
    subst hx
    rw [s_X5_record_L51, if_pos (show (243 : Int32) ≤ nI 243 from by decide), pf_eq, bd_some, hz, nI_1]
    refine ⟨_, rfl, ms_eq _ _ _, fun q => ?_, fun c h0 _ => ms_ne h0⟩
    rw [ms_ne (by omega), if_neg (by omega)]
  | succ j ih =>
    intro x fuel Z hx hf hz
    obtain ⟨f, rfl⟩ : ∃ f, fuel = f + 1 := ⟨fuel - 1, by omega⟩
    rw [s_X5_record_L51, if_neg (show ¬ (243 : Int32) ≤ nI x from nI_ge (b := 243) (by omega) (by decide)), rd_n (by omega) (by omega), bd_some, hz, pk243, wr_n (by omega) (by omega), bd_some, jn_eq, nI_1]
    obtain ⟨Z', e, h0, h2, hc⟩ := ih (x + 1) f (Z := mset Z 2 (upd (Z 2) (243 * k + x) (Z 1 x))) (by omega) (by omega) hz
    refine ⟨Z', e, h0, fun q => ?_, fun c a b => (hc c a b).trans (ms_ne b)⟩
    rw [h2 q, ms_ne (by omega), ms_eq]
    by_cases c1 : q = 243 * k + x
    · rw [if_neg (by omega), if_pos (by omega), c1, up_eq]
      congr 1
      omega
    · rw [up_ne c1]
      by_cases c2 : 243 * k + (x + 1) ≤ q ∧ q < 243 * k + 243
      · rw [if_pos c2, if_pos (by omega)]
      · rw [if_neg c2, if_neg (by omega)]
theorem rec10 : ∀ (j x fuel : Nat) {Z : Mm}, x + j = 729 → j < fuel →
    ∃ f, s_X5_record_L10 fuel Z (nI x) = s_X5_record_L51 1000 (mset (mset Z 2 f) 0 (upd (Z 0) 2 (Z 0 2 - 1))) 0 ∧ ∀ q, f q = if x ≤ q ∧ q < 729 then Z 2 (q + 243) else Z 2 q := by
  intro j
  induction j with
  | zero =>
    intro x fuel Z hx hf
    obtain ⟨f, rfl⟩ : ∃ f, fuel = f + 1 := ⟨fuel - 1, by omega⟩
    have hx : x = 729 := by omega
    subst hx
    rw [s_X5_record_L10, if_pos (show (729 : Int32) ≤ nI 729 from by decide), pf_eq, bd_some]
    refine ⟨Z 2, ?_, fun q => ?_⟩
    · rw [show mset Z 2 (Z 2) = Z from mset_self rfl]
    · rw [if_neg (by omega)]
  | succ j ih =>
    intro x fuel Z hx hf
    obtain ⟨f, rfl⟩ : ∃ f, fuel = f + 1 := ⟨fuel - 1, by omega⟩
    rw [s_X5_record_L10, if_neg (show ¬ (729 : Int32) ≤ nI x from nI_ge (b := 729) (by omega) (by decide)), show (243 : Int32) = nI 243 from rfl, nI_add, rd_n (by omega) (by omega), bd_some, wr_n (by omega) (by omega), bd_some, jn_eq, nI_1]
    obtain ⟨g, e, h⟩ := ih (x + 1) f (Z := mset Z 2 (upd (Z 2) x (Z 2 (x + 243)))) (by omega) (by omega)
    refine ⟨g, e.trans ?_, fun q => ?_⟩
    · rw [show mset (mset Z 2 (upd (Z 2) x (Z 2 (x + 243)))) 2 g = mset Z 2 g from ?_]
      · rfl
      · funext c
        unfold mset
        split <;> rfl
    · rw [h q, ms_eq]
      by_cases c1 : q = x
      · rw [if_neg (by omega), if_pos (by omega), c1, up_eq]
      · by_cases c2 : x + 1 ≤ q ∧ q < 729
        · rw [if_pos c2, if_pos (by omega), up_ne (by omega)]
        · rw [if_neg c2, if_neg (by omega), up_ne c1]
/-- the history with k states -/
def HK (n k : Nat) (T : Nat → Mm) (Z : Mm) (pm : Nat → Nat) : Prop := T 4 0 1 = nI k ∧ Z 0 2 = nI k ∧ (∀ i, i < 4 → pm i < 4 ∧ T 4 1 i = nI (pm i)) ∧ (∀ i j, i < 4 → j < 4 → pm i = pm j → i = j) ∧ ∀ i, i < k → RB n (T (5 + pm i)) (fun q => Z 2 (243 * i + q))
theorem hpk_n {T : Nat → Mm} {pm : Nat → Nat} (h : ∀ i, i < 4 → pm i < 4 ∧ T 4 1 i = nI (pm i)) {i : Nat} (hi : i < 4) : hpk T i = some (pm i) := by
  have := (h i hi).1
  unfold hpk
  rw [(h i hi).2, nI_clamp (by omega), if_pos this]
theorem ts_eq (T : Nat → Mm) (j : Nat) (B : Mm) : tset T j B j = B := if_pos rfl
theorem ts_ne {T : Nat → Mm} {i j : Nat} {B : Mm} (h : i ≠ j) : tset T j B i = T i := if_neg h
/-- what recording leaves alone -/
def HF (T T' : Nat → Mm) (Z Z' : Mm) : Prop := (∀ j, (j < 4 ∨ 9 ≤ j) → T' j = T j) ∧ (∀ c, c ≠ 0 → c ≠ 2 → Z' c = Z c) ∧ ∀ q, q ≠ 2 → Z' 0 q = Z 0 q
theorem hist_push {n k : Nat} {T : Nat → Mm} {Z : Mm} {pm : Nat → Nat} (hk : k < 4) (h : HK n k T Z pm) (hb : RB n (T 1) (Z 1)) :
    ∃ T' Z', (Option.bind (hpk T (T 4 0 1).toNatClampNeg) fun j => Option.bind (s_X0_copyFrom (T (5 + j)) (T 1)) fun B => some (hsz (tset T (5 + j) B) (T 4 0 1 + 1))) = some T' ∧ s_X5_record_L51 1000 Z 0 = some Z' ∧ HK n (k + 1) T' Z' pm ∧ HF T T' Z Z' := by
  obtain ⟨h1, h2, h3, h4, h5⟩ := h
  obtain ⟨B, e1, cp⟩ := C_copy (T (5 + pm k)) (T 1)
  obtain ⟨Z', e2, z0, z2, zc⟩ := rec51 hk 243 0 1000 rfl (by omega) h2
  rw [h1, nI_clamp (by omega), hpk_n h3 hk, bd_some, e1, bd_some]
  have p4 := (h3 k hk).1
  refine ⟨_, Z', rfl, e2, ⟨?_, ?_, fun i hi => ?_, h4, fun i hi => ?_⟩, fun j hj => ?_, zc, fun q hq => ?_⟩
  · unfold hsz
    rw [ts_eq, ms_eq, up_eq, nI_1]
  · rw [z0, up_eq]
  · unfold hsz
    rw [ts_eq, ms_ne (by omega), ts_ne (by omega)]
    exact h3 i hi
  · have q4 := (h3 i (by omega)).1
    unfold hsz
    rw [ts_ne (by omega)]
    by_cases c : i = k
    · subst c
      rw [ts_eq]
      refine (hb.cc cp).cz (fun q hq => ?_)
      rw [z2, if_pos (by omega)]
      congr 1
      omega
    · rw [ts_ne (show 5 + pm i ≠ 5 + pm k from fun e => c (h4 i k (by omega) hk (by omega)))]
      refine (h5 i (by omega)).cz (fun q hq => ?_)
      rw [z2, if_neg (by omega)]
  · unfold hsz
    rw [ts_ne (by omega), ts_ne (by omega)]
  · rw [z0, up_ne hq]
theorem hist_drop {n : Nat} {T : Nat → Mm} {Z : Mm} {pm : Nat → Nat} (h : HK n 4 T Z pm) :
    ∃ T' Z', s_X1_dropOldest T = some T' ∧ s_X5_record_L10 1000 Z 0 = s_X5_record_L51 1000 Z' 0 ∧ HK n 3 T' Z' (fun i => pm ((i + 1) % 4)) ∧ HF T T' Z Z' := by
  obtain ⟨h1, h2, h3, h4, h5⟩ := h
  obtain ⟨f, e2, zf⟩ := rec10 729 0 1000 (Z := Z) rfl (by omega)
  unfold s_X1_dropOldest
  rw [hpk_n h3 (by omega), bd_some, hpk_n h3 (by omega), bd_some, hpk_n h3 (by omega), bd_some, hpk_n h3 (by omega), bd_some]
  refine ⟨_, _, rfl, e2, ⟨?_, ?_, fun i hi => ?_, fun i j hi hj e => ?_, fun i hi => ?_⟩, fun j hj => ?_, fun c h0 h2 => ?_, fun q hq => ?_⟩
  · unfold hsz
    rw [ts_eq, ms_eq, up_eq]
    rfl
  · rw [ms_eq, up_eq, h2]
    rfl
  · refine ⟨(h3 ((i + 1) % 4) (by omega)).1, ?_⟩
    unfold hsz
    rw [ts_eq, ms_ne (by omega), ts_eq, ms_eq]
    refine Eq.trans ?_ (h3 ((i + 1) % 4) (by omega)).2
    have : i = 0 ∨ i = 1 ∨ i = 2 ∨ i = 3 := by omega
    rcases this with rfl | rfl | rfl | rfl <;> rfl
  · have := h4 _ _ (show (i + 1) % 4 < 4 by omega) (show (j + 1) % 4 < 4 by omega) e
    omega
  · have e1 : (i + 1) % 4 = i + 1 := by omega
    have q4 := (h3 (i + 1) (by omega)).1
    dsimp only
    rw [e1]
    unfold hsz
    rw [ts_ne (by omega), ts_ne (by omega)]
    refine (h5 (i + 1) (by omega)).cz (fun q hq => ?_)
    rw [ms_ne (by omega), ms_eq, zf, if_pos (by omega)]
    exact congrArg (Z 2) (by omega)
  · unfold hsz
    rw [ts_ne (by omega), ts_ne (by omega)]
  · rw [ms_ne h0, ms_ne h2]
  · rw [ms_eq, up_ne hq]
theorem hist {n : Nat} {T : Nat → Mm} {Z : Mm} (h : HI n T Z) (hb : RB n (T 1) (Z 1)) :
    ∃ T' Z', s_X1_remember T = some T' ∧ s_X5_record Z = some Z' ∧ HI n T' Z' ∧ HF T T' Z Z' := by
  obtain ⟨k, pm, hk, hh⟩ := h
  have h1 := hh.1
  have h2 := hh.2.1
  unfold s_X1_remember s_X5_record
  by_cases c : k = 4
  · subst c
    obtain ⟨T1, Z1, e1, e2, H1, F1⟩ := hist_drop (pm := pm) hh
    obtain ⟨T2, Z2, e3, e4, H2, F2⟩ := hist_push (by omega) H1 (by rw [F1.1 1 (by omega), F1.2.1 1 (by omega) (by omega)]; exact hb)
    rw [h1, if_neg (show ¬ nI 4 < 4 from by decide), e1, bd_some, h2, if_pos (show nI 4 = 4 from rfl), e2, e4]
    rw [if_neg (by rw [H1.1]; decide), if_neg (by rw [H1.1]; decide), e3]
    exact ⟨T2, Z2, rfl, rfl, ⟨4, _, by omega, H2⟩, fun j hj => (F2.1 j hj).trans (F1.1 j hj), fun c a b => (F2.2.1 c a b).trans (F1.2.1 c a b), fun q hq => (F2.2.2 q hq).trans (F1.2.2 q hq)⟩
  · obtain ⟨T2, Z2, e3, e4, H2, F2⟩ := hist_push (show k < 4 by omega) (pm := pm) hh hb
    have g1 : ¬ (4 : Int32) ≤ nI k := nI_ge (b := 4) (by omega) (by omega)
    rw [if_pos (show T 4 0 1 < 4 from by rw [h1]; exact nI_lt (b := 4) (by omega) (by omega)), bd_some, if_neg (show ¬ T 4 0 1 < 0 from by
      rw [h1]
      exact Int32.not_lt.mpr (nI_le (a := 0) (by omega) (by omega))), if_neg (by rw [h1]; exact g1), e3]
    rw [if_neg (show ¬ Z 0 2 = 4 from by
      rw [h2]
      intro e
      exact g1 (by rw [e]; exact Int32.le_refl _)), e4]
    exact ⟨T2, Z2, rfl, rfl, ⟨k + 1, pm, by omega, H2⟩, F2⟩
/-- after recording, everything else stands -/
theorem Inv.rec {n : Nat} {T : Nat → Mm} {Z : Mm} (h : Inv n T Z) : ∃ T' Z', s_X1_remember T = some T' ∧ s_X5_record Z = some Z' ∧ Inv n T' Z' ∧ HF T T' Z Z' := by
  obtain ⟨h1, h2, h3, h4, h5⟩ := h
  obtain ⟨T', Z', e1, e2, H, F⟩ := hist h2 h1
  refine ⟨T', Z', e1, e2, ⟨?_, H, ?_, ?_, ?_⟩, F⟩
  · rw [F.1 1 (by omega), F.2.1 1 (by omega) (by omega)]; exact h1
  · unfold KE
    rw [F.1 0 (by omega), F.1 3 (by omega), F.2.1 3 (by omega) (by omega), F.2.2 4 (by omega)]; exact h3
  · unfold SP
    rw [F.1 0 (by omega), F.2.2 8 (by omega), F.2.2 9 (by omega)]; exact h4
  · unfold TX
    rw [F.1 9 (by omega), F.2.1 5 (by omega) (by omega), F.2.2 7 (by omega)]; exact h5
