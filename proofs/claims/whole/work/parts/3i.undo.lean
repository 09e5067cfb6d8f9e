/-! undo, type, clearText -/
theorem undo23 {k : Nat} (hk : k < 4) : ∀ (j x fuel : Nat) {Z : Mm}, x + j = 243 → j < fuel → Z 0 2 = nI k → ∃ f, s_X5_undo_L23 fuel Z (nI x) = some (nI k, mset Z 1 f) ∧ ∀ q, f q = if x ≤ q ∧ q < 243 then Z 2 (243 * k + q) else Z 1 q := by
  intro j
  induction j with
  | zero =>
    intro x fuel Z hx hf hz
    obtain ⟨f, rfl⟩ : ∃ f, fuel = f + 1 := ⟨fuel - 1, by omega⟩
    have hx : x = 243 := by omega
    subst hx
    rw [s_X5_undo_L23, if_pos (show (243 : Int32) ≤ nI 243 from by decide), hz]
    refine ⟨Z 1, ?_, fun q => ?_⟩
    · rw [show mset Z 1 (Z 1) = Z from mset_self rfl]
    · rw [if_neg (by omega)]
  | succ j ih =>
    intro x fuel Z hx hf hz
    obtain ⟨f, rfl⟩ : ∃ f, fuel = f + 1 := ⟨fuel - 1, by omega⟩
    rw [s_X5_undo_L23, if_neg (show ¬ (243 : Int32) ≤ nI x from nI_ge (b := 243) (by omega) (by decide)), hz, pk243, rd_n (by omega) (by omega), bd_some, wr_n (by omega) (by omega), bd_some, jn_eq, nI_1]
    obtain ⟨g, e, h⟩ := ih (x + 1) f (Z := mset Z 1 (upd (Z 1) x (Z 2 (243 * k + x)))) (by omega) (by omega) hz
    rw [show mset (mset Z 1 (upd (Z 1) x (Z 2 (243 * k + x)))) 1 g = mset Z 1 g from by
      funext c
      unfold mset
      split <;> rfl] at e
    refine ⟨g, e, fun q => ?_⟩
    rw [h q, ms_eq, ms_ne (by omega)]
    by_cases c1 : q = x
    · rw [if_neg (by omega), if_pos (by omega), c1, up_eq]
    · by_cases c2 : x + 1 ≤ q ∧ q < 243
      · rw [if_pos c2, if_pos (by omega)]
      · rw [if_neg c2, if_neg (by omega), up_ne c1]
theorem inv_undo {n : Nat} {T : Nat → Mm} {Z : Mm} (h : Inv n T Z) (hn : n < 512) : ∃ (r : Int32) (T' : Nat → Mm) (Z' : Mm), s_X4_undo T = some (r, T') ∧ s_X5_undo Z = some (r, Z') ∧ Inv (n + 1) T' Z' := by
  have h' := inv_skip h
  obtain ⟨h1, ⟨k, pm, k1, k2, k3, k4, k5, k6⟩, h3, h4, h5⟩ := inv_skip h
  unfold s_X4_undo s_X5_undo s_X1_bringBack
  rw [k2, k3]
  cases k with
  | zero =>
    rw [if_pos (show nI 0 ≤ 0 from by decide), if_pos (show nI 0 = 0 from rfl), bd_some]
    exact ⟨_, _, _, rfl, rfl, h'⟩
  | succ k =>
    have hk : k < 4 := by omega
    have p4 := (k4 k hk).1
    obtain ⟨B, e3, cp⟩ := C_copy (T 1) (T (5 + pm k))
    obtain ⟨f, e4, hf⟩ := undo23 hk 243 0 1000 (Z := mset Z 0 (upd (Z 0) 2 (nI k))) rfl (by omega) rfl
    rw [if_neg (show ¬ nI (k + 1) ≤ 0 from nI_ge (a := 0) (by omega) (by omega)), if_neg (show ¬ 4 < nI (k + 1) from Int32.not_lt.mpr (nI_le (b := 4) (by omega) (by omega))), if_neg (show ¬ nI (k + 1) = 0 from fun e => by
      have := (nI_eq (a := k + 1) (b := 0) (by omega) (by omega)).mp e
      omega), nI_pred, nI_clamp (by omega), hpk_n k4 hk, bd_some, e3, bd_some, bd_some, if_neg (show ¬ (1 : Int32) = 0 from by decide), pf_eq, bd_some, show (0 : Int32) = nI 0 from rfl, e4]
    have hb : RB (n + 1) B f := ((k6 k (by omega)).cc cp).cz (fun q hq => by rw [hf, if_pos (by omega), ms_ne (by omega)])
    refine ⟨_, _, _, rfl, rfl, hb, ⟨k, pm, by omega, rfl, rfl, k4, k5, fun i hi => ?_⟩, h3, h4, h5⟩
    unfold hsz
    dsimp only
    rw [ts_ne (by omega), ts_ne (by omega)]
    exact k6 i (by omega)
theorem inv_clearText {n : Nat} {T : Nat → Mm} {Z : Mm} (h : Inv n T Z) (hn : n < 512) : ∃ (r : Int32) (T' : Nat → Mm) (Z' : Mm), s_X4_clearText T = some (r, T') ∧ s_X5_clearText Z = some (r, Z') ∧ Inv (n + 1) T' Z' := by
  obtain ⟨h1, ⟨k, pm, k1, k2, k3, k4, k5, k6⟩, h3, h4, ⟨t, t1, t2, t3, t4⟩⟩ := inv_skip h
  unfold s_X4_clearText s_X5_clearText s_X2_length s_X2_empty
  rw [t2, t3, bd_some, pf_eq, pf_eq, bd_some, bd_some, jn_eq, bd_some]
  refine ⟨_, _, _, rfl, rfl, h1, ⟨k, pm, k1, k2, k3, k4, k5, fun i hi => ?_⟩, h3, h4, ⟨0, by omega, rfl, rfl, fun i hi => absurd hi (by omega)⟩⟩
  have := (k4 i (by omega)).1
  rw [ts_ne (by omega)]
  exact k6 i hi
theorem inv_type {n : Nat} {T : Nat → Mm} {Z : Mm} (h : Inv n T Z) (hn : n < 512) (ch : Int32) : ∃ (r : Int32) (T' : Nat → Mm) (Z' : Mm), s_X4_type T ch = some (r, T') ∧ s_X5_type Z ch = some (r, Z') ∧ Inv (n + 1) T' Z' := by
  obtain ⟨h1, ⟨k, pm, k1, k2, k3, k4, k5, k6⟩, h3, h4, ⟨t, t1, t2, t3, t4⟩⟩ := inv_skip h
  unfold s_X4_type s_X5_type s_X2_append
  rw [t2, t3, if_neg (show ¬ nI t < 0 from Int32.not_lt.mpr (nI_le (a := 0) (by omega) (by omega)))]
  have hist : ∀ M, HI (n + 1) (tset T 9 M) Z := fun M => ⟨k, pm, k1, k2, k3, k4, k5, fun i hi => by
    have := (k4 i (by omega)).1
    rw [ts_ne (by omega)]
    exact k6 i hi⟩
  by_cases c : t = 60
  · subst c
    rw [if_neg (show ¬ nI 60 < 60 from by decide), if_pos (show nI 60 = 60 from rfl), bd_some, if_pos rfl]
    exact ⟨_, _, _, rfl, rfl, h1, hist _, h3, h4, ⟨60, t1, t2, t3, t4⟩⟩
  · rw [if_pos (show nI t < 60 from nI_lt (b := 60) (by omega) (by omega)), if_neg (show ¬ nI t = 60 from fun e => c ((nI_eq (a := t) (b := 60) (by omega) (by omega)).mp e))]
    unfold wrc
    rw [wr_n (by omega) (by omega), wr_n (by omega) (by omega), bd_some, bd_some, pf_eq, pf_eq, bd_some, bd_some, bd_some, if_neg (show ¬ (1 : Int32) = 0 from by decide)]
    unfold s_X2_length
    rw [bd_some, ts_eq]
    have e1 : mset (T 9) 1 (upd (T 9 1) t (vp_nar .char ch)) 0 3 + 1 = nI (t + 1) := by
      rw [ms_ne (by omega), t2, nI_1]
    have e2 : mset Z 5 (upd (Z 5) t (vp_nar .char ch)) 0 7 + 1 = nI (t + 1) := by
      rw [ms_ne (by omega), t3, nI_1]
    rw [e1, e2]
    refine ⟨_, _, _, rfl, rfl, h1, hist _, h3, h4, ⟨t + 1, by omega, rfl, rfl, fun i hi => ?_⟩⟩
    show upd (T 9 1) t (vp_nar .char ch) i = upd (Z 5) t (vp_nar .char ch) i
    rw [up_ap, up_ap]
    by_cases c3 : i = t
    · rw [if_pos c3, if_pos c3]
    · rw [if_neg c3, if_neg c3]
      exact t4 i (by omega)
