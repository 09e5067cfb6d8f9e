/-! tokens, keep, restore, undo -/
def q_tk (a : Bd) : Nat → Int32
  | 0 => 0
  | k + 1 => q_tk a k + nI (q_co a k).length
theorem plBy : ∀ k, k < 12 → ∃ p, p ∈ pls ∧ sl p = k ∧ s_X5_placeBy (nI k) = some p := by
  have h : ∀ k, k < 12 → (s_X5_placeBy (nI k)).getD 0 ∈ pls ∧ sl ((s_X5_placeBy (nI k)).getD 0) = k ∧ s_X5_placeBy (nI k) = some ((s_X5_placeBy (nI k)).getD 0) := by decide +kernel
  exact fun k hk => ⟨_, h k hk⟩
theorem C_tokens {a : Bd} {B : Mm} (R : RC B a) : s_X0_tokens B = some (q_tk a 12) := by
  have : ∀ (j k fuel : Nat), k + j = 12 → j < fuel → s_X0_tokens_L4 fuel B (q_tk a k) (nI k) = some (q_tk a 12) := by
    intro j
    induction j with
    | zero =>
      intro k fuel hk hf
      obtain ⟨f, rfl⟩ : ∃ f, fuel = f + 1 := ⟨fuel - 1, by omega⟩
      have hk : k = 12 := by omega
      subst hk
      rw [s_X0_tokens_L4, if_pos (show (12 : Int32) ≤ nI 12 from by decide)]
    | succ j ih =>
      intro k fuel hk hf
      obtain ⟨f, rfl⟩ : ∃ f, fuel = f + 1 := ⟨fuel - 1, by omega⟩
      rw [s_X0_tokens_L4, if_neg (show ¬ (12 : Int32) ≤ nI k from nI_ge (b := 12) (by omega) (by decide)), rd_n (by omega) (by omega), bd_some, (R.1 k (by omega)).2.1, jn_eq, jn_eq, nI_1]
      exact ih (k + 1) f (by omega) (by omega)
  exact this 12 0 1000 rfl (by omega)
theorem Z_tokens {a : Bd} {Z : Mm} (R : RZ (Z 1) a) : s_X5_tokens Z = some (q_tk a 12) := by
  have : ∀ (j k fuel : Nat), k + j = 12 → j < fuel → s_X5_tokens_L4 fuel Z (q_tk a k) (nI k) = some (q_tk a 12) := by
    intro j
    induction j with
    | zero =>
      intro k fuel hk hf
      obtain ⟨f, rfl⟩ : ∃ f, fuel = f + 1 := ⟨fuel - 1, by omega⟩
      have hk : k = 12 := by omega
      subst hk
      rw [s_X5_tokens_L4, if_pos (show (12 : Int32) ≤ nI 12 from by decide)]
    | succ j ih =>
      intro k fuel hk hf
      obtain ⟨f, rfl⟩ : ∃ f, fuel = f + 1 := ⟨fuel - 1, by omega⟩
      obtain ⟨p, hp, hs, e⟩ := plBy k (by omega)
      rw [s_X5_tokens_L4, if_neg (show ¬ (12 : Int32) ≤ nI k from nI_ge (b := 12) (by omega) (by decide)), e, bd_some, Z_many R hp, bd_some, hs, jn_eq, jn_eq, nI_1]
      exact ih (k + 1) f (by omega) (by omega)
  exact this 12 0 1000 rfl (by omega)
theorem keep7 : ∀ (j x fuel : Nat) {Z : Mm}, x + j = 243 → j < fuel → ∃ f, s_X5_keep_L7 fuel Z (nI x) = (Option.bind (s_X5_tokens (mset Z 3 f)) fun v3 => some (v3, mset Z 3 f)) ∧ ∀ q, f q = if x ≤ q ∧ q < 243 then Z 1 q else Z 3 q := by
  intro j
  induction j with
  | zero =>
    intro x fuel Z hx hf
    obtain ⟨f, rfl⟩ : ∃ f, fuel = f + 1 := ⟨fuel - 1, by omega⟩
    have hx : x = 243 := by omega
    subst hx
    rw [s_X5_keep_L7, if_pos (show (243 : Int32) ≤ nI 243 from by decide)]
    refine ⟨Z 3, ?_, fun q => ?_⟩
    · rw [show mset Z 3 (Z 3) = Z from mset_self rfl]
    · rw [if_neg (by omega)]
  | succ j ih =>
    intro x fuel Z hx hf
    obtain ⟨f, rfl⟩ : ∃ f, fuel = f + 1 := ⟨fuel - 1, by omega⟩
    rw [s_X5_keep_L7, if_neg (show ¬ (243 : Int32) ≤ nI x from nI_ge (b := 243) (by omega) (by decide)), rd_n (by omega) (by omega), bd_some, wr_n (by omega) (by omega), bd_some, jn_eq, nI_1]
    obtain ⟨g, e, h⟩ := ih (x + 1) f (Z := mset Z 3 (upd (Z 3) x (Z 1 x))) (by omega) (by omega)
    rw [show mset (mset Z 3 (upd (Z 3) x (Z 1 x))) 3 g = mset Z 3 g from by
      funext c
      unfold mset
      split <;> rfl] at e
    refine ⟨g, e, fun q => ?_⟩
    rw [h q, ms_eq, ms_ne (by omega)]
    by_cases c1 : q = x
    · rw [if_neg (by omega), if_pos (by omega), c1, up_eq]
    · by_cases c2 : x + 1 ≤ q ∧ q < 243
      · rw [if_pos c2, if_pos (by omega)]
      · rw [if_neg c2, if_neg (by omega), up_ne c1]
theorem rest17 : ∀ (j x fuel : Nat) {Z : Mm}, x + j = 243 → j < fuel → ∃ f, s_X5_restore_L17 fuel Z (nI x) = (Option.bind (s_X5_tokens (mset Z 1 f)) fun v3 => some (v3, mset Z 1 f)) ∧ ∀ q, f q = if x ≤ q ∧ q < 243 then Z 3 q else Z 1 q := by
  intro j
  induction j with
  | zero =>
    intro x fuel Z hx hf
    obtain ⟨f, rfl⟩ : ∃ f, fuel = f + 1 := ⟨fuel - 1, by omega⟩
    have hx : x = 243 := by omega
    subst hx
    rw [s_X5_restore_L17, if_pos (show (243 : Int32) ≤ nI 243 from by decide)]
    refine ⟨Z 1, ?_, fun q => ?_⟩
    · rw [show mset Z 1 (Z 1) = Z from mset_self rfl]
    · rw [if_neg (by omega)]
  | succ j ih =>
    intro x fuel Z hx hf
    obtain ⟨f, rfl⟩ : ∃ f, fuel = f + 1 := ⟨fuel - 1, by omega⟩
    rw [s_X5_restore_L17, if_neg (show ¬ (243 : Int32) ≤ nI x from nI_ge (b := 243) (by omega) (by decide)), rd_n (by omega) (by omega), bd_some, wr_n (by omega) (by omega), bd_some, jn_eq, nI_1]
    obtain ⟨g, e, h⟩ := ih (x + 1) f (Z := mset Z 1 (upd (Z 1) x (Z 3 x))) (by omega) (by omega)
    rw [show mset (mset Z 1 (upd (Z 1) x (Z 3 x))) 1 g = mset Z 1 g from by
      funext c
      unfold mset
      split <;> rfl] at e
    refine ⟨g, e, fun q => ?_⟩
    rw [h q, ms_eq, ms_ne (by omega)]
    by_cases c1 : q = x
    · rw [if_neg (by omega), if_pos (by omega), c1, up_eq]
    · by_cases c2 : x + 1 ≤ q ∧ q < 243
      · rw [if_pos c2, if_pos (by omega)]
      · rw [if_neg c2, if_neg (by omega), up_ne c1]
theorem RB.tk {n : Nat} {B Z : Mm} (h : RB n B (Z 1)) : ∃ r, s_X0_tokens B = some r ∧ s_X5_tokens Z = some r := by
  obtain ⟨a, mc, R, S, -⟩ := h
  exact ⟨_, C_tokens R, Z_tokens S⟩
theorem inv_restore {n : Nat} {T : Nat → Mm} {Z : Mm} (h : Inv n T Z) (hn : n < 512) : ∃ (r : Int32) (T' : Nat → Mm) (Z' : Mm), s_X4_restore T = some (r, T') ∧ s_X5_restore Z = some (r, Z') ∧ Inv (n + 1) T' Z' := by
  unfold s_X4_restore s_X5_restore
  obtain ⟨T1, Z1, e1, e2, I1, F1⟩ := h.rec
  rcases h.2.2.1 with ⟨k1, k2⟩ | ⟨k1, k2, kb⟩
  · rw [if_pos k1, if_pos k2]
    exact ⟨_, _, _, rfl, rfl, inv_skip h⟩
  · rw [if_neg (show ¬ T 0 0 5 = 0 from by rw [k1]; decide), if_neg (show ¬ Z 0 4 = 0 from by rw [k2]; decide), e1, e2, bd_some, bd_some]
    obtain ⟨B, e3, cp⟩ := C_copy (T1 1) (T1 3)
    obtain ⟨f, e4, hf⟩ := rest17 243 0 1000 (Z := Z1) rfl (by omega)
    have hb : RB n B f := by
      have hb : RB n (T1 3) (Z1 3) := by rw [F1.1 3 (by omega), F1.2.1 3 (by omega) (by omega)]; exact kb
      exact (hb.cc cp).cz (fun q hq => by rw [hf, if_pos (by omega)])
    obtain ⟨r, e5, e6⟩ := hb.tk (Z := mset Z1 1 f)
    rw [e3, bd_some, ts_eq, e5, show (0 : Int32) = nI 0 from rfl, e4, e6]
    exact ⟨_, _, _, rfl, rfl, I1.new (Nat.le_succ n) (hb.up (Nat.le_succ n))⟩
theorem inv_keep {n : Nat} {T : Nat → Mm} {Z : Mm} (h : Inv n T Z) (hn : n < 512) : ∃ (r : Int32) (T' : Nat → Mm) (Z' : Mm), s_X4_keep T = some (r, T') ∧ s_X5_keep Z = some (r, Z') ∧ Inv (n + 1) T' Z' := by
  unfold s_X4_keep s_X5_keep
  obtain ⟨B, e3, cp⟩ := C_copy (T 3) (T 1)
  rw [e3, bd_some, pf_eq, bd_some]
  obtain ⟨f, e4, hf⟩ := keep7 243 0 1000 (Z := mset Z 0 (upd (Z 0) 4 1)) rfl (by omega)
  obtain ⟨h1, ⟨k, pm, k1, k2, k3, k4, k5, k6⟩, h3, h4, h5⟩ := inv_skip h
  have hb : RB (n + 1) B f := (h1.cc cp).cz (fun q hq => by rw [hf, if_pos (by omega), ms_ne (by omega)])
  obtain ⟨r, e5, e6⟩ := h1.tk
  obtain ⟨r', e7, e8⟩ := RB.tk (B := T 1) (Z := mset (mset Z 0 (upd (Z 0) 4 1)) 3 f) h1
  have er : r' = r := Option.some.inj (e7.symm.trans e5)
  subst er
  rw [show (0 : Int32) = nI 0 from rfl, e4, e8]
  unfold pft
  rw [bd_some, show s_X0_tokens (tset (tset T 3 B) 0 (mset (tset T 3 B 0) 0 (upd (tset T 3 B 0 0) 5 1)) 1) = some r' from e5]
  refine ⟨_, _, _, rfl, rfl, h1, ⟨k, pm, k1, k2, k3, k4, k5, fun i hi => ?_⟩, Or.inr ⟨rfl, rfl, hb⟩, h4, h5⟩
  rw [ts_ne (by omega), ts_ne (by omega)]
  exact k6 i hi
