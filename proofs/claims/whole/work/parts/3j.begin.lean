/-! bag, begin -/
theorem sd_dec (x : Int32) : (∃ i, i < 2 ∧ x = nI i ∧ s_X0_isSide x = some 1 ∧ s_X5_isSide x = some 1) ∨ (s_X0_isSide x = some 0 ∧ s_X5_isSide x = some 0) := by
  by_cases h0 : x = 0
  · subst h0; exact Or.inl ⟨0, by omega, rfl, rfl, rfl⟩
  · by_cases h1 : x = 1
    · subst h1; exact Or.inl ⟨1, by omega, rfl, rfl, rfl⟩
    · refine Or.inr ⟨?_, ?_⟩
      · unfold s_X0_isSide
        rw [if_neg h0, if_neg h1]
      · unfold s_X5_isSide s_X5_in
        by_cases c1 : x < 0
        · rw [if_pos c1]; rfl
        · by_cases c2 : 1 < x
          · rw [if_neg c1, if_pos c2]; rfl
          · obtain ⟨k, k1, k7, rfl⟩ := nI_enum (a := 0) (b := 1) (by omega) (by omega) c1 c2
            have : k = 0 ∨ k = 1 := by omega
            rcases this with rfl | rfl
            · exact absurd rfl h0
            · exact absurd rfl h1
theorem inv_bag {n : Nat} {T : Nat → Mm} {Z : Mm} (h : Inv n T Z) (hn : n < 512) (a1 a2 : Int32) : ∃ (r : Int32), s_X4_bag T a1 a2 = some r ∧ s_X5_bag Z a1 a2 = some r ∧ Inv (n + 1) T Z := by
  have hb := h.1
  obtain ⟨a, mc, R, S, ok, hmc, G⟩ := hb
  unfold s_X4_bag s_X5_bag
  rcases sd_dec a1 with ⟨i, hi, rfl, w1, w2⟩ | ⟨w1, w2⟩
  · rw [w1, w2, bd_some, bd_some, if_neg (show ¬ (1 : Int32) = 0 from by decide), if_neg (show ¬ (1 : Int32) = 0 from by decide)]
    by_cases c : a2 = 0
    · subst c
      rw [if_pos rfl, C_inAll R hi, show s_X5_in 0 0 5 = some 1 from by decide, bd_some, bd_some, if_neg (show ¬ (1 : Int32) = 0 from by decide), if_pos rfl, Z_allIn S hi]
      exact ⟨_, rfl, rfl, inv_skip h⟩
    · rw [if_neg c]
      rcases wt_dec a2 with ⟨k, k1, k5, rfl, u1, u2⟩ | ⟨u1, u2⟩
      · have e : ∀ k, 1 ≤ k → k ≤ 5 → s_X5_in (nI k) 0 5 = some 1 := by
          intro k k1 k5
          have : k = 1 ∨ k = 2 ∨ k = 3 ∨ k = 4 ∨ k = 5 := by omega
          rcases this with rfl | rfl | rfl | rfl | rfl <;> rfl
        rw [u1, bd_some, if_neg (show ¬ (1 : Int32) = 0 from by decide), C_inBag R hi k1 k5, e k k1 k5, bd_some, bd_some, if_neg (show ¬ (1 : Int32) = 0 from by decide), if_neg c, Z_inBag S hi k1 k5]
        exact ⟨_, rfl, rfl, inv_skip h⟩
      · have e : s_X5_in a2 0 5 = some 0 := by
          unfold s_X5_in
          by_cases c1 : a2 < 0
          · rw [if_pos c1]
          · by_cases c2 : 5 < a2
            · rw [if_neg c1, if_pos c2]
            · obtain ⟨k, k1, k7, rfl⟩ := nI_enum (a := 0) (b := 5) (by omega) (by omega) c1 c2
              have : k ≠ 0 := fun e => c (by rw [e]; rfl)
              rw [wt_is (by omega) k7] at u1
              exact absurd u1 (by decide)
        rw [u1, e]
        exact ⟨_, rfl, rfl, inv_skip h⟩
  · rw [w1, w2]
    exact ⟨_, rfl, rfl, inv_skip h⟩
theorem C_empty : ∀ (j x fuel : Nat) {B : Mm}, x + j = 12 → j < fuel → ∃ B', s_X0_empty_L2 fuel B (nI x) = some B' ∧ (∀ q, B' 2 q = if x ≤ q ∧ q < 12 then 0 else B 2 q) ∧ B' 3 = B 3 ∧ B' 4 = B 4 ∧ B' 0 5 = 0 ∧ B' 0 6 = 1 ∧ B' 0 7 = 0 ∧ B' 0 8 = 0 ∧ B' 0 9 = 0 ∧ B' 0 10 = 0 ∧ B' 0 11 = 0 := by
  intro j
  induction j with
  | zero =>
    intro x fuel B hx hf
    obtain ⟨f, rfl⟩ : ∃ f, fuel = f + 1 := ⟨fuel - 1, by omega⟩
    have hx : x = 12 := by omega
    subst hx
    rw [s_X0_empty_L2, if_pos (show (12 : Int32) ≤ nI 12 from by decide)]
    refine ⟨_, rfl, fun q => ?_, rfl, rfl, rfl, rfl, rfl, rfl, rfl, rfl, rfl⟩
    rw [if_neg (by omega)]
    rfl
  | succ j ih =>
    intro x fuel B hx hf
    obtain ⟨f, rfl⟩ : ∃ f, fuel = f + 1 := ⟨fuel - 1, by omega⟩
    rw [s_X0_empty_L2, if_neg (show ¬ (12 : Int32) ≤ nI x from nI_ge (b := 12) (by omega) (by decide)), wr_n (by omega) (by omega), bd_some, jn_eq, nI_1]
    obtain ⟨B', e, h2, h⟩ := ih (x + 1) f (B := mset B 2 (upd (B 2) x 0)) (by omega) (by omega)
    refine ⟨B', e, fun q => ?_, h⟩
    rw [h2, ms_eq]
    by_cases c1 : q = x
    · rw [if_neg (by omega), if_pos (by omega), c1, up_eq]
    · rw [up_ne c1]
      by_cases c2 : x + 1 ≤ q ∧ q < 12
      · rw [if_pos c2, if_pos (by omega)]
      · rw [if_neg c2, if_neg (by omega)]
theorem Z_begin33 {r : Int32} {Z : Mm} : ∀ (j x fuel : Nat) {z : Nat → Int32}, x + j = 243 → j < fuel → ∃ z', s_X5_begin_L33 fuel (mset Z 1 z) r (nI x) = some (r, mset Z 1 z') ∧ ∀ q, z' q = if q = 10 then 1 else if x ≤ q ∧ q < 243 then 0 else z q := by
  intro j
  induction j with
  | zero =>
    intro x fuel z hx hf
    obtain ⟨f, rfl⟩ : ∃ f, fuel = f + 1 := ⟨fuel - 1, by omega⟩
    have hx : x = 243 := by omega
    subst hx
    rw [s_X5_begin_L33, if_pos (show (243 : Int32) ≤ nI 243 from by decide), wr1e (i := 10) 10 rfl (by decide) (by decide), bd_some]
    refine ⟨_, rfl, fun q => ?_⟩
    rw [up_ap, if_neg (show ¬ (243 ≤ q ∧ q < 243) by omega)]
  | succ j ih =>
    intro x fuel z hx hf
    obtain ⟨f, rfl⟩ : ∃ f, fuel = f + 1 := ⟨fuel - 1, by omega⟩
    rw [s_X5_begin_L33, if_neg (show ¬ (243 : Int32) ≤ nI x from nI_ge (b := 243) (by omega) (by decide)), wr1 (by omega) (by omega), bd_some, jn_eq, nI_1]
    obtain ⟨z', e, h⟩ := ih (x + 1) f (z := upd z x 0) (by omega) (by omega)
    refine ⟨z', e, fun q => ?_⟩
    rw [h]
    by_cases c : q = 10
    · rw [if_pos c, if_pos c]
    · rw [if_neg c, if_neg c]
      by_cases c1 : q = x
      · rw [if_neg (by omega), if_pos (by omega), c1, up_eq]
      · rw [up_ne c1]
        by_cases c2 : x + 1 ≤ q ∧ q < 243
        · rw [if_pos c2, if_pos (by omega)]
        · rw [if_neg c2, if_neg (by omega)]
theorem Z_begin11 {r : Int32} {Z : Mm} : ∀ (j x fuel : Nat) {z : Nat → Int32}, x + j = 13 → j < fuel → ∃ z', s_X5_begin_L11 fuel (mset Z 1 z) r (nI x) = some (r, mset Z 1 z') ∧ ∀ q, z' q = if q = 10 then 1 else if (x ≤ q ∧ q < 13) ∨ (23 ≤ q ∧ q < 243) then 0 else z q := by
  intro j
  induction j with
  | zero =>
    intro x fuel z hx hf
    obtain ⟨f, rfl⟩ : ∃ f, fuel = f + 1 := ⟨fuel - 1, by omega⟩
    have hx : x = 13 := by omega
    subst hx
    rw [s_X5_begin_L11, if_pos (show (13 : Int32) ≤ nI 13 from by decide)]
    obtain ⟨z', e, h⟩ := Z_begin33 (r := r) (Z := Z) 220 23 1000 (z := z) rfl (by omega)
    refine ⟨z', e, fun q => ?_⟩
    rw [h]
    by_cases c : q = 10
    · rw [if_pos c, if_pos c]
    · rw [if_neg c, if_neg c]
      by_cases c2 : 23 ≤ q ∧ q < 243
      · rw [if_pos c2, if_pos (by omega)]
      · rw [if_neg c2, if_neg (by omega)]
  | succ j ih =>
    intro x fuel z hx hf
    obtain ⟨f, rfl⟩ : ∃ f, fuel = f + 1 := ⟨fuel - 1, by omega⟩
    rw [s_X5_begin_L11, if_neg (show ¬ (13 : Int32) ≤ nI x from nI_ge (b := 13) (by omega) (by decide)), wr1 (by omega) (by omega), bd_some, jn_eq, nI_1]
    obtain ⟨z', e, h⟩ := ih (x + 1) f (z := upd z x 0) (by omega) (by omega)
    refine ⟨z', e, fun q => ?_⟩
    rw [h]
    by_cases c : q = 10
    · rw [if_pos c, if_pos c]
    · rw [if_neg c, if_neg c]
      by_cases c1 : q = x
      · rw [if_pos (show (x ≤ q ∧ q < 13) ∨ (23 ≤ q ∧ q < 243) by omega), c1, up_eq, ite_self]
      · rw [up_ne c1]
        by_cases c2 : (x + 1 ≤ q ∧ q < 13) ∨ (23 ≤ q ∧ q < 243)
        · rw [if_pos c2, if_pos (by omega)]
        · rw [if_neg c2, if_neg (by omega)]
theorem inv_begin {n : Nat} {T : Nat → Mm} {Z : Mm} (h : Inv n T Z) (hn : n < 512) : ∃ (r : Int32) (T' : Nat → Mm) (Z' : Mm), s_X4_begin T = some (r, T') ∧ s_X5_begin Z = some (r, Z') ∧ Inv (n + 1) T' Z' := by
  obtain ⟨T1, Z1, e1, e2, I1, F1⟩ := h.rec
  have hb := I1.1
  obtain ⟨r, e3, e4⟩ := hb.tk
  obtain ⟨a, mc, R, S, ok, hmc, G⟩ := hb
  unfold s_X4_begin s_X5_begin s_X0_empty
  rw [F1.1 1 (by omega)] at e3
  obtain ⟨B', e5, b2, b3, b4, f5, f6, f7, f8, f9, f10, f11⟩ := C_empty 12 0 1000 (B := T1 1) rfl (by omega)
  obtain ⟨z', e6, hz⟩ := Z_begin11 (r := r) (Z := Z1) 9 4 1000 (z := Z1 1) rfl (by omega)
  rw [show mset Z1 1 (Z1 1) = Z1 from ms_self] at e6
  rw [e3, bd_some, e1, bd_some, e2, bd_some, e4, bd_some, show (0 : Int32) = nI 0 from rfl, e5, bd_some, show (4 : Int32) = nI 4 from rfl, e6]
  refine ⟨_, _, _, rfl, rfl, I1.new (Nat.le_succ n) ⟨(fun _ => [], q_bg a, q_sg a, 0, 1, 0, 0), 0, ?_, ?_, ?_, by omega, ?_⟩⟩
  · refine ⟨fun s hs => ⟨Nat.zero_le _, ?_, rfl⟩, fun i hi => ?_, fun k hk => ?_, f5, f6, f7, f8⟩
    · rw [b2, if_pos (by omega)]
      rfl
    · rw [b3]
      exact R.2.1 i hi
    · rw [b4]
      exact R.2.2.1 k hk
  · refine ⟨fun s hs => ⟨Nat.zero_le _, ?_, rfl⟩, fun i hi w w1 w5 => ?_, fun k hk => ?_, ?_, ?_, ?_, ?_⟩
    · rw [hz, if_neg (by omega), if_pos (by omega)]
      rfl
    · rw [hz, if_neg (by omega), if_neg (by omega)]
      exact S.2.1 i hi w w1 w5
    · rw [hz, if_neg (by omega), if_neg (by omega)]
      exact S.2.2.1 k hk
    · rw [hz, if_neg (by omega), if_pos (by omega)]
      rfl
    · rw [hz, if_pos rfl]
      rfl
    · rw [hz, if_neg (by omega), if_pos (by omega)]
      rfl
    · rw [hz, if_neg (by omega), if_pos (by omega)]
      rfl
  · exact ⟨Or.inl rfl, Or.inr rfl, ok.2.2⟩
  · refine ⟨?_, ?_, f11, ?_, ?_, ?_, fun back hb => absurd hb (by omega)⟩
    · rw [f9, hz, if_neg (by omega), if_pos (by omega)]
    · rw [f10, hz, if_neg (by omega), if_pos (by omega)]
    · rw [hz, if_neg (by omega), if_pos (by omega)]
      rfl
    · rw [hz, hz, hz, if_neg (by omega), if_pos (by omega), if_neg (by omega), if_pos (by omega), if_neg (by omega), if_pos (by omega)]
      rfl
    · rw [hz, if_neg (by omega), if_pos (by omega)]
      rfl
