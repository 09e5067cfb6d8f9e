/-! lay, push, reason, stopped -/
theorem wt_dec (x : Int32) : (∃ k, 1 ≤ k ∧ k ≤ 5 ∧ x = nI k ∧ s_X0_isWeight x = some 1 ∧ s_X5_isWeight x = some 1) ∨ (s_X0_isWeight x = some 0 ∧ s_X5_isWeight x = some 0) := by
  unfold s_X0_isWeight s_X5_isWeight s_X5_in
  by_cases h1 : x < 1
  · rw [if_pos h1]; exact Or.inr ⟨rfl, rfl⟩
  · by_cases h2 : 5 < x
    · rw [if_neg h1, if_pos h2]
      exact Or.inr ⟨rfl, rfl⟩
    · obtain ⟨k, k1, k5, e⟩ := nI_enum (a := 1) (b := 5) (by omega) (by omega) h1 h2
      rw [if_neg h1, if_neg h2]
      exact Or.inl ⟨k, k1, k5, e, rfl, rfl⟩
theorem inv_lay {n : Nat} {T : Nat → Mm} {Z : Mm} (h : Inv n T Z) (hn : n < 512) (a1 a2 : Int32) : ∃ (r : Int32) (T' : Nat → Mm) (Z' : Mm), s_X4_lay T a1 a2 = some (r, T') ∧ s_X5_lay Z a1 a2 = some (r, Z') ∧ Inv (n + 1) T' Z' := by
  unfold s_X4_lay s_X5_lay
  rcases wt_dec a1 with ⟨k, k1, k5, rfl, w1, w2⟩ | ⟨w1, w2⟩
  · rw [w1, w2, bd_some, bd_some, if_neg (by decide), if_neg (by decide)]
    by_cases hp : a2 ∈ pls
    · rw [pl_is _ hp, pl_isZ _ hp, bd_some, bd_some, if_neg (by decide), if_neg (by decide)]
      obtain ⟨r, T', Z', e1, e2, I⟩ := inv_move h hn k1 (show k ≤ 7 by omega) hp
      rw [e1, e2]
      exact ⟨r, T', Z', rfl, rfl, I⟩
    · rw [(pl_no hp).1, (pl_no hp).2]
      exact ⟨_, _, _, rfl, rfl, inv_skip h⟩
  · rw [w1, w2]
    exact ⟨_, _, _, rfl, rfl, inv_skip h⟩
theorem inv_push {n : Nat} {T : Nat → Mm} {Z : Mm} (h : Inv n T Z) (hn : n < 512) (a1 fl : Int32) (hfl : fl = 0 ∨ fl = 1) : ∃ (r : Int32) (T' : Nat → Mm) (Z' : Mm), s_X4_push T a1 fl = some (r, T') ∧ s_X5_push Z a1 fl = some (r, Z') ∧ Inv (n + 1) T' Z' := by
  unfold s_X4_push s_X5_push
  by_cases hp : a1 ∈ pls
  · rw [pl_is _ hp, pl_isZ _ hp, bd_some, bd_some, if_neg (show ¬ (1 : Int32) = 0 from by decide), if_neg (show ¬ (1 : Int32) = 0 from by decide)]
    rcases hfl with rfl | rfl
    · obtain ⟨r, T', Z', e1, e2, I⟩ := inv_move h hn (k := 7) (by omega) (by omega) hp
      rw [if_pos rfl, if_pos rfl, show (7 : Int32) = nI 7 from rfl, e1, e2]
      exact ⟨r, T', Z', rfl, rfl, I⟩
    · obtain ⟨r, T', Z', e1, e2, I⟩ := inv_move h hn (k := 6) (by omega) (by omega) hp
      rw [if_neg (by decide), if_neg (by decide), show (6 : Int32) = nI 6 from rfl, e1, e2]
      exact ⟨r, T', Z', rfl, rfl, I⟩
  · rw [(pl_no hp).1, (pl_no hp).2]
    exact ⟨_, _, _, rfl, rfl, inv_skip h⟩
theorem inv_reason {n : Nat} {T : Nat → Mm} {Z : Mm} (h : Inv n T Z) (hn : n < 512) (a1 a2 : Int32) : ∃ (r : Int32), s_X4_reason T a1 a2 = some r ∧ s_X5_reason Z a1 a2 = some r ∧ Inv (n + 1) T Z := by
  have hb := h.1
  obtain ⟨a, mc, R, S, ok, hmc, G⟩ := hb
  unfold s_X4_reason s_X5_reason s_X5_in
  by_cases h1 : a1 < 1
  · rw [if_pos h1, if_pos h1]
    exact ⟨_, rfl, rfl, inv_skip h⟩
  · by_cases h2 : 7 < a1
    · rw [if_neg h1, if_neg h1, if_pos h2, if_neg (Int32.not_le.mpr h2)]
      exact ⟨_, rfl, rfl, inv_skip h⟩
    · obtain ⟨k, k1, k7, rfl⟩ := nI_enum (a := 1) (b := 7) (by omega) (by omega) h1 h2
      rw [if_neg h1, if_neg h1, if_neg h2, if_pos (Int32.not_lt.mp h2), bd_some, if_neg (show ¬ (1 : Int32) = 0 from by decide)]
      by_cases hp : a2 ∈ pls
      · rw [pl_is _ hp, pl_isZ _ hp, bd_some, bd_some, if_neg (by decide), C_why R ok k1 k7 hp, Z_why S ok k1 k7 hp, bd_some]
        exact ⟨_, rfl, rfl, inv_skip h⟩
      · rw [(pl_no hp).1, (pl_no hp).2]
        exact ⟨_, rfl, rfl, inv_skip h⟩
theorem inv_stopped {n : Nat} {T : Nat → Mm} {Z : Mm} (h : Inv n T Z) (hn : n < 512) (a1 : Int32) : ∃ (r : Int32), s_X4_stopped T a1 = some r ∧ s_X5_stopped Z a1 = some r ∧ Inv (n + 1) T Z := by
  have hs := h.2.2.2.1
  unfold s_X4_stopped s_X5_stopped
  by_cases h0 : a1 = 0
  · subst h0
    rw [if_neg (by decide), if_pos (by decide), if_pos rfl]
    rcases hs with ⟨s6, s8, s9⟩ | ⟨s6, s7, s8⟩
    · rw [if_pos s6, s8]
      exact ⟨_, rfl, rfl, inv_skip h⟩
    · rw [if_neg (by rw [s6]; decide), if_pos rfl, s7]
      exact ⟨_, rfl, rfl, inv_skip h⟩
  · by_cases h1 : a1 = 1
    · subst h1
      rw [if_neg (show ¬ (1 : Int32) < 0 from by decide), if_pos (show (1 : Int32) ≤ 1 from by decide)]
      rcases hs with ⟨s6, s8, s9⟩ | ⟨s6, s7, s8⟩
      · rw [if_pos s6, if_neg h0, if_pos rfl, s9]
        exact ⟨_, rfl, rfl, inv_skip h⟩
      · rw [if_neg (show ¬ T 0 0 6 = 0 from by rw [s6]; decide), if_neg h0, if_neg h0, if_pos rfl, s8]
        exact ⟨_, rfl, rfl, inv_skip h⟩
    · have e : ¬ (¬ a1 < 0 ∧ a1 ≤ 1) := by
        rintro ⟨c1, c2⟩
        obtain ⟨k, k1, k7, rfl⟩ := nI_enum (a := 0) (b := 1) (by omega) (by omega) c1 (Int32.not_lt.mpr c2)
        have : k = 0 ∨ k = 1 := by omega
        rcases this with rfl | rfl
        · exact absurd rfl h0
        · exact absurd rfl h1
      refine ⟨-10002, ?_, ?_, inv_skip h⟩
      · by_cases c1 : a1 < 0
        · rw [if_pos c1]
        · rw [if_neg c1, if_neg (fun c2 => e ⟨c1, c2⟩)]
      · rw [if_neg h0, if_neg h1]
