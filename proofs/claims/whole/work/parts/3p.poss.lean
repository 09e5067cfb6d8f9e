/-! possible -/
theorem poss_loop {a : Bd} {T : Nat → Mm} {Z : Mm} (R : RC (T 1) a) (S : RZ (Z 1) a) (ok : q_ok a) : ∀ (j k fuel : Nat) (x : Int32), k + j = 84 → j < fuel → ∃ r, s_X4_possible_L12 fuel T x (nI k) = some r ∧ s_X5_possible_L12 fuel Z x (nI k) = some r := by
  intro j
  induction j with
  | zero =>
    intro k fuel x hk hf
    obtain ⟨f, rfl⟩ : ∃ f, fuel = f + 1 := ⟨fuel - 1, by omega⟩
    have hk : k = 84 := by omega
    subst hk
    rw [s_X4_possible_L12, s_X5_possible_L12, if_pos (show (84 : Int32) ≤ nI 84 from by decide), if_pos (show (84 : Int32) ≤ nI 84 from by decide)]
    exact ⟨_, rfl, rfl⟩
  | succ j ih =>
    intro k fuel x hk hf
    obtain ⟨f, rfl⟩ : ∃ f, fuel = f + 1 := ⟨fuel - 1, by omega⟩
    have hk84 : k < 84 := by omega
    obtain ⟨u1, u2, u3, u4, hp, n1, n7⟩ := rank_tab k hk84
    obtain ⟨t1, t2, t3, t4⟩ := tell_tab k hk84
    obtain ⟨r, hr⟩ := Option.isSome_iff_exists.mp t1
    have g : ¬ (84 : Int32) ≤ nI k := nI_ge (b := 84) hk84 (by decide)
    rw [s_X4_possible_L12, s_X5_possible_L12, if_neg g, if_neg g, u1, bd_some, u3, bd_some, C_why R ok n1 n7 hp, bd_some, Z_poss S ok hk84, bd_some]
    by_cases c : q_why a (q_num k) (q_plc k) = 0
    · rw [if_pos c, if_pos c, if_neg (show ¬ (1 : Int32) = 0 from by decide)]
      by_cases c0 : x = 0
      · rw [if_pos c0, if_pos c0, t2, hr]
        exact ⟨r, rfl, rfl⟩
      · rw [if_neg c0, if_neg c0, jn_eq, jn_eq, jn_eq, jn_eq, nI_1]
        exact ih (k + 1) f _ (by omega) (by omega)
    · rw [if_neg c, if_neg c, if_pos rfl, jn_eq, jn_eq, nI_1]
      exact ih (k + 1) f _ (by omega) (by omega)
theorem inv_possible {n : Nat} {T : Nat → Mm} {Z : Mm} (h : Inv n T Z) (hn : n < 512) (a1 : Int32) : ∃ (r : Int32), s_X4_possible T a1 = some r ∧ s_X5_possible Z a1 = some r ∧ Inv (n + 1) T Z := by
  have hb := h.1
  obtain ⟨a, mc, R, S, ok, hmc, G⟩ := hb
  unfold s_X4_possible s_X5_possible
  by_cases c : 0 ≤ a1
  · obtain ⟨r, e1, e2⟩ := poss_loop R S ok 84 0 1000 a1 rfl (by omega)
    rw [if_pos c, if_pos c, show (0 : Int32) = nI 0 from rfl, e1, e2]
    exact ⟨r, rfl, rfl, inv_skip h⟩
  · rw [if_neg c, if_neg c]
    exact ⟨_, rfl, rfl, inv_skip h⟩
