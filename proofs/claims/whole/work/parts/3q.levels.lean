/-! levels -/
def pk (k : Nat) : Int32 := if k < 6 then nI k - 6 else nI k - 5
theorem pk_tab : ∀ k, k < 12 → pk k ∈ pls ∧ s_X5_placeBy (nI k) = some (pk k) ∧ ¬ 6 < pk k ∧ (k ≠ 5 → pk k + 1 = pk (k + 1)) := by decide +kernel
theorem lev_loop {a : Bd} {T : Nat → Mm} {Z : Mm} {x : Int32} (R : RC (T 1) a) (S : RZ (Z 1) a) : ∀ (j k fc fz : Nat), k + j = 12 → 2 * j < fc → j < fz → ∃ r, s_X4_levels_L14 fc T x (pk k) = some r ∧ s_X5_levels_L13 fz Z x (nI k) = some r := by
  intro j
  induction j with
  | zero =>
    intro k fc fz hk h1 h2
    obtain ⟨f, rfl⟩ : ∃ f, fc = f + 1 := ⟨fc - 1, by omega⟩
    obtain ⟨g, rfl⟩ : ∃ g, fz = g + 1 := ⟨fz - 1, by omega⟩
    have hk : k = 12 := by omega
    subst hk
    rw [s_X4_levels_L14, s_X5_levels_L13, if_pos (show (6 : Int32) < pk 12 from by decide), if_pos (show (12 : Int32) ≤ nI 12 from by decide)]
    exact ⟨_, rfl, rfl⟩
  | succ j ih =>
    intro k fc fz hk h1 h2
    obtain ⟨f, rfl⟩ : ∃ f, fc = f + 2 := ⟨fc - 2, by omega⟩
    obtain ⟨g, rfl⟩ : ∃ g, fz = g + 1 := ⟨fz - 1, by omega⟩
    obtain ⟨hp, hb, h6, hn⟩ := pk_tab k (by omega)
    have nx : ∃ r, s_X4_levels_L14 (f + 1) T x (pk k + 1) = some r ∧ s_X5_levels_L13 g Z x (nI (k + 1)) = some r := by
      by_cases c : k = 5
      · subst c
        obtain ⟨r, e1, e2⟩ := ih 6 f g (by omega) (by omega) (by omega)
        refine ⟨r, ?_, e2⟩
        rw [s_X4_levels_L14, show pk 5 + 1 = 0 from by decide, if_neg (show ¬ (6 : Int32) < 0 from by decide)]
        unfold s_X0_turn
        rw [bd_some, show s_X0_isPlace 0 = some 0 from by decide, bd_some, if_pos (show (0 : Int32) = 0 from rfl), jn_eq, ite_self, show (0 : Int32) + 1 = pk 6 from by decide, e1]
      · rw [hn c]
        exact ih (k + 1) (f + 1) g (by omega) (by omega) (by omega)
    rw [s_X4_levels_L14, s_X5_levels_L13, if_neg h6, if_neg (show ¬ (12 : Int32) ≤ nI k from nI_ge (b := 12) (by omega) (by decide)), hb, bd_some, rd_e (i := 5) 5 rfl (by decide) (by decide), bd_some, S.2.2.2.2.2.2]
    unfold s_X0_turn
    rw [bd_some, R.2.2.2.2.2.2, Int32.add_comm (x * pk k) (q_tu a), pl_is _ hp, bd_some, if_neg (show ¬ (1 : Int32) = 0 from by decide), C_full R hp, bd_some, Z_many S hp, bd_some, rd_e (i := 0) 0 rfl (by decide) (by decide), bd_some, S.2.2.1 0 (by omega)]
    by_cases c : q_tu a + x * pk k = 0
    · rw [if_pos c, if_pos c]
      by_cases c2 : nI (q_co a (sl (pk k))).length < q_sg a 0
      · rw [if_pos c2, if_pos rfl, if_neg (Int32.not_le.mpr c2)]
        exact ⟨_, rfl, rfl⟩
      · rw [if_neg c2, if_neg (show ¬ (1 : Int32) = 0 from by decide), if_pos (Int32.not_lt.mp c2), jn_eq, jn_eq, nI_1]
        exact nx
    · rw [if_neg c, if_neg c, jn_eq, jn_eq, nI_1]
      exact nx
theorem inv_levels {n : Nat} {T : Nat → Mm} {Z : Mm} (h : Inv n T Z) (hn : n < 512) (a1 : Int32) : ∃ (r : Int32), s_X4_levels T a1 = some r ∧ s_X5_levels Z a1 = some r ∧ Inv (n + 1) T Z := by
  have hb := h.1
  obtain ⟨a, mc, R, S, ok, hmc, G⟩ := hb
  unfold s_X4_levels s_X5_levels
  rcases wt_dec a1 with ⟨w, k1, k5, rfl, u1, u2⟩ | ⟨u1, u2⟩
  · obtain ⟨r, e1, e2⟩ := lev_loop (x := nI w) R S 12 0 1000 1000 rfl (by omega) (by omega)
    rw [u1, u2, bd_some, bd_some, if_neg (show ¬ (1 : Int32) = 0 from by decide), if_neg (show ¬ (1 : Int32) = 0 from by decide), show (-6 : Int32) = pk 0 from by decide, show (0 : Int32) = nI 0 from rfl, e1, e2]
    exact ⟨r, rfl, rfl, inv_skip h⟩
  · rw [u1, u2]
    exact ⟨_, rfl, rfl, inv_skip h⟩
