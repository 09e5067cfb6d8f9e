/-! count -/
theorem wts_0 {B : Mm} : s_X0_weightsAt B 0 = some 0 := by
  unfold s_X0_weightsAt s_X0_heightAt
  rw [show s_X0_isPlace 0 = some 0 from by decide, bd_some, if_pos rfl, bd_some, s_X0_weightsAt_L11, if_pos (Int32.le_refl _)]
theorem wt_loop {a : Bd} {B Z : Mm} (R : RC B a) (S : RZ (Z 1) a) : ∀ (j k fc fz : Nat) (x : Int32), k + j = 12 → 2 * j < fc → j < fz → ∃ r, s_X0_weights_L5 fc B x (pk k) = some r ∧ s_X5_allWeights_L4 fz Z x (nI k) = some r := by
  intro j
  induction j with
  | zero =>
    intro k fc fz x hk h1 h2
    obtain ⟨f, rfl⟩ : ∃ f, fc = f + 1 := ⟨fc - 1, by omega⟩
    obtain ⟨g, rfl⟩ : ∃ g, fz = g + 1 := ⟨fz - 1, by omega⟩
    have hk : k = 12 := by omega
    subst hk
    rw [s_X0_weights_L5, s_X5_allWeights_L4, if_pos (show (6 : Int32) < pk 12 from by decide), if_pos (show (12 : Int32) ≤ nI 12 from by decide)]
    exact ⟨_, rfl, rfl⟩
  | succ j ih =>
    intro k fc fz x hk h1 h2
    obtain ⟨f, rfl⟩ : ∃ f, fc = f + 2 := ⟨fc - 2, by omega⟩
    obtain ⟨g, rfl⟩ : ∃ g, fz = g + 1 := ⟨fz - 1, by omega⟩
    obtain ⟨hp, hb, h6, hn⟩ := pk_tab k (by omega)
    rw [s_X0_weights_L5, s_X5_allWeights_L4, if_neg h6, if_neg (show ¬ (12 : Int32) ≤ nI k from nI_ge (b := 12) (by omega) (by decide)), hb, bd_some, C_weights R hp, bd_some, Z_weights S hp, bd_some, jn_eq, jn_eq, jn_eq, jn_eq, nI_1]
    by_cases c : k = 5
    · subst c
      obtain ⟨r, e1, e2⟩ := ih 6 f g (x + q_su (q_co a (sl (pk 5)))) (by omega) (by omega) (by omega)
      refine ⟨r, ?_, e2⟩
      rw [s_X0_weights_L5, show pk 5 + 1 = 0 from by decide, if_neg (show ¬ (6 : Int32) < 0 from by decide), wts_0, bd_some, jn_eq, jn_eq, Int32.add_zero, show (0 : Int32) + 1 = pk 6 from by decide, e1]
    · rw [hn c]
      exact ih (k + 1) (f + 1) g _ (by omega) (by omega) (by omega)
theorem cnt_loop {a : Bd} {B : Mm} (R : RC B a) (ok : q_ok a) : ∀ (j k fc fz : Nat) (x : Int32) {Z : Mm}, k + j = 84 → j < fc → j < fz → RZ (Z 1) a → ∃ r Z', s_X0_possibleMoves_L4 fc B x (nI k) = some r ∧ s_X5_moves_L4 fz Z 0 x (nI k) = some (r, Z') ∧ RZ (Z' 1) a ∧ ZF 1 Z Z' := by
  intro j
  induction j with
  | zero =>
    intro k fc fz x Z hk h1 h2 S
    obtain ⟨f, rfl⟩ : ∃ f, fc = f + 1 := ⟨fc - 1, by omega⟩
    obtain ⟨g, rfl⟩ : ∃ g, fz = g + 1 := ⟨fz - 1, by omega⟩
    have hk : k = 84 := by omega
    subst hk
    rw [s_X0_possibleMoves_L4, s_X5_moves_L4, if_pos (show (84 : Int32) ≤ nI 84 from by decide), if_pos (show (84 : Int32) ≤ nI 84 from by decide)]
    exact ⟨_, _, rfl, rfl, S, ZF.rf⟩
  | succ j ih =>
    intro k fc fz x Z hk h1 h2 S
    obtain ⟨f, rfl⟩ : ∃ f, fc = f + 1 := ⟨fc - 1, by omega⟩
    obtain ⟨g, rfl⟩ : ∃ g, fz = g + 1 := ⟨fz - 1, by omega⟩
    have hk84 : k < 84 := by omega
    obtain ⟨u1, u2, u3, u4, hp, n1, n7⟩ := rank_tab k hk84
    have gk : ¬ (84 : Int32) ≤ nI k := nI_ge (b := 84) hk84 (by decide)
    rw [s_X0_possibleMoves_L4, s_X5_moves_L4, if_neg gk, if_neg gk, u1, bd_some, u3, bd_some, C_why R ok n1 n7 hp, bd_some, Z_poss S ok hk84, bd_some]
    by_cases c : q_why a (q_num k) (q_plc k) = 0
    · have hh := why_hind c
      rw [if_pos c, if_pos c, if_neg (show ¬ (1 : Int32) = 0 from by decide)]
      obtain ⟨N, e1, R1, h6, h7, h8, F1⟩ := Z_ahead S ok hk84 (d := 1) (by decide) hh
      obtain ⟨z2, e2, R2, S2⟩ := Z_back ok S.hc hk84 (d := 1) (by decide) hh R1 h6 h7 h8
      rw [show s_X5_ahead Z 1 (nI k) = _ from e1, bd_some]
      dsimp only [jn]
      rw [if_pos rfl, show s_X5_back N 1 (nI k) = _ from e2, bd_some, nI_1]
      obtain ⟨r, Z3, e4, e5, R4, F4⟩ := ih (k + 1) f g (x + 1) (Z := mset N 1 z2) (by omega) (by omega) (by omega) R2
      exact ⟨r, Z3, e4, e5, R4, (F1.tr (ZF.one S2)).tr F4⟩
    · rw [if_neg c, if_neg c, if_pos rfl, jn_eq, jn_eq, nI_1]
      exact ih (k + 1) f g x (by omega) (by omega) (by omega) S
theorem safe_loop {a : Bd} {B : Mm} (R : RC B a) (ok : q_ok a) : ∀ (j k fc fz : Nat) (x : Int32) {Z : Mm}, k + j = 84 → j < fc → j < fz → RZ (Z 1) a → ∃ r Z', s_X0_safeMoves_L4 fc B x (nI k) = some r ∧ s_X5_moves_L4 fz Z 1 x (nI k) = some (r, Z') ∧ RZ (Z' 1) a ∧ ZF 1 Z Z' := by
  intro j
  induction j with
  | zero =>
    intro k fc fz x Z hk h1 h2 S
    obtain ⟨f, rfl⟩ : ∃ f, fc = f + 1 := ⟨fc - 1, by omega⟩
    obtain ⟨g, rfl⟩ : ∃ g, fz = g + 1 := ⟨fz - 1, by omega⟩
    have hk : k = 84 := by omega
    subst hk
    rw [s_X0_safeMoves_L4, s_X5_moves_L4, if_pos (show (84 : Int32) ≤ nI 84 from by decide), if_pos (show (84 : Int32) ≤ nI 84 from by decide)]
    exact ⟨_, _, rfl, rfl, S, ZF.rf⟩
  | succ j ih =>
    intro k fc fz x Z hk h1 h2 S
    obtain ⟨f, rfl⟩ : ∃ f, fc = f + 1 := ⟨fc - 1, by omega⟩
    obtain ⟨g, rfl⟩ : ∃ g, fz = g + 1 := ⟨fz - 1, by omega⟩
    have hk84 : k < 84 := by omega
    obtain ⟨u1, u2, u3, u4, hp, n1, n7⟩ := rank_tab k hk84
    have gk : ¬ (84 : Int32) ≤ nI k := nI_ge (b := 84) hk84 (by decide)
    rw [s_X0_safeMoves_L4, s_X5_moves_L4, if_neg gk, if_neg gk, u1, bd_some, u3, bd_some, C_why R ok n1 n7 hp, bd_some, Z_poss S ok hk84, bd_some]
    by_cases c : q_why a (q_num k) (q_plc k) = 0
    · have hh := why_hind c
      rw [if_pos c, if_pos c, if_neg (show ¬ (1 : Int32) = 0 from by decide)]
      obtain ⟨N, e1, R1, h6, h7, h8, F1⟩ := Z_ahead S ok hk84 (d := 1) (by decide) hh
      obtain ⟨z2, e2, R2, S2⟩ := Z_back ok S.hc hk84 (d := 1) (by decide) hh R1 h6 h7 h8
      have F2 := (F1.tr (ZF.one S2))
      rw [show s_X5_ahead Z 1 (nI k) = _ from e1, bd_some]
      dsimp only [jn]
      rw [if_neg (show ¬ (1 : Int32) = 0 from by decide), Z_tip R1, bd_some, q_sg_do, tell_tu, C_tell R n1 n7 hp hh, bd_some, rd_e (i := 1) 1 rfl (by decide) (by decide), bd_some, R.2.2.1 1 (by decide), R.2.2.2.2.2.2]
      by_cases c2 : iabs (q_tu a + q_tell a (q_num k) (q_plc k)) ≤ q_sg a 1
      · rw [if_pos c2, if_pos rfl, if_neg (Int32.not_lt.mpr c2), show s_X5_back N 1 (nI k) = _ from e2, bd_some, nI_1]
        obtain ⟨r, Z3, e4, e5, R4, F4⟩ := ih (k + 1) f g (x + 1) (Z := mset N 1 z2) (by omega) (by omega) (by omega) R2
        exact ⟨r, Z3, e4, e5, R4, F2.tr F4⟩
      · rw [if_neg c2, if_neg (show ¬ (1 : Int32) = 0 from by decide), if_pos (Int32.not_le.mp c2), show s_X5_back N 1 (nI k) = _ from e2, bd_some, nI_1, Int32.add_zero]
        obtain ⟨r, Z3, e4, e5, R4, F4⟩ := ih (k + 1) f g x (Z := mset N 1 z2) (by omega) (by omega) (by omega) R2
        exact ⟨r, Z3, e4, e5, R4, F2.tr F4⟩
    · rw [if_neg c, if_neg c, if_pos rfl, jn_eq, jn_eq, nI_1]
      exact ih (k + 1) f g x (by omega) (by omega) (by omega) S
theorem inv_count {n : Nat} {T : Nat → Mm} {Z : Mm} (h : Inv n T Z) (hn : n < 512) (a1 : Int32) : ∃ (r : Int32) (Z' : Mm), s_X4_count T a1 = some r ∧ s_X5_count Z a1 = some (r, Z') ∧ Inv (n + 1) T Z' := by
  have hb := h.1
  obtain ⟨a, mc, R, S, ok, hmc, G⟩ := hb
  have hs := inv_skip h
  have tr : ∀ Z', RZ (Z' 1) a → ZF 1 Z Z' → Inv (n + 1) T Z' := fun Z' S' F => by
    have := h.trial (B' := T 1) ⟨a, mc, R, S', ok, hmc, G.tr S S' RS.rf F.2.2.2.2.2.2.1⟩ F
    rw [tset_self rfl] at this
    exact inv_skip this
  obtain ⟨g1, g2, g3, g4, g5, g6, g7⟩ := G
  unfold s_X4_count s_X5_count
  rw [jn_eq, jn_eq, jn_eq, jn_eq, jn_eq]
  by_cases c0 : a1 = 0
  · subst c0
    rw [if_pos rfl, if_pos rfl]
    unfold s_X0_side
    rw [bd_some, rd_e (i := 4 + 0) 4 rfl (by decide) (by decide), bd_some, S.2.2.2.1, R.2.2.2.1]
    exact ⟨_, _, rfl, rfl, hs⟩
  rw [if_neg c0, if_neg c0]
  by_cases c1 : a1 = 1
  · subst c1
    rw [if_pos rfl, if_pos rfl]
    unfold s_X0_turn
    rw [bd_some, rd_e (i := 4 + 1) 5 rfl (by decide) (by decide), bd_some, S.2.2.2.2.2.2, R.2.2.2.2.2.2]
    exact ⟨_, _, rfl, rfl, hs⟩
  rw [if_neg c1, if_neg c1]
  by_cases c2 : a1 = 2
  · rw [if_pos c2, if_pos c2, C_out R, bd_some, Z_result S ok, bd_some]
    exact ⟨_, _, rfl, rfl, hs⟩
  rw [if_neg c2, if_neg c2]
  by_cases c3 : a1 = 3
  · subst c3
    rw [if_pos rfl, if_pos rfl]
    unfold s_X0_moveCount
    rw [bd_some, rd_e (i := 6 + 3 - 3) 6 rfl (by decide) (by decide), bd_some, g3, g4]
    exact ⟨_, _, rfl, rfl, hs⟩
  rw [if_neg c3, if_neg c3]
  by_cases c4 : a1 = 4
  · subst c4
    rw [if_pos rfl, if_pos rfl]
    unfold s_X0_toldByMoves
    rw [bd_some, rd_e (i := 6 + 4 - 3) 7 rfl (by decide) (by decide), bd_some, g1]
    exact ⟨_, _, rfl, rfl, hs⟩
  rw [if_neg c4, if_neg c4]
  by_cases c5 : a1 = 5
  · subst c5
    rw [if_pos rfl, if_pos rfl]
    unfold s_X0_turn s_X0_toldByMoves
    rw [bd_some, bd_some, rd_e (i := 6 + 5 - 3) 8 rfl (by decide) (by decide), bd_some, g1, g5, S.2.2.2.2.2.2, R.2.2.2.2.2.2]
    exact ⟨_, _, rfl, rfl, hs⟩
  rw [if_neg c5, if_neg c5]
  by_cases c6 : a1 = 6
  · rw [if_pos c6, if_pos c6, C_tokens R, bd_some, Z_tokens S, bd_some]
    exact ⟨_, _, rfl, rfl, hs⟩
  rw [if_neg c6, if_neg c6]
  by_cases c7 : a1 = 7
  · obtain ⟨r, e1, e2⟩ := wt_loop R S 12 0 1000 1000 0 rfl (by omega) (by omega)
    rw [if_pos c7, if_pos c7]
    unfold s_X0_weights s_X5_allWeights
    rw [show (-6 : Int32) = pk 0 from by decide, e1, bd_some, show s_X5_allWeights_L4 1000 Z 0 0 = some r from e2, bd_some]
    exact ⟨_, _, rfl, rfl, hs⟩
  rw [if_neg c7, if_neg c7]
  by_cases c8 : a1 = 8
  · subst c8
    obtain ⟨r, Z', e1, e2, S', F⟩ := cnt_loop R ok 84 0 1000 1000 0 rfl (by omega) (by omega) S
    rw [if_pos rfl, if_pos rfl, if_neg (show ¬ (8 : Int32) = 9 from by decide)]
    unfold s_X0_possibleMoves s_X5_moves
    rw [show s_X0_possibleMoves_L4 1000 (T 1) 0 0 = some r from e1, bd_some, show s_X5_moves_L4 1000 Z 0 0 0 = some (r, Z') from e2, bd_some]
    exact ⟨_, _, rfl, rfl, tr Z' S' F⟩
  rw [if_neg c8, if_neg c8]
  by_cases c9 : a1 = 9
  · subst c9
    obtain ⟨r, Z', e1, e2, S', F⟩ := safe_loop R ok 84 0 1000 1000 0 rfl (by omega) (by omega) S
    rw [if_pos rfl, if_pos rfl, if_pos rfl]
    unfold s_X0_safeMoves s_X5_moves
    rw [show s_X0_safeMoves_L4 1000 (T 1) 0 0 = some r from e1, bd_some, show s_X5_moves_L4 1000 Z 1 0 0 = some (r, Z') from e2, bd_some]
    exact ⟨_, _, rfl, rfl, tr Z' S' F⟩
  rw [if_neg c9, if_neg c9]
  by_cases c10 : a1 = 10
  · rw [if_pos c10, if_pos c10]
    unfold s_X0_greatestTurn
    rw [bd_some, rd_e (i := 9) 9 rfl (by decide) (by decide), bd_some, g2]
    exact ⟨_, _, rfl, rfl, hs⟩
  rw [if_neg c10, if_neg c10]
  have st : ∀ k, k < 4 → ∀ x : Int32, x = nI k → (Option.bind (s_X0_setting (T 1) x) fun v17 => some v17) = some (q_sg a k) ∧ (Option.bind (rd 243 (Z 1) x) fun v113 => some (v113, Z)) = some (q_sg a k, Z) := by
    rintro k hk x rfl
    unfold s_X0_setting
    rw [(set_tab k hk).1, bd_some, if_neg (show ¬ (1 : Int32) = 0 from by decide), rd_n hk (by omega), bd_some, R.2.2.1 k hk, bd_some, rd_n (by omega) (by omega), bd_some, S.2.2.1 k hk]
    exact ⟨rfl, rfl⟩
  by_cases c11 : a1 = 11
  · subst c11
    rw [if_pos rfl, if_pos rfl, (st 0 (by omega) _ (by decide)).1, (st 0 (by omega) _ (by decide)).2]
    exact ⟨_, _, rfl, rfl, hs⟩
  rw [if_neg c11, if_neg c11]
  by_cases c12 : a1 = 12
  · subst c12
    rw [if_pos rfl, if_pos rfl, (st 1 (by omega) _ (by decide)).1, (st 1 (by omega) _ (by decide)).2]
    exact ⟨_, _, rfl, rfl, hs⟩
  rw [if_neg c12, if_neg c12]
  by_cases c13 : a1 = 13
  · subst c13
    rw [if_pos rfl, if_pos rfl, (st 2 (by omega) _ (by decide)).1, (st 2 (by omega) _ (by decide)).2]
    exact ⟨_, _, rfl, rfl, hs⟩
  rw [if_neg c13, if_neg c13]
  by_cases c14 : a1 = 14
  · subst c14
    rw [if_pos rfl, if_pos rfl, (st 3 (by omega) _ (by decide)).1, (st 3 (by omega) _ (by decide)).2]
    exact ⟨_, _, rfl, rfl, hs⟩
  rw [if_neg c14, if_neg c14]
  by_cases c15 : a1 = 15
  · obtain ⟨-, ⟨k, pm, k1, k2, k3, -⟩, -⟩ := h
    rw [if_pos c15, if_pos c15]
    unfold s_X1_size
    rw [bd_some, k2, k3]
    exact ⟨_, _, rfl, rfl, hs⟩
  rw [if_neg c15, if_neg c15]
  by_cases c16 : a1 = 16
  · obtain ⟨-, -, -, -, ⟨t, t1, t2, t3, -⟩⟩ := h
    rw [if_pos c16, if_pos c16]
    unfold s_X2_length
    rw [bd_some, t2, t3]
    exact ⟨_, _, rfl, rfl, hs⟩
  rw [if_neg c16, if_neg c16]
  exact ⟨_, _, rfl, rfl, hs⟩
