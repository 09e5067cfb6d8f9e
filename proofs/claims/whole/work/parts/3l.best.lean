/-! best, play -/
theorem tell_tab : ∀ k, k < 84 → (s_X4_tellMove (nI k)).isSome = true ∧ s_X5_toldMove (nI k) = s_X4_tellMove (nI k) ∧ (0 : Int32) ≤ nI k ∧ nI k ≠ -10005 := by decide +kernel
theorem q_bs_hind {g : Bd → Int} {a : Bd} : ∀ j, (q_bs g a j).1 = -1 ∨ ∃ k : Nat, (q_bs g a j).1 = (k : Int) ∧ q_hind a (q_num k) (q_plc k) = 0 := by
  intro j
  induction j with
  | zero => exact Or.inl rfl
  | succ j ih =>
    unfold q_bs
    by_cases c : q_hind a (q_num j) (q_plc j) = 0
    · rw [if_pos c]
      split
      · exact Or.inr ⟨j, rfl, c⟩
      · exact ih
    · rw [if_neg c]
      exact ih
theorem q_br_why {d : Nat} {a : Bd} {k : Nat} (h : q_br d a = (k : Int)) : q_why a (q_num k) (q_plc k) = 0 := by
  unfold q_br at h
  split at h
  · rename_i c
    rcases q_bs_hind (g := q_val d) (a := a) 84 with e | ⟨k', e, hh⟩
    · omega
    · have : k' = k := by omega
      subst this
      unfold q_why
      rw [if_pos c]
      exact hh
  · omega
theorem inv_bs {n : Nat} {T : Nat → Mm} {Z : Mm} (h : Inv n T Z) {d : Nat} (hd : d < 3) : ∃ B' Z', (∃ x, s_X3_bestRank (T 1) (nI (d + 1)) = some (x, B') ∧ ((∃ k, k < 84 ∧ x = nI k ∧ s_X5_bestMove Z (nI (d + 1)) = some (nI k, Z') ∧ ∃ a mc, RC B' a ∧ RZ (Z' 1) a ∧ q_ok a ∧ q_why a (q_num k) (q_plc k) = 0 ∧ mc ≤ 20 * n ∧ RG B' (Z' 1) mc) ∨ (x = -1 ∧ s_X5_bestMove Z (nI (d + 1)) = some (-10005, Z')))) ∧ Inv n (tset T 1 B') Z' := by
  have hb := h.1
  obtain ⟨a, mc, R, S, ok, hmc, G⟩ := hb
  obtain ⟨B', e1, R', S1⟩ := C_best hd R ok
  obtain ⟨Z', e2, S', F⟩ := Z_best hd S ok
  have G' := G.tr S S' S1 F.2.2.2.2.2.2.1
  have I := h.trial ⟨a, mc, R', S', ok, hmc, G'⟩ F
  refine ⟨B', Z', ⟨_, e1, ?_⟩, I⟩
  rcases q_br_r d a with hr | ⟨r1, r2⟩
  · refine Or.inr ⟨?_, ?_⟩
    · rw [hr]; rfl
    · rw [e2, hr]; rfl
  · obtain ⟨k, hk⟩ : ∃ k : Nat, q_br d a = (k : Int) := ⟨(q_br d a).toNat, by omega⟩
    refine Or.inl ⟨k, by omega, ?_, ?_, a, mc, R', S', ok, q_br_why hk, hmc, G'⟩
    · rw [hk]; rfl
    · rw [e2, hk, show q_bx (k : Int) = (k : Int) from if_neg (by omega)]; rfl
theorem inv_best {n : Nat} {T : Nat → Mm} {Z : Mm} (h : Inv n T Z) (hn : n < 512) (a1 : Int32) : ∃ (r : Int32) (T' : Nat → Mm) (Z' : Mm), s_X4_best T a1 = some (r, T') ∧ s_X5_best Z a1 = some (r, Z') ∧ Inv (n + 1) T' Z' := by
  unfold s_X4_best s_X5_best
  rcases in_dec 1 3 (by omega) (by omega) a1 with ⟨d, d1, hd, rfl, e, c1, c2⟩ | ⟨e, c⟩
  · obtain ⟨d, rfl⟩ : ∃ e, d = e + 1 := ⟨d - 1, by omega⟩
    rw [show s_X5_in (nI (d + 1)) 1 3 = some 1 from e, bd_some, if_neg (show ¬ (1 : Int32) = 0 from by decide), if_neg (show ¬ nI (d + 1) < 1 from c1), if_pos (show nI (d + 1) ≤ 3 from c2)]
    obtain ⟨B', Z', ⟨x, e1, hx⟩, I⟩ := inv_bs h (d := d) (by omega)
    rw [e1, bd_some, jn_eq]
    rcases hx with ⟨k, hk, rfl, e2, -⟩ | ⟨rfl, e2⟩
    · obtain ⟨t1, t2, t3, t4⟩ := tell_tab k hk
      obtain ⟨r, hr⟩ := Option.isSome_iff_exists.mp t1
      rw [e2, bd_some, jn_eq]
      dsimp only
      rw [if_pos t3, if_neg t4, t2, hr]
      exact ⟨_, _, _, rfl, rfl, inv_skip I⟩
    · rw [e2, bd_some, jn_eq]
      exact ⟨_, _, _, rfl, rfl, inv_skip I⟩
  · rw [show s_X5_in a1 1 3 = some 0 from e, bd_some, if_pos rfl]
    refine ⟨-10002, T, Z, ?_, rfl, inv_skip h⟩
    by_cases c1 : a1 < 1
    · rw [if_pos c1]
    · rw [if_neg c1, if_neg (show ¬ a1 ≤ 3 from c c1)]
theorem inv_play {n : Nat} {T : Nat → Mm} {Z : Mm} (h : Inv n T Z) (hn : n < 512) (a1 : Int32) : ∃ (r : Int32) (T' : Nat → Mm) (Z' : Mm), s_X4_play T a1 = some (r, T') ∧ s_X5_play Z a1 = some (r, Z') ∧ Inv (n + 1) T' Z' := by
  unfold s_X4_play s_X5_play
  rcases in_dec 1 3 (by omega) (by omega) a1 with ⟨d, d1, hd, rfl, e, c1, c2⟩ | ⟨e, c⟩
  · obtain ⟨d, rfl⟩ : ∃ e, d = e + 1 := ⟨d - 1, by omega⟩
    rw [show s_X5_in (nI (d + 1)) 1 3 = some 1 from e, bd_some, if_neg (show ¬ (1 : Int32) = 0 from by decide), if_neg (show ¬ nI (d + 1) < 1 from c1), if_pos (show nI (d + 1) ≤ 3 from c2)]
    obtain ⟨B', Z', ⟨x, e1, hx⟩, I⟩ := inv_bs h (d := d) (by omega)
    rw [e1, bd_some, jn_eq]
    rcases hx with ⟨k, hk, rfl, e2, a, mc, R, S, ok, hw, hmc, G⟩ | ⟨rfl, e2⟩
    · obtain ⟨t1, t2, t3, t4⟩ := tell_tab k hk
      obtain ⟨u1, u2, u3, u4, hp, n1, n7⟩ := rank_tab k hk
      rw [e2, bd_some, jn_eq]
      dsimp only
      obtain ⟨r, T', Z2, e3, e4, I2⟩ := inv_move I hn n1 n7 hp
      unfold s_X5_tryMove at e4
      rw [Z_why S ok n1 n7 hp, bd_some, hw, if_pos (Int32.le_refl _)] at e4
      rw [if_pos t3, if_neg t4, u1, bd_some, u3, bd_some, e3, bd_some, u2, u4]
      exact ⟨_, _, _, rfl, e4, I2⟩
    · rw [e2, bd_some, jn_eq]
      exact ⟨_, _, _, rfl, rfl, inv_skip I⟩
  · rw [show s_X5_in a1 1 3 = some 0 from e, bd_some, if_pos rfl]
    refine ⟨-10002, T, Z, ?_, rfl, inv_skip h⟩
    by_cases c1 : a1 < 1
    · rw [if_pos c1]
    · rw [if_neg c1, if_neg (show ¬ a1 ≤ 3 from c c1)]
