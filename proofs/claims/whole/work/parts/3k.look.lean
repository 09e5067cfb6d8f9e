/-! look, best, play -/
theorem RG.tr {a : Bd} {B B' : Mm} {z z' : Nat → Int32} {mc : Nat} (G : RG B z mc) (S : RZ z a) (S' : RZ z' a) (h : RS B B') (hz : ZS z z') : RG B' z' mc := by
  obtain ⟨r1, r2, r3, r4, r5, r6, r7⟩ := G
  obtain ⟨h1, h2, h3, h4⟩ := h
  refine ⟨?_, ?_, h4.trans r3, (hz 6 (by omega)).trans r4, ?_, (hz 12 (by omega)).trans r6, fun back hb q hq => ?_⟩
  · rw [h2, hz 7 (by omega), r1]
  · rw [h3, hz 9 (by omega), r2]
  · rw [hz 8 (by omega), hz 7 (by omega), r5, S.2.2.2.2.2.2, S'.2.2.2.2.2.2]
  · rw [h1, hz _ (by omega)]
    exact r7 back hb q hq
theorem Inv.trial {n d : Nat} {T : Nat → Mm} {Z Z' : Mm} {B' : Mm} (h : Inv n T Z) (hb : RB n B' (Z' 1)) (F : ZF d Z Z') : Inv n (tset T 1 B') Z' := by
  obtain ⟨h1, ⟨k, pm, k1, k2, k3, k4, k5, k6⟩, h3, h4, h5⟩ := h
  obtain ⟨f0, f2, f3, f4, f5, f9, -⟩ := F
  refine ⟨hb, ⟨k, pm, k1, k2, ?_, k4, k5, fun i hi => ?_⟩, ?_, ?_, ?_⟩
  · rw [f0]; exact k3
  · rw [ts_ne (by omega), f2]
    exact k6 i hi
  · unfold KE
    rw [f0, f3]; exact h3
  · unfold SP
    rw [f0]; exact h4
  · unfold TX
    rw [f0, f5]; exact h5
theorem in_dec (a b : Nat) (ha : a < 1000) (hb : b < 1000) (x : Int32) : (∃ k, a ≤ k ∧ k ≤ b ∧ x = nI k ∧ s_X5_in x (nI a) (nI b) = some 1 ∧ ¬ x < nI a ∧ x ≤ nI b) ∨ (s_X5_in x (nI a) (nI b) = some 0 ∧ (¬ x < nI a → ¬ x ≤ nI b)) := by
  unfold s_X5_in
  by_cases c1 : x < nI a
  · rw [if_pos c1]
    exact Or.inr ⟨rfl, fun h => absurd c1 h⟩
  · by_cases c2 : nI b < x
    · rw [if_neg c1, if_pos c2]
      exact Or.inr ⟨rfl, fun _ => Int32.not_le.mpr c2⟩
    · obtain ⟨k, k1, k2, e⟩ := nI_enum ha hb c1 c2
      rw [if_neg c1, if_neg c2]
      exact Or.inl ⟨k, k1, k2, e, rfl, c1, Int32.not_lt.mp c2⟩
theorem inv_look {n : Nat} {T : Nat → Mm} {Z : Mm} (h : Inv n T Z) (hn : n < 512) (a1 : Int32) : ∃ (r : Int32) (T' : Nat → Mm) (Z' : Mm), s_X4_look T a1 = some (r, T') ∧ s_X5_look Z a1 = some (r, Z') ∧ Inv (n + 1) T' Z' := by
  have hb := h.1
  obtain ⟨a, mc, R, S, ok, hmc, G⟩ := hb
  unfold s_X4_look s_X5_look
  rcases in_dec 0 3 (by omega) (by omega) a1 with ⟨d, -, hd, rfl, e, c1, c2⟩ | ⟨e, c⟩
  · rw [show s_X5_in (nI d) 0 3 = some 1 from e, bd_some, if_neg (show ¬ (1 : Int32) = 0 from by decide), if_neg (show ¬ nI d < 0 from c1), if_pos (show nI d ≤ 3 from c2)]
    obtain ⟨r, B', e1, R', S1, hP⟩ := A_ok d 5 (by omega) (by omega) (T 1) a (-1) 1 R ok (by omega) (by omega) (by omega)
    obtain ⟨Z', e2, S', F⟩ := Z_looked S ok (d := d) (by omega)
    unfold s_X3_lookAhead
    rw [show s_X3_ahead 5 (T 1) (nI d) (-1) 1 = some (iI r, B') from e1, e2, bd_some, bd_some, bd_some]
    have hv := q_val_r d a
    have er : r = q_val d a := by
      obtain ⟨p1, p2, p3, p4, p5⟩ := hP
      by_cases x1 : r ≤ -1
      · have := p1 x1; omega
      · by_cases x2 : 1 ≤ r
        · have := p2 x2; omega
        · exact p3 (by omega) (by omega)
    rw [er]
    exact ⟨_, _, _, rfl, rfl, inv_skip (h.trial ⟨a, mc, R', S', ok, hmc, G.tr S S' S1 F.2.2.2.2.2.2.1⟩ F)⟩
  · rw [show s_X5_in a1 0 3 = some 0 from e, bd_some, if_pos rfl]
    refine ⟨-10002, T, Z, ?_, rfl, inv_skip h⟩
    by_cases c1 : a1 < 0
    · rw [if_pos c1]
    · rw [if_neg c1, if_neg (show ¬ a1 ≤ 3 from c c1)]
