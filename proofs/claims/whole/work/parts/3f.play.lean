/-! lay and push -/
theorem B_move {a : Bd} {B Z : Mm} {mc n : Nat} {p : Int32} (R : RC B a) (S : RZ (Z 1) a) (ok : q_ok a) (G : RG B (Z 1) mc) (hm : mc < 10368) (h1 : 1 ≤ n) (h7 : n ≤ 7) (hp : p ∈ pls) (hh : q_hind a n p = 0) :
    ∃ B' z', s_X0_makeMove B (nI n) p = some B' ∧ s_X5_moveIt Z (nI n) p = some (q_tu (q_do a n p), mset Z 1 z') ∧ RC B' (q_do a n p) ∧ RZ z' (q_do a n p) ∧ q_ok (q_do a n p) ∧ RG B' z' (mc + 1) := by
  obtain ⟨g1, g2, g3, g4, g5, g6, g7⟩ := G
  obtain ⟨B', e1, R1, b9, b10, b11, ⟨c0, c1, c2, c3⟩, bl⟩ := C_make R ok g3 hm h1 h7 hp hh
  obtain ⟨z', e2, S1, z6, z7, z8, z9, z12, ⟨d0, d1, d2, d3⟩, zl⟩ := Z_move (Z := Z) S ok (show min mc 40 ≤ 40 by omega) g6 h1 h7 hp hh
  rw [show mset Z 1 (Z 1) = Z from ms_self] at e2
  have eL : min (min mc 40) 39 = min mc 39 := by omega
  rw [eL] at d0 d1 d2 d3 zl z12
  refine ⟨B', z', e1, e2, R1, S1, q_ok_do ok h1 hh, ?_, ?_, b11, ?_, ?_, ?_, fun back hb q hq => ?_⟩
  · rw [b9, z7, g1]
  · rw [b10, z9, g2]
  · rw [z6, g4, nI_1]
  · rw [z8, g5, S1.2.2.2.2.2.2, z7, S.2.2.2.2.2.2, tell_tu]
    grind
  · rw [z12]
    congr 1
    omega
  · by_cases c : back = 0
    · subst c
      rw [show (mc + 1 - 1 - 0) % 40 = mc % 40 from by omega, show min (mc + 1) 40 - 1 - 0 = min mc 39 from by omega]
      have : q = 0 ∨ q = 1 ∨ q = 2 ∨ q = 3 := by omega
      rcases this with rfl | rfl | rfl | rfl
      · exact c0.trans d0.symm
      · exact c1.trans d1.symm
      · exact c2.trans d2.symm
      · exact c3.trans d3.symm
    · have h := g7 (back - 1) (by omega) q hq
      rw [bl _ (by omega), show mc + 1 - 1 - back = mc - 1 - (back - 1) from by omega, h, show 83 + 4 * (min (mc + 1) 40 - 1 - back) + q = 83 + (4 * (min (mc + 1) 40 - 1 - back) + q) from by omega, zl _ (by omega)]
      by_cases c4 : min mc 40 = 40
      · rw [if_pos c4]
        congr 1
        omega
      · rw [if_neg c4]
        congr 1
        omega
theorem q_hind_r {a : Bd} {n : Nat} {p : Int32} : q_hind a n p = 0 ∨ ¬ q_hind a n p ≤ 0 := by
  unfold q_hind q_h4
  repeat' split
  all_goals first | exact Or.inl rfl | exact Or.inr (by decide)
theorem q_why_r {a : Bd} {n : Nat} {p : Int32} : q_why a n p = 0 ∨ ¬ q_why a n p ≤ 0 := by
  unfold q_why
  split
  · exact q_hind_r
  · exact Or.inr (by decide)
theorem why_hind {a : Bd} {n : Nat} {p : Int32} (h : q_why a n p = 0) : q_hind a n p = 0 := by
  unfold q_why at h
  split at h
  · exact h
  · exact absurd h (by decide)
/-- a new beam in place of the one there -/
theorem Inv.new {n m : Nat} {T : Nat → Mm} {Z : Mm} {B : Mm} {z : Nat → Int32} (h : Inv n T Z) (hm : n ≤ m) (hb : RB m B z) : Inv m (tset T 1 B) (mset Z 1 z) := by
  obtain ⟨h1, ⟨k, pm, k1, k2, k3, k4, k5, k6⟩, h3, h4, h5⟩ := h.up hm
  refine ⟨hb, ⟨k, pm, k1, k2, k3, k4, k5, fun i hi => ?_⟩, h3, h4, h5⟩
  rw [ts_ne (by omega)]
  exact k6 i hi
theorem inv_move {n : Nat} {T : Nat → Mm} {Z : Mm} (h : Inv n T Z) (hn : n < 512) {k : Nat} {p : Int32} (h1 : 1 ≤ k) (h7 : k ≤ 7) (hp : p ∈ pls) : ∃ (r : Int32) (T' : Nat → Mm) (Z' : Mm), s_X4_makeMove T (nI k) p = some (r, T') ∧ s_X5_tryMove Z (nI k) p = some (r, Z') ∧ Inv (n + 1) T' Z' := by
  obtain ⟨T1, Z1, e1, e2, I1, F1⟩ := h.rec
  have hb := h.1
  have hb1 := hb
  obtain ⟨a, mc, R, S, ok, hmc, G⟩ := hb
  unfold s_X4_makeMove s_X5_tryMove
  rw [C_why R ok h1 h7 hp, bd_some, Z_why S ok h1 h7 hp, bd_some]
  rcases q_why_r (a := a) (n := k) (p := p) with hw | hw
  · rw [if_pos hw, if_pos (by rw [hw]; exact Int32.le_refl _), e1, bd_some, e2, bd_some]
    have t1 := F1.1 1 (by omega)
    have z1 := F1.2.1 1 (by omega) (by omega)
    obtain ⟨B', z', e3, e4, R', S', ok', G'⟩ := B_move (B := T1 1) (Z := Z1) (by rw [t1]; exact R) (by rw [z1]; exact S) ok (mc := mc) (by rw [t1, z1]; exact G) (by omega) h1 h7 hp (why_hind hw)
    rw [e3, bd_some, e4, bd_some]
    unfold s_X0_turn
    rw [bd_some, ts_eq, R'.2.2.2.2.2.2]
    exact ⟨_, _, _, rfl, rfl, I1.new (Nat.le_succ n) ⟨_, _, R', S', ok', by omega, G'⟩⟩
  · rw [if_neg (fun e => hw (by rw [e]; exact Int32.le_refl _)), if_neg hw]
    exact ⟨_, _, _, rfl, rfl, inv_skip h⟩
