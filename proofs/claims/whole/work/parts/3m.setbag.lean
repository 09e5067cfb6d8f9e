/-! setBag -/
theorem q_ok_bag {a : Bd} {i w k : Nat} {d : Int32} (ok : q_ok a) (hk : k ≤ 6) (e : q_bg a i w + d = nI k) : q_ok (q_bag a i w d) := by
  obtain ⟨o1, o2, o3, o4⟩ := ok
  refine ⟨o1, o2, fun j hj v v1 v5 => ?_, o4⟩
  show ∃ n, n ≤ 6 ∧ (if j = i ∧ v = w then q_bg a j v + d else q_bg a j v) = nI n
  by_cases c : j = i ∧ v = w
  · rw [if_pos c, c.1, c.2]
    exact ⟨k, hk, e⟩
  · rw [if_neg c]
    exact o3 j hj v v1 v5
theorem inv_setBag {n : Nat} {T : Nat → Mm} {Z : Mm} (h : Inv n T Z) (hn : n < 512) (a1 a2 a3 : Int32) : ∃ (r : Int32) (T' : Nat → Mm) (Z' : Mm), s_X4_setBag T a1 a2 a3 = some (r, T') ∧ s_X5_setBag Z a1 a2 a3 = some (r, Z') ∧ Inv (n + 1) T' Z' := by
  have hb := h.1
  obtain ⟨a, mc, R, S, ok, hmc, G⟩ := hb
  obtain ⟨T1, Z1, e1, e2, I1, F1⟩ := h.rec
  unfold s_X4_setBag s_X5_setBag
  rcases sd_dec a1 with ⟨i, hi, rfl, w1, w2⟩ | ⟨w1, w2⟩
  · rw [w1, w2, bd_some, bd_some, if_neg (show ¬ (1 : Int32) = 0 from by decide), if_neg (show ¬ (1 : Int32) = 0 from by decide)]
    rcases wt_dec a2 with ⟨w, k1, k5, rfl, u1, u2⟩ | ⟨u1, u2⟩
    · rw [u1, u2, bd_some, bd_some, if_neg (show ¬ (1 : Int32) = 0 from by decide), if_neg (show ¬ (1 : Int32) = 0 from by decide)]
      rcases in_dec 0 6 (by omega) (by omega) a3 with ⟨d, d1, hd, rfl, e, c1, c2⟩ | ⟨e, c⟩
      · rw [show s_X5_in (nI d) 0 6 = some 1 from e, bd_some, if_neg (show ¬ (1 : Int32) = 0 from by decide), if_neg (show ¬ nI d < 0 from c1), if_pos (show nI d ≤ 6 from c2), C_inBag R hi k1 k5, Z_inBag S hi k1 k5, bd_some, bd_some]
        by_cases c : q_bg a i w = nI d
        · rw [if_pos c, if_pos c]
          exact ⟨_, _, _, rfl, rfl, inv_skip h⟩
        · have t1 := F1.1 1 (by omega)
          have z1 := F1.2.1 1 (by omega) (by omega)
          have ed : q_bg a i w + (nI d - q_bg a i w) = nI d := by grind
          obtain ⟨B', e3, R', S1⟩ := C_bag (B := T1 1) (by rw [t1]; exact R) (nI d - q_bg a i w) hi k1 k5
          obtain ⟨z', e4, S', Sz⟩ := Z_addBag (Z := Z1) (z := Z1 1) (by rw [z1]; exact S) (nI d - q_bg a i w) hi k1 k5
          rw [show mset Z1 1 (Z1 1) = Z1 from ms_self] at e4
          unfold s_X5_addBag at e4
          rw [Z_bagAt, bd_some, rd_n (by omega) (by omega), bd_some, z1, S.2.1 i hi w k1 k5, ed] at e4
          rw [if_neg c, if_neg c, e1, bd_some, e3, bd_some, e2, bd_some, Z_bagAt, bd_some]
          obtain ⟨N, e5, e6⟩ := ob e4
          have e6 : N = mset Z1 1 z' := Option.some.inj e6
          subst e6
          rw [e5, bd_some]
          have G1 : RG (T1 1) (Z1 1) mc := by rw [t1, z1]; exact G
          refine ⟨_, _, _, rfl, rfl, I1.new (Nat.le_succ n) ⟨_, mc, R', S', q_ok_bag ok hd ed, by omega, ?_⟩⟩
          obtain ⟨r1, r2, r3, r4, r5, r6, r7⟩ := G1
          obtain ⟨h1, h2, h3, h4⟩ := S1
          refine ⟨?_, ?_, h4.trans r3, (Sz 6 (by omega)).trans r4, ?_, (Sz 12 (by omega)).trans r6, fun back hb q hq => ?_⟩
          · rw [h2, Sz 7 (by omega), r1]
          · rw [h3, Sz 9 (by omega), r2]
          · rw [Sz 8 (by omega), Sz 7 (by omega), r5, S'.2.2.2.2.2.2, z1, S.2.2.2.2.2.2]
            rfl
          · rw [h1, Sz _ (by omega)]
            exact r7 back hb q hq
      · rw [show s_X5_in a3 0 6 = some 0 from e, bd_some, if_pos rfl]
        refine ⟨-10002, T, Z, ?_, rfl, inv_skip h⟩
        by_cases c1 : a3 < 0
        · rw [if_pos c1]
        · rw [if_neg c1, if_neg (show ¬ a3 ≤ 6 from c c1)]
    · rw [u1, u2]
      exact ⟨_, _, _, rfl, rfl, inv_skip h⟩
  · rw [w1, w2]
    exact ⟨_, _, _, rfl, rfl, inv_skip h⟩
