/-! setUp -/
theorem inv_setUp {n : Nat} {T : Nat → Mm} {Z : Mm} (h : Inv n T Z) (hn : n < 512) (a1 a2 : Int32) : ∃ (r : Int32) (T' : Nat → Mm) (Z' : Mm), s_X4_setUp T a1 a2 = some (r, T') ∧ s_X5_setUp Z a1 a2 = some (r, Z') ∧ Inv (n + 1) T' Z' := by
  have hb := h.1
  obtain ⟨a, mc, R, S, ok, hmc, G⟩ := hb
  obtain ⟨T1, Z1, e1, e2, I1, F1⟩ := h.rec
  unfold s_X4_setUp s_X5_setUp
  rcases wt_dec a1 with ⟨w, k1, k5, rfl, u1, u2⟩ | ⟨u1, u2⟩
  · rw [u1, u2, bd_some, bd_some, if_neg (show ¬ (1 : Int32) = 0 from by decide), if_neg (show ¬ (1 : Int32) = 0 from by decide)]
    by_cases hp : a2 ∈ pls
    · rw [pl_is _ hp, pl_isZ _ hp, bd_some, bd_some, if_neg (show ¬ (1 : Int32) = 0 from by decide), if_neg (show ¬ (1 : Int32) = 0 from by decide), C_full R hp, bd_some, Z_many S hp, bd_some, rd_e (i := 0) 0 rfl (by decide) (by decide), bd_some, S.2.2.1 0 (by omega)]
      by_cases c : nI (q_co a (sl a2)).length < q_sg a 0
      · have hl : (q_co a (sl a2)).length < 4 := by
          obtain ⟨m, m1, m4, em⟩ := ok.2.2.2.1
          have h4 := R.co hp
          rw [em] at c
          have := Int32.lt_iff_toInt_lt.mp c
          rw [nI_toInt (by omega), nI_toInt (by omega)] at this
          omega
        have t1 := F1.1 1 (by omega)
        have z1 := F1.2.1 1 (by omega) (by omega)
        obtain ⟨B', e3, R', S1⟩ := C_put (B := T1 1) (by rw [t1]; exact R) hp (nI w) hl
        obtain ⟨z', e4, S', Sz⟩ := Z_put (Z := Z1) (z := Z1 1) (by rw [z1]; exact S) hp (nI w) hl
        rw [show mset Z1 1 (Z1 1) = Z1 from ms_self] at e4
        rw [if_pos c, if_pos (show (0 : Int32) = 0 from rfl), if_pos c, e1, bd_some, e2, bd_some, e3, bd_some, e4, bd_some]
        rw [ms_eq, rd_e (i := 8) 8 rfl (by decide) (by decide), bd_some, wr1e (i := 8) 8 rfl (by decide) (by decide), bd_some, ms_eq, rd_e (i := 5) 5 rfl (by decide) (by decide), bd_some, up_ne (by omega), S'.2.2.2.2.2.2]
        unfold s_X0_turn
        rw [bd_some, ts_eq, R'.2.2.2.2.2.2]
        have G1 : RG (T1 1) (Z1 1) mc := by rw [t1, z1]; exact G
        refine ⟨_, _, _, rfl, rfl, I1.new (Nat.le_succ n) ⟨_, mc, R', S'.hi (by omega), ok, by omega, ?_⟩⟩
        obtain ⟨r1, r2, r3, r4, r5, r6, r7⟩ := G1
        obtain ⟨h1, h2, h3, h4⟩ := S1
        refine ⟨?_, ?_, h4.trans r3, (up_ne (by omega)).trans ((Sz 6 (by omega)).trans r4), ?_, (up_ne (by omega)).trans ((Sz 12 (by omega)).trans r6), fun back hb q hq => ?_⟩
        · rw [up_ne (by omega), h2, Sz 7 (by omega), r1]
        · rw [up_ne (by omega), h3, Sz 9 (by omega), r2]
        · rw [up_eq, up_ne (by omega), up_ne (by omega), Sz 8 (by omega), Sz 7 (by omega), r5, S'.2.2.2.2.2.2, z1, S.2.2.2.2.2.2]
          show q_tu a - Z 1 7 + nI w * a2 = q_tu a + nI w * a2 - Z 1 7
          grind
        · rw [up_ne (by omega), h1, Sz _ (by omega)]
          exact r7 back hb q hq
      · rw [if_neg c, if_neg (show ¬ (1 : Int32) = 0 from by decide), if_neg c]
        exact ⟨_, _, _, rfl, rfl, inv_skip h⟩
    · rw [(pl_no hp).1, (pl_no hp).2]
      exact ⟨_, _, _, rfl, rfl, inv_skip h⟩
  · rw [u1, u2]
    exact ⟨_, _, _, rfl, rfl, inv_skip h⟩
