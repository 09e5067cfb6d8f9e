/-! made -/
theorem nI_sub {a b : Nat} (h : b ≤ a) : nI a - nI b = nI (a - b) := by
  have e := nI_add (a - b) b
  rw [Nat.sub_add_cancel h] at e
  rw [← e]
  grind
theorem C_kept {B : Mm} {mc j : Nat} (h : B 0 11 = nI mc) (hm : mc < 10368) (hj : j < 2 ^ 31) : s_X0_isMoveKept B (nI j) = some (if j < min mc 40 then 1 else 0) := by
  unfold s_X0_isMoveKept
  rw [if_neg (show ¬ nI j < 0 from nI_pos hj), h]
  by_cases c1 : 40 ≤ j
  · rw [if_pos (show (40 : Int32) ≤ nI j from nI_le (a := 40) c1 hj), if_neg (by omega)]
  · rw [if_neg (show ¬ (40 : Int32) ≤ nI j from nI_ge (b := 40) (by omega) (by omega))]
    by_cases c2 : mc ≤ j
    · rw [if_pos (nI_le c2 hj), if_neg (by omega)]
    · rw [if_neg (nI_ge (by omega) (by omega)), if_pos (by omega)]
theorem inv_made {n : Nat} {T : Nat → Mm} {Z : Mm} (h : Inv n T Z) (hn : n < 512) (a1 a2 : Int32) : ∃ (r : Int32), s_X4_made T a1 a2 = some r ∧ s_X5_made Z a1 a2 = some r ∧ Inv (n + 1) T Z := by
  have hb := h.1
  obtain ⟨a, mc, R, S, ok, hmc, g1, g2, g3, g4, g5, g6, g7⟩ := hb
  unfold s_X4_made s_X5_made
  by_cases c : a1 < 0
  · rw [if_pos c, if_pos c]
    exact ⟨_, rfl, rfl, inv_skip h⟩
  · obtain ⟨j, hj, rfl⟩ := nI_of c
    rw [if_neg c, if_neg c]
    have K := C_kept g3 (by omega) hj
    rcases in_dec 0 3 (by omega) (by omega) a2 with ⟨q, -, q3, rfl, e, -, -⟩ | ⟨e, l1⟩
    · have p1 : ¬ nI q < 0 := nI_pos (by omega)
      have p2 : nI q < 4 := nI_lt (b := 4) (by omega) (by omega)
      rw [show s_X5_in (nI q) 0 3 = some 1 from e, bd_some, if_neg (show ¬ (1 : Int32) = 0 from by decide), if_neg p1, if_pos p2, rd_e (i := 12) 12 rfl (by decide) (by decide), bd_some, g6, K, bd_some]
      by_cases c3 : j < min mc 40
      · have e1 : nI mc - 1 - nI j = nI (mc - 1 - j) := by
          rw [show nI mc - 1 = nI (mc - 1) from nI_sub (b := 1) (by omega), nI_sub (by omega)]
        have e2 : nI (min mc 40) - 1 - nI j = nI (min mc 40 - 1 - j) := by
          rw [show nI (min mc 40) - 1 = nI (min mc 40 - 1) from nI_sub (b := 1) (by omega), nI_sub (by omega)]
        rw [if_pos c3, if_neg (show ¬ (1 : Int32) = 0 from by decide), if_neg (nI_ge c3 (by omega)), bd_some]
        unfold s_X0_partOfMove
        rw [K, bd_some, if_pos c3, if_neg (show ¬ (1 : Int32) = 0 from by decide), if_neg p1, if_pos p2, g3, e1, C_row (by omega), bd_some, nI_add, rd_n (by omega) (by omega), bd_some, bd_some, e2, pk83, nI_add, rd_n (by omega) (by omega), bd_some, g7 j c3 q (by omega)]
        exact ⟨_, rfl, rfl, inv_skip h⟩
      · rw [if_neg c3, if_pos rfl, if_pos (nI_le (by omega) hj)]
        exact ⟨_, rfl, rfl, inv_skip h⟩
    · rw [show s_X5_in a2 0 3 = some 0 from e, bd_some, if_pos rfl]
      by_cases c3 : a2 < 0
      · rw [if_pos c3]
        exact ⟨_, rfl, rfl, inv_skip h⟩
      · have : ¬ a2 < 4 := fun hh => by
          have l2 := l1 c3
          have q1 := Int32.lt_iff_toInt_lt.mp hh
          have q2 := Int32.lt_iff_toInt_lt.mp (Int32.not_le.mp l2)
          rw [nI_toInt (by omega)] at q2
          have e4 : (4 : Int32).toInt = 4 := rfl
          rw [e4] at q1
          omega
        rw [if_neg c3, if_neg this]
        exact ⟨_, rfl, rfl, inv_skip h⟩
