/-! choices: a move -/
theorem mv_tab : ∀ n, n < 8 → 1 ≤ n → ∀ p ∈ pls, dvi (100 * nI n + p + 50) 100 = some (nI n) ∧ rmi (100 * nI n + p + 50) 100 = some (p + 50) := by decide +kernel
theorem p50 : ∀ p ∈ pls, p + 50 - 50 = p := by decide
theorem mx_law {x t : Int32} (ht : 0 ≤ t) : (if x ≤ t then (if -x ≤ t then t else -x) else x) = imax t (iabs x) := by
  unfold imax iabs
  have h1 := Int32.le_iff_toInt_le.mp ht
  have e0 : (0 : Int32).toInt = 0 := rfl
  rw [e0] at h1
  by_cases c : 0 ≤ x
  · rw [if_pos c]
    have h2 := Int32.le_iff_toInt_le.mp c
    rw [e0] at h2
    by_cases c1 : x ≤ t
    · have c2 : -x ≤ t := by
        rw [Int32.le_iff_toInt_le, neg_toInt c]
        omega
      rw [if_pos c1, if_pos c2, if_neg (Int32.not_lt.mpr c1)]
    · rw [if_neg c1, if_pos (Int32.not_le.mp c1)]
  · rw [if_neg c, Int32.zero_sub]
    have c1 : x ≤ t := Int32.le_of_lt (Int32.lt_of_lt_of_le (Int32.not_le.mp c) ht)
    rw [if_pos c1]
    by_cases c2 : -x ≤ t
    · rw [if_pos c2, if_neg (Int32.not_lt.mpr c2)]
    · rw [if_neg c2, if_pos (Int32.not_le.mp c2)]
theorem mx_pos {x t : Int32} (ht : 0 ≤ t) : 0 ≤ imax t x := by
  unfold imax
  split
  · rename_i c
    exact Int32.le_of_lt (Int32.lt_of_le_of_lt ht c)
  · exact ht
theorem A_move {e n : Nat} {T : Nat → Mm} {m b t a3 a4 a5 a6 : Nat → Int32} {p : Int32} (h : LI e T m b t a3 a4 a5 a6) (he : e < 1000) (h1 : 1 ≤ n) (h7 : n ≤ 7) (hp : p ∈ pls) :
    ∃ y had, s_L_why m b t (nI n) p = some y ∧ s_L_turn m = some had ∧
    ((¬ y = 0 ∧ ¬ y ≤ 0 ∧ s_X4_makeMove T (nI n) p = some (-10010 - y, T) ∧ LI (e + 1) T m b t a3 a4 a5 a6) ∨
     (y = 0 ∧ ∃ m' b' t' now T' c, s_L_move m b t (nI n) p = some (m', b', t') ∧ s_L_turn m' = some now ∧ c < 40 ∧ rmi (t' 5) 40 = some (nI c) ∧ 0 ≤ t' 8 ∧ s_X4_makeMove T (nI n) p = some (now, T') ∧
      LI (e + 1) T' m' b' (upd (upd (upd t' 5 (t' 5 + 1)) 6 (t' 6 + (now - had))) 8 (imax (t' 8) (iabs now))) (upd a3 c (t 4)) (upd a4 c (nI n)) (upd a5 c p) (upd a6 c (now - had)))) := by
  obtain ⟨a, mc, C, R, H, hmc, h11, t5, h9, h67, h10, h8, G⟩ := h
  refine ⟨_, _, L_why R h1 h7 hp, L_turn R, ?_⟩
  by_cases hw : q_why a n p = 0
  · refine Or.inr ⟨hw, ?_⟩
    obtain ⟨m', b', t', e1, R1, ht⟩ := L_move R h1 h7 hp (why_hind hw)
    obtain ⟨T', e2, H', C', k9, k10, k11, ⟨g0, g1, g2, g3⟩, gk⟩ := K_move C R.2.1 H h11 (by omega) h1 h7 hp hw
    have u5 := ht 5 (by omega) (by omega) (by omega)
    have u6 := ht 6 (by omega) (by omega) (by omega)
    have u7 := ht 7 (by omega) (by omega) (by omega)
    have u8 := ht 8 (by omega) (by omega) (by omega)
    have etl : q_tu (q_do a n p) - q_tu a = q_tell a n p := by rw [tell_tu]; grind
    refine ⟨m', b', t', _, T', mc % 40, e1, L_turn R1, Nat.mod_lt _ (by omega), ?_, by rw [u8]; exact h8, e2, ?_⟩
    · rw [u5, t5]
      exact rmi_n (y := 40) (by omega) (by omega) (by omega)
    · rw [etl]
      refine ⟨q_do a n p, mc + 1, C', RT_congr R1 (fun _ _ => rfl) (fun _ _ => rfl) (fun k hk hc => ?_), H', by omega, k11, ?_, ?_, ?_, ?_, ?_, fun i hi hi2 => ?_⟩
      · rw [up_ne (by omega), up_ne (by omega), up_ne (by omega)]
      · rw [up_ne (by omega), up_ne (by omega), up_eq, u5, t5, nI_1]
      · rw [up_ne (by omega), up_eq, u6, k9, h9]
      · rw [up_ne (by omega), up_eq, up_ne (by omega), up_ne (by omega), up_ne (by omega), u6, u7, tell_tu, ← h67]
        grind
      · rw [up_eq, u8, k10, h10]
      · rw [up_eq, u8]
        exact mx_pos h8
      · have hm40 : mc % 40 < 40 := Nat.mod_lt _ (by omega)
        by_cases ci : i = mc % 40
        · rw [ci, up_eq, up_eq, up_eq, up_eq, R.1.2.2.2.1]
          exact ⟨g0, g1, g2, g3⟩
        · have hi3 : i < mc := by omega
          rw [up_ne ci, up_ne ci, up_ne ci, up_ne ci, gk _ (by omega), gk _ (by omega), gk _ (by omega), gk _ (by omega)]
          exact G i hi hi3
  · refine Or.inl ⟨hw, ?_, K_no C R.2.1 h1 h7 hp hw, a, mc, C, R, H, by omega, h11, t5, h9, h67, h10, h8, G⟩
    rcases q_why_r (a := a) (n := n) (p := p) with q | q
    · exact absurd q hw
    · exact q
