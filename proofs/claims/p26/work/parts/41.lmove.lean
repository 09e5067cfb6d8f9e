/-! the law's moves -/
def q_gl (n : Nat) (p : Int32) : Int32 := if q_tgt n p ∈ pls then q_tgt n p else 0
theorem L_goal : ∀ n, n < 8 → ∀ p ∈ pls, s_L_goal (nI n) p = some (q_gl n p) := by decide +kernel
theorem wr1_e {n : Nat} {i x : Int32} {f : Nat → Int32} (k : Nat) (hi : i = nI k) (h : k < n) (hn : n ≤ 1000) : wr1 n f i x = some (upd f k x) := by
  rw [hi]
  unfold wr1
  rw [if_neg (nI_in h (by omega)), nI_clamp (by omega)]
theorem wr1_n {n k : Nat} {x : Int32} {f : Nat → Int32} (h : k < n) (hn : n ≤ 1000) : wr1 n f (nI k) x = some (upd f k x) := wr1_e k rfl h hn
theorem pl0 : (0 : Int32) ∉ pls := by decide
section
variable {m b t : Nat → Int32} {a : Bd} {p : Int32}
theorem L_cell1 (R : RT m b t a) {i w : Nat} (hi : i < 2) (h1 : 1 ≤ w) (h5 : w ≤ 5) : ((5 : Int32) * nI i + nI w) - 1 = nI (5 * i + (w - 1)) ∧ b (5 * i + (w - 1)) = q_bg a i w := by
  obtain ⟨v, rfl⟩ : ∃ v, w = v + 1 := ⟨w - 1, by omega⟩
  refine ⟨?_, R.1.2.1 i hi v (by omega)⟩
  rw [show (5 : Int32) = nI 5 from rfl, pk_mul, nI_add, show 5 * i + (v + 1) = 5 * i + v + 1 from by omega, nI_pred]
  rfl
theorem L_why (R : RT m b t a) {n : Nat} (h1 : 1 ≤ n) (h7 : n ≤ 7) (hp : p ∈ pls) : s_L_why m b t (nI n) p = some (q_why a n p) := by
  have ok := R.2.1
  have key : (Option.bind (s_L_goal (nI n) p) fun v15 => if v15 = (0 : Int32) then some (4 : Int32) else Option.bind (s_L_index v15) fun v17 => Option.bind (rd 60 m ((48 : Int32) + v17)) fun v18 => Option.bind (rd 11 t (0 : Int32)) fun v19 => if v19 ≤ v18 then some (4 : Int32) else some (0 : Int32)) = some (q_h4 a (q_tgt n p)) := by
    rw [L_goal n (by omega) p hp, bd_some]
    unfold q_gl q_h4
    by_cases c : q_tgt n p ∈ pls
    · have hs := sl_lt _ c
      rw [if_pos c, if_pos c, if_neg (show ¬ q_tgt n p = 0 from fun e => pl0 (e ▸ c)), (pz_sl _ c).2, bd_some, c48, rd_n (by omega) (by decide), bd_some, rd_e (i := 0) 0 rfl (by decide) (by decide), bd_some, (R.1.1 _ hs).2.1, R.1.2.2.1 0 (by omega)]
      by_cases c2 : nI (q_co a (sl (q_tgt n p))).length < q_sg a 0
      · rw [if_pos c2, if_neg (Int32.not_le.mpr c2)]
      · rw [if_neg c2, if_pos (Int32.not_lt.mp c2)]
    · rw [if_neg c, if_neg c, if_pos rfl]
  unfold s_L_why q_why
  rw [L_result R, bd_some]
  by_cases c0 : q_out a = 0
  · rw [if_pos c0, if_pos (by rw [c0]; exact Int32.le_refl _)]
    dsimp only [jn]
    rw [key]
    unfold q_hind
    by_cases c : 6 ≤ n
    · have c5 : ¬ nI n ≤ (5 : Int32) := nI_ge (b := n) (a := 5) (by omega) (by omega)
      have hs := sl_lt p hp
      rw [if_neg c5, if_pos c, rd_e (i := 2) 2 rfl (by decide) (by decide), bd_some, R.1.2.2.1 2 (by omega)]
      by_cases c2 : q_sg a 2 = 0
      · rw [if_pos c2, if_pos c2]
      · rw [if_neg c2, if_neg c2, if_neg c5, (pz_sl p hp).2, bd_some, c48, rd_n (by omega) (by decide), bd_some, (R.1.1 _ hs).2.1, rd_e (i := 10) 10 rfl (by decide) (by decide), bd_some, R.1.2.2.2.2.2]
        by_cases c3 : q_co a (sl p) = []
        · rw [if_pos c3, c3]
          rfl
        · rw [if_neg c3, if_neg (fun e => c3 ((nI_nil (R.1.1 _ hs).1).mp e))]
          by_cases c4 : p = q_lt a
          · rw [if_pos c4, if_pos c4.symm]
          · rw [if_neg c4, if_neg (fun e => c4 e.symm)]
    · have c5 : nI n ≤ (5 : Int32) := nI_le (b := 5) (by omega) (by omega)
      obtain ⟨i1, i2⟩ := L_cell1 R (sn_lt (q_sd a)) h1 (show n ≤ 5 by omega)
      rw [if_pos c5, if_neg c, rd_e (i := 4) 4 rfl (by decide) (by decide), bd_some, R.1.2.2.2.1]
      have e0 : rd 10 b ((5 : Int32) * q_sd a + nI n - 1) = some (q_bg a (sn (q_sd a)) n) := by
        have := sn_lt (q_sd a)
        rw [← i2, ← rd_n (f := b) (n := 10) (k := 5 * sn (q_sd a) + (n - 1)) (by omega) (by decide), ← i1, ← sn_eq ok.1]
      rw [e0, bd_some]
      by_cases c2 : q_bg a (sn (q_sd a)) n = 0
      · rw [if_pos c2, if_pos c2]
      · rw [if_neg c2, if_neg c2, if_pos c5]
  · rw [if_neg c0]
    have : ¬ q_out a ≤ 0 := by
      unfold q_out at c0 ⊢
      obtain ⟨o1, o2, -, -, -, -, o7⟩ := ok
      repeat' split
      all_goals first | exact absurd rfl (by simp_all) | (rcases o2 with e | e <;> rw [e] <;> decide) | decide | skip
      all_goals simp_all
    rw [if_neg this]
end
