/-! the law's looks -/
def q_G (g : Bd → Int) (a : Bd) (o : Option (Int32 × (Nat → Int32))) : Prop := ∃ h, o = some (iI (q_fin (q_mx g a 84)), h) ∧ h 0 = q_bt (q_bs g a 84).1
theorem iabs_neg {x : Int32} : (if 0 ≤ x then x else -x) = iabs x := by
  unfold iabs
  rw [Int32.zero_sub]
theorem bs_step {g : Bd → Int} (hg : q_rg g) {a : Bd} {k : Nat} (hh : q_hind a (q_num k) (q_plc k) = 0) :
    ((q_bs g a k).2.1 < q_sv g a k ∨ (q_sv g a k = (q_bs g a k).2.1 ∧ q_at a k < (q_bs g a k).2.2) → q_bs g a (k + 1) = ((k : Int), q_sv g a k, q_at a k)) ∧
    (¬ ((q_bs g a k).2.1 < q_sv g a k ∨ (q_sv g a k = (q_bs g a k).2.1 ∧ q_at a k < (q_bs g a k).2.2)) → q_bs g a (k + 1) = q_bs g a k) := by
  have hr := q_bs_r hg a k
  have hv := q_sv_r hg a k
  have e : q_bs g a (k + 1) = if q_hind a (q_num k) (q_plc k) = 0 then (if (q_bs g a k).1 = -1 ∨ (q_bs g a k).2.1 < q_sv g a k ∨ (q_sv g a k = (q_bs g a k).2.1 ∧ q_at a k < (q_bs g a k).2.2) then ((k : Int), q_sv g a k, q_at a k) else q_bs g a k) else q_bs g a k := rfl
  rw [e, if_pos hh]
  refine ⟨fun h => if_pos (Or.inr h), fun h => if_neg ?_⟩
  rintro (h1 | h1)
  · exact h (Or.inl (by omega))
  · exact h h1
theorem bs_skip {g : Bd → Int} {a : Bd} {k : Nat} (hh : ¬ q_hind a (q_num k) (q_plc k) = 0) : q_bs g a (k + 1) = q_bs g a k := if_neg hh
theorem bt_k {k : Nat} : q_bt (k : Int) = q_tl k := by
  unfold q_bt
  rw [if_neg (by omega)]
  rfl
theorem one_loop {m b t : Nat → Int32} {a : Bd} (R : RT m b t a) (h0 : q_out a = 0) : ∀ (j k fuel : Nat) (a6 a5 a4 a3 : Nat → Int32), k + j = 84 → j < fuel → a3 0 = q_bt (q_bs (q_val 0) a k).1 →
    q_G (q_val 0) a (s_L_one_L57 fuel a6 a5 a4 m b t a3 (q_sd a) (iI (q_bs (q_val 0) a k).2.1) (q_bs (q_val 0) a k).2.2 (nI k)) := by
  have hg := q_val_r 0
  intro j
  induction j with
  | zero =>
    intro k fuel a6 a5 a4 a3 hk hf h3
    obtain ⟨f, rfl⟩ : ∃ f, fuel = f + 1 := ⟨fuel - 1, by omega⟩
    have hk : k = 84 := by omega
    subst hk
    have hr := q_mx_r hg a 84
    rw [s_L_one_L57, if_pos (show (84 : Int32) ≤ nI 84 from by decide), q_bs_mx hg]
    unfold q_G q_fin
    by_cases c : q_mx (q_val 0) a 84 = -2
    · rw [if_pos c, c, if_neg (show ¬ (-1 : Int32) ≤ iI (-2) from by decide)]
      exact ⟨a3, rfl, h3⟩
    · rw [if_neg c, if_pos (show (-1 : Int32) ≤ iI (q_mx (q_val 0) a 84) from by
        rw [show (-1 : Int32) = iI (-1) from by decide]
        exact (iI_le (by omega) (by omega)).mpr (by omega))]
      exact ⟨a3, rfl, h3⟩
  | succ j ih =>
    intro k fuel a6 a5 a4 a3 hk hf h3
    obtain ⟨f, rfl⟩ : ∃ f, fuel = f + 1 := ⟨fuel - 1, by omega⟩
    have hk84 : k < 84 := by omega
    obtain ⟨-, -, -, -, hp, n1, n7⟩ := rank_tab k hk84
    obtain ⟨o1, -, o3, o4, o5, -⟩ := ord_tab k hk84
    rw [s_L_one_L57, if_neg (show ¬ (84 : Int32) ≤ nI k from nI_ge (b := 84) hk84 (by decide)), o1, bd_some, o3, bd_some, o4, bd_some, o5, L_why R n1 n7 hp, bd_some]
    unfold q_why
    rw [if_pos h0]
    by_cases c : q_hind a (q_num k) (q_plc k) = 0
    · rw [if_pos c]
      obtain ⟨m1, b1, t1, e1, e2, e3, R1⟩ := L_copies R a4 a5 a6
      obtain ⟨m2, b2, t2, e4, R2, -⟩ := L_move R1 n1 n7 hp c
      rw [e1, bd_some, e2, bd_some, e3, bd_some, bd_some, bd_some, o5, e4, bd_some]
      dsimp only
      rw [L_told R2, told_sv R.2.1.1 R2.2.1, bd_some, L_turn R2, bd_some]
      obtain ⟨st1, st2⟩ := bs_step hg c
      have hv := q_sv_r hg a k
      have hr := q_bs_r hg a k
      refine jn_ind (P := fun K => q_G (q_val 0) a (K (q_at a k))) (Q := q_G (q_val 0) a) ?_ ?_
      · dsimp only
        refine jn_ind (P := fun K => ((q_bs (q_val 0) a k).2.1 < q_sv (q_val 0) a k ∨ (q_sv (q_val 0) a k = (q_bs (q_val 0) a k).2.1 ∧ q_at a k < (q_bs (q_val 0) a k).2.2) → q_G (q_val 0) a (K 1)) ∧ (¬ ((q_bs (q_val 0) a k).2.1 < q_sv (q_val 0) a k ∨ (q_sv (q_val 0) a k = (q_bs (q_val 0) a k).2.1 ∧ q_at a k < (q_bs (q_val 0) a k).2.2)) → q_G (q_val 0) a (K 0))) (Q := q_G (q_val 0) a) ?_ ?_
        · refine ⟨fun hb => ?_, fun hb => ?_⟩
          · dsimp only [jn]
            simp only [if_neg (show ¬ (1 : Int32) = 0 from by decide)]
            rw [wr1_e (i := 0) 0 rfl (by decide) (by decide), bd_some, nI_1]
            have h := ih (k + 1) f t2 b2 m2 (upd a3 0 (q_tl k)) (by omega) (by omega) (by rw [st1 hb, up_eq]; exact bt_k.symm)
            rw [st1 hb] at h
            exact h
          · dsimp only [jn]
            simp only [if_pos (show (0 : Int32) = 0 from rfl)]
            rw [rd_e (i := 0) 0 rfl (by decide) (by decide), bd_some, wr1_e (i := 0) 0 rfl (by decide) (by decide), bd_some, nI_1]
            have h := ih (k + 1) f t2 b2 m2 (upd a3 0 (a3 0)) (by omega) (by omega) (by rw [st2 hb, up_eq]; exact h3)
            rw [st2 hb] at h
            exact h
        · rintro K ⟨k1, k0⟩
          dsimp only [jn]
          by_cases c1 : (q_bs (q_val 0) a k).2.1 < q_sv (q_val 0) a k
          · rw [if_pos ((iI_lt (by omega) (by omega)).mpr c1)]
            exact k1 (Or.inl c1)
          · rw [if_neg (fun e => c1 ((iI_lt (by omega) (by omega)).mp e))]
            by_cases c2 : q_sv (q_val 0) a k = (q_bs (q_val 0) a k).2.1
            · rw [if_pos (show iI (q_sv (q_val 0) a k) = iI (q_bs (q_val 0) a k).2.1 by rw [c2])]
              by_cases c3 : (q_bs (q_val 0) a k).2.2 ≤ q_at a k
              · rw [if_pos c3]
                refine k0 (fun h => ?_)
                rcases h with h | h
                · exact c1 h
                · exact absurd h.2 (Int32.not_lt.mpr c3)
              · rw [if_neg c3]
                exact k1 (Or.inr ⟨c2, Int32.not_le.mp c3⟩)
            · rw [if_neg (fun e => c2 ((iI_eq (by omega) (by omega)).mp e))]
              refine k0 (fun h => ?_)
              rcases h with h | h
              · exact c1 h
              · exact c2 h.1
      · intro K hK
        have e : (if 0 ≤ q_tu (q_do a (q_num k) (q_plc k)) then q_tu (q_do a (q_num k) (q_plc k)) else -q_tu (q_do a (q_num k) (q_plc k))) = q_at a k := iabs_neg
        by_cases c1 : 0 ≤ q_tu (q_do a (q_num k) (q_plc k))
        · rw [if_pos c1, bd_some]
          rw [if_pos c1] at e
          rw [e]; exact hK
        · rw [if_neg c1, bd_some]
          rw [if_neg c1] at e
          rw [e]; exact hK
    · rw [if_neg c, jn_eq, nI_1]
      have h := ih (k + 1) f a6 a5 a4 a3 (by omega) (by omega) (by rw [bs_skip c]; exact h3)
      rw [bs_skip c] at h
      exact h
theorem L_one {m b t : Nat → Int32} {a : Bd} (R : RT m b t a) (a3 : Nat → Int32) : ∃ h, s_L_one m b t a3 = some (iI (q_val 1 a), h) ∧ h 0 = q_bt (q_br 0 a) := by
  unfold s_L_one
  rw [rd_e (i := 4) 4 rfl (by decide) (by decide), bd_some, R.1.2.2.2.1, wr1_e (i := 0) 0 rfl (by decide) (by decide), bd_some, L_result R, bd_some]
  have ev : q_val 1 a = if q_out a = 0 then q_fin (q_mx (q_val 0) a 84) else q_wi a := rfl
  rw [ev]
  unfold q_br
  by_cases c : q_out a = 0
  · rw [if_pos c, if_pos (by rw [c]; exact Int32.le_refl _), if_pos c]
    exact one_loop R c 84 0 1000 zr zr zr (upd a3 0 (-10005)) rfl (by omega) (up_eq _ _ _)
  · rw [if_neg c, if_neg (out_pos R.2.1 c), if_neg c, told_wi R, bd_some]
    exact ⟨_, rfl, up_eq _ _ _⟩
