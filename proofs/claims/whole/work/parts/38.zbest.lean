/-! the reference's best move -/
def q_bx (b : Int) : Int := if b = -1 then -10005 else b
theorem ZB_loop {d : Nat} (hd : d < 3) {a : Bd} (ok : q_ok a) (ho : q_out a = 0) : ∀ (j k fuel : Nat) {Z : Mm}, k + j = 84 → j < fuel → RZ (Z 1) a →
    ∃ Z', s_X5_bestMove_L14 fuel Z (nI (d + 1)) (iI (q_bx (q_bs (q_val d) a k).1)) (iI (q_bt (q_bs (q_val d) a k).2.1)) (q_bs (q_val d) a k).2.2 (nI k) = some (iI (q_bx (q_bs (q_val d) a 84).1), Z') ∧ RZ (Z' 1) a ∧ ZF 3 Z Z' := by
  have hg : q_rg (q_val d) := q_val_r d
  intro j
  induction j with
  | zero =>
    intro k fuel Z hk hf R
    obtain ⟨f, rfl⟩ : ∃ f, fuel = f + 1 := ⟨fuel - 1, by omega⟩
    have hk : k = 84 := by omega
    subst hk
    rw [s_X5_bestMove_L14, if_pos (show (84 : Int32) ≤ nI 84 from by decide)]
    exact ⟨Z, rfl, R, ZF.rf⟩
  | succ j ih =>
    intro k fuel Z hk hf R
    obtain ⟨f, rfl⟩ : ∃ f, fuel = f + 1 := ⟨fuel - 1, by omega⟩
    have hk84 : k < 84 := by omega
    obtain ⟨-, -, -, -, hp, n1, n7⟩ := rank_tab k hk84
    have em : q_bs (q_val d) a (k + 1) = if q_hind a (q_num k) (q_plc k) = 0 then
      (if (q_bs (q_val d) a k).1 = -1 ∨ (q_bs (q_val d) a k).2.1 < q_sv (q_val d) a k ∨ (q_sv (q_val d) a k = (q_bs (q_val d) a k).2.1 ∧ q_at a k < (q_bs (q_val d) a k).2.2) then ((k : Int), q_sv (q_val d) a k, q_at a k) else q_bs (q_val d) a k)
      else q_bs (q_val d) a k := rfl
    have ew : q_why a (q_num k) (q_plc k) = q_hind a (q_num k) (q_plc k) := if_pos ho
    have nx := fun {Z : Mm} (R : RZ (Z 1) a) => ih (k + 1) f (Z := Z) (by omega) (by omega) R
    have hr := q_bs_r hg a k
    have hv := q_sv_r hg a k
    rw [s_X5_bestMove_L14, if_neg (show ¬ (84 : Int32) ≤ nI k from nI_ge (b := 84) hk84 (by decide)), Z_poss R ok hk84, bd_some, ew]
    by_cases hp0 : q_hind a (q_num k) (q_plc k) = 0
    · rw [if_pos hp0] at em
      rw [if_pos hp0, if_neg (by decide)]
      obtain ⟨N, e1, R1, h6, h7, h8, F1⟩ := Z_ahead R ok hk84 (d := d + 1) (by omega) hp0
      have ok1 := q_ok_do ok n1 hp0
      obtain ⟨N', e3, R3, F3⟩ := Z_looked R1 ok1 (d := d) (by omega)
      have f3 := F3.2.2.2.2.2.2.2 (d + 1) (by omega)
      rw [e1, bd_some, show nI (d + 1) - 1 = nI d from nI_pred d, e3, bd_some]
      dsimp only
      rw [Z_fm (by omega) R3 (f3.1.trans h6), bd_some, rd_e (i := 5) 5 rfl (by decide) (by decide), bd_some, Z_size, bd_some, R3.2.2.2.2.2.2]
      obtain ⟨z2, e2, R2, S2⟩ := Z_back ok R.hc hk84 (d := d + 1) (by omega) hp0 R3 (f3.1.trans h6) (f3.2.1.trans h7) (f3.2.2.trans h8)
      rw [e2, bd_some]
      have F2 : ZF 3 Z (mset N' 1 z2) := (F1.up (by omega)).tr ((F3.up (by omega)).tr (ZF.one S2))
      have R2 : RZ ((mset N' 1 z2) 1) a := R2
      generalize mset N' 1 z2 = N2 at R2 F2
      have esv : (if q_sd (q_do a (q_num k) (q_plc k)) = q_sd a then iI (q_val d (q_do a (q_num k) (q_plc k))) else -(iI (q_val d (q_do a (q_num k) (q_plc k))))) = iI (q_sv (q_val d) a k) := by
        have := hg (q_do a (q_num k) (q_plc k))
        unfold q_sv
        split
        · rfl
        · exact iI_neg (by omega)
      have eat : iabs (q_tu (q_do a (q_num k) (q_plc k))) = q_at a k := rfl
      rw [esv, eat, jn_eq, jn_eq]
      have h := nx R2
      generalize hbs : q_bs (q_val d) a k = s at em hr
      obtain ⟨b, v, t⟩ := s
      dsimp only at em hr ⊢
      have yes : (b = -1 ∨ v < q_sv (q_val d) a k ∨ (q_sv (q_val d) a k = v ∧ q_at a k < t)) → ∃ Z', s_X5_bestMove_L14 f N2 (nI (d + 1)) (nI k) (iI (q_sv (q_val d) a k)) (q_at a k) (nI k + 1) = some (iI (q_bx (q_bs (q_val d) a 84).1), Z') ∧ RZ (Z' 1) a ∧ ZF 3 Z Z' := by
        intro y
        rw [if_pos y] at em
        rw [em] at h
        dsimp only at h
        obtain ⟨Z3, e4, R4, F4⟩ := h
        rw [show q_bx (k : Int) = (k : Int) from if_neg (by omega), show q_bt (q_sv (q_val d) a k) = q_sv (q_val d) a k from if_neg (by omega)] at e4
        rw [nI_1]
        exact ⟨Z3, e4, R4, F2.tr F4⟩
      have no : ¬ (b = -1 ∨ v < q_sv (q_val d) a k ∨ (q_sv (q_val d) a k = v ∧ q_at a k < t)) → ∃ Z', s_X5_bestMove_L14 f N2 (nI (d + 1)) (iI (q_bx b)) (iI (q_bt v)) t (nI k + 1) = some (iI (q_bx (q_bs (q_val d) a 84).1), Z') ∧ RZ (Z' 1) a ∧ ZF 3 Z Z' := by
        intro y
        rw [if_neg y] at em
        rw [em] at h
        obtain ⟨Z3, e4, R4, F4⟩ := h
        rw [nI_1]
        exact ⟨Z3, e4, R4, F2.tr F4⟩
      have ebt : q_bt v = if v = -2 then -10005 else v := rfl
      have hbt : -10005 ≤ q_bt v ∧ q_bt v ≤ 1 := by rw [ebt]; split <;> omega
      by_cases c1 : iI (q_bt v) < iI (q_sv (q_val d) a k)
      · rw [if_pos c1]
        have h1 := (iI_lt (by omega) (by omega)).mp c1
        refine yes ?_
        rw [ebt] at h1
        split at h1
        · exact Or.inl (by omega)
        · exact Or.inr (Or.inl h1)
      · rw [if_neg c1, jn_eq]
        have h1 : ¬ q_bt v < q_sv (q_val d) a k := fun h => c1 ((iI_lt (by omega) (by omega)).mpr h)
        have h2 : v ≠ -2 := by
          intro h
          rw [ebt, if_pos h] at h1
          omega
        rw [ebt, if_neg h2] at h1
        by_cases c2 : iI (q_sv (q_val d) a k) = iI (q_bt v)
        · have h3 := (iI_eq (by omega) (by omega)).mp c2
          rw [ebt, if_neg h2] at h3
          rw [if_pos c2]
          by_cases c3 : t ≤ q_at a k
          · rw [if_pos c3]
            refine no ?_
            rintro (h | h | h)
            · omega
            · omega
            · exact Int32.not_lt.mpr c3 h.2
          · rw [if_neg c3]
            exact yes (Or.inr (Or.inr ⟨h3, Int32.not_le.mp c3⟩))
        · rw [if_neg c2]
          refine no ?_
          rintro (h | h | h)
          · omega
          · omega
          · exact c2 (by rw [h.1, ebt, if_neg h2])
    · rw [if_neg hp0] at em
      rw [if_neg hp0, if_pos rfl, jn_eq, nI_1]
      have h := nx R
      rw [em] at h
      exact h
theorem ZB_none {d : Nat} {a : Bd} (ok : q_ok a) (ho : q_out a ≠ 0) : ∀ (j k fuel : Nat) {Z : Mm}, k + j = 84 → j < fuel → RZ (Z 1) a →
    s_X5_bestMove_L14 fuel Z (nI (d + 1)) (-10005) (-10005) 0 (nI k) = some ((-10005), Z) := by
  intro j
  induction j with
  | zero =>
    intro k fuel Z hk hf R
    obtain ⟨f, rfl⟩ : ∃ f, fuel = f + 1 := ⟨fuel - 1, by omega⟩
    have hk : k = 84 := by omega
    subst hk
    rw [s_X5_bestMove_L14, if_pos (show (84 : Int32) ≤ nI 84 from by decide)]
  | succ j ih =>
    intro k fuel Z hk hf R
    obtain ⟨f, rfl⟩ : ∃ f, fuel = f + 1 := ⟨fuel - 1, by omega⟩
    have hk84 : k < 84 := by omega
    have ew : q_why a (q_num k) (q_plc k) = 1 := if_neg ho
    rw [s_X5_bestMove_L14, if_neg (show ¬ (84 : Int32) ≤ nI k from nI_ge (b := 84) hk84 (by decide)), Z_poss R ok hk84, bd_some, ew, if_pos (show (if (1 : Int32) = 0 then (1 : Int32) else 0) = 0 from by decide), jn_eq, nI_1]
    exact ih (k + 1) f (by omega) (by omega) R
theorem Z_best {a : Bd} {Z : Mm} {d : Nat} (hd : d < 3) (R : RZ (Z 1) a) (ok : q_ok a) : ∃ Z', s_X5_bestMove Z (nI (d + 1)) = some (iI (q_bx (q_br d a)), Z') ∧ RZ (Z' 1) a ∧ ZF 3 Z Z' := by
  unfold s_X5_bestMove q_br
  by_cases c : q_out a = 0
  · rw [if_pos c]
    have h := ZB_loop hd ok c 84 0 1000 rfl (by decide) R
    rw [show nI 0 = (0 : Int32) from rfl] at h
    exact h
  · rw [if_neg c]
    have h := ZB_none (d := d) ok c 84 0 1000 rfl (by decide) R
    rw [show nI 0 = (0 : Int32) from rfl] at h
    exact ⟨Z, h, R, ZF.rf⟩
