/-! the best move -/
theorem tell_tu {a : Bd} {n : Nat} {p : Int32} : q_tu (q_do a n p) = q_tu a + q_tell a n p := by
  show q_tu (q_mid a n p) = _
  unfold q_mid q_tell
  by_cases c : 6 ≤ n
  · rw [if_pos c, if_pos c]
    show q_tu a - (q_co a (sl p)).headD 0 * p + (q_co a (sl p)).headD 0 * q_tgt n p = _
    grind
  · rw [if_neg c, if_neg c]
    rfl
def q_at (a : Bd) (k : Nat) : Int32 := iabs (q_tu (q_do a (q_num k) (q_plc k)))
def q_bs (g : Bd → Int) (a : Bd) : Nat → Int × Int × Int32
  | 0 => (-1, -2, 0)
  | k + 1 => if q_hind a (q_num k) (q_plc k) = 0 then
      (if (q_bs g a k).1 = -1 ∨ (q_bs g a k).2.1 < q_sv g a k ∨ (q_sv g a k = (q_bs g a k).2.1 ∧ q_at a k < (q_bs g a k).2.2) then ((k : Int), q_sv g a k, q_at a k) else q_bs g a k)
    else q_bs g a k
theorem q_bs_r {g : Bd → Int} (h : q_rg g) (a : Bd) : ∀ k, ((q_bs g a k).1 = -1 ∧ (q_bs g a k).2.1 = -2) ∨ (0 ≤ (q_bs g a k).1 ∧ (q_bs g a k).1 < k ∧ -1 ≤ (q_bs g a k).2.1 ∧ (q_bs g a k).2.1 ≤ 1)
  | 0 => Or.inl ⟨rfl, rfl⟩
  | k + 1 => by
    have h1 := q_bs_r h a k
    have h2 := q_sv_r h a k
    unfold q_bs
    split
    · split
      · right
        dsimp only
        omega
      · omega
    · omega
theorem B_loop {d : Nat} {g : Bd → Int} (hg : q_rg g) (HA : q_HA (s_X3_ahead 5) d g) {a : Bd} (ok : q_ok a) :
    ∀ (j k fuel : Nat) {B : Mm}, k + j = 84 → j < fuel → RC B a →
      ∃ B', s_X3_bestRank_L20 fuel B (nI (d + 1)) (iI (q_bs g a k).1) (iI (q_bs g a k).2.1) (q_bs g a k).2.2 (nI k) = some (iI (q_bs g a 84).1, B') ∧ RC B' a ∧ RS B B' := by
  intro j
  induction j with
  | zero =>
    intro k fuel B hk hf R
    obtain ⟨f, rfl⟩ : ∃ f, fuel = f + 1 := ⟨fuel - 1, by omega⟩
    have hk : k = 84 := by omega
    subst hk
    rw [s_X3_bestRank_L20, if_pos (show (84 : Int32) ≤ nI 84 from by decide)]
    exact ⟨B, rfl, R, RS.rf⟩
  | succ j ih =>
    intro k fuel B hk hf R
    obtain ⟨f, rfl⟩ : ∃ f, fuel = f + 1 := ⟨fuel - 1, by omega⟩
    have hk84 : k < 84 := by omega
    obtain ⟨t1, -, t3, -, hp, n1, n7⟩ := rank_tab k hk84
    have nx := fun {B : Mm} (R : RC B a) => ih (k + 1) f (B := B) (by omega) (by omega) R
    have em : q_bs g a (k + 1) = if q_hind a (q_num k) (q_plc k) = 0 then
      (if (q_bs g a k).1 = -1 ∨ (q_bs g a k).2.1 < q_sv g a k ∨ (q_sv g a k = (q_bs g a k).2.1 ∧ q_at a k < (q_bs g a k).2.2) then ((k : Int), q_sv g a k, q_at a k) else q_bs g a k)
      else q_bs g a k := rfl
    rw [s_X3_bestRank_L20, if_neg (show ¬ (84 : Int32) ≤ nI k from nI_ge (b := 84) hk84 (by decide)), t1, bd_some, t3, bd_some, C_hind R ok n1 n7 hp, bd_some]
    have hr := q_bs_r hg a k
    have hv := q_sv_r hg a k
    by_cases c : q_hind a (q_num k) (q_plc k) = 0
    · rw [if_pos c] at em
      rw [if_pos c]
      have e8 : s_X0_turn B = some (q_tu a) := by unfold s_X0_turn; rw [R.2.2.2.2.2.2]
      rw [e8, bd_some, C_tell R n1 n7 hp c, bd_some, jn_eq, ← tell_tu, jn_eq, jn_eq]
      have eat : iabs (q_tu (q_do a (q_num k) (q_plc k))) = q_at a k := rfl
      rw [eat, jn_eq]
      generalize hbs : q_bs g a k = s at em hr
      obtain ⟨b, v, t⟩ := s
      dsimp only at em hr ⊢
      have key : ∀ en : Int, (-2 ≤ en ∧ en ≤ 2) → ((b = -1 ∨ v < q_sv g a k ∨ (q_sv g a k = v ∧ q_at a k < t)) ↔ en ≤ q_sv g a k) →
          ∃ B', (if iI en ≤ (1 : Int32) then Option.bind (s_X3_behind (s_X3_ahead 5) B (nI (q_num k)) (q_plc k) (nI (d + 1) - 1) (iI en - 1) 1) fun q15 => jn q15.1 fun v16 => if v16 < iI en then jn (nI k + 1) fun v18 => s_X3_bestRank_L20 f q15.2 (nI (d + 1)) (iI b) (iI v) t v18 else jn (nI k + 1) fun v19 => s_X3_bestRank_L20 f q15.2 (nI (d + 1)) (nI k) v16 (q_at a k) v19 else jn (nI k + 1) fun v20 => s_X3_bestRank_L20 f B (nI (d + 1)) (iI b) (iI v) t v20) = some (iI (q_bs g a 84).1, B') ∧ RC B' a ∧ RS B B' := by
        intro en hen hbet
        by_cases c1 : en ≤ 1
        · rw [if_pos (show iI en ≤ (1 : Int32) from (iI_le (b := 1) (by omega) (by omega)).mpr c1), show nI (d + 1) - 1 = nI d from nI_pred d, show iI en - 1 = iI (en - 1) from iI_sub (b := 1) (by omega) (by omega)]
          obtain ⟨r, B1, e1, R1, S1, p1, p2, p3, p4, p5⟩ := A_behind HA R ok hk84 c (lo := en - 1) (hi := 1) (by omega) (by omega) (by omega)
          rw [show (1 : Int32) = iI 1 from rfl, e1, bd_some, jn_eq]
          by_cases c2 : r < en
          · have := p1 (by omega)
            rw [if_pos ((iI_lt (by omega) (by omega)).mpr c2), jn_eq]
            have nb : ¬ (b = -1 ∨ v < q_sv g a k ∨ (q_sv g a k = v ∧ q_at a k < t)) := fun h => by have := hbet.mp h; omega
            rw [if_neg nb] at em
            have h := nx R1
            rw [em] at h
            obtain ⟨B2, e2, R2, S2⟩ := h
            rw [show nI k + iI 1 = nI (k + 1) from nI_1 k]
            exact ⟨B2, e2, R2, S1.tr S2⟩
          · have hrv : r = q_sv g a k := by
              rcases Int.lt_or_le r 1 with h | h
              · exact p3 (by omega) h
              · have := p2 h; omega
            rw [if_neg (fun e => c2 ((iI_lt (by omega) (by omega)).mp e)), jn_eq]
            have yb : (b = -1 ∨ v < q_sv g a k ∨ (q_sv g a k = v ∧ q_at a k < t)) := hbet.mpr (by omega)
            rw [if_pos yb] at em
            have h := nx R1
            rw [em] at h
            obtain ⟨B2, e2, R2, S2⟩ := h
            rw [show nI k + iI 1 = nI (k + 1) from nI_1 k]
            dsimp only at e2 ⊢
            rw [hrv]
            exact ⟨B2, e2, R2, S1.tr S2⟩
        · rw [if_neg (show ¬ iI en ≤ (1 : Int32) from fun e => c1 ((iI_le (b := 1) (by omega) (by omega)).mp e)), jn_eq, nI_1]
          have nb : ¬ (b = -1 ∨ v < q_sv g a k ∨ (q_sv g a k = v ∧ q_at a k < t)) := fun h => by have := hbet.mp h; omega
          rw [if_neg nb] at em
          have h := nx R
          rw [em] at h
          exact h
      by_cases c3 : b < 0
      · rw [if_pos (show iI b < (0 : Int32) from (iI_lt (b := 0) (by omega) (by omega)).mpr c3)]
        exact key v (by omega) ⟨fun _ => by omega, fun _ => Or.inl (by omega)⟩
      · rw [if_neg (show ¬ iI b < (0 : Int32) from fun e => c3 ((iI_lt (b := 0) (by omega) (by omega)).mp e))]
        by_cases c4 : t ≤ q_at a k
        · rw [if_pos c4, show iI v + 1 = iI (v + 1) from iI_add (b := 1) (by omega) (by omega)]
          refine key (v + 1) (by omega) ⟨fun h => ?_, fun h => Or.inr (Or.inl (by omega))⟩
          rcases h with h | h | h
          · omega
          · omega
          · exact absurd h.2 (Int32.not_lt.mpr c4)
        · rw [if_neg c4]
          refine key v (by omega) ⟨fun h => ?_, fun h => ?_⟩
          · rcases h with h | h | h <;> omega
          · rcases Int.lt_or_eq_of_le h with h | h
            · exact Or.inr (Or.inl h)
            · exact Or.inr (Or.inr ⟨h.symm, Int32.not_le.mp c4⟩)
    · rw [if_neg c] at em
      rw [if_neg c, jn_eq, nI_1]
      have h := nx R
      rw [em] at h
      exact h
def q_br (d : Nat) (a : Bd) : Int := if q_out a = 0 then (q_bs (q_val d) a 84).1 else -1
theorem C_best {B : Mm} {a : Bd} {d : Nat} (hd : d < 3) (R : RC B a) (ok : q_ok a) : ∃ B', s_X3_bestRank B (nI (d + 1)) = some (iI (q_br d a), B') ∧ RC B' a ∧ RS B B' := by
  unfold s_X3_bestRank q_br
  rw [C_out R, bd_some]
  by_cases c : q_out a = 0
  · rw [if_pos c, if_pos c]
    have h := B_loop (q_val_r d) (A_ok d 5 (by omega) (by decide)) ok 84 0 1000 rfl (by decide) R
    rw [show nI 0 = (0 : Int32) from rfl] at h
    exact h
  · rw [if_neg c, if_neg c]
    exact ⟨B, rfl, R, RS.rf⟩
theorem q_br_r (d : Nat) (a : Bd) : q_br d a = -1 ∨ (0 ≤ q_br d a ∧ q_br d a < 84) := by
  unfold q_br
  have := q_bs_r (q_val_r d) a 84
  split <;> omega
