/-! the class' answers: counts, levels, moves so far -/
section
variable {T : Nat → Mm} {a : Bd} {p : Int32}
theorem cnt_loop {B : Mm} (R : RC B a) (ok : q_ok a) : ∀ (j k fuel : Nat), k + j = 84 → j < fuel → s_X0_possibleMoves_L4 fuel B (nI (q_ct a k)) (nI k) = some (nI (q_ct a 84)) := by
  intro j
  induction j with
  | zero =>
    intro k fuel hk hf
    obtain ⟨f, rfl⟩ : ∃ f, fuel = f + 1 := ⟨fuel - 1, by omega⟩
    have hk : k = 84 := by omega
    subst hk
    rw [s_X0_possibleMoves_L4, if_pos (show (84 : Int32) ≤ nI 84 from by decide)]
  | succ j ih =>
    intro k fuel hk hf
    obtain ⟨f, rfl⟩ : ∃ f, fuel = f + 1 := ⟨fuel - 1, by omega⟩
    have hk84 : k < 84 := by omega
    obtain ⟨u1, u2, u3, u4, hp, n1, n7⟩ := rank_tab k hk84
    rw [s_X0_possibleMoves_L4, if_neg (show ¬ (84 : Int32) ≤ nI k from nI_ge (b := 84) hk84 (by decide)), u1, bd_some, u3, bd_some, C_why R ok n1 n7 hp, bd_some]
    have e : q_ct a (k + 1) = if q_why a (q_num k) (q_plc k) = 0 then q_ct a k + 1 else q_ct a k := rfl
    have h := ih (k + 1) f (by omega) (by omega)
    by_cases c : q_why a (q_num k) (q_plc k) = 0
    · rw [if_pos c] at e
      rw [if_pos c, jn_eq, jn_eq, nI_1, nI_1, ← e]
      exact h
    · rw [if_neg c] at e
      rw [if_neg c, jn_eq, nI_1, ← e]
      exact h
/-- safe moves -/
def q_sf (a : Bd) : Nat → Nat
  | 0 => 0
  | k + 1 => if q_why a (q_num k) (q_plc k) = 0 then (if iabs (q_tu (q_do a (q_num k) (q_plc k))) ≤ q_sg a 1 then q_sf a k + 1 else q_sf a k) else q_sf a k
theorem safe_loop {B : Mm} (R : RC B a) (ok : q_ok a) : ∀ (j k fuel : Nat), k + j = 84 → j < fuel → s_X0_safeMoves_L4 fuel B (nI (q_sf a k)) (nI k) = some (nI (q_sf a 84)) := by
  intro j
  induction j with
  | zero =>
    intro k fuel hk hf
    obtain ⟨f, rfl⟩ : ∃ f, fuel = f + 1 := ⟨fuel - 1, by omega⟩
    have hk : k = 84 := by omega
    subst hk
    rw [s_X0_safeMoves_L4, if_pos (show (84 : Int32) ≤ nI 84 from by decide)]
  | succ j ih =>
    intro k fuel hk hf
    obtain ⟨f, rfl⟩ : ∃ f, fuel = f + 1 := ⟨fuel - 1, by omega⟩
    have hk84 : k < 84 := by omega
    obtain ⟨u1, u2, u3, u4, hp, n1, n7⟩ := rank_tab k hk84
    rw [s_X0_safeMoves_L4, if_neg (show ¬ (84 : Int32) ≤ nI k from nI_ge (b := 84) hk84 (by decide)), u1, bd_some, u3, bd_some, C_why R ok n1 n7 hp, bd_some]
    have e : q_sf a (k + 1) = if q_why a (q_num k) (q_plc k) = 0 then (if iabs (q_tu (q_do a (q_num k) (q_plc k))) ≤ q_sg a 1 then q_sf a k + 1 else q_sf a k) else q_sf a k := rfl
    have h := ih (k + 1) f (by omega) (by omega)
    by_cases c : q_why a (q_num k) (q_plc k) = 0
    · rw [if_pos c] at e
      rw [if_pos c, C_tell R n1 n7 hp (why_hind c), bd_some, rd_e (i := 1) 1 rfl (by decide) (by decide), bd_some, R.2.2.1 1 (by decide), R.2.2.2.2.2.2, ← tell_tu]
      by_cases c2 : iabs (q_tu (q_do a (q_num k) (q_plc k))) ≤ q_sg a 1
      · rw [if_pos c2] at e
        rw [if_neg (Int32.not_lt.mpr c2), jn_eq, jn_eq, nI_1, nI_1, ← e]
        exact h
      · rw [if_neg c2] at e
        rw [if_pos (Int32.not_le.mp c2), jn_eq, nI_1, ← e]
        exact h
    · rw [if_neg c] at e
      rw [if_neg c, jn_eq, nI_1, ← e]
      exact h
def q_ws (a : Bd) : Nat → Int32
  | 0 => 0
  | k + 1 => q_ws a k + q_su (q_co a k)
theorem pz_nx : ∀ k, k < 12 → ¬ 6 < pz k ∧ (k ≠ 5 → pz k + 1 = pz (k + 1)) := by decide +kernel
theorem ws_loop {B : Mm} (R : RC B a) : ∀ (j k fuel : Nat), k + j = 12 → 2 * j < fuel → s_X0_weights_L5 fuel B (q_ws a k) (pz k) = some (q_ws a 12) := by
  intro j
  induction j with
  | zero =>
    intro k fuel hk hf
    obtain ⟨f, rfl⟩ : ∃ f, fuel = f + 1 := ⟨fuel - 1, by omega⟩
    have hk : k = 12 := by omega
    subst hk
    rw [s_X0_weights_L5, if_pos (show (6 : Int32) < pz 12 from by decide)]
  | succ j ih =>
    intro k fuel hk hf
    obtain ⟨f, rfl⟩ : ∃ f, fuel = f + 2 := ⟨fuel - 2, by omega⟩
    obtain ⟨hp, -, hs⟩ := pz_tab k (by omega)
    obtain ⟨h6, hn⟩ := pz_nx k (by omega)
    rw [s_X0_weights_L5, if_neg h6, C_weights R hp, bd_some, hs, jn_eq, jn_eq]
    by_cases c : k = 5
    · subst c
      rw [s_X0_weights_L5, show pz 5 + 1 = 0 from by decide, if_neg (show ¬ (6 : Int32) < 0 from by decide), wts_0, bd_some, jn_eq, jn_eq, Int32.add_zero, show (0 : Int32) + 1 = pz 6 from by decide]
      exact ih 6 f (by omega) (by omega)
    · rw [hn c]
      exact ih (k + 1) (f + 1) (by omega) (by omega)
theorem K_cnt0 (R : RC (T 1) a) : s_X4_count T 0 = some (q_sd a) := by
  unfold s_X4_count s_X0_side
  rw [jn_eq, if_pos rfl, bd_some, R.2.2.2.1]
theorem K_cnt1 (R : RC (T 1) a) : s_X4_count T 1 = some (q_tu a) := by
  unfold s_X4_count s_X0_turn
  rw [jn_eq, if_neg (by decide), if_pos rfl, bd_some, R.2.2.2.2.2.2]
theorem K_cnt2 (R : RC (T 1) a) : s_X4_count T 2 = some (q_out a) := by
  unfold s_X4_count
  rw [jn_eq, if_neg (by decide), if_neg (by decide), if_pos rfl, C_out R, bd_some]
theorem K_cnt3 : s_X4_count T 3 = some (T 1 0 11) := rfl
theorem K_cnt4 : s_X4_count T 4 = some (T 1 0 9) := rfl
theorem K_cnt5 (R : RC (T 1) a) : s_X4_count T 5 = some (q_tu a - T 1 0 9) := by
  rw [← R.2.2.2.2.2.2]
  rfl
theorem K_cnt6 (R : RC (T 1) a) : s_X4_count T 6 = some (q_tk a 12) := by
  show (Option.bind (s_X0_tokens (T 1)) fun v => some v) = _
  rw [C_tokens R, bd_some]
theorem K_cnt7 (R : RC (T 1) a) : s_X4_count T 7 = some (q_ws a 12) := by
  show (Option.bind (s_X0_weights (T 1)) fun v => some v) = _
  unfold s_X0_weights
  rw [show (-6 : Int32) = pz 0 from by decide, show s_X0_weights_L5 1000 (T 1) 0 (pz 0) = some (q_ws a 12) from ws_loop R 12 0 1000 rfl (by omega), bd_some]
theorem K_cnt8 (R : RC (T 1) a) (ok : q_ok a) : s_X4_count T 8 = some (nI (q_ct a 84)) := by
  show (Option.bind (s_X0_possibleMoves (T 1)) fun v => some v) = _
  unfold s_X0_possibleMoves
  rw [show s_X0_possibleMoves_L4 1000 (T 1) 0 0 = some (nI (q_ct a 84)) from cnt_loop R ok 84 0 1000 rfl (by omega), bd_some]
theorem K_cnt9 (R : RC (T 1) a) (ok : q_ok a) : s_X4_count T 9 = some (nI (q_sf a 84)) := by
  show (Option.bind (s_X0_safeMoves (T 1)) fun v => some v) = _
  unfold s_X0_safeMoves
  rw [show s_X0_safeMoves_L4 1000 (T 1) 0 0 = some (nI (q_sf a 84)) from safe_loop R ok 84 0 1000 rfl (by omega), bd_some]
theorem K_cnt10 : s_X4_count T 10 = some (T 1 0 10) := rfl
theorem K_cntS (R : RC (T 1) a) {k : Nat} (hk : k < 4) : s_X4_count T (11 + nI k) = some (q_sg a k) := by
  have st : ∀ x : Int32, x = nI k → (Option.bind (s_X0_setting (T 1) x) fun v17 => some v17) = some (q_sg a k) := by
    rintro x rfl
    unfold s_X0_setting
    rw [(set_tab k hk).1, bd_some, if_neg (show ¬ (1 : Int32) = 0 from by decide), rd_n hk (by omega), bd_some, R.2.2.1 k hk, bd_some]
  have : k = 0 ∨ k = 1 ∨ k = 2 ∨ k = 3 := by omega
  rcases this with rfl | rfl | rfl | rfl
  · exact st (11 + nI 0 - 11) (by decide)
  · exact st (11 + nI 1 - 11) (by decide)
  · exact st (11 + nI 2 - 11) (by decide)
  · exact st (11 + nI 3 - 11) (by decide)
/-- the place at which a token of weight x levels the beam, from the k-th place on -/
def q_lv (a : Bd) (x : Int32) : Nat → Int32
  | 0 => -10005
  | k + 1 => if q_tu a + x * pz k = 0 ∧ nI (q_co a k).length < q_sg a 0 then pz k else q_lv a x k
theorem lv_keep {x : Int32} {k : Nat} : ∀ {i : Nat}, (∀ j, k ≤ j → j < k + i → ¬ (q_tu a + x * pz j = 0 ∧ nI (q_co a j).length < q_sg a 0)) → q_lv a x (k + i) = q_lv a x k
  | 0, _ => rfl
  | i + 1, h => by
    have ih := lv_keep (x := x) (k := k) (i := i) (fun j h1 h2 => h j h1 (by omega))
    rw [← ih]
    exact if_neg (h (k + i) (by omega) (by omega))
theorem lv_uni : ∀ w, w < 6 → 1 ≤ w → ∀ k, k < 12 → ∀ j, j < 12 → nI w * pz k = nI w * pz j → k = j := by decide +kernel
theorem lev_loop (R : RC (T 1) a) {w : Nat} (h1 : 1 ≤ w) (h5 : w ≤ 5) : ∀ (j k fuel : Nat), k + j = 12 → 2 * j < fuel → (∀ i, i < k → ¬ (q_tu a + nI w * pz i = 0 ∧ nI (q_co a i).length < q_sg a 0)) → s_X4_levels_L14 fuel T (nI w) (pz k) = some (q_lv a (nI w) 12) := by
  intro j
  induction j with
  | zero =>
    intro k fuel hk hf hn
    obtain ⟨f, rfl⟩ : ∃ f, fuel = f + 1 := ⟨fuel - 1, by omega⟩
    have hk : k = 12 := by omega
    subst hk
    rw [s_X4_levels_L14, if_pos (show (6 : Int32) < pz 12 from by decide)]
    have := lv_keep (a := a) (x := nI w) (k := 0) (i := 12) (fun j _ h2 => hn j (by omega))
    rw [this]
    rfl
  | succ j ih =>
    intro k fuel hk hf hn
    obtain ⟨f, rfl⟩ : ∃ f, fuel = f + 2 := ⟨fuel - 2, by omega⟩
    obtain ⟨hp, -, hs⟩ := pz_tab k (by omega)
    obtain ⟨h6, hx⟩ := pz_nx k (by omega)
    have nx : ¬ (q_tu a + nI w * pz k = 0 ∧ nI (q_co a k).length < q_sg a 0) → s_X4_levels_L14 (f + 1) T (nI w) (pz k + 1) = some (q_lv a (nI w) 12) := by
      intro hm
      have hn2 : ∀ i, i < k + 1 → ¬ (q_tu a + nI w * pz i = 0 ∧ nI (q_co a i).length < q_sg a 0) := fun i hi => by
        by_cases c : i = k
        · rw [c]; exact hm
        · exact hn i (by omega)
      by_cases c : k = 5
      · subst c
        have h := ih 6 f (by omega) (by omega) hn2
        rw [s_X4_levels_L14, show pz 5 + 1 = 0 from by decide, if_neg (show ¬ (6 : Int32) < 0 from by decide)]
        unfold s_X0_turn
        rw [bd_some, show s_X0_isPlace 0 = some 0 from by decide, bd_some, if_pos (show (0 : Int32) = 0 from rfl), jn_eq, ite_self, show (0 : Int32) + 1 = pz 6 from by decide, h]
      · rw [hx c]
        exact ih (k + 1) (f + 1) (by omega) (by omega) hn2
    rw [s_X4_levels_L14, if_neg h6]
    unfold s_X0_turn
    rw [bd_some, R.2.2.2.2.2.2, pl_is _ hp, bd_some, if_neg (show ¬ (1 : Int32) = 0 from by decide), C_full R hp, bd_some, hs]
    by_cases c : q_tu a + nI w * pz k = 0
    · rw [if_pos c]
      by_cases c2 : nI (q_co a k).length < q_sg a 0
      · rw [if_pos c2, if_pos rfl]
        have e1 : q_lv a (nI w) (k + 1) = pz k := if_pos ⟨c, c2⟩
        have e2 := lv_keep (a := a) (x := nI w) (k := k + 1) (i := 12 - (k + 1)) (fun j h1' h2' hm => by
          have : k = j := lv_uni w (by omega) h1 k (by omega) j (by omega) (by
            have e := hm.1
            have e' : q_tu a + nI w * pz k = q_tu a + nI w * pz j := by rw [c, e]
            grind)
          omega)
        rw [show k + 1 + (12 - (k + 1)) = 12 by omega, e1] at e2
        rw [e2]
      · rw [if_neg c2, if_neg (show ¬ (1 : Int32) = 0 from by decide), jn_eq]
        exact nx (fun h => c2 h.2)
    · rw [if_neg c, jn_eq]
      exact nx (fun h => c h.1)
theorem K_levels (R : RC (T 1) a) {w : Nat} (h1 : 1 ≤ w) (h5 : w ≤ 5) : s_X4_levels T (nI w) = some (q_lv a (nI w) 12) := by
  unfold s_X4_levels
  rw [wt_is h1 h5, bd_some, if_neg (show ¬ (1 : Int32) = 0 from by decide), show (-6 : Int32) = pz 0 from by decide]
  exact lev_loop R h1 h5 12 0 1000 rfl (by omega) (fun i hi => absurd hi (Nat.not_lt_zero _))
theorem K_made {mc j q : Nat} (hm : T 1 0 11 = nI mc) (h : mc < 10368) (hj : j < 2 ^ 31) (hq : q < 4) : s_X4_made T (nI j) (nI q) = some (if j < min mc 40 then T 1 5 (4 * ((mc - 1 - j) % 40) + q) else -10005) := by
  have K := C_kept hm h hj
  have p1 : ¬ nI q < 0 := nI_pos (by omega)
  have p2 : nI q < 4 := nI_lt (b := 4) (by omega) (by omega)
  unfold s_X4_made
  rw [if_neg (nI_pos hj), if_neg p1, if_pos p2, K, bd_some]
  by_cases c3 : j < min mc 40
  · have e1 : nI mc - 1 - nI j = nI (mc - 1 - j) := by
      rw [show nI mc - 1 = nI (mc - 1) from nI_sub (b := 1) (by omega), nI_sub (by omega)]
    rw [if_pos c3, if_neg (show ¬ (1 : Int32) = 0 from by decide), if_pos c3]
    unfold s_X0_partOfMove
    rw [K, bd_some, if_pos c3, if_neg (show ¬ (1 : Int32) = 0 from by decide), if_neg p1, if_pos p2, hm, e1, C_row (by omega), bd_some, nI_add, rd_n (by omega) (by omega), bd_some, bd_some]
  · rw [if_neg c3, if_pos rfl, if_neg c3]
end
