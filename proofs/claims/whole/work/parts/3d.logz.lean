/-! one move of the reference, with its log -/
theorem pk83 {L : Nat} : (83 : Int32) + 4 * nI L = nI (83 + 4 * L) := by
  rw [show (83 : Int32) = nI 83 from rfl, show (4 : Int32) = nI 4 from rfl, pk_mul, nI_add]
/-- the new row of the log -/
def LR (z : Nat → Int32) (L : Nat) (s x1 x2 t : Int32) : Nat → Int32 := upd (upd (upd (upd (upd z (83 + 4 * L) s) (83 + 4 * L + 1) x1) (83 + 4 * L + 2) x2) (83 + 4 * L + 3) t) 12 (nI (L + 1))
theorem LR_lo {z : Nat → Int32} {L : Nat} {s x1 x2 t : Int32} {k : Nat} (h : k < 83 + 4 * L) (h12 : k ≠ 12) : LR z L s x1 x2 t k = z k := by
  unfold LR
  rw [up_ne h12, up_ne (by omega), up_ne (by omega), up_ne (by omega), up_ne (by omega)]
theorem LR_hi {z : Nat → Int32} {L : Nat} {s x1 x2 t : Int32} : LR z L s x1 x2 t 12 = nI (L + 1) ∧ LR z L s x1 x2 t (83 + 4 * L) = s ∧ LR z L s x1 x2 t (83 + 4 * L + 1) = x1 ∧ LR z L s x1 x2 t (83 + 4 * L + 2) = x2 ∧ LR z L s x1 x2 t (83 + 4 * L + 3) = t := by
  unfold LR
  refine ⟨up_eq _ _ _, ?_, ?_, ?_, ?_⟩
  · rw [up_ne (by omega), up_ne (by omega), up_ne (by omega), up_ne (by omega), up_eq]
  · rw [up_ne (by omega), up_ne (by omega), up_ne (by omega), up_eq]
  · rw [up_ne (by omega), up_ne (by omega), up_eq]
  · rw [up_ne (by omega), up_eq]
theorem log_row {Z : Mm} {z : Nat → Int32} {L : Nat} {s x1 x2 t : Int32} (hL : L < 40) (h : z 12 = nI L) :
    (Option.bind (rd 243 ((mset Z 1 z) 1) (12 : Int32)) fun v21 =>
      jn ((83 : Int32) + ((4 : Int32) * v21)) fun v22 =>
      Option.bind (wr 243 (mset Z 1 z) 1 v22 s) fun N23 =>
      Option.bind (wr 243 N23 1 (v22 + (1 : Int32)) x1) fun N24 =>
      Option.bind (wr 243 N24 1 (v22 + (2 : Int32)) x2) fun N25 =>
      Option.bind (wr 243 N25 1 (v22 + (3 : Int32)) t) fun N26 =>
      Option.bind (rd 243 (N26 1) (12 : Int32)) fun v27 =>
      Option.bind (wr 243 N26 1 (12 : Int32) (v27 + (1 : Int32))) fun N28 =>
      Option.bind (rd 243 (N28 1) (5 : Int32)) fun v29 =>
      some (v29, N28)) = some (z 5, mset Z 1 (LR z L s x1 x2 t)) := by
  rw [ms_eq, rd_e (i := 12) 12 rfl (by decide) (by decide), bd_some, h, pk83, jn_eq, wr1 (by omega) (by omega), bd_some, nI_1, wr1 (by omega) (by omega), bd_some,
    show nI (83 + 4 * L) + 2 = nI (83 + 4 * L + 2) from nI_add _ 2, wr1 (by omega) (by omega), bd_some, show nI (83 + 4 * L) + 3 = nI (83 + 4 * L + 3) from nI_add _ 3, wr1 (by omega) (by omega), bd_some,
    ms_eq, rd_e (i := 12) 12 rfl (by decide) (by decide), bd_some, up_ne (show 12 ≠ 83 + 4 * L + 3 by omega), up_ne (show 12 ≠ 83 + 4 * L + 2 by omega), up_ne (show 12 ≠ 83 + 4 * L + 1 by omega), up_ne (show 12 ≠ 83 + 4 * L by omega), h, nI_1,
    wr1e (i := 12) 12 rfl (by decide) (by decide), bd_some, ms_eq, rd_e (i := 5) 5 rfl (by decide) (by decide), bd_some]
  have e := LR_lo (z := z) (L := L) (s := s) (x1 := x1) (x2 := x2) (t := t) (k := 5) (by omega) (by omega)
  unfold LR at e ⊢
  rw [e]
theorem log_full {x1 x2 s t : Int32} {Z : Mm} : ∀ (j x fuel : Nat) {z : Nat → Int32}, x + j = 156 → j < fuel → z 12 = 40 →
    ∃ z0, s_X5_moveIt_L115 fuel (mset Z 1 z) x1 x2 s t (nI x) = some (z 5, mset Z 1 (LR z0 39 s x1 x2 t)) ∧ ∀ k, z0 k = if k = 12 then nI 39 else if 83 + x ≤ k ∧ k < 239 then z (k + 4) else z k := by
  intro j
  induction j with
  | zero =>
    intro x fuel z hx hf hz
    obtain ⟨f, rfl⟩ : ∃ f, fuel = f + 1 := ⟨fuel - 1, by omega⟩
    have hx : x = 156 := by omega
    subst hx
    rw [s_X5_moveIt_L115, if_pos (show (156 : Int32) ≤ nI 156 from by decide), ms_eq, rd_e (i := 12) 12 rfl (by decide) (by decide), bd_some, hz, wr1e (i := 12) 12 rfl (by decide) (by decide), bd_some]
    refine ⟨upd z 12 (nI 39), (log_row (z := upd z 12 (40 - 1)) (L := 39) (by omega) (up_eq _ _ _)).trans ?_, fun k => ?_⟩
    · rfl
    · rw [up_ap]
      by_cases c : k = 12
      · rw [if_pos c, if_pos c]
      · rw [if_neg c, if_neg c, if_neg (by omega)]
  | succ j ih =>
    intro x fuel z hx hf hz
    obtain ⟨f, rfl⟩ : ∃ f, fuel = f + 1 := ⟨fuel - 1, by omega⟩
    have e1 : (83 : Int32) + nI x = nI (83 + x) := nI_add 83 x
    have e2 : nI (83 + x) + 4 = nI (83 + x + 4) := nI_add _ 4
    rw [s_X5_moveIt_L115, if_neg (show ¬ (156 : Int32) ≤ nI x from nI_ge (b := 156) (by omega) (by decide)), ms_eq, e1, e2, rd_n (by omega) (by omega), bd_some, wr1 (by omega) (by omega), bd_some, jn_eq, nI_1]
    obtain ⟨z0, e, h⟩ := ih (x + 1) f (z := upd z (83 + x) (z (83 + x + 4))) (by omega) (by omega) ((up_ne (by omega)).trans hz)
    refine ⟨z0, e.trans ?_, fun k => ?_⟩
    · rw [up_ne (by omega)]
    · rw [h k]
      by_cases c : k = 12
      · rw [if_pos c, if_pos c]
      · rw [if_neg c, if_neg c]
        by_cases c1 : k = 83 + x
        · rw [if_neg (by omega), if_pos (by omega), c1, up_eq]
        · by_cases c2 : 83 + (x + 1) ≤ k ∧ k < 239
          · rw [if_pos c2, if_pos (by omega), up_ne (by omega)]
          · rw [if_neg c2, if_neg (by omega), up_ne c1]
