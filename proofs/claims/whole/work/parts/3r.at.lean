/-! at -/
def q_sm (f : Nat → Int32) : Nat → Int32
  | 0 => 0
  | h + 1 => q_sm f h + f h
def q_su : List Int32 → Int32
  | [] => 0
  | w :: t => q_su t + w
theorem su_stk {f : Nat → Int32} : ∀ h, q_su (stk f h) = q_sm f h := by
  intro h
  induction h with
  | zero => rfl
  | succ h ih =>
    show q_su (stk f h) + f h = q_sm f h + f h
    rw [ih]
theorem C_weights {a : Bd} {B : Mm} {p : Int32} (R : RC B a) (hp : p ∈ pls) : s_X0_weightsAt B p = some (q_su (q_co a (sl p))) := by
  obtain ⟨h4, h2, hs⟩ := R.1 _ (sl_lt p hp)
  unfold s_X0_weightsAt
  rw [C_height R hp, bd_some, (congrArg q_su hs).symm.trans (su_stk _)]
  generalize (q_co a (sl p)).length = h at h4
  have : ∀ (j k fuel : Nat), k + j = h → j < fuel → s_X0_weightsAt_L11 fuel B p (q_sm (fun l => B 1 (4 * sl p + l)) k) (nI h) (nI k) = some (q_sm (fun l => B 1 (4 * sl p + l)) h) := by
    intro j
    induction j with
    | zero =>
      intro k fuel hk hf
      obtain ⟨f, rfl⟩ : ∃ f, fuel = f + 1 := ⟨fuel - 1, by omega⟩
      have hk : k = h := by omega
      subst hk
      rw [s_X0_weightsAt_L11, if_pos (Int32.le_refl _)]
    | succ j ih =>
      intro k fuel hk hf
      obtain ⟨f, rfl⟩ : ∃ f, fuel = f + 1 := ⟨fuel - 1, by omega⟩
      rw [s_X0_weightsAt_L11, if_neg (nI_ge (by omega) (by omega)), C_weightAt hp (by omega), bd_some, jn_eq, jn_eq, nI_1]
      exact ih (k + 1) f (by omega) (by omega)
  exact this h 0 1000 (by omega) (by omega)
theorem Z_weights {a : Bd} {Z : Mm} {p : Int32} (R : RZ (Z 1) a) (hp : p ∈ pls) : s_X5_weights Z p = some (q_su (q_co a (sl p))) := by
  obtain ⟨h4, h2, hs⟩ := R.1 _ (sl_lt p hp)
  have sp := sl_lt p hp
  have hm := Z_many R hp
  unfold s_X5_weights
  rw [(congrArg q_su hs).symm.trans (su_stk _)]
  generalize (q_co a (sl p)).length = h at h4 hm
  have : ∀ (j k fuel : Nat), k + j = h → j < fuel → s_X5_weights_L4 fuel Z p (q_sm (fun l => Z 1 (24 + 5 * sl p + l)) k) (nI (k + 1)) = some (q_sm (fun l => Z 1 (24 + 5 * sl p + l)) h) := by
    intro j
    induction j with
    | zero =>
      intro k fuel hk hf
      obtain ⟨f, rfl⟩ : ∃ f, fuel = f + 1 := ⟨fuel - 1, by omega⟩
      have hk : k = h := by omega
      subst hk
      rw [s_X5_weights_L4, hm, bd_some, if_pos (nI_lt (by omega) (by omega))]
    | succ j ih =>
      intro k fuel hk hf
      obtain ⟨f, rfl⟩ : ∃ f, fuel = f + 1 := ⟨fuel - 1, by omega⟩
      rw [s_X5_weights_L4, hm, bd_some, if_neg (Int32.not_lt.mpr (nI_le (by omega) (by omega))), pl_spZ p hp, bd_some, nI_add, show 23 + 5 * sl p + (k + 1) = 24 + 5 * sl p + k from by omega, rd_n (by omega) (by omega), bd_some, jn_eq, jn_eq, nI_1]
      exact ih (k + 1) f (by omega) (by omega)
  exact this h 0 1000 (by omega) (by omega)
theorem inv_at {n : Nat} {T : Nat → Mm} {Z : Mm} (h : Inv n T Z) (hn : n < 512) (a1 a2 : Int32) : ∃ (r : Int32), s_X4_at T a1 a2 = some r ∧ s_X5_at Z a1 a2 = some r ∧ Inv (n + 1) T Z := by
  have hb := h.1
  obtain ⟨a, mc, R, S, ok, hmc, G⟩ := hb
  unfold s_X4_at s_X5_at
  by_cases hp : a1 ∈ pls
  · rw [pl_is _ hp, pl_isZ _ hp, bd_some, bd_some, if_neg (show ¬ (1 : Int32) = 0 from by decide), if_neg (show ¬ (1 : Int32) = 0 from by decide), C_height R hp, C_weights R hp, Z_many S hp, Z_weights S hp]
    by_cases c0 : a2 = 0
    · rw [if_pos c0, if_pos c0]
      exact ⟨_, rfl, rfl, inv_skip h⟩
    · rw [if_neg c0, if_neg c0]
      by_cases c1 : a2 = 1
      · rw [if_pos c1, if_pos c1]
        exact ⟨_, rfl, rfl, inv_skip h⟩
      · rw [if_neg c1, if_neg c1]
        by_cases c2 : a2 = 2
        · rw [if_pos c2, if_pos c2, bd_some, bd_some]
          have h4 := R.co hp
          cases e : q_co a (sl a1) with
          | nil =>
            exact ⟨_, rfl, rfl, inv_skip h⟩
          | cons w t =>
            rw [e] at h4
            have hl : (w :: t).length = t.length + 1 := rfl
            have hg : ¬ nI (w :: t).length ≤ 0 := nI_ge (a := 0) (by omega) (by omega)
            rw [if_neg hg, if_neg (fun x => hg (by rw [x]; exact Int32.le_refl _)), C_upper R hp e]
            unfold s_X5_top
            have sp := sl_lt a1 hp
            rw [pl_spZ _ hp, bd_some, Z_many S hp, e, bd_some, bd_some, nI_add, rd_n (by omega) (by omega), bd_some, show 23 + 5 * sl a1 + (w :: t).length = 24 + 5 * sl a1 + t.length from by omega, (S.top hp e).1]
            exact ⟨_, rfl, rfl, inv_skip h⟩
        · rw [if_neg c2, if_neg c2]
          by_cases c3 : a2 = 3
          · rw [if_pos c3]
            exact ⟨_, rfl, rfl, inv_skip h⟩
          · rw [if_neg c3]
            exact ⟨_, rfl, rfl, inv_skip h⟩
  · rw [(pl_no hp).1, (pl_no hp).2]
    exact ⟨_, rfl, rfl, inv_skip h⟩
