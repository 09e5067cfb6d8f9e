/-! set -/
def q_set (a : Bd) (k : Nat) (x : Int32) : Bd := (q_co a, q_bg a, upd (q_sg a) k x, q_sd a, q_la a, q_lt a, q_tu a)
def s_mx (k : Nat) : Nat := if k = 0 then 4 else if k = 1 then 40 else 1
def s_mn (k : Nat) : Nat := if k = 0 then 1 else 0
theorem set_tab : ∀ k, k < 4 → s_X0_isSetting (nI k) = some 1 ∧ s_X0_leastOfSetting (nI k) = some (nI (s_mn k)) ∧ s_X0_mostOfSetting (nI k) = some (nI (s_mx k)) := by decide
theorem val_tab : ∀ k, k < 4 → ∀ x, s_X5_isValue (nI k) x = (Option.bind (s_X5_in x (nI (s_mn k)) (nI (s_mx k))) fun v => Option.bind (bo v) fun w => some w) := by
  intro k hk x
  have : k = 0 ∨ k = 1 ∨ k = 2 ∨ k = 3 := by omega
  rcases this with rfl | rfl | rfl | rfl <;> rfl
theorem q_ok_set {a : Bd} {k d : Nat} (ok : q_ok a) (hk : k < 4) (h1 : s_mn k ≤ d) (h2 : d ≤ s_mx k) : q_ok (q_set a k (nI d)) := by
  obtain ⟨o1, o2, o3, o4, o5, o6, o7⟩ := ok
  have : k = 0 ∨ k = 1 ∨ k = 2 ∨ k = 3 := by omega
  rcases this with rfl | rfl | rfl | rfl
  · exact ⟨o1, o2, o3, ⟨d, h1, h2, rfl⟩, o5, o6, o7⟩
  · exact ⟨o1, o2, o3, o4, ⟨d, h2, rfl⟩, o6, o7⟩
  · have : d = 0 ∨ d = 1 := by have : d ≤ 1 := h2; omega
    refine ⟨o1, o2, o3, o4, o5, ?_, o7⟩
    rcases this with rfl | rfl
    · exact Or.inl rfl
    · exact Or.inr rfl
  · have : d = 0 ∨ d = 1 := by have : d ≤ 1 := h2; omega
    refine ⟨o1, o2, o3, o4, o5, o6, ?_⟩
    rcases this with rfl | rfl
    · exact Or.inl rfl
    · exact Or.inr rfl
theorem s_mx_lt (k : Nat) : s_mx k < 1000 ∧ s_mn k < 1000 := by
  unfold s_mx s_mn
  constructor
  · split
    · omega
    · split <;> omega
  · split <;> omega
theorem inv_set {n : Nat} {T : Nat → Mm} {Z : Mm} (h : Inv n T Z) (hn : n < 512) (a1 a2 : Int32) : ∃ (r : Int32) (T' : Nat → Mm) (Z' : Mm), s_X4_set T a1 a2 = some (r, T') ∧ s_X5_set Z a1 a2 = some (r, Z') ∧ Inv (n + 1) T' Z' := by
  have hb := h.1
  obtain ⟨a, mc, R, S, ok, hmc, G⟩ := hb
  obtain ⟨T1, Z1, e1, e2, I1, F1⟩ := h.rec
  unfold s_X4_set s_X5_set
  rcases in_dec 0 3 (by omega) (by omega) a1 with ⟨k, -, hk, rfl, e, c1, c2⟩ | ⟨e, c⟩
  · obtain ⟨s1, s2, s3⟩ := set_tab k (by omega)
    obtain ⟨m1, m2⟩ := s_mx_lt k
    rw [show s_X5_in (nI k) 0 3 = some 1 from e, s1, bd_some, bd_some, if_neg (show ¬ (1 : Int32) = 0 from by decide), if_neg (show ¬ (1 : Int32) = 0 from by decide), s2, s3, bd_some]
    rcases in_dec (s_mn k) (s_mx k) m2 m1 a2 with ⟨d, d1, hd, rfl, e', c1', c2'⟩ | ⟨e', c'⟩
    · have ev : s_X5_isValue (nI k) (nI d) = some 1 := by
        rw [val_tab k (by omega), e']
        rfl
      rw [ev, if_neg c1', bd_some, bd_some, if_pos c2', if_neg (show ¬ (1 : Int32) = 0 from by decide)]
      unfold s_X0_setting
      rw [s1, bd_some, if_neg (show ¬ (1 : Int32) = 0 from by decide), rd_n (by omega) (by omega), bd_some, bd_some, rd_n (by omega) (by omega), bd_some, R.2.2.1 k (by omega), S.2.2.1 k (by omega)]
      by_cases c : q_sg a k = nI d
      · rw [if_pos c, if_pos c]
        exact ⟨_, _, _, rfl, rfl, inv_skip h⟩
      · rw [if_neg c, if_neg c, e1, bd_some, e2, bd_some]
        unfold s_X0_changeSetting
        rw [s1, bd_some, if_neg (show ¬ (1 : Int32) = 0 from by decide), wr_n (by omega) (by omega), bd_some, bd_some, wr_n (by omega) (by omega), bd_some]
        have t1 := F1.1 1 (by omega)
        have z1 := F1.2.1 1 (by omega) (by omega)
        have R1 : RC (T1 1) a := by rw [t1]; exact R
        have S1 : RZ (Z1 1) a := by rw [z1]; exact S
        have G1 : RG (T1 1) (Z1 1) mc := by rw [t1, z1]; exact G
        refine ⟨_, _, _, rfl, rfl, I1.new (Nat.le_succ n) ⟨q_set a k (nI d), mc, ?_, ?_, q_ok_set ok (by omega) d1 hd, by omega, ?_⟩⟩
        · obtain ⟨r1, r2, r3, r4⟩ := R1
          refine ⟨r1, r2, fun j hj => ?_, r4⟩
          show upd (T1 1 4) k (nI d) j = upd (q_sg a) k (nI d) j
          rw [up_ap, up_ap, r3 j hj]
        · obtain ⟨r1, r2, r3, r4, r5, r6, r7⟩ := S1
          refine ⟨fun s hs => ?_, fun i hi w h1 h5 => ?_, fun j hj => ?_, (up_ne (by omega)).trans r4, (up_ne (by omega)).trans r5, (up_ne (by omega)).trans r6, (up_ne (by omega)).trans r7⟩
          · obtain ⟨q1, q2, q3⟩ := r1 s hs
            refine ⟨q1, (up_ne (by omega)).trans q2, ?_⟩
            rw [stk_congr (g := fun l => Z1 1 (24 + 5 * s + l)) (fun l hl => up_ne (by omega))]
            exact q3
          · exact (up_ne (by omega)).trans (r2 i hi w h1 h5)
          · show upd (Z1 1) k (nI d) j = upd (q_sg a) k (nI d) j
            rw [up_ap, up_ap, r3 j hj]
        · obtain ⟨r1, r2, r3, r4, r5, r6, r7⟩ := G1
          refine ⟨?_, ?_, r3, (up_ne (by omega)).trans r4, ?_, (up_ne (by omega)).trans r6, fun back hb q hq => ?_⟩
          · rw [up_ne (by omega)]; exact r1
          · rw [up_ne (by omega)]; exact r2
          · rw [up_ne (by omega), up_ne (by omega), up_ne (by omega), r5]
          · rw [up_ne (by omega)]
            exact r7 back hb q hq
    · have ev : s_X5_isValue (nI k) a2 = some 0 := by
        rw [val_tab k (by omega), e']
        rfl
      rw [ev]
      refine ⟨-10002, T, Z, ?_, rfl, inv_skip h⟩
      by_cases c1 : a2 < nI (s_mn k)
      · rw [if_pos c1]
      · rw [if_neg c1, bd_some, if_neg (c' c1)]
  · rw [show s_X5_in a1 0 3 = some 0 from e, bd_some, if_pos rfl]
    refine ⟨-10001, T, Z, ?_, rfl, inv_skip h⟩
    have : s_X0_isSetting a1 = some 0 := by
      unfold s_X0_isSetting
      by_cases c1 : a1 < 0
      · rw [if_pos c1]
      · by_cases c2 : 4 ≤ a1
        · rw [if_neg c1, if_pos c2]
        · obtain ⟨k, k1, k2, rfl⟩ := nI_enum (a := 0) (b := 4) (by omega) (by omega) c1 (Int32.not_lt.mpr (Int32.le_of_lt (Int32.not_le.mp c2)))
          have : k ≤ 3 := by
            have : k ≠ 4 := fun e => c2 (by rw [e]; decide)
            omega
          exact absurd (nI_le (b := 3) this (by omega)) (c c1)
    rw [this]
    rfl
