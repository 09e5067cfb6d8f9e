/-! the class' answers, abstractly: what is told -/
section
variable {T : Nat → Mm} {a : Bd} {p : Int32}
theorem K_at0 (R : RC (T 1) a) (hp : p ∈ pls) : s_X4_at T p 0 = some (nI (q_co a (sl p)).length) := by
  unfold s_X4_at
  rw [pl_is _ hp, bd_some, if_neg (show ¬ (1 : Int32) = 0 from by decide), if_pos rfl, C_height R hp, bd_some]
theorem K_at1 (R : RC (T 1) a) (hp : p ∈ pls) : s_X4_at T p 1 = some (q_su (q_co a (sl p))) := by
  unfold s_X4_at
  rw [pl_is _ hp, bd_some, if_neg (show ¬ (1 : Int32) = 0 from by decide), if_neg (show ¬ (1 : Int32) = 0 from by decide), if_pos rfl, C_weights R hp, bd_some]
def q_up (l : List Int32) : Int32 := match l with
  | [] => -10005
  | w :: _ => w
theorem K_at2 (R : RC (T 1) a) (hp : p ∈ pls) : s_X4_at T p 2 = some (q_up (q_co a (sl p))) := by
  unfold s_X4_at
  rw [pl_is _ hp, bd_some, if_neg (show ¬ (1 : Int32) = 0 from by decide), if_neg (show ¬ (2 : Int32) = 0 from by decide), if_neg (show ¬ (2 : Int32) = 1 from by decide), if_pos rfl, C_height R hp, bd_some]
  have h4 := R.co hp
  cases e : q_co a (sl p) with
  | nil => rfl
  | cons w t =>
    rw [e] at h4
    rw [if_neg (nI_nle (n := (w :: t).length) (Nat.succ_pos _) (by omega)), C_upper R hp e, bd_some]
    rfl
theorem K_at3 (R : RC (T 1) a) (hp : p ∈ pls) : s_X4_at T p 3 = some (q_su (q_co a (sl p)) * p) := by
  unfold s_X4_at
  rw [pl_is _ hp, bd_some, if_neg (show ¬ (1 : Int32) = 0 from by decide), if_neg (show ¬ (3 : Int32) = 0 from by decide), if_neg (show ¬ (3 : Int32) = 1 from by decide), if_neg (show ¬ (3 : Int32) = 2 from by decide), if_pos rfl, C_weights R hp, bd_some]
theorem K_reason (R : RC (T 1) a) (ok : q_ok a) {n : Nat} (h1 : 1 ≤ n) (h7 : n ≤ 7) (hp : p ∈ pls) : s_X4_reason T (nI n) p = some (q_why a n p) := by
  unfold s_X4_reason
  rw [if_neg (show ¬ nI n < 1 from nI_nlt (a := n) (b := 1) h1 (by omega)), if_pos (show nI n ≤ 7 from nI_le (b := 7) h7 (by omega)), pl_is _ hp, bd_some, if_neg (show ¬ (1 : Int32) = 0 from by decide), C_why R ok h1 h7 hp, bd_some]
theorem K_bag0 (R : RC (T 1) a) {i : Nat} (hi : i < 2) : s_X4_bag T (nI i) 0 = some (q_all a i) := by
  unfold s_X4_bag
  rw [sd_is hi, bd_some, if_neg (show ¬ (1 : Int32) = 0 from by decide), if_pos rfl, C_inAll R hi, bd_some]
theorem K_bagw (R : RC (T 1) a) {i w : Nat} (hi : i < 2) (h1 : 1 ≤ w) (h5 : w ≤ 5) : s_X4_bag T (nI i) (nI w) = some (q_bg a i w) := by
  unfold s_X4_bag
  rw [sd_is hi, bd_some, if_neg (show ¬ (1 : Int32) = 0 from by decide), if_neg (nI_ne0 (by omega) (by omega)), wt_is h1 h5, bd_some, if_neg (show ¬ (1 : Int32) = 0 from by decide), C_inBag R hi h1 h5, bd_some]
theorem K_look (R : RC (T 1) a) (ok : q_ok a) {d : Nat} (hd : d ≤ 3) : ∃ B', s_X4_look T (nI d) = some (iI (q_val d a), tset T 1 B') ∧ RC B' a ∧ RS (T 1) B' := by
  unfold s_X4_look s_X3_lookAhead
  obtain ⟨r, B', e1, R', S1, hP⟩ := A_ok d 5 (by omega) (by omega) (T 1) a (-1) 1 R ok (by omega) (by omega) (by omega)
  rw [if_neg (nI_pos (by omega)), if_pos (show nI d ≤ 3 from nI_le (b := 3) hd (by omega)), show s_X3_ahead 5 (T 1) (nI d) (-1) 1 = some (iI r, B') from e1, bd_some, bd_some]
  have hv := q_val_r d a
  have er : r = q_val d a := by
    obtain ⟨p1, p2, p3, p4, p5⟩ := hP
    by_cases x1 : r ≤ -1
    · have := p1 x1; omega
    · by_cases x2 : 1 ≤ r
      · have := p2 x2; omega
      · exact p3 (by omega) (by omega)
  rw [er]
  exact ⟨B', rfl, R', S1⟩
theorem K_best (R : RC (T 1) a) (ok : q_ok a) {d : Nat} (hd : d < 3) : ∃ B', s_X4_best T (nI (d + 1)) = some (q_bt (q_br d a), tset T 1 B') ∧ RC B' a ∧ RS (T 1) B' := by
  obtain ⟨B', e1, R', S1⟩ := C_best hd R ok
  unfold s_X4_best
  rw [if_neg (show ¬ nI (d + 1) < 1 from nI_nlt (a := d + 1) (b := 1) (by omega) (by omega)), if_pos (show nI (d + 1) ≤ 3 from nI_le (b := 3) (by omega) (by omega)), e1, bd_some, jn_eq]
  dsimp only
  rcases q_br_r d a with hr | ⟨r1, r2⟩
  · rw [hr, if_neg (show ¬ (0 : Int32) ≤ iI (-1) from by decide)]
    exact ⟨B', rfl, R', S1⟩
  · obtain ⟨k, hk⟩ : ∃ k : Nat, q_br d a = (k : Int) := ⟨(q_br d a).toNat, by omega⟩
    have hk84 : k < 84 := by omega
    rw [hk, bt_k, if_pos (show (0 : Int32) ≤ iI (k : Int) from nI_pos' (n := k) (by omega)), show s_X4_tellMove (iI (k : Int)) = some (q_tl k) from (ord_tab k hk84).2.1, bd_some]
    exact ⟨B', rfl, R', S1⟩
/-- the number of possible moves before the rank k -/
def q_ct (a : Bd) : Nat → Nat
  | 0 => 0
  | k + 1 => if q_why a (q_num k) (q_plc k) = 0 then q_ct a k + 1 else q_ct a k
theorem ct_le (a : Bd) : ∀ k, q_ct a k ≤ k
  | 0 => Nat.le_refl _
  | k + 1 => by
    have := ct_le a k
    unfold q_ct
    split <;> omega
theorem ct_mono (a : Bd) (k : Nat) : ∀ j, q_ct a k ≤ q_ct a (k + j)
  | 0 => Nat.le_refl _
  | j + 1 => by
    have := ct_mono a k j
    have e : q_ct a (k + (j + 1)) = if q_why a (q_num (k + j)) (q_plc (k + j)) = 0 then q_ct a (k + j) + 1 else q_ct a (k + j) := rfl
    rw [e]
    split <;> omega
theorem poss_at (R : RC (T 1) a) (ok : q_ok a) {k0 : Nat} (h0 : k0 < 84) (hw : q_why a (q_num k0) (q_plc k0) = 0) : ∀ (j k fuel : Nat), k + j = k0 → j < fuel → s_X4_possible_L12 fuel T (nI (q_ct a k0 - q_ct a k)) (nI k) = some (q_tl k0) := by
  intro j
  induction j with
  | zero =>
    intro k fuel hk hf
    obtain ⟨f, rfl⟩ : ∃ f, fuel = f + 1 := ⟨fuel - 1, by omega⟩
    have hk : k = k0 := by omega
    subst hk
    obtain ⟨u1, u2, u3, u4, hp, n1, n7⟩ := rank_tab k h0
    rw [s_X4_possible_L12, if_neg (show ¬ (84 : Int32) ≤ nI k from nI_ge (b := 84) h0 (by decide)), u1, bd_some, u3, bd_some, C_why R ok n1 n7 hp, bd_some, if_pos hw, Nat.sub_self, if_pos nI_0, (ord_tab k h0).2.1, bd_some]
  | succ j ih =>
    intro k fuel hk hf
    obtain ⟨f, rfl⟩ : ∃ f, fuel = f + 1 := ⟨fuel - 1, by omega⟩
    have hk84 : k < 84 := by omega
    obtain ⟨u1, u2, u3, u4, hp, n1, n7⟩ := rank_tab k hk84
    rw [s_X4_possible_L12, if_neg (show ¬ (84 : Int32) ≤ nI k from nI_ge (b := 84) hk84 (by decide)), u1, bd_some, u3, bd_some, C_why R ok n1 n7 hp, bd_some]
    have e : q_ct a (k + 1) = if q_why a (q_num k) (q_plc k) = 0 then q_ct a k + 1 else q_ct a k := rfl
    have hle : q_ct a (k + 1) ≤ q_ct a k0 := by
      have := ct_mono a (k + 1) j
      rwa [show k + 1 + j = k0 by omega] at this
    have hk0 := ct_le a k0
    have h := ih (k + 1) f (by omega) (by omega)
    by_cases c : q_why a (q_num k) (q_plc k) = 0
    · rw [if_pos c] at e
      rw [if_pos c, if_neg (nI_ne0 (by omega) (by omega)), jn_eq, jn_eq, nI_1]
      obtain ⟨v, hv⟩ : ∃ v, q_ct a k0 - q_ct a k = v + 1 := ⟨q_ct a k0 - q_ct a k - 1, by omega⟩
      rw [hv, pk_m1]
      rw [show q_ct a k0 - q_ct a (k + 1) = v by omega] at h
      exact h
    · rw [if_neg c] at e
      rw [if_neg c, jn_eq, nI_1]
      rw [e] at h
      exact h
theorem poss_end (R : RC (T 1) a) (ok : q_ok a) : ∀ (j k fuel : Nat), k + j = 84 → j < fuel → s_X4_possible_L12 fuel T (nI (q_ct a 84 - q_ct a k)) (nI k) = some (-10005) := by
  intro j
  induction j with
  | zero =>
    intro k fuel hk hf
    obtain ⟨f, rfl⟩ : ∃ f, fuel = f + 1 := ⟨fuel - 1, by omega⟩
    have hk : k = 84 := by omega
    subst hk
    rw [s_X4_possible_L12, if_pos (show (84 : Int32) ≤ nI 84 from by decide)]
  | succ j ih =>
    intro k fuel hk hf
    obtain ⟨f, rfl⟩ : ∃ f, fuel = f + 1 := ⟨fuel - 1, by omega⟩
    have hk84 : k < 84 := by omega
    obtain ⟨u1, u2, u3, u4, hp, n1, n7⟩ := rank_tab k hk84
    rw [s_X4_possible_L12, if_neg (show ¬ (84 : Int32) ≤ nI k from nI_ge (b := 84) hk84 (by decide)), u1, bd_some, u3, bd_some, C_why R ok n1 n7 hp, bd_some]
    have e : q_ct a (k + 1) = if q_why a (q_num k) (q_plc k) = 0 then q_ct a k + 1 else q_ct a k := rfl
    have hle : q_ct a (k + 1) ≤ q_ct a 84 := by
      have := ct_mono a (k + 1) j
      rwa [show k + 1 + j = 84 by omega] at this
    have hk0 := ct_le a 84
    have h := ih (k + 1) f (by omega) (by omega)
    by_cases c : q_why a (q_num k) (q_plc k) = 0
    · rw [if_pos c] at e
      rw [if_pos c, if_neg (nI_ne0 (by omega) (by omega)), jn_eq, jn_eq, nI_1]
      obtain ⟨v, hv⟩ : ∃ v, q_ct a 84 - q_ct a k = v + 1 := ⟨q_ct a 84 - q_ct a k - 1, by omega⟩
      rw [hv, pk_m1]
      rw [show q_ct a 84 - q_ct a (k + 1) = v by omega] at h
      exact h
    · rw [if_neg c] at e
      rw [if_neg c, jn_eq, nI_1]
      rw [e] at h
      exact h
theorem K_poss (R : RC (T 1) a) (ok : q_ok a) {k : Nat} (h0 : k < 84) (hw : q_why a (q_num k) (q_plc k) = 0) : s_X4_possible T (nI (q_ct a k)) = some (q_tl k) := by
  have h := poss_at R ok h0 hw k 0 1000 (by omega) (by omega)
  have hk := ct_le a k
  unfold s_X4_possible
  rw [if_pos (nI_pos' (by omega))]
  exact h
theorem K_posn (R : RC (T 1) a) (ok : q_ok a) : s_X4_possible T (nI (q_ct a 84)) = some (-10005) := by
  have h := poss_end R ok 84 0 1000 (by omega) (by omega)
  have hk := ct_le a 84
  unfold s_X4_possible
  rw [if_pos (nI_pos' (by omega))]
  exact h
theorem ct_find {a : Bd} {r : Nat} : ∀ k, r < q_ct a k → ∃ i, i < k ∧ q_ct a i = r ∧ q_why a (q_num i) (q_plc i) = 0
  | 0, h => absurd h (Nat.not_lt_zero _)
  | k + 1, h => by
    have e : q_ct a (k + 1) = if q_why a (q_num k) (q_plc k) = 0 then q_ct a k + 1 else q_ct a k := rfl
    rw [e] at h
    by_cases c : q_why a (q_num k) (q_plc k) = 0
    · rw [if_pos c] at h
      by_cases c2 : r < q_ct a k
      · obtain ⟨i, h1, h2⟩ := ct_find k c2
        exact ⟨i, by omega, h2⟩
      · exact ⟨k, by omega, by omega, c⟩
    · rw [if_neg c] at h
      obtain ⟨i, h1, h2⟩ := ct_find k h
      exact ⟨i, by omega, h2⟩
end
