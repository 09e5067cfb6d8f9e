/-! the class: what every call needs -/
/-! the invariant: what the class' memories and the reference's cells have to do with each other -/
theorem RC_congr {B B' : Mm} {a : Bd} (R : RC B a) (h1 : ∀ i, i < 48 → B' 1 i = B 1 i) (h2 : ∀ i, i < 12 → B' 2 i = B 2 i) (h3 : ∀ i, i < 12 → B' 3 i = B 3 i) (h4 : ∀ i, i < 4 → B' 4 i = B 4 i) (h5 : B' 0 5 = B 0 5) (h6 : B' 0 6 = B 0 6) (h7 : B' 0 7 = B 0 7) (h8 : B' 0 8 = B 0 8) : RC B' a := by
  obtain ⟨r1, r2, r3, r4, r5, r6, r7⟩ := R
  refine ⟨fun s hs => ?_, fun i hi => ?_, fun k hk => (h4 k hk).trans (r3 k hk), h5.trans r4, h6.trans r5, h7.trans r6, h8.trans r7⟩
  · obtain ⟨q1, q2, q3⟩ := r1 s hs
    refine ⟨q1, (h2 s hs).trans q2, ?_⟩
    rw [stk_congr (g := fun l => B 1 (4 * s + l)) (fun l hl => h1 (4 * s + l) (by omega))]
    exact q3
  · obtain ⟨q1, q2⟩ := r2 i hi
    exact ⟨(h3 _ (by omega)).trans q1, fun w a b => (h3 _ (by omega)).trans (q2 w a b)⟩
theorem cpy_n {m : Nat} {A B : Mm} {c d : Nat} (hm : m ≤ 1000) : cpy m m A c B d 0 0 (nI m) = some (mset B d (va_cpy (A c) (B d) 0 0 m)) := by
  unfold cpy
  rw [show (0 : Int32) = nI 0 from rfl, nI_clamp (by omega), nI_clamp (by omega)]
  rw [if_neg]
  have h0 : ¬ nI 0 < nI 0 := Int32.lt_irrefl
  have h1 : ¬ nI m < nI 0 := fun h => by
    have := Int32.lt_iff_toInt_lt.mp h
    rw [nI_toInt (by omega), nI_toInt (by omega)] at this
    omega
  rintro (h | h | h | h | h)
  · exact h0 h
  · exact h0 h
  · exact h1 h
  · omega
  · omega
/-- a copy of the class' beam -/
def CP (B B' : Mm) : Prop := (∀ i, i < 48 → B' 1 i = B 1 i) ∧ (∀ i, i < 12 → B' 2 i = B 2 i) ∧ (∀ i, i < 12 → B' 3 i = B 3 i) ∧ (∀ i, i < 4 → B' 4 i = B 4 i) ∧ (∀ i, i < 160 → B' 5 i = B 5 i) ∧ B' 0 5 = B 0 5 ∧ B' 0 6 = B 0 6 ∧ B' 0 7 = B 0 7 ∧ B' 0 8 = B 0 8 ∧ B' 0 9 = B 0 9 ∧ B' 0 10 = B 0 10 ∧ B' 0 11 = B 0 11
theorem C_copy (B B2 : Mm) : ∃ B', s_X0_copyFrom B B2 = some B' ∧ CP B2 B' := by
  unfold s_X0_copyFrom
  rw [show (48 : Int32) = nI 48 from rfl, cpy_n (by omega), bd_some, show (12 : Int32) = nI 12 from rfl, cpy_n (by omega), bd_some, cpy_n (by omega), bd_some, show (4 : Int32) = nI 4 from rfl, cpy_n (by omega), bd_some, show (160 : Int32) = nI 160 from rfl, cpy_n (by omega), bd_some]
  refine ⟨_, rfl, fun i hi => ?_, fun i hi => ?_, fun i hi => ?_, fun i hi => ?_, fun i hi => ?_, rfl, rfl, rfl, rfl, rfl, rfl, rfl⟩
  all_goals
    refine (if_pos ⟨Nat.zero_le _, by omega⟩).trans ?_
    congr 1
    omega
theorem hpk_n {T : Nat → Mm} {pm : Nat → Nat} (h : ∀ i, i < 4 → pm i < 4 ∧ T 4 1 i = nI (pm i)) {i : Nat} (hi : i < 4) : hpk T i = some (pm i) := by
  have := (h i hi).1
  unfold hpk
  rw [(h i hi).2, nI_clamp (by omega), if_pos this]
theorem ts_eq (T : Nat → Mm) (j : Nat) (B : Mm) : tset T j B j = B := if_pos rfl
theorem ts_ne {T : Nat → Mm} {i j : Nat} {B : Mm} (h : i ≠ j) : tset T j B i = T i := if_neg h
/-! the log of the moves -/
theorem row_tab : ∀ i, i < 128 → ∀ j, j < 81 → s_X0_rowOf (nI (81 * i + j)) = some (nI (4 * ((81 * i + j) % 40))) := by decide +kernel
theorem C_row {m : Nat} (h : m < 10368) : s_X0_rowOf (nI m) = some (nI (4 * (m % 40))) := by
  have := row_tab (m / 81) (by omega) (m % 81) (by omega)
  rw [show 81 * (m / 81) + m % 81 = m from by omega] at this
  exact this

/-! one move, with its log -/
theorem mx_eq (x y : Int32) : imax x y = if y ≤ x then x else y := by
  unfold imax
  by_cases c : x < y
  · rw [if_pos c, if_neg (Int32.not_le.mpr c)]
  · rw [if_neg c, if_pos (Int32.not_lt.mp c)]
theorem C_make {a : Bd} {B : Mm} {mc n : Nat} {p : Int32} (R : RC B a) (ok : q_ok a) (hm : B 0 11 = nI mc) (h : mc < 10368) (h1 : 1 ≤ n) (h7 : n ≤ 7) (hp : p ∈ pls) (hh : q_hind a n p = 0) :
    ∃ B', s_X0_makeMove B (nI n) p = some B' ∧ RC B' (q_do a n p) ∧ B' 0 9 = B 0 9 + q_tell a n p ∧ B' 0 10 = imax (B 0 10) (iabs (q_tu (q_do a n p))) ∧ B' 0 11 = nI (mc + 1) ∧
      (B' 5 (4 * (mc % 40)) = q_sd a ∧ B' 5 (4 * (mc % 40) + 1) = nI n ∧ B' 5 (4 * (mc % 40) + 2) = p ∧ B' 5 (4 * (mc % 40) + 3) = q_tell a n p) ∧ ∀ i, (i < 4 * (mc % 40) ∨ 4 * (mc % 40) + 3 < i) → B' 5 i = B 5 i := by
  unfold s_X0_makeMove
  have hr : mc % 40 < 40 := Nat.mod_lt _ (by omega)
  generalize hq : mc % 40 = r at hr
  rw [hm, C_row h, hq, bd_some, wr_n (by omega) (by omega), bd_some, nI_1, wr_n (by omega) (by omega), bd_some, show nI (4 * r) + 2 = nI (4 * r + 2) from nI_add _ 2, wr_n (by omega) (by omega), bd_some]
  generalize hN : mset (mset (mset B 5 (upd (B 5) (4 * r) (B 0 5))) 5 _) 5 _ = N
  have R4 : RC N a := by
    subst hN
    exact RC_congr R (fun _ _ => rfl) (fun _ _ => rfl) (fun _ _ => rfl) (fun _ _ => rfl) rfl rfl rfl rfl
  have n0 : N 0 = B 0 := by subst hN; rfl
  have n5 : N 5 = upd (upd (upd (B 5) (4 * r) (B 0 5)) (4 * r + 1) (nI n)) (4 * r + 2) p := by subst hN; rfl
  clear hN
  rw [C_tell R4 h1 h7 hp hh, bd_some, show nI (4 * r) + 3 = nI (4 * r + 3) from nI_add _ 3, wr_n (by omega) (by omega), bd_some, rd_n (by omega) (by omega), bd_some, ms_eq, up_eq, pf_eq, bd_some, pf_eq, bd_some]
  generalize hM : mset (mset (mset N 5 (upd (N 5) (4 * r + 3) (q_tell a n p))) 0 _) 0 _ = M
  have R9 : RC M a := by
    subst hM
    exact RC_congr R4 (fun _ _ => rfl) (fun _ _ => rfl) (fun _ _ => rfl) (fun _ _ => rfl) rfl rfl rfl rfl
  have m9 : M 0 9 = B 0 9 + q_tell a n p := by subst hM; rw [← n0]; rfl
  have m10 : M 0 10 = B 0 10 := by subst hM; rw [← n0]; rfl
  have m11 : M 0 11 = nI (mc + 1) := by
    subst hM
    rw [ms_eq, up_eq]
    show N 0 11 + 1 = _
    rw [n0, hm, nI_1]
  have m5 : M 5 = upd (N 5) (4 * r + 3) (q_tell a n p) := by subst hM; rfl
  clear hM
  obtain ⟨B1, e, R1, S1, S2, S3, S4⟩ := C_try R9 ok h1 h7 hp hh
  rw [e, bd_some, pf_eq, bd_some]
  refine ⟨_, rfl, RC_congr R1 (fun _ _ => rfl) (fun _ _ => rfl) (fun _ _ => rfl) (fun _ _ => rfl) rfl rfl rfl rfl, ?_, ?_, ?_, ⟨?_, ?_, ?_, ?_⟩, fun i hi => ?_⟩
  · rw [ms_eq, up_ne (by omega), S2, m9]
  · rw [ms_eq, up_eq, S3, m10, R1.2.2.2.2.2.2]
  · rw [ms_eq, up_ne (by omega), S4, m11]
  · rw [ms_ne (by omega), S1, m5, n5, up_ne (by omega), up_ne (by omega), up_ne (by omega), up_eq, R.2.2.2.1]
  · rw [ms_ne (by omega), S1, m5, n5, up_ne (by omega), up_ne (by omega), up_eq]
  · rw [ms_ne (by omega), S1, m5, n5, up_ne (by omega), up_eq]
  · rw [ms_ne (by omega), S1, m5, up_eq]
  · rw [ms_ne (by omega), S1, m5, n5, up_ne (by omega), up_ne (by omega), up_ne (by omega), up_ne (by omega)]

theorem q_hind_r {a : Bd} {n : Nat} {p : Int32} : q_hind a n p = 0 ∨ ¬ q_hind a n p ≤ 0 := by
  unfold q_hind q_h4
  repeat' split
  all_goals first | exact Or.inl rfl | exact Or.inr (by decide)
theorem q_why_r {a : Bd} {n : Nat} {p : Int32} : q_why a n p = 0 ∨ ¬ q_why a n p ≤ 0 := by
  unfold q_why
  split
  · exact q_hind_r
  · exact Or.inr (by decide)
theorem why_hind {a : Bd} {n : Nat} {p : Int32} (h : q_why a n p = 0) : q_hind a n p = 0 := by
  unfold q_why at h
  split at h
  · exact h
  · exact absurd h (by decide)
/-! tokens, keep, restore, undo -/
def q_tk (a : Bd) : Nat → Int32
  | 0 => 0
  | k + 1 => q_tk a k + nI (q_co a k).length
theorem C_tokens {a : Bd} {B : Mm} (R : RC B a) : s_X0_tokens B = some (q_tk a 12) := by
  have : ∀ (j k fuel : Nat), k + j = 12 → j < fuel → s_X0_tokens_L4 fuel B (q_tk a k) (nI k) = some (q_tk a 12) := by
    intro j
    induction j with
    | zero =>
      intro k fuel hk hf
      obtain ⟨f, rfl⟩ : ∃ f, fuel = f + 1 := ⟨fuel - 1, by omega⟩
      have hk : k = 12 := by omega
      subst hk
      rw [s_X0_tokens_L4, if_pos (show (12 : Int32) ≤ nI 12 from by decide)]
    | succ j ih =>
      intro k fuel hk hf
      obtain ⟨f, rfl⟩ : ∃ f, fuel = f + 1 := ⟨fuel - 1, by omega⟩
      rw [s_X0_tokens_L4, if_neg (show ¬ (12 : Int32) ≤ nI k from nI_ge (b := 12) (by omega) (by decide)), rd_n (by omega) (by omega), bd_some, (R.1 k (by omega)).2.1, jn_eq, jn_eq, nI_1]
      exact ih (k + 1) f (by omega) (by omega)
  exact this 12 0 1000 rfl (by omega)
theorem C_empty : ∀ (j x fuel : Nat) {B : Mm}, x + j = 12 → j < fuel → ∃ B', s_X0_empty_L2 fuel B (nI x) = some B' ∧ (∀ q, B' 2 q = if x ≤ q ∧ q < 12 then 0 else B 2 q) ∧ B' 3 = B 3 ∧ B' 4 = B 4 ∧ B' 0 5 = 0 ∧ B' 0 6 = 1 ∧ B' 0 7 = 0 ∧ B' 0 8 = 0 ∧ B' 0 9 = 0 ∧ B' 0 10 = 0 ∧ B' 0 11 = 0 := by
  intro j
  induction j with
  | zero =>
    intro x fuel B hx hf
    obtain ⟨f, rfl⟩ : ∃ f, fuel = f + 1 := ⟨fuel - 1, by omega⟩
    have hx : x = 12 := by omega
    subst hx
    rw [s_X0_empty_L2, if_pos (show (12 : Int32) ≤ nI 12 from by decide)]
    refine ⟨_, rfl, fun q => ?_, rfl, rfl, rfl, rfl, rfl, rfl, rfl, rfl, rfl⟩
    rw [if_neg (by omega)]
    rfl
  | succ j ih =>
    intro x fuel B hx hf
    obtain ⟨f, rfl⟩ : ∃ f, fuel = f + 1 := ⟨fuel - 1, by omega⟩
    rw [s_X0_empty_L2, if_neg (show ¬ (12 : Int32) ≤ nI x from nI_ge (b := 12) (by omega) (by decide)), wr_n (by omega) (by omega), bd_some, jn_eq, nI_1]
    obtain ⟨B', e, h2, h⟩ := ih (x + 1) f (B := mset B 2 (upd (B 2) x 0)) (by omega) (by omega)
    refine ⟨B', e, fun q => ?_, h⟩
    rw [h2, ms_eq]
    by_cases c1 : q = x
    · rw [if_neg (by omega), if_pos (by omega), c1, up_eq]
    · rw [up_ne c1]
      by_cases c2 : x + 1 ≤ q ∧ q < 12
      · rw [if_pos c2, if_pos (by omega)]
      · rw [if_neg c2, if_neg (by omega)]
/-! setBag -/
theorem q_ok_bag {a : Bd} {i w k : Nat} {d : Int32} (ok : q_ok a) (hk : k ≤ 6) (e : q_bg a i w + d = nI k) : q_ok (q_bag a i w d) := by
  obtain ⟨o1, o2, o3, o4⟩ := ok
  refine ⟨o1, o2, fun j hj v v1 v5 => ?_, o4⟩
  show ∃ n, n ≤ 6 ∧ (if j = i ∧ v = w then q_bg a j v + d else q_bg a j v) = nI n
  by_cases c : j = i ∧ v = w
  · rw [if_pos c, c.1, c.2]
    exact ⟨k, hk, e⟩
  · rw [if_neg c]
    exact o3 j hj v v1 v5
/-! set -/
def q_set (a : Bd) (k : Nat) (x : Int32) : Bd := (q_co a, q_bg a, upd (q_sg a) k x, q_sd a, q_la a, q_lt a, q_tu a)
def s_mx (k : Nat) : Nat := if k = 0 then 4 else if k = 1 then 40 else 1
def s_mn (k : Nat) : Nat := if k = 0 then 1 else 0
theorem set_tab : ∀ k, k < 4 → s_X0_isSetting (nI k) = some 1 ∧ s_X0_leastOfSetting (nI k) = some (nI (s_mn k)) ∧ s_X0_mostOfSetting (nI k) = some (nI (s_mx k)) := by decide
theorem q_ok_set {a : Bd} {k d : Nat} (ok : q_ok a) (hk : k < 4) (h1 : s_mn k ≤ d) (h2 : d ≤ s_mx k) : q_ok (q_set a k (nI d)) := by
  obtain ⟨o1, o2, o3, o4, o5, o6, o7⟩ := ok
  have : k = 0 ∨ k = 1 ∨ k = 2 ∨ k = 3 := by omega
  rcases this with rfl | rfl | rfl | rfl
  · exact ⟨o1, o2, o3, ⟨d, h1, h2, rfl⟩, o5, o6, o7⟩
  · exact ⟨o1, o2, o3, o4, ⟨d, h2, rfl⟩, o6, o7⟩
  · have : d = 0 ∨ d = 1 := by have : d ≤ 1 := h2; omega
    refine ⟨o1, o2, o3, o4, o5, ?_, o7⟩
    rcases this with rfl | rfl
    · exact Or.inl rfl
    · exact Or.inr rfl
  · have : d = 0 ∨ d = 1 := by have : d ≤ 1 := h2; omega
    refine ⟨o1, o2, o3, o4, o5, o6, ?_⟩
    rcases this with rfl | rfl
    · exact Or.inl rfl
    · exact Or.inr rfl
theorem s_mx_lt (k : Nat) : s_mx k < 1000 ∧ s_mn k < 1000 := by
  unfold s_mx s_mn
  constructor
  · split
    · omega
    · split <;> omega
  · split <;> omega
theorem C_weights {a : Bd} {B : Mm} {p : Int32} (R : RC B a) (hp : p ∈ pls) : s_X0_weightsAt B p = some (q_su (q_co a (sl p))) := by
  obtain ⟨h4, h2, hs⟩ := R.1 _ (sl_lt p hp)
  unfold s_X0_weightsAt
  rw [C_height R hp, bd_some, (congrArg q_su hs).symm.trans (su_stk _)]
  generalize (q_co a (sl p)).length = h at h4
  have : ∀ (j k fuel : Nat), k + j = h → j < fuel → s_X0_weightsAt_L11 fuel B p (q_sm (fun l => B 1 (4 * sl p + l)) k) (nI h) (nI k) = some (q_sm (fun l => B 1 (4 * sl p + l)) h) := by
    intro j
    induction j with
    | zero =>
      intro k fuel hk hf
      obtain ⟨f, rfl⟩ : ∃ f, fuel = f + 1 := ⟨fuel - 1, by omega⟩
      have hk : k = h := by omega
      subst hk
      rw [s_X0_weightsAt_L11, if_pos (Int32.le_refl _)]
    | succ j ih =>
      intro k fuel hk hf
      obtain ⟨f, rfl⟩ : ∃ f, fuel = f + 1 := ⟨fuel - 1, by omega⟩
      rw [s_X0_weightsAt_L11, if_neg (nI_ge (by omega) (by omega)), C_weightAt hp (by omega), bd_some, jn_eq, jn_eq, nI_1]
      exact ih (k + 1) f (by omega) (by omega)
  exact this h 0 1000 (by omega) (by omega)
/-! made -/
theorem nI_sub {a b : Nat} (h : b ≤ a) : nI a - nI b = nI (a - b) := by
  have e := nI_add (a - b) b
  rw [Nat.sub_add_cancel h] at e
  rw [← e]
  grind
theorem C_kept {B : Mm} {mc j : Nat} (h : B 0 11 = nI mc) (hm : mc < 10368) (hj : j < 2 ^ 31) : s_X0_isMoveKept B (nI j) = some (if j < min mc 40 then 1 else 0) := by
  unfold s_X0_isMoveKept
  rw [if_neg (show ¬ nI j < 0 from nI_pos hj), h]
  by_cases c1 : 40 ≤ j
  · rw [if_pos (show (40 : Int32) ≤ nI j from nI_le (a := 40) c1 hj), if_neg (by omega)]
  · rw [if_neg (show ¬ (40 : Int32) ≤ nI j from nI_ge (b := 40) (by omega) (by omega))]
    by_cases c2 : mc ≤ j
    · rw [if_pos (nI_le c2 hj), if_neg (by omega)]
    · rw [if_neg (nI_ge (by omega) (by omega)), if_pos (by omega)]
/-! count -/
theorem wts_0 {B : Mm} : s_X0_weightsAt B 0 = some 0 := by
  unfold s_X0_weightsAt s_X0_heightAt
  rw [show s_X0_isPlace 0 = some 0 from by decide, bd_some, if_pos rfl, bd_some, s_X0_weightsAt_L11, if_pos (Int32.le_refl _)]
/-! the start -/
def q_b0 : Bd := (fun _ => [], fun _ _ => 2, fun k => if k = 0 then 2 else if k = 1 then 8 else 0, 0, 1, 0, 0)
theorem st_C : (∀ i, i < 12 → B0 2 i = 0) ∧ (∀ i, i < 2 → B0 3 (6 * i) = 10 ∧ ∀ w, w < 6 → 1 ≤ w → B0 3 (6 * i + w) = 2) ∧ B0 4 0 = 2 ∧ B0 4 1 = 8 ∧ B0 4 2 = 0 ∧ B0 4 3 = 0 ∧ B0 0 5 = 0 ∧ B0 0 6 = 1 ∧ B0 0 7 = 0 ∧ B0 0 8 = 0 ∧ B0 0 9 = 0 ∧ B0 0 10 = 0 ∧ B0 0 11 = 0 := by decide +kernel
theorem q_ok_b0 : q_ok q_b0 := ⟨Or.inl rfl, Or.inr rfl, fun _ _ _ _ _ => ⟨2, by omega, rfl⟩, ⟨2, by omega, by omega, rfl⟩, ⟨8, by omega, rfl⟩, Or.inl rfl, Or.inl rfl⟩
theorem q_all_b0 (i : Nat) : q_all q_b0 i = 10 := by
  show (2 : Int32) + 2 + 2 + 2 + 2 = 10
  decide
theorem RC_0 : RC B0 q_b0 := by
  obtain ⟨h1, h2, h3, h4, h5, h6, h7, h8, h9, h10, -⟩ := st_C
  refine ⟨fun s hs => ⟨Nat.zero_le _, h1 s hs, rfl⟩, fun i hi => ⟨(h2 i hi).1.trans (q_all_b0 i).symm, fun w w1 w5 => (h2 i hi).2 w (by omega) w1⟩, fun k hk => ?_, h7, h8, h9, h10⟩
  have : k = 0 ∨ k = 1 ∨ k = 2 ∨ k = 3 := by omega
  rcases this with rfl | rfl | rfl | rfl
  · exact h3
  · exact h4
  · exact h5
  · exact h6
def HC (T : Nat → Mm) : Prop := ∃ (k : Nat) (pm : Nat → Nat), k ≤ 4 ∧ T 4 0 1 = nI k ∧ ∀ i, i < 4 → pm i < 4 ∧ T 4 1 i = nI (pm i)
theorem C_push {T : Nat → Mm} {k : Nat} {pm : Nat → Nat} (hk : k < 4) (h1 : T 4 0 1 = nI k) (h3 : ∀ i, i < 4 → pm i < 4 ∧ T 4 1 i = nI (pm i)) :
    ∃ T', (Option.bind (hpk T (T 4 0 1).toNatClampNeg) fun j => Option.bind (s_X0_copyFrom (T (5 + j)) (T 1)) fun B => some (hsz (tset T (5 + j) B) (T 4 0 1 + 1))) = some T' ∧ HC T' ∧ T' 1 = T 1 := by
  obtain ⟨B, e1, cp⟩ := C_copy (T (5 + pm k)) (T 1)
  rw [h1, nI_clamp (by omega), hpk_n h3 hk, bd_some, e1, bd_some]
  refine ⟨_, rfl, ⟨k + 1, pm, by omega, ?_, fun i hi => ?_⟩, ?_⟩
  · unfold hsz
    rw [ts_eq, ms_eq, up_eq, nI_1]
  · unfold hsz
    rw [ts_eq, ms_ne (by omega), ts_ne (by omega)]
    exact h3 i hi
  · unfold hsz
    rw [ts_ne (by omega), ts_ne (by omega)]
theorem C_drop {T : Nat → Mm} {pm : Nat → Nat} (h3 : ∀ i, i < 4 → pm i < 4 ∧ T 4 1 i = nI (pm i)) :
    ∃ T', s_X1_dropOldest T = some T' ∧ (T' 4 0 1 = nI 3 ∧ ∀ i, i < 4 → pm ((i + 1) % 4) < 4 ∧ T' 4 1 i = nI (pm ((i + 1) % 4))) ∧ T' 1 = T 1 := by
  unfold s_X1_dropOldest
  rw [hpk_n h3 (by omega), bd_some, hpk_n h3 (by omega), bd_some, hpk_n h3 (by omega), bd_some, hpk_n h3 (by omega), bd_some]
  refine ⟨_, rfl, ⟨?_, fun i hi => ?_⟩, ?_⟩
  · unfold hsz
    rw [ts_eq, ms_eq, up_eq]
    rfl
  · refine ⟨(h3 ((i + 1) % 4) (by omega)).1, ?_⟩
    unfold hsz
    rw [ts_eq, ms_ne (by omega), ts_eq, ms_eq]
    refine Eq.trans ?_ (h3 ((i + 1) % 4) (by omega)).2
    have : i = 0 ∨ i = 1 ∨ i = 2 ∨ i = 3 := by omega
    rcases this with rfl | rfl | rfl | rfl <;> rfl
  · unfold hsz
    rw [ts_ne (by omega), ts_ne (by omega)]
theorem C_rem {T : Nat → Mm} (h : HC T) : ∃ T', s_X1_remember T = some T' ∧ HC T' ∧ T' 1 = T 1 := by
  obtain ⟨k, pm, hk, h1, h3⟩ := h
  unfold s_X1_remember
  by_cases c : k = 4
  · subst c
    obtain ⟨T1, e1, ⟨q1, q3⟩, t1⟩ := C_drop h3
    obtain ⟨T2, e2, H2, t2⟩ := C_push (by omega) q1 q3
    rw [h1, if_neg (show ¬ nI 4 < 4 from by decide), e1, bd_some]
    rw [if_neg (by rw [q1]; decide), if_neg (by rw [q1]; decide), e2]
    exact ⟨T2, rfl, H2, t2.trans t1⟩
  · obtain ⟨T2, e2, H2, t2⟩ := C_push (show k < 4 by omega) h1 h3
    have g1 : ¬ (4 : Int32) ≤ nI k := nI_ge (b := 4) (by omega) (by omega)
    rw [if_pos (show T 4 0 1 < 4 from by rw [h1]; exact nI_lt (b := 4) (by omega) (by omega)), bd_some, if_neg (show ¬ T 4 0 1 < 0 from by
      rw [h1]
      exact Int32.not_lt.mpr (nI_le (a := 0) (by omega) (by omega))), if_neg (by rw [h1]; exact g1), e2]
    exact ⟨T2, rfl, H2, t2⟩
theorem HC.set {T : Nat → Mm} {B : Mm} (h : HC T) : HC (tset T 1 B) := by
  obtain ⟨k, pm, hk, h1, h3⟩ := h
  refine ⟨k, pm, hk, ?_, fun i hi => ?_⟩
  · rw [ts_ne (by omega)]; exact h1
  · rw [ts_ne (by omega)]; exact h3 i hi
theorem wt_dec (x : Int32) : (∃ k, 1 ≤ k ∧ k ≤ 5 ∧ x = nI k ∧ s_X0_isWeight x = some 1) ∨ (s_X0_isWeight x = some 0) := by
  unfold s_X0_isWeight
  by_cases h1 : x < 1
  · rw [if_pos h1]; exact Or.inr rfl
  · by_cases h2 : 5 < x
    · rw [if_neg h1, if_pos h2]
      exact Or.inr rfl
    · obtain ⟨k, k1, k5, e⟩ := nI_enum (a := 1) (b := 5) (by omega) (by omega) h1 h2
      rw [if_neg h1, if_neg h2]
      exact Or.inl ⟨k, k1, k5, e, rfl⟩
