/-! the law's rows against the abstract beam -/
def pz (k : Nat) : Int32 := if k < 6 then nI k - 6 else nI k - 5
theorem pz_tab : ∀ k, k < 12 → pz k ∈ pls ∧ s_L_place (nI k) = some (pz k) ∧ sl (pz k) = k := by decide +kernel
theorem pz_sl : ∀ p ∈ pls, pz (sl p) = p ∧ s_L_index p = some (nI (sl p)) := by decide +kernel
theorem tn_tab : ∀ s, s < 12 → ∀ l, l < 4 → rmi (nI (4 * s + l)) 4 = some (nI l) ∧ dvi (nI (4 * s + l)) 4 = some (nI s) := by decide +kernel
def q_sm (f : Nat → Int32) : Nat → Int32
  | 0 => 0
  | h + 1 => q_sm f h + f h
def q_su : List Int32 → Int32
  | [] => 0
  | w :: t => q_su t + w
theorem su_stk {f : Nat → Int32} : ∀ h, q_su (stk f h) = q_sm f h := by
  intro h
  induction h with
  | zero => rfl
  | succ h ih =>
    show q_su (stk f h) + f h = q_sm f h + f h
    rw [ih]
def q_tsn (a : Bd) : Nat → Int32
  | 0 => 0
  | n + 1 => q_tsn a n + q_su (q_co a n) * pz n
def q_ts (a : Bd) : Int32 := q_tsn a 12
theorem c48 {s : Nat} : (48 : Int32) + nI s = nI (48 + s) := nI_add 48 s
def RW (m b t : Nat → Int32) (a : Bd) : Prop :=
  (∀ s, s < 12 → (q_co a s).length ≤ 4 ∧ m (48 + s) = nI (q_co a s).length ∧ stk (fun l => m (4 * s + l)) (q_co a s).length = q_co a s) ∧
  (∀ i, i < 2 → ∀ w, w < 5 → b (5 * i + w) = q_bg a i (w + 1)) ∧
  (∀ k, k < 4 → t k = q_sg a k) ∧ t 4 = q_sd a ∧ t 9 = q_la a ∧ t 10 = q_lt a
theorem T_one {m : Nat → Int32} {x : Int32} {s l len f : Nat} (hs : s < 12) (hl : l < 4) (e : m (48 + s) = nI len) (h4 : len ≤ 4) : s_L_turn_L4 (f + 1) m x (nI (4 * s + l)) = s_L_turn_L4 f m (x + if l < len then m (4 * s + l) * pz s else 0) (nI (4 * s + l + 1)) := by
  obtain ⟨t1, t2⟩ := tn_tab s hs l hl
  rw [s_L_turn_L4, if_neg (show ¬ (48 : Int32) ≤ nI (4 * s + l) from nI_ge (b := 48) (by omega) (by decide)), t1, bd_some, t2, bd_some, c48, rd_n (by omega) (by decide), bd_some, e]
  by_cases c : l < len
  · rw [if_neg (nI_ge c (by omega)), rd_n (by omega) (by decide), bd_some, bd_some, (pz_tab s hs).2.1, bd_some, jn_eq, jn_eq, nI_1, if_pos c]
  · rw [if_pos (nI_le (by omega) (by omega)), jn_eq, jn_eq, nI_1, if_neg c]
theorem T_col {m : Nat → Int32} {x : Int32} {s len f : Nat} (hs : s < 12) (e : m (48 + s) = nI len) (h4 : len ≤ 4) : s_L_turn_L4 (f + 4) m x (nI (4 * s)) = s_L_turn_L4 f m (x + q_sm (fun l => m (4 * s + l)) len * pz s) (nI (4 * (s + 1))) := by
  have h0 := T_one (x := x) (f := f + 3) hs (l := 0) (by omega) e h4
  have h1 := fun x => T_one (x := x) (f := f + 2) hs (l := 1) (by omega) e h4
  have h2 := fun x => T_one (x := x) (f := f + 1) hs (l := 2) (by omega) e h4
  have h3 := fun x => T_one (x := x) (f := f) hs (l := 3) (by omega) e h4
  rw [show 4 * (s + 1) = 4 * s + 3 + 1 from by omega]
  refine h0.trans ((h1 _).trans ((h2 _).trans ((h3 _).trans ?_)))
  congr 1
  have : len = 0 ∨ len = 1 ∨ len = 2 ∨ len = 3 ∨ len = 4 := by omega
  rcases this with rfl | rfl | rfl | rfl | rfl <;> simp [q_sm] <;> grind
theorem T_all {m b t : Nat → Int32} {a : Bd} (R : RW m b t a) : ∀ (j k fuel : Nat), k + j = 12 → 4 * j < fuel → s_L_turn_L4 fuel m (q_tsn a k) (nI (4 * k)) = some (q_ts a) := by
  intro j
  induction j with
  | zero =>
    intro k fuel hk hf
    obtain ⟨f, rfl⟩ : ∃ f, fuel = f + 1 := ⟨fuel - 1, by omega⟩
    have hk : k = 12 := by omega
    subst hk
    rw [s_L_turn_L4, if_pos (show (48 : Int32) ≤ nI (4 * 12) from by decide)]
    rfl
  | succ j ih =>
    intro k fuel hk hf
    obtain ⟨f, rfl⟩ : ∃ f, fuel = f + 4 := ⟨fuel - 4, by omega⟩
    obtain ⟨h4, e, es⟩ := R.1 k (by omega)
    rw [T_col (by omega) e h4, ← su_stk, es]
    exact ih (k + 1) f (by omega) (by omega)
theorem L_turn0 {m b t : Nat → Int32} {a : Bd} (R : RW m b t a) : s_L_turn m = some (q_ts a) := by
  unfold s_L_turn
  exact T_all R 12 0 1000 rfl (by omega)
/-- rows that tell a beam whose turn is what its columns say -/
def RT (m b t : Nat → Int32) (a : Bd) : Prop := RW m b t a ∧ q_ok a ∧ q_ts a = q_tu a
section
variable {m b t : Nat → Int32} {a : Bd}
theorem L_turn (R : RT m b t a) : s_L_turn m = some (q_tu a) := by rw [L_turn0 R.1, R.2.2]
theorem L_all0 (hb : ∀ i, i < 2 → ∀ w, w < 5 → b (5 * i + w) = q_bg a i (w + 1)) {i : Nat} (hi : i < 2) : s_L_all b (nI i) = some (q_all a i) := by
  have ib : ∀ w, w < 5 → ∀ x : Int32, x = nI w → rd 10 b (5 * nI i + x) = some (q_bg a i (w + 1)) := by
    rintro w hw x rfl
    rw [show (5 : Int32) = nI 5 from rfl, pk_mul, nI_add, rd_n (by omega) (by decide), hb i hi w hw]
  unfold s_L_all
  rw [s_L_all_L4, if_neg (by decide), ib 0 (by decide) 0 rfl, bd_some, jn_eq, jn_eq]
  rw [s_L_all_L4, if_neg (by decide), ib 1 (by decide) (0 + 1) rfl, bd_some, jn_eq, jn_eq]
  rw [s_L_all_L4, if_neg (by decide), ib 2 (by decide) (0 + 1 + 1) rfl, bd_some, jn_eq, jn_eq]
  rw [s_L_all_L4, if_neg (by decide), ib 3 (by decide) (0 + 1 + 1 + 1) rfl, bd_some, jn_eq, jn_eq]
  rw [s_L_all_L4, if_neg (by decide), ib 4 (by decide) (0 + 1 + 1 + 1 + 1) rfl, bd_some, jn_eq, jn_eq]
  rw [s_L_all_L4, if_pos (by decide), Int32.zero_add]
  rfl
theorem L_all (R : RT m b t a) {i : Nat} (hi : i < 2) : s_L_all b (nI i) = some (q_all a i) := L_all0 R.1.2.1 hi
theorem all_nat (ok : q_ok a) {i : Nat} (hi : i < 2) : ∃ N, N ≤ 30 ∧ q_all a i = nI N := by
  obtain ⟨n1, l1, e1⟩ := ok.2.2.1 i hi 1 (by omega) (by omega)
  obtain ⟨n2, l2, e2⟩ := ok.2.2.1 i hi 2 (by omega) (by omega)
  obtain ⟨n3, l3, e3⟩ := ok.2.2.1 i hi 3 (by omega) (by omega)
  obtain ⟨n4, l4, e4⟩ := ok.2.2.1 i hi 4 (by omega) (by omega)
  obtain ⟨n5, l5, e5⟩ := ok.2.2.1 i hi 5 (by omega) (by omega)
  refine ⟨n1 + n2 + n3 + n4 + n5, by omega, ?_⟩
  unfold q_all
  rw [e1, e2, e3, e4, e5, nI_add, nI_add, nI_add, nI_add]
theorem neg_toInt {x : Int32} (h : 0 ≤ x) : (-x).toInt = -(x.toInt) := by
  have h1 := Int32.le_iff_toInt_le.mp h
  have h2 := Int32.toInt_lt x
  have e0 : (0 : Int32).toInt = 0 := rfl
  rw [e0] at h1
  rw [Int32.toInt_neg]
  exact Int.bmod_eq_of_le (by omega) (by omega)
theorem abs_law {x t : Int32} (ht : 0 ≤ t) : iabs x ≤ t ↔ (¬ t < x ∧ -x ≤ t) := by
  unfold iabs
  have h1 := Int32.le_iff_toInt_le.mp ht
  have e0 : (0 : Int32).toInt = 0 := rfl
  rw [e0] at h1
  by_cases c : 0 ≤ x
  · rw [if_pos c]
    have h2 := Int32.le_iff_toInt_le.mp c
    rw [e0] at h2
    rw [Int32.le_iff_toInt_le, Int32.lt_iff_toInt_lt, Int32.le_iff_toInt_le, neg_toInt c]
    omega
  · rw [if_neg c, Int32.zero_sub]
    have h2 : x < 0 := Int32.not_le.mp c
    exact ⟨fun h => ⟨fun h3 => absurd (Int32.lt_trans h3 h2) (Int32.not_lt.mpr ht), h⟩, fun h => h.2⟩
theorem L_result (R : RT m b t a) : s_L_result m b t = some (q_out a) := by
  obtain ⟨c, hc, e1⟩ := R.2.1.2.2.2.2.1
  obtain ⟨N0, h0, a0⟩ := all_nat R.2.1 (i := 0) (by omega)
  obtain ⟨N1, h1, a1⟩ := all_nat R.2.1 (i := 1) (by omega)
  have t1 : t 1 = q_sg a 1 := R.1.2.2.1 1 (by omega)
  have ht : (0 : Int32) ≤ q_sg a 1 := by rw [e1]; exact nI_le (a := 0) (by omega) (by omega)
  have hab := abs_law (x := q_tu a) ht
  have key : (Option.bind (rd 11 t (3 : Int32)) fun v9 => if v9 = (1 : Int32) then Option.bind (rd 11 t (9 : Int32)) fun v12 => some (v12 + (1 : Int32)) else Option.bind (rd 11 t (9 : Int32)) fun v11 => some ((2 : Int32) - v11)) = some (if q_sg a 3 = 1 then 1 + q_la a else 1 + (1 - q_la a)) := by
    rw [rd_e (i := 3) 3 rfl (by decide) (by decide), bd_some, rd_e (i := 9) 9 rfl (by decide) (by decide), bd_some, bd_some, R.1.2.2.1 3 (by omega), R.1.2.2.2.2.1]
    split
    · rw [Int32.add_comm]
    · congr 1
      grind
  unfold s_L_result q_out
  rw [L_turn R, bd_some, rd_e (i := 1) 1 rfl (by decide) (by decide), bd_some]
  dsimp only [jn]
  rw [bd_some, t1, key]
  by_cases c1 : q_sg a 1 < q_tu a
  · rw [if_pos c1, if_neg (fun h => (hab.mp h).1 c1)]
  · rw [if_neg c1]
    by_cases c2 : -(q_tu a) ≤ q_sg a 1
    · rw [if_pos c2, if_pos (hab.mpr ⟨c1, c2⟩), show s_L_all b 0 = _ from L_all R (i := 0) (by omega), bd_some, show s_L_all b 1 = _ from L_all R (i := 1) (by omega), bd_some, a0, a1, nI_add]
      by_cases z0 : N0 = 0
      · by_cases z1 : N1 = 0
        · subst z0; subst z1
          rfl
        · rw [if_neg (nI_nle (n := N0 + N1) (by omega) (by omega)), z0, if_pos (show nI 0 = 0 from rfl), if_neg (nI_ne0 (by omega) (by omega))]
      · rw [if_neg (nI_nle (n := N0 + N1) (by omega) (by omega)), if_neg (nI_ne0 (by omega) (by omega))]
    · rw [if_neg c2, if_neg (fun h => c2 (hab.mp h).2)]
end
