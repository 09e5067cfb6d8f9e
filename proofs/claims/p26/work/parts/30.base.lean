/-! PURE: reading what the s_ functions say -/
theorem rd_n {n k : Nat} {f : Nat → Int32} (h : k < n) (hn : n ≤ 1000) : rd n f (nI k) = some (f k) := by
  unfold rd
  rw [if_neg (nI_in h (by omega)), nI_clamp (by omega)]
theorem wr_n {n k c : Nat} {B : Mm} {x : Int32} (h : k < n) (hn : n ≤ 1000) : wr n B c (nI k) x = some (mset B c (upd (B c) k x)) := by
  unfold wr
  rw [if_neg (nI_in h (by omega)), nI_clamp (by omega)]
theorem rd_l {n k : Nat} {f : Nat → Int32} (h : k < n) (hn : n ≤ 1000) : rd n f (OfNat.ofNat k) = some (f k) := rd_n h hn
theorem wr_l {n k c : Nat} {B : Mm} {x : Int32} (h : k < n) (hn : n ≤ 1000) : wr n B c (OfNat.ofNat k) x = some (mset B c (upd (B c) k x)) := wr_n h hn
theorem rd_e {n : Nat} {i : Int32} {f : Nat → Int32} (k : Nat) (hi : i = nI k) (h : k < n) (hn : n ≤ 1000) : rd n f i = some (f k) := by rw [hi]; exact rd_n h hn
theorem wr_e {n c : Nat} {i x : Int32} {B : Mm} (k : Nat) (hi : i = nI k) (h : k < n) (hn : n ≤ 1000) : wr n B c i x = some (mset B c (upd (B c) k x)) := by rw [hi]; exact wr_n h hn
theorem jn_eq {α β : Type} (f : α) (g : α → β) : jn f g = g f := rfl
theorem pf_eq (B : Mm) (c k : Nat) (x : Int32) : pf B c k x = some (mset B c (upd (B c) k x)) := rfl
theorem bd_some {α β : Type} (a : α) (f : α → Option β) : Option.bind (some a) f = f a := rfl
theorem ms_eq (B : Mm) (c : Nat) (f : Nat → Int32) : mset B c f c = f := if_pos rfl
theorem ms_ne {B : Mm} {c d : Nat} {f : Nat → Int32} (h : d ≠ c) : mset B c f d = B d := if_neg h
theorem up_eq (f : Nat → Int32) (k : Nat) (x : Int32) : upd f k x k = x := if_pos rfl
theorem up_ne {f : Nat → Int32} {k j : Nat} {x : Int32} (h : j ≠ k) : upd f k x j = f j := if_neg h
theorem ms_ap (B : Mm) (c d : Nat) (f : Nat → Int32) : mset B c f d = if d = c then f else B d := rfl
theorem up_ap (f : Nat → Int32) (k j : Nat) (x : Int32) : upd f k x j = if j = k then x else f j := rfl
/-! places -/
abbrev pls : List Int32 := [-6, -5, -4, -3, -2, -1, 1, 2, 3, 4, 5, 6]
def sl (p : Int32) : Nat := if p < 0 then (p + 6).toNatClampNeg else (p + 5).toNatClampNeg
theorem sl_lt : ∀ p ∈ pls, sl p < 12 := by decide
theorem sl_inj : ∀ p ∈ pls, ∀ q ∈ pls, sl p = sl q → p = q := by decide
theorem pl_is : ∀ p ∈ pls, s_X0_isPlace p = some 1 := by decide
theorem pl_sl : ∀ p ∈ pls, s_X0_slotOf p = some (nI (sl p)) := by decide
theorem pl_ne0 : ∀ p ∈ pls, p ≠ 0 := by decide
theorem i32_of {x k : Int32} (h : x.toInt = k.toInt) : x = k := Int32.toInt_inj.mp h
theorem pl_enum {x : Int32} (h1 : ¬ x < -6) (h2 : ¬ 6 < x) (h3 : ¬ x = 0) : x ∈ pls := by
  have q1 := Int32.le_iff_toInt_le.mp (Int32.not_lt.mp h1)
  have q2 := Int32.le_iff_toInt_le.mp (Int32.not_lt.mp h2)
  have e1 : (-6 : Int32).toInt = -6 := rfl
  have e2 : (6 : Int32).toInt = 6 := rfl
  have q3 := i32_ne (z := 0) rfl h3
  rw [e1] at q1
  rw [e2] at q2
  have : x.toInt = -6 ∨ x.toInt = -5 ∨ x.toInt = -4 ∨ x.toInt = -3 ∨ x.toInt = -2 ∨ x.toInt = -1 ∨ x.toInt = 1 ∨ x.toInt = 2 ∨ x.toInt = 3 ∨ x.toInt = 4 ∨ x.toInt = 5 ∨ x.toInt = 6 := by omega
  rcases this with h | h | h | h | h | h | h | h | h | h | h | h
  · rw [i32_of (k := -6) h]; decide
  · rw [i32_of (k := -5) h]; decide
  · rw [i32_of (k := -4) h]; decide
  · rw [i32_of (k := -3) h]; decide
  · rw [i32_of (k := -2) h]; decide
  · rw [i32_of (k := -1) h]; decide
  · rw [i32_of (k := 1) h]; decide
  · rw [i32_of (k := 2) h]; decide
  · rw [i32_of (k := 3) h]; decide
  · rw [i32_of (k := 4) h]; decide
  · rw [i32_of (k := 5) h]; decide
  · rw [i32_of (k := 6) h]; decide
theorem nI_enum {x : Int32} {a b : Nat} (ha : a < 1000) (hb : b < 1000) (h1 : ¬ x < nI a) (h2 : ¬ nI b < x) : ∃ k, a ≤ k ∧ k ≤ b ∧ x = nI k := by
  have q1 := Int32.le_iff_toInt_le.mp (Int32.not_lt.mp h1)
  have q2 := Int32.le_iff_toInt_le.mp (Int32.not_lt.mp h2)
  rw [nI_toInt (by omega)] at q1 q2
  refine ⟨x.toInt.toNat, by omega, by omega, i32_of ?_⟩
  rw [nI_toInt (by omega)]
  omega

theorem pl_no {x : Int32} (h : x ∉ pls) : s_X0_isPlace x = some 0 ∧ True := by
  unfold s_X0_isPlace
  by_cases h1 : x < -6
  · rw [if_pos h1]; exact ⟨rfl, trivial⟩
  · by_cases h2 : 6 < x
    · rw [if_neg h1, if_pos h2]; exact ⟨rfl, trivial⟩
    · by_cases h3 : x = 0
      · rw [if_neg h1, if_neg h2, if_pos h3]; exact ⟨rfl, trivial⟩
      · exact absurd (pl_enum h1 h2 h3) h
