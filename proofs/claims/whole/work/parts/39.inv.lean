/-! the invariant: what the class' memories and the reference's cells have to do with each other -/
theorem RC_congr {B B' : Mm} {a : Bd} (R : RC B a) (h1 : ∀ i, i < 48 → B' 1 i = B 1 i) (h2 : ∀ i, i < 12 → B' 2 i = B 2 i) (h3 : ∀ i, i < 12 → B' 3 i = B 3 i) (h4 : ∀ i, i < 4 → B' 4 i = B 4 i) (h5 : B' 0 5 = B 0 5) (h6 : B' 0 6 = B 0 6) (h7 : B' 0 7 = B 0 7) (h8 : B' 0 8 = B 0 8) : RC B' a := by
  obtain ⟨r1, r2, r3, r4, r5, r6, r7⟩ := R
  refine ⟨fun s hs => ?_, fun i hi => ?_, fun k hk => (h4 k hk).trans (r3 k hk), h5.trans r4, h6.trans r5, h7.trans r6, h8.trans r7⟩
  · obtain ⟨q1, q2, q3⟩ := r1 s hs
    refine ⟨q1, (h2 s hs).trans q2, ?_⟩
    rw [stk_congr (g := fun l => B 1 (4 * s + l)) (fun l hl => h1 (4 * s + l) (by omega))]
    exact q3
  · obtain ⟨q1, q2⟩ := r2 i hi
    exact ⟨(h3 _ (by omega)).trans q1, fun w a b => (h3 _ (by omega)).trans (q2 w a b)⟩
theorem RZ_congr {z z' : Nat → Int32} {a : Bd} (R : RZ z a) (h : ∀ k, k < 83 → z' k = z k) : RZ z' a := by
  obtain ⟨r1, r2, r3, r4, r5, r6, r7⟩ := R
  refine ⟨fun s hs => ?_, fun i hi w h1 h5 => ?_, fun k hk => (h k (by omega)).trans (r3 k hk), (h 4 (by omega)).trans r4, (h 10 (by omega)).trans r5, (h 11 (by omega)).trans r6, (h 5 (by omega)).trans r7⟩
  · obtain ⟨q1, q2, q3⟩ := r1 s hs
    refine ⟨q1, (h _ (by omega)).trans q2, ?_⟩
    rw [stk_congr (g := fun l => z (24 + 5 * s + l)) (fun l hl => h (24 + 5 * s + l) (by omega))]
    exact q3
  · exact (h _ (by omega)).trans (r2 i hi w h1 h5)
/-- a beam of the class and a row of the reference tell the same -/
def RG (B : Mm) (z : Nat → Int32) (mc : Nat) : Prop :=
  B 0 9 = z 7 ∧ B 0 10 = z 9 ∧ B 0 11 = nI mc ∧ z 6 = nI mc ∧ z 8 = z 5 - z 7 ∧ z 12 = nI (min mc 40) ∧
  ∀ back, back < min mc 40 → ∀ q, q < 4 → B 5 (4 * ((mc - 1 - back) % 40) + q) = z (83 + 4 * (min mc 40 - 1 - back) + q)
def RB (n : Nat) (B : Mm) (z : Nat → Int32) : Prop := ∃ a mc, RC B a ∧ RZ z a ∧ q_ok a ∧ mc ≤ 20 * n ∧ RG B z mc
def HI (n : Nat) (T : Nat → Mm) (Z : Mm) : Prop := ∃ (k : Nat) (pm : Nat → Nat), k ≤ 4 ∧ T 4 0 1 = nI k ∧ Z 0 2 = nI k ∧ (∀ i, i < 4 → pm i < 4 ∧ T 4 1 i = nI (pm i)) ∧ (∀ i j, i < 4 → j < 4 → pm i = pm j → i = j) ∧ ∀ i, i < k → RB n (T (5 + pm i)) (fun q => Z 2 (243 * i + q))
def KE (n : Nat) (T : Nat → Mm) (Z : Mm) : Prop := (T 0 0 5 = 0 ∧ Z 0 4 = 0) ∨ (T 0 0 5 = 1 ∧ Z 0 4 = 1 ∧ RB n (T 3) (Z 3))
def SP (t z : Nat → Int32) : Prop := (t 6 = 0 ∧ z 8 = -10005 ∧ z 9 = -10005) ∨ (t 6 = 1 ∧ t 7 = z 8 ∧ t 8 = z 9)
def TX (M Z : Mm) : Prop := ∃ t, t ≤ 60 ∧ M 0 3 = nI t ∧ Z 0 7 = nI t ∧ ∀ i, i < t → M 1 i = Z 5 i
def Inv (n : Nat) (T : Nat → Mm) (Z : Mm) : Prop := RB n (T 1) (Z 1) ∧ HI n T Z ∧ KE n T Z ∧ SP (T 0 0) (Z 0) ∧ TX (T 9) Z
theorem RB.up {n m : Nat} {B : Mm} {z : Nat → Int32} (h : RB n B z) (hm : n ≤ m) : RB m B z := by
  obtain ⟨a, mc, h1, h2, h3, h4, h5⟩ := h
  exact ⟨a, mc, h1, h2, h3, by omega, h5⟩
theorem HI.up {n m : Nat} {T : Nat → Mm} {Z : Mm} (h : HI n T Z) (hm : n ≤ m) : HI m T Z := by
  obtain ⟨k, pm, h1, h2, h3, h4, h5, h6⟩ := h
  exact ⟨k, pm, h1, h2, h3, h4, h5, fun i hi => (h6 i hi).up hm⟩
theorem KE.up {n m : Nat} {T : Nat → Mm} {Z : Mm} (h : KE n T Z) (hm : n ≤ m) : KE m T Z := by
  rcases h with h | ⟨h1, h2, h3⟩
  · exact Or.inl h
  · exact Or.inr ⟨h1, h2, h3.up hm⟩
theorem Inv.up {n m : Nat} {T : Nat → Mm} {Z : Mm} (h : Inv n T Z) (hm : n ≤ m) : Inv m T Z := by
  obtain ⟨h1, h2, h3, h4⟩ := h
  exact ⟨h1.up hm, h2.up hm, h3.up hm, h4⟩
theorem inv_skip {n : Nat} {T : Nat → Mm} {Z : Mm} (h : Inv n T Z) : Inv (n + 1) T Z := h.up (Nat.le_succ n)
theorem RG_congr {B B' : Mm} {z z' : Nat → Int32} {mc : Nat} (h : RG B z mc) (hz : ∀ k, k < 243 → z' k = z k) (h5 : ∀ i, i < 160 → B' 5 i = B 5 i) (h9 : B' 0 9 = B 0 9) (h10 : B' 0 10 = B 0 10) (h11 : B' 0 11 = B 0 11) : RG B' z' mc := by
  obtain ⟨r1, r2, r3, r4, r5, r6, r7⟩ := h
  refine ⟨?_, ?_, h11.trans r3, (hz 6 (by omega)).trans r4, ?_, (hz 12 (by omega)).trans r6, fun back hb q hq => ?_⟩
  · rw [h9, hz 7 (by omega), r1]
  · rw [h10, hz 9 (by omega), r2]
  · rw [hz 8 (by omega), hz 5 (by omega), hz 7 (by omega), r5]
  · rw [h5 _ (by omega), hz _ (by omega)]
    exact r7 back hb q hq
/-- a copy of the reference's row -/
theorem RB.cz {n : Nat} {B : Mm} {z z' : Nat → Int32} (h : RB n B z) (hz : ∀ k, k < 243 → z' k = z k) : RB n B z' := by
  obtain ⟨a, mc, h1, h2, h3, h4, h5⟩ := h
  exact ⟨a, mc, h1, RZ_congr h2 (fun k hk => hz k (by omega)), h3, h4, RG_congr h5 hz (fun _ _ => rfl) rfl rfl rfl⟩
theorem cpy_n {m : Nat} {A B : Mm} {c d : Nat} (hm : m ≤ 1000) : cpy m m A c B d 0 0 (nI m) = some (mset B d (va_cpy (A c) (B d) 0 0 m)) := by
  unfold cpy
  rw [show (0 : Int32) = nI 0 from rfl, nI_clamp (by omega), nI_clamp (by omega)]
  rw [if_neg]
  have h0 : ¬ nI 0 < nI 0 := Int32.lt_irrefl
  have h1 : ¬ nI m < nI 0 := fun h => by
    have := Int32.lt_iff_toInt_lt.mp h
    rw [nI_toInt (by omega), nI_toInt (by omega)] at this
    omega
  rintro (h | h | h | h | h)
  · exact h0 h
  · exact h0 h
  · exact h1 h
  · omega
  · omega
/-- a copy of the class' beam -/
def CP (B B' : Mm) : Prop := (∀ i, i < 48 → B' 1 i = B 1 i) ∧ (∀ i, i < 12 → B' 2 i = B 2 i) ∧ (∀ i, i < 12 → B' 3 i = B 3 i) ∧ (∀ i, i < 4 → B' 4 i = B 4 i) ∧ (∀ i, i < 160 → B' 5 i = B 5 i) ∧ B' 0 5 = B 0 5 ∧ B' 0 6 = B 0 6 ∧ B' 0 7 = B 0 7 ∧ B' 0 8 = B 0 8 ∧ B' 0 9 = B 0 9 ∧ B' 0 10 = B 0 10 ∧ B' 0 11 = B 0 11
theorem C_copy (B B2 : Mm) : ∃ B', s_X0_copyFrom B B2 = some B' ∧ CP B2 B' := by
  unfold s_X0_copyFrom
  rw [show (48 : Int32) = nI 48 from rfl, cpy_n (by omega), bd_some, show (12 : Int32) = nI 12 from rfl, cpy_n (by omega), bd_some, cpy_n (by omega), bd_some, show (4 : Int32) = nI 4 from rfl, cpy_n (by omega), bd_some, show (160 : Int32) = nI 160 from rfl, cpy_n (by omega), bd_some]
  refine ⟨_, rfl, fun i hi => ?_, fun i hi => ?_, fun i hi => ?_, fun i hi => ?_, fun i hi => ?_, rfl, rfl, rfl, rfl, rfl, rfl, rfl⟩
  all_goals
    refine (if_pos ⟨Nat.zero_le _, by omega⟩).trans ?_
    congr 1
    omega
theorem RB.cc {n : Nat} {B B' : Mm} {z : Nat → Int32} (h : RB n B z) (c : CP B B') : RB n B' z := by
  obtain ⟨a, mc, h1, h2, h3, h4, h5⟩ := h
  obtain ⟨c1, c2, c3, c4, c5, c6, c7, c8, c9, c10, c11, c12⟩ := c
  exact ⟨a, mc, RC_congr h1 c1 c2 c3 c4 c6 c7 c8 c9, h2, h3, h4, RG_congr h5 (fun _ _ => rfl) c5 c10 c11 c12⟩
