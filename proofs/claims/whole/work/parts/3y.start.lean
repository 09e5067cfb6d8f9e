/-! the start -/
def q_b0 : Bd := (fun _ => [], fun _ _ => 2, fun k => if k = 0 then 2 else if k = 1 then 8 else 0, 0, 1, 0, 0)
theorem st_C : (∀ i, i < 12 → B0 2 i = 0) ∧ (∀ i, i < 2 → B0 3 (6 * i) = 10 ∧ ∀ w, w < 6 → 1 ≤ w → B0 3 (6 * i + w) = 2) ∧ B0 4 0 = 2 ∧ B0 4 1 = 8 ∧ B0 4 2 = 0 ∧ B0 4 3 = 0 ∧ B0 0 5 = 0 ∧ B0 0 6 = 1 ∧ B0 0 7 = 0 ∧ B0 0 8 = 0 ∧ B0 0 9 = 0 ∧ B0 0 10 = 0 ∧ B0 0 11 = 0 := by decide +kernel
theorem st_Z : (∀ s, s < 12 → Z0 1 (23 + 5 * s) = 0) ∧ (∀ i, i < 2 → ∀ w, w < 6 → 1 ≤ w → Z0 1 (12 + 5 * i + w) = 2) ∧ (Z0 1 0 = 2 ∧ Z0 1 1 = 8 ∧ Z0 1 2 = 0 ∧ Z0 1 3 = 0) ∧ Z0 1 4 = 0 ∧ Z0 1 10 = 1 ∧ Z0 1 11 = 0 ∧ Z0 1 5 = 0 ∧ Z0 1 6 = 0 ∧ Z0 1 7 = 0 ∧ Z0 1 8 = 0 ∧ Z0 1 9 = 0 ∧ Z0 1 12 = 0 ∧ Z0 0 2 = 0 ∧ Z0 0 4 = 0 ∧ Z0 0 7 = 0 ∧ Z0 0 8 = -10005 ∧ Z0 0 9 = -10005 := by decide +kernel
theorem q_ok_b0 : q_ok q_b0 := ⟨Or.inl rfl, Or.inr rfl, fun _ _ _ _ _ => ⟨2, by omega, rfl⟩, ⟨2, by omega, by omega, rfl⟩, ⟨8, by omega, rfl⟩, Or.inl rfl, Or.inl rfl⟩
theorem q_all_b0 (i : Nat) : q_all q_b0 i = 10 := by
  show (2 : Int32) + 2 + 2 + 2 + 2 = 10
  decide
theorem RC_0 : RC B0 q_b0 := by
  obtain ⟨h1, h2, h3, h4, h5, h6, h7, h8, h9, h10, -⟩ := st_C
  refine ⟨fun s hs => ⟨Nat.zero_le _, h1 s hs, rfl⟩, fun i hi => ⟨(h2 i hi).1.trans (q_all_b0 i).symm, fun w w1 w5 => (h2 i hi).2 w (by omega) w1⟩, fun k hk => ?_, h7, h8, h9, h10⟩
  have : k = 0 ∨ k = 1 ∨ k = 2 ∨ k = 3 := by omega
  rcases this with rfl | rfl | rfl | rfl
  · exact h3
  · exact h4
  · exact h5
  · exact h6
theorem RZ_0 : RZ (Z0 1) q_b0 := by
  obtain ⟨h1, h2, ⟨h3, h4, h5, h6⟩, h7, h8, h9, h10, -⟩ := st_Z
  refine ⟨fun s hs => ⟨Nat.zero_le _, h1 s hs, rfl⟩, fun i hi w w1 w5 => h2 i hi w (by omega) w1, fun k hk => ?_, h7, h8, h9, h10⟩
  have : k = 0 ∨ k = 1 ∨ k = 2 ∨ k = 3 := by omega
  rcases this with rfl | rfl | rfl | rfl
  · exact h3
  · exact h4
  · exact h5
  · exact h6
theorem RB_0 : RB 0 B0 (Z0 1) := by
  obtain ⟨-, -, -, -, -, -, -, -, -, -, c9, c10, c11⟩ := st_C
  obtain ⟨-, -, -, -, -, -, z5, z6, z7, z8, z9, z12, -⟩ := st_Z
  refine ⟨q_b0, 0, RC_0, RZ_0, q_ok_b0, Nat.zero_le _, c9.trans z7.symm, c10.trans z9.symm, c11, z6, ?_, z12, fun back hb => absurd hb (by omega)⟩
  rw [z8, z5, z7]
  rfl
theorem inv_0 : Inv 0 T0 Z0 := by
  obtain ⟨-, -, -, -, -, -, -, -, -, -, -, -, y2, y4, y7, y8, y9⟩ := st_Z
  exact ⟨RB_0, ⟨0, fun i => i, by omega, rfl, y2, fun i hi => ⟨hi, rfl⟩, fun i j _ _ e => e, fun i hi => absurd hi (by omega)⟩, Or.inl ⟨rfl, y4⟩, Or.inl ⟨rfl, y8, y9⟩, ⟨0, by omega, rfl, y7, fun i hi => absurd hi (by omega)⟩⟩
