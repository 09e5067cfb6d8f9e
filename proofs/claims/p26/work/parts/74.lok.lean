/-! the law says 1 -/
theorem L_turns {xs : Nat → Int32} {LL : Nat} (hL : LL ≤ 260) : ∀ (j e fuel : Nat) (T : Nat → Mm) (a6 a5 a4 a3 a2 a1 a0 : Nat → Int32), e + j = 46 → j < fuel → LI e T a0 a1 a2 a3 a4 a5 a6 → s_L_law_L89 xs LL fuel T a6 a5 a4 a3 a2 a1 a0 (nI e) = some 1 := by
  intro j
  induction j with
  | zero =>
    intro e fuel T a6 a5 a4 a3 a2 a1 a0 he hf h
    obtain ⟨f, rfl⟩ : ∃ f, fuel = f + 1 := ⟨fuel - 1, by omega⟩
    have he : e = 46 := by omega
    subst he
    rw [s_L_law_L89, if_pos (show (46 : Int32) ≤ nI 46 from by decide)]
  | succ j ih =>
    intro e fuel T a6 a5 a4 a3 a2 a1 a0 he hf h
    obtain ⟨f, rfl⟩ : ∃ f, fuel = f + 1 := ⟨fuel - 1, by omega⟩
    exact L_step hL (by omega) (fun T a6 a5 a4 a3 a2 a1 a0 h' => ih (e + 1) f T a6 a5 a4 a3 a2 a1 a0 (by omega) (by omega) h') T a6 a5 a4 a3 a2 a1 a0 h
theorem L_bags {xs : Nat → Int32} {LL : Nat} {T : Nat → Mm} {a6 a5 a4 a3 a2 a0 : Nat → Int32} : ∀ (j k fuel : Nat) (b0 : Nat → Int32), k + j = 10 → j < fuel → ∃ b, s_L_law_L68 xs LL fuel T a6 a5 a4 a3 a2 b0 a0 (nI k) = s_L_law_L89 xs LL 50 T a6 a5 a4 a3 a2 b a0 0 ∧ ∀ i, b i = if k ≤ i ∧ i < 10 then 2 else b0 i := by
  intro j
  induction j with
  | zero =>
    intro k fuel b0 hk hf
    obtain ⟨f, rfl⟩ : ∃ f, fuel = f + 1 := ⟨fuel - 1, by omega⟩
    have hk : k = 10 := by omega
    subst hk
    rw [s_L_law_L68, if_pos (show (10 : Int32) ≤ nI 10 from by decide)]
    exact ⟨b0, rfl, fun i => by rw [if_neg (by omega)]⟩
  | succ j ih =>
    intro k fuel b0 hk hf
    obtain ⟨f, rfl⟩ : ∃ f, fuel = f + 1 := ⟨fuel - 1, by omega⟩
    rw [s_L_law_L68, if_neg (show ¬ (10 : Int32) ≤ nI k from nI_ge (b := 10) (by omega) (by decide)), wr1_n (by omega) (by decide), bd_some, jn_eq, nI_1]
    obtain ⟨b, e, hb⟩ := ih (k + 1) f (upd b0 k 2) (by omega) (by omega)
    refine ⟨b, e, fun i => ?_⟩
    rw [hb i, up_ap]
    by_cases c1 : i = k
    · rw [if_neg (by omega), if_pos c1, if_pos (by omega)]
    · by_cases c2 : k + 1 ≤ i ∧ i < 10
      · rw [if_pos c2, if_pos (by omega)]
      · rw [if_neg c2, if_neg c1, if_neg (by omega)]
theorem tsn_b0 : ∀ n, q_tsn q_b0 n = 0
  | 0 => rfl
  | n + 1 => by
    show q_tsn q_b0 n + q_su [] * pz n = 0
    rw [tsn_b0 n]
    show (0 : Int32) + 0 * pz n = 0
    rw [Int32.zero_mul, Int32.add_zero]
def q_t0 : Nat → Int32 := upd (upd (upd zr 0 2) 1 8) 9 1
theorem LI_0 {b : Nat → Int32} (hb : ∀ i, i < 10 → b i = 2) : LI 0 T0 zr b q_t0 zr zr zr zr := by
  obtain ⟨-, -, -, -, -, -, -, -, -, -, c9, c10, c11⟩ := st_C
  refine ⟨q_b0, 0, RC_0, ⟨⟨fun s hs => ⟨Nat.zero_le _, rfl, rfl⟩, fun i hi w hw => hb _ (by omega), fun k hk => ?_, rfl, rfl, rfl⟩, q_ok_b0, tsn_b0 12⟩, ⟨0, fun i => i, by omega, rfl, fun i hi => ⟨hi, rfl⟩⟩, Nat.le_refl _, c11, rfl, c9, rfl, c10, by decide, fun i _ h2 => absurd h2 (Nat.not_lt_zero _)⟩
  have : k = 0 ∨ k = 1 ∨ k = 2 ∨ k = 3 := by omega
  rcases this with rfl | rfl | rfl | rfl <;> rfl
theorem law_ok (xs : Nat → Int32) (L : Nat) (hL : L ≤ 260) : s_L_law xs L T0 = some 1 := by
  unfold s_L_law
  rw [wr1_e (i := 0) 0 rfl (by decide) (by decide), bd_some, wr1_e (i := 1) 1 rfl (by decide) (by decide), bd_some, wr1_e (i := 9) 9 rfl (by decide) (by decide), bd_some]
  obtain ⟨b, e, hb⟩ := L_bags (xs := xs) (LL := L) (T := T0) (a6 := zr) (a5 := zr) (a4 := zr) (a3 := zr) (a2 := q_t0) (a0 := zr) 10 0 50 zr rfl (by omega)
  have h := L_turns (xs := xs) hL 46 0 50 T0 zr zr zr zr q_t0 b zr rfl (by omega) (LI_0 (fun i hi => by rw [hb i, if_pos (by omega)]))
  exact e.trans h
