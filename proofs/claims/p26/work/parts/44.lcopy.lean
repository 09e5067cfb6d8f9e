/-! copies, the order of moves, what an end tells -/
theorem L_copy2 {nn : Nat} {f : Nat → Int32} (hn : nn ≤ 999) : ∀ (j x fuel : Nat) {g : Nat → Int32}, x + j = nn → j < fuel → ∃ h, s_L_copy_L2 nn fuel f g (nI x) = some h ∧ ∀ q, h q = if x ≤ q ∧ q < nn then f q else g q := by
  intro j
  induction j with
  | zero =>
    intro x fuel g hx hf
    obtain ⟨u, rfl⟩ : ∃ u, fuel = u + 1 := ⟨fuel - 1, by omega⟩
    have hx : x = nn := by omega
    subst hx
    rw [s_L_copy_L2, if_pos (Int32.le_refl _)]
    exact ⟨g, rfl, fun q => by rw [if_neg (by omega)]⟩
  | succ j ih =>
    intro x fuel g hx hf
    obtain ⟨u, rfl⟩ : ∃ u, fuel = u + 1 := ⟨fuel - 1, by omega⟩
    rw [s_L_copy_L2, if_neg (nI_ge (by omega) (by omega)), rd_n (by omega) (by omega), bd_some, wr1_n (by omega) (by omega), bd_some, jn_eq, nI_1]
    obtain ⟨h, e, hh⟩ := ih (x + 1) u (g := upd g x (f x)) (by omega) (by omega)
    refine ⟨h, e, fun q => ?_⟩
    rw [hh q, up_ap]
    by_cases c1 : q = x
    · rw [if_neg (by omega), if_pos c1, if_pos (by omega), c1]
    · by_cases c2 : x + 1 ≤ q ∧ q < nn
      · rw [if_pos c2, if_pos (by omega)]
      · rw [if_neg c2, if_neg c1, if_neg (by omega)]
theorem L_copy {nn : Nat} {f g : Nat → Int32} (hn : nn ≤ 999) : ∃ h, s_L_copy nn f g = some h ∧ ∀ q, q < nn → h q = f q := by
  obtain ⟨h, e, hh⟩ := L_copy2 hn nn 0 1000 (f := f) (g := g) (by omega) (by omega)
  exact ⟨h, e, fun q hq => by rw [hh, if_pos (by omega)]⟩
theorem RT_congr {m b t m' b' t' : Nat → Int32} {a : Bd} (R : RT m b t a) (hm : ∀ k, k < 60 → m' k = m k) (hb : ∀ k, k < 10 → b' k = b k) (ht : ∀ k, k < 11 → (k < 5 ∨ k = 9 ∨ k = 10) → t' k = t k) : RT m' b' t' a := by
  obtain ⟨⟨r1, r2, r3, r4, r5, r6⟩, ok, ts⟩ := R
  refine ⟨⟨fun s hs => ?_, fun i hi w hw => ?_, fun k hk => ?_, ?_, ?_, ?_⟩, ok, ts⟩
  · obtain ⟨q1, q2, q3⟩ := r1 s hs
    refine ⟨q1, (hm _ (by omega)).trans q2, ?_⟩
    rw [stk_congr (g := fun l => m (4 * s + l)) (fun l hl => hm _ (by omega))]
    exact q3
  · rw [hb _ (by omega)]; exact r2 i hi w hw
  · rw [ht k (by omega) (by omega)]; exact r3 k hk
  · rw [ht 4 (by omega) (by omega)]; exact r4
  · rw [ht 9 (by omega) (by omega)]; exact r5
  · rw [ht 10 (by omega) (by omega)]; exact r6
theorem L_copies {m b t : Nat → Int32} {a : Bd} (R : RT m b t a) (x y z : Nat → Int32) : ∃ m' b' t', s_L_copy 60 m x = some m' ∧ s_L_copy 10 b y = some b' ∧ s_L_copy 11 t z = some t' ∧ RT m' b' t' a := by
  obtain ⟨m', e1, h1⟩ := L_copy (nn := 60) (f := m) (g := x) (by omega)
  obtain ⟨b', e2, h2⟩ := L_copy (nn := 10) (f := b) (g := y) (by omega)
  obtain ⟨t', e3, h3⟩ := L_copy (nn := 11) (f := t) (g := z) (by omega)
  exact ⟨m', b', t', e1, e2, e3, RT_congr R h1 h2 (fun k hk _ => h3 k hk)⟩
def q_tl (k : Nat) : Int32 := (s_L_order (nI k)).getD 0
theorem ord_tab : ∀ k, k < 84 → s_L_order (nI k) = some (q_tl k) ∧ s_X4_tellMove (nI k) = some (q_tl k) ∧ dvi (q_tl k) 100 = some (nI (q_num k)) ∧ rmi (q_tl k) 100 = some (q_plc k + 50) ∧ q_plc k + 50 - 50 = q_plc k ∧ q_tl k ≠ -10005 := by decide +kernel
def q_bt (b : Int) : Int32 := if b = -1 then -10005 else q_tl b.toNat
theorem out_r {a : Bd} (ok : q_ok a) : q_out a = 0 ∨ q_out a = 1 ∨ q_out a = 2 ∨ q_out a = 3 := by
  obtain ⟨o1, o2, -, -, -, -, o7⟩ := ok
  unfold q_out
  rcases o2 with e | e <;> rw [e] <;> repeat' split
  all_goals first | exact Or.inl rfl | exact Or.inr (Or.inl rfl) | exact Or.inr (Or.inr (Or.inl rfl)) | exact Or.inr (Or.inr (Or.inr rfl))
theorem out_pos {a : Bd} (ok : q_ok a) (h : ¬ q_out a = 0) : ¬ q_out a ≤ 0 := by
  rcases out_r ok with e | e | e | e
  · exact absurd e h
  all_goals rw [e]; decide
theorem L_told {m b t : Nat → Int32} {a : Bd} (R : RT m b t a) (x : Int32) : s_L_told m b t x = some (if q_out a = 0 then 0 else if q_out a = 3 then 0 else if q_out a = x + 1 then 1 else -1) := by
  unfold s_L_told
  rw [L_result R, bd_some]
  repeat' split
  all_goals first | rfl | contradiction
theorem told_wi {m b t : Nat → Int32} {a : Bd} (R : RT m b t a) : s_L_told m b t (q_sd a) = some (iI (q_wi a)) := by
  rw [L_told R, Int32.add_comm (q_sd a) 1]
  unfold q_wi
  repeat' split
  all_goals rfl
theorem told_sv {a : Bd} {k : Nat} (o1 : q_sd a = 0 ∨ q_sd a = 1) (ok : q_ok (q_do a (q_num k) (q_plc k))) : (if q_out (q_do a (q_num k) (q_plc k)) = 0 then (0 : Int32) else if q_out (q_do a (q_num k) (q_plc k)) = 3 then 0 else if q_out (q_do a (q_num k) (q_plc k)) = q_sd a + 1 then 1 else -1) = iI (q_sv (q_val 0) a k) := by
  have o2 := ok.1
  have o3 := out_r ok
  unfold q_sv
  show _ = iI (if q_sd (q_do a (q_num k) (q_plc k)) = q_sd a then q_wi (q_do a (q_num k) (q_plc k)) else -(q_wi (q_do a (q_num k) (q_plc k))))
  unfold q_wi
  generalize q_do a (q_num k) (q_plc k) = c at o2 o3 ⊢
  rcases o1 with e1 | e1 <;> rcases o2 with e2 | e2 <;> rcases o3 with e3 | e3 | e3 | e3 <;> rw [e1, e2, e3] <;> decide
theorem q_bs_mx {g : Bd → Int} (hg : q_rg g) (a : Bd) : ∀ k, (q_bs g a k).2.1 = q_mx g a k := by
  intro k
  induction k with
  | zero => rfl
  | succ k ih =>
    have hr := q_bs_r hg a k
    have hv := q_sv_r hg a k
    unfold q_bs q_mx
    by_cases c : q_hind a (q_num k) (q_plc k) = 0
    · rw [if_pos c, if_pos c]
      split
      · rename_i h
        dsimp only
        rw [← ih]
        rcases h with h | h | h <;> omega
      · rename_i h
        rw [← ih]
        have : ¬ (q_bs g a k).2.1 < q_sv g a k := fun x => h (Or.inr (Or.inl x))
        omega
    · rw [if_neg c, if_neg c, ih]
