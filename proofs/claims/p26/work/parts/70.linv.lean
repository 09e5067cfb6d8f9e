/-! the law's own loop: what holds before each choice -/
def LI (e : Nat) (T : Nat → Mm) (m b t l0 l1 l2 l3 : Nat → Int32) : Prop :=
  ∃ a mc, RC (T 1) a ∧ RT m b t a ∧ HC T ∧ mc ≤ e ∧ T 1 0 11 = nI mc ∧ t 5 = nI mc ∧ T 1 0 9 = t 6 ∧ t 6 + t 7 = q_tu a ∧ T 1 0 10 = t 8 ∧ 0 ≤ t 8 ∧ q_LG T mc l0 l1 l2 l3
theorem LI.tr {e : Nat} {T : Nat → Mm} {m b t l0 l1 l2 l3 : Nat → Int32} {a : Bd} {mc : Nat} {B' : Mm} (R : RT m b t a) (H : HC T) (hmc : mc ≤ e) (h11 : T 1 0 11 = nI mc) (t5 : t 5 = nI mc) (h9 : T 1 0 9 = t 6) (h67 : t 6 + t 7 = q_tu a) (h10 : T 1 0 10 = t 8) (h8 : 0 ≤ t 8) (G : q_LG T mc l0 l1 l2 l3) (C : RC B' a) (S : RS (T 1) B') : LI e (tset T 1 B') m b t l0 l1 l2 l3 := by
  obtain ⟨s1, s2, s3, s4⟩ := S
  refine ⟨a, mc, ?_, R, H.set, hmc, ?_, t5, ?_, h67, ?_, h8, ?_⟩
  · rw [ts_eq]; exact C
  · rw [ts_eq, s4]; exact h11
  · rw [ts_eq, s2]; exact h9
  · rw [ts_eq, s3]; exact h10
  · intro i h1 h2
    rw [ts_eq, s1]
    exact G i h1 h2
/-- the same, seen through two looks -/
theorem LI.ok1 {e : Nat} {T T' : Nat → Mm} {m b t l0 l1 l2 l3 : Nat → Int32} (h : LI e T m b t l0 l1 l2 l3) : ∃ a, RC (T 1) a ∧ RT m b t a ∧ q_cn T t a ∧ ∀ B', RC B' a → RS (T 1) B' → LI e (tset T 1 B') m b t l0 l1 l2 l3 := by
  obtain ⟨a, mc, C, R, H, hmc, h11, t5, h9, h67, h10, h8, G⟩ := h
  exact ⟨a, C, R, ⟨h11.trans t5.symm, h9, h67, h10⟩, fun B' C' S' => LI.tr R H hmc h11 t5 h9 h67 h10 h8 G C' S'⟩
theorem L_low {x : Int32} {y : Nat} (h0 : 0 < y) (hy : y < 2 ^ 31) : ∃ r, r < y ∧ s_L_low x (nI y) = some (nI r) := by
  obtain ⟨j, hj, e⟩ := pk_andE x (m := 2147483647) 31 (by decide)
  unfold s_L_low
  rw [e, rmi_n hj h0 hy, bd_some]
  exact ⟨j % y, Nat.mod_lt _ h0, rfl⟩
theorem L_cellOk {xs : Nat → Int32} {LL k : Nat} (hL : LL ≤ 260) (hk : k < 100) : ∃ v, s_L_cell xs LL (nI k) = some v := by
  unfold s_L_cell
  by_cases c : Int32.ofNat LL ≤ nI k
  · rw [if_pos c]
    exact ⟨_, rfl⟩
  · rw [if_neg c]
    have h : k < LL := by
      rcases Nat.lt_or_ge k LL with h | h
      · exact h
      · exact absurd (nI_le (a := LL) (b := k) h (by omega)) c
    rw [rd_n h (by omega), bd_some]
    exact ⟨_, rfl⟩
/-- behind a choice: all is told anew, and the next choice comes -/
theorem L_tail {xs : Nat → Int32} {LL n e : Nat} (he : e < 46) (nx : ∀ (T : Nat → Mm) (a6 a5 a4 a3 a2 a1 a0 : Nat → Int32), LI (e + 1) T a0 a1 a2 a3 a4 a5 a6 → s_L_law_L89 xs LL n T a6 a5 a4 a3 a2 a1 a0 (nI (e + 1)) = some 1) (T : Nat → Mm) (a6 a5 a4 a3 a2 a1 a0 : Nat → Int32) (h : LI (e + 1) T a0 a1 a2 a3 a4 a5 a6) :
    (Option.bind (s_L_law_I921 xs LL 1000 T a6 a5 a4 a3 a2 a1 a0 (nI e) 1 (0 : Int32)) fun q897 =>
      if q897 = (0 : Int32) then
        some (0 : Int32)
      else
      Option.bind (s_L_tells T a0 a1 a2) fun q899 =>
      if q899.1 = (0 : Int32) then
        some (0 : Int32)
      else
      Option.bind (rmi (nI e) (4 : Int32)) fun v901 =>
      if v901 = (3 : Int32) then
        Option.bind (rmi (nI e) (16 : Int32)) fun v904 =>
        jn (fun (v906 : Int32) =>
          Option.bind (s_L_looks q899.2 a0 a1 a2 v906) fun q907 =>
          if q907.1 = (0 : Int32) then
            some (0 : Int32)
          else
          jn (nI e + (1 : Int32)) fun v909 =>
          s_L_law_L89 xs LL n q907.2 a6 a5 a4 a3 a2 a1 a0 v909) fun k905 =>
        if v904 = (15 : Int32) then
          k905 (1 : Int32)
        else
        k905 (0 : Int32)
      else
      jn (nI e + (1 : Int32)) fun v903 =>
      s_L_law_L89 xs LL n q899.2 a6 a5 a4 a3 a2 a1 a0 v903) = some 1 := by
  have h' := h
  obtain ⟨a, mc, C, R, H, hmc, h11, t5, h9, h67, h10, h8, G⟩ := h'
  have hm : s_L_law_I921 xs LL 1000 T a6 a5 a4 a3 a2 a1 a0 (nI e) 1 (0 : Int32) = some 1 := made_loop h11 t5 (by omega) G 41 0 1000 (by omega) (by omega) (by omega)
  obtain ⟨B1, e1, C1, S1⟩ := L_tells R C ⟨h11.trans t5.symm, h9, h67, h10⟩
  have L1 : LI (e + 1) (tset T 1 B1) a0 a1 a2 a3 a4 a5 a6 := LI.tr R H hmc h11 t5 h9 h67 h10 h8 G C1 S1
  rw [hm, bd_some, if_neg (show ¬ (1 : Int32) = 0 from by decide), e1, bd_some]
  dsimp only
  rw [if_neg (show ¬ (1 : Int32) = 0 from by decide), show rmi (nI e) 4 = _ from rmi_n (y := 4) (by omega) (by omega) (by omega), bd_some]
  by_cases c : nI (e % 4) = (3 : Int32)
  · rw [if_pos c, show rmi (nI e) 16 = _ from rmi_n (y := 16) (by omega) (by omega) (by omega), bd_some]
    refine jn_ind (P := fun K => ∀ z, K z = some 1) (Q := fun o => o = some 1) ?_ ?_
    · intro z
      obtain ⟨B2, e2, C2, S2⟩ := L_looks (T := tset T 1 B1) R (by rw [ts_eq]; exact C1) z
      rw [ts_eq] at S2
      dsimp only
      rw [e2, bd_some]
      dsimp only
      rw [if_neg (show ¬ (1 : Int32) = 0 from by decide), jn_eq, nI_1, tset_tset]
      exact nx _ _ _ _ _ _ _ _ (LI.tr R H hmc h11 t5 h9 h67 h10 h8 G C2 (S1.tr S2))
    · intro K hK
      split
      · exact hK _
      · exact hK _
  · rw [if_neg c, jn_eq, nI_1]
    exact nx _ _ _ _ _ _ _ _ L1
