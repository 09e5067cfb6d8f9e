/-! one move, with its log -/
theorem mx_eq (x y : Int32) : imax x y = if y ≤ x then x else y := by
  unfold imax
  by_cases c : x < y
  · rw [if_pos c, if_neg (Int32.not_le.mpr c)]
  · rw [if_neg c, if_pos (Int32.not_lt.mp c)]
theorem C_make {a : Bd} {B : Mm} {mc n : Nat} {p : Int32} (R : RC B a) (ok : q_ok a) (hm : B 0 11 = nI mc) (h : mc < 10368) (h1 : 1 ≤ n) (h7 : n ≤ 7) (hp : p ∈ pls) (hh : q_hind a n p = 0) :
    ∃ B', s_X0_makeMove B (nI n) p = some B' ∧ RC B' (q_do a n p) ∧ B' 0 9 = B 0 9 + q_tell a n p ∧ B' 0 10 = imax (B 0 10) (iabs (q_tu (q_do a n p))) ∧ B' 0 11 = nI (mc + 1) ∧
      (B' 5 (4 * (mc % 40)) = q_sd a ∧ B' 5 (4 * (mc % 40) + 1) = nI n ∧ B' 5 (4 * (mc % 40) + 2) = p ∧ B' 5 (4 * (mc % 40) + 3) = q_tell a n p) ∧ ∀ i, (i < 4 * (mc % 40) ∨ 4 * (mc % 40) + 3 < i) → B' 5 i = B 5 i := by
  unfold s_X0_makeMove
  have hr : mc % 40 < 40 := Nat.mod_lt _ (by omega)
  generalize hq : mc % 40 = r at hr
  rw [hm, C_row h, hq, bd_some, wr_n (by omega) (by omega), bd_some, nI_1, wr_n (by omega) (by omega), bd_some, show nI (4 * r) + 2 = nI (4 * r + 2) from nI_add _ 2, wr_n (by omega) (by omega), bd_some]
  generalize hN : mset (mset (mset B 5 (upd (B 5) (4 * r) (B 0 5))) 5 _) 5 _ = N
  have R4 : RC N a := by
    subst hN
    exact RC_congr R (fun _ _ => rfl) (fun _ _ => rfl) (fun _ _ => rfl) (fun _ _ => rfl) rfl rfl rfl rfl
  have n0 : N 0 = B 0 := by subst hN; rfl
  have n5 : N 5 = upd (upd (upd (B 5) (4 * r) (B 0 5)) (4 * r + 1) (nI n)) (4 * r + 2) p := by subst hN; rfl
  clear hN
  rw [C_tell R4 h1 h7 hp hh, bd_some, show nI (4 * r) + 3 = nI (4 * r + 3) from nI_add _ 3, wr_n (by omega) (by omega), bd_some, rd_n (by omega) (by omega), bd_some, ms_eq, up_eq, pf_eq, bd_some, pf_eq, bd_some]
  generalize hM : mset (mset (mset N 5 (upd (N 5) (4 * r + 3) (q_tell a n p))) 0 _) 0 _ = M
  have R9 : RC M a := by
    subst hM
    exact RC_congr R4 (fun _ _ => rfl) (fun _ _ => rfl) (fun _ _ => rfl) (fun _ _ => rfl) rfl rfl rfl rfl
  have m9 : M 0 9 = B 0 9 + q_tell a n p := by subst hM; rw [← n0]; rfl
  have m10 : M 0 10 = B 0 10 := by subst hM; rw [← n0]; rfl
  have m11 : M 0 11 = nI (mc + 1) := by
    subst hM
    rw [ms_eq, up_eq]
    show N 0 11 + 1 = _
    rw [n0, hm, nI_1]
  have m5 : M 5 = upd (N 5) (4 * r + 3) (q_tell a n p) := by subst hM; rfl
  clear hM
  obtain ⟨B1, e, R1, S1, S2, S3, S4⟩ := C_try R9 ok h1 h7 hp hh
  rw [e, bd_some, pf_eq, bd_some]
  refine ⟨_, rfl, RC_congr R1 (fun _ _ => rfl) (fun _ _ => rfl) (fun _ _ => rfl) (fun _ _ => rfl) rfl rfl rfl rfl, ?_, ?_, ?_, ⟨?_, ?_, ?_, ?_⟩, fun i hi => ?_⟩
  · rw [ms_eq, up_ne (by omega), S2, m9]
  · rw [ms_eq, up_eq, S3, m10, R1.2.2.2.2.2.2]
  · rw [ms_eq, up_ne (by omega), S4, m11]
  · rw [ms_ne (by omega), S1, m5, n5, up_ne (by omega), up_ne (by omega), up_ne (by omega), up_eq, R.2.2.2.1]
  · rw [ms_ne (by omega), S1, m5, n5, up_ne (by omega), up_ne (by omega), up_eq]
  · rw [ms_ne (by omega), S1, m5, n5, up_ne (by omega), up_eq]
  · rw [ms_ne (by omega), S1, m5, up_eq]
  · rw [ms_ne (by omega), S1, m5, n5, up_ne (by omega), up_ne (by omega), up_ne (by omega), up_ne (by omega)]
