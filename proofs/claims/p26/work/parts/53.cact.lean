/-! the class' acts, abstractly -/
section
variable {T : Nat → Mm} {a : Bd} {p : Int32}
theorem K_move {mc n : Nat} (R : RC (T 1) a) (ok : q_ok a) (H : HC T) (hm : T 1 0 11 = nI mc) (h : mc < 10368) (h1 : 1 ≤ n) (h7 : n ≤ 7) (hp : p ∈ pls) (hw : q_why a n p = 0) :
    ∃ T', s_X4_makeMove T (nI n) p = some (q_tu (q_do a n p), T') ∧ HC T' ∧ RC (T' 1) (q_do a n p) ∧ T' 1 0 9 = T 1 0 9 + q_tell a n p ∧ T' 1 0 10 = imax (T 1 0 10) (iabs (q_tu (q_do a n p))) ∧ T' 1 0 11 = nI (mc + 1) ∧
      (T' 1 5 (4 * (mc % 40)) = q_sd a ∧ T' 1 5 (4 * (mc % 40) + 1) = nI n ∧ T' 1 5 (4 * (mc % 40) + 2) = p ∧ T' 1 5 (4 * (mc % 40) + 3) = q_tell a n p) ∧ ∀ i, (i < 4 * (mc % 40) ∨ 4 * (mc % 40) + 3 < i) → T' 1 5 i = T 1 5 i := by
  obtain ⟨T1, e1, H1, t1⟩ := C_rem H
  obtain ⟨B', e3, R', b9, b10, b11, bl, bk⟩ := C_make (B := T1 1) (by rw [t1]; exact R) ok (by rw [t1]; exact hm) h h1 h7 hp (why_hind hw)
  unfold s_X4_makeMove
  rw [C_why R ok h1 h7 hp, bd_some, if_pos hw, e1, bd_some, e3, bd_some]
  unfold s_X0_turn
  rw [bd_some, ts_eq, R'.2.2.2.2.2.2]
  rw [t1] at b9 b10 bk
  refine ⟨_, rfl, H1.set, ?_, ?_, ?_, ?_, ?_, ?_⟩
  · rw [ts_eq]; exact R'
  · rw [ts_eq]; exact b9
  · rw [ts_eq]; exact b10
  · rw [ts_eq]; exact b11
  · rw [ts_eq]; exact bl
  · rw [ts_eq]; exact bk
theorem K_no {n : Nat} (R : RC (T 1) a) (ok : q_ok a) (h1 : 1 ≤ n) (h7 : n ≤ 7) (hp : p ∈ pls) (hw : ¬ q_why a n p = 0) : s_X4_makeMove T (nI n) p = some (-10010 - q_why a n p, T) := by
  unfold s_X4_makeMove
  rw [C_why R ok h1 h7 hp, bd_some, if_neg hw]
theorem K_lay {n : Nat} (h1 : 1 ≤ n) (h5 : n ≤ 5) (hp : p ∈ pls) {r : Int32} {T' : Nat → Mm} (e : s_X4_makeMove T (nI n) p = some (r, T')) : s_X4_lay T (nI n) p = some (r, T') := by
  unfold s_X4_lay
  rw [wt_is h1 h5, bd_some, if_neg (show ¬ (1 : Int32) = 0 from by decide), pl_is _ hp, bd_some, if_neg (show ¬ (1 : Int32) = 0 from by decide), e, bd_some]
theorem K_push {n : Nat} {fl : Int32} (hn : (n = 6 ∧ fl = 1) ∨ (n = 7 ∧ fl = 0)) (hp : p ∈ pls) {r : Int32} {T' : Nat → Mm} (e : s_X4_makeMove T (nI n) p = some (r, T')) : s_X4_push T p fl = some (r, T') := by
  unfold s_X4_push
  rw [pl_is _ hp, bd_some, if_neg (show ¬ (1 : Int32) = 0 from by decide)]
  rcases hn with ⟨rfl, rfl⟩ | ⟨rfl, rfl⟩
  · rw [if_neg (show ¬ (1 : Int32) = 0 from by decide), show (6 : Int32) = nI 6 from rfl, e, bd_some]
  · rw [if_pos rfl, show (7 : Int32) = nI 7 from rfl, e, bd_some]
theorem K_setBag {i w d : Nat} (R : RC (T 1) a) (H : HC T) (hi : i < 2) (h1 : 1 ≤ w) (h5 : w ≤ 5) (hd : d ≤ 6) :
    (q_bg a i w = nI d → s_X4_setBag T (nI i) (nI w) (nI d) = some (-10005, T)) ∧
    (¬ q_bg a i w = nI d → ∃ T', s_X4_setBag T (nI i) (nI w) (nI d) = some (q_bg a i w, T') ∧ HC T' ∧ RC (T' 1) (q_bag a i w (nI d - q_bg a i w)) ∧ RS (T 1) (T' 1)) := by
  unfold s_X4_setBag
  rw [sd_is hi, bd_some, if_neg (show ¬ (1 : Int32) = 0 from by decide), wt_is h1 h5, bd_some, if_neg (show ¬ (1 : Int32) = 0 from by decide), if_neg (nI_pos (by omega)), if_pos (show nI d ≤ 6 from nI_le (b := 6) hd (by omega)), C_inBag R hi h1 h5, bd_some]
  refine ⟨fun c => by rw [if_pos c], fun c => ?_⟩
  obtain ⟨T1, e1, H1, t1⟩ := C_rem H
  obtain ⟨B', e3, R', S1⟩ := C_bag (B := T1 1) (by rw [t1]; exact R) (nI d - q_bg a i w) hi h1 h5
  rw [if_neg c, e1, bd_some, e3, bd_some]
  refine ⟨_, rfl, H1.set, ?_, ?_⟩
  · rw [ts_eq]; exact R'
  · rw [ts_eq, ← t1]; exact S1
theorem K_set {k d : Nat} (R : RC (T 1) a) (H : HC T) (hk : k < 4) (h1 : s_mn k ≤ d) (h2 : d ≤ s_mx k) :
    (q_sg a k = nI d → s_X4_set T (nI k) (nI d) = some (-10005, T)) ∧
    (¬ q_sg a k = nI d → ∃ T', s_X4_set T (nI k) (nI d) = some (q_sg a k, T') ∧ HC T' ∧ RC (T' 1) (q_set a k (nI d)) ∧ RS (T 1) (T' 1)) := by
  obtain ⟨s1, s2, s3⟩ := set_tab k hk
  obtain ⟨m1, m2⟩ := s_mx_lt k
  unfold s_X4_set
  rw [s1, bd_some, if_neg (show ¬ (1 : Int32) = 0 from by decide), s2, bd_some, if_neg (nI_nlt h1 (by omega)), s3, bd_some, if_pos (nI_le h2 (by omega))]
  unfold s_X0_setting
  rw [s1, bd_some, if_neg (show ¬ (1 : Int32) = 0 from by decide), rd_n (by omega) (by omega), bd_some, bd_some, R.2.2.1 k hk]
  refine ⟨fun c => by rw [if_pos c], fun c => ?_⟩
  obtain ⟨T1, e1, H1, t1⟩ := C_rem H
  rw [if_neg c, e1, bd_some]
  unfold s_X0_changeSetting
  rw [s1, bd_some, if_neg (show ¬ (1 : Int32) = 0 from by decide), wr_n (by omega) (by omega), bd_some, bd_some]
  refine ⟨_, rfl, H1.set, ?_, ?_⟩
  · rw [ts_eq, t1]
    obtain ⟨r1, r2, r3, r4⟩ := R
    refine ⟨r1, r2, fun j hj => ?_, r4⟩
    show upd (T 1 4) k (nI d) j = upd (q_sg a) k (nI d) j
    rw [up_ap, up_ap, r3 j hj]
  · rw [ts_eq, t1]
    exact ⟨rfl, rfl, rfl, rfl⟩
theorem K_setUp {w : Nat} (R : RC (T 1) a) (ok : q_ok a) (H : HC T) (h1 : 1 ≤ w) (h5 : w ≤ 5) (hp : p ∈ pls) :
    (¬ nI (q_co a (sl p)).length < q_sg a 0 → s_X4_setUp T (nI w) p = some (-10003, T)) ∧
    (nI (q_co a (sl p)).length < q_sg a 0 → (q_co a (sl p)).length < 4 ∧ ∃ T', s_X4_setUp T (nI w) p = some (q_tu (q_put a p (nI w)), T') ∧ HC T' ∧ RC (T' 1) (q_put a p (nI w)) ∧ RS (T 1) (T' 1)) := by
  unfold s_X4_setUp
  rw [wt_is h1 h5, bd_some, if_neg (show ¬ (1 : Int32) = 0 from by decide), pl_is _ hp, bd_some, if_neg (show ¬ (1 : Int32) = 0 from by decide), C_full R hp, bd_some]
  refine ⟨fun c => by rw [if_neg c, if_neg (show ¬ (1 : Int32) = 0 from by decide)], fun c => ?_⟩
  have hl : (q_co a (sl p)).length < 4 := by
    obtain ⟨m, m1, m4, em⟩ := ok.2.2.2.1
    have h4 := R.co hp
    rw [em] at c
    have := Int32.lt_iff_toInt_lt.mp c
    rw [nI_toInt (by omega), nI_toInt (by omega)] at this
    omega
  refine ⟨hl, ?_⟩
  obtain ⟨T1, e1, H1, t1⟩ := C_rem H
  obtain ⟨B', e3, R', S1⟩ := C_put (B := T1 1) (by rw [t1]; exact R) hp (nI w) hl
  rw [if_pos c, if_pos (show (0 : Int32) = 0 from rfl), e1, bd_some, e3, bd_some]
  unfold s_X0_turn
  rw [bd_some, ts_eq, R'.2.2.2.2.2.2]
  refine ⟨_, rfl, H1.set, ?_, ?_⟩
  · rw [ts_eq]; exact R'
  · rw [ts_eq, ← t1]; exact S1
def q_emp (a : Bd) : Bd := (fun _ => [], q_bg a, q_sg a, 0, 1, 0, 0)
theorem K_begin (R : RC (T 1) a) (H : HC T) : ∃ T', s_X4_begin T = some (q_tk a 12, T') ∧ HC T' ∧ RC (T' 1) (q_emp a) ∧ T' 1 0 9 = 0 ∧ T' 1 0 10 = 0 ∧ T' 1 0 11 = 0 := by
  obtain ⟨T1, e1, H1, t1⟩ := C_rem H
  obtain ⟨B', e5, b2, b3, b4, f5, f6, f7, f8, f9, f10, f11⟩ := C_empty 12 0 1000 (B := T1 1) rfl (by omega)
  unfold s_X4_begin s_X0_empty
  rw [C_tokens R, bd_some, e1, bd_some, show (0 : Int32) = nI 0 from rfl, e5, bd_some]
  refine ⟨_, rfl, H1.set, ?_, ?_, ?_, ?_⟩
  · rw [ts_eq]
    rw [t1] at b2 b3 b4
    refine ⟨fun s hs => ⟨Nat.zero_le _, ?_, rfl⟩, fun i hi => ?_, fun k hk => ?_, f5, f6, f7, f8⟩
    · rw [b2, if_pos (by omega)]
      rfl
    · rw [b3]
      exact R.2.1 i hi
    · rw [b4]
      exact R.2.2.1 k hk
  · rw [ts_eq]; exact f9
  · rw [ts_eq]; exact f10
  · rw [ts_eq]; exact f11
theorem q_ok_emp (ok : q_ok a) : q_ok (q_emp a) := ⟨Or.inl rfl, Or.inr rfl, ok.2.2⟩
end
