/-! the class' beam against the abstract one -/
def q_tgt (n : Nat) (p : Int32) : Int32 :=
  if 6 ≤ n then (if n = 7 then p + (if p ≤ 0 then -1 else 1) else if p = (if p ≤ 0 then -1 else 1) then -(if p ≤ 0 then -1 else 1) else p - (if p ≤ 0 then -1 else 1)) else p
theorem C_tgt : ∀ n, n < 8 → ∀ p ∈ pls, s_X0_targetOf (nI n) p = some (q_tgt n p) := by decide +kernel
theorem tgt_lay {n : Nat} {p : Int32} (h : n < 6) : q_tgt n p = p := by unfold q_tgt; rw [if_neg (by omega)]
theorem tgt_ne : ∀ n, n < 8 → 6 ≤ n → ∀ p ∈ pls, q_tgt n p ∈ pls → sl (q_tgt n p) ≠ sl p := by decide +kernel
def q_out (a : Bd) : Int32 := if iabs (q_tu a) ≤ q_sg a 1 then (if q_all a 0 = 0 then (if q_all a 1 = 0 then 3 else 0) else 0) else (if q_sg a 3 = 1 then 1 + q_la a else 1 + (1 - q_la a))
def q_h4 (a : Bd) (t : Int32) : Int32 := if t ∈ pls then (if nI (q_co a (sl t)).length < q_sg a 0 then 0 else 4) else 4
def q_hind (a : Bd) (n : Nat) (p : Int32) : Int32 :=
  if 6 ≤ n then (if q_sg a 2 = 0 then 2 else if q_co a (sl p) = [] then 3 else if p = q_lt a then 3 else q_h4 a (q_tgt n p))
  else (if q_bg a (sn (q_sd a)) n = 0 then 2 else q_h4 a (q_tgt n p))
def q_why (a : Bd) (n : Nat) (p : Int32) : Int32 := if q_out a = 0 then q_hind a n p else 1
def q_beh (a : Bd) : Int32 := if q_sg a 2 = 0 then (if q_all a (sn (1 - q_sd a)) = 0 then (if q_all a (sn (q_sd a)) ≤ 0 then 1 - q_sd a else q_sd a) else 1 - q_sd a) else 1 - q_sd a
def q_mid (a : Bd) (n : Nat) (p : Int32) : Bd :=
  if 6 ≤ n then q_tri (q_put (q_pop a p) (q_tgt n p) ((q_co a (sl p)).headD 0)) (q_sd a) (q_la a) (q_tgt n p)
  else q_tri (q_put (q_bag a (sn (q_sd a)) n (-1)) p (nI n)) (q_sd a) (q_la a) 0
def q_do (a : Bd) (n : Nat) (p : Int32) : Bd := q_tri (q_mid a n p) (q_beh (q_mid a n p)) (q_sd a) (q_lt (q_mid a n p))
def q_tell (a : Bd) (n : Nat) (p : Int32) : Int32 := if 6 ≤ n then (q_co a (sl p)).headD 0 * (q_tgt n p - p) else nI n * p
def q_ok (a : Bd) : Prop :=
  (q_sd a = 0 ∨ q_sd a = 1) ∧ (q_la a = 0 ∨ q_la a = 1) ∧ (∀ i, i < 2 → ∀ w, 1 ≤ w → w ≤ 5 → ∃ n, n ≤ 6 ∧ q_bg a i w = nI n) ∧ (∃ c, 1 ≤ c ∧ c ≤ 4 ∧ q_sg a 0 = nI c) ∧ (∃ c, c ≤ 40 ∧ q_sg a 1 = nI c) ∧ (q_sg a 2 = 0 ∨ q_sg a 2 = 1) ∧ (q_sg a 3 = 0 ∨ q_sg a 3 = 1)
theorem hind_room {a : Bd} {n : Nat} {p : Int32} (ok : q_ok a) (hc : ∀ s, s < 12 → (q_co a s).length ≤ 4) (h : q_hind a n p = 0) : q_tgt n p ∈ pls ∧ (q_co a (sl (q_tgt n p))).length < 4 := by
  have key : q_h4 a (q_tgt n p) = 0 := by
    unfold q_hind at h
    by_cases c : 6 ≤ n
    · rw [if_pos c] at h
      by_cases c2 : q_sg a 2 = 0
      · rw [if_pos c2] at h; exact absurd h (by decide)
      · rw [if_neg c2] at h
        by_cases c3 : q_co a (sl p) = []
        · rw [if_pos c3] at h; exact absurd h (by decide)
        · rw [if_neg c3] at h
          by_cases c4 : p = q_lt a
          · rw [if_pos c4] at h; exact absurd h (by decide)
          · rw [if_neg c4] at h; exact h
    · rw [if_neg c] at h
      by_cases c2 : q_bg a (sn (q_sd a)) n = 0
      · rw [if_pos c2] at h; exact absurd h (by decide)
      · rw [if_neg c2] at h; exact h
  unfold q_h4 at key
  by_cases c : q_tgt n p ∈ pls
  · refine ⟨c, ?_⟩
    rw [if_pos c] at key
    by_cases c2 : nI (q_co a (sl (q_tgt n p))).length < q_sg a 0
    · obtain ⟨m, -, h4, e⟩ := ok.2.2.2.1
      rw [e] at c2
      have h5 := Int32.lt_iff_toInt_lt.mp c2
      have h6 := hc _ (sl_lt _ c)
      rw [nI_toInt (n := m) (by omega), nI_toInt (by omega)] at h5
      omega
    · rw [if_neg c2] at key; exact absurd key (by decide)
  · rw [if_neg c] at key; exact absurd key (by decide)
theorem hind_push {a : Bd} {n : Nat} {p : Int32} (hn : 6 ≤ n) (h : q_hind a n p = 0) : ∃ w t, q_co a (sl p) = w :: t := by
  unfold q_hind at h
  rw [if_pos hn] at h
  by_cases c2 : q_sg a 2 = 0
  · rw [if_pos c2] at h; exact absurd h (by decide)
  · rw [if_neg c2] at h
    cases c : q_co a (sl p) with
    | nil => rw [if_pos c] at h; exact absurd h (by decide)
    | cons w t => exact ⟨w, t, rfl⟩
section
variable {B : Mm} {a : Bd} {p : Int32}
theorem C_out (R : RC B a) : s_X0_outcome B = some (q_out a) := by
  unfold s_X0_outcome q_out
  rw [rd_l (by decide) (by decide), bd_some, R.2.2.1 1 (by decide), R.2.2.2.2.2.2]
  by_cases c : iabs (q_tu a) ≤ q_sg a 1
  · rw [if_pos c, if_pos c, show s_X0_inBag B 0 0 = some (q_all a 0) from C_inAll R (i := 0) (by decide), bd_some]
    show (if q_all a 0 = 0 then _ else _) = some (if q_all a 0 = 0 then _ else _)
    by_cases c1 : q_all a 0 = 0
    · rw [if_pos c1, if_pos c1, show s_X0_inBag B 1 0 = some (q_all a 1) from C_inAll R (i := 1) (by decide), bd_some]
      split <;> rfl
    · rw [if_neg c1, if_neg c1]
  · rw [if_neg c, if_neg c, rd_l (by decide) (by decide), bd_some, R.2.2.1 3 (by decide), R.2.2.2.2.1]
    split <;> rfl
theorem C_worth (R : RC B a) (x : Int32) : s_X0_worth B x = some (if x = 0 then 0 else if x = 3 then 0 else if x = 1 + q_sd a then 1 else -1) := by
  unfold s_X0_worth
  rw [R.2.2.2.1]
  repeat' split
  all_goals first | rfl | contradiction
theorem nI_nil {l : List Int32} (h : l.length ≤ 4) : nI l.length = 0 ↔ l = [] := by
  constructor
  · intro e
    cases l with
    | nil => rfl
    | cons w t => exact absurd e (nI_ne0 (Nat.succ_pos _) (by omega))
  · intro e
    rw [e]; rfl
theorem C_hind (R : RC B a) (ok : q_ok a) {n : Nat} (h1 : 1 ≤ n) (h7 : n ≤ 7) (hp : p ∈ pls) : s_X0_hindrance B (nI n) p = some (q_hind a n p) := by
  have key : (Option.bind (s_X0_targetOf (nI n) p) fun v5 => Option.bind (s_X0_isPlace v5) fun v6 => if v6 = (0 : Int32) then some (4 : Int32) else Option.bind (s_X0_isFull B v5) fun v8 => if v8 = (0 : Int32) then some (0 : Int32) else some (4 : Int32)) = some (q_h4 a (q_tgt n p)) := by
    rw [C_tgt n (by omega) p hp, bd_some]
    unfold q_h4
    by_cases c : q_tgt n p ∈ pls
    · rw [pl_is _ c, bd_some, if_neg (by decide), C_full R c, bd_some, if_pos c]
      split <;> rfl
    · rw [(pl_no c).1, bd_some, if_pos rfl, if_neg c]
  unfold s_X0_hindrance q_hind
  rw [jn_eq]
  by_cases c : 6 ≤ n
  · rw [if_pos (show (6 : Int32) ≤ nI n from nI_le (a := 6) c (by omega)), if_pos c, rd_l (by decide) (by decide), bd_some, R.2.2.1 2 (by decide)]
    by_cases c2 : q_sg a 2 = 0
    · rw [if_pos c2, if_pos c2]
    · rw [if_neg c2, if_neg c2, C_height R hp, bd_some]
      by_cases c3 : q_co a (sl p) = []
      · rw [if_pos ((nI_nil (R.co hp)).mpr c3), if_pos c3]
      · rw [if_neg (fun e => c3 ((nI_nil (R.co hp)).mp e)), if_neg c3, R.2.2.2.2.2.1]
        by_cases c4 : p = q_lt a
        · rw [if_pos c4, if_pos c4]
        · rw [if_neg c4, if_neg c4]; exact key
  · rw [if_neg (show ¬ (6 : Int32) ≤ nI n from nI_ge (b := 6) (by omega) (by decide)), if_neg c, R.2.2.2.1, sn_eq ok.1, C_inBag R (sn_lt _) h1 (by omega), bd_some]
    by_cases c2 : q_bg a (sn (q_sd a)) n = 0
    · rw [if_pos c2, ← sn_eq ok.1, if_pos c2]
    · rw [if_neg c2, ← sn_eq ok.1, if_neg c2]; exact key
theorem C_why (R : RC B a) (ok : q_ok a) {n : Nat} (h1 : 1 ≤ n) (h7 : n ≤ 7) (hp : p ∈ pls) : s_X0_whyNot B (nI n) p = some (q_why a n p) := by
  unfold s_X0_whyNot q_why
  rw [C_out R, bd_some]
  by_cases c : q_out a = 0
  · rw [if_pos c, if_pos c, C_hind R ok h1 h7 hp, bd_some]
  · rw [if_neg c, if_neg c]
theorem C_tell (R : RC B a) {n : Nat} (h1 : 1 ≤ n) (h7 : n ≤ 7) (hp : p ∈ pls) (hh : q_hind a n p = 0) : s_X0_tellingOf B (nI n) p = some (q_tell a n p) := by
  unfold s_X0_tellingOf q_tell
  by_cases c : 6 ≤ n
  · obtain ⟨w, t, e⟩ := hind_push c hh
    rw [if_pos (show (6 : Int32) ≤ nI n from nI_le (a := 6) c (by omega)), if_pos c, C_upper R hp e, bd_some, C_tgt n (by omega) p hp, bd_some, e]
    rfl
  · rw [if_neg (show ¬ (6 : Int32) ≤ nI n from nI_ge (b := 6) (by omega) (by decide)), if_neg c]
theorem C_f7 (R : RC B a) (x : Int32) : RC (mset B 0 (upd (B 0) 7 x)) (q_tri a (q_sd a) (q_la a) x) ∧ RS B (mset B 0 (upd (B 0) 7 x)) :=
  ⟨⟨R.1, R.2.1, R.2.2.1, R.2.2.2.1, R.2.2.2.2.1, rfl, R.2.2.2.2.2.2⟩, rfl, rfl, rfl, rfl⟩
theorem C_f6 (R : RC B a) (x : Int32) : RC (mset B 0 (upd (B 0) 6 x)) (q_tri a (q_sd a) x (q_lt a)) ∧ RS B (mset B 0 (upd (B 0) 6 x)) :=
  ⟨⟨R.1, R.2.1, R.2.2.1, R.2.2.2.1, rfl, R.2.2.2.2.2.1, R.2.2.2.2.2.2⟩, rfl, rfl, rfl, rfl⟩
theorem C_f5 (R : RC B a) (x : Int32) : RC (mset B 0 (upd (B 0) 5 x)) (q_tri a x (q_la a) (q_lt a)) ∧ RS B (mset B 0 (upd (B 0) 5 x)) :=
  ⟨⟨R.1, R.2.1, R.2.2.1, rfl, R.2.2.2.2.1, R.2.2.2.2.2.1, R.2.2.2.2.2.2⟩, rfl, rfl, rfl, rfl⟩
theorem q_oth {x : Int32} (h : x = 0 ∨ x = 1) : (1 - x = 0 ∨ 1 - x = 1) := by rcases h with rfl | rfl <;> decide
theorem C_beh (R : RC B a) (hs : q_sd a = 0 ∨ q_sd a = 1) : s_X0_sideBehind B (q_sd a) = some (q_beh a) := by
  have k4 : (Option.bind (s_X0_inBag B (q_sd a) 0) fun v7 => if v7 ≤ (0 : Int32) then some (1 - q_sd a) else some (q_sd a)) = some (if q_all a (sn (q_sd a)) ≤ 0 then 1 - q_sd a else q_sd a) := by
    conv => lhs; rw [sn_eq hs]
    rw [C_inAll R (sn_lt _), bd_some, ← sn_eq hs]
    split <;> rfl
  unfold s_X0_sideBehind q_beh
  rw [jn_eq, rd_l (by decide) (by decide), bd_some, jn_eq, jn_eq, R.2.2.1 2 (by decide)]
  by_cases c : q_sg a 2 = 0
  · rw [if_pos c, if_pos c]
    have e : s_X0_inBag B (1 - q_sd a) 0 = some (q_all a (sn (1 - q_sd a))) := by
      conv => lhs; rw [sn_eq (q_oth hs)]
      exact C_inAll R (sn_lt _)
    rw [e, bd_some]
    by_cases c2 : q_all a (sn (1 - q_sd a)) = 0
    · rw [if_pos c2, if_pos c2]
      show (if (1 : Int32) = 0 then _ else _) = _
      rw [if_neg (by decide)]
      exact k4
    · rw [if_neg c2, if_neg c2]; rfl
  · rw [if_neg c, if_neg c]; rfl
theorem RC.hc (R : RC B a) : ∀ s, s < 12 → (q_co a s).length ≤ 4 := fun s h => (R.1 s h).1
theorem co_pop_self {a : Bd} {p : Int32} : q_co (q_pop a p) (sl p) = (q_co a (sl p)).tail := if_pos rfl
theorem co_pop_ne {a : Bd} {p : Int32} {s : Nat} (h : s ≠ sl p) : q_co (q_pop a p) s = q_co a s := if_neg h
theorem co_put_self {a : Bd} {p w : Int32} : q_co (q_put a p w) (sl p) = w :: q_co a (sl p) := if_pos rfl
theorem co_put_ne {a : Bd} {p w : Int32} {s : Nat} (h : s ≠ sl p) : q_co (q_put a p w) s = q_co a s := if_neg h
theorem C_try (R : RC B a) (ok : q_ok a) {n : Nat} (h1 : 1 ≤ n) (h7 : n ≤ 7) (hp : p ∈ pls) (hh : q_hind a n p = 0) : ∃ B', s_X0_tryMove B (nI n) p = some B' ∧ RC B' (q_do a n p) ∧ RS B B' := by
  obtain ⟨ht, hl⟩ := hind_room ok R.hc hh
  have fin : ∀ {N : Mm}, RC N (q_mid a n p) → RS B N → (q_sd (q_mid a n p) = q_sd a) → ∃ B', (Option.bind (pf N 0 6 (N 0 5)) fun N11 => Option.bind (s_X0_sideBehind N11 (N11 0 5)) fun v12 => Option.bind (pf N11 0 5 v12) fun N13 => some N13) = some B' ∧ RC B' (q_do a n p) ∧ RS B B' := by
    intro N RN SN es
    obtain ⟨R6, S6⟩ := C_f6 RN (N 0 5)
    rw [pf_eq, bd_some]
    generalize hM : mset N 0 (upd (N 0) 6 (N 0 5)) = M at R6 S6
    have e5 : M 0 5 = q_sd (q_tri (q_mid a n p) (q_sd (q_mid a n p)) (N 0 5) (q_lt (q_mid a n p))) := R6.2.2.2.1
    rw [e5, C_beh R6 (by show q_sd (q_mid a n p) = 0 ∨ _; rw [es]; exact ok.1), bd_some, pf_eq, bd_some]
    obtain ⟨R5, S5⟩ := C_f5 R6 (q_beh (q_tri (q_mid a n p) (q_sd (q_mid a n p)) (N 0 5) (q_lt (q_mid a n p))))
    refine ⟨_, rfl, ?_, SN.tr (S6.tr S5)⟩
    have e : q_do a n p = q_tri (q_tri (q_mid a n p) (q_sd (q_mid a n p)) (N 0 5) (q_lt (q_mid a n p))) (q_beh (q_tri (q_mid a n p) (q_sd (q_mid a n p)) (N 0 5) (q_lt (q_mid a n p)))) (N 0 5) (q_lt (q_mid a n p)) := by
      rw [show N 0 5 = q_sd a from RN.2.2.2.1.trans es]
      rfl
    rw [e]
    exact R5
  unfold s_X0_tryMove
  rw [C_tgt n (by omega) p hp, bd_some, jn_eq]
  by_cases c : 6 ≤ n
  · obtain ⟨w, t, e⟩ := hind_push c hh
    rw [if_pos (show (6 : Int32) ≤ nI n from nI_le (a := 6) c (by omega))]
    obtain ⟨B1, e1, R1, S1⟩ := C_take R hp e
    obtain ⟨B2, e2, R2, S2⟩ := C_put R1 ht w (by rw [co_pop_ne (tgt_ne n (by omega) c p hp ht)]; exact hl)
    obtain ⟨R3, S3⟩ := C_f7 R2 (q_tgt n p)
    rw [e1, bd_some, e2, bd_some, pf_eq, bd_some]
    have em : q_mid a n p = q_tri (q_put (q_pop a p) (q_tgt n p) w) (q_sd (q_put (q_pop a p) (q_tgt n p) w)) (q_la (q_put (q_pop a p) (q_tgt n p) w)) (q_tgt n p) := by
      unfold q_mid
      rw [if_pos c, e]
      rfl
    exact fin (by rw [em]; exact R3) (S1.tr (S2.tr S3)) (by rw [em]; rfl)
  · rw [if_neg (show ¬ (6 : Int32) ≤ nI n from nI_ge (b := 6) (by omega) (by decide))]
    rw [tgt_lay (by omega)] at ht hl
    obtain ⟨B1, e1, R1, S1⟩ := C_bag R (-1) (sn_lt (q_sd a)) h1 (show n ≤ 5 by omega)
    obtain ⟨B2, e2, R2, S2⟩ := C_put R1 hp (nI n) hl
    obtain ⟨R3, S3⟩ := C_f7 R2 0
    have e0 : s_X0_changeBag B (B 0 5) (nI n) (-1) = some B1 := by
      rw [R.2.2.2.1, sn_eq ok.1]; exact e1
    rw [e0, bd_some, e2, bd_some, pf_eq, bd_some]
    have em : q_mid a n p = q_tri (q_put (q_bag a (sn (q_sd a)) n (-1)) p (nI n)) (q_sd (q_put (q_bag a (sn (q_sd a)) n (-1)) p (nI n))) (q_la (q_put (q_bag a (sn (q_sd a)) n (-1)) p (nI n))) 0 := by
      unfold q_mid
      rw [if_neg c]
      rfl
    exact fin (by rw [em]; exact R3) (S1.tr (S2.tr S3)) (by rw [em]; rfl)
theorem Bd_ext {a b : Bd} (h1 : q_co a = q_co b) (h2 : q_bg a = q_bg b) (h3 : q_sg a = q_sg b) (h4 : q_sd a = q_sd b) (h5 : q_la a = q_la b) (h6 : q_lt a = q_lt b) (h7 : q_tu a = q_tu b) : a = b := by
  obtain ⟨a1, a2, a3, a4, a5, a6, a7⟩ := a
  obtain ⟨b1, b2, b3, b4, b5, b6, b7⟩ := b
  have h1 : a1 = b1 := h1
  have h2 : a2 = b2 := h2
  have h3 : a3 = b3 := h3
  have h4 : a4 = b4 := h4
  have h5 : a5 = b5 := h5
  have h6 : a6 = b6 := h6
  have h7 : a7 = b7 := h7
  subst h1; subst h2; subst h3; subst h4; subst h5; subst h6; subst h7
  rfl
theorem undo_lay {a : Bd} {n : Nat} {p : Int32} (hn : ¬ 6 ≤ n) : q_tri (q_bag (q_pop (q_do a n p) p) (sn (q_sd a)) n 1) (q_sd a) (q_la a) (q_lt a) = a := by
  have em : q_mid a n p = q_tri (q_put (q_bag a (sn (q_sd a)) n (-1)) p (nI n)) (q_sd a) (q_la a) 0 := by
    unfold q_mid; rw [if_neg hn]
  have ec : q_co (q_do a n p) = fun s => if s = sl p then nI n :: q_co a s else q_co a s := by
    show q_co (q_mid a n p) = _
    rw [em]; rfl
  have eb : q_bg (q_do a n p) = fun j v => if j = sn (q_sd a) ∧ v = n then q_bg a j v + (-1) else q_bg a j v := by
    show q_bg (q_mid a n p) = _
    rw [em]; rfl
  have et : q_tu (q_do a n p) = q_tu a + nI n * p := by
    show q_tu (q_mid a n p) = _
    rw [em]; rfl
  have eg : q_sg (q_do a n p) = q_sg a := by
    show q_sg (q_mid a n p) = _
    rw [em]; rfl
  refine Bd_ext ?_ ?_ ?_ rfl rfl rfl ?_
  · funext s
    show (if s = sl p then (q_co (q_do a n p) s).tail else q_co (q_do a n p) s) = q_co a s
    rw [ec]
    by_cases e : s = sl p
    · rw [if_pos e]; dsimp only; rw [if_pos e]; rfl
    · rw [if_neg e]; dsimp only; rw [if_neg e]
  · funext j v
    show (if j = sn (q_sd a) ∧ v = n then q_bg (q_do a n p) j v + 1 else q_bg (q_do a n p) j v) = q_bg a j v
    rw [eb]
    by_cases e : j = sn (q_sd a) ∧ v = n
    · rw [if_pos e]; dsimp only; rw [if_pos e]; grind
    · rw [if_neg e]; dsimp only; rw [if_neg e]
  · exact eg
  · show q_tu (q_do a n p) - (q_co (q_do a n p) (sl p)).headD 0 * p = q_tu a
    rw [ec, et]
    dsimp only
    rw [if_pos rfl]
    show q_tu a + nI n * p - nI n * p = q_tu a
    grind
theorem undo_push {a : Bd} {n : Nat} {p w : Int32} {t : List Int32} (hn : 6 ≤ n) (hne : sl (q_tgt n p) ≠ sl p) (hc : q_co a (sl p) = w :: t) : q_tri (q_put (q_pop (q_do a n p) (q_tgt n p)) p w) (q_sd a) (q_la a) (q_lt a) = a := by
  have em : q_mid a n p = q_tri (q_put (q_pop a p) (q_tgt n p) w) (q_sd a) (q_la a) (q_tgt n p) := by
    unfold q_mid; rw [if_pos hn, hc]; rfl
  have ec : q_co (q_do a n p) = fun s => if s = sl (q_tgt n p) then w :: (if s = sl p then (q_co a s).tail else q_co a s) else (if s = sl p then (q_co a s).tail else q_co a s) := by
    show q_co (q_mid a n p) = _
    rw [em]; rfl
  have eb : q_bg (q_do a n p) = q_bg a := by
    show q_bg (q_mid a n p) = _
    rw [em]; rfl
  have et : q_tu (q_do a n p) = q_tu a - w * p + w * q_tgt n p := by
    show q_tu (q_mid a n p) = _
    rw [em]
    show q_tu a - (q_co a (sl p)).headD 0 * p + w * q_tgt n p = _
    rw [hc]; rfl
  have eg : q_sg (q_do a n p) = q_sg a := by
    show q_sg (q_mid a n p) = _
    rw [em]; rfl
  refine Bd_ext ?_ ?_ ?_ rfl rfl rfl ?_
  · funext s
    show (if s = sl p then w :: (if s = sl (q_tgt n p) then (q_co (q_do a n p) s).tail else q_co (q_do a n p) s) else (if s = sl (q_tgt n p) then (q_co (q_do a n p) s).tail else q_co (q_do a n p) s)) = q_co a s
    rw [ec]
    dsimp only
    by_cases e : s = sl p
    · subst e
      rw [if_pos rfl, if_neg (fun h => hne h.symm), if_neg (fun h => hne h.symm), if_pos rfl, hc]; rfl
    · rw [if_neg e, if_neg e]
      by_cases e2 : s = sl (q_tgt n p)
      · rw [if_pos e2, if_pos e2]; rfl
      · rw [if_neg e2, if_neg e2]
  · exact eb
  · exact eg
  · show q_tu (q_do a n p) - (q_co (q_do a n p) (sl (q_tgt n p))).headD 0 * q_tgt n p + w * p = q_tu a
    rw [ec, et]
    dsimp only
    rw [if_pos rfl]
    show q_tu a - w * p + w * q_tgt n p - w * q_tgt n p + w * p = q_tu a
    grind
theorem C_back0 {N : Mm} {b : Bd} (RN : RC N b) (e : q_tri b (q_sd a) (q_la a) (q_lt a) = a) : ∃ B', (Option.bind (pf N 0 5 (q_sd a)) fun N8 => Option.bind (pf N8 0 6 (q_la a)) fun N9 => Option.bind (pf N9 0 7 (q_lt a)) fun N10 => some N10) = some B' ∧ RC B' a ∧ RS N B' := by
  obtain ⟨R5, S5⟩ := C_f5 RN (q_sd a)
  obtain ⟨R6, S6⟩ := C_f6 R5 (q_la a)
  obtain ⟨R7, S7⟩ := C_f7 R6 (q_lt a)
  rw [pf_eq, bd_some, pf_eq, bd_some, pf_eq, bd_some]
  refine ⟨_, rfl, ?_, S5.tr (S6.tr S7)⟩
  rw [← e]
  exact R7
theorem q_co_tri {b : Bd} {x y z : Int32} : q_co (q_tri b x y z) = q_co b := rfl
theorem q_co_do {n : Nat} : q_co (q_do a n p) = q_co (q_mid a n p) := rfl
theorem C_backP (ok : q_ok a) (hc : ∀ s, s < 12 → (q_co a s).length ≤ 4) {n : Nat} (h7 : n ≤ 7) (hp : p ∈ pls) (hh : q_hind a n p = 0) (c : 6 ≤ n) (R : RC B (q_do a n p)) : ∃ B', s_X0_takeBack B (nI n) p (q_sd a) (q_la a) (q_lt a) = some B' ∧ RC B' a ∧ RS B B' := by
  obtain ⟨ht, hl⟩ := hind_room ok hc hh
  obtain ⟨w, t, e⟩ := hind_push c hh
  have hne := tgt_ne n (by omega) c p hp ht
  have em : q_co (q_do a n p) (sl (q_tgt n p)) = w :: q_co a (sl (q_tgt n p)) := by
    rw [q_co_do]
    unfold q_mid
    rw [if_pos c, e, q_co_tri, co_put_self, co_pop_ne hne]
    rfl
  have em2 : q_co (q_do a n p) (sl p) = t := by
    rw [q_co_do]
    unfold q_mid
    rw [if_pos c, e, q_co_tri, co_put_ne hne.symm, co_pop_self, e]
    rfl
  obtain ⟨B1, e1, R1, S1⟩ := C_take R ht em
  have hp4 : (w :: t).length ≤ 4 := by rw [← e]; exact hc _ (sl_lt p hp)
  have hp5 : t.length < 4 := hp4
  obtain ⟨B2, e2, R2, S2⟩ := C_put R1 hp w (by rw [co_pop_ne hne.symm, em2]; exact hp5)
  obtain ⟨B3, e3, R3, S3⟩ := C_back0 R2 (undo_push c hne e)
  unfold s_X0_takeBack
  rw [C_tgt n (by omega) p hp, bd_some, e1, bd_some, jn_eq, jn_eq, if_pos (show (6 : Int32) ≤ nI n from nI_le (a := 6) c (by omega)), e2, bd_some]
  exact ⟨B3, e3, R3, S1.tr (S2.tr S3)⟩
theorem C_backL (ok : q_ok a) {n : Nat} (h1 : 1 ≤ n) (hp : p ∈ pls) (c : ¬ 6 ≤ n) (R : RC B (q_do a n p)) : ∃ B', s_X0_takeBack B (nI n) p (q_sd a) (q_la a) (q_lt a) = some B' ∧ RC B' a ∧ RS B B' := by
  have hlt : n < 6 := by omega
  have em : q_co (q_do a n p) (sl p) = nI n :: q_co a (sl p) := by
    show q_co (q_mid a n p) _ = _
    unfold q_mid
    rw [if_neg c]
    show q_co (q_put (q_bag a (sn (q_sd a)) n (-1)) p (nI n)) (sl p) = _
    rw [co_put_self]
    rfl
  obtain ⟨B1, e1, R1, S1⟩ := C_take R hp em
  obtain ⟨B2, e2, R2, S2⟩ := C_bag R1 1 (sn_lt (q_sd a)) h1 (show n ≤ 5 by omega)
  have e0 : s_X0_changeBag B1 (q_sd a) (nI n) 1 = some B2 := by
    rw [← sn_eq ok.1] at e2
    exact e2
  obtain ⟨B3, e3, R3, S3⟩ := C_back0 R2 (undo_lay c)
  unfold s_X0_takeBack
  rw [C_tgt n (by omega) p hp, bd_some, tgt_lay hlt, e1, bd_some, jn_eq, jn_eq, if_neg (show ¬ (6 : Int32) ≤ nI n from nI_ge (b := 6) hlt (by decide)), e0, bd_some]
  exact ⟨B3, e3, R3, S1.tr (S2.tr S3)⟩
/-- a trial is taken back -/
theorem C_back (ok : q_ok a) (hc : ∀ s, s < 12 → (q_co a s).length ≤ 4) {n : Nat} (h1 : 1 ≤ n) (h7 : n ≤ 7) (hp : p ∈ pls) (hh : q_hind a n p = 0) (R : RC B (q_do a n p)) : ∃ B', s_X0_takeBack B (nI n) p (q_sd a) (q_la a) (q_lt a) = some B' ∧ RC B' a ∧ RS B B' := by
  by_cases c : 6 ≤ n
  · exact C_backP ok hc h7 hp hh c R
  · exact C_backL ok h1 hp c R
end
