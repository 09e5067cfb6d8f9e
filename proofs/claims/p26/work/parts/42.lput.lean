/-! the law's put, move, copy -/
theorem jn_ind {α β : Type} {f : α} {g : α → β} (P : α → Prop) (Q : β → Prop) (hf : P f) (hg : ∀ k, P k → Q (g k)) : Q (jn f g) := hg f hf
def RCo (m : Nat → Int32) (a : Bd) : Prop := ∀ s, s < 12 → (q_co a s).length ≤ 4 ∧ m (48 + s) = nI (q_co a s).length ∧ stk (fun l => m (4 * s + l)) (q_co a s).length = q_co a s
def RBg (b : Nat → Int32) (a : Bd) : Prop := ∀ i, i < 2 → ∀ w, w < 5 → b (5 * i + w) = q_bg a i (w + 1)
theorem tsn_congr {a c : Bd} (h : ∀ s, q_co a s = q_co c s) : ∀ n, q_tsn a n = q_tsn c n
  | 0 => rfl
  | n + 1 => by
    show q_tsn a n + q_su (q_co a n) * pz n = q_tsn c n + q_su (q_co c n) * pz n
    rw [tsn_congr h n, h n]
theorem tsn_put {a : Bd} {p w : Int32} : ∀ n, q_tsn (q_put a p w) n = q_tsn a n + (if sl p < n then w * pz (sl p) else 0)
  | 0 => by
    rw [if_neg (Nat.not_lt_zero _), Int32.add_zero]
    rfl
  | n + 1 => by
    show q_tsn (q_put a p w) n + q_su (q_co (q_put a p w) n) * pz n = q_tsn a n + q_su (q_co a n) * pz n + _
    rw [tsn_put n]
    by_cases c : n = sl p
    · subst c
      rw [co_put_self, if_neg (Nat.lt_irrefl _), if_pos (Nat.lt_succ_self _)]
      show q_tsn a (sl p) + 0 + (q_su (q_co a (sl p)) + w) * pz (sl p) = _
      grind
    · rw [co_put_ne c]
      by_cases c2 : sl p < n
      · rw [if_pos c2, if_pos (by omega)]
        grind
      · rw [if_neg c2, if_neg (by omega)]
        grind
theorem su_tail (l : List Int32) : q_su l.tail = q_su l - l.headD 0 := by
  cases l with
  | nil => decide
  | cons w t =>
    show q_su t = q_su t + w - w
    grind
theorem tsn_pop {a : Bd} {p : Int32} : ∀ n, q_tsn (q_pop a p) n = q_tsn a n - (if sl p < n then (q_co a (sl p)).headD 0 * pz (sl p) else 0)
  | 0 => by
    rw [if_neg (Nat.not_lt_zero _), Int32.sub_zero]
    rfl
  | n + 1 => by
    show q_tsn (q_pop a p) n + q_su (q_co (q_pop a p) n) * pz n = q_tsn a n + q_su (q_co a n) * pz n - _
    rw [tsn_pop n]
    by_cases c : n = sl p
    · subst c
      rw [co_pop_self, if_neg (Nat.lt_irrefl _), if_pos (Nat.lt_succ_self _), su_tail]
      grind
    · rw [co_pop_ne c]
      by_cases c2 : sl p < n
      · rw [if_pos c2, if_pos (by omega)]
        grind
      · rw [if_neg c2, if_neg (by omega)]
        grind
theorem ts_put {a : Bd} {p w : Int32} (hp : p ∈ pls) : q_ts (q_put a p w) = q_ts a + w * p := by
  unfold q_ts
  rw [tsn_put, if_pos (sl_lt p hp), (pz_sl p hp).1]
theorem ts_pop {a : Bd} {p : Int32} (hp : p ∈ pls) : q_ts (q_pop a p) = q_ts a - (q_co a (sl p)).headD 0 * p := by
  unfold q_ts
  rw [tsn_pop, if_pos (sl_lt p hp), (pz_sl p hp).1]
theorem ts_tri {a : Bd} {x y z : Int32} : q_ts (q_tri a x y z) = q_ts a := tsn_congr (fun _ => rfl) 12
theorem ts_bag {a : Bd} {i w : Nat} {d : Int32} : q_ts (q_bag a i w d) = q_ts a := tsn_congr (fun _ => rfl) 12
theorem ts_do {a : Bd} {n : Nat} {p : Int32} (h : q_ts a = q_tu a) (hp : p ∈ pls) (ht : q_tgt n p ∈ pls) : q_ts (q_do a n p) = q_tu (q_do a n p) := by
  rw [tell_tu, ← h]
  unfold q_do
  rw [ts_tri]
  unfold q_mid q_tell
  by_cases c : 6 ≤ n
  · rw [if_pos c, if_pos c, ts_tri, ts_put ht, ts_pop hp]
    grind
  · rw [if_neg c, if_neg c, ts_tri, ts_put hp, ts_bag]
section
variable {m b t : Nat → Int32} {a : Bd} {p : Int32}
theorem L_put (R : RCo m a) (hp : p ∈ pls) (w : Int32) (hl : (q_co a (sl p)).length < 4) : ∃ m', s_L_put m p w = some m' ∧ RCo m' (q_put a p w) := by
  have hs := sl_lt p hp
  have e1 := (R _ hs).2.1
  generalize hh : (q_co a (sl p)).length = h at hl e1
  unfold s_L_put
  rw [(pz_sl p hp).2, bd_some, c48, rd_n (by omega) (by decide), bd_some, e1, show (4 : Int32) = nI 4 from rfl, pk_mul, nI_add, wr1_n (by omega) (by decide), bd_some, rd_n (by omega) (by decide), bd_some, up_ne (by omega), e1, nI_1, wr1_n (by omega) (by decide), bd_some]
  refine ⟨_, rfl, fun s hss => ?_⟩
  obtain ⟨c1, c2, c3⟩ := R s hss
  by_cases e : s = sl p
  · subst e
    rw [co_put_self, List.length_cons, hh]
    refine ⟨by omega, up_eq _ _ _, ?_⟩
    show upd _ _ _ (4 * sl p + h) :: stk _ h = _
    rw [up_ne (by omega), up_eq]
    congr 1
    rw [hh] at c3
    rw [← c3]
    exact stk_congr (fun l hl' => by rw [up_ne (by omega), up_ne (by omega)])
  · rw [co_put_ne e]
    refine ⟨c1, ?_, ?_⟩
    · rw [up_ne (by omega), up_ne (by omega), c2]
    · refine Eq.trans (stk_congr (fun l hl' => by rw [up_ne (by omega), up_ne (by omega)])) c3
theorem R_pop (R : RCo m a) (hp : p ∈ pls) {w : Int32} {r : List Int32} (h : q_co a (sl p) = w :: r) : m (48 + sl p) = nI (r.length + 1) ∧ r.length < 4 ∧ m (4 * sl p + r.length) = w ∧ RCo (upd m (48 + sl p) (nI r.length)) (q_pop a p) := by
  have hs := sl_lt p hp
  obtain ⟨d1, d2, d3⟩ := R _ hs
  rw [h] at d1 d2 d3
  have d1' : r.length < 4 := d1
  have d3' : m (4 * sl p + r.length) :: stk (fun l => m (4 * sl p + l)) r.length = w :: r := d3
  obtain ⟨d4, d5⟩ := List.cons.inj d3'
  refine ⟨d2, d1', d4, fun s hss => ?_⟩
  obtain ⟨c1, c2, c3⟩ := R s hss
  by_cases e : s = sl p
  · subst e
    rw [co_pop_self, h]
    refine ⟨by show r.length ≤ 4; omega, up_eq _ _ _, ?_⟩
    refine Eq.trans (stk_congr (g := fun l => m (4 * sl p + l)) (fun l hl' => up_ne ?_)) d5
    have hl' : l < r.length := hl'
    omega
  · rw [co_pop_ne e]
    exact ⟨c1, (up_ne (by omega)).trans c2, Eq.trans (stk_congr (fun l hl' => up_ne (by omega))) c3⟩
theorem R_bag (R : RBg b a) {i w : Nat} (d : Int32) (h1 : 1 ≤ w) (h5 : w ≤ 5) : RBg (upd b (5 * i + (w - 1)) (q_bg a i w + d)) (q_bag a i w d) := by
  intro j hj v hv
  show upd _ _ _ (5 * j + v) = if j = i ∧ v + 1 = w then q_bg a j (v + 1) + d else q_bg a j (v + 1)
  by_cases c : j = i ∧ v + 1 = w
  · rw [if_pos c, show 5 * j + v = 5 * i + (w - 1) by omega, up_eq, c.1, c.2]
  · by_cases c2 : 5 * j + v = 5 * i + (w - 1)
    · by_cases c3 : j = i
      · exact absurd ⟨c3, by omega⟩ c
      · omega
    · rw [if_neg c, up_ne c2]
      exact R j hj v hv
end
