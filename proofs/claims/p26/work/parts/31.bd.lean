/-! an abstract beam: columns (top first), bags, settings, side, the latest side, moved to, turn -/
abbrev Bd : Type := (Nat → List Int32) × (Nat → Nat → Int32) × (Nat → Int32) × Int32 × Int32 × Int32 × Int32
def q_co (a : Bd) : Nat → List Int32 := a.1
def q_bg (a : Bd) : Nat → Nat → Int32 := a.2.1
def q_sg (a : Bd) : Nat → Int32 := a.2.2.1
def q_sd (a : Bd) : Int32 := a.2.2.2.1
def q_la (a : Bd) : Int32 := a.2.2.2.2.1
def q_lt (a : Bd) : Int32 := a.2.2.2.2.2.1
def q_tu (a : Bd) : Int32 := a.2.2.2.2.2.2
def q_all (a : Bd) (i : Nat) : Int32 := q_bg a i 1 + q_bg a i 2 + q_bg a i 3 + q_bg a i 4 + q_bg a i 5
def q_put (a : Bd) (p w : Int32) : Bd := (fun s => if s = sl p then w :: q_co a s else q_co a s, q_bg a, q_sg a, q_sd a, q_la a, q_lt a, q_tu a + w * p)
def q_pop (a : Bd) (p : Int32) : Bd := (fun s => if s = sl p then (q_co a s).tail else q_co a s, q_bg a, q_sg a, q_sd a, q_la a, q_lt a, q_tu a - (q_co a (sl p)).headD 0 * p)
def q_bag (a : Bd) (i w : Nat) (d : Int32) : Bd := (q_co a, fun j v => if j = i ∧ v = w then q_bg a j v + d else q_bg a j v, q_sg a, q_sd a, q_la a, q_lt a, q_tu a)
def q_tri (a : Bd) (x y z : Int32) : Bd := (q_co a, q_bg a, q_sg a, x, y, z, q_tu a)
def sn (x : Int32) : Nat := if x = 0 then 0 else 1
theorem sn_lt (x : Int32) : sn x < 2 := by unfold sn; split <;> decide
theorem sn_eq {x : Int32} (h : x = 0 ∨ x = 1) : x = nI (sn x) := by rcases h with rfl | rfl <;> rfl
def stk (f : Nat → Int32) : Nat → List Int32
  | 0 => []
  | h + 1 => f h :: stk f h
theorem stk_len {f : Nat → Int32} : ∀ {h : Nat}, (stk f h).length = h
  | 0 => rfl
  | h + 1 => by show (stk f h).length + 1 = _; rw [stk_len]
theorem stk_congr {f g : Nat → Int32} : ∀ {h : Nat}, (∀ l, l < h → f l = g l) → stk f h = stk g h
  | 0, _ => rfl
  | h + 1, e => by
    show f h :: stk f h = g h :: stk g h
    rw [e h (Nat.lt_succ_self h), stk_congr (fun l hl => e l (Nat.lt_succ_of_lt hl))]
/-- the class' memory tells a -/
def RC (B : Mm) (a : Bd) : Prop :=
  (∀ s, s < 12 → (q_co a s).length ≤ 4 ∧ B 2 s = nI (q_co a s).length ∧ stk (fun l => B 1 (4 * s + l)) (q_co a s).length = q_co a s) ∧
  (∀ i, i < 2 → B 3 (6 * i) = q_all a i ∧ ∀ w, 1 ≤ w → w ≤ 5 → B 3 (6 * i + w) = q_bg a i w) ∧
  (∀ k, k < 4 → B 4 k = q_sg a k) ∧ B 0 5 = q_sd a ∧ B 0 6 = q_la a ∧ B 0 7 = q_lt a ∧ B 0 8 = q_tu a
/-- what a trial leaves alone -/
def RS (B B' : Mm) : Prop := B' 5 = B 5 ∧ B' 0 9 = B 0 9 ∧ B' 0 10 = B 0 10 ∧ B' 0 11 = B 0 11
theorem RS.rf {B : Mm} : RS B B := ⟨rfl, rfl, rfl, rfl⟩
theorem RS.tr {A B C : Mm} (h : RS A B) (g : RS B C) : RS A C := ⟨g.1.trans h.1, g.2.1.trans h.2.1, g.2.2.1.trans h.2.2.1, g.2.2.2.trans h.2.2.2⟩
section
variable {B : Mm} {a : Bd} {p : Int32}
theorem RC.co (R : RC B a) (hp : p ∈ pls) : (q_co a (sl p)).length ≤ 4 := (R.1 _ (sl_lt p hp)).1
theorem C_height (R : RC B a) (hp : p ∈ pls) : s_X0_heightAt B p = some (nI (q_co a (sl p)).length) := by
  unfold s_X0_heightAt
  rw [pl_is p hp, bd_some, if_neg (by decide), pl_sl p hp, bd_some, rd_n (sl_lt p hp) (by decide), bd_some, (R.1 _ (sl_lt p hp)).2.1]
theorem idx4 {s l : Nat} : nI s * 4 + nI l = nI (4 * s + l) := by
  rw [show (4 : Int32) = nI 4 from rfl, pk_mul, nI_add, Nat.mul_comm]
theorem C_weightAt {l : Nat} (hp : p ∈ pls) (hl : l < 4) : s_X0_weightAt B p (nI l) = some (B 1 (4 * sl p + l)) := by
  have := sl_lt p hp
  unfold s_X0_weightAt
  rw [pl_is p hp, bd_some, if_neg (by decide), if_neg (nI_pos (by omega)), if_pos (show nI l < (4 : Int32) from nI_lt (b := 4) hl (by decide)), pl_sl p hp, bd_some, rd_e (4 * sl p + l) idx4 (by omega) (by decide), bd_some]
theorem RC.top (R : RC B a) (hp : p ∈ pls) {w : Int32} {t : List Int32} (h : q_co a (sl p) = w :: t) : B 1 (4 * sl p + t.length) = w ∧ stk (fun l => B 1 (4 * sl p + l)) t.length = t := by
  have h2 := (R.1 _ (sl_lt p hp)).2.2
  rw [h] at h2
  exact ⟨(List.cons.inj h2).1, (List.cons.inj h2).2⟩
theorem C_upper (R : RC B a) (hp : p ∈ pls) {w : Int32} {t : List Int32} (h : q_co a (sl p) = w :: t) : s_X0_uppermostAt B p = some w := by
  have hl := R.co hp
  rw [h] at hl
  unfold s_X0_uppermostAt
  rw [C_height R hp, bd_some, h]
  show Option.bind (s_X0_weightAt B p (nI (t.length + 1) - 1)) _ = _
  rw [nI_pred, C_weightAt hp hl, bd_some, (R.top hp h).1]
theorem C_full (R : RC B a) (hp : p ∈ pls) : s_X0_isFull B p = some (if nI (q_co a (sl p)).length < q_sg a 0 then 0 else 1) := by
  unfold s_X0_isFull
  rw [C_height R hp, bd_some, rd_l (by decide) (by decide), bd_some, R.2.2.1 0 (by decide)]
  split <;> rfl
theorem C_put (R : RC B a) (hp : p ∈ pls) (w : Int32) (hl : (q_co a (sl p)).length < 4) : ∃ B', s_X0_putOn B w p = some B' ∧ RC B' (q_put a p w) ∧ RS B B' := by
  have hs := sl_lt p hp
  generalize hh : (q_co a (sl p)).length = h at hl
  unfold s_X0_putOn
  rw [C_height R hp, bd_some, pl_is p hp, bd_some, if_neg (by decide), hh, if_neg (nI_pos (by omega)), if_pos (show nI h < (4 : Int32) from nI_lt (b := 4) hl (by decide)), pl_sl p hp, bd_some, wr_e (4 * sl p + h) idx4 (by omega) (by decide), bd_some, bd_some, wr_n hs (by decide), bd_some, pf_eq, bd_some]
  obtain ⟨R1, R2, R3, R4, R5, R6, R7⟩ := R
  refine ⟨_, rfl, ⟨fun s hss => ?_, R2, R3, R4, R5, R6, ?_⟩, rfl, rfl, rfl, rfl⟩
  · obtain ⟨c1, c2, c3⟩ := R1 s hss
    by_cases e : s = sl p
    · subst e
      show (if sl p = sl p then w :: q_co a (sl p) else _).length ≤ 4 ∧ (if sl p = sl p then nI h + 1 else _) = nI (if sl p = sl p then w :: q_co a (sl p) else _).length ∧ stk (fun l => upd (B 1) (4 * sl p + h) w (4 * sl p + l)) (if sl p = sl p then w :: q_co a (sl p) else _).length = (if sl p = sl p then w :: q_co a (sl p) else _)
      rw [if_pos rfl, if_pos rfl, List.length_cons, hh]
      refine ⟨by omega, nI_1 h, ?_⟩
      show upd (B 1) (4 * sl p + h) w (4 * sl p + h) :: stk _ h = _
      rw [up_eq]
      congr 1
      rw [hh] at c3
      rw [← c3]
      exact stk_congr (fun l hl' => up_ne (by omega))
    · show (if s = sl p then _ else q_co a s).length ≤ 4 ∧ (if s = sl p then nI h + 1 else B 2 s) = nI (if s = sl p then _ else q_co a s).length ∧ stk (fun l => upd (B 1) (4 * sl p + h) w (4 * s + l)) (if s = sl p then _ else q_co a s).length = (if s = sl p then _ else q_co a s)
      rw [if_neg e, if_neg e]
      refine ⟨c1, c2, ?_⟩
      refine Eq.trans (stk_congr (fun l hl' => up_ne (by omega))) c3
  · show B 0 8 + w * p = q_tu a + w * p
    rw [R7]
theorem C_take (R : RC B a) (hp : p ∈ pls) {w : Int32} {t : List Int32} (h : q_co a (sl p) = w :: t) : ∃ B', s_X0_takeFrom B p = some (w, B') ∧ RC B' (q_pop a p) ∧ RS B B' := by
  have hs := sl_lt p hp
  have hl := R.co hp
  rw [h] at hl
  have ht := R.top hp h
  have hl2 : t.length < 4 := hl
  unfold s_X0_takeFrom
  rw [C_height R hp, bd_some, pl_is p hp, bd_some, if_neg (by decide), h]
  show ∃ B', (if 0 < nI (t.length + 1) then _ else _) = _ ∧ _
  rw [if_pos (show (0 : Int32) < nI (t.length + 1) from nI_lt (a := 0) (Nat.succ_pos _) (by omega)), List.length_cons, nI_pred, C_weightAt hp hl2, bd_some, ht.1, pl_sl p hp, bd_some, wr_n hs (by decide), bd_some, pf_eq, bd_some]
  obtain ⟨R1, R2, R3, R4, R5, R6, R7⟩ := R
  refine ⟨_, rfl, ⟨fun s hss => ?_, R2, R3, R4, R5, R6, ?_⟩, rfl, rfl, rfl, rfl⟩
  · obtain ⟨c1, c2, c3⟩ := R1 s hss
    by_cases e : s = sl p
    · subst e
      show (if sl p = sl p then (q_co a (sl p)).tail else _).length ≤ 4 ∧ (if sl p = sl p then nI t.length else _) = nI (if sl p = sl p then (q_co a (sl p)).tail else _).length ∧ stk (fun l => B 1 (4 * sl p + l)) (if sl p = sl p then (q_co a (sl p)).tail else _).length = (if sl p = sl p then (q_co a (sl p)).tail else _)
      rw [if_pos rfl, if_pos rfl, h]
      exact ⟨by show t.length ≤ 4; omega, rfl, ht.2⟩
    · show (if s = sl p then _ else q_co a s).length ≤ 4 ∧ (if s = sl p then _ else B 2 s) = nI (if s = sl p then _ else q_co a s).length ∧ stk (fun l => B 1 (4 * s + l)) (if s = sl p then _ else q_co a s).length = (if s = sl p then _ else q_co a s)
      rw [if_neg e, if_neg e]
      exact ⟨c1, c2, c3⟩
  · show B 0 8 - w * p = q_tu a - (q_co a (sl p)).headD 0 * p
    rw [R7, h]
    rfl
theorem sd_is : ∀ {i : Nat}, i < 2 → s_X0_isSide (nI i) = some 1
  | 0, _ => rfl
  | 1, _ => rfl
  | i + 2, h => absurd h (by omega)
theorem wt_is : ∀ {w : Nat}, 1 ≤ w → w ≤ 5 → s_X0_isWeight (nI w) = some 1
  | 0, h, _ => absurd h (by omega)
  | 1, _, _ => rfl
  | 2, _, _ => rfl
  | 3, _, _ => rfl
  | 4, _, _ => rfl
  | 5, _, _ => rfl
  | w + 6, _, h => absurd h (by omega)
theorem idx6 {i w : Nat} : nI i * 6 + nI w = nI (6 * i + w) := by
  rw [show (6 : Int32) = nI 6 from rfl, pk_mul, nI_add, Nat.mul_comm]
theorem idx60 {i : Nat} : nI i * 6 + 0 = nI (6 * i) := by
  rw [show (6 : Int32) = nI 6 from rfl, pk_mul, Int32.add_zero, Nat.mul_comm]
theorem C_inBag (R : RC B a) {i w : Nat} (hi : i < 2) (h1 : 1 ≤ w) (h5 : w ≤ 5) : s_X0_inBag B (nI i) (nI w) = some (q_bg a i w) := by
  unfold s_X0_inBag
  rw [sd_is hi, bd_some, if_neg (by decide), if_neg (nI_pos (by omega)), if_pos (show nI w ≤ (5 : Int32) from nI_le (b := 5) h5 (by decide)), rd_e (6 * i + w) idx6 (by omega) (by decide), bd_some, (R.2.1 i hi).2 w h1 h5]
theorem C_inAll (R : RC B a) {i : Nat} (hi : i < 2) : s_X0_inBag B (nI i) 0 = some (q_all a i) := by
  unfold s_X0_inBag
  rw [sd_is hi, bd_some, if_neg (by decide), if_neg (by decide), if_pos (by decide), rd_e (6 * i) idx60 (by omega) (by decide), bd_some, (R.2.1 i hi).1]
theorem q_all_bag {a : Bd} {i w : Nat} {d : Int32} (h1 : 1 ≤ w) (h5 : w ≤ 5) : q_all (q_bag a i w d) i = q_all a i + d ∧ ∀ j, j ≠ i → q_all (q_bag a i w d) j = q_all a j := by
  refine ⟨?_, fun j hj => ?_⟩
  · unfold q_all
    show (if i = i ∧ 1 = w then _ else _) + (if i = i ∧ 2 = w then _ else _) + (if i = i ∧ 3 = w then _ else _) + (if i = i ∧ 4 = w then _ else _) + (if i = i ∧ 5 = w then _ else _) = _
    rcases (show w = 1 ∨ w = 2 ∨ w = 3 ∨ w = 4 ∨ w = 5 by omega) with rfl | rfl | rfl | rfl | rfl <;> simp <;> grind
  · unfold q_all
    show (if j = i ∧ 1 = w then _ else _) + (if j = i ∧ 2 = w then _ else _) + (if j = i ∧ 3 = w then _ else _) + (if j = i ∧ 4 = w then _ else _) + (if j = i ∧ 5 = w then _ else _) = _
    simp [hj]
theorem C_bag (R : RC B a) {i w : Nat} (d : Int32) (hi : i < 2) (h1 : 1 ≤ w) (h5 : w ≤ 5) : ∃ B', s_X0_changeBag B (nI i) (nI w) d = some B' ∧ RC B' (q_bag a i w d) ∧ RS B B' := by
  unfold s_X0_changeBag
  rw [sd_is hi, bd_some, if_neg (by decide), wt_is h1 h5, bd_some, if_neg (by decide), rd_e (6 * i + w) idx6 (by omega) (by decide), bd_some, wr_e (6 * i + w) idx6 (by omega) (by decide), bd_some, rd_e (6 * i) idx60 (by omega) (by decide), bd_some, wr_e (6 * i) idx60 (by omega) (by decide), bd_some]
  obtain ⟨R1, R2, R3, R4, R5, R6, R7⟩ := R
  refine ⟨_, rfl, ⟨R1, fun j hj => ⟨?_, fun v hv1 hv5 => ?_⟩, R3, R4, R5, R6, R7⟩, rfl, rfl, rfl, rfl⟩
  · show (if 6 * j = 6 * i then (if 6 * i = 6 * i + w then _ else B 3 (6 * i)) + d else if 6 * j = 6 * i + w then _ else B 3 (6 * j)) = _
    by_cases e : j = i
    · subst e
      rw [if_pos rfl, if_neg (by omega), (R2 j hj).1, (q_all_bag h1 h5).1]
    · rw [if_neg (by omega), if_neg (by omega), (R2 j hj).1, (q_all_bag h1 h5).2 j e]
  · show (if 6 * j + v = 6 * i then _ else if 6 * j + v = 6 * i + w then B 3 (6 * i + w) + d else B 3 (6 * j + v)) = (if j = i ∧ v = w then q_bg a j v + d else q_bg a j v)
    rw [if_neg (by omega)]
    by_cases e : j = i ∧ v = w
    · rw [if_pos e, if_pos (by omega), e.1, e.2, (R2 i hi).2 w h1 h5]
    · rw [if_neg e, if_neg (by omega), (R2 j hj).2 v hv1 hv5]
end
