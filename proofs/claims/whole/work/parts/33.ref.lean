/-! the reference's row against the abstract beam -/
def RZ (z : Nat → Int32) (a : Bd) : Prop :=
  (∀ s, s < 12 → (q_co a s).length ≤ 4 ∧ z (23 + 5 * s) = nI (q_co a s).length ∧ stk (fun l => z (24 + 5 * s + l)) (q_co a s).length = q_co a s) ∧
  (∀ i, i < 2 → ∀ w, 1 ≤ w → w ≤ 5 → z (12 + 5 * i + w) = q_bg a i w) ∧
  (∀ k, k < 4 → z k = q_sg a k) ∧ z 4 = q_sd a ∧ z 10 = q_la a ∧ z 11 = q_lt a ∧ z 5 = q_tu a
def ZS (z z' : Nat → Int32) : Prop := ∀ k, (k = 6 ∨ k = 7 ∨ k = 8 ∨ k = 9 ∨ k = 12 ∨ 83 ≤ k) → z' k = z k
theorem ZS.rf {z : Nat → Int32} : ZS z z := fun _ _ => rfl
theorem ZS.tr {a b c : Nat → Int32} (h : ZS a b) (g : ZS b c) : ZS a c := fun k hk => (g k hk).trans (h k hk)
theorem wr1 {n k : Nat} {Z : Mm} {z : Nat → Int32} {x : Int32} (h : k < n) (hn : n ≤ 1000) : wr n (mset Z 1 z) 1 (nI k) x = some (mset Z 1 (upd z k x)) := by
  rw [wr_n h hn, ms_eq, mset_mset]
theorem wr1e {n : Nat} {Z : Mm} {z : Nat → Int32} {i x : Int32} (k : Nat) (hi : i = nI k) (h : k < n) (hn : n ≤ 1000) : wr n (mset Z 1 z) 1 i x = some (mset Z 1 (upd z k x)) := by rw [hi]; exact wr1 h hn
theorem ms_self {Z : Mm} : mset Z 1 (Z 1) = Z := mset_self rfl
section
variable {Z : Mm} {z : Nat → Int32} {a : Bd} {p : Int32}
theorem RZ.co (R : RZ z a) (hp : p ∈ pls) : (q_co a (sl p)).length ≤ 4 := (R.1 _ (sl_lt p hp)).1
theorem RZ.hc (R : RZ z a) : ∀ s, s < 12 → (q_co a s).length ≤ 4 := fun s h => (R.1 s h).1
theorem RZ.top (R : RZ z a) (hp : p ∈ pls) {w : Int32} {t : List Int32} (h : q_co a (sl p) = w :: t) : z (24 + 5 * sl p + t.length) = w ∧ stk (fun l => z (24 + 5 * sl p + l)) t.length = t := by
  have h2 := (R.1 _ (sl_lt p hp)).2.2
  rw [h] at h2
  exact ⟨(List.cons.inj h2).1, (List.cons.inj h2).2⟩
theorem Z_many (R : RZ (Z 1) a) (hp : p ∈ pls) : s_X5_many Z p = some (nI (q_co a (sl p)).length) := by
  have := sl_lt p hp
  unfold s_X5_many
  rw [pl_spZ p hp, bd_some, rd_n (by omega) (by decide), bd_some, (R.1 _ (sl_lt p hp)).2.1]
theorem Z_put (R : RZ z a) (hp : p ∈ pls) (w : Int32) (hl : (q_co a (sl p)).length < 4) : ∃ z', s_X5_put (mset Z 1 z) p w = some (mset Z 1 z') ∧ RZ z' (q_put a p w) ∧ ZS z z' := by
  have hs := sl_lt p hp
  have e1 := (R.1 _ hs).2.1
  generalize hh : (q_co a (sl p)).length = h at hl e1
  unfold s_X5_put
  rw [pl_spZ p hp, bd_some, rd_n (by omega) (by decide), bd_some, wr1 (by omega) (by decide), bd_some, rd_n (by omega) (by decide), bd_some, ms_eq, ms_eq, up_eq, e1, nI_1, nI_add, wr1 (by omega) (by decide), bd_some, rd_e (i := 5) 5 rfl (by decide) (by decide), bd_some, wr1e (i := 5) 5 rfl (by decide) (by decide), bd_some, ms_eq]
  obtain ⟨R1, R2, R3, R4, R5, R6, R7⟩ := R
  refine ⟨_, rfl, ⟨fun s hss => ?_, fun i hi v h1 h5 => ?_, fun k hk => ?_, ?_, ?_, ?_, ?_⟩, fun k hk => ?_⟩
  · obtain ⟨c1, c2, c3⟩ := R1 s hss
    by_cases e : s = sl p
    · subst e
      rw [co_put_self, List.length_cons, hh]
      refine ⟨by omega, ?_, ?_⟩
      · rw [up_ne (by omega), up_ne (by omega), up_eq]
      · show upd _ 5 _ (24 + 5 * sl p + h) :: stk _ h = _
        rw [up_ne (by omega), show 24 + 5 * sl p + h = 23 + 5 * sl p + (h + 1) by omega, up_eq]
        congr 1
        rw [hh] at c3
        rw [← c3]
        exact stk_congr (fun l hl' => by rw [up_ne (by omega), up_ne (by omega), up_ne (by omega)])
    · rw [co_put_ne e]
      refine ⟨c1, ?_, ?_⟩
      · rw [up_ne (by omega), up_ne (by omega), up_ne (by omega), c2]
      · refine Eq.trans (stk_congr (fun l hl' => by rw [up_ne (by omega), up_ne (by omega), up_ne (by omega)])) c3
  · rw [up_ne (by omega), up_ne (by omega), up_ne (by omega)]
    exact R2 i hi v h1 h5
  · rw [up_ne (by omega), up_ne (by omega), up_ne (by omega)]
    exact R3 k hk
  · rw [up_ne (by omega), up_ne (by omega), up_ne (by omega)]; exact R4
  · rw [up_ne (by omega), up_ne (by omega), up_ne (by omega)]; exact R5
  · rw [up_ne (by omega), up_ne (by omega), up_ne (by omega)]; exact R6
  · rw [up_eq, up_ne (by omega), up_ne (by omega), R7]; rfl
  · rw [up_ne (by omega), up_ne (by omega), up_ne (by omega)]
theorem Z_take (R : RZ z a) (hp : p ∈ pls) {w : Int32} {t : List Int32} (h : q_co a (sl p) = w :: t) : ∃ z', s_X5_takeOff (mset Z 1 z) p = some (w, mset Z 1 z') ∧ RZ z' (q_pop a p) ∧ ZS z z' := by
  have hs := sl_lt p hp
  have hl := R.co hp
  have e1 := (R.1 _ hs).2.1
  rw [h] at hl e1
  have ht := R.top hp h
  have hl2 : t.length < 4 := hl
  unfold s_X5_takeOff
  rw [pl_spZ p hp, bd_some, rd_n (by omega) (by decide), bd_some, ms_eq, e1, List.length_cons, nI_add, rd_n (by omega) (by decide), bd_some, bd_some, nI_add, wr1 (by omega) (by decide), bd_some, rd_n (by omega) (by decide), bd_some, ms_eq, up_ne (by omega), e1, List.length_cons, nI_pred, wr1 (by omega) (by decide), bd_some, rd_e (i := 5) 5 rfl (by decide) (by decide), bd_some, wr1e (i := 5) 5 rfl (by decide) (by decide), bd_some, ms_eq]
  have ew : z (23 + 5 * sl p + (t.length + 1)) = w := by rw [show 23 + 5 * sl p + (t.length + 1) = 24 + 5 * sl p + t.length by omega]; exact ht.1
  rw [ew]
  obtain ⟨R1, R2, R3, R4, R5, R6, R7⟩ := R
  refine ⟨_, rfl, ⟨fun s hss => ?_, fun i hi v h1 h5 => ?_, fun k hk => ?_, ?_, ?_, ?_, ?_⟩, fun k hk => ?_⟩
  · obtain ⟨c1, c2, c3⟩ := R1 s hss
    by_cases e : s = sl p
    · subst e
      rw [co_pop_self, h]
      refine ⟨by show t.length ≤ 4; omega, ?_, ?_⟩
      · rw [up_ne (by omega), up_eq]; rfl
      · refine Eq.trans (stk_congr (g := fun l => z (24 + 5 * sl p + l)) (fun l hl' => ?_)) ht.2
        have hl' : l < t.length := hl'
        rw [up_ne (by omega), up_ne (by omega), up_ne (by omega)]
    · rw [co_pop_ne e]
      refine ⟨c1, ?_, ?_⟩
      · rw [up_ne (by omega), up_ne (by omega), up_ne (by omega), c2]
      · refine Eq.trans (stk_congr (fun l hl' => by rw [up_ne (by omega), up_ne (by omega), up_ne (by omega)])) c3
  · rw [up_ne (by omega), up_ne (by omega), up_ne (by omega)]
    exact R2 i hi v h1 h5
  · rw [up_ne (by omega), up_ne (by omega), up_ne (by omega)]
    exact R3 k hk
  · rw [up_ne (by omega), up_ne (by omega), up_ne (by omega)]; exact R4
  · rw [up_ne (by omega), up_ne (by omega), up_ne (by omega)]; exact R5
  · rw [up_ne (by omega), up_ne (by omega), up_ne (by omega)]; exact R6
  · rw [up_eq, up_ne (by omega), up_ne (by omega), R7]
    show _ = q_tu a - (q_co a (sl p)).headD 0 * p
    rw [h]; rfl
  · rw [up_ne (by omega), up_ne (by omega), up_ne (by omega)]
theorem Z_bagAt {i w : Nat} : s_X5_bagAt Z (nI i) (nI w) = some (nI (12 + 5 * i + w)) := by
  unfold s_X5_bagAt
  rw [show (13 : Int32) = nI 13 from rfl, show (5 : Int32) = nI 5 from rfl, pk_mul, nI_add, nI_add, show 13 + 5 * i + w = 12 + 5 * i + w + 1 by omega, nI_pred]
theorem Z_inBag (R : RZ (Z 1) a) {i w : Nat} (hi : i < 2) (h1 : 1 ≤ w) (h5 : w ≤ 5) : s_X5_inBag Z (nI i) (nI w) = some (q_bg a i w) := by
  unfold s_X5_inBag
  rw [Z_bagAt, bd_some, rd_n (by omega) (by decide), bd_some, R.2.1 i hi w h1 h5]
theorem Z_addBag (R : RZ z a) {i w : Nat} (d : Int32) (hi : i < 2) (h1 : 1 ≤ w) (h5 : w ≤ 5) : ∃ z', s_X5_addBag (mset Z 1 z) (nI i) (nI w) d = some (mset Z 1 z') ∧ RZ z' (q_bag a i w d) ∧ ZS z z' := by
  unfold s_X5_addBag
  rw [Z_bagAt, bd_some, rd_n (by omega) (by decide), bd_some, wr1 (by omega) (by decide), bd_some, ms_eq]
  obtain ⟨R1, R2, R3, R4, R5, R6, R7⟩ := R
  refine ⟨_, rfl, ⟨fun s hss => ?_, fun j hj v hv1 hv5 => ?_, fun k hk => ?_, ?_, ?_, ?_, ?_⟩, fun k hk => ?_⟩
  · obtain ⟨c1, c2, c3⟩ := R1 s hss
    refine ⟨c1, ?_, ?_⟩
    · rw [up_ne (by omega)]; exact c2
    · refine Eq.trans (stk_congr (fun l hl' => by rw [up_ne (by omega)])) c3
  · show upd _ _ _ _ = (if j = i ∧ v = w then q_bg a j v + d else q_bg a j v)
    by_cases e : j = i ∧ v = w
    · rw [if_pos e, e.1, e.2, up_eq, R2 i hi w h1 h5]
    · rw [if_neg e, up_ne (by omega)]; exact R2 j hj v hv1 hv5
  · rw [up_ne (by omega)]; exact R3 k hk
  · rw [up_ne (by omega)]; exact R4
  · rw [up_ne (by omega)]; exact R5
  · rw [up_ne (by omega)]; exact R6
  · rw [up_ne (by omega)]; exact R7
  · rw [up_ne (by omega)]
theorem Z_allIn (R : RZ (Z 1) a) {i : Nat} (hi : i < 2) : s_X5_allIn Z (nI i) = some (q_all a i) := by
  have ib := fun w h1 h5 => Z_inBag (w := w) R hi h1 h5
  unfold s_X5_allIn
  rw [s_X5_allIn_L4, if_neg (by decide), show s_X5_inBag Z (nI i) 1 = _ from ib 1 (by decide) (by decide), bd_some, jn_eq, jn_eq]
  rw [s_X5_allIn_L4, if_neg (by decide), show s_X5_inBag Z (nI i) (1 + 1) = _ from ib 2 (by decide) (by decide), bd_some, jn_eq, jn_eq]
  rw [s_X5_allIn_L4, if_neg (by decide), show s_X5_inBag Z (nI i) (1 + 1 + 1) = _ from ib 3 (by decide) (by decide), bd_some, jn_eq, jn_eq]
  rw [s_X5_allIn_L4, if_neg (by decide), show s_X5_inBag Z (nI i) (1 + 1 + 1 + 1) = _ from ib 4 (by decide) (by decide), bd_some, jn_eq, jn_eq]
  rw [s_X5_allIn_L4, if_neg (by decide), show s_X5_inBag Z (nI i) (1 + 1 + 1 + 1 + 1) = _ from ib 5 (by decide) (by decide), bd_some, jn_eq, jn_eq]
  rw [s_X5_allIn_L4, if_pos (by decide), Int32.zero_add]
  rfl
theorem Z_size (x : Int32) : s_X5_size x = some (iabs x) := by
  unfold s_X5_size iabs
  split
  · rfl
  · rw [Int32.zero_sub]
theorem Z_tip (R : RZ (Z 1) a) : s_X5_hasTipped Z = some (if iabs (q_tu a) ≤ q_sg a 1 then 0 else 1) := by
  unfold s_X5_hasTipped
  rw [rd_l (by decide) (by decide), bd_some, Z_size, bd_some, rd_l (by decide) (by decide), bd_some, R.2.2.1 1 (by decide), R.2.2.2.2.2.2]
  split <;> rfl
theorem q_all_n (ok : q_ok a) {i : Nat} (hi : i < 2) : ∃ m, m ≤ 30 ∧ q_all a i = nI m := by
  obtain ⟨m1, l1, e1⟩ := ok.2.2.1 i hi 1 (by decide) (by decide)
  obtain ⟨m2, l2, e2⟩ := ok.2.2.1 i hi 2 (by decide) (by decide)
  obtain ⟨m3, l3, e3⟩ := ok.2.2.1 i hi 3 (by decide) (by decide)
  obtain ⟨m4, l4, e4⟩ := ok.2.2.1 i hi 4 (by decide) (by decide)
  obtain ⟨m5, l5, e5⟩ := ok.2.2.1 i hi 5 (by decide) (by decide)
  refine ⟨m1 + m2 + m3 + m4 + m5, by omega, ?_⟩
  unfold q_all
  rw [e1, e2, e3, e4, e5, nI_add, nI_add, nI_add, nI_add]
theorem nI_z {m : Nat} (h : m < 1000) : nI m = 0 ↔ m = 0 := nI_eq (a := m) (b := 0) (by omega) (by omega)
theorem q_sum0 (ok : q_ok a) : q_all a 0 + q_all a 1 = 0 ↔ (q_all a 0 = 0 ∧ q_all a 1 = 0) := by
  obtain ⟨m, hm, e⟩ := q_all_n ok (i := 0) (by decide)
  obtain ⟨n, hn, f⟩ := q_all_n ok (i := 1) (by decide)
  rw [e, f, nI_add, nI_z (by omega), nI_z (by omega), nI_z (by omega)]
  omega
def q_win (a : Bd) : Int32 := if q_sg a 3 = 1 then q_la a else 1 - q_la a
theorem q_win01 (ok : q_ok a) : q_win a = 0 ∨ q_win a = 1 := by
  unfold q_win
  split
  · exact ok.2.1
  · exact q_oth ok.2.1
theorem q_out_tip (h : ¬ iabs (q_tu a) ≤ q_sg a 1) : q_out a = 1 + q_win a := by
  unfold q_out q_win
  rw [if_neg h]
  split <;> rfl
theorem q_out_no (h : iabs (q_tu a) ≤ q_sg a 1) : q_out a = if q_all a 0 = 0 ∧ q_all a 1 = 0 then 3 else 0 := by
  unfold q_out
  rw [if_pos h]
  by_cases c : q_all a 0 = 0
  · by_cases c1 : q_all a 1 = 0
    · rw [if_pos c, if_pos c1, if_pos ⟨c, c1⟩]
    · rw [if_pos c, if_neg c1, if_neg (fun h => c1 h.2)]
  · rw [if_neg c, if_neg (fun h => c h.1)]
theorem Z_over (R : RZ (Z 1) a) (ok : q_ok a) : s_X5_isOver Z = some (if q_out a = 0 then 0 else 1) := by
  unfold s_X5_isOver
  rw [Z_tip R, bd_some]
  by_cases c : iabs (q_tu a) ≤ q_sg a 1
  · rw [if_pos c, if_pos rfl, show s_X5_allIn Z 0 = _ from Z_allIn R (i := 0) (by decide), bd_some, show s_X5_allIn Z 1 = _ from Z_allIn R (i := 1) (by decide), bd_some, q_out_no c]
    by_cases c1 : q_all a 0 = 0 ∧ q_all a 1 = 0
    · rw [if_pos ((q_sum0 ok).mpr c1), if_pos c1]; rfl
    · rw [if_neg (fun h => c1 ((q_sum0 ok).mp h)), if_neg c1]; rfl
  · rw [if_neg c, if_neg (by decide), q_out_tip c]
    rcases q_win01 ok with e | e <;> rw [e] <;> rfl
theorem Z_win (R : RZ (Z 1) a) : s_X5_winner Z = some (q_win a) := by
  unfold s_X5_winner q_win
  rw [rd_l (by decide) (by decide), bd_some, R.2.2.1 3 (by decide), rd_l (by decide) (by decide), bd_some, bd_some, R.2.2.2.2.1]
  split <;> rfl
def q_worth (a : Bd) : Int32 := if q_out a = 0 then 0 else if q_out a = 3 then 0 else if q_out a = 1 + q_sd a then 1 else -1
theorem Z_told (R : RZ (Z 1) a) (ok : q_ok a) : s_X5_told Z = some (q_worth a) := by
  unfold s_X5_told q_worth
  rw [Z_tip R, bd_some]
  by_cases c : iabs (q_tu a) ≤ q_sg a 1
  · rw [if_pos c, if_pos rfl, q_out_no c]
    by_cases c1 : q_all a 0 = 0 ∧ q_all a 1 = 0
    · rw [if_pos c1]; rfl
    · rw [if_neg c1]; rfl
  · rw [if_neg c, if_neg (by decide), Z_win R, bd_some, rd_l (by decide) (by decide), bd_some, R.2.2.2.1, q_out_tip c]
    rcases q_win01 ok with e | e <;> rcases ok.1 with f | f <;> rw [e, f] <;> rfl
theorem Z_result (R : RZ (Z 1) a) (ok : q_ok a) : s_X5_result Z = some (q_out a) := by
  unfold s_X5_result
  rw [Z_over R ok, bd_some]
  by_cases c0 : q_out a = 0
  · rw [if_pos c0, if_pos rfl, c0]
  · rw [if_neg c0, if_neg (by decide), Z_tip R, bd_some]
    by_cases c : iabs (q_tu a) ≤ q_sg a 1
    · rw [if_pos c, if_pos rfl]
      rw [q_out_no c] at c0 ⊢
      by_cases c1 : q_all a 0 = 0 ∧ q_all a 1 = 0
      · rw [if_pos c1]
      · rw [if_neg c1] at c0; exact absurd rfl c0
    · rw [if_neg c, if_neg (by decide), Z_win R, bd_some, q_out_tip c, Int32.add_comm]
theorem Z_goal : ∀ n, n < 8 → ∀ p ∈ pls, s_X5_goal (nI n) p = some (if q_tgt n p ∈ pls then q_tgt n p else 0) := by decide +kernel
theorem Z_why (R : RZ (Z 1) a) (ok : q_ok a) {n : Nat} (h1 : 1 ≤ n) (h7 : n ≤ 7) (hp : p ∈ pls) : s_X5_whyNot Z (nI n) p = some (q_why a n p) := by
  have key : (Option.bind (s_X5_goal (nI n) p) fun v10 => if v10 = (0 : Int32) then some (4 : Int32) else Option.bind (s_X5_many Z v10) fun v12 => Option.bind (rd 243 (Z 1) (0 : Int32)) fun v13 => if v12 < v13 then some (0 : Int32) else some (4 : Int32)) = some (q_h4 a (q_tgt n p)) := by
    rw [Z_goal n (by omega) p hp, bd_some]
    unfold q_h4
    by_cases c : q_tgt n p ∈ pls
    · rw [if_pos c, if_pos c, if_neg (pl_ne0 _ c), Z_many R c, bd_some, rd_l (by decide) (by decide), bd_some, R.2.2.1 0 (by decide)]
      split <;> rfl
    · rw [if_neg c, if_neg c, if_pos rfl]
  unfold s_X5_whyNot q_why
  rw [Z_over R ok, bd_some]
  by_cases c0 : q_out a = 0
  · rw [if_pos c0, if_pos rfl, if_pos c0, jn_eq]
    unfold q_hind
    by_cases c : 6 ≤ n
    · have c6 : (6 : Int32) ≤ nI n := nI_le (a := 6) c (by omega)
      rw [if_pos c6, if_pos c, rd_l (by decide) (by decide), bd_some, R.2.2.1 2 (by decide)]
      by_cases c2 : q_sg a 2 = 0
      · rw [if_pos c2, if_pos c2]
      · rw [if_neg c2, if_neg c2, jn_eq, if_neg (Int32.not_lt.mpr c6), Z_many R hp, bd_some]
        by_cases c3 : q_co a (sl p) = []
        · rw [if_pos ((nI_nil (R.co hp)).mpr c3), if_pos c3]
        · rw [if_neg (fun e => c3 ((nI_nil (R.co hp)).mp e)), if_neg c3, rd_l (by decide) (by decide), bd_some, R.2.2.2.2.2.1]
          by_cases c4 : p = q_lt a
          · rw [if_pos c4.symm, if_pos c4]
          · rw [if_neg (fun e => c4 e.symm), if_neg c4]; exact key
    · have c6 : ¬ (6 : Int32) ≤ nI n := nI_ge (b := 6) (by omega) (by decide)
      rw [if_neg c6, if_neg c, rd_l (by decide) (by decide), bd_some, R.2.2.2.1]
      have eb : s_X5_inBag Z (q_sd a) (nI n) = some (q_bg a (sn (q_sd a)) n) := by
        have := Z_inBag R (sn_lt (q_sd a)) h1 (show n ≤ 5 by omega)
        rw [← sn_eq ok.1] at this
        exact this
      rw [eb, bd_some]
      by_cases c2 : q_bg a (sn (q_sd a)) n = 0
      · rw [if_pos c2, if_pos c2]
      · rw [if_neg c2, if_neg c2, jn_eq, if_pos (Int32.not_le.mp c6)]; exact key
  · rw [if_neg c0, if_neg (by decide), if_neg c0]
end
