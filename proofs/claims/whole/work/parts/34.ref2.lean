/-! ranks; the reference's trial and its taking back -/
def q_num (k : Nat) : Nat := if k < 60 then 1 + k / 12 else 6 + k % 2
def q_plc (k : Nat) : Int32 := if (if k < 60 then k % 12 else (k - 60) / 2) < 6 then nI (if k < 60 then k % 12 else (k - 60) / 2) - 6 else nI (if k < 60 then k % 12 else (k - 60) / 2) - 5
theorem rank_tab : ∀ k, k < 84 → s_X0_numberOf (nI k) = some (nI (q_num k)) ∧ s_X5_numberOf (nI k) = some (nI (q_num k)) ∧ s_X0_placeOf (nI k) = some (q_plc k) ∧ s_X5_placeOf (nI k) = some (q_plc k) ∧ q_plc k ∈ pls ∧ 1 ≤ q_num k ∧ q_num k ≤ 7 := by decide +kernel
section
variable {Z : Mm} {z : Nat → Int32} {a : Bd} {p : Int32}
theorem RZ.ms (R : RZ z a) : RZ ((mset Z 1 z) 1) a := by rw [ms_eq]; exact R
theorem RZ.lay (R : RZ z a) {k : Nat} (hk : k = 11 ∨ k = 10 ∨ k = 4) (x : Int32) : RZ (upd z k x) (q_tri a (if k = 4 then x else q_sd a) (if k = 10 then x else q_la a) (if k = 11 then x else q_lt a)) ∧ ZS z (upd z k x) := by
  obtain ⟨R1, R2, R3, R4, R5, R6, R7⟩ := R
  refine ⟨⟨fun s hss => ?_, fun j hj v hv1 hv5 => ?_, fun i hi => ?_, ?_, ?_, ?_, ?_⟩, fun i hi => up_ne (by omega)⟩
  · obtain ⟨c1, c2, c3⟩ := R1 s hss
    refine ⟨c1, ?_, ?_⟩
    · rw [up_ne (by omega)]; exact c2
    · refine Eq.trans (stk_congr (fun l hl' => up_ne (by omega))) c3
  · rw [up_ne (by omega)]; exact R2 j hj v hv1 hv5
  · rw [up_ne (by omega)]; exact R3 i hi
  · show upd z k x 4 = (if k = 4 then x else q_sd a)
    by_cases e : k = 4
    · rw [if_pos e, e, up_eq]
    · rw [if_neg e, up_ne (by omega)]; exact R4
  · show upd z k x 10 = (if k = 10 then x else q_la a)
    by_cases e : k = 10
    · rw [if_pos e, e, up_eq]
    · rw [if_neg e, up_ne (by omega)]; exact R5
  · show upd z k x 11 = (if k = 11 then x else q_lt a)
    by_cases e : k = 11
    · rw [if_pos e, e, up_eq]
    · rw [if_neg e, up_ne (by omega)]; exact R6
  · show upd z k x 5 = q_tu a
    rw [up_ne (by omega)]; exact R7
theorem Z_tail {b : Bd} (Rb : RZ z b) (hs : q_sd b = 0 ∨ q_sd b = 1) : ∃ z', (Option.bind (rd 243 ((mset Z 1 z) 1) (4 : Int32)) fun v12 => Option.bind (wr 243 (mset Z 1 z) 1 (10 : Int32) v12) fun N13 => Option.bind (rd 243 (N13 1) (2 : Int32)) fun v14 => jn (fun (v21 : Int32) => if v21 = (0 : Int32) then Option.bind (rd 243 (N13 1) (4 : Int32)) fun v23 => Option.bind (wr 243 N13 1 (4 : Int32) ((1 : Int32) - v23)) fun N24 => some N24 else Option.bind (rd 243 (N13 1) (4 : Int32)) fun v25 => Option.bind (wr 243 N13 1 (4 : Int32) v25) fun N26 => some N26) fun k20 => jn (fun (_ : Unit) => k20 (0 : Int32)) fun k37 => if v14 = (0 : Int32) then Option.bind (rd 243 (N13 1) (4 : Int32)) fun v39 => Option.bind (s_X5_allIn N13 ((1 : Int32) - v39)) fun v40 => if v40 = (0 : Int32) then Option.bind (rd 243 (N13 1) (4 : Int32)) fun v42 => Option.bind (s_X5_allIn N13 v42) fun v43 => if v43 ≤ (0 : Int32) then k37 () else k20 (1 : Int32) else k37 () else k37 ()) = some (mset Z 1 z') ∧ RZ z' (q_tri b (q_beh b) (q_sd b) (q_lt b)) ∧ ZS z z' := by
  obtain ⟨R1, S1⟩ := Rb.lay (k := 10) (Or.inr (Or.inl rfl)) (q_sd b)
  rw [ms_eq, rd_e (i := 4) 4 rfl (by decide) (by decide), bd_some, wr1e (i := 10) 10 rfl (by decide) (by decide), bd_some, Rb.2.2.2.1]
  generalize hz1 : upd z 10 (q_sd b) = z1 at R1 S1
  have R1 : RZ z1 (q_tri b (q_sd b) (q_sd b) (q_lt b)) := R1
  have g2 : z1 2 = q_sg b 2 := R1.2.2.1 2 (by decide)
  have g4 : z1 4 = q_sd b := R1.2.2.2.1
  have A : ∀ {x : Int32}, (x = 0 ∨ x = 1) → s_X5_allIn (mset Z 1 z1) x = some (q_all b (sn x)) := by
    intro x hx
    have := Z_allIn (R1.ms (Z := Z)) (sn_lt x)
    rw [← sn_eq hx] at this
    exact this
  rw [ms_eq, rd_e (i := 2) 2 rfl (by decide) (by decide), bd_some, jn_eq, jn_eq, g2, rd_e (i := 4) 4 rfl (by decide) (by decide), g4, bd_some, A (q_oth hs), bd_some, bd_some, A hs, bd_some]
  have fin : ∀ y, y = q_beh b → ∃ z', (Option.bind (wr 243 (mset Z 1 z1) 1 (4 : Int32) y) fun N24 => some N24) = some (mset Z 1 z') ∧ RZ z' (q_tri b (q_beh b) (q_sd b) (q_lt b)) ∧ ZS z z' := by
    intro y hy
    obtain ⟨R2, S2⟩ := R1.lay (k := 4) (Or.inr (Or.inr rfl)) y
    rw [wr1e (i := 4) 4 rfl (by decide) (by decide), bd_some]
    refine ⟨_, rfl, ?_, S1.tr S2⟩
    rw [← hy]
    exact R2
  unfold q_beh at fin
  by_cases c : q_sg b 2 = 0
  · rw [if_pos c]
    by_cases c2 : q_all b (sn (1 - q_sd b)) = 0
    · rw [if_pos c2]
      by_cases c3 : q_all b (sn (q_sd b)) ≤ 0
      · rw [if_pos c3]
        show ∃ z', (if (0 : Int32) = 0 then _ else _) = _ ∧ _
        rw [if_pos rfl, bd_some]
        exact fin _ (by rw [if_pos c, if_pos c2, if_pos c3])
      · rw [if_neg c3]
        show ∃ z', (if (1 : Int32) = 0 then _ else _) = _ ∧ _
        rw [if_neg (by decide), bd_some]
        exact fin _ (by rw [if_pos c, if_pos c2, if_neg c3])
    · rw [if_neg c2]
      show ∃ z', (if (0 : Int32) = 0 then _ else _) = _ ∧ _
      rw [if_pos rfl, bd_some]
      exact fin _ (by rw [if_pos c, if_neg c2])
  · rw [if_neg c]
    show ∃ z', (if (0 : Int32) = 0 then _ else _) = _ ∧ _
    rw [if_pos rfl, bd_some]
    exact fin _ (by rw [if_neg c])
theorem Z_change (R : RZ z a) (ok : q_ok a) {n : Nat} (h1 : 1 ≤ n) (h7 : n ≤ 7) (hp : p ∈ pls) (hh : q_hind a n p = 0) : ∃ z', s_X5_change (mset Z 1 z) (nI n) p = some (mset Z 1 z') ∧ RZ z' (q_do a n p) ∧ ZS z z' := by
  obtain ⟨ht, hl⟩ := hind_room ok R.hc hh
  unfold s_X5_change
  rw [Z_goal n (by omega) p hp, if_pos ht, bd_some, jn_eq]
  by_cases c : 6 ≤ n
  · obtain ⟨w, t, e⟩ := hind_push c hh
    rw [if_pos (show (6 : Int32) ≤ nI n from nI_le (a := 6) c (by omega))]
    obtain ⟨z1, e1, R1, S1⟩ := Z_take (Z := Z) R hp e
    obtain ⟨z2, e2, R2, S2⟩ := Z_put (Z := Z) R1 ht w (by rw [co_pop_ne (tgt_ne n (by omega) c p hp ht)]; exact hl)
    obtain ⟨R3, S3⟩ := R2.lay (k := 11) (Or.inl rfl) (q_tgt n p)
    rw [e1, bd_some, jn_eq, e2, bd_some, wr1e (i := 11) 11 rfl (by decide) (by decide), bd_some]
    have em : q_mid a n p = q_tri (q_put (q_pop a p) (q_tgt n p) w) (q_sd a) (q_la a) (q_tgt n p) := by
      unfold q_mid
      rw [if_pos c, e]
      rfl
    obtain ⟨z4, e4, R4, S4⟩ := Z_tail (Z := Z) R3 ok.1
    refine ⟨z4, e4, ?_, S1.tr (S2.tr (S3.tr S4))⟩
    unfold q_do
    rw [em]
    exact R4
  · rw [if_neg (show ¬ (6 : Int32) ≤ nI n from nI_ge (b := 6) (by omega) (by decide)), tgt_lay (by omega)]
    rw [tgt_lay (by omega)] at ht hl
    obtain ⟨z1, e1, R1, S1⟩ := Z_addBag (Z := Z) R (-1) (sn_lt (q_sd a)) h1 (show n ≤ 5 by omega)
    rw [← sn_eq ok.1] at e1
    obtain ⟨z2, e2, R2, S2⟩ := Z_put (Z := Z) R1 hp (nI n) hl
    obtain ⟨R3, S3⟩ := R2.lay (k := 11) (Or.inl rfl) 0
    rw [ms_eq, rd_e (i := 4) 4 rfl (by decide) (by decide), bd_some, R.2.2.2.1, e1, bd_some, e2, bd_some, wr1e (i := 11) 11 rfl (by decide) (by decide), bd_some]
    have em : q_mid a n p = q_tri (q_put (q_bag a (sn (q_sd a)) n (-1)) p (nI n)) (q_sd a) (q_la a) 0 := by
      unfold q_mid
      rw [if_neg c]
    obtain ⟨z4, e4, R4, S4⟩ := Z_tail (Z := Z) R3 ok.1
    refine ⟨z4, e4, ?_, S1.tr (S2.tr (S3.tr S4))⟩
    unfold q_do
    rw [em]
    exact R4
end
