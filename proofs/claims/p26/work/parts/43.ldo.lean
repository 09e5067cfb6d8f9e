/-! the law's move makes the abstract one -/
theorem sd_tri {a : Bd} {x y z : Int32} : q_sd (q_tri a x y z) = x := rfl
theorem la_tri {a : Bd} {x y z : Int32} : q_la (q_tri a x y z) = y := rfl
theorem lt_tri {a : Bd} {x y z : Int32} : q_lt (q_tri a x y z) = z := rfl
theorem bg_tri {a : Bd} {x y z : Int32} : q_bg (q_tri a x y z) = q_bg a := rfl
theorem sd_do {a : Bd} {n : Nat} {p : Int32} : q_sd (q_do a n p) = q_beh (q_mid a n p) := by unfold q_do; exact sd_tri
theorem la_do {a : Bd} {n : Nat} {p : Int32} : q_la (q_do a n p) = q_sd a := by unfold q_do; exact la_tri
theorem lt_do {a : Bd} {n : Nat} {p : Int32} : q_lt (q_do a n p) = q_lt (q_mid a n p) := by unfold q_do; exact lt_tri
theorem co_do {a : Bd} {n : Nat} {p : Int32} : q_co (q_do a n p) = q_co (q_mid a n p) := by unfold q_do; exact q_co_tri
theorem bg_do {a : Bd} {n : Nat} {p : Int32} : q_bg (q_do a n p) = q_bg (q_mid a n p) := by unfold q_do; exact bg_tri
theorem sg_tri {a : Bd} {x y z : Int32} : q_sg (q_tri a x y z) = q_sg a := rfl
theorem sg_mid {a : Bd} {n : Nat} {p : Int32} : q_sg (q_mid a n p) = q_sg a := by
  rw [← q_sg_do (a := a) (n := n) (p := p)]
  unfold q_do
  rw [sg_tri]
theorem bg_put {a : Bd} {p w : Int32} : q_bg (q_put a p w) = q_bg a := rfl
theorem bg_pop {a : Bd} {p : Int32} : q_bg (q_pop a p) = q_bg a := rfl
theorem mid_push {a : Bd} {n : Nat} {p : Int32} (c : 6 ≤ n) : q_co (q_mid a n p) = q_co (q_put (q_pop a p) (q_tgt n p) ((q_co a (sl p)).headD 0)) ∧ q_bg (q_mid a n p) = q_bg a ∧ q_lt (q_mid a n p) = q_tgt n p := by
  unfold q_mid
  rw [if_pos c, q_co_tri, bg_tri, lt_tri, bg_put, bg_pop]
  exact ⟨rfl, rfl, rfl⟩
theorem mid_lay {a : Bd} {n : Nat} {p : Int32} (c : ¬ 6 ≤ n) : q_co (q_mid a n p) = q_co (q_put (q_bag a (sn (q_sd a)) n (-1)) p (nI n)) ∧ q_bg (q_mid a n p) = q_bg (q_bag a (sn (q_sd a)) n (-1)) ∧ q_lt (q_mid a n p) = 0 := by
  unfold q_mid
  rw [if_neg c, q_co_tri, bg_tri, lt_tri, bg_put]
  exact ⟨rfl, rfl, rfl⟩
theorem RBg.cg {b : Nat → Int32} {a c : Bd} (h : RBg b a) (e : q_bg c = q_bg a) : RBg b c := fun i hi w hw => by rw [e]; exact h i hi w hw
theorem L_move {m b t : Nat → Int32} {a : Bd} {n : Nat} {p : Int32} (R : RT m b t a) (h1 : 1 ≤ n) (h7 : n ≤ 7) (hp : p ∈ pls) (hh : q_hind a n p = 0) :
    ∃ m' b' t', s_L_move m b t (nI n) p = some (m', b', t') ∧ RT m' b' t' (q_do a n p) ∧ ∀ j, j ≠ 4 → j ≠ 9 → j ≠ 10 → t' j = t j := by
  have ok := R.2.1
  have hc : ∀ s, s < 12 → (q_co a s).length ≤ 4 := fun s hs => (R.1.1 s hs).1
  obtain ⟨ht, hl⟩ := hind_room ok hc hh
  have hgl : q_gl n p = q_tgt n p := if_pos ht
  have okd := q_ok_do ok h1 hh
  have tsd := ts_do (n := n) R.2.2 hp ht
  have r4 : t 4 = q_sd a := R.1.2.2.2.1
  have r2 : t 2 = q_sg a 2 := R.1.2.2.1 2 (by omega)
  unfold s_L_move
  rw [L_goal n (by omega) p hp, bd_some, hgl]
  refine jn_ind (P := fun k => ∀ (w : Int32) (M Bg : Nat → Int32) (c : Bd), RCo M c → RBg Bg (q_mid a n p) → (q_co c (sl (q_tgt n p))).length < 4 → (∀ s, q_co (q_put c (q_tgt n p) w) s = q_co (q_mid a n p) s) → ∃ m' t', k w M Bg = some (m', Bg, t') ∧ RT m' Bg t' (q_do a n p) ∧ ∀ j, j ≠ 4 → j ≠ 9 → j ≠ 10 → t' j = t j)
    (Q := fun o => ∃ m' b' t', o = some (m', b', t') ∧ RT m' b' t' (q_do a n p) ∧ ∀ j, j ≠ 4 → j ≠ 9 → j ≠ 10 → t' j = t j) ?_ ?_
  · intro w M Bg c RM RB hlc hmid
    obtain ⟨m1, e1, R1⟩ := L_put RM ht w hlc
    have RM1 : RCo m1 (q_do a n p) := by
      intro s hs
      have q := R1 s hs
      rw [hmid s] at q
      rw [co_do]
      exact q
    have RB1 : RBg Bg (q_do a n p) := RB.cg bg_do
    dsimp only
    rw [e1, bd_some]
    refine jn_ind (P := fun k => ∀ v : Int32, v = q_lt (q_mid a n p) → ∃ t', k v = some (m1, Bg, t') ∧ RT m1 Bg t' (q_do a n p) ∧ ∀ j, j ≠ 4 → j ≠ 9 → j ≠ 10 → t' j = t j)
      (Q := fun o => ∃ m' t', o = some (m', Bg, t') ∧ RT m' Bg t' (q_do a n p) ∧ ∀ j, j ≠ 4 → j ≠ 9 → j ≠ 10 → t' j = t j) ?_ ?_
    · intro v hv
      dsimp only
      rw [wr1_e (i := 10) 10 rfl (by decide) (by decide), bd_some, rd_e (i := 4) 4 rfl (by decide) (by decide), bd_some, up_ne (by omega), wr1_e (i := 9) 9 rfl (by decide) (by decide), bd_some, rd_e (i := 2) 2 rfl (by decide) (by decide), bd_some, up_ne (by omega), up_ne (by omega), r4, r2]
      generalize ht2 : upd (upd t 10 v) 9 (q_sd a) = t2
      have t24 : t2 4 = q_sd a := by subst ht2; rw [up_ne (by omega), up_ne (by omega), r4]
      have fin : ∀ x : Int32, x = q_beh (q_mid a n p) → RT m1 Bg (upd t2 4 x) (q_do a n p) ∧ ∀ j, j ≠ 4 → j ≠ 9 → j ≠ 10 → upd t2 4 x j = t j := by
        intro x hx
        refine ⟨⟨⟨RM1, RB1, fun k hk => ?_, ?_, ?_, ?_⟩, okd, tsd⟩, fun j j4 j9 j10 => ?_⟩
        · rw [up_ne (by omega), q_sg_do, ← R.1.2.2.1 k hk]
          subst ht2
          rw [up_ne (by omega), up_ne (by omega)]
        · rw [up_eq, hx, sd_do]
        · rw [up_ne (by omega)]
          subst ht2
          rw [up_eq, la_do]
        · rw [up_ne (by omega)]
          subst ht2
          rw [up_ne (by omega), up_eq, hv, lt_do]
        · rw [up_ne j4]
          subst ht2
          rw [up_ne j9, up_ne j10]
      have sdm : q_sd (q_mid a n p) = q_sd a := q_sd_mid
      have sgm : q_sg (q_mid a n p) 2 = q_sg a 2 := by rw [sg_mid]
      refine jn_ind (P := fun k => k 0 = some (m1, Bg, upd t2 4 (1 - q_sd a)) ∧ k 1 = some (m1, Bg, upd t2 4 (q_sd a)))
        (Q := fun o => ∃ t', o = some (m1, Bg, t') ∧ RT m1 Bg t' (q_do a n p) ∧ ∀ j, j ≠ 4 → j ≠ 9 → j ≠ 10 → t' j = t j) ?_ ?_
      · refine ⟨?_, ?_⟩
        · dsimp only
          rw [if_pos rfl, rd_e (i := 4) 4 rfl (by decide) (by decide), bd_some, t24, wr1_e (i := 4) 4 rfl (by decide) (by decide), bd_some]
        · dsimp only
          rw [if_neg (by decide), rd_e (i := 4) 4 rfl (by decide) (by decide), bd_some, t24, wr1_e (i := 4) 4 rfl (by decide) (by decide), bd_some]
      · rintro k ⟨k0, k1⟩
        dsimp only [jn]
        rw [k0, k1]
        by_cases c2 : q_sg a 2 = 0
        · rw [if_pos c2, rd_e (i := 4) 4 rfl (by decide) (by decide), bd_some, t24, bd_some]
          have a1 : s_L_all Bg (1 - q_sd a) = some (q_all (q_mid a n p) (sn (1 - q_sd a))) := by
            conv => lhs; rw [sn_eq (q_oth ok.1)]
            exact L_all0 RB (sn_lt _)
          have a2 : s_L_all Bg (q_sd a) = some (q_all (q_mid a n p) (sn (q_sd a))) := by
            conv => lhs; rw [sn_eq ok.1]
            exact L_all0 RB (sn_lt _)
          rw [a1, a2, bd_some, bd_some]
          by_cases c3 : q_all (q_mid a n p) (sn (1 - q_sd a)) = 0
          · rw [if_pos c3]
            by_cases c4 : q_all (q_mid a n p) (sn (q_sd a)) ≤ 0
            · rw [if_pos c4]
              refine ⟨_, rfl, fin _ ?_⟩
              unfold q_beh
              rw [sdm, sgm, if_pos c2, if_pos c3, if_pos c4]
            · rw [if_neg c4]
              refine ⟨_, rfl, fin _ ?_⟩
              unfold q_beh
              rw [sdm, sgm, if_pos c2, if_pos c3, if_neg c4]
          · rw [if_neg c3]
            refine ⟨_, rfl, fin _ ?_⟩
            unfold q_beh
            rw [sdm, sgm, if_pos c2, if_neg c3]
        · rw [if_neg c2]
          refine ⟨_, rfl, fin _ ?_⟩
          unfold q_beh
          rw [sdm, sgm, if_neg c2]
    · intro k hk
      by_cases c : 6 ≤ n
      · rw [if_neg (show ¬ nI n ≤ (5 : Int32) from nI_ge (b := n) (a := 5) (by omega) (by omega))]
        obtain ⟨t', e, q⟩ := hk (q_tgt n p) (mid_push c).2.2.symm
        exact ⟨_, _, e, q⟩
      · rw [if_pos (show nI n ≤ (5 : Int32) from nI_le (b := 5) (by omega) (by omega))]
        obtain ⟨t', e, q⟩ := hk 0 (mid_lay c).2.2.symm
        exact ⟨_, _, e, q⟩
  · intro k hk
    by_cases c : 6 ≤ n
    · rw [if_neg (show ¬ nI n ≤ (5 : Int32) from nI_ge (b := n) (a := 5) (by omega) (by omega)), (pz_sl p hp).2, bd_some, c48]
      obtain ⟨w, r, e⟩ := hind_push c hh
      obtain ⟨d1, d2, d3, d4⟩ := R_pop R.1.1 hp e
      have hs := sl_lt p hp
      have hne := tgt_ne n (by omega) c p hp ht
      rw [rd_n (by omega) (by decide), bd_some, d1, nI_pred, wr1_n (by omega) (by decide), bd_some, rd_n (by omega) (by decide), bd_some, up_eq, show (4 : Int32) = nI 4 from rfl, pk_mul, nI_add, rd_n (by omega) (by decide), bd_some, up_ne (by omega), d3]
      obtain ⟨m', t', e2, q⟩ := hk w _ b (q_pop a p) d4 (RBg.cg (a := a) R.1.2.1 (mid_push c).2.1) (by rw [co_pop_ne hne]; exact hl) (fun s => by
        rw [(mid_push c).1, e]
        rfl)
      exact ⟨_, _, _, e2, q⟩
    · rw [if_pos (show nI n ≤ (5 : Int32) from nI_le (b := 5) (by omega) (by omega)), rd_e (i := 4) 4 rfl (by decide) (by decide), bd_some, r4]
      obtain ⟨i1, i2⟩ := L_cell1 R (sn_lt (q_sd a)) h1 (show n ≤ 5 by omega)
      have hsn := sn_lt (q_sd a)
      rw [← sn_eq ok.1] at i1
      rw [i1, rd_n (by omega) (by decide), bd_some, i2, wr1_n (by omega) (by decide), bd_some]
      have htl := tgt_lay (n := n) (p := p) (by omega)
      rw [htl] at hl
      obtain ⟨m', t', e2, q⟩ := hk (nI n) m (upd b (5 * sn (q_sd a) + (n - 1)) (q_bg a (sn (q_sd a)) n - 1)) (q_bag a (sn (q_sd a)) n (-1)) R.1.1 (by
        have h := R_bag (b := b) (a := a) R.1.2.1 (i := sn (q_sd a)) (w := n) (-1) h1 (by omega)
        rw [← Int32.sub_eq_add_neg] at h
        exact h.cg (mid_lay c).2.1) (by rw [htl]; exact hl) (fun s => by
        rw [(mid_lay c).1, htl])
      exact ⟨_, _, _, e2, q⟩
