/-! the reference's look ahead and best move -/
def ZF (d : Nat) (Z Z' : Mm) : Prop := Z' 0 = Z 0 ∧ Z' 2 = Z 2 ∧ Z' 3 = Z 3 ∧ Z' 4 = Z 4 ∧ Z' 5 = Z 5 ∧ Z' 9 = Z 9 ∧ ZS (Z 1) (Z' 1) ∧ ∀ j, d < j → Z' 6 j = Z 6 j ∧ Z' 7 j = Z 7 j ∧ Z' 8 j = Z 8 j
theorem ZF.rf {d : Nat} {Z : Mm} : ZF d Z Z := ⟨rfl, rfl, rfl, rfl, rfl, rfl, ZS.rf, fun _ _ => ⟨rfl, rfl, rfl⟩⟩
theorem ZF.tr {d : Nat} {A B C : Mm} (h : ZF d A B) (g : ZF d B C) : ZF d A C := ⟨g.1.trans h.1, g.2.1.trans h.2.1, g.2.2.1.trans h.2.2.1, g.2.2.2.1.trans h.2.2.2.1, g.2.2.2.2.1.trans h.2.2.2.2.1, g.2.2.2.2.2.1.trans h.2.2.2.2.2.1, h.2.2.2.2.2.2.1.tr g.2.2.2.2.2.2.1, fun j hj => ⟨(g.2.2.2.2.2.2.2 j hj).1.trans (h.2.2.2.2.2.2.2 j hj).1, (g.2.2.2.2.2.2.2 j hj).2.1.trans (h.2.2.2.2.2.2.2 j hj).2.1, (g.2.2.2.2.2.2.2 j hj).2.2.trans (h.2.2.2.2.2.2.2 j hj).2.2⟩⟩
theorem ZF.up {d e : Nat} {A B : Mm} (h : ZF d A B) (hde : d ≤ e) : ZF e A B := ⟨h.1, h.2.1, h.2.2.1, h.2.2.2.1, h.2.2.2.2.1, h.2.2.2.2.2.1, h.2.2.2.2.2.2.1, fun j hj => h.2.2.2.2.2.2.2 j (by omega)⟩
theorem ZF.one {d : Nat} {Z : Mm} {z : Nat → Int32} (h : ZS (Z 1) z) : ZF d Z (mset Z 1 z) := ⟨rfl, rfl, rfl, rfl, rfl, rfl, h, fun _ _ => ⟨rfl, rfl, rfl⟩⟩
section
variable {Z : Mm} {a : Bd}
theorem Z_poss (R : RZ (Z 1) a) (ok : q_ok a) {k : Nat} (hk : k < 84) : s_X5_isPossible Z (nI k) = some (if q_why a (q_num k) (q_plc k) = 0 then 1 else 0) := by
  obtain ⟨-, t2, -, t4, hp, n1, n7⟩ := rank_tab k hk
  unfold s_X5_isPossible
  rw [t2, bd_some, t4, bd_some, Z_why R ok n1 n7 hp, bd_some]
  split <;> rfl
theorem Z_ahead (R : RZ (Z 1) a) (ok : q_ok a) {k d : Nat} (hk : k < 84) (hd : d < 4) (hh : q_hind a (q_num k) (q_plc k) = 0) : ∃ N, s_X5_ahead Z (nI d) (nI k) = some N ∧ RZ (N 1) (q_do a (q_num k) (q_plc k)) ∧ N 6 d = q_sd a ∧ N 7 d = q_la a ∧ N 8 d = q_lt a ∧ ZF d Z N := by
  obtain ⟨-, t2, -, t4, hp, n1, n7⟩ := rank_tab k hk
  unfold s_X5_ahead
  rw [rd_e (i := 4) 4 rfl (by decide) (by decide), bd_some, wr_n hd (by decide), bd_some, rd_e (i := 10) 10 rfl (by decide) (by decide), bd_some, wr_n hd (by decide), bd_some, rd_e (i := 11) 11 rfl (by decide) (by decide), bd_some, wr_n hd (by decide), bd_some, t2, bd_some, t4, bd_some]
  generalize hN : mset (mset (mset Z 6 (upd (Z 6) d (Z 1 4))) 7 _) 8 _ = N
  have eN : N 1 = Z 1 := by rw [← hN]; rfl
  obtain ⟨z', e, R', S'⟩ := Z_change (Z := N) (z := N 1) (by rw [eN]; exact R) ok n1 n7 hp hh
  rw [ms_self] at e
  rw [e, bd_some]
  refine ⟨_, rfl, R', ?_, ?_, ?_, ?_⟩
  · rw [← hN]; show upd (Z 6) d (Z 1 4) d = _; rw [up_eq]; exact R.2.2.2.1
  · rw [← hN]; show upd (Z 7) d (Z 1 10) d = _; rw [up_eq]; exact R.2.2.2.2.1
  · rw [← hN]; show upd (Z 8) d (Z 1 11) d = _; rw [up_eq]; exact R.2.2.2.2.2.1
  · subst hN
    refine ⟨rfl, rfl, rfl, rfl, rfl, rfl, S', fun j hj => ⟨up_ne (by omega), up_ne (by omega), up_ne (by omega)⟩⟩
theorem Z_fm {b : Bd} {d : Nat} {x : Int32} {s : Int32} (hd : d < 4) (R : RZ (Z 1) b) (h6 : Z 6 d = s) : s_X5_forMover Z (nI d) x = some (if q_sd b = s then x else -x) := by
  unfold s_X5_forMover
  rw [rd_e (i := 4) 4 rfl (by decide) (by decide), bd_some, rd_n hd (by decide), bd_some, h6, R.2.2.2.1]
  split <;> rfl
theorem RZ.tri {z : Nat → Int32} {b : Bd} (R : RZ z b) (x y w : Int32) : RZ (upd (upd (upd z 4 x) 10 y) 11 w) (q_tri b x y w) ∧ ZS z (upd (upd (upd z 4 x) 10 y) 11 w) := by
  obtain ⟨R1, S1⟩ := R.lay (k := 4) (Or.inr (Or.inr rfl)) x
  obtain ⟨R2, S2⟩ := R1.lay (k := 10) (Or.inr (Or.inl rfl)) y
  obtain ⟨R3, S3⟩ := R2.lay (k := 11) (Or.inl rfl) w
  exact ⟨R3, S1.tr (S2.tr S3)⟩
theorem q_put_tri {b : Bd} {x y z p w : Int32} : q_put (q_tri b x y z) p w = q_tri (q_put b p w) x y z := Bd_ext rfl rfl rfl rfl rfl rfl rfl
theorem q_bag_tri {b : Bd} {x y z d : Int32} {i w : Nat} : q_bag (q_tri b x y z) i w d = q_tri (q_bag b i w d) x y z := Bd_ext rfl rfl rfl rfl rfl rfl rfl
theorem Z_back (ok : q_ok a) (hc : ∀ s, s < 12 → (q_co a s).length ≤ 4) {k d : Nat} (hk : k < 84) (hd : d < 4) (hh : q_hind a (q_num k) (q_plc k) = 0) (R : RZ (Z 1) (q_do a (q_num k) (q_plc k))) (h6 : Z 6 d = q_sd a) (h7 : Z 7 d = q_la a) (h8 : Z 8 d = q_lt a) : ∃ z', s_X5_back Z (nI d) (nI k) = some (mset Z 1 z') ∧ RZ z' a ∧ ZS (Z 1) z' := by
  obtain ⟨-, t2, -, t4, hp, n1, n7⟩ := rank_tab k hk
  generalize q_num k = n at *
  generalize q_plc k = p at *
  obtain ⟨ht, hl⟩ := hind_room ok hc hh
  unfold s_X5_back
  rw [t2, bd_some, t4, bd_some, Z_goal n (by omega) p hp, if_pos ht, bd_some]
  by_cases c : 6 ≤ n
  · obtain ⟨w, t, e⟩ := hind_push c hh
    have hne := tgt_ne n (by omega) c p hp ht
    have em : q_co (q_do a n p) (sl (q_tgt n p)) = w :: q_co a (sl (q_tgt n p)) := by
      rw [q_co_do]
      unfold q_mid
      rw [if_pos c, e, q_co_tri, co_put_self, co_pop_ne hne]
      rfl
    have em2 : q_co (q_do a n p) (sl p) = t := by
      rw [q_co_do]
      unfold q_mid
      rw [if_pos c, e, q_co_tri, co_put_ne hne.symm, co_pop_self, e]
      rfl
    obtain ⟨z1, e1, R1, S1⟩ := Z_take (Z := Z) R ht em
    rw [ms_self] at e1
    obtain ⟨R2, S2⟩ := R1.tri (q_sd a) (q_la a) (q_lt a)
    have hp4 : (w :: t).length ≤ 4 := by rw [← e]; exact hc _ (sl_lt p hp)
    have hp5 : t.length < 4 := hp4
    obtain ⟨z3, e3, R3, S3⟩ := Z_put (Z := Z) R2 hp w (by rw [q_co_tri, co_pop_ne hne.symm, em2]; exact hp5)
    rw [e1, bd_some, jn_eq]
    dsimp only
    rw [rd_n hd (by decide), bd_some, show mset Z 1 z1 6 d = q_sd a from h6, wr1e (i := 4) 4 rfl (by decide) (by decide), bd_some, rd_n hd (by decide), bd_some, show mset Z 1 (upd z1 4 (q_sd a)) 7 d = q_la a from h7, wr1e (i := 10) 10 rfl (by decide) (by decide), bd_some, rd_n hd (by decide), bd_some, show mset Z 1 (upd (upd z1 4 (q_sd a)) 10 (q_la a)) 8 d = q_lt a from h8, wr1e (i := 11) 11 rfl (by decide) (by decide), bd_some, if_pos (show (6 : Int32) ≤ nI n from nI_le (a := 6) c (by omega)), bd_some, e3, bd_some]
    rw [q_put_tri, undo_push c hne e] at R3
    exact ⟨z3, rfl, R3, S1.tr (S2.tr S3)⟩
  · have hlt : n < 6 := by omega
    have em : q_co (q_do a n p) (sl p) = nI n :: q_co a (sl p) := by
      rw [q_co_do]
      unfold q_mid
      rw [if_neg c, q_co_tri, co_put_self]
      rfl
    obtain ⟨z1, e1, R1, S1⟩ := Z_take (Z := Z) R hp em
    rw [ms_self] at e1
    obtain ⟨R2, S2⟩ := R1.tri (q_sd a) (q_la a) (q_lt a)
    obtain ⟨z3, e3, R3, S3⟩ := Z_addBag (Z := Z) R2 1 (sn_lt (q_sd a)) n1 (show n ≤ 5 by omega)
    rw [← sn_eq ok.1] at e3
    rw [tgt_lay hlt, e1, bd_some, jn_eq]
    dsimp only
    rw [rd_n hd (by decide), bd_some, show mset Z 1 z1 6 d = q_sd a from h6, wr1e (i := 4) 4 rfl (by decide) (by decide), bd_some, rd_n hd (by decide), bd_some, show mset Z 1 (upd z1 4 (q_sd a)) 7 d = q_la a from h7, wr1e (i := 10) 10 rfl (by decide) (by decide), bd_some, rd_n hd (by decide), bd_some, show mset Z 1 (upd (upd z1 4 (q_sd a)) 10 (q_la a)) 8 d = q_lt a from h8, wr1e (i := 11) 11 rfl (by decide) (by decide), bd_some, if_neg (show ¬ (6 : Int32) ≤ nI n from nI_ge (b := 6) hlt (by decide)), rd_e (i := 4) 4 rfl (by decide) (by decide), bd_some, show mset Z 1 (upd (upd (upd z1 4 (q_sd a)) 10 (q_la a)) 11 (q_lt a)) 1 4 = q_sd a from R2.2.2.2.1, e3, bd_some]
    rw [q_bag_tri, undo_lay c] at R3
    exact ⟨z3, rfl, R3, S1.tr (S2.tr S3)⟩
end
def q_bt (m : Int) : Int := if m = -2 then -10005 else m
theorem q_bt_r {g : Bd → Int} (hg : q_rg g) (a : Bd) (k : Nat) : -10005 ≤ q_bt (q_mx g a k) ∧ q_bt (q_mx g a k) ≤ 1 := by
  have := q_mx_r hg a k
  unfold q_bt
  split <;> omega
theorem Z_loop1 {a : Bd} (ok : q_ok a) (ho : q_out a = 0) : ∀ (j k fuel : Nat) {Z : Mm}, k + j = 84 → j < fuel → RZ (Z 1) a →
    ∃ Z', s_X5_lookOne_L18 fuel Z (iI (q_bt (q_mx (q_val 0) a k))) (nI k) = some (iI (q_fin (q_mx (q_val 0) a 84)), Z') ∧ RZ (Z' 1) a ∧ ZF 1 Z Z' := by
  have hg : q_rg (q_val 0) := q_val_r 0
  intro j
  induction j with
  | zero =>
    intro k fuel Z hk hf R
    obtain ⟨f, rfl⟩ : ∃ f, fuel = f + 1 := ⟨fuel - 1, by omega⟩
    have hk : k = 84 := by omega
    subst hk
    rw [s_X5_lookOne_L18, jn_eq, if_pos (show (84 : Int32) ≤ nI 84 from by decide)]
    have hr := q_bt_r hg a 84
    have hm := q_mx_r hg a 84
    generalize q_mx (q_val 0) a 84 = M at hr hm ⊢
    unfold q_fin
    by_cases c : M = -2
    · rw [if_pos c, if_pos (by rw [c]; rfl)]
      exact ⟨Z, rfl, R, ZF.rf⟩
    · have e : q_bt M = M := if_neg c
      rw [if_neg c, e, if_neg (show ¬ iI M = (-10005 : Int32) from fun h => by have := (iI_eq (b := -10005) (by omega) (by omega)).mp h; omega)]
      exact ⟨Z, rfl, R, ZF.rf⟩
  | succ j ih =>
    intro k fuel Z hk hf R
    obtain ⟨f, rfl⟩ : ∃ f, fuel = f + 1 := ⟨fuel - 1, by omega⟩
    have hk84 : k < 84 := by omega
    obtain ⟨-, -, -, -, hp, n1, n7⟩ := rank_tab k hk84
    have em : q_mx (q_val 0) a (k + 1) = if q_hind a (q_num k) (q_plc k) = 0 then max (q_mx (q_val 0) a k) (q_sv (q_val 0) a k) else q_mx (q_val 0) a k := rfl
    have ew : q_why a (q_num k) (q_plc k) = q_hind a (q_num k) (q_plc k) := if_pos ho
    have hr := q_bt_r hg a k
    have hm := q_mx_r hg a k
    have hm2 := q_mx_r hg a 84
    have mono : q_mx (q_val 0) a k ≤ q_mx (q_val 0) a 84 := by
      have := q_mx_mono (g := (q_val 0)) (a := a) (k := k) (j := j + 1)
      rwa [show k + (j + 1) = 84 by omega] at this
    have nx := fun {Z : Mm} (R : RZ (Z 1) a) => ih (k + 1) f (Z := Z) (by omega) (by omega) R
    rw [s_X5_lookOne_L18, jn_eq, if_neg (show ¬ (84 : Int32) ≤ nI k from nI_ge (b := 84) hk84 (by decide))]
    by_cases c1 : (1 : Int32) ≤ iI (q_bt (q_mx (q_val 0) a k))
    · rw [if_pos c1]
      have h1 := (iI_le (a := 1) (by omega) (by omega)).mp c1
      have h2 : q_bt (q_mx (q_val 0) a k) = q_mx (q_val 0) a k := by
        unfold q_bt at h1 ⊢
        split at h1
        · omega
        · rename_i h; rw [if_neg h]
      rw [h2] at h1 ⊢
      have h3 : q_mx (q_val 0) a k = 1 := by omega
      have h4 : q_fin (q_mx (q_val 0) a 84) = 1 := by unfold q_fin; split <;> omega
      rw [h3, h4, if_neg (by decide)]
      exact ⟨Z, rfl, R, ZF.rf⟩
    · rw [if_neg c1, Z_poss R ok hk84, bd_some, ew]
      by_cases hp0 : q_hind a (q_num k) (q_plc k) = 0
      · rw [if_pos hp0] at em
        rw [if_pos hp0, if_neg (by decide)]
        obtain ⟨N, e1, R1, h6, h7, h8, F1⟩ := Z_ahead R ok hk84 (d := 1) (by decide) hp0
        have ok1 := q_ok_do ok n1 hp0
        rw [show s_X5_ahead Z 1 (nI k) = _ from e1, bd_some, Z_told R1 ok1, bd_some, show s_X5_forMover N 1 _ = _ from Z_fm (d := 1) (by decide) R1 h6, bd_some]
        obtain ⟨z2, e2, R2, S2⟩ := Z_back ok R.hc hk84 (d := 1) (by decide) hp0 R1 h6 h7 h8
        rw [show s_X5_back N 1 (nI k) = _ from e2, bd_some, q_wi_worth]
        have F2 : ZF 1 Z (mset N 1 z2) := F1.tr (ZF.one S2)
        have R2 : RZ ((mset N 1 z2) 1) a := R2
        generalize mset N 1 z2 = N2 at R2 F2
        have hv := q_sv_r hg a k
        have esv : (if q_sd (q_do a (q_num k) (q_plc k)) = q_sd a then iI (q_wi (q_do a (q_num k) (q_plc k))) else -(iI (q_wi (q_do a (q_num k) (q_plc k))))) = iI (q_sv (q_val 0) a k) := by
          have : -1 ≤ q_wi (q_do a (q_num k) (q_plc k)) ∧ q_wi (q_do a (q_num k) (q_plc k)) ≤ 1 := hg (q_do a (q_num k) (q_plc k))
          unfold q_sv
          split
          · rfl
          · exact iI_neg (by omega)
        have h := nx R2
        rw [em] at h
        obtain ⟨Z3, e4, R4, F4⟩ := h
        rw [esv]
        by_cases c2 : q_sv (q_val 0) a k ≤ q_bt (q_mx (q_val 0) a k)
        · rw [if_pos ((iI_le (by omega) (by omega)).mpr c2), jn_eq, nI_1]
          have e5 : max (q_mx (q_val 0) a k) (q_sv (q_val 0) a k) = q_mx (q_val 0) a k := by
            unfold q_bt at c2
            split at c2 <;> omega
          rw [e5] at e4
          exact ⟨Z3, e4, R4, F2.tr F4⟩
        · rw [if_neg (fun h => c2 ((iI_le (by omega) (by omega)).mp h)), jn_eq, nI_1]
          have e5 : q_bt (max (q_mx (q_val 0) a k) (q_sv (q_val 0) a k)) = q_sv (q_val 0) a k := by
            unfold q_bt at c2 ⊢
            split at c2 <;> (rw [if_neg (by omega)]; omega)
          rw [e5] at e4
          exact ⟨Z3, e4, R4, F2.tr F4⟩
      · rw [if_neg hp0] at em
        rw [if_neg hp0, if_pos rfl, jn_eq, nI_1]
        have h := nx R
        rw [em] at h
        exact h
theorem Z_lookOne {a : Bd} {Z : Mm} (R : RZ (Z 1) a) (ok : q_ok a) : ∃ Z', s_X5_lookOne Z = some (iI (q_val 1 a), Z') ∧ RZ (Z' 1) a ∧ ZF 1 Z Z' := by
  unfold s_X5_lookOne
  rw [Z_over R ok, bd_some]
  by_cases c : q_out a = 0
  · have ev : q_val 1 a = q_fin (q_mx (q_val 0) a 84) := by show (if _ then _ else _) = _; rw [if_pos c]
    rw [if_pos c, if_pos rfl, ev]
    have h := Z_loop1 ok c 84 0 1000 rfl (by decide) R
    rw [show iI (q_bt (q_mx (q_val 0) a 0)) = (-10005 : Int32) from rfl, show nI 0 = (0 : Int32) from rfl] at h
    exact h
  · have ev : q_val 1 a = q_wi a := by show (if _ then _ else _) = _; rw [if_neg c]
    rw [if_neg c, if_neg (by decide), Z_told R ok, bd_some, q_wi_worth, ev]
    exact ⟨Z, rfl, R, ZF.rf⟩
theorem Z_loop2 {a : Bd} (ok : q_ok a) (ho : q_out a = 0) : ∀ (j k fuel : Nat) {Z : Mm}, k + j = 84 → j < fuel → RZ (Z 1) a →
    ∃ Z', s_X5_lookTwo_L18 fuel Z (iI (q_bt (q_mx (q_val 1) a k))) (nI k) = some (iI (q_fin (q_mx (q_val 1) a 84)), Z') ∧ RZ (Z' 1) a ∧ ZF 2 Z Z' := by
  have hg : q_rg (q_val 1) := q_val_r 1
  intro j
  induction j with
  | zero =>
    intro k fuel Z hk hf R
    obtain ⟨f, rfl⟩ : ∃ f, fuel = f + 1 := ⟨fuel - 1, by omega⟩
    have hk : k = 84 := by omega
    subst hk
    rw [s_X5_lookTwo_L18, jn_eq, if_pos (show (84 : Int32) ≤ nI 84 from by decide)]
    have hr := q_bt_r hg a 84
    have hm := q_mx_r hg a 84
    generalize q_mx (q_val 1) a 84 = M at hr hm ⊢
    unfold q_fin
    by_cases c : M = -2
    · rw [if_pos c, if_pos (by rw [c]; rfl)]
      exact ⟨Z, rfl, R, ZF.rf⟩
    · have e : q_bt M = M := if_neg c
      rw [if_neg c, e, if_neg (show ¬ iI M = (-10005 : Int32) from fun h => by have := (iI_eq (b := -10005) (by omega) (by omega)).mp h; omega)]
      exact ⟨Z, rfl, R, ZF.rf⟩
  | succ j ih =>
    intro k fuel Z hk hf R
    obtain ⟨f, rfl⟩ : ∃ f, fuel = f + 1 := ⟨fuel - 1, by omega⟩
    have hk84 : k < 84 := by omega
    obtain ⟨-, -, -, -, hp, n1, n7⟩ := rank_tab k hk84
    have em : q_mx (q_val 1) a (k + 1) = if q_hind a (q_num k) (q_plc k) = 0 then max (q_mx (q_val 1) a k) (q_sv (q_val 1) a k) else q_mx (q_val 1) a k := rfl
    have ew : q_why a (q_num k) (q_plc k) = q_hind a (q_num k) (q_plc k) := if_pos ho
    have hr := q_bt_r hg a k
    have hm := q_mx_r hg a k
    have hm2 := q_mx_r hg a 84
    have mono : q_mx (q_val 1) a k ≤ q_mx (q_val 1) a 84 := by
      have := q_mx_mono (g := (q_val 1)) (a := a) (k := k) (j := j + 1)
      rwa [show k + (j + 1) = 84 by omega] at this
    have nx := fun {Z : Mm} (R : RZ (Z 1) a) => ih (k + 1) f (Z := Z) (by omega) (by omega) R
    rw [s_X5_lookTwo_L18, jn_eq, if_neg (show ¬ (84 : Int32) ≤ nI k from nI_ge (b := 84) hk84 (by decide))]
    by_cases c1 : (1 : Int32) ≤ iI (q_bt (q_mx (q_val 1) a k))
    · rw [if_pos c1]
      have h1 := (iI_le (a := 1) (by omega) (by omega)).mp c1
      have h2 : q_bt (q_mx (q_val 1) a k) = q_mx (q_val 1) a k := by
        unfold q_bt at h1 ⊢
        split at h1
        · omega
        · rename_i h; rw [if_neg h]
      rw [h2] at h1 ⊢
      have h3 : q_mx (q_val 1) a k = 1 := by omega
      have h4 : q_fin (q_mx (q_val 1) a 84) = 1 := by unfold q_fin; split <;> omega
      rw [h3, h4, if_neg (by decide)]
      exact ⟨Z, rfl, R, ZF.rf⟩
    · rw [if_neg c1, Z_poss R ok hk84, bd_some, ew]
      by_cases hp0 : q_hind a (q_num k) (q_plc k) = 0
      · rw [if_pos hp0] at em
        rw [if_pos hp0, if_neg (by decide)]
        obtain ⟨N, e1, R1, h6, h7, h8, F1⟩ := Z_ahead R ok hk84 (d := 2) (by decide) hp0
        have ok1 := q_ok_do ok n1 hp0
        obtain ⟨N', e3, R3, F3⟩ := Z_lookOne R1 ok1
        have f3 := F3.2.2.2.2.2.2.2 2 (by decide)
        rw [show s_X5_ahead Z 2 (nI k) = _ from e1, bd_some, e3, bd_some]
        dsimp only
        rw [show s_X5_forMover N' 2 _ = _ from Z_fm (d := 2) (by decide) R3 (f3.1.trans h6), bd_some]
        obtain ⟨z2, e2, R2, S2⟩ := Z_back ok R.hc hk84 (d := 2) (by decide) hp0 R3 (f3.1.trans h6) (f3.2.1.trans h7) (f3.2.2.trans h8)
        rw [show s_X5_back N' 2 (nI k) = _ from e2, bd_some]
        have F2 : ZF 2 Z (mset N' 1 z2) := F1.tr ((F3.up (by decide)).tr (ZF.one S2))
        have R2 : RZ ((mset N' 1 z2) 1) a := R2
        generalize mset N' 1 z2 = N2 at R2 F2
        have hv := q_sv_r hg a k
        have esv : (if q_sd (q_do a (q_num k) (q_plc k)) = q_sd a then iI ((q_val 1) (q_do a (q_num k) (q_plc k))) else -(iI ((q_val 1) (q_do a (q_num k) (q_plc k))))) = iI (q_sv (q_val 1) a k) := by
          have : -1 ≤ (q_val 1) (q_do a (q_num k) (q_plc k)) ∧ (q_val 1) (q_do a (q_num k) (q_plc k)) ≤ 1 := hg (q_do a (q_num k) (q_plc k))
          unfold q_sv
          split
          · rfl
          · exact iI_neg (by omega)
        have h := nx R2
        rw [em] at h
        obtain ⟨Z3, e4, R4, F4⟩ := h
        rw [esv]
        by_cases c2 : q_sv (q_val 1) a k ≤ q_bt (q_mx (q_val 1) a k)
        · rw [if_pos ((iI_le (by omega) (by omega)).mpr c2), jn_eq, nI_1]
          have e5 : max (q_mx (q_val 1) a k) (q_sv (q_val 1) a k) = q_mx (q_val 1) a k := by
            unfold q_bt at c2
            split at c2 <;> omega
          rw [e5] at e4
          exact ⟨Z3, e4, R4, F2.tr F4⟩
        · rw [if_neg (fun h => c2 ((iI_le (by omega) (by omega)).mp h)), jn_eq, nI_1]
          have e5 : q_bt (max (q_mx (q_val 1) a k) (q_sv (q_val 1) a k)) = q_sv (q_val 1) a k := by
            unfold q_bt at c2 ⊢
            split at c2 <;> (rw [if_neg (by omega)]; omega)
          rw [e5] at e4
          exact ⟨Z3, e4, R4, F2.tr F4⟩
      · rw [if_neg hp0] at em
        rw [if_neg hp0, if_pos rfl, jn_eq, nI_1]
        have h := nx R
        rw [em] at h
        exact h
theorem Z_lookTwo {a : Bd} {Z : Mm} (R : RZ (Z 1) a) (ok : q_ok a) : ∃ Z', s_X5_lookTwo Z = some (iI (q_val 2 a), Z') ∧ RZ (Z' 1) a ∧ ZF 2 Z Z' := by
  unfold s_X5_lookTwo
  rw [Z_over R ok, bd_some]
  by_cases c : q_out a = 0
  · have ev : q_val 2 a = q_fin (q_mx (q_val 1) a 84) := by show (if _ then _ else _) = _; rw [if_pos c]
    rw [if_pos c, if_pos rfl, ev]
    have h := Z_loop2 ok c 84 0 1000 rfl (by decide) R
    rw [show iI (q_bt (q_mx (q_val 1) a 0)) = (-10005 : Int32) from rfl, show nI 0 = (0 : Int32) from rfl] at h
    exact h
  · have ev : q_val 2 a = q_wi a := by show (if _ then _ else _) = _; rw [if_neg c]
    rw [if_neg c, if_neg (by decide), Z_told R ok, bd_some, q_wi_worth, ev]
    exact ⟨Z, rfl, R, ZF.rf⟩
theorem Z_loop3 {a : Bd} (ok : q_ok a) (ho : q_out a = 0) : ∀ (j k fuel : Nat) {Z : Mm}, k + j = 84 → j < fuel → RZ (Z 1) a →
    ∃ Z', s_X5_lookThree_L18 fuel Z (iI (q_bt (q_mx (q_val 2) a k))) (nI k) = some (iI (q_fin (q_mx (q_val 2) a 84)), Z') ∧ RZ (Z' 1) a ∧ ZF 3 Z Z' := by
  have hg : q_rg (q_val 2) := q_val_r 2
  intro j
  induction j with
  | zero =>
    intro k fuel Z hk hf R
    obtain ⟨f, rfl⟩ : ∃ f, fuel = f + 1 := ⟨fuel - 1, by omega⟩
    have hk : k = 84 := by omega
    subst hk
    rw [s_X5_lookThree_L18, jn_eq, if_pos (show (84 : Int32) ≤ nI 84 from by decide)]
    have hr := q_bt_r hg a 84
    have hm := q_mx_r hg a 84
    generalize q_mx (q_val 2) a 84 = M at hr hm ⊢
    unfold q_fin
    by_cases c : M = -2
    · rw [if_pos c, if_pos (by rw [c]; rfl)]
      exact ⟨Z, rfl, R, ZF.rf⟩
    · have e : q_bt M = M := if_neg c
      rw [if_neg c, e, if_neg (show ¬ iI M = (-10005 : Int32) from fun h => by have := (iI_eq (b := -10005) (by omega) (by omega)).mp h; omega)]
      exact ⟨Z, rfl, R, ZF.rf⟩
  | succ j ih =>
    intro k fuel Z hk hf R
    obtain ⟨f, rfl⟩ : ∃ f, fuel = f + 1 := ⟨fuel - 1, by omega⟩
    have hk84 : k < 84 := by omega
    obtain ⟨-, -, -, -, hp, n1, n7⟩ := rank_tab k hk84
    have em : q_mx (q_val 2) a (k + 1) = if q_hind a (q_num k) (q_plc k) = 0 then max (q_mx (q_val 2) a k) (q_sv (q_val 2) a k) else q_mx (q_val 2) a k := rfl
    have ew : q_why a (q_num k) (q_plc k) = q_hind a (q_num k) (q_plc k) := if_pos ho
    have hr := q_bt_r hg a k
    have hm := q_mx_r hg a k
    have hm2 := q_mx_r hg a 84
    have mono : q_mx (q_val 2) a k ≤ q_mx (q_val 2) a 84 := by
      have := q_mx_mono (g := (q_val 2)) (a := a) (k := k) (j := j + 1)
      rwa [show k + (j + 1) = 84 by omega] at this
    have nx := fun {Z : Mm} (R : RZ (Z 1) a) => ih (k + 1) f (Z := Z) (by omega) (by omega) R
    rw [s_X5_lookThree_L18, jn_eq, if_neg (show ¬ (84 : Int32) ≤ nI k from nI_ge (b := 84) hk84 (by decide))]
    by_cases c1 : (1 : Int32) ≤ iI (q_bt (q_mx (q_val 2) a k))
    · rw [if_pos c1]
      have h1 := (iI_le (a := 1) (by omega) (by omega)).mp c1
      have h2 : q_bt (q_mx (q_val 2) a k) = q_mx (q_val 2) a k := by
        unfold q_bt at h1 ⊢
        split at h1
        · omega
        · rename_i h; rw [if_neg h]
      rw [h2] at h1 ⊢
      have h3 : q_mx (q_val 2) a k = 1 := by omega
      have h4 : q_fin (q_mx (q_val 2) a 84) = 1 := by unfold q_fin; split <;> omega
      rw [h3, h4, if_neg (by decide)]
      exact ⟨Z, rfl, R, ZF.rf⟩
    · rw [if_neg c1, Z_poss R ok hk84, bd_some, ew]
      by_cases hp0 : q_hind a (q_num k) (q_plc k) = 0
      · rw [if_pos hp0] at em
        rw [if_pos hp0, if_neg (by decide)]
        obtain ⟨N, e1, R1, h6, h7, h8, F1⟩ := Z_ahead R ok hk84 (d := 3) (by decide) hp0
        have ok1 := q_ok_do ok n1 hp0
        obtain ⟨N', e3, R3, F3⟩ := Z_lookTwo R1 ok1
        have f3 := F3.2.2.2.2.2.2.2 3 (by decide)
        rw [show s_X5_ahead Z 3 (nI k) = _ from e1, bd_some, e3, bd_some]
        dsimp only
        rw [show s_X5_forMover N' 3 _ = _ from Z_fm (d := 3) (by decide) R3 (f3.1.trans h6), bd_some]
        obtain ⟨z2, e2, R2, S2⟩ := Z_back ok R.hc hk84 (d := 3) (by decide) hp0 R3 (f3.1.trans h6) (f3.2.1.trans h7) (f3.2.2.trans h8)
        rw [show s_X5_back N' 3 (nI k) = _ from e2, bd_some]
        have F2 : ZF 3 Z (mset N' 1 z2) := F1.tr ((F3.up (by decide)).tr (ZF.one S2))
        have R2 : RZ ((mset N' 1 z2) 1) a := R2
        generalize mset N' 1 z2 = N2 at R2 F2
        have hv := q_sv_r hg a k
        have esv : (if q_sd (q_do a (q_num k) (q_plc k)) = q_sd a then iI ((q_val 2) (q_do a (q_num k) (q_plc k))) else -(iI ((q_val 2) (q_do a (q_num k) (q_plc k))))) = iI (q_sv (q_val 2) a k) := by
          have : -1 ≤ (q_val 2) (q_do a (q_num k) (q_plc k)) ∧ (q_val 2) (q_do a (q_num k) (q_plc k)) ≤ 1 := hg (q_do a (q_num k) (q_plc k))
          unfold q_sv
          split
          · rfl
          · exact iI_neg (by omega)
        have h := nx R2
        rw [em] at h
        obtain ⟨Z3, e4, R4, F4⟩ := h
        rw [esv]
        by_cases c2 : q_sv (q_val 2) a k ≤ q_bt (q_mx (q_val 2) a k)
        · rw [if_pos ((iI_le (by omega) (by omega)).mpr c2), jn_eq, nI_1]
          have e5 : max (q_mx (q_val 2) a k) (q_sv (q_val 2) a k) = q_mx (q_val 2) a k := by
            unfold q_bt at c2
            split at c2 <;> omega
          rw [e5] at e4
          exact ⟨Z3, e4, R4, F2.tr F4⟩
        · rw [if_neg (fun h => c2 ((iI_le (by omega) (by omega)).mp h)), jn_eq, nI_1]
          have e5 : q_bt (max (q_mx (q_val 2) a k) (q_sv (q_val 2) a k)) = q_sv (q_val 2) a k := by
            unfold q_bt at c2 ⊢
            split at c2 <;> (rw [if_neg (by omega)]; omega)
          rw [e5] at e4
          exact ⟨Z3, e4, R4, F2.tr F4⟩
      · rw [if_neg hp0] at em
        rw [if_neg hp0, if_pos rfl, jn_eq, nI_1]
        have h := nx R
        rw [em] at h
        exact h
theorem Z_lookThree {a : Bd} {Z : Mm} (R : RZ (Z 1) a) (ok : q_ok a) : ∃ Z', s_X5_lookThree Z = some (iI (q_val 3 a), Z') ∧ RZ (Z' 1) a ∧ ZF 3 Z Z' := by
  unfold s_X5_lookThree
  rw [Z_over R ok, bd_some]
  by_cases c : q_out a = 0
  · have ev : q_val 3 a = q_fin (q_mx (q_val 2) a 84) := by show (if _ then _ else _) = _; rw [if_pos c]
    rw [if_pos c, if_pos rfl, ev]
    have h := Z_loop3 ok c 84 0 1000 rfl (by decide) R
    rw [show iI (q_bt (q_mx (q_val 2) a 0)) = (-10005 : Int32) from rfl, show nI 0 = (0 : Int32) from rfl] at h
    exact h
  · have ev : q_val 3 a = q_wi a := by show (if _ then _ else _) = _; rw [if_neg c]
    rw [if_neg c, if_neg (by decide), Z_told R ok, bd_some, q_wi_worth, ev]
    exact ⟨Z, rfl, R, ZF.rf⟩
theorem Z_looked {a : Bd} {Z : Mm} (R : RZ (Z 1) a) (ok : q_ok a) : ∀ {d : Nat}, d < 4 → ∃ Z', s_X5_looked Z (nI d) = some (iI (q_val d a), Z') ∧ RZ (Z' 1) a ∧ ZF d Z Z'
  | 0, _ => by
    unfold s_X5_looked
    rw [if_pos (show nI 0 = (0 : Int32) from rfl), Z_told R ok, bd_some, q_wi_worth]
    exact ⟨Z, rfl, R, ZF.rf⟩
  | 1, _ => by
    obtain ⟨Z', e, R', F⟩ := Z_lookOne R ok
    unfold s_X5_looked
    rw [if_neg (by decide), if_pos (show nI 1 = (1 : Int32) from rfl), e, bd_some]
    exact ⟨Z', rfl, R', F⟩
  | 2, _ => by
    obtain ⟨Z', e, R', F⟩ := Z_lookTwo R ok
    unfold s_X5_looked
    rw [if_neg (by decide), if_neg (by decide), if_pos (show nI 2 = (2 : Int32) from rfl), e, bd_some]
    exact ⟨Z', rfl, R', F⟩
  | 3, _ => by
    obtain ⟨Z', e, R', F⟩ := Z_lookThree R ok
    unfold s_X5_looked
    rw [if_neg (by decide), if_neg (by decide), if_neg (by decide), e, bd_some]
    exact ⟨Z', rfl, R', F⟩
  | d + 4, h => absurd h (by omega)
