/-! what is told anew behind each choice -/
/-- an answer 1 and a beam that tells the same -/
def q_ok1 (T : Nat → Mm) (a : Bd) (o : Option (Int32 × (Nat → Mm))) : Prop := ∃ B', o = some (1, tset T 1 B') ∧ RC B' a ∧ RS (T 1) B'
section
variable {T : Nat → Mm} {m b t : Nat → Int32} {a : Bd}
theorem t_lev (R : RT m b t a) {a5 a4 a3 : Nat → Int32} {w : Int32} : ∀ (j k fuel : Nat), k + j = 12 → j < fuel → s_L_tells_I592 fuel T a5 a4 a3 m b t (q_tu a) 1 w (q_lv a w k) (nI k) = some (q_lv a w 12) := by
  intro j
  induction j with
  | zero =>
    intro k fuel hk hf
    obtain ⟨f, rfl⟩ : ∃ f, fuel = f + 1 := ⟨fuel - 1, by omega⟩
    have hk : k = 12 := by omega
    subst hk
    rw [s_L_tells_I592, if_pos (show (12 : Int32) ≤ nI 12 from by decide)]
  | succ j ih =>
    intro k fuel hk hf
    obtain ⟨f, rfl⟩ : ∃ f, fuel = f + 1 := ⟨fuel - 1, by omega⟩
    have h := ih (k + 1) f (by omega) (by omega)
    have e : q_lv a w (k + 1) = if q_tu a + w * pz k = 0 ∧ nI (q_co a k).length < q_sg a 0 then pz k else q_lv a w k := rfl
    rw [s_L_tells_I592, if_neg (show ¬ (12 : Int32) ≤ nI k from nI_ge (b := 12) (by omega) (by decide)), (pz_tab k (by omega)).2.1, bd_some]
    dsimp only [jn]
    rw [bd_some, c48, rd_n (by omega) (by decide), bd_some, rd_e (i := 0) 0 rfl (by decide) (by decide), bd_some, (R.1.1 k (by omega)).2.1, R.1.2.2.1 0 (by omega), nI_1]
    by_cases c : q_tu a + w * pz k = 0
    · by_cases c2 : nI (q_co a k).length < q_sg a 0
      · rw [if_pos c, if_neg (Int32.not_le.mpr c2)]
        rw [e, if_pos ⟨c, c2⟩] at h
        exact h
      · rw [if_pos c, if_pos (Int32.not_lt.mp c2)]
        rw [e, if_neg (fun x => c2 x.2)] at h
        exact h
    · rw [if_neg c]
      rw [e, if_neg (fun x => c x.1)] at h
      exact h
theorem t_end3 (R : RT m b t a) (C : RC (T 1) a) {a5 a4 a3 : Nat → Int32} : ∀ (j w fuel : Nat), w + j = 6 → 1 ≤ w → j < fuel → s_L_tells_L577 fuel T a5 a4 a3 m b t (q_tu a) 1 (nI w) = some (1, T) := by
  intro j
  induction j with
  | zero =>
    intro w fuel hk h1 hf
    obtain ⟨f, rfl⟩ : ∃ f, fuel = f + 1 := ⟨fuel - 1, by omega⟩
    have hk : w = 6 := by omega
    subst hk
    rw [s_L_tells_L577, if_pos (show (6 : Int32) ≤ nI 6 from by decide), if_neg (show ¬ (1 : Int32) = 0 from by decide), show s_X4_bag T 0 0 = _ from K_bag0 C (i := 0) (by omega), bd_some, show s_L_all b 0 = _ from L_all R (i := 0) (by omega), bd_some, if_pos rfl, show s_X4_bag T 1 0 = _ from K_bag0 C (i := 1) (by omega), bd_some, show s_L_all b 1 = _ from L_all R (i := 1) (by omega), bd_some, if_pos rfl]
  | succ j ih =>
    intro w fuel hk h1 hf
    obtain ⟨f, rfl⟩ : ∃ f, fuel = f + 1 := ⟨fuel - 1, by omega⟩
    obtain ⟨v, rfl⟩ : ∃ v, w = v + 1 := ⟨w - 1, by omega⟩
    have h := ih (v + 1 + 1) f (by omega) (by omega) (by omega)
    have i0 : rd 10 b (nI (v + 1) - 1) = some (q_bg a 0 (v + 1)) := by
      rw [nI_pred, rd_n (by omega) (by decide)]
      have := R.1.2.1 0 (by omega) v (by omega)
      rw [show 5 * 0 + v = v by omega] at this
      rw [this]
    have i1 : rd 10 b (4 + nI (v + 1)) = some (q_bg a 1 (v + 1)) := by
      rw [show (4 : Int32) = nI 4 from rfl, nI_add, rd_n (by omega) (by decide)]
      have := R.1.2.1 1 (by omega) v (by omega)
      rw [show 5 * 1 + v = 4 + (v + 1) by omega] at this
      rw [this]
    have hl : s_L_tells_I592 1000 T a5 a4 a3 m b t (q_tu a) 1 (nI (v + 1)) (-10005) 0 = some (q_lv a (nI (v + 1)) 12) := t_lev R 12 0 1000 rfl (by omega)
    rw [s_L_tells_L577, if_neg (show ¬ (6 : Int32) ≤ nI (v + 1) from nI_ge (b := 6) (by omega) (by decide)), hl, bd_some]
    dsimp only [jn]
    rw [if_neg (show ¬ (1 : Int32) = 0 from by decide), K_levels C (by omega) (by omega), bd_some, if_pos rfl, show s_X4_bag T 0 (nI (v + 1)) = _ from K_bagw C (i := 0) (by omega) (by omega) (by omega), bd_some, i0, bd_some, if_pos rfl, show s_X4_bag T 1 (nI (v + 1)) = _ from K_bagw C (i := 1) (by omega) (by omega) (by omega), bd_some, i1, bd_some, if_pos rfl, nI_1]
    exact h
theorem t_end2 (R : RT m b t a) (C : RC (T 1) a) {a5 a4 a3 : Nat → Int32} : ∀ (j k fuel : Nat), k + j = 4 → j < fuel → s_L_tells_L534 fuel T a5 a4 a3 m b t (q_tu a) 1 (nI k) = some (1, T) := by
  intro j
  induction j with
  | zero =>
    intro k fuel hk hf
    obtain ⟨f, rfl⟩ : ∃ f, fuel = f + 1 := ⟨fuel - 1, by omega⟩
    have hk : k = 4 := by omega
    subst hk
    rw [s_L_tells_L534, if_pos (show (4 : Int32) ≤ nI 4 from by decide)]
    exact t_end3 R C 5 1 1000 rfl (by omega) (by omega)
  | succ j ih =>
    intro k fuel hk hf
    obtain ⟨f, rfl⟩ : ∃ f, fuel = f + 1 := ⟨fuel - 1, by omega⟩
    have h := ih (k + 1) f (by omega) (by omega)
    rw [s_L_tells_L534, if_neg (show ¬ (4 : Int32) ≤ nI k from nI_ge (b := 4) (by omega) (by decide))]
    dsimp only [jn]
    rw [if_neg (show ¬ (1 : Int32) = 0 from by decide), K_cntS C (by omega), bd_some, rd_n (by omega) (by decide), bd_some, R.1.2.2.1 k (by omega), if_pos rfl, nI_1]
    exact h
/-- what the law's row t says of the moves made -/
def q_cn (T : Nat → Mm) (t : Nat → Int32) (a : Bd) : Prop := T 1 0 11 = t 5 ∧ T 1 0 9 = t 6 ∧ t 6 + t 7 = q_tu a ∧ T 1 0 10 = t 8
theorem t_end1 (R : RT m b t a) (C : RC (T 1) a) (N : q_cn T t a) (f : Nat) (a5 a4 a3 : Nat → Int32) (c8 c9 : Int32) (h8 : c8 = nI (q_ct a 84)) (h9 : c9 = nI (q_sf a 84)) : q_ok1 T a (s_L_tells_L185 (f + 1) T a5 a4 a3 m b t (q_tk a 12) (q_ws a 12) c8 c9 (nI 84)) := by
  have ok := R.2.1
  obtain ⟨n1, n2, n3, n4⟩ := N
  obtain ⟨B', e1, R', S1⟩ := K_look C ok (d := 0) (by omega)
  have t4 := R.1.2.2.2.1
  have p8 := K_posn C ok
  have k8 := K_cnt8 C ok
  have k9 := K_cnt9 C ok
  have kl : s_X4_look T 0 = some (iI (q_wi a), tset T 1 B') := e1
  rw [← h8] at p8 k8
  rw [← h9] at k9
  have R2 : RC ((tset T 1 B') 1) a := by rw [ts_eq]; exact R'
  have fin : s_L_tells_L534 1000 (tset T 1 B') a5 a4 a3 m b t (q_tu a) 1 0 = some (1, tset T 1 B') := t_end2 R R2 4 0 1000 rfl (by omega)
  rw [s_L_tells_L185, if_pos (show (84 : Int32) ≤ nI 84 from by decide), L_turn R, bd_some, p8, bd_some, if_pos rfl, k8, bd_some, if_pos rfl, k9, bd_some, if_pos rfl, K_cnt0 C, bd_some, rd_e (i := 4) 4 rfl (by decide) (by decide), bd_some, t4, if_pos rfl, K_cnt1 C, bd_some, if_pos rfl, K_cnt2 C, bd_some, L_result R, bd_some, if_pos rfl, K_cnt3, bd_some, rd_e (i := 5) 5 rfl (by decide) (by decide), bd_some, if_pos n1, K_cnt4, bd_some, rd_e (i := 6) 6 rfl (by decide) (by decide), bd_some, if_pos n2, K_cnt5 C, bd_some, rd_e (i := 7) 7 rfl (by decide) (by decide), bd_some, if_pos (show q_tu a - T 1 0 9 = t 7 from by rw [n2, ← n3]; grind), bd_some, bd_some, if_pos n3, K_cnt6 C, bd_some, if_pos rfl, K_cnt7 C, bd_some, if_pos rfl, K_cnt10, bd_some, rd_e (i := 8) 8 rfl (by decide) (by decide), bd_some, if_pos n4, kl, bd_some, bd_some, told_wi R, bd_some]
  dsimp only
  rw [if_pos rfl, fin]
  exact ⟨B', rfl, R', S1⟩
theorem t_loop (R : RT m b t a) (C : RC (T 1) a) (N : q_cn T t a) : ∀ (j k fuel : Nat) (a5 a4 a3 : Nat → Int32), k + j = 84 → j < fuel → q_ok1 T a (s_L_tells_L185 fuel T a5 a4 a3 m b t (q_tk a 12) (q_ws a 12) (nI (q_ct a k)) (nI (q_sf a k)) (nI k)) := by
  have ok := R.2.1
  intro j
  induction j with
  | zero =>
    intro k fuel a5 a4 a3 hk hf
    obtain ⟨f, rfl⟩ : ∃ f, fuel = f + 1 := ⟨fuel - 1, by omega⟩
    have hk : k = 84 := by omega
    subst hk
    exact t_end1 R C N f a5 a4 a3 _ _ rfl rfl
  | succ j ih =>
    intro k fuel a5 a4 a3 hk hf
    obtain ⟨f, rfl⟩ : ∃ f, fuel = f + 1 := ⟨fuel - 1, by omega⟩
    have hk84 : k < 84 := by omega
    obtain ⟨-, -, -, -, hp, n1, n7⟩ := rank_tab k hk84
    obtain ⟨o1, -, o3, o4, o5, -⟩ := ord_tab k hk84
    have ec : q_ct a (k + 1) = if q_why a (q_num k) (q_plc k) = 0 then q_ct a k + 1 else q_ct a k := rfl
    have es : q_sf a (k + 1) = if q_why a (q_num k) (q_plc k) = 0 then (if iabs (q_tu (q_do a (q_num k) (q_plc k))) ≤ q_sg a 1 then q_sf a k + 1 else q_sf a k) else q_sf a k := rfl
    rw [s_L_tells_L185, if_neg (show ¬ (84 : Int32) ≤ nI k from nI_ge (b := 84) hk84 (by decide)), o1, bd_some, o3, bd_some, o4, bd_some, o5, L_why R n1 n7 hp, bd_some, bd_some, bd_some, o5, K_reason C ok n1 n7 hp, bd_some, if_pos rfl]
    refine jn_ind (P := fun K => q_ok1 T a (K ())) (Q := q_ok1 T a) ?_ ?_
    · dsimp only
      by_cases c : q_why a (q_num k) (q_plc k) = 0
      · rw [if_pos c, jn_eq]
        obtain ⟨m1, b1, t1, e1, e2, e3, R1⟩ := L_copies R a3 a4 a5
        obtain ⟨m2, b2, t2, e4, R2, -⟩ := L_move R1 n1 n7 hp (why_hind c)
        rw [e1, bd_some, e2, bd_some, e3, bd_some, bd_some, bd_some, o5, e4, bd_some]
        dsimp only
        rw [L_turn R2, bd_some, rd_e (i := 1) 1 rfl (by decide) (by decide), bd_some, bd_some, R.1.2.2.1 1 (by omega), nI_1]
        obtain ⟨l, hl, el⟩ := ok.2.2.2.2.1
        have hab := abs_law (x := q_tu (q_do a (q_num k) (q_plc k))) (t := q_sg a 1) (by rw [el]; exact nI_pos' (by omega))
        rw [if_pos c] at ec es
        have h := ih (k + 1) f t2 b2 m2 (by omega) (by omega)
        rw [ec] at h
        by_cases c1 : q_sg a 1 < q_tu (q_do a (q_num k) (q_plc k))
        · rw [if_pos c1, jn_eq, jn_eq, nI_1, Int32.add_zero]
          rw [es, if_neg (fun x => (hab.mp x).1 c1)] at h
          exact h
        · rw [if_neg c1]
          by_cases c2 : q_sg a 1 < -q_tu (q_do a (q_num k) (q_plc k))
          · rw [if_pos c2, jn_eq, jn_eq, nI_1, Int32.add_zero]
            rw [es, if_neg (fun x => Int32.not_lt.mpr (hab.mp x).2 c2)] at h
            exact h
          · rw [if_neg c2, jn_eq, jn_eq, nI_1, nI_1]
            rw [es, if_pos (hab.mpr ⟨c1, Int32.not_lt.mp c2⟩)] at h
            exact h
      · rw [if_neg c, jn_eq, nI_1]
        rw [if_neg c] at ec es
        have h := ih (k + 1) f a5 a4 a3 (by omega) (by omega)
        rw [ec, es] at h
        exact h
    · intro K hK
      by_cases c : q_why a (q_num k) (q_plc k) = 0
      · rw [if_pos c, K_poss C ok hk84 c, bd_some, if_pos rfl]
        exact hK
      · rw [if_neg c]
        exact hK
theorem t_sum (R : RT m b t a) {x4 x5 : Int32} {k : Nat} (hk : k < 12) : ∀ (j l fuel : Nat), l + j = (q_co a k).length → j < fuel → s_L_tells_I31 fuel T m b t x4 x5 (nI k) (nI (q_co a k).length) (q_sm (fun i => m (4 * k + i)) l) (nI l) = some (q_su (q_co a k)) := by
  obtain ⟨h4, -, hs⟩ := R.1.1 k hk
  rw [(congrArg q_su hs).symm.trans (su_stk _)]
  generalize (q_co a k).length = h at h4
  intro j
  induction j with
  | zero =>
    intro l fuel hl hf
    obtain ⟨f, rfl⟩ : ∃ f, fuel = f + 1 := ⟨fuel - 1, by omega⟩
    have hl : l = h := by omega
    subst hl
    rw [s_L_tells_I31, if_pos (Int32.le_refl _)]
  | succ j ih =>
    intro l fuel hl hf
    obtain ⟨f, rfl⟩ : ∃ f, fuel = f + 1 := ⟨fuel - 1, by omega⟩
    rw [s_L_tells_I31, if_neg (nI_ge (by omega) (by omega)), show (4 : Int32) = nI 4 from rfl, pk_mul, nI_add, rd_n (by omega) (by decide), bd_some, jn_eq, jn_eq, nI_1]
    exact ih (l + 1) f (by omega) (by omega)
theorem t_cols (R : RT m b t a) (C : RC (T 1) a) (N : q_cn T t a) : ∀ (j k fuel : Nat), k + j = 12 → j < fuel → q_ok1 T a (s_L_tells_L9 fuel T m b t (q_tk a k) (q_ws a k) (nI k)) := by
  intro j
  induction j with
  | zero =>
    intro k fuel hk hf
    obtain ⟨f, rfl⟩ : ∃ f, fuel = f + 1 := ⟨fuel - 1, by omega⟩
    have hk : k = 12 := by omega
    subst hk
    rw [s_L_tells_L9, if_pos (show (12 : Int32) ≤ nI 12 from by decide)]
    exact t_loop R C N 84 0 1000 zr zr zr rfl (by omega)
  | succ j ih =>
    intro k fuel hk hf
    obtain ⟨f, rfl⟩ : ∃ f, fuel = f + 1 := ⟨fuel - 1, by omega⟩
    have hk12 : k < 12 := by omega
    obtain ⟨hp, hpl, hs⟩ := pz_tab k hk12
    obtain ⟨h4, h5, h6⟩ := R.1.1 k hk12
    have e0 : s_L_tells_I31 1000 T m b t (q_tk a k) (q_ws a k) (nI k) (nI (q_co a k).length) 0 0 = some (q_su (q_co a k)) := t_sum R hk12 _ 0 1000 (Nat.zero_add _) (by omega)
    have a0 := K_at0 C hp
    have a1 := K_at1 C hp
    have a2 := K_at2 C hp
    have a3 := K_at3 C hp
    rw [hs] at a0 a1 a2 a3
    rw [s_L_tells_L9, if_neg (show ¬ (12 : Int32) ≤ nI k from nI_ge (b := 12) hk12 (by decide)), c48, rd_n (by omega) (by decide), bd_some, h5, e0, bd_some, hpl, bd_some, a0, bd_some, if_pos rfl, a1, bd_some, if_pos rfl, a2, bd_some]
    have fin : ∀ v : Int32, v = q_up (q_co a k) → q_ok1 T a (if q_up (q_co a k) = v then Option.bind (s_X4_at T (pz k) (3 : Int32)) fun v134 => if v134 = (q_su (q_co a k) * pz k) then jn (q_tk a k + nI (q_co a k).length) fun v136 => jn (q_ws a k + q_su (q_co a k)) fun v137 => jn (nI k + (1 : Int32)) fun v138 => s_L_tells_L9 f T m b t v136 v137 v138 else some ((0 : Int32), T) else some ((0 : Int32), T)) := by
      rintro v rfl
      rw [if_pos rfl, a3, bd_some, if_pos rfl, jn_eq, jn_eq, jn_eq, nI_1]
      exact ih (k + 1) f (by omega) (by omega)
    refine jn_ind (P := fun K => ∀ v : Int32, v = q_up (q_co a k) → q_ok1 T a (K v)) (Q := q_ok1 T a) fin ?_
    intro K hK
    cases e : q_co a k with
    | nil =>
      rw [if_pos (show nI (List.length ([] : List Int32)) = 0 from nI_0)]
      exact hK _ (by rw [e]; rfl)
    | cons w r =>
      rw [e] at h4 h6
      have h4' : r.length + 1 ≤ 4 := h4
      have h6' : m (4 * k + r.length) :: stk (fun l => m (4 * k + l)) r.length = w :: r := h6
      rw [if_neg (nI_ne0 (n := (w :: r).length) (Nat.succ_pos _) (by omega)), show (4 : Int32) = nI 4 from rfl, pk_mul, nI_add, show 4 * k + (w :: r).length = 4 * k + r.length + 1 from rfl, nI_pred, rd_n (by omega) (by decide), bd_some]
      exact hK _ (by rw [e, (List.cons.inj h6').1]; rfl)
theorem L_tells (R : RT m b t a) (C : RC (T 1) a) (N : q_cn T t a) : q_ok1 T a (s_L_tells T m b t) := t_cols R C N 12 0 1000 rfl (by omega)
end
