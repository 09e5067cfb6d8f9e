/-! one move on both sides -/
theorem RZ.hi {z : Nat → Int32} {a : Bd} (R : RZ z a) {k : Nat} {x : Int32} (h : k = 6 ∨ k = 7 ∨ k = 8 ∨ k = 9 ∨ k = 12) : RZ (upd z k x) a := by
  obtain ⟨r1, r2, r3, r4, r5, r6, r7⟩ := R
  refine ⟨fun s hs => ?_, fun i hi w h1 h5 => ?_, fun j hj => (up_ne (by omega)).trans (r3 j hj), (up_ne (by omega)).trans r4, (up_ne (by omega)).trans r5, (up_ne (by omega)).trans r6, (up_ne (by omega)).trans r7⟩
  · obtain ⟨q1, q2, q3⟩ := r1 s hs
    refine ⟨q1, (up_ne (by omega)).trans q2, ?_⟩
    rw [stk_congr (g := fun l => z (24 + 5 * s + l)) (fun l hl => up_ne (by omega))]
    exact q3
  · exact (up_ne (by omega)).trans (r2 i hi w h1 h5)
theorem RZ.lr {z : Nat → Int32} {a : Bd} (R : RZ z a) {L : Nat} {s x1 x2 t : Int32} : RZ (LR z L s x1 x2 t) a :=
  RZ_congr (R.hi (k := 12) (x := nI (L + 1)) (by omega)) (fun k hk => by
    by_cases c : k = 12
    · rw [c, LR_hi.1, up_eq]
    · rw [LR_lo (by omega) c, up_ne c])
theorem Z_move {a : Bd} {Z : Mm} {z : Nat → Int32} {L n : Nat} {p : Int32} (R : RZ z a) (ok : q_ok a) (hL : L ≤ 40) (h12 : z 12 = nI L) (h1 : 1 ≤ n) (h7 : n ≤ 7) (hp : p ∈ pls) (hh : q_hind a n p = 0) :
    ∃ z', s_X5_moveIt (mset Z 1 z) (nI n) p = some (q_tu (q_do a n p), mset Z 1 z') ∧ RZ z' (q_do a n p) ∧ z' 6 = z 6 + 1 ∧ z' 7 = z 7 + q_tell a n p ∧ z' 8 = z 8 ∧ z' 9 = imax (z 9) (iabs (q_tu (q_do a n p))) ∧ z' 12 = nI (min L 39 + 1) ∧
      (z' (83 + 4 * min L 39) = q_sd a ∧ z' (83 + 4 * min L 39 + 1) = nI n ∧ z' (83 + 4 * min L 39 + 2) = p ∧ z' (83 + 4 * min L 39 + 3) = q_tell a n p) ∧ ∀ i, i < 4 * min L 39 → z' (83 + i) = if L = 40 then z (83 + i + 4) else z (83 + i) := by
  obtain ⟨z1, e1, R1, S1⟩ := Z_change (Z := Z) R ok h1 h7 hp hh
  unfold s_X5_moveIt
  rw [ms_eq, rd_e (i := 4) 4 rfl (by decide) (by decide), bd_some, rd_e (i := 5) 5 rfl (by decide) (by decide), bd_some, e1, bd_some, ms_eq, rd_e (i := 5) 5 rfl (by decide) (by decide), bd_some, R.2.2.2.1, R.2.2.2.2.2.2, R1.2.2.2.2.2.2,
    show q_tu (q_do a n p) - q_tu a = q_tell a n p from by rw [tell_tu]; grind, jn_eq, rd_e (i := 6) 6 rfl (by decide) (by decide), bd_some, wr1e (i := 6) 6 rfl (by decide) (by decide), bd_some, ms_eq, rd_e (i := 7) 7 rfl (by decide) (by decide), bd_some, up_ne (by omega), wr1e (i := 7) 7 rfl (by decide) (by decide), bd_some, ms_eq, rd_e (i := 5) 5 rfl (by decide) (by decide), bd_some, up_ne (by omega), up_ne (by omega), R1.2.2.2.2.2.2, Z_size, bd_some, rd_e (i := 9) 9 rfl (by decide) (by decide), bd_some, up_ne (by omega), up_ne (by omega), S1 6 (by omega), S1 7 (by omega), S1 9 (by omega), jn_eq]
  generalize hz2 : upd (upd z1 6 (z 6 + 1)) 7 (z 7 + q_tell a n p) = z2
  have R2 : RZ z2 (q_do a n p) := by subst hz2; exact (R1.hi (by omega)).hi (by omega)
  have key : ∀ v17 : Int32, v17 = imax (z 9) (iabs (q_tu (q_do a n p))) → ∃ z3, (Option.bind (wr 243 (mset Z 1 z2) 1 (9 : Int32) v17) fun N18 =>
      Option.bind (rd 243 (N18 1) (12 : Int32)) fun v19 =>
      jn (fun (_ : Unit) =>
        Option.bind (rd 243 (N18 1) (12 : Int32)) fun v21 =>
        jn ((83 : Int32) + ((4 : Int32) * v21)) fun v22 =>
        Option.bind (wr 243 N18 1 v22 (q_sd a)) fun N23 =>
        Option.bind (wr 243 N23 1 (v22 + (1 : Int32)) (nI n)) fun N24 =>
        Option.bind (wr 243 N24 1 (v22 + (2 : Int32)) p) fun N25 =>
        Option.bind (wr 243 N25 1 (v22 + (3 : Int32)) (q_tell a n p)) fun N26 =>
        Option.bind (rd 243 (N26 1) (12 : Int32)) fun v27 =>
        Option.bind (wr 243 N26 1 (12 : Int32) (v27 + (1 : Int32))) fun N28 =>
        Option.bind (rd 243 (N28 1) (5 : Int32)) fun v29 =>
        some (v29, N28)) fun k20 =>
      if v19 = (40 : Int32) then
        s_X5_moveIt_L115 1000 N18 (nI n) p (q_sd a) (q_tell a n p) (0 : Int32)
      else
      k20 ()) = some (q_tu (q_do a n p), mset Z 1 (LR z3 (min L 39) (q_sd a) (nI n) p (q_tell a n p))) ∧ RZ z3 (q_do a n p) ∧ z3 6 = z 6 + 1 ∧ z3 7 = z 7 + q_tell a n p ∧ z3 8 = z 8 ∧ z3 9 = imax (z 9) (iabs (q_tu (q_do a n p))) ∧ ∀ i, i < 4 * min L 39 → z3 (83 + i) = if L = 40 then z (83 + i + 4) else z (83 + i) := by
    intro v hv
    have hz3 : ∀ k, k ≠ 6 → k ≠ 7 → k ≠ 9 → upd z2 9 v k = z1 k := fun k h6 h7 h9 => by
      subst hz2
      rw [up_ne h9, up_ne h7, up_ne h6]
    have i12 : upd z2 9 v 12 = nI L := (hz3 12 (by omega) (by omega) (by omega)).trans ((S1 12 (by omega)).trans h12)
    have R3 : RZ (upd z2 9 v) (q_do a n p) := R2.hi (by omega)
    have i6 : upd z2 9 v 6 = z 6 + 1 := by subst hz2; rfl
    have i7 : upd z2 9 v 7 = z 7 + q_tell a n p := by subst hz2; rfl
    have i8 : upd z2 9 v 8 = z 8 := (hz3 8 (by omega) (by omega) (by omega)).trans (S1 8 (by omega))
    have ihi : ∀ k, 83 ≤ k → upd z2 9 v k = z k := fun k hk => (hz3 k (by omega) (by omega) (by omega)).trans (S1 k (by omega))
    have i9 : upd z2 9 v 9 = v := up_eq _ _ _
    rw [wr1e (i := 9) 9 rfl (by decide) (by decide), bd_some]
    generalize upd z2 9 v = z3 at R3 i12 i6 i7 i8 i9 ihi
    rw [ms_eq, rd_e (i := 12) 12 rfl (by decide) (by decide), bd_some, i12, jn_eq]
    by_cases c : L = 40
    · subst c
      rw [if_pos (show nI 40 = 40 from rfl)]
      obtain ⟨z4, e, h4⟩ := log_full (x1 := nI n) (x2 := p) (s := q_sd a) (t := q_tell a n p) (Z := Z) 156 0 1000 (z := z3) rfl (by omega) i12
      refine ⟨z4, e.trans ?_, RZ_congr (R3.hi (k := 12) (x := nI 39) (by omega)) (fun k hk => ?_), ?_, ?_, ?_, ?_, fun i hi => ?_⟩
      · rw [R3.2.2.2.2.2.2, show min 40 39 = 39 from rfl]
      · rw [h4, up_ap]
        by_cases c : k = 12
        · rw [if_pos c, if_pos c]
        · rw [if_neg c, if_neg c, if_neg (by omega)]
      · rw [h4, if_neg (by omega), if_neg (by omega), i6]
      · rw [h4, if_neg (by omega), if_neg (by omega), i7]
      · rw [h4, if_neg (by omega), if_neg (by omega), i8]
      · rw [h4, if_neg (by omega), if_neg (by omega), i9, hv]
      · rw [h4, if_neg (by omega), if_pos (by omega), if_pos rfl, ihi _ (by omega)]
    · have hm : min L 39 = L := by omega
      rw [if_neg (show ¬ nI L = 40 from fun e => c ((nI_eq (a := L) (b := 40) (by omega) (by omega)).mp e)), hm]
      have e := log_row (Z := Z) (x1 := nI n) (x2 := p) (s := q_sd a) (t := q_tell a n p) (show L < 40 by omega) i12
      rw [ms_eq, rd_e (i := 12) 12 rfl (by decide) (by decide), i12] at e
      refine ⟨z3, e.trans ?_, R3, i6, i7, i8, i9.trans hv, fun i hi => ?_⟩
      · rw [R3.2.2.2.2.2.2]
      · rw [if_neg c, ihi _ (by omega)]
  have fin : ∀ {o : Option (Int32 × Mm)}, (∃ z3, o = some (q_tu (q_do a n p), mset Z 1 (LR z3 (min L 39) (q_sd a) (nI n) p (q_tell a n p))) ∧ RZ z3 (q_do a n p) ∧ z3 6 = z 6 + 1 ∧ z3 7 = z 7 + q_tell a n p ∧ z3 8 = z 8 ∧ z3 9 = imax (z 9) (iabs (q_tu (q_do a n p))) ∧ ∀ i, i < 4 * min L 39 → z3 (83 + i) = if L = 40 then z (83 + i + 4) else z (83 + i)) →
      ∃ z', o = some (q_tu (q_do a n p), mset Z 1 z') ∧ RZ z' (q_do a n p) ∧ z' 6 = z 6 + 1 ∧ z' 7 = z 7 + q_tell a n p ∧ z' 8 = z 8 ∧ z' 9 = imax (z 9) (iabs (q_tu (q_do a n p))) ∧ z' 12 = nI (min L 39 + 1) ∧
      (z' (83 + 4 * min L 39) = q_sd a ∧ z' (83 + 4 * min L 39 + 1) = nI n ∧ z' (83 + 4 * min L 39 + 2) = p ∧ z' (83 + 4 * min L 39 + 3) = q_tell a n p) ∧ ∀ i, i < 4 * min L 39 → z' (83 + i) = if L = 40 then z (83 + i + 4) else z (83 + i) := by
    rintro o ⟨z3, e, R3, i6, i7, i8, i9, ih⟩
    obtain ⟨l12, l0, l1, l2, l3⟩ := LR_hi (z := z3) (L := min L 39) (s := q_sd a) (x1 := nI n) (x2 := p) (t := q_tell a n p)
    refine ⟨_, e, R3.lr, ?_, ?_, ?_, ?_, l12, ⟨l0, l1, l2, l3⟩, fun i hi => ?_⟩
    · rw [LR_lo (by omega) (by omega), i6]
    · rw [LR_lo (by omega) (by omega), i7]
    · rw [LR_lo (by omega) (by omega), i8]
    · rw [LR_lo (by omega) (by omega), i9]
    · rw [LR_lo (by omega) (by omega), ih i hi]
  by_cases c : iabs (q_tu (q_do a n p)) ≤ z 9
  · rw [if_pos c]
    rw [bd_some]
    exact fin (key _ (by rw [mx_eq, if_pos c]))
  · rw [if_neg c]
    rw [bd_some, Z_size, bd_some]
    exact fin (key _ (by rw [mx_eq, if_neg c]))
