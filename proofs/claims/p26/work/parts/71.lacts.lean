/-! choices: a new beginning, settings, bags, tokens put -/
section
variable {xs : Nat → Int32} {LL : Nat} {T : Nat → Mm} {m b t : Nat → Int32} {a : Bd}
def q_X (a : Bd) (k : Nat) : Int32 := if k ≤ 48 then 0 else q_tk a (k - 48)
theorem L_zero (R : RT m b t a) {a6 a5 a4 a3 a2 a1 : Nat → Int32} {x9 : Int32} : ∀ (j k fuel : Nat) (m0 : Nat → Int32), k + j = 60 → j < fuel → (∀ i, k ≤ i → i < 60 → m0 i = m i) → ∃ m', s_L_law_I831 xs LL fuel T a6 a5 a4 a3 a2 a1 m0 x9 (q_X a k) (nI k) = some (q_tk a 12, m') ∧ ∀ i, i < 60 → m' i = if i < k then m0 i else 0 := by
  intro j
  induction j with
  | zero =>
    intro k fuel m0 hk hf hm
    obtain ⟨f, rfl⟩ : ∃ f, fuel = f + 1 := ⟨fuel - 1, by omega⟩
    have hk : k = 60 := by omega
    subst hk
    rw [s_L_law_I831, if_pos (show (60 : Int32) ≤ nI 60 from by decide)]
    exact ⟨m0, rfl, fun i hi => by rw [if_pos hi]⟩
  | succ j ih =>
    intro k fuel m0 hk hf hm
    obtain ⟨f, rfl⟩ : ∃ f, fuel = f + 1 := ⟨fuel - 1, by omega⟩
    rw [s_L_law_I831, if_neg (show ¬ (60 : Int32) ≤ nI k from nI_ge (b := 60) (by omega) (by decide))]
    obtain ⟨m', e, hm'⟩ := ih (k + 1) f (upd m0 k 0) (by omega) (by omega) (fun i h1 h2 => by rw [up_ne (by omega)]; exact hm i (by omega) h2)
    have fin : ∀ v : Int32, q_X a k + v = q_X a (k + 1) → ∃ m', (jn (q_X a k + v) fun v14 => Option.bind (wr1 60 m0 (nI k) (0 : Int32)) fun A15 => jn (nI k + (1 : Int32)) fun v16 => s_L_law_I831 xs LL f T a6 a5 a4 a3 a2 a1 A15 x9 v14 v16) = some (q_tk a 12, m') ∧ ∀ i, i < 60 → m' i = if i < k then m0 i else 0 := by
      intro v hv
      rw [jn_eq, wr1_n (by omega) (by decide), bd_some, jn_eq, nI_1, hv]
      refine ⟨m', e, fun i hi => ?_⟩
      rw [hm' i hi, up_ap]
      by_cases c1 : i = k
      · rw [if_pos (by omega), if_pos c1, if_neg (by omega)]
      · by_cases c2 : i < k
        · rw [if_pos (by omega), if_neg c1, if_pos c2]
        · rw [if_neg (by omega), if_neg c2]
    refine jn_ind (P := fun (K : Int32 → Option (Int32 × (Nat → Int32))) => ∀ v : Int32, q_X a k + v = q_X a (k + 1) → ∃ m', K v = some (q_tk a 12, m') ∧ ∀ i, i < 60 → m' i = if i < k then m0 i else 0) (Q := fun (o : Option (Int32 × (Nat → Int32))) => ∃ m', o = some (q_tk a 12, m') ∧ ∀ i, i < 60 → m' i = if i < k then m0 i else 0) fin ?_
    intro K hK
    by_cases c : 48 ≤ k
    · obtain ⟨s, rfl⟩ : ∃ s, k = 48 + s := ⟨k - 48, by omega⟩
      rw [if_pos (show (48 : Int32) ≤ nI (48 + s) from nI_le (a := 48) c (by omega)), rd_n (by omega) (by decide), bd_some]
      refine hK _ ?_
      rw [hm _ (by omega) (by omega), (R.1.1 s (by omega)).2.1]
      unfold q_X
      rw [if_neg (show ¬ 48 + s + 1 ≤ 48 by omega), show 48 + s + 1 - 48 = s + 1 by omega]
      by_cases c2 : s = 0
      · subst c2
        rw [if_pos (by omega)]
        rfl
      · rw [if_neg (by omega), show 48 + s - 48 = s by omega]
        rfl
    · rw [if_neg (show ¬ (48 : Int32) ≤ nI k from nI_ge (b := 48) (by omega) (by omega))]
      refine hK _ ?_
      unfold q_X
      rw [if_pos (by omega), if_pos (by omega)]
      rfl
theorem L_fresh {a6 a5 a4 a3 a1 a0 : Nat → Int32} {x9 x14 : Int32} : ∀ (j k fuel : Nat) (t0 : Nat → Int32), k + j = 11 → j < fuel → ∃ t', s_L_law_I872 xs LL fuel T a6 a5 a4 a3 t0 a1 a0 x9 x14 (nI k) = some t' ∧ ∀ i, t' i = if k ≤ i ∧ i < 11 then (if i = 9 then 1 else 0) else t0 i := by
  intro j
  induction j with
  | zero =>
    intro k fuel t0 hk hf
    obtain ⟨f, rfl⟩ : ∃ f, fuel = f + 1 := ⟨fuel - 1, by omega⟩
    have hk : k = 11 := by omega
    subst hk
    rw [s_L_law_I872, if_pos (show (11 : Int32) ≤ nI 11 from by decide)]
    exact ⟨t0, rfl, fun i => by rw [if_neg (by omega)]⟩
  | succ j ih =>
    intro k fuel t0 hk hf
    obtain ⟨f, rfl⟩ : ∃ f, fuel = f + 1 := ⟨fuel - 1, by omega⟩
    rw [s_L_law_I872, if_neg (show ¬ (11 : Int32) ≤ nI k from nI_ge (b := 11) (by omega) (by decide))]
    have fin : ∀ v : Int32, v = (if k = 9 then 1 else 0) → ∃ t', (Option.bind (wr1 11 t0 (nI k) v) fun A24 => jn (nI k + (1 : Int32)) fun v25 => s_L_law_I872 xs LL f T a6 a5 a4 a3 A24 a1 a0 x9 x14 v25) = some t' ∧ ∀ i, t' i = if k ≤ i ∧ i < 11 then (if i = 9 then 1 else 0) else t0 i := by
      intro v hv
      rw [wr1_n (by omega) (by decide), bd_some, jn_eq, nI_1]
      obtain ⟨t', e, ht'⟩ := ih (k + 1) f (upd t0 k v) (by omega) (by omega)
      refine ⟨t', e, fun i => ?_⟩
      rw [ht' i, up_ap]
      by_cases c1 : i = k
      · rw [if_neg (by omega), if_pos c1, if_pos (by omega), hv, c1]
      · by_cases c2 : k + 1 ≤ i ∧ i < 11
        · rw [if_pos c2, if_pos (show k ≤ i ∧ i < 11 by omega)]
        · rw [if_neg c2, if_neg c1, if_neg (by omega)]
    refine jn_ind (P := fun (K : Int32 → Option (Nat → Int32)) => ∀ v : Int32, v = (if k = 9 then 1 else 0) → ∃ t', K v = some t' ∧ ∀ i, t' i = if k ≤ i ∧ i < 11 then (if i = 9 then 1 else 0) else t0 i) (Q := fun (o : Option (Nat → Int32)) => ∃ t', o = some t' ∧ ∀ i, t' i = if k ≤ i ∧ i < 11 then (if i = 9 then 1 else 0) else t0 i) fin ?_
    intro K hK
    by_cases c : k = 9
    · rw [if_pos (show nI k = 9 from by rw [c]; rfl)]
      exact hK 1 (by rw [if_pos c])
    · rw [if_neg (show ¬ nI k = 9 from fun e => c ((nI_eq (b := 9) (by omega) (by omega)).mp e))]
      exact hK 0 (by rw [if_neg c])
theorem tsn_emp : ∀ n, q_tsn (q_emp a) n = 0
  | 0 => rfl
  | n + 1 => by
    show q_tsn (q_emp a) n + q_su [] * pz n = 0
    rw [tsn_emp n]
    show (0 : Int32) + 0 * pz n = 0
    rw [Int32.zero_mul, Int32.add_zero]
theorem A_begin {e : Nat} {l0 l1 l2 l3 a6 a5 a4 a3 : Nat → Int32} {x9 : Int32} (h : LI e T m b t l0 l1 l2 l3) : ∃ m' t' r T', s_L_law_I831 xs LL 1000 T a6 a5 a4 a3 t b m x9 (0 : Int32) (0 : Int32) = some (r, m') ∧ s_L_law_I872 xs LL 1000 T a6 a5 a4 a3 t b m' x9 r (4 : Int32) = some t' ∧ s_X4_begin T = some (r, T') ∧ LI (e + 1) T' m' b t' l0 l1 l2 l3 := by
  obtain ⟨a, mc, C, R, H, hmc, h11, t5, h9, h67, h10, h8, G⟩ := h
  obtain ⟨m', e1, hm'⟩ := L_zero (xs := xs) (LL := LL) (T := T) R (a6 := a6) (a5 := a5) (a4 := a4) (a3 := a3) (a2 := t) (a1 := b) (x9 := x9) 60 0 1000 m rfl (by omega) (fun _ _ _ => rfl)
  obtain ⟨t', e2, ht'⟩ := L_fresh (xs := xs) (LL := LL) (T := T) (a6 := a6) (a5 := a5) (a4 := a4) (a3 := a3) (a1 := b) (a0 := m') (x9 := x9) (x14 := q_tk a 12) 7 4 1000 t rfl (by omega)
  obtain ⟨T', e3, H', C', k9, k10, k11⟩ := K_begin C H
  refine ⟨m', t', q_tk a 12, T', e1, e2, e3, q_emp a, 0, C', ⟨⟨fun s hs => ⟨Nat.zero_le _, ?_, rfl⟩, R.1.2.1, fun k hk => ?_, ?_, ?_, ?_⟩, q_ok_emp R.2.1, ?_⟩, H', Nat.zero_le _, k11, ?_, ?_, ?_, ?_, ?_, fun i _ h2 => absurd h2 (Nat.not_lt_zero _)⟩
  · rw [hm' _ (by omega), if_neg (by omega)]
    rfl
  · rw [ht', if_neg (by omega)]
    exact R.1.2.2.1 k hk
  · rw [ht', if_pos (by omega), if_neg (by omega)]
    rfl
  · rw [ht', if_pos (by omega), if_pos rfl]
    rfl
  · rw [ht', if_pos (by omega), if_neg (by omega)]
    rfl
  · exact tsn_emp 12
  · rw [ht', if_pos (by omega), if_neg (by omega)]
    rfl
  · rw [ht', if_pos (by omega), if_neg (by omega)]
    exact k9
  · rw [ht', ht', if_pos (by omega), if_neg (by omega), if_pos (by omega), if_neg (by omega)]
    rfl
  · rw [ht', if_pos (by omega), if_neg (by omega)]
    exact k10
  · rw [ht', if_pos (by omega), if_neg (by omega)]
    exact Int32.le_refl _
theorem A_set {e k d : Nat} {l0 l1 l2 l3 : Nat → Int32} (h : LI e T m b t l0 l1 l2 l3) (hk : k < 4) (h1 : s_mn k ≤ d) (h2 : d ≤ s_mx k) : ∃ r T', s_X4_set T (nI k) (nI d) = some (r, T') ∧ r = (if t k = nI d then -10005 else t k) ∧ LI (e + 1) T' m b (upd t k (nI d)) l0 l1 l2 l3 := by
  obtain ⟨a, mc, C, R, H, hmc, h11, t5, h9, h67, h10, h8, G⟩ := h
  obtain ⟨f1, f2⟩ := K_set C H hk h1 h2
  have tk : t k = q_sg a k := R.1.2.2.1 k hk
  have q5 : upd t k (nI d) 5 = t 5 := up_ne (by omega)
  have q6 : upd t k (nI d) 6 = t 6 := up_ne (by omega)
  have q7 : upd t k (nI d) 7 = t 7 := up_ne (by omega)
  have q8 : upd t k (nI d) 8 = t 8 := up_ne (by omega)
  by_cases c : q_sg a k = nI d
  · refine ⟨_, _, f1 c, by rw [if_pos (tk.trans c)], a, mc, C, RT_congr R (fun _ _ => rfl) (fun _ _ => rfl) (fun j hj _ => ?_), H, by omega, h11, q5.trans t5, h9.trans q6.symm, by rw [q6, q7]; exact h67, h10.trans q8.symm, by rw [q8]; exact h8, G⟩
    rw [up_ap]
    by_cases cj : j = k
    · rw [if_pos cj, cj, tk, c]
    · rw [if_neg cj]
  · obtain ⟨T', e1, H', C', s1, s2, s3, s4⟩ := f2 c
    refine ⟨_, T', e1, by rw [if_neg (by rw [tk]; exact c), tk], q_set a k (nI d), mc, C', ⟨⟨R.1.1, R.1.2.1, fun j hj => ?_, ?_, ?_, ?_⟩, q_ok_set R.2.1 hk h1 h2, ?_⟩, H', by omega, s4.trans h11, q5.trans t5, (s2.trans h9).trans q6.symm, by rw [q6, q7]; exact h67, (s3.trans h10).trans q8.symm, by rw [q8]; exact h8, fun i g1 g2 => by rw [s1]; exact G i g1 g2⟩
    · show upd t k (nI d) j = upd (q_sg a) k (nI d) j
      rw [up_ap, up_ap, R.1.2.2.1 j hj]
    · exact (up_ne (by omega)).trans R.1.2.2.2.1
    · exact (up_ne (by omega)).trans R.1.2.2.2.2.1
    · exact (up_ne (by omega)).trans R.1.2.2.2.2.2
    · have : q_ts (q_set a k (nI d)) = q_ts a := tsn_congr (fun _ => rfl) 12
      rw [this, R.2.2]
      rfl
theorem A_setBag {e i w d : Nat} {l0 l1 l2 l3 : Nat → Int32} (h : LI e T m b t l0 l1 l2 l3) (hi : i < 2) (hw : w < 5) (hd : d ≤ 6) : ∃ r T', s_X4_setBag T (nI i) (nI (w + 1)) (nI d) = some (r, T') ∧ r = (if b (5 * i + w) = nI d then -10005 else b (5 * i + w)) ∧ LI (e + 1) T' m (upd b (5 * i + w) (nI d)) t l0 l1 l2 l3 := by
  obtain ⟨a, mc, C, R, H, hmc, h11, t5, h9, h67, h10, h8, G⟩ := h
  obtain ⟨f1, f2⟩ := K_setBag C H hi (show 1 ≤ w + 1 by omega) (show w + 1 ≤ 5 by omega) hd
  have bk : b (5 * i + w) = q_bg a i (w + 1) := R.1.2.1 i hi w hw
  by_cases c : q_bg a i (w + 1) = nI d
  · refine ⟨_, _, f1 c, by rw [if_pos (bk.trans c)], a, mc, C, RT_congr R (fun _ _ => rfl) (fun j hj => ?_) (fun _ _ _ => rfl), H, by omega, h11, t5, h9, h67, h10, h8, G⟩
    rw [up_ap]
    by_cases cj : j = 5 * i + w
    · rw [if_pos cj, cj, bk, c]
    · rw [if_neg cj]
  · obtain ⟨T', e1, H', C', s1, s2, s3, s4⟩ := f2 c
    have ed : q_bg a i (w + 1) + (nI d - q_bg a i (w + 1)) = nI d := by grind
    have hb := R_bag (b := b) (a := a) R.1.2.1 (i := i) (w := w + 1) (nI d - q_bg a i (w + 1)) (by omega) (by omega)
    rw [ed, show w + 1 - 1 = w from rfl] at hb
    refine ⟨_, T', e1, by rw [if_neg (by rw [bk]; exact c), bk], q_bag a i (w + 1) (nI d - q_bg a i (w + 1)), mc, C', ⟨⟨R.1.1, hb, R.1.2.2.1, R.1.2.2.2⟩, q_ok_bag R.2.1 hd ed, ?_⟩, H', by omega, s4.trans h11, t5, s2.trans h9, h67, s3.trans h10, h8, fun i g1 g2 => by rw [s1]; exact G i g1 g2⟩
    rw [ts_bag, R.2.2]
    rfl
theorem A_setUp {e w : Nat} {p : Int32} {l0 l1 l2 l3 : Nat → Int32} (h : LI e T m b t l0 l1 l2 l3) (h1 : 1 ≤ w) (h5 : w ≤ 5) (hp : p ∈ pls) :
    (t 0 ≤ m (48 + sl p) → s_X4_setUp T (nI w) p = some (-10003, T) ∧ LI (e + 1) T m b t l0 l1 l2 l3) ∧
    (¬ t 0 ≤ m (48 + sl p) → ∃ m' r T', s_L_put m p (nI w) = some m' ∧ s_L_turn m' = some r ∧ s_X4_setUp T (nI w) p = some (r, T') ∧ LI (e + 1) T' m' b (upd t 7 (t 7 + nI w * p)) l0 l1 l2 l3) := by
  obtain ⟨a, mc, C, R, H, hmc, h11, t5, h9, h67, h10, h8, G⟩ := h
  obtain ⟨f1, f2⟩ := K_setUp C R.2.1 H h1 h5 hp
  rw [R.1.2.2.1 0 (by omega), (R.1.1 _ (sl_lt p hp)).2.1]
  refine ⟨fun c => ⟨f1 (Int32.not_lt.mpr c), a, mc, C, R, H, by omega, h11, t5, h9, h67, h10, h8, G⟩, fun c => ?_⟩
  obtain ⟨hl, T', e1, H', C', s1, s2, s3, s4⟩ := f2 (Int32.not_le.mp c)
  obtain ⟨m', e2, R2⟩ := L_put (m := m) R.1.1 hp (nI w) hl
  have q : ∀ j, j ≠ 7 → upd t 7 (t 7 + nI w * p) j = t j := fun j hj => up_ne hj
  have R3 : RT m' b (upd t 7 (t 7 + nI w * p)) (q_put a p (nI w)) := by
    refine ⟨⟨R2, R.1.2.1, fun k hk => (q k (by omega)).trans (R.1.2.2.1 k hk), (q 4 (by omega)).trans R.1.2.2.2.1, (q 9 (by omega)).trans R.1.2.2.2.2.1, (q 10 (by omega)).trans R.1.2.2.2.2.2⟩, R.2.1, ?_⟩
    rw [ts_put hp, R.2.2]
    rfl
  refine ⟨m', _, T', e2, L_turn R3, e1, _, mc, C', R3, H', by omega, s4.trans h11, (q 5 (by omega)).trans t5, (s2.trans h9).trans (q 6 (by omega)).symm, ?_, (s3.trans h10).trans (q 8 (by omega)).symm, by rw [q 8 (by omega)]; exact h8, fun i g1 g2 => by rw [s1]; exact G i g1 g2⟩
  rw [q 6 (by omega), up_eq]
  show t 6 + (t 7 + nI w * p) = q_tu a + nI w * p
  rw [← h67]
  grind
end
