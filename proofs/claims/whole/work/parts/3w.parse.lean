/-! the text read: both readers go the same way -/
def q_AG (n : Nat) (ns ps g : Nat → Int32) : Prop := ∀ i, i < n → ns i = g (2 * i) ∧ ps i = g (2 * i + 1) ∧ (∃ k, 1 ≤ k ∧ k ≤ 7 ∧ ns i = nI k) ∧ ps i ∈ pls
theorem AG_up {n : Nat} {ns ps g : Nat → Int32} (h : q_AG n ns ps g) {k : Nat} {pl : Int32} (h1 : 1 ≤ k) (h7 : k ≤ 7) (hp : pl ∈ pls) : q_AG (n + 1) (upd ns n (nI k)) (upd ps n pl) (upd (upd g (2 * n) (nI k)) (2 * n + 1) pl) := by
  intro i hi
  by_cases c : i = n
  · subst c
    rw [up_eq, up_eq, up_ne (show 2 * i ≠ 2 * i + 1 by omega), up_eq, up_eq]
    exact ⟨rfl, rfl, ⟨k, h1, h7, rfl⟩, hp⟩
  · rw [up_ne c, up_ne c, up_ne (show 2 * i ≠ 2 * n + 1 by omega), up_ne (show 2 * i ≠ 2 * n by omega), up_ne (show 2 * i + 1 ≠ 2 * n + 1 by omega), up_ne (show 2 * i + 1 ≠ 2 * n by omega)]
    exact h i (by omega)
theorem dg_v {c : Int32} (h : q_dig c) : ∃ k, 1 ≤ k ∧ k ≤ 6 ∧ c - 48 = nI k ∧ (c = 54 ↔ k = 6) ∧ nI k ∈ pls ∧ -nI k ∈ pls ∧ (5 < nI k ↔ k = 6) := by
  obtain ⟨k, h1, h6, rfl⟩ := h
  refine ⟨k, h1, h6, ?_⟩
  have : k = 1 ∨ k = 2 ∨ k = 3 ∨ k = 4 ∨ k = 5 ∨ k = 6 := by omega
  rcases this with rfl | rfl | rfl | rfl | rfl | rfl <;> decide
/-- how one move of the text is read on both sides -/
def q_RM (M Z : Mm) (L n x fc : Nat) (ns ps g : Nat → Int32) (C : Option (Int32 × Mm)) (D : Option Mm) : Prop :=
  (∃ (f : Nat) (a' b' c' P : Int32) (g' : Nat → Int32), f ≤ 60 ∧ C = some (nI f, q_MM M (nI n) a' b' c' ns ps) ∧ D = some (ZZ Z (nI (n + 1)) P (nI f) g')) ∨
  ∃ (x' k : Nat) (pl a' b' c' : Int32) (fc' : Nat), x + 2 ≤ x' ∧ x' ≤ L ∧ fc' + x' = fc + x ∧ 1 ≤ k ∧ k ≤ 7 ∧ pl ∈ pls ∧ C = s_X2_read_L14 fc' (q_MM M (nI (n + 1)) a' b' c' (upd ns n (nI k)) (upd ps n pl)) 6 (nI x') ∧ D = some (ZZ Z (nI (n + 1)) (nI x') (-10005) (upd (upd g (2 * n) (nI k)) (2 * n + 1) pl))
section
variable {M Z : Mm} {L : Nat}
theorem way_cases (hM : M 0 3 = nI L) (hZ : Z 0 7 = nI L) (h60 : L ≤ 60) (ht : ∀ i, i < L → M 1 i = Z 5 i) {x n fc f y k : Nat} {a c s : Int32} {ns ps g : Nat → Int32} (h3 : 3 * n ≤ x) (hy : x + 1 ≤ y) (hyL : y ≤ L) (hf : f + 1 + y = fc + x) (hk1 : nI k ∈ pls) (hk2 : -nI k ∈ pls) (hs6 : s ≠ 6)
    (hw : q_ltr Z L y = 105 ∨ q_ltr Z L y = 111 → s_X2_stateBehind s (q_ltr Z L y) = some 6) (hn : q_ltr Z L y ≠ 105 → q_ltr Z L y ≠ 111 → s_X2_stateBehind s (q_ltr Z L y) = some 7) (hno : ¬ (q_ltr Z L y = 64 ∧ c = 0 ∧ ¬ 5 < nI k)) :
    q_RM M Z L n x fc ns ps g (s_X2_read_L14 (f + 1) (q_MM M (nI n) a (nI k) c ns ps) s (nI y)) (q_rmR (nI (2 * n)) c (nI k) (ZZ Z (nI n) (nI y) (-10005) g)) := by
  by_cases w : q_ltr Z L y = 105 ∨ q_ltr Z L y = 111
  · have n0 : q_ltr Z L y ≠ -10005 := by rcases w with w | w <;> rw [w] <;> decide
    have hy2 := (ltr_in n0).1
    obtain ⟨kk, l1, l7, ek⟩ : ∃ kk, 1 ≤ kk ∧ kk ≤ 7 ∧ (if q_ltr Z L y = 105 then (6 : Int32) else 7) = nI kk := by
      split
      · exact ⟨6, by omega, by omega, rfl⟩
      · exact ⟨7, by omega, by omega, rfl⟩
    have e1 := rl_end (f := f) (a := a) (b := nI k) (c := c) hM h60 ht n0 (hw w) (show n < 20 by omega) (tk_w (M := M) (m := nI n) (ns := ns) (ps := ps) w)
    have e2 := rmR_way (g := g) (n := n) (v3 := c) (v5 := nI k) (by omega) hZ h60 (by omega) w
    rw [ek] at e1 e2
    refine Or.inr ⟨y + 1, kk, if c = 0 then nI k else -nI k, _, _, _, f, by omega, by omega, by omega, l1, l7, ?_, e1, e2⟩
    split
    · exact hk1
    · exact hk2
  · have w1 : q_ltr Z L y ≠ 105 := fun h => w (Or.inl h)
    have w2 : q_ltr Z L y ≠ 111 := fun h => w (Or.inr h)
    obtain ⟨g', e2⟩ := rmR_bad (g := g) (n := n) (v3 := c) (v5 := nI k) (by omega) hZ h60 (by omega) w1 w2 hno
    exact Or.inl ⟨y, _, _, _, _, g', by omega, rl_stop hM h60 hyL ht hs6 (hn w1 w2), e2⟩
theorem rm_cases (hM : M 0 3 = nI L) (hZ : Z 0 7 = nI L) (h60 : L ≤ 60) (ht : ∀ i, i < L → M 1 i = Z 5 i) {x n fc : Nat} {a b : Int32} {ns ps g : Nat → Int32} (hx : x ≤ L) (h3 : 3 * n ≤ x) (hf : 10 ≤ fc) :
    q_RM M Z L n x fc ns ps g (s_X2_read_L14 fc (q_MM M (nI n) a b 0 ns ps) 0 (nI x)) (s_X5_readMove (ZZ Z (nI n) (nI x) (-10005) g)) := by
  obtain ⟨f0, rfl⟩ : ∃ f0, fc = f0 + 10 := ⟨fc - 10, by omega⟩
  have hn : n ≤ 30 := by omega
  have er : s_X5_readMove (ZZ Z (nI n) (nI x) (-10005) g) = Option.bind (s_X5_isMinus (ZZ Z (nI n) (nI x) (-10005) g)) fun q2 => Option.bind (s_X5_digit q2.2) fun q4 => q_rmR (nI (2 * n)) q2.1 q4.1 q4.2 := by
    rw [rm_eq, show (2 : Int32) * (ZZ Z (nI n) (nI x) (-10005) g 0 14) = nI (2 * n) from pk_mul 2 n]
  by_cases c0 : q_ltr Z L x = 45
  · have n0 : q_ltr Z L x ≠ -10005 := by rw [c0]; decide
    have hxL := (ltr_in n0).1
    have g0 : s_X2_read_L14 (f0 + 10) (q_MM M (nI n) a b 0 ns ps) 0 (nI x) = s_X2_read_L14 (f0 + 9) (q_MM M (nI n) a b 1 ns ps) 3 (nI (x + 1)) := rl_go (s' := 3) hM h60 ht n0 (by rw [c0]; exact sb_0m) (by decide) (by decide) (by rw [c0]; exact tk_m)
    have e0 : s_X5_readMove (ZZ Z (nI n) (nI x) (-10005) g) = Option.bind (s_X5_digit (ZZ Z (nI n) (nI (x + 1)) (-10005) g)) fun q4 => q_rmR (nI (2 * n)) 1 q4.1 q4.2 := by
      rw [er, Z_mok hZ h60 (by omega), if_pos c0, bd_some]
    by_cases d1 : q_dig (q_ltr Z L (x + 1))
    · obtain ⟨k, k1, k6, ek, e54, pp, pm, e5⟩ := dg_v d1
      have n1 := (q_dig_r d1).2.2.2.2.2.2.2
      have hx1 := (ltr_in n1).1
      have g1 : s_X2_read_L14 (f0 + 9) (q_MM M (nI n) a b 1 ns ps) 3 (nI (x + 1)) = s_X2_read_L14 (f0 + 8) (q_MM M (nI n) a (nI k) 1 ns ps) 2 (nI (x + 1 + 1)) := rl_go (s' := 2) hM h60 ht n1 (sb_3d d1) (by decide) (by decide) (by rw [← ek]; exact tk_d d1)
      have e1 : s_X5_readMove (ZZ Z (nI n) (nI x) (-10005) g) = q_rmR (nI (2 * n)) 1 (nI k) (ZZ Z (nI n) (nI (x + 1 + 1)) (-10005) g) := by
        rw [e0, Z_dok d1 hZ h60 (by omega), bd_some, ek]
      rw [g0, g1, e1]
      exact way_cases hM hZ h60 ht h3 (by omega) (by omega) (by omega) pp pm (by decide) sb_2w sb_2n (fun h => absurd h.2.1 (by decide))
    · obtain ⟨g', e2⟩ := rmR_f (L := L) (p := x + 1 + 1) (g := g) hn (nI_ne5 (show x + 1 < 1000 by omega)) hZ h60 (by omega) 1 (q_ltr Z L (x + 1) - 48)
      refine Or.inl ⟨x + 1, _, _, _, nI (x + 1 + 1), g', by omega, g0.trans (rl_stop hM h60 (by omega) ht (by decide) (sb_3n d1)), ?_⟩
      rw [e0, Z_dbad d1 hZ h60 (by omega), bd_some]
      exact e2
  · have e0 : s_X5_readMove (ZZ Z (nI n) (nI x) (-10005) g) = Option.bind (s_X5_digit (ZZ Z (nI n) (nI x) (-10005) g)) fun q4 => q_rmR (nI (2 * n)) 0 q4.1 q4.2 := by
      rw [er, Z_mok hZ h60 (by omega), if_neg c0, bd_some]
    by_cases d0 : q_dig (q_ltr Z L x)
    · obtain ⟨k, k1, k6, ek, e54, pp, pm, e5⟩ := dg_v d0
      have n0 := (q_dig_r d0).2.2.2.2.2.2.2
      have hxL := (ltr_in n0).1
      have e1 : s_X5_readMove (ZZ Z (nI n) (nI x) (-10005) g) = q_rmR (nI (2 * n)) 0 (nI k) (ZZ Z (nI n) (nI (x + 1)) (-10005) g) := by
        rw [e0, Z_dok d0 hZ h60 (by omega), bd_some, ek]
      by_cases c54 : k = 6
      · have g0 : s_X2_read_L14 (f0 + 10) (q_MM M (nI n) a b 0 ns ps) 0 (nI x) = s_X2_read_L14 (f0 + 9) (q_MM M (nI n) a (nI k) 0 ns ps) 2 (nI (x + 1)) := rl_go (s' := 2) hM h60 ht n0 (by rw [sb_0d d0, if_pos (e54.mpr c54)]) (by decide) (by decide) (by rw [← ek]; exact tk_d d0)
        rw [g0, e1]
        exact way_cases hM hZ h60 ht h3 (by omega) (by omega) (by omega) pp pm (by decide) sb_2w sb_2n (fun h => h.2.2 (e5.mpr c54))
      · have g0 : s_X2_read_L14 (f0 + 10) (q_MM M (nI n) a b 0 ns ps) 0 (nI x) = s_X2_read_L14 (f0 + 9) (q_MM M (nI n) a (nI k) 0 ns ps) 1 (nI (x + 1)) := rl_go (s' := 1) hM h60 ht n0 (by rw [sb_0d d0, if_neg (fun h => c54 (e54.mp h))]) (by decide) (by decide) (by rw [← ek]; exact tk_d d0)
        have n5 : ¬ 5 < nI k := fun h => c54 (e5.mp h)
        by_cases c1 : q_ltr Z L (x + 1) = 64
        · have n1 : q_ltr Z L (x + 1) ≠ -10005 := by rw [c1]; decide
          have hx1 := (ltr_in n1).1
          have g1 : s_X2_read_L14 (f0 + 9) (q_MM M (nI n) a (nI k) 0 ns ps) 1 (nI (x + 1)) = s_X2_read_L14 (f0 + 8) (q_MM M (nI n) (nI k) (nI k) 0 ns ps) 4 (nI (x + 1 + 1)) := rl_go (s' := 4) hM h60 ht n1 (by rw [c1]; exact sb_1a) (by decide) (by decide) (by rw [c1]; exact tk_a)
          by_cases c2 : q_ltr Z L (x + 1 + 1) = 45
          · have n2 : q_ltr Z L (x + 1 + 1) ≠ -10005 := by rw [c2]; decide
            have hx2 := (ltr_in n2).1
            have g2 : s_X2_read_L14 (f0 + 8) (q_MM M (nI n) (nI k) (nI k) 0 ns ps) 4 (nI (x + 1 + 1)) = s_X2_read_L14 (f0 + 7) (q_MM M (nI n) (nI k) (nI k) 1 ns ps) 5 (nI (x + 1 + 1 + 1)) := rl_go (s' := 5) hM h60 ht n2 (by rw [c2]; exact sb_4m) (by decide) (by decide) (by rw [c2]; exact tk_m)
            by_cases d3 : q_dig (q_ltr Z L (x + 1 + 1 + 1))
            · obtain ⟨q, q1, q6, eq, -, qp, qm, -⟩ := dg_v d3
              have n3 := (q_dig_r d3).2.2.2.2.2.2.2
              have hx3 := (ltr_in n3).1
              have g3 := rl_end (f := f0 + 6) (a := nI k) (b := nI k) (c := 1) hM h60 ht n3 (sb_5d d3) (show n < 20 by omega) (tk_d (M := M) (m := nI n) (ns := ns) (ps := ps) d3)
              have e3 := rmR_layM (g := g) hn hZ h60 (show x + 1 < 900 by omega) c1 n5 c2 d3
              rw [eq, if_neg (show ¬ (1 : Int32) = 0 from by decide)] at g3
              rw [show x + 1 + 2 = x + 1 + 1 + 1 from rfl, eq] at e3
              exact Or.inr ⟨x + 4, k, -nI q, _, _, _, f0 + 6, by omega, by omega, by omega, k1, by omega, qm, g0.trans (g1.trans (g2.trans g3)), e1.trans e3⟩
            · obtain ⟨g', e3⟩ := rmR_layMb (g := g) hn hZ h60 (show x + 1 < 900 by omega) c1 n5 c2 d3
              exact Or.inl ⟨x + 1 + 1 + 1, _, _, _, _, g', by omega, g0.trans (g1.trans (g2.trans (rl_stop hM h60 (by omega) ht (by decide) (sb_5n d3)))), e1.trans e3⟩
          · by_cases d2 : q_dig (q_ltr Z L (x + 1 + 1))
            · obtain ⟨q, q1, q6, eq, -, qp, qm, -⟩ := dg_v d2
              have n2 := (q_dig_r d2).2.2.2.2.2.2.2
              have hx2 := (ltr_in n2).1
              have g3 := rl_end (f := f0 + 7) (a := nI k) (b := nI k) (c := 0) hM h60 ht n2 (sb_4d d2) (show n < 20 by omega) (tk_d (M := M) (m := nI n) (ns := ns) (ps := ps) d2)
              have e3 := rmR_layP (g := g) hn hZ h60 (show x + 1 < 900 by omega) c1 n5 c2 d2
              rw [eq, if_pos rfl] at g3
              rw [eq] at e3
              exact Or.inr ⟨x + 3, k, nI q, _, _, _, f0 + 7, by omega, by omega, by omega, k1, by omega, qp, g0.trans (g1.trans g3), e1.trans e3⟩
            · obtain ⟨g', e3⟩ := rmR_layPb (g := g) hn hZ h60 (show x + 1 < 900 by omega) c1 n5 c2 d2
              exact Or.inl ⟨x + 1 + 1, _, _, _, _, g', by omega, g0.trans (g1.trans (rl_stop hM h60 (by omega) ht (by decide) (sb_4n c2 d2))), e1.trans e3⟩
        · rw [g0, e1]
          exact way_cases hM hZ h60 ht h3 (by omega) (by omega) (by omega) pp pm (by decide) sb_1w (sb_1n c1) (fun h => c1 h.1)
    · obtain ⟨g', e2⟩ := rmR_f (L := L) (p := x + 1) (g := g) hn (nI_ne5 (show x < 1000 by omega)) hZ h60 (by omega) 0 (q_ltr Z L x - 48)
      refine Or.inl ⟨x, _, _, _, nI (x + 1), g', by omega, rl_stop hM h60 hx ht (by decide) (sb_0n c0 d0), ?_⟩
      rw [e0, Z_dbad d0 hZ h60 (by omega), bd_some]
      exact e2
end
theorem tx_fin {fz : Nat} {Q N5 : Mm} (h : s_X5_readMove Q = some N5) (he : N5 0 16 ≠ -10005 ∨ N5 0 7 ≤ N5 0 15) : s_X5_readText_L19 (fz + 2) Q 1 = some (N5 0 16, N5) := by
  have e : s_X5_readText_L19 (fz + 1) N5 0 = some (N5 0 16, N5) := by rw [s_X5_readText_L19, if_pos rfl]
  rw [s_X5_readText_L19, if_neg (show ¬ (1 : Int32) = 0 from by decide), h, bd_some]
  dsimp only [jn]
  by_cases c : N5 0 16 = -10005
  · rw [if_pos c, if_pos (he.resolve_left (fun h => h c)), if_pos rfl, e]
  · rw [if_neg c, if_pos rfl, e]
theorem tx_semi {fz : Nat} {Q N5 N12 : Mm} (h : s_X5_readMove Q = some N5) (h1 : N5 0 16 = -10005) (h2 : ¬ N5 0 7 ≤ N5 0 15) (h3 : s_X5_letter N5 = some 59) (h4 : s_X5_wants N5 1 = some N12) (h5 : N12 0 16 = -10005) : s_X5_readText_L19 (fz + 1) Q 1 = s_X5_readText_L19 fz N12 1 := by
  rw [s_X5_readText_L19, if_neg (show ¬ (1 : Int32) = 0 from by decide), h, bd_some]
  dsimp only [jn]
  rw [if_pos h1, if_neg h2, if_neg (show ¬ (1 : Int32) = 0 from by decide), h3, bd_some, if_pos rfl, h4, bd_some, if_pos h5]
theorem tx_bad {fz : Nat} {Q N5 N12 : Mm} {c : Int32} (h : s_X5_readMove Q = some N5) (h1 : N5 0 16 = -10005) (h2 : ¬ N5 0 7 ≤ N5 0 15) (h3 : s_X5_letter N5 = some c) (hc : c ≠ 59) (h4 : s_X5_wants N5 0 = some N12) (h5 : N12 0 16 ≠ -10005) : s_X5_readText_L19 (fz + 2) Q 1 = some (N12 0 16, N12) := by
  have e : s_X5_readText_L19 (fz + 1) N12 0 = some (N12 0 16, N12) := by rw [s_X5_readText_L19, if_pos rfl]
  rw [s_X5_readText_L19, if_neg (show ¬ (1 : Int32) = 0 from by decide), h, bd_some]
  dsimp only [jn]
  rw [if_pos h1, if_neg h2, if_neg (show ¬ (1 : Int32) = 0 from by decide), h3, bd_some, if_neg hc, h4, bd_some, if_neg h5, e]
/-- what both readers leave behind -/
def q_RS (M Z : Mm) (r v : Int32) (M' Z' : Mm) : Prop := ∃ (mc a b c : Int32) (ns ps : Nat → Int32) (mz p e : Int32) (g : Nat → Int32), M' = q_MM M mc a b c ns ps ∧ Z' = ZZ Z mz p e g ∧ ((∃ f, f ≤ 60 ∧ r = nI f ∧ v = nI f) ∨ (r = -1 ∧ v = -10005 ∧ ∃ n, n ≤ 20 ∧ mc = nI n ∧ mz = nI n ∧ q_AG n ns ps g))
theorem read_main {M Z : Mm} {L : Nat} (hM : M 0 3 = nI L) (hZ : Z 0 7 = nI L) (h60 : L ≤ 60) (ht : ∀ i, i < L → M 1 i = Z 5 i) : ∀ (j x n fc fz : Nat) {a b : Int32} {ns ps g : Nat → Int32}, L < x + j → x ≤ L → 3 * n ≤ x → 80 ≤ fc + x → j + 2 ≤ fz → q_AG n ns ps g →
    ∃ r v M' Z', s_X2_read_L14 fc (q_MM M (nI n) a b 0 ns ps) 0 (nI x) = some (r, M') ∧ s_X5_readText_L19 fz (ZZ Z (nI n) (nI x) (-10005) g) 1 = some (v, Z') ∧ q_RS M Z r v M' Z' := by
  intro j
  induction j with
  | zero =>
    intro x n fc fz a b ns ps g h1 h2
    exact absurd h1 (by omega)
  | succ j ih =>
    intro x n fc fz a b ns ps g h1 h2 h3 hfc hfz ag
    obtain ⟨fz, rfl⟩ : ∃ f, fz = f + 2 := ⟨fz - 2, by omega⟩
    rcases rm_cases hM hZ h60 ht (a := a) (b := b) (ns := ns) (ps := ps) (g := g) h2 h3 (show 10 ≤ fc by omega) with ⟨f, a', b', c', P, g', f60, e1, e2⟩ | ⟨x', k, pl, a', b', c', fc', x1, x2, x3, k1, k7, hp, e1, e2⟩
    · refine ⟨nI f, nI f, _, _, e1, tx_fin e2 (Or.inl (nI_ne5 (by omega))), ?_⟩
      exact ⟨_, _, _, _, _, _, _, _, _, _, rfl, rfl, Or.inl ⟨f, f60, rfl, rfl⟩⟩
    · have ag' := AG_up ag k1 k7 hp
      obtain ⟨fd, rfl⟩ : ∃ f, fc' = f + 1 := ⟨fc' - 1, by omega⟩
      rw [e1]
      generalize upd ns n (nI k) = ns' at ag' ⊢
      generalize upd ps n pl = ps' at ag' ⊢
      generalize upd (upd g (2 * n) (nI k)) (2 * n + 1) pl = g' at ag' e2
      by_cases c : x' = L
      · subst c
        refine ⟨-1, -10005, q_MM M (nI (n + 1)) a' b' c' ns' ps', _, ?_, tx_fin e2 (Or.inr ?_), ?_⟩
        · rw [s_X2_read_L14, jn_eq, show q_MM M (nI (n + 1)) a' b' c' ns' ps' 0 3 = nI x' from hM, if_pos (Int32.le_refl _), if_pos rfl]
        · show Z 0 7 ≤ nI x'
          rw [hZ]
          exact Int32.le_refl _
        · exact ⟨_, _, _, _, _, _, _, _, _, _, rfl, rfl, Or.inr ⟨rfl, rfl, n + 1, by omega, rfl, rfl, ag'⟩⟩
      · have hx' : x' < L := by omega
        have hle : ¬ ZZ Z (nI (n + 1)) (nI x') (-10005) g' 0 7 ≤ ZZ Z (nI (n + 1)) (nI x') (-10005) g' 0 15 := by
          show ¬ Z 0 7 ≤ nI x'
          rw [hZ]
          exact nI_ge hx' (by omega)
        have hl : s_X5_letter (ZZ Z (nI (n + 1)) (nI x') (-10005) g') = some (q_ltr Z L x') := Z_letter hZ h60 (by omega)
        by_cases c59 : q_ltr Z L x' = 59
        · have n0 : q_ltr Z L x' ≠ -10005 := by rw [c59]; decide
          have g1 : s_X2_read_L14 (fd + 1) (q_MM M (nI (n + 1)) a' b' c' ns' ps') 6 (nI x') = s_X2_read_L14 fd (q_MM M (nI (n + 1)) a' b' 0 ns' ps') 0 (nI (x' + 1)) := rl_go (s' := 0) hM h60 ht n0 (by rw [c59]; exact sb_6s) (by decide) (by decide) (by rw [c59]; exact tk_s)
          rw [c59] at hl
          have g2 := tx_semi (fz := fz + 1) e2 rfl hle hl (Z_wok 1) rfl
          rw [if_neg (show ¬ (1 : Int32) = 0 from by decide)] at g2
          rw [g1, g2]
          exact ih (x' + 1) (n + 1) fd (fz + 1) (by omega) (by omega) (by omega) (by omega) (by omega) ag'
        · have g1 := rl_hd (f := fd) (m := nI (n + 1)) (a := a') (b := b') (c := c') (ns := ns') (ps := ps') hM h60 hx' (ht x' hx') (sb_6n c59)
          rw [if_pos rfl] at g1
          have g2 := tx_bad (fz := fz) e2 rfl hle hl c59 (Z_wok 0) (by rw [if_pos rfl]; exact nI_ne5 (by omega))
          rw [if_pos rfl] at g2
          exact ⟨nI x', nI x', _, _, g1, g2, ⟨_, _, _, _, _, _, _, _, _, _, rfl, rfl, Or.inl ⟨x', by omega, rfl, rfl⟩⟩⟩
