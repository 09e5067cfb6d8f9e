/-! the text read: letters, the reference's reader in a plain form -/
def q_zq (f : Nat → Int32) (m p e : Int32) : Nat → Int32 := fun q => if q = 14 then m else if q = 15 then p else if q = 16 then e else f q
def ZZ (Z : Mm) (m p e : Int32) (g : Nat → Int32) : Mm := fun c => if c = 0 then q_zq (Z 0) m p e else if c = 9 then g else Z c
theorem ZZ_14 {Z : Mm} {m p e x : Int32} {g : Nat → Int32} : pf (ZZ Z m p e g) 0 14 x = some (ZZ Z x p e g) := by
  rw [pf_eq]
  congr 1
  funext c q
  unfold ZZ mset upd q_zq
  by_cases h0 : c = 0
  · subst h0
    by_cases h1 : q = 14 <;> simp [h1]
  · simp [h0]
theorem ZZ_15 {Z : Mm} {m p e x : Int32} {g : Nat → Int32} : pf (ZZ Z m p e g) 0 15 x = some (ZZ Z m x e g) := by
  rw [pf_eq]
  congr 1
  funext c q
  unfold ZZ mset upd q_zq
  by_cases h0 : c = 0
  · subst h0
    by_cases h1 : q = 15 <;> simp [h1]
  · simp [h0]
theorem ZZ_16 {Z : Mm} {m p e x : Int32} {g : Nat → Int32} : pf (ZZ Z m p e g) 0 16 x = some (ZZ Z m p x g) := by
  rw [pf_eq]
  congr 1
  funext c q
  unfold ZZ mset upd q_zq
  by_cases h0 : c = 0
  · subst h0
    by_cases h1 : q = 16 <;> simp [h1]
  · simp [h0]
theorem ZZ_9 {Z : Mm} {m p e x : Int32} {g : Nat → Int32} {k : Nat} (hk : k < 64) : wr 64 (ZZ Z m p e g) 9 (nI k) x = some (ZZ Z m p e (upd g k x)) := by
  rw [wr_n hk (by omega)]
  congr 1
  funext c q
  unfold ZZ mset
  by_cases h0 : c = 9
  · subst h0
    simp
  · simp [h0]
theorem ZZ_in {Z : Mm} : Z = ZZ Z (Z 0 14) (Z 0 15) (Z 0 16) (Z 9) := by
  funext c q
  unfold ZZ q_zq
  by_cases h0 : c = 0
  · subst h0
    by_cases h1 : q = 14
    · simp [h1]
    · by_cases h2 : q = 15
      · simp [h2]
      · by_cases h3 : q = 16
        · simp [h3]
        · simp [h1, h2, h3]
  · by_cases h9 : c = 9
    · simp [h9]
    · simp [h0, h9]
/-- the letter at a place, or what stands for none -/
def q_ltr (Z : Mm) (L p : Nat) : Int32 := if p < L then Z 5 p else -10005
def q_dig (c : Int32) : Prop := ∃ k, 1 ≤ k ∧ k ≤ 6 ∧ c = nI (48 + k)
theorem q_dig_of {c : Int32} (h1 : ¬ c < 49) (h2 : ¬ 54 < c) : q_dig c := by
  obtain ⟨k, k1, k2, e⟩ := nI_enum (a := 49) (b := 54) (by omega) (by omega) h1 h2
  exact ⟨k - 48, by omega, by omega, by rw [e]; congr 1; omega⟩
theorem q_dig_r {c : Int32} (h : q_dig c) : ¬ c < 49 ∧ ¬ 54 < c ∧ c ≠ 45 ∧ c ≠ 64 ∧ c ≠ 105 ∧ c ≠ 111 ∧ c ≠ 59 ∧ c ≠ -10005 := by
  obtain ⟨k, h1, h6, rfl⟩ := h
  have : k = 1 ∨ k = 2 ∨ k = 3 ∨ k = 4 ∨ k = 5 ∨ k = 6 := by omega
  rcases this with rfl | rfl | rfl | rfl | rfl | rfl <;> decide
theorem dg_in {c : Int32} : (q_dig c ∧ s_X5_in (c - 48) 1 6 = some 1) ∨ (¬ q_dig c ∧ s_X5_in (c - 48) 1 6 = some 0) := by
  rcases in_dec 1 6 (by omega) (by omega) (c - 48) with ⟨k, k1, k6, e, h, -, -⟩ | ⟨h, l1⟩
  · refine Or.inl ⟨⟨k, k1, k6, ?_⟩, h⟩
    rw [Nat.add_comm, ← nI_add, ← e]
    show c = c - 48 + 48
    grind
  · refine Or.inr ⟨fun hd => ?_, h⟩
    obtain ⟨k, k1, k6, rfl⟩ := hd
    have e : nI (48 + k) - 48 = nI k := by
      have := nI_sub (a := 48 + k) (b := 48) (by omega)
      rw [show 48 + k - 48 = k from by omega] at this
      exact this
    rw [e] at l1
    exact l1 (Int32.not_lt.mpr (nI_le k1 (by omega))) (nI_le k6 (by omega))
section
variable {Z : Mm} {L p : Nat} {m e : Int32} {g : Nat → Int32}
theorem Z_letter (hL : Z 0 7 = nI L) (h60 : L ≤ 60) (hp : p < 1000) : s_X5_letter (ZZ Z m (nI p) e g) = some (q_ltr Z L p) := by
  unfold s_X5_letter q_ltr
  show (if Z 0 7 ≤ nI p then _ else Option.bind (rd 60 (Z 5) (nI p)) fun v2 => some v2) = _
  rw [hL]
  by_cases c : p < L
  · rw [if_neg (nI_ge c (by omega)), rd_n (by omega) (by omega), bd_some, if_pos c]
  · rw [if_pos (nI_le (by omega) (by omega)), if_neg c]
theorem Z_wno (he : e ≠ -10005) (b : Int32) : s_X5_wants (ZZ Z m (nI p) e g) b = some (ZZ Z m (nI p) e g) := by
  unfold s_X5_wants
  rw [if_neg (show ¬ ZZ Z m (nI p) e g 0 16 = -10005 from he)]
theorem Z_wok (b : Int32) : s_X5_wants (ZZ Z m (nI p) (-10005) g) b = some (ZZ Z m (nI (p + 1)) (if b = 0 then nI p else -10005) g) := by
  unfold s_X5_wants
  rw [if_pos (show ZZ Z m (nI p) (-10005) g 0 16 = -10005 from rfl), jn_eq]
  have key : ∀ v, (Option.bind (pf (ZZ Z m (nI p) (-10005) g) 0 16 v) fun N4 => Option.bind (pf N4 0 15 (N4 0 15 + 1)) fun N5 => some N5) = some (ZZ Z m (nI (p + 1)) v g) := fun v => by
    rw [ZZ_16, bd_some, show ZZ Z m (nI p) v g 0 15 = nI p from rfl, nI_1, ZZ_15, bd_some]
  by_cases c : b = 0
  · rw [if_pos c, if_pos c]
    exact key _
  · rw [if_neg c, if_neg c]
    exact key _
theorem Z_mno (he : e ≠ -10005) : s_X5_isMinus (ZZ Z m (nI p) e g) = some (0, ZZ Z m (nI p) e g) := by
  unfold s_X5_isMinus
  rw [jn_eq, jn_eq, if_neg (show ¬ ZZ Z m (nI p) e g 0 16 = -10005 from he)]
  show (if (0 : Int32) = 0 then Option.bind (pf (ZZ Z m (nI p) e g) 0 15 (nI p + 0)) fun N5 => Option.bind (bo 0) fun v6 => some (v6, N5) else _) = _
  rw [if_pos rfl, ZZ_15, bd_some, Int32.add_zero]
  rfl
theorem Z_mok (hL : Z 0 7 = nI L) (h60 : L ≤ 60) (hp : p < 1000) : s_X5_isMinus (ZZ Z m (nI p) (-10005) g) = some (if q_ltr Z L p = 45 then (1, ZZ Z m (nI (p + 1)) (-10005) g) else (0, ZZ Z m (nI p) (-10005) g)) := by
  unfold s_X5_isMinus
  rw [jn_eq, jn_eq, if_pos (show ZZ Z m (nI p) (-10005) g 0 16 = -10005 from rfl), Z_letter hL h60 hp, bd_some]
  by_cases c : q_ltr Z L p = 45
  · rw [if_pos c, if_pos c]
    show (if (1 : Int32) = 0 then _ else Option.bind (pf (ZZ Z m (nI p) (-10005) g) 0 15 (nI p + 1)) fun N5 => Option.bind (bo 1) fun v6 => some (v6, N5)) = _
    rw [if_neg (show ¬ (1 : Int32) = 0 from by decide), ZZ_15, bd_some, nI_1]
    rfl
  · rw [if_neg c, if_neg c]
    show (if (0 : Int32) = 0 then Option.bind (pf (ZZ Z m (nI p) (-10005) g) 0 15 (nI p + 0)) fun N5 => Option.bind (bo 0) fun v6 => some (v6, N5) else _) = _
    rw [if_pos rfl, ZZ_15, bd_some, Int32.add_zero]
    rfl
theorem Z_dno (he : e ≠ -10005) (hL : Z 0 7 = nI L) (h60 : L ≤ 60) (hp : p < 1000) : s_X5_digit (ZZ Z m (nI p) e g) = some (q_ltr Z L p - 48, ZZ Z m (nI p) e g) := by
  unfold s_X5_digit
  rw [Z_letter hL h60 hp, bd_some, jn_eq]
  rcases dg_in (c := q_ltr Z L p) with ⟨-, h⟩ | ⟨-, h⟩
  · rw [h, bd_some, Z_wno he, bd_some]
  · rw [h, bd_some, Z_wno he, bd_some]
theorem Z_dok (hd : q_dig (q_ltr Z L p)) (hL : Z 0 7 = nI L) (h60 : L ≤ 60) (hp : p < 1000) : s_X5_digit (ZZ Z m (nI p) (-10005) g) = some (q_ltr Z L p - 48, ZZ Z m (nI (p + 1)) (-10005) g) := by
  unfold s_X5_digit
  rw [Z_letter hL h60 hp, bd_some, jn_eq]
  rcases dg_in (c := q_ltr Z L p) with ⟨-, h⟩ | ⟨hn, h⟩
  · rw [h, bd_some, Z_wok, bd_some, if_neg (show ¬ (1 : Int32) = 0 from by decide)]
  · exact absurd hd hn
theorem Z_dbad (hd : ¬ q_dig (q_ltr Z L p)) (hL : Z 0 7 = nI L) (h60 : L ≤ 60) (hp : p < 1000) : s_X5_digit (ZZ Z m (nI p) (-10005) g) = some (q_ltr Z L p - 48, ZZ Z m (nI (p + 1)) (nI p) g) := by
  unfold s_X5_digit
  rw [Z_letter hL h60 hp, bd_some, jn_eq]
  rcases dg_in (c := q_ltr Z L p) with ⟨hn, h⟩ | ⟨-, h⟩
  · exact absurd hn hd
  · rw [h, bd_some, Z_wok, bd_some, if_pos rfl]
def q_rmK (v1 v21 v22 : Int32) (N20 : Mm) : Option Mm :=
  jn (fun (v25 : Int32) => Option.bind (wr 64 N20 9 (v1 + (1 : Int32)) v25) fun N26 => Option.bind (pf N26 0 14 ((N26 0 14) + (1 : Int32))) fun N27 => some N27) fun k24 => if v21 = (0 : Int32) then k24 v22 else k24 (-v22)
def q_rmL (v1 v3 v5 v6 v8 v10 : Int32) (Q : Mm) : Option Mm :=
  Option.bind (s_X5_wants Q v10) fun N11 => if v8 = (0 : Int32) then (jn (fun (v31 : Int32) => Option.bind (wr 64 N11 9 v1 v31) fun N32 => q_rmK v1 v3 v5 N32) fun k30 => if v6 = (105 : Int32) then k30 (6 : Int32) else k30 (7 : Int32)) else Option.bind (s_X5_isMinus N11) fun q34 => Option.bind (wr 64 q34.2 9 v1 v5) fun N36 => Option.bind (s_X5_digit N36) fun q37 => q_rmK v1 q34.1 q37.1 q37.2
def q_rmM (v1 v3 v5 v6 v8 : Int32) (Q : Mm) : Option Mm :=
  if v8 = (0 : Int32) then (if v6 = (105 : Int32) then q_rmL v1 v3 v5 v6 v8 1 Q else if v6 = (111 : Int32) then q_rmL v1 v3 v5 v6 v8 1 Q else q_rmL v1 v3 v5 v6 v8 0 Q) else q_rmL v1 v3 v5 v6 v8 1 Q
def q_rmR (v1 v3 v5 : Int32) (Q : Mm) : Option Mm :=
  Option.bind (s_X5_letter Q) fun v6 => if v6 = (64 : Int32) then (if v3 = (0 : Int32) then (if (5 : Int32) < v5 then q_rmM v1 v3 v5 v6 0 Q else q_rmM v1 v3 v5 v6 1 Q) else q_rmM v1 v3 v5 v6 0 Q) else q_rmM v1 v3 v5 v6 0 Q
theorem rm_eq (Z : Mm) : s_X5_readMove Z = Option.bind (s_X5_isMinus Z) fun q2 => Option.bind (s_X5_digit q2.2) fun q4 => q_rmR ((2 : Int32) * (Z 0 14)) q2.1 q4.1 q4.2 := rfl
theorem rmK_eq {n : Nat} (hn : n ≤ 30) (v21 v22 : Int32) {q : Int32} : q_rmK (nI (2 * n)) v21 v22 (ZZ Z (nI n) q e g) = some (ZZ Z (nI (n + 1)) q e (upd g (2 * n + 1) (if v21 = 0 then v22 else -v22))) := by
  have key : ∀ v, (Option.bind (wr 64 (ZZ Z (nI n) q e g) 9 (nI (2 * n) + 1) v) fun N26 => Option.bind (pf N26 0 14 (N26 0 14 + 1)) fun N27 => some N27) = some (ZZ Z (nI (n + 1)) q e (upd g (2 * n + 1) v)) := fun v => by
    rw [nI_1, ZZ_9 (by omega), bd_some, show ZZ Z (nI n) q e (upd g (2 * n + 1) v) 0 14 = nI n from rfl, nI_1, ZZ_14, bd_some]
  unfold q_rmK
  rw [jn_eq]
  by_cases c : v21 = 0
  · rw [if_pos c, if_pos c]
    exact key _
  · rw [if_neg c, if_neg c]
    exact key _
theorem rmL_f {n : Nat} (hn : n ≤ 30) (he : e ≠ -10005) (hL : Z 0 7 = nI L) (h60 : L ≤ 60) (hp : p < 1000) (v3 v5 v6 v8 v10 : Int32) : ∃ g', q_rmL (nI (2 * n)) v3 v5 v6 v8 v10 (ZZ Z (nI n) (nI p) e g) = some (ZZ Z (nI (n + 1)) (nI p) e g') := by
  unfold q_rmL
  rw [Z_wno he, bd_some]
  by_cases c : v8 = 0
  · rw [if_pos c, jn_eq]
    by_cases d : v6 = 105
    · rw [if_pos d]
      show ∃ g', (Option.bind (wr 64 (ZZ Z (nI n) (nI p) e g) 9 (nI (2 * n)) 6) fun N32 => q_rmK (nI (2 * n)) v3 v5 N32) = _
      rw [ZZ_9 (by omega), bd_some, rmK_eq hn]
      exact ⟨_, rfl⟩
    · rw [if_neg d]
      show ∃ g', (Option.bind (wr 64 (ZZ Z (nI n) (nI p) e g) 9 (nI (2 * n)) 7) fun N32 => q_rmK (nI (2 * n)) v3 v5 N32) = _
      rw [ZZ_9 (by omega), bd_some, rmK_eq hn]
      exact ⟨_, rfl⟩
  · rw [if_neg c, Z_mno he, bd_some]
    show ∃ g', (Option.bind (wr 64 (ZZ Z (nI n) (nI p) e g) 9 (nI (2 * n)) v5) fun N36 => Option.bind (s_X5_digit N36) fun q37 => q_rmK (nI (2 * n)) 0 q37.1 q37.2) = _
    rw [ZZ_9 (by omega), bd_some, Z_dno he hL h60 hp, bd_some]
    show ∃ g', q_rmK (nI (2 * n)) 0 _ (ZZ Z (nI n) (nI p) e _) = _
    rw [rmK_eq hn]
    exact ⟨_, rfl⟩
theorem rmM_f {n : Nat} (hn : n ≤ 30) (he : e ≠ -10005) (hL : Z 0 7 = nI L) (h60 : L ≤ 60) (hp : p < 1000) (v3 v5 v6 v8 : Int32) : ∃ g', q_rmM (nI (2 * n)) v3 v5 v6 v8 (ZZ Z (nI n) (nI p) e g) = some (ZZ Z (nI (n + 1)) (nI p) e g') := by
  unfold q_rmM
  repeat' split
  all_goals exact rmL_f hn he hL h60 hp _ _ _ _ _
theorem rmR_f {n : Nat} (hn : n ≤ 30) (he : e ≠ -10005) (hL : Z 0 7 = nI L) (h60 : L ≤ 60) (hp : p < 1000) (v3 v5 : Int32) : ∃ g', q_rmR (nI (2 * n)) v3 v5 (ZZ Z (nI n) (nI p) e g) = some (ZZ Z (nI (n + 1)) (nI p) e g') := by
  unfold q_rmR
  rw [Z_letter hL h60 hp, bd_some]
  repeat' split
  all_goals exact rmM_f hn he hL h60 hp _ _ _ _
theorem nI_ne5 (h : p < 1000) : nI p ≠ -10005 := fun h2 => by
  have e1 := congrArg Int32.toInt h2
  rw [nI_toInt (by omega)] at e1
  have e5 : (-10005 : Int32).toInt = -10005 := rfl
  rw [e5] at e1
  omega
theorem rmR_0 {n : Nat} (hL : Z 0 7 = nI L) (h60 : L ≤ 60) (hp : p < 1000) {v3 v5 : Int32} (h3 : ¬ (q_ltr Z L p = 64 ∧ v3 = 0 ∧ ¬ 5 < v5)) : q_rmR (nI (2 * n)) v3 v5 (ZZ Z (nI n) (nI p) e g) = q_rmM (nI (2 * n)) v3 v5 (q_ltr Z L p) 0 (ZZ Z (nI n) (nI p) e g) := by
  unfold q_rmR
  rw [Z_letter hL h60 hp, bd_some]
  by_cases c1 : q_ltr Z L p = 64
  · rw [if_pos c1]
    by_cases c2 : v3 = 0
    · rw [if_pos c2]
      by_cases c3 : 5 < v5
      · rw [if_pos c3]
      · exact absurd ⟨c1, c2, c3⟩ h3
    · rw [if_neg c2]
  · rw [if_neg c1]
theorem rmR_way {n : Nat} (hn : n ≤ 30) (hL : Z 0 7 = nI L) (h60 : L ≤ 60) (hp : p < 1000) {v3 v5 : Int32} (hc : q_ltr Z L p = 105 ∨ q_ltr Z L p = 111) : q_rmR (nI (2 * n)) v3 v5 (ZZ Z (nI n) (nI p) (-10005) g) = some (ZZ Z (nI (n + 1)) (nI (p + 1)) (-10005) (upd (upd g (2 * n) (if q_ltr Z L p = 105 then 6 else 7)) (2 * n + 1) (if v3 = 0 then v5 else -v5))) := by
  rw [rmR_0 hL h60 hp (fun h => by rcases hc with c | c <;> rw [c] at h <;> exact absurd h.1 (by decide))]
  have key : q_rmL (nI (2 * n)) v3 v5 (q_ltr Z L p) 0 1 (ZZ Z (nI n) (nI p) (-10005) g) = some (ZZ Z (nI (n + 1)) (nI (p + 1)) (-10005) (upd (upd g (2 * n) (if q_ltr Z L p = 105 then 6 else 7)) (2 * n + 1) (if v3 = 0 then v5 else -v5))) := by
    unfold q_rmL
    rw [Z_wok, bd_some, if_neg (show ¬ (1 : Int32) = 0 from by decide), if_pos rfl, jn_eq]
    by_cases d : q_ltr Z L p = 105
    · rw [if_pos d, if_pos d]
      show (Option.bind (wr 64 (ZZ Z (nI n) (nI (p + 1)) (-10005) g) 9 (nI (2 * n)) 6) fun N32 => q_rmK (nI (2 * n)) v3 v5 N32) = _
      rw [ZZ_9 (by omega), bd_some, rmK_eq hn]
    · rw [if_neg d, if_neg d]
      show (Option.bind (wr 64 (ZZ Z (nI n) (nI (p + 1)) (-10005) g) 9 (nI (2 * n)) 7) fun N32 => q_rmK (nI (2 * n)) v3 v5 N32) = _
      rw [ZZ_9 (by omega), bd_some, rmK_eq hn]
  unfold q_rmM
  rw [if_pos rfl]
  by_cases d : q_ltr Z L p = 105
  · rw [if_pos d]
    exact key
  · rw [if_neg d, if_pos (hc.resolve_left d)]
    exact key
theorem rmR_bad {n : Nat} (hn : n ≤ 30) (hL : Z 0 7 = nI L) (h60 : L ≤ 60) (hp : p < 900) {v3 v5 : Int32} (h1 : q_ltr Z L p ≠ 105) (h2 : q_ltr Z L p ≠ 111) (h3 : ¬ (q_ltr Z L p = 64 ∧ v3 = 0 ∧ ¬ 5 < v5)) : ∃ g', q_rmR (nI (2 * n)) v3 v5 (ZZ Z (nI n) (nI p) (-10005) g) = some (ZZ Z (nI (n + 1)) (nI (p + 1)) (nI p) g') := by
  rw [rmR_0 hL h60 (by omega) h3]
  unfold q_rmM
  rw [if_pos rfl, if_neg h1, if_neg h2]
  unfold q_rmL
  rw [Z_wok, bd_some, if_pos rfl, if_pos rfl, jn_eq, if_neg h1]
  show ∃ g', (Option.bind (wr 64 (ZZ Z (nI n) (nI (p + 1)) (nI p) g) 9 (nI (2 * n)) 7) fun N32 => q_rmK (nI (2 * n)) v3 v5 N32) = _
  rw [ZZ_9 (by omega), bd_some, rmK_eq hn]
  exact ⟨_, rfl⟩
theorem rmR_lay0 {n : Nat} (hn : n ≤ 30) (hL : Z 0 7 = nI L) (h60 : L ≤ 60) (hp : p < 900) {v5 : Int32} (hc : q_ltr Z L p = 64) (h5 : ¬ 5 < v5) : q_rmR (nI (2 * n)) 0 v5 (ZZ Z (nI n) (nI p) (-10005) g) = Option.bind (s_X5_isMinus (ZZ Z (nI n) (nI (p + 1)) (-10005) g)) fun q34 => Option.bind (wr 64 q34.2 9 (nI (2 * n)) v5) fun N36 => Option.bind (s_X5_digit N36) fun q37 => q_rmK (nI (2 * n)) q34.1 q37.1 q37.2 := by
  unfold q_rmR
  rw [Z_letter hL h60 (by omega), bd_some, if_pos hc, if_pos rfl, if_neg h5]
  unfold q_rmM
  rw [if_neg (show ¬ (1 : Int32) = 0 from by decide)]
  unfold q_rmL
  rw [Z_wok, bd_some, if_neg (show ¬ (1 : Int32) = 0 from by decide), if_neg (show ¬ (1 : Int32) = 0 from by decide)]
theorem rmR_layM {n : Nat} (hn : n ≤ 30) (hL : Z 0 7 = nI L) (h60 : L ≤ 60) (hp : p < 900) {v5 : Int32} (hc : q_ltr Z L p = 64) (h5 : ¬ 5 < v5) (h2 : q_ltr Z L (p + 1) = 45) (hd : q_dig (q_ltr Z L (p + 2))) : q_rmR (nI (2 * n)) 0 v5 (ZZ Z (nI n) (nI p) (-10005) g) = some (ZZ Z (nI (n + 1)) (nI (p + 3)) (-10005) (upd (upd g (2 * n) v5) (2 * n + 1) (-(q_ltr Z L (p + 2) - 48)))) := by
  rw [rmR_lay0 hn hL h60 hp hc h5, Z_mok hL h60 (by omega), if_pos h2, bd_some]
  show (Option.bind (wr 64 (ZZ Z (nI n) (nI (p + 1 + 1)) (-10005) g) 9 (nI (2 * n)) v5) fun N36 => Option.bind (s_X5_digit N36) fun q37 => q_rmK (nI (2 * n)) 1 q37.1 q37.2) = _
  rw [ZZ_9 (by omega), bd_some, Z_dok (p := p + 1 + 1) hd hL h60 (by omega), bd_some]
  show q_rmK (nI (2 * n)) 1 (q_ltr Z L (p + 2) - 48) (ZZ Z (nI n) (nI (p + 3)) (-10005) (upd g (2 * n) v5)) = _
  rw [rmK_eq hn, if_neg (show ¬ (1 : Int32) = 0 from by decide)]
theorem rmR_layMb {n : Nat} (hn : n ≤ 30) (hL : Z 0 7 = nI L) (h60 : L ≤ 60) (hp : p < 900) {v5 : Int32} (hc : q_ltr Z L p = 64) (h5 : ¬ 5 < v5) (h2 : q_ltr Z L (p + 1) = 45) (hd : ¬ q_dig (q_ltr Z L (p + 2))) : ∃ g', q_rmR (nI (2 * n)) 0 v5 (ZZ Z (nI n) (nI p) (-10005) g) = some (ZZ Z (nI (n + 1)) (nI (p + 3)) (nI (p + 2)) g') := by
  rw [rmR_lay0 hn hL h60 hp hc h5, Z_mok hL h60 (by omega), if_pos h2, bd_some]
  show ∃ g', (Option.bind (wr 64 (ZZ Z (nI n) (nI (p + 1 + 1)) (-10005) g) 9 (nI (2 * n)) v5) fun N36 => Option.bind (s_X5_digit N36) fun q37 => q_rmK (nI (2 * n)) 1 q37.1 q37.2) = _
  rw [ZZ_9 (by omega), bd_some, Z_dbad (p := p + 1 + 1) hd hL h60 (by omega), bd_some]
  show ∃ g', q_rmK (nI (2 * n)) 1 (q_ltr Z L (p + 2) - 48) (ZZ Z (nI n) (nI (p + 3)) (nI (p + 2)) (upd g (2 * n) v5)) = _
  rw [rmK_eq hn]
  exact ⟨_, rfl⟩
theorem rmR_layP {n : Nat} (hn : n ≤ 30) (hL : Z 0 7 = nI L) (h60 : L ≤ 60) (hp : p < 900) {v5 : Int32} (hc : q_ltr Z L p = 64) (h5 : ¬ 5 < v5) (h2 : ¬ q_ltr Z L (p + 1) = 45) (hd : q_dig (q_ltr Z L (p + 1))) : q_rmR (nI (2 * n)) 0 v5 (ZZ Z (nI n) (nI p) (-10005) g) = some (ZZ Z (nI (n + 1)) (nI (p + 2)) (-10005) (upd (upd g (2 * n) v5) (2 * n + 1) (q_ltr Z L (p + 1) - 48))) := by
  rw [rmR_lay0 hn hL h60 hp hc h5, Z_mok hL h60 (by omega), if_neg h2, bd_some]
  show (Option.bind (wr 64 (ZZ Z (nI n) (nI (p + 1)) (-10005) g) 9 (nI (2 * n)) v5) fun N36 => Option.bind (s_X5_digit N36) fun q37 => q_rmK (nI (2 * n)) 0 q37.1 q37.2) = _
  rw [ZZ_9 (by omega), bd_some, Z_dok hd hL h60 (by omega), bd_some]
  show q_rmK (nI (2 * n)) 0 (q_ltr Z L (p + 1) - 48) (ZZ Z (nI n) (nI (p + 2)) (-10005) (upd g (2 * n) v5)) = _
  rw [rmK_eq hn, if_pos rfl]
theorem rmR_layPb {n : Nat} (hn : n ≤ 30) (hL : Z 0 7 = nI L) (h60 : L ≤ 60) (hp : p < 900) {v5 : Int32} (hc : q_ltr Z L p = 64) (h5 : ¬ 5 < v5) (h2 : ¬ q_ltr Z L (p + 1) = 45) (hd : ¬ q_dig (q_ltr Z L (p + 1))) : ∃ g', q_rmR (nI (2 * n)) 0 v5 (ZZ Z (nI n) (nI p) (-10005) g) = some (ZZ Z (nI (n + 1)) (nI (p + 2)) (nI (p + 1)) g') := by
  rw [rmR_lay0 hn hL h60 hp hc h5, Z_mok hL h60 (by omega), if_neg h2, bd_some]
  show ∃ g', (Option.bind (wr 64 (ZZ Z (nI n) (nI (p + 1)) (-10005) g) 9 (nI (2 * n)) v5) fun N36 => Option.bind (s_X5_digit N36) fun q37 => q_rmK (nI (2 * n)) 0 q37.1 q37.2) = _
  rw [ZZ_9 (by omega), bd_some, Z_dbad hd hL h60 (by omega), bd_some]
  show ∃ g', q_rmK (nI (2 * n)) 0 (q_ltr Z L (p + 1) - 48) (ZZ Z (nI n) (nI (p + 2)) (nI (p + 1)) (upd g (2 * n) v5)) = _
  rw [rmK_eq hn]
  exact ⟨_, rfl⟩
end
