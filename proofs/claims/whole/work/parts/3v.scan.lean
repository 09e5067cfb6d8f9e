/-! the text read: the class' reader in a plain form -/
def q_mm (f : Nat → Int32) (m a b c : Int32) : Nat → Int32 := fun q => if q = 4 then m else if q = 5 then a else if q = 6 then b else if q = 7 then c else f q
def q_MM (M : Mm) (m a b c : Int32) (ns ps : Nat → Int32) : Mm := fun k => if k = 0 then q_mm (M 0) m a b c else if k = 2 then ns else if k = 3 then ps else M k
section
variable {M : Mm} {m a b c x : Int32} {ns ps : Nat → Int32}
theorem MM_4 : pf (q_MM M m a b c ns ps) 0 4 x = some (q_MM M x a b c ns ps) := by
  rw [pf_eq]
  congr 1
  funext k q
  unfold q_MM mset upd q_mm
  by_cases h0 : k = 0
  · subst h0
    by_cases h1 : q = 4 <;> simp [h1]
  · simp [h0]
theorem MM_5 : pf (q_MM M m a b c ns ps) 0 5 x = some (q_MM M m x b c ns ps) := by
  rw [pf_eq]
  congr 1
  funext k q
  unfold q_MM mset upd q_mm
  by_cases h0 : k = 0
  · subst h0
    by_cases h1 : q = 5 <;> simp [h1]
  · simp [h0]
theorem MM_6 : pf (q_MM M m a b c ns ps) 0 6 x = some (q_MM M m a x c ns ps) := by
  rw [pf_eq]
  congr 1
  funext k q
  unfold q_MM mset upd q_mm
  by_cases h0 : k = 0
  · subst h0
    by_cases h1 : q = 6 <;> simp [h1]
  · simp [h0]
theorem MM_7 : pf (q_MM M m a b c ns ps) 0 7 x = some (q_MM M m a b x ns ps) := by
  rw [pf_eq]
  congr 1
  funext k q
  unfold q_MM mset upd q_mm
  by_cases h0 : k = 0
  · subst h0
    by_cases h1 : q = 7 <;> simp [h1]
  · simp [h0]
theorem MM_w2 {k : Nat} (hk : k < 20) : wr 20 (q_MM M m a b c ns ps) 2 (nI k) x = some (q_MM M m a b c (upd ns k x) ps) := by
  rw [wr_n hk (by omega)]
  congr 1
  funext j q
  unfold q_MM mset
  by_cases h0 : j = 2
  · subst h0
    simp
  · simp [h0]
theorem MM_w3 {k : Nat} (hk : k < 20) : wr 20 (q_MM M m a b c ns ps) 3 (nI k) x = some (q_MM M m a b c ns (upd ps k x)) := by
  rw [wr_n hk (by omega)]
  congr 1
  funext j q
  unfold q_MM mset
  by_cases h0 : j = 3
  · subst h0
    simp
  · simp [h0]
theorem MM_in : M = q_MM M (M 0 4) (M 0 5) (M 0 6) (M 0 7) (M 2) (M 3) := by
  funext k q
  unfold q_MM q_mm
  by_cases h0 : k = 0
  · subst h0
    by_cases h1 : q = 4
    · simp [h1]
    · by_cases h2 : q = 5
      · simp [h2]
      · by_cases h3 : q = 6
        · simp [h3]
        · by_cases h4 : q = 7
          · simp [h4]
          · simp [h1, h2, h3, h4]
  · by_cases h2 : k = 2
    · simp [h2]
    · by_cases h3 : k = 3
      · simp [h3]
      · simp [h0, h2, h3]
theorem tk_m : s_X2_take (q_MM M m a b c ns ps) 45 = some (q_MM M m a b 1 ns ps) := by
  unfold s_X2_take
  rw [if_pos rfl, MM_7, bd_some]
theorem tk_s : s_X2_take (q_MM M m a b c ns ps) 59 = some (q_MM M m a b 0 ns ps) := by
  unfold s_X2_take
  rw [if_neg (show ¬ (59 : Int32) = 45 from by decide), if_pos rfl, MM_7, bd_some]
theorem tk_a : s_X2_take (q_MM M m a b c ns ps) 64 = some (q_MM M m b b c ns ps) := by
  unfold s_X2_take
  rw [if_neg (show ¬ (64 : Int32) = 45 from by decide), if_neg (show ¬ (64 : Int32) = 59 from by decide), if_pos rfl, show q_MM M m a b c ns ps 0 6 = b from rfl, MM_5, bd_some]
theorem tk_w (h : x = 105 ∨ x = 111) : s_X2_take (q_MM M m a b c ns ps) x = some (q_MM M m (if x = 105 then 6 else 7) b c ns ps) := by
  unfold s_X2_take
  rcases h with rfl | rfl
  · rw [if_neg (show ¬ (105 : Int32) = 45 from by decide), if_neg (show ¬ (105 : Int32) = 59 from by decide), if_neg (show ¬ (105 : Int32) = 64 from by decide), if_pos rfl, MM_5, bd_some, if_pos rfl]
  · rw [if_neg (show ¬ (111 : Int32) = 45 from by decide), if_neg (show ¬ (111 : Int32) = 59 from by decide), if_neg (show ¬ (111 : Int32) = 64 from by decide), if_neg (show ¬ (111 : Int32) = 105 from by decide), if_pos rfl, MM_5, bd_some, if_neg (show ¬ (111 : Int32) = 105 from by decide)]
theorem tk_d (h : q_dig x) : s_X2_take (q_MM M m a b c ns ps) x = some (q_MM M m a (x - 48) c ns ps) := by
  obtain ⟨-, -, h45, h64, h105, h111, h59, -⟩ := q_dig_r h
  unfold s_X2_take
  rw [if_neg h45, if_neg h59, if_neg h64, if_neg h105, if_neg h111, MM_6, bd_some]
theorem end_mv {k : Nat} (hk : k < 20) : s_X2_endMove (q_MM M (nI k) a b c ns ps) = some (q_MM M (nI (k + 1)) a b c (upd ns k a) (upd ps k (if c = 0 then b else -b))) := by
  have key : ∀ v, (Option.bind (wr 20 (q_MM M (nI k) a b c (upd ns k a) ps) 3 (nI k) v) fun N8 => Option.bind (pf N8 0 4 (N8 0 4 + 1)) fun N9 => some N9) = some (q_MM M (nI (k + 1)) a b c (upd ns k a) (upd ps k v)) := fun v => by
    rw [MM_w3 hk, bd_some, show q_MM M (nI k) a b c (upd ns k a) (upd ps k v) 0 4 = nI k from rfl, nI_1, MM_4, bd_some]
  unfold s_X2_endMove
  rw [show q_MM M (nI k) a b c ns ps 0 4 = nI k from rfl, if_neg (show ¬ nI k < 0 from nI_pos (by omega)), if_neg (show ¬ (20 : Int32) ≤ nI k from nI_ge (b := 20) hk (by omega)), if_pos (show nI k < 20 from nI_lt (b := 20) hk (by omega)), show q_MM M (nI k) a b c ns ps 0 5 = a from rfl, MM_w2 hk, bd_some, jn_eq]
  show (if c = 0 then _ else _) = _
  by_cases d : c = 0
  · rw [if_pos d, if_pos d]
    exact key _
  · rw [if_neg d, if_neg d]
    exact key _
end
/-- the next state of the reader, once it is known of the letter that it is a digit (v2), or a way (v4) -/
def q_sb (x0 x1 v2 v4 : Int32) : Option Int32 :=
  if x0 = (0 : Int32) then (if x1 = (45 : Int32) then some (3 : Int32) else if v2 = (0 : Int32) then some (7 : Int32) else if x1 = (54 : Int32) then some (2 : Int32) else some (1 : Int32))
  else if x0 = (1 : Int32) then (if x1 = (64 : Int32) then some (4 : Int32) else if v4 = (0 : Int32) then some (7 : Int32) else some (6 : Int32))
  else if x0 = (2 : Int32) then (if v4 = (0 : Int32) then some (7 : Int32) else some (6 : Int32))
  else if x0 = (3 : Int32) then (if v2 = (0 : Int32) then some (7 : Int32) else some (2 : Int32))
  else if x0 = (4 : Int32) then (if x1 = (45 : Int32) then some (5 : Int32) else if v2 = (0 : Int32) then some (7 : Int32) else some (6 : Int32))
  else if x0 = (5 : Int32) then (if v2 = (0 : Int32) then some (7 : Int32) else some (6 : Int32))
  else if x0 = (6 : Int32) then (if x1 = (59 : Int32) then some (0 : Int32) else some (7 : Int32))
  else some (7 : Int32)
def q_v2 (c : Int32) : Int32 := if c < 49 then 0 else if 54 < c then 0 else 1
def q_v4 (c : Int32) : Int32 := if c = 105 then 1 else if c = 111 then 1 else 0
theorem sb_4 (s c v2 : Int32) : (jn (fun (v4 : Int32) => q_sb s c v2 v4) fun k3 => jn (fun (_ : Unit) => k3 (1 : Int32)) fun k23 => if c = (105 : Int32) then k23 () else if c = (111 : Int32) then k23 () else k3 (0 : Int32)) = q_sb s c v2 (q_v4 c) := by
  unfold q_v4
  rw [jn_eq, jn_eq]
  by_cases h1 : c = 105
  · rw [if_pos h1, if_pos h1]
  · rw [if_neg h1, if_neg h1]
    by_cases h2 : c = 111
    · rw [if_pos h2, if_pos h2]
    · rw [if_neg h2, if_neg h2]
theorem sb_eq (s c : Int32) : s_X2_stateBehind s c = q_sb s c (q_v2 c) (q_v4 c) := by
  have e : s_X2_stateBehind s c = jn (fun (v2 : Int32) => (jn (fun (v4 : Int32) => q_sb s c v2 v4) fun k3 => jn (fun (_ : Unit) => k3 (1 : Int32)) fun k23 => if c = (105 : Int32) then k23 () else if c = (111 : Int32) then k23 () else k3 (0 : Int32))) fun k1 => jn (fun (_ : Unit) => k1 (0 : Int32)) fun k26 => if c < (49 : Int32) then k26 () else if (54 : Int32) < c then k26 () else k1 (1 : Int32) := rfl
  rw [e, jn_eq, jn_eq]
  unfold q_v2
  by_cases h1 : c < 49
  · rw [if_pos h1, if_pos h1]
    exact sb_4 s c 0
  · rw [if_neg h1, if_neg h1]
    by_cases h2 : 54 < c
    · rw [if_pos h2, if_pos h2]
      exact sb_4 s c 0
    · rw [if_neg h2, if_neg h2]
      exact sb_4 s c 1
theorem v2_d {c : Int32} (h : q_dig c) : q_v2 c = 1 := by
  unfold q_v2
  rw [if_neg (q_dig_r h).1, if_neg (q_dig_r h).2.1]
theorem v2_n {c : Int32} (h : ¬ q_dig c) : q_v2 c = 0 := by
  unfold q_v2
  by_cases h1 : c < 49
  · rw [if_pos h1]
  · rw [if_neg h1]
    by_cases h2 : 54 < c
    · rw [if_pos h2]
    · exact absurd (q_dig_of h1 h2) h
theorem v4_w {c : Int32} (h : c = 105 ∨ c = 111) : q_v4 c = 1 := by rcases h with rfl | rfl <;> rfl
theorem v4_n {c : Int32} (h1 : c ≠ 105) (h2 : c ≠ 111) : q_v4 c = 0 := by
  unfold q_v4
  rw [if_neg h1, if_neg h2]
theorem sb_0m : s_X2_stateBehind 0 45 = some 3 := rfl
theorem sb_0d {c : Int32} (h : q_dig c) : s_X2_stateBehind 0 c = some (if c = 54 then 2 else 1) := by
  rw [sb_eq, v2_d h]
  unfold q_sb
  rw [if_pos rfl, if_neg (q_dig_r h).2.2.1, if_neg (show ¬ (1 : Int32) = 0 from by decide)]
  split <;> rfl
theorem sb_0n {c : Int32} (h1 : c ≠ 45) (h : ¬ q_dig c) : s_X2_stateBehind 0 c = some 7 := by
  rw [sb_eq, v2_n h]
  unfold q_sb
  rw [if_pos rfl, if_neg h1, if_pos rfl]
theorem sb_1a : s_X2_stateBehind 1 64 = some 4 := rfl
theorem sb_1w {c : Int32} (h : c = 105 ∨ c = 111) : s_X2_stateBehind 1 c = some 6 := by rcases h with rfl | rfl <;> rfl
theorem sb_1n {c : Int32} (h0 : c ≠ 64) (h1 : c ≠ 105) (h2 : c ≠ 111) : s_X2_stateBehind 1 c = some 7 := by
  rw [sb_eq, v4_n h1 h2]
  unfold q_sb
  rw [if_neg (show ¬ (1 : Int32) = 0 from by decide), if_pos rfl, if_neg h0, if_pos rfl]
theorem sb_2w {c : Int32} (h : c = 105 ∨ c = 111) : s_X2_stateBehind 2 c = some 6 := by rcases h with rfl | rfl <;> rfl
theorem sb_2n {c : Int32} (h1 : c ≠ 105) (h2 : c ≠ 111) : s_X2_stateBehind 2 c = some 7 := by
  rw [sb_eq, v4_n h1 h2]
  unfold q_sb
  rw [if_neg (show ¬ (2 : Int32) = 0 from by decide), if_neg (show ¬ (2 : Int32) = 1 from by decide), if_pos rfl, if_pos rfl]
theorem sb_3d {c : Int32} (h : q_dig c) : s_X2_stateBehind 3 c = some 2 := by
  rw [sb_eq, v2_d h]
  rfl
theorem sb_3n {c : Int32} (h : ¬ q_dig c) : s_X2_stateBehind 3 c = some 7 := by
  rw [sb_eq, v2_n h]
  rfl
theorem sb_4m : s_X2_stateBehind 4 45 = some 5 := rfl
theorem sb_4d {c : Int32} (h : q_dig c) : s_X2_stateBehind 4 c = some 6 := by
  rw [sb_eq, v2_d h]
  show (if c = 45 then some 5 else some 6) = _
  rw [if_neg (q_dig_r h).2.2.1]
theorem sb_4n {c : Int32} (h1 : c ≠ 45) (h : ¬ q_dig c) : s_X2_stateBehind 4 c = some 7 := by
  rw [sb_eq, v2_n h]
  show (if c = 45 then some 5 else some 7) = _
  rw [if_neg h1]
theorem sb_5d {c : Int32} (h : q_dig c) : s_X2_stateBehind 5 c = some 6 := by
  rw [sb_eq, v2_d h]
  rfl
theorem sb_5n {c : Int32} (h : ¬ q_dig c) : s_X2_stateBehind 5 c = some 7 := by
  rw [sb_eq, v2_n h]
  rfl
theorem sb_6s : s_X2_stateBehind 6 59 = some 0 := rfl
theorem sb_6n {c : Int32} (h : c ≠ 59) : s_X2_stateBehind 6 c = some 7 := by
  rw [sb_eq]
  show (if c = 59 then some 0 else some 7) = _
  rw [if_neg h]
section
variable {M Z : Mm} {L p f : Nat} {m a b c s s' : Int32} {ns ps : Nat → Int32}
theorem ltr_in (h : q_ltr Z L p ≠ -10005) : p < L ∧ q_ltr Z L p = Z 5 p := by
  unfold q_ltr at h ⊢
  by_cases c : p < L
  · rw [if_pos c]
    exact ⟨c, rfl⟩
  · rw [if_neg c] at h
    exact absurd rfl h
theorem rl_hd (hM : M 0 3 = nI L) (h60 : L ≤ 60) (hp : p < L) (ht : M 1 p = Z 5 p) (hs : s_X2_stateBehind s (q_ltr Z L p) = some s') : s_X2_read_L14 (f + 1) (q_MM M m a b c ns ps) s (nI p) =
    if s' = 7 then some (nI p, q_MM M m a b c ns ps) else Option.bind (s_X2_take (q_MM M m a b c ns ps) (q_ltr Z L p)) fun N19 => if s' = 6 then Option.bind (s_X2_endMove N19) fun N22 => s_X2_read_L14 f N22 s' (nI (p + 1)) else s_X2_read_L14 f N19 s' (nI (p + 1)) := by
  have el : q_ltr Z L p = Z 5 p := if_pos hp
  rw [el] at hs ⊢
  rw [s_X2_read_L14, jn_eq, show q_MM M m a b c ns ps 0 3 = nI L from hM, if_neg (nI_ge hp (by omega)), if_neg (show ¬ (60 : Int32) ≤ nI p from nI_ge (b := 60) (by omega) (by omega)), rd_n (by omega) (by omega), bd_some, show q_MM M m a b c ns ps 1 p = Z 5 p from ht, hs, bd_some, bd_some, nI_1]
  rfl
theorem rl_stop (hM : M 0 3 = nI L) (h60 : L ≤ 60) (hp : p ≤ L) (ht : ∀ i, i < L → M 1 i = Z 5 i) (h6 : s ≠ 6) (hs : s_X2_stateBehind s (q_ltr Z L p) = some 7) : s_X2_read_L14 (f + 1) (q_MM M m a b c ns ps) s (nI p) = some (nI p, q_MM M m a b c ns ps) := by
  by_cases d : p < L
  · rw [rl_hd hM h60 d (ht p d) hs, if_pos rfl]
  · have e : p = L := by omega
    subst e
    rw [s_X2_read_L14, jn_eq, show q_MM M m a b c ns ps 0 3 = nI p from hM, if_pos (Int32.le_refl _), if_neg h6]
theorem rl_go (hM : M 0 3 = nI L) (h60 : L ≤ 60) (ht : ∀ i, i < L → M 1 i = Z 5 i) (hn : q_ltr Z L p ≠ -10005) (hs : s_X2_stateBehind s (q_ltr Z L p) = some s') (h7 : s' ≠ 7) (h6 : s' ≠ 6) {N : Mm} (hk : s_X2_take (q_MM M m a b c ns ps) (q_ltr Z L p) = some N) : s_X2_read_L14 (f + 1) (q_MM M m a b c ns ps) s (nI p) = s_X2_read_L14 f N s' (nI (p + 1)) := by
  have d := (ltr_in hn).1
  rw [rl_hd hM h60 d (ht p d) hs, if_neg h7, hk, bd_some, if_neg h6]
theorem rl_end (hM : M 0 3 = nI L) (h60 : L ≤ 60) (ht : ∀ i, i < L → M 1 i = Z 5 i) (hn : q_ltr Z L p ≠ -10005) (hs : s_X2_stateBehind s (q_ltr Z L p) = some 6) {k : Nat} (h20 : k < 20) {a' b' c' : Int32} (hk : s_X2_take (q_MM M m a b c ns ps) (q_ltr Z L p) = some (q_MM M (nI k) a' b' c' ns ps)) : s_X2_read_L14 (f + 1) (q_MM M m a b c ns ps) s (nI p) = s_X2_read_L14 f (q_MM M (nI (k + 1)) a' b' c' (upd ns k a') (upd ps k (if c' = 0 then b' else -b'))) 6 (nI (p + 1)) := by
  have d := (ltr_in hn).1
  rw [rl_hd hM h60 d (ht p d) hs, if_neg (show ¬ (6 : Int32) = 7 from by decide), hk, bd_some, if_pos rfl, end_mv h20, bd_some]
end
