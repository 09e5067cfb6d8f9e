def q_worth (a : Bd) : Int32 := if q_out a = 0 then 0 else if q_out a = 3 then 0 else if q_out a = 1 + q_sd a then 1 else -1
/-! ranks; the reference's trial and its taking back -/
def q_num (k : Nat) : Nat := if k < 60 then 1 + k / 12 else 6 + k % 2
def q_plc (k : Nat) : Int32 := if (if k < 60 then k % 12 else (k - 60) / 2) < 6 then nI (if k < 60 then k % 12 else (k - 60) / 2) - 6 else nI (if k < 60 then k % 12 else (k - 60) / 2) - 5
theorem rank_tab : ∀ k, k < 84 → s_X0_numberOf (nI k) = some (nI (q_num k)) ∧ True ∧ s_X0_placeOf (nI k) = some (q_plc k) ∧ True ∧ q_plc k ∈ pls ∧ 1 ≤ q_num k ∧ q_num k ≤ 7 := by decide +kernel
/-! the look ahead, abstractly; the class' search -/
def iI (v : Int) : Int32 := Int32.ofInt v
theorem iI_toInt {v : Int} (h1 : -20000 ≤ v) (h2 : v ≤ 20000) : (iI v).toInt = v := by
  unfold iI
  rw [Int32.toInt_ofInt]
  exact Int.bmod_eq_of_le (by show -((Int32.size : Nat) : Int) / 2 ≤ v; have : (Int32.size : Int) = 4294967296 := rfl; omega) (by have : (Int32.size : Int) = 4294967296 := rfl; omega)
theorem iI_lt {a b : Int} (ha : -20000 ≤ a ∧ a ≤ 20000) (hb : -20000 ≤ b ∧ b ≤ 20000) : iI a < iI b ↔ a < b := by
  rw [Int32.lt_iff_toInt_lt, iI_toInt ha.1 ha.2, iI_toInt hb.1 hb.2]
theorem iI_le {a b : Int} (ha : -20000 ≤ a ∧ a ≤ 20000) (hb : -20000 ≤ b ∧ b ≤ 20000) : iI a ≤ iI b ↔ a ≤ b := by
  rw [Int32.le_iff_toInt_le, iI_toInt ha.1 ha.2, iI_toInt hb.1 hb.2]
theorem iI_eq {a b : Int} (ha : -20000 ≤ a ∧ a ≤ 20000) (hb : -20000 ≤ b ∧ b ≤ 20000) : iI a = iI b ↔ a = b := by
  rw [← Int32.toInt_inj, iI_toInt ha.1 ha.2, iI_toInt hb.1 hb.2]
theorem iI_neg {a : Int} (ha : -20000 ≤ a ∧ a ≤ 20000) : -(iI a) = iI (-a) := by
  apply i32_of
  rw [Int32.toInt_neg, iI_toInt ha.1 ha.2, iI_toInt (by omega) (by omega)]
  exact Int.bmod_eq_of_le (by omega) (by omega)
theorem iI_add {a b : Int} (ha : -10000 ≤ a ∧ a ≤ 10000) (hb : -10000 ≤ b ∧ b ≤ 10000) : iI a + iI b = iI (a + b) := by
  apply i32_of
  rw [Int32.toInt_add, iI_toInt (by omega) (by omega), iI_toInt (by omega) (by omega), iI_toInt (by omega) (by omega)]
  exact Int.bmod_eq_of_le (by omega) (by omega)
theorem iI_sub {a b : Int} (ha : -10000 ≤ a ∧ a ≤ 10000) (hb : -10000 ≤ b ∧ b ≤ 10000) : iI a - iI b = iI (a - b) := by
  apply i32_of
  rw [Int32.toInt_sub, iI_toInt (by omega) (by omega), iI_toInt (by omega) (by omega), iI_toInt (by omega) (by omega)]
  exact Int.bmod_eq_of_le (by omega) (by omega)
theorem iI_max {a b : Int} (ha : -20000 ≤ a ∧ a ≤ 20000) (hb : -20000 ≤ b ∧ b ≤ 20000) : imax (iI a) (iI b) = iI (max a b) := by
  unfold imax
  by_cases h : a < b
  · rw [if_pos ((iI_lt ha hb).mpr h), Int.max_eq_right (by omega)]
  · rw [if_neg (fun e => h ((iI_lt ha hb).mp e)), Int.max_eq_left (by omega)]
def q_wi (a : Bd) : Int := if q_out a = 0 then 0 else if q_out a = 3 then 0 else if q_out a = 1 + q_sd a then 1 else -1
theorem q_wi_worth (a : Bd) : q_worth a = iI (q_wi a) := by
  unfold q_worth q_wi
  repeat' split
  all_goals rfl
theorem q_wi_r (a : Bd) : -1 ≤ q_wi a ∧ q_wi a ≤ 1 := by
  unfold q_wi
  repeat' split
  all_goals omega
def q_sv (g : Bd → Int) (a : Bd) (k : Nat) : Int := if q_sd (q_do a (q_num k) (q_plc k)) = q_sd a then g (q_do a (q_num k) (q_plc k)) else -(g (q_do a (q_num k) (q_plc k)))
def q_mx (g : Bd → Int) (a : Bd) : Nat → Int
  | 0 => -2
  | k + 1 => if q_hind a (q_num k) (q_plc k) = 0 then max (q_mx g a k) (q_sv g a k) else q_mx g a k
def q_fin (m : Int) : Int := if m = -2 then 0 else m
def q_val : Nat → Bd → Int
  | 0 => fun a => q_wi a
  | d + 1 => fun a => if q_out a = 0 then q_fin (q_mx (q_val d) a 84) else q_wi a
def q_rg (g : Bd → Int) : Prop := ∀ a, -1 ≤ g a ∧ g a ≤ 1
theorem q_sv_r {g : Bd → Int} (h : q_rg g) (a : Bd) (k : Nat) : -1 ≤ q_sv g a k ∧ q_sv g a k ≤ 1 := by
  unfold q_sv
  have := h (q_do a (q_num k) (q_plc k))
  split <;> omega
theorem q_mx_r {g : Bd → Int} (h : q_rg g) (a : Bd) : ∀ k, q_mx g a k = -2 ∨ (-1 ≤ q_mx g a k ∧ q_mx g a k ≤ 1)
  | 0 => Or.inl rfl
  | k + 1 => by
    have h1 := q_mx_r h a k
    have h2 := q_sv_r h a k
    unfold q_mx
    split <;> omega
theorem q_mx_mono {g : Bd → Int} {a : Bd} {k : Nat} : ∀ {j : Nat}, q_mx g a k ≤ q_mx g a (k + j)
  | 0 => Int.le_refl _
  | j + 1 => by
    have h := q_mx_mono (g := g) (a := a) (k := k) (j := j)
    have e : q_mx g a (k + (j + 1)) = if q_hind a (q_num (k + j)) (q_plc (k + j)) = 0 then max (q_mx g a (k + j)) (q_sv g a (k + j)) else q_mx g a (k + j) := rfl
    rw [e]
    split <;> omega
theorem q_val_r : ∀ d, q_rg (q_val d)
  | 0 => fun a => q_wi_r a
  | d + 1 => fun a => by
    have h1 := q_mx_r (q_val_r d) a 84
    have h2 := q_wi_r a
    unfold q_val q_fin
    split
    · split <;> omega
    · exact h2
theorem q_bg_do {a : Bd} {n : Nat} {p : Int32} : q_bg (q_do a n p) = if 6 ≤ n then q_bg a else fun j v => if j = sn (q_sd a) ∧ v = n then q_bg a j v + (-1) else q_bg a j v := by
  show q_bg (q_mid a n p) = _
  unfold q_mid
  split <;> rfl
theorem q_sg_do {a : Bd} {n : Nat} {p : Int32} : q_sg (q_do a n p) = q_sg a := by
  show q_sg (q_mid a n p) = _
  unfold q_mid
  split <;> rfl
theorem q_sd_mid {a : Bd} {n : Nat} {p : Int32} : q_sd (q_mid a n p) = q_sd a := by
  unfold q_mid
  split <;> rfl
theorem q_beh01 {b : Bd} (h : q_sd b = 0 ∨ q_sd b = 1) : q_beh b = 0 ∨ q_beh b = 1 := by
  have h2 := q_oth h
  unfold q_beh
  repeat' split
  all_goals first | exact h2 | exact h
theorem q_ok_do {a : Bd} {n : Nat} {p : Int32} (ok : q_ok a) (h1 : 1 ≤ n) (hh : q_hind a n p = 0) : q_ok (q_do a n p) := by
  refine ⟨q_beh01 (by rw [q_sd_mid]; exact ok.1), ok.1, fun i hi w hw1 hw5 => ?_, by rw [q_sg_do]; exact ok.2.2.2.1, by rw [q_sg_do]; exact ok.2.2.2.2.1, by rw [q_sg_do]; exact ok.2.2.2.2.2.1, by rw [q_sg_do]; exact ok.2.2.2.2.2.2⟩
  rw [q_bg_do]
  obtain ⟨m, hm, e⟩ := ok.2.2.1 i hi w hw1 hw5
  by_cases c : 6 ≤ n
  · rw [if_pos c]; exact ⟨m, hm, e⟩
  · rw [if_neg c]
    by_cases c2 : i = sn (q_sd a) ∧ w = n
    · rw [if_pos c2]
      have h0 : q_bg a i w ≠ 0 := by
        intro h0
        unfold q_hind at hh
        rw [if_neg c, ← c2.1, ← c2.2, if_pos h0] at hh
        exact absurd hh (by decide)
      rw [e] at h0 ⊢
      cases m with
      | zero => exact absurd rfl h0
      | succ m => exact ⟨m, by omega, pk_m1 m⟩
    · rw [if_neg c2]; exact ⟨m, hm, e⟩
/-- what a search with the window lo, hi answers of a value v -/
def q_P (lo hi v r : Int) : Prop := (r ≤ lo → v ≤ r) ∧ (hi ≤ r → r ≤ v) ∧ (lo < r → r < hi → r = v) ∧ -1 ≤ r ∧ r ≤ 1
theorem q_P_self {lo hi v : Int} (h : -1 ≤ v ∧ v ≤ 1) : q_P lo hi v v := ⟨fun _ => Int.le_refl _, fun _ => Int.le_refl _, fun _ _ => rfl, h.1, h.2⟩
def q_HA (A : Mm → Int32 → Int32 → Int32 → Option (Int32 × Mm)) (d : Nat) (g : Bd → Int) : Prop :=
  ∀ (B : Mm) (b : Bd) (lo hi : Int), RC B b → q_ok b → (-10 ≤ lo ∧ lo ≤ 1) → (-1 ≤ hi ∧ hi ≤ 10) → lo < hi → ∃ r B', A B (nI d) (iI lo) (iI hi) = some (iI r, B') ∧ RC B' b ∧ RS B B' ∧ q_P lo hi (g b) r
theorem A_behind {A : Mm → Int32 → Int32 → Int32 → Option (Int32 × Mm)} {d : Nat} {g : Bd → Int} (HA : q_HA A d g) {B : Mm} {a : Bd} {k : Nat} {lo hi : Int} (R : RC B a) (ok : q_ok a) (hk : k < 84) (hh : q_hind a (q_num k) (q_plc k) = 0) (hlo : -10 ≤ lo ∧ lo ≤ 1) (hhi : -1 ≤ hi ∧ hi ≤ 10) (hlt : lo < hi) :
    ∃ r B', s_X3_behind A B (nI (q_num k)) (q_plc k) (nI d) (iI lo) (iI hi) = some (iI r, B') ∧ RC B' a ∧ RS B B' ∧ q_P lo hi (q_sv g a k) r := by
  obtain ⟨-, -, -, -, hp, h1, h7⟩ := rank_tab k hk
  obtain ⟨B1, e1, R1, S1⟩ := C_try R ok h1 h7 hp hh
  have ok1 := q_ok_do ok h1 hh
  unfold s_X3_behind s_X0_side s_X0_latestSide s_X0_movedTo
  rw [bd_some, bd_some, bd_some, e1, bd_some, bd_some, jn_eq, R.2.2.2.1, R.2.2.2.2.1, R.2.2.2.2.2.1, R1.2.2.2.1]
  unfold q_sv
  by_cases c : q_sd (q_do a (q_num k) (q_plc k)) = q_sd a
  · rw [if_pos c, if_pos c]
    obtain ⟨r, B2, e2, R2, S2, P2⟩ := HA B1 _ lo hi R1 ok1 hlo hhi hlt
    obtain ⟨B3, e3, R3, S3⟩ := C_back ok R.hc h1 h7 hp hh R2
    rw [e2, bd_some]
    dsimp only
    rw [e3, bd_some]
    exact ⟨r, B3, rfl, R3, S1.tr (S2.tr S3), P2⟩
  · rw [if_neg c, if_neg c, iI_neg (by omega), iI_neg (by omega)]
    obtain ⟨r, B2, e2, R2, S2, P2⟩ := HA B1 _ (-hi) (-lo) R1 ok1 (by omega) (by omega) (by omega)
    obtain ⟨B3, e3, R3, S3⟩ := C_back ok R.hc h1 h7 hp hh R2
    rw [e2, bd_some]
    dsimp only
    rw [e3, bd_some]
    obtain ⟨p1, p2, p3, p4, p5⟩ := P2
    refine ⟨-r, B3, by rw [iI_neg (by omega)], R3, S1.tr (S2.tr S3), ?_, ?_, ?_, by omega, by omega⟩
    · intro h; have := p2 (by omega); omega
    · intro h; have := p1 (by omega); omega
    · intro h h'; have := p3 (by omega) (by omega); omega
theorem A_loop {A : Mm → Int32 → Int32 → Int32 → Option (Int32 × Mm)} {d : Nat} {g : Bd → Int} (hg : q_rg g) (HA : q_HA A d g) {a : Bd} {lo hi : Int} (ok : q_ok a) (hlo : -10 ≤ lo ∧ lo ≤ 1) (hhi : -1 ≤ hi ∧ hi ≤ 10) (hlt : lo < hi) :
    ∀ (j k fuel : Nat) {B : Mm} {G : Int}, k + j = 84 → j < fuel → RC B a → (G = -2 ∧ q_mx g a k = -2 ∨ -1 ≤ G ∧ G ≤ 1 ∧ -1 ≤ q_mx g a k) → G < hi → (G ≤ lo → q_mx g a k ≤ G) → (lo < G → G = q_mx g a k) →
      ∃ r B', s_X3_ahead_L31 A fuel B (nI (d + 1)) (iI lo) (iI hi) (iI G) (nI k) = some (iI r, B') ∧ RC B' a ∧ RS B B' ∧ q_P lo hi (q_fin (q_mx g a 84)) r := by
  intro j
  induction j with
  | zero =>
    intro k fuel B G hk hf R h0 h1 h2 h3
    obtain ⟨f, rfl⟩ : ∃ f, fuel = f + 1 := ⟨fuel - 1, by omega⟩
    have hk : k = 84 := by omega
    subst hk
    rw [s_X3_ahead_L31, if_pos (show (84 : Int32) ≤ nI 84 from by decide)]
    unfold q_fin
    by_cases c : G = -2
    · rw [if_pos (show iI G = (-2 : Int32) by rw [c]; rfl), if_pos (by omega)]
      exact ⟨0, B, rfl, R, RS.rf, q_P_self ⟨by decide, by decide⟩⟩
    · rw [if_neg (show ¬ iI G = (-2 : Int32) from fun e => c ((iI_eq (b := -2) (by omega) (by omega)).mp e)), if_neg (by omega)]
      exact ⟨G, B, rfl, R, RS.rf, h2, by omega, fun h _ => h3 h, by omega, by omega⟩
  | succ j ih =>
    intro k fuel B G hk hf R h0 h1 h2 h3
    obtain ⟨f, rfl⟩ : ∃ f, fuel = f + 1 := ⟨fuel - 1, by omega⟩
    have hk84 : k < 84 := by omega
    obtain ⟨t1, -, t3, -, hp, n1, n7⟩ := rank_tab k hk84
    rw [s_X3_ahead_L31, if_neg (show ¬ (84 : Int32) ≤ nI k from nI_ge (b := 84) hk84 (by decide)), t1, bd_some, t3, bd_some, C_hind R ok n1 n7 hp, bd_some]
    have em : q_mx g a (k + 1) = if q_hind a (q_num k) (q_plc k) = 0 then max (q_mx g a k) (q_sv g a k) else q_mx g a k := rfl
    by_cases c : q_hind a (q_num k) (q_plc k) = 0
    · rw [if_pos c] at em
      rw [if_pos c, show nI (d + 1) - 1 = nI d from nI_pred d, iI_max (by omega) (by omega)]
      obtain ⟨r, B1, e1, R1, S1, p1, p2, p3, p4, p5⟩ := A_behind HA R ok hk84 c (lo := max lo G) (hi := hi) (by omega) hhi (by omega)
      have hv := q_sv_r hg a k
      rw [e1, bd_some, jn_eq, jn_eq, iI_max (by omega) (by omega)]
      by_cases c2 : max G r < hi
      · rw [if_pos ((iI_lt (by omega) (by omega)).mpr c2), jn_eq, nI_1]
        obtain ⟨r2, B2, e2, R2, S2, P2⟩ := ih (k + 1) f (B := B1) (G := max G r) (by omega) (by omega) R1 (by rw [em]; omega) c2
          (by
            intro h
            have q1 := p1 (by omega)
            have q2 := h2 (by omega)
            rw [em]
            omega)
          (by
            intro h
            rw [em]
            rcases Int.lt_or_le (max lo G) r with h4 | h4
            · have q3 := p3 h4 (by omega)
              rcases Int.lt_or_le lo G with h5 | h5
              · have := h3 h5; omega
              · have := h2 h5; omega
            · have q1 := p1 h4
              have h5 : lo < G := by omega
              have := h3 h5
              omega)
        exact ⟨r2, B2, e2, R2, S1.tr S2, P2⟩
      · rw [if_neg (fun e => c2 ((iI_lt (by omega) (by omega)).mp e))]
        have q2 := p2 (by omega)
        have mono : q_mx g a (k + 1) ≤ q_mx g a 84 := by
          have := q_mx_mono (g := g) (a := a) (k := k + 1) (j := j)
          rwa [show k + 1 + j = 84 by omega] at this
        have hm := q_mx_r hg a 84
        refine ⟨max G r, B1, rfl, R1, S1, ?_, ?_, ?_, by omega, by omega⟩
        · intro h; omega
        · intro h
          unfold q_fin
          split <;> omega
        · intro h h'; omega
    · rw [if_neg c] at em
      rw [if_neg c, jn_eq, nI_1]
      exact ih (k + 1) f (by omega) (by omega) R (by rw [em]; exact h0) h1 (by rw [em]; exact h2) (by rw [em]; exact h3)
theorem A_ok : ∀ (d m : Nat), d < m → m < 1000 → q_HA (s_X3_ahead m) d (q_val d) := by
  intro d
  induction d with
  | zero =>
    intro m hm hm2 B b lo hi R ok hlo hhi hlt
    obtain ⟨f, rfl⟩ : ∃ f, m = f + 1 := ⟨m - 1, by omega⟩
    show ∃ r B', s_X3_aheadF (s_X3_ahead f) B (nI 0) (iI lo) (iI hi) = _ ∧ _
    unfold s_X3_aheadF
    rw [C_out R, bd_some]
    by_cases c : q_out b = 0
    · rw [if_pos c, if_neg (by decide)]
      refine ⟨0, B, rfl, R, RS.rf, ?_⟩
      have : q_val 0 b = 0 := by show q_wi b = 0; unfold q_wi; rw [if_pos c]
      rw [this]
      exact q_P_self ⟨by decide, by decide⟩
    · rw [if_neg c, C_worth R, bd_some]
      refine ⟨q_wi b, B, ?_, R, RS.rf, q_P_self (q_wi_r b)⟩
      rw [← q_wi_worth]
      rfl
  | succ d ih =>
    intro m hm hm2 B b lo hi R ok hlo hhi hlt
    obtain ⟨f, rfl⟩ : ∃ f, m = f + 1 := ⟨m - 1, by omega⟩
    show ∃ r B', s_X3_aheadF (s_X3_ahead f) B (nI (d + 1)) (iI lo) (iI hi) = _ ∧ _
    unfold s_X3_aheadF
    rw [C_out R, bd_some]
    by_cases c : q_out b = 0
    · have ev : q_val (d + 1) b = q_fin (q_mx (q_val d) b 84) := by show (if _ then _ else _) = _; rw [if_pos c]
      rw [ev, if_pos c, if_pos (show (0 : Int32) < nI (d + 1) from nI_lt (a := 0) (Nat.succ_pos d) (by omega))]
      have h0 : q_mx (q_val d) b 0 = -2 := rfl
      have h := A_loop (q_val_r d) (ih f (by omega) (by omega)) ok hlo hhi hlt 84 0 1000 (G := -2) rfl (by decide) R (Or.inl ⟨rfl, h0⟩) (by omega) (fun _ => by rw [h0]; exact Int.le_refl _) (fun _ => h0.symm)
      rw [show iI (-2) = (-2 : Int32) from rfl, show nI 0 = (0 : Int32) from rfl] at h
      exact h
    · rw [if_neg c, C_worth R, bd_some]
      refine ⟨q_wi b, B, ?_, R, RS.rf, ?_⟩
      · rw [← q_wi_worth]; rfl
      · have ev : q_val (d + 1) b = q_wi b := by show (if _ then _ else _) = _; rw [if_neg c]
        rw [ev]
        exact q_P_self (q_wi_r b)
