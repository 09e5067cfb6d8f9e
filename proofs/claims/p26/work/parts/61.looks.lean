/-! looks; the moves so far told anew -/
section
variable {T : Nat → Mm} {m b t : Nat → Int32} {a : Bd}
theorem L_looks (R : RT m b t a) (C : RC (T 1) a) (x : Int32) : q_ok1 T a (s_L_looks T m b t x) := by
  have ok := R.2.1
  obtain ⟨h1, e1, g1⟩ := L_one R zr
  obtain ⟨B1, e2, C1, S1⟩ := K_look C ok (d := 1) (by omega)
  obtain ⟨B2, e3, C2, S2⟩ := K_best (T := tset T 1 B1) (by rw [ts_eq]; exact C1) ok (d := 0) (by omega)
  rw [ts_eq] at S2
  have e2' : s_X4_look T 1 = some (iI (q_val 1 a), tset T 1 B1) := e2
  have e3' : s_X4_best (tset T 1 B1) 1 = some (q_bt (q_br 0 a), tset (tset T 1 B1) 1 B2) := e3
  rw [tset_tset] at e3'
  unfold s_L_looks
  rw [e1, bd_some, jn_eq, e2', bd_some]
  dsimp only
  rw [if_pos rfl, e3', bd_some, rd_e (i := 0) 0 rfl (by decide) (by decide), bd_some]
  dsimp only
  rw [if_pos g1.symm]
  by_cases c : x = 0
  · rw [if_pos c]
    exact ⟨B2, rfl, C2, S1.tr S2⟩
  · rw [if_neg c]
    obtain ⟨h2, e4, g2⟩ := L_two R h1
    obtain ⟨B3, e5, C3, S3⟩ := K_look (T := tset T 1 B2) (by rw [ts_eq]; exact C2) ok (d := 2) (by omega)
    rw [ts_eq] at S3
    have e5' : s_X4_look (tset T 1 B2) 2 = some (iI (q_val 2 a), tset (tset T 1 B2) 1 B3) := e5
    rw [tset_tset] at e5'
    obtain ⟨B4, e6, C4, S4⟩ := K_best (T := tset T 1 B3) (by rw [ts_eq]; exact C3) ok (d := 1) (by omega)
    rw [ts_eq] at S4
    have e6' : s_X4_best (tset T 1 B3) 2 = some (q_bt (q_br 1 a), tset (tset T 1 B3) 1 B4) := e6
    rw [tset_tset] at e6'
    rw [e4, bd_some, jn_eq, e5', bd_some]
    dsimp only
    rw [if_pos rfl, e6', bd_some, rd_e (i := 0) 0 rfl (by decide) (by decide), bd_some]
    dsimp only
    rw [if_pos g2.symm]
    exact ⟨B4, rfl, C4, (S1.tr S2).tr (S3.tr S4)⟩
end
def q_LG (T : Nat → Mm) (mc : Nat) (l0 l1 l2 l3 : Nat → Int32) : Prop := ∀ i, i < 40 → i < mc → T 1 5 (4 * i) = l0 i ∧ T 1 5 (4 * i + 1) = l1 i ∧ T 1 5 (4 * i + 2) = l2 i ∧ T 1 5 (4 * i + 3) = l3 i
theorem rmi_n {x y : Nat} (hx : x < 2 ^ 31) (h0 : 0 < y) (hy : y < 2 ^ 31) : rmi (nI x) (nI y) = some (nI (x % y)) := by
  unfold rmi
  rw [if_neg (nI_ne0 h0 hy), pk_rem hx h0 hy]
theorem dvi_n {x y : Nat} (hx : x < 2 ^ 31) (h0 : 0 < y) (hy : y < 2 ^ 31) : dvi (nI x) (nI y) = some (nI (x / y)) := by
  unfold dvi
  rw [if_neg (nI_ne0 h0 hy), pk_div hx h0 hy]
theorem made_loop {xs : Nat → Int32} {LL : Nat} {T : Nat → Mm} {a6 a5 a4 a3 a2 a1 a0 : Nat → Int32} {x9 : Int32} {mc : Nat} (hm : T 1 0 11 = nI mc) (h5 : a2 5 = nI mc) (hc : mc < 1000) (G : q_LG T mc a3 a4 a5 a6) : ∀ (j k fuel : Nat), 41 ≤ k + j → j < fuel → k < 100 → s_L_law_I921 xs LL fuel T a6 a5 a4 a3 a2 a1 a0 x9 1 (nI k) = some 1 := by
  intro j
  induction j with
  | zero =>
    intro k fuel hk hf h100
    obtain ⟨f, rfl⟩ : ∃ f, fuel = f + 1 := ⟨fuel - 1, by omega⟩
    rw [s_L_law_I921, if_pos (show (41 : Int32) ≤ nI k from nI_le (a := 41) (by omega) (by omega))]
  | succ j ih =>
    intro k fuel hk hf h100
    obtain ⟨f, rfl⟩ : ∃ f, fuel = f + 1 := ⟨fuel - 1, by omega⟩
    rw [s_L_law_I921]
    by_cases c : 41 ≤ k
    · rw [if_pos (show (41 : Int32) ≤ nI k from nI_le (a := 41) c (by omega))]
    have nx : s_L_law_I921 xs LL f T a6 a5 a4 a3 a2 a1 a0 x9 1 (nI (k + (1 + k / 3))) = some 1 := ih _ f (by omega) (by omega) (by omega)
    have hat : nI mc + 79 - nI k = nI (mc + 79 - k) := by
      rw [show (79 : Int32) = nI 79 from rfl, nI_add, nI_sub (by omega)]
    rw [if_neg (show ¬ (41 : Int32) ≤ nI k from nI_ge (b := 41) (by omega) (by omega)), if_neg (show ¬ (1 : Int32) = 0 from by decide), rd_e (i := 5) 5 rfl (by decide) (by decide), bd_some, h5, hat, show rmi (nI (mc + 79 - k)) 40 = _ from rmi_n (y := 40) (by omega) (by omega) (by omega), bd_some, bd_some]
    have hi : (mc + 79 - k) % 40 < 40 := Nat.mod_lt _ (by omega)
    have key : ∀ (z : Int32) (V : Nat → Int32), (∀ q, q < 4 → s_X4_made T (nI k) (nI q) = some (V q)) → ((z = 0 ∧ V 0 = a3 ((mc + 79 - k) % 40) ∧ V 1 = a4 ((mc + 79 - k) % 40) ∧ V 2 = a5 ((mc + 79 - k) % 40) ∧ V 3 = a6 ((mc + 79 - k) % 40)) ∨ (¬ z = 0 ∧ ∀ q, q < 4 → V q = -10005)) → ∀ (s : Nat → Int32) (q : Nat), q < 4 → (z = 0 → V q = s ((mc + 79 - k) % 40)) → ∀ K : Int32 → Option Int32, K (V q) = some 1 → (if z = 0 then Option.bind (rd 40 s (nI ((mc + 79 - k) % 40))) fun v => K v else K (-10005)) = some 1 := by
      intro z V hV hz s q hq hs K hK
      by_cases c1 : z = 0
      · rw [if_pos c1, rd_n hi (by decide), bd_some, ← hs c1]
        exact hK
      · rw [if_neg c1]
        rcases hz with h | h
        · exact absurd h.1 c1
        · rw [← h.2 q hq]
          exact hK
    refine jn_ind (P := fun K => ∀ (z : Int32) (V : Nat → Int32), (∀ q, q < 4 → s_X4_made T (nI k) (nI q) = some (V q)) → ((z = 0 ∧ V 0 = a3 ((mc + 79 - k) % 40) ∧ V 1 = a4 ((mc + 79 - k) % 40) ∧ V 2 = a5 ((mc + 79 - k) % 40) ∧ V 3 = a6 ((mc + 79 - k) % 40)) ∨ (¬ z = 0 ∧ ∀ q, q < 4 → V q = -10005)) → K z = some 1) (Q := fun o => o = some 1) ?_ ?_
    · intro z V hV hz
      have ky := key z V hV hz
      have m0 : s_X4_made T (nI k) 0 = some (V 0) := hV 0 (by omega)
      have m1 : s_X4_made T (nI k) 1 = some (V 1) := hV 1 (by omega)
      have m2 : s_X4_made T (nI k) 2 = some (V 2) := hV 2 (by omega)
      have m3 : s_X4_made T (nI k) 3 = some (V 3) := hV 3 (by omega)
      have s0 : z = 0 → V 0 = a3 ((mc + 79 - k) % 40) := fun e => by rcases hz with h | h; exact h.2.1; exact absurd e h.1
      have s1 : z = 0 → V 1 = a4 ((mc + 79 - k) % 40) := fun e => by rcases hz with h | h; exact h.2.2.1; exact absurd e h.1
      have s2 : z = 0 → V 2 = a5 ((mc + 79 - k) % 40) := fun e => by rcases hz with h | h; exact h.2.2.2.1; exact absurd e h.1
      have s3 : z = 0 → V 3 = a6 ((mc + 79 - k) % 40) := fun e => by rcases hz with h | h; exact h.2.2.2.2; exact absurd e h.1
      dsimp only
      rw [m0, bd_some]
      refine jn_ind (P := fun K => K (V 0) = some 1) (Q := fun o => o = some 1) ?_ (fun K hK => ky a3 0 (by omega) s0 K hK)
      dsimp only
      refine jn_ind (P := fun K => K 1 = some 1) (Q := fun o => o = some 1) ?_ ?_
      · dsimp only
        rw [show dvi (nI k) 3 = _ from dvi_n (y := 3) (by omega) (by omega) (by omega), bd_some, jn_eq, show (1 : Int32) + nI (k / 3) = nI (1 + k / 3) from nI_add 1 _, nI_add]
        exact nx
      · intro K1 hK1
        refine jn_ind (P := fun _ => True) (Q := fun o => o = some 1) trivial ?_
        intro K0 _
        rw [if_pos rfl, m1, bd_some]
        refine jn_ind (P := fun K => K (V 1) = some 1) (Q := fun o => o = some 1) ?_ (fun K hK => ky a4 1 (by omega) s1 K hK)
        dsimp only
        rw [if_pos rfl, m2, bd_some]
        refine jn_ind (P := fun K => K (V 2) = some 1) (Q := fun o => o = some 1) ?_ (fun K hK => ky a5 2 (by omega) s2 K hK)
        dsimp only
        rw [if_pos rfl, m3, bd_some]
        refine jn_ind (P := fun K => K (V 3) = some 1) (Q := fun o => o = some 1) ?_ (fun K hK => ky a6 3 (by omega) s3 K hK)
        dsimp only
        rw [if_pos rfl]
        exact hK1
    · intro K hK
      refine jn_ind (P := fun K2 => K2 () = K 1) (Q := fun o => o = some 1) rfl ?_
      intro K2 hK2
      have hmade := fun q (hq : q < 4) => K_made (T := T) (j := k) hm (by omega) (by omega) hq
      by_cases c1 : mc ≤ k
      · rw [if_pos (nI_le c1 (by omega)), hK2]
        refine hK 1 (fun _ => -10005) (fun q hq => ?_) (Or.inr ⟨by decide, fun _ _ => rfl⟩)
        rw [hmade q hq, if_neg (by omega)]
      · rw [if_neg (nI_ge (by omega) (by omega))]
        by_cases c2 : k = 40
        · rw [if_pos (show nI k = 40 from by rw [c2]; rfl), hK2]
          refine hK 1 (fun _ => -10005) (fun q hq => ?_) (Or.inr ⟨by decide, fun _ _ => rfl⟩)
          rw [hmade q hq, if_neg (by omega)]
        · rw [if_neg (show ¬ nI k = 40 from fun e => c2 ((nI_eq (b := 40) (by omega) (by omega)).mp e))]
          have ei : (mc + 79 - k) % 40 = (mc - 1 - k) % 40 := by omega
          obtain ⟨g0, g1, g2, g3⟩ := G ((mc - 1 - k) % 40) (by omega) (by omega)
          refine hK 0 (fun q => T 1 5 (4 * ((mc - 1 - k) % 40) + q)) (fun q hq => ?_) (Or.inl ⟨rfl, ?_⟩)
          · rw [hmade q hq, if_pos (by omega)]
          · rw [ei]
            exact ⟨g0, g1, g2, g3⟩
