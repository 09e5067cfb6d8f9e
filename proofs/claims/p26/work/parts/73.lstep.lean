/-! one turn of the law's own loop -/
theorem is_one {r v : Int32} {K : Int32 → Option Int32} (e : r = v) (h : K 1 = some 1) : (if r = v then K 1 else K 0) = some 1 := by rw [if_pos e]; exact h
theorem L_set3 {xs : Nat → Int32} {LL e k d : Nat} {T : Nat → Mm} {a6 a5 a4 a3 a2 a1 a0 : Nat → Int32} {K : Int32 → (Nat → Mm) → (Nat → Int32) → (Nat → Int32) → (Nat → Int32) → (Nat → Int32) → (Nat → Int32) → (Nat → Int32) → (Nat → Int32) → Option Int32}
    (hK : ∀ T' A6 A5 A4 A3 A2 A1 A0, LI (e + 1) T' A0 A1 A2 A3 A4 A5 A6 → K 1 T' A6 A5 A4 A3 A2 A1 A0 = some 1) (h : LI e T a0 a1 a2 a3 a4 a5 a6) (hk : k < 4) (h1 : s_mn k ≤ d) (h2 : d ≤ s_mx k) :
    (Option.bind (rd 11 a2 (nI k)) fun v934 =>
            Option.bind (wr1 11 a2 (nI k) (nI d)) fun A935 =>
            Option.bind (s_X4_set T (nI k) (nI d)) fun q936 =>
            jn (fun (v938 : Int32) =>
              jn (fun (v940 : Int32) =>
                K v940 q936.2 a6 a5 a4 a3 A935 a1 a0) fun k939 =>
              if q936.1 = v938 then
                k939 (1 : Int32)
              else
              k939 (0 : Int32)) fun k937 =>
            if v934 = (nI d) then
              k937 (-10005 : Int32)
            else
            k937 v934) = some 1 := by
  obtain ⟨r, T', e1, er, h'⟩ := A_set h hk h1 h2
  rw [rd_n (by omega) (by decide), bd_some, wr1_n (by omega) (by decide), bd_some, e1, bd_some]
  dsimp only
  refine jn_ind (P := fun K2 => K2 r = some 1) (Q := fun o => o = some 1) ?_ ?_
  · dsimp only
    exact jn_ind (P := fun K2 => K2 1 = some 1) (Q := fun o => o = some 1) (hK _ _ _ _ _ _ _ _ h') (fun K2 h2 => is_one rfl h2)
  · intro K2 hK2
    rw [er] at hK2
    by_cases c : a2 k = nI d
    · rw [if_pos c]
      rw [if_pos c] at hK2
      exact hK2
    · rw [if_neg c]
      rw [if_neg c] at hK2
      exact hK2
theorem L_bag3 {xs : Nat → Int32} {LL e i w d : Nat} {T : Nat → Mm} {a6 a5 a4 a3 a2 a1 a0 : Nat → Int32} {K : Int32 → (Nat → Mm) → (Nat → Int32) → (Nat → Int32) → (Nat → Int32) → (Nat → Int32) → (Nat → Int32) → (Nat → Int32) → (Nat → Int32) → Option Int32}
    (hK : ∀ T' A6 A5 A4 A3 A2 A1 A0, LI (e + 1) T' A0 A1 A2 A3 A4 A5 A6 → K 1 T' A6 A5 A4 A3 A2 A1 A0 = some 1) (h : LI e T a0 a1 a2 a3 a4 a5 a6) (hi : i < 2) (hw : w < 5) (hd : d ≤ 6) :
    (Option.bind (rd 10 a1 (((5 : Int32) * nI i) + nI w)) fun v958 =>
          Option.bind (wr1 10 a1 (((5 : Int32) * nI i) + nI w) (nI d)) fun A959 =>
          Option.bind (s_X4_setBag T (nI i) (nI w + (1 : Int32)) (nI d)) fun q960 =>
          jn (fun (v962 : Int32) =>
            jn (fun (v964 : Int32) =>
              K v964 q960.2 a6 a5 a4 a3 a2 A959 a0) fun k963 =>
            if q960.1 = v962 then
              k963 (1 : Int32)
            else
            k963 (0 : Int32)) fun k961 =>
          if v958 = (nI d) then
            k961 (-10005 : Int32)
          else
          k961 v958) = some 1 := by
  obtain ⟨r, T', e1, er, h'⟩ := A_setBag h hi hw hd
  rw [show (5 : Int32) = nI 5 from rfl, pk_mul, nI_add, rd_n (by omega) (by decide), bd_some, wr1_n (by omega) (by decide), bd_some, nI_1, e1, bd_some]
  dsimp only
  refine jn_ind (P := fun K2 => K2 r = some 1) (Q := fun o => o = some 1) ?_ ?_
  · dsimp only
    exact jn_ind (P := fun K2 => K2 1 = some 1) (Q := fun o => o = some 1) (hK _ _ _ _ _ _ _ _ h') (fun K2 h2 => is_one rfl h2)
  · intro K2 hK2
    rw [er] at hK2
    by_cases c : a1 (5 * i + w) = nI d
    · rw [if_pos c]
      rw [if_pos c] at hK2
      exact hK2
    · rw [if_neg c]
      rw [if_neg c] at hK2
      exact hK2
theorem L_step {xs : Nat → Int32} {LL n e : Nat} (hL : LL ≤ 260) (he : e < 46) (nx : ∀ (T : Nat → Mm) (a6 a5 a4 a3 a2 a1 a0 : Nat → Int32), LI (e + 1) T a0 a1 a2 a3 a4 a5 a6 → s_L_law_L89 xs LL n T a6 a5 a4 a3 a2 a1 a0 (nI (e + 1)) = some 1) (T : Nat → Mm) (a6 a5 a4 a3 a2 a1 a0 : Nat → Int32) (h : LI e T a0 a1 a2 a3 a4 a5 a6) : s_L_law_L89 xs LL (n + 1) T a6 a5 a4 a3 a2 a1 a0 (nI e) = some 1 := by
  obtain ⟨v6, e6⟩ := L_cellOk (xs := xs) (LL := LL) (k := e) hL (by omega)
  obtain ⟨kd, hkd, ek⟩ := L_low (x := v6) (y := 16) (by omega) (by omega)
  have ek' : s_L_low v6 16 = some (nI kd) := ek
  obtain ⟨pr, hpr, ep⟩ := L_low (x := v6 >>> ((4 : Int32) &&& 31)) (y := 12) (by omega) (by omega)
  have ep' : s_L_low (v6 >>> ((4 : Int32) &&& 31)) 12 = some (nI pr) := ep
  obtain ⟨hp, epl, esl⟩ := pz_tab pr hpr
  rw [s_L_law_L89, if_neg (show ¬ (46 : Int32) ≤ nI e from nI_ge (b := 46) he (by decide)), e6, bd_some, ek', bd_some, ep', bd_some, epl, bd_some]
  generalize pz pr = p at hp epl esl
  refine jn_ind (P := fun K => ∀ T' A6 A5 A4 A3 A2 A1 A0, LI (e + 1) T' A0 A1 A2 A3 A4 A5 A6 → K 1 T' A6 A5 A4 A3 A2 A1 A0 = some 1) (Q := fun o => o = some 1) (fun T' A6 A5 A4 A3 A2 A1 A0 hI => L_tail he nx T' A6 A5 A4 A3 A2 A1 A0 hI) ?_
  intro K hK
  by_cases c9 : 9 ≤ kd
  · rw [if_pos (show (9 : Int32) ≤ nI kd from nI_le (a := 9) c9 (by omega))]
    by_cases c11 : 11 ≤ kd
    · rw [if_pos (show (11 : Int32) ≤ nI kd from nI_le (a := 11) c11 (by omega))]
      by_cases c13 : 13 ≤ kd
      · rw [if_pos (show (13 : Int32) ≤ nI kd from nI_le (a := 13) c13 (by omega))]
        by_cases c15 : 15 ≤ kd
        · rw [if_pos (show (15 : Int32) ≤ nI kd from nI_le (a := 15) c15 (by omega))]
          obtain ⟨m', t', r, T', e1, e2, e3, h'⟩ := A_begin (xs := xs) (LL := LL) (a6 := a6) (a5 := a5) (a4 := a4) (a3 := a3) (x9 := nI e) h
          rw [e1, bd_some]
          dsimp only
          rw [e2, bd_some, e3, bd_some]
          dsimp only
          exact jn_ind (P := fun K2 => K2 1 = some 1) (Q := fun o => o = some 1) (hK _ _ _ _ _ _ _ _ h') (fun K2 h2 => is_one rfl h2)
        · rw [if_neg (show ¬ (15 : Int32) ≤ nI kd from nI_ge (b := 15) (by omega) (by omega))]
          obtain ⟨i, hi, ei⟩ := L_low (x := v6 >>> ((4 : Int32) &&& 31)) (y := 4) (by omega) (by omega)
          have ei' : s_L_low (v6 >>> ((4 : Int32) &&& 31)) 4 = some (nI i) := ei
          rw [ei', bd_some]
          refine jn_ind (P := fun K3 => ∀ d, s_mn i ≤ d → d ≤ s_mx i → K3 (nI d) = some 1) (Q := fun o => o = some 1) (fun d d1 d2 => L_set3 (xs := xs) (LL := LL) hK h hi d1 d2) ?_
          intro K3 hK3
          by_cases i0 : i = 0
          · subst i0
            obtain ⟨r, hr, er⟩ := L_low (x := v6 >>> ((6 : Int32) &&& 31)) (y := 4) (by omega) (by omega)
            have er' : s_L_low (v6 >>> ((6 : Int32) &&& 31)) 4 = some (nI r) := er
            rw [if_pos (show nI 0 = 0 from rfl), er', bd_some, show (1 : Int32) + nI r = nI (1 + r) from nI_add 1 r]
            refine hK3 _ ?_ ?_
            · show 1 ≤ 1 + r
              omega
            · show 1 + r ≤ 4
              omega
          · rw [if_neg (nI_ne0 (by omega) (by omega))]
            by_cases i1 : i = 1
            · subst i1
              obtain ⟨z, hz, ez⟩ := L_low (x := v6 >>> ((20 : Int32) &&& 31)) (y := 2) (by omega) (by omega)
              have ez' : s_L_low (v6 >>> ((20 : Int32) &&& 31)) 2 = some (nI z) := ez
              rw [if_pos (show nI 1 = 1 from rfl), ez', bd_some]
              refine jn_ind (P := fun K4 => K4 41 = some 1 ∧ K4 20 = some 1) (Q := fun o => o = some 1) ?_ ?_
              · obtain ⟨r, hr, er⟩ := L_low (x := v6 >>> ((6 : Int32) &&& 31)) (y := 41) (by omega) (by omega)
                have er' : s_L_low (v6 >>> ((6 : Int32) &&& 31)) 41 = some (nI r) := er
                obtain ⟨r2, hr2, er2⟩ := L_low (x := v6 >>> ((6 : Int32) &&& 31)) (y := 20) (by omega) (by omega)
                have er2' : s_L_low (v6 >>> ((6 : Int32) &&& 31)) 20 = some (nI r2) := er2
                dsimp only
                rw [er', bd_some, er2', bd_some]
                refine ⟨hK3 _ ?_ ?_, hK3 _ ?_ ?_⟩
                · show 0 ≤ r
                  omega
                · show r ≤ 40
                  omega
                · show 0 ≤ r2
                  omega
                · show r2 ≤ 40
                  omega
              · rintro K4 ⟨k41, k20⟩
                split
                · exact k41
                · exact k20
            · rw [if_neg (show ¬ nI i = 1 from fun x => i1 ((nI_eq (b := 1) (by omega) (by omega)).mp x))]
              obtain ⟨r, hr, er⟩ := L_low (x := v6 >>> ((6 : Int32) &&& 31)) (y := 2) (by omega) (by omega)
              have er' : s_L_low (v6 >>> ((6 : Int32) &&& 31)) 2 = some (nI r) := er
              rw [er', bd_some]
              refine hK3 _ ?_ ?_
              · unfold s_mn
                rw [if_neg i0]
                omega
              · unfold s_mx
                rw [if_neg i0, if_neg i1]
                omega
      · rw [if_neg (show ¬ (13 : Int32) ≤ nI kd from nI_ge (b := 13) (by omega) (by omega))]
        obtain ⟨i, hi, ei⟩ := L_low (x := v6 >>> ((4 : Int32) &&& 31)) (y := 2) (by omega) (by omega)
        have ei' : s_L_low (v6 >>> ((4 : Int32) &&& 31)) 2 = some (nI i) := ei
        obtain ⟨w, hw, ew⟩ := L_low (x := v6 >>> ((5 : Int32) &&& 31)) (y := 5) (by omega) (by omega)
        have ew' : s_L_low (v6 >>> ((5 : Int32) &&& 31)) 5 = some (nI w) := ew
        obtain ⟨z, hz, ez⟩ := L_low (x := v6 >>> ((20 : Int32) &&& 31)) (y := 3) (by omega) (by omega)
        have ez' : s_L_low (v6 >>> ((20 : Int32) &&& 31)) 3 = some (nI z) := ez
        rw [ei', bd_some, ew', bd_some, ez', bd_some]
        refine jn_ind (P := fun K4 => K4 7 = some 1 ∧ K4 2 = some 1) (Q := fun o => o = some 1) ?_ ?_
        · obtain ⟨r, hr, er⟩ := L_low (x := v6 >>> ((8 : Int32) &&& 31)) (y := 7) (by omega) (by omega)
          have er' : s_L_low (v6 >>> ((8 : Int32) &&& 31)) 7 = some (nI r) := er
          obtain ⟨r2, hr2, er2⟩ := L_low (x := v6 >>> ((8 : Int32) &&& 31)) (y := 2) (by omega) (by omega)
          have er2' : s_L_low (v6 >>> ((8 : Int32) &&& 31)) 2 = some (nI r2) := er2
          dsimp only
          rw [er', bd_some, er2', bd_some]
          exact ⟨L_bag3 (xs := xs) (LL := LL) hK h hi hw (by omega), L_bag3 (xs := xs) (LL := LL) hK h hi hw (by omega)⟩
        · rintro K4 ⟨k7, k2⟩
          split
          · exact k7
          · exact k2
    · rw [if_neg (show ¬ (11 : Int32) ≤ nI kd from nI_ge (b := 11) (by omega) (by omega))]
      obtain ⟨w, hw, ew⟩ := L_low (x := v6 >>> ((8 : Int32) &&& 31)) (y := 5) (by omega) (by omega)
      have ew' : s_L_low (v6 >>> ((8 : Int32) &&& 31)) 5 = some (nI w) := ew
      have hs := sl_lt p hp
      obtain ⟨f1, f2⟩ := A_setUp h (show 1 ≤ 1 + w by omega) (show 1 + w ≤ 5 by omega) hp
      rw [ew', bd_some, jn_eq, show (1 : Int32) + nI w = nI (1 + w) from nI_add 1 w, (pz_sl p hp).2, bd_some, c48, rd_n (by omega) (by decide), bd_some, rd_e (i := 0) 0 rfl (by decide) (by decide), bd_some]
      refine jn_ind (P := fun K4 => (a2 0 ≤ a0 (48 + sl p) → K4 1 = some 1) ∧ (¬ a2 0 ≤ a0 (48 + sl p) → K4 0 = some 1)) (Q := fun o => o = some 1) ?_ ?_
      · refine ⟨fun c => ?_, fun c => ?_⟩
        · obtain ⟨e1, h'⟩ := f1 c
          dsimp only [jn]
          rw [if_neg (show ¬ (1 : Int32) = 0 from by decide), e1, bd_some]
          dsimp only
          rw [if_neg (show ¬ (1 : Int32) = 0 from by decide), if_pos rfl]
          exact hK _ _ _ _ _ _ _ _ h'
        · obtain ⟨m', r, T', e1, e2, e3, h'⟩ := f2 c
          dsimp only [jn]
          rw [if_pos rfl, e1, bd_some, rd_e (i := 7) 7 rfl (by decide) (by decide), bd_some, wr1_e (i := 7) 7 rfl (by decide) (by decide), bd_some, e3, bd_some]
          dsimp only
          rw [if_pos rfl, e2, bd_some, if_pos rfl]
          exact hK _ _ _ _ _ _ _ _ h'
      · rintro K4 ⟨k1, k0⟩
        by_cases c : a2 0 ≤ a0 (48 + sl p)
        · rw [if_neg (Int32.not_lt.mpr c)]
          exact k1 c
        · rw [if_pos (Int32.not_le.mp c)]
          exact k0 c
  · rw [if_neg (show ¬ (9 : Int32) ≤ nI kd from nI_ge (b := 9) (by omega) (by omega))]
    refine jn_ind (P := fun K3 => ∀ q, 1 ≤ q → q ≤ 7 → K3 (nI q) = some 1) (Q := fun o => o = some 1) ?_ ?_
    · intro q q1 q7
      have h' := h
      obtain ⟨a, mc, C, R, -⟩ := h'
      have k8 := K_cnt8 C R.2.1
      have hct := ct_le a 84
      dsimp only
      rw [k8, bd_some]
      refine jn_ind (P := fun K4 => ∀ (v : Int32) (u : Nat) (s : Int32), 1 ≤ u → u ≤ 7 → s ∈ pls → dvi v 100 = some (nI u) → rmi v 100 = some (s + 50) → K4 v = some 1) (Q := fun o => o = some 1) ?_ ?_
      · intro v u s u1 u7 hs hd hr
        obtain ⟨y, had, ew, et, hm⟩ := A_move h (by omega) u1 u7 hs
        dsimp only
        rw [hd, bd_some, hr, bd_some, jn_eq, p50 s hs, ew, bd_some, et, bd_some, rd_e (i := 4) 4 rfl (by decide) (by decide), bd_some]
        refine jn_ind (P := fun K5 => ∀ (A6 A5 A4 A3 A2 A1 A0 : Nat → Int32) (r : Int32) (T' : Nat → Mm), s_X4_makeMove T (nI u) s = some (r, T') → ((y ≤ 0 ∧ s_L_turn A0 = some r) ∨ (¬ y ≤ 0 ∧ r = -10010 - y)) → LI (e + 1) T' A0 A1 A2 A3 A4 A5 A6 → K5 A6 A5 A4 A3 A2 A1 A0 = some 1) (Q := fun o => o = some 1) ?_ ?_
        · intro A6 A5 A4 A3 A2 A1 A0 r T' e1 hr' hI
          dsimp only
          refine jn_ind (P := fun K6 => K6 r T' = some 1) (Q := fun o => o = some 1) ?_ ?_
          · dsimp only
            refine jn_ind (P := fun K7 => K7 r = some 1) (Q := fun o => o = some 1) ?_ ?_
            · dsimp only
              exact jn_ind (P := fun K2 => K2 1 = some 1) (Q := fun o => o = some 1) (hK _ _ _ _ _ _ _ _ hI) (fun K2 h2 => is_one rfl h2)
            · intro K7 h7
              rcases hr' with ⟨y0, e2⟩ | ⟨y0, rfl⟩
              · rw [if_pos y0, e2, bd_some]
                exact h7
              · rw [if_neg y0]
                exact h7
          · intro K6 h6
            by_cases c6 : 6 ≤ u
            · rw [if_pos (show (6 : Int32) ≤ nI u from nI_le (a := 6) c6 (by omega))]
              refine jn_ind (P := fun K8 => ∀ fl : Int32, (u = 6 ∧ fl = 1) ∨ (u = 7 ∧ fl = 0) → K8 fl = some 1) (Q := fun o => o = some 1) ?_ ?_
              · intro fl hfl
                dsimp only
                rw [K_push hfl hs e1, bd_some]
                exact h6
              · intro K8 h8
                by_cases c : u = 6
                · rw [if_pos (show nI u = 6 from by rw [c]; rfl)]
                  exact h8 1 (Or.inl ⟨c, rfl⟩)
                · rw [if_neg (show ¬ nI u = 6 from fun x => c ((nI_eq (b := 6) (by omega) (by omega)).mp x))]
                  exact h8 0 (Or.inr ⟨by omega, rfl⟩)
            · rw [if_neg (show ¬ (6 : Int32) ≤ nI u from nI_ge (b := 6) (by omega) (by omega)), K_lay u1 (by omega) hs e1, bd_some]
              exact h6
        · intro K5 h5
          rcases hm with ⟨y0, y1, e1, hI⟩ | ⟨y0, m', b', t', now, T', c, e1, e2, hc, e3, h8, e4, hI⟩
          · rw [if_neg y0]
            exact h5 _ _ _ _ _ _ _ _ _ e1 (Or.inr ⟨y1, rfl⟩) hI
          · have fin := h5 _ _ _ _ _ _ _ _ _ e4 (Or.inl ⟨by rw [y0]; exact Int32.le_refl _, e2⟩) hI
            have hmx := mx_law (x := now) h8
            rw [if_pos y0, e1, bd_some]
            dsimp only
            rw [e2, bd_some, rd_e (i := 5) 5 rfl (by decide) (by decide), bd_some, e3, bd_some, wr1_n hc (by decide), bd_some, wr1_n hc (by decide), bd_some, wr1_n hc (by decide), bd_some, wr1_n hc (by decide), bd_some, bd_some, wr1_e (i := 5) 5 rfl (by decide) (by decide), bd_some, rd_e (i := 6) 6 rfl (by decide) (by decide), bd_some, up_ne (by omega), wr1_e (i := 6) 6 rfl (by decide) (by decide), bd_some, rd_e (i := 8) 8 rfl (by decide) (by decide), bd_some, up_ne (by omega), up_ne (by omega)]
            refine jn_ind (P := fun K9 => K9 (imax (t' 8) (iabs now)) = some 1) (Q := fun o => o = some 1) ?_ ?_
            · dsimp only
              rw [wr1_e (i := 8) 8 rfl (by decide) (by decide), bd_some]
              exact fin
            · intro K9 h9
              by_cases c1 : now ≤ t' 8
              · rw [if_pos c1, bd_some]
                rw [if_pos c1] at hmx
                by_cases c2 : -now ≤ t' 8
                · rw [if_pos c2] at hmx
                  rw [if_pos c2, bd_some, hmx]
                  exact h9
                · rw [if_neg c2] at hmx
                  rw [if_neg c2, hmx]
                  exact h9
              · rw [if_neg c1] at hmx
                rw [if_neg c1]
                rw [← hmx] at h9
                exact h9
      · intro K4 hK4
        have k1 : K4 ((((100 : Int32) * nI q) + p) + (50 : Int32)) = some 1 := by
          obtain ⟨d1, d2⟩ := mv_tab q (by omega) q1 p hp
          exact hK4 _ q p q1 q7 hp d1 d2
        refine jn_ind (P := fun K5 => K5 () = some 1) (Q := fun o => o = some 1) k1 ?_
        intro K5 h5
        by_cases c0 : q_ct a 84 = 0
        · rw [if_pos (show nI (q_ct a 84) ≤ 0 from by rw [c0]; exact Int32.le_refl _)]
          exact h5
        · rw [if_neg (nI_nle (by omega) (by omega))]
          obtain ⟨z, hz, ez⟩ := L_low (x := v6 >>> ((20 : Int32) &&& 31)) (y := 4) (by omega) (by omega)
          have ez' : s_L_low (v6 >>> ((20 : Int32) &&& 31)) 4 = some (nI z) := ez
          rw [ez', bd_some]
          by_cases cz : nI z ≤ 0
          · rw [if_pos cz]
            exact h5
          · obtain ⟨r, hr, er⟩ := L_low (x := v6 >>> ((8 : Int32) &&& 31)) (y := q_ct a 84) (by omega) (by omega)
            obtain ⟨i, hi, ei, hw⟩ := ct_find 84 hr
            obtain ⟨-, -, -, -, hpi, n1, n7⟩ := rank_tab i hi
            obtain ⟨-, -, o3, o4, -, -⟩ := ord_tab i hi
            rw [if_neg cz, er, bd_some, ← ei, K_poss C R.2.1 hi hw, bd_some]
            exact hK4 _ _ _ n1 n7 hpi o3 o4
    · intro K3 hK3
      by_cases c6 : 6 ≤ kd
      · obtain ⟨r, hr, er⟩ := L_low (x := v6 >>> ((8 : Int32) &&& 31)) (y := 2) (by omega) (by omega)
        have er' : s_L_low (v6 >>> ((8 : Int32) &&& 31)) 2 = some (nI r) := er
        rw [if_pos (show (6 : Int32) ≤ nI kd from nI_le (a := 6) c6 (by omega)), er', bd_some, show (6 : Int32) + nI r = nI (6 + r) from nI_add 6 r]
        exact hK3 _ (by omega) (by omega)
      · obtain ⟨r, hr, er⟩ := L_low (x := v6 >>> ((8 : Int32) &&& 31)) (y := 5) (by omega) (by omega)
        have er' : s_L_low (v6 >>> ((8 : Int32) &&& 31)) 5 = some (nI r) := er
        rw [if_neg (show ¬ (6 : Int32) ≤ nI kd from nI_ge (b := 6) (by omega) (by omega)), er', bd_some, show (1 : Int32) + nI r = nI (1 + r) from nI_add 1 r]
        exact hK3 _ (by omega) (by omega)
