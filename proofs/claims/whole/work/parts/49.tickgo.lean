theorem nv_q {α β : Type} (e : α) (k : α → Option β) : nv e k = k e := id rfl
theorem st_tick : Step_tick Inv := by
  intro vC vM hI a0
  obtain ⟨P, T, F, S, E, i1, i2, i3, i4, i5, i6, i7⟩ := id hI
  obtain ⟨t1, t2, t3⟩ := i1.2.1
  unfold F_X10_tick f_X10_tick F_X11_tick f_X11_tick
  rcases win a0 1 200 1 200 (by decide) (by decide) vC vM with ⟨h1, h2, e3, e4⟩ | ⟨-, e3, e4⟩
  · rw [e3, e4, bi_s, bi_s, if_neg n10, if_neg n10]
    obtain ⟨N, hN0, hN1, rfl⟩ := bnd_of (lo := 1) (hi := 200) (by decide) h1 h2 (by decide)
    rw [rfC00, t1, t2, nI_add]
    by_cases h : T + N ≤ 999
    · rw [if_pos (show nI (T + N) ≤ 999 from nI_le (b := 999) h (by omega)), if_pos (show nI (T + N) ≤ 999 from nI_le (b := 999) h (by omega))]
      obtain ⟨vC', u, E', p1, u0, u1, j1, j2, j3, j4, j5, j6, j7⟩ := pass_Inv (N := N) i1 i2 i3 i4 i5 i6 i7 h
      have hl := tickLp (u := u) (N := N) hN1 u1 FU 0 (by omega) (by unfold FU; omega)
      rw [nI_0, u0] at hl
      rw [p1, Option.bind_some, hl, j1.2.1.1, j1.2.1.2.1]
      exact ⟨_, _, _, rfl, rfl, P, T + N, F, S, E', j1, j2, j3, j4, j5, j6, j7⟩
    · rw [if_neg (show ¬ nI (T + N) ≤ 999 from nI_ge (a := 999) (by omega) (by omega)), if_neg (show ¬ nI (T + N) ≤ 999 from nI_ge (a := 999) (by omega) (by omega))]
      exact ⟨_, _, _, rfl, rfl, hI⟩
  · rw [e3, e4, bi_s, bi_s, if_pos z00, if_pos z00]
    exact ⟨_, _, _, rfl, rfl, hI⟩
theorem openE {a b : Nat} {v : VV} (ha : a < 6) (hb : b < 6) : F_X9_openLength 1 (nI a) (nI b) v = some (if v (25 + a) 4 = 0 then (if v (25 + b) 4 = 0 then v (55 + a) b else 0) else 0, v) := by
  unfold F_X9_openLength f_X9_openLength
  have ta : (nI a).toNatClampNeg = a := tn (by omega)
  have ia : inB (nI a) 6 = true := inB_n (by omega) (by omega)
  have tb : (nI b).toNatClampNeg = b := tn (by omega)
  have ib : inB (nI b) 6 = true := inB_n (by omega) (by omega)
  simp only [rfC10, rfC11, rfC2, rfC3, lnC2, lnC3, lnCw ha, ta, tb, gd_t ia, gd_t ib]
  by_cases h1 : v (25 + a) 4 = 0
  · rw [if_pos h1, if_pos h1]
    by_cases h2 : v (25 + b) 4 = 0
    · rw [if_pos h2, if_pos h2]
    · rw [if_neg h2, if_neg h2]
  · rw [if_neg h1, if_neg h1]
theorem st_go : Step_go Inv := by
  intro vC vM hI a0 a1
  obtain ⟨P, T, F, S, E, i1, i2, i3, i4, i5, i6, i7⟩ := id hI
  have hP6 := i1.1.2.2
  have hS4 := i1.2.2.2.1.2.2
  obtain ⟨t1, t2, t3⟩ := i1.2.1
  obtain ⟨f1, f2, f3⟩ := i1.2.2.1
  unfold F_X10_go f_X10_go F_X11_go f_X11_go
  rcases isS i1 a0 with ⟨sh, hsh, rfl, e1, e2⟩ | ⟨-, e1, e2⟩
  · rw [e1, e2, bi_s, bi_s, if_neg n10, if_neg n10]
    rcases isP i1 a1 with ⟨b, hb, rfl, e1, e2⟩ | ⟨-, e1, e2⟩
    · rw [e1, e2, bi_s, bi_s, if_neg n10, if_neg n10]
      obtain ⟨y1, y2, y3, ⟨a, ha, y4⟩, ⟨c, -, hc1, y5⟩, y6⟩ := (i5 sh (by omega)).1 hsh
      have ycg := (i5 sh (by omega)).2.1
      have hsh4 : sh < 4 := by omega
      have ha6 : a < 6 := by omega
      have hb6 : b < 6 := by omega
      obtain ⟨w1, ⟨L, -, hL, w2⟩, w3⟩ := i4 a ha6 b hb6
      obtain ⟨-, -, -, oa, -, -⟩ := i3 a ha6
      obtain ⟨-, -, -, ob, -, -⟩ := i3 b hb6
      have ts : (nI sh).toNatClampNeg = sh := tn (by omega)
      have is_ : inB (nI sh) 4 = true := inB_n (by omega) (by omega)
      have ta : (nI a).toNatClampNeg = a := tn (by omega)
      have ia : inB (nI a) 6 = true := inB_n (by omega) (by omega)
      have tb : (nI b).toNatClampNeg = b := tn (by omega)
      have ib : inB (nI b) 6 = true := inB_n (by omega) (by omega)
      have tw : (nI (6 * a + b)).toNatClampNeg = 6 * a + b := tn (by omega)
      have iw : inB (nI (6 * a + b)) 36 = true := inB_n (by omega) (by omega)
      have hFL : F * L ≤ 20 * 9 := Nat.mul_le_mul f3 hL
      simp only [rfC00, rfC01, rfC8, rfC11, rfC3, lnC8, lnC3, lnCw ha6, ts, gd_t is_, y1, y4, ta, gd_t ia, tb, gd_t ib, w1, w2, rfM23, rfM13, rfM12, rfM25, lnMw, lnMh (show 15 ≤ 15 by omega) (by omega), lnMh (show 15 ≤ 17 by omega) (by omega), lnMp (show 7 ≤ 10 by omega) (by omega), k6, tw, gd_t iw, t1, t2, f1, f2, nI_add, pk_mul, y3, y5]
      simp only [nv_q, nI_add, pk_mul]
      by_cases h : T + L ≤ 999
      · rw [if_pos (show nI (T + L) ≤ 999 from nI_le (b := 999) h (by omega)), if_pos (show nI (T + L) ≤ 999 from nI_le (b := 999) h (by omega)), openE ha6 hb6, bi_s, oa, ob, w1, w2]
        by_cases hA : vM 10 a = 0
        · rw [if_pos hA]
          by_cases hB : vM 10 b = 0
          · rw [if_pos hB]
            by_cases hL0 : L = 0
            · subst hL0
              rw [if_pos nI_0, if_pos nI_0]
              exact ⟨_, _, _, rfl, rfl, hI⟩
            · rw [if_neg (nI_ne0 (by omega) (by omega)), if_neg (nI_ne0 (by omega) (by omega)), if_pos hB, if_pos hA, y3, y5]
              by_cases hc : F * L ≤ c
              · rw [if_pos (nI_le hc (by omega)), if_pos (nI_le hc (by omega)), pk_sub hc, wu_n (show 0 ≠ 67 + sh by omega), wu_n (show 0 ≠ 17 by omega), f2, pk_mul]
                have k1 : iSc P T F S (wu (wu vC (67 + sh) 2 (nI (c - F * L))) 0 7 (vC 0 7 + nI (F * L))) (wu (wu vM 17 sh (nI (c - F * L))) 0 18 (vM 0 18 + nI (F * L))) := by
                  have i1' := i1
                  unfold iSc at i1' ⊢
                  have h67 : ¬ 0 = 67 + sh := by omega
                  simp only [wu_g]
                  simp [h67]
                  obtain ⟨b1, b2, b3, b4, b5, b6, b7, b8, b9⟩ := i1'
                  exact ⟨b1, b2, b3, b4, b5, b6, b7, b8, by rw [b9]⟩
                have k5 : iSp P S (wu (wu vC (67 + sh) 2 (nI (c - F * L))) 0 7 (vC 0 7 + nI (F * L))) (wu (wu vM 17 sh (nI (c - F * L))) 0 18 (vM 0 18 + nI (F * L))) := by
                  intro s' hs'
                  have hh := i5 s' hs'
                  rw [wu_n (show 79 + s' ≠ 0 by omega), wu_n (show 79 + s' ≠ 67 + sh by omega), wu_n (show 71 + s' ≠ 0 by omega), wu_n (show 71 + s' ≠ 67 + sh by omega), wu_n (show 67 + s' ≠ 0 by omega), wu_n (show 15 ≠ 0 by omega), wu_n (show 15 ≠ 17 by omega), wu_n (show 16 ≠ 0 by omega), wu_n (show 16 ≠ 17 by omega), wu_n (show 18 ≠ 0 by omega), wu_n (show 18 ≠ 17 by omega), wu_n (show 17 ≠ 0 by omega)]
                  by_cases e : s' = sh
                  · subst e
                    simp only [wu_c]
                    obtain ⟨x1, x2, x3⟩ := hh
                    refine ⟨fun _ => ⟨?_, ?_, ?_, ⟨a, ha, y4⟩, ?_, y6⟩, x2, x3⟩
                    · rw [if_neg (by decide), y1]
                    · rw [if_neg (by decide), y2]
                    · simp
                    · simp only [↓reduceIte]
                      exact ⟨_, Nat.zero_le _, Nat.le_trans (Nat.sub_le _ _) hc1, rfl⟩
                  · rw [wu_n (show 67 + s' ≠ 67 + sh from fun h => e (Nat.add_left_cancel h)), wu_j e]
                    exact hh
                obtain ⟨vC', u, E', p1, u0, u1, j1, j2, j3, j4, j5, j6, j7⟩ := pass_Inv (N := L) k1 (iSh_c i2 (fun k hk => by rw [wu_n (by omega), wu_n (by omega)]) (fun c _ _ => by rw [wu_n (by omega), wu_n (by omega)])) (iPo_c i3 (fun k hk => by rw [wu_n (by omega), wu_n (by omega)]) (fun c _ _ => by rw [wu_n (by omega), wu_n (by omega)])) (iWy_c i4 (fun k hk => by rw [wu_n (by omega), wu_n (by omega)]) (by rw [wu_n (by omega), wu_n (by omega)])) k5 (iEv_c i6 (by rw [wu_n (by omega), wu_n (by omega)]) (fun c _ _ => by rw [wu_n (by omega), wu_n (by omega)]) (by rw [wu_j (by omega), wu_n (by omega)]) (fun c _ _ => by rw [wu_n (by omega), wu_n (by omega)])) (iPl_c i7 (by rw [wu_n (by omega), wu_n (by omega)]) (by rw [wu_n (by omega), wu_n (by omega)]) (by rw [wu_n (by omega), wu_n (by omega)]) (by rw [wu_j (by omega), wu_n (by omega)]) (by rw [wu_n (by omega), wu_n (by omega)]) (by rw [wu_n (by omega), wu_n (by omega)])) h
                have hl := fun K => goLp (u := u) (N := L) (i1 := nI sh) (i2 := nI b) (K := K) (by omega) u1 FU 0 (by omega) (by unfold FU; omega)
                rw [nI_0, u0] at hl
                rw [p1, Option.bind_some, hl]
                simp only [rfM23, lnMh (show 15 ≤ 15 by omega) (by omega), gd_t is_, ts, nv_q]
                rw [wu_n (show 1 ≠ 67 + sh by omega), wu_n (show 0 ≠ 15 by omega), j1.2.1.1, j1.2.1.2.1]
                refine ⟨_, _, _, rfl, rfl, P, T + L, F, S, E', iSc_c j1 (fun j _ _ => by rw [wu_n (by omega)]) (fun j _ _ => by rw [wu_n (by omega)]) (fun j _ => by rw [wu_n (by omega)]), iSh_c j2 (fun k hk => by rw [wu_n (by omega)]) (fun c _ _ => by rw [wu_n (by omega)]), iPo_c j3 (fun k hk => by rw [wu_n (by omega)]) (fun c _ _ => by rw [wu_n (by omega)]), iWy_c j4 (fun k hk => by rw [wu_n (by omega)]) (by rw [wu_n (by omega)]), ?_, iEv_c j6 (by rw [wu_n (by omega)]) (fun c _ _ => by rw [wu_n (by omega)]) (by rw [wu_n (by omega)]) (fun c _ _ => by rw [wu_n (by omega)]), iPl_c j7 (by rw [wu_n (by omega)]) (by rw [wu_n (by omega)]) (by rw [wu_n (by omega)]) (by rw [wu_n (by omega)]) (by rw [wu_n (by omega)]) (by rw [wu_n (by omega)])⟩
                intro s' hs'
                have hh := j5 s' hs'
                rw [wu_n (show 79 + s' ≠ 67 + sh by omega), wu_n (show 71 + s' ≠ 67 + sh by omega), wu_n (show 16 ≠ 15 by omega), wu_n (show 17 ≠ 15 by omega), wu_n (show 18 ≠ 15 by omega)]
                by_cases e : s' = sh
                · subst e
                  simp only [wu_c]
                  obtain ⟨x1, x2, x3⟩ := hh
                  obtain ⟨x4, x5, x6, x7, x8⟩ := x1 hsh
                  refine ⟨fun _ => ⟨?_, ?_, ?_, ⟨b, hb, ?_⟩, x8⟩, x2, x3⟩
                  · simp
                  · rw [if_neg (by decide), x5]
                  · rw [if_neg (by decide), x6]
                  · simp
                · rw [wu_n (show 67 + s' ≠ 67 + sh from fun h => e (Nat.add_left_cancel h)), wu_j e]
                  exact hh
              · rw [if_neg (nI_ge (by omega) (by omega)), if_neg (nI_ge (by omega) (by omega))]
                exact ⟨_, _, _, rfl, rfl, hI⟩
          · rw [if_neg hB, if_pos z00, if_neg hB]
            refine ⟨_, _, _, rfl, ?_, hI⟩
            split <;> rfl
        · rw [if_neg hA, if_pos z00, if_neg hA]
          refine ⟨_, _, _, rfl, ?_, hI⟩
          split
          · rfl
          · split <;> rfl
      · rw [if_neg (show ¬ nI (T + L) ≤ 999 from nI_ge (a := 999) (by omega) (by omega)), if_neg (show ¬ nI (T + L) ≤ 999 from nI_ge (a := 999) (by omega) (by omega))]
        exact ⟨_, _, _, rfl, rfl, hI⟩
    · rw [e1, e2, bi_s, bi_s, if_pos z00, if_pos z00]
      exact ⟨_, _, _, rfl, rfl, hI⟩
  · rw [e1, e2, bi_s, bi_s, if_pos z00, if_pos z00]
    exact ⟨_, _, _, rfl, rfl, hI⟩
