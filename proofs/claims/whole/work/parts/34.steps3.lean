theorem st_set : Step_set Inv := by
  intro vC vM hI a0 a1 a2 a3
  obtain ⟨P, T, F, S, E, i1, i2, i3, i4, i5, i6, i7⟩ := id hI
  have hP6 := i1.1.2.2
  unfold F_X10_set f_X10_set F_X11_set f_X11_set f_X11_set_b42 f_X11_set_b66
  rcases isP i1 a0 with ⟨p, hp, rfl, e1, e2⟩ | ⟨-, e1, e2⟩
  · rw [e1, e2, bi_s, bi_s, if_neg n10, if_neg n10]
    rcases isG vC vM a1 with ⟨g, hg, rfl, e1, e2⟩ | ⟨-, e1, e2⟩
    · rw [e1, e2, bi_s, bi_s, if_neg n10, if_neg n10]
      rcases win a2 0 4 0 4 (by decide) (by decide) vC vM with ⟨h1, h2, e3, e4⟩ | ⟨hn, e3, e4⟩
      · rw [e3, e4, bi_s, bi_s, if_neg n10, if_neg n10]
        obtain ⟨w, hw0, hw1, rfl⟩ := bnd_of (lo := 0) (hi := 4) (by decide) h1 h2 (by decide)
        have hk : 3 * p + g < 18 := by omega
        obtain ⟨q1, q2, q3, q4, q5, q6, q7, q8, q9, q10⟩ := i2 (3 * p + g) hk
        obtain ⟨y1, y2, y3, y4⟩ := q6 (by omega)
        have tk : (nI (3 * p + g)).toNatClampNeg = 3 * p + g := tn (by omega)
        have ik : inB (nI (3 * p + g)) 18 = true := inB_n (by omega) (by omega)
        have tw : (nI w).toNatClampNeg = w := tn (by omega)
        have iw : inB (nI w) 5 = true := inB_n (by omega) (by omega)
        have keep : ∀ (j : Nat) (x : Int32), 1 ≤ j → j ≤ 6 → iSh P (wu vC (37 + (3 * p + g)) j x) (wu vM j (3 * p + g) x) → Inv (wu vC (37 + (3 * p + g)) j x) (wu vM j (3 * p + g) x) := by
          intro j x hj1 hj2 hh
          exact ⟨P, T, F, S, E, iSc_c i1 (fun j _ _ => by rw [wu_n (by omega)]) (fun j _ _ => by rw [wu_n (by omega)]) (fun j _ => by rw [wu_n (by omega)]), hh, iPo_c i3 (fun k hk => wu_n (by omega)) (fun c _ _ => wu_n (by omega)), iWy_c i4 (fun q hq => wu_n (by omega)) (wu_n (by omega)), iSp_c i5 (fun s hs => wu_n (by omega)) (fun c _ _ => wu_n (by omega)), iEv_c i6 (by rw [wu_n (by omega)]) (fun c _ _ => wu_n (by omega)) (by rw [wu_n (by omega)]) (fun c _ _ => wu_n (by omega)), iPl_c i7 (by rw [wu_n (by omega)]) (wu_n (by omega)) (wu_n (by omega)) (by rw [wu_n (by omega)]) (wu_n (by omega)) (wu_n (by omega))⟩
        simp only [gd_t iw, tw, nv, k3, rfC00, shelfE (show p < 6 by omega) hg, F_X6_number, f_X6_number, F_X6_change, f_X6_change, F_X11_of, f_X11_of, rfM3, rfM4, rfM5, rfM6, rfM7, tk, lnMs (show 1 ≤ 1 by omega) (by omega), lnMs (show 1 ≤ 2 by omega) (by omega), lnMs (show 1 ≤ 3 by omega) (by omega), lnMs (show 1 ≤ 4 by omega) (by omega), lnMs (show 1 ≤ 5 by omega) (by omega), gd_t ik]
        rcases (show w = 0 ∨ w = 1 ∨ w = 2 ∨ w = 3 ∨ w = 4 by omega) with rfl | rfl | rfl | rfl | rfl
        · rw [if_neg (show ¬ (3 : Int32) ≤ nI 0 by decide)]
          simp only [if_pos (show nI 0 = 0 by decide), show tbL 0 = 0 from rfl, show tbM 0 = 1000 from rfl]
          rcases win a3 0 1000 0 1000 (by decide) (by decide) vC vM with ⟨h1, h2, e5, e6⟩ | ⟨-, e5, e6⟩
          · simp only [e5, e6, bi_s, n10, ↓reduceIte, Option.bind_some]
            have kk := keep 1 a3 (by omega) (by omega) (iSh_u i2 (by omega) hk (by omega) (fun _ => bnd_of (by decide) h1 h2 (by decide)) (fun h => by omega) (fun h => by omega) (fun h => by omega) (fun h => by omega))
            refine ⟨vM 1 (3 * p + g), wu (wu vC (37 + (3 * p + g)) 1 a3) 0 6 (vM 0 17 + (a3 - vM 1 (3 * p + g))), wu (wu vM 1 (3 * p + g) a3) 0 17 (vM 0 17 + (a3 - vM 1 (3 * p + g))), ?_, ?_, ?_⟩
            · rw [wu_n (show 0 ≠ 37 + (3 * p + g) by omega), q2, i1.2.2.2.2.2.2.2.1]
            · rw [wu_n (show 0 ≠ 1 by omega)]
            · obtain ⟨P', T', F', S', E', j1, j2, j3, j4, j5, j6, j7⟩ := kk
              refine ⟨P', T', F', S', E', ?_, iSh_c j2 (fun k hk => wu_n (by omega)) (fun c _ _ => wu_n (by omega)), iPo_c j3 (fun k hk => wu_n (by omega)) (fun c _ _ => wu_n (by omega)), iWy_c j4 (fun q hq => wu_n (by omega)) (wu_n (by omega)), iSp_c j5 (fun s hs => wu_n (by omega)) (fun c _ _ => wu_n (by omega)), iEv_c j6 (by rw [wu_n (by omega)]) (fun c _ _ => wu_n (by omega)) (by rw [wu_j (by omega)]) (fun c _ _ => wu_n (by omega)), iPl_c j7 (by rw [wu_n (by omega)]) (wu_n (by omega)) (wu_n (by omega)) (by rw [wu_j (by omega)]) (wu_n (by omega)) (wu_n (by omega))⟩
              obtain ⟨s1, s2, s3, s4, s5, s6, s7, s8, s9⟩ := j1
              unfold iSc
              rw [wu_s, wu_s, wu_j (c := 0) (j := 6) (j' := 2) (by omega), wu_j (c := 0) (j := 6) (j' := 3) (by omega), wu_j (c := 0) (j := 6) (j' := 4) (by omega), wu_j (c := 0) (j := 6) (j' := 5) (by omega), wu_j (c := 0) (j := 6) (j' := 7) (by omega), wu_n (show 1 ≠ 0 by omega)]
              rw [wu_j (c := 0) (j := 17) (j' := 0) (by omega), wu_j (c := 0) (j := 17) (j' := 1) (by omega), wu_j (c := 0) (j := 17) (j' := 2) (by omega), wu_j (c := 0) (j := 17) (j' := 27) (by omega), wu_j (c := 0) (j := 17) (j' := 14) (by omega), wu_j (c := 0) (j := 17) (j' := 15) (by omega), wu_j (c := 0) (j := 17) (j' := 16) (by omega), wu_j (c := 0) (j := 17) (j' := 18) (by omega)]
              exact ⟨s1, s2, s3, s4, s5, s6, s7, rfl, s9⟩
          · simp only [e5, e6, bi_s, ↓reduceIte]
            exact ⟨_, _, _, rfl, rfl, hI⟩
        · rw [if_neg (show ¬ (3 : Int32) ≤ nI 1 by decide)]
          simp only [if_neg (show ¬ nI 1 = 0 by decide), if_pos (show nI 1 = 1 by decide), if_neg (show ¬ (3 : Int32) ≤ nI 1 by decide), show tbL 1 = 0 from rfl, show tbM 1 = 50 from rfl]
          rcases win a3 0 50 0 50 (by decide) (by decide) vC vM with ⟨h1, h2, e5, e6⟩ | ⟨-, e5, e6⟩
          · simp only [e5, e6, bi_s, n10, ↓reduceIte, Option.bind_some]
            exact ⟨vM 2 (3 * p + g), _, _, by rw [q3], rfl, keep 2 a3 (by omega) (by omega) (iSh_u i2 (by omega) hk (by omega) (fun h => by omega) (fun _ => bnd_of (by decide) h1 h2 (by decide)) (fun h => by omega) (fun h => by omega) (fun h => by omega))⟩
          · simp only [e5, e6, bi_s, ↓reduceIte]
            exact ⟨_, _, _, rfl, rfl, hI⟩
        · rw [if_neg (show ¬ (3 : Int32) ≤ nI 2 by decide)]
          simp only [if_neg (show ¬ nI 2 = 0 by decide), if_neg (show ¬ nI 2 = 1 by decide), if_pos (show nI 2 = 2 by decide), if_neg (show ¬ (3 : Int32) ≤ nI 2 by decide), show tbL 2 = 0 from rfl, show tbM 2 = 50 from rfl]
          rcases win a3 0 50 0 50 (by decide) (by decide) vC vM with ⟨h1, h2, e5, e6⟩ | ⟨-, e5, e6⟩
          · simp only [e5, e6, bi_s, n10, ↓reduceIte, Option.bind_some]
            exact ⟨vM 3 (3 * p + g), _, _, by rw [q4], rfl, keep 3 a3 (by omega) (by omega) (iSh_u i2 (by omega) hk (by omega) (fun h => by omega) (fun h => by omega) (fun _ => bnd_of (by decide) h1 h2 (by decide)) (fun h => by omega) (fun h => by omega))⟩
          · simp only [e5, e6, bi_s, ↓reduceIte]
            exact ⟨_, _, _, rfl, rfl, hI⟩
        · rw [if_pos (show (3 : Int32) ≤ nI 3 by decide)]
          simp only [if_neg (show ¬ nI 3 = 0 by decide), if_neg (show ¬ nI 3 = 1 by decide), if_neg (show ¬ nI 3 = 2 by decide), if_pos (show nI 3 = 3 by decide), if_pos (show (3 : Int32) ≤ nI 3 by decide), show tbL 3 = 1 from rfl, show tbM 3 = 100 from rfl]
          rcases win a3 1 100 1 100 (by decide) (by decide) vC vM with ⟨h1, h2, e5, e6⟩ | ⟨-, e5, e6⟩
          · simp only [e5, e6, bi_s, n10, ↓reduceIte, Option.bind_some]
            exact ⟨vM 4 (3 * p + g), _, _, by rw [y1], rfl, keep 4 a3 (by omega) (by omega) (iSh_u i2 (by omega) hk (by omega) (fun h => by omega) (fun h => by omega) (fun h => by omega) (fun _ => bnd_of (by decide) h1 h2 (by decide)) (fun h => by omega))⟩
          · simp only [e5, e6, bi_s, ↓reduceIte]
            exact ⟨_, _, _, rfl, rfl, hI⟩
        · rw [if_pos (show (3 : Int32) ≤ nI 4 by decide)]
          simp only [if_neg (show ¬ nI 4 = 0 by decide), if_neg (show ¬ nI 4 = 1 by decide), if_neg (show ¬ nI 4 = 2 by decide), if_neg (show ¬ nI 4 = 3 by decide), if_pos (show nI 4 = 4 by decide), if_pos (show (3 : Int32) ≤ nI 4 by decide), show tbL 4 = 1 from rfl, show tbM 4 = 100 from rfl]
          rcases win a3 1 100 1 100 (by decide) (by decide) vC vM with ⟨h1, h2, e5, e6⟩ | ⟨-, e5, e6⟩
          · simp only [e5, e6, bi_s, n10, ↓reduceIte, Option.bind_some]
            exact ⟨vM 5 (3 * p + g), _, _, by rw [y2], rfl, keep 5 a3 (by omega) (by omega) (iSh_u i2 (by omega) hk (by omega) (fun h => by omega) (fun h => by omega) (fun h => by omega) (fun h => by omega) (fun _ => bnd_of (by decide) h1 h2 (by decide)))⟩
          · simp only [e5, e6, bi_s, ↓reduceIte]
            exact ⟨_, _, _, rfl, rfl, hI⟩
      · rw [e3, e4, bi_s, bi_s, if_pos z00, if_pos z00]
        exact ⟨_, _, _, rfl, rfl, hI⟩
    · rw [e1, e2, bi_s, bi_s, if_pos z00, if_pos z00]
      exact ⟨_, _, _, rfl, rfl, hI⟩
  · rw [e1, e2, bi_s, bi_s, if_pos z00, if_pos z00]
    exact ⟨_, _, _, rfl, rfl, hI⟩
theorem hung {n p : Nat} (hp : p < 6) (v : VV) : f_X4_hungerOfAll_l4 (n + 4) (25 + p) 0 0 v = some (0 + v (37 + (3 * p + 0)) 6 + v (37 + (3 * p + 1)) 6 + v (37 + (3 * p + 2)) 6, v) := by
  have i0 : inB 0 3 = true := by decide
  have i1 : inB (0 + 1) 3 = true := by decide
  have i2 : inB (0 + 1 + 1) 3 = true := by decide
  rw [f_X4_hungerOfAll_l4, if_neg (by decide), rfCp hp, lnCp hp, gd_t i0]
  simp only [nv]
  rw [f_X4_hungerOfAll_l4, if_neg (by decide), rfCp hp, lnCp hp, gd_t i1]
  simp only [nv]
  rw [f_X4_hungerOfAll_l4, if_neg (by decide), rfCp hp, lnCp hp, gd_t i2]
  simp only [nv]
  rw [f_X4_hungerOfAll_l4, if_pos (by decide), show Int32.toNatClampNeg 0 = 0 by decide, show Int32.toNatClampNeg (0 + 1) = 1 by decide, show Int32.toNatClampNeg (0 + 1 + 1) = 2 by decide, rfCs hp, rfCs hp, rfCs hp]
theorem hungM {k : Nat → Int32 → Int32 → Int32 → VV → Option (Int32 × VV)} {n p : Nat} (hp : p < 6) (a : Int32) (v : VV) : f_X11_ofPort_l16 k (n + 4) 0 (nI p) a 0 0 v = k 0 (nI p) a (0 + v 6 (3 * p + 0) + v 6 (3 * p + 1) + v 6 (3 * p + 2)) v := by
  have e0 : 3 * nI p + 0 = nI (3 * p + 0) := k3 p 0
  have e1 : 3 * nI p + (0 + 1) = nI (3 * p + 1) := k3 p 1
  have e2 : 3 * nI p + (0 + 1 + 1) = nI (3 * p + 2) := k3 p 2
  have t0 : (nI (3 * p + 0)).toNatClampNeg = 3 * p + 0 := tn (by omega)
  have t1 : (nI (3 * p + 1)).toNatClampNeg = 3 * p + 1 := tn (by omega)
  have t2 : (nI (3 * p + 2)).toNatClampNeg = 3 * p + 2 := tn (by omega)
  rw [f_X11_ofPort_l16, if_neg (by decide), rfM8, lnMs (show 1 ≤ 6 by omega) (by omega), e0, gd_t (inB_n (by omega) (by omega)), t0]
  simp only [nv]
  rw [f_X11_ofPort_l16, if_neg (by decide), rfM8, lnMs (show 1 ≤ 6 by omega) (by omega), e1, gd_t (inB_n (by omega) (by omega)), t1]
  simp only [nv]
  rw [f_X11_ofPort_l16, if_neg (by decide), rfM8, lnMs (show 1 ≤ 6 by omega) (by omega), e2, gd_t (inB_n (by omega) (by omega)), t2]
  simp only [nv]
  rw [f_X11_ofPort_l16, if_pos (by decide)]
theorem st_ofPort : Step_ofPort Inv := by
  intro vC vM hI a0 a1
  obtain ⟨P, T, F, S, E, i1, i2, i3, i4, i5, i6, i7⟩ := id hI
  have hP6 := i1.1.2.2
  unfold F_X10_ofPort f_X10_ofPort F_X11_ofPort f_X11_ofPort
  rcases isP i1 a0 with ⟨p, hp, rfl, e1, e2⟩ | ⟨-, e1, e2⟩
  · rw [e1, e2, bi_s, bi_s, if_neg n10, if_neg n10, FU_s 4 (by omega), hungM (by omega)]
    have tp : (nI p).toNatClampNeg = p := tn (by omega)
    have ip : inB (nI p) 6 = true := inB_n (by omega) (by omega)
    have hh := i3 p (by omega)
    have x0 := (i2 (3 * p + 0) (by omega)).2.2.2.2.1
    have x1 := (i2 (3 * p + 1) (by omega)).2.2.2.2.1
    have x2 := (i2 (3 * p + 2) (by omega)).2.2.2.2.1
    simp only [rfC00, rfC10, rfC2, tp, lnC2, rfM9, rfM10, rfM11, rfM12, lnMp (show 7 ≤ 7 by omega) (by omega), lnMp (show 7 ≤ 8 by omega) (by omega), lnMp (show 7 ≤ 9 by omega) (by omega), lnMp (show 7 ≤ 10 by omega) (by omega), gd_t ip, F_X10_oneIf, f_X10_oneIf, hh.1, hh.2.1, hh.2.2.1, hh.2.2.2.1, F_X4_hungerOfAll, f_X4_hungerOfAll]
    rw [FU_s 4 (by omega), hung (by omega), bi_s, x0, x1, x2]
    by_cases b0 : a1 = 0
    · simp only [if_pos b0]
      exact ⟨_, _, _, rfl, rfl, hI⟩
    · simp only [if_neg b0]
      by_cases b1 : a1 = 1
      · simp only [if_pos b1]
        exact ⟨_, _, _, rfl, rfl, hI⟩
      · simp only [if_neg b1]
        by_cases b2 : a1 = 2
        · simp only [if_pos b2]
          exact ⟨_, _, _, rfl, rfl, hI⟩
        · simp only [if_neg b2]
          by_cases b3 : a1 = 3
          · simp only [if_pos b3]
            by_cases h0 : vM 10 p = 0
            · simp only [if_pos h0]
              exact ⟨_, _, _, rfl, rfl, hI⟩
            · simp only [if_neg h0]
              exact ⟨_, _, _, rfl, rfl, hI⟩
          · simp only [if_neg b3]
            by_cases b4 : a1 = 4
            · simp only [if_pos b4]
              exact ⟨_, _, _, rfl, rfl, hI⟩
            · simp only [if_neg b4]
              exact ⟨_, _, _, rfl, rfl, hI⟩
  · rw [e1, e2, bi_s, bi_s, if_pos z00, if_pos z00]
    exact ⟨_, _, _, rfl, rfl, hI⟩
