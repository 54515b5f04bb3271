theorem n10 : ¬ (1 : Int32) = 0 := by decide
theorem z00 : (0 : Int32) = 0 := rfl
theorem rfM3 : rfM 0 3 = 1 := rfl
theorem rfM4 : rfM 0 4 = 2 := rfl
theorem rfM5 : rfM 0 5 = 3 := rfl
theorem rfM6 : rfM 0 6 = 4 := rfl
theorem rfM7 : rfM 0 7 = 5 := rfl
theorem rfM8 : rfM 0 8 = 6 := rfl
theorem rfM9 : rfM 0 9 = 7 := rfl
theorem rfM10 : rfM 0 10 = 8 := rfl
theorem rfM11 : rfM 0 11 = 9 := rfl
theorem rfM12 : rfM 0 12 = 10 := rfl
theorem rfM13 : rfM 0 13 = 11 := rfl
theorem rfM19 : rfM 0 19 = 12 := rfl
theorem rfM20 : rfM 0 20 = 13 := rfl
theorem rfM21 : rfM 0 21 = 14 := rfl
theorem rfM23 : rfM 0 23 = 15 := rfl
theorem rfM24 : rfM 0 24 = 16 := rfl
theorem rfM25 : rfM 0 25 = 17 := rfl
theorem rfM26 : rfM 0 26 = 18 := rfl
theorem rfM28 : rfM 0 28 = 19 := rfl
theorem rfM29 : rfM 0 29 = 20 := rfl
theorem rfM33 : rfM 0 33 = 21 := rfl
theorem rfM37 : rfM 0 37 = 22 := rfl
theorem rfM38 : rfM 0 38 = 23 := rfl
theorem rfM39 : rfM 0 39 = 24 := rfl
theorem rfM40 : rfM 0 40 = 25 := rfl
theorem lnMs {c : Nat} (h1 : 1 ≤ c) (h2 : c < 7) : lnM c = 18 := by
  rcases (show c = 1 ∨ c = 2 ∨ c = 3 ∨ c = 4 ∨ c = 5 ∨ c = 6 by omega) with rfl | rfl | rfl | rfl | rfl | rfl <;> rfl
theorem lnMp {c : Nat} (h1 : 7 ≤ c) (h2 : c < 11) : lnM c = 6 := by
  rcases (show c = 7 ∨ c = 8 ∨ c = 9 ∨ c = 10 by omega) with rfl | rfl | rfl | rfl <;> rfl
theorem lnMw : lnM 11 = 36 := rfl
theorem lnMe {c : Nat} (h1 : 12 ≤ c) (h2 : c < 15) : lnM c = 20 := by
  rcases (show c = 12 ∨ c = 13 ∨ c = 14 by omega) with rfl | rfl | rfl <;> rfl
theorem lnMh {c : Nat} (h1 : 15 ≤ c) (h2 : c < 18) : lnM c = 4 := by
  rcases (show c = 15 ∨ c = 16 ∨ c = 17 by omega) with rfl | rfl | rfl <;> rfl
theorem lnMc : lnM 18 = 12 := rfl
theorem st_tax : Step_tax Inv := by
  intro vC vM hI a0 a1
  obtain ⟨P, T, F, S, E, i1, i2, i3, i4, i5, i6, i7⟩ := id hI
  have hP6 := i1.1.2.2
  unfold F_X10_tax f_X10_tax F_X11_tax f_X11_tax
  rcases isP i1 a0 with ⟨p, hp, rfl, e1, e2⟩ | ⟨-, e1, e2⟩
  · rw [e1, e2, bi_s, bi_s, if_neg n10, if_neg n10]
    rcases win a1 0 20 0 20 (by decide) (by decide) vC vM with ⟨h1, h2, e3, e4⟩ | ⟨-, e3, e4⟩
    · rw [e3, e4, bi_s, bi_s, if_neg n10, if_neg n10]
      have tp : (nI p).toNatClampNeg = p := tn (by omega)
      have ip : inB (nI p) 6 = true := inB_n (by omega) (by omega)
      simp only [rfC00, rfC10, rfC2, tp, lnC2, nv, rfM9, lnMp (show 7 ≤ 7 by omega) (by omega), gd_t ip]
      have hh := i3 p (by omega)
      refine ⟨vM 7 p, wu vC (25 + p) 1 a1, wu vM 7 p a1, by rw [hh.1], rfl, P, T, F, S, E, iSc_c i1 (fun j _ _ => by rw [wu_n (by omega)]) (fun j _ _ => by rw [wu_n (by omega)]) (fun j _ => by rw [wu_n (by omega)]), iSh_c i2 (fun k hk => wu_n (by omega)) (fun c _ _ => wu_n (by omega)), ?_, iWy_c i4 (fun q hq => wu_n (by omega)) (wu_n (by omega)), iSp_c i5 (fun s hs => wu_n (by omega)) (fun c _ _ => wu_n (by omega)), iEv_c i6 (by rw [wu_n (by omega)]) (fun c _ _ => wu_n (by omega)) (by rw [wu_n (by omega)]) (fun c _ _ => wu_n (by omega)), iPl_c i7 (by rw [wu_n (by omega)]) (wu_n (by omega)) (wu_n (by omega)) (by rw [wu_n (by omega)]) (wu_n (by omega)) (wu_n (by omega))⟩
      intro q hq
      have hq3 := i3 q hq
      by_cases e : q = p
      · subst e
        rw [wu_s, wu_s, wu_j (by omega), wu_j (by omega), wu_j (by omega), wu_n (by omega), wu_n (by omega), wu_n (by omega)]
        exact ⟨rfl, hq3.2.1, hq3.2.2.1, hq3.2.2.2.1, bnd_of (by decide) h1 h2 (by decide), hq3.2.2.2.2.2⟩
      · rw [wu_n (show 25 + q ≠ 25 + p by omega), wu_j e, wu_n (by omega), wu_n (by omega), wu_n (by omega)]
        exact hq3
    · rw [e3, e4, bi_s, bi_s, if_pos z00, if_pos z00]
      exact ⟨_, _, _, rfl, rfl, hI⟩
  · rw [e1, e2, bi_s, bi_s, if_pos z00, if_pos z00]
    exact ⟨_, _, _, rfl, rfl, hI⟩
theorem st_shut : Step_shut Inv := by
  intro vC vM hI a0 a1 hb
  obtain ⟨P, T, F, S, E, i1, i2, i3, i4, i5, i6, i7⟩ := id hI
  have hP6 := i1.1.2.2
  unfold F_X10_shut f_X10_shut F_X11_shut f_X11_shut f_X11_shut_b24
  rcases isP i1 a0 with ⟨p, hp, rfl, e1, e2⟩ | ⟨-, e1, e2⟩
  · rw [e1, e2, bi_s, bi_s, if_neg n10, if_neg n10]
    have tp : (nI p).toNatClampNeg = p := tn (by omega)
    have ip : inB (nI p) 6 = true := inB_n (by omega) (by omega)
    have hh := i3 p (by omega)
    simp only [rfC00, rfC10, rfC2, tp, lnC2, nv, rfM12, lnMp (show 7 ≤ 10 by omega) (by omega), gd_t ip, gd_t hb, F_X10_oneIf, f_X10_oneIf, hh.2.2.2.1]
    have key : Inv (wu vC (25 + p) 4 a1) (wu vM 10 p a1) := by
      refine ⟨P, T, F, S, E, iSc_c i1 (fun j _ _ => by rw [wu_n (by omega)]) (fun j _ _ => by rw [wu_n (by omega)]) (fun j _ => by rw [wu_n (by omega)]), iSh_c i2 (fun k hk => wu_n (by omega)) (fun c _ _ => wu_n (by omega)), ?_, iWy_c i4 (fun q hq => wu_n (by omega)) (wu_n (by omega)), iSp_c i5 (fun s hs => wu_n (by omega)) (fun c _ _ => wu_n (by omega)), iEv_c i6 (by rw [wu_n (by omega)]) (fun c _ _ => wu_n (by omega)) (by rw [wu_n (by omega)]) (fun c _ _ => wu_n (by omega)), iPl_c i7 (by rw [wu_n (by omega)]) (wu_n (by omega)) (wu_n (by omega)) (by rw [wu_n (by omega)]) (wu_n (by omega)) (wu_n (by omega))⟩
      intro q hq
      have hq3 := i3 q hq
      by_cases e : q = p
      · subst e
        rw [wu_s, wu_s, wu_j (by omega), wu_j (by omega), wu_j (by omega), wu_n (by omega), wu_n (by omega), wu_n (by omega)]
        refine ⟨hq3.1, hq3.2.1, hq3.2.2.1, rfl, hq3.2.2.2.2.1, ?_⟩
        rcases bz_01 hb with rfl | rfl
        · exact ⟨0, by omega, by omega, rfl⟩
        · exact ⟨1, by omega, by omega, rfl⟩
      · rw [wu_n (show 25 + q ≠ 25 + p by omega), wu_j e, wu_n (by omega), wu_n (by omega), wu_n (by omega)]
        exact hq3
    by_cases h0 : vM 10 p = 0
    · rw [if_pos h0, if_pos h0, bi_s]
      exact ⟨_, _, _, rfl, rfl, key⟩
    · rw [if_neg h0, if_neg h0, bi_s]
      exact ⟨_, _, _, rfl, rfl, key⟩
  · rw [e1, e2, bi_s, bi_s, if_pos z00, if_pos z00]
    exact ⟨_, _, _, rfl, rfl, hI⟩
theorem st_fuel : Step_fuel Inv := by
  intro vC vM hI a0
  obtain ⟨P, T, F, S, E, i1, i2, i3, i4, i5, i6, i7⟩ := id hI
  unfold F_X10_fuel f_X10_fuel F_X11_fuel f_X11_fuel
  rcases win a0 0 20 0 20 (by decide) (by decide) vC vM with ⟨h1, h2, e3, e4⟩ | ⟨-, e3, e4⟩
  · rw [e3, e4, bi_s, bi_s, if_neg n10, if_neg n10]
    simp only [rfC00, nv]
    obtain ⟨n, hn1, hn2, rfl⟩ := bnd_of (lo := 0) (hi := 20) (by decide) h1 h2 (by decide)
    obtain ⟨s1, s2, s3, s4, s5⟩ := id i1
    refine ⟨nI F, wu vC 1 5 (nI n), wu vM 0 2 (nI n), by rw [s3.1], by rw [s3.2.1], P, T, n, S, E, ?_, iSh_c i2 (fun k hk => wu_n (by omega)) (fun c _ _ => wu_n (by omega)), iPo_c i3 (fun p hp => wu_n (by omega)) (fun c _ _ => wu_n (by omega)), iWy_c i4 (fun q hq => wu_n (by omega)) (wu_n (by omega)), iSp_c i5 (fun s hs => wu_n (by omega)) (fun c _ _ => wu_n (by omega)), iEv_c i6 (by rw [wu_n (by omega)]) (fun c _ _ => wu_n (by omega)) (by rw [wu_j (by omega)]) (fun c _ _ => wu_n (by omega)), iPl_c i7 (by rw [wu_n (by omega)]) (wu_n (by omega)) (wu_n (by omega)) (by rw [wu_j (by omega)]) (wu_n (by omega)) (wu_n (by omega))⟩
    unfold iSc
    simp only [wu_g]
    simp
    exact ⟨s1, s2, hn2, s4, s5⟩
  · rw [e3, e4, bi_s, bi_s, if_pos z00, if_pos z00]
    exact ⟨_, _, _, rfl, rfl, hI⟩
theorem st_way : Step_way Inv := by
  intro vC vM hI a0 a1 a2
  obtain ⟨P, T, F, S, E, i1, i2, i3, i4, i5, i6, i7⟩ := id hI
  have hP6 := i1.1.2.2
  unfold F_X10_way f_X10_way F_X11_way f_X11_way
  rcases isP i1 a0 with ⟨p, hp, rfl, e1, e2⟩ | ⟨-, e1, e2⟩
  · rw [e1, e2, bi_s, bi_s, if_neg n10, if_neg n10]
    rcases isP i1 a1 with ⟨q, hq, rfl, e1, e2⟩ | ⟨-, e1, e2⟩
    · rw [e1, e2, bi_s, bi_s, if_neg n10, if_neg n10]
      by_cases hpq : p = q
      · subst hpq
        rw [if_pos rfl, if_pos rfl]
        exact ⟨_, _, _, rfl, rfl, hI⟩
      · have hne : ¬ nI p = nI q := fun h => hpq (nI_inj (by omega) (by omega) h)
        rw [if_neg hne, if_neg hne]
        rcases win a2 0 9 0 9 (by decide) (by decide) vC vM with ⟨h1, h2, e3, e4⟩ | ⟨-, e3, e4⟩
        · rw [e3, e4, bi_s, bi_s, if_neg n10, if_neg n10]
          have tp : (nI p).toNatClampNeg = p := tn (by omega)
          have tq : (nI q).toNatClampNeg = q := tn (by omega)
          have tpq : (nI (6 * p + q)).toNatClampNeg = 6 * p + q := tn (by omega)
          have tqp : (nI (6 * q + p)).toNatClampNeg = 6 * q + p := tn (by omega)
          have ip : inB (nI p) 6 = true := inB_n (by omega) (by omega)
          have iq : inB (nI q) 6 = true := inB_n (by omega) (by omega)
          have ipq : inB (nI (6 * p + q)) 36 = true := inB_n (by omega) (by omega)
          have iqp : inB (nI (6 * q + p)) 36 = true := inB_n (by omega) (by omega)
          simp only [rfC00, rfC11, rfC3, tp, tq, lnC3, lnCw (show p < 6 by omega), lnCw (show q < 6 by omega), nv, rfM13, lnMw, k6, tpq, tqp, gd_t ip, gd_t iq, gd_t ipq, gd_t iqp]
          have hh := i4 p (by omega) q (by omega)
          refine ⟨vM 11 (6 * p + q), wu (wu vC (55 + p) q a2) (55 + q) p a2, wu (wu vM 11 (6 * p + q) a2) 11 (6 * q + p) a2, by rw [hh.1], rfl, P, T, F, S, E, iSc_c i1 (fun j _ _ => by rw [wu_n (by omega), wu_n (by omega)]) (fun j _ _ => by rw [wu_n (by omega), wu_n (by omega)]) (fun j _ => by rw [wu_n (by omega), wu_n (by omega)]), iSh_c i2 (fun k hk => by rw [wu_n (by omega), wu_n (by omega)]) (fun c _ _ => by rw [wu_n (by omega), wu_n (by omega)]), iPo_c i3 (fun k hk => by rw [wu_n (by omega), wu_n (by omega)]) (fun c _ _ => by rw [wu_n (by omega), wu_n (by omega)]), ?_, iSp_c i5 (fun s hs => by rw [wu_n (by omega), wu_n (by omega)]) (fun c _ _ => by rw [wu_n (by omega), wu_n (by omega)]), iEv_c i6 (by rw [wu_n (by omega), wu_n (by omega)]) (fun c _ _ => by rw [wu_n (by omega), wu_n (by omega)]) (by rw [wu_n (by omega), wu_n (by omega)]) (fun c _ _ => by rw [wu_n (by omega), wu_n (by omega)]), iPl_c i7 (by rw [wu_n (by omega), wu_n (by omega)]) (by rw [wu_n (by omega), wu_n (by omega)]) (by rw [wu_n (by omega), wu_n (by omega)]) (by rw [wu_n (by omega), wu_n (by omega)]) (by rw [wu_n (by omega), wu_n (by omega)]) (by rw [wu_n (by omega), wu_n (by omega)])⟩
          intro a ha b hb
          have h4 := i4 a ha b hb
          simp only [wu_g]
          by_cases c1 : a = q ∧ b = p
          · obtain ⟨rfl, rfl⟩ := c1
            simp only [and_self, if_true]
            exact ⟨trivial, bnd_of (by decide) h1 h2 (by decide), fun e => absurd e.symm hpq⟩
          · have n1 : ¬ (55 + a = 55 + q ∧ b = p) := by omega
            have n2 : ¬ (True ∧ 6 * a + b = 6 * q + p) := by rintro ⟨-, h⟩; omega
            rw [if_neg n1, if_neg n2]
            by_cases c2 : a = p ∧ b = q
            · obtain ⟨rfl, rfl⟩ := c2
              simp only [and_self, if_true]
              exact ⟨trivial, bnd_of (by decide) h1 h2 (by decide), fun e => absurd e hpq⟩
            · have n3 : ¬ (55 + a = 55 + p ∧ b = q) := by omega
              have n4 : ¬ (True ∧ 6 * a + b = 6 * p + q) := by rintro ⟨-, h⟩; omega
              rw [if_neg n3, if_neg n4]
              exact h4
        · rw [e3, e4, bi_s, bi_s, if_pos z00, if_pos z00]
          exact ⟨_, _, _, rfl, rfl, hI⟩
    · rw [e1, e2, bi_s, bi_s, if_pos z00, if_pos z00]
      exact ⟨_, _, _, rfl, rfl, hI⟩
  · rw [e1, e2, bi_s, bi_s, if_pos z00, if_pos z00]
    exact ⟨_, _, _, rfl, rfl, hI⟩
