theorem moveE {i j : Nat} (hi : i < 20) (hj : j < 20) (v : VV) : F_X0_move 4 (nI i) (nI j) v = some (wu (wu (wu v 5 j (v 5 i)) 6 j (v 6 i)) 7 j (v 7 i)) := by
  unfold F_X0_move f_X0_move
  have ti : (nI i).toNatClampNeg = i := tn (by omega)
  have ii : inB (nI i) 20 = true := inB_n (by omega) (by omega)
  have tj : (nI j).toNatClampNeg = j := tn (by omega)
  have ij : inB (nI j) 20 = true := inB_n (by omega) (by omega)
  simp only [rfC40, rfC41, rfC42, lnC5, lnC6, lnC7, gd_t ii, gd_t ij, ti, tj, nv, wu_n (show 6 ≠ 5 by omega), wu_n (show 7 ≠ 5 by omega), wu_n (show 7 ≠ 6 by omega)]
theorem addL {E : Nat} {x y z : Int32} {f : VV} {K : Nat → Int32 → Int32 → Int32 → Int32 → VV → Option VV} (E20 : E < 20) : ∀ (n a : Nat) (v : VV), a ≤ E → a < n → (∀ c, c ≠ 5 → c ≠ 6 → c ≠ 7 → v c = f c) → (∀ c, 5 ≤ c → c ≤ 7 → ∀ i, i < a → v c i = f c i) → (∀ c, 5 ≤ c → c ≤ 7 → ∀ i, a ≤ i → i < E → v c (i + 1) = f c i) → (∀ i, a ≤ i → i < E → x < f 5 i) → ∃ (a' : Nat) (v' : VV), f_X0_add_l16 K n 4 x y z (nI a) v = K 4 x y z (nI a') v' ∧ a' ≤ E ∧ (∀ c, c ≠ 5 → c ≠ 6 → c ≠ 7 → v' c = f c) ∧ (∀ c, 5 ≤ c → c ≤ 7 → ∀ i, i < a' → v' c i = f c i) ∧ (∀ c, 5 ≤ c → c ≤ 7 → ∀ i, a' ≤ i → i < E → v' c (i + 1) = f c i) ∧ (∀ i, a' ≤ i → i < E → x < f 5 i) ∧ (a' = 0 ∨ f 5 (a' - 1) ≤ x)
  | 0, a, v, _, h, _, _, _, _ => by omega
  | n + 1, a, v, ha, hn, h0, h1, h2, h3 => by
    rw [f_X0_add_l16]
    by_cases hz : a = 0
    · subst hz
      rw [if_pos (show nI 0 ≤ 0 by decide)]
      exact ⟨0, v, rfl, ha, h0, h1, h2, h3, Or.inl rfl⟩
    · have em : nI a - 1 = nI (a - 1) := pk_sub (b := 1) (by omega)
      have em2 : nI a + (-1) = nI (a - 1) := by
        have := pk_m1 (a - 1)
        rw [show a - 1 + 1 = a by omega] at this
        exact this
      have ti : (nI (a - 1)).toNatClampNeg = a - 1 := tn (by omega)
      have ii : inB (nI (a - 1)) 20 = true := inB_n (by omega) (by omega)
      rw [if_neg (show ¬ nI a ≤ 0 from nI_nle (by omega) (by omega))]
      simp only [em, em2, rfC40, lnC5, gd_t ii, ti, nv, h1 5 (by omega) (by omega) (a - 1) (by omega)]
      by_cases hx : f 5 (a - 1) ≤ x
      · rw [if_pos hx]
        exact ⟨a, v, rfl, ha, h0, h1, h2, h3, Or.inr hx⟩
      · rw [if_neg hx, moveE (by omega) (by omega), Option.bind_some]
        refine addL E20 n (a - 1) _ (by omega) (by omega) (fun c c5 c6 c7 => by rw [wu_n c7, wu_n c6, wu_n c5, h0 c c5 c6 c7]) (fun c c5 c7 i hi => ?_) (fun c c5 c7 i hi hiE => ?_) (fun i hi hiE => ?_)
        · rw [wu_g, wu_g, wu_g, if_neg (by omega), if_neg (by omega), if_neg (by omega)]
          exact h1 c c5 c7 i (by omega)
        · by_cases e : i = a - 1
          · have e1 : i + 1 = a := by omega
            rw [e1, ← h1 c c5 c7 i (by omega), e]
            rcases (show c = 5 ∨ c = 6 ∨ c = 7 by omega) with rfl | rfl | rfl
            · rw [wu_n (by omega), wu_n (by omega), wu_s]
            · rw [wu_n (by omega), wu_s]
            · rw [wu_s]
          · rw [wu_g, wu_g, wu_g, if_neg (by omega), if_neg (by omega), if_neg (by omega)]
            exact h2 c c5 c7 i (by omega) hiE
        · by_cases e : i = a - 1
          · subst e
            rw [Int32.le_iff_toInt_le] at hx
            rw [Int32.lt_iff_toInt_lt]
            omega
          · exact h3 i (by omega) hiE
theorem evs_succ (f5 f6 f7 : Nat → Int32) (e : Nat) : evs f5 f6 f7 (e + 1) = evs f5 f6 f7 e ++ [(f5 e, f6 e, f7 e)] := by
  unfold evs
  rw [List.range_succ, List.map_append]
  rfl
theorem evs_congr {f5 f6 f7 g5 g6 g7 : Nat → Int32} : ∀ e, (∀ i, i < e → g5 i = f5 i ∧ g6 i = f6 i ∧ g7 i = f7 i) → evs g5 g6 g7 e = evs f5 f6 f7 e
  | 0, _ => rfl
  | e + 1, h => by
    rw [evs_succ, evs_succ, evs_congr e (fun i hi => h i (by omega)), (h e (by omega)).1, (h e (by omega)).2.1, (h e (by omega)).2.2]
theorem ev_ins {f5 f6 f7 g5 g6 g7 : Nat → Int32} {a : Nat} {x y z t : Int32} (h0 : ∀ i, i < a → g5 i = f5 i ∧ g6 i = f6 i ∧ g7 i = f7 i) (hx : g5 a = x) (hy : g6 a = y) (hz : g7 a = z) : ∀ m, (∀ i, a ≤ i → i < a + m → g5 (i + 1) = f5 i ∧ g6 (i + 1) = f6 i ∧ g7 (i + 1) = f7 i ∧ f5 i ≠ x) → (evs g5 g6 g7 (a + m + 1)).filter (fun e => e.1 = t) = (evs f5 f6 f7 (a + m)).filter (fun e => e.1 = t) ++ (if x = t then [(x, y, z)] else [])
  | 0, _ => by
    rw [evs_succ, Nat.add_zero, evs_congr a h0, List.filter_append, hx, hy, hz]
    by_cases h : x = t <;> simp [h]
  | m + 1, h => by
    have ih := ev_ins h0 hx hy hz (t := t) m (fun i h1 h2 => h i h1 (by omega))
    obtain ⟨e1, e2, e3, e4⟩ := h (a + m) (by omega) (by omega)
    rw [evs_succ, show a + (m + 1) = a + m + 1 from rfl, e1, e2, e3, List.filter_append, ih, evs_succ, List.filter_append]
    by_cases hxt : x = t
    · have h9 : ¬ f5 (a + m) = t := fun h8 => e4 (h8.trans hxt.symm)
      simp [hxt, h9]
    · simp [hxt]
theorem addE {E : Nat} {x y z : Int32} {v : VV} (E20 : E < 20) (hE : v 4 3 = nI E) (hsort : ∀ i j, i ≤ j → j < E → v 5 i ≤ v 5 j) : ∃ v', F_X0_add 4 x y z v = some v' ∧ (∀ c, c ≠ 4 → c ≠ 5 → c ≠ 6 → c ≠ 7 → v' c = v c) ∧ v' 4 3 = nI (E + 1) ∧ (∀ i j, i ≤ j → j < E + 1 → v' 5 i ≤ v' 5 j) ∧ ∀ t, (evs (v' 5) (v' 6) (v' 7) (E + 1)).filter (fun e => e.1 = t) = (evs (v 5) (v 6) (v 7) E).filter (fun e => e.1 = t) ++ (if x = t then [(x, y, z)] else []) := by
  unfold F_X0_add f_X0_add
  rw [hE, if_pos (show nI E < 20 from nI_lt (b := 20) E20 (by omega))]
  simp only [nv]
  obtain ⟨a, v1, g1, g2, g3, g4, g5, g6, g7⟩ := addL (E := E) (x := x) (y := y) (z := z) (f := v) (K := fun c0_7 i1_7 i2_7 i3_7 i4_7 v_7 => f_X0_add_b50 c0_7 i1_7 i2_7 i3_7 i4_7 v_7) E20 FU E v (Nat.le_refl _) (by unfold FU; omega) (fun _ _ _ _ => rfl) (fun _ _ _ _ _ => rfl) (fun _ _ _ i h1 h2 => by omega) (fun i h1 h2 => by omega)
  rw [g1]
  unfold f_X0_add_b50
  have ta : (nI a).toNatClampNeg = a := tn (by omega)
  have ia : inB (nI a) 20 = true := inB_n (by omega) (by omega)
  simp only [nv, rfC40, rfC41, rfC42, lnC5, lnC6, lnC7, gd_t ia, ta, wu_n (show 4 ≠ 7 by omega), wu_n (show 4 ≠ 6 by omega), wu_n (show 4 ≠ 5 by omega), g3 4 (by omega) (by omega) (by omega), hE, nI_1]
  have h5 : ∀ i, wu (wu (wu (wu v1 5 a x) 6 a y) 7 a z) 4 3 (nI (E + 1)) 5 i = if i = a then x else v1 5 i := fun i => by rw [wu_n (by omega), wu_n (by omega), wu_n (by omega), wu_c]
  have h6 : ∀ i, wu (wu (wu (wu v1 5 a x) 6 a y) 7 a z) 4 3 (nI (E + 1)) 6 i = if i = a then y else v1 6 i := fun i => by rw [wu_n (by omega), wu_n (by omega), wu_c, wu_n (by omega)]
  have h7 : ∀ i, wu (wu (wu (wu v1 5 a x) 6 a y) 7 a z) 4 3 (nI (E + 1)) 7 i = if i = a then z else v1 7 i := fun i => by rw [wu_n (by omega), wu_c, wu_n (by omega), wu_n (by omega)]
  have hlt : ∀ i, i < a → v 5 i ≤ x := by
    intro i hi
    rcases g7 with h | h
    · omega
    · have := hsort i (a - 1) (by omega) (by omega)
      rw [Int32.le_iff_toInt_le] at *
      omega
  refine ⟨_, rfl, fun c c4 c5 c6 c7 => by rw [wu_n c4, wu_n c7, wu_n c6, wu_n c5, g3 c c5 c6 c7], by rw [wu_s], fun i j hij hj => ?_, fun t => ?_⟩
  · rw [h5, h5]
    by_cases hi : i < a
    · rw [if_neg (by omega), g4 5 (by omega) (by omega) i hi]
      by_cases hj2 : j = a
      · rw [if_pos hj2]
        exact hlt i hi
      · rw [if_neg hj2]
        by_cases hj3 : j < a
        · rw [g4 5 (by omega) (by omega) j hj3]
          exact hsort i j hij (by omega)
        · have := g5 5 (by omega) (by omega) (j - 1) (by omega) (by omega)
          rw [show j - 1 + 1 = j by omega] at this
          rw [this]
          exact hsort i (j - 1) (by omega) (by omega)
    · by_cases hia : i = a
      · rw [if_pos hia]
        by_cases hj2 : j = a
        · rw [if_pos hj2]
          exact Int32.le_iff_toInt_le.mpr (Int.le_refl _)
        · rw [if_neg hj2]
          have := g5 5 (by omega) (by omega) (j - 1) (by omega) (by omega)
          rw [show j - 1 + 1 = j by omega] at this
          rw [this]
          have := g6 (j - 1) (by omega) (by omega)
          rw [Int32.lt_iff_toInt_lt] at this
          rw [Int32.le_iff_toInt_le]
          omega
      · rw [if_neg hia, if_neg (by omega)]
        have e1 := g5 5 (by omega) (by omega) (i - 1) (by omega) (by omega)
        rw [show i - 1 + 1 = i by omega] at e1
        have e2 := g5 5 (by omega) (by omega) (j - 1) (by omega) (by omega)
        rw [show j - 1 + 1 = j by omega] at e2
        rw [e1, e2]
        exact hsort (i - 1) (j - 1) (by omega) (by omega)
  · have := ev_ins (f5 := v 5) (f6 := v 6) (f7 := v 7) (g5 := wu (wu (wu (wu v1 5 a x) 6 a y) 7 a z) 4 3 (nI (E + 1)) 5) (g6 := wu (wu (wu (wu v1 5 a x) 6 a y) 7 a z) 4 3 (nI (E + 1)) 6) (g7 := wu (wu (wu (wu v1 5 a x) 6 a y) 7 a z) 4 3 (nI (E + 1)) 7) (a := a) (x := x) (y := y) (z := z) (t := t) (fun i hi => by rw [h5, h6, h7, if_neg (by omega), if_neg (by omega), if_neg (by omega), g4 5 (by omega) (by omega) i hi, g4 6 (by omega) (by omega) i hi, g4 7 (by omega) (by omega) i hi]; exact ⟨rfl, rfl, rfl⟩) (by rw [h5, if_pos rfl]) (by rw [h6, if_pos rfl]) (by rw [h7, if_pos rfl]) (E - a) (fun i h1 h2 => by
      rw [h5, h6, h7, if_neg (by omega), if_neg (by omega), if_neg (by omega), g5 5 (by omega) (by omega) i h1 (by omega), g5 6 (by omega) (by omega) i h1 (by omega), g5 7 (by omega) (by omega) i h1 (by omega)]
      refine ⟨rfl, rfl, rfl, fun h9 => ?_⟩
      have := g6 i h1 (by omega)
      rw [h9, Int32.lt_iff_toInt_lt] at this
      omega)
    rw [show a + (E - a) = E by omega] at this
    exact this
theorem st_event : Step_event Inv := by
  intro vC vM hI a0 a1 a2 a3
  obtain ⟨P, T, F, S, E, i1, i2, i3, i4, i5, i6, i7⟩ := id hI
  have hP6 := i1.1.2.2
  obtain ⟨t1, t2, t3⟩ := i1.2.1
  obtain ⟨⟨n1, n2, n3⟩, n4, n5, n6⟩ := id i6
  unfold F_X10_event f_X10_event F_X11_event f_X11_event
  rcases isP i1 a1 with ⟨p, hp, rfl, e1, e2⟩ | ⟨-, e1, e2⟩
  · rw [e1, e2, bi_s, bi_s, if_neg n10, if_neg n10]
    rcases isG vC vM a2 with ⟨g, hg, rfl, e1, e2⟩ | ⟨-, e1, e2⟩
    · rw [e1, e2, bi_s, bi_s, if_neg n10, if_neg n10, rfC00, t1, t2]
      rcases win a0 (nI T) 998 (Int32.toInt64 (nI T)) 998 rfl (by decide) vC vM with ⟨h1, h2, e3, e4⟩ | ⟨-, e3, e4⟩
      · rw [e3, e4, bi_s, bi_s, if_neg n10, if_neg n10]
        obtain ⟨x, hx0, hx1, rfl⟩ := bnd_of (lo := T) (hi := 998) (by decide) h1 h2 (by omega)
        rcases win a3 (-1000) 1000 (-1000) 1000 (by decide) (by decide) vC vM with ⟨h3, h4, e3, e4⟩ | ⟨-, e3, e4⟩
        · rw [e3, e4, bi_s, bi_s, if_neg n10, if_neg n10]
          by_cases hz : a3 = 0
          · rw [if_pos hz, if_pos hz]
            exact ⟨_, _, _, rfl, rfl, hI⟩
          · rw [if_neg hz, if_neg hz, rfC12, n1, n2]
            by_cases hE : E < 20
            · rw [if_pos (show nI E < 20 from nI_lt (b := 20) hE (by omega)), if_neg (show ¬ nI E = 20 from fun h => by have := nI_inj (b := 20) (by omega) (by omega) h; omega), shelfE (by omega) hg, bi_s]
              have hk : 3 * p + g < 18 := by omega
              obtain ⟨q1, -⟩ := i2 (3 * p + g) hk
              obtain ⟨v', p1, p2, p3, p4, p5⟩ := addE (x := nI x) (y := nI (3 * p + g)) (z := a3) hE n1 n4
              have tE : (nI E).toNatClampNeg = E := tn (by omega)
              have iE : inB (nI E) 20 = true := inB_n (by omega) (by omega)
              rw [q1, p1, Option.bind_some, p3]
              simp only [nv, k3, rfM19, rfM20, rfM21, lnMe (show 12 ≤ 12 by omega) (by omega), lnMe (show 12 ≤ 13 by omega) (by omega), lnMe (show 12 ≤ 14 by omega) (by omega), gd_t iE, tE, wu_n (show 0 ≠ 12 by omega), wu_n (show 0 ≠ 13 by omega), wu_n (show 0 ≠ 14 by omega), n2, nI_1, wu_s]
              have g12 : ∀ i, wu (wu (wu (wu vM 12 E (nI x)) 13 E (nI (3 * p + g))) 14 E a3) 0 22 (nI (E + 1)) 12 i = if i = E then nI x else vM 12 i := fun i => by rw [wu_n (by omega), wu_n (by omega), wu_n (by omega), wu_c]
              have g13 : ∀ i, wu (wu (wu (wu vM 12 E (nI x)) 13 E (nI (3 * p + g))) 14 E a3) 0 22 (nI (E + 1)) 13 i = if i = E then nI (3 * p + g) else vM 13 i := fun i => by rw [wu_n (by omega), wu_n (by omega), wu_c, wu_n (by omega)]
              have g14 : ∀ i, wu (wu (wu (wu vM 12 E (nI x)) 13 E (nI (3 * p + g))) 14 E a3) 0 22 (nI (E + 1)) 14 i = if i = E then a3 else vM 14 i := fun i => by rw [wu_n (by omega), wu_c, wu_n (by omega), wu_n (by omega)]
              have hM : ∀ c, c ≠ 0 → c ≠ 12 → c ≠ 13 → c ≠ 14 → wu (wu (wu (wu vM 12 E (nI x)) 13 E (nI (3 * p + g))) 14 E a3) 0 22 (nI (E + 1)) c = vM c := fun c h0 h2 h3 h4 => by rw [wu_n h0, wu_n h4, wu_n h3, wu_n h2]
              have hM0 : ∀ j, j ≠ 22 → wu (wu (wu (wu vM 12 E (nI x)) 13 E (nI (3 * p + g))) 14 E a3) 0 22 (nI (E + 1)) 0 j = vM 0 j := fun j hj => by rw [wu_j hj, wu_n (by omega), wu_n (by omega), wu_n (by omega)]
              refine ⟨nI (E + 1), v', wu (wu (wu (wu vM 12 E (nI x)) 13 E (nI (3 * p + g))) 14 E a3) 0 22 (nI (E + 1)), rfl, rfl, P, T, F, S, E + 1, iSc_c i1 (fun j _ _ => by rw [p2 0 (by omega) (by omega) (by omega) (by omega)]) (fun j _ _ => by rw [p2 1 (by omega) (by omega) (by omega) (by omega)]) (fun j hj => hM0 j (by omega)), iSh_c i2 (fun k hk => p2 _ (by omega) (by omega) (by omega) (by omega)) (fun c _ _ => hM c (by omega) (by omega) (by omega) (by omega)), iPo_c i3 (fun k hk => p2 _ (by omega) (by omega) (by omega) (by omega)) (fun c _ _ => hM c (by omega) (by omega) (by omega) (by omega)), iWy_c i4 (fun k hk => p2 _ (by omega) (by omega) (by omega) (by omega)) (hM 11 (by omega) (by omega) (by omega) (by omega)), iSp_c i5 (fun k hk => p2 _ (by omega) (by omega) (by omega) (by omega)) (fun c _ _ => hM c (by omega) (by omega) (by omega) (by omega)), ⟨⟨p3, by rw [wu_s], by omega⟩, p4, fun t => ?_, fun e he => ?_⟩, iPl_c i7 (by rw [p2 15 (by omega) (by omega) (by omega) (by omega)]) (p2 23 (by omega) (by omega) (by omega) (by omega)) (p2 24 (by omega) (by omega) (by omega) (by omega)) (hM0 41 (by omega)) (hM 24 (by omega) (by omega) (by omega) (by omega)) (hM 25 (by omega) (by omega) (by omega) (by omega))⟩
              · rw [p5 t, n5 t]
                rw [evs_succ, List.filter_append, g12 E, g13 E, g14 E, if_pos rfl, if_pos rfl, if_pos rfl]
                have hcg : evs (wu (wu (wu (wu vM 12 E (nI x)) 13 E (nI (3 * p + g))) 14 E a3) 0 22 (nI (E + 1)) 12) (wu (wu (wu (wu vM 12 E (nI x)) 13 E (nI (3 * p + g))) 14 E a3) 0 22 (nI (E + 1)) 13) (wu (wu (wu (wu vM 12 E (nI x)) 13 E (nI (3 * p + g))) 14 E a3) 0 22 (nI (E + 1)) 14) E = evs (vM 12) (vM 13) (vM 14) E := evs_congr E (fun i hi => by rw [g12, g13, g14, if_neg (by omega), if_neg (by omega), if_neg (by omega)]; exact ⟨rfl, rfl, rfl⟩)
                rw [hcg]
                by_cases h : nI x = t <;> simp [h]
              · rw [g12, g13, g14]
                by_cases h : e = E
                · rw [if_pos h, if_pos h, if_pos h]
                  exact ⟨⟨x, hx0, hx1, rfl⟩, ⟨3 * p + g, by omega, rfl⟩, h3, h4⟩
                · rw [if_neg h, if_neg h, if_neg h]
                  exact n6 e (by omega)
            · have e4' : E = 20 := by omega
              subst e4'
              rw [if_neg (show ¬ nI 20 < 20 by decide), if_pos (show nI 20 = 20 by decide)]
              exact ⟨_, _, _, rfl, rfl, hI⟩
        · rw [e3, e4, bi_s, bi_s, if_pos z00, if_pos z00]
          exact ⟨_, _, _, rfl, rfl, hI⟩
      · rw [e3, e4, bi_s, bi_s, if_pos z00, if_pos z00]
        exact ⟨_, _, _, rfl, rfl, hI⟩
    · rw [e1, e2, bi_s, bi_s, if_pos z00, if_pos z00]
      exact ⟨_, _, _, rfl, rfl, hI⟩
  · rw [e1, e2, bi_s, bi_s, if_pos z00, if_pos z00]
    exact ⟨_, _, _, rfl, rfl, hI⟩
