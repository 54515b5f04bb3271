theorem gainM {p g b m tx s : Nat} {v : VV} (hp : p < 6) (hg : g < 3) (hb : v 4 (3 * p + g) = nI b) (hm : v 5 (3 * p + g) = nI m) (b0 : 1 ≤ b) (b1 : b ≤ 100) (m0 : 1 ≤ m) (m1 : m ≤ 100) (ht : v 7 p = nI tx) (t1 : tx ≤ 20) (s1 : s ≤ 1999) : F_X11_gainWith 0 (nI (3 * p + g)) (nI s) v = some (nI (prc b m (s + 1) - min tx (prc b m (s + 1))), v) := by
  unfold F_X11_gainWith f_X11_gainWith
  have hd : nI (3 * p + g) / 3 = nI p := by
    show nI (3 * p + g) / nI 3 = _
    rw [pk_div (by omega) (by omega) (by omega), show (3 * p + g) / 3 = p by omega]
  have tp : (nI p).toNatClampNeg = p := tn (by omega)
  have ip : inB (nI p) 6 = true := inB_n (by omega) (by omega)
  have hpr := prc_le (m := m) (s := s + 1) b1 b0
  rw [nI_1, priceM (by omega) hb hm b1 m0 m1 (by omega), bi_s]
  simp only [hd, tp, rfM9, lnMp (show 7 ≤ 7 by omega) (by omega), gd_t ip, nv, ht]
  by_cases h : tx ≤ prc b m (s + 1)
  · rw [if_pos (nI_le h (by omega)), pk_sub h, Nat.min_eq_left h]
  · rw [if_neg (nI_ge (by omega) (by omega)), Nat.min_eq_right (by omega), Nat.sub_self]
    rfl
theorem sellLM {sh g p b m tx U l0 : Nat} {v0 : VV} (hsh : sh < 4) (hg : g < 3) (hp : p < 6) (b0 : 1 ≤ b) (b1 : b ≤ 100) (m0 : 1 ≤ m) (m1 : m ≤ 100) (t1 : tx ≤ 20) (hb : v0 4 (3 * p + g) = nI b) (hm : v0 5 (3 * p + g) = nI m) (ht : v0 7 p = nI tx) (l20 : l0 ≤ 20) (U20 : U ≤ 20) : ∀ (n u s c w t : Nat) (v : VV), mB v0 v sh (3 * p + g) p (3 * sh + g) (nI s) (nI c) (v0 8 p + nI t) (v0 9 p + nI w) (nI (l0 - u)) → U - u < n → u ≤ U → u ≤ l0 → s ≤ 1000 → c ≤ 1000000 → ∃ v', f_X11_sell_l36 n 0 (nI sh) (nI g) (nI U) (nI p) (nI (3 * p + g)) (nI u) v = some (nI (sellN b m tx (min U l0 - u) s c u w t).1, v') ∧ mB v0 v' sh (3 * p + g) p (3 * sh + g) (nI (sellN b m tx (min U l0 - u) s c u w t).2.1) (nI (sellN b m tx (min U l0 - u) s c u w t).2.2.1) (v0 8 p + nI (sellN b m tx (min U l0 - u) s c u w t).2.2.2.2) (v0 9 p + nI (sellN b m tx (min U l0 - u) s c u w t).2.2.2.1) (nI (l0 - (sellN b m tx (min U l0 - u) s c u w t).1))
  | 0, u, s, c, w, t, v, _, h, _, _, _, _ => by omega
  | n + 1, u, s, c, w, t, v, hB, hn, hu, hu2, hs, hc => by
    obtain ⟨c0, c1, c2, c3, c4, c5⟩ := id hB
    have hk : 3 * p + g < 18 := by omega
    have ts : (nI sh).toNatClampNeg = sh := tn (by omega)
    have is_ : inB (nI sh) 4 = true := inB_n (by omega) (by omega)
    have tp : (nI p).toNatClampNeg = p := tn (by omega)
    have ip : inB (nI p) 6 = true := inB_n (by omega) (by omega)
    have tk : (nI (3 * p + g)).toNatClampNeg = 3 * p + g := tn (by omega)
    have ik : inB (nI (3 * p + g)) 18 = true := inB_n (by omega) (by omega)
    have tq : (nI (3 * sh + g)).toNatClampNeg = 3 * sh + g := tn (by omega)
    have iq : inB (nI (3 * sh + g)) 12 = true := inB_n (by omega) (by omega)
    have e1 : v 1 (3 * p + g) = nI s := by rw [c1, if_pos rfl]
    have e8 : v 8 p = v0 8 p + nI t := by rw [c2, if_pos rfl]
    have e9 : v 9 p = v0 9 p + nI w := by rw [c3, if_pos rfl]
    have e17 : v 17 sh = nI c := by rw [c4, if_pos rfl]
    have e18 : v 18 (3 * sh + g) = nI (l0 - u) := by rw [c5, if_pos rfl]
    have e4 : v 4 (3 * p + g) = nI b := by rw [c0 4 (by omega) (by omega) (by omega) (by omega) (by omega), hb]
    have e5 : v 5 (3 * p + g) = nI m := by rw [c0 5 (by omega) (by omega) (by omega) (by omega) (by omega), hm]
    have e7 : v 7 p = nI tx := by rw [c0 7 (by omega) (by omega) (by omega) (by omega) (by omega), ht]
    rw [f_X11_sell_l36]
    by_cases hU : u = U
    · subst hU
      rw [if_pos (nI_le (Nat.le_refl _) (by omega)), show min u l0 - u = 0 by omega]
      exact ⟨v, rfl, hB⟩
    · rw [if_neg (nI_ge (by omega) (by omega))]
      simp only [rfM24, rfM3, rfM25, rfM9, rfM10, rfM11, rfM26, ts, tp, tk, k3, tq, lnMh (show 15 ≤ 16 by omega) (by omega), lnMh (show 15 ≤ 17 by omega) (by omega), lnMs (show 1 ≤ 1 by omega) (by omega), lnMp (show 7 ≤ 7 by omega) (by omega), lnMp (show 7 ≤ 8 by omega) (by omega), lnMp (show 7 ≤ 9 by omega) (by omega), lnMc, gd_t is_, gd_t ip, gd_t ik, gd_t iq, e18]
      by_cases h1 : u = l0
      · subst h1
        rw [Nat.sub_self, if_pos (show nI 0 ≤ 0 by decide), show min U u - u = 0 by omega]
        exact ⟨v, rfl, by rw [Nat.sub_self] at hB; rw [sellN]; dsimp only; rw [Nat.sub_self]; exact hB⟩
      · rw [if_neg (show ¬ nI (l0 - u) ≤ 0 from nI_ge (a := 0) (by omega) (by omega)), show min U l0 - u = (min U l0 - (u + 1)) + 1 by omega, sellN, e1]
        by_cases h0 : 1000 ≤ s
        · rw [if_pos (show (1000 : Int32) ≤ nI s from nI_le (a := 1000) h0 (by omega)), if_pos h0]
          exact ⟨v, rfl, hB⟩
        · have hpr := prc_le (m := m) (s := s + 1) b1 b0
          have hkm : min tx (prc b m (s + 1)) ≤ prc b m (s + 1) := Nat.min_le_right _ _
          rw [if_neg (show ¬ (1000 : Int32) ≤ nI s from nI_ge (b := 1000) (by omega) (by omega)), if_neg h0, gainM hp hg e4 e5 b0 b1 m0 m1 e7 t1 (by omega), bi_s, e17, nI_add]
          by_cases h2 : c + (prc b m (s + 1) - min tx (prc b m (s + 1))) ≤ 1000000
          · rw [if_neg (show ¬ (1000000 : Int32) < nI (c + (prc b m (s + 1) - min tx (prc b m (s + 1)))) from nI_nlt (a := 1000000) h2 (by omega)), if_pos h2, e1, nI_1, priceM hk e4 e5 b1 m0 m1 (by omega), bi_s, e1, gainM hp hg e4 e5 b0 b1 m0 m1 e7 t1 (by omega), bi_s]
            have hx9 : nI (prc b m (s + 1)) - nI (prc b m (s + 1) - min tx (prc b m (s + 1))) = nI (min tx (prc b m (s + 1))) := by
              rw [pk_sub (Nat.sub_le _ _), show prc b m (s + 1) - (prc b m (s + 1) - min tx (prc b m (s + 1))) = min tx (prc b m (s + 1)) by omega]
            have hx8 : nI (l0 - u) - 1 = nI (l0 - (u + 1)) := by
              rw [show nI (l0 - u) - 1 = nI (l0 - u - 1) from pk_sub (b := 1) (by omega), show l0 - u - 1 = l0 - (u + 1) by omega]
            simp only [nv, e17, e7, nI_add, wu_n (show 8 ≠ 17 by omega), wu_n (show 7 ≠ 17 by omega), wu_n (show 9 ≠ 17 by omega), wu_n (show 9 ≠ 8 by omega), wu_n (show 1 ≠ 17 by omega), wu_n (show 1 ≠ 8 by omega), wu_n (show 1 ≠ 9 by omega), wu_n (show 18 ≠ 17 by omega), wu_n (show 18 ≠ 8 by omega), wu_n (show 18 ≠ 9 by omega), wu_n (show 18 ≠ 1 by omega), e8, e9, e1, e18, nI_1, hx9, hx8, i_assoc]
            exact sellLM hsh hg hp b0 b1 m0 m1 t1 hb hm ht l20 U20 n (u + 1) (s + 1) (c + (prc b m (s + 1) - min tx (prc b m (s + 1)))) (w + prc b m (s + 1)) (t + min tx (prc b m (s + 1))) _ (mB_s hB) (by omega) (by omega) (by omega) (by omega) (by omega)
          · rw [if_pos (show (1000000 : Int32) < nI (c + (prc b m (s + 1) - min tx (prc b m (s + 1)))) from nI_lt (a := 1000000) (by omega) (by omega)), if_neg h2]
            exact ⟨v, rfl, hB⟩
theorem st_sell : Step_sell Inv := by
  intro vC vM hI a0 a1 a2
  obtain ⟨P, T, F, S, E, i1, i2, i3, i4, i5, i6, i7⟩ := id hI
  have hP6 := i1.1.2.2
  have hS4 := i1.2.2.2.1.2.2
  unfold F_X10_sell f_X10_sell F_X11_sell f_X11_sell
  rcases why i1 i3 i5 a0 a1 a2 with ⟨r, hr, w1, w2⟩ | ⟨sh, g, U, hsh, hg, hU0, hU1, rfl, rfl, rfl, w1, w2⟩
  · rw [w1, w2, bi_s, bi_s, if_neg (fun h => by rw [h] at hr; exact absurd hr (by decide)), if_neg (fun h => by rw [Int32.lt_iff_toInt_lt] at hr; rw [Int32.le_iff_toInt_le] at h; omega)]
    exact ⟨r, vC, vM, rfl, rfl, hI⟩
  · rw [w1, w2, bi_s, bi_s, if_pos z00, if_pos (show (0 : Int32) ≤ 0 by decide)]
    obtain ⟨y1, y2, y3, ⟨p, hp, y4⟩, ⟨c, -, hc1, y5⟩, h, hh0, hh1, y6, x, y, z, hxyz, hx, hy, hz⟩ := (i5 sh (by omega)).1 hsh
    have ycg := (i5 sh (by omega)).2.1
    have hk : 3 * p + g < 18 := by omega
    obtain ⟨q1, q2, q3, q4, q5, q6, q7, q8, q9, q10⟩ := i2 (3 * p + g) hk
    obtain ⟨z1, z2, ⟨b, hb0, hb1, yb⟩, ⟨m, hm0, hm1, ym⟩⟩ := q6 (by omega)
    obtain ⟨st, hs0, hs1, ys⟩ := q8
    obtain ⟨o1, o2, o3, o4, ⟨tx, -, htx, yt⟩, o6⟩ := i3 p (by omega)
    have hsh4 : sh < 4 := by omega
    have hp6 : p < 6 := by omega
    have ts : (nI sh).toNatClampNeg = sh := tn (by omega)
    have is_ : inB (nI sh) 4 = true := inB_n (by omega) (by omega)
    have tp : (nI p).toNatClampNeg = p := tn (by omega)
    have ip : inB (nI p) 6 = true := inB_n (by omega) (by omega)
    have tg : (nI g).toNatClampNeg = g := tn (by omega)
    have ig : inB (nI g) 3 = true := inB_n (by omega) (by omega)
    simp only [rfC01, rfC8, rfC00, rfC10, rfC2, rfC09, ts, tp, tg, lnC8, lnC2, gd_t is_, y1, y4, gd_t ip, rfCp hp6, rfCs hp6, lnCp hp6, gd_t ig, rfCc hsh4, lnCc hsh4, rfM23, lnMh (show 15 ≤ 15 by omega) (by omega), nv, k3]
    obtain ⟨l0, hl0⟩ : ∃ l0, l0 = if g = 0 then x else if g = 1 then y else z := ⟨_, rfl⟩
    have f2 : vM 18 (3 * sh + g) = nI l0 := by
      rw [hl0]
      rcases (show g = 0 ∨ g = 1 ∨ g = 2 by omega) with rfl | rfl | rfl
      · simp [hx]
      · simp [hy]
      · simp [hz]
    have f3 : l0 ≤ x + y + z := by
      rw [hl0]
      rcases (show g = 0 ∨ g = 1 ∨ g = 2 by omega) with rfl | rfl | rfl <;> simp <;> omega
    rw [ycg g hg, f2, minI (x := l0) (y := U) (by omega) (by omega), q2, ys, o1, yt, y3, y5]
    obtain ⟨v', p1, p2, p3⟩ := salE (d := 10) (c1 := 37 + (3 * p + g)) (v := vC) (b := b) (m := m) (tx := tx) (M := min U l0) (s := st) (c := c) (by omega) (by rw [z1, yb]) (by rw [z2, ym]) hb0 hb1 hm0 hm1 htx (by omega) hs1 hc1
    rw [p1, Option.bind_some]
    obtain ⟨d0, d1, d2, d3, d4⟩ := p3
    obtain ⟨vM', g1, g2⟩ := sellLM (v0 := vM) (U := U) (l0 := l0) hsh4 hg hp6 hb0 hb1 hm0 hm1 htx yb ym yt (by omega) hU1 FU 0 st c 0 0 vM (mB_0 ys (by show _ = _ + 0; rw [Int32.add_zero]) (by show _ = _ + 0; rw [Int32.add_zero]) y5 (by rw [f2, Nat.sub_zero])) (by unfold FU; omega) (by omega) (by omega) hs1 hc1
    rw [Nat.sub_zero] at g1 g2
    have bb := sellN_b (b := b) (m := m) (tx := tx) (min U l0) st c 0 0 0 hs1 hc1
    generalize hr : sellN b m tx (min U l0) st c 0 0 0 = r at g1 g2 d0 d1 d2 d3 d4 bb
    have pv : v' (71 + sh) = vC (71 + sh) := p2 _ (by omega)
    have pp : v' (25 + p) = vC (25 + p) := p2 _ (by omega)
    simp only [wu_n (show 10 ≠ 37 + (3 * p + g) by omega), wu_n (show 10 ≠ 67 + sh by omega), wu_n (show 10 ≠ 71 + sh by omega), wu_n (show 10 ≠ 25 + p by omega), wu_n (show 71 + sh ≠ 37 + (3 * p + g) by omega), wu_n (show 71 + sh ≠ 67 + sh by omega), wu_n (show 25 + p ≠ 37 + (3 * p + g) by omega), wu_n (show 25 + p ≠ 67 + sh by omega), wu_n (show 25 + p ≠ 71 + sh by omega), d0, d1, d2, d3, d4, pv, pp, wu_j (show 2 ≠ 3 by omega)]
    have hC := cB_s (v0 := vC) (v := v') (sh := sh) (k := 3 * p + g) (p := p) (g := g) (s := nI r.2.1) (c := nI r.2.2.1) (t := vC (25 + p) 2 + nI r.2.2.2.2) (w := vC (25 + p) 3 + nI r.2.2.2.1) (l := vC (71 + sh) g - nI r.1) hk hp6 hsh4 p2
    refine ⟨nI r.1, _, vM', rfl, g1, ?_⟩
    refine deal_Inv i1 i2 i3 i4 i5 i6 i7 hsh hp hg g2 ?_ ⟨r.2.1, by omega, by omega, rfl⟩ ⟨r.2.2.1, by omega, by omega, rfl⟩ ⟨h, hh0, hh1, y6, ?_⟩
    · rw [o2, o3, ycg g hg, f2, pk_sub (by omega)] at hC
      rw [o2, o3, ycg g hg, f2, pk_sub (by omega)]
      exact hC
    · obtain ⟨-, -, -, x', y', z', e1, e2, e3, e4⟩ := cg3 hg rfl hx hy hz hl0 g2.2.2.2.2.2
      exact ⟨x', y', z', by omega, e2, e3, e4⟩
