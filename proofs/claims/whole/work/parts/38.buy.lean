theorem cg3 {v0 v : VV} {sh g q x y z u l0 : Nat} (hg : g < 3) (hq : q = 3 * sh + g) (hx : v0 18 (3 * sh) = nI x) (hy : v0 18 (3 * sh + 1) = nI y) (hz : v0 18 (3 * sh + 2) = nI z) (hl : l0 = if g = 0 then x else if g = 1 then y else z) (h : ∀ j, v 18 j = if j = q then nI u else v0 18 j) : v 18 (3 * sh) + v 18 (3 * sh + 1) + v 18 (3 * sh + 2) = nI (x + y + z - l0 + u) ∧ v0 18 q = nI l0 ∧ l0 ≤ x + y + z ∧ ∃ x' y' z', x' + y' + z' = x + y + z - l0 + u ∧ v 18 (3 * sh) = nI x' ∧ v 18 (3 * sh + 1) = nI y' ∧ v 18 (3 * sh + 2) = nI z' := by
  rw [h, h, h]
  subst hq
  rcases (show g = 0 ∨ g = 1 ∨ g = 2 by omega) with rfl | rfl | rfl
  · rw [if_pos (by omega), if_neg (by omega), if_neg (by omega), hy, hz, nI_add, nI_add]
    simp at hl
    subst hl
    refine ⟨?_, hx, by omega, u, y, z, by omega, rfl, rfl, rfl⟩
    congr 1; omega
  · rw [if_neg (by omega), if_pos (by omega), if_neg (by omega), hx, hz, nI_add, nI_add]
    simp at hl
    subst hl
    refine ⟨?_, hy, by omega, x, u, z, by omega, rfl, rfl, rfl⟩
    congr 1; omega
  · rw [if_neg (by omega), if_neg (by omega), if_pos (by omega), hx, hy, nI_add, nI_add]
    simp at hl
    subst hl
    refine ⟨?_, hz, by omega, x, y, u, by omega, rfl, rfl, rfl⟩
    congr 1; omega
theorem buyLM {sh g p b m tx U H l0 x y z : Nat} {v0 : VV} (hsh : sh < 4) (hg : g < 3) (hp : p < 6) (b0 : 1 ≤ b) (b1 : b ≤ 100) (m0 : 1 ≤ m) (m1 : m ≤ 100) (t1 : tx ≤ 20) (hH : v0 16 sh = nI H) (hb : v0 4 (3 * p + g) = nI b) (hm : v0 5 (3 * p + g) = nI m) (ht : v0 7 p = nI tx) (hx : v0 18 (3 * sh) = nI x) (hy : v0 18 (3 * sh + 1) = nI y) (hz : v0 18 (3 * sh + 2) = nI z) (hl : l0 = if g = 0 then x else if g = 1 then y else z) (hxyz : x + y + z ≤ H) (H20 : H ≤ 20) (U20 : U ≤ 20) : ∀ (n u s c w t : Nat) (v : VV), mB v0 v sh (3 * p + g) p (3 * sh + g) (nI s) (nI c) (v0 8 p + nI t) (v0 9 p - nI w) (nI (l0 + u)) → U - u < n → u ≤ U → u ≤ H - (x + y + z) → s ≤ 1000 → c ≤ 1000000 → ∃ v', f_X11_buy_l36 n 0 (nI sh) (nI g) (nI U) (nI p) (nI (3 * p + g)) (nI u) v = some (nI (buyN b m tx (min U (H - (x + y + z)) - u) s c u w t).1, v') ∧ mB v0 v' sh (3 * p + g) p (3 * sh + g) (nI (buyN b m tx (min U (H - (x + y + z)) - u) s c u w t).2.1) (nI (buyN b m tx (min U (H - (x + y + z)) - u) s c u w t).2.2.1) (v0 8 p + nI (buyN b m tx (min U (H - (x + y + z)) - u) s c u w t).2.2.2.2) (v0 9 p - nI (buyN b m tx (min U (H - (x + y + z)) - u) s c u w t).2.2.2.1) (nI (l0 + (buyN b m tx (min U (H - (x + y + z)) - u) s c u w t).1))
  | 0, u, s, c, w, t, v, _, h, _, _, _, _ => by omega
  | n + 1, u, s, c, w, t, v, hB, hn, hu, hu2, hs, hc => by
    obtain ⟨c0, c1, c2, c3, c4, c5⟩ := id hB
    obtain ⟨d1, d2, d3, -⟩ := cg3 hg rfl hx hy hz hl c5
    have hk : 3 * p + g < 18 := by omega
    have ts : (nI sh).toNatClampNeg = sh := tn (by omega)
    have is_ : inB (nI sh) 4 = true := inB_n (by omega) (by omega)
    have tp : (nI p).toNatClampNeg = p := tn (by omega)
    have ip : inB (nI p) 6 = true := inB_n (by omega) (by omega)
    have tk : (nI (3 * p + g)).toNatClampNeg = 3 * p + g := tn (by omega)
    have ik : inB (nI (3 * p + g)) 18 = true := inB_n (by omega) (by omega)
    have tq : (nI (3 * sh + g)).toNatClampNeg = 3 * sh + g := tn (by omega)
    have iq : inB (nI (3 * sh + g)) 12 = true := inB_n (by omega) (by omega)
    have e1 : v 1 (3 * p + g) = nI s := by rw [c1, if_pos rfl]
    have e8 : v 8 p = v0 8 p + nI t := by rw [c2, if_pos rfl]
    have e9 : v 9 p = v0 9 p - nI w := by rw [c3, if_pos rfl]
    have e17 : v 17 sh = nI c := by rw [c4, if_pos rfl]
    have e18 : v 18 (3 * sh + g) = nI (l0 + u) := by rw [c5, if_pos rfl]
    have e16 : v 16 sh = nI H := by rw [c0 16 (by omega) (by omega) (by omega) (by omega) (by omega), hH]
    have e4 : v 4 (3 * p + g) = nI b := by rw [c0 4 (by omega) (by omega) (by omega) (by omega) (by omega), hb]
    have e5 : v 5 (3 * p + g) = nI m := by rw [c0 5 (by omega) (by omega) (by omega) (by omega) (by omega), hm]
    have e7 : v 7 p = nI tx := by rw [c0 7 (by omega) (by omega) (by omega) (by omega) (by omega), ht]
    rw [f_X11_buy_l36]
    by_cases hU : u = U
    · subst hU
      rw [if_pos (nI_le (Nat.le_refl _) (by omega)), show min u (H - (x + y + z)) - u = 0 by omega]
      exact ⟨v, rfl, hB⟩
    · rw [if_neg (nI_ge (by omega) (by omega)), loadM hsh, bi_s, d1, show x + y + z - l0 + (l0 + u) = x + y + z + u by omega]
      simp only [rfM24, rfM3, rfM25, rfM9, rfM10, rfM11, rfM26, ts, tp, tk, k3, tq, lnMh (show 15 ≤ 16 by omega) (by omega), lnMh (show 15 ≤ 17 by omega) (by omega), lnMs (show 1 ≤ 1 by omega) (by omega), lnMp (show 7 ≤ 7 by omega) (by omega), lnMp (show 7 ≤ 8 by omega) (by omega), lnMp (show 7 ≤ 9 by omega) (by omega), lnMc, gd_t is_, gd_t ip, gd_t ik, gd_t iq, e16]
      by_cases h1 : H ≤ x + y + z + u
      · rw [if_pos (nI_le (by omega) (by omega)), show min U (H - (x + y + z)) - u = 0 by omega]
        exact ⟨v, rfl, hB⟩
      · rw [if_neg (nI_ge (by omega) (by omega)), show min U (H - (x + y + z)) - u = (min U (H - (x + y + z)) - (u + 1)) + 1 by omega, buyN, e1]
        by_cases h0 : s = 0
        · subst h0
          rw [if_pos (show nI 0 ≤ 0 by decide), if_pos rfl]
          exact ⟨v, rfl, hB⟩
        · rw [if_neg (show ¬ nI s ≤ 0 from nI_ge (a := 0) (by omega) (by omega)), if_neg h0, priceM hk e4 e5 b1 m0 m1 (by omega), bi_s, e17, e7, nI_add]
          have hpr := prc_le (m := m) (s := s) b1 b0
          by_cases h2 : prc b m s + tx ≤ c
          · rw [if_neg (nI_nlt h2 (by omega)), if_pos h2, e1, priceM hk e4 e5 b1 m0 m1 (by omega), bi_s]
            simp only [nv, e17, e7, nI_add, wu_n (show 8 ≠ 17 by omega), wu_n (show 7 ≠ 17 by omega), wu_n (show 9 ≠ 17 by omega), wu_n (show 9 ≠ 8 by omega), wu_n (show 1 ≠ 17 by omega), wu_n (show 1 ≠ 8 by omega), wu_n (show 1 ≠ 9 by omega), wu_n (show 18 ≠ 17 by omega), wu_n (show 18 ≠ 8 by omega), wu_n (show 18 ≠ 9 by omega), wu_n (show 18 ≠ 1 by omega), e8, e9, e1, e18, nI_1, pk_sub h2, i_assoc, i_subsub]
            rw [show nI s - 1 = nI (s - 1) from pk_sub (b := 1) (by omega)]
            exact buyLM hsh hg hp b0 b1 m0 m1 t1 hH hb hm ht hx hy hz hl hxyz H20 U20 n (u + 1) (s - 1) (c - (prc b m s + tx)) (w + prc b m s) (t + tx) _ (by have := mB_s (s' := nI (s - 1)) (c' := nI (c - (prc b m s + tx))) (t' := v0 8 p + nI (t + tx)) (w' := v0 9 p - nI (w + prc b m s)) (l' := nI (l0 + u + 1)) hB; exact this) (by omega) (by omega) (by omega) (by omega) (by omega)
          · rw [if_pos (nI_lt (by omega) (by omega)), if_neg h2]
            exact ⟨v, rfl, hB⟩
theorem st_buy : Step_buy Inv := by
  intro vC vM hI a0 a1 a2
  obtain ⟨P, T, F, S, E, i1, i2, i3, i4, i5, i6, i7⟩ := id hI
  have hP6 := i1.1.2.2
  have hS4 := i1.2.2.2.1.2.2
  unfold F_X10_buy f_X10_buy F_X11_buy f_X11_buy
  rcases why i1 i3 i5 a0 a1 a2 with ⟨r, hr, w1, w2⟩ | ⟨sh, g, U, hsh, hg, hU0, hU1, rfl, rfl, rfl, w1, w2⟩
  · rw [w1, w2, bi_s, bi_s, if_neg (fun h => by rw [h] at hr; exact absurd hr (by decide)), if_neg (fun h => by rw [Int32.lt_iff_toInt_lt] at hr; rw [Int32.le_iff_toInt_le] at h; omega)]
    exact ⟨r, vC, vM, rfl, rfl, hI⟩
  · rw [w1, w2, bi_s, bi_s, if_pos z00, if_pos (by decide)]
    obtain ⟨y1, y2, y3, ⟨p, hp, y4⟩, ⟨c, -, hc1, y5⟩, h, hh0, hh1, y6, x, y, z, hxyz, hx, hy, hz⟩ := (i5 sh (by omega)).1 hsh
    have ycg := (i5 sh (by omega)).2.1
    have hk : 3 * p + g < 18 := by omega
    obtain ⟨q1, q2, q3, q4, q5, q6, q7, q8, q9, q10⟩ := i2 (3 * p + g) hk
    obtain ⟨z1, z2, ⟨b, hb0, hb1, yb⟩, ⟨m, hm0, hm1, ym⟩⟩ := q6 (by omega)
    obtain ⟨st, hs0, hs1, ys⟩ := q8
    obtain ⟨o1, o2, o3, o4, ⟨tx, -, htx, yt⟩, o6⟩ := i3 p (by omega)
    have hsh4 : sh < 4 := by omega
    have hp6 : p < 6 := by omega
    have ts : (nI sh).toNatClampNeg = sh := tn (by omega)
    have is_ : inB (nI sh) 4 = true := inB_n (by omega) (by omega)
    have tp : (nI p).toNatClampNeg = p := tn (by omega)
    have ip : inB (nI p) 6 = true := inB_n (by omega) (by omega)
    have tg : (nI g).toNatClampNeg = g := tn (by omega)
    have ig : inB (nI g) 3 = true := inB_n (by omega) (by omega)
    have ycx : 0 + vC (71 + sh) 0 + vC (71 + sh) 1 + vC (71 + sh) 2 = nI (x + y + z) := by
      rw [ycg 0 (by omega), ycg 1 (by omega), ycg 2 (by omega), Nat.add_zero, hx, hy, hz]
      show nI 0 + nI x + nI y + nI z = _
      rw [nI_add, nI_add, nI_add, Nat.zero_add]
    simp only [rfC01, rfC8, rfC00, rfC10, rfC2, rfC09, ts, tp, tg, lnC8, lnC2, gd_t is_, y1, y4, gd_t ip, rfCp hp6, rfCs hp6, lnCp hp6, gd_t ig, rfCc hsh4, lnCc hsh4, rfM23, lnMh (show 15 ≤ 15 by omega) (by omega), nv, k3]
    rw [loadE hsh4, bi_s, ycx, y2, y6, pk_sub hxyz, minI (by omega) (by omega), q2, ys, o1, yt, y3, y5]
    obtain ⟨v', p1, p2, p3⟩ := purE (d := 10) (c1 := 37 + (3 * p + g)) (v := vC) (b := b) (m := m) (tx := tx) (M := min U (h - (x + y + z))) (s := st) (c := c) (by omega) (by rw [z1, yb]) (by rw [z2, ym]) hb0 hb1 hm0 hm1 htx (by omega) hs1 hc1
    rw [p1, Option.bind_some]
    obtain ⟨d0, d1, d2, d3, d4⟩ := p3
    obtain ⟨l0, hl0⟩ : ∃ l0, l0 = if g = 0 then x else if g = 1 then y else z := ⟨_, rfl⟩
    obtain ⟨f1, f2, f3, -⟩ := cg3 (v0 := vM) (v := vM) (u := l0) hg rfl hx hy hz hl0 (by
      intro j
      by_cases hj : j = 3 * sh + g
      · rw [if_pos hj, hj, hl0]
        rcases (show g = 0 ∨ g = 1 ∨ g = 2 by omega) with rfl | rfl | rfl
        · simp [hx]
        · simp [hy]
        · simp [hz]
      · rw [if_neg hj])
    obtain ⟨vM', g1, g2⟩ := buyLM (v0 := vM) (U := U) (H := h) hsh4 hg hp6 hb0 hb1 hm0 hm1 htx y6 yb ym yt hx hy hz hl0 hxyz hh1 hU1 FU 0 st c 0 0 vM (mB_0 ys (by show _ = _ + 0; rw [Int32.add_zero]) (by show _ = _ - 0; rw [Int32.sub_zero]) y5 (by rw [f2, Nat.add_zero])) (by unfold FU; omega) (by omega) (by omega) hs1 hc1
    rw [Nat.sub_zero] at g1 g2
    have bb := buyN_b (b := b) (m := m) (tx := tx) (min U (h - (x + y + z))) st c 0 0 0
    generalize hr : buyN b m tx (min U (h - (x + y + z))) st c 0 0 0 = r at g1 g2 d0 d1 d2 d3 d4 bb
    have pv : v' (71 + sh) = vC (71 + sh) := p2 _ (by omega)
    have pp : v' (25 + p) = vC (25 + p) := p2 _ (by omega)
    simp only [wu_n (show 10 ≠ 37 + (3 * p + g) by omega), wu_n (show 10 ≠ 67 + sh by omega), wu_n (show 10 ≠ 71 + sh by omega), wu_n (show 10 ≠ 25 + p by omega), wu_n (show 71 + sh ≠ 37 + (3 * p + g) by omega), wu_n (show 71 + sh ≠ 67 + sh by omega), wu_n (show 25 + p ≠ 37 + (3 * p + g) by omega), wu_n (show 25 + p ≠ 67 + sh by omega), wu_n (show 25 + p ≠ 71 + sh by omega), d0, d1, d2, d3, d4, pv, pp, wu_j (show 2 ≠ 3 by omega)]
    have hC := cB_s (v0 := vC) (v := v') (sh := sh) (k := 3 * p + g) (p := p) (g := g) (s := nI r.2.1) (c := nI r.2.2.1) (t := vC (25 + p) 2 + nI r.2.2.2.2) (w := vC (25 + p) 3 - nI r.2.2.2.1) (l := vC (71 + sh) g + nI r.1) hk hp6 hsh4 p2
    refine ⟨nI r.1, _, vM', rfl, g1, ?_⟩
    refine deal_Inv i1 i2 i3 i4 i5 i6 i7 hsh hp hg g2 ?_ ⟨r.2.1, by omega, by omega, rfl⟩ ⟨r.2.2.1, by omega, by omega, rfl⟩ ⟨h, hh0, hh1, y6, ?_⟩
    · rw [o2, o3, ycg g hg, f2, nI_add] at hC
      rw [o2, o3, ycg g hg, f2, nI_add]
      exact hC
    · obtain ⟨-, -, -, x', y', z', e1, e2, e3, e4⟩ := cg3 hg rfl hx hy hz hl0 g2.2.2.2.2.2
      exact ⟨x', y', z', by omega, e2, e3, e4⟩
