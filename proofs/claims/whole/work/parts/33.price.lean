/-- the price: of base b, ideal m, stock s -/
def prc (b m s : Nat) : Nat := if 1 < b * (2 * m - s) / m then b * (2 * m - s) / m else 1
theorem prc_le {b m s : Nat} (hb : b ≤ 100) (hb1 : 1 ≤ b) : prc b m s ≤ 200 := by
  unfold prc
  split
  · have h1 : b * (2 * m - s) ≤ b * (2 * m) := Nat.mul_le_mul_left _ (Nat.sub_le _ _)
    by_cases hm : m = 0
    · subst hm; simp
    · have h2 : b * (2 * m - s) / m ≤ b * (2 * m) / m := Nat.div_le_div_right h1
      have h3 : b * (2 * m) / m = 2 * b := by
        rw [show b * (2 * m) = (2 * b) * m by rw [Nat.mul_comm 2 m, ← Nat.mul_assoc, Nat.mul_comm 2 b, Nat.mul_assoc b 2 m, Nat.mul_comm 2 m, Nat.mul_assoc]]
        exact Nat.mul_div_cancel _ (by omega)
      omega
  · omega
theorem prc_pos {b m s : Nat} : 1 ≤ prc b m s := by
  unfold prc
  split <;> omega
theorem mul_b {b m s : Nat} (hb : b ≤ 100) (hm : m ≤ 100) : b * (2 * m - s) ≤ 20000 := by
  have : b * (2 * m - s) ≤ 100 * 200 := Nat.mul_le_mul hb (by omega)
  omega
theorem priceC {c b m s : Nat} {v : VV} (hb : v c 4 = nI b) (hm : v c 5 = nI m) (b1 : b ≤ 100) (m0 : 1 ≤ m) (m1 : m ≤ 100) (s1 : s ≤ 2000) : F_X6_priceAt c (nI s) v = some (nI (prc b m s), v) := by
  unfold F_X6_priceAt f_X6_priceAt
  rw [hb, hm, if_pos (show (1 : Int32) ≤ nI m from nI_le (a := 1) (by omega) (by omega))]
  have e2 : (2 : Int32) * nI m = nI (2 * m) := pk_mul 2 m
  have hbm := mul_b (s := s) b1 m1
  have hx : (if 0 < (2 : Int32) * nI m - nI s then (2 : Int32) * nI m - nI s else 0) = nI (2 * m - s) := by
    rw [e2]
    by_cases h : s ≤ 2 * m
    · rw [pk_sub h]
      by_cases h0 : 2 * m - s = 0
      · rw [h0]; decide
      · rw [if_pos (show (0 : Int32) < nI (2 * m - s) from nI_lt (a := 0) (by omega) (by omega))]
    · have hn : nI (2 * m) - nI s < 0 := pk_sneg (by omega) (by omega)
      rw [if_neg (fun h9 => by rw [Int32.lt_iff_toInt_lt] at h9 hn; omega), show 2 * m - s = 0 by omega]
      rfl
  simp only [nv, hx]
  rw [gd_t (show ¬ nI m = 0 from fun h => by have := nI_inj (b := 0) (by omega) (by omega) h; omega)]
  rw [pk_mul, pk_div (by omega) (by omega) (by omega)]
  unfold prc
  by_cases h : 1 < b * (2 * m - s) / m
  · have hd : b * (2 * m - s) / m ≤ b * (2 * m - s) := Nat.div_le_self _ _
    rw [if_pos h, if_pos (show (1 : Int32) < nI (b * (2 * m - s) / m) from nI_lt (a := 1) h (by omega))]
  · have hd : b * (2 * m - s) / m ≤ b * (2 * m - s) := Nat.div_le_self _ _
    rw [if_neg h, if_neg (show ¬ (1 : Int32) < nI (b * (2 * m - s) / m) from nI_nlt (a := 1) (by omega) (by omega))]
    rfl
theorem priceM {k b m s : Nat} {v : VV} (hk : k < 18) (hb : v 4 k = nI b) (hm : v 5 k = nI m) (b1 : b ≤ 100) (m0 : 1 ≤ m) (m1 : m ≤ 100) (s1 : s ≤ 2000) : F_X11_priceWith 0 (nI k) (nI s) v = some (nI (prc b m s), v) := by
  unfold F_X11_priceWith f_X11_priceWith f_X11_priceWith_b34
  have tk : (nI k).toNatClampNeg = k := tn (by omega)
  have ik : inB (nI k) 18 = true := inB_n (by omega) (by omega)
  have e2 : (2 : Int32) * nI m = nI (2 * m) := pk_mul 2 m
  have hbm := mul_b (s := s) b1 m1
  have hd : b * (2 * m - s) / m ≤ b * (2 * m - s) := Nat.div_le_self _ _
  simp only [nv, rfM6, rfM7, tk, lnMs (show 1 ≤ 4 by omega) (by omega), lnMs (show 1 ≤ 5 by omega) (by omega), gd_t ik, hb, hm, e2]
  unfold prc
  by_cases h : s ≤ 2 * m
  · rw [pk_sub h, if_pos (show (0 : Int32) ≤ nI (2 * m - s) from nI_le (a := 0) (by omega) (by omega)), gd_t (show ¬ nI m = 0 from fun h => by have := nI_inj (b := 0) (by omega) (by omega) h; omega), pk_mul, pk_div (by omega) (by omega) (by omega)]
    by_cases h1 : 1 < b * (2 * m - s) / m
    · rw [if_pos h1, if_pos (show (1 : Int32) ≤ nI (b * (2 * m - s) / m) from nI_le (a := 1) (by omega) (by omega))]
    · rw [if_neg h1]
      by_cases h2 : b * (2 * m - s) / m = 1
      · rw [h2, if_pos (by decide)]
      · rw [if_neg (show ¬ (1 : Int32) ≤ nI (b * (2 * m - s) / m) from nI_ge (b := 1) (by omega) (by omega))]
        rfl
  · have hn : nI (2 * m) - nI s < 0 := pk_sneg (by omega) (by omega)
    rw [if_neg (fun h9 => by rw [Int32.lt_iff_toInt_lt] at hn; rw [Int32.le_iff_toInt_le] at h9; omega), if_neg (show ¬ (1 : Int32) ≤ 0 by decide), show 2 * m - s = 0 by omega]
    simp
    rfl
/-- a change of one number of a shelf -/
theorem iSh_u {P k j : Nat} {x : Int32} {vC vM : VV} (h : iSh P vC vM) (hk : k < 3 * P) (hk18 : k < 18) (hj : 1 ≤ j ∧ j ≤ 6) (h1 : j = 1 → bnd x 0 1000) (h2 : j = 2 → bnd x 0 50) (h3 : j = 3 → bnd x 0 50) (h4 : j = 4 → bnd x 1 100) (h5 : j = 5 → bnd x 1 100) : iSh P (wu vC (37 + k) j x) (wu vM j k x) := by
  intro k' hk'
  have hh := h k' hk'
  by_cases e : k' = k
  · subst e
    obtain ⟨q1, q2, q3, q4, q5, q6, q7, q8, q9, q10⟩ := hh
    have q6 := q6 hk
    obtain ⟨y1, y2, y3, y4⟩ := q6
    rcases (show j = 1 ∨ j = 2 ∨ j = 3 ∨ j = 4 ∨ j = 5 ∨ j = 6 by omega) with rfl | rfl | rfl | rfl | rfl | rfl <;> simp only [wu_g] <;> simp
    · exact ⟨q1, q3, q4, q5, fun _ => ⟨y1, y2, y3, y4⟩, fun h => absurd h (by omega), h1 rfl, q9, q10⟩
    · exact ⟨q1, q2, q4, q5, fun _ => ⟨y1, y2, y3, y4⟩, fun h => absurd h (by omega), q8, h2 rfl, q10⟩
    · exact ⟨q1, q2, q3, q5, fun _ => ⟨y1, y2, y3, y4⟩, fun h => absurd h (by omega), q8, q9, h3 rfl⟩
    · exact ⟨q1, q2, q3, q4, q5, fun _ => ⟨y2, h4 rfl, y4⟩, fun h => absurd h (by omega), q8, q9, q10⟩
    · exact ⟨q1, q2, q3, q4, q5, fun _ => ⟨y1, y3, h5 rfl⟩, fun h => absurd h (by omega), q8, q9, q10⟩
    · exact ⟨q1, q2, q3, q4, fun _ => ⟨y1, y2, y3, y4⟩, fun h => absurd h (by omega), q8, q9, q10⟩
  · have ec : ∀ j', wu vM j k x j' k' = vM j' k' := by
      intro j'
      rw [wu_g, if_neg (by omega)]
    rw [wu_n (show 37 + k' ≠ 37 + k by omega)]
    simp only [ec]
    exact hh
theorem st_about : Step_about Inv := by
  intro vC vM hI a0 a1 a2
  obtain ⟨P, T, F, S, E, i1, i2, i3, i4, i5, i6, i7⟩ := id hI
  have hP6 := i1.1.2.2
  unfold F_X10_about f_X10_about F_X11_about f_X11_about
  rcases isP i1 a0 with ⟨p, hp, rfl, e1, e2⟩ | ⟨-, e1, e2⟩
  · rw [e1, e2, bi_s, bi_s, if_neg n10, if_neg n10]
    rcases isG vC vM a1 with ⟨g, hg, rfl, e1, e2⟩ | ⟨-, e1, e2⟩
    · rw [e1, e2, bi_s, bi_s, if_neg n10, if_neg n10]
      have hk : 3 * p + g < 18 := by omega
      obtain ⟨q1, q2, q3, q4, q5, q6, q7, q8, q9, q10⟩ := i2 (3 * p + g) hk
      obtain ⟨y1, y2, ⟨b, hb0, hb1, yb⟩, ⟨m, hm0, hm1, ym⟩⟩ := q6 (by omega)
      obtain ⟨st, hs0, hs1, ys⟩ := q8
      have tk : (nI (3 * p + g)).toNatClampNeg = 3 * p + g := tn (by omega)
      have ik : inB (nI (3 * p + g)) 18 = true := inB_n (by omega) (by omega)
      simp only [nv, k3]
      have hin : ∀ x lo hi : Int64, ¬ lg_cmp x lo < 0 → ¬ 0 < lg_cmp x hi → F_X11_in x lo hi vM = some (1, vM) := fun x lo hi h1 h2 => by unfold F_X11_in f_X11_in; rw [if_neg h1, if_neg h2]
      have hin0 : ∀ x lo hi : Int64, ¬ lg_cmp x lo < 0 → 0 < lg_cmp x hi → F_X11_in x lo hi vM = some (0, vM) := fun x lo hi h1 h2 => by unfold F_X11_in f_X11_in; rw [if_neg h1, if_pos h2]
      rcases win a2 0 6 0 6 (by decide) (by decide) vC vM with ⟨h1, h2, e3, -⟩ | ⟨hn, e3, -⟩
      · rw [e3, bi_s, if_neg n10, rfC00, shelfE (by omega) hg, bi_s]
        obtain ⟨w, hw0, hw1, rfl⟩ := bnd_of (lo := 0) (hi := 6) (by decide) h1 h2 (by decide)
        unfold F_X6_number f_X6_number F_X11_of f_X11_of
        simp only [rfM3, rfM4, rfM5, rfM6, rfM7, rfM8, tk, lnMs (show 1 ≤ 1 by omega) (by omega), lnMs (show 1 ≤ 2 by omega) (by omega), lnMs (show 1 ≤ 3 by omega) (by omega), lnMs (show 1 ≤ 4 by omega) (by omega), lnMs (show 1 ≤ 5 by omega) (by omega), lnMs (show 1 ≤ 6 by omega) (by omega), gd_t ik]
        rcases (show w = 0 ∨ w = 1 ∨ w = 2 ∨ w = 3 ∨ w = 4 ∨ w = 5 ∨ w = 6 by omega) with rfl | rfl | rfl | rfl | rfl | rfl | rfl
        · rw [hin _ _ _ (by decide) (by decide), bi_s, if_neg n10]
          exact ⟨vM 1 (3 * p + g), vC, vM, by rw [if_pos (by decide), bi_s, q2], rfl, hI⟩
        · rw [hin _ _ _ (by decide) (by decide), bi_s, if_neg n10]
          exact ⟨vM 2 (3 * p + g), vC, vM, by rw [if_neg (by decide), if_pos (by decide), bi_s, q3], rfl, hI⟩
        · rw [hin _ _ _ (by decide) (by decide), bi_s, if_neg n10]
          exact ⟨vM 3 (3 * p + g), vC, vM, by rw [if_neg (by decide), if_neg (by decide), if_pos (by decide), bi_s, q4], rfl, hI⟩
        · rw [hin _ _ _ (by decide) (by decide), bi_s, if_neg n10]
          exact ⟨vM 4 (3 * p + g), vC, vM, by rw [if_neg (by decide), if_neg (by decide), if_neg (by decide), if_pos (by decide), bi_s, y1], rfl, hI⟩
        · rw [hin _ _ _ (by decide) (by decide), bi_s, if_neg n10]
          exact ⟨vM 5 (3 * p + g), vC, vM, by rw [if_neg (by decide), if_neg (by decide), if_neg (by decide), if_neg (by decide), if_pos (by decide), bi_s, y2], rfl, hI⟩
        · rw [hin0 _ _ _ (by decide) (by decide), bi_s, if_pos z00]
          refine ⟨nI (prc b m st), vC, vM, ?_, ?_, hI⟩
          · rw [if_neg (by decide), if_neg (by decide), if_neg (by decide), if_neg (by decide), if_neg (by decide), if_pos (by decide), q2, ys, priceC (y1.trans yb) (y2.trans ym) hb1 hm0 hm1 (by omega)]
            rfl
          · rw [if_pos (by decide), ys, priceM hk yb ym hb1 hm0 hm1 (by omega)]
            rfl
        · rw [hin0 _ _ _ (by decide) (by decide), bi_s, if_pos z00]
          refine ⟨vM 6 (3 * p + g), vC, vM, ?_, ?_, hI⟩
          · rw [if_neg (by decide), if_neg (by decide), if_neg (by decide), if_neg (by decide), if_neg (by decide), if_neg (by decide), bi_s, q5]
          · rw [if_neg (by decide), if_pos (by decide)]
      · rw [e3, bi_s, if_pos z00]
        have h5 : ¬ a2 = 5 := fun h => hn (by rw [h]; decide)
        have h6 : ¬ a2 = 6 := fun h => hn (by rw [h]; decide)
        rcases win a2 0 4 0 4 (by decide) (by decide) vC vM with ⟨h1, h2, -, e4⟩ | ⟨-, -, e4⟩
        · exfalso
          apply hn
          rw [Int32.le_iff_toInt_le] at h1 h2 ⊢
          rw [Int32.le_iff_toInt_le]
          have : (4 : Int32).toInt = 4 := by decide
          have : (6 : Int32).toInt = 6 := by decide
          omega
        · rw [e4, bi_s, if_pos z00, if_neg h5, if_neg h6]
          exact ⟨_, _, _, rfl, rfl, hI⟩
    · rw [e1, e2, bi_s, bi_s, if_pos z00, if_pos z00]
      exact ⟨_, _, _, rfl, rfl, hI⟩
  · rw [e1, e2, bi_s, bi_s, if_pos z00, if_pos z00]
    exact ⟨_, _, _, rfl, rfl, hI⟩
