/-! to buy, to sell: k units at most, from stock s, coins c; u units so far, worth w, taxes t -/
def buyN (b m tx : Nat) : Nat → Nat → Nat → Nat → Nat → Nat → Nat × Nat × Nat × Nat × Nat
  | 0, s, c, u, w, t => (u, s, c, w, t)
  | k + 1, s, c, u, w, t => if s = 0 then (u, s, c, w, t) else if prc b m s + tx ≤ c then buyN b m tx k (s - 1) (c - (prc b m s + tx)) (u + 1) (w + prc b m s) (t + tx) else (u, s, c, w, t)
def sellN (b m tx : Nat) : Nat → Nat → Nat → Nat → Nat → Nat → Nat × Nat × Nat × Nat × Nat
  | 0, s, c, u, w, t => (u, s, c, w, t)
  | k + 1, s, c, u, w, t => if 1000 ≤ s then (u, s, c, w, t) else if c + (prc b m (s + 1) - min tx (prc b m (s + 1))) ≤ 1000000 then sellN b m tx k (s + 1) (c + (prc b m (s + 1) - min tx (prc b m (s + 1)))) (u + 1) (w + prc b m (s + 1)) (t + min tx (prc b m (s + 1))) else (u, s, c, w, t)
/-- the five numbers of a Deal -/
def dealAt (v : VV) (d : Nat) (r : Nat × Nat × Nat × Nat × Nat) : Prop := v d 0 = nI r.1 ∧ v d 1 = nI r.2.1 ∧ v d 2 = nI r.2.2.1 ∧ v d 3 = nI r.2.2.2.1 ∧ v d 4 = nI r.2.2.2.2
theorem purL {d c1 b m tx M : Nat} (hd : c1 ≠ d) (b0 : 1 ≤ b) (b1 : b ≤ 100) (m0 : 1 ≤ m) (m1 : m ≤ 100) (t1 : tx ≤ 20) (M1 : M ≤ 20) : ∀ (n i s c u w t : Nat) (v : VV), v c1 4 = nI b → v c1 5 = nI m → i ≤ M → M - i < n → s ≤ 1000 → c ≤ 1000000 → u ≤ i → w ≤ 200 * i → t ≤ 20 * i → dealAt v d (u, s, c, w, t) → ∃ v', f_X1_purchase_l10 n d c1 (nI tx) (nI M) (nI i) v = some v' ∧ (∀ c', c' ≠ d → v' c' = v c') ∧ dealAt v' d (buyN b m tx (M - i) s c u w t)
  | 0, i, s, c, u, w, t, v, _, _, _, h, _, _, _, _, _, _ => by omega
  | n + 1, i, s, c, u, w, t, v, hb, hm, hi, hn, hs, hc, hu, hw, ht, hD => by
    obtain ⟨d0, d1, d2, d3, d4⟩ := id hD
    have hd' : d ≠ c1 := fun h => hd h.symm
    dsimp only at d0 d1 d2 d3 d4
    by_cases e : i = M
    · subst e
      rw [f_X1_purchase_l10, if_pos (nI_le (Nat.le_refl _) (by omega)), Nat.sub_self]
      exact ⟨v, rfl, fun _ _ => rfl, hD⟩
    · rw [f_X1_purchase_l10, if_neg (nI_ge (by omega) (by omega)), d1, show M - i = (M - (i + 1)) + 1 by omega, buyN]
      by_cases h0 : s = 0
      · subst h0
        rw [if_pos (show nI 0 ≤ 0 by decide), if_pos rfl]
        exact ⟨v, rfl, fun _ _ => rfl, hD⟩
      · rw [if_neg (show ¬ nI s ≤ 0 from nI_ge (a := 0) (by omega) (by omega)), if_neg h0, priceC hb hm b1 m0 m1 (by omega), bi_s, d2]
        have hp := prc_le (m := m) (s := s) b1 b0
        have hp0 := prc_pos (b := b) (m := m) (s := s)
        rw [nI_add]
        by_cases h1 : prc b m s + tx ≤ c
        · rw [if_pos (nI_le h1 (by omega)), if_pos h1]
          simp only [nv]
          rw [pk_sub h1, wu_j (show 1 ≠ 2 by omega), d1]
          have e1 : nI s - 1 = nI (s - 1) := pk_sub (b := 1) (by omega)
          rw [e1]
          unfold F_X1_count f_X1_count
          simp only [nv, Option.bind_some]
          rw [nI_1]
          obtain ⟨v', g1, g2, g3⟩ := purL hd b0 b1 m0 m1 t1 M1 n (i + 1) (s - 1) (c - (prc b m s + tx)) (u + 1) (w + prc b m s) (t + tx) (wu (wu (wu (wu (wu v d 2 (nI (c - (prc b m s + tx)))) d 1 (nI (s - 1))) d 0 (nI (u + 1))) d 3 (nI (w + prc b m s))) d 4 (nI (t + tx))) (by rw [wu_n hd, wu_n hd, wu_n hd, wu_n hd, wu_n hd]; exact hb) (by rw [wu_n hd, wu_n hd, wu_n hd, wu_n hd, wu_n hd]; exact hm) (by omega) (by omega) (by omega) (by omega) (by omega) (by omega) (by omega) (by unfold dealAt; dsimp only; simp only [wu_c]; simp)
          refine ⟨v', ?_, fun c' hc' => ?_, g3⟩
          · have x0 : wu (wu v d 2 (nI (c - (prc b m s + tx)))) d 1 (nI (s - 1)) d 0 + 1 = nI (u + 1) := by
              rw [wu_j (by omega), wu_j (by omega), d0, nI_1]
            rw [x0]
            have x3 : wu (wu (wu v d 2 (nI (c - (prc b m s + tx)))) d 1 (nI (s - 1))) d 0 (nI (u + 1)) d 3 + nI (prc b m s) = nI (w + prc b m s) := by
              rw [wu_j (by omega), wu_j (by omega), wu_j (by omega), d3, nI_add]
            rw [x3]
            have x4 : wu (wu (wu (wu v d 2 (nI (c - (prc b m s + tx)))) d 1 (nI (s - 1))) d 0 (nI (u + 1))) d 3 (nI (w + prc b m s)) d 4 + nI tx = nI (t + tx) := by
              rw [wu_j (by omega), wu_j (by omega), wu_j (by omega), wu_j (by omega), d4, nI_add]
            rw [x4]
            exact g1
          · rw [g2 c' hc', wu_n hc', wu_n hc', wu_n hc', wu_n hc', wu_n hc']
        · rw [if_neg (nI_ge (by omega) (by omega)), if_neg h1]
          exact ⟨v, rfl, fun _ _ => rfl, hD⟩
theorem purE {d c1 b m tx M s c : Nat} {v : VV} (hd : c1 ≠ d) (hb : v c1 4 = nI b) (hm : v c1 5 = nI m) (b0 : 1 ≤ b) (b1 : b ≤ 100) (m0 : 1 ≤ m) (m1 : m ≤ 100) (t1 : tx ≤ 20) (M1 : M ≤ 20) (hs : s ≤ 1000) (hc : c ≤ 1000000) : ∃ v', F_X1_purchase d c1 (nI s) (nI tx) (nI c) (nI M) v = some v' ∧ (∀ c', c' ≠ d → v' c' = v c') ∧ dealAt v' d (buyN b m tx M s c 0 0 0) := by
  unfold F_X1_purchase f_X1_purchase F_X1_begin f_X1_begin
  simp only [nv, Option.bind_some]
  obtain ⟨v', g1, g2, g3⟩ := purL (d := d) (c1 := c1) hd b0 b1 m0 m1 t1 M1 FU 0 s c 0 0 0 (wu (wu (wu (wu (wu v d 0 0) d 1 (nI s)) d 2 (nI c)) d 3 0) d 4 0) (by rw [wu_n hd, wu_n hd, wu_n hd, wu_n hd, wu_n hd]; exact hb) (by rw [wu_n hd, wu_n hd, wu_n hd, wu_n hd, wu_n hd]; exact hm) (by omega) (by unfold FU; omega) hs hc (by omega) (by omega) (by omega) (by unfold dealAt; dsimp only; simp only [wu_c]; simp; rfl)
  refine ⟨v', g1, fun c' hc' => ?_, g3⟩
  rw [g2 c' hc', wu_n hc', wu_n hc', wu_n hc', wu_n hc', wu_n hc']
theorem minI {x y : Nat} (hx : x < 2 ^ 31) (hy : y < 2 ^ 31) : (if nI x < nI y then nI x else nI y) = nI (min y x) := by
  by_cases h : x < y
  · rw [if_pos (nI_lt h hy), Nat.min_eq_right (by omega)]
  · rw [if_neg (nI_nlt (by omega) hx), Nat.min_eq_left (by omega)]
theorem salL {d c1 b m tx M : Nat} (hd : c1 ≠ d) (b0 : 1 ≤ b) (b1 : b ≤ 100) (m0 : 1 ≤ m) (m1 : m ≤ 100) (t1 : tx ≤ 20) (M1 : M ≤ 20) : ∀ (n i s c u w t : Nat) (v : VV), v c1 4 = nI b → v c1 5 = nI m → i ≤ M → M - i < n → s ≤ 1000 → c ≤ 1000000 → u ≤ i → w ≤ 200 * i → t ≤ 20 * i → dealAt v d (u, s, c, w, t) → ∃ v', f_X1_sale_l10 n d c1 (nI tx) (nI M) (nI i) v = some v' ∧ (∀ c', c' ≠ d → v' c' = v c') ∧ dealAt v' d (sellN b m tx (M - i) s c u w t)
  | 0, i, s, c, u, w, t, v, _, _, _, h, _, _, _, _, _, _ => by omega
  | n + 1, i, s, c, u, w, t, v, hb, hm, hi, hn, hs, hc, hu, hw, ht, hD => by
    obtain ⟨d0, d1, d2, d3, d4⟩ := id hD
    dsimp only at d0 d1 d2 d3 d4
    by_cases e : i = M
    · subst e
      rw [f_X1_sale_l10, if_pos (nI_le (Nat.le_refl _) (by omega)), Nat.sub_self]
      exact ⟨v, rfl, fun _ _ => rfl, hD⟩
    · rw [f_X1_sale_l10, if_neg (nI_ge (by omega) (by omega)), d1, show M - i = (M - (i + 1)) + 1 by omega, sellN]
      by_cases h0 : 1000 ≤ s
      · rw [if_pos (show (1000 : Int32) ≤ nI s from nI_le (a := 1000) h0 (by omega)), if_pos h0]
        exact ⟨v, rfl, fun _ _ => rfl, hD⟩
      · rw [if_neg (show ¬ (1000 : Int32) ≤ nI s from nI_ge (b := 1000) (by omega) (by omega)), if_neg h0, nI_1, priceC hb hm b1 m0 m1 (by omega), bi_s]
        have hp := prc_le (m := m) (s := s + 1) b1 b0
        have hp0 := prc_pos (b := b) (m := m) (s := s + 1)
        simp only [nv]
        rw [minI (by omega) (by omega), d2]
        have hk : min tx (prc b m (s + 1)) ≤ prc b m (s + 1) := Nat.min_le_right _ _
        have hk2 : min tx (prc b m (s + 1)) ≤ tx := Nat.min_le_left _ _
        generalize hkp : min tx (prc b m (s + 1)) = kp at hk hk2 ⊢
        have x9 : nI c + nI (prc b m (s + 1)) - nI kp = nI (c + (prc b m (s + 1) - kp)) := by
          rw [nI_add, pk_sub (by omega), show c + prc b m (s + 1) - kp = c + (prc b m (s + 1) - kp) by omega]
        have x8 : nI c + (nI (prc b m (s + 1)) - nI kp) = nI (c + (prc b m (s + 1) - kp)) := by
          rw [pk_sub hk, nI_add]
        rw [x9, x8]
        by_cases h1 : c + (prc b m (s + 1) - kp) ≤ 1000000
        · rw [if_pos (show nI (c + (prc b m (s + 1) - kp)) ≤ 1000000 from nI_le (b := 1000000) h1 (by omega)), if_pos h1]
          rw [wu_j (show 1 ≠ 2 by omega), d1]
          rw [nI_1]
          unfold F_X1_count f_X1_count
          simp only [nv, Option.bind_some]
          rw [nI_1]
          obtain ⟨v', g1, g2, g3⟩ := salL hd b0 b1 m0 m1 t1 M1 n (i + 1) (s + 1) (c + (prc b m (s + 1) - kp)) (u + 1) (w + prc b m (s + 1)) (t + kp) (wu (wu (wu (wu (wu v d 2 (nI (c + (prc b m (s + 1) - kp)))) d 1 (nI (s + 1))) d 0 (nI (u + 1))) d 3 (nI (w + prc b m (s + 1)))) d 4 (nI (t + kp))) (by rw [wu_n hd, wu_n hd, wu_n hd, wu_n hd, wu_n hd]; exact hb) (by rw [wu_n hd, wu_n hd, wu_n hd, wu_n hd, wu_n hd]; exact hm) (by omega) (by omega) (by omega) (by omega) (by omega) (by omega) (by omega) (by unfold dealAt; dsimp only; simp only [wu_c]; simp)
          refine ⟨v', ?_, fun c' hc' => ?_, g3⟩
          · have x0 : wu (wu v d 2 (nI (c + (prc b m (s + 1) - kp)))) d 1 (nI (s + 1)) d 0 + 1 = nI (u + 1) := by
              rw [wu_j (by omega), wu_j (by omega), d0, nI_1]
            rw [x0]
            have x3 : wu (wu (wu v d 2 (nI (c + (prc b m (s + 1) - kp)))) d 1 (nI (s + 1))) d 0 (nI (u + 1)) d 3 + nI (prc b m (s + 1)) = nI (w + prc b m (s + 1)) := by
              rw [wu_j (by omega), wu_j (by omega), wu_j (by omega), d3, nI_add]
            rw [x3]
            have x4 : wu (wu (wu (wu v d 2 (nI (c + (prc b m (s + 1) - kp)))) d 1 (nI (s + 1))) d 0 (nI (u + 1))) d 3 (nI (w + prc b m (s + 1))) d 4 + nI kp = nI (t + kp) := by
              rw [wu_j (by omega), wu_j (by omega), wu_j (by omega), wu_j (by omega), d4, nI_add]
            rw [x4]
            exact g1
          · rw [g2 c' hc', wu_n hc', wu_n hc', wu_n hc', wu_n hc', wu_n hc']
        · rw [if_neg (show ¬ nI (c + (prc b m (s + 1) - kp)) ≤ 1000000 from nI_ge (a := 1000000) (by omega) (by omega)), if_neg h1]
          exact ⟨v, rfl, fun _ _ => rfl, hD⟩
theorem salE {d c1 b m tx M s c : Nat} {v : VV} (hd : c1 ≠ d) (hb : v c1 4 = nI b) (hm : v c1 5 = nI m) (b0 : 1 ≤ b) (b1 : b ≤ 100) (m0 : 1 ≤ m) (m1 : m ≤ 100) (t1 : tx ≤ 20) (M1 : M ≤ 20) (hs : s ≤ 1000) (hc : c ≤ 1000000) : ∃ v', F_X1_sale d c1 (nI s) (nI tx) (nI c) (nI M) v = some v' ∧ (∀ c', c' ≠ d → v' c' = v c') ∧ dealAt v' d (sellN b m tx M s c 0 0 0) := by
  unfold F_X1_sale f_X1_sale F_X1_begin f_X1_begin
  simp only [nv, Option.bind_some]
  obtain ⟨v', g1, g2, g3⟩ := salL (d := d) (c1 := c1) hd b0 b1 m0 m1 t1 M1 FU 0 s c 0 0 0 (wu (wu (wu (wu (wu v d 0 0) d 1 (nI s)) d 2 (nI c)) d 3 0) d 4 0) (by rw [wu_n hd, wu_n hd, wu_n hd, wu_n hd, wu_n hd]; exact hb) (by rw [wu_n hd, wu_n hd, wu_n hd, wu_n hd, wu_n hd]; exact hm) (by omega) (by unfold FU; omega) hs hc (by omega) (by omega) (by omega) (by unfold dealAt; dsimp only; simp only [wu_c]; simp; rfl)
  refine ⟨v', g1, fun c' hc' => ?_, g3⟩
  rw [g2 c' hc', wu_n hc', wu_n hc', wu_n hc', wu_n hc', wu_n hc']
/-- bounds of what is bought, sold -/
theorem buyN_b {b m tx : Nat} : ∀ (k s c u w t : Nat), (buyN b m tx k s c u w t).1 ≤ u + k ∧ u ≤ (buyN b m tx k s c u w t).1 ∧ (buyN b m tx k s c u w t).2.1 ≤ s ∧ (buyN b m tx k s c u w t).2.1 + (buyN b m tx k s c u w t).1 = s + u ∧ (buyN b m tx k s c u w t).2.2.1 ≤ c
  | 0, s, c, u, w, t => by simp [buyN]
  | k + 1, s, c, u, w, t => by
    rw [buyN]
    split
    · dsimp only; omega
    · split
      · have := buyN_b (b := b) (m := m) (tx := tx) k (s - 1) (c - (prc b m s + tx)) (u + 1) (w + prc b m s) (t + tx)
        omega
      · dsimp only; omega
theorem sellN_b {b m tx : Nat} : ∀ (k s c u w t : Nat), s ≤ 1000 → c ≤ 1000000 → (sellN b m tx k s c u w t).1 ≤ u + k ∧ u ≤ (sellN b m tx k s c u w t).1 ∧ (sellN b m tx k s c u w t).2.1 ≤ 1000 ∧ (sellN b m tx k s c u w t).2.1 + u = s + (sellN b m tx k s c u w t).1 ∧ (sellN b m tx k s c u w t).2.2.1 ≤ 1000000
  | 0, s, c, u, w, t, hs, hc => by rw [sellN]; dsimp only; omega
  | k + 1, s, c, u, w, t, hs, hc => by
    rw [sellN]
    split
    · dsimp only; omega
    · split
      · have := sellN_b (b := b) (m := m) (tx := tx) k (s + 1) (c + (prc b m (s + 1) - min tx (prc b m (s + 1)))) (u + 1) (w + prc b m (s + 1)) (t + min tx (prc b m (s + 1))) (by omega) (by assumption)
        omega
      · dsimp only; omega
