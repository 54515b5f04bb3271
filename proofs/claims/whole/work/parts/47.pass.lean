/-- the class when the first i shelves have gone through their ticks -/
def cTi (v0 v : VV) (R : Nat → Nat × Int32 × Int32 × Int32 × Int32) (i : Nat) : Prop := (∀ c, c ≠ 0 → c ≠ 9 → c < 37 ∨ 55 ≤ c → v c = v0 c) ∧ (∀ j, j ≠ 3 → j ≠ 4 → j ≠ 5 → v 0 j = v0 0 j) ∧ (∀ k, k < 18 → i ≤ k → v (37 + k) = v0 (37 + k)) ∧ (∀ k, k < 18 → k < i → ∀ j, v (37 + k) j = if j = 1 then nI (R k).1 else if j = 6 then v0 (37 + k) 6 + (R k).2.2.2.2 else v0 (37 + k) j) ∧ v 0 3 = v0 0 3 + sm (fun k => (R k).2.1) i ∧ v 0 4 = v0 0 4 + sm (fun k => (R k).2.2.1) i ∧ v 0 5 = v0 0 5 + sm (fun k => (R k).2.2.2.1) i
theorem cT_0 {v0 : VV} {R : Nat → Nat × Int32 × Int32 × Int32 × Int32} : cTi v0 v0 R 0 := ⟨fun _ _ _ _ => rfl, fun _ _ _ _ => rfl, fun _ _ _ => rfl, fun _ _ h => by omega, by rw [sm, Int32.add_zero], by rw [sm, Int32.add_zero], by rw [sm, Int32.add_zero]⟩
theorem passOf {T N E k : Nat} {v0 v : VV} {s mk us : Nat → Nat} {R : Nat → Nat × Int32 × Int32 × Int32 × Int32} (hR : R = fun k => fl (fun t => Bk (v0 5) (v0 6) (v0 7) k t E) (mk k) (us k) T (s k) N) (hT : v0 1 4 = nI T) (hE : v0 4 3 = nI E) (E20 : E ≤ 20) (hs : ∀ k, k < 18 → v0 (37 + k) 1 = nI (s k) ∧ s k ≤ 1000) (h0 : ∀ k, k < 18 → v0 (37 + k) 0 = nI k) (hm : ∀ k, k < 18 → v0 (37 + k) 2 = nI (mk k) ∧ mk k ≤ 50) (hu : ∀ k, k < 18 → v0 (37 + k) 3 = nI (us k) ∧ us k ≤ 50) (hb : ∀ i, i < E → -1000 ≤ v0 7 i ∧ v0 7 i ≤ 1000) (hsort : ∀ i j, i ≤ j → j < E → v0 5 i ≤ v0 5 j) (hTN : T + N ≤ 2000) (hk : k < 18) (h : cTi v0 v R k) : ∃ v', F_X10_passTicksOf 0 (37 + k) (nI N) v = some v' ∧ cTi v0 v' R (k + 1) := by
  obtain ⟨c1, c2, c3, c4, c5, c6, c7⟩ := h
  have e5 := c1 5 (by omega) (by omega) (by omega)
  have e6 := c1 6 (by omega) (by omega) (by omega)
  have e7 := c1 7 (by omega) (by omega) (by omega)
  have e37 := c3 k hk (Nat.le_refl _)
  unfold F_X10_passTicksOf f_X10_passTicksOf
  rw [rfC00, rfC08, rfC12, c1 1 (by omega) (by omega) (by omega), hT, e37, (hs k hk).1, nI_add]
  obtain ⟨w, p1, p2, p3⟩ := followE (d := 9) (c1 := 37 + k) (k := k) (E := E) (T := T) (N := N) (s0 := s k) (mk := mk k) (us := us k) (v := v) (by omega) (by omega) (by omega) (by omega) (by omega) E20 (by rw [c1 4 (by omega) (by omega) (by omega), hE]) (by rw [e7]; exact hb) (by rw [e5]; exact hsort) (hs k hk).2 (hm k hk).2 (hu k hk).2 hTN (by rw [e37, h0 k hk]) (by rw [e37, (hm k hk).1]) (by rw [e37, (hu k hk).1])
  rw [p1, Option.bind_some]
  rw [e5, e6, e7] at p3
  have hRk : fl (fun t => Bk (v0 5) (v0 6) (v0 7) k t E) (mk k) (us k) T (s k) N = R k := by rw [hR]
  rw [hRk] at p3
  obtain ⟨d0, d1, d2, d3, d4, -⟩ := p3
  have w0 := p2 0 (by omega)
  have wk := p2 (37 + k) (by omega)
  simp only [nv]
  simp only [wu_n (show 9 ≠ 37 + k by omega), wu_n (show 9 ≠ 0 by omega), wu_n (show 0 ≠ 37 + k by omega), wu_j (show 6 ≠ 1 by omega), wu_j (show 4 ≠ 3 by omega), wu_j (show 5 ≠ 4 by omega), wu_j (show 5 ≠ 3 by omega), d0, d1, d2, d3, d4, w0, wk, e37, c5, c6, c7, i_assoc]
  refine ⟨_, rfl, fun c a0 a9 ac => ?_, fun j a3 a4 a5 => ?_, fun k' hk' hle => ?_, fun k' hk' hlt j => ?_, ?_, ?_, ?_⟩
  · rw [wu_n a0, wu_n a0, wu_n a0, wu_n (by omega), wu_n (by omega), p2 c a9, c1 c a0 a9 ac]
  · rw [wu_j a5, wu_j a4, wu_j a3, wu_n (by omega), wu_n (by omega), w0, c2 j a3 a4 a5]
  · rw [wu_n (by omega), wu_n (by omega), wu_n (by omega), wu_n (by omega), wu_n (by omega), p2 _ (by omega), c3 k' hk' (by omega)]
  · rw [wu_n (by omega), wu_n (by omega), wu_n (by omega)]
    by_cases e : k' = k
    · subst e
      rw [wu_c, wu_c, wk, e37]
      by_cases j6 : j = 6
      · rw [if_pos j6, if_neg (by omega), if_pos j6]
      · rw [if_neg j6, if_neg j6]
    · rw [wu_n (by omega), wu_n (by omega), p2 _ (by omega), c4 k' hk' (by omega)]
  · rw [wu_j (by omega), wu_j (by omega), wu_s, sm]
  · rw [wu_j (by omega), wu_s, sm]
  · rw [wu_s, sm]
theorem passG {T N E p : Nat} {v0 : VV} {s mk us : Nat → Nat} {R : Nat → Nat × Int32 × Int32 × Int32 × Int32} {K : Nat → Int32 → Int32 → VV → Option VV} (hR : R = fun k => fl (fun t => Bk (v0 5) (v0 6) (v0 7) k t E) (mk k) (us k) T (s k) N) (hT : v0 1 4 = nI T) (hE : v0 4 3 = nI E) (E20 : E ≤ 20) (hs : ∀ k, k < 18 → v0 (37 + k) 1 = nI (s k) ∧ s k ≤ 1000) (h0 : ∀ k, k < 18 → v0 (37 + k) 0 = nI k) (hm : ∀ k, k < 18 → v0 (37 + k) 2 = nI (mk k) ∧ mk k ≤ 50) (hu : ∀ k, k < 18 → v0 (37 + k) 3 = nI (us k) ∧ us k ≤ 50) (hb : ∀ i, i < E → -1000 ≤ v0 7 i ∧ v0 7 i ≤ 1000) (hsort : ∀ i j, i ≤ j → j < E → v0 5 i ≤ v0 5 j) (hTN : T + N ≤ 2000) (hp : p < 6) : ∀ (n g : Nat) (v : VV), g ≤ 3 → 3 - g < n → cTi v0 v R (3 * p + g) → ∃ v', f_X10_passTicks_l15 K n 0 (nI N) (nI p) (nI g) v = K 0 (nI N) (nI p) v' ∧ cTi v0 v' R (3 * p + 3)
  | 0, g, v, _, h, _ => by omega
  | n + 1, g, v, hg, hn, h => by
    rw [f_X10_passTicks_l15]
    by_cases e : g = 3
    · subst e
      rw [if_pos (show (3 : Int32) ≤ nI 3 by decide)]
      exact ⟨v, rfl, h⟩
    · rw [if_neg (show ¬ (3 : Int32) ≤ nI g from nI_ge (b := 3) (by omega) (by omega)), rfC00, shelfE hp (by omega), bi_s]
      obtain ⟨w, w1, w2⟩ := passOf hR hT hE E20 hs h0 hm hu hb hsort hTN (show 3 * p + g < 18 by omega) h
      rw [w1, Option.bind_some, nI_1, nv_r]
      exact passG hR hT hE E20 hs h0 hm hu hb hsort hTN hp n (g + 1) w (by omega) (by omega) w2
theorem passP {T N E P : Nat} {v0 : VV} {s mk us : Nat → Nat} {R : Nat → Nat × Int32 × Int32 × Int32 × Int32} {K : Nat → Int32 → VV → Option VV} (hR : R = fun k => fl (fun t => Bk (v0 5) (v0 6) (v0 7) k t E) (mk k) (us k) T (s k) N) (hT : v0 1 4 = nI T) (hE : v0 4 3 = nI E) (E20 : E ≤ 20) (hs : ∀ k, k < 18 → v0 (37 + k) 1 = nI (s k) ∧ s k ≤ 1000) (h0 : ∀ k, k < 18 → v0 (37 + k) 0 = nI k) (hm : ∀ k, k < 18 → v0 (37 + k) 2 = nI (mk k) ∧ mk k ≤ 50) (hu : ∀ k, k < 18 → v0 (37 + k) 3 = nI (us k) ∧ us k ≤ 50) (hb : ∀ i, i < E → -1000 ≤ v0 7 i ∧ v0 7 i ≤ 1000) (hsort : ∀ i j, i ≤ j → j < E → v0 5 i ≤ v0 5 j) (hTN : T + N ≤ 2000) (hP : v0 1 3 = nI P) (hP6 : P ≤ 6) : ∀ (n p : Nat) (v : VV), p ≤ P → P - p < n → cTi v0 v R (3 * p) → ∃ v', f_X10_passTicks_l2 K n 0 (nI N) (nI p) v = K 0 (nI N) v' ∧ cTi v0 v' R (3 * P)
  | 0, p, v, _, h, _ => by omega
  | n + 1, p, v, hp, hn, h => by
    rw [f_X10_passTicks_l2, rfC00, h.1 1 (by omega) (by omega) (by omega), hP]
    by_cases e : p = P
    · subst e
      rw [if_pos (nI_le (Nat.le_refl _) (by omega))]
      exact ⟨v, rfl, h⟩
    · rw [if_neg (nI_ge (by omega) (by omega))]
      obtain ⟨w, w1, w2⟩ := passG (K := fun c0_10 i1_10 i2_10 v_10 =>
        nv (i2_10 + 1) fun x11 =>
        f_X10_passTicks_l2 K n c0_10 i1_10 x11 v_10) hR hT hE E20 hs h0 hm hu hb hsort hTN (show p < 6 by omega) FU 0 v (by omega) (by unfold FU; omega) h
      rw [nI_0] at w1
      rw [w1, nv_r, nI_1]
      exact passP hR hT hE E20 hs h0 hm hu hb hsort hTN hP hP6 n (p + 1) w (by omega) (by omega) w2
/-! the calendar lets go of what is over -/
theorem dropA {E : Nat} {x : Int32} {v : VV} {K : Nat → Int32 → VV → Option VV} (hE : v 4 3 = nI E) (E20 : E ≤ 20) : ∀ (n o : Nat), o ≤ E → E - o < n → (∀ i, i < o → v 5 i < x) → ∃ o', f_X0_dropBefore_l2 K n 4 x (nI o) v = K 4 (nI o') v ∧ o' ≤ E ∧ (∀ i, i < o' → v 5 i < x) ∧ (o' = E ∨ x ≤ v 5 o')
  | 0, o, _, h, _ => by omega
  | n + 1, o, ho, hn, hl => by
    rw [f_X0_dropBefore_l2, hE]
    by_cases e : o = E
    · subst e
      rw [if_pos (nI_le (Nat.le_refl _) (by omega))]
      exact ⟨o, rfl, ho, hl, Or.inl rfl⟩
    · have te : (nI o).toNatClampNeg = o := tn (by omega)
      have ie : inB (nI o) 20 = true := inB_n (by omega) (by omega)
      rw [if_neg (nI_ge (by omega) (by omega))]
      simp only [rfC40, lnC5, gd_t ie, te]
      by_cases hx : x ≤ v 5 o
      · rw [if_pos hx]
        exact ⟨o, rfl, ho, hl, Or.inr hx⟩
      · rw [if_neg hx, nv_r, nI_1]
        exact dropA hE E20 n (o + 1) (by omega) (by omega) (fun i hi => by
          by_cases h : i = o
          · subst h
            rw [Int32.le_iff_toInt_le] at hx
            rw [Int32.lt_iff_toInt_lt]
            omega
          · exact hl i (by omega))
theorem dropB {E o : Nat} {f : VV} {K : Nat → Int32 → VV → Option VV} (E20 : E ≤ 20) (ho : o ≤ E) (hE : f 4 3 = nI E) : ∀ (n i : Nat) (v : VV), o ≤ i → i ≤ E → E - i < n → (∀ c, c ≠ 5 → c ≠ 6 → c ≠ 7 → v c = f c) → (∀ c, 5 ≤ c → c ≤ 7 → ∀ j, v c j = if j < i - o then f c (j + o) else f c j) → ∃ v', f_X0_dropBefore_l28 K n 4 (nI o) (nI i) v = K 4 (nI o) v' ∧ (∀ c, c ≠ 5 → c ≠ 6 → c ≠ 7 → v' c = f c) ∧ (∀ c, 5 ≤ c → c ≤ 7 → ∀ j, j < E - o → v' c j = f c (j + o))
  | 0, i, v, _, _, h, _, _ => by omega
  | n + 1, i, v, hoi, hi, hn, h0, h1 => by
    rw [f_X0_dropBefore_l28, h0 4 (by omega) (by omega) (by omega), hE]
    by_cases e : i = E
    · subst e
      rw [if_pos (nI_le (Nat.le_refl _) (by omega))]
      exact ⟨v, rfl, h0, fun c c5 c7 j hj => by rw [h1 c c5 c7 j, if_pos hj]⟩
    · rw [if_neg (nI_ge (by omega) (by omega)), pk_sub hoi, moveE (by omega) (by omega), Option.bind_some, nv_r, nI_1]
      refine dropB E20 ho hE n (i + 1) _ (by omega) (by omega) (by omega) (fun c c5 c6 c7 => by rw [wu_n c7, wu_n c6, wu_n c5, h0 c c5 c6 c7]) (fun c c5 c7 j => ?_)
      have hr : ∀ d, 5 ≤ d → d ≤ 7 → v d i = f d i := by
        intro d d5 d7
        rw [h1 d d5 d7 i]
        by_cases h9 : i < i - o
        · rw [if_pos h9, show i + o = i by omega]
        · rw [if_neg h9]
      by_cases hj : j = i - o
      · subst hj
        rw [if_pos (by omega), show i - o + o = i by omega, ← hr c c5 c7]
        rcases (show c = 5 ∨ c = 6 ∨ c = 7 by omega) with rfl | rfl | rfl
        · rw [wu_n (by omega), wu_n (by omega), wu_s]
        · rw [wu_n (by omega), wu_s]
        · rw [wu_s]
      · rw [wu_g, wu_g, wu_g, if_neg (by omega), if_neg (by omega), if_neg (by omega), h1 c c5 c7 j]
        by_cases h9 : j < i - o
        · rw [if_pos h9, if_pos (by omega)]
        · rw [if_neg h9, if_neg (by omega)]
theorem dropE {E : Nat} {x : Int32} {v : VV} (hE : v 4 3 = nI E) (E20 : E ≤ 20) (hsort : ∀ i j, i ≤ j → j < E → v 5 i ≤ v 5 j) : ∃ (o : Nat) (v' : VV), F_X0_dropBefore 4 x v = some v' ∧ o ≤ E ∧ (∀ c, c ≠ 4 → c ≠ 5 → c ≠ 6 → c ≠ 7 → v' c = v c) ∧ v' 4 3 = nI (E - o) ∧ (∀ c, 5 ≤ c → c ≤ 7 → ∀ j, j < E - o → v' c j = v c (j + o)) ∧ (∀ i, i < o → v 5 i < x) ∧ (∀ i, o ≤ i → i < E → x ≤ v 5 i) := by
  obtain ⟨o, g1, g2, g3, g4⟩ := dropA (x := x) (v := v) (K := fun c0_4 i2_4 v_4 =>
    f_X0_dropBefore_l28 (fun c0_8 i2_8 v_8 =>
    nv (wu v_8 c0_8 3 ((v_8 c0_8 3) - i2_8)) fun v9 =>
    some v9) FU c0_4 i2_4 i2_4 v_4) hE E20 FU 0 (by omega) (by unfold FU; omega) (fun i hi => by omega)
  obtain ⟨w, p1, p2, p3⟩ := dropB (f := v) (K := fun c0_8 i2_8 v_8 =>
    nv (wu v_8 c0_8 3 ((v_8 c0_8 3) - i2_8)) fun v9 =>
    some v9) E20 g2 hE FU o v (Nat.le_refl _) g2 (by unfold FU; omega) (fun _ _ _ _ => rfl) (fun c _ _ j => by rw [Nat.sub_self, if_neg (by omega)])
  rw [nI_0] at g1
  have hgo : F_X0_dropBefore 4 x v = some (wu w 4 3 (w 4 3 - nI o)) := by
    unfold F_X0_dropBefore f_X0_dropBefore
    rw [g1, p1, nv_r]
  refine ⟨o, _, hgo, g2, fun c c4 c5 c6 c7 => by rw [wu_n c4, p2 c c5 c6 c7], by rw [wu_s, p2 4 (by omega) (by omega) (by omega), hE, pk_sub g2], fun c c5 c7 j hj => by rw [wu_n (by omega), p3 c c5 c7 j hj], g3, fun i hi hiE => ?_⟩
  rcases g4 with h | h
  · omega
  · have := hsort o i hi hiE
    rw [Int32.le_iff_toInt_le] at *
    omega
