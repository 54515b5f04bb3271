theorem st_ship : Step_ship Inv := by
  intro vC vM hI a0 a1 a2
  obtain ⟨P, T, F, S, E, i1, i2, i3, i4, i5, i6, i7⟩ := id hI
  have hP6 := i1.1.2.2
  obtain ⟨s1, s2, s3, s4, s5⟩ := id i1
  unfold F_X10_ship f_X10_ship F_X11_ship f_X11_ship
  rcases isP i1 a0 with ⟨p, hp, rfl, e1, e2⟩ | ⟨-, e1, e2⟩
  · rw [e1, e2, bi_s, bi_s, if_neg n10, if_neg n10]
    rcases win a1 1 20 1 20 (by decide) (by decide) vC vM with ⟨h1, h2, e3, e4⟩ | ⟨-, e3, e4⟩
    · rw [e3, e4, bi_s, bi_s, if_neg n10, if_neg n10]
      rcases win a2 0 1000000 0 1000000 (by decide) (by decide) vC vM with ⟨h3, h4, e3, e4⟩ | ⟨-, e3, e4⟩
      · rw [e3, e4, bi_s, bi_s, if_neg n10, if_neg n10, s4.1, s4.2.1]
        obtain ⟨h, hh0, hh1, rfl⟩ := bnd_of (lo := 1) (hi := 20) (by decide) h1 h2 (by decide)
        obtain ⟨x, hx0, hx1, rfl⟩ := bnd_of (lo := 0) (hi := 1000000) (by decide) h3 h4 (by decide)
        by_cases hs : S < 4
        · rw [if_pos (show nI S < 4 from nI_lt (b := 4) hs (by omega)), if_neg (show ¬ nI S = 4 from fun h => by have := nI_inj (b := 4) (by omega) (by omega) h; omega)]
          have ts : (nI S).toNatClampNeg = S := tn (by omega)
          have is_ : inB (nI S) 4 = true := inB_n (by omega) (by omega)
          simp only [rfC01, rfC8, ts, lnC8, nv, rfM23, rfM24, rfM25, lnMh (show 15 ≤ 15 by omega) (by omega), lnMh (show 15 ≤ 16 by omega) (by omega), lnMh (show 15 ≤ 17 by omega) (by omega), gd_t is_]
          rw [wu_n (show 0 ≠ 67 + S by omega), wu_n (show 0 ≠ 67 + S by omega), wu_n (show 0 ≠ 67 + S by omega), s4.1]
          simp only [wu_n (show 0 ≠ 15 by omega), wu_n (show 0 ≠ 16 by omega), wu_n (show 0 ≠ 17 by omega), s4.2.1, ts, gd_t is_, nI_1, wu_s, nI_pred]
          refine ⟨nI S, _, _, rfl, rfl, P, T, F, S + 1, E, ?_, iSh_c i2 (fun k hk => by rw [wu_n (by omega), wu_n (by omega), wu_n (by omega), wu_n (by omega)]) (fun c _ _ => by rw [wu_n (by omega), wu_n (by omega), wu_n (by omega), wu_n (by omega)]), iPo_c i3 (fun k hk => by rw [wu_n (by omega), wu_n (by omega), wu_n (by omega), wu_n (by omega)]) (fun c _ _ => by rw [wu_n (by omega), wu_n (by omega), wu_n (by omega), wu_n (by omega)]), iWy_c i4 (fun k hk => by rw [wu_n (by omega), wu_n (by omega), wu_n (by omega), wu_n (by omega)]) (by rw [wu_n (by omega), wu_n (by omega), wu_n (by omega), wu_n (by omega)]), ?_, iEv_c i6 (by rw [wu_n (by omega), wu_n (by omega), wu_n (by omega), wu_n (by omega)]) (fun c _ _ => by rw [wu_n (by omega), wu_n (by omega), wu_n (by omega), wu_n (by omega)]) (by rw [wu_j (by omega), wu_n (by omega), wu_n (by omega), wu_n (by omega)]) (fun c _ _ => by rw [wu_n (by omega), wu_n (by omega), wu_n (by omega), wu_n (by omega)]), iPl_c i7 (by rw [wu_n (by omega), wu_n (by omega), wu_n (by omega), wu_n (by omega)]) (by rw [wu_n (by omega), wu_n (by omega), wu_n (by omega), wu_n (by omega)]) (by rw [wu_n (by omega), wu_n (by omega), wu_n (by omega), wu_n (by omega)]) (by rw [wu_j (by omega), wu_n (by omega), wu_n (by omega), wu_n (by omega)]) (by rw [wu_n (by omega), wu_n (by omega), wu_n (by omega), wu_n (by omega)]) (by rw [wu_n (by omega), wu_n (by omega), wu_n (by omega), wu_n (by omega)])⟩
          · unfold iSc
            rw [wu_s, wu_s, wu_n (show 1 ≠ 0 by omega), wu_n (show 1 ≠ 67 + S by omega), wu_n (show 1 ≠ 67 + S by omega), wu_n (show 1 ≠ 67 + S by omega)]
            rw [wu_j (c := 0) (j := 2) (j' := 3) (by omega), wu_j (c := 0) (j := 2) (j' := 4) (by omega), wu_j (c := 0) (j := 2) (j' := 5) (by omega), wu_j (c := 0) (j := 2) (j' := 6) (by omega), wu_j (c := 0) (j := 2) (j' := 7) (by omega), wu_n (show 0 ≠ 67 + S by omega), wu_n (show 0 ≠ 67 + S by omega), wu_n (show 0 ≠ 67 + S by omega)]
            rw [wu_j (c := 0) (j := 27) (j' := 0) (by omega), wu_j (c := 0) (j := 27) (j' := 1) (by omega), wu_j (c := 0) (j := 27) (j' := 2) (by omega), wu_j (c := 0) (j := 27) (j' := 14) (by omega), wu_j (c := 0) (j := 27) (j' := 15) (by omega), wu_j (c := 0) (j := 27) (j' := 16) (by omega), wu_j (c := 0) (j := 27) (j' := 17) (by omega), wu_j (c := 0) (j := 27) (j' := 18) (by omega), wu_n (show 0 ≠ 17 by omega), wu_n (show 0 ≠ 16 by omega), wu_n (show 0 ≠ 15 by omega)]
            exact ⟨s1, s2, s3, ⟨rfl, rfl, by omega⟩, s5⟩
          · intro s hs4
            obtain ⟨x1, x2, x3, x9⟩ := i5 s hs4
            have ec : ∀ c, 68 ≤ c → c ≠ 67 + S → wu (wu (wu (wu vC (67 + S) 0 (nI p)) (67 + S) 1 (nI h)) (67 + S) 2 (nI x)) 0 2 (nI (S + 1)) c = vC c := by
              intro c _ _
              rw [wu_n (by omega), wu_n (by omega), wu_n (by omega), wu_n (by omega)]
            have em : wu (wu (wu (wu vM 15 S (nI p)) 16 S (nI h)) 17 S (nI x)) 0 27 (nI (S + 1)) 18 = vM 18 := by
              rw [wu_n (by omega), wu_n (by omega), wu_n (by omega), wu_n (by omega)]
            rw [em, ec (71 + s) (by omega) (by omega), ec (79 + s) (by omega) (by omega)]
            refine ⟨fun hlt => ?_, x2, fun hle => x3 (by omega), x9⟩
            by_cases es : s = S
            · subst es
              have hz := x3 (Nat.le_refl _)
              simp only [wu_g]
              simp
              refine ⟨⟨p, hp, rfl⟩, ⟨x, by omega, hx1, rfl⟩, h, hh0, hh1, rfl, 0, 0, 0, by omega, ?_, ?_, ?_⟩
              · exact hz 0 (by omega)
              · exact hz 1 (by omega)
              · exact hz 2 (by omega)
            · obtain ⟨y1, y2, y3, y4, y5, y6⟩ := x1 (by omega)
              have e0 : wu (wu (wu (wu vC (67 + S) 0 (nI p)) (67 + S) 1 (nI h)) (67 + S) 2 (nI x)) 0 2 (nI (S + 1)) (67 + s) = vC (67 + s) := by
                rw [wu_n (by omega), wu_n (by omega), wu_n (by omega), wu_n (by omega)]
              have e15 : wu (wu (wu (wu vM 15 S (nI p)) 16 S (nI h)) 17 S (nI x)) 0 27 (nI (S + 1)) 15 s = vM 15 s := by
                rw [wu_n (by omega), wu_n (by omega), wu_n (by omega), wu_j es]
              have e16 : wu (wu (wu (wu vM 15 S (nI p)) 16 S (nI h)) 17 S (nI x)) 0 27 (nI (S + 1)) 16 s = vM 16 s := by
                rw [wu_n (by omega), wu_n (by omega), wu_j es, wu_n (by omega)]
              have e17 : wu (wu (wu (wu vM 15 S (nI p)) 16 S (nI h)) 17 S (nI x)) 0 27 (nI (S + 1)) 17 s = vM 17 s := by
                rw [wu_n (by omega), wu_j es, wu_n (by omega), wu_n (by omega)]
              rw [e0, e15, e16, e17]
              exact ⟨y1, y2, y3, y4, y5, y6⟩
        · have e4' : S = 4 := by have := s4.2.2; omega
          subst e4'
          rw [if_neg (show ¬ nI 4 < 4 by decide), if_pos (show nI 4 = 4 by decide)]
          exact ⟨_, _, _, rfl, rfl, hI⟩
      · rw [e3, e4, bi_s, bi_s, if_pos z00, if_pos z00]
        exact ⟨_, _, _, rfl, rfl, hI⟩
    · rw [e3, e4, bi_s, bi_s, if_pos z00, if_pos z00]
      exact ⟨_, _, _, rfl, rfl, hI⟩
  · rw [e1, e2, bi_s, bi_s, if_pos z00, if_pos z00]
    exact ⟨_, _, _, rfl, rfl, hI⟩
theorem loadC {n s : Nat} (hs : s < 4) (v : VV) : f_X7_load_l4 (n + 4) (67 + s) 0 0 v = some (0 + v (71 + s) 0 + v (71 + s) 1 + v (71 + s) 2, v) := by
  have i0 : inB 0 3 = true := by decide
  have i1 : inB (0 + 1) 3 = true := by decide
  have i2 : inB (0 + 1 + 1) 3 = true := by decide
  rw [f_X7_load_l4, if_neg (by decide), rfCc hs, lnCc hs, gd_t i0]
  simp only [nv]
  rw [f_X7_load_l4, if_neg (by decide), rfCc hs, lnCc hs, gd_t i1]
  simp only [nv]
  rw [f_X7_load_l4, if_neg (by decide), rfCc hs, lnCc hs, gd_t i2]
  simp only [nv]
  rw [f_X7_load_l4, if_pos (by decide), show Int32.toNatClampNeg 0 = 0 by decide, show Int32.toNatClampNeg (0 + 1) = 1 by decide, show Int32.toNatClampNeg (0 + 1 + 1) = 2 by decide]
theorem loadE {s : Nat} (hs : s < 4) (v : VV) : F_X7_load (67 + s) v = some (0 + v (71 + s) 0 + v (71 + s) 1 + v (71 + s) 2, v) := by
  unfold F_X7_load f_X7_load
  rw [FU_s 4 (by omega), loadC hs]
theorem loadM {s : Nat} (hs : s < 4) (v : VV) : F_X11_load 0 (nI s) v = some (v 18 (3 * s) + v 18 (3 * s + 1) + v 18 (3 * s + 2), v) := by
  unfold F_X11_load f_X11_load
  have e0 : 3 * nI s = nI (3 * s) := pk_mul 3 s
  have e1 : 3 * nI s + 1 = nI (3 * s + 1) := k3 s 1
  have e2 : 3 * nI s + 2 = nI (3 * s + 2) := k3 s 2
  rw [rfM26, lnMc, e1, e2, e0, gd_t (inB_n (by omega) (by omega)), gd_t (inB_n (by omega) (by omega)), gd_t (inB_n (by omega) (by omega)), tn (by omega), tn (by omega), tn (by omega)]
theorem st_ofShip : Step_ofShip Inv := by
  intro vC vM hI a0 a1
  obtain ⟨P, T, F, S, E, i1, i2, i3, i4, i5, i6, i7⟩ := id hI
  have hS4 := i1.2.2.2.1.2.2
  unfold F_X10_ofShip f_X10_ofShip F_X11_ofShip f_X11_ofShip
  rcases isS i1 a0 with ⟨s, hs, rfl, e1, e2⟩ | ⟨-, e1, e2⟩
  · have ts : (nI s).toNatClampNeg = s := tn (by omega)
    have is_ : inB (nI s) 4 = true := inB_n (by omega) (by omega)
    obtain ⟨x1, x2, x3⟩ := i5 s (by omega)
    obtain ⟨y1, y2, y3, y4, y5, y6⟩ := x1 hs
    rw [e1, e2, bi_s, bi_s, if_neg n10, if_neg n10]
    simp only [rfC01, rfC8, ts, lnC8, rfCc (show s < 4 by omega), rfM23, rfM24, rfM25, rfM26, lnMh (show 15 ≤ 15 by omega) (by omega), lnMh (show 15 ≤ 16 by omega) (by omega), lnMh (show 15 ≤ 17 by omega) (by omega), gd_t is_, lnCc (show s < 4 by omega), lnMc]
    rcases win a1 10 12 10 12 (by decide) (by decide) vC vM with ⟨h1, h2, e3, e4⟩ | ⟨-, e3, e4⟩
    · rw [e3, e4, bi_s, bi_s, if_neg n10, if_neg n10]
      obtain ⟨w, hw0, hw1, rfl⟩ := bnd_of (lo := 10) (hi := 12) (by decide) h1 h2 (by decide)
      have d1 : nI w - 10 = nI (w - 10) := pk_sub (b := 10) hw0
      have d2 : 3 * nI s + nI w - 10 = nI (3 * s + (w - 10)) := by
        rw [k3]
        have := pk_sub (a := 3 * s + w) (b := 10) (by omega)
        rw [show 3 * s + (w - 10) = 3 * s + w - 10 by omega]
        exact this
      have g1 : inB (nI (w - 10)) 3 = true := inB_n (by omega) (by omega)
      have g2 : inB (nI (3 * s + (w - 10))) 12 = true := inB_n (by omega) (by omega)
      have t1 : (nI (w - 10)).toNatClampNeg = w - 10 := tn (by omega)
      have t2 : (nI (3 * s + (w - 10))).toNatClampNeg = 3 * s + (w - 10) := tn (by omega)
      simp only [d1, d2, gd_t g1, gd_t g2, t1, t2]
      exact ⟨vM 18 (3 * s + (w - 10)), vC, vM, by rw [x2 (w - 10) (by omega)], rfl, hI⟩
    · rw [e3, e4, bi_s, bi_s, if_pos z00, if_pos z00]
      rw [loadE (by omega), loadM (by omega), bi_s, bi_s, y1, y2, y3, x2 0 (by omega), x2 1 (by omega), x2 2 (by omega), Int32.zero_add]
      by_cases b0 : a1 = 0
      · simp only [if_pos b0]
        exact ⟨_, _, _, rfl, rfl, hI⟩
      · simp only [if_neg b0]
        by_cases b1 : a1 = 1
        · simp only [if_pos b1]
          exact ⟨_, _, _, rfl, rfl, hI⟩
        · simp only [if_neg b1]
          by_cases b2 : a1 = 2
          · simp only [if_pos b2]
            exact ⟨_, _, _, rfl, rfl, hI⟩
          · simp only [if_neg b2]
            by_cases b3 : a1 = 3
            · simp only [if_pos b3]
              exact ⟨_, _, _, rfl, rfl, hI⟩
            · simp only [if_neg b3]
              exact ⟨_, _, _, rfl, rfl, hI⟩
  · rw [e1, e2, bi_s, bi_s, if_pos z00, if_pos z00]
    exact ⟨_, _, _, rfl, rfl, hI⟩
/-! sums -/
def sm (f : Nat → Int32) : Nat → Int32
  | 0 => 0
  | n + 1 => sm f n + f n
theorem sm_congr {f g : Nat → Int32} : ∀ n, (∀ j, j < n → f j = g j) → sm f n = sm g n
  | 0, _ => rfl
  | n + 1, h => by rw [sm, sm, sm_congr n (fun j hj => h j (by omega)), h n (by omega)]
theorem sm_z {f : Nat → Int32} {m : Nat} : ∀ n, m ≤ n → (∀ j, m ≤ j → j < n → f j = 0) → sm f n = sm f m
  | 0, h, _ => by rw [show m = 0 by omega]
  | n + 1, h, hz => by
    by_cases e : m = n + 1
    · rw [e]
    · rw [sm, hz n (by omega) (by omega), sm_z n (by omega) (fun j h1 h2 => hz j h1 (by omega)), Int32.add_zero]
theorem tl86 {k : Nat → Int32 → VV → Option (Int32 × VV)} {v : VV} : ∀ (n i : Nat), i ≤ 18 → 18 - i < n → f_X11_told_l86 k n 0 (sm (v 1) i) (nI i) v = k 0 (sm (v 1) 18) v
  | 0, _, _, h => by omega
  | n + 1, i, h, hn => by
    by_cases e : i = 18
    · subst e
      rw [f_X11_told_l86, if_pos (by decide)]
    · rw [f_X11_told_l86, if_neg (show ¬ (18 : Int32) ≤ nI i from nI_ge (b := 18) (by omega) (by omega)), rfM3, lnMs (by omega) (by omega), gd_t (inB_n (by omega) (by omega)), tn (by omega)]
      simp only [nv]
      rw [nI_1]
      exact tl86 n (i + 1) (by omega) (by omega)
theorem tl109 {A : Int32} {v : VV} : ∀ (n i : Nat), i ≤ 12 → 12 - i < n → f_X11_told_l109 n 0 (A + sm (v 18) i) (nI i) v = some (A + sm (v 18) 12, v)
  | 0, _, _, h => by omega
  | n + 1, i, h, hn => by
    by_cases e : i = 12
    · subst e
      rw [f_X11_told_l109, if_pos (by decide)]
    · rw [f_X11_told_l109, if_neg (show ¬ (12 : Int32) ≤ nI i from nI_ge (b := 12) (by omega) (by omega)), rfM26, lnMc, gd_t (inB_n (by omega) (by omega)), tn (by omega)]
      simp only [nv]
      rw [nI_1, Int32.add_assoc]
      exact tl109 n (i + 1) (by omega) (by omega)
theorem tl154 {S : Nat} {v : VV} (hS : v 0 27 = nI S) (hS4 : S ≤ 4) : ∀ (n i : Nat), i ≤ S → S - i < n → f_X11_told_l154 n 0 (sm (v 17) i) (nI i) v = some (sm (v 17) S, v)
  | 0, _, _, h => by omega
  | n + 1, i, h, hn => by
    by_cases e : i = S
    · subst e
      rw [f_X11_told_l154, if_pos (by rw [hS]; exact nI_le (Nat.le_refl _) (by omega))]
    · rw [f_X11_told_l154, hS, if_neg (nI_ge (by omega) (by omega)), rfM25, lnMh (by omega) (by omega), gd_t (inB_n (by omega) (by omega)), tn (by omega)]
      simp only [nv]
      rw [nI_1]
      exact tl154 hS hS4 n (i + 1) (by omega) (by omega)
theorem cl4 {S : Nat} {v : VV} (hS : v 0 2 = nI S) (hS4 : S ≤ 4) : ∀ (n i : Nat), i ≤ S → S - i < n → f_X10_coinsOfShips_l4 n 0 (sm (fun s => v (67 + s) 2) i) (nI i) v = some (sm (fun s => v (67 + s) 2) S, v)
  | 0, _, _, h => by omega
  | n + 1, i, h, hn => by
    by_cases e : i = S
    · subst e
      rw [f_X10_coinsOfShips_l4, if_pos (by rw [hS]; exact nI_le (Nat.le_refl _) (by omega))]
    · rw [f_X10_coinsOfShips_l4, hS, if_neg (nI_ge (by omega) (by omega)), rfC01, lnC8, gd_t (inB_n (by omega) (by omega)), tn (by omega), rfC8]
      simp only [nv]
      rw [nI_1]
      exact cl4 hS hS4 n (i + 1) (by omega) (by omega)
theorem ul51 {S : Nat} {A : Int32} {cg : Nat → Int32} {v : VV} (hS : v 0 2 = nI S) (hS4 : S ≤ 4) (hc : ∀ s, s < S → ∀ g, g < 3 → v (71 + s) g = cg (3 * s + g)) : ∀ (n i : Nat), i ≤ S → S - i < n → f_X10_unitsInAll_l51 n 0 (A + sm cg (3 * i)) (nI i) v = some (A + sm cg (3 * S), v)
  | 0, _, _, h => by omega
  | n + 1, i, h, hn => by
    by_cases e : i = S
    · subst e
      rw [f_X10_unitsInAll_l51, if_pos (by rw [hS]; exact nI_le (Nat.le_refl _) (by omega))]
    · rw [f_X10_unitsInAll_l51, hS, if_neg (nI_ge (by omega) (by omega)), rfC01, lnC8, gd_t (inB_n (by omega) (by omega)), tn (by omega), rfC8, loadE (by omega), bi_s]
      simp only [nv]
      rw [nI_1, hc i (by omega) 0 (by omega), hc i (by omega) 1 (by omega), hc i (by omega) 2 (by omega)]
      have es : A + sm cg (3 * i) + (0 + cg (3 * i + 0) + cg (3 * i + 1) + cg (3 * i + 2)) = A + sm cg (3 * (i + 1)) := by
        rw [show 3 * (i + 1) = 3 * i + 1 + 1 + 1 by omega, sm, sm, sm, Int32.zero_add]
        simp only [Int32.add_assoc, Nat.add_zero, Nat.add_assoc, Nat.reduceAdd]
      rw [es]
      exact ul51 hS hS4 hc n (i + 1) (by omega) (by omega)
theorem ul17 {k : Nat → Int32 → Int32 → VV → Option (Int32 × VV)} {p : Nat} {v : VV} (hp : p < 6) : ∀ (n g : Nat), g ≤ 3 → 3 - g < n → f_X10_unitsInAll_l17 k n 0 (sm (fun j => v (37 + j) 1) (3 * p + g)) (nI p) (nI g) v = k 0 (sm (fun j => v (37 + j) 1) (3 * p + 3)) (nI p) v
  | 0, _, _, h => by omega
  | n + 1, g, h, hn => by
    by_cases e : g = 3
    · subst e
      rw [f_X10_unitsInAll_l17, if_pos (by decide)]
    · rw [f_X10_unitsInAll_l17, if_neg (show ¬ (3 : Int32) ≤ nI g from nI_ge (b := 3) (by omega) (by omega)), rfC00, shelfE hp (by omega), bi_s]
      simp only [nv]
      rw [nI_1]
      exact ul17 hp n (g + 1) (by omega) (by omega)
theorem ul4 {k : Nat → Int32 → VV → Option (Int32 × VV)} {P : Nat} {v : VV} (hP : v 1 3 = nI P) (hP6 : P ≤ 6) : ∀ (n p : Nat), p ≤ P → P - p < n → f_X10_unitsInAll_l4 k n 0 (sm (fun j => v (37 + j) 1) (3 * p)) (nI p) v = k 0 (sm (fun j => v (37 + j) 1) (3 * P)) v
  | 0, _, _, h => by omega
  | n + 1, p, h, hn => by
    by_cases e : p = P
    · subst e
      rw [f_X10_unitsInAll_l4, rfC00, hP, if_pos (nI_le (Nat.le_refl _) (by omega))]
    · rw [f_X10_unitsInAll_l4, rfC00, hP, if_neg (nI_ge (by omega) (by omega))]
      have := ul17 (k := fun c0_9 i1_9 i2_9 v_9 => nv (i2_9 + 1) fun x10 => f_X10_unitsInAll_l4 k n c0_9 i1_9 x10 v_9) (p := p) (v := v) (by omega) FU 0 (by omega) (by unfold FU; omega)
      rw [show (0 : Int32) = nI 0 from rfl]
      rw [Nat.add_zero] at this
      rw [this]
      simp only [nv]
      rw [nI_1, show 3 * p + 3 = 3 * (p + 1) by omega]
      exact ul4 hP hP6 n (p + 1) (by omega) (by omega)
theorem st_told : Step_told Inv := by
  intro vC vM hI a0
  obtain ⟨P, T, F, S, E, i1, i2, i3, i4, i5, i6, i7⟩ := id hI
  obtain ⟨s1, s2, s3, s4, s5, s6, s7, s8, s9⟩ := id i1
  have u1 : F_X10_unitsInAll 0 vC = some (sm (vM 1) 18 + sm (vM 18) 12, vC) := by
    unfold F_X10_unitsInAll f_X10_unitsInAll
    have h1 := ul4 (k := fun c0_11 i1_11 v_11 => f_X10_unitsInAll_l51 FU c0_11 i1_11 0 v_11) s1.1 s1.2.2 FU 0 (by omega) (by unfold FU; omega)
    refine h1.trans ?_
    have e1 : sm (fun j => vC (37 + j) 1) (3 * P) = sm (vM 1) 18 := by
      rw [sm_z (f := vM 1) (m := 3 * P) 18 (by have := s1.2.2; omega) (fun j h1 h2 => (i2 j h2).2.2.2.2.2.2.1 h1 |>.2.2)]
      exact sm_congr _ (fun j hj => (i2 j (by have := s1.2.2; omega)).2.1)
    have e2 : sm (vM 18) (3 * S) = sm (vM 18) 12 := by
      refine (sm_z (f := vM 18) (m := 3 * S) 12 (by have := s4.2.2; omega) (fun j h1 h2 => ?_)).symm
      have := (i5 (j / 3) (by omega)).2.2.1 (by omega) (j % 3) (by omega)
      rw [show 3 * (j / 3) + j % 3 = j by omega] at this
      exact this
    have h3 := ul51 (A := sm (vM 1) 18) (cg := vM 18) s4.1 s4.2.2 (fun s hs g hg => (i5 s (by have := s4.2.2; omega)).2.1 g hg) FU 0 (by omega) (by unfold FU; omega)
    rw [show sm (vM 18) (3 * 0) = 0 from rfl, Int32.add_zero] at h3
    rw [e1]
    show f_X10_unitsInAll_l51 FU 0 (sm (vM 1) 18) (nI 0) vC = _
    rw [h3, e2]
  have u2 : f_X11_told_l86 (fun c0_5 i2_5 v_5 => f_X11_told_l109 FU c0_5 i2_5 0 v_5) FU 0 0 0 vM = some (sm (vM 1) 18 + sm (vM 18) 12, vM) := by
    have h1 := tl86 (k := fun c0_5 i2_5 v_5 => f_X11_told_l109 FU c0_5 i2_5 0 v_5) (v := vM) FU 0 (by omega) (by unfold FU; omega)
    rw [show sm (vM 1) 0 = 0 from rfl] at h1
    refine h1.trans ?_
    have h2 := tl109 (A := sm (vM 1) 18) (v := vM) FU 0 (by omega) (by unfold FU; omega)
    rw [show sm (vM 18) 0 = 0 from rfl, Int32.add_zero] at h2
    exact h2
  have u3 : F_X10_coinsOfShips 0 vC = some (sm (vM 17) S, vC) := by
    unfold F_X10_coinsOfShips f_X10_coinsOfShips
    have h1 := cl4 s4.1 s4.2.2 FU 0 (by omega) (by unfold FU; omega)
    rw [show sm (fun s => vC (67 + s) 2) 0 = 0 from rfl] at h1
    refine h1.trans ?_
    rw [sm_congr (g := vM 17) S (fun j hj => ((i5 j (by have := s4.2.2; omega)).1 hj).2.2.1)]
  have u4 : f_X11_told_l154 FU 0 0 0 vM = some (sm (vM 17) S, vM) := tl154 s4.2.1 s4.2.2 FU 0 (by omega) (by unfold FU; omega)
  unfold F_X10_told f_X10_told F_X11_told f_X11_told
  simp only [rfC00, rfC12, u1, u2, u3, u4, bi_s, s1.1, s1.2.1, s2.1, s2.2.1, s3.1, s3.2.1, s4.1, s4.2.1, s5, s6, s7, s8, s9, i6.1.1, i6.1.2.1]
  by_cases b0 : a0 = 0
  · simp only [if_pos b0]
    exact ⟨_, _, _, rfl, rfl, hI⟩
  simp only [if_neg b0]
  by_cases b0 : a0 = 1
  · simp only [if_pos b0]
    exact ⟨_, _, _, rfl, rfl, hI⟩
  simp only [if_neg b0]
  by_cases b0 : a0 = 2
  · simp only [if_pos b0]
    exact ⟨_, _, _, rfl, rfl, hI⟩
  simp only [if_neg b0]
  by_cases b0 : a0 = 3
  · simp only [if_pos b0]
    exact ⟨_, _, _, rfl, rfl, hI⟩
  simp only [if_neg b0]
  by_cases b0 : a0 = 4
  · simp only [if_pos b0]
    exact ⟨_, _, _, rfl, rfl, hI⟩
  simp only [if_neg b0]
  by_cases b0 : a0 = 5
  · simp only [if_pos b0]
    exact ⟨_, _, _, rfl, rfl, hI⟩
  simp only [if_neg b0]
  by_cases b0 : a0 = 6
  · simp only [if_pos b0]
    exact ⟨_, _, _, rfl, rfl, hI⟩
  simp only [if_neg b0]
  by_cases b0 : a0 = 7
  · simp only [if_pos b0]
    exact ⟨_, _, _, rfl, rfl, hI⟩
  simp only [if_neg b0]
  by_cases b0 : a0 = 8
  · simp only [if_pos b0]
    exact ⟨_, _, _, rfl, rfl, hI⟩
  simp only [if_neg b0]
  by_cases b0 : a0 = 9
  · simp only [if_pos b0]
    exact ⟨_, _, _, rfl, rfl, hI⟩
  simp only [if_neg b0]
  by_cases b0 : a0 = 10
  · simp only [if_pos b0]
    exact ⟨_, _, _, rfl, rfl, hI⟩
  simp only [if_neg b0]
  by_cases b0 : a0 = 11
  · simp only [if_pos b0]
    exact ⟨_, _, _, rfl, rfl, hI⟩
  simp only [if_neg b0]
  exact ⟨_, _, _, rfl, rfl, hI⟩
