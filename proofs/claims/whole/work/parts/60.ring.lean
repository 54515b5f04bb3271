def rAns (a1 : Int32) (bm : Nat) (b : Nat → Nat) (gv lv : Int) : Int32 := if bm = 0 then -10000005 else if a1 = 0 then iI gv else if a1 = 1 then iI lv else if a1 = 2 then nI bm else if bm ≤ a1.toNatClampNeg - 10 then -6 else nI (b (a1.toNatClampNeg - 10))
theorem rAnsC {bm h : Nat} {b : Nat → Nat} {gv lv : Int} {v vC : VV} {a1 : Int32} (hs : F_X5_seek 11 (nI h) vC = some v) (hS : rS v bm b gv lv) (hbm : bm ≤ 6) (ha : a1 = 0 ∨ a1 = 1 ∨ a1 = 2 ∨ ∃ k : Nat, a1 = nI (k + 10) ∧ k + 10 < 2 ^ 31) : f_X10_ring_b28 0 (nI h) a1 vC = some (rAns a1 bm b gv lv, v) := by
  unfold f_X10_ring_b28 rAns
  rw [rfC0a, hs, Option.bind_some, hS.1]
  by_cases h0 : bm = 0
  · rw [if_pos (by rw [h0]; rfl), if_pos h0]
  · rw [if_neg (nI_ne0 (by omega) (by omega)), if_neg h0]
    by_cases e0 : a1 = 0
    · rw [if_pos e0, if_pos e0, hS.2.1]
    · rw [if_neg e0, if_neg e0]
      by_cases e1 : a1 = 1
      · rw [if_pos e1, if_pos e1, hS.2.2.1]
      · rw [if_neg e1, if_neg e1]
        by_cases e2 : a1 = 2
        · rw [if_pos e2, if_pos e2]
        · rw [if_neg e2, if_neg e2, nv_q]
          obtain ⟨k, rfl, hk⟩ : ∃ k : Nat, a1 = nI (k + 10) ∧ k + 10 < 2 ^ 31 := by
            rcases ha with h | h | h | h
            · exact absurd h e0
            · exact absurd h e1
            · exact absurd h e2
            · exact h
          have es : nI (k + 10) - 10 = nI k := by
            have := pk_sub (a := k + 10) (b := 10) (by omega)
            rw [Nat.add_sub_cancel] at this
            exact this
          rw [es, tn hk, Nat.add_sub_cancel, rfCb3, lnC14]
          by_cases h : bm ≤ k
          · rw [if_pos (nI_le h (by omega)), if_pos h]
          · rw [if_neg (nI_ge (by omega) (by omega)), if_neg h, gd_t (inB_n (by omega) (by omega)), tn (by omega), hS.2.2.2 k (by omega)]
abbrev ringK : Nat → Int32 → VV → Option (Int32 × VV) := fun c0_13 i2_13 v_13 =>
        if ((v_13 c0_13 30) = 0) then
          some ((-10000005), v_13)
        else
          if (i2_13 ≤ 9) then
            if (i2_13 = 0) then
              some ((v_13 c0_13 31), v_13)
            else
              if (i2_13 = 1) then
                some ((v_13 c0_13 32), v_13)
              else
                some ((v_13 c0_13 30), v_13)
          else
            if ((v_13 c0_13 30) ≤ (i2_13 - 10)) then
              some ((-6), v_13)
            else
              gd (inB (i2_13 - 10) (lnM (rfM c0_13 29)) = true) <|
              some ((v_13 (rfM c0_13 29) (Int32.toNatClampNeg (i2_13 - 10))), v_13)
theorem rAnsM {bm : Nat} {b : Nat → Nat} {gv lv : Int} {v : VV} {a1 : Int32} (hS : mS v bm b gv lv) (hbm : bm ≤ 6) (ha : a1 = 0 ∨ a1 = 1 ∨ a1 = 2 ∨ ∃ k : Nat, a1 = nI (k + 10) ∧ k + 10 < 2 ^ 31) : ringK 0 a1 v = some (rAns a1 bm b gv lv, v) := by
  unfold ringK rAns
  rw [hS.1]
  by_cases h0 : bm = 0
  · rw [if_pos (by rw [h0]; rfl), if_pos h0]
  · rw [if_neg (nI_ne0 (by omega) (by omega)), if_neg h0]
    rcases ha with rfl | rfl | rfl | ⟨k, rfl, hk⟩
    · rw [if_pos (by decide), if_pos rfl, if_pos rfl, hS.2.1]
    · rw [if_pos (by decide), if_neg (by decide), if_pos rfl, if_neg (by decide), if_pos rfl, hS.2.2.1]
    · rw [if_pos (by decide), if_neg (by decide), if_neg (by decide), if_neg (by decide), if_neg (by decide), if_pos rfl]
    · have es : nI (k + 10) - 10 = nI k := by
        have := pk_sub (a := k + 10) (b := 10) (by omega)
        rw [Nat.add_sub_cancel] at this
        exact this
      rw [if_neg (show ¬ nI (k + 10) ≤ 9 from nI_ge (a := 9) (by omega) (by omega)), if_neg (show ¬ nI (k + 10) = 0 from fun h => by have := nI_inj (b := 0) hk (by omega) h; omega), if_neg (show ¬ nI (k + 10) = 1 from fun h => by have := nI_inj (b := 1) hk (by omega) h; omega), if_neg (show ¬ nI (k + 10) = 2 from fun h => by have := nI_inj (b := 2) hk (by omega) h; omega), es, tn hk, Nat.add_sub_cancel, rfM29, lnM20]
      by_cases h : bm ≤ k
      · rw [if_pos (nI_le h (by omega)), if_pos h]
      · rw [if_neg (nI_ge (by omega) (by omega)), if_neg h, gd_t (inB_n (by omega) (by omega)), tn (by omega), hS.2.2.2 k (by omega)]
theorem rAns_eq {a1 : Int32} {bm bm' : Nat} {b b' : Nat → Nat} {gv lv gv' lv' : Int} (h : (bm = 0 ∧ bm' = 0) ∨ (bm ≠ 0 ∧ bm' = bm ∧ agr b b' bm ∧ gv = gv' ∧ lv = lv' ∧ bm ≤ 6)) : rAns a1 bm b gv lv = rAns a1 bm' b' gv' lv' := by
  unfold rAns
  rcases h with ⟨rfl, rfl⟩ | ⟨h0, rfl, h1, rfl, rfl, -⟩
  · rw [if_pos rfl, if_pos rfl]
  · rw [if_neg h0, if_neg h0]
    by_cases e : bm' ≤ a1.toNatClampNeg - 10
    · rw [if_pos e, if_pos e]
    · rw [if_neg e, if_neg e, h1 _ (by omega)]
theorem st_ring : Step_ring Inv := by
  intro vC vM hI a0 a1
  obtain ⟨P, T, F, S, E, i1, i2, i3, i4, i5, i6, i7⟩ := id hI
  have hP6 := i1.1.2.2
  have hf := frz_of i1 i2 i3 i4
  have z0 : (0 : Int32).toInt = 0 := rfl
  have z2 : (2 : Int32).toInt = 2 := rfl
  have z3 : (3 : Int32).toInt = 3 := rfl
  have z9 : (9 : Int32).toInt = 9 := rfl
  have z10 : (10 : Int32).toInt = 10 := rfl
  unfold F_X10_ring f_X10_ring F_X11_ring f_X11_ring
  rcases win a0 1 20 1 20 (by decide) (by decide) vC vM with ⟨h1, h2, e1, e2⟩ | ⟨-, e1, e2⟩
  · rw [e1, e2, bi_s, bi_s, if_neg n10, if_neg n10]
    obtain ⟨h, hh0, hh1, rfl⟩ := bnd_of (lo := 1) (hi := 20) (by decide) h1 h2 (by decide)
    have main : (a1 = 0 ∨ a1 = 1 ∨ a1 = 2 ∨ ∃ k : Nat, a1 = nI (k + 10) ∧ k + 10 < 2 ^ 31) → ∃ (r : Int32) (vC' vM' : VV), f_X10_ring_b28 0 (nI h) a1 vC = some (r, vC') ∧ f_X11_ring_l50 ringK FU 0 (nI h) a1 2 (wu (wu (wu vM 0 30 0) 0 31 0) 0 32 0) = some (r, vM') ∧ Inv vC' vM' := by
      intro ha
      obtain ⟨v', bm, b, gv, lv, Q, g1, g2, g3, g4, g5⟩ := seekE (h := h) i1 i2 i3 i4 hh1
      have hJ : mJ vM (wu (wu (wu vM 0 30 0) 0 31 0) 0 32 0) := ⟨fun c _ _ => by rw [wu_n (by omega), wu_n (by omega), wu_n (by omega)], fun c _ => by rw [wu_n (by omega), wu_n (by omega), wu_n (by omega)], fun j hj => by rw [wu_j (by omega), wu_j (by omega), wu_j (by omega)]⟩
      obtain ⟨w', bm', b', gv', lv', Q', k1, k2, k3, k4, k5⟩ := rgL (h := h) (i2 := a1) (K := ringK) hf hh1 FU 2 (fun _ => 0) 0 0 0 (wu (wu (wu vM 0 30 0) 0 31 0) 0 32 0) (by omega) (by omega) (by unfold FU; omega) hJ ⟨by rw [wu_j (by omega), wu_j (by omega), wu_s]; rfl, by rw [wu_j (by omega), wu_s]; rfl, by rw [wu_s]; rfl, fun i hi => by omega⟩ (Or.inl ⟨rfl, fun f k hfk => by have := hfk.1; omega⟩)
      have hu := isMax_uni g4 k4 g5 k5
      have hb1 : bm ≤ 6 := by rcases hu with ⟨h9, -⟩ | ⟨-, -, -, -, -, h9⟩ <;> omega
      have hb2 : bm' ≤ 6 := by rcases hu with ⟨-, h9⟩ | ⟨-, h9, -⟩ <;> omega
      refine ⟨rAns a1 bm b gv lv, v', w', rAnsC g1 g3 hb1 ha, ?_, ?_⟩
      · rw [show (2 : Int32) = nI 2 from rfl, k1, rAnsM k3 hb2 ha, rAns_eq (a1 := a1) (bm := bm) (bm' := bm') (b := b) (b' := b') (gv := gv) (lv := lv) (gv' := gv') (lv' := lv') (by
          rcases hu with h9 | ⟨q1, q2, q3, q4, q5, q6⟩
          · exact Or.inl h9
          · exact Or.inr ⟨q1, q2, q3, q4, q5, by omega⟩)]
      · refine hI.ag ⟨fun c hc => g2 c (by omega) (by omega) (by omega) (by omega), fun c h8 h9 => g2 c (by omega) (by omega) (by omega) (by omega), fun c h8 h9 => g2 c (by omega) (by omega) (by omega) (by omega), by rw [g2 15 (by omega) (by omega) (by omega) (by omega)]⟩ ⟨fun j hj => k2.2.2 j (by omega), fun c h8 h9 => k2.1 c h8 h9, k2.2.1 24 (by omega), k2.2.1 25 (by omega)⟩
    rcases win a1 0 2 0 2 (by decide) (by decide) vC vM with ⟨h3, h4, e3, -⟩ | ⟨h3, e3, -⟩
    · rw [e3, bi_s, if_neg n10, if_neg (by rw [Int32.lt_iff_toInt_lt]; rw [Int32.le_iff_toInt_le] at h3 h4; omega)]
      rcases win a1 3 9 3 9 (by decide) (by decide) vC vM with ⟨h5, h6, -, e4⟩ | ⟨-, -, e4⟩
      · exfalso
        rw [Int32.le_iff_toInt_le] at h3 h4 h5 h6
        omega
      · rw [e4, bi_s, if_pos rfl, nv_q, nv_q, nv_q]
        refine main ?_
        obtain ⟨k, hk0, hk1, rfl⟩ := bnd_of (lo := 0) (hi := 2) (by decide) h3 h4 (by decide)
        rcases (show k = 0 ∨ k = 1 ∨ k = 2 by omega) with rfl | rfl | rfl
        · exact Or.inl rfl
        · exact Or.inr (Or.inl rfl)
        · exact Or.inr (Or.inr (Or.inl rfl))
    · rw [e3, bi_s, if_pos rfl]
      by_cases h10 : (10 : Int32) ≤ a1
      · rw [if_pos h10]
        obtain ⟨k, hk0, hk1, rfl⟩ := bnd_of (lo := 10) (hi := 2147483647) (by decide) h10 (by rw [Int32.le_iff_toInt_le]; have := a1.toInt_le; exact this) (by decide)
        rw [if_neg (show ¬ nI k < 0 from nI_nlt (b := 0) (by omega) (by omega))]
        rcases win (nI k) 3 9 3 9 (by decide) (by decide) vC vM with ⟨h5, h6, -, e4⟩ | ⟨-, -, e4⟩
        · exfalso
          rw [Int32.le_iff_toInt_le] at h6
          rw [nI_toInt (by omega)] at h6
          omega
        · rw [e4, bi_s, if_pos rfl, nv_q, nv_q, nv_q]
          exact main (Or.inr (Or.inr (Or.inr ⟨k - 10, by rw [show k - 10 + 10 = k by omega], by omega⟩)))
      · rw [if_neg h10]
        by_cases hn : a1 < 0
        · rw [if_pos hn]
          exact ⟨_, vC, vM, rfl, rfl, hI⟩
        · rw [if_neg hn]
          rcases win a1 3 9 3 9 (by decide) (by decide) vC vM with ⟨h5, h6, -, e4⟩ | ⟨h5, -, e4⟩
          · rw [e4, bi_s, if_neg n10]
            exact ⟨_, vC, vM, rfl, rfl, hI⟩
          · exfalso
            rw [Int32.lt_iff_toInt_lt] at hn
            rw [Int32.le_iff_toInt_le] at h10
            rw [Int32.le_iff_toInt_le, Int32.le_iff_toInt_le] at h3 h5
            omega
  · rw [e1, e2, bi_s, bi_s, if_pos z00, if_pos z00]
    exact ⟨_, vC, vM, rfl, rfl, hI⟩
