abbrev cnS : SG → Nat := fun σ => σ.2.2.1
/-- the best plan so far, in the model -/
def bM (k W : Nat) (vM v : VV) (i5 : Int32) (B : Option (Nat × Nat)) : Prop := match B with
  | none => i5 = -1 ∧ v 0 41 = vM 0 41 ∧ v 24 = vM 24 ∧ v 25 = vM 25
  | some (c, a) => i5 = nI c ∧ c ≤ 1000000 ∧ v 0 41 = nI k ∧ ∀ i, i < k → v 24 i = nI (dg W k a i / 4) ∧ v 25 i = nI (dg W k a i % 4)
theorem bM_c {k W : Nat} {vM v v' : VV} {i5 : Int32} {B : Option (Nat × Nat)} (h : bM k W vM v i5 B) (h0 : v' 0 41 = v 0 41) (h1 : v' 24 = v 24) (h2 : v' 25 = v 25) : bM k W vM v' i5 B := by
  unfold bM at *
  rw [h0, h1, h2]
  exact h
section
variable {P F E : Nat} {vM : VV}
abbrev σM (vM : VV) (T sh : Nat) : SG := (T, fun k => (vM 1 k).toNatClampNeg, (vM 17 sh).toNatClampNeg, (vM 15 sh).toNatClampNeg)
theorem enuL {T h k sh : Nat} {K : Int32 → VV → Option (Int32 × VV)} (hp : pfz P F E vM) (hh : h ≤ 20) (hk : k ≤ 3) (hsh : sh < 4) (h16 : vM 16 sh = nI h) (hP0 : 0 < P) (hT : vM 0 1 = nI T) (h17 : vM 17 sh = nI (vM 17 sh).toNatClampNeg) (h15 : vM 15 sh = nI (vM 15 sh).toNatClampNeg) (hst : ∀ k, k < 3 * P → vM 1 k = nI (vM 1 k).toNatClampNeg) (hw : wfS P (σM vM T sh)) : ∀ (n N : Nat) (i5 : Int32) (v : VV), N ≤ (4 * P) ^ k → (4 * P) ^ k - N < n → nJ vM v → bM k (4 * P) vM v i5 (enu (tpp vM F E h) cnS (4 * P) (σM vM T sh) k 0 none N) → ∃ (i5' : Int32) (v' : VV), f_X11_plan_l65 K n 0 (nI sh) (nI k) (nI (4 * P)) (nI ((4 * P) ^ k)) i5 (nI N) v = K i5' v' ∧ nJ vM v' ∧ bM k (4 * P) vM v' i5' (enu (tpp vM F E h) cnS (4 * P) (σM vM T sh) k 0 none ((4 * P) ^ k))
  | 0, N, i5, v, _, hn, _, _ => by omega
  | n + 1, N, i5, v, hN, hn, hJ, hB => by
    have hP6 := hp.1.1
    have hA : (4 * P) ^ k ≤ 13824 := by
      have h1 : (4 * P) ^ k ≤ 24 ^ k := Nat.pow_le_pow_left (by omega) k
      have h2 : 24 ^ k ≤ 24 ^ 3 := Nat.pow_le_pow_right (by omega) hk
      have h3 : (24 : Nat) ^ 3 = 13824 := by decide
      omega
    rw [f_X11_plan_l65]
    by_cases e : N = (4 * P) ^ k
    · subst e
      rw [if_pos (nI_le (Nat.le_refl _) (by omega))]
      exact ⟨i5, v, rfl, hJ, hB⟩
    · rw [if_neg (nI_ge (by omega) (by omega)), nv_q]
      obtain ⟨v1, a1, a2, a3⟩ := digP (P := P) (k := k) (sh := sh) (A := (4 * P) ^ k) (N := N) (i5 := i5) (K := fun c0_22 i1_22 i2_22 i3_22 i4_22 i5_22 i6_22 v_22 =>
      f_X11_plan_l128 (fun c0_29 i1_29 i2_29 i3_29 i4_29 i5_29 i6_29 v_29 =>
      nv (wu v_29 c0_29 34 (v_29 c0_29 1)) fun v30 =>
      gd (inB i1_29 (lnM (rfM c0_29 25)) = true) <|
      nv (wu v30 c0_29 35 (v30 (rfM c0_29 25) (Int32.toNatClampNeg i1_29))) fun v33 =>
      gd (inB i1_29 (lnM (rfM c0_29 23)) = true) <|
      nv (wu v33 c0_29 36 (v33 (rfM c0_29 23) (Int32.toNatClampNeg i1_29))) fun v36 =>
      f_X11_plan_l189 (fun c0_47 i1_47 i2_47 i3_47 i4_47 i5_47 i6_47 i8_47 v_47 =>
      f_X11_plan_b232 (fun c0 i1 i2 i3 i4 i5 i6 v => f_X11_plan_l65 K n c0 i1 i2 i3 i4 i5 i6 v) c0_47 i1_47 i2_47 i3_47 i4_47 i5_47 i6_47 i8_47 v_47) FU c0_29 i1_29 i2_29 i3_29 i4_29 i5_29 i6_29 1 0 v36) FU c0_22 i1_22 i2_22 i3_22 i4_22 i5_22 i6_22 0 v_22) hP0 hP6 hk (by omega) FU k v (by omega) (by unfold FU; omega) (by rw [hJ.2 0 (by omega), hp.1.2.1]) (fun j h1 h2 => by omega)
      rw [Nat.sub_self, Nat.pow_zero, Nat.div_one] at a1
      rw [a1]
      obtain ⟨v2, b1, b2, b3⟩ := copyP (i1 := nI sh) (i2 := nI k) (i3 := nI (4 * P)) (i4 := nI ((4 * P) ^ k)) (i5 := i5) (i6 := nI N) (K := fun c0_29 i1_29 i2_29 i3_29 i4_29 i5_29 i6_29 v_29 =>
      nv (wu v_29 c0_29 34 (v_29 c0_29 1)) fun v30 =>
      gd (inB i1_29 (lnM (rfM c0_29 25)) = true) <|
      nv (wu v30 c0_29 35 (v30 (rfM c0_29 25) (Int32.toNatClampNeg i1_29))) fun v33 =>
      gd (inB i1_29 (lnM (rfM c0_29 23)) = true) <|
      nv (wu v33 c0_29 36 (v33 (rfM c0_29 23) (Int32.toNatClampNeg i1_29))) fun v36 =>
      f_X11_plan_l189 (fun c0_47 i1_47 i2_47 i3_47 i4_47 i5_47 i6_47 i8_47 v_47 =>
      f_X11_plan_b232 (fun c0 i1 i2 i3 i4 i5 i6 v => f_X11_plan_l65 K n c0 i1 i2 i3 i4 i5 i6 v) c0_47 i1_47 i2_47 i3_47 i4_47 i5_47 i6_47 i8_47 v_47) FU c0_29 i1_29 i2_29 i3_29 i4_29 i5_29 i6_29 1 0 v36) FU 0 v1 (by omega) (by unfold FU; omega) (fun j hj => by omega)
      rw [nI_0] at b1
      have ts : (nI sh).toNatClampNeg = sh := tn (by omega)
      have is_ : inB (nI sh) 4 = true := inB_n (by omega) (by omega)
      have e1 : ∀ c, c ≠ 21 → c ≠ 22 → c ≠ 23 → v2 c = v c := fun c h1 h2 h3 => by rw [b2 c h1, a2 c h2 h3]
      rw [b1, nv_q, rfM25, rfM23, lnMh (show 15 ≤ 17 by omega) (by omega), lnMh (show 15 ≤ 15 by omega) (by omega), gd_t is_, nv_q, gd_t is_, nv_q, ts, wu_n (show 17 ≠ 0 by omega), wu_n (show 15 ≠ 0 by omega), wu_n (show 15 ≠ 0 by omega), e1 17 (by omega) (by omega) (by omega), e1 15 (by omega) (by omega) (by omega), e1 0 (by omega) (by omega) (by omega), hJ.1 17 (by omega) (by omega), hJ.1 15 (by omega) (by omega), hJ.2 1 (by omega)]
      have hR : mR P vM (wu (wu (wu v2 0 34 (vM 0 1)) 0 35 (vM 17 sh)) 0 36 (vM 15 sh)) (σM vM T sh) := by
        refine ⟨⟨fun c h1 h2 => by rw [wu_n (by omega), wu_n (by omega), wu_n (by omega), e1 c (by omega) (by omega) (by omega), hJ.1 c h1 h2], fun j hj => by rw [wu_j (by omega), wu_j (by omega), wu_j (by omega), e1 0 (by omega) (by omega) (by omega), hJ.2 j hj]⟩, by rw [wu_j (by omega), wu_j (by omega), wu_s, hT], by rw [wu_j (by omega), wu_s]; exact h17, by rw [wu_s]; exact h15, fun k hk => ?_⟩
        rw [wu_n (by omega), wu_n (by omega), wu_n (by omega), b3 k (by omega), a2 1 (by omega) (by omega), hJ.1 1 (by omega) (by omega)]
        exact hst k hk
      obtain ⟨x, v3, c1, c2, c3, c4⟩ := walkP (h := h) (k := k) (sh := sh) (A := (4 * P) ^ k) (N := N) (i5 := i5) (σ0 := σM vM T sh) (K := fun c0_47 i1_47 i2_47 i3_47 i4_47 i5_47 i6_47 i8_47 v_47 =>
      f_X11_plan_b232 (fun c0 i1 i2 i3 i4 i5 i6 v => f_X11_plan_l65 K n c0 i1 i2 i3 i4 i5 i6 v) c0_47 i1_47 i2_47 i3_47 i4_47 i5_47 i6_47 i8_47 v_47) hp hh hk hsh h16 hP0 FU 0 (σM vM T sh) (wu (wu (wu v2 0 34 (vM 0 1)) 0 35 (vM 17 sh)) 0 36 (vM 15 sh)) (by omega) (by unfold FU; omega) hw hR (fun i hi => by
        rw [wu_n (show 22 ≠ 0 by omega), wu_n (show 22 ≠ 0 by omega), wu_n (show 22 ≠ 0 by omega), wu_n (show 23 ≠ 0 by omega), wu_n (show 23 ≠ 0 by omega), wu_n (show 23 ≠ 0 by omega), b2 22 (by omega), b2 23 (by omega)]
        exact a3 i hi) rfl
      rw [nI_0] at c1
      rw [c1]
      have e2 : ∀ c, c ≠ 0 → c ≠ 21 → v3 c = v2 c := fun c h1 h2 => by rw [c2 c h1 h2, wu_n h1, wu_n h1, wu_n h1]
      have e3 : ∀ j, j ≠ 34 → j ≠ 35 → j ≠ 36 → v3 0 j = v 0 j := fun j h1 h2 h3 => by rw [c3 j h1 h2 h3, wu_j h3, wu_j h2, wu_j h1, e1 0 (by omega) (by omega) (by omega)]
      have hJ3 : nJ vM v3 := ⟨fun c h1 h2 => by rw [e2 c (by omega) (by omega), e1 c (by omega) (by omega) (by omega), hJ.1 c h1 h2], fun j hj => by rw [e3 j (by omega) (by omega) (by omega), hJ.2 j hj]⟩
      have hB3 : bM k (4 * P) vM v3 i5 (enu (tpp vM F E h) cnS (4 * P) (σM vM T sh) k 0 none N) := bM_c hB (e3 41 (by omega) (by omega) (by omega)) (by rw [e2 24 (by omega) (by omega), e1 24 (by omega) (by omega) (by omega)]) (by rw [e2 25 (by omega) (by omega), e1 25 (by omega) (by omega) (by omega)])
      have hd3 : ∀ i, i < k → v3 22 i = nI (dg (4 * P) k N i / 4) ∧ v3 23 i = nI (dg (4 * P) k N i % 4) := fun i hi => by
        rw [e2 22 (by omega) (by omega), e2 23 (by omega) (by omega), b2 22 (by omega), b2 23 (by omega)]
        exact a3 i hi
      unfold f_X11_plan_b232
      have hE : ∀ B', enu (tpp vM F E h) cnS (4 * P) (σM vM T sh) k 0 none (N + 1) = B' → bM k (4 * P) vM v3 i5 B' → ∃ (i5' : Int32) (v' : VV), f_X11_plan_l65 K n 0 (nI sh) (nI k) (nI (4 * P)) (nI ((4 * P) ^ k)) i5 (nI (N + 1)) v3 = K i5' v' ∧ nJ vM v' ∧ bM k (4 * P) vM v' i5' (enu (tpp vM F E h) cnS (4 * P) (σM vM T sh) k 0 none ((4 * P) ^ k)) := fun B' h1 h2 => enuL hp hh hk hsh h16 hP0 hT h17 h15 hst hw n (N + 1) i5 v3 (by omega) (by omega) hJ3 (by rw [h1]; exact h2)
      rcases c4 with ⟨rfl, c5⟩ | ⟨rfl, σ', c5, c6, c7⟩
      · rw [if_pos rfl, nv_q, nI_1]
        refine hE _ ?_ hB3
        rw [enu, Nat.zero_add, c5]
      · have hstep : enu (tpp vM F E h) cnS (4 * P) (σM vM T sh) k 0 none (N + 1) = upB (enu (tpp vM F E h) cnS (4 * P) (σM vM T sh) k 0 none N) σ'.2.2.1 N := by
          rw [enu, Nat.zero_add, c5]
        have hc' := c6.2.2.1
        rw [if_neg (by decide), c7.2.2.1]
        have upd : upB (enu (tpp vM F E h) cnS (4 * P) (σM vM T sh) k 0 none N) σ'.2.2.1 N = some (σ'.2.2.1, N) → ∃ (i5' : Int32) (v' : VV), f_X11_plan_l260 (fun c0_63 i1_63 i2_63 i3_63 i4_63 i5_63 i6_63 v_63 =>
      nv (i6_63 + 1) fun x64 =>
      f_X11_plan_l65 K n c0_63 i1_63 i2_63 i3_63 i4_63 i5_63 x64 v_63) FU 0 (nI sh) (nI k) (nI (4 * P)) (nI ((4 * P) ^ k)) (nI σ'.2.2.1) (nI N) 0 (wu v3 0 41 (nI k)) = K i5' v' ∧ nJ vM v' ∧ bM k (4 * P) vM v' i5' (enu (tpp vM F E h) cnS (4 * P) (σM vM T sh) k 0 none ((4 * P) ^ k)) := fun hu => by
          obtain ⟨v4, d1, d2, d3⟩ := keepP (i1 := nI sh) (i3 := nI (4 * P)) (i4 := nI ((4 * P) ^ k)) (i5 := nI σ'.2.2.1) (i6 := nI N) (K := fun c0_63 i1_63 i2_63 i3_63 i4_63 i5_63 i6_63 v_63 =>
      nv (i6_63 + 1) fun x64 =>
      f_X11_plan_l65 K n c0_63 i1_63 i2_63 i3_63 i4_63 i5_63 x64 v_63) hk FU 0 (wu v3 0 41 (nI k)) (by omega) (by unfold FU; omega) (fun j hj => by omega)
          rw [nI_0] at d1
          rw [d1, nv_q, nI_1]
          refine enuL hp hh hk hsh h16 hP0 hT h17 h15 hst hw n (N + 1) (nI σ'.2.2.1) v4 (by omega) (by omega) ⟨fun c h1 h2 => by rw [d2 c (by omega) (by omega), wu_n (by omega), hJ3.1 c h1 h2], fun j hj => by rw [d2 0 (by omega) (by omega), wu_j (by omega), hJ3.2 j hj]⟩ ?_
          rw [hstep, hu]
          refine ⟨rfl, hc', by rw [d2 0 (by omega) (by omega), wu_s], fun i hi => ?_⟩
          have := d3 i hi
          rw [wu_n (by omega), wu_n (by omega)] at this
          rw [this.1, this.2]
          exact hd3 i hi
        cases hBe : enu (tpp vM F E h) cnS (4 * P) (σM vM T sh) k 0 none N with
        | none =>
          rw [hBe] at hB3 hstep upd
          have h5 := hB3.1
          rw [h5, if_neg (by
            rw [Int32.le_iff_toInt_le, nI_toInt (by omega), show (-1 : Int32).toInt = -1 from rfl]
            omega), nv_q, nv_q]
          exact upd rfl
        | some y =>
          obtain ⟨c0, a0⟩ := y
          rw [hBe] at hB3 hstep upd
          obtain ⟨h5, h6, -⟩ := id hB3
          by_cases hlt : c0 < σ'.2.2.1
          · rw [h5, if_neg (nI_ge hlt (by omega)), nv_q, nv_q]
            refine upd ?_
            unfold upB
            dsimp only
            rw [if_pos hlt]
          · rw [h5, if_pos (nI_le (by omega) (by omega)), nv_q, nI_1, ← h5]
            refine hE (some (c0, a0)) ?_ hB3
            rw [hstep]
            unfold upB
            dsimp only
            rw [if_neg hlt]
end
