theorem FU_s (k : Nat) (h : k ≤ 60000) : FU = (60000 - k) + k := by unfold FU; omega
theorem port_step {k : Nat → VV → Option (Int32 × VV)} {n P g : Nat} {v : VV} (hg : g < 3) (hP : P < 6) (h0 : v 0 0 = nI P) : f_X11_port_l14 k (n + 1) 0 (nI g) v = f_X11_port_l14 k n 0 (nI (g + 1)) (wu (wu v 4 (3 * P + g) 10) 5 (3 * P + g) 10) := by
  rw [f_X11_port_l14, if_neg (show ¬ (3 : Int32) ≤ nI g from nI_ge (b := 3) hg (by omega))]
  have e : (nI (3 * P + g)).toNatClampNeg = 3 * P + g := tn (by omega)
  have i : inB (nI (3 * P + g)) 18 = true := inB_n (by omega) (by omega)
  simp only [nv, rfM6, rfM7, h0, k3, e, wu_n (show (0 : Nat) ≠ 4 by omega), lnMs (show 1 ≤ 4 by omega) (by omega), lnMs (show 1 ≤ 5 by omega) (by omega), gd_t i, nI_1]
theorem port_end {k : Nat → VV → Option (Int32 × VV)} {n : Nat} {v : VV} : f_X11_port_l14 k (n + 1) 0 (nI 3) v = k 0 v := by
  rw [f_X11_port_l14, if_pos (show (3 : Int32) ≤ nI 3 by decide)]
theorem st_port : Step_port Inv := by
  intro vC vM hI
  obtain ⟨P, T, F, S, E, i1, i2, i3, i4, i5, i6, i7⟩ := id hI
  obtain ⟨s1, s2, s3, s4, s5⟩ := id i1
  unfold F_X10_port f_X10_port F_X11_port f_X11_port
  rw [rfC00, s1.1, s1.2.1]
  by_cases hp : P < 6
  · rw [if_pos (show nI P < 6 from nI_lt (b := 6) hp (by omega)), if_neg (show ¬ nI P = 6 from fun h => by have := nI_inj (b := 6) (by omega) (by omega) h; omega)]
    rw [FU_s 4 (by omega)]
    rw [show (0 : Int32) = nI 0 from rfl, port_step (by omega) hp s1.2.1, port_step (by omega) hp (by rw [wu_n (by omega), wu_n (by omega)]; exact s1.2.1), port_step (by omega) hp (by rw [wu_n (by omega), wu_n (by omega), wu_n (by omega), wu_n (by omega)]; exact s1.2.1), port_end]
    generalize hv : wu (wu (wu (wu (wu (wu vM 4 (3 * P + 0) 10) 5 (3 * P + 0) 10) 4 (3 * P + (0 + 1)) 10) 5 (3 * P + (0 + 1)) 10) 4 (3 * P + (0 + 1 + 1)) 10) 5 (3 * P + (0 + 1 + 1)) 10 = v1
    have hc : ∀ c, c ≠ 4 → c ≠ 5 → v1 c = vM c := by
      intro c h4 h5
      rw [← hv, wu_n h5, wu_n h4, wu_n h5, wu_n h4, wu_n h5, wu_n h4]
    have h4 : ∀ k, v1 4 k = if 3 * P ≤ k ∧ k < 3 * P + 3 then 10 else vM 4 k := by
      intro k
      rw [← hv]
      simp only [wu_g]
      by_cases a : 3 * P ≤ k ∧ k < 3 * P + 3
      · rw [if_pos a]
        rcases (show k = 3 * P + 0 ∨ k = 3 * P + (0 + 1) ∨ k = 3 * P + (0 + 1 + 1) by omega) with e | e | e <;> subst e <;> simp
      · rw [if_neg a]
        simp [show k ≠ 3 * P by omega, show k ≠ 3 * P + 1 by omega, show k ≠ 3 * P + (1 + 1) by omega]
        try omega
    have h5 : ∀ k, v1 5 k = if 3 * P ≤ k ∧ k < 3 * P + 3 then 10 else vM 5 k := by
      intro k
      rw [← hv]
      simp only [wu_g]
      by_cases a : 3 * P ≤ k ∧ k < 3 * P + 3
      · rw [if_pos a]
        rcases (show k = 3 * P + 0 ∨ k = 3 * P + (0 + 1) ∨ k = 3 * P + (0 + 1 + 1) by omega) with e | e | e <;> subst e <;> simp
      · rw [if_neg a]
        simp [show k ≠ 3 * P by omega, show k ≠ 3 * P + 1 by omega, show k ≠ 3 * P + (1 + 1) by omega]
        try omega
    simp only [nv]
    have h00 : v1 0 = vM 0 := hc 0 (by omega) (by omega)
    refine ⟨nI P, wu vC 1 3 (nI (P + 1)), wu v1 0 0 (nI (P + 1)), by rw [nI_1], ?_, P + 1, T, F, S, E, ?_, ?_, iPo_c i3 (fun k hk => wu_n (by omega)) (fun c _ _ => by rw [wu_n (by omega), hc c (by omega) (by omega)]), iWy_c i4 (fun k hk => wu_n (by omega)) (by rw [wu_n (by omega), hc _ (by omega) (by omega)]), ?_, ?_, iPl_c i7 (by rw [wu_n (by omega)]) (wu_n (by omega)) (wu_n (by omega)) (by rw [wu_j (by omega), h00]) (by rw [wu_n (by omega), hc _ (by omega) (by omega)]) (by rw [wu_n (by omega), hc _ (by omega) (by omega)])⟩
    · rw [h00, s1.2.1, nI_1, wu_s, nI_pred]
    · unfold iSc
      simp only [wu_g, h00]
      simp
      exact ⟨by omega, s2, s3, s4, s5⟩
    · intro k hk
      have h2 := i2 k hk
      rw [wu_n (show 37 + k ≠ 1 by omega)]
      rw [wu_n (show 1 ≠ 0 by omega), wu_n (show 2 ≠ 0 by omega), wu_n (show 3 ≠ 0 by omega), wu_n (show 4 ≠ 0 by omega), wu_n (show 5 ≠ 0 by omega), wu_n (show 6 ≠ 0 by omega)]
      rw [hc 1 (by omega) (by omega), hc 2 (by omega) (by omega), hc 3 (by omega) (by omega), hc 6 (by omega) (by omega), h4, h5]
      obtain ⟨q1, q2, q3, q4, q5, q6, q7, q8⟩ := h2
      refine ⟨q1, q2, q3, q4, q5, fun h => ?_, fun h => q7 (by omega), q8⟩
      by_cases a : 3 * P ≤ k ∧ k < 3 * P + 3
      · rw [if_pos a, if_pos a]
        obtain ⟨x1, x2, x3⟩ := q7 a.1
        exact ⟨x1, x2, ⟨10, by omega, by omega, rfl⟩, ⟨10, by omega, by omega, rfl⟩⟩
      · rw [if_neg a, if_neg a]
        exact q6 (by omega)
    · have := iSp_c (vC' := wu vC 1 3 (nI (P + 1))) (vM' := wu v1 0 0 (nI (P + 1))) i5 (fun k hk => wu_n (by omega)) (fun c _ _ => by rw [wu_n (by omega), hc c (by omega) (by omega)])
      intro s hs
      obtain ⟨x1, x2⟩ := this s hs
      refine ⟨fun h => ?_, x2⟩
      obtain ⟨y1, y2, y3, ⟨p, hp1, hp2⟩, y5⟩ := x1 h
      exact ⟨y1, y2, y3, ⟨p, by omega, hp2⟩, y5⟩
    · have := iEv_c (vC' := wu vC 1 3 (nI (P + 1))) (vM' := wu v1 0 0 (nI (P + 1))) i6 (by rw [wu_n (by omega)]) (fun c _ _ => wu_n (by omega)) (by rw [wu_j (by omega), h00]) (fun c _ _ => by rw [wu_n (by omega), hc c (by omega) (by omega)])
      obtain ⟨x1, x2, x3, x4⟩ := this
      refine ⟨x1, x2, x3, fun e he => ?_⟩
      obtain ⟨y1, ⟨k, hk1, hk2⟩, y3⟩ := x4 e he
      exact ⟨y1, ⟨k, by omega, hk2⟩, y3⟩
  · have e6 : P = 6 := by have := s1.2.2; omega
    subst e6
    rw [if_neg (show ¬ nI 6 < 6 by decide), if_pos (show nI 6 = 6 by decide)]
    exact ⟨_, _, _, rfl, rfl, hI⟩
theorem st_planned : Step_planned Inv := by
  intro vC vM hI a0 a1
  obtain ⟨P, T, F, S, E, i1, i2, i3, i4, i5, i6, n, hn, p1, p2, p3⟩ := id hI
  unfold F_X10_planned f_X10_planned F_X11_planned f_X11_planned
  rw [rfC0b, p1, p2]
  have e := win a0 0 (nI n - 1) 0 (Int32.toInt64 (nI n - 1)) rfl rfl vC vM
  rw [← and_assoc, rng (by omega)] at e
  rcases e with ⟨⟨i, hi, rfl⟩, e1, e2⟩ | ⟨-, e1, e2⟩
  · rw [e1, e2, bi_s, bi_s, if_neg n10, if_neg n10]
    have hh := p3 i hi
    have ti : (nI i).toNatClampNeg = i := tn (by omega)
    have ii : inB (nI i) 3 = true := inB_n (by omega) (by omega)
    simp only [show rfC 15 11 = 23 from rfl, show rfC 15 12 = 24 from rfl, show lnC 23 = 3 from rfl, show lnC 24 = 3 from rfl, rfM39, rfM40, show lnM 24 = 3 from rfl, show lnM 25 = 3 from rfl, ti, gd_t ii, hh.1, hh.2]
    by_cases h0 : a1 = 0
    · simp only [if_pos h0]
      exact ⟨_, _, _, rfl, rfl, hI⟩
    · simp only [if_neg h0]
      by_cases h1 : a1 = 1
      · simp only [if_pos h1]
        exact ⟨_, _, _, rfl, rfl, hI⟩
      · simp only [if_neg h1]
        exact ⟨_, _, _, rfl, rfl, hI⟩
  · rw [e1, e2, bi_s, bi_s, if_pos z00, if_pos z00]
    exact ⟨_, _, _, rfl, rfl, hI⟩
