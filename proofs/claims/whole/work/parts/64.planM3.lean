def mR (P : Nat) (vM v : VV) (σ : SG) : Prop := nJ vM v ∧ v 0 34 = nI σ.1 ∧ v 0 35 = nI σ.2.2.1 ∧ v 0 36 = nI σ.2.2.2 ∧ ∀ k, k < 3 * P → v 21 k = nI (σ.2.1 k)
section
variable {P F E : Nat} {vM : VV}
theorem legT {t l q c1 : Nat} {s1 : Nat → Nat} {i3 i5 : Int32} {v : VV} (hp : pfz P F E vM) (hl : l ≤ 9) (hs : ∀ k, k < 3 * P → s1 k ≤ 1000) (hJ : nJ vM v) (h34 : v 0 34 = nI t) (h35 : v 0 35 = nI c1) (hc : c1 ≤ 1000000) (hv : ∀ k, k < 3 * P → v 21 k = nI (s1 k)) : (c1 < F * l ∧ f_X11_trip_b170 0 (nI q) i3 (nI l) i5 v = some (0, v)) ∨ (F * l ≤ c1 ∧ ∃ v', f_X11_trip_b170 0 (nI q) i3 (nI l) i5 v = f_X11_trip_l234 FU 0 i3 i5 (3 * nI q + i3) v' ∧ (∀ c, c ≠ 0 → c ≠ 21 → v' c = v c) ∧ (∀ j, j ≠ 34 → j ≠ 35 → j ≠ 36 → v' 0 j = v 0 j) ∧ v' 0 34 = nI (t + l) ∧ v' 0 35 = nI (c1 - F * l) ∧ v' 0 36 = nI q ∧ ∀ k, k < 3 * P → v' 21 k = nI (tkn vM E k t (s1 k) l)) := by
  have hF := hp.1.2.2.1
  have hF2 := hp.1.2.2.2.1
  have hFl : F * l ≤ 180 := by
    have := Nat.mul_le_mul hF2 hl
    omega
  unfold f_X11_trip_b170
  rw [hJ.2 2 (by omega), hF, pk_mul, h35]
  by_cases h : F * l ≤ c1
  · right
    refine ⟨h, ?_⟩
    rw [if_pos (nI_le h (by omega)), pk_sub h, nv_q]
    obtain ⟨v1, g1, g2, g3, g4, g5⟩ := ticksTh (t := t) (l := l) (s := s1) (i2 := nI q) (i3 := i3) (i5 := i5) (K := fun c0_36 i2_36 i3_36 i5_36 v_36 =>
    nv (wu v_36 c0_36 36 i2_36) fun v37 =>
    nv (((3 * i2_36) + i3_36)) fun x38 =>
    f_X11_trip_l234 FU c0_36 i3_36 i5_36 x38 v37) hp hs hl FU 0 (wu v 0 35 (nI (c1 - F * l))) (by omega) (by unfold FU; omega) ⟨fun c h1 h2 => by rw [wu_n (by omega), hJ.1 c h1 h2], fun j hj => by rw [wu_j (by omega), hJ.2 j hj]⟩ (by rw [wu_j (by omega), h34]; rfl) (fun k hk => by rw [wu_n (by omega), hv k hk]; rfl)
    rw [nI_0] at g1
    rw [g1, nv_q, nv_q]
    refine ⟨_, rfl, fun c h0 h1 => by rw [wu_n h0, g2 c h0 h1, wu_n h0], fun j a b c => by rw [wu_j c, g3 j a, wu_j b], by rw [wu_j (by omega), g4], by rw [wu_j (by omega), g3 35 (by omega), wu_s], wu_s, fun k hk => by rw [wu_n (by omega), g5 k hk]⟩
  · left
    refine ⟨by omega, ?_⟩
    rw [if_neg (nI_ge (by omega) (by omega))]
theorem tripM {h q g : Nat} {σ : SG} {v : VV} (hp : pfz P F E vM) (hh : h ≤ 20) (hw : wfS P σ) (hR : mR P vM v σ) (hq : q < P) (hg : g < 4) : ∃ (r : Int32) (v' : VV), F_X11_trip 0 (nI h) (nI q) (nI g) v = some (r, v') ∧ (∀ c, c ≠ 0 → c ≠ 21 → v' c = v c) ∧ (∀ j, j ≠ 34 → j ≠ 35 → j ≠ 36 → v' 0 j = v 0 j) ∧ ((r = 0 ∧ tpg vM F E h σ q g = none) ∨ (r = 1 ∧ ∃ σ', tpg vM F E h σ q g = some σ' ∧ mR P vM v' σ')) := by
  have hP6 := hp.1.1
  obtain ⟨hJ, h34, h35, h36, hv⟩ := hR
  obtain ⟨w1, w2, w3, w4⟩ := hw
  have hw : wfS P σ := ⟨w1, w2, w3, w4⟩
  have tk : (nI (6 * σ.2.2.2 + q)).toNatClampNeg = 6 * σ.2.2.2 + q := tn (by omega)
  have ik : inB (nI (6 * σ.2.2.2 + q)) 36 = true := inB_n (by omega) (by omega)
  have tq : (nI q).toNatClampNeg = q := tn (by omega)
  have iq : inB (nI q) 6 = true := inB_n (by omega) (by omega)
  have tp : (nI σ.2.2.2).toNatClampNeg = σ.2.2.2 := tn (by omega)
  have ip : inB (nI σ.2.2.2) 6 = true := inB_n (by omega) (by omega)
  obtain ⟨l1, l2, -⟩ := hp.1.2.2.2.2.2.2 σ.2.2.2 q (by omega) (by omega)
  have hz : oo vM σ.2.2.2 q = 0 → ∃ (r : Int32) (v' : VV), some ((0 : Int32), v) = some (r, v') ∧ (∀ c, c ≠ 0 → c ≠ 21 → v' c = v c) ∧ (∀ j, j ≠ 34 → j ≠ 35 → j ≠ 36 → v' 0 j = v 0 j) ∧ ((r = 0 ∧ tpg vM F E h σ q g = none) ∨ (r = 1 ∧ ∃ σ', tpg vM F E h σ q g = some σ' ∧ mR P vM v' σ')) := fun h0 => ⟨0, v, rfl, fun _ _ _ => rfl, fun _ _ _ _ => rfl, Or.inl ⟨rfl, by unfold tpg; rw [if_pos h0]⟩⟩
  unfold F_X11_trip f_X11_trip
  rw [h36, k6, rfM13, rfM12, lnMw, lnM10, gd_t ik, nv_q, tk, hJ.1 11 (by omega) (by omega), l1]
  by_cases hl0 : WW vM σ.2.2.2 q = 0
  · rw [if_pos (by rw [hl0]; rfl)]
    exact hz (by unfold oo; rw [hl0]; split <;> (try split) <;> rfl)
  · rw [if_neg (nI_ne0 (by omega) (by omega)), gd_t iq, tq, hJ.1 10 (by omega) (by omega)]
    by_cases hsq : vM 10 q = 0
    · rw [if_pos hsq, gd_t ip, tp]
      by_cases hsp : vM 10 σ.2.2.2 = 0
      · rw [if_pos hsp, h34, nI_add]
        have ol : oo vM σ.2.2.2 q = WW vM σ.2.2.2 q := by unfold oo; rw [if_pos hsp, if_pos hsq]
        generalize hll : WW vM σ.2.2.2 q = l at *
        by_cases h9 : σ.1 + l ≤ 999
        · rw [if_pos (show nI (σ.1 + l) ≤ 999 from nI_le (b := 999) h9 (by omega)), nv_q, k3]
          have tpgE : tpg vM F E h σ q g = if (bu vM h σ g).2.2.1 < F * l then none else if (bu vM h σ g).1 = 0 then some (σ.1 + l, fun k => tkn vM E k σ.1 (σ.2.1 k) l, σ.2.2.1 - F * l, q) else some (σ.1 + l, fun k => if k = 3 * q + g then (slr vM F E h σ g q l).2.1 else st1 vM E h σ g l k, (slr vM F E h σ g q l).2.2.1, q) := by
            unfold tpg
            rw [ol, if_neg hl0, if_neg (by omega)]
          rw [tpgE]
          by_cases g3 : g = 3
          · have hb : bu vM h σ g = (0, 0, σ.2.2.1, 0, 0) := by unfold bu; rw [if_pos g3]
            rw [hb]
            dsimp only
            rw [show FU = 59999 + 1 from rfl, f_X11_trip_l70, if_pos (by rw [g3]; decide)]
            rcases legT (t := σ.1) (l := l) (q := q) (c1 := σ.2.2.1) (s1 := σ.2.1) (i3 := nI g) (i5 := 0) hp l2 w2 hJ h34 h35 w3 hv with ⟨a, b⟩ | ⟨a, v1, b1, b2, b3, b4, b5, b6, b7⟩
            · rw [b, if_pos a]
              exact ⟨0, v, rfl, fun _ _ _ => rfl, fun _ _ _ _ => rfl, Or.inl ⟨rfl, rfl⟩⟩
            · rw [b1, if_neg (by omega), show FU = 59999 + 1 from rfl, f_X11_trip_l234, if_pos (by rw [g3]; decide), if_pos rfl]
              exact ⟨1, v1, rfl, b2, b3, Or.inr ⟨rfl, _, rfl, ⟨fun c h1 h2 => by rw [b2 c (by omega) (by omega), hJ.1 c h1 h2], fun j hj => by rw [b3 j (by omega) (by omega) (by omega), hJ.2 j hj]⟩, b4, b5, b6, b7⟩⟩
          · have hg3 : g < 3 := by omega
            have hbE : bu vM h σ g = buyN (BA vM (3 * σ.2.2.2 + g)) (MD vM (3 * σ.2.2.2 + g)) (TX vM σ.2.2.2) h (σ.2.1 (3 * σ.2.2.2 + g)) σ.2.2.1 0 0 0 := by unfold bu; rw [if_neg g3]
            obtain ⟨v0, a1, a2, a3, a4, a5, a6⟩ := buyT (i2 := nI q) (i4 := nI l) (K := fun c0_31 i2_31 i3_31 i4_31 i5_31 v_31 =>
          f_X11_trip_b170 c0_31 i2_31 i3_31 i4_31 i5_31 v_31) hp hh w4 hg3 FU 0 (σ.2.1 (3 * σ.2.2.2 + g)) σ.2.2.1 0 0 v (by omega) (by unfold FU; omega) hJ h36 (hv _ (by omega)) h35 (w2 _ (by omega)) w3
            rw [Nat.sub_zero, ← hbE, nI_0] at a1
            rw [Nat.sub_zero, ← hbE] at a5 a6
            rw [a1]
            have bb := bu_b (h := h) (v := vM) hw hg3
            have hJ0 : nJ vM v0 := ⟨fun c h1 h2 => by rw [a2 c (by omega) (by omega), hJ.1 c h1 h2], fun j hj => by rw [a3 j (by omega), hJ.2 j hj]⟩
            have hv0 : ∀ k, k < 3 * P → v0 21 k = nI (if k = 3 * σ.2.2.2 + g then (bu vM h σ g).2.1 else σ.2.1 k) := fun k hk => by
              by_cases e : k = 3 * σ.2.2.2 + g
              · rw [if_pos e, e, a5]
              · rw [if_neg e, a4 k e, hv k hk]
            rcases legT (t := σ.1) (l := l) (q := q) (c1 := (bu vM h σ g).2.2.1) (s1 := fun k => if k = 3 * σ.2.2.2 + g then (bu vM h σ g).2.1 else σ.2.1 k) (i3 := nI g) (i5 := nI (bu vM h σ g).1) hp l2 (fun k hk => by
              split
              · exact bb.2.1
              · exact w2 k hk) hJ0 (by rw [a3 34 (by omega), h34]) a6 (by omega) hv0 with ⟨a, b⟩ | ⟨a, v1, b1, b2, b3, b4, b5, b6, b7⟩
            · rw [b, if_pos a]
              exact ⟨0, v0, rfl, a2, fun j _ h9 _ => a3 j h9, Or.inl ⟨rfl, rfl⟩⟩
            · rw [b1, if_neg (by omega), k3]
              have e1 : ∀ c, c ≠ 0 → c ≠ 21 → v1 c = v c := fun c h1 h2 => by rw [b2 c h1 h2, a2 c h1 h2]
              have e2 : ∀ j, j ≠ 34 → j ≠ 35 → j ≠ 36 → v1 0 j = v 0 j := fun j h1 h2 h3 => by rw [b3 j h1 h2 h3, a3 j h2]
              have hJ1 : nJ vM v1 := ⟨fun c h1 h2 => by rw [e1 c (by omega) (by omega), hJ.1 c h1 h2], fun j hj => by rw [e2 j (by omega) (by omega) (by omega), hJ.2 j hj]⟩
              have s1l := st1_le (E := E) (h := h) (l := l) (v := vM) hw hg3
              obtain ⟨v2, d1, d2, d3, d4, d5, d6⟩ := sellT (q := q) hp hq hg3 FU (bu vM h σ g).1 (st1 vM E h σ g l (3 * q + g)) ((bu vM h σ g).2.2.1 - F * l) 0 0 0 v1 (by omega) (by unfold FU; omega) hJ1 (b7 _ (by omega)) b5 (s1l _ (by omega)) (by omega)
              rw [d1]
              have f1 : ∀ c, c ≠ 0 → c ≠ 21 → v2 c = v c := fun c h1 h2 => by rw [d2 c h1 h2, e1 c h1 h2]
              have f2 : ∀ j, j ≠ 34 → j ≠ 35 → j ≠ 36 → v2 0 j = v 0 j := fun j h1 h2 h3 => by rw [d3 j h2, e2 j h1 h2 h3]
              have hJ2 : nJ vM v2 := ⟨fun c h1 h2 => by rw [f1 c (by omega) (by omega), hJ.1 c h1 h2], fun j hj => by rw [f2 j (by omega) (by omega) (by omega), hJ.2 j hj]⟩
              refine ⟨1, v2, rfl, f1, f2, Or.inr ⟨rfl, ?_⟩⟩
              by_cases hu : (bu vM h σ g).1 = 0
              · rw [if_pos hu]
                have b0 := bu_0 hu
                have hst : ∀ k, st1 vM E h σ g l k = tkn vM E k σ.1 (σ.2.1 k) l := fun k => by
                  unfold st1
                  by_cases e : k = 3 * σ.2.2.2 + g
                  · rw [if_pos e, b0.2 g3, e]
                  · rw [if_neg e]
                rw [hu, sellN] at d5 d6
                refine ⟨_, rfl, hJ2, by rw [d3 34 (by omega), b4], ?_, by rw [d3 36 (by omega), b6], fun k hk => ?_⟩
                · rw [d6, b0.1]
                · dsimp only
                  rw [← hst k]
                  by_cases e : k = 3 * q + g
                  · rw [e, d5]
                  · rw [d4 k e, b7 k hk]
                    rfl
              · rw [if_neg hu]
                refine ⟨_, rfl, hJ2, by rw [d3 34 (by omega), b4], d6, by rw [d3 36 (by omega), b6], fun k hk => ?_⟩
                dsimp only
                by_cases e : k = 3 * q + g
                · rw [if_pos e, e, d5]
                  rfl
                · rw [if_neg e, d4 k e, b7 k hk]
                  rfl
        · rw [if_neg (show ¬ nI (σ.1 + l) ≤ 999 from nI_ge (a := 999) (by omega) (by omega))]
          exact ⟨0, v, rfl, fun _ _ _ => rfl, fun _ _ _ _ => rfl, Or.inl ⟨rfl, by unfold tpg; rw [ol, if_neg hl0, if_pos (by omega)]⟩⟩
      · rw [if_neg hsp]
        exact hz (by unfold oo; rw [if_neg hsp])
    · rw [if_neg hsq]
      exact hz (by unfold oo; rw [if_neg hsq]; split <;> rfl)
end
