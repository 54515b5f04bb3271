/-! one trip, purely: tick, stocks, coins, port -/
abbrev SG : Type := Nat × (Nat → Nat) × Nat × Nat
def bu (v : VV) (h : Nat) (σ : SG) (g : Nat) : Nat × Nat × Nat × Nat × Nat := if g = 3 then (0, 0, σ.2.2.1, 0, 0) else buyN (BA v (3 * σ.2.2.2 + g)) (MD v (3 * σ.2.2.2 + g)) (TX v σ.2.2.2) h (σ.2.1 (3 * σ.2.2.2 + g)) σ.2.2.1 0 0 0
def st1 (v : VV) (E h : Nat) (σ : SG) (g l : Nat) : Nat → Nat := fun k => tkn v E k σ.1 (if k = 3 * σ.2.2.2 + g then (bu v h σ g).2.1 else σ.2.1 k) l
def slr (v : VV) (F E h : Nat) (σ : SG) (g q l : Nat) : Nat × Nat × Nat × Nat × Nat := sellN (BA v (3 * q + g)) (MD v (3 * q + g)) (TX v q) (bu v h σ g).1 (st1 v E h σ g l (3 * q + g)) ((bu v h σ g).2.2.1 - F * l) 0 0 0
def tpg (v : VV) (F E h : Nat) (σ : SG) (q g : Nat) : Option SG := if oo v σ.2.2.2 q = 0 then none else if 999 < σ.1 + oo v σ.2.2.2 q then none else if (bu v h σ g).2.2.1 < F * oo v σ.2.2.2 q then none else if (bu v h σ g).1 = 0 then some (σ.1 + oo v σ.2.2.2 q, fun k => tkn v E k σ.1 (σ.2.1 k) (oo v σ.2.2.2 q), σ.2.2.1 - F * oo v σ.2.2.2 q, q) else some (σ.1 + oo v σ.2.2.2 q, fun k => if k = 3 * q + g then (slr v F E h σ g q (oo v σ.2.2.2 q)).2.1 else st1 v E h σ g (oo v σ.2.2.2 q) k, (slr v F E h σ g q (oo v σ.2.2.2 q)).2.2.1, q)
def tpp (v : VV) (F E h : Nat) (σ : SG) (x : Nat) : Option SG := tpg v F E h σ (x / 4) (x % 4)
def wfS (P : Nat) (σ : SG) : Prop := σ.1 ≤ 999 ∧ (∀ k, k < 3 * P → σ.2.1 k ≤ 1000) ∧ σ.2.2.1 ≤ 1000000 ∧ σ.2.2.2 < P
theorem buyN_0 {b m tx : Nat} : ∀ (k s c u w t : Nat), (buyN b m tx k s c u w t).1 = u → (buyN b m tx k s c u w t).2.2.1 = c ∧ (buyN b m tx k s c u w t).2.1 = s
  | 0, s, c, u, w, t, _ => ⟨rfl, rfl⟩
  | k + 1, s, c, u, w, t, h => by
    rw [buyN] at h ⊢
    split
    · exact ⟨rfl, rfl⟩
    · rename_i h0
      rw [if_neg h0] at h
      split
      · rename_i h1
        rw [if_pos h1] at h
        have := (buyN_b (b := b) (m := m) (tx := tx) k (s - 1) (c - (prc b m s + tx)) (u + 1) (w + prc b m s) (t + tx)).2.1
        omega
      · exact ⟨rfl, rfl⟩
theorem bu_0 {v : VV} {h : Nat} {σ : SG} {g : Nat} (h0 : (bu v h σ g).1 = 0) : (bu v h σ g).2.2.1 = σ.2.2.1 ∧ (g ≠ 3 → (bu v h σ g).2.1 = σ.2.1 (3 * σ.2.2.2 + g)) := by
  unfold bu at h0 ⊢
  by_cases e : g = 3
  · rw [if_pos e]
    exact ⟨rfl, fun h9 => absurd e h9⟩
  · rw [if_neg e] at h0 ⊢
    have := buyN_0 _ _ _ _ _ _ h0
    exact ⟨this.1, fun _ => this.2⟩
theorem bu_b {P h : Nat} {v : VV} {σ : SG} {g : Nat} (hw : wfS P σ) (hg : g < 3) : (bu v h σ g).1 ≤ h ∧ (bu v h σ g).2.1 ≤ 1000 ∧ (bu v h σ g).2.2.1 ≤ σ.2.2.1 := by
  have hs := hw.2.1 (3 * σ.2.2.2 + g) (by have := hw.2.2.2; omega)
  unfold bu
  rw [if_neg (by omega)]
  have := buyN_b (b := BA v (3 * σ.2.2.2 + g)) (m := MD v (3 * σ.2.2.2 + g)) (tx := TX v σ.2.2.2) h (σ.2.1 (3 * σ.2.2.2 + g)) σ.2.2.1 0 0 0
  omega
theorem bu_c {P h : Nat} {v : VV} {σ : SG} {g : Nat} (hw : wfS P σ) (hg : g < 4) : (bu v h σ g).2.2.1 ≤ σ.2.2.1 := by
  by_cases e : g = 3
  · unfold bu
    rw [if_pos e]
    exact Nat.le_refl _
  · exact (bu_b hw (by omega)).2.2
theorem st1_le {P E h g l : Nat} {v : VV} {σ : SG} (hw : wfS P σ) (hg : g < 3) : ∀ k, k < 3 * P → st1 v E h σ g l k ≤ 1000 := by
  intro k hk
  unfold st1
  apply tkn_le
  split
  · exact (bu_b hw hg).2.1
  · exact hw.2.1 k hk
theorem tpg_wf {P F E h q g : Nat} {v : VV} {σ σ' : SG} (hw : wfS P σ) (hq : q < P) (hg : g < 4) (ht : tpg v F E h σ q g = some σ') : wfS P σ' := by
  unfold tpg at ht
  split at ht
  · exact absurd ht (by simp)
  · split at ht
    · exact absurd ht (by simp)
    · split at ht
      · exact absurd ht (by simp)
      · have hc := hw.2.2.1
        split at ht
        · cases ht
          refine ⟨?_, ?_, ?_, ?_⟩
          · dsimp only; omega
          · intro k hk
            exact tkn_le (hw.2.1 k hk)
          · dsimp only; omega
          · exact hq
        · rename_i hu
          cases ht
          have g3 : g < 3 := by
            by_cases e : g = 3
            · exfalso
              apply hu
              unfold bu
              rw [if_pos e]
            · omega
          have h1 := st1_le (E := E) (h := h) (l := oo v σ.2.2.2 q) (v := v) hw g3
          have h2 := bu_b (h := h) (v := v) hw g3
          have h3 := sellN_b (b := BA v (3 * q + g)) (m := MD v (3 * q + g)) (tx := TX v q) (bu v h σ g).1 (st1 v E h σ g (oo v σ.2.2.2 q) (3 * q + g)) ((bu v h σ g).2.2.1 - F * oo v σ.2.2.2 q) 0 0 0 (h1 _ (by omega)) (by omega)
          refine ⟨?_, ?_, h3.2.2.2.2, hq⟩
          · dsimp only; omega
          · intro k hk
            dsimp only
            split
            · exact h3.2.2.1
            · exact h1 k hk
/-- goods of which nothing is bought: alike -/
theorem tpg_0 {F E h q g g' : Nat} {v : VV} {σ : SG} (h0 : (bu v h σ g).1 = 0) (h1 : (bu v h σ g').1 = 0) : tpg v F E h σ q g = tpg v F E h σ q g' := by
  unfold tpg
  rw [if_pos h0, if_pos h1, (bu_0 h0).1, (bu_0 h1).1]
section
variable {P F E : Nat} {vM : VV}
theorem buyT {h p g : Nat} {i2 i4 : Int32} {K : Nat → Int32 → Int32 → Int32 → Int32 → VV → Option (Int32 × VV)} (hp : pfz P F E vM) (hh : h ≤ 20) (hpP : p < P) (hg : g < 3) : ∀ (n u s c w t : Nat) (v : VV), u ≤ h → h - u < n → nJ vM v → v 0 36 = nI p → v 21 (3 * p + g) = nI s → v 0 35 = nI c → s ≤ 1000 → c ≤ 1000000 → ∃ v', f_X11_trip_l70 K n 0 (nI h) i2 (nI g) i4 (nI u) (nI (3 * p + g)) v = K 0 i2 (nI g) i4 (nI (buyN (BA vM (3 * p + g)) (MD vM (3 * p + g)) (TX vM p) (h - u) s c u w t).1) v' ∧ (∀ c', c' ≠ 0 → c' ≠ 21 → v' c' = v c') ∧ (∀ j, j ≠ 35 → v' 0 j = v 0 j) ∧ (∀ k, k ≠ 3 * p + g → v' 21 k = v 21 k) ∧ v' 21 (3 * p + g) = nI (buyN (BA vM (3 * p + g)) (MD vM (3 * p + g)) (TX vM p) (h - u) s c u w t).2.1 ∧ v' 0 35 = nI (buyN (BA vM (3 * p + g)) (MD vM (3 * p + g)) (TX vM p) (h - u) s c u w t).2.2.1
  | 0, u, s, c, w, t, v, _, hn, _, _, _, _, _, _ => by omega
  | n + 1, u, s, c, w, t, v, hu, hn, hJ, h36, hs, hc, s1, c1 => by
    have hP6 := hp.1.1
    rw [f_X11_trip_l70, if_neg (show ¬ (3 : Int32) ≤ nI g from nI_ge (b := 3) hg (by omega))]
    by_cases e : u = h
    · subst e
      rw [if_pos (nI_le (Nat.le_refl _) (by omega)), Nat.sub_self, buyN]
      exact ⟨v, rfl, fun _ _ _ => rfl, fun _ _ => rfl, fun _ _ => rfl, hs, hc⟩
    · have tk : (nI (3 * p + g)).toNatClampNeg = 3 * p + g := tn (by omega)
      have ik : inB (nI (3 * p + g)) 18 = true := inB_n (by omega) (by omega)
      have tp : (nI p).toNatClampNeg = p := tn (by omega)
      have ip : inB (nI p) 6 = true := inB_n (by omega) (by omega)
      rw [if_neg (nI_ge (by omega) (by omega)), rfM33, lnM21, gd_t ik, tk, hs, show h - u = (h - (u + 1)) + 1 by omega, buyN]
      by_cases h0 : s = 0
      · rw [if_pos ((nI_z (by omega)).mpr h0), if_pos h0]
        exact ⟨v, rfl, fun _ _ _ => rfl, fun _ _ => rfl, fun _ _ => rfl, hs, hc⟩
      · obtain ⟨-, -, -, -, b0, b1, b2, m0, m1, m2⟩ := hp.2.1 (3 * p + g) (by omega)
        obtain ⟨x0, x1⟩ := hp.1.2.2.2.2.2.1 p (by omega)
        have pl := prc_le (m := MD vM (3 * p + g)) (s := s) b2 b1
        rw [if_neg (fun h9 => h0 ((nI_z (by omega)).mp h9)), if_neg h0, gd_t ik, priceM (by omega) (by rw [hJ.1 4 (by omega) (by omega)]; exact b0) (by rw [hJ.1 5 (by omega) (by omega)]; exact m0) b2 m1 m2 (by omega), bi_s, h36, rfM9, lnMp (show 7 ≤ 7 by omega) (by omega), gd_t ip, tp, hJ.1 7 (by omega) (by omega), x0, hc, nI_add]
        by_cases h1 : prc (BA vM (3 * p + g)) (MD vM (3 * p + g)) s + TX vM p ≤ c
        · rw [if_neg (nI_nlt h1 (by omega)), if_pos h1, gd_t ik, hs, priceM (by omega) (by rw [hJ.1 4 (by omega) (by omega)]; exact b0) (by rw [hJ.1 5 (by omega) (by omega)]; exact m0) b2 m1 m2 (by omega), bi_s, h36, gd_t ip, tp, hJ.1 7 (by omega) (by omega), x0, nI_add, pk_sub h1, nv_q, gd_t ik, gd_t ik, nv_q, nv_q, nI_1, wu_n (show 21 ≠ 0 by omega), hs, show nI s - 1 = nI (s - 1) from pk_sub (b := 1) (by omega)]
          obtain ⟨v', g1, g2, g3, g4, g5, g6⟩ := buyT (i2 := i2) (i4 := i4) (K := K) hp hh hpP hg n (u + 1) (s - 1) (c - (prc (BA vM (3 * p + g)) (MD vM (3 * p + g)) s + TX vM p)) (w + prc (BA vM (3 * p + g)) (MD vM (3 * p + g)) s) (t + TX vM p) (wu (wu v 0 35 (nI (c - (prc (BA vM (3 * p + g)) (MD vM (3 * p + g)) s + TX vM p)))) 21 (3 * p + g) (nI (s - 1))) (by omega) (by omega) ⟨fun c h1 h2 => by rw [wu_n (by omega), wu_n (by omega), hJ.1 c h1 h2], fun j hj => by rw [wu_n (by omega), wu_j (by omega), hJ.2 j hj]⟩ (by rw [wu_n (by omega), wu_j (by omega), h36]) wu_s (by rw [wu_n (by omega), wu_s]) (by omega) (by omega)
          exact ⟨v', g1, fun c' h8 h9 => by rw [g2 c' h8 h9, wu_n h9, wu_n h8], fun j hj => by rw [g3 j hj, wu_n (by omega), wu_j hj], fun k hk => by rw [g4 k hk, wu_j hk, wu_n (by omega)], g5, g6⟩
        · rw [if_pos (nI_lt (by omega) (by omega)), if_neg h1]
          exact ⟨v, rfl, fun _ _ _ => rfl, fun _ _ => rfl, fun _ _ => rfl, hs, hc⟩
theorem sellT {q g : Nat} (hp : pfz P F E vM) (hq : q < P) (hg : g < 3) : ∀ (n r s c u w t : Nat) (v : VV), r ≤ 20 → r < n → nJ vM v → v 21 (3 * q + g) = nI s → v 0 35 = nI c → s ≤ 1000 → c ≤ 1000000 → ∃ v', f_X11_trip_l234 n 0 (nI g) (nI r) (nI (3 * q + g)) v = some (1, v') ∧ (∀ c', c' ≠ 0 → c' ≠ 21 → v' c' = v c') ∧ (∀ j, j ≠ 35 → v' 0 j = v 0 j) ∧ (∀ k, k ≠ 3 * q + g → v' 21 k = v 21 k) ∧ v' 21 (3 * q + g) = nI (sellN (BA vM (3 * q + g)) (MD vM (3 * q + g)) (TX vM q) r s c u w t).2.1 ∧ v' 0 35 = nI (sellN (BA vM (3 * q + g)) (MD vM (3 * q + g)) (TX vM q) r s c u w t).2.2.1
  | 0, r, s, c, u, w, t, v, _, hn, _, _, _, _, _ => by omega
  | n + 1, 0, s, c, u, w, t, v, hr, hn, hJ, hs, hc, s1, c1 => by
    rw [f_X11_trip_l234, if_neg (show ¬ (3 : Int32) ≤ nI g from nI_ge (b := 3) hg (by omega)), if_pos (by decide), sellN]
    exact ⟨v, rfl, fun _ _ _ => rfl, fun _ _ => rfl, fun _ _ => rfl, hs, hc⟩
  | n + 1, r + 1, s, c, u, w, t, v, hr, hn, hJ, hs, hc, s1, c1 => by
    have hP6 := hp.1.1
    have tk : (nI (3 * q + g)).toNatClampNeg = 3 * q + g := tn (by omega)
    have ik : inB (nI (3 * q + g)) 18 = true := inB_n (by omega) (by omega)
    rw [f_X11_trip_l234, if_neg (show ¬ (3 : Int32) ≤ nI g from nI_ge (b := 3) hg (by omega)), if_neg (fun h9 => by have := (nI_z (show r + 1 < 2 ^ 31 by omega)).mp h9; omega), rfM33, lnM21, gd_t ik, tk, hs, sellN]
    by_cases h0 : 1000 ≤ s
    · rw [if_pos (show (1000 : Int32) ≤ nI s from nI_le (a := 1000) h0 (by omega)), if_pos h0]
      exact ⟨v, rfl, fun _ _ _ => rfl, fun _ _ => rfl, fun _ _ => rfl, hs, hc⟩
    · obtain ⟨-, -, -, -, b0, b1, b2, m0, m1, m2⟩ := hp.2.1 (3 * q + g) (by omega)
      obtain ⟨x0, x1⟩ := hp.1.2.2.2.2.2.1 q (by omega)
      have pl := prc_le (m := MD vM (3 * q + g)) (s := s + 1) b2 b1
      rw [if_neg (show ¬ (1000 : Int32) ≤ nI s from nI_ge (b := 1000) (by omega) (by omega)), if_neg h0, gd_t ik, gainM (by omega) hg (by rw [hJ.1 4 (by omega) (by omega)]; exact b0) (by rw [hJ.1 5 (by omega) (by omega)]; exact m0) b1 b2 m1 m2 (by rw [hJ.1 7 (by omega) (by omega)]; exact x0) x1 (by omega), bi_s, hc, nI_add]
      generalize hgn : prc (BA vM (3 * q + g)) (MD vM (3 * q + g)) (s + 1) - min (TX vM q) (prc (BA vM (3 * q + g)) (MD vM (3 * q + g)) (s + 1)) = gn
      have hgn1 : gn ≤ 200 := by omega
      by_cases h1 : c + gn ≤ 1000000
      · rw [if_neg (show ¬ (1000000 : Int32) < nI (c + gn) from nI_nlt (a := 1000000) h1 (by omega)), if_pos h1, gd_t ik, hs, gainM (by omega) hg (by rw [hJ.1 4 (by omega) (by omega)]; exact b0) (by rw [hJ.1 5 (by omega) (by omega)]; exact m0) b1 b2 m1 m2 (by rw [hJ.1 7 (by omega) (by omega)]; exact x0) x1 (by omega), bi_s, hgn, nI_add, nv_q, gd_t ik, gd_t ik, nv_q, nv_q, wu_n (show 21 ≠ 0 by omega), hs, nI_1, m1_add, show nI (r + 1) - 1 = nI r from nI_pred r]
        obtain ⟨v', g1, g2, g3, g4, g5, g6⟩ := sellT hp hq hg n r (s + 1) (c + gn) (u + 1) (w + prc (BA vM (3 * q + g)) (MD vM (3 * q + g)) (s + 1)) (t + min (TX vM q) (prc (BA vM (3 * q + g)) (MD vM (3 * q + g)) (s + 1))) (wu (wu v 0 35 (nI (c + gn))) 21 (3 * q + g) (nI (s + 1))) (by omega) (by omega) ⟨fun c h1 h2 => by rw [wu_n (by omega), wu_n (by omega), hJ.1 c h1 h2], fun j hj => by rw [wu_n (by omega), wu_j (by omega), hJ.2 j hj]⟩ wu_s (by rw [wu_n (by omega), wu_s]) (by omega) h1
        exact ⟨v', g1, fun c' h8 h9 => by rw [g2 c' h8 h9, wu_n h9, wu_n h8], fun j hj => by rw [g3 j hj, wu_n (by omega), wu_j hj], fun k hk => by rw [g4 k hk, wu_j hk, wu_n (by omega)], g5, g6⟩
      · rw [if_pos (show (1000000 : Int32) < nI (c + gn) from nI_lt (a := 1000000) (by omega) (by omega)), if_neg h1]
        exact ⟨v, rfl, fun _ _ _ => rfl, fun _ _ => rfl, fun _ _ => rfl, hs, hc⟩
end
