theorem lnM22 : lnM 22 = 3 := rfl
theorem lnM23 : lnM 23 = 3 := rfl
theorem lnM24 : lnM 24 = 3 := rfl
theorem lnM25 : lnM 25 = 3 := rfl
theorem dg_g {P n i : Nat} : i % 4 = i % (4 * P) % 4 := (Nat.mod_mul_right_mod i 4 P).symm
theorem dg_p {P i : Nat} : i / 4 % P = i % (4 * P) / 4 := (Nat.mod_mul_right_div_self i 4 P).symm
theorem digP {P k sh A N : Nat} {i5 : Int32} {K : Nat → Int32 → Int32 → Int32 → Int32 → Int32 → Int32 → VV → Option (Int32 × VV)} (hP0 : 0 < P) (hP : P ≤ 6) (hk : k ≤ 3) (hN : N < 2 ^ 31) : ∀ (n t : Nat) (v : VV), t ≤ k → t < n → v 0 0 = nI P → (∀ j, t ≤ j → j < k → v 22 j = nI (dg (4 * P) k N j / 4) ∧ v 23 j = nI (dg (4 * P) k N j % 4)) → ∃ v', f_X11_plan_l81 K n 0 (nI sh) (nI k) (nI (4 * P)) (nI A) i5 (nI N) (nI (N / (4 * P) ^ (k - t))) (nI t - 1) v = K 0 (nI sh) (nI k) (nI (4 * P)) (nI A) i5 (nI N) v' ∧ (∀ c, c ≠ 22 → c ≠ 23 → v' c = v c) ∧ (∀ j, j < k → v' 22 j = nI (dg (4 * P) k N j / 4) ∧ v' 23 j = nI (dg (4 * P) k N j % 4))
  | 0, t, v, _, h, _, _ => by omega
  | n + 1, 0, v, ht, hn, e0, hr => by
    rw [f_X11_plan_l81, if_pos (by decide)]
    exact ⟨v, rfl, fun _ _ _ => rfl, fun j hj => hr j (by omega) hj⟩
  | n + 1, t + 1, v, ht, hn, e0, hr => by
    have ep : nI (t + 1) - 1 = nI t := nI_pred t
    have tt : (nI t).toNatClampNeg = t := tn (by omega)
    have it : inB (nI t) 3 = true := inB_n (by omega) (by omega)
    have hd : N / (4 * P) ^ (k - (t + 1)) < 2 ^ 31 := Nat.lt_of_le_of_lt (Nat.div_le_self _ _) hN
    have hd4 : N / (4 * P) ^ (k - (t + 1)) / 4 < 2 ^ 31 := Nat.lt_of_le_of_lt (Nat.div_le_self _ _) hd
    have er : N / (4 * P) ^ (k - (t + 1)) % (4 * P) = dg (4 * P) k N t := by
      unfold dg
      rw [show k - (t + 1) = k - 1 - t by omega]
    have ed : N / (4 * P) ^ (k - (t + 1)) / (4 * P) = N / (4 * P) ^ (k - t) := by
      rw [Nat.div_div_eq_div_mul, ← Nat.pow_succ, show (k - (t + 1)).succ = k - t by omega]
    have p0 : ¬ nI P = 0 := nI_ne0 (by omega) (by omega)
    have w0 : ¬ nI (4 * P) = 0 := nI_ne0 (by omega) (by omega)
    have m4 := nI_mod (b := 4) hd (by omega) (by omega)
    have d4 : nI (N / (4 * P) ^ (k - (t + 1))) / 4 = nI (N / (4 * P) ^ (k - (t + 1)) / 4) := pk_div (d := 4) hd (by omega) (by omega)
    rw [show nI 4 = 4 from rfl] at m4
    rw [f_X11_plan_l81, ep, if_neg (show ¬ nI t < 0 from nI_nlt (b := 0) (by omega) (by omega)), rfM37, rfM38, lnM22, lnM23, gd_t it, tt, m4, d4, nv_q, wu_n (show 0 ≠ 23 by omega), e0, gd_t p0, gd_t it, nI_mod hd4 (by omega) hP0, nv_q, gd_t w0, pk_div hd (by omega) (by omega), ed, nv_q, nv_q, m1_add, dg_g (P := P) (n := 0), dg_p (P := P), er]
    obtain ⟨v', g1, g2, g3⟩ := digP (sh := sh) (A := A) (i5 := i5) (K := K) hP0 hP hk hN n t (wu (wu v 23 t (nI (dg (4 * P) k N t % 4))) 22 t (nI (dg (4 * P) k N t / 4))) (by omega) (by omega) (by rw [wu_n (by omega), wu_n (by omega), e0]) (fun j j1 j2 => by
      rw [wu_c, wu_n (show 23 ≠ 22 by omega), wu_c, wu_n (show 22 ≠ 23 by omega)]
      by_cases e : j = t
      · rw [if_pos e, if_pos e, e]
        exact ⟨rfl, rfl⟩
      · rw [if_neg e, if_neg e]
        exact hr j (by omega) j2)
    exact ⟨v', g1, fun c h1 h2 => by rw [g2 c h1 h2, wu_n h1, wu_n h2], g3⟩
theorem copyP {i1 i2 i3 i4 i5 i6 : Int32} {K : Nat → Int32 → Int32 → Int32 → Int32 → Int32 → Int32 → VV → Option (Int32 × VV)} : ∀ (n i : Nat) (v : VV), i ≤ 18 → 18 - i < n → (∀ j, j < i → v 21 j = v 1 j) → ∃ v', f_X11_plan_l128 K n 0 i1 i2 i3 i4 i5 i6 (nI i) v = K 0 i1 i2 i3 i4 i5 i6 v' ∧ (∀ c, c ≠ 21 → v' c = v c) ∧ ∀ j, j < 18 → v' 21 j = v 1 j
  | 0, i, v, _, h, _ => by omega
  | n + 1, i, v, hi, hn, hj => by
    rw [f_X11_plan_l128]
    by_cases e : i = 18
    · subst e
      rw [if_pos (by decide)]
      exact ⟨v, rfl, fun _ _ => rfl, hj⟩
    · have ti : (nI i).toNatClampNeg = i := tn (by omega)
      have ii : inB (nI i) 18 = true := inB_n (by omega) (by omega)
      rw [if_neg (show ¬ (18 : Int32) ≤ nI i from nI_ge (b := 18) (by omega) (by omega)), rfM3, rfM33, lnMs (show 1 ≤ 1 by omega) (by omega), lnM21, gd_t ii, gd_t ii, ti, nv_q, nv_q, nI_1]
      obtain ⟨v', g1, g2, g3⟩ := copyP (i1 := i1) (i2 := i2) (i3 := i3) (i4 := i4) (i5 := i5) (i6 := i6) (K := K) n (i + 1) (wu v 21 i (v 1 i)) (by omega) (by omega) (fun j hj2 => by
        rw [wu_c, wu_n (show 1 ≠ 21 by omega)]
        by_cases e2 : j = i
        · rw [if_pos e2, e2]
        · rw [if_neg e2, hj j (by omega)])
      exact ⟨v', g1, fun c hc => by rw [g2 c hc, wu_n hc], fun j hj2 => by rw [g3 j hj2, wu_n (by omega)]⟩
theorem keepP {k : Nat} {i1 i3 i4 i5 i6 : Int32} {K : Nat → Int32 → Int32 → Int32 → Int32 → Int32 → Int32 → VV → Option (Int32 × VV)} (hk : k ≤ 3) : ∀ (n i : Nat) (v : VV), i ≤ k → k - i < n → (∀ j, j < i → v 24 j = v 22 j ∧ v 25 j = v 23 j) → ∃ v', f_X11_plan_l260 K n 0 i1 (nI k) i3 i4 i5 i6 (nI i) v = K 0 i1 (nI k) i3 i4 i5 i6 v' ∧ (∀ c, c ≠ 24 → c ≠ 25 → v' c = v c) ∧ ∀ j, j < k → v' 24 j = v 22 j ∧ v' 25 j = v 23 j
  | 0, i, v, _, h, _ => by omega
  | n + 1, i, v, hi, hn, hj => by
    rw [f_X11_plan_l260]
    by_cases e : i = k
    · subst e
      rw [if_pos (nI_le (Nat.le_refl _) (by omega))]
      exact ⟨v, rfl, fun _ _ _ => rfl, hj⟩
    · have ti : (nI i).toNatClampNeg = i := tn (by omega)
      have ii : inB (nI i) 3 = true := inB_n (by omega) (by omega)
      rw [if_neg (nI_ge (by omega) (by omega)), rfM37, rfM38, rfM39, rfM40, lnM22, lnM23, lnM24, lnM25, gd_t ii, gd_t ii, ti, nv_q, gd_t ii, gd_t ii, nv_q, nv_q, nI_1]
      obtain ⟨v', g1, g2, g3⟩ := keepP (i1 := i1) (i3 := i3) (i4 := i4) (i5 := i5) (i6 := i6) (K := K) hk n (i + 1) (wu (wu v 24 i (v 22 i)) 25 i (wu v 24 i (v 22 i) 23 i)) (by omega) (by omega) (fun j hj2 => by
        rw [wu_c, wu_n (show 24 ≠ 25 by omega), wu_c, wu_n (show 22 ≠ 25 by omega), wu_n (show 22 ≠ 24 by omega), wu_n (show 23 ≠ 25 by omega), wu_n (show 23 ≠ 24 by omega), wu_n (show 25 ≠ 24 by omega)]
        by_cases e2 : j = i
        · rw [if_pos e2, if_pos e2, e2]
          exact ⟨rfl, rfl⟩
        · rw [if_neg e2, if_neg e2]
          exact hj j (by omega))
      refine ⟨v', g1, fun c h1 h2 => by rw [g2 c h1 h2, wu_n h2, wu_n h1], fun j hj2 => ?_⟩
      have := g3 j hj2
      rw [wu_n (show 22 ≠ 25 by omega), wu_n (show 22 ≠ 24 by omega), wu_n (show 23 ≠ 25 by omega), wu_n (show 23 ≠ 24 by omega)] at this
      exact this
theorem runc_no {α : Type} {tp : α → Nat → Option α} {W : Nat} {σ0 : α} {j a : Nat} : ∀ d, runc tp W σ0 j (a / W ^ d) = none → runc tp W σ0 (j + d) a = none
  | 0, h => by
    rw [Nat.pow_zero, Nat.div_one] at h
    exact h
  | d + 1, h => by
    rw [show j + (d + 1) = (j + d) + 1 from rfl, runc, runc_no d (by rw [Nat.div_div_eq_div_mul, ← Nat.pow_succ']; exact h)]
    rfl
section
variable {P F E : Nat} {vM : VV}
theorem walkP {h k sh A N : Nat} {i5 : Int32} {σ0 : SG} {K : Nat → Int32 → Int32 → Int32 → Int32 → Int32 → Int32 → Int32 → VV → Option (Int32 × VV)} (hp : pfz P F E vM) (hh : h ≤ 20) (hk : k ≤ 3) (hsh : sh < 4) (h16 : vM 16 sh = nI h) (hP0 : 0 < P) : ∀ (n j : Nat) (σ : SG) (v : VV), j ≤ k → k - j < n → wfS P σ → mR P vM v σ → (∀ i, i < k → v 22 i = nI (dg (4 * P) k N i / 4) ∧ v 23 i = nI (dg (4 * P) k N i % 4)) → runc (tpp vM F E h) (4 * P) σ0 j (N / (4 * P) ^ (k - j)) = some σ → ∃ (x : Int32) (v' : VV), f_X11_plan_l189 K n 0 (nI sh) (nI k) (nI (4 * P)) (nI A) i5 (nI N) 1 (nI j) v = K 0 (nI sh) (nI k) (nI (4 * P)) (nI A) i5 (nI N) x v' ∧ (∀ c, c ≠ 0 → c ≠ 21 → v' c = v c) ∧ (∀ j, j ≠ 34 → j ≠ 35 → j ≠ 36 → v' 0 j = v 0 j) ∧ ((x = 0 ∧ runc (tpp vM F E h) (4 * P) σ0 k N = none) ∨ (x = 1 ∧ ∃ σ', runc (tpp vM F E h) (4 * P) σ0 k N = some σ' ∧ wfS P σ' ∧ mR P vM v' σ'))
  | 0, j, σ, v, _, h, _, _, _, _ => by omega
  | n + 1, j, σ, v, hj, hn, hw, hR, hd, hrun => by
    have hP6 := hp.1.1
    rw [f_X11_plan_l189]
    by_cases e : j = k
    · subst e
      rw [if_pos (nI_le (Nat.le_refl _) (by omega))]
      rw [Nat.sub_self, Nat.pow_zero, Nat.div_one] at hrun
      exact ⟨1, v, rfl, fun _ _ _ => rfl, fun _ _ _ _ => rfl, Or.inr ⟨rfl, σ, hrun, hw, hR⟩⟩
    · have tj : (nI j).toNatClampNeg = j := tn (by omega)
      have ij : inB (nI j) 3 = true := inB_n (by omega) (by omega)
      have ts : (nI sh).toNatClampNeg = sh := tn (by omega)
      have is_ : inB (nI sh) 4 = true := inB_n (by omega) (by omega)
      have hx : dg (4 * P) k N j < 4 * P := Nat.mod_lt _ (by omega)
      obtain ⟨d1, d2⟩ := hd j (by omega)
      rw [if_neg (nI_ge (by omega) (by omega)), if_neg (by decide), rfM24, rfM37, rfM38, lnMh (show 15 ≤ 16 by omega) (by omega), lnM22, lnM23, gd_t is_, gd_t ij, gd_t ij, ts, tj, hR.1.1 16 (by omega) (by omega), h16, d1, d2]
      obtain ⟨r, v1, g1, g2, g3, g4⟩ := tripM (h := h) (q := dg (4 * P) k N j / 4) (g := dg (4 * P) k N j % 4) hp hh hw hR (by omega) (by omega)
      rw [g1, bi_s, nv_q, nI_1]
      have hr1 : runc (tpp vM F E h) (4 * P) σ0 (j + 1) (N / (4 * P) ^ (k - (j + 1))) = tpg vM F E h σ (dg (4 * P) k N j / 4) (dg (4 * P) k N j % 4) := by
        rw [runc, Nat.div_div_eq_div_mul, ← Nat.pow_succ, show (k - (j + 1)).succ = k - j by omega, hrun, Option.bind_some]
        unfold tpp dg
        rw [show k - (j + 1) = k - 1 - j by omega]
      rcases g4 with ⟨rfl, g5⟩ | ⟨rfl, σ', g5, g6⟩
      · have hno : runc (tpp vM F E h) (4 * P) σ0 k N = none := by
          have := runc_no (tp := tpp vM F E h) (W := 4 * P) (σ0 := σ0) (j := j + 1) (a := N) (k - (j + 1)) (by rw [hr1, g5])
          rw [show j + 1 + (k - (j + 1)) = k by omega] at this
          exact this
        refine ⟨0, v1, ?_, g2, g3, Or.inl ⟨rfl, hno⟩⟩
        cases n with
        | zero => omega
        | succ n =>
          rw [f_X11_plan_l189]
          by_cases e3 : nI k ≤ nI (j + 1)
          · rw [if_pos e3]
          · rw [if_neg e3, if_pos rfl]
      · obtain ⟨x, v2, k1, k2, k3, k4⟩ := walkP (A := A) (i5 := i5) (σ0 := σ0) (K := K) hp hh hk hsh h16 hP0 n (j + 1) σ' v1 (by omega) (by omega) (tpg_wf hw (by omega) (by omega) g5) g6 (fun i hi => by rw [g2 22 (by omega) (by omega), g2 23 (by omega) (by omega)]; exact hd i hi) (by rw [hr1, g5])
        exact ⟨x, v2, k1, fun c h1 h2 => by rw [k2 c h1 h2, g2 c h1 h2], fun j h1 h2 h3 => by rw [k3 j h1 h2 h3, g3 j h1 h2 h3], k4⟩
end
