theorem rfCb0 : rfC 11 0 = 1 := rfl
theorem rfCb1 : rfC 11 1 = 12 := rfl
theorem rfCb2 : rfC 11 2 = 13 := rfl
theorem rfCb3 : rfC 11 3 = 14 := rfl
theorem rfCc1 (j : Nat) : rfC 12 j = 61 + j := rfl
theorem lnC12 : lnC 12 = 6 := rfl
theorem lnC13 : lnC 13 = 6 := rfl
theorem lnC14 : lnC 14 = 6 := rfl
theorem lnCg {p : Nat} (h : p < 6) : lnC (61 + p) = 6 := by
  rcases (show p = 0 ∨ p = 1 ∨ p = 2 ∨ p = 3 ∨ p = 4 ∨ p = 5 by omega) with rfl | rfl | rfl | rfl | rfl | rfl <;> rfl
def fJ (v0 v vM : VV) (P F h p q : Nat) : Prop := (∀ c, c < 61 ∨ 67 ≤ c → v c = v0 c) ∧ ∀ a b, a < P → b < P → (a < p ∨ (a = p ∧ b < q)) → v (61 + a) b = iI (legI vM F h a b)
theorem fillQ {P T F S h p : Nat} {vC vM : VV} {K : Nat → Int32 → Int32 → VV → Option VV} (i1 : iSc P T F S vC vM) (i2 : iSh P vC vM) (i3 : iPo vC vM) (i4 : iWy vC vM) (hf : frz P F vM) (hp : p < P) : ∀ (n q : Nat) (v : VV), q ≤ P → P - q < n → fJ vC v vM P F h p q → ∃ v', f_X5_fillLegGains_l15 K n 11 (nI h) (nI p) (nI q) v = K 11 (nI h) (nI p) v' ∧ fJ vC v' vM P F h (p + 1) 0
  | 0, q, v, _, h, _ => by omega
  | n + 1, q, v, hq, hn, hJ => by
    have hP6 := hf.1
    obtain ⟨j1, j2⟩ := id hJ
    rw [f_X5_fillLegGains_l15, rfCb0, j1 1 (by omega), i1.1.1]
    by_cases e : q = P
    · subst e
      rw [if_pos (nI_le (Nat.le_refl _) (by omega))]
      exact ⟨v, rfl, j1, fun a b ha hb hab => j2 a b ha hb (by omega)⟩
    · have tp : (nI p).toNatClampNeg = p := tn (by omega)
      have ip : inB (nI p) 6 = true := inB_n (by omega) (by omega)
      have tq : (nI q).toNatClampNeg = q := tn (by omega)
      have iq : inB (nI q) 6 = true := inB_n (by omega) (by omega)
      rw [if_neg (nI_ge (by omega) (by omega)), rfCb1, lnC12, gd_t ip, gainC i1 i2 i3 hf hp (by omega) (fun k hk => j1 _ (by omega)) (fun k hk => j1 _ (by omega)), bi_s, rfC11, lnC3, gd_t ip, rfC3, tp, lnCw (by omega), gd_t iq, rfCc1, lnCg (by omega), gd_t iq, nv_q, tq, j1 1 (by omega), i1.2.2.1.1, j1 (55 + p) (by omega), (i4 p (by omega) q (by omega)).1, (hf.2.2.2.2.2.2 p q (by omega) (by omega)).1, nv_q, nI_1]
      have hl : nI h * iI (mx vM p q) - nI F * nI (WW vM p q) = iI (legI vM F h p q) := by
        rw [iI_nat, iI_nat, iI_nat, iI_mul, iI_mul, iI_sub]
        rfl
      rw [hl]
      refine fillQ i1 i2 i3 i4 hf hp n (q + 1) _ (by omega) (by omega) ⟨fun c hc => by rw [wu_n (by omega), j1 c hc], fun a b ha hb hab => ?_⟩
      rw [wu_g]
      by_cases e2 : a = p ∧ b = q
      · rw [if_pos (by omega), e2.1, e2.2]
      · rw [if_neg (by omega)]
        exact j2 a b ha hb (by omega)
theorem fillP {P T F S h : Nat} {vC vM : VV} (i1 : iSc P T F S vC vM) (i2 : iSh P vC vM) (i3 : iPo vC vM) (i4 : iWy vC vM) (hf : frz P F vM) : ∀ (n p : Nat) (v : VV), p ≤ P → P - p < n → fJ vC v vM P F h p 0 → ∃ v', f_X5_fillLegGains_l2 n 11 (nI h) (nI p) v = some v' ∧ fJ vC v' vM P F h P 0
  | 0, p, v, _, h, _ => by omega
  | n + 1, p, v, hp, hn, hJ => by
    have hP6 := hf.1
    rw [f_X5_fillLegGains_l2, rfCb0, hJ.1 1 (by omega), i1.1.1]
    by_cases e : p = P
    · subst e
      rw [if_pos (nI_le (Nat.le_refl _) (by omega))]
      exact ⟨v, rfl, hJ⟩
    · rw [if_neg (nI_ge (by omega) (by omega))]
      obtain ⟨v', g1, g2⟩ := fillQ (K := fun c0_18 i1_18 i2_18 v_18 =>
        nv (i2_18 + 1) fun x19 =>
        f_X5_fillLegGains_l2 n c0_18 i1_18 x19 v_18) i1 i2 i3 i4 hf (show p < P by omega) FU 0 v (by omega) (by unfold FU; omega) hJ
      rw [nI_0] at g1
      rw [g1, nv_q, nI_1]
      exact fillP i1 i2 i3 i4 hf n (p + 1) v' (by omega) (by omega) g2
theorem fillE {P T F S h : Nat} {vC vM v : VV} (i1 : iSc P T F S vC vM) (i2 : iSh P vC vM) (i3 : iPo vC vM) (i4 : iWy vC vM) (hf : frz P F vM) (hv : ∀ c, c ≠ 11 → v c = vC c) : ∃ v', F_X5_fillLegGains 11 (nI h) v = some v' ∧ (∀ c, c < 61 ∨ 67 ≤ c → v' c = v c) ∧ ∀ a b, a < P → b < P → v' (61 + a) b = iI (legI vM F h a b) := by
  have k1 : iSc P T F S v vM := iSc_c i1 (fun j _ _ => by rw [hv 0 (by omega)]) (fun j _ _ => by rw [hv 1 (by omega)]) (fun _ _ => rfl)
  have k2 : iSh P v vM := iSh_c i2 (fun k hk => hv _ (by omega)) (fun _ _ _ => rfl)
  have k3 : iPo v vM := iPo_c i3 (fun k hk => hv _ (by omega)) (fun _ _ _ => rfl)
  have k4 : iWy v vM := iWy_c i4 (fun k hk => hv _ (by omega)) rfl
  obtain ⟨v', g1, g2, g3⟩ := fillP (h := h) k1 k2 k3 k4 hf FU 0 v (by omega) (by unfold FU; have := hf.1; omega) ⟨fun _ _ => rfl, fun a b _ _ hab => by omega⟩
  rw [nI_0] at g1
  exact ⟨v', g1, g2, fun a b ha hb => g3 a b ha hb (by omega)⟩
theorem onPath {c x : Nat} {w : Nat → Nat} {v : VV} (hc : c ≤ 6) (hx : x < 6) (hw : ∀ i, i < c → v 13 i = nI (w i) ∧ w i < 6) : ∀ (n i : Nat), i ≤ c → c - i < n → (∀ j, j < i → w j ≠ x) → (∃ j, j < c ∧ w j = x ∧ f_X5_isOnPath_l2 n 11 (nI x) (nI c) (nI i) v = some (1, v)) ∨ ((∀ j, j < c → w j ≠ x) ∧ f_X5_isOnPath_l2 n 11 (nI x) (nI c) (nI i) v = some (0, v))
  | 0, i, _, h, _ => by omega
  | n + 1, i, hi, hn, hj => by
    rw [f_X5_isOnPath_l2]
    by_cases e : i = c
    · subst e
      rw [if_pos (nI_le (Nat.le_refl _) (by omega))]
      exact Or.inr ⟨hj, rfl⟩
    · have ti : (nI i).toNatClampNeg = i := tn (by omega)
      have ii : inB (nI i) 6 = true := inB_n (by omega) (by omega)
      obtain ⟨w1, w2⟩ := hw i (by omega)
      rw [if_neg (nI_ge (by omega) (by omega)), rfCb2, lnC13, gd_t ii, ti, w1]
      by_cases h : w i = x
      · rw [if_pos (by rw [h])]
        exact Or.inl ⟨i, by omega, h, rfl⟩
      · rw [if_neg (fun h9 => h (nI_inj (by omega) (by omega) h9)), nv_q, nI_1]
        exact onPath hc hx hw n (i + 1) (by omega) (by omega) (fun j hj2 => by
          by_cases e2 : j = i
          · subst e2; exact h
          · exact hj j (by omega))
theorem openO {a b : Nat} {vC vM v : VV} (i3 : iPo vC vM) (i4 : iWy vC vM) (ha : a < 6) (hb : b < 6) (e1 : ∀ k, k < 6 → v (25 + k) = vC (25 + k)) (e2 : ∀ k, k < 6 → v (55 + k) = vC (55 + k)) : F_X9_openLength 1 (nI a) (nI b) v = some (nI (oo vM a b), v) := by
  rw [openE ha hb, e1 a ha, e1 b hb, e2 a ha, (i3 a ha).2.2.2.1, (i3 b hb).2.2.2.1, (i4 a ha b hb).1]
  unfold oo WW
  obtain ⟨n, -, hn, e⟩ := (i4 a ha b hb).2.1
  rw [e, tn (by omega)]
  by_cases h1 : vM 10 a = 0
  · rw [if_pos h1, if_pos h1]
    by_cases h2 : vM 10 b = 0
    · rw [if_pos h2, if_pos h2]
    · rw [if_neg h2, if_neg h2]; rfl
  · rw [if_neg h1, if_neg h1]; rfl
/-! the marks of the best ring -/
def rS (v : VV) (bm : Nat) (b : Nat → Nat) (gv lv : Int) : Prop := v 11 4 = nI bm ∧ v 11 5 = iI gv ∧ v 11 6 = iI lv ∧ ∀ i, i < bm → v 14 i = nI (b i)
theorem cmpYes {c : Nat} {g l : Int} {w : Nat → Nat} {v : VV} (hc : c ≤ 6) (hw : ∀ i, i < c → v 13 i = nI (w i)) : ∃ v', f_X5_compare_b40 11 (nI c) (iI g) (iI l) v = some v' ∧ (∀ c', c' ≠ 11 → c' ≠ 14 → v' c' = v c') ∧ rS v' c w g l := by
  unfold f_X5_compare_b40
  rw [nv_q, nv_q, nv_q, gd_t (nI_pos (by omega)), tn (by omega), rfCb2, rfCb3, lnC13, lnC14, gd_t hc, gd_t hc, nv_q]
  refine ⟨_, rfl, fun c' h1 h4 => ?_, ?_, ?_, ?_, fun i hi => ?_⟩
  · unfold wcp
    rw [va_up_ne _ _ h4, wu_n h1, wu_n h1, wu_n h1]
  · unfold wcp
    rw [va_up_ne _ _ (by omega), wu_j (by omega), wu_j (by omega), wu_s]
  · unfold wcp
    rw [va_up_ne _ _ (by omega), wu_j (by omega), wu_s]
  · unfold wcp
    rw [va_up_ne _ _ (by omega), wu_s]
  · have e : ∀ (u : VV) (f : Nat → Int32), va_up u 14 f 14 = f := fun u f => by simp [va_up]
    unfold wcp
    rw [e, pk_cpy_in (by omega) (by omega), wu_n (by omega), wu_n (by omega), wu_n (by omega), Nat.sub_zero, Nat.zero_add, hw i hi]
