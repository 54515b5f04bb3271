/-! what a deeper search leaves as it was: the path below i, the stops below j -/
def fr (i j : Nat) (v v' : VV) : Prop := (∀ c, c < 15 → v' c = v c) ∧ (∀ c, 25 ≤ c → c < 75 → v' c = v c) ∧ v' 15 8 = v 15 8 ∧ v' 15 9 = v 15 9 ∧ v' 19 = v 19 ∧ v' 20 = v 20 ∧ (∀ x, x < i → v' 21 x = v 21 x ∧ v' 22 x = v 22 x) ∧ (∀ d, d < j → v' (75 + d) = v (75 + d) ∧ v' (79 + d) = v (79 + d) ∧ v' (83 + d) = v (83 + d) ∧ v' (87 + d) = v (87 + d)) ∧ ∀ d, d < 4 → v' (79 + d) 3 = v (79 + d) 3
theorem fr.rf (i j : Nat) (v : VV) : fr i j v v := ⟨fun _ _ => rfl, fun _ _ _ => rfl, rfl, rfl, rfl, rfl, fun _ _ => ⟨rfl, rfl⟩, fun _ _ => ⟨rfl, rfl, rfl, rfl⟩, fun _ _ => rfl⟩
theorem fr.tr {i j : Nat} {a b c : VV} (h1 : fr i j a b) (h2 : fr i j b c) : fr i j a c := by
  obtain ⟨a1, a2, a3, a4, a5, a6, a7, a8, a9⟩ := h1
  obtain ⟨b1, b2, b3, b4, b5, b6, b7, b8, b9⟩ := h2
  exact ⟨fun c hc => (b1 c hc).trans (a1 c hc), fun c hc hd => (b2 c hc hd).trans (a2 c hc hd), b3.trans a3, b4.trans a4, b5.trans a5, b6.trans a6, fun x hx => ⟨(b7 x hx).1.trans (a7 x hx).1, (b7 x hx).2.trans (a7 x hx).2⟩, fun d hd => ⟨(b8 d hd).1.trans (a8 d hd).1, (b8 d hd).2.1.trans (a8 d hd).2.1, (b8 d hd).2.2.1.trans (a8 d hd).2.2.1, (b8 d hd).2.2.2.trans (a8 d hd).2.2.2⟩, fun d hd => (b9 d hd).trans (a9 d hd)⟩
theorem fr.le {i j i' j' : Nat} {a b : VV} (h : fr i j a b) (hi : i' ≤ i) (hj : j' ≤ j) : fr i' j' a b := by
  obtain ⟨a1, a2, a3, a4, a5, a6, a7, a8, a9⟩ := h
  exact ⟨a1, a2, a3, a4, a5, a6, fun x hx => a7 x (by omega), fun d hd => a8 d (by omega), a9⟩
/-- the best plan so far, in the class -/
def bC (k W : Nat) (vC v : VV) (B : Option (Nat × Nat)) : Prop := match B with
  | none => v 15 10 = 0 ∧ v 15 14 = vC 15 14 ∧ v 23 = vC 23 ∧ v 24 = vC 24
  | some (c, a) => v 15 10 = 1 ∧ v 15 13 = nI c ∧ c ≤ 1000000 ∧ v 15 14 = nI k ∧ ∀ i, i < k → v 23 i = nI (dg W k a i / 4) ∧ v 24 i = nI (dg W k a i % 4)
theorem bC_c {k W : Nat} {vC v v' : VV} {B : Option (Nat × Nat)} (h : bC k W vC v B) (h0 : ∀ j, 10 ≤ j → v' 15 j = v 15 j) (h1 : v' 23 = v 23) (h2 : v' 24 = v 24) : bC k W vC v' B := by
  unfold bC at *
  rw [h0 10 (by omega), h0 13 (by omega), h0 14 (by omega), h1, h2]
  exact h
def pth (W j a : Nat) (v : VV) : Prop := ∀ i, i < j → v 21 i = nI (dg W j a i / 4) ∧ v 22 i = nI (dg W j a i % 4)
theorem dg_lt {W j a x i : Nat} (hx : x < W) (hi : i < j) : dg W (j + 1) (a * W + x) i = dg W j a i := by
  unfold dg
  rw [show j + 1 - 1 - i = (j - 1 - i) + 1 by omega, Nat.pow_succ, Nat.mul_comm (W ^ (j - 1 - i)) W, ← Nat.div_div_eq_div_mul, Nat.add_comm (a * W), Nat.add_mul_div_right _ _ (by omega), Nat.div_eq_of_lt hx, Nat.zero_add]
theorem dg_eq {W j a x : Nat} (hx : x < W) : dg W (j + 1) (a * W + x) j = x := by
  unfold dg
  rw [show j + 1 - 1 - j = 0 by omega, Nat.pow_zero, Nat.div_one, Nat.add_comm, Nat.add_mul_mod_self_right, Nat.mod_eq_of_lt hx]
theorem wcp_n {v : VV} {a b n c : Nat} (h : c ≠ b) : wcp v a b n c = v c := by
  unfold wcp
  rw [va_up_ne _ _ h]
theorem wcp_s {v : VV} {a b n i : Nat} (h : i < n) : wcp v a b n b i = v a i := by
  have e : ∀ (u : VV) (f : Nat → Int32), va_up u b f b = f := fun u f => by simp [va_up]
  unfold wcp
  rw [e, pk_cpy_in (by omega) (by omega), Nat.sub_zero, Nat.zero_add]
section
variable {P T F S E : Nat} {vC vM : VV}
theorem cmpP {k W a c : Nat} {B : Option (Nat × Nat)} {v : VV} (hk : k ≤ 3) (hc : c ≤ 1000000) (h8 : v 15 8 = nI k) (hp : pth W k a v) (hB : bC k W vC v B) : ∃ v', F_X3_compare 15 (nI c) v = some v' ∧ (∀ i j, fr i j v v') ∧ bC k W vC v' (upB B c a) := by
  have tk : (nI k).toNatClampNeg = k := tn (by omega)
  have yes : ∃ v', f_X3_compare_b16 15 (nI c) v = some v' ∧ (∀ i j, fr i j v v') ∧ bC k W vC v' (some (c, a)) := by
    unfold f_X3_compare_b16
    have e8 : wu (wu v 15 10 1) 15 13 (nI c) 15 8 = nI k := by rw [wu_j (by omega), wu_j (by omega), h8]
    rw [nv_q, nv_q, nv_q, e8]
    have e9 : wu (wu (wu v 15 10 1) 15 13 (nI c)) 15 14 (nI k) 15 8 = nI k := by rw [wu_j (by omega), e8]
    rw [e9, tk, rfCf6, rfCfb, rfCf7, rfCfc, lnC21, lnC23, lnC22, lnC24, gd_t (nI_pos (by omega)), gd_t hk, gd_t hk, nv_q, wcp_n (show 15 ≠ 23 by omega), e9, tk, gd_t (nI_pos (by omega)), gd_t hk, gd_t hk, nv_q]
    have ew : ∀ c', c' ≠ 15 → c' ≠ 23 → c' ≠ 24 → wcp (wcp (wu (wu (wu v 15 10 1) 15 13 (nI c)) 15 14 (nI k)) 21 23 k) 22 24 k c' = v c' := fun c' h1 h2 h3 => by rw [wcp_n h3, wcp_n h2, wu_n h1, wu_n h1, wu_n h1]
    have e15 : ∀ j, wcp (wcp (wu (wu (wu v 15 10 1) 15 13 (nI c)) 15 14 (nI k)) 21 23 k) 22 24 k 15 j = wu (wu (wu v 15 10 1) 15 13 (nI c)) 15 14 (nI k) 15 j := fun j => by rw [wcp_n (by omega), wcp_n (by omega)]
    refine ⟨_, rfl, fun i j => ⟨fun c' h => ew c' (by omega) (by omega) (by omega), fun c' h1 h2 => ew c' (by omega) (by omega) (by omega), ?_, ?_, ew 19 (by omega) (by omega) (by omega), ew 20 (by omega) (by omega) (by omega), fun x _ => ⟨by rw [ew 21 (by omega) (by omega) (by omega)], by rw [ew 22 (by omega) (by omega) (by omega)]⟩, fun d _ => ⟨ew _ (by omega) (by omega) (by omega), ew _ (by omega) (by omega) (by omega), ew _ (by omega) (by omega) (by omega), ew _ (by omega) (by omega) (by omega)⟩, fun d _ => by rw [ew _ (by omega) (by omega) (by omega)]⟩, ?_, ?_, hc, ?_, fun i hi => ?_⟩
    · rw [e15, wu_j (by omega), wu_j (by omega), wu_j (by omega)]
    · rw [e15, wu_j (by omega), wu_j (by omega), wu_j (by omega)]
    · rw [e15, wu_j (by omega), wu_j (by omega), wu_s]
    · rw [e15, wu_j (by omega), wu_s]
    · rw [e15, wu_s]
    · rw [wcp_n (show 23 ≠ 24 by omega), wcp_s hi, wcp_s hi, wcp_n (show 22 ≠ 23 by omega), wu_n (by omega), wu_n (by omega), wu_n (by omega), wu_n (by omega), wu_n (by omega), wu_n (by omega)]
      exact hp i hi
  unfold F_X3_compare f_X3_compare
  cases B with
  | none =>
    rw [hB.1, if_pos rfl]
    exact yes
  | some y =>
    obtain ⟨c0, a0⟩ := y
    obtain ⟨b1, b2, b3, -⟩ := id hB
    rw [b1, if_neg (by decide), b2]
    unfold upB
    dsimp only
    by_cases h : c0 < c
    · rw [if_pos (nI_lt h (by omega)), if_pos h]
      exact yes
    · rw [if_neg (nI_nlt (by omega) (by omega)), if_neg h]
      exact ⟨v, rfl, fun i j => fr.rf i j v, hB⟩
/-- what the search from a stop on gives -/
def exP (P F E h kk n j d : Nat) (vC vM : VV) : Prop := ∀ (σ : SG) (a : Nat) (B : Option (Nat × Nat)) (v : VV), wfS P σ → rC P E h kk j vC vM v σ → pth (4 * P) j a v → bC kk (4 * P) vC v B → ∃ v', fx_X3_extend n 15 (nI j) v = some v' ∧ fr j j v v' ∧ bC kk (4 * P) vC v' (srD (tpp vM F E h) cnS (4 * P) d σ a B)
theorem rC_fr {h kk j j' : Nat} {v v' : VV} {σ : SG} {i : Nat} (hR : rC P E h kk j vC vM v σ) (hf : fr i j' v v') (hj : j < j') : rC P E h kk j vC vM v' σ := by
  obtain ⟨hJ, hlz, r0, r1, r2, r8, r9, rz⟩ := hR
  obtain ⟨a1, a2, a3, a4, a5, a6, a7, a8, a9⟩ := hf
  refine ⟨⟨fun c hc => by rw [a1 c hc, hJ.1 c hc], fun c h1 h2 => by rw [a2 c h1 h2, hJ.2 c h1 h2]⟩, ?_, by rw [(a8 j hj).1, r0], by rw [(a8 j hj).1, r1], by rw [(a8 j hj).1, r2], by rw [a3, r8], by rw [a4, r9], fun d hd => by rw [a9 d hd, rz d hd]⟩
  unfold lz
  rw [a5, a6]
  exact hlz
theorem bE_fr {h j j' t : Nat} {v v' : VV} {σ : SG} {i : Nat} (hB : bE h j vM v σ t) (hf : fr i j' v v') (hj : j < j') : bE h j vM v' σ t := by
  obtain ⟨a1, a2, a3, a4, a5, a6, a7, a8, a9⟩ := hf
  obtain ⟨b1, b2, b3, b4⟩ := a8 j hj
  unfold bE
  rw [b1, b2, b3, b4]
  exact hB
theorem pth_fr {W j a : Nat} {v v' : VV} {i j' : Nat} (hp : pth W j a v) (hf : fr i j' v v') (hj : j ≤ i) : pth W j a v' := by
  intro x hx
  obtain ⟨a1, a2, a3, a4, a5, a6, a7, a8, a9⟩ := hf
  rw [(a7 x (by omega)).1, (a7 x (by omega)).2]
  exact hp x hx
end
