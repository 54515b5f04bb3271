theorem lnM19 : lnM 19 = 6 := rfl
theorem lnM20 : lnM 20 = 6 := rfl
theorem lnM11 : lnM 11 = 36 := rfl
theorem lnM10 : lnM 10 = 6 := rfl
theorem nI_mod {a b : Nat} (ha : a < 2 ^ 31) (hb : b < 2 ^ 31) (h0 : 0 < b) : nI a - nI a / nI b * nI b = nI (a % b) := by
  rw [pk_div (by omega) (by omega) (by omega), pk_mul, pk_sub (Nat.div_mul_le_self a b)]
  congr 1
  have := Nat.div_add_mod a b
  rw [Nat.mul_comm] at this
  omega
/-- the marks of the best ring, in the model -/
def mS (v : VV) (bm : Nat) (b : Nat → Nat) (gv lv : Int) : Prop := v 0 30 = nI bm ∧ v 0 31 = iI gv ∧ v 0 32 = iI lv ∧ ∀ i, i < bm → v 20 i = nI (b i)
def mJ (vM v : VV) : Prop := (∀ c, 1 ≤ c → c < 19 → v c = vM c) ∧ (∀ c, 21 ≤ c → v c = vM c) ∧ ∀ j, j < 30 ∨ 33 ≤ j → v 0 j = vM 0 j
theorem lessE {r b : Nat → Nat} {m : Nat} {v : VV} (hm : m ≤ 6) (hr : ∀ i, i < m → v 19 i = nI (r i) ∧ r i < 6) (hb : ∀ i, i < m → v 20 i = nI (b i) ∧ b i < 6) : ∀ (n i : Nat), i ≤ m → m - i < n → (∀ j, j < i → r j = b j) → ∃ x : Int32, f_X11_isLess_l2 (fun c0_6 i2_6 v_6 =>
  gd (inB i2_6 (lnM (rfM c0_6 28)) = true) <|
  gd (inB i2_6 (lnM (rfM c0_6 29)) = true) <|
  if ((v_6 (rfM c0_6 29) (Int32.toNatClampNeg i2_6)) ≤ (v_6 (rfM c0_6 28) (Int32.toNatClampNeg i2_6))) then
    some (0, v_6)
  else
    some (1, v_6)) n 0 (nI m) (nI i) v = some (x, v) ∧ (x = 0 ↔ ¬ lexlt r b m)
  | 0, i, _, h, _ => by omega
  | n + 1, i, hi, hn, hj => by
    rw [f_X11_isLess_l2]
    by_cases e : i = m
    · subst e
      rw [if_pos (nI_le (Nat.le_refl _) (by omega))]
      exact ⟨0, rfl, by simp [lexlt_irr hj]⟩
    · have ti : (nI i).toNatClampNeg = i := tn (by omega)
      have ii : inB (nI i) 6 = true := inB_n (by omega) (by omega)
      obtain ⟨r1, r2⟩ := hr i (by omega)
      obtain ⟨b1, b2⟩ := hb i (by omega)
      rw [if_neg (nI_ge (by omega) (by omega)), rfM28, rfM29, lnM19, lnM20, gd_t ii, gd_t ii, ti, r1, b1]
      by_cases h : r i = b i
      · rw [if_pos (by rw [h]), nv_q, nI_1]
        exact lessE hm hr hb n (i + 1) (by omega) (by omega) (fun j hj2 => by
          by_cases e2 : j = i
          · subst e2; exact h
          · exact hj j (by omega))
      · rw [if_neg (fun h9 => h (nI_inj (by omega) (by omega) h9))]
        rw [gd_t ii, gd_t ii]
        by_cases h2 : r i < b i
        · rw [if_neg (nI_ge h2 (by omega))]
          refine ⟨1, rfl, ?_⟩
          have : lexlt r b m := ⟨i, by omega, hj, h2⟩
          simp [this]
        · rw [if_pos (nI_le (by omega) (by omega))]
          refine ⟨0, rfl, ?_⟩
          have : lexlt b r m := ⟨i, by omega, fun j h9 => (hj j h9).symm, by omega⟩
          have h3 : ¬ lexlt r b m := fun h9 => lexlt_irr (fun _ _ => rfl) (lexlt_tr this h9)
          simp [h3]
theorem copyE {r : Nat → Nat} {m : Nat} (hm : m ≤ 6) : ∀ (n i : Nat) (v : VV), i ≤ m → m - i < n → (∀ j, j < m → v 19 j = nI (r j)) → (∀ j, j < i → v 20 j = nI (r j)) → ∃ v', f_X11_look_l188 n 0 (nI m) (nI i) v = some v' ∧ (∀ c, c ≠ 20 → v' c = v c) ∧ ∀ j, j < m → v' 20 j = nI (r j)
  | 0, i, v, _, h, _, _ => by omega
  | n + 1, i, v, hi, hn, hr, hj => by
    rw [f_X11_look_l188]
    by_cases e : i = m
    · subst e
      rw [if_pos (nI_le (Nat.le_refl _) (by omega))]
      exact ⟨v, rfl, fun _ _ => rfl, hj⟩
    · have ti : (nI i).toNatClampNeg = i := tn (by omega)
      have ii : inB (nI i) 6 = true := inB_n (by omega) (by omega)
      rw [if_neg (nI_ge (by omega) (by omega)), rfM28, rfM29, lnM19, lnM20, gd_t ii, gd_t ii, ti, nv_q, nv_q, nI_1]
      obtain ⟨v', g1, g2, g3⟩ := copyE hm n (i + 1) (wu v 20 i (v 19 i)) (by omega) (by omega) (fun j hj2 => by rw [wu_n (by omega), hr j hj2]) (fun j hj2 => by
        rw [wu_c]
        by_cases e2 : j = i
        · rw [if_pos e2, hr i (by omega), e2]
        · rw [if_neg e2, hj j (by omega)])
      exact ⟨v', g1, fun c hc => by rw [g2 c hc, wu_n hc], g3⟩
theorem lookYes {r : Nat → Nat} {m : Nat} {g l : Int} {v : VV} (hm : m ≤ 6) (hr : ∀ j, j < m → v 19 j = nI (r j)) : ∃ v', f_X11_look_b157 0 (nI m) (iI g) (iI l) v = some v' ∧ (∀ c, c ≠ 0 → c ≠ 20 → v' c = v c) ∧ (∀ j, j < 30 ∨ 33 ≤ j → v' 0 j = v 0 j) ∧ mS v' m r g l := by
  unfold f_X11_look_b157 f_X11_look_b162
  rw [if_neg (by decide), nv_q, nv_q, nv_q]
  obtain ⟨v', g1, g2, g3⟩ := copyE (r := r) hm FU 0 (wu (wu (wu v 0 30 (nI m)) 0 31 (iI g)) 0 32 (iI l)) (by omega) (by unfold FU; omega) (fun j hj => by rw [wu_n (by omega), wu_n (by omega), wu_n (by omega), hr j hj]) (fun j hj => by omega)
  rw [nI_0] at g1
  refine ⟨v', g1, fun c h1 h2 => by rw [g2 c h2, wu_n h1, wu_n h1, wu_n h1], fun j hj => by rw [g2 0 (by omega), wu_j (by omega), wu_j (by omega), wu_j (by omega)], ?_, ?_, ?_, g3⟩
  · rw [g2 0 (by omega), wu_j (by omega), wu_j (by omega), wu_s]
  · rw [g2 0 (by omega), wu_j (by omega), wu_s]
  · rw [g2 0 (by omega), wu_s]
/-- the sums of a ring's legs -/
def sg (G : Nat → Nat → Int) (r : Nat → Nat) (m i : Nat) : Int := if i < m then rg G r i else RG G r m
theorem sg_s {G : Nat → Nat → Int} {r : Nat → Nat} {m i : Nat} (hi : i < m) : sg G r m (i + 1) = sg G r m i + G (r i) (r ((i + 1) % m)) := by
  unfold sg
  rw [if_pos hi]
  by_cases e : i + 1 < m
  · rw [if_pos e, rg, Nat.mod_eq_of_lt e]
  · rw [if_neg e, show i + 1 = m by omega, Nat.mod_self, RG, show m - 1 = i by omega]
theorem lg_eq (x y : Int64) : (lg_cmp x y = 0) ↔ x = y := by
  constructor
  · intro h
    have h1 : ¬ lg_cmp x y < 0 := by rw [h]; decide
    have h2 : ¬ 0 < lg_cmp x y := by rw [h]; decide
    rw [lg_lt, Int64.lt_iff_toInt_lt] at h1
    rw [lg_gt, Int64.lt_iff_toInt_lt] at h2
    apply Int64.toInt_inj.mp
    omega
  · intro h
    subst h
    unfold lg_cmp
    rw [if_neg (by rw [gt_iff_lt, Int64.lt_iff_toInt_lt]; omega), if_pos rfl]
theorem l64 {a b : Int} (a1 : -24000 ≤ a) (a2 : a ≤ 24000) (b1 : 0 < b) (b2 : b ≤ 54) : (Int32.toInt64 (iI a) * Int32.toInt64 (iI b)).toInt = a * b := by
  have p := mul_bd a1 a2 b1 b2
  rw [Int64.toInt_mul, Int32.toInt_toInt64, Int32.toInt_toInt64, iI_toInt (by omega) (by omega), iI_toInt (by omega) (by omega)]
  exact Int.bmod_eq_of_le (by omega) (by omega)
