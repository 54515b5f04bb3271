/-! the digits of a number: one ring of m ports for each n < P ^ m -/
def dg (P m n k : Nat) : Nat := n / P ^ (m - 1 - k) % P
theorem dg_all {P : Nat} {f : Nat → Nat} (hP : 0 < P) : ∀ m, (∀ i, i < m → f i < P) → ∃ n, n < P ^ m ∧ agr f (dg P m n) m
  | 0, _ => ⟨0, by simp, fun i hi => by omega⟩
  | m + 1, h => by
    obtain ⟨n, h1, h2⟩ := dg_all hP m (fun i hi => h i (by omega))
    have hm := h m (by omega)
    refine ⟨n * P + f m, ?_, fun k hk => ?_⟩
    · rw [Nat.pow_succ]
      have : (n + 1) * P ≤ P ^ m * P := Nat.mul_le_mul_right P h1
      rw [Nat.add_mul] at this
      omega
    · unfold dg
      by_cases e : k = m
      · rw [e, show m + 1 - 1 - m = 0 by omega, Nat.pow_zero, Nat.div_one, Nat.add_comm, Nat.add_mul_mod_self_right, Nat.mod_eq_of_lt hm]
      · rw [h2 k (by omega), show m + 1 - 1 - k = (m - 1 - k) + 1 by omega, Nat.pow_succ, Nat.mul_comm (P ^ (m - 1 - k)) P, ← Nat.div_div_eq_div_mul, Nat.add_comm (n * P), Nat.add_mul_div_right _ _ hP, Nat.div_eq_of_lt hm, Nat.zero_add]
        rfl
theorem pw_b {P m : Nat} (hP : P ≤ 6) (hm : m ≤ 6) : P ^ m ≤ 46656 := by
  have h1 : P ^ m ≤ 6 ^ m := Nat.pow_le_pow_left hP m
  have h2 : 6 ^ m ≤ 6 ^ 6 := Nat.pow_le_pow_right (by omega) hm
  have h3 : (6 : Nat) ^ 6 = 46656 := by decide
  omega
theorem bit1 : ∀ s : Fin 64, ∀ x : Fin 6, (nI s.val ||| ((1 : Int32) <<< (nI x.val &&& 31))) = nI (s.val ||| 2 ^ x.val) := by decide
theorem bit2 : ∀ s : Fin 64, ∀ x : Fin 6, (((nI s.val >>> (nI x.val &&& 31)) &&& 1) = 0) ↔ s.val.testBit x.val = false := by decide
theorem bit3 : ∀ s : Fin 64, ∀ x : Fin 6, (s.val ||| 2 ^ x.val) < 64 := by decide
def gdr (vM : VV) (r : Nat → Nat) (t m : Nat) : Prop := (∀ i j, t ≤ i → i < j → j < m → r i ≠ r j) ∧ ∀ i, t ≤ i → i < m → vM 10 (r i) = 0
def flg (g : Int32) (p : Prop) : Prop := (g = 1 ∧ p) ∨ (g = 0 ∧ ¬ p)
theorem m1_add (x : Int32) : x + (-1) = x - 1 := (Int32.sub_eq_add_neg x 1).symm
theorem digL {P m h A N : Nat} {vM : VV} {K : Nat → Int32 → Int32 → Int32 → Int32 → Int32 → VV → Option VV} (hP0 : 0 < P) (hP : P ≤ 6) (hm : m ≤ 6) (hN : N < 2 ^ 31) : ∀ (n t s : Nat) (g : Int32) (v : VV), t ≤ m → t < n → s < 64 → (∀ x, x < 6 → (s.testBit x = true ↔ ∃ j, t ≤ j ∧ j < m ∧ dg P m N j = x)) → flg g (gdr vM (dg P m N) t m) → v 0 0 = nI P → v 10 = vM 10 → (∀ j, t ≤ j → j < m → v 19 j = nI (dg P m N j)) → ∃ (v' : VV) (g' : Int32), f_X11_lookAll_l48 K n 0 (nI m) (nI h) (nI A) (nI N) (nI (N / P ^ (m - t))) (nI s) g (nI t - 1) v = K 0 (nI m) (nI h) (nI A) (nI N) g' v' ∧ (∀ c, c ≠ 19 → v' c = v c) ∧ (∀ j, j < m → v' 19 j = nI (dg P m N j)) ∧ flg g' (gdr vM (dg P m N) 0 m)
  | 0, t, s, g, v, _, h, _, _, _, _, _, _ => by omega
  | n + 1, 0, s, g, v, ht, hn, hs, hb, hg, e0, e10, hr => by
    rw [f_X11_lookAll_l48, if_pos (by decide)]
    exact ⟨v, g, rfl, fun _ _ => rfl, fun j hj => hr j (by omega) hj, hg⟩
  | n + 1, t + 1, s, g, v, ht, hn, hs, hb, hg, e0, e10, hr => by
    have ep : nI (t + 1) - 1 = nI t := nI_pred t
    have tt : (nI t).toNatClampNeg = t := tn (by omega)
    have it : inB (nI t) 6 = true := inB_n (by omega) (by omega)
    have hd : N / P ^ (m - (t + 1)) < 2 ^ 31 := Nat.lt_of_le_of_lt (Nat.div_le_self _ _) hN
    have er : N / P ^ (m - (t + 1)) % P = dg P m N t := by
      unfold dg
      rw [show m - (t + 1) = m - 1 - t by omega]
    have ed : N / P ^ (m - (t + 1)) / P = N / P ^ (m - t) := by
      rw [Nat.div_div_eq_div_mul, ← Nat.pow_succ, show (m - (t + 1)).succ = m - t by omega]
    have rP : dg P m N t < P := Nat.mod_lt _ hP0
    have p0 : ¬ nI P = 0 := nI_ne0 (by omega) (by omega)
    rw [f_X11_lookAll_l48, ep, if_neg (show ¬ nI t < 0 from nI_nlt (b := 0) (by omega) (by omega)), e0, gd_t p0, rfM28, lnM19, gd_t it, tt, nI_mod hd (by omega) hP0, er, nv_q, wu_n (show 0 ≠ 19 by omega), e0, gd_t p0, nv_q, pk_div hd (by omega) (by omega), ed]
    have b116 : ∀ t0 : Int32, flg t0 (gdr vM (dg P m N) t m) → ∃ (v' : VV) (g' : Int32), f_X11_lookAll_b116 (fun c0 i1 i2 i3 i4 i5 i6 i7 i8 v => f_X11_lookAll_l48 K n c0 i1 i2 i3 i4 i5 i6 i7 i8 v) 0 (nI m) (nI h) (nI A) (nI N) (nI (N / P ^ (m - t))) (nI s) (nI t) t0 (wu v 19 t (nI (dg P m N t))) = K 0 (nI m) (nI h) (nI A) (nI N) g' v' ∧ (∀ c, c ≠ 19 → v' c = v c) ∧ (∀ j, j < m → v' 19 j = nI (dg P m N j)) ∧ flg g' (gdr vM (dg P m N) 0 m) := by
      intro t0 h0
      unfold f_X11_lookAll_b116
      rw [rfM28, lnM19, gd_t it, tt, wu_s, nv_q, nv_q, bit1 ⟨s, hs⟩ ⟨dg P m N t, by omega⟩, m1_add]
      dsimp only
      obtain ⟨v', g', k1, k2, k3, k4⟩ := digL (h := h) (A := A) (K := K) (vM := vM) hP0 hP hm hN n t (s ||| 2 ^ dg P m N t) t0 (wu v 19 t (nI (dg P m N t))) (by omega) (by omega) (bit3 ⟨s, hs⟩ ⟨dg P m N t, by omega⟩) (fun x hx => by
        rw [Nat.testBit_or, Bool.or_eq_true, hb x hx, Nat.testBit_two_pow, decide_eq_true_iff]
        constructor
        · rintro (⟨j, j1, j2, j3⟩ | h9)
          · exact ⟨j, by omega, j2, j3⟩
          · exact ⟨t, by omega, by omega, h9⟩
        · rintro ⟨j, j1, j2, j3⟩
          by_cases e : j = t
          · right; rw [← e]; exact j3
          · exact Or.inl ⟨j, by omega, j2, j3⟩) h0 (by rw [wu_n (by omega), e0]) (by rw [wu_n (by omega), e10]) (fun j j1 j2 => by
        rw [wu_c]
        by_cases e : j = t
        · rw [if_pos e, e]
        · rw [if_neg e, hr j (by omega) j2])
      exact ⟨v', g', k1, fun c hc => by rw [k2 c hc, wu_n hc], k3, k4⟩
    have bad : ¬ gdr vM (dg P m N) t m → ∃ (v' : VV) (g' : Int32), f_X11_lookAll_b115 (fun c0 i1 i2 i3 i4 i5 i6 i7 i8 v => f_X11_lookAll_l48 K n c0 i1 i2 i3 i4 i5 i6 i7 i8 v) 0 (nI m) (nI h) (nI A) (nI N) (nI (N / P ^ (m - t))) (nI s) (nI t) (wu v 19 t (nI (dg P m N t))) = K 0 (nI m) (nI h) (nI A) (nI N) g' v' ∧ (∀ c, c ≠ 19 → v' c = v c) ∧ (∀ j, j < m → v' 19 j = nI (dg P m N j)) ∧ flg g' (gdr vM (dg P m N) 0 m) := fun h0 => by
      unfold f_X11_lookAll_b115
      exact b116 0 (Or.inr ⟨rfl, h0⟩)
    rcases hg with ⟨rfl, hg⟩ | ⟨rfl, hg⟩
    · rw [if_neg (by decide), gd_t it, wu_s]
      have hbit := bit2 ⟨s, hs⟩ ⟨dg P m N t, by omega⟩
      have hbx := hb (dg P m N t) (by omega)
      by_cases hx : s.testBit (dg P m N t) = true
      · rw [if_neg (fun h9 => by have := hbit.mp h9; rw [hx] at this; exact absurd this (by decide))]
        obtain ⟨j, j1, j2, j3⟩ := hbx.mp hx
        exact bad (fun h9 => h9.1 t j (by omega) (by omega) j2 j3.symm)
      · rw [if_pos (hbit.mpr (by simpa using hx)), gd_t it, rfM12, lnM10, gd_t (inB_n (by omega) (by omega)), wu_n (by omega), tn (by omega), e10]
        by_cases hsh : vM 10 (dg P m N t) = 0
        · rw [if_pos hsh]
          refine b116 1 (Or.inl ⟨rfl, fun i j h1 h2 h3 => ?_, fun i h1 h2 => ?_⟩)
          · by_cases e : i = t
            · rw [e]
              intro h9
              exact hx (hbx.mpr ⟨j, by omega, h3, h9.symm⟩)
            · exact hg.1 i j (by omega) h2 h3
          · by_cases e : i = t
            · rw [e]; exact hsh
            · exact hg.2 i (by omega) h2
        · rw [if_neg hsh]
          exact bad (fun h9 => hsh (h9.2 t (by omega) (by omega)))
    · rw [if_pos rfl]
      exact bad (fun h9 => hg ⟨fun i j h1 h2 h3 => h9.1 i j (by omega) h2 h3, fun i h1 h2 => h9.2 i (by omega) h2⟩)
theorem firstL {m h A N : Nat} {r : Nat → Nat} {p : Prop} {v : VV} {K : Nat → Int32 → Int32 → Int32 → Int32 → Int32 → VV → Option VV} (hm : m ≤ 6) (hr : ∀ i, i < m → v 19 i = nI (r i) ∧ r i < 6) : ∀ (n i : Nat) (g : Int32), 1 ≤ i → i ≤ m → m - i < n → flg g (p ∧ ∀ j, 1 ≤ j → j < i → r 0 < r j) → ∃ g' : Int32, f_X11_lookAll_l141 K n 0 (nI m) (nI h) (nI A) (nI N) g (nI i) v = K 0 (nI m) (nI h) (nI A) (nI N) g' v ∧ flg g' (p ∧ ∀ j, 1 ≤ j → j < m → r 0 < r j)
  | 0, i, g, _, _, h, _ => by omega
  | n + 1, i, g, h1, hi, hn, hg => by
    rw [f_X11_lookAll_l141]
    by_cases e : i = m
    · subst e
      rw [if_pos (nI_le (Nat.le_refl _) (by omega))]
      exact ⟨g, rfl, hg⟩
    · rw [if_neg (nI_ge (by omega) (by omega))]
      rcases hg with ⟨rfl, hg⟩ | ⟨rfl, hg⟩
      · have ti : (nI i).toNatClampNeg = i := tn (by omega)
        have ii : inB (nI i) 6 = true := inB_n (by omega) (by omega)
        obtain ⟨r1, r2⟩ := hr i (by omega)
        obtain ⟨r3, r4⟩ := hr 0 (by omega)
        rw [if_neg (by decide), rfM28, lnM19, gd_t ii, gd_t (by decide), ti, tz0, r1, r3]
        by_cases h : r 0 < r i
        · rw [if_neg (nI_ge h (by omega)), nv_q, nI_1]
          refine firstL hm hr n (i + 1) 1 (by omega) (by omega) (by omega) (Or.inl ⟨rfl, hg.1, fun j j1 j2 => ?_⟩)
          by_cases e2 : j = i
          · rw [e2]; exact h
          · exact hg.2 j j1 (by omega)
        · rw [if_pos (nI_le (by omega) (by omega)), nv_q, nI_1]
          exact firstL hm hr n (i + 1) 0 (by omega) (by omega) (by omega) (Or.inr ⟨rfl, fun h9 => h (h9.2 i h1 (by omega))⟩)
      · rw [if_pos rfl]
        exact ⟨0, rfl, Or.inr ⟨rfl, fun h9 => hg ⟨h9.1, fun j j1 j2 => h9.2 j j1 (by omega)⟩⟩⟩
section
variable {P F h : Nat} {vM : VV}
def Qm (P m N : Nat) (f : Nat → Nat) (k : Nat) : Prop := k < m ∨ (k = m ∧ ∃ n, n < N ∧ agr f (dg P m n) m)
theorem allL (hf : frz P F vM) (hh : h ≤ 20) (hP0 : 0 < P) {m : Nat} (hm2 : 2 ≤ m) (hmP : m ≤ P) : ∀ (n N : Nat) (b : Nat → Nat) (bm : Nat) (gv lv : Int) (v : VV), N ≤ P ^ m → P ^ m - N < n → mJ vM v → mS v bm b gv lv → isMax P (oo vM) (legI vM F h) (HW vM) (Qm P m N) bm b gv lv → ∃ (v' : VV) (bm' : Nat) (b' : Nat → Nat) (gv' lv' : Int), f_X11_lookAll_l27 n 0 (nI m) (nI h) (nI (P ^ m)) (nI N) v = some v' ∧ mJ vM v' ∧ mS v' bm' b' gv' lv' ∧ isMax P (oo vM) (legI vM F h) (HW vM) (Qm P m (P ^ m)) bm' b' gv' lv'
  | 0, N, b, bm, gv, lv, v, _, hn, _, _, _ => by omega
  | n + 1, N, b, bm, gv, lv, v, hN, hn, hJ, hS, hM => by
    have hP := hf.1
    have pb := pw_b (m := m) hP (by omega)
    rw [f_X11_lookAll_l27]
    by_cases e : N = P ^ m
    · subst e
      rw [if_pos (nI_le (Nat.le_refl _) (by omega))]
      exact ⟨v, bm, b, gv, lv, rfl, hJ, hS, hM⟩
    · rw [if_neg (nI_ge (by omega) (by omega)), nv_q]
      obtain ⟨v1, g1, k1, k2, k3, k4⟩ := digL (P := P) (m := m) (h := h) (A := P ^ m) (N := N) (vM := vM) (K := fun c0_21 i1_21 i2_21 i3_21 i4_21 i7_21 v_21 =>
      f_X11_lookAll_l141 (fun c0_28 i1_28 i2_28 i3_28 i4_28 i7_28 v_28 =>
      f_X11_lookAll_b181 (fun c0 i1 i2 i3 i4 v => f_X11_lookAll_l27 n c0 i1 i2 i3 i4 v) c0_28 i1_28 i2_28 i3_28 i4_28 i7_28 v_28) FU c0_21 i1_21 i2_21 i3_21 i4_21 i7_21 1 v_21) hP0 hP (by omega) (by omega) FU m 0 1 v (by omega) (by unfold FU; omega) (by omega) (fun x hx => by
        constructor
        · intro h9; rw [Nat.zero_testBit] at h9; exact absurd h9 (by decide)
        · rintro ⟨j, j1, j2, -⟩; omega) (Or.inl ⟨rfl, fun i j _ _ _ => by omega, fun i _ _ => by omega⟩) (by rw [hJ.2.2 0 (by omega), hf.2.1]) (hJ.1 10 (by omega) (by omega)) (fun j _ _ => by omega)
      rw [Nat.sub_self, Nat.pow_zero, Nat.div_one, nI_0] at k1
      rw [k1]
      have rP : ∀ i, dg P m N i < P := fun i => Nat.mod_lt _ hP0
      obtain ⟨g2, y1, y2⟩ := firstL (m := m) (h := h) (A := P ^ m) (N := N) (r := dg P m N) (p := gdr vM (dg P m N) 0 m) (v := v1) (K := fun c0_28 i1_28 i2_28 i3_28 i4_28 i7_28 v_28 =>
      f_X11_lookAll_b181 (fun c0 i1 i2 i3 i4 v => f_X11_lookAll_l27 n c0 i1 i2 i3 i4 v) c0_28 i1_28 i2_28 i3_28 i4_28 i7_28 v_28) (by omega) (fun i hi => ⟨k3 i hi, by have := rP i; omega⟩) FU 1 g1 (by omega) (by omega) (by unfold FU; omega) (by
        have e9 : (gdr vM (dg P m N) 0 m ∧ ∀ j, 1 ≤ j → j < 1 → dg P m N 0 < dg P m N j) ↔ gdr vM (dg P m N) 0 m := ⟨fun h9 => h9.1, fun h9 => ⟨h9, fun j _ _ => by omega⟩⟩
        unfold flg
        rw [e9]
        exact k4)
      have y1' := y1
      rw [show nI 1 = 1 from rfl] at y1'
      rw [y1']
      unfold f_X11_lookAll_b181
      have hJ1 : mJ vM v1 := ⟨fun c h1 h2 => by rw [k2 c (by omega), hJ.1 c h1 h2], fun c h1 => by rw [k2 c (by omega), hJ.2.1 c h1], fun j hj => by rw [k2 0 (by omega), hJ.2.2 j hj]⟩
      have hS1 : mS v1 bm b gv lv := by
        unfold mS
        rw [k2 0 (by omega), k2 20 (by omega)]
        exact hS
      have hQ : ∀ f k, Qm P m (N + 1) f k ↔ Qm P m N f k ∨ (k = m ∧ agr f (dg P m N) m) := fun f k => by
        unfold Qm
        constructor
        · rintro (h9 | ⟨h8, j, h9, h7⟩)
          · exact Or.inl (Or.inl h9)
          · by_cases e2 : j = N
            · rw [e2] at h7; exact Or.inr ⟨h8, h7⟩
            · exact Or.inl (Or.inr ⟨h8, j, by omega, h7⟩)
        · rintro ((h9 | ⟨h8, j, h9, h7⟩) | ⟨h8, h7⟩)
          · exact Or.inl h9
          · exact Or.inr ⟨h8, j, by omega, h7⟩
          · exact Or.inr ⟨h8, N, by omega, h7⟩
      rcases y2 with ⟨rfl, hg, hg0⟩ | ⟨rfl, hg⟩
      · obtain ⟨v2, bm2, b2, gv2, lv2, z1, z2, z3, z4⟩ := lookE (h := h) (m := m) (r := dg P m N) hf hh hm2 (by omega) (fun i _ => rP i) (fun i j h1 h2 => hg.1 i j (by omega) h1 h2) hg0 (fun i hi => hg.2 i (by omega) hi) hJ1 k3 hS1 hM
        rw [if_neg (by decide), z1, Option.bind_some, nv_q, nI_1]
        exact allL hf hh hP0 hm2 hmP n (N + 1) b2 bm2 gv2 lv2 v2 (by omega) (by omega) z2 z3 (isMax_eq z4 (fun f k _ => hQ f k))
      · rw [if_pos rfl, nv_q, nI_1]
        refine allL hf hh hP0 hm2 hmP n (N + 1) b bm gv lv v1 (by omega) (by omega) hJ1 hS1 (isMax_eq hM (fun f k hfk => (hQ f k).trans ⟨fun h9 => ?_, Or.inl⟩))
        rcases h9 with h9 | ⟨rfl, h9⟩
        · exact h9
        · exfalso
          apply hg
          obtain ⟨-, ⟨q1, q2, q3, q4⟩, -⟩ := hfk
          refine ⟨⟨fun i j _ h1 h2 => by rw [← h9 i (by omega), ← h9 j h2]; exact q2 i j h1 h2, fun i _ hi => ?_⟩, fun j j1 j2 => by rw [← h9 0 (by omega), ← h9 j j2]; exact q3 j j1 j2⟩
          rw [← h9 i hi]
          by_cases e2 : i + 1 < k
          · have := q4 i e2
            unfold oo at this
            by_cases e3 : vM 10 (f i) = 0
            · exact e3
            · rw [if_neg e3] at this; exact absurd rfl this
          · have := q4 (i - 1) (by omega)
            rw [show i - 1 + 1 = i by omega] at this
            unfold oo at this
            by_cases e3 : vM 10 (f i) = 0
            · exact e3
            · rw [if_neg e3] at this
              by_cases e4 : vM 10 (f (i - 1)) = 0
              · rw [if_pos e4] at this; exact absurd rfl this
              · rw [if_neg e4] at this; exact absurd rfl this
theorem powL {m : Nat} {K : Nat → Int32 → Int32 → Int32 → VV → Option VV} {v : VV} (hm : m ≤ 6) (e0 : v 0 0 = nI P) : ∀ (n i : Nat), i ≤ m → m - i < n → f_X11_lookAll_l5 K n 0 (nI m) (nI h) (nI (P ^ i)) (nI i) v = K 0 (nI m) (nI h) (nI (P ^ m)) v
  | 0, i, _, h => by omega
  | n + 1, i, hi, hn => by
    rw [f_X11_lookAll_l5]
    by_cases e : i = m
    · subst e
      rw [if_pos (nI_le (Nat.le_refl _) (by omega))]
    · rw [if_neg (nI_ge (by omega) (by omega)), e0, pk_mul, nv_q, nv_q, nI_1, ← Nat.pow_succ]
      exact powL hm e0 n (i + 1) (by omega) (by omega)
theorem allE (hf : frz P F vM) (hh : h ≤ 20) {m : Nat} (hm2 : 2 ≤ m) (hmP : m ≤ P) {b : Nat → Nat} {bm : Nat} {gv lv : Int} {v : VV} (hJ : mJ vM v) (hS : mS v bm b gv lv) (hM : isMax P (oo vM) (legI vM F h) (HW vM) (fun _ k => k < m) bm b gv lv) : ∃ (v' : VV) (bm' : Nat) (b' : Nat → Nat) (gv' lv' : Int), F_X11_lookAll 0 (nI m) (nI h) v = some v' ∧ mJ vM v' ∧ mS v' bm' b' gv' lv' ∧ isMax P (oo vM) (legI vM F h) (HW vM) (fun _ k => k < m + 1) bm' b' gv' lv' := by
  have hP := hf.1
  have pb := pw_b (m := m) hP (by omega)
  unfold F_X11_lookAll f_X11_lookAll
  have := powL (P := P) (h := h) (m := m) (v := v) (K := fun c0_3 i1_3 i2_3 i3_3 v_3 =>
  f_X11_lookAll_l27 FU c0_3 i1_3 i2_3 i3_3 0 v_3) (by omega) (by rw [hJ.2.2 0 (by omega), hf.2.1]) FU 0 (by omega) (by unfold FU; omega)
  rw [Nat.pow_zero, nI_0] at this
  rw [show (1 : Int32) = nI 1 from rfl, this]
  obtain ⟨v1, bm1, b1, gv1, lv1, g1, g2, g3, g4⟩ := allL hf hh (by omega) hm2 hmP FU 0 b bm gv lv v (by omega) (by unfold FU; omega) hJ hS (isMax_eq hM (fun f k _ => by
    unfold Qm
    constructor
    · rintro (h9 | ⟨h8, j, h9, -⟩)
      · exact h9
      · omega
    · intro h9; exact Or.inl h9))
  rw [nI_0] at g1
  refine ⟨v1, bm1, b1, gv1, lv1, g1, g2, g3, isMax_eq g4 (fun f k hfk => ?_)⟩
  unfold Qm
  constructor
  · intro h9
    by_cases e : k = m
    · subst e
      exact Or.inr ⟨rfl, dg_all (by omega) k hfk.2.1.1⟩
    · exact Or.inl (by omega)
  · rintro (h9 | ⟨h8, h9⟩)
    · omega
    · omega
theorem rgL (hf : frz P F vM) (hh : h ≤ 20) {i2 : Int32} {K : Nat → Int32 → VV → Option (Int32 × VV)} : ∀ (n m : Nat) (b : Nat → Nat) (bm : Nat) (gv lv : Int) (v : VV), 2 ≤ m → m ≤ 7 → P + 1 - m < n → mJ vM v → mS v bm b gv lv → isMax P (oo vM) (legI vM F h) (HW vM) (fun _ k => k < m) bm b gv lv → ∃ (v' : VV) (bm' : Nat) (b' : Nat → Nat) (gv' lv' : Int) (Q : (Nat → Nat) → Nat → Prop), f_X11_ring_l50 K n 0 (nI h) i2 (nI m) v = K 0 i2 v' ∧ mJ vM v' ∧ mS v' bm' b' gv' lv' ∧ (∀ f k, cand P (oo vM) f k → Q f k) ∧ isMax P (oo vM) (legI vM F h) (HW vM) Q bm' b' gv' lv'
  | 0, m, b, bm, gv, lv, v, _, _, hn, _, _, _ => by omega
  | n + 1, m, b, bm, gv, lv, v, hm2, hm7, hn, hJ, hS, hM => by
    have hP := hf.1
    rw [f_X11_ring_l50, hJ.2.2 0 (by omega), hf.2.1]
    by_cases e : P < m
    · rw [if_pos (nI_lt e (by omega))]
      refine ⟨v, bm, b, gv, lv, _, rfl, hJ, hS, fun f k hfk => ?_, hM⟩
      have := pig_f hfk.2.1.1 hfk.2.1.2.1
      omega
    · rw [if_neg (nI_nlt (by omega) (by omega))]
      obtain ⟨v1, bm1, b1, gv1, lv1, g1, g2, g3, g4⟩ := allE hf hh hm2 (by omega) hJ hS hM
      rw [g1, Option.bind_some, nv_q, nI_1]
      exact rgL hf hh n (m + 1) b1 bm1 gv1 lv1 v1 (by omega) (by omega) (by omega) g2 g3 g4
end
