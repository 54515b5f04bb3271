/-! prices, taxes, ways, legs of a frozen world -/
def PR (v : VV) (k : Nat) : Nat := prc (v 4 k).toNatClampNeg (v 5 k).toNatClampNeg (v 1 k).toNatClampNeg
def TX (v : VV) (p : Nat) : Nat := (v 7 p).toNatClampNeg
def WW (v : VV) (a b : Nat) : Nat := (v 11 (6 * a + b)).toNatClampNeg
def oo (v : VV) (a b : Nat) : Nat := if v 10 a = 0 then (if v 10 b = 0 then WW v a b else 0) else 0
def dl (v : VV) (p q g : Nat) : Int := (PR v (3 * q + g) : Int) - TX v q - PR v (3 * p + g) - TX v p
def mxs (a d : Int) : Int := if a < d then d else a
def mx (v : VV) (p q : Nat) : Int := mxs (mxs (mxs 0 (dl v p q 0)) (dl v p q 1)) (dl v p q 2)
def legI (v : VV) (F h p q : Nat) : Int := (h : Int) * mx v p q - (F : Int) * (WW v p q : Int)
/-- what the frozen world keeps to -/
def frz (P F : Nat) (v : VV) : Prop := P ≤ 6 ∧ v 0 0 = nI P ∧ v 0 2 = nI F ∧ F ≤ 20 ∧ (∀ k, k < 3 * P → ∃ b m s, v 4 k = nI b ∧ v 5 k = nI m ∧ v 1 k = nI s ∧ 1 ≤ b ∧ b ≤ 100 ∧ 1 ≤ m ∧ m ≤ 100 ∧ s ≤ 1000) ∧ (∀ p, p < 6 → v 7 p = nI (TX v p) ∧ TX v p ≤ 20) ∧ (∀ a b, a < 6 → b < 6 → v 11 (6 * a + b) = nI (WW v a b) ∧ WW v a b ≤ 9 ∧ (a = b → WW v a b = 0))
theorem frz_of {P T F S : Nat} {vC vM : VV} (i1 : iSc P T F S vC vM) (i2 : iSh P vC vM) (i3 : iPo vC vM) (i4 : iWy vC vM) : frz P F vM := by
  refine ⟨i1.1.2.2, i1.1.2.1, i1.2.2.1.2.1, i1.2.2.1.2.2, fun k hk => ?_, fun p hp => ?_, fun a b ha hb => ?_⟩
  · have hP6 := i1.1.2.2
    obtain ⟨q1, q2, q3, q4, q5, q6, q7, ⟨s, -, hs1, ys⟩, q9, q10⟩ := i2 k (by omega)
    obtain ⟨y1, y2, ⟨b, hb0, hb1, yb⟩, ⟨m, hm0, hm1, ym⟩⟩ := q6 hk
    exact ⟨b, m, s, yb, ym, ys, hb0, hb1, hm0, hm1, hs1⟩
  · have := bnd_f (i3 p hp).2.2.2.2.1 (by omega)
    exact ⟨this.1, this.2.2⟩
  · obtain ⟨w1, w2, w3⟩ := i4 a ha b hb
    have := bnd_f w2 (by omega)
    refine ⟨this.1, this.2.2, fun e => ?_⟩
    unfold WW
    rw [w3 e]
    rfl
theorem PR_le {P F k : Nat} {v : VV} (h : frz P F v) (hk : k < 3 * P) : PR v k ≤ 200 := by
  obtain ⟨b, m, s, e1, e2, e3, b0, b1, m0, m1, s1⟩ := h.2.2.2.2.1 k hk
  unfold PR
  rw [e1, e2, e3, tn (by omega), tn (by omega), tn (by omega)]
  exact prc_le b1 b0
theorem PR_M {P F k : Nat} {v v' : VV} (h : frz P F v) (hk : k < 3 * P) (e1 : v' 1 = v 1) (e4 : v' 4 = v 4) (e5 : v' 5 = v 5) : F_X11_priceWith 0 (nI k) (v' 1 k) v' = some (nI (PR v k), v') := by
  obtain ⟨b, m, s, x1, x2, x3, b0, b1, m0, m1, s1⟩ := h.2.2.2.2.1 k hk
  have hP := h.1
  unfold PR
  rw [x1, x2, x3, tn (by omega), tn (by omega), tn (by omega), e1, x3]
  exact priceM (by omega) (by rw [e4, x1]) (by rw [e5, x2]) b1 m0 m1 (by omega)
theorem PR_C {P T F S k : Nat} {vC vM v' : VV} (i1 : iSc P T F S vC vM) (i2 : iSh P vC vM) (hk : k < 3 * P) (e : v' (37 + k) = vC (37 + k)) : F_X6_number (37 + k) 5 v' = some (nI (PR vM k), v') := by
  have hP6 := i1.1.2.2
  obtain ⟨q1, q2, q3, q4, q5, q6, q7, ⟨s, -, hs1, ys⟩, q9, q10⟩ := i2 k (by omega)
  obtain ⟨y1, y2, ⟨b, hb0, hb1, yb⟩, ⟨m, hm0, hm1, ym⟩⟩ := q6 hk
  unfold F_X6_number f_X6_number PR
  rw [if_neg (by decide), if_neg (by decide), if_neg (by decide), if_neg (by decide), if_neg (by decide), if_pos rfl, e, q2, ys, yb, ym, tn (by omega), tn (by omega), tn (by omega)]
  rw [priceC (b := b) (m := m) (by rw [e, y1, yb]) (by rw [e, y2, ym]) hb1 hm0 hm1 (by omega), bi_s]
theorem dl_b {P F p q g : Nat} {v : VV} (h : frz P F v) (hp : p < P) (hq : q < P) (hg : g < 3) : -240 ≤ dl v p q g ∧ dl v p q g ≤ 200 := by
  have h1 := PR_le h (show 3 * q + g < 3 * P by omega)
  have h2 := PR_le h (show 3 * p + g < 3 * P by omega)
  have h3 := (h.2.2.2.2.2.1 p (by have := h.1; omega)).2
  have h4 := (h.2.2.2.2.2.1 q (by have := h.1; omega)).2
  unfold dl
  omega
theorem mxs_b {a d : Int} (h1 : 0 ≤ a) (h2 : a ≤ 200) (h3 : d ≤ 200) : 0 ≤ mxs a d ∧ mxs a d ≤ 200 := by
  unfold mxs
  split <;> omega
theorem mx_b {P F p q : Nat} {v : VV} (h : frz P F v) (hp : p < P) (hq : q < P) : 0 ≤ mx v p q ∧ mx v p q ≤ 200 := by
  have d0 := dl_b h hp hq (show 0 < 3 by omega)
  have d1 := dl_b h hp hq (show 1 < 3 by omega)
  have d2 := dl_b h hp hq (show 2 < 3 by omega)
  have a0 := mxs_b (a := 0) (by omega) (by omega) d0.2
  have a1 := mxs_b a0.1 a0.2 d1.2
  exact mxs_b a1.1 a1.2 d2.2
theorem legI_b {P F h p q : Nat} {v : VV} (hf : frz P F v) (hp : p < P) (hq : q < P) (hh : h ≤ 20) : -180 ≤ legI v F h p q ∧ legI v F h p q ≤ 4000 := by
  have m := mx_b hf hp hq
  have w := (hf.2.2.2.2.2.2 p q (by have := hf.1; omega) (by have := hf.1; omega)).2.1
  have f := hf.2.2.2.1
  unfold legI
  have a1 : (h : Int) * mx v p q ≤ 20 * 200 := Int.mul_le_mul (by omega) m.2 m.1 (by omega)
  have a2 : 0 ≤ (h : Int) * mx v p q := Int.mul_nonneg (by omega) m.1
  have a3 : (F : Int) * (WW v p q : Int) ≤ 20 * 9 := Int.mul_le_mul (by omega) (by omega) (by omega) (by omega)
  have a4 : 0 ≤ (F : Int) * (WW v p q : Int) := Int.mul_nonneg (by omega) (by omega)
  omega
theorem dl_M {v : VV} {p q g : Nat} : nI (PR v (3 * q + g)) - nI (TX v q) - nI (PR v (3 * p + g)) - nI (TX v p) = iI (dl v p q g) := by
  rw [iI_nat, iI_nat, iI_nat, iI_nat, iI_sub, iI_sub, iI_sub]
  rfl
theorem dl_C {v : VV} {p q g : Nat} : nI (PR v (3 * q + g)) - nI (PR v (3 * p + g)) - (nI (TX v p) + nI (TX v q)) = iI (dl v p q g) := by
  rw [← dl_M]
  grind
theorem mxs_C {a d : Int} (a0 : 0 ≤ a) (a1 : a ≤ 200) (d0 : -240 ≤ d) (d1 : d ≤ 200) : (if iI a < iI d then iI d else iI a) = iI (mxs a d) := by
  unfold mxs
  by_cases h : a < d
  · rw [if_pos h, if_pos ((iI_lt (by omega) (by omega) (by omega) (by omega)).mpr h)]
  · rw [if_neg h, if_neg (fun h9 => h ((iI_lt (by omega) (by omega) (by omega) (by omega)).mp h9))]
theorem gainC_s {P T F S n p q g : Nat} {a : Int} {vC vM v' : VV} (i1 : iSc P T F S vC vM) (i2 : iSh P vC vM) (hf : frz P F vM) (hp : p < P) (hq : q < P) (hg : g < 3) (a0 : 0 ≤ a) (a1 : a ≤ 200) (e : ∀ k, k < 18 → v' (37 + k) = vC (37 + k)) : f_X5_gainOfUnit_l32 (n + 1) 11 (nI p) (nI q) (nI (TX vM p) + nI (TX vM q)) (iI a) (nI g) v' = f_X5_gainOfUnit_l32 n 11 (nI p) (nI q) (nI (TX vM p) + nI (TX vM q)) (iI (mxs a (dl vM p q g))) (nI (g + 1)) v' := by
  have hP6 := hf.1
  have d := dl_b hf hp hq hg
  rw [f_X5_gainOfUnit_l32, if_neg (show ¬ (3 : Int32) ≤ nI g from nI_ge (b := 3) (by omega) (by omega)), show rfC 11 0 = 1 from rfl, shelfE (by omega) hg, bi_s, PR_C i1 i2 (by omega) (e _ (by omega)), bi_s, shelfE (by omega) hg, bi_s, PR_C i1 i2 (by omega) (e _ (by omega)), bi_s, dl_C, mxs_C a0 a1 d.1 d.2, nv_q, nv_q, nI_1]
theorem gainC {P T F S p q : Nat} {vC vM v' : VV} (i1 : iSc P T F S vC vM) (i2 : iSh P vC vM) (i3 : iPo vC vM) (hf : frz P F vM) (hp : p < P) (hq : q < P) (e : ∀ k, k < 18 → v' (37 + k) = vC (37 + k)) (e2 : ∀ k, k < 6 → v' (25 + k) = vC (25 + k)) : F_X5_gainOfUnit 11 (nI p) (nI q) v' = some (iI (mx vM p q), v') := by
  have hP6 := hf.1
  have d0 := dl_b hf hp hq (show 0 < 3 by omega)
  have d1 := dl_b hf hp hq (show 1 < 3 by omega)
  have d2 := dl_b hf hp hq (show 2 < 3 by omega)
  have a0 := mxs_b (a := 0) (by omega) (by omega) d0.2
  have a1 := mxs_b a0.1 a0.2 d1.2
  have tp : (nI p).toNatClampNeg = p := tn (by omega)
  have ip : inB (nI p) 6 = true := inB_n (by omega) (by omega)
  have tq : (nI q).toNatClampNeg = q := tn (by omega)
  have iq : inB (nI q) 6 = true := inB_n (by omega) (by omega)
  unfold F_X5_gainOfUnit f_X5_gainOfUnit
  rw [show rfC 11 0 = 1 from rfl, rfC10, lnC2, gd_t ip, gd_t iq, nv_q, rfC2, rfC2, tp, tq, e2 p (by omega), e2 q (by omega), (i3 p (by omega)).1, (i3 q (by omega)).1, (hf.2.2.2.2.2.1 p (by omega)).1, (hf.2.2.2.2.2.1 q (by omega)).1]
  have s0 := gainC_s (n := 59996 + 3) (g := 0) (a := 0) i1 i2 hf hp hq (by omega) (by omega) (by omega) e
  have s1 := gainC_s (n := 59996 + 2) (g := 1) i1 i2 hf hp hq (by omega) a0.1 a0.2 e
  have s2 := gainC_s (n := 59996 + 1) (g := 2) i1 i2 hf hp hq (by omega) a1.1 a1.2 e
  have hFU : FU = 59996 + 3 + 1 := rfl
  rw [hFU]
  refine Eq.trans s0 (Eq.trans s1 (Eq.trans s2 ?_))
  rw [f_X5_gainOfUnit_l32, if_pos (show (3 : Int32) ≤ nI (2 + 1) by decide)]
  rfl
theorem legM_s {P F n p q g : Nat} {a : Int} {K : Nat → Int32 → Int32 → Int32 → Int32 → VV → Option (Int32 × VV)} {i3 : Int32} {vM v' : VV} (hf : frz P F vM) (hp : p < P) (hq : q < P) (hg : g < 3) (a0 : 0 ≤ a) (a1 : a ≤ 200) (e : ∀ c, 1 ≤ c → c < 19 → v' c = vM c) : f_X11_legGain_l6 K (n + 1) 0 (nI p) (nI q) i3 (iI a) (nI g) v' = f_X11_legGain_l6 K n 0 (nI p) (nI q) i3 (iI (mxs a (dl vM p q g))) (nI (g + 1)) v' := by
  have hP6 := hf.1
  have d := dl_b hf hp hq hg
  have tp : (nI p).toNatClampNeg = p := tn (by omega)
  have ip : inB (nI p) 6 = true := inB_n (by omega) (by omega)
  have tq : (nI q).toNatClampNeg = q := tn (by omega)
  have iq : inB (nI q) 6 = true := inB_n (by omega) (by omega)
  have t1 : (nI (3 * p + g)).toNatClampNeg = 3 * p + g := tn (by omega)
  have k1 : inB (nI (3 * p + g)) 18 = true := inB_n (by omega) (by omega)
  have t2 : (nI (3 * q + g)).toNatClampNeg = 3 * q + g := tn (by omega)
  have k2 : inB (nI (3 * q + g)) 18 = true := inB_n (by omega) (by omega)
  rw [f_X11_legGain_l6, if_neg (show ¬ (3 : Int32) ≤ nI g from nI_ge (b := 3) (by omega) (by omega)), nv_q, nv_q, k3, k3]
  simp only [rfM3, rfM9, lnMs (show 1 ≤ 1 by omega) (by omega), lnMp (show 7 ≤ 7 by omega) (by omega), gd_t ip, gd_t iq, gd_t k1, gd_t k2, t1, t2, tp, tq]
  rw [PR_M hf (by omega) (e 1 (by omega) (by omega)) (e 4 (by omega) (by omega)) (e 5 (by omega) (by omega)), bi_s, PR_M hf (by omega) (e 1 (by omega) (by omega)) (e 4 (by omega) (by omega)) (e 5 (by omega) (by omega)), bi_s, e 7 (by omega) (by omega), (hf.2.2.2.2.2.1 p (by omega)).1, (hf.2.2.2.2.2.1 q (by omega)).1, dl_M, nv_q, nv_q, nv_q, nI_1]
  have hm := mxs_C a0 a1 d.1 d.2
  by_cases h : iI (dl vM p q g) ≤ iI a
  · rw [if_pos h]
    have h2 : mxs a (dl vM p q g) = a := by
      rw [iI_le (by omega) (by omega) (by omega) (by omega)] at h
      unfold mxs
      rw [if_neg (by omega)]
    rw [h2]
  · rw [if_neg h]
    have h2 : mxs a (dl vM p q g) = dl vM p q g := by
      rw [iI_le (by omega) (by omega) (by omega) (by omega)] at h
      unfold mxs
      rw [if_pos (by omega)]
    rw [h2]
theorem legM {P F p q h : Nat} {vM v' : VV} (hf : frz P F vM) (hp : p < P) (hq : q < P) (e : ∀ c, 1 ≤ c → c < 19 → v' c = vM c) (e0 : v' 0 2 = vM 0 2) : F_X11_legGain 0 (nI p) (nI q) (nI h) v' = some (iI (legI vM F h p q), v') := by
  have hP6 := hf.1
  have d0 := dl_b hf hp hq (show 0 < 3 by omega)
  have d1 := dl_b hf hp hq (show 1 < 3 by omega)
  have d2 := dl_b hf hp hq (show 2 < 3 by omega)
  have a0 := mxs_b (a := 0) (by omega) (by omega) d0.2
  have a1 := mxs_b a0.1 a0.2 d1.2
  have tw : (nI (6 * p + q)).toNatClampNeg = 6 * p + q := tn (by omega)
  have iw : inB (nI (6 * p + q)) 36 = true := inB_n (by omega) (by omega)
  unfold F_X11_legGain f_X11_legGain
  have hFU : FU = 59996 + 3 + 1 := rfl
  rw [hFU]
  refine Eq.trans (legM_s (n := 59996 + 3) (g := 0) (a := 0) hf hp hq (by omega) (by omega) (by omega) e) (Eq.trans (legM_s (n := 59996 + 2) (g := 1) hf hp hq (by omega) a0.1 a0.2 e) (Eq.trans (legM_s (n := 59996 + 1) (g := 2) hf hp hq (by omega) a1.1 a1.2 e) ?_))
  rw [f_X11_legGain_l6, if_pos (show (3 : Int32) ≤ nI (2 + 1) by decide), k6, rfM13, lnMw, gd_t iw, tw, e0, hf.2.2.1, e 11 (by omega) (by omega), (hf.2.2.2.2.2.2 p q (by omega) (by omega)).1, iI_nat, iI_nat, iI_nat, iI_mul, iI_mul, iI_sub]
  rfl
