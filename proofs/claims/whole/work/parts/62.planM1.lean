/-! a plan's world, in the model -/
def MK (v : VV) (k : Nat) : Nat := (v 2 k).toNatClampNeg
def US (v : VV) (k : Nat) : Nat := (v 3 k).toNatClampNeg
def BA (v : VV) (k : Nat) : Nat := (v 4 k).toNatClampNeg
def MD (v : VV) (k : Nat) : Nat := (v 5 k).toNatClampNeg
def pfz (P F E : Nat) (v : VV) : Prop := frz P F v ∧ (∀ k, k < 3 * P → v 2 k = nI (MK v k) ∧ MK v k ≤ 50 ∧ v 3 k = nI (US v k) ∧ US v k ≤ 50 ∧ v 4 k = nI (BA v k) ∧ 1 ≤ BA v k ∧ BA v k ≤ 100 ∧ v 5 k = nI (MD v k) ∧ 1 ≤ MD v k ∧ MD v k ≤ 100) ∧ v 0 22 = nI E ∧ E ≤ 20 ∧ ∀ e, e < E → (∃ k, k < 3 * P ∧ v 13 e = nI k) ∧ -1000 ≤ v 14 e ∧ v 14 e ≤ 1000
theorem pfz_of {P T F S E : Nat} {vC vM : VV} (i1 : iSc P T F S vC vM) (i2 : iSh P vC vM) (i3 : iPo vC vM) (i4 : iWy vC vM) (i6 : iEv P T E vC vM) : pfz P F E vM := by
  have hP6 := i1.1.2.2
  refine ⟨frz_of i1 i2 i3 i4, fun k hk => ?_, i6.1.2.1, i6.1.2.2, fun e he => ⟨(i6.2.2.2 e he).2.1, (i6.2.2.2 e he).2.2⟩⟩
  obtain ⟨q1, q2, q3, q4, q5, q6, q7, q8, q9, q10⟩ := i2 k (by omega)
  obtain ⟨y1, y2, yb, ym⟩ := q6 hk
  have a1 := bnd_f q9 (by omega)
  have a2 := bnd_f q10 (by omega)
  have a3 := bnd_f yb (by omega)
  have a4 := bnd_f ym (by omega)
  exact ⟨a1.1, a1.2.2, a2.1, a2.2.2, a3.1, a3.2.1, a3.2.2, a4.1, a4.2.1, a4.2.2⟩
def tkn (v : VV) (E k t s n : Nat) : Nat := (fl (fun t => Bk (v 12) (v 13) (v 14) k t E) (MK v k) (US v k) t s n).1
theorem fl_add {B : Nat → List Int32} {mk us T s0 n : Nat} : ∀ m, (fl B mk us T s0 (n + m)).1 = (fl B mk us (T + n) (fl B mk us T s0 n).1 m).1
  | 0 => rfl
  | m + 1 => by
    rw [show n + (m + 1) = (n + m) + 1 from rfl, fl, fl]
    dsimp only
    rw [fl_add m, Nat.add_assoc]
theorem tkn_add {v : VV} {E k t s n m : Nat} : tkn v E k t s (n + m) = tkn v E k (t + n) (tkn v E k t s n) m := fl_add m
theorem tkn_le {v : VV} {E k t s n : Nat} (h : s ≤ 1000) : tkn v E k t s n ≤ 1000 := fl_le h n
theorem tkn_s {v : VV} {E k t s n : Nat} : tkn v E k t s (n + 1) = muS (MK v k) (US v k) (evS (Bk (v 12) (v 13) (v 14) k (t + n) E) (tkn v E k t s n)) := rfl
def nJ (vM v : VV) : Prop := (∀ c, 1 ≤ c → c < 19 → v c = vM c) ∧ ∀ j, j < 30 → v 0 j = vM 0 j
theorem lnM21 : lnM 21 = 18 := rfl
section
variable {P F E : Nat} {vM : VV}
theorem thE {t : Nat} {s : Nat → Nat} {K : Nat → VV → Option VV} (hp : pfz P F E vM) (hs : ∀ k, k < 3 * P → s k ≤ 1000) : ∀ (n e : Nat) (v : VV), e ≤ E → E - e < n → nJ vM v → v 0 34 = nI t → (∀ k, k < 3 * P → v 21 k = nI (evS (Bk (vM 12) (vM 13) (vM 14) k t e) (s k))) → ∃ v', f_X11_tickThen_l2 K n 0 (nI e) v = K 0 v' ∧ (∀ c, c ≠ 21 → v' c = v c) ∧ ∀ k, k < 3 * P → v' 21 k = nI (evS (Bk (vM 12) (vM 13) (vM 14) k t E) (s k))
  | 0, e, v, _, h, _, _, _ => by omega
  | n + 1, e, v, he, hn, hJ, h34, hv => by
    have E20 := hp.2.2.2.1
    have hP6 := hp.1.1
    rw [f_X11_tickThen_l2, hJ.2 22 (by omega), hp.2.2.1]
    by_cases h : e = E
    · subst h
      rw [if_pos (nI_le (Nat.le_refl _) (by omega))]
      exact ⟨v, rfl, fun _ _ => rfl, hv⟩
    · have te : (nI e).toNatClampNeg = e := tn (by omega)
      have ie : inB (nI e) 20 = true := inB_n (by omega) (by omega)
      obtain ⟨⟨k, hk, hk2⟩, hb1, hb2⟩ := hp.2.2.2.2 e (by omega)
      have tk : (nI k).toNatClampNeg = k := tn (by omega)
      have ik : inB (nI k) 18 = true := inB_n (by omega) (by omega)
      rw [if_neg (nI_ge (by omega) (by omega)), rfM19, rfM20, rfM21, rfM33, lnMe (show 12 ≤ 12 by omega) (by omega), lnMe (show 12 ≤ 13 by omega) (by omega), lnMe (show 12 ≤ 14 by omega) (by omega), lnM21, gd_t ie, te, h34, hJ.1 12 (by omega) (by omega), hJ.1 13 (by omega) (by omega), hJ.1 14 (by omega) (by omega), hk2, tk]
      by_cases h1 : vM 12 e = nI t
      · rw [if_pos h1, gd_t ie, gd_t ie, gd_t ik, gd_t ie, hv k hk, hld_M (evS_le _ _ (hs k hk)) hb1 hb2, bi_s, gd_t ik, nv_q, nv_q, nI_1]
        obtain ⟨v', g1, g2, g3⟩ := thE (t := t) (s := s) (K := K) hp hs n (e + 1) (wu v 21 k (nI (hld (evS (Bk (vM 12) (vM 13) (vM 14) k t e) (s k)) (vM 14 e)))) (by omega) (by omega) ⟨fun c h1 h2 => by rw [wu_n (by omega), hJ.1 c h1 h2], fun j hj => by rw [wu_n (by omega), hJ.2 j hj]⟩ (by rw [wu_n (by omega), h34]) (fun k' hk' => by
          rw [wu_c, Bk]
          by_cases h9 : k' = k
          · rw [if_pos h9, if_pos ⟨h1, by rw [hk2, h9]⟩, evS_snoc, h9]
          · rw [if_neg h9, if_neg (fun h8 => by rw [hk2] at h8; have := nI_inj (by omega) (by omega) h8.2; omega), hv k' hk'])
        exact ⟨v', g1, fun c hc => by rw [g2 c hc, wu_n hc], g3⟩
      · rw [if_neg h1, nv_q, nI_1]
        exact thE (t := t) (s := s) (K := K) hp hs n (e + 1) v (by omega) (by omega) hJ h34 (fun k' hk' => by
          rw [Bk, if_neg (fun h8 => h1 h8.1), hv k' hk'])
theorem thM {s : Nat → Nat} {K : Nat → VV → Option VV} (hp : pfz P F E vM) (hs : ∀ k, k < 3 * P → s k ≤ 1000) : ∀ (n i : Nat) (v : VV), i ≤ 3 * P → 3 * P - i < n → nJ vM v → (∀ k, k < 3 * P → v 21 k = nI (if k < i then muS (MK vM k) (US vM k) (s k) else s k)) → ∃ v', f_X11_tickThen_l63 K n 0 (nI i) v = K 0 v' ∧ (∀ c, c ≠ 21 → v' c = v c) ∧ ∀ k, k < 3 * P → v' 21 k = nI (muS (MK vM k) (US vM k) (s k))
  | 0, i, v, _, h, _, _ => by omega
  | n + 1, i, v, hi, hn, hJ, hv => by
    have hP6 := hp.1.1
    have e3 : 3 * nI P = nI (3 * P) := pk_mul (a := 3) (b := P)
    rw [f_X11_tickThen_l63, hJ.2 0 (by omega), hp.1.2.1, e3]
    by_cases h : i = 3 * P
    · subst h
      rw [if_pos (nI_le (Nat.le_refl _) (by omega))]
      exact ⟨v, rfl, fun _ _ => rfl, fun k hk => by rw [hv k hk, if_pos hk]⟩
    · have ti : (nI i).toNatClampNeg = i := tn (by omega)
      have ii : inB (nI i) 18 = true := inB_n (by omega) (by omega)
      obtain ⟨y1, y2, y3, y4, -⟩ := hp.2.1 i (by omega)
      have hsi := hs i (by omega)
      rw [if_neg (nI_ge (by omega) (by omega)), rfM33, rfM4, rfM5, lnM21, lnMs (show 1 ≤ 2 by omega) (by omega), lnMs (show 1 ≤ 3 by omega) (by omega), gd_t ii, gd_t ii, ti, hv i (by omega), if_neg (by omega), hJ.1 2 (by omega) (by omega), y1, hldN_M hsi (by omega), bi_s, gd_t ii, hJ.1 3 (by omega) (by omega), y3]
      have fin : ∃ v', f_X11_tickThen_l63 K n 0 (nI (i + 1)) (wu v 21 i (nI (muS (MK vM i) (US vM i) (s i)))) = K 0 v' ∧ (∀ c, c ≠ 21 → v' c = v c) ∧ ∀ k, k < 3 * P → v' 21 k = nI (muS (MK vM k) (US vM k) (s k)) := by
        obtain ⟨v', g1, g2, g3⟩ := thM (s := s) (K := K) hp hs n (i + 1) (wu v 21 i (nI (muS (MK vM i) (US vM i) (s i)))) (by omega) (by omega) ⟨fun c h1 h2 => by rw [wu_n (by omega), hJ.1 c h1 h2], fun j hj => by rw [wu_n (by omega), hJ.2 j hj]⟩ (fun k hk => by
          rw [wu_c]
          by_cases h9 : k = i
          · rw [if_pos h9, if_pos (by omega), h9]
          · rw [if_neg h9, hv k hk]
            by_cases h8 : k < i
            · rw [if_pos h8, if_pos (by omega)]
            · rw [if_neg h8, if_neg (by omega)])
        exact ⟨v', g1, fun c hc => by rw [g2 c hc, wu_n hc], g3⟩
      by_cases hu : US vM i ≤ min 1000 (s i + MK vM i)
      · rw [if_pos (nI_le hu (by omega)), gd_t ii]
        unfold f_X11_tickThen_b116
        rw [lnM21, gd_t ii, ti, pk_sub hu, nv_q, nv_q, nI_1, show min 1000 (s i + MK vM i) - US vM i = muS (MK vM i) (US vM i) (s i) by unfold muS; omega]
        exact fin
      · rw [if_neg (nI_ge (by omega) (by omega))]
        unfold f_X11_tickThen_b116
        rw [lnM21, gd_t ii, ti, pk_sub (Nat.le_refl _), nv_q, nv_q, nI_1, show min 1000 (s i + MK vM i) - min 1000 (s i + MK vM i) = muS (MK vM i) (US vM i) (s i) by unfold muS; omega]
        exact fin
theorem tickTh {t : Nat} {s : Nat → Nat} {v : VV} (hp : pfz P F E vM) (hs : ∀ k, k < 3 * P → s k ≤ 1000) (hJ : nJ vM v) (h34 : v 0 34 = nI t) (hv : ∀ k, k < 3 * P → v 21 k = nI (s k)) : ∃ v', F_X11_tickThen 0 v = some v' ∧ (∀ c, c ≠ 0 → c ≠ 21 → v' c = v c) ∧ (∀ j, j ≠ 34 → v' 0 j = v 0 j) ∧ v' 0 34 = nI (t + 1) ∧ ∀ k, k < 3 * P → v' 21 k = nI (muS (MK vM k) (US vM k) (evS (Bk (vM 12) (vM 13) (vM 14) k t E) (s k))) := by
  have hP6 := hp.1.1
  unfold F_X11_tickThen f_X11_tickThen
  obtain ⟨v1, g1, g2, g3⟩ := thE (t := t) (s := s) (K := fun c0_19 v_19 =>
  f_X11_tickThen_l63 (fun c0_35 v_35 =>
  nv (wu v_35 c0_35 34 ((v_35 c0_35 34) + 1)) fun v36 =>
  some v36) FU c0_19 0 v_19) hp hs FU 0 v (by omega) (by unfold FU; have := hp.2.2.2.1; omega) hJ h34 hv
  rw [nI_0] at g1
  rw [g1]
  obtain ⟨v2, k1, k2, k3⟩ := thM (s := fun k => evS (Bk (vM 12) (vM 13) (vM 14) k t E) (s k)) (K := fun c0_35 v_35 =>
  nv (wu v_35 c0_35 34 ((v_35 c0_35 34) + 1)) fun v36 =>
  some v36) hp (fun k hk => evS_le _ _ (hs k hk)) FU 0 v1 (by omega) (by unfold FU; omega) ⟨fun c h1 h2 => by rw [g2 c (by omega), hJ.1 c h1 h2], fun j hj => by rw [g2 0 (by omega), hJ.2 j hj]⟩ (fun k hk => by rw [if_neg (by omega), g3 k hk])
  rw [nI_0] at k1
  rw [k1, nv_q, k2 0 (by omega), g2 0 (by omega), h34, nI_1]
  exact ⟨_, rfl, fun c h0 h1 => by rw [wu_n h0, k2 c h1, g2 c h1], fun j hj => by rw [wu_j hj, k2 0 (by omega), g2 0 (by omega)], wu_s, fun k hk => by rw [wu_n (by omega), k3 k hk]⟩
theorem ticksTh {t l : Nat} {s : Nat → Nat} {i2 i3 i5 : Int32} {K : Nat → Int32 → Int32 → Int32 → VV → Option (Int32 × VV)} (hp : pfz P F E vM) (hs : ∀ k, k < 3 * P → s k ≤ 1000) (hl : l ≤ 9) : ∀ (n i : Nat) (v : VV), i ≤ l → l - i < n → nJ vM v → v 0 34 = nI (t + i) → (∀ k, k < 3 * P → v 21 k = nI (tkn vM E k t (s k) i)) → ∃ v', f_X11_trip_l205 K n 0 i2 i3 (nI l) i5 (nI i) v = K 0 i2 i3 i5 v' ∧ (∀ c, c ≠ 0 → c ≠ 21 → v' c = v c) ∧ (∀ j, j ≠ 34 → v' 0 j = v 0 j) ∧ v' 0 34 = nI (t + l) ∧ ∀ k, k < 3 * P → v' 21 k = nI (tkn vM E k t (s k) l)
  | 0, i, v, _, h, _, _, _ => by omega
  | n + 1, i, v, hi, hn, hJ, h34, hv => by
    rw [f_X11_trip_l205]
    by_cases h : i = l
    · subst h
      rw [if_pos (nI_le (Nat.le_refl _) (by omega))]
      exact ⟨v, rfl, fun _ _ _ => rfl, fun _ _ => rfl, h34, hv⟩
    · obtain ⟨v1, g1, g2, g3, g4, g5⟩ := tickTh (s := fun k => tkn vM E k t (s k) i) hp (fun k hk => tkn_le (hs k hk)) hJ h34 hv
      rw [if_neg (nI_ge (by omega) (by omega)), g1, Option.bind_some, nv_q, nI_1]
      obtain ⟨v2, k1, k2, k3, k4, k5⟩ := ticksTh (t := t) (s := s) (i2 := i2) (i3 := i3) (i5 := i5) (K := K) hp hs hl n (i + 1) v1 (by omega) (by omega) ⟨fun c h1 h2 => by rw [g2 c (by omega) (by omega), hJ.1 c h1 h2], fun j hj => by rw [g3 j (by omega), hJ.2 j hj]⟩ g4 g5
      exact ⟨v2, k1, fun c h1 h2 => by rw [k2 c h1 h2, g2 c h1 h2], fun j hj => by rw [k3 j hj, g3 j hj], k4, k5⟩
end
