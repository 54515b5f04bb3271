theorem rfCf0 : rfC 15 0 = 1 := rfl
theorem rfCf1 : rfC 15 1 = 16 := rfl
theorem rfCf2 : rfC 15 2 = 17 := rfl
theorem rfCf3 : rfC 15 3 = 18 := rfl
theorem rfCf4 : rfC 15 4 = 19 := rfl
theorem rfCf5 : rfC 15 5 = 20 := rfl
theorem rfCf6 : rfC 15 6 = 21 := rfl
theorem rfCf7 : rfC 15 7 = 22 := rfl
theorem rfCfb : rfC 15 11 = 23 := rfl
theorem rfCfc : rfC 15 12 = 24 := rfl
theorem rfC18 (j : Nat) : rfC 18 j = 75 + j := rfl
theorem rfCt4 {j : Nat} (h : j < 4) : rfC (75 + j) 4 = 79 + j := by
  rcases (show j = 0 ∨ j = 1 ∨ j = 2 ∨ j = 3 by omega) with rfl | rfl | rfl | rfl <;> rfl
theorem rfCt5 {j : Nat} (h : j < 4) : rfC (75 + j) 5 = 83 + j := by
  rcases (show j = 0 ∨ j = 1 ∨ j = 2 ∨ j = 3 by omega) with rfl | rfl | rfl | rfl <;> rfl
theorem rfCt6 {j : Nat} (h : j < 4) : rfC (75 + j) 6 = 87 + j := by
  rcases (show j = 0 ∨ j = 1 ∨ j = 2 ∨ j = 3 by omega) with rfl | rfl | rfl | rfl <;> rfl
theorem lnC18 : lnC 18 = 4 := rfl
theorem lnC19 : lnC 19 = 18 := rfl
theorem lnC20 : lnC 20 = 18 := rfl
theorem lnC21 : lnC 21 = 3 := rfl
theorem lnC22 : lnC 22 = 3 := rfl
theorem lnC23 : lnC 23 = 3 := rfl
theorem lnC24 : lnC 24 = 3 := rfl
theorem lnCt {c : Nat} (h : 79 ≤ c) : lnC c = 4 := by
  unfold lnC
  rw [if_neg (by omega), if_neg (by omega), if_neg (by omega), if_neg (by omega), if_neg (by omega), if_neg (by omega), if_neg (by omega), if_neg (by omega)]
def cJ (vC v : VV) : Prop := (∀ c, c < 15 → v c = vC c) ∧ ∀ c, 25 ≤ c → c < 75 → v c = vC c
/-- stocks as the plan last left them, and when -/
def lz (P E : Nat) (vM v : VV) (t : Nat) (st : Nat → Nat) : Prop := ∀ k, k < 3 * P → ∃ s τ, v 19 k = nI s ∧ v 20 k = nI τ ∧ s ≤ 1000 ∧ τ ≤ t ∧ tkn vM E k τ s (t - τ) = st k
section
variable {P T F S E : Nat} {vC vM : VV}
theorem stockC {k t τ s : Nat} {v : VV} (i1 : iSc P T F S vC vM) (i2 : iSh P vC vM) (i6 : iEv P T E vC vM) (hk : k < 3 * P) (hJ : cJ vC v) (ht : t ≤ 999) (h19 : v 19 k = nI s) (h20 : v 20 k = nI τ) (hs : s ≤ 1000) (hτ : τ ≤ t) : ∃ v', F_X3_stockOf 15 (37 + k) (nI t) v = some (nI (tkn vM E k τ s (t - τ)), v') ∧ ∀ c, c ≠ 16 → v' c = v c := by
  have hP6 := i1.1.2.2
  obtain ⟨⟨n1, n2, n3⟩, n4, n5, n6⟩ := id i6
  obtain ⟨q1, q2, q3, q4, q5, q6, q7, q8, q9, q10⟩ := i2 k (by omega)
  have a1 := bnd_f q9 (by omega)
  have a2 := bnd_f q10 (by omega)
  have tk : (nI k).toNatClampNeg = k := tn (by omega)
  have ik : inB (nI k) 18 = true := inB_n (by omega) (by omega)
  unfold F_X3_stockOf f_X3_stockOf
  rw [hJ.2 (37 + k) (by omega) (by omega), q1, rfCf4, rfCf5, lnC19, lnC20, gd_t ik, gd_t ik, rfCf1, rfCf0, rfC12, tk, h19, h20]
  obtain ⟨v', p1, p2, p3⟩ := followE (d := 16) (c1 := 37 + k) (k := k) (E := E) (T := τ) (N := t - τ) (s0 := s) (mk := MK vM k) (us := US vM k) (v := v) (by omega) (by omega) (by omega) (by omega) (by omega) n3 (by rw [hJ.1 4 (by omega), n1]) (by rw [hJ.1 7 (by omega)]; exact ev_by i6) (by rw [hJ.1 5 (by omega)]; exact n4) hs a1.2.2 a2.2.2 (by omega) (by rw [hJ.2 _ (by omega) (by omega), q1]) (by rw [hJ.2 _ (by omega) (by omega), q3]; exact a1.1) (by rw [hJ.2 _ (by omega) (by omega), q4]; exact a2.1)
  rw [show τ + (t - τ) = t by omega] at p1
  rw [p1, Option.bind_some, p3.1]
  refine ⟨v', ?_, p2⟩
  unfold tkn
  rw [hJ.1 5 (by omega), hJ.1 6 (by omega), hJ.1 7 (by omega)]
  have hB : (fun t => Bk (vC 5) (vC 6) (vC 7) k t E) = (fun t => Bk (vM 12) (vM 13) (vM 14) k t E) := funext fun t => Bk_alike i6 _ t
  rw [hB]
/-- a stop, reached -/
def rC (P E h kk j : Nat) (vC vM v : VV) (σ : SG) : Prop := cJ vC v ∧ lz P E vM v σ.1 σ.2.1 ∧ v (75 + j) 0 = nI σ.2.2.2 ∧ v (75 + j) 1 = nI σ.1 ∧ v (75 + j) 2 = nI σ.2.2.1 ∧ v 15 8 = nI kk ∧ v 15 9 = nI h ∧ ∀ d, d < 4 → v (79 + d) 3 = 0
/-- what each good would cost there -/
def bE (h j : Nat) (vM v : VV) (σ : SG) (t : Nat) : Prop := (∀ g, t ≤ g → g < 3 → v (79 + j) g = nI (bu vM h σ g).1 ∧ v (83 + j) g = nI (bu vM h σ g).2.2.1 ∧ v (87 + j) g = nI (bu vM h σ g).2.1) ∧ v (83 + j) 3 = nI σ.2.2.1 ∧ ∃ fe, t ≤ fe ∧ fe ≤ 3 ∧ v (75 + j) 3 = nI fe ∧ (bu vM h σ fe).1 = 0 ∧ ∀ g, t ≤ g → g < fe → (bu vM h σ g).1 ≠ 0
theorem buyL {h kk j : Nat} {σ : SG} (i1 : iSc P T F S vC vM) (i2 : iSh P vC vM) (i3 : iPo vC vM) (i6 : iEv P T E vC vM) (hp : pfz P F E vM) (hh : h ≤ 20) (hj : j < 4) (hw : wfS P σ) : ∀ (n t : Nat) (v : VV), t ≤ 3 → t < n → rC P E h kk j vC vM v σ → bE h j vM v σ t → ∃ v', f_X3_buyEach_l17 n 15 (75 + j) (nI t - 1) v = some v' ∧ (∀ c, c ≠ 16 → c ≠ 17 → c ≠ 75 + j → c ≠ 79 + j → c ≠ 83 + j → c ≠ 87 + j → v' c = v c) ∧ rC P E h kk j vC vM v' σ ∧ bE h j vM v' σ 0
  | 0, t, v, _, h, _, _ => by omega
  | n + 1, 0, v, ht, hn, hR, hB => by
    rw [f_X3_buyEach_l17, if_pos (by decide)]
    exact ⟨v, rfl, fun _ _ _ _ _ _ _ => rfl, hR, hB⟩
  | n + 1, t + 1, v, ht, hn, hR, hB => by
    have hP6 := i1.1.2.2
    obtain ⟨hJ, hlz, r0, r1, r2, r8, r9, rz⟩ := id hR
    obtain ⟨w1, w2, w3, w4⟩ := id hw
    have ep : nI (t + 1) - 1 = nI t := nI_pred t
    have tt : (nI t).toNatClampNeg = t := tn (by omega)
    have it : inB (nI t) 4 = true := inB_n (by omega) (by omega)
    have hk : 3 * σ.2.2.2 + t < 3 * P := by omega
    obtain ⟨s, τ, l1, l2, l3, l4, l5⟩ := hlz _ hk
    have tp : (nI σ.2.2.2).toNatClampNeg = σ.2.2.2 := tn (by omega)
    have ip : inB (nI σ.2.2.2) 6 = true := inB_n (by omega) (by omega)
    obtain ⟨v1, g1, g2⟩ := stockC i1 i2 i6 hk hJ w1 l1 l2 l3 l4
    rw [l5] at g1
    rw [f_X3_buyEach_l17, ep, if_neg (show ¬ nI t < 0 from nI_nlt (b := 0) (by omega) (by omega)), r0, rfCf0, shelfE (by omega) (by omega), bi_s, r1, g1, bi_s, g2 (75 + j) (by omega), r0, rfC10, lnC2, gd_t ip, tp, rfC2, g2 (25 + σ.2.2.2) (by omega), hJ.2 (25 + σ.2.2.2) (by omega) (by omega), (i3 σ.2.2.2 (by omega)).1, (hp.1.2.2.2.2.2.1 σ.2.2.2 (by omega)).1, r2, g2 15 (by omega), r9, rfCf2]
    obtain ⟨-, -, -, -, b0, b1, b2, m0, m1, m2⟩ := hp.2.1 _ hk
    obtain ⟨q1, q2, q3, q4, q5, q6, q7, q8, q9, q10⟩ := i2 (3 * σ.2.2.2 + t) (by omega)
    obtain ⟨y1, y2, -, -⟩ := q6 hk
    obtain ⟨v2, d1, d2, d3⟩ := purE (d := 17) (c1 := 37 + (3 * σ.2.2.2 + t)) (b := BA vM (3 * σ.2.2.2 + t)) (m := MD vM (3 * σ.2.2.2 + t)) (tx := TX vM σ.2.2.2) (M := h) (s := σ.2.1 (3 * σ.2.2.2 + t)) (c := σ.2.2.1) (v := v1) (by omega) (by rw [g2 _ (by omega), hJ.2 _ (by omega) (by omega), y1]; exact b0) (by rw [g2 _ (by omega), hJ.2 _ (by omega) (by omega), y2]; exact m0) b1 b2 m1 m2 (hp.1.2.2.2.2.2.1 σ.2.2.2 (by omega)).2 hh (w2 _ hk) w3
    have hbE : bu vM h σ t = buyN (BA vM (3 * σ.2.2.2 + t)) (MD vM (3 * σ.2.2.2 + t)) (TX vM σ.2.2.2) h (σ.2.1 (3 * σ.2.2.2 + t)) σ.2.2.1 0 0 0 := by unfold bu; rw [if_neg (by omega)]
    rw [← hbE] at d3
    obtain ⟨x0, x1, x2, -⟩ := d3
    have bb := bu_b (h := h) (v := vM) hw (show t < 3 by omega)
    rw [d1, Option.bind_some, rfCt4 hj, rfCt5 hj, rfCt6 hj, lnCt (show 79 ≤ 79 + j by omega), lnCt (show 79 ≤ 83 + j by omega), lnCt (show 79 ≤ 87 + j by omega), gd_t it, nv_q, gd_t it, nv_q, gd_t it, nv_q, tt, x0, wu_n (show 17 ≠ 79 + j by omega), x2, wu_n (show 17 ≠ 83 + j by omega), wu_n (show 17 ≠ 79 + j by omega), x1, wu_n (show 17 ≠ 87 + j by omega), wu_n (show 17 ≠ 83 + j by omega), wu_n (show 17 ≠ 79 + j by omega), x0]
    have ev : ∀ c, c ≠ 16 → c ≠ 17 → v2 c = v c := fun c h1 h2 => by rw [d2 c h2, g2 c h1]
    have fin : ∀ fe, t ≤ fe → fe ≤ 3 → (bu vM h σ fe).1 = 0 → (∀ g, t ≤ g → g < fe → (bu vM h σ g).1 ≠ 0) → ∃ v', f_X3_buyEach_l17 n 15 (75 + j) (nI t - 1) (wu (wu (wu (wu v2 (79 + j) t (nI (bu vM h σ t).1)) (83 + j) t (nI (bu vM h σ t).2.2.1)) (87 + j) t (nI (bu vM h σ t).2.1)) (75 + j) 3 (nI fe)) = some v' ∧ (∀ c, c ≠ 16 → c ≠ 17 → c ≠ 75 + j → c ≠ 79 + j → c ≠ 83 + j → c ≠ 87 + j → v' c = v c) ∧ rC P E h kk j vC vM v' σ ∧ bE h j vM v' σ 0 := by
      intro fe f1 f2 f3 f4
      have ew : ∀ c, c ≠ 16 → c ≠ 17 → c ≠ 75 + j → c ≠ 79 + j → c ≠ 83 + j → c ≠ 87 + j → (wu (wu (wu (wu v2 (79 + j) t (nI (bu vM h σ t).1)) (83 + j) t (nI (bu vM h σ t).2.2.1)) (87 + j) t (nI (bu vM h σ t).2.1)) (75 + j) 3 (nI fe)) c = v c := fun c h1 h2 h3 h4 h5 h6 => by rw [wu_n h3, wu_n h6, wu_n h5, wu_n h4, ev c h1 h2]
      have e75 : ∀ i, i ≠ 3 → (wu (wu (wu (wu v2 (79 + j) t (nI (bu vM h σ t).1)) (83 + j) t (nI (bu vM h σ t).2.2.1)) (87 + j) t (nI (bu vM h σ t).2.1)) (75 + j) 3 (nI fe)) (75 + j) i = v (75 + j) i := fun i hi => by rw [wu_j hi, wu_n (by omega), wu_n (by omega), wu_n (by omega), ev _ (by omega) (by omega)]
      have e79 : ∀ i, (wu (wu (wu (wu v2 (79 + j) t (nI (bu vM h σ t).1)) (83 + j) t (nI (bu vM h σ t).2.2.1)) (87 + j) t (nI (bu vM h σ t).2.1)) (75 + j) 3 (nI fe)) (79 + j) i = if i = t then nI (bu vM h σ t).1 else v (79 + j) i := fun i => by rw [wu_n (by omega), wu_n (by omega), wu_n (by omega), wu_c, ev _ (by omega) (by omega)]
      have e83 : ∀ i, (wu (wu (wu (wu v2 (79 + j) t (nI (bu vM h σ t).1)) (83 + j) t (nI (bu vM h σ t).2.2.1)) (87 + j) t (nI (bu vM h σ t).2.1)) (75 + j) 3 (nI fe)) (83 + j) i = if i = t then nI (bu vM h σ t).2.2.1 else v (83 + j) i := fun i => by rw [wu_n (by omega), wu_n (by omega), wu_c, wu_n (by omega), ev _ (by omega) (by omega)]
      have e87 : ∀ i, (wu (wu (wu (wu v2 (79 + j) t (nI (bu vM h σ t).1)) (83 + j) t (nI (bu vM h σ t).2.2.1)) (87 + j) t (nI (bu vM h σ t).2.1)) (75 + j) 3 (nI fe)) (87 + j) i = if i = t then nI (bu vM h σ t).2.1 else v (87 + j) i := fun i => by rw [wu_n (by omega), wu_c, wu_n (by omega), wu_n (by omega), ev _ (by omega) (by omega)]
      have e3 : (wu (wu (wu (wu v2 (79 + j) t (nI (bu vM h σ t).1)) (83 + j) t (nI (bu vM h σ t).2.2.1)) (87 + j) t (nI (bu vM h σ t).2.1)) (75 + j) 3 (nI fe)) (75 + j) 3 = nI fe := wu_s
      generalize (wu (wu (wu (wu v2 (79 + j) t (nI (bu vM h σ t).1)) (83 + j) t (nI (bu vM h σ t).2.2.1)) (87 + j) t (nI (bu vM h σ t).2.1)) (75 + j) 3 (nI fe)) = u at *
      have hR' : rC P E h kk j vC vM u σ := by
        refine ⟨⟨fun c hc => by rw [ew c (by omega) (by omega) (by omega) (by omega) (by omega) (by omega), hJ.1 c hc], fun c h1 h2 => by rw [ew c (by omega) (by omega) (by omega) (by omega) (by omega) (by omega), hJ.2 c h1 h2]⟩, ?_, by rw [e75 0 (by omega), r0], by rw [e75 1 (by omega), r1], by rw [e75 2 (by omega), r2], by rw [ew 15 (by omega) (by omega) (by omega) (by omega) (by omega) (by omega), r8], by rw [ew 15 (by omega) (by omega) (by omega) (by omega) (by omega) (by omega), r9], fun d hd => ?_⟩
        · unfold lz
          rw [ew 19 (by omega) (by omega) (by omega) (by omega) (by omega) (by omega), ew 20 (by omega) (by omega) (by omega) (by omega) (by omega) (by omega)]
          exact hlz
        · by_cases e : d = j
          · rw [e, e79, if_neg (by omega), rz j hj]
          · rw [ew (79 + d) (by omega) (by omega) (by omega) (by omega) (by omega) (by omega), rz d hd]
      obtain ⟨B1, B2, -⟩ := hB
      have hB' : bE h j vM u σ t := by
        refine ⟨fun g h1 h2 => ?_, by rw [e83, if_neg (by omega), B2], fe, f1, f2, e3, f3, f4⟩
        rw [e79, e83, e87]
        by_cases e : g = t
        · rw [if_pos e, if_pos e, if_pos e, e]
          exact ⟨rfl, rfl, rfl⟩
        · rw [if_neg e, if_neg e, if_neg e]
          exact B1 g (by omega) h2
      obtain ⟨v', k1, k2, k3, k4⟩ := buyL (kk := kk) i1 i2 i3 i6 hp hh hj hw n t u (by omega) (by omega) hR' hB'
      exact ⟨v', k1, fun c h1 h2 h3 h4 h5 h6 => by rw [k2 c h1 h2 h3 h4 h5 h6, ew c h1 h2 h3 h4 h5 h6], k3, k4⟩
    by_cases hu : (bu vM h σ t).1 = 0
    · rw [if_pos (show nI (bu vM h σ t).1 = 0 by rw [hu]; rfl), nv_q, nv_q, m1_add]
      exact fin t (Nat.le_refl _) (by omega) hu (fun g h1 h2 => by omega)
    · rw [if_neg (nI_ne0 (by omega) (by omega)), nv_q, nv_q, m1_add]
      obtain ⟨-, -, fe, f1, f2, f3, f4, f5⟩ := id hB
      rw [wu_n (show 75 + j ≠ 87 + j by omega), wu_n (show 75 + j ≠ 83 + j by omega), wu_n (show 75 + j ≠ 79 + j by omega), ev (75 + j) (by omega) (by omega), f3]
      exact fin fe (by omega) f2 f4 (fun g h1 h2 => by
        by_cases e : g = t
        · rw [e]; exact hu
        · exact f5 g (by omega) h2)
theorem buyE {h kk j : Nat} {σ : SG} {v : VV} (i1 : iSc P T F S vC vM) (i2 : iSh P vC vM) (i3 : iPo vC vM) (i6 : iEv P T E vC vM) (hp : pfz P F E vM) (hh : h ≤ 20) (hj : j < 4) (hw : wfS P σ) (hR : rC P E h kk j vC vM v σ) : ∃ v', F_X3_buyEach 15 (75 + j) v = some v' ∧ (∀ c, c ≠ 16 → c ≠ 17 → c ≠ 75 + j → c ≠ 79 + j → c ≠ 83 + j → c ≠ 87 + j → v' c = v c) ∧ rC P E h kk j vC vM v' σ ∧ bE h j vM v' σ 0 := by
  obtain ⟨hJ, hlz, r0, r1, r2, r8, r9, rz⟩ := id hR
  unfold F_X3_buyEach f_X3_buyEach
  rw [rfCt5 hj, lnCt (show 79 ≤ 83 + j by omega), gd_t (by decide), nv_q, nv_q, show Int32.toNatClampNeg 3 = 3 from rfl, r2]
  have ew : ∀ c, c ≠ 75 + j → c ≠ 83 + j → wu (wu v (83 + j) 3 (nI σ.2.2.1)) (75 + j) 3 3 c = v c := fun c h1 h2 => by rw [wu_n h1, wu_n h2]
  have e75 : ∀ i, i ≠ 3 → wu (wu v (83 + j) 3 (nI σ.2.2.1)) (75 + j) 3 3 (75 + j) i = v (75 + j) i := fun i hi => by rw [wu_j hi, wu_n (by omega)]
  obtain ⟨v', k1, k2, k3, k4⟩ := buyL (kk := kk) i1 i2 i3 i6 hp hh hj hw FU 3 (wu (wu v (83 + j) 3 (nI σ.2.2.1)) (75 + j) 3 3) (by omega) (by unfold FU; omega) (by
    refine ⟨⟨fun c hc => by rw [ew c (by omega) (by omega), hJ.1 c hc], fun c h1 h2 => by rw [ew c (by omega) (by omega), hJ.2 c h1 h2]⟩, ?_, by rw [e75 0 (by omega), r0], by rw [e75 1 (by omega), r1], by rw [e75 2 (by omega), r2], by rw [ew 15 (by omega) (by omega), r8], by rw [ew 15 (by omega) (by omega), r9], fun d hd => by rw [ew (79 + d) (by omega) (by omega), rz d hd]⟩
    unfold lz
    rw [ew 19 (by omega) (by omega), ew 20 (by omega) (by omega)]
    exact hlz) ⟨fun g h1 h2 => by omega, by rw [wu_n (by omega), wu_s], 3, by omega, by omega, by rw [wu_s]; rfl, by unfold bu; rw [if_pos rfl], fun g h1 h2 => by omega⟩
  have k1' : f_X3_buyEach_l17 FU 15 (75 + j) 2 (wu (wu v (83 + j) 3 (nI σ.2.2.1)) (75 + j) 3 3) = some v' := k1
  exact ⟨v', k1', fun c h1 h2 h3 h4 h5 h6 => by rw [k2 c h1 h2 h3 h4 h5 h6, ew c h3 h5], k3, k4⟩
end
