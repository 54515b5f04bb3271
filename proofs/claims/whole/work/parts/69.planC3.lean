theorem leaveE {k : Nat} {x y : Int32} {v : VV} (hk : k < 18) (h0 : v (37 + k) 0 = nI k) : F_X3_leave 15 (37 + k) x y v = some (wu (wu v 19 k x) 20 k y) := by
  have tk : (nI k).toNatClampNeg = k := tn (by omega)
  have ik : inB (nI k) 18 = true := inB_n (by omega) (by omega)
  unfold F_X3_leave f_X3_leave
  rw [h0, rfCf4, rfCf5, lnC19, lnC20, gd_t ik, nv_q, wu_n (by omega), h0, gd_t ik, nv_q, tk]
theorem oo_ne {P F a b : Nat} {vM : VV} (hf : frz P F vM) (ha : a < 6) (hb : b < 6) (h : oo vM a b ≠ 0) : a ≠ b := by
  intro e
  have h1 := oo_W h
  have h2 := (hf.2.2.2.2.2.2 a b ha hb).2.2 e
  omega
section
variable {P T F S E : Nat} {vC vM : VV}
theorem travE {h kk n j d q g a : Nat} {B : Option (Nat × Nat)} {σ : SG} {v : VV} (i1 : iSc P T F S vC vM) (i2 : iSh P vC vM) (i3 : iPo vC vM) (i6 : iEv P T E vC vM) (hp : pfz P F E vM) (hh : h ≤ 20) (hj : j < kk) (hkk : kk ≤ 3) (IH : exP P F E h kk n (j + 1) d vC vM) (hw : wfS P σ) (hR : rC P E h kk j vC vM v σ) (hE : bE h j vM v σ 0) (hpt : pth (4 * P) j a v) (hB : bC kk (4 * P) vC v B) (hq : q < P) (hg : g < 4) (hl0 : oo vM σ.2.2.2 q ≠ 0) (hl9 : σ.1 + oo vM σ.2.2.2 q ≤ 999) : ∃ v', F_X3_travel (fx_X3_extend n) 15 (nI j) (nI q) (nI (oo vM σ.2.2.2 q)) (nI g) v = some v' ∧ fr j (j + 1) v v' ∧ bC kk (4 * P) vC v' (match tpg vM F E h σ q g with
    | none => B
    | some σ' => srD (tpp vM F E h) cnS (4 * P) d σ' (a * (4 * P) + (4 * q + g)) B) := by
  have hP6 := i1.1.2.2
  obtain ⟨hJ, hlz, r0, r1, r2, r8, r9, rz⟩ := id hR
  obtain ⟨w1, w2, w3, w4⟩ := id hw
  have hlb := oo_b hp.1 (show σ.2.2.2 < 6 by omega) (show q < 6 by omega)
  have hpq := oo_ne hp.1 (show σ.2.2.2 < 6 by omega) (show q < 6 by omega) hl0
  have tpgE : tpg vM F E h σ q g = if (bu vM h σ g).2.2.1 < F * oo vM σ.2.2.2 q then none else if (bu vM h σ g).1 = 0 then some (σ.1 + oo vM σ.2.2.2 q, fun k => tkn vM E k σ.1 (σ.2.1 k) (oo vM σ.2.2.2 q), σ.2.2.1 - F * oo vM σ.2.2.2 q, q) else some (σ.1 + oo vM σ.2.2.2 q, fun k => if k = 3 * q + g then (slr vM F E h σ g q (oo vM σ.2.2.2 q)).2.1 else st1 vM E h σ g (oo vM σ.2.2.2 q) k, (slr vM F E h σ g q (oo vM σ.2.2.2 q)).2.2.1, q) := by
    unfold tpg
    rw [if_neg hl0, if_neg (by omega)]
  have twf := fun σ' => tpg_wf (σ' := σ') (F := F) (E := E) (h := h) (v := vM) hw hq hg
  rw [tpgE] at twf ⊢
  generalize oo vM σ.2.2.2 q = l at *
  have hF2 := hp.1.2.2.2.1
  have hFl : F * l ≤ 180 := by
    have := Nat.mul_le_mul hF2 hlb
    omega
  have tj : (nI j).toNatClampNeg = j := tn (by omega)
  have ij : inB (nI j) 4 = true := inB_n (by omega) (by omega)
  have ij3 : inB (nI j) 3 = true := inB_n (by omega) (by omega)
  have tj1 : (nI (j + 1)).toNatClampNeg = j + 1 := tn (by omega)
  have ij1 : inB (nI (j + 1)) 4 = true := inB_n (by omega) (by omega)
  have tg : (nI g).toNatClampNeg = g := tn (by omega)
  have ig : inB (nI g) 4 = true := inB_n (by omega) (by omega)
  have iq : inB (nI q) 6 = true := inB_n (by omega) (by omega)
  have tq : (nI q).toNatClampNeg = q := tn (by omega)
  obtain ⟨E1, E2, -⟩ := hE
  have hb3 : bu vM h σ 3 = (0, 0, σ.2.2.1, 0, 0) := by unfold bu; rw [if_pos rfl]
  have c83 : v (83 + j) g = nI (bu vM h σ g).2.2.1 := by
    by_cases e : g = 3
    · rw [e, E2, hb3]
    · exact (E1 g (by omega) (by omega)).2.1
  have c79 : v (79 + j) g = nI (bu vM h σ g).1 := by
    by_cases e : g = 3
    · rw [e, rz j (by omega), hb3]; rfl
    · exact (E1 g (by omega) (by omega)).1
  have bc := bu_c (h := h) (v := vM) hw hg
  have bl1 : (bu vM h σ g).1 ≤ 20 := by
    by_cases e : g = 3
    · rw [e, hb3]; exact Nat.zero_le _
    · have := (bu_b (h := h) (v := vM) hw (show g < 3 by omega)).1
      omega
  unfold F_X3_travel f_X3_travel
  rw [nI_1, tj, tj1, tg, rfCf3, lnC18, gd_t ij, gd_t ij1, rfC18, rfC18, rfCt5 (by omega), lnCt (show 79 ≤ 83 + j by omega), gd_t ig, nv_q, c83, rfCf0, hJ.1 1 (by omega), i1.2.2.1.1, pk_mul]
  by_cases hc : (bu vM h σ g).2.2.1 < F * l
  · rw [if_pos hc, if_neg (by
      rw [iI_nat, iI_nat, iI_sub, show (0 : Int32) = iI 0 from rfl, iI_le (by omega) (by omega) (by omega) (by omega)]
      omega)]
    exact ⟨v, rfl, fr.rf _ _ _, hB⟩
  · rw [if_neg hc] at twf ⊢
    rw [pk_sub (by omega), if_pos (show (0 : Int32) ≤ nI ((bu vM h σ g).2.2.1 - F * l) from nI_le (a := 0) (by omega) (by omega)), rfCf6, rfCf7, lnC21, lnC22, gd_t ij3, nv_q, gd_t ij3, nv_q]
    unfold F_X3_arrive f_X3_arrive
    rw [nv_q, nv_q, nv_q, Option.bind_some, wu_n (show 75 + j ≠ 22 by omega), wu_n (show 75 + j ≠ 21 by omega), r1, nI_add]
    have u0 : ∀ c, c ≠ 21 → c ≠ 22 → c ≠ 75 + (j + 1) → wu (wu (wu (wu (wu v 21 j (nI q)) 22 j (nI g)) (75 + (j + 1)) 0 (nI q)) (75 + (j + 1)) 1 (nI (σ.1 + l))) (75 + (j + 1)) 2 (nI ((bu vM h σ g).2.2.1 - F * l)) c = v c := fun c h1 h2 h3 => by rw [wu_n h3, wu_n h3, wu_n h3, wu_n h2, wu_n h1]
    have u21 : ∀ i, wu (wu (wu (wu (wu v 21 j (nI q)) 22 j (nI g)) (75 + (j + 1)) 0 (nI q)) (75 + (j + 1)) 1 (nI (σ.1 + l))) (75 + (j + 1)) 2 (nI ((bu vM h σ g).2.2.1 - F * l)) 21 i = if i = j then nI q else v 21 i := fun i => by rw [wu_n (by omega), wu_n (by omega), wu_n (by omega), wu_n (by omega), wu_c]
    have u22 : ∀ i, wu (wu (wu (wu (wu v 21 j (nI q)) 22 j (nI g)) (75 + (j + 1)) 0 (nI q)) (75 + (j + 1)) 1 (nI (σ.1 + l))) (75 + (j + 1)) 2 (nI ((bu vM h σ g).2.2.1 - F * l)) 22 i = if i = j then nI g else v 22 i := fun i => by rw [wu_n (by omega), wu_n (by omega), wu_n (by omega), wu_c, wu_n (by omega)]
    have s0 : wu (wu (wu (wu (wu v 21 j (nI q)) 22 j (nI g)) (75 + (j + 1)) 0 (nI q)) (75 + (j + 1)) 1 (nI (σ.1 + l))) (75 + (j + 1)) 2 (nI ((bu vM h σ g).2.2.1 - F * l)) (75 + (j + 1)) 0 = nI q := by rw [wu_j (by omega), wu_j (by omega), wu_s]
    have s1 : wu (wu (wu (wu (wu v 21 j (nI q)) 22 j (nI g)) (75 + (j + 1)) 0 (nI q)) (75 + (j + 1)) 1 (nI (σ.1 + l))) (75 + (j + 1)) 2 (nI ((bu vM h σ g).2.2.1 - F * l)) (75 + (j + 1)) 1 = nI (σ.1 + l) := by rw [wu_j (by omega), wu_s]
    have s2 : wu (wu (wu (wu (wu v 21 j (nI q)) 22 j (nI g)) (75 + (j + 1)) 0 (nI q)) (75 + (j + 1)) 1 (nI (σ.1 + l))) (75 + (j + 1)) 2 (nI ((bu vM h σ g).2.2.1 - F * l)) (75 + (j + 1)) 2 = nI ((bu vM h σ g).2.2.1 - F * l) := wu_s
    generalize wu (wu (wu (wu (wu v 21 j (nI q)) 22 j (nI g)) (75 + (j + 1)) 0 (nI q)) (75 + (j + 1)) 1 (nI (σ.1 + l))) (75 + (j + 1)) 2 (nI ((bu vM h σ g).2.2.1 - F * l)) = u at *
    have hpu : ∀ u' : VV, u' 21 = u 21 → u' 22 = u 22 → pth (4 * P) (j + 1) (a * (4 * P) + (4 * q + g)) u' := fun u' y1 y2 i hi => by
      rw [y1, y2, u21, u22]
      by_cases e : i = j
      · rw [if_pos e, if_pos e, e, dg_eq (by omega), show (4 * q + g) / 4 = q by omega, show (4 * q + g) % 4 = g by omega]
        exact ⟨rfl, rfl⟩
      · rw [if_neg e, if_neg e, dg_lt (by omega) (by omega)]
        exact hpt i (by omega)
    have hlzt : ∀ k, k < 3 * P → ∃ s τ, v 19 k = nI s ∧ v 20 k = nI τ ∧ s ≤ 1000 ∧ τ ≤ σ.1 + l ∧ tkn vM E k τ s (σ.1 + l - τ) = tkn vM E k σ.1 (σ.2.1 k) l := fun k hk => by
      obtain ⟨s, τ, l1, l2, l3, l4, l5⟩ := hlz k hk
      refine ⟨s, τ, l1, l2, l3, by omega, ?_⟩
      rw [show σ.1 + l - τ = (σ.1 - τ) + l by omega, tkn_add, l5, show τ + (σ.1 - τ) = σ.1 by omega]
    rw [rfCt4 (by omega), lnCt (show 79 ≤ 79 + j by omega), gd_t ig, u0 (79 + j) (by omega) (by omega) (by omega), c79]
    by_cases hu : (bu vM h σ g).1 = 0
    · rw [if_pos hu] at twf ⊢
      rw [if_pos (show nI (bu vM h σ g).1 = 0 by rw [hu]; rfl)]
      obtain ⟨v1, g1, g2, g3⟩ := IH (σ.1 + l, fun k => tkn vM E k σ.1 (σ.2.1 k) l, σ.2.2.1 - F * l, q) (a * (4 * P) + (4 * q + g)) B u (twf _ rfl) (by
        refine ⟨⟨fun c hc => by rw [u0 c (by omega) (by omega) (by omega), hJ.1 c hc], fun c h1 h2 => by rw [u0 c (by omega) (by omega) (by omega), hJ.2 c h1 h2]⟩, ?_, s0, s1, by rw [s2, (bu_0 hu).1], by rw [u0 15 (by omega) (by omega) (by omega), r8], by rw [u0 15 (by omega) (by omega) (by omega), r9], fun d hd => by rw [u0 (79 + d) (by omega) (by omega) (by omega), rz d hd]⟩
        intro k hk
        rw [u0 19 (by omega) (by omega) (by omega), u0 20 (by omega) (by omega) (by omega)]
        exact hlzt k hk) (hpu u rfl rfl) (bC_c hB (fun i _ => by rw [u0 15 (by omega) (by omega) (by omega)]) (u0 23 (by omega) (by omega) (by omega)) (u0 24 (by omega) (by omega) (by omega)))
      rw [g1, Option.bind_some]
      have f0 : fr j (j + 1) v u := ⟨fun c hc => u0 c (by omega) (by omega) (by omega), fun c h1 h2 => u0 c (by omega) (by omega) (by omega), by rw [u0 15 (by omega) (by omega) (by omega)], by rw [u0 15 (by omega) (by omega) (by omega)], u0 19 (by omega) (by omega) (by omega), u0 20 (by omega) (by omega) (by omega), fun x hx => ⟨by rw [u21, if_neg (by omega)], by rw [u22, if_neg (by omega)]⟩, fun d hd => ⟨u0 _ (by omega) (by omega) (by omega), u0 _ (by omega) (by omega) (by omega), u0 _ (by omega) (by omega) (by omega), u0 _ (by omega) (by omega) (by omega)⟩, fun d hd => by rw [u0 _ (by omega) (by omega) (by omega)]⟩
      exact ⟨v1, rfl, f0.tr (g2.le (by omega) (by omega)), g3⟩
    · rw [if_neg hu] at twf ⊢
      have g3 : g < 3 := by
        by_cases e : g = 3
        · exfalso
          apply hu
          rw [e, hb3]
        · omega
      have bb := bu_b (h := h) (v := vM) hw g3
      have hks : 3 * σ.2.2.2 + g < 3 * P := by omega
      have hkt : 3 * q + g < 3 * P := by omega
      have hne : 3 * q + g ≠ 3 * σ.2.2.2 + g := by omega
      have qs := (i2 (3 * σ.2.2.2 + g) (by omega)).1
      have qt := (i2 (3 * q + g) (by omega)).1
      have us : u (37 + (3 * σ.2.2.2 + g)) 0 = nI (3 * σ.2.2.2 + g) := by rw [u0 _ (by omega) (by omega) (by omega), hJ.2 _ (by omega) (by omega), qs]
      have ut : u (37 + (3 * q + g)) 0 = nI (3 * q + g) := by rw [u0 _ (by omega) (by omega) (by omega), hJ.2 _ (by omega) (by omega), qt]
      have is_ : inB (nI (3 * σ.2.2.2 + g)) 18 = true := inB_n (by omega) (by omega)
      have it : inB (nI (3 * q + g)) 18 = true := inB_n (by omega) (by omega)
      have ts : (nI (3 * σ.2.2.2 + g)).toNatClampNeg = 3 * σ.2.2.2 + g := tn (by omega)
      have tt : (nI (3 * q + g)).toNatClampNeg = 3 * q + g := tn (by omega)
      have c87 : v (87 + j) g = nI (bu vM h σ g).2.1 := (E1 g (by omega) g3).2.2
      obtain ⟨s, τ, l1, l2, l3, l4, l5⟩ := hlzt _ hkt
      rw [if_neg (nI_ne0 (by omega) (by omega)), u0 (75 + j) (by omega) (by omega) (by omega), r0, shelfE (by omega) g3, bi_s, s0, shelfE (by omega) g3, bi_s, us, ut, rfCf4, rfCf5, lnC19, lnC20, gd_t is_, nv_q, gd_t is_, nv_q, gd_t it, nv_q, gd_t it, nv_q, ts, tt, rfCt6 (by omega), lnCt (show 79 ≤ 87 + j by omega), gd_t ig, u0 (87 + j) (by omega) (by omega) (by omega), c87, u0 (75 + j) (by omega) (by omega) (by omega), r1, leaveE (by omega) us, Option.bind_some, u0 19 (by omega) (by omega) (by omega), u0 20 (by omega) (by omega) (by omega)]
      have x0 : ∀ c, c ≠ 19 → c ≠ 20 → wu (wu u 19 (3 * σ.2.2.2 + g) (nI (bu vM h σ g).2.1)) 20 (3 * σ.2.2.2 + g) (nI σ.1) c = u c := fun c h1 h2 => by rw [wu_n h2, wu_n h1]
      have x19 : ∀ i, wu (wu u 19 (3 * σ.2.2.2 + g) (nI (bu vM h σ g).2.1)) 20 (3 * σ.2.2.2 + g) (nI σ.1) 19 i = if i = 3 * σ.2.2.2 + g then nI (bu vM h σ g).2.1 else v 19 i := fun i => by rw [wu_n (by omega), wu_c, u0 19 (by omega) (by omega) (by omega)]
      have x20 : ∀ i, wu (wu u 19 (3 * σ.2.2.2 + g) (nI (bu vM h σ g).2.1)) 20 (3 * σ.2.2.2 + g) (nI σ.1) 20 i = if i = 3 * σ.2.2.2 + g then nI σ.1 else v 20 i := fun i => by rw [wu_c, wu_n (by omega), u0 20 (by omega) (by omega) (by omega)]
      generalize wu (wu u 19 (3 * σ.2.2.2 + g) (nI (bu vM h σ g).2.1)) 20 (3 * σ.2.2.2 + g) (nI σ.1) = x at *
      have xJ : cJ vC x := ⟨fun c hc => by rw [x0 c (by omega) (by omega), u0 c (by omega) (by omega) (by omega), hJ.1 c hc], fun c h1 h2 => by rw [x0 c (by omega) (by omega), u0 c (by omega) (by omega) (by omega), hJ.2 c h1 h2]⟩
      obtain ⟨y, g1, g2⟩ := stockC (k := 3 * q + g) (t := σ.1 + l) (τ := τ) (s := s) (v := x) i1 i2 i6 hkt xJ hl9 (by rw [x19, if_neg hne, l1]) (by rw [x20, if_neg hne, l2]) l3 l4
      have hst : tkn vM E (3 * q + g) τ s (σ.1 + l - τ) = st1 vM E h σ g l (3 * q + g) := by
        unfold st1
        rw [if_neg hne, l5]
      rw [hst] at g1
      obtain ⟨b0', b1', b2', m0', m1', m2'⟩ := (hp.2.1 _ hkt).2.2.2.2
      obtain ⟨q1, q2, q3, q4, q5, q6, q7, q8, q9, q10⟩ := i2 (3 * q + g) (by omega)
      obtain ⟨y1, y2, -, -⟩ := q6 hkt
      rw [x0 (75 + (j + 1)) (by omega) (by omega), s1, g1, bi_s, rfC10, lnC2, g2 (75 + (j + 1)) (by omega), x0 (75 + (j + 1)) (by omega) (by omega), s0, gd_t iq, gd_t ig, tq, rfC2, g2 (25 + q) (by omega), xJ.2 (25 + q) (by omega) (by omega), (i3 q (by omega)).1, (hp.1.2.2.2.2.2.1 q (by omega)).1, s2, g2 (79 + j) (by omega), x0 (79 + j) (by omega) (by omega), u0 (79 + j) (by omega) (by omega) (by omega), c79, rfCf2]
      have sle := st1_le (E := E) (h := h) (l := l) (v := vM) hw g3
      obtain ⟨z, d1, d2, d3⟩ := salE (d := 17) (c1 := 37 + (3 * q + g)) (b := BA vM (3 * q + g)) (m := MD vM (3 * q + g)) (tx := TX vM q) (M := (bu vM h σ g).1) (s := st1 vM E h σ g l (3 * q + g)) (c := (bu vM h σ g).2.2.1 - F * l) (v := y) (by omega) (by rw [g2 _ (by omega), xJ.2 _ (by omega) (by omega), y1]; exact b0') (by rw [g2 _ (by omega), xJ.2 _ (by omega) (by omega), y2]; exact m0') b1' b2' m1' m2' (hp.1.2.2.2.2.2.1 q (by omega)).2 bl1 (sle _ hkt) (by omega)
      obtain ⟨z0, z1, z2, -⟩ := d3
      have sE : slr vM F E h σ g q l = sellN (BA vM (3 * q + g)) (MD vM (3 * q + g)) (TX vM q) (bu vM h σ g).1 (st1 vM E h σ g l (3 * q + g)) ((bu vM h σ g).2.2.1 - F * l) 0 0 0 := rfl
      rw [← sE] at z1 z2
      have sb := sellN_b (b := BA vM (3 * q + g)) (m := MD vM (3 * q + g)) (tx := TX vM q) (bu vM h σ g).1 (st1 vM E h σ g l (3 * q + g)) ((bu vM h σ g).2.2.1 - F * l) 0 0 0 (sle _ hkt) (by omega)
      rw [← sE] at sb
      have zv : ∀ c, c ≠ 16 → c ≠ 17 → c ≠ 19 → c ≠ 20 → z c = u c := fun c h1 h2 h3 h4 => by rw [d2 c h2, g2 c h1, x0 c h3 h4]
      have zt : wu z (75 + (j + 1)) 2 (nI (slr vM F E h σ g q l).2.2.1) (37 + (3 * q + g)) 0 = nI (3 * q + g) := by rw [wu_n (by omega), zv _ (by omega) (by omega) (by omega) (by omega), ut]
      rw [d1, Option.bind_some, nv_q, z2, wu_n (show 17 ≠ 75 + (j + 1) by omega), z1, wu_j (show 1 ≠ 2 by omega), zv (75 + (j + 1)) (by omega) (by omega) (by omega) (by omega), s1, leaveE (by omega) zt, Option.bind_some]
      have t0 : ∀ c, c ≠ 16 → c ≠ 17 → c ≠ 19 → c ≠ 20 → c ≠ 75 + (j + 1) → wu (wu (wu z (75 + (j + 1)) 2 (nI (slr vM F E h σ g q l).2.2.1)) 19 (3 * q + g) (nI (slr vM F E h σ g q l).2.1)) 20 (3 * q + g) (nI (σ.1 + l)) c = u c := fun c h1 h2 h3 h4 h5 => by rw [wu_n h4, wu_n h3, wu_n h5, zv c h1 h2 h3 h4]
      have t19 : ∀ i, wu (wu (wu z (75 + (j + 1)) 2 (nI (slr vM F E h σ g q l).2.2.1)) 19 (3 * q + g) (nI (slr vM F E h σ g q l).2.1)) 20 (3 * q + g) (nI (σ.1 + l)) 19 i = if i = 3 * q + g then nI (slr vM F E h σ g q l).2.1 else if i = 3 * σ.2.2.2 + g then nI (bu vM h σ g).2.1 else v 19 i := fun i => by rw [wu_n (by omega), wu_c, wu_n (by omega), d2 19 (by omega), g2 19 (by omega), x19]
      have t20 : ∀ i, wu (wu (wu z (75 + (j + 1)) 2 (nI (slr vM F E h σ g q l).2.2.1)) 19 (3 * q + g) (nI (slr vM F E h σ g q l).2.1)) 20 (3 * q + g) (nI (σ.1 + l)) 20 i = if i = 3 * q + g then nI (σ.1 + l) else if i = 3 * σ.2.2.2 + g then nI σ.1 else v 20 i := fun i => by rw [wu_c, wu_n (by omega), wu_n (by omega), d2 20 (by omega), g2 20 (by omega), x20]
      have ts0 : wu (wu (wu z (75 + (j + 1)) 2 (nI (slr vM F E h σ g q l).2.2.1)) 19 (3 * q + g) (nI (slr vM F E h σ g q l).2.1)) 20 (3 * q + g) (nI (σ.1 + l)) (75 + (j + 1)) 0 = nI q := by rw [wu_n (by omega), wu_n (by omega), wu_j (by omega), zv _ (by omega) (by omega) (by omega) (by omega), s0]
      have ts1 : wu (wu (wu z (75 + (j + 1)) 2 (nI (slr vM F E h σ g q l).2.2.1)) 19 (3 * q + g) (nI (slr vM F E h σ g q l).2.1)) 20 (3 * q + g) (nI (σ.1 + l)) (75 + (j + 1)) 1 = nI (σ.1 + l) := by rw [wu_n (by omega), wu_n (by omega), wu_j (by omega), zv _ (by omega) (by omega) (by omega) (by omega), s1]
      have ts2 : wu (wu (wu z (75 + (j + 1)) 2 (nI (slr vM F E h σ g q l).2.2.1)) 19 (3 * q + g) (nI (slr vM F E h σ g q l).2.1)) 20 (3 * q + g) (nI (σ.1 + l)) (75 + (j + 1)) 2 = nI (slr vM F E h σ g q l).2.2.1 := by rw [wu_n (by omega), wu_n (by omega), wu_s]
      generalize wu (wu (wu z (75 + (j + 1)) 2 (nI (slr vM F E h σ g q l).2.2.1)) 19 (3 * q + g) (nI (slr vM F E h σ g q l).2.1)) 20 (3 * q + g) (nI (σ.1 + l)) = r at *
      have rv : ∀ c, c ≠ 16 → c ≠ 17 → c ≠ 19 → c ≠ 20 → c ≠ 21 → c ≠ 22 → c ≠ 75 + (j + 1) → r c = v c := fun c h1 h2 h3 h4 h5 h6 h7 => by rw [t0 c h1 h2 h3 h4 h7, u0 c h5 h6 h7]
      obtain ⟨v1, k1, k2, k3⟩ := IH (σ.1 + l, fun k => if k = 3 * q + g then (slr vM F E h σ g q l).2.1 else st1 vM E h σ g l k, (slr vM F E h σ g q l).2.2.1, q) (a * (4 * P) + (4 * q + g)) B r (twf _ rfl) (by
        refine ⟨⟨fun c hc => by rw [rv c (by omega) (by omega) (by omega) (by omega) (by omega) (by omega) (by omega), hJ.1 c hc], fun c h1 h2 => by rw [rv c (by omega) (by omega) (by omega) (by omega) (by omega) (by omega) (by omega), hJ.2 c h1 h2]⟩, ?_, ts0, ts1, ts2, by rw [rv 15 (by omega) (by omega) (by omega) (by omega) (by omega) (by omega) (by omega), r8], by rw [rv 15 (by omega) (by omega) (by omega) (by omega) (by omega) (by omega) (by omega), r9], fun d hd => by rw [rv (79 + d) (by omega) (by omega) (by omega) (by omega) (by omega) (by omega) (by omega), rz d hd]⟩
        intro k hk
        dsimp only
        rw [t19, t20]
        by_cases e1 : k = 3 * q + g
        · rw [if_pos e1, if_pos e1, if_pos e1]
          exact ⟨_, _, rfl, rfl, sb.2.2.1, Nat.le_refl _, by rw [Nat.sub_self]; rfl⟩
        · rw [if_neg e1, if_neg e1, if_neg e1]
          unfold st1
          by_cases e2 : k = 3 * σ.2.2.2 + g
          · rw [if_pos e2, if_pos e2, if_pos e2]
            exact ⟨_, _, rfl, rfl, bb.2.1, by omega, by rw [Nat.add_sub_cancel_left]⟩
          · rw [if_neg e2, if_neg e2, if_neg e2]
            exact hlzt k hk) (hpu r (t0 21 (by omega) (by omega) (by omega) (by omega) (by omega)) (t0 22 (by omega) (by omega) (by omega) (by omega) (by omega))) (bC_c hB (fun i _ => by rw [rv 15 (by omega) (by omega) (by omega) (by omega) (by omega) (by omega) (by omega)]) (rv 23 (by omega) (by omega) (by omega) (by omega) (by omega) (by omega) (by omega)) (rv 24 (by omega) (by omega) (by omega) (by omega) (by omega) (by omega) (by omega)))
      obtain ⟨a1, a2, a3, a4, a5, a6, a7, a8, a9⟩ := id k2
      have v1s : v1 (37 + (3 * σ.2.2.2 + g)) 0 = nI (3 * σ.2.2.2 + g) := by rw [a2 _ (by omega) (by omega), rv _ (by omega) (by omega) (by omega) (by omega) (by omega) (by omega) (by omega), hJ.2 _ (by omega) (by omega), qs]
      have v1t : ∀ p1 p2 : Int32, wu (wu v1 19 (3 * σ.2.2.2 + g) p1) 20 (3 * σ.2.2.2 + g) p2 (37 + (3 * q + g)) 0 = nI (3 * q + g) := fun p1 p2 => by rw [wu_n (by omega), wu_n (by omega), a2 _ (by omega) (by omega), rv _ (by omega) (by omega) (by omega) (by omega) (by omega) (by omega) (by omega), hJ.2 _ (by omega) (by omega), qt]
      rw [k1, Option.bind_some, leaveE (by omega) v1s, Option.bind_some, leaveE (by omega) (v1t _ _), Option.bind_some]
      have o0 : ∀ c, c ≠ 19 → c ≠ 20 → wu (wu (wu (wu v1 19 (3 * σ.2.2.2 + g) (v 19 (3 * σ.2.2.2 + g))) 20 (3 * σ.2.2.2 + g) (v 20 (3 * σ.2.2.2 + g))) 19 (3 * q + g) (v 19 (3 * q + g))) 20 (3 * q + g) (v 20 (3 * q + g)) c = v1 c := fun c h1 h2 => by rw [wu_n h2, wu_n h1, wu_n h2, wu_n h1]
      have o19 : wu (wu (wu (wu v1 19 (3 * σ.2.2.2 + g) (v 19 (3 * σ.2.2.2 + g))) 20 (3 * σ.2.2.2 + g) (v 20 (3 * σ.2.2.2 + g))) 19 (3 * q + g) (v 19 (3 * q + g))) 20 (3 * q + g) (v 20 (3 * q + g)) 19 = v 19 := funext fun i => by
        rw [wu_n (by omega), wu_c, wu_n (by omega), wu_c, a5, t19]
        by_cases e1 : i = 3 * q + g
        · rw [if_pos e1, e1]
        · rw [if_neg e1, if_neg e1]
          by_cases e2 : i = 3 * σ.2.2.2 + g
          · rw [if_pos e2, e2]
          · rw [if_neg e2, if_neg e2]
      have o20 : wu (wu (wu (wu v1 19 (3 * σ.2.2.2 + g) (v 19 (3 * σ.2.2.2 + g))) 20 (3 * σ.2.2.2 + g) (v 20 (3 * σ.2.2.2 + g))) 19 (3 * q + g) (v 19 (3 * q + g))) 20 (3 * q + g) (v 20 (3 * q + g)) 20 = v 20 := funext fun i => by
        rw [wu_c, wu_n (by omega), wu_c, wu_n (by omega), a6, t20]
        by_cases e1 : i = 3 * q + g
        · rw [if_pos e1, e1]
        · rw [if_neg e1, if_neg e1]
          by_cases e2 : i = 3 * σ.2.2.2 + g
          · rw [if_pos e2, e2]
          · rw [if_neg e2, if_neg e2]
      refine ⟨_, rfl, ⟨fun c hc => ?_, fun c h1 h2 => ?_, ?_, ?_, o19, o20, fun x hx => ?_, fun d hd => ?_, fun d hd => ?_⟩, bC_c k3 (fun i _ => by rw [o0 15 (by omega) (by omega)]) (o0 23 (by omega) (by omega)) (o0 24 (by omega) (by omega))⟩
      · rw [o0 c (by omega) (by omega), a1 c hc, rv c (by omega) (by omega) (by omega) (by omega) (by omega) (by omega) (by omega)]
      · rw [o0 c (by omega) (by omega), a2 c h1 h2, rv c (by omega) (by omega) (by omega) (by omega) (by omega) (by omega) (by omega)]
      · rw [o0 15 (by omega) (by omega), a3, rv 15 (by omega) (by omega) (by omega) (by omega) (by omega) (by omega) (by omega)]
      · rw [o0 15 (by omega) (by omega), a4, rv 15 (by omega) (by omega) (by omega) (by omega) (by omega) (by omega) (by omega)]
      · rw [o0 21 (by omega) (by omega), o0 22 (by omega) (by omega), (a7 x (by omega)).1, (a7 x (by omega)).2, t0 21 (by omega) (by omega) (by omega) (by omega) (by omega), t0 22 (by omega) (by omega) (by omega) (by omega) (by omega), u21, u22, if_neg (by omega), if_neg (by omega)]
        exact ⟨rfl, rfl⟩
      · obtain ⟨n1, n2, n3, n4⟩ := a8 d (by omega)
        rw [o0 (75 + d) (by omega) (by omega), o0 (79 + d) (by omega) (by omega), o0 (83 + d) (by omega) (by omega), o0 (87 + d) (by omega) (by omega), n1, n2, n3, n4]
        exact ⟨rv _ (by omega) (by omega) (by omega) (by omega) (by omega) (by omega) (by omega), rv _ (by omega) (by omega) (by omega) (by omega) (by omega) (by omega) (by omega), rv _ (by omega) (by omega) (by omega) (by omega) (by omega) (by omega) (by omega), rv _ (by omega) (by omega) (by omega) (by omega) (by omega) (by omega) (by omega)⟩
      · rw [o0 (79 + d) (by omega) (by omega), a9 d hd, rv (79 + d) (by omega) (by omega) (by omega) (by omega) (by omega) (by omega) (by omega)]
end
