abbrev HW (vM : VV) : Nat → Nat → Int := fun a b => (WW vM a b : Int)
def eJ (P F h : Nat) (vC vM v : VV) : Prop := (∀ c, c < 61 → c ≠ 11 → c ≠ 13 → c ≠ 14 → v c = vC c) ∧ ∀ a b, a < P → b < P → v (61 + a) b = iI (legI vM F h a b)
theorem eJ_c {P F h : Nat} {vC vM v v' : VV} (j : eJ P F h vC vM v) (e : ∀ c, c ≠ 11 → c ≠ 13 → c ≠ 14 → v' c = v c) : eJ P F h vC vM v' :=
  ⟨fun c h1 h2 h3 h4 => by rw [e c h2 h3 h4, j.1 c h1 h2 h3 h4], fun a b ha hb => by rw [e _ (by omega) (by omega) (by omega), j.2 a b ha hb]⟩
theorem oo_W {a b : Nat} {vM : VV} (h : oo vM a b ≠ 0) : oo vM a b = WW vM a b := by
  unfold oo at h ⊢
  split
  · rename_i h1
    rw [if_pos h1] at h
    split
    · rfl
    · rename_i h2
      rw [if_neg h2] at h
      exact absurd rfl h
  · rename_i h1
    rw [if_neg h1] at h
    exact absurd rfl h
theorem oo_b {P F a b : Nat} {vM : VV} (hf : frz P F vM) (ha : a < 6) (hb : b < 6) : oo vM a b ≤ 9 := by
  have := (hf.2.2.2.2.2.2 a b ha hb).2.1
  unfold oo
  split
  · split <;> omega
  · omega
theorem tz0 : Int32.toNatClampNeg 0 = 0 := rfl
theorem nI_z {a : Nat} (h : a < 2 ^ 31) : (nI a ≤ (0 : Int32)) ↔ a = 0 := by
  rw [Int32.le_iff_toInt_le, nI_toInt h]
  show (a : Int) ≤ 0 ↔ a = 0
  omega
/-- what a deeper search gives -/
def extP (P F h d c : Nat) (vC vM : VV) : Prop := ∀ (w b : Nat → Nat) (bm : Nat) (gv lv : Int) (v : VV), pok P (oo vM) w c → eJ P F h vC vM v → (∀ i, i < c → v 13 i = nI (w i)) → rS v bm b gv lv → isMax P (oo vM) (legI vM F h) (HW vM) (fun f m => ltL f m w c) bm b gv lv → ∃ (v' : VV) (bm' : Nat) (b' : Nat → Nat) (gv' lv' : Int), fx_X5_extend d 11 (nI c) (iI (rg (legI vM F h) w (c - 1))) (iI (rg (HW vM) w (c - 1))) v = some v' ∧ (∀ c', c' ≠ 11 → c' ≠ 13 → c' ≠ 14 → v' c' = v c') ∧ (∀ i, i < c → v' 13 i = nI (w i)) ∧ rS v' bm' b' gv' lv' ∧ isMax P (oo vM) (legI vM F h) (HW vM) (Q1 w c P) bm' b' gv' lv'
theorem pok_x {P c x : Nat} {o : Nat → Nat → Nat} {w : Nat → Nat} (hc : 1 ≤ c) (hw : pok P o w c) (hx : x < P) (h0 : w 0 < x) (hn : ∀ j, j < c → w j ≠ x) (ho : o (w (c - 1)) x ≠ 0) : pok P o (upx w c x) (c + 1) := by
  obtain ⟨w1, w2, w3, w4⟩ := hw
  have e0 : upx w c x 0 = w 0 := upx_n (by omega)
  refine ⟨fun i hi => ?_, fun i j hij hj => ?_, fun i h1 hi => ?_, fun i hi => ?_⟩
  · by_cases e : i = c
    · rw [e, upx_s]; exact hx
    · rw [upx_n e]; exact w1 i (by omega)
  · rw [upx_n (show i ≠ c by omega)]
    by_cases e : j = c
    · rw [e, upx_s]; exact hn i (by omega)
    · rw [upx_n e]; exact w2 i j hij (by omega)
  · rw [e0]
    by_cases e : i = c
    · rw [e, upx_s]; exact h0
    · rw [upx_n e]; exact w3 i h1 (by omega)
  · rw [upx_n (show i ≠ c by omega)]
    by_cases e : i + 1 = c
    · rw [e, upx_s, show i = c - 1 by omega]; exact ho
    · rw [upx_n e]; exact w4 i (by omega)
theorem rg_x {G : Nat → Nat → Int} {w : Nat → Nat} {c x : Nat} (hc : 1 ≤ c) : rg G (upx w c x) (c + 1 - 1) = rg G w (c - 1) + G (w (c - 1)) x := by
  rw [show c + 1 - 1 = (c - 1) + 1 by omega, rg, rg_congr (f := upx w c x) (g := w) (c - 1) (fun i hi => upx_n (by omega)), upx_n (show c - 1 ≠ c by omega), show c - 1 + 1 = c by omega, upx_s]
section
variable {P T F S h : Nat} {vC vM : VV}
theorem extL (i1 : iSc P T F S vC vM) (i3 : iPo vC vM) (i4 : iWy vC vM) (hf : frz P F vM) {d c : Nat} {w : Nat → Nat} (hc1 : 1 ≤ c) (hc5 : c < 6) (hw : pok P (oo vM) w c) (IH : extP P F h d (c + 1) vC vM) : ∀ (n x : Nat) (b : Nat → Nat) (bm : Nat) (gv lv : Int) (v : VV), w 0 < x → x ≤ P → P - x < n → eJ P F h vC vM v → (∀ i, i < c → v 13 i = nI (w i)) → rS v bm b gv lv → isMax P (oo vM) (legI vM F h) (HW vM) (Q1 w c x) bm b gv lv → ∃ (v' : VV) (bm' : Nat) (b' : Nat → Nat) (gv' lv' : Int), f_X5_extend_l79 (fx_X5_extend d) n 11 (nI c) (iI (rg (legI vM F h) w (c - 1))) (iI (rg (HW vM) w (c - 1))) (nI (w (c - 1))) (nI x) v = some v' ∧ (∀ c', c' ≠ 11 → c' ≠ 13 → c' ≠ 14 → v' c' = v c') ∧ (∀ i, i < c → v' 13 i = nI (w i)) ∧ rS v' bm' b' gv' lv' ∧ isMax P (oo vM) (legI vM F h) (HW vM) (Q1 w c P) bm' b' gv' lv'
  | 0, x, b, bm, gv, lv, v, _, _, hn, _, _, _, _ => by omega
  | n + 1, x, b, bm, gv, lv, v, h0, hx, hn, hJ, hp, hS, hM => by
    have hP := hf.1
    rw [f_X5_extend_l79, rfCb0, hJ.1 1 (by omega) (by omega) (by omega) (by omega), i1.1.1]
    by_cases e : x = P
    · subst e
      rw [if_pos (nI_le (Nat.le_refl _) (by omega))]
      exact ⟨v, bm, b, gv, lv, rfl, fun _ _ _ _ => rfl, hp, hS, hM⟩
    · have wl : w (c - 1) < P := hw.1 _ (by omega)
      have ob := oo_b hf (show w (c - 1) < 6 by omega) (show x < 6 by omega)
      rw [if_neg (nI_ge (by omega) (by omega)), openO i3 i4 (by omega) (by omega) (fun k hk => hJ.1 _ (by omega) (by omega) (by omega) (by omega)) (fun k hk => hJ.1 _ (by omega) (by omega) (by omega) (by omega)), bi_s]
      by_cases ho : oo vM (w (c - 1)) x = 0
      · rw [if_pos ((nI_z (by omega)).mpr ho), nv_q, nI_1]
        refine extL i1 i3 i4 hf hc1 hc5 hw IH n (x + 1) b bm gv lv v (by omega) (by omega) (by omega) hJ hp hS (isMax_eq hM (fun f m hfm => Q1_skip (fun ha hcm he => ?_)))
        have := hfm.2.1.2.2.2 (c - 1) (by omega)
        rw [show c - 1 + 1 = c by omega, he, ha (c - 1) (by omega)] at this
        exact this ho
      · rw [if_neg (fun h9 => ho ((nI_z (by omega)).mp h9))]
        unfold F_X5_isOnPath f_X5_isOnPath
        have hop := onPath (x := x) (c := c) (w := w) (v := v) (by omega) (by omega) (fun i hi => ⟨hp i hi, by have := hw.1 i hi; omega⟩) FU 0 (by omega) (by unfold FU; omega) (fun j hj => by omega)
        rw [nI_0] at hop
        rcases hop with ⟨j, hj, hjx, g⟩ | ⟨hnot, g⟩
        · rw [g, bi_s, if_neg (by decide), nv_q, nI_1]
          refine extL i1 i3 i4 hf hc1 hc5 hw IH n (x + 1) b bm gv lv v (by omega) (by omega) (by omega) hJ hp hS (isMax_eq hM (fun f m hfm => Q1_skip (fun ha hcm he => ?_)))
          have := hfm.2.1.2.1 j c hj hcm
          rw [ha j hj, he] at this
          exact this hjx
        · have tc : (nI c).toNatClampNeg = c := tn (by omega)
          have ic : inB (nI c) 6 = true := inB_n (by omega) (by omega)
          have tl : (nI (w (c - 1))).toNatClampNeg = w (c - 1) := tn (by omega)
          have il : inB (nI (w (c - 1))) 6 = true := inB_n (by omega) (by omega)
          have tx : (nI x).toNatClampNeg = x := tn (by omega)
          have ix : inB (nI x) 6 = true := inB_n (by omega) (by omega)
          rw [g, bi_s, if_pos rfl, rfCb2, lnC13, gd_t ic, nv_q, rfCb1, lnC12, gd_t il, rfCc1, tl, lnCg (by omega), gd_t ix, tx, tc, wu_n (by omega), hJ.2 _ _ wl (by omega), oo_W ho, iI_nat (WW vM (w (c - 1)) x), iI_add, iI_add, nI_1]
          have hJ' : eJ P F h vC vM (wu v 13 c (nI x)) := eJ_c hJ (fun c' _ h3 _ => wu_n h3)
          obtain ⟨v1, bm1, b1, gv1, lv1, g1, g2, g3, g4, g5⟩ := IH (upx w c x) b bm gv lv (wu v 13 c (nI x)) (pok_x hc1 hw (by omega) h0 hnot ho) hJ' (fun i hi => by
            by_cases e : i = c
            · rw [e, wu_s, upx_s]
            · rw [wu_j e, upx_n e, hp i (by omega)]) ⟨by rw [wu_n (by omega)]; exact hS.1, by rw [wu_n (by omega)]; exact hS.2.1, by rw [wu_n (by omega)]; exact hS.2.2.1, fun i hi => by rw [wu_n (by omega)]; exact hS.2.2.2 i hi⟩ (isMax_eq hM (fun f m _ => Q1_child))
          rw [rg_x hc1, rg_x hc1] at g1
          rw [g1, Option.bind_some, nv_q, nI_1]
          have e3 : ∀ c', c' ≠ 11 → c' ≠ 13 → c' ≠ 14 → v1 c' = v c' := fun c' h1 h2 h3 => by rw [g2 c' h1 h2 h3, wu_n h2]
          obtain ⟨v2, bm2, b2, gv2, lv2, k1, k2, k3, k4, k5⟩ := extL i1 i3 i4 hf hc1 hc5 hw IH n (x + 1) b1 bm1 gv1 lv1 v1 (by omega) (by omega) (by omega) (eJ_c hJ e3) (fun i hi => by rw [g3 i (by omega), upx_n (by omega)]) g4 (isMax_eq g5 (fun f m hfm => Q1_after hfm))
          exact ⟨v2, bm2, b2, gv2, lv2, k1, fun c' h1 h2 h3 => by rw [k2 c' h1 h2 h3, e3 c' h1 h2 h3], k3, k4, k5⟩
theorem extB (i1 : iSc P T F S vC vM) (i3 : iPo vC vM) (i4 : iWy vC vM) (hf : frz P F vM) {d c : Nat} {w : Nat → Nat} (hc1 : 1 ≤ c) (hc6 : c ≤ 6) (hw : pok P (oo vM) w c) (IH : c < 6 → extP P F h d (c + 1) vC vM) (b : Nat → Nat) (bm : Nat) (gv lv : Int) (v : VV) (hJ : eJ P F h vC vM v) (hp : ∀ i, i < c → v 13 i = nI (w i)) (hS : rS v bm b gv lv) (hM : isMax P (oo vM) (legI vM F h) (HW vM) (fun f m => ltL f m w c ∨ (m = c ∧ agr f w c)) bm b gv lv) : ∃ (v' : VV) (bm' : Nat) (b' : Nat → Nat) (gv' lv' : Int), f_X5_extend_b62 (fx_X5_extend d) 11 (nI c) (iI (rg (legI vM F h) w (c - 1))) (iI (rg (HW vM) w (c - 1))) (nI (w (c - 1))) v = some v' ∧ (∀ c', c' ≠ 11 → c' ≠ 13 → c' ≠ 14 → v' c' = v c') ∧ (∀ i, i < c → v' 13 i = nI (w i)) ∧ rS v' bm' b' gv' lv' ∧ isMax P (oo vM) (legI vM F h) (HW vM) (Q1 w c P) bm' b' gv' lv' := by
  have hP := hf.1
  have w0 : w 0 < P := hw.1 0 (by omega)
  have hM' := isMax_eq (Q' := Q1 w c (w 0 + 1)) hM (fun f m hfm => Q1_node hc1 hfm)
  unfold f_X5_extend_b62
  by_cases e : c < 6
  · rw [if_pos (show nI c < 6 from nI_lt (b := 6) e (by omega)), rfCb2, lnC13, gd_t (by decide), nv_q, tz0, hp 0 (by omega), nI_1]
    exact extL i1 i3 i4 hf hc1 e hw (IH e) FU (w 0 + 1) b bm gv lv v (by omega) (by omega) (by unfold FU; omega) hJ hp hS hM'
  · rw [if_neg (show ¬ nI c < 6 from nI_nlt (b := 6) (by omega) (by omega))]
    refine ⟨v, bm, b, gv, lv, rfl, fun _ _ _ _ => rfl, hp, hS, isMax_eq hM' (fun f m hfm => Q1_end (fun hcm => ?_))⟩
    have := pig_f hfm.2.1.1 hfm.2.1.2.1
    omega
theorem extC (i1 : iSc P T F S vC vM) (i3 : iPo vC vM) (i4 : iWy vC vM) (hf : frz P F vM) (hh : h ≤ 20) : ∀ (d c : Nat), 1 ≤ c → c ≤ 6 → 7 ≤ d + c → extP P F h d c vC vM
  | 0, c, _, h6, h7 => by omega
  | d + 1, c, hc1, hc6, hd => by
    intro w b bm gv lv v hw hJ hp hS hM
    have hP := hf.1
    have wl : w (c - 1) < P := hw.1 _ (by omega)
    have w0 : w 0 < P := hw.1 0 (by omega)
    have IH : c < 6 → extP P F h d (c + 1) vC vM := fun e => extC i1 i3 i4 hf hh d (c + 1) (by omega) (by omega) (by omega)
    have ec : nI c - 1 = nI (c - 1) := by
      have := nI_pred (n := c - 1)
      rw [show c - 1 + 1 = c by omega] at this
      exact this
    have t0 : (nI (w 0)).toNatClampNeg = w 0 := tn (by omega)
    have j0 : inB (nI (w 0)) 6 = true := inB_n (by omega) (by omega)
    have tl : (nI (w (c - 1))).toNatClampNeg = w (c - 1) := tn (by omega)
    have il : inB (nI (w (c - 1))) 6 = true := inB_n (by omega) (by omega)
    have ob := oo_b hf (show w (c - 1) < 6 by omega) (show w 0 < 6 by omega)
    rw [fx_X5_extend]
    unfold F_X5_extend f_X5_extend
    rw [ec, rfCb2, lnC13, gd_t (inB_n (by omega) (by omega)), nv_q, gd_t (by decide), tn (by omega), tz0, hp (c - 1) (by omega), hp 0 (by omega), rfCb0, openO i3 i4 (by omega) (by omega) (fun k hk => hJ.1 _ (by omega) (by omega) (by omega) (by omega)) (fun k hk => hJ.1 _ (by omega) (by omega) (by omega) (by omega)), bi_s]
    have no : (¬ 2 ≤ c ∨ oo vM (w (c - 1)) (w 0) = 0) → isMax P (oo vM) (legI vM F h) (HW vM) (fun f m => ltL f m w c ∨ (m = c ∧ agr f w c)) bm b gv lv := fun hno => isMax_eq hM (fun f m hfm => ⟨fun h9 => by
      rcases h9 with h9 | ⟨h8, h9⟩
      · exact h9
      · exfalso
        subst h8
        rcases hno with hno | hno
        · exact hno hfm.1
        · have := hfm.2.2
          rw [h9 (m - 1) (by omega), h9 0 (by omega)] at this
          exact this hno, fun h9 => Or.inl h9⟩)
    by_cases e2 : 2 ≤ c
    · rw [if_neg (show ¬ nI c < 2 from nI_nlt (b := 2) e2 (by omega))]
      by_cases ho : oo vM (w (c - 1)) (w 0) = 0
      · rw [if_pos ((nI_z (by omega)).mpr ho)]
        exact extB i1 i3 i4 hf hc1 hc6 hw IH b bm gv lv v hJ hp hS (no (Or.inr ho))
      · rw [if_neg (fun h9 => ho ((nI_z (by omega)).mp h9)), rfCb1, lnC12, gd_t il, gd_t (by decide), rfCc1, tl, hp 0 (by omega), lnCg (by omega), gd_t j0, t0, hJ.2 _ _ wl w0, iI_add, oo_W ho, iI_nat (WW vM (w (c - 1)) (w 0)), iI_add]
        obtain ⟨v1, bm1, b1, gv1, lv1, g1, g2, g3, g4⟩ := cmpC (h := h) hf hh hS hM ⟨e2, hw, ho⟩ hp
        unfold RG at g1
        rw [g1]
        show ∃ (v' : VV) (bm' : Nat) (b' : Nat → Nat) (gv' lv' : Int), f_X5_extend_b62 _ _ _ _ _ _ v1 = some v' ∧ _
        obtain ⟨v2, bm2, b2, gv2, lv2, k1, k2, k3, k4, k5⟩ := extB i1 i3 i4 hf hc1 hc6 hw IH b1 bm1 gv1 lv1 v1 (eJ_c hJ (fun c' h1 _ h3 => g2 c' h1 h3)) (fun i hi => by rw [g2 13 (by omega) (by omega), hp i hi]) g3 g4
        exact ⟨v2, bm2, b2, gv2, lv2, k1, fun c' h1 h2 h3 => by rw [k2 c' h1 h2 h3, g2 c' h1 h3], k3, k4, k5⟩
    · rw [if_pos (show nI c < 2 from nI_lt (b := 2) (by omega) (by omega))]
      exact extB i1 i3 i4 hf hc1 hc6 hw IH b bm gv lv v hJ hp hS (no (Or.inl e2))
end
