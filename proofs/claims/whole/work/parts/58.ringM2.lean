section
variable {P F h m : Nat} {vM : VV} {r : Nat → Nat}
abbrev lookK : Nat → Int32 → Int32 → Int32 → VV → Option VV := fun c0_18 i1_18 i3_18 i4_18 v_18 =>
  nv (((Int32.toInt64 i3_18) * (Int32.toInt64 (v_18 c0_18 32)))) fun y19 =>
  nv (((Int32.toInt64 (v_18 c0_18 31)) * (Int32.toInt64 i4_18))) fun y20 =>
  if ((v_18 c0_18 30) = 0) then
    f_X11_look_b157 c0_18 i1_18 i3_18 i4_18 v_18
  else
    if (0 < (lg_cmp y19 y20)) then
      f_X11_look_b157 c0_18 i1_18 i3_18 i4_18 v_18
    else
      if ((lg_cmp y19 y20) = 0) then
        if (i1_18 < (v_18 c0_18 30)) then
          f_X11_look_b157 c0_18 i1_18 i3_18 i4_18 v_18
        else
          if (i1_18 = (v_18 c0_18 30)) then
            bi (F_X11_isLess c0_18 i1_18 v_18) fun x32 v31 =>
            if (x32 = 0) then
              f_X11_look_b161 c0_18 i1_18 i3_18 i4_18 v31
            else
              f_X11_look_b157 c0_18 i1_18 i3_18 i4_18 v31
          else
            f_X11_look_b161 c0_18 i1_18 i3_18 i4_18 v_18
      else
        f_X11_look_b161 c0_18 i1_18 i3_18 i4_18 v_18
theorem lookS {K : Nat → Int32 → Int32 → Int32 → VV → Option VV} {v : VV} (hf : frz P F vM) (hm2 : 2 ≤ m) (hm6 : m ≤ 6) (hrP : ∀ i, i < m → r i < P) (hJ : mJ vM v) (hr : ∀ i, i < m → v 19 i = nI (r i)) : ∀ (n i : Nat), i ≤ m → m - i < n → (∀ j, j < i → WW vM (r j) (r ((j + 1) % m)) ≠ 0) → ((∃ j, j < m ∧ WW vM (r j) (r ((j + 1) % m)) = 0) ∧ f_X11_look_l8 K n 0 (nI m) (nI h) (iI (sg (legI vM F h) r m i)) (iI (sg (HW vM) r m i)) (nI i) v = some v) ∨ ((∀ j, j < m → WW vM (r j) (r ((j + 1) % m)) ≠ 0) ∧ f_X11_look_l8 K n 0 (nI m) (nI h) (iI (sg (legI vM F h) r m i)) (iI (sg (HW vM) r m i)) (nI i) v = K 0 (nI m) (iI (RG (legI vM F h) r m)) (iI (RG (HW vM) r m)) v)
  | 0, i, _, h, _ => by omega
  | n + 1, i, hi, hn, hj => by
    have hP := hf.1
    rw [f_X11_look_l8]
    by_cases e : i = m
    · subst e
      rw [if_pos (nI_le (Nat.le_refl _) (by omega))]
      right
      refine ⟨hj, ?_⟩
      unfold sg
      rw [if_neg (by omega), if_neg (by omega)]
    · have hmod : (i + 1) % m < m := Nat.mod_lt _ (by omega)
      have ti : (nI i).toNatClampNeg = i := tn (by omega)
      have ii : inB (nI i) 6 = true := inB_n (by omega) (by omega)
      have tm : (nI ((i + 1) % m)).toNatClampNeg = (i + 1) % m := tn (by omega)
      have im : inB (nI ((i + 1) % m)) 6 = true := inB_n (by omega) (by omega)
      have p1 := hrP i (by omega)
      have p2 := hrP _ hmod
      have tk : (nI (6 * r i + r ((i + 1) % m))).toNatClampNeg = 6 * r i + r ((i + 1) % m) := tn (by omega)
      have ik : inB (nI (6 * r i + r ((i + 1) % m))) 36 = true := inB_n (by omega) (by omega)
      obtain ⟨w1, w2, -⟩ := hf.2.2.2.2.2.2 (r i) (r ((i + 1) % m)) (by omega) (by omega)
      rw [if_neg (nI_ge (by omega) (by omega)), rfM28, rfM13, lnM19, lnM11, gd_t ii, nv_q, gd_t (nI_ne0 (by omega) (by omega)), nI_1, nI_mod (by omega) (by omega) (by omega), gd_t im, nv_q, ti, tm, hr i (by omega), hr _ hmod, k6, gd_t ik, tk, hJ.1 11 (by omega) (by omega), w1]
      by_cases hw : WW vM (r i) (r ((i + 1) % m)) = 0
      · rw [if_pos (by rw [hw]; rfl)]
        exact Or.inl ⟨⟨i, by omega, hw⟩, rfl⟩
      · rw [if_neg (nI_ne0 (by omega) (by omega)), legM hf p1 p2 hJ.1 (hJ.2.2 2 (by omega)), bi_s, nv_q, gd_t ik, nv_q, nv_q, hJ.1 11 (by omega) (by omega), w1, iI_add, iI_nat (WW vM (r i) (r ((i + 1) % m))), iI_add, ← sg_s (G := legI vM F h) (show i < m by omega)]
        have := sg_s (G := HW vM) (r := r) (show i < m by omega)
        dsimp only [HW] at this ⊢
        rw [← this]
        exact lookS hf hm2 hm6 hrP hJ hr n (i + 1) (by omega) (by omega) (fun j hj2 => by
          by_cases e2 : j = i
          · rw [e2]; exact hw
          · exact hj j (by omega))
theorem lookE {Q : (Nat → Nat) → Nat → Prop} {b : Nat → Nat} {bm : Nat} {gv lv : Int} {v : VV} (hf : frz P F vM) (hh : h ≤ 20) (hm2 : 2 ≤ m) (hm6 : m ≤ 6) (hrP : ∀ i, i < m → r i < P) (hrd : ∀ i j, i < j → j < m → r i ≠ r j) (hr0 : ∀ i, 1 ≤ i → i < m → r 0 < r i) (hrs : ∀ i, i < m → vM 10 (r i) = 0) (hJ : mJ vM v) (hr : ∀ i, i < m → v 19 i = nI (r i)) (hS : mS v bm b gv lv) (hM : isMax P (oo vM) (legI vM F h) (HW vM) Q bm b gv lv) : ∃ (v' : VV) (bm' : Nat) (b' : Nat → Nat) (gv' lv' : Int), F_X11_look 0 (nI m) (nI h) v = some v' ∧ mJ vM v' ∧ mS v' bm' b' gv' lv' ∧ isMax P (oo vM) (legI vM F h) (HW vM) (fun f k => Q f k ∨ (k = m ∧ agr f r m)) bm' b' gv' lv' := by
  have hP := hf.1
  have ooW : ∀ i, i < m → ∀ j, j < m → oo vM (r i) (r j) = WW vM (r i) (r j) := fun i hi j hj => by
    unfold oo
    rw [if_pos (hrs i hi), if_pos (hrs j hj)]
  unfold F_X11_look f_X11_look
  have hs := lookS (h := h) (K := lookK) hf hm2 hm6 hrP hJ hr FU 0 (by omega) (by unfold FU; omega) (fun j hj => by omega)
  rw [nI_0, show sg (legI vM F h) r m 0 = 0 by unfold sg; rw [if_pos (by omega), rg], show sg (HW vM) r m 0 = 0 by unfold sg; rw [if_pos (by omega), rg], show iI 0 = 0 from rfl] at hs
  rcases hs with ⟨⟨j, hj, hw⟩, g⟩ | ⟨hw, g⟩
  · refine ⟨v, bm, b, gv, lv, g, hJ, hS, isMax_eq hM (fun f k hfk => ⟨fun h9 => ?_, Or.inl⟩)⟩
    rcases h9 with h9 | ⟨h8, h9⟩
    · exact h9
    · exfalso
      subst h8
      by_cases e : j + 1 < k
      · have := hfk.2.1.2.2.2 j e
        rw [h9 j (by omega), h9 (j + 1) e, ooW j (by omega) (j + 1) e] at this
        rw [Nat.mod_eq_of_lt e] at hw
        exact this hw
      · have := hfk.2.2
        rw [h9 (k - 1) (by omega), h9 0 (by omega), ooW (k - 1) (by omega) 0 (by omega)] at this
        rw [show j + 1 = k by omega, Nat.mod_self, show j = k - 1 by omega] at hw
        exact this hw
  · have hc : cand P (oo vM) r m := ⟨hm2, ⟨hrP, hrd, hr0, fun i hi => by
      have := hw i (by omega)
      rw [Nat.mod_eq_of_lt hi] at this
      rw [ooW i (by omega) (i + 1) hi]
      exact this⟩, by
      have := hw (m - 1) (by omega)
      rw [show m - 1 + 1 = m by omega, Nat.mod_self] at this
      rw [ooW (m - 1) (by omega) 0 (by omega)]
      exact this⟩
    have hHp : ∀ f m, cand P (oo vM) f m → 0 < RG (HW vM) f m := fun f m hx => (RLb hf hx).1
    obtain ⟨s1, s2, s3, s4⟩ := id hS
    obtain ⟨v', g1, g2, g3, g4⟩ := lookYes (g := RG (legI vM F h) r m) (l := RG (HW vM) r m) hm6 hr
    have hJ' : mJ vM v' := ⟨fun c h1 h2 => by rw [g2 c (by omega) (by omega), hJ.1 c h1 h2], fun c h1 => by rw [g2 c (by omega) (by omega), hJ.2.1 c h1], fun j hj => by rw [g3 j hj, hJ.2.2 j hj]⟩
    have no : f_X11_look_b161 0 (nI m) (iI (RG (legI vM F h) r m)) (iI (RG (HW vM) r m)) v = some v := by
      unfold f_X11_look_b161 f_X11_look_b162
      rw [if_pos rfl]
    rw [g]
    dsimp only [lookK]
    rw [nv_q, nv_q, s1]
    by_cases h0 : bm = 0
    · rw [if_pos (by rw [h0]; rfl)]
      exact ⟨v', m, r, _, _, g1, hJ', g4, isMax_yes hHp hM hc (Or.inl h0) (fun _ _ _ => Iff.rfl)⟩
    · have hM' := hM
      rcases hM' with ⟨h2, -⟩ | ⟨-, h3, h4, h5, h6, h7⟩
      · exact absurd h2 h0
      · have hbm := pig_f h3.2.1.1 h3.2.1.2.1
        have gw := RGb (h := h) hf hh hc
        have lw := RLb hf hc
        have gb := RGb (h := h) hf hh h3
        have lb := RLb hf h3
        have x1 := l64 gw.1 gw.2 lb.1 lb.2
        have x2 := l64 gb.1 gb.2 lw.1 lw.2
        have cgt := lg_gt (Int32.toInt64 (iI (RG (legI vM F h) r m)) * Int32.toInt64 (iI (RG (HW vM) b bm))) (Int32.toInt64 (iI (RG (legI vM F h) b bm)) * Int32.toInt64 (iI (RG (HW vM) r m)))
        have ceq := lg_eq (Int32.toInt64 (iI (RG (legI vM F h) r m)) * Int32.toInt64 (iI (RG (HW vM) b bm))) (Int32.toInt64 (iI (RG (legI vM F h) b bm)) * Int32.toInt64 (iI (RG (HW vM) r m)))
        rw [Int64.lt_iff_toInt_lt, x1, x2] at cgt
        rw [← Int64.toInt_inj, x1, x2] at ceq
        rw [if_neg (nI_ne0 (by omega) (by omega)), s2, s3, h5, h6]
        by_cases ha : RG (legI vM F h) b bm * RG (HW vM) r m < RG (legI vM F h) r m * RG (HW vM) b bm
        · rw [if_pos (cgt.mpr ha)]
          exact ⟨v', m, r, _, _, g1, hJ', g4, isMax_yes hHp hM hc (Or.inr (Or.inl ha)) (fun _ _ _ => Iff.rfl)⟩
        · rw [if_neg (fun h9 => ha (cgt.mp h9))]
          by_cases he : RG (legI vM F h) r m * RG (HW vM) b bm = RG (legI vM F h) b bm * RG (HW vM) r m
          · rw [if_pos (ceq.mpr he)]
            by_cases hlt : m < bm
            · rw [if_pos (nI_lt hlt (by omega))]
              exact ⟨v', m, r, _, _, g1, hJ', g4, isMax_yes hHp hM hc (Or.inr (Or.inr ⟨he.symm, Or.inl hlt⟩)) (fun _ _ _ => Iff.rfl)⟩
            · rw [if_neg (nI_nlt (by omega) (by omega))]
              by_cases hq : m = bm
              · rw [if_pos (by rw [hq])]
                unfold F_X11_isLess f_X11_isLess
                obtain ⟨x, y1, y2⟩ := lessE (r := r) (b := b) (m := m) (v := v) hm6 (fun i hi => ⟨hr i hi, by have := hrP i hi; omega⟩) (fun i hi => ⟨s4 i (by omega), by have := h3.2.1.1 i (by omega); omega⟩) FU 0 (by omega) (by unfold FU; omega) (fun j hj => by omega)
                rw [nI_0] at y1
                rw [y1, bi_s]
                by_cases hx : x = 0
                · rw [if_pos hx, no]
                  refine ⟨v, bm, b, gv, lv, rfl, hJ, hS, isMax_no hM h0 hc ?_ (fun _ _ _ => Iff.rfl)⟩
                  rintro (a | ⟨a, a' | ⟨a', a2⟩⟩)
                  · exact ha a
                  · omega
                  · exact y2.mp hx a2
                · rw [if_neg hx]
                  have : lexlt r b m := Classical.byContradiction (fun h9 => hx (y2.mpr h9))
                  exact ⟨v', m, r, _, _, g1, hJ', g4, isMax_yes hHp hM hc (Or.inr (Or.inr ⟨he.symm, Or.inr ⟨hq, this⟩⟩)) (fun _ _ _ => Iff.rfl)⟩
              · rw [if_neg (fun h9 => hq (nI_inj (by omega) (by omega) h9)), no]
                refine ⟨v, bm, b, gv, lv, rfl, hJ, hS, isMax_no hM h0 hc ?_ (fun _ _ _ => Iff.rfl)⟩
                rintro (a | ⟨a, a' | ⟨a', a2⟩⟩)
                · exact ha a
                · omega
                · omega
          · rw [if_neg (fun h9 => he (ceq.mp h9)), no]
            refine ⟨v, bm, b, gv, lv, rfl, hJ, hS, isMax_no hM h0 hc ?_ (fun _ _ _ => Iff.rfl)⟩
            rintro (a | ⟨a, -⟩)
            · exact ha a
            · exact he a.symm
end
