theorem srL_none {α : Type} {tp : α → Nat → Option α} {W : Nat} {D : α → Nat → Option (Nat × Nat) → Option (Nat × Nat)} {σ : α} {a : Nat} {B : Option (Nat × Nat)} {x0 : Nat} : ∀ m, (∀ x, x0 ≤ x → x < x0 + m → tp σ x = none) → srL tp W D σ a B (x0 + m) = srL tp W D σ a B x0
  | 0, _ => rfl
  | m + 1, h => by
    rw [show x0 + (m + 1) = (x0 + m) + 1 from rfl, srL, h (x0 + m) (by omega) (by omega)]
    exact srL_none m (fun x h1 h2 => h x h1 (by omega))
theorem srL_s {α : Type} {tp : α → Nat → Option α} {W : Nat} {D : α → Nat → Option (Nat × Nat) → Option (Nat × Nat)} {σ : α} {a : Nat} {B : Option (Nat × Nat)} {x : Nat} : srL tp W D σ a B (x + 1) = match tp σ x with
    | none => srL tp W D σ a B x
    | some σ' => D σ' (a * W + x) (srL tp W D σ a B x) := by
  rw [srL]
  cases tp σ x <;> rfl
section
variable {P T F S E : Nat} {vC vM : VV}
theorem goodL {h kk n' j d q a : Nat} {B : Option (Nat × Nat)} {σ : SG} {K : Nat → Int32 → Nat → Int32 → VV → Option VV} (i1 : iSc P T F S vC vM) (i2 : iSh P vC vM) (i3 : iPo vC vM) (i6 : iEv P T E vC vM) (hp : pfz P F E vM) (hh : h ≤ 20) (hj : j < kk) (hkk : kk ≤ 3) (IH : exP P F E h kk n' (j + 1) d vC vM) (hw : wfS P σ) (hq : q < P) (hl0 : oo vM σ.2.2.2 q ≠ 0) (hl9 : σ.1 + oo vM σ.2.2.2 q ≤ 999) : ∀ (n g : Nat) (v : VV), g ≤ 4 → 4 - g < n → rC P E h kk j vC vM v σ → bE h j vM v σ 0 → pth (4 * P) j a v → bC kk (4 * P) vC v (srL (tpp vM F E h) (4 * P) (srD (tpp vM F E h) cnS (4 * P) d) σ a B (4 * q + g)) → ∃ v', f_X3_extend_l80 (F_X3_travel (fx_X3_extend n')) K n 15 (nI j) (75 + j) (nI q) (nI (oo vM σ.2.2.2 q)) (nI g) v = K 15 (nI j) (75 + j) (nI q) v' ∧ fr j (j + 1) v v' ∧ bC kk (4 * P) vC v' (srL (tpp vM F E h) (4 * P) (srD (tpp vM F E h) cnS (4 * P) d) σ a B (4 * q + 4))
  | 0, g, v, _, hn, _, _, _, _ => by omega
  | n + 1, g, v, hg, hn, hR, hE, hpt, hB => by
    have hP6 := i1.1.2.2
    rw [f_X3_extend_l80]
    by_cases e : g = 4
    · subst e
      rw [if_pos (by decide)]
      exact ⟨v, rfl, fr.rf _ _ _, hB⟩
    · have tg : (nI g).toNatClampNeg = g := tn (by omega)
      have ig : inB (nI g) 4 = true := inB_n (by omega) (by omega)
      obtain ⟨hJ, hlz, r0, r1, r2, r8, r9, rz⟩ := id hR
      obtain ⟨E1, E2, fe, f1, f2, f3, f4, f5⟩ := id hE
      have hb3 : bu vM h σ 3 = (0, 0, σ.2.2.1, 0, 0) := by unfold bu; rw [if_pos rfl]
      have bl1 : (bu vM h σ g).1 ≤ 20 := by
        by_cases e : g = 3
        · rw [e, hb3]; exact Nat.zero_le _
        · have := (bu_b (h := h) (v := vM) hw (show g < 3 by omega)).1
          omega
      have c79 : v (79 + j) g = nI (bu vM h σ g).1 := by
        by_cases e : g = 3
        · rw [e, rz j (by omega), hb3]; rfl
        · exact (E1 g (by omega) (by omega)).1
      rw [if_neg (show ¬ (3 : Int32) < nI g from nI_nlt (a := 3) (by omega) (by omega)), rfCt4 (by omega), lnCt (show 79 ≤ 79 + j by omega), gd_t ig, tg, c79]
      have tpe : tpp vM F E h σ (4 * q + g) = tpg vM F E h σ q g := by
        unfold tpp
        rw [show (4 * q + g) / 4 = q by omega, show (4 * q + g) % 4 = g by omega]
      have go : ∃ v', f_X3_extend_b105 (F_X3_travel (fx_X3_extend n')) (fun c0 i1 c2 i3 i4 i5 v => f_X3_extend_l80 (F_X3_travel (fx_X3_extend n')) K n c0 i1 c2 i3 i4 i5 v) 15 (nI j) (75 + j) (nI q) (nI (oo vM σ.2.2.2 q)) (nI g) v = K 15 (nI j) (75 + j) (nI q) v' ∧ fr j (j + 1) v v' ∧ bC kk (4 * P) vC v' (srL (tpp vM F E h) (4 * P) (srD (tpp vM F E h) cnS (4 * P) d) σ a B (4 * q + 4)) := by
        unfold f_X3_extend_b105
        obtain ⟨v1, g1, g2, g3⟩ := travE (g := g) i1 i2 i3 i6 hp hh hj hkk IH hw hR hE hpt hB hq (by omega) hl0 hl9
        rw [g1, Option.bind_some, nv_q, nI_1]
        obtain ⟨v2, k1, k2, k3⟩ := goodL (a := a) (B := B) (K := K) i1 i2 i3 i6 hp hh hj hkk IH hw hq hl0 hl9 n (g + 1) v1 (by omega) (by omega) (rC_fr hR g2 (by omega)) (bE_fr hE g2 (by omega)) (pth_fr hpt g2 (Nat.le_refl _)) (by
          rw [show 4 * q + (g + 1) = (4 * q + g) + 1 from rfl, srL_s, tpe]
          revert g3
          cases tpg vM F E h σ q g <;> exact fun h9 => h9)
        exact ⟨v2, k1, g2.tr k2, k3⟩
      by_cases hu : (bu vM h σ g).1 = 0
      · rw [if_neg (show ¬ (0 : Int32) < nI (bu vM h σ g).1 by rw [hu]; decide), f3]
        by_cases hfe : g = fe
        · rw [if_pos (by rw [hfe])]
          exact go
        · rw [if_neg (fun h9 => hfe (nI_inj (by omega) (by omega) h9)), nv_q, nI_1]
          have hlt : fe < g := by
            have := f5 g (by omega)
            omega
          refine goodL (a := a) (B := B) (K := K) i1 i2 i3 i6 hp hh hj hkk IH hw hq hl0 hl9 n (g + 1) v (by omega) (by omega) hR hE hpt ?_
          rw [show 4 * q + (g + 1) = (4 * q + g) + 1 from rfl, srL_skip (tpp vM F E h) cnS (4 * P) d σ a B (4 * q + g) (4 * q + fe) (by omega) (by
            rw [tpe]
            unfold tpp
            rw [show (4 * q + fe) / 4 = q by omega, show (4 * q + fe) % 4 = fe by omega]
            exact tpg_0 hu f4)]
          exact hB
      · rw [if_pos (show (0 : Int32) < nI (bu vM h σ g).1 from nI_lt (a := 0) (by omega) (by omega))]
        exact go
theorem portL {h kk n' j d a : Nat} {B : Option (Nat × Nat)} {σ : SG} (i1 : iSc P T F S vC vM) (i2 : iSh P vC vM) (i3 : iPo vC vM) (i4 : iWy vC vM) (i6 : iEv P T E vC vM) (hp : pfz P F E vM) (hh : h ≤ 20) (hj : j < kk) (hkk : kk ≤ 3) (IH : exP P F E h kk n' (j + 1) d vC vM) (hw : wfS P σ) : ∀ (n q : Nat) (v : VV), q ≤ P → P - q < n → rC P E h kk j vC vM v σ → bE h j vM v σ 0 → pth (4 * P) j a v → bC kk (4 * P) vC v (srL (tpp vM F E h) (4 * P) (srD (tpp vM F E h) cnS (4 * P) d) σ a B (4 * q)) → ∃ v', f_X3_extend_l31 (F_X3_travel (fx_X3_extend n')) n 15 (nI j) (75 + j) (nI q) v = some v' ∧ fr j (j + 1) v v' ∧ bC kk (4 * P) vC v' (srL (tpp vM F E h) (4 * P) (srD (tpp vM F E h) cnS (4 * P) d) σ a B (4 * P))
  | 0, q, v, _, hn, _, _, _, _ => by omega
  | n + 1, q, v, hq, hn, hR, hE, hpt, hB => by
    have hP6 := i1.1.2.2
    obtain ⟨hJ, hlz, r0, r1, r2, r8, r9, rz⟩ := id hR
    obtain ⟨w1, w2, w3, w4⟩ := id hw
    rw [f_X3_extend_l31, rfCf0, hJ.1 1 (by omega), i1.1.1]
    by_cases e : q = P
    · subst e
      rw [if_pos (nI_le (Nat.le_refl _) (by omega))]
      exact ⟨v, rfl, fr.rf _ _ _, hB⟩
    · have hlb := oo_b hp.1 (show σ.2.2.2 < 6 by omega) (show q < 6 by omega)
      rw [if_neg (nI_ge (by omega) (by omega)), r0, openO i3 i4 (by omega) (by omega) (fun k hk => hJ.2 _ (by omega) (by omega)) (fun k hk => hJ.2 _ (by omega) (by omega)), bi_s]
      have skip : (∀ g, g < 4 → tpg vM F E h σ q g = none) → ∃ v', f_X3_extend_l31 (F_X3_travel (fx_X3_extend n')) n 15 (nI j) (75 + j) (nI (q + 1)) v = some v' ∧ fr j (j + 1) v v' ∧ bC kk (4 * P) vC v' (srL (tpp vM F E h) (4 * P) (srD (tpp vM F E h) cnS (4 * P) d) σ a B (4 * P)) := fun hn0 => by
        refine portL (a := a) (B := B) i1 i2 i3 i4 i6 hp hh hj hkk IH hw n (q + 1) v (by omega) (by omega) hR hE hpt ?_
        rw [show 4 * (q + 1) = 4 * q + 4 by omega, srL_none 4 (fun x h1 h2 => by
          unfold tpp
          rw [show x / 4 = q by omega]
          exact hn0 _ (by omega))]
        exact hB
      by_cases hl0 : oo vM σ.2.2.2 q = 0
      · rw [if_pos (by rw [hl0]; rfl), nv_q, nI_1]
        exact skip (fun g _ => by unfold tpg; rw [if_pos hl0])
      · rw [if_neg (nI_ne0 (by omega) (by omega)), r1, nI_add]
        by_cases hl9 : σ.1 + oo vM σ.2.2.2 q ≤ 999
        · rw [if_pos (show nI (σ.1 + oo vM σ.2.2.2 q) ≤ 999 from nI_le (b := 999) hl9 (by omega))]
          obtain ⟨v1, g1, g2, g3⟩ := goodL (a := a) (B := B) (K := fun c0_18 i1_18 c2_18 i3_18 v_18 =>
          nv (i3_18 + 1) fun x19 =>
          f_X3_extend_l31 (F_X3_travel (fx_X3_extend n')) n c0_18 i1_18 c2_18 x19 v_18) i1 i2 i3 i6 hp hh hj hkk IH hw (show q < P by omega) hl0 hl9 FU 0 v (by omega) (by unfold FU; omega) hR hE hpt hB
          rw [nI_0] at g1
          rw [g1, nv_q, nI_1]
          obtain ⟨v2, k1, k2, k3⟩ := portL (a := a) (B := B) i1 i2 i3 i4 i6 hp hh hj hkk IH hw n (q + 1) v1 (by omega) (by omega) (rC_fr hR g2 (by omega)) (bE_fr hE g2 (by omega)) (pth_fr hpt g2 (Nat.le_refl _)) g3
          exact ⟨v2, k1, g2.tr k2, k3⟩
        · rw [if_neg (show ¬ nI (σ.1 + oo vM σ.2.2.2 q) ≤ 999 from nI_ge (a := 999) (by omega) (by omega)), nv_q, nI_1]
          exact skip (fun g _ => by unfold tpg; rw [if_neg hl0, if_pos (by omega)])
theorem exE {h kk : Nat} (i1 : iSc P T F S vC vM) (i2 : iSh P vC vM) (i3 : iPo vC vM) (i4 : iWy vC vM) (i6 : iEv P T E vC vM) (hp : pfz P F E vM) (hh : h ≤ 20) (hkk : kk ≤ 3) : ∀ (n j d : Nat), j + d = kk → d < n → exP P F E h kk n j d vC vM
  | 0, j, d, _, h => by omega
  | n + 1, j, d, hjd, hdn => by
    intro σ a B v hw hR hpt hB
    have hP6 := i1.1.2.2
    obtain ⟨hJ, hlz, r0, r1, r2, r8, r9, rz⟩ := id hR
    obtain ⟨w1, w2, w3, w4⟩ := id hw
    rw [fx_X3_extend]
    unfold F_X3_extend f_X3_extend
    rw [rfCf3, lnC18, gd_t (inB_n (by omega) (by omega)), r8, tn (by omega), rfC18]
    cases d with
    | zero =>
      have : j = kk := by omega
      subst this
      rw [if_neg (nI_nlt (Nat.le_refl _) (by omega)), r2]
      obtain ⟨v1, g1, g2, g3⟩ := cmpP hkk w3 r8 hpt hB
      rw [g1, Option.bind_some]
      exact ⟨v1, rfl, g2 _ _, g3⟩
    | succ d =>
      rw [if_pos (nI_lt (by omega) (by omega))]
      obtain ⟨v1, g1, g2, g3, g4⟩ := buyE i1 i2 i3 i6 hp hh (show j < 4 by omega) hw hR
      rw [g1, Option.bind_some]
      have f0 : fr j j v v1 := ⟨fun c hc => g2 c (by omega) (by omega) (by omega) (by omega) (by omega) (by omega), fun c h1 h2 => g2 c (by omega) (by omega) (by omega) (by omega) (by omega) (by omega), by rw [g2 15 (by omega) (by omega) (by omega) (by omega) (by omega) (by omega)], by rw [g2 15 (by omega) (by omega) (by omega) (by omega) (by omega) (by omega)], g2 19 (by omega) (by omega) (by omega) (by omega) (by omega) (by omega), g2 20 (by omega) (by omega) (by omega) (by omega) (by omega) (by omega), fun x _ => ⟨by rw [g2 21 (by omega) (by omega) (by omega) (by omega) (by omega) (by omega)], by rw [g2 22 (by omega) (by omega) (by omega) (by omega) (by omega) (by omega)]⟩, fun d hd => ⟨g2 _ (by omega) (by omega) (by omega) (by omega) (by omega) (by omega), g2 _ (by omega) (by omega) (by omega) (by omega) (by omega) (by omega), g2 _ (by omega) (by omega) (by omega) (by omega) (by omega) (by omega), g2 _ (by omega) (by omega) (by omega) (by omega) (by omega) (by omega)⟩, fun d hd => by rw [g3.2.2.2.2.2.2.2 d hd, rz d hd]⟩
      obtain ⟨v2, k1, k2, k3⟩ := portL (n' := n) (d := d) (a := a) (B := B) i1 i2 i3 i4 i6 hp hh (show j < kk by omega) hkk (exE i1 i2 i3 i4 i6 hp hh hkk n (j + 1) d (by omega) (by omega)) hw FU 0 v1 (by omega) (by unfold FU; omega) g3 g4 (pth_fr hpt f0 (Nat.le_refl _)) (bC_c hB (fun i _ => by rw [g2 15 (by omega) (by omega) (by omega) (by omega) (by omega) (by omega)]) (g2 23 (by omega) (by omega) (by omega) (by omega) (by omega) (by omega)) (g2 24 (by omega) (by omega) (by omega) (by omega) (by omega) (by omega)))
      rw [nI_0] at k1
      exact ⟨v2, k1, f0.tr (k2.le (by omega) (by omega)), k3⟩
end
