theorem sm_upd {f f' : Nat → Int32} {k : Nat} : ∀ n, k < n → (∀ j, j ≠ k → f' j = f j) → sm f' n = sm f n + (f' k - f k)
  | 0, h, _ => by omega
  | n + 1, h, hf => by
    rw [sm, sm]
    by_cases e : k = n
    · subst e
      rw [sm_congr (f := f') (g := f) k (fun j hj => hf j (by omega))]
      grind
    · rw [sm_upd n (by omega) hf, hf n (by omega)]
      grind
theorem sm_add {f g : Nat → Int32} : ∀ n, sm (fun k => f k + g k) n = sm f n + sm g n
  | 0 => by rw [sm, sm, sm]; decide
  | n + 1 => by
    rw [sm, sm, sm, sm_add n]
    grind
theorem sm_0 : ∀ n, sm (fun _ => (0 : Int32)) n = 0
  | 0 => rfl
  | n + 1 => by rw [sm, sm_0 n]; decide
/-- the events of a tick, on all shelves -/
def evJ (v0 v : VV) (s : Nat → Nat) (P T E e q : Nat) : Prop := (∀ c, c ≠ 0 → c ≠ 1 → c ≠ 12 → c ≠ 13 → c ≠ 14 → v c = v0 c) ∧ (∀ j, j ≠ 16 → v 0 j = v0 0 j) ∧ evs (v 12) (v 13) (v 14) q = (evs (v0 12) (v0 13) (v0 14) e).filter (fun x => ¬ x.1 = nI T) ∧ (∀ i, e ≤ i → v 12 i = v0 12 i ∧ v 13 i = v0 13 i ∧ v 14 i = v0 14 i) ∧ (∀ k, k < 18 → v 1 k = nI (evS (Bk (v0 12) (v0 13) (v0 14) k T e) (s k))) ∧ v 0 16 = v0 0 16 + sm (fun k => nI (evS (Bk (v0 12) (v0 13) (v0 14) k T e) (s k)) - nI (s k)) (3 * P)
theorem evLM {P T E : Nat} {v0 : VV} {s : Nat → Nat} {K : Nat → Int32 → VV → Option VV} (hP : P ≤ 6) (hT : v0 0 1 = nI T) (hE : v0 0 22 = nI E) (E20 : E ≤ 20) (hs : ∀ k, k < 18 → s k ≤ 1000) (hev : ∀ e, e < E → (∃ k, k < 3 * P ∧ v0 13 e = nI k) ∧ -1000 ≤ v0 14 e ∧ v0 14 e ≤ 1000) : ∀ (n e q : Nat) (v : VV), q ≤ e → e ≤ E → E - e < n → evJ v0 v s P T E e q → ∃ (q' : Nat) (v' : VV), f_X11_tickOnce_l4 K n 0 (nI q) (nI e) v = K 0 (nI q') v' ∧ q' ≤ E ∧ evJ v0 v' s P T E E q'
  | 0, e, q, v, _, _, h, _ => by omega
  | n + 1, e, q, v, hq, he, hn, hJ => by
    obtain ⟨j1, j2, j3, j4, j5, j6⟩ := id hJ
    rw [f_X11_tickOnce_l4, j2 22 (by omega), j2 1 (by omega), hE, hT]
    by_cases h : e = E
    · subst h
      rw [if_pos (nI_le (Nat.le_refl _) (by omega))]
      exact ⟨q, v, rfl, hq, hJ⟩
    · have te : (nI e).toNatClampNeg = e := tn (by omega)
      have ie : inB (nI e) 20 = true := inB_n (by omega) (by omega)
      have tq : (nI q).toNatClampNeg = q := tn (by omega)
      have iq : inB (nI q) 20 = true := inB_n (by omega) (by omega)
      obtain ⟨⟨k, hk, hk2⟩, hb1, hb2⟩ := hev e (by omega)
      obtain ⟨x1, x2, x3⟩ := j4 e (Nat.le_refl _)
      have tk : (nI k).toNatClampNeg = k := tn (by omega)
      have ik : inB (nI k) 18 = true := inB_n (by omega) (by omega)
      rw [if_neg (nI_ge (by omega) (by omega))]
      simp only [rfM19, rfM20, rfM21, rfM3, lnMe (show 12 ≤ 12 by omega) (by omega), lnMe (show 12 ≤ 13 by omega) (by omega), lnMe (show 12 ≤ 14 by omega) (by omega), lnMs (show 1 ≤ 1 by omega) (by omega), gd_t ie, gd_t iq, te, tq, nv, x1, x2, x3, hk2, tk, gd_t ik]
      by_cases h1 : v0 12 e = nI T
      · rw [if_pos h1, j5 k (by omega), hld_M (evS_le _ _ (hs k (by omega))) hb1 hb2, bi_s, j5 k (by omega), nI_1]
        have hB : ∀ k', k' < 18 → Bk (v0 12) (v0 13) (v0 14) k' T (e + 1) = if k' = k then Bk (v0 12) (v0 13) (v0 14) k' T e ++ [v0 14 e] else Bk (v0 12) (v0 13) (v0 14) k' T e := by
          intro k' hk'
          rw [Bk]
          by_cases h9 : k' = k
          · rw [if_pos h9, if_pos ⟨h1, by rw [hk2, h9]⟩]
          · rw [if_neg h9, if_neg (fun h8 => by rw [hk2] at h8; have := nI_inj (by omega) (by omega) h8.2; omega)]
        refine evLM hP hT hE E20 hs hev n (e + 1) q _ (by omega) (by omega) (by omega) ⟨fun c c0 c1 c2 c3 c4 => ?_, fun j hj => ?_, ?_, fun i hi => ?_, fun k' hk' => ?_, ?_⟩
        · rw [wu_n c1, wu_n c0]
          exact j1 c c0 c1 c2 c3 c4
        · rw [wu_n (by omega), wu_j hj]
          exact j2 j hj
        · rw [wu_n (by omega), wu_n (by omega), wu_n (by omega), wu_n (by omega), wu_n (by omega), wu_n (by omega), j3, evs_succ, List.filter_append]
          simp [h1]
        · rw [wu_n (by omega), wu_n (by omega), wu_n (by omega), wu_n (by omega), wu_n (by omega), wu_n (by omega)]
          exact j4 i (by omega)
        · rw [wu_c, hB k' hk']
          by_cases h9 : k' = k
          · rw [if_pos h9, if_pos h9, evS_snoc, h9]
          · rw [if_neg h9, if_neg h9, wu_n (by omega)]
            exact j5 k' hk'
        · rw [wu_n (by omega), wu_s, j6]
          have hsm : sm (fun k' => nI (evS (Bk (v0 12) (v0 13) (v0 14) k' T (e + 1)) (s k')) - nI (s k')) (3 * P) = sm (fun k' => nI (evS (if k' = k then Bk (v0 12) (v0 13) (v0 14) k' T e ++ [v0 14 e] else Bk (v0 12) (v0 13) (v0 14) k' T e) (s k')) - nI (s k')) (3 * P) := sm_congr _ (fun j hj => by rw [hB j (by omega)])
          have := sm_upd (f := fun k' => nI (evS (Bk (v0 12) (v0 13) (v0 14) k' T e) (s k')) - nI (s k')) (f' := fun k' => nI (evS (if k' = k then Bk (v0 12) (v0 13) (v0 14) k' T e ++ [v0 14 e] else Bk (v0 12) (v0 13) (v0 14) k' T e) (s k')) - nI (s k')) (k := k) (3 * P) hk (fun j hj => by rw [if_neg hj])
          rw [hsm, this]
          rw [if_pos rfl, evS_snoc]
          grind
      · rw [if_neg h1, nI_1, nI_1]
        simp only [wu_n (show 13 ≠ 12 by omega), wu_n (show 14 ≠ 12 by omega), wu_n (show 14 ≠ 13 by omega), x1, x2, x3, hk2]
        have hB : ∀ k', Bk (v0 12) (v0 13) (v0 14) k' T (e + 1) = Bk (v0 12) (v0 13) (v0 14) k' T e := by
          intro k'
          rw [Bk, if_neg (fun h8 => h1 h8.1)]
        have f12 : ∀ i, wu (wu (wu v 12 q (v0 12 e)) 13 q (nI k)) 14 q (v0 14 e) 12 i = if i = q then v0 12 e else v 12 i := fun i => by rw [wu_n (by omega), wu_n (by omega), wu_c]
        have f13 : ∀ i, wu (wu (wu v 12 q (v0 12 e)) 13 q (nI k)) 14 q (v0 14 e) 13 i = if i = q then nI k else v 13 i := fun i => by rw [wu_n (by omega), wu_c, wu_n (by omega)]
        have f14 : ∀ i, wu (wu (wu v 12 q (v0 12 e)) 13 q (nI k)) 14 q (v0 14 e) 14 i = if i = q then v0 14 e else v 14 i := fun i => by rw [wu_c, wu_n (by omega), wu_n (by omega)]
        refine evLM hP hT hE E20 hs hev n (e + 1) (q + 1) _ (by omega) (by omega) (by omega) ⟨fun c c0 c1 c2 c3 c4 => ?_, fun j hj => ?_, ?_, fun i hi => ?_, fun k' hk' => ?_, ?_⟩
        · rw [wu_n c4, wu_n c3, wu_n c2]
          exact j1 c c0 c1 c2 c3 c4
        · rw [wu_n (by omega), wu_n (by omega), wu_n (by omega)]
          exact j2 j hj
        · have hcg : evs (wu (wu (wu v 12 q (v0 12 e)) 13 q (nI k)) 14 q (v0 14 e) 12) (wu (wu (wu v 12 q (v0 12 e)) 13 q (nI k)) 14 q (v0 14 e) 13) (wu (wu (wu v 12 q (v0 12 e)) 13 q (nI k)) 14 q (v0 14 e) 14) q = evs (v 12) (v 13) (v 14) q := evs_congr q (fun i hi => by rw [f12, f13, f14, if_neg (by omega), if_neg (by omega), if_neg (by omega)]; exact ⟨rfl, rfl, rfl⟩)
          rw [evs_succ, hcg, j3, evs_succ, List.filter_append, f12, f13, f14, if_pos rfl, if_pos rfl, if_pos rfl, hk2]
          simp [h1]
        · rw [f12, f13, f14, if_neg (by omega), if_neg (by omega), if_neg (by omega)]
          exact j4 i (by omega)
        · rw [wu_n (by omega), wu_n (by omega), wu_n (by omega), hB]
          exact j5 k' hk'
        · rw [wu_n (by omega), wu_n (by omega), wu_n (by omega), j6]
          simp only [hB]
/-- make and use, on all shelves -/
def muJ (v0 v : VV) (s mk us : Nat → Nat) (i : Nat) : Prop := (∀ c, c ≠ 0 → c ≠ 1 → c ≠ 6 → v c = v0 c) ∧ (∀ j, j ≠ 14 → j ≠ 15 → v 0 j = v0 0 j) ∧ (∀ k, k < 18 → v 1 k = if k < i then nI (muS (mk k) (us k) (s k)) else nI (s k)) ∧ (∀ k, k < 18 → v 6 k = if k < i then v0 6 k + nI (muL (mk k) (us k) (s k)) else v0 6 k) ∧ v 0 14 = v0 0 14 + sm (fun k => nI (muM (mk k) (s k))) i ∧ v 0 15 = v0 0 15 + sm (fun k => nI (muU (mk k) (us k) (s k))) i
theorem muLM {P : Nat} {v0 : VV} {s mk us : Nat → Nat} {K : Nat → VV → Option VV} (hP6 : P ≤ 6) (hP : v0 0 0 = nI P) (hs : ∀ k, k < 18 → s k ≤ 1000) (hm : ∀ k, k < 18 → v0 2 k = nI (mk k) ∧ mk k ≤ 50) (hu : ∀ k, k < 18 → v0 3 k = nI (us k) ∧ us k ≤ 50) : ∀ (n i : Nat) (v : VV), i ≤ 3 * P → 3 * P - i < n → muJ v0 v s mk us i → ∃ v', f_X11_tickOnce_l131 K n 0 (nI i) v = K 0 v' ∧ muJ v0 v' s mk us (3 * P)
  | 0, i, v, _, h, _ => by omega
  | n + 1, i, v, hi, hn, hJ => by
    obtain ⟨j1, j2, j3, j4, j5, j6⟩ := id hJ
    have e3 : (3 : Int32) * nI P = nI (3 * P) := pk_mul 3 P
    rw [f_X11_tickOnce_l131, j2 0 (by omega) (by omega), hP, e3]
    by_cases h : i = 3 * P
    · subst h
      rw [if_pos (nI_le (Nat.le_refl _) (by omega))]
      exact ⟨v, rfl, hJ⟩
    · have ti : (nI i).toNatClampNeg = i := tn (by omega)
      have ii : inB (nI i) 18 = true := inB_n (by omega) (by omega)
      have hi18 : i < 18 := by omega
      have e1 : v 1 i = nI (s i) := by rw [j3 i hi18, if_neg (by omega)]
      have e2 : v 2 i = nI (mk i) := by rw [j1 2 (by omega) (by omega) (by omega), (hm i hi18).1]
      have e3' : v 3 i = nI (us i) := by rw [j1 3 (by omega) (by omega) (by omega), (hu i hi18).1]
      have e6 : v 6 i = v0 6 i := by rw [j4 i hi18, if_neg (by omega)]
      have hsi := hs i hi18
      have hmi := (hm i hi18).2
      have hui := (hu i hi18).2
      rw [if_neg (nI_ge (by omega) (by omega))]
      simp only [rfM3, rfM4, rfM5, rfM8, lnMs (show 1 ≤ 1 by omega) (by omega), lnMs (show 1 ≤ 2 by omega) (by omega), lnMs (show 1 ≤ 3 by omega) (by omega), lnMs (show 1 ≤ 6 by omega) (by omega), gd_t ii, ti, nv, e1, e2]
      rw [hldN_M hsi (by omega), bi_s, e1, wu_n (show 3 ≠ 0 by omega), e3']
      have hb : ∀ (L : Nat) (K' : Nat → Int32 → VV → Option VV), L = muU (mk i) (us i) (s i) → ∃ v', f_X11_tickOnce_b195 K' 0 (nI i) (nI (min 1000 (s i + mk i))) (nI L) (wu v 0 14 (v 0 14 + (nI (min 1000 (s i + mk i)) - nI (s i)))) = K' 0 (nI (i + 1)) v' ∧ muJ v0 v' s mk us (i + 1) := by
        intro L K' hL
        subst hL
        unfold f_X11_tickOnce_b195
        have hU : muU (mk i) (us i) (s i) ≤ us i := by unfold muU; omega
        have hU2 : muU (mk i) (us i) (s i) ≤ min 1000 (s i + mk i) := by unfold muU; omega
        simp only [rfM3, rfM4, rfM5, rfM8, lnMs (show 1 ≤ 1 by omega) (by omega), lnMs (show 1 ≤ 3 by omega) (by omega), lnMs (show 1 ≤ 6 by omega) (by omega), gd_t ii, ti, nv, nI_1, wu_n (show 6 ≠ 0 by omega), wu_n (show 3 ≠ 0 by omega), e6, e3', wu_j (show 15 ≠ 14 by omega)]
        rw [pk_sub hU, pk_sub hU2, show us i - muU (mk i) (us i) (s i) = muL (mk i) (us i) (s i) from rfl, show min 1000 (s i + mk i) - muU (mk i) (us i) (s i) = muS (mk i) (us i) (s i) from rfl, pk_sub (show s i ≤ min 1000 (s i + mk i) by omega), show min 1000 (s i + mk i) - s i = muM (mk i) (s i) from rfl]
        refine ⟨_, rfl, fun c c0 c1 c6 => by rw [wu_n c1, wu_n c6, wu_n c0, wu_n c0, j1 c c0 c1 c6], fun j h4 h5 => by rw [wu_n (by omega), wu_n (by omega), wu_j h5, wu_j h4, j2 j h4 h5], fun k hk => ?_, fun k hk => ?_, ?_, ?_⟩
        · rw [wu_c, wu_n (by omega), wu_n (by omega), wu_n (by omega), j3 k hk]
          by_cases h9 : k = i
          · rw [if_pos h9, if_pos (by omega), h9]
          · rw [if_neg h9]
            by_cases h8 : k < i
            · rw [if_pos h8, if_pos (by omega)]
            · rw [if_neg h8, if_neg (by omega)]
        · rw [wu_n (by omega), wu_c, wu_n (by omega), wu_n (by omega), j4 k hk]
          by_cases h9 : k = i
          · rw [if_pos h9, if_pos (by omega), h9]
          · rw [if_neg h9]
            by_cases h8 : k < i
            · rw [if_pos h8, if_pos (by omega)]
            · rw [if_neg h8, if_neg (by omega)]
        · rw [wu_n (by omega), wu_n (by omega), wu_j (by omega), wu_s, j5, sm, i_assoc]
        · rw [wu_n (by omega), wu_n (by omega), wu_s, j6, sm, i_assoc]
      by_cases h2 : us i ≤ min 1000 (s i + mk i)
      · rw [if_pos (nI_le h2 (by omega))]
        obtain ⟨v', g1, g2⟩ := hb (us i) (fun c0 i2 v => f_X11_tickOnce_l131 K n c0 i2 v) (by unfold muU; omega)
        rw [g1]
        exact muLM hP6 hP hs hm hu n (i + 1) v' (by omega) (by omega) g2
      · rw [if_neg (nI_ge (by omega) (by omega))]
        obtain ⟨v', g1, g2⟩ := hb (min 1000 (s i + mk i)) (fun c0 i2 v => f_X11_tickOnce_l131 K n c0 i2 v) (by unfold muU; omega)
        rw [g1]
        exact muLM hP6 hP hs hm hu n (i + 1) v' (by omega) (by omega) g2
