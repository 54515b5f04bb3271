theorem nv_r {α β : Type} (e : α) (k : α → Option β) : nv e k = k e := rfl
theorem Bk_none {f5 f6 f7 : Nat → Int32} {k t : Nat} : ∀ e, (∀ i, i < e → f6 i ≠ nI k) → Bk f5 f6 f7 k t e = []
  | 0, _ => rfl
  | e + 1, h => by
    rw [Bk, if_neg (fun h9 => h e (by omega) h9.2)]
    exact Bk_none e (fun i hi => h i (by omega))
theorem tick1 {P T E : Nat} {v : VV} {s mk us : Nat → Nat} (hP6 : P ≤ 6) (hP : v 0 0 = nI P) (hT : v 0 1 = nI T) (hE : v 0 22 = nI E) (E20 : E ≤ 20) (hs : ∀ k, k < 18 → s k ≤ 1000) (h1 : ∀ k, k < 18 → v 1 k = nI (s k)) (hm : ∀ k, k < 18 → v 2 k = nI (mk k) ∧ mk k ≤ 50) (hu : ∀ k, k < 18 → v 3 k = nI (us k) ∧ us k ≤ 50) (hev : ∀ e, e < E → (∃ k, k < 3 * P ∧ v 13 e = nI k) ∧ -1000 ≤ v 14 e ∧ v 14 e ≤ 1000) : ∃ (E' : Nat) (v' : VV), F_X11_tickOnce 0 v = some v' ∧ E' ≤ E ∧ (∀ c, c ≠ 0 → c ≠ 1 → c ≠ 6 → c ≠ 12 → c ≠ 13 → c ≠ 14 → v' c = v c) ∧ (∀ j, j ≠ 1 → j ≠ 14 → j ≠ 15 → j ≠ 16 → j ≠ 22 → v' 0 j = v 0 j) ∧ v' 0 1 = nI (T + 1) ∧ v' 0 22 = nI E' ∧ evs (v' 12) (v' 13) (v' 14) E' = (evs (v 12) (v 13) (v 14) E).filter (fun x => ¬ x.1 = nI T) ∧ (∀ k, k < 18 → v' 1 k = nI (if k < 3 * P then muS (mk k) (us k) (evS (Bk (v 12) (v 13) (v 14) k T E) (s k)) else s k)) ∧ (∀ k, k < 18 → v' 6 k = if k < 3 * P then v 6 k + nI (muL (mk k) (us k) (evS (Bk (v 12) (v 13) (v 14) k T E) (s k))) else v 6 k) ∧ v' 0 14 = v 0 14 + sm (fun k => nI (muM (mk k) (evS (Bk (v 12) (v 13) (v 14) k T E) (s k)))) (3 * P) ∧ v' 0 15 = v 0 15 + sm (fun k => nI (muU (mk k) (us k) (evS (Bk (v 12) (v 13) (v 14) k T E) (s k)))) (3 * P) ∧ v' 0 16 = v 0 16 + sm (fun k => nI (evS (Bk (v 12) (v 13) (v 14) k T E) (s k)) - nI (s k)) (3 * P) := by
  obtain ⟨q, v1, g1, g2, ⟨j1, j2, j3, j4, j5, j6⟩⟩ := evLM (P := P) (T := T) (E := E) (v0 := v) (s := s) (K := fun c0_37 i1_37 v_37 =>
    nv (wu v_37 c0_37 22 i1_37) fun v38 =>
    f_X11_tickOnce_l131 (fun c0_64 v_64 =>
    nv (wu v_64 c0_64 1 ((v_64 c0_64 1) + 1)) fun v65 =>
    some v65) FU c0_37 0 v38) hP6 hT hE E20 hs hev FU 0 0 v (by omega) (by omega) (by unfold FU; omega) ⟨fun _ _ _ _ _ _ => rfl, fun _ _ => rfl, rfl, fun _ _ => ⟨rfl, rfl, rfl⟩, fun k hk => by rw [Bk, evS_nil, h1 k hk], by
      have : sm (fun k => nI (evS (Bk (v 12) (v 13) (v 14) k T 0) (s k)) - nI (s k)) (3 * P) = 0 := by
        rw [← sm_0 (3 * P)]
        apply sm_congr
        intro j hj
        rw [Bk, evS_nil]
        grind
      rw [this, Int32.add_zero]⟩
  rw [nI_0] at g1
  have hw : ∀ c, c ≠ 0 → wu v1 0 22 (nI q) c = v1 c := fun c hc => by rw [wu_n hc]
  obtain ⟨v2, p1, ⟨m1, m2, m3, m4, m5, m6⟩⟩ := muLM (P := P) (v0 := wu v1 0 22 (nI q)) (s := fun k => evS (Bk (v 12) (v 13) (v 14) k T E) (s k)) (mk := mk) (us := us) (K := fun c0_64 v_64 =>
    nv (wu v_64 c0_64 1 ((v_64 c0_64 1) + 1)) fun v65 =>
    some v65) hP6 (by rw [wu_j (by omega), j2 0 (by omega), hP]) (fun k hk => evS_le _ _ (hs k hk)) (fun k hk => by rw [hw 2 (by omega), j1 2 (by omega) (by omega) (by omega) (by omega) (by omega)]; exact hm k hk) (fun k hk => by rw [hw 3 (by omega), j1 3 (by omega) (by omega) (by omega) (by omega) (by omega)]; exact hu k hk) FU 0 (wu v1 0 22 (nI q)) (by omega) (by unfold FU; omega) ⟨fun _ _ _ _ => rfl, fun _ _ _ => rfl, fun k hk => by rw [if_neg (by omega), hw 1 (by omega), j5 k hk], fun k hk => by rw [if_neg (by omega)], by rw [sm, Int32.add_zero], by rw [sm, Int32.add_zero]⟩
  rw [nI_0] at p1
  have hgo : F_X11_tickOnce 0 v = some (wu v2 0 1 (v2 0 1 + 1)) := by
    unfold F_X11_tickOnce f_X11_tickOnce
    rw [g1, nv_r, p1, nv_r]
  have hc : ∀ c, c ≠ 0 → wu v2 0 1 (v2 0 1 + 1) c = v2 c := fun c hc => by rw [wu_n hc]
  refine ⟨q, _, hgo, g2, fun c c0 c1 c6 c12 c13 c14 => ?_, fun j a1 a2 a3 a4 a5 => ?_, ?_, ?_, ?_, fun k hk => ?_, fun k hk => ?_, ?_, ?_, ?_⟩
  · rw [hc c c0, m1 c c0 c1 c6, hw c c0, j1 c c0 c1 c12 c13 c14]
  · rw [wu_j a1, m2 j a2 a3, wu_j a5, j2 j a4]
  · rw [wu_s, m2 1 (by omega) (by omega), wu_j (by omega), j2 1 (by omega), hT, nI_1]
  · rw [wu_j (by omega), m2 22 (by omega) (by omega), wu_s]
  · rw [hc 12 (by omega), hc 13 (by omega), hc 14 (by omega), m1 12 (by omega) (by omega) (by omega), m1 13 (by omega) (by omega) (by omega), m1 14 (by omega) (by omega) (by omega), hw 12 (by omega), hw 13 (by omega), hw 14 (by omega), j3]
  · rw [hc 1 (by omega), m3 k hk]
    by_cases h : k < 3 * P
    · rw [if_pos h, if_pos h]
    · rw [if_neg h, if_neg h]
      show nI (evS (Bk (v 12) (v 13) (v 14) k T E) (s k)) = _
      rw [Bk_none (f5 := v 12) (f6 := v 13) (f7 := v 14) (k := k) (t := T) E (fun i hi h9 => by
        obtain ⟨⟨k', hk', e9⟩, -⟩ := hev i hi
        rw [e9] at h9
        have := nI_inj (by omega) (by omega) h9
        omega), evS_nil]
  · rw [hc 6 (by omega), m4 k hk, hw 6 (by omega), j1 6 (by omega) (by omega) (by omega) (by omega) (by omega)]
  · rw [wu_j (by omega), m5, wu_j (by omega), j2 14 (by omega)]
  · rw [wu_j (by omega), m6, wu_j (by omega), j2 15 (by omega)]
  · rw [wu_j (by omega), m2 16 (by omega) (by omega), wu_j (by omega), j6]
