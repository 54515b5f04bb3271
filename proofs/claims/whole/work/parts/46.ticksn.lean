theorem evs_mem {f5 f6 f7 : Nat → Int32} {E : Nat} {x : Int32 × Int32 × Int32} : x ∈ evs f5 f6 f7 E ↔ ∃ i, i < E ∧ x = (f5 i, f6 i, f7 i) := by
  unfold evs
  rw [List.mem_map]
  constructor
  · rintro ⟨i, hi, h⟩
    exact ⟨i, List.mem_range.mp hi, h.symm⟩
  · rintro ⟨i, hi, h⟩
    exact ⟨i, List.mem_range.mpr hi, h.symm⟩
theorem evs_len (f5 f6 f7 : Nat → Int32) (E : Nat) : (evs f5 f6 f7 E).length = E := by
  unfold evs
  rw [List.length_map, List.length_range]
theorem flt_ne {L : List (Int32 × Int32 × Int32)} {a : Nat} (ha : a < 5000) : (L.filter (fun x => nI a ≤ x.1)).filter (fun x => ¬ x.1 = nI a) = L.filter (fun x => nI (a + 1) ≤ x.1) := by
  rw [List.filter_filter]
  apply List.filter_congr
  intro x _
  rw [Bool.eq_iff_iff]
  simp only [Bool.and_eq_true, decide_eq_true_eq]
  rw [Int32.le_iff_toInt_le, Int32.le_iff_toInt_le, ← Int32.toInt_inj, nI_toInt (by omega), nI_toInt (by omega)]
  omega
theorem flt_eq {L : List (Int32 × Int32 × Int32)} {a : Nat} : (L.filter (fun x => nI a ≤ x.1)).filter (fun x => x.1 = nI a) = L.filter (fun x => x.1 = nI a) := by
  rw [List.filter_filter]
  apply List.filter_congr
  intro x _
  rw [Bool.eq_iff_iff]
  simp only [Bool.and_eq_true, decide_eq_true_eq]
  constructor
  · exact fun h => h.1
  · intro h
    refine ⟨h, ?_⟩
    rw [h, Int32.le_iff_toInt_le]
    omega
/-- the model after j ticks -/
def mTj (v0 v : VV) (P T E : Nat) (s : Nat → Nat) (R : Nat → Nat → Nat × Int32 × Int32 × Int32 × Int32) (j : Nat) : Prop := (∀ c, c ≠ 0 → c ≠ 1 → c ≠ 6 → c ≠ 12 → c ≠ 13 → c ≠ 14 → v c = v0 c) ∧ (∀ i, i ≠ 1 → i ≠ 14 → i ≠ 15 → i ≠ 16 → i ≠ 22 → v 0 i = v0 0 i) ∧ v 0 1 = nI (T + j) ∧ (∃ E', E' ≤ E ∧ v 0 22 = nI E' ∧ evs (v 12) (v 13) (v 14) E' = (evs (v0 12) (v0 13) (v0 14) E).filter (fun x => nI (T + j) ≤ x.1)) ∧ (∀ k, k < 18 → v 1 k = nI (if k < 3 * P then (R k j).1 else s k)) ∧ (∀ k, k < 18 → v 6 k = if k < 3 * P then v0 6 k + (R k j).2.2.2.2 else v0 6 k) ∧ v 0 14 = v0 0 14 + sm (fun k => (R k j).2.1) (3 * P) ∧ v 0 15 = v0 0 15 + sm (fun k => (R k j).2.2.1) (3 * P) ∧ v 0 16 = v0 0 16 + sm (fun k => (R k j).2.2.2.1) (3 * P)
theorem mT_step {P T E j : Nat} {v0 v : VV} {s mk us : Nat → Nat} {R : Nat → Nat → Nat × Int32 × Int32 × Int32 × Int32} (hR : R = fun k => fl (fun t => Bk (v0 12) (v0 13) (v0 14) k t E) (mk k) (us k) T (s k)) (hP6 : P ≤ 6) (hP : v0 0 0 = nI P) (E20 : E ≤ 20) (hs : ∀ k, k < 18 → s k ≤ 1000) (hm : ∀ k, k < 18 → v0 2 k = nI (mk k) ∧ mk k ≤ 50) (hu : ∀ k, k < 18 → v0 3 k = nI (us k) ∧ us k ≤ 50) (hev : ∀ e, e < E → (∃ k, k < 3 * P ∧ v0 13 e = nI k) ∧ -1000 ≤ v0 14 e ∧ v0 14 e ≤ 1000) (hj : T + j < 2000) (h : mTj v0 v P T E s R j) : ∃ v', F_X11_tickOnce 0 v = some v' ∧ mTj v0 v' P T E s R (j + 1) := by
  obtain ⟨h1, h2, h3, ⟨E', hE', h4, h5⟩, h6, h7, h8, h9, h10⟩ := h
  have hRk : ∀ k, R k = fl (fun t => Bk (v0 12) (v0 13) (v0 14) k t E) (mk k) (us k) T (s k) := fun k => by rw [hR]
  have hRle : ∀ k, k < 18 → (R k j).1 ≤ 1000 := fun k hk => by rw [hRk]; exact fl_le (hs k hk) j
  have hB : ∀ k, Bk (v 12) (v 13) (v 14) k (T + j) E' = Bk (v0 12) (v0 13) (v0 14) k (T + j) E := fun k => by rw [Bk_evs, Bk_evs, h5, flt_eq]
  obtain ⟨E2, v', g1, g2, g3, g4, g5, g6, g7, g8, g9, g10, g11, g12⟩ := tick1 (P := P) (T := T + j) (E := E') (v := v) (s := fun k => if k < 3 * P then (R k j).1 else s k) (mk := mk) (us := us) hP6 (by rw [h2 0 (by omega) (by omega) (by omega) (by omega) (by omega), hP]) h3 h4 (by omega) (fun k hk => by
      show (if k < 3 * P then (R k j).1 else s k) ≤ 1000
      split
      · exact hRle k hk
      · exact hs k hk) h6 (fun k hk => by rw [h1 2 (by omega) (by omega) (by omega) (by omega) (by omega) (by omega)]; exact hm k hk) (fun k hk => by rw [h1 3 (by omega) (by omega) (by omega) (by omega) (by omega) (by omega)]; exact hu k hk) (fun e he => by
      have hx : (v 12 e, v 13 e, v 14 e) ∈ evs (v 12) (v 13) (v 14) E' := evs_mem.mpr ⟨e, he, rfl⟩
      rw [h5] at hx
      obtain ⟨i, hi, hx2⟩ := evs_mem.mp (List.mem_filter.mp hx).1
      have y2 : v 13 e = v0 13 i := congrArg (fun x => x.2.1) hx2
      have y3 : v 14 e = v0 14 i := congrArg (fun x => x.2.2) hx2
      rw [y2, y3]
      exact hev i hi)
  have hst : ∀ k, k < 3 * P → evS (Bk (v 12) (v 13) (v 14) k (T + j) E') (if k < 3 * P then (R k j).1 else s k) = evS (Bk (v0 12) (v0 13) (v0 14) k (T + j) E) (R k j).1 := fun k hk => by rw [if_pos hk, hB]
  refine ⟨v', g1, fun c c0 c1 c6 c12 c13 c14 => by rw [g3 c c0 c1 c6 c12 c13 c14, h1 c c0 c1 c6 c12 c13 c14], fun i a1 a2 a3 a4 a5 => by rw [g4 i a1 a2 a3 a4 a5, h2 i a1 a2 a3 a4 a5], g5, ⟨E2, by omega, g6, by rw [g7, h5, flt_ne (by omega)]; rfl⟩, fun k hk => ?_, fun k hk => ?_, ?_, ?_, ?_⟩
  · rw [g8 k hk]
    by_cases hk3 : k < 3 * P
    · simp only [if_pos hk3, hB, hRk k]; rfl
    · simp only [if_neg hk3]
  · rw [g9 k hk, h7 k hk]
    by_cases hk3 : k < 3 * P
    · simp only [if_pos hk3, hB, i_assoc, hRk k]; rfl
    · simp only [if_neg hk3]
  · rw [g10, h8, i_assoc, ← sm_add]
    congr 1
    apply sm_congr
    intro k hk
    rw [hst k hk, hRk k]; rfl
  · rw [g11, h9, i_assoc, ← sm_add]
    congr 1
    apply sm_congr
    intro k hk
    rw [hst k hk, hRk k]; rfl
  · rw [g12, h10, i_assoc, ← sm_add]
    congr 1
    apply sm_congr
    intro k hk
    rw [hst k hk, if_pos hk, hRk k]; rfl
theorem mT_0 {P T E : Nat} {v0 : VV} {s mk us : Nat → Nat} {R : Nat → Nat → Nat × Int32 × Int32 × Int32 × Int32} (hR : R = fun k => fl (fun t => Bk (v0 12) (v0 13) (v0 14) k t E) (mk k) (us k) T (s k)) (hT : v0 0 1 = nI T) (hE : v0 0 22 = nI E) (h1 : ∀ k, k < 18 → v0 1 k = nI (s k)) (hev : ∀ e, e < E → nI T ≤ v0 12 e) : mTj v0 v0 P T E s R 0 := by
  subst hR
  refine ⟨fun _ _ _ _ _ _ _ => rfl, fun _ _ _ _ _ _ => rfl, hT, ⟨E, Nat.le_refl _, hE, ?_⟩, fun k hk => ?_, fun k hk => ?_, ?_, ?_, ?_⟩
  · rw [List.filter_eq_self.mpr]
    intro x hx
    obtain ⟨i, hi, rfl⟩ := evs_mem.mp hx
    exact decide_eq_true (hev i hi)
  · rw [h1 k hk]
    split <;> rfl
  · show v0 6 k = if k < 3 * P then v0 6 k + 0 else v0 6 k
    rw [Int32.add_zero]
    split <;> rfl
  · simp only [fl]
    rw [sm_0, Int32.add_zero]
  · simp only [fl]
    rw [sm_0, Int32.add_zero]
  · simp only [fl]
    rw [sm_0, Int32.add_zero]
theorem mT_n {P T E : Nat} {v0 : VV} {s mk us : Nat → Nat} {R : Nat → Nat → Nat × Int32 × Int32 × Int32 × Int32} (hR : R = fun k => fl (fun t => Bk (v0 12) (v0 13) (v0 14) k t E) (mk k) (us k) T (s k)) (hP6 : P ≤ 6) (hP : v0 0 0 = nI P) (hT : v0 0 1 = nI T) (hE : v0 0 22 = nI E) (E20 : E ≤ 20) (hs : ∀ k, k < 18 → s k ≤ 1000) (h1 : ∀ k, k < 18 → v0 1 k = nI (s k)) (hm : ∀ k, k < 18 → v0 2 k = nI (mk k) ∧ mk k ≤ 50) (hu : ∀ k, k < 18 → v0 3 k = nI (us k) ∧ us k ≤ 50) (hev : ∀ e, e < E → (∃ k, k < 3 * P ∧ v0 13 e = nI k) ∧ -1000 ≤ v0 14 e ∧ v0 14 e ≤ 1000) (hev2 : ∀ e, e < E → nI T ≤ v0 12 e) : ∀ N, T + N ≤ 2000 → ∃ u : Nat → VV, u 0 = v0 ∧ (∀ i, i < N → F_X11_tickOnce 0 (u i) = some (u (i + 1))) ∧ mTj v0 (u N) P T E s R N
  | 0, _ => ⟨fun _ => v0, rfl, fun i hi => by omega, mT_0 hR hT hE h1 hev2⟩
  | N + 1, hN => by
    obtain ⟨u, u0, u1, u2⟩ := mT_n hR hP6 hP hT hE E20 hs h1 hm hu hev hev2 N (by omega)
    obtain ⟨v', g1, g2⟩ := mT_step hR hP6 hP E20 hs hm hu hev (by omega) u2
    refine ⟨fun i => if i ≤ N then u i else v', ?_, fun i hi => ?_, ?_⟩
    · show (if 0 ≤ N then u 0 else v') = v0
      rw [if_pos (by omega), u0]
    · show F_X11_tickOnce 0 (if i ≤ N then u i else v') = some (if i + 1 ≤ N then u (i + 1) else v')
      by_cases h : i = N
      · subst h
        rw [if_pos (by omega), if_neg (by omega), g1]
      · rw [if_pos (by omega), if_pos (by omega), u1 i (by omega)]
    · show mTj v0 (if N + 1 ≤ N then u (N + 1) else v') P T E s R (N + 1)
      rw [if_neg (by omega)]
      exact g2
theorem tickLp {u : Nat → VV} {N : Nat} (hN : N ≤ 200) (h : ∀ i, i < N → F_X11_tickOnce 0 (u i) = some (u (i + 1))) : ∀ (n j : Nat), j ≤ N → N - j < n → f_X11_tick_l32 n 0 (nI N) (nI j) (u j) = some (u N 0 1, u N)
  | 0, j, _, h => by omega
  | n + 1, j, hj, hn => by
    rw [f_X11_tick_l32]
    by_cases e : j = N
    · subst e
      rw [if_pos (nI_le (Nat.le_refl _) (by omega))]
    · rw [if_neg (nI_ge (by omega) (by omega)), h j (by omega), Option.bind_some, nI_1, nv_r]
      exact tickLp hN h n (j + 1) (by omega) (by omega)
theorem goLp {u : Nat → VV} {N : Nat} {i1 i2 : Int32} {K : Nat → Int32 → Int32 → VV → Option (Int32 × VV)} (hN : N ≤ 200) (h : ∀ i, i < N → F_X11_tickOnce 0 (u i) = some (u (i + 1))) : ∀ (n j : Nat), j ≤ N → N - j < n → f_X11_go_l128 K n 0 i1 i2 (nI N) (nI j) (u j) = K 0 i1 i2 (u N)
  | 0, j, _, h => by omega
  | n + 1, j, hj, hn => by
    rw [f_X11_go_l128]
    by_cases e : j = N
    · subst e
      rw [if_pos (nI_le (Nat.le_refl _) (by omega))]
    · rw [if_neg (nI_ge (by omega) (by omega)), h j (by omega), Option.bind_some, nI_1, nv_r]
      exact goLp hN h n (j + 1) (by omega) (by omega)
