theorem bnd_f {x : Int32} {lo hi : Nat} (h : bnd x lo hi) (hh : hi < 2 ^ 31) : x = nI x.toNatClampNeg ∧ lo ≤ x.toNatClampNeg ∧ x.toNatClampNeg ≤ hi := by
  obtain ⟨n, h1, h2, rfl⟩ := h
  rw [tn (by omega)]
  exact ⟨rfl, h1, h2⟩
theorem flt_drop {f5 f6 f7 g5 g6 g7 : Nat → Int32} {x : Int32} {o : Nat} (h1 : ∀ i, i < o → f5 i < x) : ∀ m, (∀ i, o ≤ i → i < o + m → x ≤ f5 i) → (∀ i, i < m → g5 i = f5 (i + o) ∧ g6 i = f6 (i + o) ∧ g7 i = f7 (i + o)) → (evs f5 f6 f7 (o + m)).filter (fun e => x ≤ e.1) = evs g5 g6 g7 m
  | 0, _, _ => by
    rw [Nat.add_zero, List.filter_eq_nil_iff.mpr]
    · rfl
    · intro e he
      obtain ⟨i, hi, rfl⟩ := evs_mem.mp he
      have := h1 i hi
      rw [Int32.lt_iff_toInt_lt] at this
      simp only [decide_eq_true_eq]
      rw [Int32.le_iff_toInt_le]
      omega
  | m + 1, h2, hg => by
    have hx := h2 (o + m) (by omega) (by omega)
    obtain ⟨e1, e2, e3⟩ := hg m (by omega)
    rw [show o + (m + 1) = o + m + 1 from rfl, evs_succ, evs_succ, List.filter_append, flt_drop h1 m (fun i a b => h2 i a (by omega)) (fun i hi => hg i (by omega)), e1, e2, e3, Nat.add_comm m o]
    simp [hx]
theorem perm_of {L1 L2 : List (Int32 × Int32 × Int32)} (h : ∀ t : Int32, L1.filter (fun e => e.1 = t) = L2.filter (fun e => e.1 = t)) : L1.Perm L2 := by
  rw [List.perm_iff_count]
  intro a
  have e1 : List.count a (L1.filter (fun e => e.1 = a.1)) = List.count a L1 := List.count_filter (by simp)
  have e2 : List.count a (L2.filter (fun e => e.1 = a.1)) = List.count a L2 := List.count_filter (by simp)
  rw [← e1, ← e2, h]
theorem flt_comm {L : List (Int32 × Int32 × Int32)} {x t : Int32} : (L.filter (fun e => x ≤ e.1)).filter (fun e => e.1 = t) = (L.filter (fun e => e.1 = t)).filter (fun e => x ≤ e.1) := by
  rw [List.filter_filter, List.filter_filter]
  apply List.filter_congr
  intro y _
  rw [Bool.and_comm]
theorem pass_Inv {P T F S E N : Nat} {vC vM : VV} (i1 : iSc P T F S vC vM) (i2 : iSh P vC vM) (i3 : iPo vC vM) (i4 : iWy vC vM) (i5 : iSp P S vC vM) (i6 : iEv P T E vC vM) (i7 : iPl vC vM) (hTN : T + N ≤ 999) : ∃ (vC' : VV) (u : Nat → VV) (E' : Nat), F_X10_passTicks 0 (nI N) vC = some vC' ∧ u 0 = vM ∧ (∀ i, i < N → F_X11_tickOnce 0 (u i) = some (u (i + 1))) ∧ iSc P (T + N) F S vC' (u N) ∧ iSh P vC' (u N) ∧ iPo vC' (u N) ∧ iWy vC' (u N) ∧ iSp P S vC' (u N) ∧ iEv P (T + N) E' vC' (u N) ∧ iPl vC' (u N) := by
  obtain ⟨⟨sp1, sp2, hP6⟩, ⟨st1, st2, st3⟩, sf, ss, a3, a4, a5, a6, a7⟩ := id i1
  obtain ⟨⟨n1, n2, n3⟩, n4, n5, n6⟩ := id i6
  have hs : ∀ k, k < 18 → vM 1 k = nI (vM 1 k).toNatClampNeg ∧ (vM 1 k).toNatClampNeg ≤ 1000 := fun k hk => by
    have := bnd_f (i2 k hk).2.2.2.2.2.2.2.1 (by omega)
    exact ⟨this.1, this.2.2⟩
  have hm : ∀ k, k < 18 → vM 2 k = nI (vM 2 k).toNatClampNeg ∧ (vM 2 k).toNatClampNeg ≤ 50 := fun k hk => by
    have := bnd_f (i2 k hk).2.2.2.2.2.2.2.2.1 (by omega)
    exact ⟨this.1, this.2.2⟩
  have hu : ∀ k, k < 18 → vM 3 k = nI (vM 3 k).toNatClampNeg ∧ (vM 3 k).toNatClampNeg ≤ 50 := fun k hk => by
    have := bnd_f (i2 k hk).2.2.2.2.2.2.2.2.2 (by omega)
    exact ⟨this.1, this.2.2⟩
  obtain ⟨u, u0, u1, ⟨m1, m2, m3, ⟨E', hE', m4, m5⟩, m6, m7, m8, m9, m10⟩⟩ := mT_n (P := P) (T := T) (E := E) (v0 := vM) (s := fun k => (vM 1 k).toNatClampNeg) (mk := fun k => (vM 2 k).toNatClampNeg) (us := fun k => (vM 3 k).toNatClampNeg) rfl hP6 sp2 st2 n2 n3 (fun k hk => (hs k hk).2) (fun k hk => (hs k hk).1) hm hu (fun e he => (n6 e he).2) (fun e he => by
    obtain ⟨⟨n, h1, h2, h3⟩, -⟩ := n6 e he
    rw [h3]
    exact nI_le h1 (by omega)) N (by omega)
  obtain ⟨w, p1, ⟨c1, c2, c3, c4, c5, c6, c7⟩⟩ := passP (T := T) (N := N) (E := E) (P := P) (v0 := vC) (s := fun k => (vM 1 k).toNatClampNeg) (mk := fun k => (vM 2 k).toNatClampNeg) (us := fun k => (vM 3 k).toNatClampNeg) (K := fun c0_12 i1_12 v_12 =>
    nv (wu v_12 (rfC c0_12 0) 4 ((v_12 (rfC c0_12 0) 4) + i1_12)) fun v14 =>
    (F_X0_dropBefore (rfC (rfC c0_12 0) 2) (v14 (rfC c0_12 0) 4) v14).bind fun v19 =>
    some v19) rfl st1 n1 n3 (fun k hk => ⟨by rw [(i2 k hk).2.1]; exact (hs k hk).1, (hs k hk).2⟩) (fun k hk => (i2 k hk).1) (fun k hk => ⟨by rw [(i2 k hk).2.2.1]; exact (hm k hk).1, (hm k hk).2⟩) (fun k hk => ⟨by rw [(i2 k hk).2.2.2.1]; exact (hu k hk).1, (hu k hk).2⟩) (ev_by i6) n4 (by omega) sp1 hP6 FU 0 vC (by omega) (by unfold FU; omega) cT_0
  rw [nI_0] at p1
  have w1 : w 1 = vC 1 := c1 1 (by omega) (by omega) (by omega)
  have hB : ∀ k, (fun t => Bk (vC 5) (vC 6) (vC 7) k t E) = (fun t => Bk (vM 12) (vM 13) (vM 14) k t E) := fun k => funext fun t => Bk_alike i6 k t
  simp only [hB] at c4 c5 c6 c7
  have ww : ∀ c, c ≠ 1 → wu w 1 4 (nI (T + N)) c = w c := fun c hc => by rw [wu_n hc]
  obtain ⟨o, v', d1, d2, d3, d4, d5, d6, d7⟩ := dropE (E := E) (x := nI (T + N)) (v := wu w 1 4 (nI (T + N))) (by rw [ww 4 (by omega), c1 4 (by omega) (by omega) (by omega), n1]) n3 (by rw [ww 5 (by omega), c1 5 (by omega) (by omega) (by omega)]; exact n4)
  have hgo : F_X10_passTicks 0 (nI N) vC = some v' := by
    unfold F_X10_passTicks f_X10_passTicks
    rw [p1, nv_r, rfC00, rfC12, w1, st1, nI_add, wu_s, d1, Option.bind_some]
  rw [ww 5 (by omega), c1 5 (by omega) (by omega) (by omega)] at d6 d7
  have d5' : ∀ c, 5 ≤ c → c ≤ 7 → ∀ j, j < E - o → v' c j = vC c (j + o) := fun c h5 h7 j hj => by rw [d5 c h5 h7 j hj, ww c (by omega), c1 c (by omega) (by omega) (by omega)]
  have hv : ∀ c, c ≠ 0 → c ≠ 1 → c ≠ 4 → c ≠ 5 → c ≠ 6 → c ≠ 7 → c ≠ 9 → c < 37 ∨ 55 ≤ c → v' c = vC c := fun c h0 h1 h4 h5 h6 h7 h9 hc => by rw [d3 c h4 h5 h6 h7, ww c h1, c1 c h0 h9 hc]
  have hk37 : ∀ k, k < 18 → v' (37 + k) = w (37 + k) := fun k hk => by rw [d3 _ (by omega) (by omega) (by omega) (by omega), ww _ (by omega)]
  have v0' : v' 0 = w 0 := by rw [d3 _ (by omega) (by omega) (by omega) (by omega), ww _ (by omega)]
  have v1' : v' 1 = wu w 1 4 (nI (T + N)) 1 := by rw [d3 _ (by omega) (by omega) (by omega) (by omega)]
  have hLc : (evs (vC 5) (vC 6) (vC 7) E).filter (fun e => nI (T + N) ≤ e.1) = evs (v' 5) (v' 6) (v' 7) (E - o) := by
    have := flt_drop (f5 := vC 5) (f6 := vC 6) (f7 := vC 7) (g5 := v' 5) (g6 := v' 6) (g7 := v' 7) (x := nI (T + N)) (o := o) d6 (E - o) (fun i a b => d7 i a (by omega)) (fun i hi => ⟨d5' 5 (by omega) (by omega) i hi, d5' 6 (by omega) (by omega) i hi, d5' 7 (by omega) (by omega) i hi⟩)
    rw [show o + (E - o) = E by omega] at this
    exact this
  have hEE : E' = E - o := by
    have hp := (perm_of n5).filter (fun e => decide (nI (T + N) ≤ e.1))
    have h1 := hp.length_eq
    rw [hLc, ← m5, evs_len, evs_len] at h1
    exact h1.symm
  refine ⟨v', u, E', hgo, u0, u1, ⟨⟨?_, ?_, hP6⟩, ⟨?_, m3, hTN⟩, ⟨?_, ?_, sf.2.2⟩, ⟨?_, ?_, ss.2.2⟩, ?_, ?_, ?_, ?_, ?_⟩, fun k hk => ?_, iPo_c i3 (fun p hp => hv _ (by omega) (by omega) (by omega) (by omega) (by omega) (by omega) (by omega) (by omega)) (fun c _ _ => m1 c (by omega) (by omega) (by omega) (by omega) (by omega) (by omega)), iWy_c i4 (fun p hp => hv _ (by omega) (by omega) (by omega) (by omega) (by omega) (by omega) (by omega) (by omega)) (m1 11 (by omega) (by omega) (by omega) (by omega) (by omega) (by omega)), iSp_c i5 (fun p hp => hv _ (by omega) (by omega) (by omega) (by omega) (by omega) (by omega) (by omega) (by omega)) (fun c _ _ => m1 c (by omega) (by omega) (by omega) (by omega) (by omega) (by omega)), ⟨⟨?_, m4, by omega⟩, fun i j hij hj => ?_, fun t => ?_, fun e he => ?_⟩, iPl_c i7 (by rw [hv 15 (by omega) (by omega) (by omega) (by omega) (by omega) (by omega) (by omega) (by omega)]) (hv 23 (by omega) (by omega) (by omega) (by omega) (by omega) (by omega) (by omega) (by omega)) (hv 24 (by omega) (by omega) (by omega) (by omega) (by omega) (by omega) (by omega) (by omega)) (m2 41 (by omega) (by omega) (by omega) (by omega) (by omega)) (m1 24 (by omega) (by omega) (by omega) (by omega) (by omega) (by omega)) (m1 25 (by omega) (by omega) (by omega) (by omega) (by omega) (by omega))⟩
  · rw [v1', wu_j (by omega), w1, sp1]
  · rw [m2 0 (by omega) (by omega) (by omega) (by omega) (by omega), sp2]
  · rw [v1', wu_s]
  · rw [v1', wu_j (by omega), w1, sf.1]
  · rw [m2 2 (by omega) (by omega) (by omega) (by omega) (by omega), sf.2.1]
  · rw [v0', c2 2 (by omega) (by omega) (by omega), ss.1]
  · rw [m2 27 (by omega) (by omega) (by omega) (by omega) (by omega), ss.2.1]
  · rw [v0', c5, m8, a3]
  · rw [v0', c6, m9, a4]
  · rw [v0', c7, m10, a5]
  · rw [v0', c2 6 (by omega) (by omega) (by omega), m2 17 (by omega) (by omega) (by omega) (by omega) (by omega), a6]
  · rw [v0', c2 7 (by omega) (by omega) (by omega), m2 18 (by omega) (by omega) (by omega) (by omega) (by omega), a7]
  · have hh := i2 k hk
    rw [hk37 k hk, m1 2 (by omega) (by omega) (by omega) (by omega) (by omega) (by omega), m1 3 (by omega) (by omega) (by omega) (by omega) (by omega) (by omega), m1 4 (by omega) (by omega) (by omega) (by omega) (by omega) (by omega), m1 5 (by omega) (by omega) (by omega) (by omega) (by omega) (by omega), m6 k hk, m7 k hk]
    by_cases hk3 : k < 3 * P
    · simp only [if_pos hk3, c4 k hk hk3]
      obtain ⟨q1, q2, q3, q4, q5, q6, q7, q8, q9, q10⟩ := hh
      simp only [q1, q3, q4, q5]
      have hle := fl_le (B := fun t => Bk (vM 12) (vM 13) (vM 14) k t E) (mk := (vM 2 k).toNatClampNeg) (us := (vM 3 k).toNatClampNeg) (T := T) (hs k hk).2 N
      refine ⟨?_, ?_, ?_, ?_, ?_, ?_, fun h9 => by omega, ⟨_, Nat.zero_le _, hle, rfl⟩, q9, q10⟩
      · simp
      · simp
      · simp
      · simp
      · simp
      · simp
        exact q6
    · rw [if_neg hk3, if_neg hk3, c3 k hk (by omega), ← (hs k hk).1]
      exact hh
  · rw [d4, hEE]
  · rw [hEE] at hj
    rw [d5' 5 (by omega) (by omega) i (by omega), d5' 5 (by omega) (by omega) j (by omega)]
    exact n4 (i + o) (j + o) (by omega) (by omega)
  · rw [m5, hEE, ← hLc, flt_comm, flt_comm, n5]
  · have hx : (u N 12 e, u N 13 e, u N 14 e) ∈ evs (u N 12) (u N 13) (u N 14) E' := evs_mem.mpr ⟨e, he, rfl⟩
    rw [m5] at hx
    obtain ⟨hx1, hx3⟩ := List.mem_filter.mp hx
    obtain ⟨i, hi, hx2⟩ := evs_mem.mp hx1
    have y1 : u N 12 e = vM 12 i := congrArg (fun x => x.1) hx2
    have y2 : u N 13 e = vM 13 i := congrArg (fun x => x.2.1) hx2
    have y3 : u N 14 e = vM 14 i := congrArg (fun x => x.2.2) hx2
    have hx4 : nI (T + N) ≤ u N 12 e := of_decide_eq_true hx3
    rw [y1] at hx4
    rw [y1, y2, y3]
    obtain ⟨⟨n, h1, h2, h3⟩, h4⟩ := n6 i hi
    refine ⟨⟨n, ?_, h2, h3⟩, h4⟩
    rw [h3, nI_leI (by omega) (by omega)] at hx4
    exact hx4
