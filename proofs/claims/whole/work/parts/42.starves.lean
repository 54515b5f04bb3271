/-! the two calendars: one list of changes for each tick and place -/
theorem Bk_alike {P T E : Nat} {vC vM : VV} (h : iEv P T E vC vM) (k t : Nat) : Bk (vC 5) (vC 6) (vC 7) k t E = Bk (vM 12) (vM 13) (vM 14) k t E := by
  rw [Bk_evs, Bk_evs, h.2.2.1]
/-- what the class's calendar holds is what the other's holds -/
theorem ev_mem {P T E : Nat} {vC vM : VV} (h : iEv P T E vC vM) : ∀ i, i < E → ∃ e, e < E ∧ vC 5 i = vM 12 e ∧ vC 6 i = vM 13 e ∧ vC 7 i = vM 14 e := by
  intro i hi
  have h1 : (vC 5 i, vC 6 i, vC 7 i) ∈ (evs (vC 5) (vC 6) (vC 7) E).filter (fun e => e.1 = vC 5 i) := by
    rw [List.mem_filter]
    refine ⟨?_, by simp⟩
    unfold evs
    rw [List.mem_map]
    exact ⟨i, List.mem_range.mpr hi, rfl⟩
  rw [h.2.2.1, List.mem_filter] at h1
  have h2 := h1.1
  unfold evs at h2
  rw [List.mem_map] at h2
  obtain ⟨e, he, h3⟩ := h2
  have h4 := List.mem_range.mp he
  refine ⟨e, h4, ?_, ?_, ?_⟩
  · exact (congrArg (fun x => x.1) h3).symm
  · exact (congrArg (fun x => x.2.1) h3).symm
  · exact (congrArg (fun x => x.2.2) h3).symm
theorem ev_by {P T E : Nat} {vC vM : VV} (h : iEv P T E vC vM) : ∀ i, i < E → -1000 ≤ vC 7 i ∧ vC 7 i ≤ 1000 := by
  intro i hi
  obtain ⟨e, he, -, -, e7⟩ := ev_mem h i hi
  rw [e7]
  exact ⟨(h.2.2.2 e he).2.2.1, (h.2.2.2 e he).2.2.2⟩
theorem starvE {k t E : Nat} {i3 : Int32} {K : Nat → Int32 → Int32 → Int32 → Int32 → VV → Option (Int32 × VV)} {v : VV} {s0 : Nat} (E20 : E ≤ 20) (hE : v 0 22 = nI E) (hb : ∀ e, e < E → -1000 ≤ v 14 e ∧ v 14 e ≤ 1000) (hs0 : s0 ≤ 1000) : ∀ (n e : Nat), e ≤ E → E - e < n → f_X11_starves_l76 K n 0 i3 (nI k) (nI (evS (Bk (v 12) (v 13) (v 14) k t e) s0)) (nI t) (nI e) v = K 0 i3 (nI k) (nI (evS (Bk (v 12) (v 13) (v 14) k t E) s0)) (nI t) v
  | 0, e, _, h => by omega
  | n + 1, e, he, hn => by
    rw [f_X11_starves_l76, hE]
    by_cases h : e = E
    · subst h
      rw [if_pos (nI_le (Nat.le_refl _) (by omega))]
    · have te : (nI e).toNatClampNeg = e := tn (by omega)
      have ie : inB (nI e) 20 = true := inB_n (by omega) (by omega)
      rw [if_neg (nI_ge (by omega) (by omega))]
      simp only [rfM19, rfM20, rfM21, lnMe (show 12 ≤ 12 by omega) (by omega), lnMe (show 12 ≤ 13 by omega) (by omega), lnMe (show 12 ≤ 14 by omega) (by omega), gd_t ie, te, nv, nI_1]
      have ih := starvE (K := K) (i3 := i3) (k := k) (t := t) E20 hE hb hs0 n (e + 1) (by omega) (by omega)
      rw [Bk] at ih
      by_cases h1 : v 12 e = nI t
      · rw [if_pos h1]
        by_cases h2 : v 13 e = nI k
        · rw [if_pos ⟨h1, h2⟩, evS_snoc] at ih
          rw [if_pos h2, hld_M (evS_le _ _ hs0) (hb e (by omega)).1 (hb e (by omega)).2, bi_s]
          exact ih
        · rw [if_neg (fun h => h2 h.2)] at ih
          rw [if_neg h2]
          exact ih
      · rw [if_neg (fun h => h1 h.1)] at ih
        rw [if_neg h1]
        exact ih
theorem fk_mono {B : Nat → List Int32} {mk us T s0 i x : Nat} (h : fk B mk us T s0 i = some x) : ∀ d, fk B mk us T s0 (i + d) = some x
  | 0 => h
  | d + 1 => by
    rw [show i + (d + 1) = (i + d) + 1 from rfl, fk, fk_mono h d]
theorem starvL {k E T N N' s0 mk us : Nat} {v : VV} (hk : k < 18) (E20 : E ≤ 20) (hE : v 0 22 = nI E) (hT : v 0 1 = nI T) (hb : ∀ e, e < E → -1000 ≤ v 14 e ∧ v 14 e ≤ 1000) (hs0 : s0 ≤ 1000) (hm : v 2 k = nI mk) (hu : v 3 k = nI us) (m1 : mk ≤ 50) (u1 : us ≤ 50) (hT1 : T ≤ 999) (hN : N ≤ 200) (hN' : N' = min N (999 - T)) : ∀ (n i : Nat), i ≤ N' → N' - i < n → fk (fun t => Bk (v 12) (v 13) (v 14) k t E) mk us T s0 i = none → f_X11_starves_l54 n 0 (nI N) (nI k) (nI (fl (fun t => Bk (v 12) (v 13) (v 14) k t E) mk us T s0 i).1) (nI (T + i)) v = some (fkI (fk (fun t => Bk (v 12) (v 13) (v 14) k t E) mk us T s0 N'), v)
  | 0, i, _, h, _ => by omega
  | n + 1, i, hi, hn, hf => by
    have tk : (nI k).toNatClampNeg = k := tn (by omega)
    have ik : inB (nI k) 18 = true := inB_n (by omega) (by omega)
    rw [f_X11_starves_l54, hT, nI_add]
    by_cases h : i = N'
    · rw [← h, hf]
      by_cases h1 : T + N ≤ T + i
      · rw [if_pos (nI_le h1 (by omega))]
        rfl
      · rw [if_neg (nI_ge (by omega) (by omega)), if_pos (show (999 : Int32) ≤ nI (T + i) from nI_le (a := 999) (by omega) (by omega))]
        rfl
    · rw [if_neg (nI_ge (by omega) (by omega)), if_neg (show ¬ (999 : Int32) ≤ nI (T + i) from nI_ge (b := 999) (by omega) (by omega))]
      have hfl := fl_le (B := fun t => Bk (v 12) (v 13) (v 14) k t E) (mk := mk) (us := us) (T := T) hs0 i
      have st := fun K => starvE (K := K) (i3 := nI N) (k := k) (t := T + i) (v := v) E20 hE hb hfl FU 0 (by omega) (by unfold FU; omega)
      have st' := st (fun c0_27 i3_27 i4_27 i5_27 i6_27 v_27 =>
        gd (inB i4_27 (lnM (rfM c0_27 4)) = true) <|
        bi (F_X11_held (i5_27 + (v_27 (rfM c0_27 4) (Int32.toNatClampNeg i4_27))) v_27) fun x32 v31 =>
        gd (inB i4_27 (lnM (rfM c0_27 5)) = true) <|
        if ((v31 (rfM c0_27 5) (Int32.toNatClampNeg i4_27)) ≤ x32) then
          gd (inB i4_27 (lnM (rfM c0_27 5)) = true) <|
          nv ((x32 - (v31 (rfM c0_27 5) (Int32.toNatClampNeg i4_27)))) fun x37 =>
          nv (i6_27 + 1) fun x38 =>
          f_X11_starves_l54 n c0_27 i3_27 i4_27 x37 x38 v31
        else
          some (i6_27, v31))
      rw [Bk, evS_nil] at st'
      refine Eq.trans st' ?_
      generalize hs1 : evS (Bk (v 12) (v 13) (v 14) k (T + i) E) (fl (fun t => Bk (v 12) (v 13) (v 14) k t E) mk us T s0 i).1 = s1
      have hs1' : s1 ≤ 1000 := by rw [← hs1]; exact evS_le _ _ hfl
      simp only [rfM4, rfM5, lnMs (show 1 ≤ 2 by omega) (by omega), lnMs (show 1 ≤ 3 by omega) (by omega), tk, gd_t ik, hm, hu]
      rw [hldN_M hs1' (by omega), bi_s]
      by_cases h2 : us ≤ min 1000 (s1 + mk)
      · rw [hu, if_pos (nI_le h2 (by omega)), pk_sub h2]
        have ih := starvL hk E20 hE hT hb hs0 hm hu m1 u1 hT1 hN hN' n (i + 1) (by omega) (by omega) (by
          rw [fk, hf]
          dsimp only
          rw [hs1, if_pos (by unfold muL; omega)])
        rw [fl] at ih
        dsimp only at ih
        rw [hs1] at ih
        simp only [nv, nI_1]
        have e9 : muS mk us s1 = min 1000 (s1 + mk) - us := by unfold muS; omega
        rw [e9] at ih
        exact ih
      · rw [hu, if_neg (nI_ge (by omega) (by omega))]
        have h9 : fk (fun t => Bk (v 12) (v 13) (v 14) k t E) mk us T s0 (i + 1) = some (T + i) := by
          rw [fk, hf]
          dsimp only
          rw [hs1, if_neg (by unfold muL; omega)]
        have h8 := fk_mono h9 (N' - (i + 1))
        rw [show i + 1 + (N' - (i + 1)) = N' by omega] at h8
        rw [h8]
        rfl
theorem st_starves : Step_starves Inv := by
  intro vC vM hI a0 a1 a2
  obtain ⟨P, T, F, S, E, i1, i2, i3, i4, i5, i6, i7⟩ := id hI
  have hP6 := i1.1.2.2
  obtain ⟨t1, t2, t3⟩ := i1.2.1
  obtain ⟨⟨n1, n2, n3⟩, n4, n5, n6⟩ := id i6
  unfold F_X10_starves f_X10_starves F_X11_starves f_X11_starves
  rcases isP i1 a0 with ⟨p, hp, rfl, e1, e2⟩ | ⟨-, e1, e2⟩
  · rw [e1, e2, bi_s, bi_s, if_neg n10, if_neg n10]
    rcases isG vC vM a1 with ⟨g, hg, rfl, e1, e2⟩ | ⟨-, e1, e2⟩
    · rw [e1, e2, bi_s, bi_s, if_neg n10, if_neg n10]
      rcases win a2 1 200 1 200 (by decide) (by decide) vC vM with ⟨h1, h2, e3, e4⟩ | ⟨-, e3, e4⟩
      · rw [e3, e4, bi_s, bi_s, if_neg n10, if_neg n10, rfC00, shelfE (by omega) hg, bi_s]
        obtain ⟨N, hN0, hN1, rfl⟩ := bnd_of (lo := 1) (hi := 200) (by decide) h1 h2 (by decide)
        have hk : 3 * p + g < 18 := by omega
        obtain ⟨q1, q2, q3, q4, q5, q6, q7, ⟨st, -, hs1, ys⟩, ⟨mk, -, hm1, ym⟩, ⟨us, -, hu1, yu⟩⟩ := i2 (3 * p + g) hk
        have tk : (nI (3 * p + g)).toNatClampNeg = 3 * p + g := tn (by omega)
        have ik : inB (nI (3 * p + g)) 18 = true := inB_n (by omega) (by omega)
        simp only [nv, k3, rfM3, lnMs (show 1 ≤ 1 by omega) (by omega), tk, gd_t ik, rfC08, rfC12, t1, t2, q2, ys, nI_add]
        have hx : (if (999 : Int32) < nI (T + N) then 999 else nI (T + N)) = nI (T + min N (999 - T)) := by
          by_cases h : 999 < T + N
          · rw [if_pos (show (999 : Int32) < nI (T + N) from nI_lt (a := 999) h (by omega)), show T + min N (999 - T) = 999 by omega]
            rfl
          · rw [if_neg (show ¬ (999 : Int32) < nI (T + N) from nI_nlt (b := T + N) (a := 999) (by omega) (by omega)), show T + min N (999 - T) = T + N by omega]
        rw [hx]
        obtain ⟨v', p1, p2, p3⟩ := followE (d := 9) (c1 := 37 + (3 * p + g)) (k := 3 * p + g) (E := E) (T := T) (N := min N (999 - T)) (s0 := st) (mk := mk) (us := us) (v := vC) (by omega) (by omega) (by omega) (by omega) (by omega) n3 n1 (ev_by i6) n4 hs1 hm1 hu1 (by omega) q1 (by rw [q3, ym]) (by rw [q4, yu])
        rw [p1, Option.bind_some, p3.2.2.2.2.2]
        have sM := starvL (v := vM) (k := 3 * p + g) (E := E) (T := T) (N := N) (N' := min N (999 - T)) (s0 := st) (mk := mk) (us := us) hk n3 n2 t2 (fun e he => ⟨(n6 e he).2.2.1, (n6 e he).2.2.2⟩) hs1 ym yu hm1 hu1 t3 hN1 rfl FU 0 (by omega) (by unfold FU; omega) rfl
        rw [fl, Nat.add_zero] at sM
        rw [sM]
        have hB : (fun t => Bk (vC 5) (vC 6) (vC 7) (3 * p + g) t E) = (fun t => Bk (vM 12) (vM 13) (vM 14) (3 * p + g) t E) := funext fun t => Bk_alike i6 _ t
        rw [hB]
        refine ⟨_, v', vM, rfl, rfl, hI.ag ⟨fun c hc => p2 c (by omega), fun c h1 h2 => p2 c (by omega), fun c h1 h2 => p2 c (by omega), by rw [p2 15 (by omega)]⟩ (agM.rf _)⟩
      · rw [e3, e4, bi_s, bi_s, if_pos z00, if_pos z00]
        exact ⟨_, _, _, rfl, rfl, hI⟩
    · rw [e1, e2, bi_s, bi_s, if_pos z00, if_pos z00]
      exact ⟨_, _, _, rfl, rfl, hI⟩
  · rw [e1, e2, bi_s, bi_s, if_pos z00, if_pos z00]
    exact ⟨_, _, _, rfl, rfl, hI⟩
