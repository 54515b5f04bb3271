section
variable {P T F S E : Nat} {vC vM : VV}
def skJ (p g : Nat) (v0 v : VV) : Prop := (∀ c, c ≠ 19 → c ≠ 20 → v c = v0 c) ∧ ∀ k, k < 3 * p + g → v 19 k = v0 (37 + k) 1 ∧ v 20 k = v0 1 4
theorem skG {p : Nat} {i1 i3 : Int32} {v0 : VV} {K : Nat → Int32 → Int32 → Int32 → VV → Option (Int32 × VV)} (hp : p < 6) (h0 : ∀ k, k < 18 → v0 (37 + k) 0 = nI k) : ∀ (n g : Nat) (v : VV), g ≤ 3 → 3 - g < n → skJ p g v0 v → ∃ v', f_X3_seek_l34 K n 15 i1 i3 (nI p) (nI g) v = K 15 i1 i3 (nI p) v' ∧ skJ (p + 1) 0 v0 v'
  | 0, g, v, _, h, _ => by omega
  | n + 1, g, v, hg, hn, hJ => by
    rw [f_X3_seek_l34]
    by_cases e : g = 3
    · subst e
      rw [if_pos (by decide)]
      exact ⟨v, rfl, hJ.1, fun k hk => hJ.2 k (by omega)⟩
    · have tk : (nI (3 * p + g)).toNatClampNeg = 3 * p + g := tn (by omega)
      have ik : inB (nI (3 * p + g)) 18 = true := inB_n (by omega) (by omega)
      have hk0 : v (37 + (3 * p + g)) 0 = nI (3 * p + g) := by rw [hJ.1 _ (by omega) (by omega), h0 _ (by omega)]
      rw [if_neg (show ¬ (3 : Int32) ≤ nI g from nI_ge (b := 3) (by omega) (by omega)), rfCf0, shelfE hp (by omega), bi_s, shelfE hp (by omega), bi_s, hk0, rfCf4, lnC19, gd_t ik, nv_q, shelfE hp (by omega), bi_s, wu_n (show 37 + (3 * p + g) ≠ 19 by omega), hk0, rfCf5, lnC20, gd_t ik, nv_q, nv_q, nI_1, tk]
      refine skG hp h0 n (g + 1) _ (by omega) (by omega) ⟨fun c h1 h2 => by rw [wu_n h2, wu_n h1, hJ.1 c h1 h2], fun k hk => ?_⟩
      rw [wu_n (show 19 ≠ 20 by omega), wu_c, wu_c, wu_n (show 20 ≠ 19 by omega), wu_n (show 1 ≠ 19 by omega), hJ.1 1 (by omega) (by omega), hJ.1 (37 + (3 * p + g)) (by omega) (by omega)]
      by_cases e2 : k = 3 * p + g
      · rw [if_pos e2, if_pos e2, e2]
        exact ⟨rfl, rfl⟩
      · rw [if_neg e2, if_neg e2]
        exact hJ.2 k (by omega)
theorem skP {i1 i3 : Int32} {v0 : VV} {K : Nat → Int32 → Int32 → VV → Option (Int32 × VV)} (hP : P ≤ 6) (hP3 : v0 1 3 = nI P) (h0 : ∀ k, k < 18 → v0 (37 + k) 0 = nI k) : ∀ (n p : Nat) (v : VV), p ≤ P → P - p < n → skJ p 0 v0 v → ∃ v', f_X3_seek_l19 K n 15 i1 i3 (nI p) v = K 15 i1 i3 v' ∧ skJ P 0 v0 v'
  | 0, p, v, _, h, _ => by omega
  | n + 1, p, v, hp, hn, hJ => by
    rw [f_X3_seek_l19, rfCf0, hJ.1 1 (by omega) (by omega), hP3]
    by_cases e : p = P
    · subst e
      rw [if_pos (nI_le (Nat.le_refl _) (by omega))]
      exact ⟨v, rfl, hJ⟩
    · rw [if_neg (nI_ge (by omega) (by omega))]
      obtain ⟨v1, g1, g2⟩ := skG (i1 := i1) (i3 := i3) (K := fun c0_28 i1_28 i3_28 i5_28 v_28 =>
      nv (i5_28 + 1) fun x29 =>
      f_X3_seek_l19 K n c0_28 i1_28 i3_28 x29 v_28) (show p < 6 by omega) h0 FU 0 v (by omega) (by unfold FU; omega) hJ
      rw [nI_0] at g1
      rw [g1, nv_q, nI_1]
      exact skP hP hP3 h0 n (p + 1) v1 (by omega) (by omega) g2
theorem seekP {h kk sh : Nat} (i1 : iSc P T F S vC vM) (i2 : iSh P vC vM) (i3 : iPo vC vM) (i4 : iWy vC vM) (i5 : iSp P S vC vM) (i6 : iEv P T E vC vM) (hh : h ≤ 20) (hkk : kk ≤ 3) (hw : wfS P (σM vM T sh)) : ∃ (x : Int32) (v' : VV), F_X3_seek 15 (nI (vM 15 sh).toNatClampNeg) (nI h) (nI (vM 17 sh).toNatClampNeg) (nI kk) vC = some (x, v') ∧ x = v' 15 10 ∧ (∀ c, c < 15 → v' c = vC c) ∧ (∀ c, 25 ≤ c → c < 75 → v' c = vC c) ∧ (∀ d, d < 4 → v' (79 + d) 3 = 0) ∧ bC kk (4 * P) vC v' (srD (tpp vM F E h) cnS (4 * P) kk (σM vM T sh) 0 none) := by
  have hP6 := i1.1.2.2
  have hp := pfz_of i1 i2 i3 i4 i6
  unfold F_X3_seek f_X3_seek
  rw [nv_q, nv_q, nv_q]
  have e0 : ∀ c, c ≠ 15 → wu (wu (wu vC 15 8 (nI kk)) 15 9 (nI h)) 15 10 0 c = vC c := fun c hc => by rw [wu_n hc, wu_n hc, wu_n hc]
  obtain ⟨v1, g1, g2, g3⟩ := skP (i1 := nI (vM 15 sh).toNatClampNeg) (i3 := nI (vM 17 sh).toNatClampNeg) (v0 := wu (wu (wu vC 15 8 (nI kk)) 15 9 (nI h)) 15 10 0) (K := fun c0_30 i1_30 i3_30 v_30 =>
  gd (inB 0 (lnC (rfC c0_30 3)) = true) <|
  (F_X3_arrive c0_30 (rfC (rfC c0_30 3) (Int32.toNatClampNeg 0)) i1_30 (v_30 (rfC c0_30 0) 4) i3_30 v_30).bind fun v36 =>
  (fx_X3_extend 5 c0_30 0 v36).bind fun v38 =>
  gd ((v38 c0_30 10) &&& 1 = (v38 c0_30 10)) <|
  some ((v38 c0_30 10), v38)) hP6 (by rw [e0 1 (by omega), i1.1.1]) (fun k hk => by rw [e0 _ (by omega), (i2 k hk).1]) FU 0 (wu (wu (wu vC 15 8 (nI kk)) 15 9 (nI h)) 15 10 0) (by omega) (by unfold FU; omega) ⟨fun _ _ _ => rfl, fun k hk => by omega⟩
  rw [nI_0] at g1
  rw [g1, rfCf3, lnC18, gd_t (by decide), tz0, rfC18, rfCf0, g2 1 (by omega) (by omega), e0 1 (by omega), i1.2.1.1]
  unfold F_X3_arrive f_X3_arrive
  rw [nv_q, nv_q, nv_q, Option.bind_some]
  have u0 : ∀ c, c ≠ 15 → c ≠ 19 → c ≠ 20 → c ≠ 75 → wu (wu (wu v1 (75 + 0) 0 (nI (vM 15 sh).toNatClampNeg)) (75 + 0) 1 (nI T)) (75 + 0) 2 (nI (vM 17 sh).toNatClampNeg) c = vC c := fun c h1 h2 h3 h4 => by rw [wu_n (by omega), wu_n (by omega), wu_n (by omega), g2 c h2 h3, e0 c h1]
  have u15 : ∀ j, wu (wu (wu v1 (75 + 0) 0 (nI (vM 15 sh).toNatClampNeg)) (75 + 0) 1 (nI T)) (75 + 0) 2 (nI (vM 17 sh).toNatClampNeg) 15 j = wu (wu (wu vC 15 8 (nI kk)) 15 9 (nI h)) 15 10 0 15 j := fun j => by rw [wu_n (by omega), wu_n (by omega), wu_n (by omega), g2 15 (by omega) (by omega)]
  have s0 : wu (wu (wu v1 (75 + 0) 0 (nI (vM 15 sh).toNatClampNeg)) (75 + 0) 1 (nI T)) (75 + 0) 2 (nI (vM 17 sh).toNatClampNeg) (75 + 0) 0 = nI (vM 15 sh).toNatClampNeg := by rw [wu_j (by omega), wu_j (by omega), wu_s]
  have s1 : wu (wu (wu v1 (75 + 0) 0 (nI (vM 15 sh).toNatClampNeg)) (75 + 0) 1 (nI T)) (75 + 0) 2 (nI (vM 17 sh).toNatClampNeg) (75 + 0) 1 = nI T := by rw [wu_j (by omega), wu_s]
  have s2 : wu (wu (wu v1 (75 + 0) 0 (nI (vM 15 sh).toNatClampNeg)) (75 + 0) 1 (nI T)) (75 + 0) 2 (nI (vM 17 sh).toNatClampNeg) (75 + 0) 2 = nI (vM 17 sh).toNatClampNeg := wu_s
  have l19 : ∀ k, k < 3 * P → wu (wu (wu v1 (75 + 0) 0 (nI (vM 15 sh).toNatClampNeg)) (75 + 0) 1 (nI T)) (75 + 0) 2 (nI (vM 17 sh).toNatClampNeg) 19 k = vC (37 + k) 1 ∧ wu (wu (wu v1 (75 + 0) 0 (nI (vM 15 sh).toNatClampNeg)) (75 + 0) 1 (nI T)) (75 + 0) 2 (nI (vM 17 sh).toNatClampNeg) 20 k = nI T := fun k hk => by
    rw [wu_n (by omega), wu_n (by omega), wu_n (by omega), wu_n (by omega), wu_n (by omega), wu_n (by omega)]
    have := g3 k (by omega)
    rw [e0 (37 + k) (by omega), e0 1 (by omega), i1.2.1.1] at this
    exact this
  generalize wu (wu (wu v1 (75 + 0) 0 (nI (vM 15 sh).toNatClampNeg)) (75 + 0) 1 (nI T)) (75 + 0) 2 (nI (vM 17 sh).toNatClampNeg) = u at *
  obtain ⟨v2, k1, k2, k3⟩ := exE (h := h) (kk := kk) i1 i2 i3 i4 i6 hp hh hkk 5 0 kk (by omega) (by omega) (σM vM T sh) 0 none u hw (by
    refine ⟨⟨fun c hc => u0 c (by omega) (by omega) (by omega) (by omega), fun c h1 h2 => u0 c (by omega) (by omega) (by omega) (by omega)⟩, fun k hk => ?_, s0, s1, s2, by rw [u15, wu_j (by omega), wu_j (by omega), wu_s], by rw [u15, wu_j (by omega), wu_s], fun d hd => by rw [u0 _ (by omega) (by omega) (by omega) (by omega)]; exact (i5 d hd).2.2.2⟩
    obtain ⟨a1, a2⟩ := l19 k hk
    have b := bnd_f (i2 k (by omega)).2.2.2.2.2.2.2.1 (by omega)
    refine ⟨(vM 1 k).toNatClampNeg, T, ?_, a2, b.2.2, Nat.le_refl _, ?_⟩
    · rw [a1, (i2 k (by omega)).2.1]
      exact b.1
    · dsimp only
      rw [Nat.sub_self]
      rfl) (fun i hi => by omega) ⟨by rw [u15, wu_s], by rw [u15, wu_j (by omega), wu_j (by omega), wu_j (by omega)], u0 23 (by omega) (by omega) (by omega) (by omega), u0 24 (by omega) (by omega) (by omega) (by omega)⟩
  rw [nI_0] at k1
  rw [k1, Option.bind_some]
  obtain ⟨a1, a2, a3, a4, a5, a6, a7, a8, a9⟩ := k2
  have hf : v2 15 10 = 0 ∨ v2 15 10 = 1 := by
    cases hD : srD (tpp vM F E h) cnS (4 * P) kk (σM vM T sh) 0 none with
    | none => rw [hD] at k3; exact Or.inl k3.1
    | some y => rw [hD] at k3; exact Or.inr k3.1
  rw [gd_t (by rcases hf with h9 | h9 <;> rw [h9] <;> decide)]
  exact ⟨_, v2, rfl, rfl, fun c hc => by rw [a1 c hc, u0 c (by omega) (by omega) (by omega) (by omega)], fun c h1 h2 => by rw [a2 c h1 h2, u0 c (by omega) (by omega) (by omega) (by omega)], fun d hd => by rw [a9 d hd, u0 _ (by omega) (by omega) (by omega) (by omega)]; exact (i5 d hd).2.2.2, k3⟩
end
abbrev planK : Int32 → VV → Option (Int32 × VV) := fun i5_68 v_68 =>
        if (0 ≤ i5_68) then
          some (i5_68, v_68)
        else
          some ((-5), v_68)
theorem st_plan : Step_plan Inv := by
  intro vC vM hI a0 a1
  obtain ⟨P, T, F, S, E, i1, i2, i3, i4, i5, i6, i7⟩ := id hI
  have hP6 := i1.1.2.2
  unfold F_X10_plan f_X10_plan F_X11_plan f_X11_plan
  rcases isS i1 a0 with ⟨sh, hsh, rfl, e1, e2⟩ | ⟨-, e1, e2⟩
  · rw [e1, e2, bi_s, bi_s, if_neg n10, if_neg n10]
    rcases win a1 1 3 1 3 (by decide) (by decide) vC vM with ⟨h1, h2, e3, e4⟩ | ⟨-, e3, e4⟩
    · rw [e3, e4, bi_s, bi_s, if_neg n10, if_neg n10, nv_q, i1.1.2.1]
      obtain ⟨kk, hk0, hk1, rfl⟩ := bnd_of (lo := 1) (hi := 3) (by decide) h1 h2 (by decide)
      have S4 := i1.2.2.2.1.2.2
      have ts : (nI sh).toNatClampNeg = sh := tn (by omega)
      have is_ : inB (nI sh) 4 = true := inB_n (by omega) (by omega)
      obtain ⟨x1, x2, x3, x9⟩ := i5 sh (by omega)
      obtain ⟨y1, y2, y3, ⟨p, hp, y4⟩, y5, h, hh0, hh1, y6, -⟩ := x1 hsh
      have b17 := bnd_f y5 (by omega)
      have b15 : vM 15 sh = nI (vM 15 sh).toNatClampNeg := by rw [y4, tn (by omega)]
      have hpz := pfz_of i1 i2 i3 i4 i6
      have hst : ∀ k, k < 3 * P → vM 1 k = nI (vM 1 k).toNatClampNeg ∧ (vM 1 k).toNatClampNeg ≤ 1000 := fun k hk => by
        have b := bnd_f (i2 k (by omega)).2.2.2.2.2.2.2.1 (by omega)
        exact ⟨b.1, b.2.2⟩
      have hw : wfS P (σM vM T sh) := ⟨i1.2.1.2.2, fun k hk => (hst k hk).2, b17.2.2, by
        dsimp only
        rw [y4, tn (by omega)]
        exact hp⟩
      obtain ⟨x, v', g1, g2, g3, g4, g5, g6⟩ := seekP (h := h) (kk := kk) i1 i2 i3 i4 i5 i6 hh1 hk1 hw
      rw [← b15, ← b17.1, ← y6, ← y1, ← y2, ← y3] at g1
      have hA : (4 * P) ^ kk ≤ 13824 := by
        have h1 : (4 * P) ^ kk ≤ 24 ^ kk := Nat.pow_le_pow_left (by omega) kk
        have h2 : 24 ^ kk ≤ 24 ^ 3 := Nat.pow_le_pow_right (by omega) hk1
        have h3 : (24 : Nat) ^ 3 = 13824 := by decide
        omega
      obtain ⟨i5', w', k1, k2, k3⟩ := enuL (T := T) (h := h) (k := kk) (sh := sh) (K := planK) hpz hh1 hk1 (by omega) y6 (by omega) i1.2.1.2.1 b17.1 b15 (fun k hk => (hst k hk).1) hw FU 0 (-1) vM (by omega) (by unfold FU; omega) ⟨fun _ _ _ => rfl, fun _ _ => rfl⟩ ⟨rfl, rfl, rfl, rfl⟩
      have hD := enu_D (tpp vM F E h) cnS (4 * P) (σM vM T sh) kk kk 0 0 none (by omega)
      rw [Nat.zero_mul, runc] at hD
      dsimp only at hD
      rw [hD] at k3
      rw [nI_0] at k1
      have hM : (if nI kk = 1 then f_X11_plan_l65 planK FU 0 (nI sh) (nI kk) (4 * nI P) (4 * nI P) (-1) 0 vM else if nI kk = 2 then nv (4 * nI P * (4 * nI P)) fun x66 => f_X11_plan_l65 planK FU 0 (nI sh) (nI kk) (4 * nI P) x66 (-1) 0 vM else nv (4 * nI P * (4 * nI P) * (4 * nI P)) fun x8 => f_X11_plan_l65 planK FU 0 (nI sh) (nI kk) (4 * nI P) x8 (-1) 0 vM) = planK i5' w' := by
        have e4P : 4 * nI P = nI (4 * P) := pk_mul (a := 4) (b := P)
        rw [e4P]
        rcases (show kk = 1 ∨ kk = 2 ∨ kk = 3 by omega) with rfl | rfl | rfl
        · rw [if_pos (by decide)]
          rw [Nat.pow_one] at k1
          exact k1
        · rw [if_neg (by decide), if_pos (by decide), nv_q, pk_mul]
          rw [Nat.pow_two] at k1
          exact k1
        · rw [if_neg (by decide), if_neg (by decide), nv_q, pk_mul, pk_mul]
          rw [show (4 * P) ^ 3 = 4 * P * (4 * P) * (4 * P) by rw [Nat.pow_succ, Nat.pow_two]] at k1
          exact k1
      rw [rfC01, lnC8, gd_t is_, rfC0b, rfC8, ts, g1, bi_s, hM]
      have inv : iPl v' w' → Inv v' w' := fun j7 => by
        refine ⟨P, T, F, S, E, iSc_c i1 (fun j _ _ => by rw [g3 0 (by omega)]) (fun j _ _ => by rw [g3 1 (by omega)]) (fun j hj => k2.2 j (by omega)), iSh_c i2 (fun k hk => g4 _ (by omega) (by omega)) (fun c h1 h2 => k2.1 c h1 (by omega)), iPo_c i3 (fun k hk => g4 _ (by omega) (by omega)) (fun c h1 h2 => k2.1 c (by omega) (by omega)), iWy_c i4 (fun k hk => g4 _ (by omega) (by omega)) (k2.1 11 (by omega) (by omega)), fun s hs => ?_, iEv_c i6 (by rw [g3 4 (by omega)]) (fun c _ _ => g3 c (by omega)) (k2.2 22 (by omega)) (fun c h1 h2 => k2.1 c (by omega) (by omega)), j7⟩
        obtain ⟨z1, z2, z3, z9⟩ := i5 s hs
        rw [g4 (67 + s) (by omega) (by omega), g4 (71 + s) (by omega) (by omega), k2.1 15 (by omega) (by omega), k2.1 16 (by omega) (by omega), k2.1 17 (by omega) (by omega), k2.1 18 (by omega) (by omega)]
        exact ⟨z1, z2, z3, g5 s hs⟩
      unfold planK
      cases hB : srD (tpp vM F E h) cnS (4 * P) kk (σM vM T sh) 0 none with
      | none =>
        rw [hB] at g6 k3
        obtain ⟨c1, c2, c3, c4⟩ := g6
        obtain ⟨d1, d2, d3, d4⟩ := k3
        rw [g2, c1, if_pos rfl, d1, if_neg (by decide)]
        exact ⟨_, _, _, rfl, rfl, inv (iPl_c i7 c2 c3 c4 d2 d3 d4)⟩
      | some y =>
        obtain ⟨c, a⟩ := y
        rw [hB] at g6 k3
        obtain ⟨c1, c2, c3, c4, c5⟩ := g6
        obtain ⟨d1, d2, d3, d4⟩ := k3
        rw [g2, c1, if_neg n10, c2, d1, if_pos (show (0 : Int32) ≤ nI c from nI_le (a := 0) (by omega) (by omega))]
        refine ⟨_, _, _, rfl, rfl, inv ⟨kk, hk1, c4, d3, fun i hi => ?_⟩⟩
        rw [(c5 i hi).1, (c5 i hi).2, (d4 i hi).1, (d4 i hi).2]
        exact ⟨rfl, rfl⟩
    · rw [e3, e4, bi_s, bi_s, if_pos z00, if_pos z00]
      exact ⟨_, vC, vM, rfl, rfl, hI⟩
  · rw [e1, e2, bi_s, bi_s, if_pos z00, if_pos z00]
    exact ⟨_, vC, vM, rfl, rfl, hI⟩
