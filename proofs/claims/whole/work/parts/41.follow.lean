theorem rfC40 : rfC 4 0 = 5 := rfl
theorem rfC41 : rfC 4 1 = 6 := rfl
theorem rfC42 : rfC 4 2 = 7 := rfl
theorem lnC5 : lnC 5 = 20 := rfl
theorem lnC6 : lnC 6 = 20 := rfl
theorem lnC7 : lnC 7 = 20 := rfl
theorem bringL {d c1 k t E s0 : Nat} {i5 br : Int32} {f5 f6 f7 : Nat → Int32} {K : Nat → Nat → Nat → Int32 → Int32 → Int32 → VV → Option VV} (hd : c1 ≠ d) (hd4 : 4 ≠ d) (hd5 : 5 ≠ d) (hd6 : 6 ≠ d) (hd7 : 7 ≠ d) (E20 : E ≤ 20) (hb : ∀ i, i < E → -1000 ≤ f7 i ∧ f7 i ≤ 1000) (hsort : ∀ i j, i ≤ j → j < E → f5 i ≤ f5 j) (hs0 : s0 ≤ 1000) : ∀ (n e : Nat) (v : VV), v 4 3 = nI E → v 5 = f5 → v 6 = f6 → v 7 = f7 → v c1 0 = nI k → e ≤ E → E - e < n → (∀ i, i < e → f5 i ≤ nI t) → v d 0 = nI (evS (Bk f5 f6 f7 k t e) s0) → v d 3 = br + (nI (evS (Bk f5 f6 f7 k t e) s0) - nI s0) → ∃ (e' : Nat) (v' : VV), f_X2_follow_l45 K n d c1 4 i5 (nI e) (nI t) v = K d c1 4 i5 (nI e') (nI t) v' ∧ e' ≤ E ∧ (∀ i, i < e' → f5 i ≤ nI t) ∧ (∀ c, c ≠ d → v' c = v c) ∧ (∀ j, j ≠ 0 → j ≠ 3 → v' d j = v d j) ∧ v' d 0 = nI (evS (Bk f5 f6 f7 k t E) s0) ∧ v' d 3 = br + (nI (evS (Bk f5 f6 f7 k t E) s0) - nI s0)
  | 0, e, v, _, _, _, _, _, _, h, _, _, _ => by omega
  | n + 1, e, v, h4, h5, h6, h7, hk, he, hn, ht, h0, h3 => by
    rw [f_X2_follow_l45, h4]
    by_cases hE : e = E
    · subst hE
      rw [if_pos (nI_le (Nat.le_refl _) (by omega))]
      exact ⟨e, v, rfl, he, ht, fun _ _ => rfl, fun _ _ _ => rfl, h0, h3⟩
    · have te : (nI e).toNatClampNeg = e := tn (by omega)
      have ie : inB (nI e) 20 = true := inB_n (by omega) (by omega)
      rw [if_neg (nI_ge (by omega) (by omega))]
      simp only [rfC40, rfC41, rfC42, lnC5, lnC6, lnC7, gd_t ie, te, h5, h6, h7, hk, nv, nI_1]
      by_cases hx : nI t < f5 e
      · rw [if_pos hx]
        have hB : Bk f5 f6 f7 k t E = Bk f5 f6 f7 k t e := by
          have := Bk_ext (f5 := f5) (f6 := f6) (f7 := f7) (k := k) (t := t) (e := e) (E - e) (fun i h1 h2 h9 => by
            have := hsort e i h1 (by omega)
            rw [h9] at this
            rw [Int32.lt_iff_toInt_lt] at hx
            rw [Int32.le_iff_toInt_le] at this
            omega)
          rw [show e + (E - e) = E by omega] at this
          exact this
        rw [hB]
        exact ⟨e, v, rfl, he, ht, fun _ _ => rfl, fun _ _ _ => rfl, h0, h3⟩
      · rw [if_neg hx]
        have ht' : ∀ i, i < e + 1 → f5 i ≤ nI t := by
          intro i hi
          by_cases h : i = e
          · subst h
            rw [Int32.lt_iff_toInt_lt] at hx
            rw [Int32.le_iff_toInt_le]
            omega
          · exact ht i (by omega)
        by_cases h1 : f5 e = nI t
        · rw [if_pos h1]
          by_cases h2 : f6 e = nI k
          · rw [if_pos h2]
            have hle := evS_le (Bk f5 f6 f7 k t e) s0 hs0
            rw [bringE h0 hle (hb e (by omega)).1 (hb e (by omega)).2, Option.bind_some]
            obtain ⟨e', v', g1, g2, g3, g4, g5, g6, g7⟩ := bringL (K := K) (i5 := i5) (br := br) hd hd4 hd5 hd6 hd7 E20 hb hsort hs0 n (e + 1) (wu (wu v d 3 (v d 3 + (nI (hld (evS (Bk f5 f6 f7 k t e) s0) (f7 e)) - nI (evS (Bk f5 f6 f7 k t e) s0)))) d 0 (nI (hld (evS (Bk f5 f6 f7 k t e) s0) (f7 e)))) (by rw [wu_n hd4, wu_n hd4, h4]) (by rw [wu_n hd5, wu_n hd5, h5]) (by rw [wu_n hd6, wu_n hd6, h6]) (by rw [wu_n hd7, wu_n hd7, h7]) (by rw [wu_n hd, wu_n hd, hk]) (by omega) (by omega) ht' (by rw [wu_s, Bk, if_pos ⟨h1, h2⟩, evS_snoc]) (by rw [wu_j (by omega), wu_s, Bk, if_pos ⟨h1, h2⟩, evS_snoc, h3, i_tele])
            refine ⟨e', v', g1, g2, g3, fun c hc => by rw [g4 c hc, wu_n hc, wu_n hc], fun j j0 j3 => by rw [g5 j j0 j3, wu_j j0, wu_j j3], g6, g7⟩
          · rw [if_neg h2]
            exact bringL hd hd4 hd5 hd6 hd7 E20 hb hsort hs0 n (e + 1) v h4 h5 h6 h7 hk (by omega) (by omega) ht' (by rw [Bk, if_neg (fun h => h2 h.2)]; exact h0) (by rw [Bk, if_neg (fun h => h2 h.2)]; exact h3)
        · rw [if_neg h1]
          exact bringL hd hd4 hd5 hd6 hd7 E20 hb hsort hs0 n (e + 1) v h4 h5 h6 h7 hk (by omega) (by omega) ht' (by rw [Bk, if_neg (fun h => h1 h.1)]; exact h0) (by rw [Bk, if_neg (fun h => h1 h.1)]; exact h3)
theorem fk_lt {B : Nat → List Int32} {mk us T s0 : Nat} : ∀ (n x : Nat), fk B mk us T s0 n = some x → T ≤ x ∧ x < T + n
  | 0, x, h => by simp [fk] at h
  | n + 1, x, h => by
    rw [fk] at h
    cases hf : fk B mk us T s0 n with
    | some y =>
      rw [hf] at h
      dsimp only at h
      have := fk_lt n y hf
      have e : y = x := Option.some.inj h
      omega
    | none =>
      rw [hf] at h
      dsimp only at h
      split at h
      · exact absurd h (by simp)
      · have e := Option.some.inj h
        omega
def flAt (v : VV) (d : Nat) (r : Nat × Int32 × Int32 × Int32 × Int32) (o : Option Nat) : Prop := v d 0 = nI r.1 ∧ v d 1 = r.2.1 ∧ v d 2 = r.2.2.1 ∧ v d 3 = r.2.2.2.1 ∧ v d 4 = r.2.2.2.2 ∧ v d 5 = fkI o
theorem followL {d c1 k E T N s0 mk us : Nat} {f5 f6 f7 : Nat → Int32} (hd : c1 ≠ d) (hd4 : 4 ≠ d) (hd5 : 5 ≠ d) (hd6 : 6 ≠ d) (hd7 : 7 ≠ d) (E20 : E ≤ 20) (hb : ∀ i, i < E → -1000 ≤ f7 i ∧ f7 i ≤ 1000) (hsort : ∀ i j, i ≤ j → j < E → f5 i ≤ f5 j) (hs0 : s0 ≤ 1000) (m1 : mk ≤ 50) (u1 : us ≤ 50) (hT : T + N ≤ 2000) : ∀ (n i e : Nat) (v : VV), v 4 3 = nI E → v 5 = f5 → v 6 = f6 → v 7 = f7 → v c1 0 = nI k → v c1 2 = nI mk → v c1 3 = nI us → i ≤ N → N - i < n → e ≤ E → (∀ i', i' < e → f5 i' < nI (T + i)) → flAt v d (fl (fun t => Bk f5 f6 f7 k t E) mk us T s0 i) (fk (fun t => Bk f5 f6 f7 k t E) mk us T s0 i) → ∃ v', f_X2_follow_l38 n d c1 4 (nI (T + N)) (nI e) (nI (T + i)) v = some v' ∧ (∀ c, c ≠ d → v' c = v c) ∧ flAt v' d (fl (fun t => Bk f5 f6 f7 k t E) mk us T s0 N) (fk (fun t => Bk f5 f6 f7 k t E) mk us T s0 N)
  | 0, i, e, v, _, _, _, _, _, _, _, _, h, _, _, _ => by omega
  | n + 1, i, e, v, h4, h5, h6, h7, hk, hm, hu, hi, hn, he, ht, hF => by
    rw [f_X2_follow_l38]
    by_cases hN : i = N
    · subst hN
      rw [if_pos (nI_le (Nat.le_refl _) (by omega))]
      exact ⟨v, rfl, fun _ _ => rfl, hF⟩
    · rw [if_neg (nI_ge (by omega) (by omega))]
      obtain ⟨a0, a1, a2, a3, a4, a5⟩ := hF
      have hfl := fl_le (B := fun t => Bk f5 f6 f7 k t E) (mk := mk) (us := us) (T := T) hs0 i
      have hnil : Bk f5 f6 f7 k (T + i) e = [] := Bk_nil e (fun i' hi' h9 => by
        have := ht i' hi'
        rw [h9, Int32.lt_iff_toInt_lt] at this
        omega)
      obtain ⟨e', v1, g1, g2, g3, g4, g5, g6, g7⟩ := bringL (K := fun c0_20 c1_20 c2_20 i5_20 i6_20 i7_20 v_20 => f_X2_follow_b109 (fun c0 c1 c2 i5 i6 i7 v => f_X2_follow_l38 n c0 c1 c2 i5 i6 i7 v) c0_20 c1_20 c2_20 i5_20 i6_20 i7_20 v_20) (i5 := nI (T + N)) (k := k) (t := T + i) (s0 := (fl (fun t => Bk f5 f6 f7 k t E) mk us T s0 i).1) (br := (fl (fun t => Bk f5 f6 f7 k t E) mk us T s0 i).2.2.2.1) hd hd4 hd5 hd6 hd7 E20 hb hsort hfl FU e v h4 h5 h6 h7 hk he (by unfold FU; omega) (fun i' hi' => by
        have := ht i' hi'
        rw [Int32.lt_iff_toInt_lt] at this
        rw [Int32.le_iff_toInt_le]
        omega) (by rw [hnil, evS_nil, a0]) (by rw [hnil, evS_nil, a3]; grind)
      rw [g1]
      unfold f_X2_follow_b109
      obtain ⟨v2, b1, b2, b3, b4, b5, b6, b7, b8⟩ := muE (t := T + i) hd g6 (evS_le _ _ hfl) (by rw [g4 c1 hd, hm]) (by rw [g4 c1 hd, hu]) m1 u1
      rw [b1, Option.bind_some]
      simp only [nv, nI_1]
      have hv : ∀ c, c ≠ d → v2 c = v c := fun c hc => by rw [b2 c hc, g4 c hc]
      obtain ⟨v', p1, p2, p3⟩ := followL hd hd4 hd5 hd6 hd7 E20 hb hsort hs0 m1 u1 hT n (i + 1) e' v2 (by rw [hv 4 hd4, h4]) (by rw [hv 5 hd5, h5]) (by rw [hv 6 hd6, h6]) (by rw [hv 7 hd7, h7]) (by rw [hv c1 hd, hk]) (by rw [hv c1 hd, hm]) (by rw [hv c1 hd, hu]) (by omega) (by omega) g2 (fun i' hi' => by
        have := g3 i' hi'
        rw [Int32.le_iff_toInt_le, nI_toInt (by omega)] at this
        rw [Int32.lt_iff_toInt_lt, nI_toInt (by omega)]
        omega) (by
        refine ⟨b3, ?_, ?_, ?_, ?_, ?_⟩
        · rw [b4, g5 1 (by omega) (by omega), a1]; rfl
        · rw [b5, g5 2 (by omega) (by omega), a2]; rfl
        · rw [b6, g7]; rfl
        · rw [b7, g5 4 (by omega) (by omega), a4]; rfl
        · rw [b8, g5 5 (by omega) (by omega), a5, fk]
          cases hf : fk (fun t => Bk f5 f6 f7 k t E) mk us T s0 i with
          | some y =>
            have := fk_lt i y hf
            have hne : ¬ fkI (some y) = -6 := by
              intro h9
              have h8 : (nI y).toInt = (-6 : Int32).toInt := by rw [← h9]; rfl
              rw [nI_toInt (by omega)] at h8
              have h7 : (-6 : Int32).toInt = -6 := by decide
              omega
            rw [if_neg hne]
            split <;> rfl
          | none =>
            rw [if_pos (show fkI none = -6 from rfl)]
            split <;> rfl)
      exact ⟨v', p1, fun c hc => by rw [p2 c hc, hv c hc], p3⟩
theorem followE {d c1 k E T N s0 mk us : Nat} {v : VV} (hd : c1 ≠ d) (hd4 : 4 ≠ d) (hd5 : 5 ≠ d) (hd6 : 6 ≠ d) (hd7 : 7 ≠ d) (E20 : E ≤ 20) (hE : v 4 3 = nI E) (hb : ∀ i, i < E → -1000 ≤ v 7 i ∧ v 7 i ≤ 1000) (hsort : ∀ i j, i ≤ j → j < E → v 5 i ≤ v 5 j) (hs0 : s0 ≤ 1000) (m1 : mk ≤ 50) (u1 : us ≤ 50) (hT : T + N ≤ 2000) (hk : v c1 0 = nI k) (hm : v c1 2 = nI mk) (hu : v c1 3 = nI us) : ∃ v', F_X2_follow d c1 4 (nI s0) (nI T) (nI (T + N)) v = some v' ∧ (∀ c, c ≠ d → v' c = v c) ∧ flAt v' d (fl (fun t => Bk (v 5) (v 6) (v 7) k t E) mk us T s0 N) (fk (fun t => Bk (v 5) (v 6) (v 7) k t E) mk us T s0 N) := by
  unfold F_X2_follow f_X2_follow
  simp only [nv]
  have hv : ∀ c, c ≠ d → (wu (wu (wu (wu (wu (wu v d 0 (nI s0)) d 1 0) d 2 0) d 3 0) d 4 0) d 5 (-6)) c = v c := fun c hc => by rw [wu_n hc, wu_n hc, wu_n hc, wu_n hc, wu_n hc, wu_n hc]
  obtain ⟨v', p1, p2, p3⟩ := followL (d := d) (c1 := c1) (k := k) (E := E) (T := T) (N := N) (s0 := s0) (mk := mk) (us := us) (f5 := v 5) (f6 := v 6) (f7 := v 7) hd hd4 hd5 hd6 hd7 E20 hb hsort hs0 m1 u1 hT FU 0 0 (wu (wu (wu (wu (wu (wu v d 0 (nI s0)) d 1 0) d 2 0) d 3 0) d 4 0) d 5 (-6)) (by rw [hv 4 hd4, hE]) (by rw [hv 5 hd5]) (by rw [hv 6 hd6]) (by rw [hv 7 hd7]) (by rw [hv c1 hd, hk]) (by rw [hv c1 hd, hm]) (by rw [hv c1 hd, hu]) (by omega) (by unfold FU; omega) (by omega) (fun i' hi' => by omega) (by
    unfold flAt fl fk fkI
    dsimp only
    refine ⟨?_, ?_, ?_, ?_, ?_, ?_⟩ <;> simp only [wu_g] <;> simp)
  exact ⟨v', p1, fun c hc => by rw [p2 c hc, hv c hc], p3⟩
