theorem ltS {P : Nat} {o : Nat → Nat → Nat} {f : Nat → Nat} {m x : Nat} (hf : cand P o f m) : Q1 (fun _ => x) 1 P f m ↔ ltL f m (fun _ => x + 1) 1 := by
  have hm := hf.1
  unfold Q1 ltL
  constructor
  · rintro (⟨i, h1, h2, h3, h4⟩ | ⟨h1, h2⟩)
    · refine ⟨0, by omega, by omega, fun j hj => by omega, ?_⟩
      have : i = 0 := by omega
      subst this
      right
      rcases h4 with h4 | h4
      · omega
      · dsimp only at h4 ⊢
        omega
    · refine ⟨0, by omega, by omega, fun j hj => by omega, Or.inr ?_⟩
      have := h1 0 (by omega)
      dsimp only at this ⊢
      omega
  · rintro ⟨i, h1, h2, h3, h4⟩
    have : i = 0 := by omega
    subst this
    have h4 : f 0 < x + 1 := by
      rcases h4 with h4 | h4
      · omega
      · exact h4
    by_cases e : f 0 = x
    · right
      refine ⟨fun i hi => by rw [show i = 0 by omega]; exact e, Or.inr ⟨by omega, hf.2.1.1 1 (by omega)⟩⟩
    · left
      exact ⟨0, by omega, by omega, fun j hj => by omega, Or.inr (by dsimp only; omega)⟩
section
variable {P T F S h : Nat} {vC vM : VV}
theorem seekL (i1 : iSc P T F S vC vM) (i3 : iPo vC vM) (i4 : iWy vC vM) (hf : frz P F vM) (hh : h ≤ 20) : ∀ (n x : Nat) (b : Nat → Nat) (bm : Nat) (gv lv : Int) (v : VV), x ≤ P → P - x < n → eJ P F h vC vM v → rS v bm b gv lv → isMax P (oo vM) (legI vM F h) (HW vM) (fun f m => ltL f m (fun _ => x) 1) bm b gv lv → ∃ (v' : VV) (bm' : Nat) (b' : Nat → Nat) (gv' lv' : Int), f_X5_seek_l12 n 11 (nI x) v = some v' ∧ (∀ c', c' ≠ 11 → c' ≠ 13 → c' ≠ 14 → v' c' = v c') ∧ rS v' bm' b' gv' lv' ∧ isMax P (oo vM) (legI vM F h) (HW vM) (fun f m => ltL f m (fun _ => P) 1) bm' b' gv' lv'
  | 0, x, b, bm, gv, lv, v, _, hn, _, _, _ => by omega
  | n + 1, x, b, bm, gv, lv, v, hx, hn, hJ, hS, hM => by
    have hP := hf.1
    rw [f_X5_seek_l12, rfCb0, hJ.1 1 (by omega) (by omega) (by omega) (by omega), i1.1.1]
    by_cases e : x = P
    · subst e
      rw [if_pos (nI_le (Nat.le_refl _) (by omega))]
      exact ⟨v, bm, b, gv, lv, rfl, fun _ _ _ _ => rfl, hS, hM⟩
    · rw [if_neg (nI_ge (by omega) (by omega)), rfCb2, lnC13, gd_t (by decide), nv_q, tz0]
      have hJ' : eJ P F h vC vM (wu v 13 0 (nI x)) := eJ_c hJ (fun c' _ h3 _ => wu_n h3)
      obtain ⟨v1, bm1, b1, gv1, lv1, g1, g2, g3, g4, g5⟩ := extC i1 i3 i4 hf hh 8 1 (by omega) (by omega) (by omega) (fun _ => x) b bm gv lv (wu v 13 0 (nI x)) ⟨fun i hi => by dsimp only; omega, fun i j h1 h2 => by omega, fun i h1 h2 => by omega, fun i h1 => by omega⟩ hJ' (fun i hi => by rw [show i = 0 by omega, wu_s]) ⟨by rw [wu_n (by omega)]; exact hS.1, by rw [wu_n (by omega)]; exact hS.2.1, by rw [wu_n (by omega)]; exact hS.2.2.1, fun i hi => by rw [wu_n (by omega)]; exact hS.2.2.2 i hi⟩ hM
      have g1' : fx_X5_extend 8 11 1 0 0 (wu v 13 0 (nI x)) = some v1 := g1
      rw [g1', Option.bind_some, nv_q, nI_1]
      have e3 : ∀ c', c' ≠ 11 → c' ≠ 13 → c' ≠ 14 → v1 c' = v c' := fun c' h1 h2 h3 => by rw [g2 c' h1 h2 h3, wu_n h2]
      obtain ⟨v2, bm2, b2, gv2, lv2, k1, k2, k4, k5⟩ := seekL i1 i3 i4 hf hh n (x + 1) b1 bm1 gv1 lv1 v1 (by omega) (by omega) (eJ_c hJ e3) g4 (isMax_eq g5 (fun f m hfm => (ltS hfm).symm))
      exact ⟨v2, bm2, b2, gv2, lv2, k1, fun c' h1 h2 h3 => by rw [k2 c' h1 h2 h3, e3 c' h1 h2 h3], k4, k5⟩
theorem seekE (i1 : iSc P T F S vC vM) (i2 : iSh P vC vM) (i3 : iPo vC vM) (i4 : iWy vC vM) (hh : h ≤ 20) : ∃ (v' : VV) (bm' : Nat) (b' : Nat → Nat) (gv' lv' : Int) (Q : (Nat → Nat) → Nat → Prop), F_X5_seek 11 (nI h) vC = some v' ∧ (∀ c', c' ≠ 11 → c' ≠ 13 → c' ≠ 14 → c' < 61 ∨ 67 ≤ c' → v' c' = vC c') ∧ rS v' bm' b' gv' lv' ∧ (∀ f m, cand P (oo vM) f m → Q f m) ∧ isMax P (oo vM) (legI vM F h) (HW vM) Q bm' b' gv' lv' := by
  have hf := frz_of i1 i2 i3 i4
  unfold F_X5_seek f_X5_seek
  rw [nv_q]
  obtain ⟨v1, g1, g2, g3⟩ := fillE (h := h) (v := wu vC 11 4 0) i1 i2 i3 i4 hf (fun c hc => wu_n hc)
  rw [g1, Option.bind_some]
  have e1 : ∀ c, c ≠ 11 → c < 61 ∨ 67 ≤ c → v1 c = vC c := fun c h1 h2 => by rw [g2 c h2, wu_n h1]
  obtain ⟨v2, bm2, b2, gv2, lv2, k1, k2, k4, k5⟩ := seekL (h := h) i1 i3 i4 hf hh FU 0 (fun _ => 0) 0 (v1 11 5).toInt (v1 11 6).toInt v1 (by omega) (by unfold FU; have := hf.1; omega) ⟨fun c h1 h2 _ _ => e1 c h2 (by omega), g3⟩ ⟨by rw [g2 11 (by omega), wu_s]; rfl, by unfold iI; rw [Int32.ofInt_toInt], by unfold iI; rw [Int32.ofInt_toInt], fun i hi => by omega⟩ (Or.inl ⟨rfl, fun f m hfm => by
    rintro ⟨i, h1, h2, h3, h4⟩
    have : i = 0 := by omega
    subst this
    have := hfm.1
    dsimp only at h4
    omega⟩)
  rw [nI_0] at k1
  refine ⟨v2, bm2, b2, gv2, lv2, _, k1, fun c h1 h2 h3 h4 => by rw [k2 c h1 h2 h3, e1 c h1 h4], k4, fun f m hfm => ?_, k5⟩
  exact ⟨0, by omega, by omega, fun j hj => by omega, Or.inr (hfm.2.1.1 0 (by have := hfm.1; omega))⟩
end
