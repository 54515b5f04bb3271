def ltL (f : Nat → Nat) (m : Nat) (w : Nat → Nat) (c : Nat) : Prop := ∃ i, i ≤ m ∧ i < c ∧ (∀ j, j < i → f j = w j) ∧ (i = m ∨ f i < w i)
def Q1 (w : Nat → Nat) (c x : Nat) (f : Nat → Nat) (m : Nat) : Prop := ltL f m w c ∨ (agr f w c ∧ (m = c ∨ (c < m ∧ f c < x)))
def upx (w : Nat → Nat) (c x : Nat) : Nat → Nat := fun i => if i = c then x else w i
theorem upx_s {w : Nat → Nat} {c x : Nat} : upx w c x c = x := if_pos rfl
theorem upx_n {w : Nat → Nat} {c x i : Nat} (h : i ≠ c) : upx w c x i = w i := if_neg h
theorem Q1_node {P : Nat} {o : Nat → Nat → Nat} {w f : Nat → Nat} {c m : Nat} (hc : 1 ≤ c) (hf : cand P o f m) : Q1 w c (w 0 + 1) f m ↔ (ltL f m w c ∨ (m = c ∧ agr f w c)) := by
  unfold Q1
  constructor
  · rintro (h | ⟨h, rfl | ⟨h2, h3⟩⟩)
    · exact Or.inl h
    · exact Or.inr ⟨rfl, h⟩
    · have := hf.2.1.2.2.1 c hc h2
      have e := h 0 (by omega)
      omega
  · rintro (h | ⟨rfl, h⟩)
    · exact Or.inl h
    · exact Or.inr ⟨h, Or.inl rfl⟩
theorem Q1_child {w f : Nat → Nat} {c x m : Nat} : ltL f m (upx w c x) (c + 1) ↔ Q1 w c x f m := by
  unfold Q1 ltL
  constructor
  · rintro ⟨i, h1, h2, h3, h4⟩
    by_cases e : i = c
    · subst e
      right
      refine ⟨fun j hj => by rw [h3 j hj, upx_n (by omega)], ?_⟩
      rcases h4 with h5 | h5
      · exact Or.inl h5.symm
      · rw [upx_s] at h5
        by_cases e2 : m = i
        · exact Or.inl e2
        · exact Or.inr ⟨by omega, h5⟩
    · left
      refine ⟨i, h1, by omega, fun j hj => by rw [h3 j hj, upx_n (by omega)], ?_⟩
      rw [upx_n e] at h4
      exact h4
  · rintro (⟨i, h1, h2, h3, h4⟩ | ⟨h, h2⟩)
    · exact ⟨i, h1, by omega, fun j hj => by rw [upx_n (by omega), h3 j hj], by rw [upx_n (by omega)]; exact h4⟩
    · refine ⟨c, by omega, by omega, fun j hj => by rw [upx_n (by omega), h j hj], ?_⟩
      rw [upx_s]
      rcases h2 with h3 | ⟨h3, h4⟩
      · exact Or.inl h3.symm
      · exact Or.inr h4
theorem Q1_after {P : Nat} {o : Nat → Nat → Nat} {w f : Nat → Nat} {c x m : Nat} (hf : cand P o f m) : Q1 w c (x + 1) f m ↔ Q1 (upx w c x) (c + 1) P f m := by
  have e : Q1 (upx w c x) (c + 1) P f m ↔ (Q1 w c x f m ∨ (agr f w c ∧ c < m ∧ f c = x)) := by
    rw [Q1, Q1_child]
    constructor
    · rintro (h | ⟨h, h2⟩)
      · exact Or.inl h
      · refine Or.inr ⟨fun j hj => by rw [h j (by omega), upx_n (by omega)], by omega, ?_⟩
        rw [h c (by omega), upx_s]
    · rintro (h | ⟨h, h2, h3⟩)
      · exact Or.inl h
      · refine Or.inr ⟨fun j hj => ?_, ?_⟩
        · by_cases e : j = c
          · subst e; rw [upx_s, h3]
          · rw [upx_n e, h j (by omega)]
        · by_cases e : m = c + 1
          · exact Or.inl e
          · exact Or.inr ⟨by omega, hf.2.1.1 (c + 1) (by omega)⟩
  rw [e]
  unfold Q1
  constructor
  · rintro (h | ⟨h, h2 | ⟨h2, h3⟩⟩)
    · exact Or.inl (Or.inl h)
    · exact Or.inl (Or.inr ⟨h, Or.inl h2⟩)
    · by_cases e : f c = x
      · exact Or.inr ⟨h, h2, e⟩
      · exact Or.inl (Or.inr ⟨h, Or.inr ⟨h2, by omega⟩⟩)
  · rintro ((h | ⟨h, h2 | ⟨h2, h3⟩⟩) | ⟨h, h2, h3⟩)
    · exact Or.inl h
    · exact Or.inr ⟨h, Or.inl h2⟩
    · exact Or.inr ⟨h, Or.inr ⟨h2, by omega⟩⟩
    · exact Or.inr ⟨h, Or.inr ⟨h2, by omega⟩⟩
theorem Q1_skip {w f : Nat → Nat} {c x m : Nat} (h : agr f w c → c < m → f c ≠ x) : Q1 w c (x + 1) f m ↔ Q1 w c x f m := by
  unfold Q1
  constructor
  · rintro (h1 | ⟨h1, h2 | ⟨h2, h3⟩⟩)
    · exact Or.inl h1
    · exact Or.inr ⟨h1, Or.inl h2⟩
    · have := h h1 h2
      exact Or.inr ⟨h1, Or.inr ⟨h2, by omega⟩⟩
  · rintro (h1 | ⟨h1, h2 | ⟨h2, h3⟩⟩)
    · exact Or.inl h1
    · exact Or.inr ⟨h1, Or.inl h2⟩
    · exact Or.inr ⟨h1, Or.inr ⟨h2, by omega⟩⟩
theorem Q1_end {P : Nat} {w f : Nat → Nat} {c x m : Nat} (h : c < m → f c < x ∧ f c < P) : Q1 w c P f m ↔ Q1 w c x f m := by
  unfold Q1
  constructor
  · rintro (h1 | ⟨h1, h2 | ⟨h2, h3⟩⟩)
    · exact Or.inl h1
    · exact Or.inr ⟨h1, Or.inl h2⟩
    · exact Or.inr ⟨h1, Or.inr ⟨h2, (h h2).1⟩⟩
  · rintro (h1 | ⟨h1, h2 | ⟨h2, h3⟩⟩)
    · exact Or.inl h1
    · exact Or.inr ⟨h1, Or.inl h2⟩
    · exact Or.inr ⟨h1, Or.inr ⟨h2, (h h2).2⟩⟩
theorem rg_b {P : Nat} {G : Nat → Nat → Int} {f : Nat → Nat} (hG : ∀ a b, a < P → b < P → -4000 ≤ G a b ∧ G a b ≤ 4000) : ∀ n, (∀ i, i ≤ n → f i < P) → -(4000 * (n : Int)) ≤ rg G f n ∧ rg G f n ≤ 4000 * (n : Int)
  | 0, _ => by rw [rg]; omega
  | n + 1, h => by
    have h1 := rg_b hG n (fun i hi => h i (by omega))
    have h2 := hG (f n) (f (n + 1)) (h n (by omega)) (h (n + 1) (by omega))
    rw [rg]
    omega
theorem rh_b {P : Nat} {H : Nat → Nat → Int} {f : Nat → Nat} (hH : ∀ a b, a < P → b < P → 0 ≤ H a b ∧ H a b ≤ 9) : ∀ n, (∀ i, i ≤ n → f i < P) → 0 ≤ rg H f n ∧ rg H f n ≤ 9 * (n : Int)
  | 0, _ => by rw [rg]; omega
  | n + 1, h => by
    have h1 := rh_b hH n (fun i hi => h i (by omega))
    have h2 := hH (f n) (f (n + 1)) (h n (by omega)) (h (n + 1) (by omega))
    rw [rg]
    omega
section
variable {P F h : Nat} {vM : VV}
/-- legs of the frozen world -/
theorem hG_b (hf : frz P F vM) (hh : h ≤ 20) : ∀ a b, a < P → b < P → -4000 ≤ legI vM F h a b ∧ legI vM F h a b ≤ 4000 := fun a b ha hb => by
  have := legI_b hf ha hb hh
  omega
theorem hH_b (hf : frz P F vM) : ∀ a b, a < P → b < P → 0 ≤ (WW vM a b : Int) ∧ (WW vM a b : Int) ≤ 9 := fun a b ha hb => by
  have hP := hf.1
  have := (hf.2.2.2.2.2.2 a b (by omega) (by omega)).2.1
  omega
theorem RGb (hf : frz P F vM) (hh : h ≤ 20) {f : Nat → Nat} {m : Nat} (hc : cand P (oo vM) f m) : -24000 ≤ RG (legI vM F h) f m ∧ RG (legI vM F h) f m ≤ 24000 := by
  have hP := hf.1
  obtain ⟨h1, h2, h3⟩ := hc
  have hm := pig_f h2.1 h2.2.1
  have a1 := rg_b (hG_b hf hh) (m - 1) (fun i hi => h2.1 i (by omega))
  have a2 := hG_b hf hh (f (m - 1)) (f 0) (h2.1 _ (by omega)) (h2.1 _ (by omega))
  unfold RG
  omega
theorem RLb (hf : frz P F vM) {f : Nat → Nat} {m : Nat} (hc : cand P (oo vM) f m) : 0 < RG (fun a b => (WW vM a b : Int)) f m ∧ RG (fun a b => (WW vM a b : Int)) f m ≤ 54 := by
  have hP := hf.1
  obtain ⟨h1, h2, h3⟩ := hc
  have hm := pig_f h2.1 h2.2.1
  have a1 := rh_b (hH_b hf) (m - 1) (fun i hi => h2.1 i (by omega))
  have a2 := hH_b hf (f (m - 1)) (f 0) (h2.1 _ (by omega)) (h2.1 _ (by omega))
  have a3 : WW vM (f (m - 1)) (f 0) ≠ 0 := by
    intro e
    apply h3
    unfold oo
    rw [e]
    split
    · split <;> rfl
    · rfl
  unfold RG
  dsimp only
  omega
end
theorem mul_bd {g l : Int} (g1 : -24000 ≤ g) (g2 : g ≤ 24000) (l1 : 0 < l) (l2 : l ≤ 54) : -1296000 ≤ g * l ∧ g * l ≤ 1296000 := by
  have a := Int.mul_le_mul_of_nonneg_right g1 (Int.le_of_lt l1)
  have b := Int.mul_le_mul_of_nonneg_right g2 (Int.le_of_lt l1)
  omega
theorem cmpC {P F h c bm : Nat} {vM v : VV} {w b : Nat → Nat} {gv lv : Int} (hf : frz P F vM) (hh : h ≤ 20) (hS : rS v bm b gv lv) (hM : isMax P (oo vM) (legI vM F h) (fun a b => (WW vM a b : Int)) (fun f m => ltL f m w c) bm b gv lv) (hc : cand P (oo vM) w c) (hw : ∀ i, i < c → v 13 i = nI (w i)) : ∃ (v' : VV) (bm' : Nat) (b' : Nat → Nat) (gv' lv' : Int), F_X5_compare 11 (nI c) (iI (RG (legI vM F h) w c)) (iI (RG (fun a b => (WW vM a b : Int)) w c)) v = some v' ∧ (∀ c', c' ≠ 11 → c' ≠ 14 → v' c' = v c') ∧ rS v' bm' b' gv' lv' ∧ isMax P (oo vM) (legI vM F h) (fun a b => (WW vM a b : Int)) (fun f m => ltL f m w c ∨ (m = c ∧ agr f w c)) bm' b' gv' lv' := by
  have hP := hf.1
  have hm := pig_f hc.2.1.1 hc.2.1.2.1
  have hHp : ∀ f m, cand P (oo vM) f m → 0 < RG (fun a b => (WW vM a b : Int)) f m := fun f m hx => (RLb hf hx).1
  unfold F_X5_compare f_X5_compare
  rw [nv_q]
  obtain ⟨s1, s2, s3, s4⟩ := id hS
  obtain ⟨v', g1, g2, g3⟩ := cmpYes (c := c) (g := RG (legI vM F h) w c) (l := RG (fun a b => (WW vM a b : Int)) w c) (w := w) (v := v) (by omega) hw
  by_cases h0 : bm = 0
  · rw [s1, if_pos (by rw [h0]; rfl)]
    exact ⟨v', c, w, _, _, g1, g2, g3, isMax_yes hHp hM hc (Or.inl h0) (fun _ _ _ => Iff.rfl)⟩
  · have hM' := hM
    rcases hM' with ⟨h2, -⟩ | ⟨-, h3, h4, h5, h6, h7⟩
    · exact absurd h2 h0
    · have hbm := pig_f h3.2.1.1 h3.2.1.2.1
      have gw := RGb (h := h) hf hh hc
      have lw := RLb hf hc
      have gb := RGb (h := h) hf hh h3
      have lb := RLb hf h3
      rw [s1, s2, s3, if_neg (nI_ne0 (by omega) (by omega)), iI_mul, iI_mul, iI_sub]
      have p1 := mul_bd gw.1 gw.2 lb.1 lb.2
      have p2 := mul_bd gb.1 gb.2 lw.1 lw.2
      rw [← h5] at p2
      rw [← h6] at p1
      have hx0 : (0 : Int32) = iI 0 := rfl
      by_cases ha : gv * RG (fun a b => (WW vM a b : Int)) w c < RG (legI vM F h) w c * lv
      · rw [if_pos (by rw [hx0, iI_lt (by omega) (by omega) (by omega) (by omega)]; omega)]
        refine ⟨v', c, w, _, _, g1, g2, g3, isMax_yes hHp hM hc (Or.inr (Or.inl ?_)) (fun _ _ _ => Iff.rfl)⟩
        rw [← h5, ← h6]
        exact ha
      · rw [if_neg (by rw [hx0, iI_lt (by omega) (by omega) (by omega) (by omega)]; omega)]
        by_cases he : gv * RG (fun a b => (WW vM a b : Int)) w c = RG (legI vM F h) w c * lv
        · rw [if_pos (by rw [hx0, iI_eq (by omega) (by omega) (by omega) (by omega)]; omega)]
          by_cases hlt : c < bm
          · rw [if_neg (nI_ge hlt (by omega))]
            refine ⟨v', c, w, _, _, g1, g2, g3, isMax_yes hHp hM hc (Or.inr (Or.inr ⟨?_, Or.inl hlt⟩)) (fun _ _ _ => Iff.rfl)⟩
            rw [← h5, ← h6]
            exact he
          · rw [if_pos (nI_le (by omega) (by omega))]
            refine ⟨v, bm, b, gv, lv, rfl, fun _ _ _ => rfl, hS, isMax_no hM h0 hc ?_ (fun _ _ _ => Iff.rfl)⟩
            rintro (a | ⟨a, a' | ⟨a', a2⟩⟩)
            · rw [← h5, ← h6] at a
              omega
            · omega
            · subst a'
              obtain ⟨i, i1, i2, i3, i4⟩ := h4
              have : lexlt b w c := ⟨i, i2, i3, by omega⟩
              exact lexlt_irr (fun _ _ => rfl) (lexlt_tr this a2)
        · rw [if_neg (by rw [hx0, iI_eq (by omega) (by omega) (by omega) (by omega)]; omega)]
          refine ⟨v, bm, b, gv, lv, rfl, fun _ _ _ => rfl, hS, isMax_no hM h0 hc ?_ (fun _ _ _ => Iff.rfl)⟩
          rintro (a | ⟨a, -⟩)
          · rw [← h5, ← h6] at a
            omega
          · rw [← h5, ← h6] at a
            exact he a
