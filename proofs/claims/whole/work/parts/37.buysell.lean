theorem i_assoc (a b c : Int32) : a + b + c = a + (b + c) := Int32.add_assoc a b c
theorem i_subsub (a b c : Int32) : a - b - c = a - (b + c) := by
  rw [Int32.sub_eq_add_neg, Int32.sub_eq_add_neg, Int32.sub_eq_add_neg, Int32.neg_add, Int32.add_assoc, Int32.sub_eq_add_neg]
/-! a deal's marks on the two worlds: of ship sh in port p, place k = 3p+g, cargo q = 3sh+g -/
def mB (v0 v : VV) (sh k p q : Nat) (s c t w l : Int32) : Prop := (∀ c', c' ≠ 1 → c' ≠ 8 → c' ≠ 9 → c' ≠ 17 → c' ≠ 18 → v c' = v0 c') ∧ (∀ j, v 1 j = if j = k then s else v0 1 j) ∧ (∀ j, v 8 j = if j = p then t else v0 8 j) ∧ (∀ j, v 9 j = if j = p then w else v0 9 j) ∧ (∀ j, v 17 j = if j = sh then c else v0 17 j) ∧ (∀ j, v 18 j = if j = q then l else v0 18 j)
theorem mB_0 {v : VV} {sh k p q : Nat} {s c t w l : Int32} (hs : v 1 k = s) (ht : v 8 p = t) (hw : v 9 p = w) (hc : v 17 sh = c) (hl : v 18 q = l) : mB v v sh k p q s c t w l := by
  have hh : ∀ (a : Nat → Int32) (k' : Nat) (x : Int32), a k' = x → ∀ j, a j = if j = k' then x else a j := by
    intro a k' x hx j
    by_cases h : j = k'
    · rw [if_pos h, h, hx]
    · rw [if_neg h]
  exact ⟨fun _ _ _ _ _ _ => rfl, hh _ _ _ hs, hh _ _ _ ht, hh _ _ _ hw, hh _ _ _ hc, hh _ _ _ hl⟩
theorem mB_s {v0 v : VV} {sh k p q : Nat} {s c t w l s' c' t' w' l' : Int32} (h : mB v0 v sh k p q s c t w l) : mB v0 (wu (wu (wu (wu (wu v 17 sh c') 8 p t') 9 p w') 1 k s') 18 q l') sh k p q s' c' t' w' l' := by
  obtain ⟨h0, h1, h2, h3, h4, h5⟩ := h
  refine ⟨fun d e1 e2 e3 e4 e5 => ?_, fun j => ?_, fun j => ?_, fun j => ?_, fun j => ?_, fun j => ?_⟩
  · rw [wu_n e5, wu_n e1, wu_n e3, wu_n e2, wu_n e4]
    exact h0 d e1 e2 e3 e4 e5
  · rw [wu_n (by omega), wu_c]
    by_cases h : j = k
    · rw [if_pos h, if_pos h]
    · rw [if_neg h, if_neg h, wu_n (by omega), wu_n (by omega), wu_n (by omega), h1, if_neg h]
  · rw [wu_n (by omega), wu_n (by omega), wu_n (by omega), wu_c]
    by_cases h : j = p
    · rw [if_pos h, if_pos h]
    · rw [if_neg h, if_neg h, wu_n (by omega), h2, if_neg h]
  · rw [wu_n (by omega), wu_n (by omega), wu_c]
    by_cases h : j = p
    · rw [if_pos h, if_pos h]
    · rw [if_neg h, if_neg h, wu_n (by omega), wu_n (by omega), h3, if_neg h]
  · rw [wu_n (by omega), wu_n (by omega), wu_n (by omega), wu_n (by omega), wu_c]
    by_cases h : j = sh
    · rw [if_pos h, if_pos h]
    · rw [if_neg h, if_neg h, h4, if_neg h]
  · rw [wu_c]
    by_cases h : j = q
    · rw [if_pos h, if_pos h]
    · rw [if_neg h, if_neg h, wu_n (by omega), wu_n (by omega), wu_n (by omega), wu_n (by omega), h5, if_neg h]
def cB (v0 v : VV) (sh k p g : Nat) (s c t w l : Int32) : Prop := (∀ c', c' ≠ 10 → c' ≠ 37 + k → c' ≠ 25 + p → c' ≠ 67 + sh → c' ≠ 71 + sh → v c' = v0 c') ∧ (∀ j, v (37 + k) j = if j = 1 then s else v0 (37 + k) j) ∧ (∀ j, v (25 + p) j = if j = 2 then t else if j = 3 then w else v0 (25 + p) j) ∧ (∀ j, v (67 + sh) j = if j = 2 then c else v0 (67 + sh) j) ∧ (∀ j, v (71 + sh) j = if j = g then l else v0 (71 + sh) j)
theorem cB_s {v0 v : VV} {sh k p g : Nat} {s c t w l : Int32} (hk : k < 18) (hp : p < 6) (hs : sh < 4) (h : ∀ c', c' ≠ 10 → v c' = v0 c') : cB v0 (wu (wu (wu (wu (wu v (37 + k) 1 s) (67 + sh) 2 c) (71 + sh) g l) (25 + p) 3 w) (25 + p) 2 t) sh k p g s c t w l := by
  refine ⟨fun d e1 e2 e3 e4 e5 => ?_, fun j => ?_, fun j => ?_, fun j => ?_, fun j => ?_⟩
  · rw [wu_n e3, wu_n e3, wu_n e5, wu_n e4, wu_n e2]
    exact h d e1
  · rw [wu_n (by omega), wu_n (by omega), wu_n (by omega), wu_n (by omega), wu_c, h _ (by omega)]
  · rw [wu_c, wu_c, wu_n (by omega), wu_n (by omega), wu_n (by omega), h _ (by omega)]
  · rw [wu_n (by omega), wu_n (by omega), wu_n (by omega), wu_c, wu_n (by omega), h _ (by omega)]
  · rw [wu_n (by omega), wu_n (by omega), wu_c, wu_n (by omega), wu_n (by omega), h _ (by omega)]
theorem deal_Inv {P T F S E sh p g : Nat} {vC vM vC' vM' : VV} (i1 : iSc P T F S vC vM) (i2 : iSh P vC vM) (i3 : iPo vC vM) (i4 : iWy vC vM) (i5 : iSp P S vC vM) (i6 : iEv P T E vC vM) (i7 : iPl vC vM) (hsh : sh < S) (hp : p < P) (hg : g < 3) {s c t w l : Int32} (hM : mB vM vM' sh (3 * p + g) p (3 * sh + g) s c t w l) (hC : cB vC vC' sh (3 * p + g) p g s c t w l) (hs : bnd s 0 1000) (hc : bnd c 0 1000000) (hl : ∃ h, 1 ≤ h ∧ h ≤ 20 ∧ vM 16 sh = nI h ∧ ∃ x y z, x + y + z ≤ h ∧ vM' 18 (3 * sh) = nI x ∧ vM' 18 (3 * sh + 1) = nI y ∧ vM' 18 (3 * sh + 2) = nI z) : Inv vC' vM' := by
  have hS4 := i1.2.2.2.1.2.2
  have hP6 := i1.1.2.2
  obtain ⟨c0, c1, c2, c3, c4⟩ := hC
  obtain ⟨m0, m1, m2, m3, m4, m5⟩ := hM
  refine ⟨P, T, F, S, E, iSc_c i1 (fun j _ _ => by rw [c0 0 (by omega) (by omega) (by omega) (by omega) (by omega)]) (fun j _ _ => by rw [c0 1 (by omega) (by omega) (by omega) (by omega) (by omega)]) (fun j hj => by rw [m0 0 (by omega) (by omega) (by omega) (by omega) (by omega)]), ?_, ?_, iWy_c i4 (fun a ha => by rw [c0 (55 + a) (by omega) (by omega) (by omega) (by omega) (by omega)]) (m0 11 (by omega) (by omega) (by omega) (by omega) (by omega)), ?_, iEv_c i6 (by rw [c0 4 (by omega) (by omega) (by omega) (by omega) (by omega)]) (fun d _ _ => by rw [c0 d (by omega) (by omega) (by omega) (by omega) (by omega)]) (by rw [m0 0 (by omega) (by omega) (by omega) (by omega) (by omega)]) (fun d _ _ => by rw [m0 d (by omega) (by omega) (by omega) (by omega) (by omega)]), iPl_c i7 (by rw [c0 15 (by omega) (by omega) (by omega) (by omega) (by omega)]) (by rw [c0 23 (by omega) (by omega) (by omega) (by omega) (by omega)]) (by rw [c0 24 (by omega) (by omega) (by omega) (by omega) (by omega)]) (by rw [m0 0 (by omega) (by omega) (by omega) (by omega) (by omega)]) (m0 24 (by omega) (by omega) (by omega) (by omega) (by omega)) (m0 25 (by omega) (by omega) (by omega) (by omega) (by omega))⟩
  · intro k' hk'
    have hh := i2 k' hk'
    rw [m0 2 (by omega) (by omega) (by omega) (by omega) (by omega), m0 3 (by omega) (by omega) (by omega) (by omega) (by omega), m0 4 (by omega) (by omega) (by omega) (by omega) (by omega), m0 5 (by omega) (by omega) (by omega) (by omega) (by omega), m0 6 (by omega) (by omega) (by omega) (by omega) (by omega)]
    by_cases e : k' = 3 * p + g
    · subst e
      rw [m1, if_pos rfl]
      simp only [c1]
      obtain ⟨q1, q2, q3, q4, q5, q6, q7, q8, q9, q10⟩ := hh
      simp
      exact ⟨q1, q3, q4, q5, q6, fun h => absurd h (by omega), hs, q9, q10⟩
    · rw [m1, if_neg e, c0 (37 + k') (by omega) (by omega) (by omega) (by omega) (by omega)]
      exact hh
  · intro p' hp'
    have hh := i3 p' hp'
    rw [m0 7 (by omega) (by omega) (by omega) (by omega) (by omega), m0 10 (by omega) (by omega) (by omega) (by omega) (by omega)]
    by_cases e : p' = p
    · subst e
      rw [m2, if_pos rfl, m3, if_pos rfl]
      simp only [c2]
      obtain ⟨q1, q2, q3, q4, q5, q6⟩ := hh
      simp
      exact ⟨q1, q4, q5, q6⟩
    · rw [m2, if_neg e, m3, if_neg e, c0 (25 + p') (by omega) (by omega) (by omega) (by omega) (by omega)]
      exact hh
  · intro s' hs'
    have ee : s' ≠ sh → (∀ j, j < 3 → vM' 18 (3 * s' + j) = vM 18 (3 * s' + j)) ∧ vC' (67 + s') = vC (67 + s') ∧ vC' (71 + s') = vC (71 + s') := by
      clear hl hs hc
      intro e
      exact ⟨fun j hj => by rw [m5, if_neg (by omega)], c0 (67 + s') (by omega) (by omega) (by omega) (by omega) (by omega), c0 (71 + s') (by omega) (by omega) (by omega) (by omega) (by omega)⟩
    have hh := i5 s' hs'
    have e79 : vC' (79 + s') = vC (79 + s') := by
      clear hl hs hc
      exact c0 (79 + s') (by omega) (by omega) (by omega) (by omega) (by omega)
    rw [e79, m0 15 (by omega) (by omega) (by omega) (by omega) (by omega), m0 16 (by omega) (by omega) (by omega) (by omega) (by omega)]
    by_cases e : s' = sh
    · subst e
      obtain ⟨x1, x2, x3, x9⟩ := hh
      obtain ⟨y1, y2, y3, y4, y5, y6⟩ := x1 hsh
      refine ⟨fun _ => ⟨?_, ?_, ?_, y4, ?_, hl⟩, fun g' hg' => ?_, fun h => absurd h (by omega), x9⟩
      · rw [c3, if_neg (by omega), y1]
      · rw [c3, if_neg (by omega), y2]
      · rw [c3, if_pos rfl, m4, if_pos rfl]
      · rw [m4, if_pos rfl]; exact hc
      · rw [c4, m5]
        by_cases h : g' = g
        · rw [if_pos h, if_pos (by omega)]
        · rw [if_neg h, if_neg (by omega)]
          exact x2 g' hg'
    · obtain ⟨x1, x2, x3, x9⟩ := hh
      obtain ⟨ee, e67, e71⟩ := ee e
      have ee0 : vM' 18 (3 * s') = vM 18 (3 * s') := ee 0 (by decide)
      rw [e67, e71, m4, if_neg e, ee0, ee 1 (by decide), ee 2 (by decide)]
      exact ⟨x1, fun g' hg' => by rw [ee g' hg']; exact x2 g' hg', fun h g' hg' => by rw [ee g' hg']; exact x3 h g' hg', x9⟩
/-- why not, alike -/
theorem why {P T F S : Nat} {vC vM : VV} (i1 : iSc P T F S vC vM) (i3 : iPo vC vM) (i5 : iSp P S vC vM) (a0 a1 a2 : Int32) : (∃ r, r < 0 ∧ F_X10_refusalOfDeal 0 a0 a1 a2 vC = some (r, vC) ∧ F_X11_whyNot 0 a0 a1 a2 vM = some (r, vM)) ∨ (∃ sh g U, sh < S ∧ g < 3 ∧ 1 ≤ U ∧ U ≤ 20 ∧ a0 = nI sh ∧ a1 = nI g ∧ a2 = nI U ∧ F_X10_refusalOfDeal 0 a0 a1 a2 vC = some (0, vC) ∧ F_X11_whyNot 0 a0 a1 a2 vM = some (0, vM)) := by
  have hP6 := i1.1.2.2
  have hS4 := i1.2.2.2.1.2.2
  unfold F_X10_refusalOfDeal f_X10_refusalOfDeal F_X11_whyNot f_X11_whyNot
  rcases isS i1 a0 with ⟨sh, hsh, rfl, e1, e2⟩ | ⟨-, e1, e2⟩
  · rw [e1, e2, bi_s, bi_s, if_neg n10, if_neg n10]
    rcases isG vC vM a1 with ⟨g, hg, rfl, e1, e2⟩ | ⟨-, e1, e2⟩
    · rw [e1, e2, bi_s, bi_s, if_neg n10, if_neg n10]
      rcases win a2 1 20 1 20 (by decide) (by decide) vC vM with ⟨h1, h2, e3, e4⟩ | ⟨-, e3, e4⟩
      · rw [e3, e4, bi_s, bi_s, if_neg n10, if_neg n10]
        obtain ⟨U, hU0, hU1, rfl⟩ := bnd_of (lo := 1) (hi := 20) (by decide) h1 h2 (by decide)
        obtain ⟨y1, y2, y3, ⟨p, hp, y4⟩, y5, y6⟩ := (i5 sh (by omega)).1 hsh
        have ts : (nI sh).toNatClampNeg = sh := tn (by omega)
        have tp : (nI p).toNatClampNeg = p := tn (by omega)
        have is_ : inB (nI sh) 4 = true := inB_n (by omega) (by omega)
        have ip : inB (nI p) 6 = true := inB_n (by omega) (by omega)
        obtain ⟨q1, q2, q3, q4, q5, q6⟩ := i3 p (by omega)
        simp only [rfC01, rfC8, rfC00, rfC10, rfC2, ts, lnC8, lnC2, rfM23, rfM12, lnMh (show 15 ≤ 15 by omega) (by omega), lnMp (show 7 ≤ 10 by omega) (by omega), gd_t is_, y1, y4, tp, gd_t ip, q4]
        by_cases h : vM 10 p = 0
        · right
          exact ⟨sh, g, U, hsh, hg, hU0, hU1, rfl, rfl, rfl, by rw [if_pos h], by rw [if_pos h]⟩
        · left
          exact ⟨-5, by decide, by rw [if_neg h], by rw [if_neg h]⟩
      · rw [e3, e4, bi_s, bi_s, if_pos z00, if_pos z00]
        exact Or.inl ⟨-2, by decide, rfl, rfl⟩
    · rw [e1, e2, bi_s, bi_s, if_pos z00, if_pos z00]
      exact Or.inl ⟨-1, by decide, rfl, rfl⟩
  · rw [e1, e2, bi_s, bi_s, if_pos z00, if_pos z00]
    exact Or.inl ⟨-1, by decide, rfl, rfl⟩
