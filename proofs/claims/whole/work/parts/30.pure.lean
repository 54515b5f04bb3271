/-! WHAT THE TWO OBJECTS HOLD: a relation of their numbers. From here on no machine, only functions over VV. -/
theorem wu_c {v : VV} {c j : Nat} {x : Int32} (j' : Nat) : wu v c j x c j' = if j' = j then x else v c j' := by
  simp [wu, va_up, upd]
theorem wu_s {v : VV} {c j : Nat} {x : Int32} : wu v c j x c j = x := by simp [wu, va_up, upd]
theorem wu_j {v : VV} {c j : Nat} {x : Int32} {j' : Nat} (h : j' ≠ j) : wu v c j x c j' = v c j' := by simp [wu, va_up, upd, h]
theorem wu_n {v : VV} {c j : Nat} {x : Int32} {c' : Nat} (h : c' ≠ c) : wu v c j x c' = v c' := by
  unfold wu
  rw [va_up_ne _ _ h]
theorem wu_g {v : VV} {c j : Nat} {x : Int32} {c' j' : Nat} : wu v c j x c' j' = if c' = c ∧ j' = j then x else v c' j' := by
  by_cases h : c' = c
  · subst h
    by_cases h2 : j' = j
    · subst h2; simp [wu_s]
    · simp [wu_j h2, h2]
  · simp [wu_n h, h]
theorem tn {n : Nat} (h : n < 2 ^ 31) : (nI n).toNatClampNeg = n := nI_clamp h
theorem inB_n {n m : Nat} (h : n < m) (hm : n < 2 ^ 31) : inB (nI n) m = true := by
  unfold inB
  rw [nI_toInt hm]
  exact decide_eq_true ⟨by omega, by omega⟩
theorem k3 (p g : Nat) : 3 * nI p + nI g = nI (3 * p + g) := by
  show nI 3 * nI p + nI g = _
  rw [pk_mul, nI_add]
theorem k6 (p g : Nat) : 6 * nI p + nI g = nI (6 * p + g) := by
  show nI 6 * nI p + nI g = _
  rw [pk_mul, nI_add]
theorem nI_inj {a b : Nat} (ha : a < 2 ^ 31) (hb : b < 2 ^ 31) (h : nI a = nI b) : a = b := (nI_eq ha hb).mp h
/-- a number between two -/
def bnd (x : Int32) (lo hi : Nat) : Prop := ∃ n : Nat, lo ≤ n ∧ n ≤ hi ∧ x = nI n
theorem bnd_of {x : Int32} {lo hi : Nat} (hh : hi < 2 ^ 31) (h1 : nI lo ≤ x) (h2 : x ≤ nI hi) (hl : lo < 2 ^ 31) : bnd x lo hi := by
  have e1 : (nI lo).toInt = (lo : Int) := nI_toInt hl
  have e2 : (nI hi).toInt = (hi : Int) := nI_toInt hh
  rw [Int32.le_iff_toInt_le] at h1 h2
  refine ⟨x.toInt.toNat, by omega, by omega, ?_⟩
  apply Int32.toInt_inj.mp
  rw [nI_toInt (by omega)]
  omega
theorem lg_lt (x y : Int64) : (lg_cmp x y < 0) ↔ x < y := by
  unfold lg_cmp
  by_cases h1 : x > y
  · rw [if_pos h1]
    constructor
    · intro h; exact absurd h (by decide)
    · intro h
      exfalso
      rw [gt_iff_lt, Int64.lt_iff_toInt_lt] at h1
      rw [Int64.lt_iff_toInt_lt] at h
      omega
  · rw [if_neg h1]
    by_cases h2 : x = y
    · rw [if_pos h2]
      constructor
      · intro h; exact absurd h (by decide)
      · intro h
        subst h2
        rw [Int64.lt_iff_toInt_lt] at h
        omega
    · rw [if_neg h2]
      constructor
      · intro _
        rw [gt_iff_lt, Int64.lt_iff_toInt_lt] at h1
        rw [← Int64.toInt_inj] at h2
        rw [Int64.lt_iff_toInt_lt]
        omega
      · intro _; decide
theorem lg_gt (x y : Int64) : (0 < lg_cmp x y) ↔ y < x := by
  unfold lg_cmp
  by_cases h1 : x > y
  · rw [if_pos h1]
    exact ⟨fun _ => h1, fun _ => by decide⟩
  · rw [if_neg h1]
    by_cases h2 : x = y
    · rw [if_pos h2]
      exact ⟨fun h => absurd h (by decide), fun h => absurd h h1⟩
    · rw [if_neg h2]
      exact ⟨fun h => absurd h (by decide), fun h => absurd h h1⟩
theorem toI64_lt (x y : Int32) : Int32.toInt64 x < Int32.toInt64 y ↔ x < y := by
  rw [Int64.lt_iff_toInt_lt, Int32.lt_iff_toInt_lt, Int32.toInt_toInt64, Int32.toInt_toInt64]
/-- the two tests of a number between two: alike -/
theorem win (x lo hi : Int32) (lo' hi' : Int64) (h1 : lo' = Int32.toInt64 lo) (h2 : hi' = Int32.toInt64 hi) (vC vM : VV) :
    (lo ≤ x ∧ x ≤ hi ∧ F_X10_within x lo hi vC = some (1, vC) ∧ F_X11_in (Int32.toInt64 x) lo' hi' vM = some (1, vM)) ∨ (¬ (lo ≤ x ∧ x ≤ hi) ∧ F_X10_within x lo hi vC = some (0, vC) ∧ F_X11_in (Int32.toInt64 x) lo' hi' vM = some (0, vM)) := by
  subst h1 h2
  unfold F_X10_within f_X10_within F_X11_in f_X11_in
  simp only [lg_lt, lg_gt, toI64_lt]
  by_cases a : x < lo
  · right
    refine ⟨fun h => ?_, by rw [if_pos a], by rw [if_pos a]⟩
    rw [Int32.lt_iff_toInt_lt] at a
    rw [Int32.le_iff_toInt_le] at h
    omega
  · by_cases b : hi < x
    · right
      refine ⟨fun h => ?_, by rw [if_neg a, if_pos b], by rw [if_neg a, if_pos b]⟩
      rw [Int32.lt_iff_toInt_lt] at b
      rw [Int32.le_iff_toInt_le, Int32.le_iff_toInt_le] at h
      omega
    · left
      rw [Int32.lt_iff_toInt_lt] at a b
      exact ⟨by rw [Int32.le_iff_toInt_le]; omega, by rw [Int32.le_iff_toInt_le]; omega, by rw [if_neg (by rw [Int32.lt_iff_toInt_lt]; omega), if_neg (by rw [Int32.lt_iff_toInt_lt]; omega)], by rw [if_neg (by rw [Int32.lt_iff_toInt_lt]; omega), if_neg (by rw [Int32.lt_iff_toInt_lt]; omega)]⟩
theorem m1_toInt {n : Nat} (h : n ≤ 1000) : (nI n - 1).toInt = (n : Int) - 1 := by
  show (nI n - nI 1).toInt = _
  rw [pk_sub_toInt (by omega) (by omega)]
  rfl
theorem rng {x : Int32} {n : Nat} (hn : n ≤ 1000) : (0 ≤ x ∧ x ≤ nI n - 1) ↔ ∃ p, p < n ∧ x = nI p := by
  constructor
  · intro ⟨h1, h2⟩
    rw [Int32.le_iff_toInt_le] at h1 h2
    rw [m1_toInt hn] at h2
    have h0 : (0 : Int32).toInt = 0 := by decide
    rw [h0] at h1
    refine ⟨x.toInt.toNat, by omega, ?_⟩
    apply Int32.toInt_inj.mp
    rw [nI_toInt (by omega)]
    omega
  · rintro ⟨p, hp, rfl⟩
    have h0 : (0 : Int32).toInt = 0 := by decide
    rw [Int32.le_iff_toInt_le, Int32.le_iff_toInt_le, m1_toInt hn, nI_toInt (by omega), h0]
    omega
/-! the parts of the relation -/
def iSc (P T F S : Nat) (vC vM : VV) : Prop := (vC 1 3 = nI P ∧ vM 0 0 = nI P ∧ P ≤ 6) ∧ (vC 1 4 = nI T ∧ vM 0 1 = nI T ∧ T ≤ 999) ∧ (vC 1 5 = nI F ∧ vM 0 2 = nI F ∧ F ≤ 20) ∧ (vC 0 2 = nI S ∧ vM 0 27 = nI S ∧ S ≤ 4) ∧ vC 0 3 = vM 0 14 ∧ vC 0 4 = vM 0 15 ∧ vC 0 5 = vM 0 16 ∧ vC 0 6 = vM 0 17 ∧ vC 0 7 = vM 0 18
def iSh (P : Nat) (vC vM : VV) : Prop := ∀ k, k < 18 → vC (37 + k) 0 = nI k ∧ vC (37 + k) 1 = vM 1 k ∧ vC (37 + k) 2 = vM 2 k ∧ vC (37 + k) 3 = vM 3 k ∧ vC (37 + k) 6 = vM 6 k ∧ (k < 3 * P → vC (37 + k) 4 = vM 4 k ∧ vC (37 + k) 5 = vM 5 k ∧ bnd (vM 4 k) 1 100 ∧ bnd (vM 5 k) 1 100) ∧ (3 * P ≤ k → vC (37 + k) 4 = 10 ∧ vC (37 + k) 5 = 10 ∧ vM 1 k = 0) ∧ bnd (vM 1 k) 0 1000 ∧ bnd (vM 2 k) 0 50 ∧ bnd (vM 3 k) 0 50
def iPo (vC vM : VV) : Prop := ∀ p, p < 6 → vC (25 + p) 1 = vM 7 p ∧ vC (25 + p) 2 = vM 8 p ∧ vC (25 + p) 3 = vM 9 p ∧ vC (25 + p) 4 = vM 10 p ∧ bnd (vM 7 p) 0 20 ∧ bnd (vM 10 p) 0 1
def iWy (vC vM : VV) : Prop := ∀ a, a < 6 → ∀ b, b < 6 → vC (55 + a) b = vM 11 (6 * a + b) ∧ bnd (vM 11 (6 * a + b)) 0 9 ∧ (a = b → vM 11 (6 * a + b) = 0)
def iSp (P S : Nat) (vC vM : VV) : Prop := ∀ s, s < 4 → (s < S → vC (67 + s) 0 = vM 15 s ∧ vC (67 + s) 1 = vM 16 s ∧ vC (67 + s) 2 = vM 17 s ∧ (∃ p, p < P ∧ vM 15 s = nI p) ∧ bnd (vM 17 s) 0 1000000 ∧ ∃ h, 1 ≤ h ∧ h ≤ 20 ∧ vM 16 s = nI h ∧ ∃ x y z, x + y + z ≤ h ∧ vM 18 (3 * s) = nI x ∧ vM 18 (3 * s + 1) = nI y ∧ vM 18 (3 * s + 2) = nI z) ∧ (∀ g, g < 3 → vC (71 + s) g = vM 18 (3 * s + g)) ∧ (S ≤ s → ∀ g, g < 3 → vM 18 (3 * s + g) = 0) ∧ vC (79 + s) 3 = 0
def evs (t p b : Nat → Int32) (E : Nat) : List (Int32 × Int32 × Int32) := (List.range E).map (fun e => (t e, p e, b e))
def iEv (P T E : Nat) (vC vM : VV) : Prop := (vC 4 3 = nI E ∧ vM 0 22 = nI E ∧ E ≤ 20) ∧ (∀ i j, i ≤ j → j < E → vC 5 i ≤ vC 5 j) ∧ (∀ t : Int32, (evs (vC 5) (vC 6) (vC 7) E).filter (fun e => e.1 = t) = (evs (vM 12) (vM 13) (vM 14) E).filter (fun e => e.1 = t)) ∧ (∀ e, e < E → bnd (vM 12 e) T 998 ∧ (∃ k, k < 3 * P ∧ vM 13 e = nI k) ∧ -1000 ≤ vM 14 e ∧ vM 14 e ≤ 1000)
def iPl (vC vM : VV) : Prop := ∃ n : Nat, n ≤ 3 ∧ vC 15 14 = nI n ∧ vM 0 41 = nI n ∧ ∀ i, i < n → vC 23 i = vM 24 i ∧ vC 24 i = vM 25 i
def Inv (vC vM : VV) : Prop := ∃ P T F S E : Nat, iSc P T F S vC vM ∧ iSh P vC vM ∧ iPo vC vM ∧ iWy vC vM ∧ iSp P S vC vM ∧ iEv P T E vC vM ∧ iPl vC vM
/-! each part hangs on its own cells alone -/
theorem iSc_c {P T F S : Nat} {vC vM vC' vM' : VV} (h : iSc P T F S vC vM) (h0 : ∀ j, 2 ≤ j → j < 8 → vC' 0 j = vC 0 j) (h1 : ∀ j, 3 ≤ j → j < 6 → vC' 1 j = vC 1 j) (h2 : ∀ j, j < 3 ∨ (14 ≤ j ∧ j < 19) ∨ j = 27 → vM' 0 j = vM 0 j) : iSc P T F S vC' vM' := by
  unfold iSc at *
  rw [h1 3 (by omega) (by omega), h1 4 (by omega) (by omega), h1 5 (by omega) (by omega), h0 2 (by omega) (by omega), h0 3 (by omega) (by omega), h0 4 (by omega) (by omega), h0 5 (by omega) (by omega), h0 6 (by omega) (by omega), h0 7 (by omega) (by omega), h2 0 (by omega), h2 1 (by omega), h2 2 (by omega), h2 27 (by omega), h2 14 (by omega), h2 15 (by omega), h2 16 (by omega), h2 17 (by omega), h2 18 (by omega)]
  exact h
theorem iSh_c {P : Nat} {vC vM vC' vM' : VV} (h : iSh P vC vM) (h0 : ∀ k, k < 18 → vC' (37 + k) = vC (37 + k)) (h1 : ∀ c, 1 ≤ c → c < 7 → vM' c = vM c) : iSh P vC' vM' := by
  intro k hk
  have := h k hk
  rw [h0 k hk, h1 1 (by omega) (by omega), h1 2 (by omega) (by omega), h1 3 (by omega) (by omega), h1 4 (by omega) (by omega), h1 5 (by omega) (by omega), h1 6 (by omega) (by omega)]
  exact this
theorem iPo_c {vC vM vC' vM' : VV} (h : iPo vC vM) (h0 : ∀ p, p < 6 → vC' (25 + p) = vC (25 + p)) (h1 : ∀ c, 7 ≤ c → c < 11 → vM' c = vM c) : iPo vC' vM' := by
  intro p hp
  have := h p hp
  rw [h0 p hp, h1 7 (by omega) (by omega), h1 8 (by omega) (by omega), h1 9 (by omega) (by omega), h1 10 (by omega) (by omega)]
  exact this
theorem iWy_c {vC vM vC' vM' : VV} (h : iWy vC vM) (h0 : ∀ p, p < 6 → vC' (55 + p) = vC (55 + p)) (h1 : vM' 11 = vM 11) : iWy vC' vM' := by
  intro a ha b hb
  have := h a ha b hb
  rw [h0 a ha, h1]
  exact this
theorem iSp_c {P S : Nat} {vC vM vC' vM' : VV} (h : iSp P S vC vM) (h0 : ∀ s, s < 16 → vC' (67 + s) = vC (67 + s)) (h1 : ∀ c, 15 ≤ c → c < 19 → vM' c = vM c) : iSp P S vC' vM' := by
  intro s hs
  have := h s hs
  have e : vC' (71 + s) = vC (71 + s) := by
    have := h0 (4 + s) (by omega)
    rw [show 67 + (4 + s) = 71 + s by omega] at this
    exact this
  have e9 : vC' (79 + s) = vC (79 + s) := by
    have := h0 (12 + s) (by omega)
    rw [show 67 + (12 + s) = 79 + s by omega] at this
    exact this
  rw [h0 s (by omega), e, e9, h1 15 (by omega) (by omega), h1 16 (by omega) (by omega), h1 17 (by omega) (by omega), h1 18 (by omega) (by omega)]
  exact this
theorem iEv_c {P T E : Nat} {vC vM vC' vM' : VV} (h : iEv P T E vC vM) (h0 : vC' 4 3 = vC 4 3) (h1 : ∀ c, 5 ≤ c → c < 8 → vC' c = vC c) (h2 : vM' 0 22 = vM 0 22) (h3 : ∀ c, 12 ≤ c → c < 15 → vM' c = vM c) : iEv P T E vC' vM' := by
  unfold iEv at *
  rw [h0, h1 5 (by omega) (by omega), h1 6 (by omega) (by omega), h1 7 (by omega) (by omega), h2, h3 12 (by omega) (by omega), h3 13 (by omega) (by omega), h3 14 (by omega) (by omega)]
  exact h
theorem iPl_c {vC vM vC' vM' : VV} (h : iPl vC vM) (h0 : vC' 15 14 = vC 15 14) (h1 : vC' 23 = vC 23) (h2 : vC' 24 = vC 24) (h3 : vM' 0 41 = vM 0 41) (h4 : vM' 24 = vM 24) (h5 : vM' 25 = vM 25) : iPl vC' vM' := by
  unfold iPl at *
  rw [h0, h1, h2, h3, h4, h5]
  exact h
/-! worlds that differ in scratch cells alone -/
def agC (v v' : VV) : Prop := (∀ c, c < 8 → v' c = v c) ∧ (∀ c, 23 ≤ c → c < 61 → v' c = v c) ∧ (∀ c, 67 ≤ c → c < 83 → v' c = v c) ∧ v' 15 14 = v 15 14
def agM (v v' : VV) : Prop := (∀ j, j < 30 ∨ j = 41 → v' 0 j = v 0 j) ∧ (∀ c, 1 ≤ c → c < 19 → v' c = v c) ∧ v' 24 = v 24 ∧ v' 25 = v 25
theorem agC.rf (v : VV) : agC v v := ⟨fun _ _ => rfl, fun _ _ _ => rfl, fun _ _ _ => rfl, rfl⟩
theorem agM.rf (v : VV) : agM v v := ⟨fun _ _ => rfl, fun _ _ _ => rfl, rfl, rfl⟩
theorem agC.tr {a b c : VV} (h1 : agC a b) (h2 : agC b c) : agC a c := ⟨fun x hx => (h2.1 x hx).trans (h1.1 x hx), fun x hx hy => (h2.2.1 x hx hy).trans (h1.2.1 x hx hy), fun x hx hy => (h2.2.2.1 x hx hy).trans (h1.2.2.1 x hx hy), h2.2.2.2.trans h1.2.2.2⟩
theorem agM.tr {a b c : VV} (h1 : agM a b) (h2 : agM b c) : agM a c := ⟨fun x hx => (h2.1 x hx).trans (h1.1 x hx), fun x hx hy => (h2.2.1 x hx hy).trans (h1.2.1 x hx hy), h2.2.2.1.trans h1.2.2.1, h2.2.2.2.trans h1.2.2.2⟩
theorem Inv.ag {vC vM vC' vM' : VV} (h : Inv vC vM) (hC : agC vC vC') (hM : agM vM vM') : Inv vC' vM' := by
  obtain ⟨P, T, F, S, E, a1, a2, a3, a4, a5, a6, a7⟩ := h
  obtain ⟨c1, c2, c3, c4⟩ := hC
  obtain ⟨m1, m2, m3, m4⟩ := hM
  refine ⟨P, T, F, S, E, iSc_c a1 (fun j _ _ => by rw [c1 0 (by omega)]) (fun j _ _ => by rw [c1 1 (by omega)]) (fun j hj => m1 j (by omega)), iSh_c a2 (fun k hk => c2 _ (by omega) (by omega)) (fun c h1 h2 => m2 c h1 (by omega)), iPo_c a3 (fun k hk => c2 _ (by omega) (by omega)) (fun c h1 h2 => m2 c (by omega) (by omega)), iWy_c a4 (fun k hk => c2 _ (by omega) (by omega)) (m2 11 (by omega) (by omega)), iSp_c a5 (fun k hk => c3 _ (by omega) (by omega)) (fun c h1 h2 => m2 c (by omega) (by omega)), iEv_c a6 (by rw [c1 4 (by omega)]) (fun c _ _ => c1 c (by omega)) (m1 22 (by omega)) (fun c h1 h2 => m2 c (by omega) (by omega)), iPl_c a7 c4 (c2 23 (by omega) (by omega)) (c2 24 (by omega) (by omega)) (m1 41 (by omega)) m3 m4⟩
/-! where the references lead -/
theorem rfC00 : rfC 0 0 = 1 := rfl
theorem rfC01 : rfC 0 1 = 8 := rfl
theorem rfC08 : rfC 0 8 = 9 := rfl
theorem rfC09 : rfC 0 9 = 10 := rfl
theorem rfC0a : rfC 0 10 = 11 := rfl
theorem rfC0b : rfC 0 11 = 15 := rfl
theorem rfC10 : rfC 1 0 = 2 := rfl
theorem rfC11 : rfC 1 1 = 3 := rfl
theorem rfC12 : rfC 1 2 = 4 := rfl
theorem rfC2 (j : Nat) : rfC 2 j = 25 + j := rfl
theorem rfC3 (j : Nat) : rfC 3 j = 55 + j := rfl
theorem rfC4 (j : Nat) : rfC 4 j = 5 + j := rfl
theorem rfC8 (j : Nat) : rfC 8 j = 67 + j := rfl
theorem rfCp {p : Nat} (h : p < 6) : rfC (25 + p) 0 = 31 + p := by
  rcases (show p = 0 ∨ p = 1 ∨ p = 2 ∨ p = 3 ∨ p = 4 ∨ p = 5 by omega) with rfl | rfl | rfl | rfl | rfl | rfl <;> rfl
theorem rfCs {p : Nat} (h : p < 6) (g : Nat) : rfC (31 + p) g = 37 + (3 * p + g) := by
  rcases (show p = 0 ∨ p = 1 ∨ p = 2 ∨ p = 3 ∨ p = 4 ∨ p = 5 by omega) with rfl | rfl | rfl | rfl | rfl | rfl <;> (show 37 + 3 * _ + g = _) <;> omega
theorem rfCc {s : Nat} (h : s < 4) : rfC (67 + s) 3 = 71 + s := by
  rcases (show s = 0 ∨ s = 1 ∨ s = 2 ∨ s = 3 by omega) with rfl | rfl | rfl | rfl <;> rfl
theorem lnC2 : lnC 2 = 6 := rfl
theorem lnC3 : lnC 3 = 6 := rfl
theorem lnC8 : lnC 8 = 4 := rfl
theorem lnCe {j : Nat} (h : j < 3) : lnC (5 + j) = 20 := by
  rcases (show j = 0 ∨ j = 1 ∨ j = 2 by omega) with rfl | rfl | rfl <;> rfl
theorem lnCp {p : Nat} (h : p < 6) : lnC (31 + p) = 3 := by
  rcases (show p = 0 ∨ p = 1 ∨ p = 2 ∨ p = 3 ∨ p = 4 ∨ p = 5 by omega) with rfl | rfl | rfl | rfl | rfl | rfl <;> rfl
theorem lnCw {p : Nat} (h : p < 6) : lnC (55 + p) = 6 := by
  rcases (show p = 0 ∨ p = 1 ∨ p = 2 ∨ p = 3 ∨ p = 4 ∨ p = 5 by omega) with rfl | rfl | rfl | rfl | rfl | rfl <;> rfl
theorem lnCc {s : Nat} (h : s < 4) : lnC (71 + s) = 3 := by
  rcases (show s = 0 ∨ s = 1 ∨ s = 2 ∨ s = 3 by omega) with rfl | rfl | rfl | rfl <;> rfl
/-- a port, alike -/
theorem isP {P T F S : Nat} {vC vM : VV} (h : iSc P T F S vC vM) (x : Int32) : (∃ p, p < P ∧ x = nI p ∧ F_X10_isPort 0 x vC = some (1, vC) ∧ F_X11_isPort 0 x vM = some (1, vM)) ∨ ((¬ ∃ p, p < P ∧ x = nI p) ∧ F_X10_isPort 0 x vC = some (0, vC) ∧ F_X11_isPort 0 x vM = some (0, vM)) := by
  obtain ⟨⟨h1, h2, h3⟩, -⟩ := h
  have e := win x 0 (nI P - 1) 0 (Int32.toInt64 (nI P - 1)) rfl rfl vC vM
  rw [← and_assoc, rng (by omega)] at e
  unfold F_X10_isPort f_X10_isPort F_X11_isPort f_X11_isPort
  rw [rfC00, h1, h2]
  rcases e with ⟨⟨p, hp, rfl⟩, e1, e2⟩ | ⟨hn, e1, e2⟩
  · left
    refine ⟨p, hp, rfl, ?_, ?_⟩
    · rw [e1, bi_s, gd_t (by decide)]
    · rw [e2, bi_s, gd_t (by decide)]
  · right
    refine ⟨hn, ?_, ?_⟩
    · rw [e1, bi_s, gd_t (by decide)]
    · rw [e2, bi_s, gd_t (by decide)]
theorem isS {P T F S : Nat} {vC vM : VV} (h : iSc P T F S vC vM) (x : Int32) : (∃ p, p < S ∧ x = nI p ∧ F_X10_isShip 0 x vC = some (1, vC) ∧ F_X11_isShip 0 x vM = some (1, vM)) ∨ ((¬ ∃ p, p < S ∧ x = nI p) ∧ F_X10_isShip 0 x vC = some (0, vC) ∧ F_X11_isShip 0 x vM = some (0, vM)) := by
  obtain ⟨-, -, -, ⟨h1, h2, h3⟩, -⟩ := h
  have e := win x 0 (nI S - 1) 0 (Int32.toInt64 (nI S - 1)) rfl rfl vC vM
  rw [← and_assoc, rng (by omega)] at e
  unfold F_X10_isShip f_X10_isShip F_X11_isShip f_X11_isShip
  rw [h1, h2]
  rcases e with ⟨⟨p, hp, rfl⟩, e1, e2⟩ | ⟨hn, e1, e2⟩
  · left
    refine ⟨p, hp, rfl, ?_, ?_⟩
    · rw [e1, bi_s, gd_t (by decide)]
    · rw [e2, bi_s, gd_t (by decide)]
  · right
    refine ⟨hn, ?_, ?_⟩
    · rw [e1, bi_s, gd_t (by decide)]
    · rw [e2, bi_s, gd_t (by decide)]
theorem isG (vC vM : VV) (x : Int32) : (∃ g, g < 3 ∧ x = nI g ∧ F_X10_isGood x vC = some (1, vC) ∧ F_X11_isGood x vM = some (1, vM)) ∨ ((¬ ∃ g, g < 3 ∧ x = nI g) ∧ F_X10_isGood x vC = some (0, vC) ∧ F_X11_isGood x vM = some (0, vM)) := by
  have e := win x 0 2 0 2 rfl (by decide) vC vM
  rw [← and_assoc, show (2 : Int32) = nI 3 - 1 by decide, rng (by omega), show nI 3 - 1 = (2 : Int32) by decide] at e
  unfold F_X10_isGood f_X10_isGood F_X11_isGood f_X11_isGood
  rcases e with ⟨⟨p, hp, rfl⟩, e1, e2⟩ | ⟨hn, e1, e2⟩
  · left
    refine ⟨p, hp, rfl, ?_, ?_⟩
    · rw [e1, bi_s, gd_t (by decide)]
    · rw [e2, bi_s, gd_t (by decide)]
  · right
    refine ⟨hn, ?_, ?_⟩
    · rw [e1, bi_s, gd_t (by decide)]
    · rw [e2, bi_s, gd_t (by decide)]
theorem shelfE {p g : Nat} (hp : p < 6) (hg : g < 3) (v : VV) : F_X9_shelf 1 (nI p) (nI g) v = some (37 + (3 * p + g), v) := by
  unfold F_X9_shelf f_X9_shelf
  rw [rfC10, tn (by omega), tn (by omega), rfC2, rfCp hp, rfCs hp, lnC2, lnCp hp, gd_t (inB_n (by omega) (by omega)), gd_t (inB_n hg (by omega))]
