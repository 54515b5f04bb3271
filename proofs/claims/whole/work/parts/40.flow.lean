theorem i_tele (a b c d : Int32) : a + (b - c) + (d - b) = a + (d - c) := by grind
/-! what ticks do to one shelf: by the lists of changes B t of each tick t -/
def hld (s : Nat) (b : Int32) : Nat := if b.toInt + s < 0 then 0 else if 1000 < b.toInt + s then 1000 else (b.toInt + s).toNat
theorem hld_le (s : Nat) (b : Int32) : hld s b ≤ 1000 := by
  unfold hld
  split
  · omega
  · split <;> omega
def evS (bs : List Int32) (s : Nat) : Nat := bs.foldl hld s
theorem evS_nil (s : Nat) : evS [] s = s := rfl
theorem evS_snoc (bs : List Int32) (b : Int32) (s : Nat) : evS (bs ++ [b]) s = hld (evS bs s) b := by
  unfold evS
  rw [List.foldl_append]
  rfl
theorem evS_le : ∀ (bs : List Int32) (s : Nat), s ≤ 1000 → evS bs s ≤ 1000
  | [], s, h => h
  | b :: bs, s, _ => evS_le bs (hld s b) (hld_le s b)
def muS (mk us s : Nat) : Nat := min 1000 (s + mk) - min us (min 1000 (s + mk))
def muM (mk s : Nat) : Nat := min 1000 (s + mk) - s
def muU (mk us s : Nat) : Nat := min us (min 1000 (s + mk))
def muL (mk us s : Nat) : Nat := us - min us (min 1000 (s + mk))
def fl (B : Nat → List Int32) (mk us T s0 : Nat) : Nat → Nat × Int32 × Int32 × Int32 × Int32
  | 0 => (s0, 0, 0, 0, 0)
  | n + 1 => (muS mk us (evS (B (T + n)) (fl B mk us T s0 n).1), (fl B mk us T s0 n).2.1 + nI (muM mk (evS (B (T + n)) (fl B mk us T s0 n).1)), (fl B mk us T s0 n).2.2.1 + nI (muU mk us (evS (B (T + n)) (fl B mk us T s0 n).1)), (fl B mk us T s0 n).2.2.2.1 + (nI (evS (B (T + n)) (fl B mk us T s0 n).1) - nI (fl B mk us T s0 n).1), (fl B mk us T s0 n).2.2.2.2 + nI (muL mk us (evS (B (T + n)) (fl B mk us T s0 n).1)))
def fk (B : Nat → List Int32) (mk us T s0 : Nat) : Nat → Option Nat
  | 0 => none
  | n + 1 => match fk B mk us T s0 n with
    | some x => some x
    | none => if muL mk us (evS (B (T + n)) (fl B mk us T s0 n).1) = 0 then none else some (T + n)
def fkI : Option Nat → Int32
  | none => -6
  | some x => nI x
theorem muS_le (mk us s : Nat) : muS mk us s ≤ 1000 := by unfold muS; omega
theorem fl_le {B : Nat → List Int32} {mk us T s0 : Nat} (h : s0 ≤ 1000) : ∀ n, (fl B mk us T s0 n).1 ≤ 1000
  | 0 => h
  | n + 1 => muS_le _ _ _
theorem fl_congr {B B' : Nat → List Int32} {mk us T s0 : Nat} (h : ∀ t, B t = B' t) : ∀ n, fl B mk us T s0 n = fl B' mk us T s0 n := by
  have : B = B' := funext h
  subst this
  intro n; rfl
/-! the changes of tick t at place k among the first e -/
def Bk (f5 f6 f7 : Nat → Int32) (k t : Nat) : Nat → List Int32
  | 0 => []
  | e + 1 => if f5 e = nI t ∧ f6 e = nI k then Bk f5 f6 f7 k t e ++ [f7 e] else Bk f5 f6 f7 k t e
theorem Bk_nil {f5 f6 f7 : Nat → Int32} {k t : Nat} : ∀ e, (∀ i, i < e → f5 i ≠ nI t) → Bk f5 f6 f7 k t e = []
  | 0, _ => rfl
  | e + 1, h => by
    rw [Bk, if_neg (fun h9 => h e (by omega) h9.1)]
    exact Bk_nil e (fun i hi => h i (by omega))
theorem Bk_ext {f5 f6 f7 : Nat → Int32} {k t e : Nat} : ∀ d, (∀ i, e ≤ i → i < e + d → f5 i ≠ nI t) → Bk f5 f6 f7 k t (e + d) = Bk f5 f6 f7 k t e
  | 0, _ => rfl
  | d + 1, h => by
    rw [show e + (d + 1) = (e + d) + 1 from rfl, Bk, if_neg (fun h9 => h (e + d) (by omega) (by omega) h9.1)]
    exact Bk_ext d (fun i h1 h2 => h i h1 (by omega))
theorem Bk_evs (f5 f6 f7 : Nat → Int32) (k t : Nat) : ∀ e, Bk f5 f6 f7 k t e = (((evs f5 f6 f7 e).filter (fun x => x.1 = nI t)).filter (fun x => x.2.1 = nI k)).map (fun x => x.2.2)
  | 0 => rfl
  | e + 1 => by
    have ih := Bk_evs f5 f6 f7 k t e
    unfold evs at ih ⊢
    rw [Bk, List.range_succ, List.map_append, List.filter_append, List.filter_append, List.map_append, ← ih]
    by_cases h1 : f5 e = nI t
    · by_cases h2 : f6 e = nI k
      · rw [if_pos ⟨h1, h2⟩]
        simp [h1, h2]
      · rw [if_neg (fun h => h2 h.2)]
        simp [h1, h2]
    · rw [if_neg (fun h => h1 h.1)]
      simp [h1]
theorem sb_toInt {s : Nat} {b : Int32} (hs : s ≤ 1000) (h1 : -1000 ≤ b) (h2 : b ≤ 1000) : (nI s + b).toInt = b.toInt + s := by
  rw [Int32.le_iff_toInt_le] at h1 h2
  have e1 : (-1000 : Int32).toInt = -1000 := by decide
  have e2 : (1000 : Int32).toInt = 1000 := by decide
  rw [e1] at h1
  rw [e2] at h2
  rw [Int32.toInt_add, nI_toInt (by omega)]
  rw [Int.bmod_eq_of_le (by omega) (by omega)]
  omega
theorem i_1000 : (1000 : Int32).toInt = 1000 := by decide
theorem i_0 : (0 : Int32).toInt = 0 := by decide
theorem sb_eq {s : Nat} {b : Int32} (hs : s ≤ 1000) (h1 : -1000 ≤ b) (h2 : b ≤ 1000) (ha : 0 ≤ b.toInt + s) (hb : b.toInt + s ≤ 1000) : nI s + b = nI (b.toInt + s).toNat := by
  apply Int32.toInt_inj.mp
  rw [sb_toInt hs h1 h2, nI_toInt (by omega)]
  omega
theorem hld_C {s : Nat} {b : Int32} (hs : s ≤ 1000) (h1 : -1000 ≤ b) (h2 : b ≤ 1000) : (if 0 < (if (nI s + b) < 1000 then (nI s + b) else 1000) then (if (nI s + b) < 1000 then (nI s + b) else 1000) else 0) = nI (hld s b) := by
  have e := sb_toInt hs h1 h2
  unfold hld
  by_cases a : b.toInt + s < 0
  · rw [if_pos a, if_pos (show nI s + b < 1000 by rw [Int32.lt_iff_toInt_lt, e, i_1000]; omega), if_neg (by rw [Int32.lt_iff_toInt_lt, e, i_0]; omega)]
    rfl
  · by_cases c : 1000 < b.toInt + s
    · rw [if_neg a, if_pos c, if_neg (show ¬ nI s + b < 1000 by rw [Int32.lt_iff_toInt_lt, e, i_1000]; omega), if_pos (by decide)]
      rfl
    · rw [if_neg a, if_neg c]
      have e3 := sb_eq hs h1 h2 (by omega) (by omega)
      by_cases d : b.toInt + s = 1000
      · rw [if_neg (show ¬ nI s + b < 1000 by rw [Int32.lt_iff_toInt_lt, e, i_1000]; omega), if_pos (by decide), d]
        rfl
      · rw [if_pos (show nI s + b < 1000 by rw [Int32.lt_iff_toInt_lt, e, i_1000]; omega)]
        by_cases d0 : b.toInt + s = 0
        · rw [if_neg (by rw [Int32.lt_iff_toInt_lt, e, i_0]; omega), d0]
          rfl
        · rw [if_pos (by rw [Int32.lt_iff_toInt_lt, e, i_0]; omega), e3]
theorem hld_M {s : Nat} {b : Int32} (hs : s ≤ 1000) (h1 : -1000 ≤ b) (h2 : b ≤ 1000) (v : VV) : F_X11_held (nI s + b) v = some (nI (hld s b), v) := by
  have e := sb_toInt hs h1 h2
  unfold F_X11_held f_X11_held hld
  by_cases a : b.toInt + s < 0
  · rw [if_pos a, if_neg (by rw [Int32.le_iff_toInt_le, e, i_0]; omega)]
    rfl
  · rw [if_neg a, if_pos (show (0 : Int32) ≤ nI s + b by rw [Int32.le_iff_toInt_le, e, i_0]; omega)]
    by_cases c : 1000 < b.toInt + s
    · rw [if_pos c, if_neg (by rw [Int32.le_iff_toInt_le, e, i_1000]; omega)]
      rfl
    · rw [if_neg c, if_pos (by rw [Int32.le_iff_toInt_le, e, i_1000]; omega), sb_eq hs h1 h2 (by omega) (by omega)]
theorem hldN_M {s m : Nat} (hs : s ≤ 1000) (hm : m ≤ 1000) (v : VV) : F_X11_held (nI s + nI m) v = some (nI (min 1000 (s + m)), v) := by
  unfold F_X11_held f_X11_held
  rw [nI_add, if_pos (nI_pos' (by omega))]
  by_cases h : s + m ≤ 1000
  · rw [if_pos (show nI (s + m) ≤ 1000 from nI_le (b := 1000) h (by omega)), Nat.min_eq_right h]
  · rw [if_neg (show ¬ nI (s + m) ≤ 1000 from nI_ge (a := 1000) (by omega) (by omega)), Nat.min_eq_left (by omega)]
    rfl
/-! Flow.follow -/
theorem bringE {d s : Nat} {b : Int32} {v : VV} (h0 : v d 0 = nI s) (hs : s ≤ 1000) (h1 : -1000 ≤ b) (h2 : b ≤ 1000) : F_X2_bring d b v = some (wu (wu v d 3 (v d 3 + (nI (hld s b) - nI s))) d 0 (nI (hld s b))) := by
  unfold F_X2_bring f_X2_bring
  simp only [nv, h0]
  rw [hld_C hs h1 h2]
theorem muE {d c1 t mk us s : Nat} {v : VV} (hd : c1 ≠ d) (h0 : v d 0 = nI s) (hs : s ≤ 1000) (hm : v c1 2 = nI mk) (hu : v c1 3 = nI us) (m1 : mk ≤ 50) (u1 : us ≤ 50) : ∃ v', F_X2_makeAndUse d c1 (nI t) v = some v' ∧ (∀ c, c ≠ d → v' c = v c) ∧ v' d 0 = nI (muS mk us s) ∧ v' d 1 = v d 1 + nI (muM mk s) ∧ v' d 2 = v d 2 + nI (muU mk us s) ∧ v' d 3 = v d 3 ∧ v' d 4 = v d 4 + nI (muL mk us s) ∧ v' d 5 = (if muL mk us s = 0 then v d 5 else if v d 5 = -6 then nI t else v d 5) := by
  unfold F_X2_makeAndUse f_X2_makeAndUse
  have x1 : (if (1000 - nI s) < nI mk then (1000 - nI s) else nI mk) = nI (muM mk s) := by
    rw [show (1000 : Int32) - nI s = nI (1000 - s) from pk_sub (a := 1000) hs, minI (by omega) (by omega)]
    unfold muM
    congr 1; omega
  have x2 : (if (nI s + nI (muM mk s)) < nI us then (nI s + nI (muM mk s)) else nI us) = nI (muU mk us s) := by
    unfold muM
    rw [nI_add, minI (by omega) (by omega)]
    unfold muU
    congr 1; omega
  have x3 : nI s + (nI (muM mk s) - nI (muU mk us s)) = nI (muS mk us s) := by
    have : nI s + (nI (muM mk s) - nI (muU mk us s)) = nI s + nI (muM mk s) - nI (muU mk us s) := by grind
    rw [this, nI_add, pk_sub (by unfold muU muM; omega)]
    unfold muS muU muM
    congr 1; omega
  simp only [nv, h0, hm, hu, x1, x2, x3]
  simp only [wu_n hd, hu]
  have hU : muU mk us s ≤ us := by unfold muU; omega
  by_cases hz : us ≤ muU mk us s
  · rw [if_pos (nI_le hz (by omega))]
    have hl : muL mk us s = 0 := by unfold muL; unfold muU at hz; omega
    refine ⟨_, rfl, fun c hc => by rw [wu_n hc, wu_n hc, wu_n hc], ?_, ?_, ?_, ?_, ?_, ?_⟩ <;> simp only [wu_g] <;> simp [hl, nI_0]
  · rw [if_neg (nI_ge (by omega) (by omega)), pk_sub hU]
    have hl : ¬ muL mk us s = 0 := by unfold muL; unfold muU at hz; omega
    have hl2 : us - muU mk us s = muL mk us s := rfl
    rw [hl2]
    have h5 : ∀ (x1 x2 x3 x4 : Int32), wu (wu (wu (wu v d 0 x1) d 1 x2) d 2 x3) d 4 x4 d 5 = v d 5 := by
      intro x1 x2 x3 x4
      simp only [wu_g]; simp
    simp only [h5]
    by_cases h6 : v d 5 = -6
    · rw [if_pos h6]
      refine ⟨_, rfl, fun c hc => by rw [wu_n hc, wu_n hc, wu_n hc, wu_n hc, wu_n hc], ?_, ?_, ?_, ?_, ?_, ?_⟩ <;> simp only [wu_g] <;> simp [hl, h6]
    · rw [if_neg h6]
      refine ⟨_, rfl, fun c hc => by rw [wu_n hc, wu_n hc, wu_n hc, wu_n hc, wu_n hc], ?_, ?_, ?_, ?_, ?_, ?_⟩ <;> simp only [wu_g] <;> simp [hl, h6]
