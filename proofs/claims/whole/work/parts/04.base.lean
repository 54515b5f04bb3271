/-! THE WORLD. No method but the constructors makes a cell, and no reference in a cell ever changes: so the heap of an object of the system is a fixed layout (which cell is of which kind, which slot points to which cell) and numbers v c j: slot j of cell c. A layout: how many cells, the kind of each (0 to 11 by vwCl; 12 int[], 13 boolean[], 14 .. arrays of references), the length of each array, what each reference slot points to. -/
abbrev VV : Type := Nat → Nat → Int32
abbrev LY : Type := Nat × (Nat → Nat) × (Nat → Nat) × (Nat → Nat → Nat)
def nfl (k : Nat) : Nat := match k with
  | 0 => 4 | 1 => 5 | 2 => 6 | 3 => 15 | 4 => 5 | 5 => 7 | 6 => 7 | 7 => 4 | 8 => 7 | 9 => 6 | 10 => 12 | 11 => 42 | _ => 0
/-- is slot j of a cell of kind k a reference? -/
def srf (k j : Nat) : Bool := match k with
  | 0 => decide (j < 3)
  | 3 => decide (j < 8) || decide (j = 11) || decide (j = 12)
  | 4 => decide (j = 0)
  | 5 => decide (j < 4)
  | 7 => decide (j = 3)
  | 8 => decide (4 ≤ j)
  | 9 => decide (j < 3)
  | 10 => decide (j < 2) || decide (8 ≤ j)
  | 11 => !(decide (j < 3) || (decide (14 ≤ j) && decide (j < 19)) || decide (j = 22) || decide (j = 27) || (decide (30 ≤ j) && decide (j < 33)) || (decide (34 ≤ j) && decide (j < 37)) || decide (j = 41))
  | _ => decide (14 ≤ k)
/-- the kind of what slot j of a cell of kind k points to -/
def rkd (k j : Nat) : Nat := match k with
  | 0 => 12
  | 3 => if j = 0 then 9 else if j = 1 then 2 else if j = 2 then 1 else if j = 3 then 17 else 12
  | 4 => 15
  | 5 => if j = 0 then 9 else if j = 1 then 18 else 12
  | 7 => 12
  | 8 => 12
  | 9 => if j = 0 then 14 else if j = 1 then 18 else 0
  | 10 => if j = 0 then 9 else if j = 1 then 16 else if j = 8 then 2 else if j = 9 then 1 else if j = 10 then 5 else 3
  | 11 => if j = 12 then 13 else 12
  | 14 => 4
  | 15 => 6
  | 16 => 7
  | 17 => 8
  | _ => 12
def wd_fs (Λ : LY) (ad : Nat → Nat) (v : VV) (c ci : Nat) : List Value := (List.range (nfl ci)).map (fun j => if srf ci j = true then Value.ref (ad (Λ.2.2.2 c j)) else Value.int (v c j))
def wd_e (Λ : LY) (cy : Nat → ClassId) (ad : Nat → Nat) (v : VV) (c : Nat) : va_E :=
  if Λ.2.1 c < 12 then .inr (Λ.2.1 c, wd_fs Λ ad v c (Λ.2.1 c)) else if Λ.2.1 c < 14 then .inl (cy (Λ.2.1 c), Λ.2.2.1 c, .inl (v c)) else .inl (cy (Λ.2.1 c), Λ.2.2.1 c, .inr (.inr (.inr (.inr (fun j => some (ad (Λ.2.2.2 c j)))))))
def wd (Λ : LY) (cy : Nat → ClassId) (ad : Nat → Nat) (v : VV) : va_W := (List.range Λ.1).map (fun c => (ad c, wd_e Λ cy ad v c))
abbrev tysG (cy : Nat → ClassId) : List (ClassId × FieldType) := [(cy 12, .int), (cy 13, .boolean), (cy 14, .object "StarTrade$Port"), (cy 15, .object "StarTrade$Shelf"), (cy 16, .object "StarTrade$Ship"), (cy 17, .object "StarTrade$Stop"), (cy 18, .array .int)]
/-- no two cells share an address -/
def wI (Λ : LY) (ad : Nat → Nat) : Prop := ∀ i j : Nat, i < Λ.1 → j < Λ.1 → ad i = ad j → i = j
/-- the layout is well typed -/
def wT (Λ : LY) : Prop := (∀ c, c < Λ.1 → ∀ j, j < nfl (Λ.2.1 c) → srf (Λ.2.1 c) j = true → Λ.2.2.2 c j < Λ.1 ∧ Λ.2.1 (Λ.2.2.2 c j) = rkd (Λ.2.1 c) j) ∧ (∀ c, c < Λ.1 → 14 ≤ Λ.2.1 c → ∀ j, j < Λ.2.2.1 c → Λ.2.2.2 c j < Λ.1 ∧ Λ.2.1 (Λ.2.2.2 c j) = rkd (Λ.2.1 c) 0)
def wA (Λ : LY) (ad : Nat → Nat) : Nat → Prop := fun q => ∃ c, c < Λ.1 ∧ ad c = q
/-- a cell of a kind -/
def wk (Λ : LY) (o k : Nat) : Prop := o < Λ.1 ∧ Λ.2.1 o = k
theorem wt_f {Λ : LY} (hT : wT Λ) {o k : Nat} (ho : wk Λ o k) (j : Nat) (hj : j < nfl k) (hs : srf k j = true) {k' : Nat} (hk : rkd k j = k') : wk Λ (Λ.2.2.2 o j) k' := by
  obtain ⟨h1, rfl⟩ := ho
  subst hk
  exact hT.1 o h1 j hj hs
theorem wt_a {Λ : LY} (hT : wT Λ) {o k : Nat} (ho : wk Λ o k) (hk14 : 14 ≤ k) {i : Int32} (hi : vp_in i (Λ.2.2.1 o)) {k' : Nat} (hk : rkd k 0 = k') : wk Λ (Λ.2.2.2 o i.toNatClampNeg) k' := by
  obtain ⟨h1, rfl⟩ := ho
  subst hk
  exact hT.2 o h1 hk14 _ (Nat.not_le.mp fun q => hi (Or.inr q))
theorem wd_get {Λ : LY} {cy : Nat → ClassId} {ad : Nat → Nat} {v : VV} {c : Nat} (h : c < Λ.1) : (wd Λ cy ad v)[c]? = some (ad c, wd_e Λ cy ad v c) := by
  simp [wd, h]
theorem wd_set {Λ : LY} {cy : Nat → ClassId} {ad : Nat → Nat} {v v' : VV} {c : Nat} {x : va_E} (h : c < Λ.1) (hx : wd_e Λ cy ad v' c = x) (ho : ∀ c', c' ≠ c → wd_e Λ cy ad v' c' = wd_e Λ cy ad v c') : (wd Λ cy ad v).set c (ad c, x) = wd Λ cy ad v' := by
  apply List.ext_getElem?
  intro j
  by_cases hj : j = c
  · subst hj
    rw [List.getElem?_set_self (by simpa [wd] using h), wd_get h, hx]
  · rw [List.getElem?_set_ne (Ne.symm hj)]
    by_cases hl : j < Λ.1
    · rw [wd_get hl, wd_get hl, ho j hj]
    · simp [wd, hl]
theorem wd_D {Λ : LY} {cy : Nat → ClassId} {ad : Nat → Nat} {v : VV} (hI : wI Λ ad) : va_D (wA Λ ad) (wd Λ cy ad v) := by
  have key : ∀ (k : Nat) (q : Nat × va_E), (wd Λ cy ad v)[k]? = some q → k < Λ.1 ∧ q.1 = ad k := by
    intro k q hk
    by_cases hl : k < Λ.1
    · rw [wd_get hl] at hk
      cases hk
      exact ⟨hl, rfl⟩
    · simp [wd, hl] at hk
  refine ⟨fun i j x y hi hj hxy => ?_, fun k q hk => ?_⟩
  · obtain ⟨a1, a2⟩ := key i x hi
    obtain ⟨b1, b2⟩ := key j y hj
    exact hI i j a1 b1 (by rw [← a2, ← b2, hxy])
  · obtain ⟨a1, a2⟩ := key k q hk
    exact ⟨k, a1, a2.symm⟩
theorem wd_e_o {Λ : LY} {cy : Nat → ClassId} {ad : Nat → Nat} {v : VV} {c k : Nat} (h : wk Λ c k) (hk : k < 12) : wd_e Λ cy ad v c = .inr (k, wd_fs Λ ad v c k) := by
  obtain ⟨-, rfl⟩ := h
  simp [wd_e, hk]
theorem wd_e_i {Λ : LY} {cy : Nat → ClassId} {ad : Nat → Nat} {v : VV} {c k : Nat} (h : wk Λ c k) (hk : ¬ k < 12) (hk2 : k < 14) : wd_e Λ cy ad v c = .inl (cy k, Λ.2.2.1 c, .inl (v c)) := by
  obtain ⟨-, rfl⟩ := h
  simp [wd_e, hk, hk2]
theorem wd_e_q {Λ : LY} {cy : Nat → ClassId} {ad : Nat → Nat} {v : VV} {c k : Nat} (h : wk Λ c k) (hk : ¬ k < 14) : wd_e Λ cy ad v c = .inl (cy k, Λ.2.2.1 c, .inr (.inr (.inr (.inr (fun j => some (ad (Λ.2.2.2 c j))))))) := by
  obtain ⟨-, rfl⟩ := h
  have : ¬ Λ.2.1 c < 12 := by omega
  simp [wd_e, hk, this]
/-- slot j of cell c is x -/
def wu (v : VV) (c j : Nat) (x : Int32) : VV := va_up v c (upd (v c) j x)
theorem wd_fs_set {Λ : LY} {ad : Nat → Nat} {v : VV} {c ci k : Nat} {x : Int32} (hs : srf ci k = false) : (wd_fs Λ ad v c ci).set k (.int x) = wd_fs Λ ad (wu v c k x) c ci := by
  apply List.ext_getElem?
  intro j
  by_cases hl : j < nfl ci
  · by_cases hj : j = k
    · subst hj
      rw [List.getElem?_set_self (by simpa [wd_fs] using hl)]
      simp [wd_fs, hl, hs, wu, va_up, upd]
    · rw [List.getElem?_set_ne (Ne.symm hj)]
      simp [wd_fs, hl, wu, va_up, upd, hj]
  · have h1 : (wd_fs Λ ad (wu v c k x) c ci)[j]? = none := by simp [wd_fs]; omega
    have h2 : ((wd_fs Λ ad v c ci).set k (.int x))[j]? = none := by simp [wd_fs]; omega
    rw [h1, h2]
theorem wd_e_ne {Λ : LY} {cy : Nat → ClassId} {ad : Nat → Nat} {v : VV} {c : Nat} {f : Nat → Int32} (c' : Nat) (h : c' ≠ c) : wd_e Λ cy ad (va_up v c f) c' = wd_e Λ cy ad v c' := by
  have : va_up v c f c' = v c' := va_up_ne _ _ h
  simp only [wd_e, wd_fs, this]
/-! functions that mirror the code: a guard, a name, an end -/
def gd {α : Type} (c : Prop) [Decidable c] (x : Option α) : Option α := if c then x else none
theorem gd_e {α : Type} {c : Prop} [Decidable c] {x : Option α} {b : α} (h : gd c x = some b) : c ∧ x = some b := by
  unfold gd at h
  split at h
  · exact ⟨by assumption, h⟩
  · cases h
theorem gd_t {α : Type} {c : Prop} [Decidable c] {x : Option α} (h : c) : gd c x = x := if_pos h
def nv {α β : Type} (e : α) (k : α → Option β) : Option β := k e
theorem nv_e {α β : Type} {e x : α} {k : α → Option β} {b : β} (h : nv e k = some b) (hx : x = e) : k x = some b := by
  subst hx
  exact h
theorem bd_e {α β : Type} {x : Option α} {k : α → Option β} {b : β} (h : x.bind k = some b) : ∃ a, x = some a ∧ k a = some b := by
  cases x with
  | none => cases h
  | some a => exact ⟨a, rfl, h⟩
theorem if_t {α : Type} {c : Prop} [Decidable c] {x y : Option α} {b : α} (h : (if c then x else y) = some b) (hc : c) : x = some b := (if_pos hc).symm.trans h
theorem if_f {α : Type} {c : Prop} [Decidable c] {x y : Option α} {b : α} (h : (if c then x else y) = some b) (hc : ¬ c) : y = some b := (if_neg hc).symm.trans h
/-- what a walk stands on -/
def Cx (p : Program) (s : State) (m : MethodId) (args : Array Value) (c : Code) (cc : ByteArray) (nL : Nat) (own : String) (D : va_G) (cy : Nat → ClassId) : Prop := p.tables.exec = Jvm.exec ∧ c.code = cc ∧ c.maxLocals = nL ∧ s.vm.findClass own = some m.cls ∧ (∀ w ∈ wsG, w.before args s = true) ∧ va_K D vwCl (tysG cy) s
/-- what is known of a class -/
def Ck (ci : Nat) (Cn : String) (T : u_T) (ty : Nat → FieldType) : Prop := vwCl[ci]? = some (Cn, T, nfl ci) ∧ (∀ w ∈ u_ws Cn T (nfl ci), w ∈ wsG) ∧ ci < 12 ∧ (∀ k, k < nfl ci → parseFieldDescriptor (T k).2.2.1 = some (ty k)) ∧ (∀ a, a < nfl ci → ∀ b, b < nfl ci → a ≠ b → (T a).2.1 ≠ (T b).2.1)
theorem ck_0 : Ck 0 RX0 TX0 tyX0 := ⟨rfl, inlX0, by decide, tyX0_ok, nmX0⟩
theorem ck_1 : Ck 1 RX1 TX1 tyX1 := ⟨rfl, inlX1, by decide, tyX1_ok, nmX1⟩
theorem ck_2 : Ck 2 RX2 TX2 tyX2 := ⟨rfl, inlX2, by decide, tyX2_ok, nmX2⟩
theorem ck_3 : Ck 3 RX3 TX3 tyX3 := ⟨rfl, inlX3, by decide, tyX3_ok, nmX3⟩
theorem ck_4 : Ck 4 RX4 TX4 tyX4 := ⟨rfl, inlX4, by decide, tyX4_ok, nmX4⟩
theorem ck_5 : Ck 5 RX5 TX5 tyX5 := ⟨rfl, inlX5, by decide, tyX5_ok, nmX5⟩
theorem ck_6 : Ck 6 RX6 TX6 tyX6 := ⟨rfl, inlX6, by decide, tyX6_ok, nmX6⟩
theorem ck_7 : Ck 7 RX7 TX7 tyX7 := ⟨rfl, inlX7, by decide, tyX7_ok, nmX7⟩
theorem ck_8 : Ck 8 RX8 TX8 tyX8 := ⟨rfl, inlX8, by decide, tyX8_ok, nmX8⟩
theorem ck_9 : Ck 9 RX9 TX9 tyX9 := ⟨rfl, inlX9, by decide, tyX9_ok, nmX9⟩
theorem ck_10 : Ck 10 RX10 TX10 tyX10 := ⟨rfl, inlX10, by decide, tyX10_ok, nmX10⟩
theorem ck_11 : Ck 11 RX11 TX11 tyX11 := ⟨rfl, inlX11, by decide, tyX11_ok, nmX11⟩
/-- room by levels: a call goes one level down -/
def rmL (d : Nat) : Room := { frames := d, cells := 0, slots := 0, locals := 100 * d }
def RoL (d : Nat) (R : Room) : Prop := d ≤ R.frames ∧ 100 * d ≤ R.locals
theorem RoL.le {d d' : Nat} {R : Room} (h : RoL d R) (hd : d' ≤ d) : RoL d' R := ⟨Nat.le_trans hd h.1, Nat.le_trans (Nat.mul_le_mul_left _ hd) h.2⟩
theorem RoL_rm (d : Nat) : RoL d (rmL d) := ⟨Nat.le_refl _, Nat.le_refl _⟩
/-- a contract's start and ends -/
def pcG (Λ : LY) (cy : Nat → ClassId) (ad : Nat → Nat) (D : va_G) (as : List Value) (v : VV) : Array Value → State → Prop := va_Pc as (fun U => va_P D vwCl (wd Λ cy ad v) U.heap ∧ va_K D vwCl (tysG cy) U)
def qiG (Λ : LY) (cy : Nat → ClassId) (ad : Nat → Nat) (D : va_G) (r : Int32) (v : VV) : Array Value → State → Outcome → State → Prop := va_Qi (fun r' u => r' = r ∧ u = v) (fun u t => va_P D vwCl (wd Λ cy ad u) t.heap) (wA Λ ad)
def qvG (Λ : LY) (cy : Nat → ClassId) (ad : Nat → Nat) (D : va_G) (v : VV) : Array Value → State → Outcome → State → Prop := va_Qv (fun u => u = v) (fun u t => va_P D vwCl (wd Λ cy ad u) t.heap) (wA Λ ad)
def qrG (Λ : LY) (cy : Nat → ClassId) (ad : Nat → Nat) (D : va_G) (r : Nat) (v : VV) : Array Value → State → Outcome → State → Prop := va_Qr (fun u => u = v) (fun u a t => a = ad r ∧ va_P D vwCl (wd Λ cy ad u) t.heap) (wA Λ ad)
theorem pcG_blind {Λ : LY} {cy : Nat → ClassId} {ad : Nat → Nat} {D : va_G} {as : List Value} {v : VV} : FrameBlind (pcG Λ cy ad D as v) := by
  intro a U g mk q
  obtain ⟨q0, qP, qK⟩ := q
  exact ⟨q0, qP, va_K.moved (u := U) (U := U.calling g mk a) (Vm.Alike.refl U.vm) qK⟩
/-- what is known of a method: of an object, static -/
def MI (y : MethodName) (C : String) (bytes : ByteArray) (maxL : Nat) (ret : Option FieldType) (n : Nat) : Prop := Cond.code y bytes maxL ret ∈ wsG ∧ Cond.instanceMethod y ∈ wsG ∧ Cond.selects C y y ∈ wsG ∧ Cond.initialized C ∈ wsG ∧ (y.cls = C ∧ y.cls ≠ "java/lang/invoke/MethodHandle" ∧ y.cls ≠ "java/lang/invoke/VarHandle" ∧ (parseMethodDescriptor y.desc).map (fun d => d.parameters.length) = some n) ∧ maxL ≤ 60
def MS (y : MethodName) (C : String) (bytes : ByteArray) (maxL : Nat) (ret : Option FieldType) (n : Nat) : Prop := Cond.code y bytes maxL ret ∈ wsG ∧ Cond.static y ∈ wsG ∧ Cond.initialized C ∈ wsG ∧ (y.cls = C ∧ y.cls ≠ "java/lang/invoke/MethodHandle" ∧ y.cls ≠ "java/lang/invoke/VarHandle" ∧ (parseMethodDescriptor y.desc).map (fun d => d.parameters.length) = some n) ∧ maxL ≤ 60
section XX
variable {p : Program} {l : Launch} {e : Env} {R : Room} {s : State} {m : MethodId} {args : Array Value} {below : List Frame} {meth : Method} {c : Code} {H : Heap} {locs : List Loc} {cells slots : Nat} {Q : State → Prop}
variable {cc : ByteArray} {nL : Nat} {own : String} {pc : Nat} {ls : Array Slot} {rest : List Value} {D : va_G} {cy : Nat → ClassId} {ad : Nat → Nat} {Λ : LY} {v : VV} {H0 : Heap} {o : Nat}
theorem x_geti (C : Cx p s m args c cc nL own D cy) (hP : va_P D vwCl (wd Λ cy ad v) H) {ci index : Nat} {Cn : String} {T : u_T} {ty : Nat → FieldType} (K : Ck ci Cn T ty) (k : Nat) (hl : Cond.fieldLink own index (T k).1 (T k).2.1 (T k).2.2.1 ∈ wsG) (hk : k < nfl ci) (hs : srf ci k = false) (ho : wk Λ o ci) (hdg : decode cc pc = .ok (.getfield index, 3))
    (kk : W p l e R s m args below meth c H locs cells slots Q (F0 m (pc + 3) ls (.int (v o k) :: rest))) : W p l e R s m args below meth c H locs cells slots Q (F0 m pc ls (.ref (ad o) :: rest)) := by
  obtain ⟨hx, hb, hml, hown, hts, hK⟩ := C
  obtain ⟨k1, k2, k3, k4, k5⟩ := K
  refine va_get (D := D) (ci := ci) (v := .int (v o k)) (C := Cn) (T := T) (N := nfl ci) hx hb hts k2 hown hK hP o ((wd_get ho.1).trans (congrArg (fun z => some (ad o, z)) (wd_e_o ho k3))) k1 k hk (hts _ hl) (fun _ h => h) ?_ hdg kk
  simp [wd_fs, hk, hs]
theorem x_getr (C : Cx p s m args c cc nL own D cy) (hP : va_P D vwCl (wd Λ cy ad v) H) {ci index : Nat} {Cn : String} {T : u_T} {ty : Nat → FieldType} (K : Ck ci Cn T ty) (k : Nat) (hl : Cond.fieldLink own index (T k).1 (T k).2.1 (T k).2.2.1 ∈ wsG) (hk : k < nfl ci) (hs : srf ci k = true) (ho : wk Λ o ci) (hdg : decode cc pc = .ok (.getfield index, 3))
    (kk : W p l e R s m args below meth c H locs cells slots Q (F0 m (pc + 3) ls (.ref (ad (Λ.2.2.2 o k)) :: rest))) : W p l e R s m args below meth c H locs cells slots Q (F0 m pc ls (.ref (ad o) :: rest)) := by
  obtain ⟨hx, hb, hml, hown, hts, hK⟩ := C
  obtain ⟨k1, k2, k3, k4, k5⟩ := K
  refine va_get (D := D) (ci := ci) (v := .ref (ad (Λ.2.2.2 o k))) (C := Cn) (T := T) (N := nfl ci) hx hb hts k2 hown hK hP o ((wd_get ho.1).trans (congrArg (fun z => some (ad o, z)) (wd_e_o ho k3))) k1 k hk (hts _ hl) (fun _ h => h) ?_ hdg kk
  simp [wd_fs, hk, hs]
theorem x_put (C : Cx p s m args c cc nL own D cy) (hI : wI Λ ad) (hP : va_P D vwCl (wd Λ cy ad v) H) (hS : va_S (wA Λ ad) H0 H locs) {ci index : Nat} {Cn : String} {T : u_T} {ty : Nat → FieldType} (K : Ck ci Cn T ty) (k : Nat) (hl : Cond.fieldLink own index (T k).1 (T k).2.1 (T k).2.2.1 ∈ wsG) (hk : k < nfl ci) (hs : srf ci k = false) (hfin : (T k).2.2.2 = false) (ho : wk Λ o ci) {x : Int32} (hn : narrow (ty k) (.int x) = .int x) (hf : fits (ty k) (.int x) = true) (hdg : decode cc pc = .ok (.putfield index, 3))
    (kk : ∀ (H1 : Heap) (locs1 : List Loc), va_P D vwCl (wd Λ cy ad (wu v o k x)) H1 → va_S (wA Λ ad) H0 H1 locs1 → W p l e R s m args below meth c H1 locs1 cells slots Q (F0 m (pc + 3) ls rest)) : W p l e R s m args below meth c H locs cells slots Q (F0 m pc ls (.int x :: .ref (ad o) :: rest)) := by
  obtain ⟨hx, hb, hml, hown, hts, hK⟩ := C
  obtain ⟨k1, k2, k3, k4, k5⟩ := K
  have hse : (wd Λ cy ad v).set o (ad o, .inr (ci, (wd_fs Λ ad v o ci).set k (.int x))) = wd Λ cy ad (wu v o k x) := wd_set ho.1 (by rw [wd_fs_set hs, wd_e_o ho k3]) (fun c' h => wd_e_ne c' h)
  refine va_put (D := D) (ci := ci) (v := .int x) (ty := ty k) (C := Cn) (T := T) (N := nfl ci) hx hb hts k2 ty k4 k5 hown hK hP (wd_D hI) hS o ((wd_get ho.1).trans (congrArg (fun z => some (ad o, z)) (wd_e_o ho k3))) k1 k hk (hts _ hl) (fun _ h => h) hfin (k4 k hk) hn hf (by simpa [wd_fs] using hk) hdg (fun H1 locs1 h1 _ h3 => ?_)
  rw [hse] at h1
  exact kk H1 locs1 h1 h3
theorem x_iald (C : Cx p s m args c cc nL own D cy) (hP : va_P D vwCl (wd Λ cy ad v) H) (ho : wk Λ o 12) {i : Int32} (hi : vp_in i (Λ.2.2.1 o)) (hdg : decode cc pc = .ok (.iaload, 1))
    (kk : W p l e R s m args below meth c H locs cells slots Q (F0 m (pc + 1) ls (.int (v o i.toNatClampNeg) :: rest))) : W p l e R s m args below meth c H locs cells slots Q (F0 m pc ls (.int i :: .ref (ad o) :: rest)) := by
  obtain ⟨hx, hb, hml, hown, hts, hK⟩ := C
  exact va_iald hx hb hK hP o 0 ((wd_get ho.1).trans (congrArg (fun z => some (ad o, z)) (wd_e_i ho (by decide) (by decide)))) rfl hi hdg kk
theorem x_zald (C : Cx p s m args c cc nL own D cy) (hP : va_P D vwCl (wd Λ cy ad v) H) (ho : wk Λ o 13) {i : Int32} (hi : vp_in i (Λ.2.2.1 o)) (hdg : decode cc pc = .ok (.baload, 1))
    (kk : W p l e R s m args below meth c H locs cells slots Q (F0 m (pc + 1) ls (.int (v o i.toNatClampNeg) :: rest))) : W p l e R s m args below meth c H locs cells slots Q (F0 m pc ls (.int i :: .ref (ad o) :: rest)) := by
  obtain ⟨hx, hb, hml, hown, hts, hK⟩ := C
  exact va_zald hx hb hK hP o 1 ((wd_get ho.1).trans (congrArg (fun z => some (ad o, z)) (wd_e_i ho (by decide) (by decide)))) rfl hi hdg kk
theorem x_iast (C : Cx p s m args c cc nL own D cy) (hI : wI Λ ad) (hP : va_P D vwCl (wd Λ cy ad v) H) (hS : va_S (wA Λ ad) H0 H locs) (ho : wk Λ o 12) {i x : Int32} (hi : vp_in i (Λ.2.2.1 o)) (hdg : decode cc pc = .ok (.iastore, 1))
    (kk : ∀ (H1 : Heap) (locs1 : List Loc), va_P D vwCl (wd Λ cy ad (wu v o i.toNatClampNeg x)) H1 → va_S (wA Λ ad) H0 H1 locs1 → W p l e R s m args below meth c H1 locs1 cells slots Q (F0 m (pc + 1) ls rest)) : W p l e R s m args below meth c H locs cells slots Q (F0 m pc ls (.int x :: .int i :: .ref (ad o) :: rest)) := by
  obtain ⟨hx, hb, hml, hown, hts, hK⟩ := C
  have hse : (wd Λ cy ad v).set o (ad o, .inl (cy 12, Λ.2.2.1 o, .inl (upd (v o) i.toNatClampNeg x))) = wd Λ cy ad (wu v o i.toNatClampNeg x) := wd_set ho.1 (by rw [wd_e_i ho (by decide) (by decide)]; simp [wu, va_up]) (fun c' h => wd_e_ne c' h)
  refine va_iast hx hb hK hP (wd_D hI) hS o 0 ((wd_get ho.1).trans (congrArg (fun z => some (ad o, z)) (wd_e_i ho (by decide) (by decide)))) rfl hi hdg (fun H1 locs1 h1 _ h3 => ?_)
  rw [hse] at h1
  exact kk H1 locs1 h1 h3
theorem x_zast (C : Cx p s m args c cc nL own D cy) (hI : wI Λ ad) (hP : va_P D vwCl (wd Λ cy ad v) H) (hS : va_S (wA Λ ad) H0 H locs) (ho : wk Λ o 13) {i x : Int32} (hi : vp_in i (Λ.2.2.1 o)) (hx1 : x &&& 1 = x) (hdg : decode cc pc = .ok (.bastore, 1))
    (kk : ∀ (H1 : Heap) (locs1 : List Loc), va_P D vwCl (wd Λ cy ad (wu v o i.toNatClampNeg x)) H1 → va_S (wA Λ ad) H0 H1 locs1 → W p l e R s m args below meth c H1 locs1 cells slots Q (F0 m (pc + 1) ls rest)) : W p l e R s m args below meth c H locs cells slots Q (F0 m pc ls (.int x :: .int i :: .ref (ad o) :: rest)) := by
  obtain ⟨hx, hb, hml, hown, hts, hK⟩ := C
  have hnr : vp_nar .boolean x = x := by
    show (x &&& 1) = x
    exact hx1
  have hse : (wd Λ cy ad v).set o (ad o, .inl (cy 13, Λ.2.2.1 o, .inl (upd (v o) i.toNatClampNeg x))) = wd Λ cy ad (wu v o i.toNatClampNeg x) := wd_set ho.1 (by rw [wd_e_i ho (by decide) (by decide)]; simp [wu, va_up]) (fun c' h => wd_e_ne c' h)
  refine va_zast hx hb hK hP (wd_D hI) hS o 1 ((wd_get ho.1).trans (congrArg (fun z => some (ad o, z)) (wd_e_i ho (by decide) (by decide)))) rfl hi hdg (fun H1 locs1 h1 _ h3 => ?_)
  rw [hnr, hse] at h1
  exact kk H1 locs1 h1 h3
theorem x_aald (C : Cx p s m args c cc nL own D cy) (hP : va_P D vwCl (wd Λ cy ad v) H) {k : Nat} (ho : wk Λ o k) (hk : ¬ k < 14) (hk2 : k < 19) {i : Int32} (hi : vp_in i (Λ.2.2.1 o)) (hdg : decode cc pc = .ok (.aaload, 1))
    (kk : W p l e R s m args below meth c H locs cells slots Q (F0 m (pc + 1) ls (.ref (ad (Λ.2.2.2 o i.toNatClampNeg)) :: rest))) : W p l e R s m args below meth c H locs cells slots Q (F0 m pc ls (.int i :: .ref (ad o) :: rest)) := by
  obtain ⟨hx, hb, hml, hown, hts, hK⟩ := C
  have he : (wd Λ cy ad v)[o]? = some (ad o, .inl (cy k, Λ.2.2.1 o, .inr (.inr (.inr (.inr (fun j => some (ad (Λ.2.2.2 o j)))))))) := (wd_get ho.1).trans (congrArg (fun z => some (ad o, z)) (wd_e_q ho hk))
  have hlt : i.toNatClampNeg < Λ.2.2.1 o := Nat.not_le.mp fun q => hi (Or.inr q)
  have key : ∀ ty : FieldType, ty.isReference = true → ArrOfT s (cy k) ty → W p l e R s m args below meth c H locs cells slots Q (F0 m pc ls (.int i :: .ref (ad o) :: rest)) := fun ty hty hA =>
    W.aald (v := .ref (ad (Λ.2.2.2 o i.toNatClampNeg))) (ty := ty) hx hb (hP o _ he) (hA (Λ.2.2.1 o) (fun j => va_rf (some (ad (Λ.2.2.2 o j))))) hty (fun q => by cases q) (by show ¬ (i < 0 ∨ (arrV _ _ _).slots.size ≤ _); rw [arrV_size]; exact hi) (by show (arrV _ _ _).slots[_]? = _; rw [arrV_read _ _ hlt]; rfl) rfl rfl hdg kk
  rcases (show k = 14 ∨ k = 15 ∨ k = 16 ∨ k = 17 ∨ k = 18 by omega) with rfl | rfl | rfl | rfl | rfl
  · exact key _ rfl (hK.2 2 _ rfl).1
  · exact key _ rfl (hK.2 3 _ rfl).1
  · exact key _ rfl (hK.2 4 _ rfl).1
  · exact key _ rfl (hK.2 5 _ rfl).1
  · exact key _ rfl (hK.2 6 _ rfl).1
/-- calls -/
theorem x_cwV {y : MethodName} {C : String} {bytes : ByteArray} {maxL n d index : Nat} {ret : Option FieldType} (hts : ∀ w ∈ wsG, w.before args s = true) (M : MI y C bytes maxL ret n) (hl : Cond.methodLink own index y ∈ wsG) (hR : RoL (d + 1) R) : CallW R s args own C index y bytes maxL ret (Cond.code y bytes maxL ret :: wsG) (rmL d) 0 0 n := by
  obtain ⟨h1, h2, h3, h4, h5, h6⟩ := M
  have hG : GoodIn wsG (wsV own index C y (Cond.code y bytes maxL ret :: wsG)) := by
    intro w hw
    have hm : w ∈ wsG := by
      unfold wsV at hw
      rcases List.mem_append.mp hw with hw | hw
      · simp only [List.mem_cons, List.not_mem_nil, or_false] at hw
        rcases hw with rfl | rfl | rfl | rfl
        · exact hl
        · exact h2
        · exact h3
        · exact h4
      · rcases List.mem_cons.mp hw with rfl | hw
        · exact h1
        · exact hw
    exact ⟨hm, wsG_word hm⟩
  exact cwV n hts hG rfl rfl rfl h5 ⟨hR.1, by have := hR.2; show 8 + (maxL + 11) + 100 * d ≤ _; omega⟩
theorem x_cwS {y : MethodName} {bytes : ByteArray} {maxL n d index : Nat} {ret : Option FieldType} (hts : ∀ w ∈ wsG, w.before args s = true) (M : MS y own bytes maxL ret n) (hl : Cond.methodLink own index y ∈ wsG) (hR : RoL (d + 1) R) : CallB R s args own index y bytes maxL ret (Cond.code y bytes maxL ret :: wsG) (rmL d) 0 0 n ∧ (Cond.static y).before args s = true := by
  obtain ⟨h1, h2, h4, h5, h6⟩ := M
  have hG : GoodIn wsG (wsS own index y (Cond.code y bytes maxL ret :: wsG)) := by
    intro w hw
    have hm : w ∈ wsG := by
      unfold wsS at hw
      rcases List.mem_append.mp hw with hw | hw
      · simp only [List.mem_cons, List.not_mem_nil, or_false] at hw
        rcases hw with rfl | rfl | rfl
        · exact hl
        · exact h2
        · exact h4
      · rcases List.mem_cons.mp hw with rfl | hw
        · exact h1
        · exact hw
    exact ⟨hm, wsG_word hm⟩
  exact cwS n hts hG rfl rfl rfl h5 ⟨hR.1, by have := hR.2; show 8 + (maxL + 11) + 100 * d ≤ _; omega⟩
theorem x_recv (C : Cx p s m args c cc nL own D cy) (hP : va_P D vwCl (wd Λ cy ad v) H) {ci : Nat} {Cn : String} {T : u_T} {ty : Nat → FieldType} (K : Ck ci Cn T ty) (ho : wk Λ o ci) : ∃ cell : Cell, H[ad o]? = some cell ∧ cell.vm.isStatics = false ∧ s.vm.findClass Cn = some cell.cls := by
  obtain ⟨k1, k2, k3, k4, k5⟩ := K
  exact va_recv C.2.2.2.2.2 hP k1 ((wd_get ho.1).trans (congrArg (fun z => some (ad o, z)) (wd_e_o ho k3)))
theorem x_calli (C : Cx p s m args c cc nL own D cy) (hP : va_P D vwCl (wd Λ cy ad v) H) (hS : va_S (wA Λ ad) H0 H locs) {y : MethodName} {Cn : String} {bytes : ByteArray} {maxL n d index ci : Nat} {ret : Option FieldType} {T : u_T} {ty : Nat → FieldType} (M : MI y Cn bytes maxL ret n) (K : Ck ci Cn T ty) (ho : wk Λ o ci) (hl : Cond.methodLink own index y ∈ wsG) (hR : RoL (d + 1) R) (hc0 : cells ≤ R.cells) (hs0 : slots ≤ R.slots) (As : List Value) (hn : As.length = n) (hz : ls.size = nL) {st0 : List Value} (hst : st0 = As.reverse ++ .ref (ad o) :: rest) (hro : (rest.map fun v => v.category).sum ≤ 8) (hdg : decode cc pc = .ok (.invokevirtual index, 3)) {r : Int32} {v' : VV}
    (hM : Met l y (Cond.code y bytes maxL ret :: wsG) (rmL d) (pcG Λ cy ad D (.ref (ad o) :: As) v) (qiG Λ cy ad D r v') 0 0 (wA Λ ad))
    (kk : ∀ (H1 : Heap) (locs1 : List Loc), va_P D vwCl (wd Λ cy ad v') H1 → va_S (wA Λ ad) H0 H1 locs1 → W p l e R s m args below meth c H1 locs1 cells slots Q (F0 m (pc + 3) ls (.int r :: rest))) : W p l e R s m args below meth c H locs cells slots Q (F0 m pc ls st0) := by
  refine va_calli (va_runV (As := As) (rest := rest) ⟨C.1, C.2.1, C.2.2.1, C.2.2.2.1, C.2.2.2.2.1⟩ hM (x_cwV C.2.2.2.2.1 M hl hR) ⟨pcG_blind, x_recv C hP K ho, fun U hU hW => ⟨rfl, by rw [hU]; exact hP, va_K.moved hW.alike C.2.2.2.2.2⟩⟩ rfl hn hz hst (lv_room hro) hdg ⟨hc0, hs0⟩) hS (fun q _ h => h) (fun q h => h) (fun r1 u t H1 locs1 ht hvm hw hB hz1 hk1 hS1 => ?_)
  obtain ⟨rfl, rfl⟩ := hw
  rw [ht] at hB
  exact kk H1 locs1 hB hS1
theorem x_callv (C : Cx p s m args c cc nL own D cy) (hP : va_P D vwCl (wd Λ cy ad v) H) (hS : va_S (wA Λ ad) H0 H locs) {y : MethodName} {Cn : String} {bytes : ByteArray} {maxL n d index ci : Nat} {ret : Option FieldType} {T : u_T} {ty : Nat → FieldType} (M : MI y Cn bytes maxL ret n) (K : Ck ci Cn T ty) (ho : wk Λ o ci) (hl : Cond.methodLink own index y ∈ wsG) (hR : RoL (d + 1) R) (hc0 : cells ≤ R.cells) (hs0 : slots ≤ R.slots) (As : List Value) (hn : As.length = n) (hz : ls.size = nL) {st0 : List Value} (hst : st0 = As.reverse ++ .ref (ad o) :: rest) (hro : (rest.map fun v => v.category).sum ≤ 8) (hdg : decode cc pc = .ok (.invokevirtual index, 3)) {v' : VV}
    (hM : Met l y (Cond.code y bytes maxL ret :: wsG) (rmL d) (pcG Λ cy ad D (.ref (ad o) :: As) v) (qvG Λ cy ad D v') 0 0 (wA Λ ad))
    (kk : ∀ (H1 : Heap) (locs1 : List Loc), va_P D vwCl (wd Λ cy ad v') H1 → va_S (wA Λ ad) H0 H1 locs1 → W p l e R s m args below meth c H1 locs1 cells slots Q (F0 m (pc + 3) ls rest)) : W p l e R s m args below meth c H locs cells slots Q (F0 m pc ls st0) := by
  refine va_callv (va_runV (As := As) (rest := rest) ⟨C.1, C.2.1, C.2.2.1, C.2.2.2.1, C.2.2.2.2.1⟩ hM (x_cwV C.2.2.2.2.1 M hl hR) ⟨pcG_blind, x_recv C hP K ho, fun U hU hW => ⟨rfl, by rw [hU]; exact hP, va_K.moved hW.alike C.2.2.2.2.2⟩⟩ rfl hn hz hst (lv_room hro) hdg ⟨hc0, hs0⟩) hS (fun q _ h => h) (fun q h => h) (fun u t H1 locs1 ht hvm hw hB hz1 hk1 hS1 => ?_)
  obtain rfl := hw
  rw [ht] at hB
  exact kk H1 locs1 hB hS1
theorem x_callr (C : Cx p s m args c cc nL own D cy) (hP : va_P D vwCl (wd Λ cy ad v) H) (hS : va_S (wA Λ ad) H0 H locs) {y : MethodName} {Cn : String} {bytes : ByteArray} {maxL n d index ci : Nat} {ret : Option FieldType} {T : u_T} {ty : Nat → FieldType} (M : MI y Cn bytes maxL ret n) (K : Ck ci Cn T ty) (ho : wk Λ o ci) (hl : Cond.methodLink own index y ∈ wsG) (hR : RoL (d + 1) R) (hc0 : cells ≤ R.cells) (hs0 : slots ≤ R.slots) (As : List Value) (hn : As.length = n) (hz : ls.size = nL) {st0 : List Value} (hst : st0 = As.reverse ++ .ref (ad o) :: rest) (hro : (rest.map fun v => v.category).sum ≤ 8) (hdg : decode cc pc = .ok (.invokevirtual index, 3)) {r : Nat} {v' : VV}
    (hM : Met l y (Cond.code y bytes maxL ret :: wsG) (rmL d) (pcG Λ cy ad D (.ref (ad o) :: As) v) (qrG Λ cy ad D r v') 0 0 (wA Λ ad))
    (kk : ∀ (H1 : Heap) (locs1 : List Loc), va_P D vwCl (wd Λ cy ad v') H1 → va_S (wA Λ ad) H0 H1 locs1 → W p l e R s m args below meth c H1 locs1 cells slots Q (F0 m (pc + 3) ls (.ref (ad r) :: rest))) : W p l e R s m args below meth c H locs cells slots Q (F0 m pc ls st0) := by
  refine va_callr (va_runV (As := As) (rest := rest) ⟨C.1, C.2.1, C.2.2.1, C.2.2.2.1, C.2.2.2.2.1⟩ hM (x_cwV C.2.2.2.2.1 M hl hR) ⟨pcG_blind, x_recv C hP K ho, fun U hU hW => ⟨rfl, by rw [hU]; exact hP, va_K.moved hW.alike C.2.2.2.2.2⟩⟩ rfl hn hz hst (lv_room hro) hdg ⟨hc0, hs0⟩) hS (fun q _ h => h) (fun q h => h) (fun u ra t H1 locs1 ht hvm hw hB hz1 hk1 hS1 => ?_)
  obtain rfl := hw
  obtain ⟨rfl, hB⟩ := hB
  rw [ht] at hB
  exact kk H1 locs1 hB hS1
theorem x_callsi (C : Cx p s m args c cc nL own D cy) (hP : va_P D vwCl (wd Λ cy ad v) H) (hS : va_S (wA Λ ad) H0 H locs) {y : MethodName} {bytes : ByteArray} {maxL n d index : Nat} {ret : Option FieldType} (M : MS y own bytes maxL ret n) (hl : Cond.methodLink own index y ∈ wsG) (hR : RoL (d + 1) R) (hc0 : cells ≤ R.cells) (hs0 : slots ≤ R.slots) (As : List Value) (hn : As.length = n) (hz : ls.size = nL) {st0 : List Value} (hst : st0 = As.reverse ++ rest) (hro : (rest.map fun v => v.category).sum ≤ 8) (hdg : decode cc pc = .ok (.invokestatic index, 3)) {r : Int32} {v' : VV}
    (hM : Met l y (Cond.code y bytes maxL ret :: wsG) (rmL d) (pcG Λ cy ad D As v) (qiG Λ cy ad D r v') 0 0 (wA Λ ad))
    (kk : ∀ (H1 : Heap) (locs1 : List Loc), va_P D vwCl (wd Λ cy ad v') H1 → va_S (wA Λ ad) H0 H1 locs1 → W p l e R s m args below meth c H1 locs1 cells slots Q (F0 m (pc + 3) ls (.int r :: rest))) : W p l e R s m args below meth c H locs cells slots Q (F0 m pc ls st0) := by
  refine va_calli (va_runS (As := As) (rest := rest) ⟨C.1, C.2.1, C.2.2.1, C.2.2.2.1, C.2.2.2.2.1⟩ hM (x_cwS C.2.2.2.2.1 M hl hR) ⟨pcG_blind, fun U hU hW => ⟨rfl, by rw [hU]; exact hP, va_K.moved hW.alike C.2.2.2.2.2⟩⟩ rfl hn hz hst (lv_room hro) hdg ⟨hc0, hs0⟩) hS (fun q _ h => h) (fun q h => h) (fun r1 u t H1 locs1 ht hvm hw hB hz1 hk1 hS1 => ?_)
  obtain ⟨rfl, rfl⟩ := hw
  rw [ht] at hB
  exact kk H1 locs1 hB hS1
theorem x_max (C : Cx p s m args c cc nL own D cy) {index : Nat} (hl : Cond.methodLink own index Lib.Math.max.name ∈ wsG) (hR : RoL 1 R) (hc0 : cells ≤ R.cells) (hs0 : slots ≤ R.slots) (hz : ls.size = nL) (hro : (rest.map fun v => v.category).sum ≤ 8) {x y : Int32} (hdg : decode cc pc = .ok (.invokestatic index, 3))
    (kk : W p l e R s m args below meth c H locs cells slots Q (F0 m (pc + 3) ls (.int (if x < y then y else x) :: rest))) : W p l e R s m args below meth c H locs cells slots Q (F0 m pc ls (.int y :: .int x :: rest)) := by
  obtain ⟨hx, hb, hml, hown, hts, hK⟩ := C
  exact va_mmax hx hb (hml.trans hz.symm) hown (hts _ hl) (hts _ st_Lib_Math_max_name) (hts _ in_java_lang_Math) (hts _ cd_Lib_Math_max_name) hR.1 (by have := hR.2; omega) hc0 hs0 hdg kk
theorem x_min (C : Cx p s m args c cc nL own D cy) {index : Nat} (hl : Cond.methodLink own index Lib.Math.min.name ∈ wsG) (hR : RoL 1 R) (hc0 : cells ≤ R.cells) (hs0 : slots ≤ R.slots) (hz : ls.size = nL) (hro : (rest.map fun v => v.category).sum ≤ 8) {x y : Int32} (hdg : decode cc pc = .ok (.invokestatic index, 3))
    (kk : W p l e R s m args below meth c H locs cells slots Q (F0 m (pc + 3) ls (.int (if y < x then y else x) :: rest))) : W p l e R s m args below meth c H locs cells slots Q (F0 m pc ls (.int y :: .int x :: rest)) := by
  obtain ⟨hx, hb, hml, hown, hts, hK⟩ := C
  exact va_mmin hx hb (hml.trans hz.symm) hown (hts _ hl) (hts _ st_Lib_Math_min_name) (hts _ in_java_lang_Math) (hts _ cd_Lib_Math_min_name) hR.1 (by have := hR.2; omega) hc0 hs0 hdg kk
theorem x_swIn (C : Cx p s m args c cc nL own D cy) {dflt lo hi : Int} {offs : Array Int} {len : Nat} {x : Int32} {off : Int} {tgt : Nat} (k : Int32) (a : Int) (hk : k.toInt = a) (hx : x = k) (hdg : decode cc pc = .ok (.tableswitch dflt lo hi offs, len)) (h1 : lo ≤ a ∧ a ≤ hi) (ho : offs[(a - lo).toNat]? = some off) (ht : (pc : Int) + off = (tgt : Int))
    (kk : W p l e R s m args below meth c H locs cells slots Q (F0 m tgt ls rest)) : W p l e R s m args below meth c H locs cells slots Q (F0 m pc ls (.int x :: rest)) := by
  subst hx
  subst hk
  exact lv_tableIn C.1 C.2.1 hdg (by omega) (by omega) ho ht kk
theorem x_swOut (C : Cx p s m args c cc nL own D cy) {dflt lo hi : Int} {offs : Array Int} {len : Nat} {x : Int32} {tgt : Nat} (hdg : decode cc pc = .ok (.tableswitch dflt lo hi offs, len)) (h : x.toInt < lo ∨ hi < x.toInt) (ht : (pc : Int) + dflt = (tgt : Int))
    (kk : W p l e R s m args below meth c H locs cells slots Q (F0 m tgt ls rest)) : W p l e R s m args below meth c H locs cells slots Q (F0 m pc ls (.int x :: rest)) := lv_tableOut C.1 C.2.1 hdg h ht kk
/-- ends -/
theorem x_iret (C : Cx p s m args c cc nL own D cy) (hr : meth.sig.returnType = some .int) (hlk : meth.locks = false) (hP : va_P D vwCl (wd Λ cy ad v) H) (hS : va_S (wA Λ ad) s.heap H locs) {r r' : Int32} {v' : VV} (h : some (r, v) = some (r', v')) (hdg : decode cc pc = .ok (.ireturn, 1)) : W p l e R s m args below meth c H locs cells slots (MQ below (qiG Λ cy ad D r' v') args s cells slots (wA Λ ad)) (F0 m pc ls [.int r]) := by
  cases h
  exact W.iret C.1 C.2.1 hr (fun t ht hW => ⟨⟨r, v, rfl, ⟨rfl, rfl⟩, by show va_P D vwCl (wd Λ cy ad v) t.heap; rw [ht]; exact hP⟩, hS.F ht⟩) hS.2.2 hdg hlk
theorem x_zret (C : Cx p s m args c cc nL own D cy) (hr : meth.sig.returnType = some .boolean) (hlk : meth.locks = false) (hP : va_P D vwCl (wd Λ cy ad v) H) (hS : va_S (wA Λ ad) s.heap H locs) {r r' : Int32} {v' : VV} (hn : r &&& 1 = r) (h : some (r, v) = some (r', v')) (hdg : decode cc pc = .ok (.ireturn, 1)) : W p l e R s m args below meth c H locs cells slots (MQ below (qiG Λ cy ad D r' v') args s cells slots (wA Λ ad)) (F0 m pc ls [.int r]) := by
  cases h
  exact W.zret C.1 C.2.1 hr (by show Value.int (r &&& 1) = _; rw [hn]) (fun t ht hW => ⟨⟨r, v, rfl, ⟨rfl, rfl⟩, by show va_P D vwCl (wd Λ cy ad v) t.heap; rw [ht]; exact hP⟩, hS.F ht⟩) hS.2.2 hdg hlk
theorem x_vret (C : Cx p s m args c cc nL own D cy) (hr : meth.sig.returnType = none) (hlk : meth.locks = false) (hP : va_P D vwCl (wd Λ cy ad v) H) (hS : va_S (wA Λ ad) s.heap H locs) {v' : VV} (h : some v = some v') (hdg : decode cc pc = .ok (.return_, 1)) : W p l e R s m args below meth c H locs cells slots (MQ below (qvG Λ cy ad D v') args s cells slots (wA Λ ad)) (F0 m pc ls []) := by
  cases h
  exact W.vret C.1 C.2.1 hr (fun t ht hW => ⟨⟨v, rfl, rfl, by show va_P D vwCl (wd Λ cy ad v) t.heap; rw [ht]; exact hP⟩, hS.F ht⟩) hS.2.2 hdg hlk
theorem x_rret (C : Cx p s m args c cc nL own D cy) {cn : String} (hr : meth.sig.returnType = some (.object cn)) (hlk : meth.locks = false) (hP : va_P D vwCl (wd Λ cy ad v) H) (hS : va_S (wA Λ ad) s.heap H locs) {r r' : Nat} {v' : VV} (h : some (r, v) = some (r', v')) (hdg : decode cc pc = .ok (.areturn, 1)) : W p l e R s m args below meth c H locs cells slots (MQ below (qrG Λ cy ad D r' v') args s cells slots (wA Λ ad)) (F0 m pc ls [.ref (ad r)]) := by
  cases h
  exact W.aret C.1 C.2.1 hr (Or.inl ⟨_, rfl⟩) (Or.inr ⟨_, rfl⟩) (fun t ht hW => ⟨⟨v, ad r, rfl, rfl, rfl, by rw [ht]; exact hP⟩, hS.F ht⟩) hS.2.2 hdg hlk
end XX
def inB (i : Int32) (n : Nat) : Bool := decide (0 ≤ i.toInt ∧ i.toInt < n)
theorem inB_vp {i : Int32} {n : Nat} (h : inB i n = true) : vp_in i n := vp_in_iff.mpr (of_decide_eq_true h)
theorem nv_p {β : Type} {e : VV} {k : VV → Option β} {b : β} {P : VV → Prop} (h : nv e k = some b) (hP : P e) : ∃ x, k x = some b ∧ P x := ⟨e, h, hP⟩
def bi {α β : Type} (x : Option (α × VV)) (k : α → VV → Option β) : Option β := match x with
  | none => none
  | some q => k q.1 q.2
theorem bi_e {α β : Type} {x : Option (α × VV)} {k : α → VV → Option β} {b : β} (h : bi x k = some b) : ∃ r v, x = some (r, v) ∧ k r v = some b := by
  cases x with
  | none => cases h
  | some q => exact ⟨q.1, q.2, rfl, h⟩
theorem bi_s {α β : Type} {r : α} {v : VV} {k : α → VV → Option β} : bi (some (r, v)) k = k r v := rfl
/-- the steps that a loop is given -/
def FU : Nat := 60000
/-- the first n of row a are copied to row b -/
def wcp (v : VV) (a b n : Nat) : VV := va_up v b (va_cpy (v a) (v b) 0 0 n)
theorem x_copy {p : Program} {l : Launch} {e : Env} {R : Room} {s : State} {m : MethodId} {args : Array Value} {below : List Frame} {meth : Method} {c : Code} {H : Heap} {locs : List Loc} {cells slots : Nat} {Q : State → Prop} {cc : ByteArray} {nL : Nat} {own : String} {pc : Nat} {ls : Array Slot} {rest : List Value} {D : va_G} {cy : Nat → ClassId} {ad : Nat → Nat} {Λ : LY} {v : VV} {H0 : Heap} {o o' : Nat}
    (C : Cx p s m args c cc nL own D cy) (hI : wI Λ ad) (hP : va_P D vwCl (wd Λ cy ad v) H) (hS : va_S (wA Λ ad) H0 H locs) {index : Nat} (hl : Cond.methodLink own index arraycopyName ∈ wsG) (ho : wk Λ o 12) (ho' : wk Λ o' 12) {n : Int32} (h3 : ¬ n < 0) (h4 : n.toNatClampNeg ≤ Λ.2.2.1 o) (h5 : n.toNatClampNeg ≤ Λ.2.2.1 o') (hR : RoL 1 R) (hz : ls.size = nL) (hro : (rest.map fun v => v.category).sum ≤ 8) (hdg : decode cc pc = .ok (.invokestatic index, 3))
    (kk : ∀ (H1 : Heap) (locs1 : List Loc), va_P D vwCl (wd Λ cy ad (wcp v o o' n.toNatClampNeg)) H1 → va_S (wA Λ ad) H0 H1 locs1 → W p l e R s m args below meth c H1 locs1 cells slots Q (F0 m (pc + 3) ls rest)) : W p l e R s m args below meth c H locs cells slots Q (F0 m pc ls (.int n :: .int 0 :: .ref (ad o') :: .int 0 :: .ref (ad o) :: rest)) := by
  obtain ⟨hx, hb, hml, hown, hts, hK⟩ := C
  have e0 : (0 : Int32).toNatClampNeg = 0 := sb_cl0
  have hse : (wd Λ cy ad v).set o' (ad o', .inl (cy 12, Λ.2.2.1 o', .inl (va_cpy (v o) (v o') (0 : Int32).toNatClampNeg (0 : Int32).toNatClampNeg n.toNatClampNeg))) = wd Λ cy ad (wcp v o o' n.toNatClampNeg) := wd_set ho'.1 (by rw [wd_e_i ho' (by decide) (by decide), e0]; simp [wcp, va_up]) (fun c' h => wd_e_ne c' h)
  refine va_copyi hx hb (hml.trans hz.symm) hown (hts _ hl) (hts _ na_arraycopy) (hts _ st_arraycopyName) (hts _ in_java_lang_System) hK hP (wd_D hI) hS o o' 0 0 ((wd_get ho.1).trans (congrArg (fun z => some (ad o, z)) (wd_e_i ho (by decide) (by decide)))) ((wd_get ho'.1).trans (congrArg (fun z => some (ad o', z)) (wd_e_i ho' (by decide) (by decide)))) rfl rfl (ty := .int) rfl (by decide) (by decide) h3 (by rw [e0]; omega) (by rw [e0]; omega) (fun _ _ => rfl) hR.1 ?_ hdg (fun H1 locs1 h1 _ h3 => ?_)
  · have h9 : nativeFrameWords "java/lang/System" "arraycopy" 5 ≤ 70 := by decide +kernel
    have := hR.2
    omega
  · rw [hse] at h1
    exact kk H1 locs1 h1 h3
/-! the two layouts: of a StarTrade, of a StarTradeModel -/
def kdC (c : Nat) : Nat := if c < 25 then [10, 9, 14, 18, 0, 12, 12, 12, 16, 2, 1, 5, 18, 12, 12, 3, 2, 1, 17, 12, 12, 12, 12, 12, 12].getD c 12 else if c < 31 then 4 else if c < 37 then 15 else if c < 55 then 6 else if c < 67 then 12 else if c < 71 then 7 else if c < 75 then 12 else if c < 79 then 8 else 12
def lnC (c : Nat) : Nat := if c < 25 then [0, 0, 6, 6, 0, 20, 20, 20, 4, 0, 0, 0, 6, 6, 6, 0, 0, 0, 4, 18, 18, 3, 3, 3, 3].getD c 0 else if c < 31 then 0 else if c < 37 then 3 else if c < 55 then 0 else if c < 67 then 6 else if c < 71 then 0 else if c < 75 then 3 else if c < 79 then 0 else 4
def rfC (c j : Nat) : Nat := match c with
  | 0 => [1, 8, 0, 0, 0, 0, 0, 0, 9, 10, 11, 15].getD j 0
  | 1 => [2, 3, 4].getD j 0
  | 2 => 25 + j
  | 3 => 55 + j
  | 4 => 5 + j
  | 8 => 67 + j
  | 11 => [1, 12, 13, 14].getD j 0
  | 12 => 61 + j
  | 15 => [1, 16, 17, 18, 19, 20, 21, 22, 0, 0, 0, 23, 24].getD j 0
  | 18 => 75 + j
  | _ => if c < 25 then 0 else if c < 31 then c + 6 else if c < 37 then 37 + 3 * (c - 31) + j else if c < 67 then 0 else if c < 71 then c + 4 else if c < 75 then 0 else c + 4 * (j - 3)
abbrev LC : LY := (91, kdC, lnC, rfC)
def kdM (c : Nat) : Nat := if c = 0 then 11 else if c = 10 then 13 else 12
def lnM (c : Nat) : Nat := [0, 18, 18, 18, 18, 18, 18, 6, 6, 6, 6, 36, 20, 20, 20, 4, 4, 4, 12, 6, 6, 18, 3, 3, 3, 3].getD c 0
def rfM (c j : Nat) : Nat := match c with
  | 0 => [0, 0, 0, 1, 2, 3, 4, 5, 6, 7, 8, 9, 10, 11, 0, 0, 0, 0, 0, 12, 13, 14, 0, 15, 16, 17, 18, 0, 19, 20, 0, 0, 0, 21, 0, 0, 0, 22, 23, 24, 25, 0].getD j 0
  | _ => 0
abbrev LM : LY := (26, kdM, lnM, rfM)
theorem wT_C : wT LC := ⟨by decide +kernel, by decide +kernel⟩
theorem wT_M : wT LM := ⟨by decide +kernel, by decide +kernel⟩
