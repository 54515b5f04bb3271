/-! CONSTRUCTORS: worlds as lists of cells; a fixed part X in front, behind it what callees made -/
def NB (U : State) : Prop := (va_AO "StarTrade$Port" U ∧ va_AO "StarTrade$Shelf" U ∧ va_AO "StarTrade$Ship" U ∧ va_AO "StarTrade$Stop" U ∧ (Cond.arrayOver (.array .int)).before #[] U = true) ∧ va_Nw (.methodLinkNest RX10 22 yX7_init "StarTrade") U ∧ va_Nw (.methodLinkNest RX10 25 yX2_init "StarTrade") U ∧ va_Nw (.methodLinkNest RX10 32 yX1_init "StarTrade") U ∧ va_Nw (.methodLinkNest RX3 11 yX2_init "StarTrade") U ∧ va_Nw (.methodLinkNest RX3 20 yX1_init "StarTrade") U ∧ va_Nw (.methodLinkNest RX3 54 yX8_init "StarTrade") U ∧ va_Nw (.methodLinkNest RX9 27 yX0_init "StarTrade") U
theorem ao_args {ty : FieldType} {a a' : Array Value} {U : State} (h : (Cond.arrayOver ty).before a U = true) : (Cond.arrayOver ty).before a' U = true := h
theorem ao_vm {ty : FieldType} {s U : State} (hvm : s.vm.Alike U.vm) (h : (Cond.arrayOver ty).before #[] s = true) : (Cond.arrayOver ty).before #[] U = true := by
  have h1 := Cond.arrayOver_setVmC (args := #[]) hvm ty
  rw [h] at h1
  have e : ∀ (A B : State), A.vm = B.vm → (Cond.arrayOver ty).before #[] A = (Cond.arrayOver ty).before #[] B := by
    intro A B hAB
    simp only [Cond.before, Cond.holds, Cond.value, hAB]
  rw [e U (s.setVm U.vm) rfl]
  exact h1
theorem NB.warm {s U : State} (hW : s.WarmedH U.vm) (h : NB s) : NB U := by
  obtain ⟨⟨a1, a2, a3, a4, a5⟩, b1, b2, b3, b4, b5, b6, b7⟩ := h
  exact ⟨⟨a1.moved hW.alike, a2.moved hW.alike, a3.moved hW.alike, a4.moved hW.alike, ao_vm hW.alike a5⟩, b1.warmM hW, b2.warmM hW, b3.warmM hW, b4.warmM hW, b5.warmM hW, b6.warmM hW, b7.warmM hW⟩
theorem NB.call {U : State} {g : JFrame} {mk : MethodId} {a : Array Value} (h : NB U) : NB (U.calling g mk a) := by
  obtain ⟨⟨a1, a2, a3, a4, a5⟩, b1, b2, b3, b4, b5, b6, b7⟩ := h
  have hv : U.vm = (U.calling g mk a).vm := rfl
  exact ⟨⟨a1.moved (Vm.Alike.refl U.vm), a2.moved (Vm.Alike.refl U.vm), a3.moved (Vm.Alike.refl U.vm), a4.moved (Vm.Alike.refl U.vm), ao_vm (U := U.calling g mk a) (Vm.Alike.refl U.vm) a5⟩, b1.same rfl hv, b2.same rfl hv, b3.same rfl hv, b4.same rfl hv, b5.same rfl hv, b6.same rfl hv, b7.same rfl hv⟩
def rmI (d mc ms : Nat) : Room := { frames := d, cells := mc, slots := ms, locals := 100 * d }
theorem RoL_rmI (d mc ms : Nat) : RoL d (rmI d mc ms) := ⟨Nat.le_refl _, Nat.le_refl _⟩
def pcI (cy : Nat → ClassId) (D : va_G) (as : List Value) (h0 : Nat) (e0 : va_E) (sz : Nat) : Array Value → State → Prop := va_Pc (.ref h0 :: as) (fun U => U.heap.size = sz ∧ va_P D vwCl [(h0, e0)] U.heap ∧ va_K D vwCl (tysG cy) U ∧ NB U)
def qI (D : va_G) (cel : (List Nat → Nat) → va_W) (A : Nat → Prop) : Array Value → State → Outcome → State → Prop := va_Qv (fun _ : List Nat → Nat => True) (fun a t => va_P D vwCl (cel a) t.heap ∧ va_D A (cel a)) A
theorem pcI_blind {cy : Nat → ClassId} {D : va_G} {as : List Value} {h0 sz : Nat} {e0 : va_E} : FrameBlind (pcI cy D as h0 e0 sz) := by
  intro a U g mk q
  obtain ⟨q0, q1, qP, qK, qN⟩ := q
  exact ⟨q0, q1, qP, va_K.moved (u := U) (U := U.calling g mk a) (Vm.Alike.refl U.vm) qK, qN.call⟩
theorem D1 (x : Nat × va_E) : va_D (fun _ => True) [x] := by
  refine ⟨fun i j p q hi hj _ => ?_, fun _ _ _ => trivial⟩
  have h1 := (List.getElem?_eq_some_iff.mp hi).1
  have h2 := (List.getElem?_eq_some_iff.mp hj).1
  simp at h1 h2
  omega
/-- an array of references: another function with the same values within -/
theorem arrq {D : va_G} {ws : va_W} {H : Heap} (h : va_P D vwCl ws H) (i : Nat) {q n : Nat} {cA : ClassId} {f : Nat → Option Nat} (g : Nat → Option Nat) (hi : ws[i]? = some (q, .inl (cA, n, .inr (.inr (.inr (.inr f)))))) (hfg : ∀ j, j < n → f j = g j) : va_P D vwCl (ws.set i (q, .inl (cA, n, .inr (.inr (.inr (.inr g)))))) H := by
  have hl := (List.getElem?_eq_some_iff.mp hi).1
  intro k x hx
  by_cases hk : k = i
  · subst hk
    rw [List.getElem?_set_self hl] at hx
    cases hx
    have h1 := h k _ hi
    show H[q]? = some (vp_cell cA _)
    have h2 : H[q]? = some (vp_cell cA (n, .inr (.inr (.inr (.inr f))))) := h1
    rw [h2, vp_cell_q, vp_cell_q]
    have e : (fun j : Fin n => va_rf (f j.val)) = fun j : Fin n => va_rf (g j.val) := funext fun j => by rw [hfg j.1 j.2]
    show some (arrV cA n _) = some (arrV cA n _)
    unfold arrV
    rw [e]
  · rw [List.getElem?_set_ne (Ne.symm hk)] at hx
    exact h k x hx
theorem y_eqS {wr rs pl : va_W} {x : Nat × va_E} : (wr ++ (x :: rs)) ++ pl = (wr ++ [x]) ++ (rs ++ pl) := by simp
theorem y_eqD {X pl : va_W} {x : Nat × va_E} : (X ++ [x]) ++ pl = X ++ (x :: pl) := by simp
section YY
variable {p : Program} {l : Launch} {e : Env} {R : Room} {s : State} {m : MethodId} {args : Array Value} {below : List Frame} {meth : Method} {c : Code} {H : Heap} {locs : List Loc} {cells slots : Nat} {Q : State → Prop}
variable {cc : ByteArray} {nL : Nat} {own : String} {pc : Nat} {ls : Array Slot} {rest : List Value} {D : va_G} {cy : Nat → ClassId} {A : Nat → Prop} {H0 : Heap} {a : Nat} {X pl ws : va_W}
theorem y_obj (C : Cx p s m args c cc nL own D cy) {index : Nat} (hl : Cond.methodLink own index objectInit ∈ wsG) (hR : RoL 1 R) (hz : ls.size = nL) (hdg : decode cc pc = .ok (.invokespecial index, 3)) (kk : W p l e R s m args below meth c H locs cells slots Q (F0 m (pc + 3) ls [])) : W p l e R s m args below meth c H locs cells slots Q (F0 m pc ls [.ref a]) := by
  obtain ⟨hx, hb, hml, hown, hts, hK⟩ := C
  exact W.objInit hx hb hown (hts _ hl) (hts _ im_objectInit) (hts _ cd_objectInit) rfl (hz.trans hml.symm) rfl hdg hR.1 (by show 2 * 0 + 0 + 12 ≤ _; have := hR.2; omega) kk
theorem y_new (C : Cx p s m args c cc nL own D cy) (hP : va_P D vwCl (X ++ pl) H) (hD : va_D A (X ++ pl)) (hS : va_S A H0 H locs) (hA : ∀ q, H0.size ≤ q → A q) {ci index : Nat} {Cn : String} {T : u_T} {ty : Nat → FieldType} (K : Ck ci Cn T ty) (hcl : Cond.classLink own index Cn ∈ wsG) (hia : Cond.instantiable Cn (nfl ci) ∈ wsG) (hin : Cond.initialized Cn ∈ wsG) (fs : List Value) (hfs : ∀ j, j < nfl ci → defaultValue (ty j) = vp_V fs j) (hcells : cells + 1 ≤ R.cells) (hslots : slots + nfl ci ≤ R.slots) (hdg : decode cc pc = .ok (.new index, 3))
    (kk : ∀ (q : Nat) (H1 : Heap), va_P D vwCl ((X ++ [(q, .inr (ci, fs))]) ++ pl) H1 → va_D A ((X ++ [(q, .inr (ci, fs))]) ++ pl) → va_S A H0 H1 locs → W p l e R s m args below meth c H1 locs (cells + 1) (slots + nfl ci) Q (F0 m (pc + 3) ls (.ref q :: rest))) : W p l e R s m args below meth c H locs cells slots Q (F0 m pc ls rest) := by
  obtain ⟨hx, hb, hml, hown, hts, hK⟩ := C
  obtain ⟨k1, k2, k3, k4, k5⟩ := K
  exact va_new (ci := ci) (fs := fs) (C := Cn) (T := T) (N := nfl ci) hx hb hts k2 ty k4 hown (hts _ hcl) (hts _ hia) (hts _ hin) hK hP hD hS hA k1 hfs hcells hslots hdg (fun q H1 h1 h2 h3 => kk q H1 h1.swap h2.swap h3)
theorem y_put (C : Cx p s m args c cc nL own D cy) (hin2 : meth.name = "<init>") (hP : va_P D vwCl ws H) (hD : va_D A ws) (hS : va_S A H0 H locs) {ci index : Nat} {Cn : String} {T : u_T} {ty : Nat → FieldType} (K : Ck ci Cn T ty) (k : Nat) (hl : Cond.fieldLink own index (T k).1 (T k).2.1 (T k).2.2.1 ∈ wsG) (hk : k < nfl ci) (hdecl : (T k).1 = own) (q0 : Nat) {fs : List Value} (he : ws[q0]? = some (a, .inr (ci, fs))) (v : Value) (hn : narrow (ty k) v = v) (hf : fits (ty k) v = true) (hlen : k < fs.length) (hdg : decode cc pc = .ok (.putfield index, 3))
    (kk : ∀ (H1 : Heap) (locs1 : List Loc), va_P D vwCl (ws.set q0 (a, .inr (ci, fs.set k v))) H1 → va_D A (ws.set q0 (a, .inr (ci, fs.set k v))) → va_S A H0 H1 locs1 → W p l e R s m args below meth c H1 locs1 cells slots Q (F0 m (pc + 3) ls rest)) : W p l e R s m args below meth c H locs cells slots Q (F0 m pc ls (v :: .ref a :: rest)) := by
  obtain ⟨hx, hb, hml, hown, hts, hK⟩ := C
  obtain ⟨k1, k2, k3, k4, k5⟩ := K
  cases hfin : (T k).2.2.2 with
  | true => exact va_putF (D := D) (ci := ci) (v := v) (ty := ty k) (C := Cn) (T := T) (N := nfl ci) hx hb hts k2 ty k4 k5 hown hK hP hD hS q0 he k1 k hk (hts _ hl) (fun _ h => h) hfin hin2 hdecl (k4 k hk) hn hf hlen hdg kk
  | false => exact va_put (D := D) (ci := ci) (v := v) (ty := ty k) (C := Cn) (T := T) (N := nfl ci) hx hb hts k2 ty k4 k5 hown hK hP hD hS q0 he k1 k hk (hts _ hl) (fun _ h => h) hfin (k4 k hk) hn hf hlen hdg kk
theorem y_get (C : Cx p s m args c cc nL own D cy) (hP : va_P D vwCl ws H) {ci index : Nat} {Cn : String} {T : u_T} {ty : Nat → FieldType} (K : Ck ci Cn T ty) (k : Nat) (hl : Cond.fieldLink own index (T k).1 (T k).2.1 (T k).2.2.1 ∈ wsG) (hk : k < nfl ci) (q0 : Nat) {fs : List Value} (he : ws[q0]? = some (a, .inr (ci, fs))) (v : Value) (hv : fs[k]? = some v) (hdg : decode cc pc = .ok (.getfield index, 3))
    (kk : W p l e R s m args below meth c H locs cells slots Q (F0 m (pc + 3) ls (v :: rest))) : W p l e R s m args below meth c H locs cells slots Q (F0 m pc ls (.ref a :: rest)) := by
  obtain ⟨hx, hb, hml, hown, hts, hK⟩ := C
  obtain ⟨k1, k2, k3, k4, k5⟩ := K
  exact va_get (D := D) (ci := ci) (v := v) (C := Cn) (T := T) (N := nfl ci) hx hb hts k2 hown hK hP q0 he k1 k hk (hts _ hl) (fun _ h => h) hv hdg kk
theorem y_newi (C : Cx p s m args c cc nL own D cy) (hP : va_P D vwCl (X ++ pl) H) (hD : va_D A (X ++ pl)) (hS : va_S A H0 H locs) (hA : ∀ q, H0.size ≤ q → A q) {n : Int32} (N' : Nat) (hn : ¬ n < 0) (hN : n.toNatClampNeg = N') (hN2 : N' ≤ 1000) (hcells : cells + 1 ≤ R.cells) (hslots : slots + N' ≤ R.slots) (hdg : decode cc pc = .ok (.newarray .int, 2))
    (kk : ∀ (q : Nat) (H1 : Heap), va_P D vwCl ((X ++ [(q, .inl (cy 12, N', .inl (fun _ => 0)))]) ++ pl) H1 → va_D A ((X ++ [(q, .inl (cy 12, N', .inl (fun _ => 0)))]) ++ pl) → va_S A H0 H1 locs → W p l e R s m args below meth c H1 locs (cells + 1) (slots + N') Q (F0 m (pc + 2) ls (.ref q :: rest))) : W p l e R s m args below meth c H locs cells slots Q (F0 m pc ls (.int n :: rest)) := by
  obtain ⟨hx, hb, hml, hown, hts, hK⟩ := C
  refine va_newa (atype := .int) (a0 := (N', .inl (fun _ => 0))) hx hb (hts _ ac_int) rfl hK hP hD hS hA (fun _ => rfl) hn hN (by show N' * 4 ≤ _; omega) hcells hslots hdg (fun q cA H1 hK1 h1 h2 h3 => ?_)
  have e1 : s.vm.findClass ("[" ++ FieldType.int.toString) = some cA := (hK1.2 7 (cA, .int) rfl).2
  have e2 : s.vm.findClass ("[" ++ FieldType.int.toString) = some (cy 12) := (hK.2 0 _ rfl).2
  have e3 : cA = cy 12 := Option.some.inj (e1.symm.trans e2)
  subst e3
  exact kk q H1 h1.swap h2.swap h3
theorem y_newz (C : Cx p s m args c cc nL own D cy) (hP : va_P D vwCl (X ++ pl) H) (hD : va_D A (X ++ pl)) (hS : va_S A H0 H locs) (hA : ∀ q, H0.size ≤ q → A q) {n : Int32} (N' : Nat) (hn : ¬ n < 0) (hN : n.toNatClampNeg = N') (hN2 : N' ≤ 1000) (hcells : cells + 1 ≤ R.cells) (hslots : slots + N' ≤ R.slots) (hdg : decode cc pc = .ok (.newarray .boolean, 2))
    (kk : ∀ (q : Nat) (H1 : Heap), va_P D vwCl ((X ++ [(q, .inl (cy 13, N', .inl (fun _ => 0)))]) ++ pl) H1 → va_D A ((X ++ [(q, .inl (cy 13, N', .inl (fun _ => 0)))]) ++ pl) → va_S A H0 H1 locs → W p l e R s m args below meth c H1 locs (cells + 1) (slots + N') Q (F0 m (pc + 2) ls (.ref q :: rest))) : W p l e R s m args below meth c H locs cells slots Q (F0 m pc ls (.int n :: rest)) := by
  obtain ⟨hx, hb, hml, hown, hts, hK⟩ := C
  refine va_newa (atype := .boolean) (a0 := (N', .inl (fun _ => 0))) hx hb (hts _ ac_boolean) rfl hK hP hD hS hA (fun _ => rfl) hn hN (by show N' * 1 ≤ _; omega) hcells hslots hdg (fun q cA H1 hK1 h1 h2 h3 => ?_)
  have e1 : s.vm.findClass ("[" ++ FieldType.boolean.toString) = some cA := (hK1.2 7 (cA, .boolean) rfl).2
  have e2 : s.vm.findClass ("[" ++ FieldType.boolean.toString) = some (cy 13) := (hK.2 1 _ rfl).2
  have e3 : cA = cy 13 := Option.some.inj (e1.symm.trans e2)
  subst e3
  exact kk q H1 h1.swap h2.swap h3
theorem y_newq (C : Cx p s m args c cc nL own D cy) (hP : va_P D vwCl (X ++ pl) H) (hD : va_D A (X ++ pl)) (hS : va_S A H0 H locs) (hA : ∀ q, H0.size ≤ q → A q) (kk0 : Nat) {E : String} (ht : (tysG cy)[kk0]? = some (cy (12 + kk0), .object E)) (hover : va_AO E s) {index : Nat} (hcl : Cond.classLink own index E ∈ wsG) {n : Int32} (N' : Nat) (hn : ¬ n < 0) (hN : n.toNatClampNeg = N') (hN2 : N' ≤ 1000) (hcells : cells + 1 ≤ R.cells) (hslots : slots + N' ≤ R.slots) (hdg : decode cc pc = .ok (.anewarray index, 3))
    (kk : ∀ (q : Nat) (H1 : Heap), va_P D vwCl ((X ++ [(q, .inl (cy (12 + kk0), N', .inr (.inr (.inr (.inr (fun _ => none))))))]) ++ pl) H1 → va_D A ((X ++ [(q, .inl (cy (12 + kk0), N', .inr (.inr (.inr (.inr (fun _ => none))))))]) ++ pl) → va_S A H0 H1 locs → W p l e R s m args below meth c H1 locs (cells + 1) (slots + N') Q (F0 m (pc + 3) ls (.ref q :: rest))) : W p l e R s m args below meth c H locs cells slots Q (F0 m pc ls (.int n :: rest)) := by
  obtain ⟨hx, hb, hml, hown, hts, hK⟩ := C
  refine va_newq hx hb hown (hts _ hcl) hover hK hP hD hS hA hn hN (by omega) hcells hslots hdg (fun q cA H1 hK1 h1 h2 h3 => ?_)
  obtain ⟨kA, comp, -, -, -, e1⟩ := (hK1.2 7 (cA, .object E) rfl).2
  obtain ⟨kA', comp', -, -, -, e2⟩ := (hK.2 kk0 _ ht).2
  have e3 : cA = cy (12 + kk0) := Option.some.inj (e1.symm.trans e2)
  subst e3
  exact kk q H1 h1.swap h2.swap h3
theorem y_ast (C : Cx p s m args c cc nL own D cy) (hP : va_P D vwCl ws H) (hD : va_D A ws) (hS : va_S A H0 H locs) (q0 t0 qk ci : Nat) {cA : ClassId} {r : vw_C} {n : Nat} {v : Nat} {vs : List Value} {f : Nat → Option Nat} (ha : ws[q0]? = some (a, .inl (cA, n, .inr (.inr (.inr (.inr f)))))) (ht : (tysG cy)[t0]? = some (cA, .object r.1)) (hv : ws[qk]? = some (v, .inr (ci, vs))) (hc : vwCl[ci]? = some r) {i : Int32} (j : Nat) (hj : i.toNatClampNeg = j) (hin : vp_in i n) (hdg : decode cc pc = .ok (.aastore, 1))
    (kk : ∀ (H1 : Heap) (locs1 : List Loc), va_P D vwCl (ws.set q0 (a, .inl (cA, n, .inr (.inr (.inr (.inr (va_up f j (some v)))))))) H1 → va_D A (ws.set q0 (a, .inl (cA, n, .inr (.inr (.inr (.inr (va_up f j (some v)))))))) → va_S A H0 H1 locs1 → W p l e R s m args below meth c H1 locs1 cells slots Q (F0 m (pc + 1) ls rest)) : W p l e R s m args below meth c H locs cells slots Q (F0 m pc ls (.ref v :: .int i :: .ref a :: rest)) := by
  subst hj
  exact va_astq C.1 C.2.1 C.2.2.2.2.2 hP hD hS q0 t0 qk ci ha ht hv hc hin hdg kk
theorem arrV_congr {cA : ClassId} {n : Nat} {f g : Nat → Value} (h : ∀ j, j < n → f j = g j) : arrV cA n f = arrV cA n g := by
  have e : (fun j : Fin n => f j.val) = fun j : Fin n => g j.val := funext fun j => h j.1 j.2
  unfold arrV
  rw [e]
theorem outer6 (c : ClassId) (h : Nat) : Jvm.Free.Multi.outerC c 6 h 6 = arrV c 6 (fun j => va_rf (some (h + 1 + j))) := by
  simp only [Jvm.Free.Multi.outerC]
  rw [arrV_new, arrV_store, arrV_store, arrV_store, arrV_store, arrV_store, arrV_store]
  apply arrV_congr
  intro j hj
  rcases (show j = 0 ∨ j = 1 ∨ j = 2 ∨ j = 3 ∨ j = 4 ∨ j = 5 by omega) with rfl | rfl | rfl | rfl | rfl | rfl <;> rfl
def mna (cy : Nat → ClassId) (q : Nat) : va_W := (q, .inl (cy 18, 6, .inr (.inr (.inr (.inr (fun j => some (q + 1 + j))))))) :: (List.range 6).map (fun i => (q + 1 + i, .inl (cy 12, 6, .inl (fun _ => 0))))
theorem y_mna (C : Cx p s m args c cc nL own D cy) (hN : NB s) (hP : va_P D vwCl (X ++ pl) H) (hD : va_D A (X ++ pl)) (hS : va_S A H0 H locs) (hA : ∀ q, H0.size ≤ q → A q) {index : Nat} (hcl : Cond.classLink own index "[[I" ∈ wsG) (hcells : cells + 7 ≤ R.cells) (hslots : slots + 42 ≤ R.slots) (hdg : decode cc pc = .ok (.multianewarray index 2, 4))
    (kk : ∀ (q : Nat) (H1 : Heap), va_P D vwCl ((X ++ mna cy q) ++ pl) H1 → va_D A ((X ++ mna cy q) ++ pl) → va_S A H0 H1 locs → W p l e R s m args below meth c H1 locs (cells + 7) (slots + 42) Q (F0 m (pc + 4) ls (.ref q :: rest))) : W p l e R s m args below meth c H locs cells slots Q (F0 m pc ls (.int 6 :: .int 6 :: rest)) := by
  obtain ⟨hx, hb, hml, hown, hts, hK⟩ := C
  have e6 : (6 : Int32).toNatClampNeg = 6 := by decide
  intro T hT Xs
  obtain ⟨vm₁, cA, comp, -, fA, fC, -, -, X', step⟩ := Xs.multianewarray2F (ty := .int) hx hown (hts _ hcl) (ao_args hN.1.2.2.2.2) (hts _ ac_int) (g := F0 m pc ls (.int 6 :: .int 6 :: rest)) rfl (by rw [hb]; exact hdg) (n := 6) (k := 6) rfl (by decide) (by decide) (by rw [e6]; decide) (by rw [e6]; decide) (by rw [e6]; decide) rfl rfl (by rw [e6]; omega) (by rw [e6]; omega)
  rw [e6] at X' step
  have c1 : cA = cy 18 := Option.some.inj (fA.symm.trans (hK.2 6 _ rfl).2)
  have c2 : comp = cy 12 := Option.some.inj (fC.symm.trans (hK.2 0 _ rfl).2)
  subst c1 c2
  have hTh : (T.setVm vm₁).heap = H := hT
  obtain ⟨f1, f2, -, -⟩ := Jvm.Free.Multi.fill_facts (T.setVm vm₁) (cy 18) (cy 12) 6 6 (defaultValue .int) 6
  have hold : ∀ x : Nat, x < H.size → (Jvm.Free.Multi.fill (T.setVm vm₁) (cy 18) (cy 12) 6 6 (defaultValue .int) 6).heap[x]? = H[x]? := fun x hx => by
    rw [Jvm.Free.Multi.fill_old (T.setVm vm₁) (cy 18) (cy 12) 6 6 (defaultValue .int) (a := x) (by rw [hTh]; exact hx) 6, hTh]
  have hrow : ∀ j : Nat, j < 6 → (Jvm.Free.Multi.fill (T.setVm vm₁) (cy 18) (cy 12) 6 6 (defaultValue .int) 6).heap[H.size + 1 + j]? = some (vp_cell (cy 12) (6, .inl (fun _ => 0))) := fun j hj => by
    have h := Jvm.Free.Multi.fill_inner (T.setVm vm₁) (cy 18) (cy 12) 6 6 (defaultValue .int) 6 j hj
    rw [hTh] at h
    rw [h]
    exact congrArg some (arrV_new (cy 12) 6 (.int 0))
  rw [hTh] at f1 f2
  rw [outer6] at f2
  generalize Jvm.Free.Multi.fill (T.setVm vm₁) (cy 18) (cy 12) 6 6 (defaultValue .int) 6 = F at X' step f1 f2 hold hrow
  have hP0 : va_P D vwCl (X ++ pl) F.heap := hP.kept (fun k9 x hx => hold x.1 ((hP k9 x hx).lt))
  have hPn : va_P D vwCl (mna cy H.size) F.heap := by
    intro k x hx
    have hm := List.mem_of_getElem? hx
    rcases List.mem_cons.mp hm with rfl | hm
    · exact f2
    · obtain ⟨i, hi, rfl⟩ := List.mem_map.mp hm
      exact hrow i (List.mem_range.mp hi)
  have hDn : va_D A (mna cy H.size) := by
    have key : ∀ (k : Nat) (x : Nat × va_E), (mna cy H.size)[k]? = some x → x.1 = H.size + k := by
      intro k x hx
      cases k with
      | zero => cases hx; rfl
      | succ k =>
        simp only [mna, List.getElem?_cons_succ, List.getElem?_map] at hx
        by_cases h9 : k < 6
        · rw [List.getElem?_range h9] at hx
          cases hx
          show H.size + 1 + k = _
          omega
        · have hn0 : (List.range 6)[k]? = none := List.getElem?_eq_none (by rw [List.length_range]; omega)
          rw [hn0] at hx
          cases hx
    refine ⟨fun i j x y hi hj hxy => ?_, fun k x hx => ?_⟩
    · have h1 := key i x hi
      have h2 := key j y hj
      omega
    · rw [key k x hx]
      exact hA _ (by have := hS.1; omega)
  have hPa : va_P D vwCl ((X ++ pl) ++ mna cy H.size) F.heap := hP0.app hPn
  have hDa : va_D A ((X ++ pl) ++ mna cy H.size) := va_D.app hD hDn (fun i j x y hx hy hxy => by
    have h1 := (hP i x hx).lt
    have h2 : H.size ≤ y.1 := by
      have hm := List.mem_of_getElem? hy
      rcases List.mem_cons.mp hm with rfl | hm
      · exact Nat.le_refl _
      · obtain ⟨i, hi, rfl⟩ := List.mem_map.mp hm
        show H.size ≤ H.size + 1 + i
        omega
    omega)
  have eT : T.heap.size = H.size := by rw [hT]
  rw [eT] at step
  obtain ⟨t, a1, b1⟩ := kk H.size F.heap hPa.swap hDa.swap ⟨by rw [f1]; have := hS.1; omega, fun x h1 h2 => (hold x (Nat.lt_of_lt_of_le h1 hS.1)).trans (hS.2.1 x h1 h2), hS.2.2⟩ F rfl X'
  exact ⟨t, step t a1, b1⟩
theorem y_call (C : Cx p s m args c cc nL own D cy) (hN : NB s) (hP : va_P D vwCl (X ++ pl) H) (hD : va_D A (X ++ pl)) (hS : va_S A H0 H locs) (hA : ∀ q, H0.size ≤ q → A q) (i : Nat) (isR : List Nat) {q : Nat} {e0 : va_E} {wr : va_W} (hi : [i].map (fun j => X[j]?) = [(q, e0)].map some) (hwr : isR.map (fun j => X[j]?) = wr.map some) (hnd : va_nd isR = true) (hdis : ∀ j ∈ isR, j ∉ [i]) {mc ms : Nat} {cel : (List Nat → Nat) → va_W} {As st0 : List Value} {av : Array Value}
    (hr : PreS s H (pcI cy D As q e0 H.size) (.ref q :: As) → va_Run p l e R s m args below meth c H locs cells slots mc ms (F0 m pc ls st0) rest (qI D cel (va_A [(q, e0)] H.size) av) (va_A [(q, e0)] H.size))
    (kk : ∀ (a : List Nat → Nat) (H1 : Heap) (locs1 : List Loc), va_P D vwCl ((wr ++ cel a) ++ pl) H1 → va_D A ((wr ++ cel a) ++ pl) → va_S A H0 H1 locs1 → W p l e R s m args below meth c H1 locs1 (cells + mc) (slots + ms) Q (F0 m (pc + 3) ls rest)) : W p l e R s m args below meth c H locs cells slots Q (F0 m pc ls st0) := by
  have hPc : va_P D vwCl [(q, e0)] H := by
    intro k x hx
    obtain ⟨j, h1, h2⟩ := va_in_of [i] hi hx
    exact hP j x (by rw [List.getElem?_append_left (List.getElem?_eq_some_iff.mp h2).1]; exact h2)
  have hFc : ∀ q', va_A [(q, e0)] H.size q' → A q' := by
    intro q' h
    rcases h with ⟨k, e1, h⟩ | h
    · obtain ⟨j, h1, h2⟩ := va_in_of [i] hi h
      exact hD.2 j (q', e1) (by rw [List.getElem?_append_left (List.getElem?_eq_some_iff.mp h2).1]; exact h2)
    · exact hA q' (Nat.le_trans hS.1 h)
  refine va_callv (hr ⟨pcI_blind, fun U hU hW => ⟨rfl, by rw [hU], by rw [hU]; exact hPc, va_K.moved hW.alike C.2.2.2.2.2, hN.warm hW⟩⟩) hS (fun q' _ h => hFc q' h) hFc (fun u t H1 locs1 ht hvm hw hB hz1 hk1 hS1 => ?_)
  obtain ⟨hP1, hD1⟩ := hB
  rw [ht] at hP1
  obtain ⟨h1, h2⟩ := va_joinQ (wr := wr) (w1 := cel u) hP hD [i] isR hi hwr hnd hdis hk1 hFc hP1 hD1
  exact kk u H1 locs1 h1 h2 hS1
theorem y_goodI {y : MethodName} {bytes : ByteArray} {maxL : Nat} (h : Cond.code y bytes maxL none ∈ wsG) : GoodIn wsG (Cond.code y bytes maxL none :: wsG) := by
  intro w hw
  rcases List.mem_cons.mp hw with rfl | hw
  · exact ⟨h, wsG_word h⟩
  · exact ⟨hw, wsG_word hw⟩
def MC (y : MethodName) (bytes : ByteArray) (maxL n : Nat) : Prop := Cond.code y bytes maxL none ∈ wsG ∧ Cond.instanceMethod y ∈ wsG ∧ Cond.initialized y.cls ∈ wsG ∧ y.name = "<init>" ∧ (y.cls ≠ "java/lang/invoke/MethodHandle" ∧ y.cls ≠ "java/lang/invoke/VarHandle" ∧ (parseMethodDescriptor y.desc).map (fun d => d.parameters.length) = some n) ∧ maxL ≤ 60
theorem y_runL (C : Cx p s m args c cc nL own D cy) {y : MethodName} {bytes : ByteArray} {maxL n d mc ms index q : Nat} {Pc : Array Value → State → Prop} {Qc : Array Value → State → Outcome → State → Prop} {free : Addr → Prop} (M : MC y bytes maxL n) (hl : Cond.methodLink own index y ∈ wsG) (hR : RoL (d + 1) R) (hf : cells + mc ≤ R.cells ∧ slots + ms ≤ R.slots) (As : List Value) (hn : As.length = n) (hz : ls.size = nL) {st0 : List Value} (hst : st0 = As.reverse ++ .ref q :: rest) (hro : (rest.map fun v => v.category).sum ≤ 8) (hdg : decode cc pc = .ok (.invokespecial index, 3))
    (hM : Met l y (Cond.code y bytes maxL none :: wsG) (rmI d mc ms) Pc Qc mc ms free) (hp : PreS s H Pc (.ref q :: As)) : va_Run p l e R s m args below meth c H locs cells slots mc ms (F0 m pc ls st0) rest (Qc (Value.ref q :: As).toArray) free := by
  obtain ⟨m1, m2, m3, m4, m5, m6⟩ := M
  exact va_runI (As := As) (rest := rest) ⟨C.1, C.2.1, C.2.2.1, C.2.2.2.1, C.2.2.2.2.1⟩ hM (cwI n C.2.2.2.2.1 (y_goodI m1) rfl rfl rfl (C.2.2.2.2.1 _ m3) (C.2.2.2.2.1 _ hl) (C.2.2.2.2.1 _ m2) m4 m5 ⟨hR.1, by have := hR.2; show 8 + (maxL + 11) + 100 * d ≤ _; omega⟩) hp rfl hn hz hst (lv_room hro) hdg hf
theorem y_runN (C : Cx p s m args c cc nL own D cy) {y : MethodName} {bytes : ByteArray} {maxL n d mc ms index q : Nat} {host : String} {Pc : Array Value → State → Prop} {Qc : Array Value → State → Outcome → State → Prop} {free : Addr → Prop} (M : MC y bytes maxL n) (hl : va_Nw (.methodLinkNest own index y host) s) (hR : RoL (d + 1) R) (hf : cells + mc ≤ R.cells ∧ slots + ms ≤ R.slots) (As : List Value) (hn : As.length = n) (hz : ls.size = nL) {st0 : List Value} (hst : st0 = As.reverse ++ .ref q :: rest) (hro : (rest.map fun v => v.category).sum ≤ 8) (hdg : decode cc pc = .ok (.invokespecial index, 3))
    (hM : Met l y (Cond.code y bytes maxL none :: wsG) (rmI d mc ms) Pc Qc mc ms free) (hp : PreS s H Pc (.ref q :: As)) : va_Run p l e R s m args below meth c H locs cells slots mc ms (F0 m pc ls st0) rest (Qc (Value.ref q :: As).toArray) free := by
  obtain ⟨m1, m2, m3, m4, m5, m6⟩ := M
  exact va_runIN (As := As) (rest := rest) ⟨C.1, C.2.1, C.2.2.1, C.2.2.2.1, C.2.2.2.2.1⟩ hM ⟨va_cnB n C.2.2.2.2.1 (y_goodI m1) rfl rfl rfl hl (C.2.2.2.2.1 _ m3) m5 ⟨hR.1, by have := hR.2; show 8 + (maxL + 11) + 100 * d ≤ _; omega⟩, m4, C.2.2.2.2.1 _ m2⟩ hp rfl hn hz hst (lv_room hro) hdg hf
end YY
