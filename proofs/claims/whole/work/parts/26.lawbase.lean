/-! THE LAW: two worlds side by side -/
def LG (s : State) (b L : Nat) (xs : Nat → Int32) (adC adM : Nat → Nat) : Prop := va_X b L xs s s.heap ∧ b < s.heap.size ∧ wI LC adC ∧ wI LM adM ∧ (∀ i, i < 91 → s.heap.size ≤ adC i) ∧ (∀ i, i < 26 → s.heap.size ≤ adM i) ∧ (∀ i j, i < 91 → j < 26 → adC i ≠ adM j)
def LW (D : va_G) (cy : Nat → ClassId) (adC adM : Nat → Nat) (vC vM : VV) (H : Heap) : Prop := va_P D vwCl (wd LC cy adC vC) H ∧ va_P D vwCl (wd LM cy adM vM) H
def STL (s : State) (tL tM : Nat) : Prop := (va_Z "StarTrade" "LEAST" "[I" (.ref tL) (fun q => s.heap.size ≤ q) s s.heap ∧ va_T .int tL 5 (fun j => .int (tbL j)) (fun q => s.heap.size ≤ q) s s.heap) ∧ (va_Z "StarTrade" "MOST" "[I" (.ref tM) (fun q => s.heap.size ≤ q) s s.heap ∧ va_T .int tM 5 (fun j => .int (tbM j)) (fun q => s.heap.size ≤ q) s s.heap)
theorem k0C : wk LC 0 10 := ⟨by decide, rfl⟩
theorem k0M : wk LM 0 11 := ⟨by decide, rfl⟩
theorem lg_in {i L : Nat} (hi : i + 5 ≤ L) (hL : L ≤ 2560) (j : Nat) (x : Int32) (hj : j < 5) (hx : x = nI j) : vp_in (nI i + x) L := by
  rw [hx, nI_add]
  exact vp_in_nI (by omega) (by omega)
section
variable {p : Program} {l : Launch} {e : Env} {R : Room} {s : State} {m : MethodId} {args : Array Value} {below : List Frame} {meth : Method} {c : Code} {H : Heap} {locs : List Loc} {cells slots : Nat} {Q : State → Prop}
variable {cc : ByteArray} {nL : Nat} {own : String} {pc : Nat} {ls : Array Slot} {rest : List Value} {D : va_G} {cy : Nat → ClassId} {ad ad' : Nat → Nat} {Λ Λ' : LY} {v v2 : VV} {H0 : Heap} {o : Nat} {A0 : Nat → Prop}
theorem pcG_law (C : Cx p s m args c cc nL own D cy) {As : List Value} (hP : va_P D vwCl (wd Λ cy ad v) H) : ∀ U : State, U.heap = H → s.WarmedH U.vm → pcG Λ cy ad D As v As.toArray U := fun U hU hW => ⟨rfl, by rw [hU]; exact hP, va_K.moved hW.alike C.2.2.2.2.2⟩
theorem pcS_law (C : Cx p s m args c cc nL own D cy) {b L : Nat} {xs : Nat → Int32} {adC adM : Nat → Nat} {tL tM : Nat} (G : LG s b L xs adC adM) {As : List Value} (hP : va_P D vwCl (wd LC cy adC v) H) (hS : va_S (fun q => s.heap.size ≤ q) s.heap H locs) (hST : STL s tL tM) : ∀ U : State, U.heap = H → s.WarmedH U.vm → pcS LC cy adC D As v As.toArray U := by
  intro U hU hW
  have hAB : ∀ q, wA LC adC q → s.heap.size ≤ q := by
    rintro q ⟨c, h1, rfl⟩
    exact G.2.2.2.2.1 c h1
  obtain ⟨⟨z1, z2⟩, z3, z4⟩ := hST
  refine ⟨rfl, by rw [hU]; exact hP, va_K.moved hW.alike C.2.2.2.2.2, tL, tM, ⟨?_, ?_⟩, ?_, ?_⟩
  · rw [hU]; exact va_Z.moved hW.alike ((z1.kept hS.2.1).narrow hAB)
  · rw [hU]; exact va_T.moved hW.alike ((z2.kept hS.2.1).narrow hAB)
  · rw [hU]; exact va_Z.moved hW.alike ((z3.kept hS.2.1).narrow hAB)
  · rw [hU]; exact va_T.moved hW.alike ((z4.kept hS.2.1).narrow hAB)
theorem z_calli (C : Cx p s m args c cc nL own D cy) (hP : va_P D vwCl (wd Λ cy ad v) H) (hP2 : va_P D vwCl (wd Λ' cy ad' v2) H) (hap : ∀ i j, i < Λ.1 → j < Λ'.1 → ad i ≠ ad' j) (hin : ∀ i, i < Λ.1 → A0 (ad i)) (hS : va_S A0 H0 H locs) {y : MethodName} {Cn : String} {bytes : ByteArray} {maxL n d index ci : Nat} {ret : Option FieldType} {T : u_T} {ty : Nat → FieldType} (M : MI y Cn bytes maxL ret n) (K : Ck ci Cn T ty) (ho : wk Λ o ci) (hl : Cond.methodLink own index y ∈ wsG) (hR : RoL (d + 1) R) (hc0 : cells ≤ R.cells) (hs0 : slots ≤ R.slots) (As : List Value) (hn : As.length = n) (hz : ls.size = nL) {st0 : List Value} (hst : st0 = As.reverse ++ .ref (ad o) :: rest) (hro : (rest.map fun v => v.category).sum ≤ 8) (hdg : decode cc pc = .ok (.invokevirtual index, 3)) {r : Int32} {v' : VV} {Pc : Array Value → State → Prop} (hbl : FrameBlind Pc) (hpre : ∀ U : State, U.heap = H → s.WarmedH U.vm → Pc (Value.ref (ad o) :: As).toArray U)
    (hM : Met l y (Cond.code y bytes maxL ret :: wsG) (rmL d) Pc (qiG Λ cy ad D r v') 0 0 (wA Λ ad))
    (kk : ∀ (H1 : Heap) (locs1 : List Loc), va_P D vwCl (wd Λ cy ad v') H1 → va_P D vwCl (wd Λ' cy ad' v2) H1 → va_S A0 H0 H1 locs1 → W p l e R s m args below meth c H1 locs1 cells slots Q (F0 m (pc + 3) ls (.int r :: rest))) : W p l e R s m args below meth c H locs cells slots Q (F0 m pc ls st0) := by
  have hsub : ∀ q, wA Λ ad q → A0 q := by
    rintro q ⟨c, h1, rfl⟩
    exact hin c h1
  refine va_calli (va_runV (As := As) (rest := rest) ⟨C.1, C.2.1, C.2.2.1, C.2.2.2.1, C.2.2.2.2.1⟩ hM (x_cwV C.2.2.2.2.1 M hl hR) ⟨hbl, x_recv C hP K ho, hpre⟩ rfl hn hz hst (lv_room hro) hdg ⟨hc0, hs0⟩) hS (fun q _ h => hsub q h) hsub (fun r1 u t H1 locs1 ht hvm hw hB hz1 hk1 hS1 => ?_)
  obtain ⟨rfl, rfl⟩ := hw
  rw [ht] at hB
  refine kk H1 locs1 hB (hP2.kept (fun k q hk => ?_)) hS1
  have hkl : k < Λ'.1 := by
    have := (List.getElem?_eq_some_iff.mp hk).1
    simpa [wd] using this
  rw [wd_get hkl] at hk
  cases hk
  have hlt : ad' k < H.size := (hP2 k _ (wd_get hkl)).lt
  refine hk1 _ hlt ?_
  rintro ⟨c, h1, h2⟩
  exact hap c k h1 hkl h2
end
