/-! the two tables of StarTrade -/
def tbL (j : Nat) : Int32 := [0, 0, 0, 1, 1].getD j 0
def tbM (j : Nat) : Int32 := [1000, 50, 50, 100, 100].getD j 0
def STf (U : State) (ad : Nat → Nat) (tL tM : Nat) : Prop := (va_Z "StarTrade" "LEAST" "[I" (.ref tL) (wA LC ad) U U.heap ∧ va_T .int tL 5 (fun j => .int (tbL j)) (wA LC ad) U U.heap) ∧ (va_Z "StarTrade" "MOST" "[I" (.ref tM) (wA LC ad) U U.heap ∧ va_T .int tM 5 (fun j => .int (tbM j)) (wA LC ad) U U.heap)
def pcS (Λ : LY) (cy : Nat → ClassId) (ad : Nat → Nat) (D : va_G) (as : List Value) (v : VV) : Array Value → State → Prop := va_Pc as (fun U => va_P D vwCl (wd Λ cy ad v) U.heap ∧ va_K D vwCl (tysG cy) U ∧ ∃ tL tM, STf U ad tL tM)
theorem pcS_blind {Λ : LY} {cy : Nat → ClassId} {ad : Nat → Nat} {D : va_G} {as : List Value} {v : VV} : FrameBlind (pcS Λ cy ad D as v) := by
  intro a U g mk q
  obtain ⟨q0, qP, qK, tL, tM, ⟨z1, z2⟩, z3, z4⟩ := q
  exact ⟨q0, qP, va_K.moved (u := U) (U := U.calling g mk a) (Vm.Alike.refl U.vm) qK, tL, tM, ⟨va_Z.moved (u := U) (U := U.calling g mk a) (Vm.Alike.refl U.vm) z1, va_T.moved (u := U) (U := U.calling g mk a) (Vm.Alike.refl U.vm) z2⟩, va_Z.moved (u := U) (U := U.calling g mk a) (Vm.Alike.refl U.vm) z3, va_T.moved (u := U) (U := U.calling g mk a) (Vm.Alike.refl U.vm) z4⟩
section
variable {p : Program} {l : Launch} {e : Env} {R : Room} {s : State} {m : MethodId} {args : Array Value} {below : List Frame} {meth : Method} {c : Code} {H : Heap} {locs : List Loc} {cells slots : Nat} {Q : State → Prop} {cc : ByteArray} {nL : Nat} {pc : Nat} {ls : Array Slot} {rest : List Value} {D : va_G} {cy : Nat → ClassId} {ad : Nat → Nat} {tL tM : Nat}
theorem x_getsL (C : Cx p s m args c cc nL RX10 D cy) (hST : STf s ad tL tM) (hS : va_S (wA LC ad) s.heap H locs) (hdg : decode cc pc = .ok (.getstatic 68, 3))
    (kk : W p l e R s m args below meth c H locs cells slots Q (F0 m (pc + 3) ls (.ref tL :: rest))) : W p l e R s m args below meth c H locs cells slots Q (F0 m pc ls rest) := va_gets C.1 C.2.1 hST.1.1 hS C.2.2.2.1 (C.2.2.2.2.1 _ fl_X10_68) (fun _ h => h) hdg kk
theorem x_getsM (C : Cx p s m args c cc nL RX10 D cy) (hST : STf s ad tL tM) (hS : va_S (wA LC ad) s.heap H locs) (hdg : decode cc pc = .ok (.getstatic 72, 3))
    (kk : W p l e R s m args below meth c H locs cells slots Q (F0 m (pc + 3) ls (.ref tM :: rest))) : W p l e R s m args below meth c H locs cells slots Q (F0 m pc ls rest) := va_gets C.1 C.2.1 hST.2.1 hS C.2.2.2.1 (C.2.2.2.2.1 _ fl_X10_72) (fun _ h => h) hdg kk
theorem x_sldL (C : Cx p s m args c cc nL RX10 D cy) (hST : STf s ad tL tM) (hS : va_S (wA LC ad) s.heap H locs) {i : Int32} (hi : vp_in i 5) (hdg : decode cc pc = .ok (.iaload, 1))
    (kk : W p l e R s m args below meth c H locs cells slots Q (F0 m (pc + 1) ls (.int (tbL i.toNatClampNeg) :: rest))) : W p l e R s m args below meth c H locs cells slots Q (F0 m pc ls (.int i :: .ref tL :: rest)) := va_ti C.1 C.2.1 hST.1.2 hS hi rfl hdg kk
theorem x_sldM (C : Cx p s m args c cc nL RX10 D cy) (hST : STf s ad tL tM) (hS : va_S (wA LC ad) s.heap H locs) {i : Int32} (hi : vp_in i 5) (hdg : decode cc pc = .ok (.iaload, 1))
    (kk : W p l e R s m args below meth c H locs cells slots Q (F0 m (pc + 1) ls (.int (tbM i.toNatClampNeg) :: rest))) : W p l e R s m args below meth c H locs cells slots Q (F0 m pc ls (.int i :: .ref tM :: rest)) := va_ti C.1 C.2.1 hST.2.2 hS hi rfl hdg kk
end
