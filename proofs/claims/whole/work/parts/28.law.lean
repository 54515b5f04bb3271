def R_law : String := "StarTradeLaw"
def lw_P (b : Addr) (xs : List Int32) (args : Array Value) (s : State) : Prop := args = #[.ref b] ∧ s.IntsAt b xs ∧ xs.length ≤ 2560 ∧ (Jvm.Cond.and given_1 narrow_1).before args s = true
def lw_Q (_ : Array Value) (s : State) (o : Outcome) (t : State) : Prop := o = .returned (some (.int 1)) ∧ Framed s o t [] 603036 7293139
def lw_Z (below : List Frame) (a : Array Value) (s : State) : State → Prop := fun t => ∃ o, t.status = .running ∧ Ended t below o ∧ lw_Q a s o t
/-- the law's own end, with 1 on the stack, nothing written that was there before, its room as the claim has it -/
theorem lw_ret {p : Program} {l : Launch} {e : Env} {s : State} {m : MethodId} {below : List Frame} {meth : Method} {c : Code} {b : Nat} (hx : p.tables.exec = Jvm.exec) (hb : c.code = code) (hr : meth.sig.returnType = ret) (hlocks : meth.locks = false) {pc : Nat} {H : Heap} {ls : Array Slot} (hdg : decode code pc = .ok (.ireturn, 1)) : W p l e room_1 s m #[Value.ref b] below meth c H [] 603036 7293139 (lw_Z below #[Value.ref b] s) (F0 m pc ls [.int 1]) := by
  intro T hT X
  obtain ⟨fs, hret, hrun, hended, hW, hframe⟩ := X.leave (v := some (.int 1)) (hlocks := hlocks) (fun h => by rw [hr] at h; cases h)
  have hmeth' : T.vm.method? m = some meth := X.method'
  refine ⟨T.setFrames fs, ?_, .returned (some (.int 1)), hrun, hended, rfl, ⟨_, rfl⟩, hW, hframe⟩
  jvm_step X.here [X.here.top, hx, hb, hdg, hmeth', hr, ret, narrow_b1]
  (try refine ⟨rfl, ?_⟩); (try refine ⟨rfl, ?_⟩)
  first | (intro acts; rw [hret _ acts rfl rfl rfl]) | rw [hret _ _ rfl rfl rfl]
  exact Steps.refl _
/-- what holds at the law's entry: the machine, the code, the tables' words (any of lw_tbl by 'hts w (by decide +kernel)'), the script of L ints xs at the cell b, what the Statement gives of the start (any of its parts by flat_of_before) -/
def lw_At (p : Program) (s : State) (m : MethodId) (meth : Method) (c : Code) (b L : Nat) (xs : Nat → Int32) : Prop :=
  p.tables.exec = Jvm.exec ∧ c.code = code ∧ meth.sig.returnType = ret ∧ c.maxLocals = 4 ∧ s.vm.findClass R_law = some m.cls ∧ (∀ w ∈ lw_tbl, w.before #[Value.ref b] s = true) ∧ va_X b L xs s s.heap ∧ b < s.heap.size ∧ meth.locks = false ∧ (Jvm.Cond.and given_1 narrow_1).before #[Value.ref b] s = true
def ST20 (Inv : VV → VV → Prop) : Prop := Step_port Inv ∧ Step_set Inv ∧ Step_about Inv ∧ Step_tax Inv ∧ Step_shut Inv ∧ Step_way Inv ∧ Step_ofPort Inv ∧ Step_tick Inv ∧ Step_event Inv ∧ Step_ship Inv ∧ Step_buy Inv ∧ Step_sell Inv ∧ Step_go Inv ∧ Step_ofShip Inv ∧ Step_fuel Inv ∧ Step_told Inv ∧ Step_ring Inv ∧ Step_plan Inv ∧ Step_planned Inv ∧ Step_starves Inv
set_option maxHeartbeats 4000000 in
set_option maxRecDepth 100000 in
theorem law_loop {Inv : VV → VV → Prop} (hst : ST20 Inv) {p : Program} {e : Env} {s : State} {m : MethodId} {below : List Frame} {meth : Method} {c : Code} (l : Launch) {b L : Nat} {xs : Nat → Int32} (hL : L ≤ 2560) (C0 : lw_At p s m meth c b L xs) {D : va_G} {cy : Nat → ClassId} {adC adM : Nat → Nat} {tL tM : Nat} (C : Cx p s m #[Value.ref b] c cL_law 4 RL D cy) (G : LG s b L xs adC adM) (hST : STL s tL tM) : ∀ (n i : Nat), i ≤ L + 5 → L + 6 - i < n → ∀ (vC vM : VV) (H : Heap) (locs : List Loc) (ls : Array Slot), Inv vC vM → LW D cy adC adM vC vM H → va_S (fun q => s.heap.size ≤ q) s.heap H locs → lv_has ls 4 [(0, .ref b), (1, .ref (adC 0)), (2, .ref (adM 0)), (3, .int (nI i))] → W p l e room_1 s m #[Value.ref b] below meth c H locs 117 898 (lw_Z below #[Value.ref b] s) (F0 m 18 ls []) := by
  obtain ⟨hx, hb, hr, hml, hown, hts, hX, hbl, hlocks, hgv⟩ := id C0
  have hR : RoL 40 room_1 := ⟨by decide, by decide⟩
  have hcs : 117 ≤ room_1.cells ∧ 898 ≤ room_1.slots := ⟨by decide, by decide⟩
  intro n
  induction n with
  | zero => intro i _ h; omega
  | succ n ih =>
    intro i hi hm vC vM H locs ls hInv hw hS hl
    refine lv_iload_n (pc := 18) C.1 C.2.1 dL_law_18 rfl (lv_at hl 3 rfl) ?_
    refine lv_aload_n (pc := 19) C.1 C.2.1 dL_law_19 rfl (lv_at hl 0 rfl) ?_
    refine va_slen (pc := 20) C.1 C.2.1 G.1 G.2.1 (Nat.not_le.mpr G.2.1) hS dL_law_20 ?_
    refine lv_iconst (pc := 21) (v := 5) C.1 C.2.1 dL_law_21 (by decide) ?_
    refine lv_isub (pc := 22) C.1 C.2.1 dL_law_22 ?_
    refine lv_icmp_gt (pc := 23) (tgt := 860) C.1 C.2.1 dL_law_23 (by decide) (fun b23 => ?_) (fun b23 => ?_)
    · refine lv_iconst (pc := 860) (v := 1) C.1 C.2.1 dL_law_860 (by decide) ?_
      refine va_forget hS.2.2 ?_
      refine W.widen (k := 603036) (n := 7293139) (by decide) (by decide) ?_
      exact lw_ret hx hb hr hlocks dL_law_861
    · have hi5 : i + 5 ≤ L := by
        have h1 : ((nI L) - nI 5).toInt = (L : Int) - 5 := pk_sub_toInt (by omega) (by omega)
        have h2 : (nI i).toInt = (i : Int) := nI_toInt (by omega)
        rcases Nat.lt_or_ge L (i + 5) with q | q
        · exfalso
          apply b23
          show (nI L - nI 5) < nI i
          rw [Int32.lt_iff_toInt_lt, h1, h2]
          omega
        · exact q
      have tail : ∀ (vC' vM' : VV) (H : Heap) (locs : List Loc), Inv vC' vM' → LW D cy adC adM vC' vM' H → va_S (fun q => s.heap.size ≤ q) s.heap H locs → W p l e room_1 s m #[Value.ref b] below meth c H locs 117 898 (lw_Z below #[Value.ref b] s) (F0 m 854 ls []) := by
        intro vC' vM' H locs hInv hw hS
        refine lv_iinc (pc := 854) (v := nI (i + 5)) (lv' := [(3, .int (nI (i + 5))), (0, .ref b), (1, .ref (adC 0)), (2, .ref (adM 0))]) C.1 C.2.1 dL_law_854 hl (k := 3) rfl (nI_add i 5) (by decide) rfl (fun ls hl => ?_)
        refine lv_goto (pc := 857) (tgt := 18) C.1 C.2.1 dL_law_857 (by decide) ?_
        exact ih (i + 5) (by omega) (by omega) vC' vM' H locs ls hInv hw hS (lv_sub hl [1, 2, 3, 0] rfl)
      refine lv_aload_n (pc := 26) C.1 C.2.1 dL_law_26 rfl (lv_at hl 0 rfl) ?_
      refine lv_iload_n (pc := 27) C.1 C.2.1 dL_law_27 rfl (lv_at hl 3 rfl) ?_
      refine va_sld (pc := 28) C.1 C.2.1 G.1 G.2.1 (Nat.not_le.mpr G.2.1) hS (vp_in_nI (show i < L by omega) (by omega)) dL_law_28 ?_
      refine lv_bipush (pc := 29) (v := 31) C.1 C.2.1 dL_law_29 (by decide) ?_
      refine lv_iand (pc := 31) C.1 C.2.1 dL_law_31 ?_
      refine lv_topi (fun x ex => ?_)
      by_cases b0 : x = 0
      · refine x_swIn (pc := 32) C (tgt := 128) 0 0 (by decide) b0 dL_law_32 (by decide) rfl (by decide) ?_
        exact law_c0 C G hST hR hcs hi5 hL hw hS hl (hst.1 vC vM hInv) tail
      by_cases b1 : x = 1
      · refine x_swIn (pc := 32) C (tgt := 141) 1 1 (by decide) b1 dL_law_32 (by decide) rfl (by decide) ?_
        exact law_c1 C G hST hR hcs hi5 hL hw hS hl (hst.2.1 vC vM hInv) tail
      by_cases b2 : x = 2
      · refine x_swIn (pc := 32) C (tgt := 194) 2 2 (by decide) b2 dL_law_32 (by decide) rfl (by decide) ?_
        exact law_c2 C G hST hR hcs hi5 hL hw hS hl (hst.2.2.1 vC vM hInv) tail
      by_cases b3 : x = 3
      · refine x_swIn (pc := 32) C (tgt := 237) 3 3 (by decide) b3 dL_law_32 (by decide) rfl (by decide) ?_
        exact law_c3 C G hST hR hcs hi5 hL hw hS hl (hst.2.2.2.1 vC vM hInv) tail
      by_cases b4 : x = 4
      · refine x_swIn (pc := 32) C (tgt := 270) 4 4 (by decide) b4 dL_law_32 (by decide) rfl (by decide) ?_
        exact law_c4 C G hST hR hcs hi5 hL hw hS hl (hst.2.2.2.2.1 vC vM hInv) tail
      by_cases b5 : x = 5
      · refine x_swIn (pc := 32) C (tgt := 319) 5 5 (by decide) b5 dL_law_32 (by decide) rfl (by decide) ?_
        exact law_c5 C G hST hR hcs hi5 hL hw hS hl (hst.2.2.2.2.2.1 vC vM hInv) tail
      by_cases b6 : x = 6
      · refine x_swIn (pc := 32) C (tgt := 362) 6 6 (by decide) b6 dL_law_32 (by decide) rfl (by decide) ?_
        exact law_c6 C G hST hR hcs hi5 hL hw hS hl (hst.2.2.2.2.2.2.1 vC vM hInv) tail
      by_cases b7 : x = 7
      · refine x_swIn (pc := 32) C (tgt := 395) 7 7 (by decide) b7 dL_law_32 (by decide) rfl (by decide) ?_
        exact law_c7 C G hST hR hcs hi5 hL hw hS hl (hst.2.2.2.2.2.2.2.1 vC vM hInv) tail
      by_cases b8 : x = 8
      · refine x_swIn (pc := 32) C (tgt := 418) 8 8 (by decide) b8 dL_law_32 (by decide) rfl (by decide) ?_
        exact law_c8 C G hST hR hcs hi5 hL hw hS hl (hst.2.2.2.2.2.2.2.2.1 vC vM hInv) tail
      by_cases b9 : x = 9
      · refine x_swIn (pc := 32) C (tgt := 471) 9 9 (by decide) b9 dL_law_32 (by decide) rfl (by decide) ?_
        exact law_c9 C G hST hR hcs hi5 hL hw hS hl (hst.2.2.2.2.2.2.2.2.2.1 vC vM hInv) tail
      by_cases b10 : x = 10
      · refine x_swIn (pc := 32) C (tgt := 514) 10 10 (by decide) b10 dL_law_32 (by decide) rfl (by decide) ?_
        exact law_c10 C G hST hR hcs hi5 hL hw hS hl (hst.2.2.2.2.2.2.2.2.2.2.1 vC vM hInv) tail
      by_cases b11 : x = 11
      · refine x_swIn (pc := 32) C (tgt := 557) 11 11 (by decide) b11 dL_law_32 (by decide) rfl (by decide) ?_
        exact law_c11 C G hST hR hcs hi5 hL hw hS hl (hst.2.2.2.2.2.2.2.2.2.2.2.1 vC vM hInv) tail
      by_cases b12 : x = 12
      · refine x_swIn (pc := 32) C (tgt := 600) 12 12 (by decide) b12 dL_law_32 (by decide) rfl (by decide) ?_
        exact law_c12 C G hST hR hcs hi5 hL hw hS hl (hst.2.2.2.2.2.2.2.2.2.2.2.2.1 vC vM hInv) tail
      by_cases b13 : x = 13
      · refine x_swIn (pc := 32) C (tgt := 633) 13 13 (by decide) b13 dL_law_32 (by decide) rfl (by decide) ?_
        exact law_c13 C G hST hR hcs hi5 hL hw hS hl (hst.2.2.2.2.2.2.2.2.2.2.2.2.2.1 vC vM hInv) tail
      by_cases b14 : x = 14
      · refine x_swIn (pc := 32) C (tgt := 666) 14 14 (by decide) b14 dL_law_32 (by decide) rfl (by decide) ?_
        exact law_c14 C G hST hR hcs hi5 hL hw hS hl (hst.2.2.2.2.2.2.2.2.2.2.2.2.2.2.1 vC vM hInv) tail
      by_cases b15 : x = 15
      · refine x_swIn (pc := 32) C (tgt := 689) 15 15 (by decide) b15 dL_law_32 (by decide) rfl (by decide) ?_
        exact law_c15 C G hST hR hcs hi5 hL hw hS hl (hst.2.2.2.2.2.2.2.2.2.2.2.2.2.2.2.1 vC vM hInv) tail
      by_cases b16 : x = 16
      · refine x_swIn (pc := 32) C (tgt := 712) 16 16 (by decide) b16 dL_law_32 (by decide) rfl (by decide) ?_
        exact law_c16 C G hST hR hcs hi5 hL hw hS hl (hst.2.2.2.2.2.2.2.2.2.2.2.2.2.2.2.2.1 vC vM hInv) tail
      by_cases b17 : x = 17
      · refine x_swIn (pc := 32) C (tgt := 745) 17 17 (by decide) b17 dL_law_32 (by decide) rfl (by decide) ?_
        exact law_c17 C G hST hR hcs hi5 hL hw hS hl (hst.2.2.2.2.2.2.2.2.2.2.2.2.2.2.2.2.2.1 vC vM hInv) tail
      by_cases b18 : x = 18
      · refine x_swIn (pc := 32) C (tgt := 778) 18 18 (by decide) b18 dL_law_32 (by decide) rfl (by decide) ?_
        exact law_c18 C G hST hR hcs hi5 hL hw hS hl (hst.2.2.2.2.2.2.2.2.2.2.2.2.2.2.2.2.2.2.1 vC vM hInv) tail
      by_cases b19 : x = 19
      · refine x_swIn (pc := 32) C (tgt := 811) 19 19 (by decide) b19 dL_law_32 (by decide) rfl (by decide) ?_
        exact law_c19 C G hST hR hcs hi5 hL hw hS hl (hst.2.2.2.2.2.2.2.2.2.2.2.2.2.2.2.2.2.2.2 vC vM hInv) tail
      refine x_swOut (pc := 32) C (tgt := 854) dL_law_32 (by have := lv_neT b0 (a := 0) (by decide); have := lv_neT b1 (a := 1) (by decide); have := lv_neT b2 (a := 2) (by decide); have := lv_neT b3 (a := 3) (by decide); have := lv_neT b4 (a := 4) (by decide); have := lv_neT b5 (a := 5) (by decide); have := lv_neT b6 (a := 6) (by decide); have := lv_neT b7 (a := 7) (by decide); have := lv_neT b8 (a := 8) (by decide); have := lv_neT b9 (a := 9) (by decide); have := lv_neT b10 (a := 10) (by decide); have := lv_neT b11 (a := 11) (by decide); have := lv_neT b12 (a := 12) (by decide); have := lv_neT b13 (a := 13) (by decide); have := lv_neT b14 (a := 14) (by decide); have := lv_neT b15 (a := 15) (by decide); have := lv_neT b16 (a := 16) (by decide); have := lv_neT b17 (a := 17) (by decide); have := lv_neT b18 (a := 18) (by decide); have := lv_neT b19 (a := 19) (by decide); omega) (by decide) ?_
      exact tail vC vM H locs hInv hw hS
theorem va_P_l {D : va_G} {w1 w2 : va_W} {H : Heap} (h : va_P D vwCl (w1 ++ w2) H) : va_P D vwCl w1 H := fun k q hk => h k q (by rw [List.getElem?_append_left (List.getElem?_eq_some_iff.mp hk).1]; exact hk)
theorem va_P_r {D : va_G} {w1 w2 : va_W} {H : Heap} (h : va_P D vwCl (w1 ++ w2) H) : va_P D vwCl w2 H := fun k q hk => h (w1.length + k) q (by rw [List.getElem?_append_right (by omega), Nat.add_sub_cancel_left]; exact hk)
theorem va_D_l {A : Nat → Prop} {w1 w2 : va_W} (h : va_D A (w1 ++ w2)) : va_D A w1 := h.by id (fun k q hk => by show (w1 ++ w2)[k]? = some q; rw [List.getElem?_append_left (List.getElem?_eq_some_iff.mp hk).1]; exact hk) (fun i j _ _ e => e)
theorem va_D_r {A : Nat → Prop} {w1 w2 : va_W} (h : va_D A (w1 ++ w2)) : va_D A w2 := h.by (fun k => w1.length + k) (fun k q hk => by show (w1 ++ w2)[w1.length + k]? = some q; rw [List.getElem?_append_right (by omega), Nat.add_sub_cancel_left]; exact hk) (fun i j _ _ e => by have e : w1.length + i = w1.length + j := e; omega)
theorem va_D_x {A : Nat → Prop} {w1 w2 : va_W} (h : va_D A (w1 ++ w2)) {i j : Nat} {x y : Nat × va_E} (hx : w1[i]? = some x) (hy : w2[j]? = some y) : x.1 ≠ y.1 := by
  intro e
  have l1 := (List.getElem?_eq_some_iff.mp hx).1
  have h1 : (w1 ++ w2)[i]? = some x := by rw [List.getElem?_append_left l1]; exact hx
  have h2 : (w1 ++ w2)[w1.length + j]? = some y := by rw [List.getElem?_append_right (by omega), Nat.add_sub_cancel_left]; exact hy
  have := h.1 _ _ x y h1 h2 e
  omega
theorem at_zero_nil {D : va_G} {H : Heap} : va_P D vwCl ([] ++ ([] : va_W)) H := fun k q h => by simp at h
theorem aC_int {s : State} {a : Array Value} {ty : FieldType} (h : (Cond.arrayClass ty).before a s = true) : ∃ cA : ClassId, ArrOfT s cA ty ∧ s.vm.findClass ("[" ++ ty.toString) = some cA := by
  obtain ⟨c, k, comp, h1, h2, h3⟩ := Cond.arrayClass_spec h
  exact ⟨c, fun n z => ⟨fun k h => (by cases h), k, h2, comp, h3⟩, h1⟩
theorem aC_obj {s : State} {a : Array Value} {E : String} (h : (Cond.arrayOver (.object E)).before a s = true) : ∃ cA : ClassId, ArrOfT s cA (.object E) ∧ va_RA s cA (.object E) := by
  obtain ⟨comp, c, k, h1, -, h3, h4, h5⟩ := Cond.arrayOver_spec h
  exact ⟨c, fun n z => ⟨fun k h => (by cases h), k, h3, comp, h4⟩, k, comp, h3, h4, h1, h5⟩
theorem aC_arr {s : State} {a : Array Value} (h : (Cond.arrayOver (.array .int)).before a s = true) : ∃ cA : ClassId, ArrOfT s cA (.array .int) ∧ va_RA s cA (.array .int) := by
  obtain ⟨comp, c, k, h1, h3, h4, h5⟩ := Cond.arrayOver_specA h
  exact ⟨c, fun n z => ⟨fun k h => (by cases h), k, h3, comp, h4⟩, h5⟩
theorem st_one {args : Array Value} {s : State} {nm : String} {tb : Nat → Int32} (hlay : (Cond.laysStatic "StarTrade" nm "[I").before args s = true) (hini : (Cond.initialized "StarTrade").before args s = true) (harr : (Cond.arrayOf (.static "StarTrade" nm "[I") .int).before args s = true) (hlen : (Cond.eq (.length (.static "StarTrade" nm "[I")) (.int 5)).before args s = true) (hel : ∀ j, j < 5 → (Cond.eq (.elem (.static "StarTrade" nm "[I") (.int (Int32.ofNat j))) (.int (tb j))).before args s = true) : ∃ t, va_Z "StarTrade" nm "[I" (.ref t) (fun q => s.heap.size ≤ q) s s.heap ∧ va_T .int t 5 (fun j => .int (tb j)) (fun q => s.heap.size ≤ q) s s.heap := by
  obtain ⟨t, h1, h2⟩ := va_Tof (N := 5) (f := fun j => .int (tb j)) (A := fun q => s.heap.size ≤ q) (by decide) harr (va_eqt hlen) (fun j hj => va_eqt (hel j hj)) (fun a ha => Nat.not_le.mpr ha)
  exact ⟨t, va_Zref hlay hini h1 (fun a ha => Nat.not_le.mpr ha), h2⟩
set_option maxHeartbeats 4000000 in
set_option maxRecDepth 100000 in
theorem whole_of {Inv : VV → VV → Prop} (hst : ST20 Inv) (hI0 : Inv v0C v0M) {p : Program} {e : Env} {s : State} {m : MethodId} {below : List Frame} {meth : Method} {c : Code} (l : Launch) {b L : Nat} {xs : Nat → Int32} (hL : L ≤ 2560) (C0 : lw_At p s m meth c b L xs) : W p l e room_1 s m #[Value.ref b] below meth c s.heap [] 0 0 (lw_Z below #[Value.ref b] s) (entryFrame m ([Value.ref b] : List Value).toArray 4) := by
  obtain ⟨hx, hb, hr, hml, hown, hts, hX, hbl, hlocks, hgv⟩ := id C0
  have hA : ∀ q : Nat, s.heap.size ≤ q → (fun q : Nat => s.heap.size ≤ q) q := fun _ h => h
  obtain ⟨c0, iS0, hKn0⟩ := u_known (C := RX0) (T := TX0) (N := 4) (n := 4) hts (fun w h => wsL_law_in w (inlX0 w h)) (hts _ (wsL_law_in _ ia_X0))
  obtain ⟨c1, iS1, hKn1⟩ := u_known (C := RX1) (T := TX1) (N := 5) (n := 5) hts (fun w h => wsL_law_in w (inlX1 w h)) (hts _ (wsL_law_in _ ia_X1))
  obtain ⟨c2, iS2, hKn2⟩ := u_known (C := RX2) (T := TX2) (N := 6) (n := 6) hts (fun w h => wsL_law_in w (inlX2 w h)) (hts _ (wsL_law_in _ ia_X2))
  obtain ⟨c3, iS3, hKn3⟩ := u_known (C := RX3) (T := TX3) (N := 15) (n := 15) hts (fun w h => wsL_law_in w (inlX3 w h)) (hts _ (wsL_law_in _ ia_X3))
  obtain ⟨c4, iS4, hKn4⟩ := u_known (C := RX4) (T := TX4) (N := 5) (n := 5) hts (fun w h => wsL_law_in w (inlX4 w h)) (hts _ (wsL_law_in _ ia_X4))
  obtain ⟨c5, iS5, hKn5⟩ := u_known (C := RX5) (T := TX5) (N := 7) (n := 7) hts (fun w h => wsL_law_in w (inlX5 w h)) (hts _ (wsL_law_in _ ia_X5))
  obtain ⟨c6, iS6, hKn6⟩ := u_known (C := RX6) (T := TX6) (N := 7) (n := 7) hts (fun w h => wsL_law_in w (inlX6 w h)) (hts _ (wsL_law_in _ ia_X6))
  obtain ⟨c7, iS7, hKn7⟩ := u_known (C := RX7) (T := TX7) (N := 4) (n := 4) hts (fun w h => wsL_law_in w (inlX7 w h)) (hts _ (wsL_law_in _ ia_X7))
  obtain ⟨c8, iS8, hKn8⟩ := u_known (C := RX8) (T := TX8) (N := 7) (n := 7) hts (fun w h => wsL_law_in w (inlX8 w h)) (hts _ (wsL_law_in _ ia_X8))
  obtain ⟨c9, iS9, hKn9⟩ := u_known (C := RX9) (T := TX9) (N := 6) (n := 6) hts (fun w h => wsL_law_in w (inlX9 w h)) (hts _ (wsL_law_in _ ia_X9))
  obtain ⟨c10, iS10, hKn10⟩ := u_known (C := RX10) (T := TX10) (N := 12) (n := 12) hts (fun w h => wsL_law_in w (inlX10 w h)) (hts _ (wsL_law_in _ ia_X10))
  obtain ⟨c11, iS11, hKn11⟩ := u_known (C := RX11) (T := TX11) (N := 42) (n := 42) hts (fun w h => wsL_law_in w (inlX11 w h)) (hts _ (wsL_law_in _ ia_X11))
  obtain ⟨dC, dI, hKc⟩ : ∃ (dC : Nat → ClassId) (dI : Nat → Nat → Nat), ∀ (k : Nat) (q : vw_C), vwCl[k]? = some q → u_Kn s q.1 q.2.1 q.2.2 (dC k) (dI k) := by
    refine ⟨fun k => [c0, c1, c2, c3, c4, c5, c6, c7, c8, c9, c10, c11].getD k c0, fun k => [iS0, iS1, iS2, iS3, iS4, iS5, iS6, iS7, iS8, iS9, iS10, iS11].getD k iS0, ?_⟩
    intro k q hq
    match k, hq with
    | 0, hq => cases hq; exact hKn0
    | 1, hq => cases hq; exact hKn1
    | 2, hq => cases hq; exact hKn2
    | 3, hq => cases hq; exact hKn3
    | 4, hq => cases hq; exact hKn4
    | 5, hq => cases hq; exact hKn5
    | 6, hq => cases hq; exact hKn6
    | 7, hq => cases hq; exact hKn7
    | 8, hq => cases hq; exact hKn8
    | 9, hq => cases hq; exact hKn9
    | 10, hq => cases hq; exact hKn10
    | 11, hq => cases hq; exact hKn11
    | k + 12, hq => simp [vwCl] at hq
  obtain ⟨y0, hy0, hn0⟩ := aC_int (hts _ (wsL_law_in _ ac_int))
  obtain ⟨y1, hy1, hn1⟩ := aC_int (hts _ (wsL_law_in _ ac_boolean))
  obtain ⟨y2, hy2, hn2⟩ := aC_obj (hts _ ao_Port)
  obtain ⟨y3, hy3, hn3⟩ := aC_obj (hts _ ao_Shelf)
  obtain ⟨y4, hy4, hn4⟩ := aC_obj (hts _ ao_Ship)
  obtain ⟨y5, hy5, hn5⟩ := aC_obj (hts _ ao_Stop)
  obtain ⟨y6, hy6, hn6⟩ := aC_arr (hts _ ao_II)
  obtain ⟨cy, hcy⟩ : ∃ cy : Nat → ClassId, cy = fun k => [y0, y1, y2, y3, y4, y5, y6].getD (k - 12) y0 := ⟨_, rfl⟩
  have hK : va_K (dC, dI) vwCl (tysG cy) s := by
    refine ⟨hKc, fun k q h => ?_⟩
    subst hcy
    match k, h with
    | 0, h => cases h; exact ⟨hy0, hn0⟩
    | 1, h => cases h; exact ⟨hy1, hn1⟩
    | 2, h => cases h; exact ⟨hy2, hn2⟩
    | 3, h => cases h; exact ⟨hy3, hn3⟩
    | 4, h => cases h; exact ⟨hy4, hn4⟩
    | 5, h => cases h; exact ⟨hy5, hn5⟩
    | 6, h => cases h; exact ⟨hy6, hn6⟩
    | k + 7, h => simp [tysG] at h
  clear hcy
  generalize hDe : ((dC, dI) : va_G) = D at hK
  have hN : NB s := ⟨⟨va_AO.of (hts _ ao_Port), va_AO.of (hts _ ao_Shelf), va_AO.of (hts _ ao_Ship), va_AO.of (hts _ ao_Stop), ao_args (hts _ ao_II)⟩, va_Nw.of rfl (hts _ nw_X10_22), va_Nw.of rfl (hts _ nw_X10_25), va_Nw.of rfl (hts _ nw_X10_32), va_Nw.of rfl (hts _ nw_X3_11), va_Nw.of rfl (hts _ nw_X3_20), va_Nw.of rfl (hts _ nw_X3_54), va_Nw.of rfl (hts _ nw_X9_27)⟩
  have hs := flat_of_before _ hgv
  obtain ⟨tL, hTL⟩ := st_one (nm := "LEAST") (tb := tbL) (hts _ sl_LEAST) (hts _ (wsL_law_in _ in_X10)) (hs _ (by decide +kernel)) (hs _ (by decide +kernel)) (fun j hj => by rcases (show j = 0 ∨ j = 1 ∨ j = 2 ∨ j = 3 ∨ j = 4 by omega) with rfl | rfl | rfl | rfl | rfl <;> exact hs _ (by decide +kernel))
  obtain ⟨tM, hTM⟩ := st_one (nm := "MOST") (tb := tbM) (hts _ sl_MOST) (hts _ (wsL_law_in _ in_X10)) (hs _ (by decide +kernel)) (hs _ (by decide +kernel)) (fun j hj => by rcases (show j = 0 ∨ j = 1 ∨ j = 2 ∨ j = 3 ∨ j = 4 by omega) with rfl | rfl | rfl | rfl | rfl <;> exact hs _ (by decide +kernel))
  have hST : STL s tL tM := ⟨hTL, hTM⟩
  have C : Cx p s m #[Value.ref b] c cL_law 4 RL D cy := ⟨hx, hb, hml, hown, fun w hw => hts w (wsL_law_in w hw), hK⟩
  have hR : RoL 40 room_1 := ⟨by decide, by decide⟩
  have hS : va_S (fun q : Nat => s.heap.size ≤ q) s.heap s.heap [] := va_S.rf
  have hP : va_P D vwCl ([] ++ ([] : va_W)) s.heap := at_zero_nil
  have hD : va_D (fun q : Nat => s.heap.size ≤ q) ([] ++ ([] : va_W)) := ⟨fun i j p q h => by simp at h, fun k q h => by simp at h⟩
  have hl := lv_entry ([.ref b]) (n := 4) (Nat.le_of_ble_eq_true rfl)
  rw [lg_entry_eq]
  generalize (lg_sl ([.ref b]) ++ List.replicate (4 - (lg_sl ([.ref b])).length) Slot.unset).toArray = ls at hl ⊢
  have hl : lv_has ls 4 [(0, .ref b)] := hl
  refine y_new (pc := 0) C hP hD hS hA ck_10 kl_L_7 ia_X10 in_X10 [.null, .null, .int 0, .int 0, .int 0, .int 0, .int 0, .int 0, .null, .null, .null, .null] (fun j hj => by rcases (show j = 0 ∨ j = 1 ∨ j = 2 ∨ j = 3 ∨ j = 4 ∨ j = 5 ∨ j = 6 ∨ j = 7 ∨ j = 8 ∨ j = 9 ∨ j = 10 ∨ j = 11 by have h9 : nfl 10 = 12 := rfl; omega) with rfl | rfl | rfl | rfl | rfl | rfl | rfl | rfl | rfl | rfl | rfl | rfl <;> rfl) (by decide) (by decide) dL_law_0 (fun q0 H hP hD hS => ?_)
  have hP : va_P D vwCl ([(q0, .inr (10, [.null, .null, .int 0, .int 0, .int 0, .int 0, .int 0, .int 0, .null, .null, .null, .null]))] ++ ([] : va_W)) H := hP
  have hD : va_D (fun q : Nat => s.heap.size ≤ q) ([(q0, .inr (10, [.null, .null, .int 0, .int 0, .int 0, .int 0, .int 0, .int 0, .null, .null, .null, .null]))] ++ ([] : va_W)) := hD
  refine W.widen (k := 1) (n := 12) (by decide) (by decide) ?_
  refine lv_dup (pc := 3) C.1 C.2.1 dL_law_3 rfl ?_
  refine y_call (pc := 4) C hN hP hD hS hA 0 [] (wr := []) rfl rfl (by decide) (by decide) (fun hp => y_runL (pc := 4) C mc_X10 ml_L_9 (hR.le (by decide)) (by decide) [] rfl hl.1 rfl (Nat.le_of_ble_eq_true rfl) dL_law_4 (k_X10 l D cy q0 _) hp) (fun a0 H locs hP hD hS => ?_)
  rw [List.append_nil, List.nil_append] at hP hD
  refine W.widen (k := 91) (n := 562) (by decide) (by decide) ?_
  refine lv_astore_n (pc := 7) (lv' := [(1, .ref q0), (0, .ref b)]) C.1 C.2.1 dL_law_7 rfl hl (by decide) rfl (fun ls hl => ?_)
  refine y_new (pc := 8) (X := []) (pl := cel_X10 cy q0 a0) C hP hD hS hA ck_11 kl_L_10 ia_X11 in_X11 [.int 0, .int 0, .int 0, .null, .null, .null, .null, .null, .null, .null, .null, .null, .null, .null, .int 0, .int 0, .int 0, .int 0, .int 0, .null, .null, .null, .int 0, .null, .null, .null, .null, .int 0, .null, .null, .int 0, .int 0, .int 0, .null, .int 0, .int 0, .int 0, .null, .null, .null, .null, .int 0] (fun j hj => by rcases (show j = 0 ∨ j = 1 ∨ j = 2 ∨ j = 3 ∨ j = 4 ∨ j = 5 ∨ j = 6 ∨ j = 7 ∨ j = 8 ∨ j = 9 ∨ j = 10 ∨ j = 11 ∨ j = 12 ∨ j = 13 ∨ j = 14 ∨ j = 15 ∨ j = 16 ∨ j = 17 ∨ j = 18 ∨ j = 19 ∨ j = 20 ∨ j = 21 ∨ j = 22 ∨ j = 23 ∨ j = 24 ∨ j = 25 ∨ j = 26 ∨ j = 27 ∨ j = 28 ∨ j = 29 ∨ j = 30 ∨ j = 31 ∨ j = 32 ∨ j = 33 ∨ j = 34 ∨ j = 35 ∨ j = 36 ∨ j = 37 ∨ j = 38 ∨ j = 39 ∨ j = 40 ∨ j = 41 by have h9 : nfl 11 = 42 := rfl; omega) with rfl | rfl | rfl | rfl | rfl | rfl | rfl | rfl | rfl | rfl | rfl | rfl | rfl | rfl | rfl | rfl | rfl | rfl | rfl | rfl | rfl | rfl | rfl | rfl | rfl | rfl | rfl | rfl | rfl | rfl | rfl | rfl | rfl | rfl | rfl | rfl | rfl | rfl | rfl | rfl | rfl | rfl <;> rfl) (by decide) (by decide) dL_law_8 (fun q2 H hP hD hS => ?_)
  have hP : va_P D vwCl ([(q2, .inr (11, [.int 0, .int 0, .int 0, .null, .null, .null, .null, .null, .null, .null, .null, .null, .null, .null, .int 0, .int 0, .int 0, .int 0, .int 0, .null, .null, .null, .int 0, .null, .null, .null, .null, .int 0, .null, .null, .int 0, .int 0, .int 0, .null, .int 0, .int 0, .int 0, .null, .null, .null, .null, .int 0]))] ++ cel_X10 cy q0 a0) H := hP
  have hD : va_D (fun q : Nat => s.heap.size ≤ q) ([(q2, .inr (11, [.int 0, .int 0, .int 0, .null, .null, .null, .null, .null, .null, .null, .null, .null, .null, .null, .int 0, .int 0, .int 0, .int 0, .int 0, .null, .null, .null, .int 0, .null, .null, .null, .null, .int 0, .null, .null, .int 0, .int 0, .int 0, .null, .int 0, .int 0, .int 0, .null, .null, .null, .null, .int 0]))] ++ cel_X10 cy q0 a0) := hD
  refine W.widen (k := 92) (n := 604) (by decide) (by decide) ?_
  refine lv_dup (pc := 11) C.1 C.2.1 dL_law_11 rfl ?_
  refine y_call (pc := 12) C hN hP hD hS hA 0 [] (wr := []) rfl rfl (by decide) (by decide) (fun hp => y_runL (pc := 12) C mc_X11 ml_L_12 (hR.le (by decide)) (by decide) [] rfl hl.1 rfl (Nat.le_of_ble_eq_true rfl) dL_law_12 (k_X11 l D cy q2 _) hp) (fun a2 H locs hP hD hS => ?_)
  rw [List.nil_append] at hP hD
  refine W.widen (k := 117) (n := 898) (by decide) (by decide) ?_
  refine lv_astore_n (pc := 15) (lv' := [(2, .ref q2), (1, .ref q0), (0, .ref b)]) C.1 C.2.1 dL_law_15 rfl hl (by decide) rfl (fun ls hl => ?_)
  refine lv_iconst (pc := 16) (v := 0) C.1 C.2.1 dL_law_16 (by decide) ?_
  refine lv_istore_n (pc := 17) (lv' := [(3, .int 0), (2, .ref q2), (1, .ref q0), (0, .ref b)]) C.1 C.2.1 dL_law_17 rfl hl (by decide) rfl (fun ls hl => ?_)
  have hl : lv_has ls 4 [(0, .ref b), (1, .ref q0), (2, .ref q2), (3, .int (nI 0))] := by
    rw [nI_0]
    exact lv_sub hl [3, 2, 1, 0] rfl
  obtain ⟨iC, fC⟩ := IC_of (va_D_r hD)
  obtain ⟨iM, fM⟩ := IM_of (va_D_l hD)
  have G : LG s b L xs (adC_of q0 a0) (adM_of q2 a2) := ⟨hX, hbl, iC, iM, fC, fM, fun i j hi hj e => by
    obtain ⟨e1, h1⟩ := atC_of cy q0 a0 i hi
    obtain ⟨e2, h2⟩ := atM_of cy q2 a2 j hj
    exact va_D_x hD h2 h1 e.symm⟩
  exact law_loop hst l hL C0 C G hST (L + 8) 0 (Nat.zero_le _) (by omega) v0C v0M _ _ ls hI0 ⟨PC_of (va_P_r hP), PM_of (va_P_l hP)⟩ hS hl
