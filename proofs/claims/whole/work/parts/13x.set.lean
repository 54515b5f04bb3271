section
variable {p : Program} {l : Launch} {e : Env} {R : Room} {s : State} {m : MethodId} {args : Array Value} {below : List Frame} {meth : Method} {c : Code} {D : va_G} {cy : Nat → ClassId} {ad : Nat → Nat}
def f_X10_set (c0 : Nat) (i1 : Int32) (i2 : Int32) (i3 : Int32) (i4 : Int32) (v : VV) : Option (Int32 × VV) :=
  bi (F_X10_isPort c0 i1 v) fun x3 v2 =>
  if (x3 = 0) then
    some ((-1), v2)
  else
    bi (F_X10_isGood i2 v2) fun x6 v5 =>
    if (x6 = 0) then
      some ((-1), v5)
    else
      bi (F_X10_within i3 0 4 v5) fun x9 v8 =>
      if (x9 = 0) then
        some ((-2), v8)
      else
        gd (inB i3 5 = true) <|
        gd (inB i3 5 = true) <|
        bi (F_X10_within i4 (tbL (Int32.toNatClampNeg i3)) (tbM (Int32.toNatClampNeg i3)) v8) fun x14 v13 =>
        if (x14 = 0) then
          some ((-2), v13)
        else
          bi (F_X9_shelf (rfC c0 0) i1 i2 v13) fun q18 v17 =>
          bi (F_X6_number q18 i3 v17) fun x22 v21 =>
          (F_X6_change q18 i3 i4 v21).bind fun v24 =>
          if (i3 = 0) then
            nv (wu v24 c0 6 ((v24 c0 6) + (i4 - x22))) fun v25 =>
            some (x22, v25)
          else
            some (x22, v24)
abbrev F_X10_set (c0 : Nat) (i1 : Int32) (i2 : Int32) (i3 : Int32) (i4 : Int32) (v : VV) : Option (Int32 × VV) := f_X10_set c0 i1 i2 i3 i4 v
set_option maxHeartbeats 4000000 in
set_option maxRecDepth 100000 in
theorem w_X10_set (C : Cx p s m args c cX10_set 7 RX10 D cy) (hI : wI LC ad) (hr : meth.sig.returnType = some .int) (hlk : meth.locks = false) (hR : RoL 3 R) {tL tM : Nat} (hST : STf s ad tL tM) {rZ : Int32} {vZ : VV} : ∀ (c0 : Nat) (i1 : Int32) (i2 : Int32) (i3 : Int32) (i4 : Int32) (v : VV) (H : Heap) (locs : List Loc) (ls : Array Slot), wk LC c0 10 → f_X10_set c0 i1 i2 i3 i4 v = some (rZ, vZ) → va_P D vwCl (wd LC cy ad v) H → va_S (wA LC ad) s.heap H locs → lv_has ls 7 [(0, .ref (ad c0)), (1, .int i1), (2, .int i2), (3, .int i3), (4, .int i4)] → W p l e R s m args below meth c H locs 0 0 (MQ below (qiG LC cy ad D rZ vZ) args s 0 0 (wA LC ad)) (F0 m 0 ls []) := by
  intro c0 i1 i2 i3 i4 v H locs ls kc0 h hP hS hl
  unfold f_X10_set at h
  refine lv_aload_n (pc := 0) C.1 C.2.1 dX10_set_0 rfl (lv_at hl 0 rfl) ?_
  refine lv_iload_n (pc := 1) C.1 C.2.1 dX10_set_1 rfl (lv_at hl 1 rfl) ?_
  obtain ⟨x3, v2, hc1, h⟩ := bi_e h
  refine x_calli (pc := 2) C hP hS mi_X10_isPort ck_10 kc0 ml_X10_57 (hR.le (by decide)) (Nat.zero_le _) (Nat.zero_le _) [.int i1] rfl hl.1 rfl (Nat.le_of_ble_eq_true rfl) dX10_set_2 (m_X10_isPort hI kc0 hc1) (fun H locs hP hS => ?_)
  refine lv_if_eq (pc := 5) (tgt := 15) C.1 C.2.1 dX10_set_5 (by decide) (fun b5 => ?_) (fun b5 => ?_)
  · replace h := if_t h b5
    refine lv_iconst (pc := 15) (v := (-1)) C.1 C.2.1 dX10_set_15 (by decide) ?_
    exact x_iret (pc := 16) C hr hlk hP hS h dX10_set_16
  · replace h := if_f h b5
    refine lv_iload_n (pc := 8) C.1 C.2.1 dX10_set_8 rfl (lv_at hl 2 rfl) ?_
    obtain ⟨x6, v5, hc4, h⟩ := bi_e h
    refine x_callsi (pc := 9) C hP hS ms_X10_isGood ml_X10_61 (hR.le (by decide)) (Nat.zero_le _) (Nat.zero_le _) [.int i2] rfl hl.1 rfl (Nat.le_of_ble_eq_true rfl) dX10_set_9 (m_X10_isGood hI hc4) (fun H locs hP hS => ?_)
    refine lv_if_ne (pc := 12) (tgt := 17) C.1 C.2.1 dX10_set_12 (by decide) (fun b12 => ?_) (fun b12 => ?_)
    · replace h := if_f h b12
      refine lv_iload_n (pc := 17) C.1 C.2.1 dX10_set_17 rfl (lv_at hl 3 rfl) ?_
      refine lv_iconst (pc := 18) (v := 0) C.1 C.2.1 dX10_set_18 (by decide) ?_
      refine lv_iconst (pc := 19) (v := 4) C.1 C.2.1 dX10_set_19 (by decide) ?_
      obtain ⟨x9, v8, hc7, h⟩ := bi_e h
      refine x_callsi (pc := 20) C hP hS ms_X10_within ml_X10_64 (hR.le (by decide)) (Nat.zero_le _) (Nat.zero_le _) [.int i3, .int 0, .int 4] rfl hl.1 rfl (Nat.le_of_ble_eq_true rfl) dX10_set_20 (m_X10_within hI hc7) (fun H locs hP hS => ?_)
      refine lv_if_eq (pc := 23) (tgt := 44) C.1 C.2.1 dX10_set_23 (by decide) (fun b23 => ?_) (fun b23 => ?_)
      · replace h := if_t h b23
        refine lv_bipush (pc := 44) (v := (-2)) C.1 C.2.1 dX10_set_44 (by decide) ?_
        exact x_iret (pc := 46) C hr hlk hP hS h dX10_set_46
      · replace h := if_f h b23
        refine lv_iload (pc := 26) C.1 C.2.1 dX10_set_26 (lv_at hl 4 rfl) ?_
        refine x_getsL (pc := 28) C hST hS dX10_set_28 ?_
        refine lv_iload_n (pc := 31) C.1 C.2.1 dX10_set_31 rfl (lv_at hl 3 rfl) ?_
        obtain ⟨g10, h⟩ := gd_e h
        refine x_sldL (pc := 32) C hST hS (inB_vp g10) dX10_set_32 ?_
        refine x_getsM (pc := 33) C hST hS dX10_set_33 ?_
        refine lv_iload_n (pc := 36) C.1 C.2.1 dX10_set_36 rfl (lv_at hl 3 rfl) ?_
        obtain ⟨g11, h⟩ := gd_e h
        refine x_sldM (pc := 37) C hST hS (inB_vp g11) dX10_set_37 ?_
        obtain ⟨x14, v13, hc12, h⟩ := bi_e h
        refine x_callsi (pc := 38) C hP hS ms_X10_within ml_X10_64 (hR.le (by decide)) (Nat.zero_le _) (Nat.zero_le _) [.int i4, .int (tbL (Int32.toNatClampNeg i3)), .int (tbM (Int32.toNatClampNeg i3))] rfl hl.1 rfl (Nat.le_of_ble_eq_true rfl) dX10_set_38 (m_X10_within hI hc12) (fun H locs hP hS => ?_)
        refine lv_if_ne (pc := 41) (tgt := 47) C.1 C.2.1 dX10_set_41 (by decide) (fun b41 => ?_) (fun b41 => ?_)
        · replace h := if_f h b41
          refine lv_aload_n (pc := 47) C.1 C.2.1 dX10_set_47 rfl (lv_at hl 0 rfl) ?_
          refine x_getr (pc := 48) C hP ck_10 0 fl_X10_10 (by decide) rfl kc0 dX10_set_48 ?_
          have k15 : wk LC (rfC c0 0) 9 := wt_f wT_C kc0 0 (by decide) rfl rfl
          refine lv_iload_n (pc := 51) C.1 C.2.1 dX10_set_51 rfl (lv_at hl 1 rfl) ?_
          refine lv_iload_n (pc := 52) C.1 C.2.1 dX10_set_52 rfl (lv_at hl 2 rfl) ?_
          obtain ⟨q18, v17, hc16, h⟩ := bi_e h
          refine x_callr (pc := 53) C hP hS mi_X9_shelf ck_9 k15 ml_X10_75 (hR.le (by decide)) (Nat.zero_le _) (Nat.zero_le _) [.int i1, .int i2] rfl hl.1 rfl (Nat.le_of_ble_eq_true rfl) dX10_set_53 (m_X9_shelf hI k15 hc16) (fun H locs hP hS => ?_)
          have k19 : wk LC q18 6 := wr_X9_shelf hc16 k15
          refine lv_astore (pc := 56) (lv' := [(5, .ref (ad q18)), (0, .ref (ad c0)), (1, .int i1), (2, .int i2), (3, .int i3), (4, .int i4)]) C.1 C.2.1 dX10_set_56 hl (by decide) rfl (fun ls hl => ?_)
          refine lv_aload (pc := 58) C.1 C.2.1 dX10_set_58 (lv_at hl 0 rfl) ?_
          refine lv_iload_n (pc := 60) C.1 C.2.1 dX10_set_60 rfl (lv_at hl 4 rfl) ?_
          obtain ⟨x22, v21, hc20, h⟩ := bi_e h
          refine x_calli (pc := 61) C hP hS mi_X6_number ck_6 k19 ml_X10_79 (hR.le (by decide)) (Nat.zero_le _) (Nat.zero_le _) [.int i3] rfl hl.1 rfl (Nat.le_of_ble_eq_true rfl) dX10_set_61 (m_X6_number hI k19 hc20) (fun H locs hP hS => ?_)
          refine lv_istore (pc := 64) (lv' := [(6, .int x22), (5, .ref (ad q18)), (0, .ref (ad c0)), (1, .int i1), (2, .int i2), (3, .int i3), (4, .int i4)]) C.1 C.2.1 dX10_set_64 hl (by decide) rfl (fun ls hl => ?_)
          refine lv_aload (pc := 66) C.1 C.2.1 dX10_set_66 (lv_at hl 1 rfl) ?_
          refine lv_iload_n (pc := 68) C.1 C.2.1 dX10_set_68 rfl (lv_at hl 5 rfl) ?_
          refine lv_iload (pc := 69) C.1 C.2.1 dX10_set_69 (lv_at hl 6 rfl) ?_
          obtain ⟨v24, hc23, h⟩ := bd_e h
          refine x_callv (pc := 71) C hP hS mi_X6_change ck_6 k19 ml_X10_85 (hR.le (by decide)) (Nat.zero_le _) (Nat.zero_le _) [.int i3, .int i4] rfl hl.1 rfl (Nat.le_of_ble_eq_true rfl) dX10_set_71 (m_X6_change hI k19 hc23) (fun H locs hP hS => ?_)
          refine lv_iload_n (pc := 74) C.1 C.2.1 dX10_set_74 rfl (lv_at hl 5 rfl) ?_
          refine lv_if_ne (pc := 75) (tgt := 92) C.1 C.2.1 dX10_set_75 (by decide) (fun b75 => ?_) (fun b75 => ?_)
          · replace h := if_f h b75
            refine lv_iload (pc := 92) C.1 C.2.1 dX10_set_92 (lv_at hl 0 rfl) ?_
            exact x_iret (pc := 94) C hr hlk hP hS h dX10_set_94
          · replace h := if_t h b75
            refine lv_aload_n (pc := 78) C.1 C.2.1 dX10_set_78 rfl (lv_at hl 2 rfl) ?_
            refine lv_dup (pc := 79) C.1 C.2.1 dX10_set_79 rfl ?_
            refine x_geti (pc := 80) C hP ck_10 6 fl_X10_89 (by decide) rfl kc0 dX10_set_80 ?_
            refine lv_iload (pc := 83) C.1 C.2.1 dX10_set_83 (lv_at hl 6 rfl) ?_
            refine lv_iload (pc := 85) C.1 C.2.1 dX10_set_85 (lv_at hl 0 rfl) ?_
            refine lv_isub (pc := 87) C.1 C.2.1 dX10_set_87 ?_
            refine lv_iadd (pc := 88) C.1 C.2.1 dX10_set_88 ?_
            refine x_put (pc := 89) C hI hP hS ck_10 6 fl_X10_89 (by decide) rfl rfl kc0 rfl rfl dX10_set_89 (fun H locs hP hS => ?_)
            obtain ⟨v25, h, hP⟩ := nv_p (P := fun z => va_P D vwCl (wd LC cy ad z) H) h hP
            refine lv_iload (pc := 92) C.1 C.2.1 dX10_set_92 (lv_at hl 0 rfl) ?_
            exact x_iret (pc := 94) C hr hlk hP hS h dX10_set_94
        · replace h := if_t h b41
          refine lv_bipush (pc := 44) (v := (-2)) C.1 C.2.1 dX10_set_44 (by decide) ?_
          exact x_iret (pc := 46) C hr hlk hP hS h dX10_set_46
    · replace h := if_t h b12
      refine lv_iconst (pc := 15) (v := (-1)) C.1 C.2.1 dX10_set_15 (by decide) ?_
      exact x_iret (pc := 16) C hr hlk hP hS h dX10_set_16
set_option maxRecDepth 100000 in
theorem m_X10_set (hI : wI LC ad) {c0 : Nat} {i1 : Int32} {i2 : Int32} {i3 : Int32} {i4 : Int32} {v : VV} {rZ : Int32} {vZ : VV} (kc0 : wk LC c0 10) (h : F_X10_set c0 i1 i2 i3 i4 v = some (rZ, vZ)) : Met l yX10_set (Cond.code yX10_set cX10_set 7 (some .int) :: wsG) (rmL 3) (pcS LC cy ad D [.ref (ad c0), .int i1, .int i2, .int i3, .int i4] v) (qiG LC cy ad D rZ vZ) 0 0 (wA LC ad) := by
  refine Met.ofW (cc := cX10_set) (maxL := 7) (ret := (some .int)) (by decide) rfl ?_
  intro p e s m args below meth c s₁ B hml hv
  obtain ⟨rfl, hP, hK, tL, tM, hST⟩ := hv
  have hts := atoms_spec (ws := Cond.code yX10_set cX10_set 7 (some .int) :: wsG) B.pre
  have hown : s.vm.findClass RX10 = some m.cls := findClass_of_methodNamed B.named
  have C : Cx p s m _ c cX10_set 7 RX10 D cy := ⟨B.exec, B.bytes, hml, hown, fun w hw => hts w (List.mem_cons_of_mem _ hw), hK⟩
  have hl := lv_entry ([.ref (ad c0), .int i1, .int i2, .int i3, .int i4]) (n := 7) (Nat.le_of_ble_eq_true rfl)
  rw [lg_entry_eq]
  generalize (lg_sl ([.ref (ad c0), .int i1, .int i2, .int i3, .int i4]) ++ List.replicate (7 - (lg_sl ([.ref (ad c0), .int i1, .int i2, .int i3, .int i4])).length) Slot.unset).toArray = ls at hl ⊢
  have hl : lv_has ls 7 [(0, .ref (ad c0)), (1, .int i1), (2, .int i2), (3, .int i3), (4, .int i4)] := hl
  exact w_X10_set C hI B.returns B.notSynchronized (RoL_rm _) hST c0 i1 i2 i3 i4 v _ _ _ kc0 h hP va_S.rf (lv_sub hl [0, 1, 2, 3, 4] rfl)
end
