section
variable {p : Program} {l : Launch} {e : Env} {R : Room} {s : State} {m : MethodId} {args : Array Value} {below : List Frame} {meth : Method} {c : Code} {D : va_G} {cy : Nat → ClassId} {ad : Nat → Nat}
def f_X10_buy (c0 : Nat) (i1 : Int32) (i2 : Int32) (i3 : Int32) (v : VV) : Option (Int32 × VV) :=
  bi (F_X10_refusalOfDeal c0 i1 i2 i3 v) fun x3 v2 =>
  if (x3 = 0) then
    gd (inB i1 (lnC (rfC c0 1)) = true) <|
    gd (inB (v2 (rfC (rfC c0 1) (Int32.toNatClampNeg i1)) 0) (lnC (rfC (rfC c0 0) 0)) = true) <|
    gd (inB i2 (lnC (rfC (rfC (rfC (rfC c0 0) 0) (Int32.toNatClampNeg (v2 (rfC (rfC c0 1) (Int32.toNatClampNeg i1)) 0))) 0)) = true) <|
    bi (F_X7_load (rfC (rfC c0 1) (Int32.toNatClampNeg i1)) v2) fun x17 v16 =>
    nv ((if ((v2 (rfC (rfC c0 1) (Int32.toNatClampNeg i1)) 1) - x17) < i3 then ((v2 (rfC (rfC c0 1) (Int32.toNatClampNeg i1)) 1) - x17) else i3)) fun x18 =>
    (F_X1_purchase (rfC c0 9) (rfC (rfC (rfC (rfC (rfC c0 0) 0) (Int32.toNatClampNeg (v2 (rfC (rfC c0 1) (Int32.toNatClampNeg i1)) 0))) 0) (Int32.toNatClampNeg i2)) (v2 (rfC (rfC (rfC (rfC (rfC c0 0) 0) (Int32.toNatClampNeg (v2 (rfC (rfC c0 1) (Int32.toNatClampNeg i1)) 0))) 0) (Int32.toNatClampNeg i2)) 1) (v2 (rfC (rfC (rfC c0 0) 0) (Int32.toNatClampNeg (v2 (rfC (rfC c0 1) (Int32.toNatClampNeg i1)) 0))) 1) (v2 (rfC (rfC c0 1) (Int32.toNatClampNeg i1)) 2) x18 v16).bind fun v20 =>
    nv (wu v20 (rfC (rfC (rfC (rfC (rfC c0 0) 0) (Int32.toNatClampNeg (v2 (rfC (rfC c0 1) (Int32.toNatClampNeg i1)) 0))) 0) (Int32.toNatClampNeg i2)) 1 (v20 (rfC c0 9) 1)) fun v22 =>
    nv (wu v22 (rfC (rfC c0 1) (Int32.toNatClampNeg i1)) 2 (v22 (rfC c0 9) 2)) fun v24 =>
    gd (inB i2 (lnC (rfC (rfC (rfC c0 1) (Int32.toNatClampNeg i1)) 3)) = true) <|
    gd (inB i2 (lnC (rfC (rfC (rfC c0 1) (Int32.toNatClampNeg i1)) 3)) = true) <|
    nv (wu v24 (rfC (rfC (rfC c0 1) (Int32.toNatClampNeg i1)) 3) (Int32.toNatClampNeg i2) ((v24 (rfC (rfC (rfC c0 1) (Int32.toNatClampNeg i1)) 3) (Int32.toNatClampNeg i2)) + (v24 (rfC c0 9) 0))) fun v29 =>
    nv (wu v29 (rfC (rfC (rfC c0 0) 0) (Int32.toNatClampNeg (v2 (rfC (rfC c0 1) (Int32.toNatClampNeg i1)) 0))) 3 ((v29 (rfC (rfC (rfC c0 0) 0) (Int32.toNatClampNeg (v2 (rfC (rfC c0 1) (Int32.toNatClampNeg i1)) 0))) 3) - (v29 (rfC c0 9) 3))) fun v31 =>
    nv (wu v31 (rfC (rfC (rfC c0 0) 0) (Int32.toNatClampNeg (v2 (rfC (rfC c0 1) (Int32.toNatClampNeg i1)) 0))) 2 ((v31 (rfC (rfC (rfC c0 0) 0) (Int32.toNatClampNeg (v2 (rfC (rfC c0 1) (Int32.toNatClampNeg i1)) 0))) 2) + (v31 (rfC c0 9) 4))) fun v33 =>
    some ((v33 (rfC c0 9) 0), v33)
  else
    some (x3, v2)
abbrev F_X10_buy (c0 : Nat) (i1 : Int32) (i2 : Int32) (i3 : Int32) (v : VV) : Option (Int32 × VV) := f_X10_buy c0 i1 i2 i3 v
set_option maxHeartbeats 4000000 in
set_option maxRecDepth 100000 in
theorem w_X10_buy (C : Cx p s m args c cX10_buy 8 RX10 D cy) (hI : wI LC ad) (hr : meth.sig.returnType = some .int) (hlk : meth.locks = false) (hR : RoL 4 R) {rZ : Int32} {vZ : VV} : ∀ (c0 : Nat) (i1 : Int32) (i2 : Int32) (i3 : Int32) (v : VV) (H : Heap) (locs : List Loc) (ls : Array Slot), wk LC c0 10 → f_X10_buy c0 i1 i2 i3 v = some (rZ, vZ) → va_P D vwCl (wd LC cy ad v) H → va_S (wA LC ad) s.heap H locs → lv_has ls 8 [(0, .ref (ad c0)), (1, .int i1), (2, .int i2), (3, .int i3)] → W p l e R s m args below meth c H locs 0 0 (MQ below (qiG LC cy ad D rZ vZ) args s 0 0 (wA LC ad)) (F0 m 0 ls []) := by
  intro c0 i1 i2 i3 v H locs ls kc0 h hP hS hl
  unfold f_X10_buy at h
  refine lv_aload_n (pc := 0) C.1 C.2.1 dX10_buy_0 rfl (lv_at hl 0 rfl) ?_
  refine lv_iload_n (pc := 1) C.1 C.2.1 dX10_buy_1 rfl (lv_at hl 1 rfl) ?_
  refine lv_iload_n (pc := 2) C.1 C.2.1 dX10_buy_2 rfl (lv_at hl 2 rfl) ?_
  refine lv_iload_n (pc := 3) C.1 C.2.1 dX10_buy_3 rfl (lv_at hl 3 rfl) ?_
  obtain ⟨x3, v2, hc1, h⟩ := bi_e h
  refine x_calli (pc := 4) C hP hS mi_X10_refusalOfDeal ck_10 kc0 ml_X10_161 (hR.le (by decide)) (Nat.zero_le _) (Nat.zero_le _) [.int i1, .int i2, .int i3] rfl hl.1 rfl (Nat.le_of_ble_eq_true rfl) dX10_buy_4 (m_X10_refusalOfDeal hI kc0 hc1) (fun H locs hP hS => ?_)
  refine lv_istore (pc := 7) (lv' := [(4, .int x3), (0, .ref (ad c0)), (1, .int i1), (2, .int i2), (3, .int i3)]) C.1 C.2.1 dX10_buy_7 hl (by decide) rfl (fun ls hl => ?_)
  refine lv_iload (pc := 9) C.1 C.2.1 dX10_buy_9 (lv_at hl 0 rfl) ?_
  refine lv_if_eq (pc := 11) (tgt := 17) C.1 C.2.1 dX10_buy_11 (by decide) (fun b11 => ?_) (fun b11 => ?_)
  · replace h := if_t h b11
    refine lv_aload_n (pc := 17) C.1 C.2.1 dX10_buy_17 rfl (lv_at hl 1 rfl) ?_
    refine x_getr (pc := 18) C hP ck_10 1 fl_X10_18 (by decide) rfl kc0 dX10_buy_18 ?_
    have k4 : wk LC (rfC c0 1) 16 := wt_f wT_C kc0 1 (by decide) rfl rfl
    refine lv_iload_n (pc := 21) C.1 C.2.1 dX10_buy_21 rfl (lv_at hl 2 rfl) ?_
    obtain ⟨g5, h⟩ := gd_e h
    refine x_aald (pc := 22) C hP k4 (by decide) (by decide) (inB_vp g5) dX10_buy_22 ?_
    have k6 : wk LC (rfC (rfC c0 1) (Int32.toNatClampNeg i1)) 7 := wt_a wT_C k4 (by decide) (inB_vp g5) rfl
    refine lv_astore (pc := 23) (lv' := [(5, .ref (ad (rfC (rfC c0 1) (Int32.toNatClampNeg i1)))), (4, .int x3), (0, .ref (ad c0)), (1, .int i1), (2, .int i2), (3, .int i3)]) C.1 C.2.1 dX10_buy_23 hl (by decide) rfl (fun ls hl => ?_)
    refine lv_aload_n (pc := 25) C.1 C.2.1 dX10_buy_25 rfl (lv_at hl 2 rfl) ?_
    refine x_getr (pc := 26) C hP ck_10 0 fl_X10_10 (by decide) rfl kc0 dX10_buy_26 ?_
    have k7 : wk LC (rfC c0 0) 9 := wt_f wT_C kc0 0 (by decide) rfl rfl
    refine x_getr (pc := 29) C hP ck_9 0 fl_X10_92 (by decide) rfl k7 dX10_buy_29 ?_
    have k8 : wk LC (rfC (rfC c0 0) 0) 14 := wt_f wT_C k7 0 (by decide) rfl rfl
    refine lv_aload (pc := 32) C.1 C.2.1 dX10_buy_32 (lv_at hl 0 rfl) ?_
    refine x_geti (pc := 34) C hP ck_7 0 fl_X10_152 (by decide) rfl k6 dX10_buy_34 ?_
    obtain ⟨g9, h⟩ := gd_e h
    refine x_aald (pc := 37) C hP k8 (by decide) (by decide) (inB_vp g9) dX10_buy_37 ?_
    have k10 : wk LC (rfC (rfC (rfC c0 0) 0) (Int32.toNatClampNeg (v2 (rfC (rfC c0 1) (Int32.toNatClampNeg i1)) 0))) 4 := wt_a wT_C k8 (by decide) (inB_vp g9) rfl
    refine lv_astore (pc := 38) (lv' := [(6, .ref (ad (rfC (rfC (rfC c0 0) 0) (Int32.toNatClampNeg (v2 (rfC (rfC c0 1) (Int32.toNatClampNeg i1)) 0))))), (5, .ref (ad (rfC (rfC c0 1) (Int32.toNatClampNeg i1)))), (4, .int x3), (0, .ref (ad c0)), (1, .int i1), (2, .int i2), (3, .int i3)]) C.1 C.2.1 dX10_buy_38 hl (by decide) rfl (fun ls hl => ?_)
    refine lv_aload (pc := 40) C.1 C.2.1 dX10_buy_40 (lv_at hl 0 rfl) ?_
    refine x_getr (pc := 42) C hP ck_4 0 fl_X10_165 (by decide) rfl k10 dX10_buy_42 ?_
    have k11 : wk LC (rfC (rfC (rfC (rfC c0 0) 0) (Int32.toNatClampNeg (v2 (rfC (rfC c0 1) (Int32.toNatClampNeg i1)) 0))) 0) 15 := wt_f wT_C k10 0 (by decide) rfl rfl
    refine lv_iload_n (pc := 45) C.1 C.2.1 dX10_buy_45 rfl (lv_at hl 5 rfl) ?_
    obtain ⟨g12, h⟩ := gd_e h
    refine x_aald (pc := 46) C hP k11 (by decide) (by decide) (inB_vp g12) dX10_buy_46 ?_
    have k13 : wk LC (rfC (rfC (rfC (rfC (rfC c0 0) 0) (Int32.toNatClampNeg (v2 (rfC (rfC c0 1) (Int32.toNatClampNeg i1)) 0))) 0) (Int32.toNatClampNeg i2)) 6 := wt_a wT_C k11 (by decide) (inB_vp g12) rfl
    refine lv_astore (pc := 47) (lv' := [(7, .ref (ad (rfC (rfC (rfC (rfC (rfC c0 0) 0) (Int32.toNatClampNeg (v2 (rfC (rfC c0 1) (Int32.toNatClampNeg i1)) 0))) 0) (Int32.toNatClampNeg i2)))), (6, .ref (ad (rfC (rfC (rfC c0 0) 0) (Int32.toNatClampNeg (v2 (rfC (rfC c0 1) (Int32.toNatClampNeg i1)) 0))))), (5, .ref (ad (rfC (rfC c0 1) (Int32.toNatClampNeg i1)))), (4, .int x3), (0, .ref (ad c0)), (1, .int i1), (2, .int i2), (3, .int i3)]) C.1 C.2.1 dX10_buy_47 hl (by decide) rfl (fun ls hl => ?_)
    refine lv_aload_n (pc := 49) C.1 C.2.1 dX10_buy_49 rfl (lv_at hl 4 rfl) ?_
    refine x_getr (pc := 50) C hP ck_10 9 fl_X10_33 (by decide) rfl kc0 dX10_buy_50 ?_
    have k14 : wk LC (rfC c0 9) 1 := wt_f wT_C kc0 9 (by decide) rfl rfl
    refine lv_aload (pc := 53) C.1 C.2.1 dX10_buy_53 (lv_at hl 0 rfl) ?_
    refine lv_aload (pc := 55) C.1 C.2.1 dX10_buy_55 (lv_at hl 0 rfl) ?_
    refine x_geti (pc := 57) C hP ck_6 1 fl_X10_169 (by decide) rfl k13 dX10_buy_57 ?_
    refine lv_aload (pc := 60) C.1 C.2.1 dX10_buy_60 (lv_at hl 1 rfl) ?_
    refine x_geti (pc := 62) C hP ck_4 1 fl_X10_96 (by decide) rfl k10 dX10_buy_62 ?_
    refine lv_aload (pc := 65) C.1 C.2.1 dX10_buy_65 (lv_at hl 2 rfl) ?_
    refine x_geti (pc := 67) C hP ck_7 2 fl_X10_158 (by decide) rfl k6 dX10_buy_67 ?_
    refine lv_iload_n (pc := 70) C.1 C.2.1 dX10_buy_70 rfl (lv_at hl 7 rfl) ?_
    refine lv_aload (pc := 71) C.1 C.2.1 dX10_buy_71 (lv_at hl 2 rfl) ?_
    refine x_geti (pc := 73) C hP ck_7 1 fl_X10_155 (by decide) rfl k6 dX10_buy_73 ?_
    refine lv_aload (pc := 76) C.1 C.2.1 dX10_buy_76 (lv_at hl 2 rfl) ?_
    obtain ⟨x17, v16, hc15, h⟩ := bi_e h
    refine x_calli (pc := 78) C hP hS mi_X7_load ck_7 k6 ml_X10_172 (hR.le (by decide)) (Nat.zero_le _) (Nat.zero_le _) [] rfl hl.1 rfl (Nat.le_of_ble_eq_true rfl) dX10_buy_78 (m_X7_load hI k6 hc15) (fun H locs hP hS => ?_)
    refine lv_isub (pc := 81) C.1 C.2.1 dX10_buy_81 ?_
    refine x_min (pc := 82) C ml_X10_175 (hR.le (by decide)) (Nat.zero_le _) (Nat.zero_le _) hl.1 (Nat.le_of_ble_eq_true rfl) dX10_buy_82 ?_
    refine lv_topi (fun x18 ex18 => ?_)
    replace h := nv_e h ex18
    clear ex18
    obtain ⟨v20, hc19, h⟩ := bd_e h
    refine x_callv (pc := 85) C hP hS mi_X1_purchase ck_1 k14 ml_X10_181 (hR.le (by decide)) (Nat.zero_le _) (Nat.zero_le _) [.ref (ad (rfC (rfC (rfC (rfC (rfC c0 0) 0) (Int32.toNatClampNeg (v2 (rfC (rfC c0 1) (Int32.toNatClampNeg i1)) 0))) 0) (Int32.toNatClampNeg i2))), .int (v2 (rfC (rfC (rfC (rfC (rfC c0 0) 0) (Int32.toNatClampNeg (v2 (rfC (rfC c0 1) (Int32.toNatClampNeg i1)) 0))) 0) (Int32.toNatClampNeg i2)) 1), .int (v2 (rfC (rfC (rfC c0 0) 0) (Int32.toNatClampNeg (v2 (rfC (rfC c0 1) (Int32.toNatClampNeg i1)) 0))) 1), .int (v2 (rfC (rfC c0 1) (Int32.toNatClampNeg i1)) 2), .int x18] rfl hl.1 rfl (Nat.le_of_ble_eq_true rfl) dX10_buy_85 (m_X1_purchase hI k14 k13 hc19) (fun H locs hP hS => ?_)
    refine lv_aload (pc := 88) C.1 C.2.1 dX10_buy_88 (lv_at hl 0 rfl) ?_
    refine lv_aload_n (pc := 90) C.1 C.2.1 dX10_buy_90 rfl (lv_at hl 4 rfl) ?_
    refine x_getr (pc := 91) C hP ck_10 9 fl_X10_33 (by decide) rfl kc0 dX10_buy_91 ?_
    have k21 : wk LC (rfC c0 9) 1 := wt_f wT_C kc0 9 (by decide) rfl rfl
    refine x_geti (pc := 94) C hP ck_1 1 fl_X10_185 (by decide) rfl k21 dX10_buy_94 ?_
    refine x_put (pc := 97) C hI hP hS ck_6 1 fl_X10_169 (by decide) rfl rfl k13 rfl rfl dX10_buy_97 (fun H locs hP hS => ?_)
    obtain ⟨v22, h, hP⟩ := nv_p (P := fun z => va_P D vwCl (wd LC cy ad z) H) h hP
    refine lv_aload (pc := 100) C.1 C.2.1 dX10_buy_100 (lv_at hl 2 rfl) ?_
    refine lv_aload_n (pc := 102) C.1 C.2.1 dX10_buy_102 rfl (lv_at hl 4 rfl) ?_
    refine x_getr (pc := 103) C hP ck_10 9 fl_X10_33 (by decide) rfl kc0 dX10_buy_103 ?_
    have k23 : wk LC (rfC c0 9) 1 := wt_f wT_C kc0 9 (by decide) rfl rfl
    refine x_geti (pc := 106) C hP ck_1 2 fl_X10_186 (by decide) rfl k23 dX10_buy_106 ?_
    refine x_put (pc := 109) C hI hP hS ck_7 2 fl_X10_158 (by decide) rfl rfl k6 rfl rfl dX10_buy_109 (fun H locs hP hS => ?_)
    obtain ⟨v24, h, hP⟩ := nv_p (P := fun z => va_P D vwCl (wd LC cy ad z) H) h hP
    refine lv_aload (pc := 112) C.1 C.2.1 dX10_buy_112 (lv_at hl 2 rfl) ?_
    refine x_getr (pc := 114) C hP ck_7 3 fl_X10_187 (by decide) rfl k6 dX10_buy_114 ?_
    have k25 : wk LC (rfC (rfC (rfC c0 1) (Int32.toNatClampNeg i1)) 3) 12 := wt_f wT_C k6 3 (by decide) rfl rfl
    refine lv_iload_n (pc := 117) C.1 C.2.1 dX10_buy_117 rfl (lv_at hl 6 rfl) ?_
    refine lv_dup2_11 (pc := 118) C.1 C.2.1 dX10_buy_118 rfl rfl ?_
    obtain ⟨g26, h⟩ := gd_e h
    refine x_iald (pc := 119) C hP k25 (inB_vp g26) dX10_buy_119 ?_
    refine lv_aload_n (pc := 120) C.1 C.2.1 dX10_buy_120 rfl (lv_at hl 4 rfl) ?_
    refine x_getr (pc := 121) C hP ck_10 9 fl_X10_33 (by decide) rfl kc0 dX10_buy_121 ?_
    have k27 : wk LC (rfC c0 9) 1 := wt_f wT_C kc0 9 (by decide) rfl rfl
    refine x_geti (pc := 124) C hP ck_1 0 fl_X10_190 (by decide) rfl k27 dX10_buy_124 ?_
    refine lv_iadd (pc := 127) C.1 C.2.1 dX10_buy_127 ?_
    obtain ⟨g28, h⟩ := gd_e h
    refine x_iast (pc := 128) C hI hP hS k25 (inB_vp g28) dX10_buy_128 (fun H locs hP hS => ?_)
    obtain ⟨v29, h, hP⟩ := nv_p (P := fun z => va_P D vwCl (wd LC cy ad z) H) h hP
    refine lv_aload (pc := 129) C.1 C.2.1 dX10_buy_129 (lv_at hl 1 rfl) ?_
    refine lv_dup (pc := 131) C.1 C.2.1 dX10_buy_131 rfl ?_
    refine x_geti (pc := 132) C hP ck_4 3 fl_X10_117 (by decide) rfl k10 dX10_buy_132 ?_
    refine lv_aload_n (pc := 135) C.1 C.2.1 dX10_buy_135 rfl (lv_at hl 4 rfl) ?_
    refine x_getr (pc := 136) C hP ck_10 9 fl_X10_33 (by decide) rfl kc0 dX10_buy_136 ?_
    have k30 : wk LC (rfC c0 9) 1 := wt_f wT_C kc0 9 (by decide) rfl rfl
    refine x_geti (pc := 139) C hP ck_1 3 fl_X10_193 (by decide) rfl k30 dX10_buy_139 ?_
    refine lv_isub (pc := 142) C.1 C.2.1 dX10_buy_142 ?_
    refine x_put (pc := 143) C hI hP hS ck_4 3 fl_X10_117 (by decide) rfl rfl k10 rfl rfl dX10_buy_143 (fun H locs hP hS => ?_)
    obtain ⟨v31, h, hP⟩ := nv_p (P := fun z => va_P D vwCl (wd LC cy ad z) H) h hP
    refine lv_aload (pc := 146) C.1 C.2.1 dX10_buy_146 (lv_at hl 1 rfl) ?_
    refine lv_dup (pc := 148) C.1 C.2.1 dX10_buy_148 rfl ?_
    refine x_geti (pc := 149) C hP ck_4 2 fl_X10_114 (by decide) rfl k10 dX10_buy_149 ?_
    refine lv_aload_n (pc := 152) C.1 C.2.1 dX10_buy_152 rfl (lv_at hl 4 rfl) ?_
    refine x_getr (pc := 153) C hP ck_10 9 fl_X10_33 (by decide) rfl kc0 dX10_buy_153 ?_
    have k32 : wk LC (rfC c0 9) 1 := wt_f wT_C kc0 9 (by decide) rfl rfl
    refine x_geti (pc := 156) C hP ck_1 4 fl_X10_196 (by decide) rfl k32 dX10_buy_156 ?_
    refine lv_iadd (pc := 159) C.1 C.2.1 dX10_buy_159 ?_
    refine x_put (pc := 160) C hI hP hS ck_4 2 fl_X10_114 (by decide) rfl rfl k10 rfl rfl dX10_buy_160 (fun H locs hP hS => ?_)
    obtain ⟨v33, h, hP⟩ := nv_p (P := fun z => va_P D vwCl (wd LC cy ad z) H) h hP
    refine lv_aload_n (pc := 163) C.1 C.2.1 dX10_buy_163 rfl (lv_at hl 4 rfl) ?_
    refine x_getr (pc := 164) C hP ck_10 9 fl_X10_33 (by decide) rfl kc0 dX10_buy_164 ?_
    have k34 : wk LC (rfC c0 9) 1 := wt_f wT_C kc0 9 (by decide) rfl rfl
    refine x_geti (pc := 167) C hP ck_1 0 fl_X10_190 (by decide) rfl k34 dX10_buy_167 ?_
    exact x_iret (pc := 170) C hr hlk hP hS h dX10_buy_170
  · replace h := if_f h b11
    refine lv_iload (pc := 14) C.1 C.2.1 dX10_buy_14 (lv_at hl 0 rfl) ?_
    exact x_iret (pc := 16) C hr hlk hP hS h dX10_buy_16
set_option maxRecDepth 100000 in
theorem m_X10_buy (hI : wI LC ad) {c0 : Nat} {i1 : Int32} {i2 : Int32} {i3 : Int32} {v : VV} {rZ : Int32} {vZ : VV} (kc0 : wk LC c0 10) (h : F_X10_buy c0 i1 i2 i3 v = some (rZ, vZ)) : Met l yX10_buy (Cond.code yX10_buy cX10_buy 8 (some .int) :: wsG) (rmL 4) (pcG LC cy ad D [.ref (ad c0), .int i1, .int i2, .int i3] v) (qiG LC cy ad D rZ vZ) 0 0 (wA LC ad) := by
  refine Met.ofW (cc := cX10_buy) (maxL := 8) (ret := (some .int)) (by decide) rfl ?_
  intro p e s m args below meth c s₁ B hml hv
  obtain ⟨rfl, hP, hK⟩ := hv
  have hts := atoms_spec (ws := Cond.code yX10_buy cX10_buy 8 (some .int) :: wsG) B.pre
  have hown : s.vm.findClass RX10 = some m.cls := findClass_of_methodNamed B.named
  have C : Cx p s m _ c cX10_buy 8 RX10 D cy := ⟨B.exec, B.bytes, hml, hown, fun w hw => hts w (List.mem_cons_of_mem _ hw), hK⟩
  have hl := lv_entry ([.ref (ad c0), .int i1, .int i2, .int i3]) (n := 8) (Nat.le_of_ble_eq_true rfl)
  rw [lg_entry_eq]
  generalize (lg_sl ([.ref (ad c0), .int i1, .int i2, .int i3]) ++ List.replicate (8 - (lg_sl ([.ref (ad c0), .int i1, .int i2, .int i3])).length) Slot.unset).toArray = ls at hl ⊢
  have hl : lv_has ls 8 [(0, .ref (ad c0)), (1, .int i1), (2, .int i2), (3, .int i3)] := hl
  exact w_X10_buy C hI B.returns B.notSynchronized (RoL_rm _) c0 i1 i2 i3 v _ _ _ kc0 h hP va_S.rf (lv_sub hl [0, 1, 2, 3] rfl)
def f_X10_sell (c0 : Nat) (i1 : Int32) (i2 : Int32) (i3 : Int32) (v : VV) : Option (Int32 × VV) :=
  bi (F_X10_refusalOfDeal c0 i1 i2 i3 v) fun x3 v2 =>
  if (x3 = 0) then
    gd (inB i1 (lnC (rfC c0 1)) = true) <|
    gd (inB (v2 (rfC (rfC c0 1) (Int32.toNatClampNeg i1)) 0) (lnC (rfC (rfC c0 0) 0)) = true) <|
    gd (inB i2 (lnC (rfC (rfC (rfC (rfC c0 0) 0) (Int32.toNatClampNeg (v2 (rfC (rfC c0 1) (Int32.toNatClampNeg i1)) 0))) 0)) = true) <|
    gd (inB i2 (lnC (rfC (rfC (rfC c0 1) (Int32.toNatClampNeg i1)) 3)) = true) <|
    nv ((if (v2 (rfC (rfC (rfC c0 1) (Int32.toNatClampNeg i1)) 3) (Int32.toNatClampNeg i2)) < i3 then (v2 (rfC (rfC (rfC c0 1) (Int32.toNatClampNeg i1)) 3) (Int32.toNatClampNeg i2)) else i3)) fun x17 =>
    (F_X1_sale (rfC c0 9) (rfC (rfC (rfC (rfC (rfC c0 0) 0) (Int32.toNatClampNeg (v2 (rfC (rfC c0 1) (Int32.toNatClampNeg i1)) 0))) 0) (Int32.toNatClampNeg i2)) (v2 (rfC (rfC (rfC (rfC (rfC c0 0) 0) (Int32.toNatClampNeg (v2 (rfC (rfC c0 1) (Int32.toNatClampNeg i1)) 0))) 0) (Int32.toNatClampNeg i2)) 1) (v2 (rfC (rfC (rfC c0 0) 0) (Int32.toNatClampNeg (v2 (rfC (rfC c0 1) (Int32.toNatClampNeg i1)) 0))) 1) (v2 (rfC (rfC c0 1) (Int32.toNatClampNeg i1)) 2) x17 v2).bind fun v19 =>
    nv (wu v19 (rfC (rfC (rfC (rfC (rfC c0 0) 0) (Int32.toNatClampNeg (v2 (rfC (rfC c0 1) (Int32.toNatClampNeg i1)) 0))) 0) (Int32.toNatClampNeg i2)) 1 (v19 (rfC c0 9) 1)) fun v21 =>
    nv (wu v21 (rfC (rfC c0 1) (Int32.toNatClampNeg i1)) 2 (v21 (rfC c0 9) 2)) fun v23 =>
    gd (inB i2 (lnC (rfC (rfC (rfC c0 1) (Int32.toNatClampNeg i1)) 3)) = true) <|
    gd (inB i2 (lnC (rfC (rfC (rfC c0 1) (Int32.toNatClampNeg i1)) 3)) = true) <|
    nv (wu v23 (rfC (rfC (rfC c0 1) (Int32.toNatClampNeg i1)) 3) (Int32.toNatClampNeg i2) ((v23 (rfC (rfC (rfC c0 1) (Int32.toNatClampNeg i1)) 3) (Int32.toNatClampNeg i2)) - (v23 (rfC c0 9) 0))) fun v28 =>
    nv (wu v28 (rfC (rfC (rfC c0 0) 0) (Int32.toNatClampNeg (v2 (rfC (rfC c0 1) (Int32.toNatClampNeg i1)) 0))) 3 ((v28 (rfC (rfC (rfC c0 0) 0) (Int32.toNatClampNeg (v2 (rfC (rfC c0 1) (Int32.toNatClampNeg i1)) 0))) 3) + (v28 (rfC c0 9) 3))) fun v30 =>
    nv (wu v30 (rfC (rfC (rfC c0 0) 0) (Int32.toNatClampNeg (v2 (rfC (rfC c0 1) (Int32.toNatClampNeg i1)) 0))) 2 ((v30 (rfC (rfC (rfC c0 0) 0) (Int32.toNatClampNeg (v2 (rfC (rfC c0 1) (Int32.toNatClampNeg i1)) 0))) 2) + (v30 (rfC c0 9) 4))) fun v32 =>
    some ((v32 (rfC c0 9) 0), v32)
  else
    some (x3, v2)
abbrev F_X10_sell (c0 : Nat) (i1 : Int32) (i2 : Int32) (i3 : Int32) (v : VV) : Option (Int32 × VV) := f_X10_sell c0 i1 i2 i3 v
set_option maxHeartbeats 4000000 in
set_option maxRecDepth 100000 in
theorem w_X10_sell (C : Cx p s m args c cX10_sell 8 RX10 D cy) (hI : wI LC ad) (hr : meth.sig.returnType = some .int) (hlk : meth.locks = false) (hR : RoL 4 R) {rZ : Int32} {vZ : VV} : ∀ (c0 : Nat) (i1 : Int32) (i2 : Int32) (i3 : Int32) (v : VV) (H : Heap) (locs : List Loc) (ls : Array Slot), wk LC c0 10 → f_X10_sell c0 i1 i2 i3 v = some (rZ, vZ) → va_P D vwCl (wd LC cy ad v) H → va_S (wA LC ad) s.heap H locs → lv_has ls 8 [(0, .ref (ad c0)), (1, .int i1), (2, .int i2), (3, .int i3)] → W p l e R s m args below meth c H locs 0 0 (MQ below (qiG LC cy ad D rZ vZ) args s 0 0 (wA LC ad)) (F0 m 0 ls []) := by
  intro c0 i1 i2 i3 v H locs ls kc0 h hP hS hl
  unfold f_X10_sell at h
  refine lv_aload_n (pc := 0) C.1 C.2.1 dX10_sell_0 rfl (lv_at hl 0 rfl) ?_
  refine lv_iload_n (pc := 1) C.1 C.2.1 dX10_sell_1 rfl (lv_at hl 1 rfl) ?_
  refine lv_iload_n (pc := 2) C.1 C.2.1 dX10_sell_2 rfl (lv_at hl 2 rfl) ?_
  refine lv_iload_n (pc := 3) C.1 C.2.1 dX10_sell_3 rfl (lv_at hl 3 rfl) ?_
  obtain ⟨x3, v2, hc1, h⟩ := bi_e h
  refine x_calli (pc := 4) C hP hS mi_X10_refusalOfDeal ck_10 kc0 ml_X10_161 (hR.le (by decide)) (Nat.zero_le _) (Nat.zero_le _) [.int i1, .int i2, .int i3] rfl hl.1 rfl (Nat.le_of_ble_eq_true rfl) dX10_sell_4 (m_X10_refusalOfDeal hI kc0 hc1) (fun H locs hP hS => ?_)
  refine lv_istore (pc := 7) (lv' := [(4, .int x3), (0, .ref (ad c0)), (1, .int i1), (2, .int i2), (3, .int i3)]) C.1 C.2.1 dX10_sell_7 hl (by decide) rfl (fun ls hl => ?_)
  refine lv_iload (pc := 9) C.1 C.2.1 dX10_sell_9 (lv_at hl 0 rfl) ?_
  refine lv_if_eq (pc := 11) (tgt := 17) C.1 C.2.1 dX10_sell_11 (by decide) (fun b11 => ?_) (fun b11 => ?_)
  · replace h := if_t h b11
    refine lv_aload_n (pc := 17) C.1 C.2.1 dX10_sell_17 rfl (lv_at hl 1 rfl) ?_
    refine x_getr (pc := 18) C hP ck_10 1 fl_X10_18 (by decide) rfl kc0 dX10_sell_18 ?_
    have k4 : wk LC (rfC c0 1) 16 := wt_f wT_C kc0 1 (by decide) rfl rfl
    refine lv_iload_n (pc := 21) C.1 C.2.1 dX10_sell_21 rfl (lv_at hl 2 rfl) ?_
    obtain ⟨g5, h⟩ := gd_e h
    refine x_aald (pc := 22) C hP k4 (by decide) (by decide) (inB_vp g5) dX10_sell_22 ?_
    have k6 : wk LC (rfC (rfC c0 1) (Int32.toNatClampNeg i1)) 7 := wt_a wT_C k4 (by decide) (inB_vp g5) rfl
    refine lv_astore (pc := 23) (lv' := [(5, .ref (ad (rfC (rfC c0 1) (Int32.toNatClampNeg i1)))), (4, .int x3), (0, .ref (ad c0)), (1, .int i1), (2, .int i2), (3, .int i3)]) C.1 C.2.1 dX10_sell_23 hl (by decide) rfl (fun ls hl => ?_)
    refine lv_aload_n (pc := 25) C.1 C.2.1 dX10_sell_25 rfl (lv_at hl 2 rfl) ?_
    refine x_getr (pc := 26) C hP ck_10 0 fl_X10_10 (by decide) rfl kc0 dX10_sell_26 ?_
    have k7 : wk LC (rfC c0 0) 9 := wt_f wT_C kc0 0 (by decide) rfl rfl
    refine x_getr (pc := 29) C hP ck_9 0 fl_X10_92 (by decide) rfl k7 dX10_sell_29 ?_
    have k8 : wk LC (rfC (rfC c0 0) 0) 14 := wt_f wT_C k7 0 (by decide) rfl rfl
    refine lv_aload (pc := 32) C.1 C.2.1 dX10_sell_32 (lv_at hl 0 rfl) ?_
    refine x_geti (pc := 34) C hP ck_7 0 fl_X10_152 (by decide) rfl k6 dX10_sell_34 ?_
    obtain ⟨g9, h⟩ := gd_e h
    refine x_aald (pc := 37) C hP k8 (by decide) (by decide) (inB_vp g9) dX10_sell_37 ?_
    have k10 : wk LC (rfC (rfC (rfC c0 0) 0) (Int32.toNatClampNeg (v2 (rfC (rfC c0 1) (Int32.toNatClampNeg i1)) 0))) 4 := wt_a wT_C k8 (by decide) (inB_vp g9) rfl
    refine lv_astore (pc := 38) (lv' := [(6, .ref (ad (rfC (rfC (rfC c0 0) 0) (Int32.toNatClampNeg (v2 (rfC (rfC c0 1) (Int32.toNatClampNeg i1)) 0))))), (5, .ref (ad (rfC (rfC c0 1) (Int32.toNatClampNeg i1)))), (4, .int x3), (0, .ref (ad c0)), (1, .int i1), (2, .int i2), (3, .int i3)]) C.1 C.2.1 dX10_sell_38 hl (by decide) rfl (fun ls hl => ?_)
    refine lv_aload (pc := 40) C.1 C.2.1 dX10_sell_40 (lv_at hl 0 rfl) ?_
    refine x_getr (pc := 42) C hP ck_4 0 fl_X10_165 (by decide) rfl k10 dX10_sell_42 ?_
    have k11 : wk LC (rfC (rfC (rfC (rfC c0 0) 0) (Int32.toNatClampNeg (v2 (rfC (rfC c0 1) (Int32.toNatClampNeg i1)) 0))) 0) 15 := wt_f wT_C k10 0 (by decide) rfl rfl
    refine lv_iload_n (pc := 45) C.1 C.2.1 dX10_sell_45 rfl (lv_at hl 5 rfl) ?_
    obtain ⟨g12, h⟩ := gd_e h
    refine x_aald (pc := 46) C hP k11 (by decide) (by decide) (inB_vp g12) dX10_sell_46 ?_
    have k13 : wk LC (rfC (rfC (rfC (rfC (rfC c0 0) 0) (Int32.toNatClampNeg (v2 (rfC (rfC c0 1) (Int32.toNatClampNeg i1)) 0))) 0) (Int32.toNatClampNeg i2)) 6 := wt_a wT_C k11 (by decide) (inB_vp g12) rfl
    refine lv_astore (pc := 47) (lv' := [(7, .ref (ad (rfC (rfC (rfC (rfC (rfC c0 0) 0) (Int32.toNatClampNeg (v2 (rfC (rfC c0 1) (Int32.toNatClampNeg i1)) 0))) 0) (Int32.toNatClampNeg i2)))), (6, .ref (ad (rfC (rfC (rfC c0 0) 0) (Int32.toNatClampNeg (v2 (rfC (rfC c0 1) (Int32.toNatClampNeg i1)) 0))))), (5, .ref (ad (rfC (rfC c0 1) (Int32.toNatClampNeg i1)))), (4, .int x3), (0, .ref (ad c0)), (1, .int i1), (2, .int i2), (3, .int i3)]) C.1 C.2.1 dX10_sell_47 hl (by decide) rfl (fun ls hl => ?_)
    refine lv_aload_n (pc := 49) C.1 C.2.1 dX10_sell_49 rfl (lv_at hl 4 rfl) ?_
    refine x_getr (pc := 50) C hP ck_10 9 fl_X10_33 (by decide) rfl kc0 dX10_sell_50 ?_
    have k14 : wk LC (rfC c0 9) 1 := wt_f wT_C kc0 9 (by decide) rfl rfl
    refine lv_aload (pc := 53) C.1 C.2.1 dX10_sell_53 (lv_at hl 0 rfl) ?_
    refine lv_aload (pc := 55) C.1 C.2.1 dX10_sell_55 (lv_at hl 0 rfl) ?_
    refine x_geti (pc := 57) C hP ck_6 1 fl_X10_169 (by decide) rfl k13 dX10_sell_57 ?_
    refine lv_aload (pc := 60) C.1 C.2.1 dX10_sell_60 (lv_at hl 1 rfl) ?_
    refine x_geti (pc := 62) C hP ck_4 1 fl_X10_96 (by decide) rfl k10 dX10_sell_62 ?_
    refine lv_aload (pc := 65) C.1 C.2.1 dX10_sell_65 (lv_at hl 2 rfl) ?_
    refine x_geti (pc := 67) C hP ck_7 2 fl_X10_158 (by decide) rfl k6 dX10_sell_67 ?_
    refine lv_iload_n (pc := 70) C.1 C.2.1 dX10_sell_70 rfl (lv_at hl 7 rfl) ?_
    refine lv_aload (pc := 71) C.1 C.2.1 dX10_sell_71 (lv_at hl 2 rfl) ?_
    refine x_getr (pc := 73) C hP ck_7 3 fl_X10_187 (by decide) rfl k6 dX10_sell_73 ?_
    have k15 : wk LC (rfC (rfC (rfC c0 1) (Int32.toNatClampNeg i1)) 3) 12 := wt_f wT_C k6 3 (by decide) rfl rfl
    refine lv_iload_n (pc := 76) C.1 C.2.1 dX10_sell_76 rfl (lv_at hl 6 rfl) ?_
    obtain ⟨g16, h⟩ := gd_e h
    refine x_iald (pc := 77) C hP k15 (inB_vp g16) dX10_sell_77 ?_
    refine x_min (pc := 78) C ml_X10_175 (hR.le (by decide)) (Nat.zero_le _) (Nat.zero_le _) hl.1 (Nat.le_of_ble_eq_true rfl) dX10_sell_78 ?_
    refine lv_topi (fun x17 ex17 => ?_)
    replace h := nv_e h ex17
    clear ex17
    obtain ⟨v19, hc18, h⟩ := bd_e h
    refine x_callv (pc := 81) C hP hS mi_X1_sale ck_1 k14 ml_X10_199 (hR.le (by decide)) (Nat.zero_le _) (Nat.zero_le _) [.ref (ad (rfC (rfC (rfC (rfC (rfC c0 0) 0) (Int32.toNatClampNeg (v2 (rfC (rfC c0 1) (Int32.toNatClampNeg i1)) 0))) 0) (Int32.toNatClampNeg i2))), .int (v2 (rfC (rfC (rfC (rfC (rfC c0 0) 0) (Int32.toNatClampNeg (v2 (rfC (rfC c0 1) (Int32.toNatClampNeg i1)) 0))) 0) (Int32.toNatClampNeg i2)) 1), .int (v2 (rfC (rfC (rfC c0 0) 0) (Int32.toNatClampNeg (v2 (rfC (rfC c0 1) (Int32.toNatClampNeg i1)) 0))) 1), .int (v2 (rfC (rfC c0 1) (Int32.toNatClampNeg i1)) 2), .int x17] rfl hl.1 rfl (Nat.le_of_ble_eq_true rfl) dX10_sell_81 (m_X1_sale hI k14 k13 hc18) (fun H locs hP hS => ?_)
    refine lv_aload (pc := 84) C.1 C.2.1 dX10_sell_84 (lv_at hl 0 rfl) ?_
    refine lv_aload_n (pc := 86) C.1 C.2.1 dX10_sell_86 rfl (lv_at hl 4 rfl) ?_
    refine x_getr (pc := 87) C hP ck_10 9 fl_X10_33 (by decide) rfl kc0 dX10_sell_87 ?_
    have k20 : wk LC (rfC c0 9) 1 := wt_f wT_C kc0 9 (by decide) rfl rfl
    refine x_geti (pc := 90) C hP ck_1 1 fl_X10_185 (by decide) rfl k20 dX10_sell_90 ?_
    refine x_put (pc := 93) C hI hP hS ck_6 1 fl_X10_169 (by decide) rfl rfl k13 rfl rfl dX10_sell_93 (fun H locs hP hS => ?_)
    obtain ⟨v21, h, hP⟩ := nv_p (P := fun z => va_P D vwCl (wd LC cy ad z) H) h hP
    refine lv_aload (pc := 96) C.1 C.2.1 dX10_sell_96 (lv_at hl 2 rfl) ?_
    refine lv_aload_n (pc := 98) C.1 C.2.1 dX10_sell_98 rfl (lv_at hl 4 rfl) ?_
    refine x_getr (pc := 99) C hP ck_10 9 fl_X10_33 (by decide) rfl kc0 dX10_sell_99 ?_
    have k22 : wk LC (rfC c0 9) 1 := wt_f wT_C kc0 9 (by decide) rfl rfl
    refine x_geti (pc := 102) C hP ck_1 2 fl_X10_186 (by decide) rfl k22 dX10_sell_102 ?_
    refine x_put (pc := 105) C hI hP hS ck_7 2 fl_X10_158 (by decide) rfl rfl k6 rfl rfl dX10_sell_105 (fun H locs hP hS => ?_)
    obtain ⟨v23, h, hP⟩ := nv_p (P := fun z => va_P D vwCl (wd LC cy ad z) H) h hP
    refine lv_aload (pc := 108) C.1 C.2.1 dX10_sell_108 (lv_at hl 2 rfl) ?_
    refine x_getr (pc := 110) C hP ck_7 3 fl_X10_187 (by decide) rfl k6 dX10_sell_110 ?_
    have k24 : wk LC (rfC (rfC (rfC c0 1) (Int32.toNatClampNeg i1)) 3) 12 := wt_f wT_C k6 3 (by decide) rfl rfl
    refine lv_iload_n (pc := 113) C.1 C.2.1 dX10_sell_113 rfl (lv_at hl 6 rfl) ?_
    refine lv_dup2_11 (pc := 114) C.1 C.2.1 dX10_sell_114 rfl rfl ?_
    obtain ⟨g25, h⟩ := gd_e h
    refine x_iald (pc := 115) C hP k24 (inB_vp g25) dX10_sell_115 ?_
    refine lv_aload_n (pc := 116) C.1 C.2.1 dX10_sell_116 rfl (lv_at hl 4 rfl) ?_
    refine x_getr (pc := 117) C hP ck_10 9 fl_X10_33 (by decide) rfl kc0 dX10_sell_117 ?_
    have k26 : wk LC (rfC c0 9) 1 := wt_f wT_C kc0 9 (by decide) rfl rfl
    refine x_geti (pc := 120) C hP ck_1 0 fl_X10_190 (by decide) rfl k26 dX10_sell_120 ?_
    refine lv_isub (pc := 123) C.1 C.2.1 dX10_sell_123 ?_
    obtain ⟨g27, h⟩ := gd_e h
    refine x_iast (pc := 124) C hI hP hS k24 (inB_vp g27) dX10_sell_124 (fun H locs hP hS => ?_)
    obtain ⟨v28, h, hP⟩ := nv_p (P := fun z => va_P D vwCl (wd LC cy ad z) H) h hP
    refine lv_aload (pc := 125) C.1 C.2.1 dX10_sell_125 (lv_at hl 1 rfl) ?_
    refine lv_dup (pc := 127) C.1 C.2.1 dX10_sell_127 rfl ?_
    refine x_geti (pc := 128) C hP ck_4 3 fl_X10_117 (by decide) rfl k10 dX10_sell_128 ?_
    refine lv_aload_n (pc := 131) C.1 C.2.1 dX10_sell_131 rfl (lv_at hl 4 rfl) ?_
    refine x_getr (pc := 132) C hP ck_10 9 fl_X10_33 (by decide) rfl kc0 dX10_sell_132 ?_
    have k29 : wk LC (rfC c0 9) 1 := wt_f wT_C kc0 9 (by decide) rfl rfl
    refine x_geti (pc := 135) C hP ck_1 3 fl_X10_193 (by decide) rfl k29 dX10_sell_135 ?_
    refine lv_iadd (pc := 138) C.1 C.2.1 dX10_sell_138 ?_
    refine x_put (pc := 139) C hI hP hS ck_4 3 fl_X10_117 (by decide) rfl rfl k10 rfl rfl dX10_sell_139 (fun H locs hP hS => ?_)
    obtain ⟨v30, h, hP⟩ := nv_p (P := fun z => va_P D vwCl (wd LC cy ad z) H) h hP
    refine lv_aload (pc := 142) C.1 C.2.1 dX10_sell_142 (lv_at hl 1 rfl) ?_
    refine lv_dup (pc := 144) C.1 C.2.1 dX10_sell_144 rfl ?_
    refine x_geti (pc := 145) C hP ck_4 2 fl_X10_114 (by decide) rfl k10 dX10_sell_145 ?_
    refine lv_aload_n (pc := 148) C.1 C.2.1 dX10_sell_148 rfl (lv_at hl 4 rfl) ?_
    refine x_getr (pc := 149) C hP ck_10 9 fl_X10_33 (by decide) rfl kc0 dX10_sell_149 ?_
    have k31 : wk LC (rfC c0 9) 1 := wt_f wT_C kc0 9 (by decide) rfl rfl
    refine x_geti (pc := 152) C hP ck_1 4 fl_X10_196 (by decide) rfl k31 dX10_sell_152 ?_
    refine lv_iadd (pc := 155) C.1 C.2.1 dX10_sell_155 ?_
    refine x_put (pc := 156) C hI hP hS ck_4 2 fl_X10_114 (by decide) rfl rfl k10 rfl rfl dX10_sell_156 (fun H locs hP hS => ?_)
    obtain ⟨v32, h, hP⟩ := nv_p (P := fun z => va_P D vwCl (wd LC cy ad z) H) h hP
    refine lv_aload_n (pc := 159) C.1 C.2.1 dX10_sell_159 rfl (lv_at hl 4 rfl) ?_
    refine x_getr (pc := 160) C hP ck_10 9 fl_X10_33 (by decide) rfl kc0 dX10_sell_160 ?_
    have k33 : wk LC (rfC c0 9) 1 := wt_f wT_C kc0 9 (by decide) rfl rfl
    refine x_geti (pc := 163) C hP ck_1 0 fl_X10_190 (by decide) rfl k33 dX10_sell_163 ?_
    exact x_iret (pc := 166) C hr hlk hP hS h dX10_sell_166
  · replace h := if_f h b11
    refine lv_iload (pc := 14) C.1 C.2.1 dX10_sell_14 (lv_at hl 0 rfl) ?_
    exact x_iret (pc := 16) C hr hlk hP hS h dX10_sell_16
set_option maxRecDepth 100000 in
theorem m_X10_sell (hI : wI LC ad) {c0 : Nat} {i1 : Int32} {i2 : Int32} {i3 : Int32} {v : VV} {rZ : Int32} {vZ : VV} (kc0 : wk LC c0 10) (h : F_X10_sell c0 i1 i2 i3 v = some (rZ, vZ)) : Met l yX10_sell (Cond.code yX10_sell cX10_sell 8 (some .int) :: wsG) (rmL 4) (pcG LC cy ad D [.ref (ad c0), .int i1, .int i2, .int i3] v) (qiG LC cy ad D rZ vZ) 0 0 (wA LC ad) := by
  refine Met.ofW (cc := cX10_sell) (maxL := 8) (ret := (some .int)) (by decide) rfl ?_
  intro p e s m args below meth c s₁ B hml hv
  obtain ⟨rfl, hP, hK⟩ := hv
  have hts := atoms_spec (ws := Cond.code yX10_sell cX10_sell 8 (some .int) :: wsG) B.pre
  have hown : s.vm.findClass RX10 = some m.cls := findClass_of_methodNamed B.named
  have C : Cx p s m _ c cX10_sell 8 RX10 D cy := ⟨B.exec, B.bytes, hml, hown, fun w hw => hts w (List.mem_cons_of_mem _ hw), hK⟩
  have hl := lv_entry ([.ref (ad c0), .int i1, .int i2, .int i3]) (n := 8) (Nat.le_of_ble_eq_true rfl)
  rw [lg_entry_eq]
  generalize (lg_sl ([.ref (ad c0), .int i1, .int i2, .int i3]) ++ List.replicate (8 - (lg_sl ([.ref (ad c0), .int i1, .int i2, .int i3])).length) Slot.unset).toArray = ls at hl ⊢
  have hl : lv_has ls 8 [(0, .ref (ad c0)), (1, .int i1), (2, .int i2), (3, .int i3)] := hl
  exact w_X10_sell C hI B.returns B.notSynchronized (RoL_rm _) c0 i1 i2 i3 v _ _ _ kc0 h hP va_S.rf (lv_sub hl [0, 1, 2, 3] rfl)
def f_X10_go (c0 : Nat) (i1 : Int32) (i2 : Int32) (v : VV) : Option (Int32 × VV) :=
  bi (F_X10_isShip c0 i1 v) fun x3 v2 =>
  if (x3 = 0) then
    some ((-1), v2)
  else
    bi (F_X10_isPort c0 i2 v2) fun x6 v5 =>
    if (x6 = 0) then
      some ((-1), v5)
    else
      gd (inB i1 (lnC (rfC c0 1)) = true) <|
      gd (inB (v5 (rfC (rfC c0 1) (Int32.toNatClampNeg i1)) 0) (lnC (rfC (rfC c0 0) 1)) = true) <|
      gd (inB i2 (lnC (rfC (rfC (rfC c0 0) 1) (Int32.toNatClampNeg (v5 (rfC (rfC c0 1) (Int32.toNatClampNeg i1)) 0)))) = true) <|
      nv ((v5 (rfC (rfC (rfC c0 0) 1) (Int32.toNatClampNeg (v5 (rfC (rfC c0 1) (Int32.toNatClampNeg i1)) 0))) (Int32.toNatClampNeg i2))) fun x15 =>
      if (((v5 (rfC c0 0) 4) + x15) ≤ 999) then
        nv (((v5 (rfC c0 0) 5) * x15)) fun x18 =>
        bi (F_X9_openLength (rfC c0 0) (v5 (rfC (rfC c0 1) (Int32.toNatClampNeg i1)) 0) i2 v5) fun x22 v21 =>
        if (x22 = 0) then
          some ((-5), v21)
        else
          if (x18 ≤ (v21 (rfC (rfC c0 1) (Int32.toNatClampNeg i1)) 2)) then
            nv (wu v21 (rfC (rfC c0 1) (Int32.toNatClampNeg i1)) 2 ((v21 (rfC (rfC c0 1) (Int32.toNatClampNeg i1)) 2) - x18)) fun v23 =>
            nv (wu v23 c0 7 ((v23 c0 7) + x18)) fun v24 =>
            (F_X10_passTicks c0 x15 v24).bind fun v26 =>
            nv (wu v26 (rfC (rfC c0 1) (Int32.toNatClampNeg i1)) 0 i2) fun v27 =>
            some ((v27 (rfC c0 0) 4), v27)
          else
            some ((-5), v21)
      else
        some ((-3), v5)
abbrev F_X10_go (c0 : Nat) (i1 : Int32) (i2 : Int32) (v : VV) : Option (Int32 × VV) := f_X10_go c0 i1 i2 v
set_option maxHeartbeats 4000000 in
set_option maxRecDepth 100000 in
theorem w_X10_go (C : Cx p s m args c cX10_go 6 RX10 D cy) (hI : wI LC ad) (hr : meth.sig.returnType = some .int) (hlk : meth.locks = false) (hR : RoL 5 R) {rZ : Int32} {vZ : VV} : ∀ (c0 : Nat) (i1 : Int32) (i2 : Int32) (v : VV) (H : Heap) (locs : List Loc) (ls : Array Slot), wk LC c0 10 → f_X10_go c0 i1 i2 v = some (rZ, vZ) → va_P D vwCl (wd LC cy ad v) H → va_S (wA LC ad) s.heap H locs → lv_has ls 6 [(0, .ref (ad c0)), (1, .int i1), (2, .int i2)] → W p l e R s m args below meth c H locs 0 0 (MQ below (qiG LC cy ad D rZ vZ) args s 0 0 (wA LC ad)) (F0 m 0 ls []) := by
  intro c0 i1 i2 v H locs ls kc0 h hP hS hl
  unfold f_X10_go at h
  refine lv_aload_n (pc := 0) C.1 C.2.1 dX10_go_0 rfl (lv_at hl 0 rfl) ?_
  refine lv_iload_n (pc := 1) C.1 C.2.1 dX10_go_1 rfl (lv_at hl 1 rfl) ?_
  obtain ⟨x3, v2, hc1, h⟩ := bi_e h
  refine x_calli (pc := 2) C hP hS mi_X10_isShip ck_10 kc0 ml_X10_202 (hR.le (by decide)) (Nat.zero_le _) (Nat.zero_le _) [.int i1] rfl hl.1 rfl (Nat.le_of_ble_eq_true rfl) dX10_go_2 (m_X10_isShip hI kc0 hc1) (fun H locs hP hS => ?_)
  refine lv_if_eq (pc := 5) (tgt := 16) C.1 C.2.1 dX10_go_5 (by decide) (fun b5 => ?_) (fun b5 => ?_)
  · replace h := if_t h b5
    refine lv_iconst (pc := 16) (v := (-1)) C.1 C.2.1 dX10_go_16 (by decide) ?_
    exact x_iret (pc := 17) C hr hlk hP hS h dX10_go_17
  · replace h := if_f h b5
    refine lv_aload_n (pc := 8) C.1 C.2.1 dX10_go_8 rfl (lv_at hl 0 rfl) ?_
    refine lv_iload_n (pc := 9) C.1 C.2.1 dX10_go_9 rfl (lv_at hl 2 rfl) ?_
    obtain ⟨x6, v5, hc4, h⟩ := bi_e h
    refine x_calli (pc := 10) C hP hS mi_X10_isPort ck_10 kc0 ml_X10_57 (hR.le (by decide)) (Nat.zero_le _) (Nat.zero_le _) [.int i2] rfl hl.1 rfl (Nat.le_of_ble_eq_true rfl) dX10_go_10 (m_X10_isPort hI kc0 hc4) (fun H locs hP hS => ?_)
    refine lv_if_ne (pc := 13) (tgt := 18) C.1 C.2.1 dX10_go_13 (by decide) (fun b13 => ?_) (fun b13 => ?_)
    · replace h := if_f h b13
      refine lv_aload_n (pc := 18) C.1 C.2.1 dX10_go_18 rfl (lv_at hl 0 rfl) ?_
      refine x_getr (pc := 19) C hP ck_10 1 fl_X10_18 (by decide) rfl kc0 dX10_go_19 ?_
      have k7 : wk LC (rfC c0 1) 16 := wt_f wT_C kc0 1 (by decide) rfl rfl
      refine lv_iload_n (pc := 22) C.1 C.2.1 dX10_go_22 rfl (lv_at hl 1 rfl) ?_
      obtain ⟨g8, h⟩ := gd_e h
      refine x_aald (pc := 23) C hP k7 (by decide) (by decide) (inB_vp g8) dX10_go_23 ?_
      have k9 : wk LC (rfC (rfC c0 1) (Int32.toNatClampNeg i1)) 7 := wt_a wT_C k7 (by decide) (inB_vp g8) rfl
      refine lv_astore_n (pc := 24) (lv' := [(3, .ref (ad (rfC (rfC c0 1) (Int32.toNatClampNeg i1)))), (0, .ref (ad c0)), (1, .int i1), (2, .int i2)]) C.1 C.2.1 dX10_go_24 rfl hl (by decide) rfl (fun ls hl => ?_)
      refine lv_aload_n (pc := 25) C.1 C.2.1 dX10_go_25 rfl (lv_at hl 1 rfl) ?_
      refine x_getr (pc := 26) C hP ck_10 0 fl_X10_10 (by decide) rfl kc0 dX10_go_26 ?_
      have k10 : wk LC (rfC c0 0) 9 := wt_f wT_C kc0 0 (by decide) rfl rfl
      refine x_getr (pc := 29) C hP ck_9 1 fl_X10_109 (by decide) rfl k10 dX10_go_29 ?_
      have k11 : wk LC (rfC (rfC c0 0) 1) 18 := wt_f wT_C k10 1 (by decide) rfl rfl
      refine lv_aload_n (pc := 32) C.1 C.2.1 dX10_go_32 rfl (lv_at hl 0 rfl) ?_
      refine x_geti (pc := 33) C hP ck_7 0 fl_X10_152 (by decide) rfl k9 dX10_go_33 ?_
      obtain ⟨g12, h⟩ := gd_e h
      refine x_aald (pc := 36) C hP k11 (by decide) (by decide) (inB_vp g12) dX10_go_36 ?_
      have k13 : wk LC (rfC (rfC (rfC c0 0) 1) (Int32.toNatClampNeg (v5 (rfC (rfC c0 1) (Int32.toNatClampNeg i1)) 0))) 12 := wt_a wT_C k11 (by decide) (inB_vp g12) rfl
      refine lv_iload_n (pc := 37) C.1 C.2.1 dX10_go_37 rfl (lv_at hl 3 rfl) ?_
      obtain ⟨g14, h⟩ := gd_e h
      refine x_iald (pc := 38) C hP k13 (inB_vp g14) dX10_go_38 ?_
      refine lv_topi (fun x15 ex15 => ?_)
      replace h := nv_e h ex15
      clear ex15
      refine lv_istore (pc := 39) (lv' := [(4, .int x15), (3, .ref (ad (rfC (rfC c0 1) (Int32.toNatClampNeg i1)))), (0, .ref (ad c0)), (1, .int i1), (2, .int i2)]) C.1 C.2.1 dX10_go_39 hl (by decide) rfl (fun ls hl => ?_)
      refine lv_aload_n (pc := 41) C.1 C.2.1 dX10_go_41 rfl (lv_at hl 2 rfl) ?_
      refine x_getr (pc := 42) C hP ck_10 0 fl_X10_10 (by decide) rfl kc0 dX10_go_42 ?_
      have k16 : wk LC (rfC c0 0) 9 := wt_f wT_C kc0 0 (by decide) rfl rfl
      refine x_geti (pc := 45) C hP ck_9 4 fl_X10_125 (by decide) rfl k16 dX10_go_45 ?_
      refine lv_iload (pc := 48) C.1 C.2.1 dX10_go_48 (lv_at hl 0 rfl) ?_
      refine lv_iadd (pc := 50) C.1 C.2.1 dX10_go_50 ?_
      refine lv_sipush (pc := 51) (v := 999) C.1 C.2.1 dX10_go_51 (by decide) ?_
      refine lv_icmp_le (pc := 54) (tgt := 60) C.1 C.2.1 dX10_go_54 (by decide) (fun b54 => ?_) (fun b54 => ?_)
      · replace h := if_t h b54
        refine lv_aload_n (pc := 60) C.1 C.2.1 dX10_go_60 rfl (lv_at hl 2 rfl) ?_
        refine x_getr (pc := 61) C hP ck_10 0 fl_X10_10 (by decide) rfl kc0 dX10_go_61 ?_
        have k17 : wk LC (rfC c0 0) 9 := wt_f wT_C kc0 0 (by decide) rfl rfl
        refine x_geti (pc := 64) C hP ck_9 5 fl_X10_205 (by decide) rfl k17 dX10_go_64 ?_
        refine lv_iload (pc := 67) C.1 C.2.1 dX10_go_67 (lv_at hl 0 rfl) ?_
        refine lv_imul (pc := 69) C.1 C.2.1 dX10_go_69 ?_
        refine lv_topi (fun x18 ex18 => ?_)
        replace h := nv_e h ex18
        clear ex18
        refine lv_istore (pc := 70) (lv' := [(5, .int x18), (4, .int x15), (3, .ref (ad (rfC (rfC c0 1) (Int32.toNatClampNeg i1)))), (0, .ref (ad c0)), (1, .int i1), (2, .int i2)]) C.1 C.2.1 dX10_go_70 hl (by decide) rfl (fun ls hl => ?_)
        refine lv_aload_n (pc := 72) C.1 C.2.1 dX10_go_72 rfl (lv_at hl 3 rfl) ?_
        refine x_getr (pc := 73) C hP ck_10 0 fl_X10_10 (by decide) rfl kc0 dX10_go_73 ?_
        have k19 : wk LC (rfC c0 0) 9 := wt_f wT_C kc0 0 (by decide) rfl rfl
        refine lv_aload_n (pc := 76) C.1 C.2.1 dX10_go_76 rfl (lv_at hl 2 rfl) ?_
        refine x_geti (pc := 77) C hP ck_7 0 fl_X10_152 (by decide) rfl k9 dX10_go_77 ?_
        refine lv_iload_n (pc := 80) C.1 C.2.1 dX10_go_80 rfl (lv_at hl 5 rfl) ?_
        obtain ⟨x22, v21, hc20, h⟩ := bi_e h
        refine x_calli (pc := 81) C hP hS mi_X9_openLength ck_9 k19 ml_X10_208 (hR.le (by decide)) (Nat.zero_le _) (Nat.zero_le _) [.int (v5 (rfC (rfC c0 1) (Int32.toNatClampNeg i1)) 0), .int i2] rfl hl.1 rfl (Nat.le_of_ble_eq_true rfl) dX10_go_81 (m_X9_openLength hI k19 hc20) (fun H locs hP hS => ?_)
        refine lv_if_eq (pc := 84) (tgt := 96) C.1 C.2.1 dX10_go_84 (by decide) (fun b84 => ?_) (fun b84 => ?_)
        · replace h := if_t h b84
          refine lv_bipush (pc := 96) (v := (-5)) C.1 C.2.1 dX10_go_96 (by decide) ?_
          exact x_iret (pc := 98) C hr hlk hP hS h dX10_go_98
        · replace h := if_f h b84
          refine lv_iload (pc := 87) C.1 C.2.1 dX10_go_87 (lv_at hl 0 rfl) ?_
          refine lv_aload_n (pc := 89) C.1 C.2.1 dX10_go_89 rfl (lv_at hl 2 rfl) ?_
          refine x_geti (pc := 90) C hP ck_7 2 fl_X10_158 (by decide) rfl k9 dX10_go_90 ?_
          refine lv_icmp_le (pc := 93) (tgt := 99) C.1 C.2.1 dX10_go_93 (by decide) (fun b93 => ?_) (fun b93 => ?_)
          · replace h := if_t h b93
            refine lv_aload_n (pc := 99) C.1 C.2.1 dX10_go_99 rfl (lv_at hl 2 rfl) ?_
            refine lv_dup (pc := 100) C.1 C.2.1 dX10_go_100 rfl ?_
            refine x_geti (pc := 101) C hP ck_7 2 fl_X10_158 (by decide) rfl k9 dX10_go_101 ?_
            refine lv_iload (pc := 104) C.1 C.2.1 dX10_go_104 (lv_at hl 0 rfl) ?_
            refine lv_isub (pc := 106) C.1 C.2.1 dX10_go_106 ?_
            refine x_put (pc := 107) C hI hP hS ck_7 2 fl_X10_158 (by decide) rfl rfl k9 rfl rfl dX10_go_107 (fun H locs hP hS => ?_)
            obtain ⟨v23, h, hP⟩ := nv_p (P := fun z => va_P D vwCl (wd LC cy ad z) H) h hP
            refine lv_aload_n (pc := 110) C.1 C.2.1 dX10_go_110 rfl (lv_at hl 3 rfl) ?_
            refine lv_dup (pc := 111) C.1 C.2.1 dX10_go_111 rfl ?_
            refine x_geti (pc := 112) C hP ck_10 7 fl_X10_211 (by decide) rfl kc0 dX10_go_112 ?_
            refine lv_iload (pc := 115) C.1 C.2.1 dX10_go_115 (lv_at hl 0 rfl) ?_
            refine lv_iadd (pc := 117) C.1 C.2.1 dX10_go_117 ?_
            refine x_put (pc := 118) C hI hP hS ck_10 7 fl_X10_211 (by decide) rfl rfl kc0 rfl rfl dX10_go_118 (fun H locs hP hS => ?_)
            obtain ⟨v24, h, hP⟩ := nv_p (P := fun z => va_P D vwCl (wd LC cy ad z) H) h hP
            refine lv_aload_n (pc := 121) C.1 C.2.1 dX10_go_121 rfl (lv_at hl 3 rfl) ?_
            refine lv_iload (pc := 122) C.1 C.2.1 dX10_go_122 (lv_at hl 1 rfl) ?_
            obtain ⟨v26, hc25, h⟩ := bd_e h
            refine x_callv (pc := 124) C hP hS mi_X10_passTicks ck_10 kc0 ml_X10_128 (hR.le (by decide)) (Nat.zero_le _) (Nat.zero_le _) [.int x15] rfl hl.1 rfl (Nat.le_of_ble_eq_true rfl) dX10_go_124 (m_X10_passTicks hI kc0 hc25) (fun H locs hP hS => ?_)
            refine lv_aload_n (pc := 127) C.1 C.2.1 dX10_go_127 rfl (lv_at hl 2 rfl) ?_
            refine lv_iload_n (pc := 128) C.1 C.2.1 dX10_go_128 rfl (lv_at hl 5 rfl) ?_
            refine x_put (pc := 129) C hI hP hS ck_7 0 fl_X10_152 (by decide) rfl rfl k9 rfl rfl dX10_go_129 (fun H locs hP hS => ?_)
            obtain ⟨v27, h, hP⟩ := nv_p (P := fun z => va_P D vwCl (wd LC cy ad z) H) h hP
            refine lv_aload_n (pc := 132) C.1 C.2.1 dX10_go_132 rfl (lv_at hl 3 rfl) ?_
            refine x_getr (pc := 133) C hP ck_10 0 fl_X10_10 (by decide) rfl kc0 dX10_go_133 ?_
            have k28 : wk LC (rfC c0 0) 9 := wt_f wT_C kc0 0 (by decide) rfl rfl
            refine x_geti (pc := 136) C hP ck_9 4 fl_X10_125 (by decide) rfl k28 dX10_go_136 ?_
            exact x_iret (pc := 139) C hr hlk hP hS h dX10_go_139
          · replace h := if_f h b93
            refine lv_bipush (pc := 96) (v := (-5)) C.1 C.2.1 dX10_go_96 (by decide) ?_
            exact x_iret (pc := 98) C hr hlk hP hS h dX10_go_98
      · replace h := if_f h b54
        refine lv_bipush (pc := 57) (v := (-3)) C.1 C.2.1 dX10_go_57 (by decide) ?_
        exact x_iret (pc := 59) C hr hlk hP hS h dX10_go_59
    · replace h := if_t h b13
      refine lv_iconst (pc := 16) (v := (-1)) C.1 C.2.1 dX10_go_16 (by decide) ?_
      exact x_iret (pc := 17) C hr hlk hP hS h dX10_go_17
set_option maxRecDepth 100000 in
theorem m_X10_go (hI : wI LC ad) {c0 : Nat} {i1 : Int32} {i2 : Int32} {v : VV} {rZ : Int32} {vZ : VV} (kc0 : wk LC c0 10) (h : F_X10_go c0 i1 i2 v = some (rZ, vZ)) : Met l yX10_go (Cond.code yX10_go cX10_go 6 (some .int) :: wsG) (rmL 5) (pcG LC cy ad D [.ref (ad c0), .int i1, .int i2] v) (qiG LC cy ad D rZ vZ) 0 0 (wA LC ad) := by
  refine Met.ofW (cc := cX10_go) (maxL := 6) (ret := (some .int)) (by decide) rfl ?_
  intro p e s m args below meth c s₁ B hml hv
  obtain ⟨rfl, hP, hK⟩ := hv
  have hts := atoms_spec (ws := Cond.code yX10_go cX10_go 6 (some .int) :: wsG) B.pre
  have hown : s.vm.findClass RX10 = some m.cls := findClass_of_methodNamed B.named
  have C : Cx p s m _ c cX10_go 6 RX10 D cy := ⟨B.exec, B.bytes, hml, hown, fun w hw => hts w (List.mem_cons_of_mem _ hw), hK⟩
  have hl := lv_entry ([.ref (ad c0), .int i1, .int i2]) (n := 6) (Nat.le_of_ble_eq_true rfl)
  rw [lg_entry_eq]
  generalize (lg_sl ([.ref (ad c0), .int i1, .int i2]) ++ List.replicate (6 - (lg_sl ([.ref (ad c0), .int i1, .int i2])).length) Slot.unset).toArray = ls at hl ⊢
  have hl : lv_has ls 6 [(0, .ref (ad c0)), (1, .int i1), (2, .int i2)] := hl
  exact w_X10_go C hI B.returns B.notSynchronized (RoL_rm _) c0 i1 i2 v _ _ _ kc0 h hP va_S.rf (lv_sub hl [0, 1, 2] rfl)
def f_X10_ofShip (c0 : Nat) (i1 : Int32) (i2 : Int32) (v : VV) : Option (Int32 × VV) :=
  bi (F_X10_isShip c0 i1 v) fun x3 v2 =>
  if (x3 = 0) then
    some ((-1), v2)
  else
    gd (inB i1 (lnC (rfC c0 1)) = true) <|
    bi (F_X10_within i2 10 12 v2) fun x9 v8 =>
    if (x9 = 0) then
      if i2 = 0 then
        some ((v8 (rfC (rfC c0 1) (Int32.toNatClampNeg i1)) 0), v8)
      else
      if i2 = 1 then
        some ((v8 (rfC (rfC c0 1) (Int32.toNatClampNeg i1)) 1), v8)
      else
      if i2 = 2 then
        some ((v8 (rfC (rfC c0 1) (Int32.toNatClampNeg i1)) 2), v8)
      else
      if i2 = 3 then
        bi (F_X7_load (rfC (rfC c0 1) (Int32.toNatClampNeg i1)) v8) fun x12 v11 =>
        some (x12, v11)
      else
      some ((-2), v8)
    else
      gd (inB (i2 - 10) (lnC (rfC (rfC (rfC c0 1) (Int32.toNatClampNeg i1)) 3)) = true) <|
      some ((v8 (rfC (rfC (rfC c0 1) (Int32.toNatClampNeg i1)) 3) (Int32.toNatClampNeg (i2 - 10))), v8)
abbrev F_X10_ofShip (c0 : Nat) (i1 : Int32) (i2 : Int32) (v : VV) : Option (Int32 × VV) := f_X10_ofShip c0 i1 i2 v
set_option maxHeartbeats 4000000 in
set_option maxRecDepth 100000 in
theorem w_X10_ofShip (C : Cx p s m args c cX10_ofShip 4 RX10 D cy) (hI : wI LC ad) (hr : meth.sig.returnType = some .int) (hlk : meth.locks = false) (hR : RoL 3 R) {rZ : Int32} {vZ : VV} : ∀ (c0 : Nat) (i1 : Int32) (i2 : Int32) (v : VV) (H : Heap) (locs : List Loc) (ls : Array Slot), wk LC c0 10 → f_X10_ofShip c0 i1 i2 v = some (rZ, vZ) → va_P D vwCl (wd LC cy ad v) H → va_S (wA LC ad) s.heap H locs → lv_has ls 4 [(0, .ref (ad c0)), (1, .int i1), (2, .int i2)] → W p l e R s m args below meth c H locs 0 0 (MQ below (qiG LC cy ad D rZ vZ) args s 0 0 (wA LC ad)) (F0 m 0 ls []) := by
  intro c0 i1 i2 v H locs ls kc0 h hP hS hl
  unfold f_X10_ofShip at h
  refine lv_aload_n (pc := 0) C.1 C.2.1 dX10_ofShip_0 rfl (lv_at hl 0 rfl) ?_
  refine lv_iload_n (pc := 1) C.1 C.2.1 dX10_ofShip_1 rfl (lv_at hl 1 rfl) ?_
  obtain ⟨x3, v2, hc1, h⟩ := bi_e h
  refine x_calli (pc := 2) C hP hS mi_X10_isShip ck_10 kc0 ml_X10_202 (hR.le (by decide)) (Nat.zero_le _) (Nat.zero_le _) [.int i1] rfl hl.1 rfl (Nat.le_of_ble_eq_true rfl) dX10_ofShip_2 (m_X10_isShip hI kc0 hc1) (fun H locs hP hS => ?_)
  refine lv_if_ne (pc := 5) (tgt := 10) C.1 C.2.1 dX10_ofShip_5 (by decide) (fun b5 => ?_) (fun b5 => ?_)
  · replace h := if_f h b5
    refine lv_aload_n (pc := 10) C.1 C.2.1 dX10_ofShip_10 rfl (lv_at hl 0 rfl) ?_
    refine x_getr (pc := 11) C hP ck_10 1 fl_X10_18 (by decide) rfl kc0 dX10_ofShip_11 ?_
    have k4 : wk LC (rfC c0 1) 16 := wt_f wT_C kc0 1 (by decide) rfl rfl
    refine lv_iload_n (pc := 14) C.1 C.2.1 dX10_ofShip_14 rfl (lv_at hl 1 rfl) ?_
    obtain ⟨g5, h⟩ := gd_e h
    refine x_aald (pc := 15) C hP k4 (by decide) (by decide) (inB_vp g5) dX10_ofShip_15 ?_
    have k6 : wk LC (rfC (rfC c0 1) (Int32.toNatClampNeg i1)) 7 := wt_a wT_C k4 (by decide) (inB_vp g5) rfl
    refine lv_astore_n (pc := 16) (lv' := [(3, .ref (ad (rfC (rfC c0 1) (Int32.toNatClampNeg i1)))), (0, .ref (ad c0)), (1, .int i1), (2, .int i2)]) C.1 C.2.1 dX10_ofShip_16 rfl hl (by decide) rfl (fun ls hl => ?_)
    refine lv_iload_n (pc := 17) C.1 C.2.1 dX10_ofShip_17 rfl (lv_at hl 3 rfl) ?_
    refine lv_bipush (pc := 18) (v := 10) C.1 C.2.1 dX10_ofShip_18 (by decide) ?_
    refine lv_bipush (pc := 20) (v := 12) C.1 C.2.1 dX10_ofShip_20 (by decide) ?_
    obtain ⟨x9, v8, hc7, h⟩ := bi_e h
    refine x_callsi (pc := 22) C hP hS ms_X10_within ml_X10_64 (hR.le (by decide)) (Nat.zero_le _) (Nat.zero_le _) [.int i2, .int 10, .int 12] rfl hl.1 rfl (Nat.le_of_ble_eq_true rfl) dX10_ofShip_22 (m_X10_within hI hc7) (fun H locs hP hS => ?_)
    refine lv_if_eq (pc := 25) (tgt := 38) C.1 C.2.1 dX10_ofShip_25 (by decide) (fun b25 => ?_) (fun b25 => ?_)
    · replace h := if_t h b25
      refine lv_iload_n (pc := 38) C.1 C.2.1 dX10_ofShip_38 rfl (lv_at hl 3 rfl) ?_
      by_cases b39_0 : i2 = 0
      · replace h := if_t h b39_0
        refine x_swIn (pc := 39) C (tgt := 68) 0 0 (by decide) b39_0 dX10_ofShip_39 (by decide) rfl (by decide) ?_
        refine lv_aload_n (pc := 68) C.1 C.2.1 dX10_ofShip_68 rfl (lv_at hl 0 rfl) ?_
        refine x_geti (pc := 69) C hP ck_7 0 fl_X10_152 (by decide) rfl k6 dX10_ofShip_69 ?_
        exact x_iret (pc := 72) C hr hlk hP hS h dX10_ofShip_72
      replace h := if_f h b39_0
      by_cases b39_1 : i2 = 1
      · replace h := if_t h b39_1
        refine x_swIn (pc := 39) C (tgt := 73) 1 1 (by decide) b39_1 dX10_ofShip_39 (by decide) rfl (by decide) ?_
        refine lv_aload_n (pc := 73) C.1 C.2.1 dX10_ofShip_73 rfl (lv_at hl 0 rfl) ?_
        refine x_geti (pc := 74) C hP ck_7 1 fl_X10_155 (by decide) rfl k6 dX10_ofShip_74 ?_
        exact x_iret (pc := 77) C hr hlk hP hS h dX10_ofShip_77
      replace h := if_f h b39_1
      by_cases b39_2 : i2 = 2
      · replace h := if_t h b39_2
        refine x_swIn (pc := 39) C (tgt := 78) 2 2 (by decide) b39_2 dX10_ofShip_39 (by decide) rfl (by decide) ?_
        refine lv_aload_n (pc := 78) C.1 C.2.1 dX10_ofShip_78 rfl (lv_at hl 0 rfl) ?_
        refine x_geti (pc := 79) C hP ck_7 2 fl_X10_158 (by decide) rfl k6 dX10_ofShip_79 ?_
        exact x_iret (pc := 82) C hr hlk hP hS h dX10_ofShip_82
      replace h := if_f h b39_2
      by_cases b39_3 : i2 = 3
      · replace h := if_t h b39_3
        refine x_swIn (pc := 39) C (tgt := 83) 3 3 (by decide) b39_3 dX10_ofShip_39 (by decide) rfl (by decide) ?_
        refine lv_aload_n (pc := 83) C.1 C.2.1 dX10_ofShip_83 rfl (lv_at hl 0 rfl) ?_
        obtain ⟨x12, v11, hc10, h⟩ := bi_e h
        refine x_calli (pc := 84) C hP hS mi_X7_load ck_7 k6 ml_X10_172 (hR.le (by decide)) (Nat.zero_le _) (Nat.zero_le _) [] rfl hl.1 rfl (Nat.le_of_ble_eq_true rfl) dX10_ofShip_84 (m_X7_load hI k6 hc10) (fun H locs hP hS => ?_)
        exact x_iret (pc := 87) C hr hlk hP hS h dX10_ofShip_87
      replace h := if_f h b39_3
      refine x_swOut (pc := 39) C (tgt := 88) dX10_ofShip_39 (by have := lv_neT b39_0 (a := 0) (by decide); have := lv_neT b39_1 (a := 1) (by decide); have := lv_neT b39_2 (a := 2) (by decide); have := lv_neT b39_3 (a := 3) (by decide); omega) (by decide) ?_
      refine lv_bipush (pc := 88) (v := (-2)) C.1 C.2.1 dX10_ofShip_88 (by decide) ?_
      exact x_iret (pc := 90) C hr hlk hP hS h dX10_ofShip_90
    · replace h := if_f h b25
      refine lv_aload_n (pc := 28) C.1 C.2.1 dX10_ofShip_28 rfl (lv_at hl 0 rfl) ?_
      refine x_getr (pc := 29) C hP ck_7 3 fl_X10_187 (by decide) rfl k6 dX10_ofShip_29 ?_
      have k13 : wk LC (rfC (rfC (rfC c0 1) (Int32.toNatClampNeg i1)) 3) 12 := wt_f wT_C k6 3 (by decide) rfl rfl
      refine lv_iload_n (pc := 32) C.1 C.2.1 dX10_ofShip_32 rfl (lv_at hl 3 rfl) ?_
      refine lv_bipush (pc := 33) (v := 10) C.1 C.2.1 dX10_ofShip_33 (by decide) ?_
      refine lv_isub (pc := 35) C.1 C.2.1 dX10_ofShip_35 ?_
      obtain ⟨g14, h⟩ := gd_e h
      refine x_iald (pc := 36) C hP k13 (inB_vp g14) dX10_ofShip_36 ?_
      exact x_iret (pc := 37) C hr hlk hP hS h dX10_ofShip_37
  · replace h := if_t h b5
    refine lv_iconst (pc := 8) (v := (-1)) C.1 C.2.1 dX10_ofShip_8 (by decide) ?_
    exact x_iret (pc := 9) C hr hlk hP hS h dX10_ofShip_9
set_option maxRecDepth 100000 in
theorem m_X10_ofShip (hI : wI LC ad) {c0 : Nat} {i1 : Int32} {i2 : Int32} {v : VV} {rZ : Int32} {vZ : VV} (kc0 : wk LC c0 10) (h : F_X10_ofShip c0 i1 i2 v = some (rZ, vZ)) : Met l yX10_ofShip (Cond.code yX10_ofShip cX10_ofShip 4 (some .int) :: wsG) (rmL 3) (pcG LC cy ad D [.ref (ad c0), .int i1, .int i2] v) (qiG LC cy ad D rZ vZ) 0 0 (wA LC ad) := by
  refine Met.ofW (cc := cX10_ofShip) (maxL := 4) (ret := (some .int)) (by decide) rfl ?_
  intro p e s m args below meth c s₁ B hml hv
  obtain ⟨rfl, hP, hK⟩ := hv
  have hts := atoms_spec (ws := Cond.code yX10_ofShip cX10_ofShip 4 (some .int) :: wsG) B.pre
  have hown : s.vm.findClass RX10 = some m.cls := findClass_of_methodNamed B.named
  have C : Cx p s m _ c cX10_ofShip 4 RX10 D cy := ⟨B.exec, B.bytes, hml, hown, fun w hw => hts w (List.mem_cons_of_mem _ hw), hK⟩
  have hl := lv_entry ([.ref (ad c0), .int i1, .int i2]) (n := 4) (Nat.le_of_ble_eq_true rfl)
  rw [lg_entry_eq]
  generalize (lg_sl ([.ref (ad c0), .int i1, .int i2]) ++ List.replicate (4 - (lg_sl ([.ref (ad c0), .int i1, .int i2])).length) Slot.unset).toArray = ls at hl ⊢
  have hl : lv_has ls 4 [(0, .ref (ad c0)), (1, .int i1), (2, .int i2)] := hl
  exact w_X10_ofShip C hI B.returns B.notSynchronized (RoL_rm _) c0 i1 i2 v _ _ _ kc0 h hP va_S.rf (lv_sub hl [0, 1, 2] rfl)
def f_X10_fuel (c0 : Nat) (i1 : Int32) (v : VV) : Option (Int32 × VV) :=
  bi (F_X10_within i1 0 20 v) fun x3 v2 =>
  if (x3 = 0) then
    some ((-2), v2)
  else
    nv ((v2 (rfC c0 0) 5)) fun x5 =>
    nv (wu v2 (rfC c0 0) 5 i1) fun v7 =>
    some (x5, v7)
abbrev F_X10_fuel (c0 : Nat) (i1 : Int32) (v : VV) : Option (Int32 × VV) := f_X10_fuel c0 i1 v
set_option maxHeartbeats 4000000 in
set_option maxRecDepth 100000 in
theorem w_X10_fuel (C : Cx p s m args c cX10_fuel 3 RX10 D cy) (hI : wI LC ad) (hr : meth.sig.returnType = some .int) (hlk : meth.locks = false) (hR : RoL 2 R) {rZ : Int32} {vZ : VV} : ∀ (c0 : Nat) (i1 : Int32) (v : VV) (H : Heap) (locs : List Loc) (ls : Array Slot), wk LC c0 10 → f_X10_fuel c0 i1 v = some (rZ, vZ) → va_P D vwCl (wd LC cy ad v) H → va_S (wA LC ad) s.heap H locs → lv_has ls 3 [(0, .ref (ad c0)), (1, .int i1)] → W p l e R s m args below meth c H locs 0 0 (MQ below (qiG LC cy ad D rZ vZ) args s 0 0 (wA LC ad)) (F0 m 0 ls []) := by
  intro c0 i1 v H locs ls kc0 h hP hS hl
  unfold f_X10_fuel at h
  refine lv_iload_n (pc := 0) C.1 C.2.1 dX10_fuel_0 rfl (lv_at hl 1 rfl) ?_
  refine lv_iconst (pc := 1) (v := 0) C.1 C.2.1 dX10_fuel_1 (by decide) ?_
  refine lv_bipush (pc := 2) (v := 20) C.1 C.2.1 dX10_fuel_2 (by decide) ?_
  obtain ⟨x3, v2, hc1, h⟩ := bi_e h
  refine x_callsi (pc := 4) C hP hS ms_X10_within ml_X10_64 (hR.le (by decide)) (Nat.zero_le _) (Nat.zero_le _) [.int i1, .int 0, .int 20] rfl hl.1 rfl (Nat.le_of_ble_eq_true rfl) dX10_fuel_4 (m_X10_within hI hc1) (fun H locs hP hS => ?_)
  refine lv_if_ne (pc := 7) (tgt := 13) C.1 C.2.1 dX10_fuel_7 (by decide) (fun b7 => ?_) (fun b7 => ?_)
  · replace h := if_f h b7
    refine lv_aload_n (pc := 13) C.1 C.2.1 dX10_fuel_13 rfl (lv_at hl 0 rfl) ?_
    refine x_getr (pc := 14) C hP ck_10 0 fl_X10_10 (by decide) rfl kc0 dX10_fuel_14 ?_
    have k4 : wk LC (rfC c0 0) 9 := wt_f wT_C kc0 0 (by decide) rfl rfl
    refine x_geti (pc := 17) C hP ck_9 5 fl_X10_205 (by decide) rfl k4 dX10_fuel_17 ?_
    refine lv_topi (fun x5 ex5 => ?_)
    replace h := nv_e h ex5
    clear ex5
    refine lv_istore_n (pc := 20) (lv' := [(2, .int x5), (0, .ref (ad c0)), (1, .int i1)]) C.1 C.2.1 dX10_fuel_20 rfl hl (by decide) rfl (fun ls hl => ?_)
    refine lv_aload_n (pc := 21) C.1 C.2.1 dX10_fuel_21 rfl (lv_at hl 1 rfl) ?_
    refine x_getr (pc := 22) C hP ck_10 0 fl_X10_10 (by decide) rfl kc0 dX10_fuel_22 ?_
    have k6 : wk LC (rfC c0 0) 9 := wt_f wT_C kc0 0 (by decide) rfl rfl
    refine lv_iload_n (pc := 25) C.1 C.2.1 dX10_fuel_25 rfl (lv_at hl 2 rfl) ?_
    refine x_put (pc := 26) C hI hP hS ck_9 5 fl_X10_205 (by decide) rfl rfl k6 rfl rfl dX10_fuel_26 (fun H locs hP hS => ?_)
    obtain ⟨v7, h, hP⟩ := nv_p (P := fun z => va_P D vwCl (wd LC cy ad z) H) h hP
    refine lv_iload_n (pc := 29) C.1 C.2.1 dX10_fuel_29 rfl (lv_at hl 0 rfl) ?_
    exact x_iret (pc := 30) C hr hlk hP hS h dX10_fuel_30
  · replace h := if_t h b7
    refine lv_bipush (pc := 10) (v := (-2)) C.1 C.2.1 dX10_fuel_10 (by decide) ?_
    exact x_iret (pc := 12) C hr hlk hP hS h dX10_fuel_12
set_option maxRecDepth 100000 in
theorem m_X10_fuel (hI : wI LC ad) {c0 : Nat} {i1 : Int32} {v : VV} {rZ : Int32} {vZ : VV} (kc0 : wk LC c0 10) (h : F_X10_fuel c0 i1 v = some (rZ, vZ)) : Met l yX10_fuel (Cond.code yX10_fuel cX10_fuel 3 (some .int) :: wsG) (rmL 2) (pcG LC cy ad D [.ref (ad c0), .int i1] v) (qiG LC cy ad D rZ vZ) 0 0 (wA LC ad) := by
  refine Met.ofW (cc := cX10_fuel) (maxL := 3) (ret := (some .int)) (by decide) rfl ?_
  intro p e s m args below meth c s₁ B hml hv
  obtain ⟨rfl, hP, hK⟩ := hv
  have hts := atoms_spec (ws := Cond.code yX10_fuel cX10_fuel 3 (some .int) :: wsG) B.pre
  have hown : s.vm.findClass RX10 = some m.cls := findClass_of_methodNamed B.named
  have C : Cx p s m _ c cX10_fuel 3 RX10 D cy := ⟨B.exec, B.bytes, hml, hown, fun w hw => hts w (List.mem_cons_of_mem _ hw), hK⟩
  have hl := lv_entry ([.ref (ad c0), .int i1]) (n := 3) (Nat.le_of_ble_eq_true rfl)
  rw [lg_entry_eq]
  generalize (lg_sl ([.ref (ad c0), .int i1]) ++ List.replicate (3 - (lg_sl ([.ref (ad c0), .int i1])).length) Slot.unset).toArray = ls at hl ⊢
  have hl : lv_has ls 3 [(0, .ref (ad c0)), (1, .int i1)] := hl
  exact w_X10_fuel C hI B.returns B.notSynchronized (RoL_rm _) c0 i1 v _ _ _ kc0 h hP va_S.rf (lv_sub hl [0, 1] rfl)
def f_X10_unitsInAll_l17 (k43 : Nat → Int32 → Int32 → VV → Option (Int32 × VV)) : Nat → Nat → Int32 → Int32 → Int32 → VV → Option (Int32 × VV)
  | 0, _, _, _, _, _ => none
  | n + 1, c0, i1, i2, i3, v =>
    if (3 ≤ i3) then
      k43 c0 i1 i2 v
    else
      bi (F_X9_shelf (rfC c0 0) i2 i3 v) fun q5 v4 =>
      nv ((i1 + (v4 q5 1))) fun x7 =>
      nv (i3 + 1) fun x8 =>
      f_X10_unitsInAll_l17 k43 n c0 x7 i2 x8 v4
def f_X10_unitsInAll_l4 (k49 : Nat → Int32 → VV → Option (Int32 × VV)) : Nat → Nat → Int32 → Int32 → VV → Option (Int32 × VV)
  | 0, _, _, _, _ => none
  | n + 1, c0, i1, i2, v =>
    if ((v (rfC c0 0) 3) ≤ i2) then
      k49 c0 i1 v
    else
      f_X10_unitsInAll_l17 (fun c0_9 i1_9 i2_9 v_9 =>
      nv (i2_9 + 1) fun x10 =>
      f_X10_unitsInAll_l4 k49 n c0_9 i1_9 x10 v_9) FU c0 i1 i2 0 v
def f_X10_unitsInAll_l51 : Nat → Nat → Int32 → Int32 → VV → Option (Int32 × VV)
  | 0, _, _, _, _ => none
  | n + 1, c0, i1, i2, v =>
    if ((v c0 2) ≤ i2) then
      some (i1, v)
    else
      gd (inB i2 (lnC (rfC c0 1)) = true) <|
      bi (F_X7_load (rfC (rfC c0 1) (Int32.toNatClampNeg i2)) v) fun x17 v16 =>
      nv ((i1 + x17)) fun x18 =>
      nv (i2 + 1) fun x19 =>
      f_X10_unitsInAll_l51 n c0 x18 x19 v16
def f_X10_unitsInAll (c0 : Nat) (v : VV) : Option (Int32 × VV) :=
  f_X10_unitsInAll_l4 (fun c0_11 i1_11 v_11 =>
  f_X10_unitsInAll_l51 FU c0_11 i1_11 0 v_11) FU c0 0 0 v
abbrev F_X10_unitsInAll (c0 : Nat) (v : VV) : Option (Int32 × VV) := f_X10_unitsInAll c0 v
set_option maxHeartbeats 4000000 in
set_option maxRecDepth 100000 in
theorem w_X10_unitsInAll_l17 (C : Cx p s m args c cX10_unitsInAll 4 RX10 D cy) (hI : wI LC ad) (hr : meth.sig.returnType = some .int) (hlk : meth.locks = false) (hR : RoL 2 R) (k43 : Nat → Int32 → Int32 → VV → Option (Int32 × VV)) {rZ : Int32} {vZ : VV} (h43 : ∀ (c0 : Nat) (i1 : Int32) (i2 : Int32) (v : VV) (H : Heap) (locs : List Loc) (ls : Array Slot), wk LC c0 10 → k43 c0 i1 i2 v = some (rZ, vZ) → va_P D vwCl (wd LC cy ad v) H → va_S (wA LC ad) s.heap H locs → lv_has ls 4 [(0, .ref (ad c0)), (1, .int i1), (2, .int i2)] → W p l e R s m args below meth c H locs 0 0 (MQ below (qiG LC cy ad D rZ vZ) args s 0 0 (wA LC ad)) (F0 m 43 ls [])) : ∀ (n : Nat) (c0 : Nat) (i1 : Int32) (i2 : Int32) (i3 : Int32) (v : VV) (H : Heap) (locs : List Loc) (ls : Array Slot), wk LC c0 10 → f_X10_unitsInAll_l17 k43 n c0 i1 i2 i3 v = some (rZ, vZ) → va_P D vwCl (wd LC cy ad v) H → va_S (wA LC ad) s.heap H locs → lv_has ls 4 [(0, .ref (ad c0)), (1, .int i1), (2, .int i2), (3, .int i3)] → W p l e R s m args below meth c H locs 0 0 (MQ below (qiG LC cy ad D rZ vZ) args s 0 0 (wA LC ad)) (F0 m 17 ls []) := by
  intro n
  induction n with
  | zero => intro c0 i1 i2 i3 v H locs ls kc0 h hP hS hl; exact absurd h (by simp [f_X10_unitsInAll_l17])
  | succ n ih =>
    intro c0 i1 i2 i3 v H locs ls kc0 h hP hS hl
    rw [f_X10_unitsInAll_l17] at h
    refine lv_iload_n (pc := 17) C.1 C.2.1 dX10_unitsInAll_17 rfl (lv_at hl 3 rfl) ?_
    refine lv_iconst (pc := 18) (v := 3) C.1 C.2.1 dX10_unitsInAll_18 (by decide) ?_
    refine lv_icmp_ge (pc := 19) (tgt := 43) C.1 C.2.1 dX10_unitsInAll_19 (by decide) (fun b19 => ?_) (fun b19 => ?_)
    · replace h := if_t h b19
      exact h43 c0 i1 i2 v _ _ _ kc0 h hP hS (lv_sub hl [0, 1, 2] rfl)
    · replace h := if_f h b19
      refine lv_iload_n (pc := 22) C.1 C.2.1 dX10_unitsInAll_22 rfl (lv_at hl 1 rfl) ?_
      refine lv_aload_n (pc := 23) C.1 C.2.1 dX10_unitsInAll_23 rfl (lv_at hl 0 rfl) ?_
      refine x_getr (pc := 24) C hP ck_10 0 fl_X10_10 (by decide) rfl kc0 dX10_unitsInAll_24 ?_
      have k2 : wk LC (rfC c0 0) 9 := wt_f wT_C kc0 0 (by decide) rfl rfl
      refine lv_iload_n (pc := 27) C.1 C.2.1 dX10_unitsInAll_27 rfl (lv_at hl 2 rfl) ?_
      refine lv_iload_n (pc := 28) C.1 C.2.1 dX10_unitsInAll_28 rfl (lv_at hl 3 rfl) ?_
      obtain ⟨q5, v4, hc3, h⟩ := bi_e h
      refine x_callr (pc := 29) C hP hS mi_X9_shelf ck_9 k2 ml_X10_75 (hR.le (by decide)) (Nat.zero_le _) (Nat.zero_le _) [.int i2, .int i3] rfl hl.1 rfl (Nat.le_of_ble_eq_true rfl) dX10_unitsInAll_29 (m_X9_shelf hI k2 hc3) (fun H locs hP hS => ?_)
      have k6 : wk LC q5 6 := wr_X9_shelf hc3 k2
      refine x_geti (pc := 32) C hP ck_6 1 fl_X10_169 (by decide) rfl k6 dX10_unitsInAll_32 ?_
      refine lv_iadd (pc := 35) C.1 C.2.1 dX10_unitsInAll_35 ?_
      refine lv_topi (fun x7 ex7 => ?_)
      replace h := nv_e h ex7
      clear ex7
      refine lv_istore_n (pc := 36) (lv' := [(1, .int x7), (0, .ref (ad c0)), (2, .int i2), (3, .int i3)]) C.1 C.2.1 dX10_unitsInAll_36 rfl hl (by decide) rfl (fun ls hl => ?_)
      obtain ⟨x8, ex8⟩ : ∃ y : Int32, y = i3 + 1 := ⟨_, rfl⟩
      replace h := nv_e h ex8
      refine lv_iinc (pc := 37) (v := x8) (lv' := [(3, .int x8), (1, .int x7), (0, .ref (ad c0)), (2, .int i2)]) C.1 C.2.1 dX10_unitsInAll_37 hl (k := 3) rfl (by rw [ex8]; rfl) (by decide) rfl (fun ls hl => ?_)
      clear ex8
      refine lv_goto (pc := 40) (tgt := 17) C.1 C.2.1 dX10_unitsInAll_40 (by decide) ?_
      exact ih c0 x7 i2 x8 v4 _ _ _ kc0 h hP hS (lv_sub hl [2, 1, 3, 0] rfl)
set_option maxHeartbeats 4000000 in
set_option maxRecDepth 100000 in
theorem w_X10_unitsInAll_l4 (C : Cx p s m args c cX10_unitsInAll 4 RX10 D cy) (hI : wI LC ad) (hr : meth.sig.returnType = some .int) (hlk : meth.locks = false) (hR : RoL 2 R) (k49 : Nat → Int32 → VV → Option (Int32 × VV)) {rZ : Int32} {vZ : VV} (h49 : ∀ (c0 : Nat) (i1 : Int32) (v : VV) (H : Heap) (locs : List Loc) (ls : Array Slot), wk LC c0 10 → k49 c0 i1 v = some (rZ, vZ) → va_P D vwCl (wd LC cy ad v) H → va_S (wA LC ad) s.heap H locs → lv_has ls 4 [(0, .ref (ad c0)), (1, .int i1)] → W p l e R s m args below meth c H locs 0 0 (MQ below (qiG LC cy ad D rZ vZ) args s 0 0 (wA LC ad)) (F0 m 49 ls [])) : ∀ (n : Nat) (c0 : Nat) (i1 : Int32) (i2 : Int32) (v : VV) (H : Heap) (locs : List Loc) (ls : Array Slot), wk LC c0 10 → f_X10_unitsInAll_l4 k49 n c0 i1 i2 v = some (rZ, vZ) → va_P D vwCl (wd LC cy ad v) H → va_S (wA LC ad) s.heap H locs → lv_has ls 4 [(0, .ref (ad c0)), (1, .int i1), (2, .int i2)] → W p l e R s m args below meth c H locs 0 0 (MQ below (qiG LC cy ad D rZ vZ) args s 0 0 (wA LC ad)) (F0 m 4 ls []) := by
  intro n
  induction n with
  | zero => intro c0 i1 i2 v H locs ls kc0 h hP hS hl; exact absurd h (by simp [f_X10_unitsInAll_l4])
  | succ n ih =>
    intro c0 i1 i2 v H locs ls kc0 h hP hS hl
    rw [f_X10_unitsInAll_l4] at h
    refine lv_iload_n (pc := 4) C.1 C.2.1 dX10_unitsInAll_4 rfl (lv_at hl 2 rfl) ?_
    refine lv_aload_n (pc := 5) C.1 C.2.1 dX10_unitsInAll_5 rfl (lv_at hl 0 rfl) ?_
    refine x_getr (pc := 6) C hP ck_10 0 fl_X10_10 (by decide) rfl kc0 dX10_unitsInAll_6 ?_
    have k1 : wk LC (rfC c0 0) 9 := wt_f wT_C kc0 0 (by decide) rfl rfl
    refine x_geti (pc := 9) C hP ck_9 3 fl_X10_53 (by decide) rfl k1 dX10_unitsInAll_9 ?_
    refine lv_icmp_ge (pc := 12) (tgt := 49) C.1 C.2.1 dX10_unitsInAll_12 (by decide) (fun b12 => ?_) (fun b12 => ?_)
    · replace h := if_t h b12
      exact h49 c0 i1 v _ _ _ kc0 h hP hS (lv_sub hl [0, 1] rfl)
    · replace h := if_f h b12
      refine lv_iconst (pc := 15) (v := 0) C.1 C.2.1 dX10_unitsInAll_15 (by decide) ?_
      refine lv_istore_n (pc := 16) (lv' := [(3, .int 0), (0, .ref (ad c0)), (1, .int i1), (2, .int i2)]) C.1 C.2.1 dX10_unitsInAll_16 rfl hl (by decide) rfl (fun ls hl => ?_)
      refine w_X10_unitsInAll_l17 C hI hr hlk hR _ ?_ FU c0 i1 i2 0 v _ _ _ kc0 h hP hS (lv_sub hl [1, 2, 3, 0] rfl)
      intro c0_9 i1_9 i2_9 v_9 H locs ls kc0_9 h hP hS hl
      obtain ⟨x10, ex10⟩ : ∃ y : Int32, y = i2_9 + 1 := ⟨_, rfl⟩
      replace h := nv_e h ex10
      refine lv_iinc (pc := 43) (v := x10) (lv' := [(2, .int x10), (0, .ref (ad c0_9)), (1, .int i1_9)]) C.1 C.2.1 dX10_unitsInAll_43 hl (k := 2) rfl (by rw [ex10]; rfl) (by decide) rfl (fun ls hl => ?_)
      clear ex10
      refine lv_goto (pc := 46) (tgt := 4) C.1 C.2.1 dX10_unitsInAll_46 (by decide) ?_
      exact ih c0_9 i1_9 x10 v_9 _ _ _ kc0_9 h hP hS (lv_sub hl [1, 2, 0] rfl)
set_option maxHeartbeats 4000000 in
set_option maxRecDepth 100000 in
theorem w_X10_unitsInAll_l51 (C : Cx p s m args c cX10_unitsInAll 4 RX10 D cy) (hI : wI LC ad) (hr : meth.sig.returnType = some .int) (hlk : meth.locks = false) (hR : RoL 2 R) {rZ : Int32} {vZ : VV} : ∀ (n : Nat) (c0 : Nat) (i1 : Int32) (i2 : Int32) (v : VV) (H : Heap) (locs : List Loc) (ls : Array Slot), wk LC c0 10 → f_X10_unitsInAll_l51 n c0 i1 i2 v = some (rZ, vZ) → va_P D vwCl (wd LC cy ad v) H → va_S (wA LC ad) s.heap H locs → lv_has ls 4 [(0, .ref (ad c0)), (1, .int i1), (2, .int i2)] → W p l e R s m args below meth c H locs 0 0 (MQ below (qiG LC cy ad D rZ vZ) args s 0 0 (wA LC ad)) (F0 m 51 ls []) := by
  intro n
  induction n with
  | zero => intro c0 i1 i2 v H locs ls kc0 h hP hS hl; exact absurd h (by simp [f_X10_unitsInAll_l51])
  | succ n ih =>
    intro c0 i1 i2 v H locs ls kc0 h hP hS hl
    rw [f_X10_unitsInAll_l51] at h
    refine lv_iload_n (pc := 51) C.1 C.2.1 dX10_unitsInAll_51 rfl (lv_at hl 2 rfl) ?_
    refine lv_aload_n (pc := 52) C.1 C.2.1 dX10_unitsInAll_52 rfl (lv_at hl 0 rfl) ?_
    refine x_geti (pc := 53) C hP ck_10 2 fl_X10_149 (by decide) rfl kc0 dX10_unitsInAll_53 ?_
    refine lv_icmp_ge (pc := 56) (tgt := 77) C.1 C.2.1 dX10_unitsInAll_56 (by decide) (fun b56 => ?_) (fun b56 => ?_)
    · replace h := if_t h b56
      refine lv_iload_n (pc := 77) C.1 C.2.1 dX10_unitsInAll_77 rfl (lv_at hl 1 rfl) ?_
      exact x_iret (pc := 78) C hr hlk hP hS h dX10_unitsInAll_78
    · replace h := if_f h b56
      refine lv_iload_n (pc := 59) C.1 C.2.1 dX10_unitsInAll_59 rfl (lv_at hl 1 rfl) ?_
      refine lv_aload_n (pc := 60) C.1 C.2.1 dX10_unitsInAll_60 rfl (lv_at hl 0 rfl) ?_
      refine x_getr (pc := 61) C hP ck_10 1 fl_X10_18 (by decide) rfl kc0 dX10_unitsInAll_61 ?_
      have k12 : wk LC (rfC c0 1) 16 := wt_f wT_C kc0 1 (by decide) rfl rfl
      refine lv_iload_n (pc := 64) C.1 C.2.1 dX10_unitsInAll_64 rfl (lv_at hl 2 rfl) ?_
      obtain ⟨g13, h⟩ := gd_e h
      refine x_aald (pc := 65) C hP k12 (by decide) (by decide) (inB_vp g13) dX10_unitsInAll_65 ?_
      have k14 : wk LC (rfC (rfC c0 1) (Int32.toNatClampNeg i2)) 7 := wt_a wT_C k12 (by decide) (inB_vp g13) rfl
      obtain ⟨x17, v16, hc15, h⟩ := bi_e h
      refine x_calli (pc := 66) C hP hS mi_X7_load ck_7 k14 ml_X10_172 (hR.le (by decide)) (Nat.zero_le _) (Nat.zero_le _) [] rfl hl.1 rfl (Nat.le_of_ble_eq_true rfl) dX10_unitsInAll_66 (m_X7_load hI k14 hc15) (fun H locs hP hS => ?_)
      refine lv_iadd (pc := 69) C.1 C.2.1 dX10_unitsInAll_69 ?_
      refine lv_topi (fun x18 ex18 => ?_)
      replace h := nv_e h ex18
      clear ex18
      refine lv_istore_n (pc := 70) (lv' := [(1, .int x18), (0, .ref (ad c0)), (2, .int i2)]) C.1 C.2.1 dX10_unitsInAll_70 rfl hl (by decide) rfl (fun ls hl => ?_)
      obtain ⟨x19, ex19⟩ : ∃ y : Int32, y = i2 + 1 := ⟨_, rfl⟩
      replace h := nv_e h ex19
      refine lv_iinc (pc := 71) (v := x19) (lv' := [(2, .int x19), (1, .int x18), (0, .ref (ad c0))]) C.1 C.2.1 dX10_unitsInAll_71 hl (k := 2) rfl (by rw [ex19]; rfl) (by decide) rfl (fun ls hl => ?_)
      clear ex19
      refine lv_goto (pc := 74) (tgt := 51) C.1 C.2.1 dX10_unitsInAll_74 (by decide) ?_
      exact ih c0 x18 x19 v16 _ _ _ kc0 h hP hS (lv_sub hl [2, 1, 0] rfl)
set_option maxHeartbeats 4000000 in
set_option maxRecDepth 100000 in
theorem w_X10_unitsInAll (C : Cx p s m args c cX10_unitsInAll 4 RX10 D cy) (hI : wI LC ad) (hr : meth.sig.returnType = some .int) (hlk : meth.locks = false) (hR : RoL 2 R) {rZ : Int32} {vZ : VV} : ∀ (c0 : Nat) (v : VV) (H : Heap) (locs : List Loc) (ls : Array Slot), wk LC c0 10 → f_X10_unitsInAll c0 v = some (rZ, vZ) → va_P D vwCl (wd LC cy ad v) H → va_S (wA LC ad) s.heap H locs → lv_has ls 4 [(0, .ref (ad c0))] → W p l e R s m args below meth c H locs 0 0 (MQ below (qiG LC cy ad D rZ vZ) args s 0 0 (wA LC ad)) (F0 m 0 ls []) := by
  intro c0 v H locs ls kc0 h hP hS hl
  unfold f_X10_unitsInAll at h
  refine lv_iconst (pc := 0) (v := 0) C.1 C.2.1 dX10_unitsInAll_0 (by decide) ?_
  refine lv_istore_n (pc := 1) (lv' := [(1, .int 0), (0, .ref (ad c0))]) C.1 C.2.1 dX10_unitsInAll_1 rfl hl (by decide) rfl (fun ls hl => ?_)
  refine lv_iconst (pc := 2) (v := 0) C.1 C.2.1 dX10_unitsInAll_2 (by decide) ?_
  refine lv_istore_n (pc := 3) (lv' := [(2, .int 0), (1, .int 0), (0, .ref (ad c0))]) C.1 C.2.1 dX10_unitsInAll_3 rfl hl (by decide) rfl (fun ls hl => ?_)
  refine w_X10_unitsInAll_l4 C hI hr hlk hR _ ?_ FU c0 0 0 v _ _ _ kc0 h hP hS (lv_sub hl [2, 1, 0] rfl)
  intro c0_11 i1_11 v_11 H locs ls kc0_11 h hP hS hl
  refine lv_iconst (pc := 49) (v := 0) C.1 C.2.1 dX10_unitsInAll_49 (by decide) ?_
  refine lv_istore_n (pc := 50) (lv' := [(2, .int 0), (0, .ref (ad c0_11)), (1, .int i1_11)]) C.1 C.2.1 dX10_unitsInAll_50 rfl hl (by decide) rfl (fun ls hl => ?_)
  refine w_X10_unitsInAll_l51 C hI hr hlk hR FU c0_11 i1_11 0 v_11 _ _ _ kc0_11 h hP hS (lv_sub hl [1, 2, 0] rfl)
set_option maxRecDepth 100000 in
theorem m_X10_unitsInAll (hI : wI LC ad) {c0 : Nat} {v : VV} {rZ : Int32} {vZ : VV} (kc0 : wk LC c0 10) (h : F_X10_unitsInAll c0 v = some (rZ, vZ)) : Met l yX10_unitsInAll (Cond.code yX10_unitsInAll cX10_unitsInAll 4 (some .int) :: wsG) (rmL 2) (pcG LC cy ad D [.ref (ad c0)] v) (qiG LC cy ad D rZ vZ) 0 0 (wA LC ad) := by
  refine Met.ofW (cc := cX10_unitsInAll) (maxL := 4) (ret := (some .int)) (by decide) rfl ?_
  intro p e s m args below meth c s₁ B hml hv
  obtain ⟨rfl, hP, hK⟩ := hv
  have hts := atoms_spec (ws := Cond.code yX10_unitsInAll cX10_unitsInAll 4 (some .int) :: wsG) B.pre
  have hown : s.vm.findClass RX10 = some m.cls := findClass_of_methodNamed B.named
  have C : Cx p s m _ c cX10_unitsInAll 4 RX10 D cy := ⟨B.exec, B.bytes, hml, hown, fun w hw => hts w (List.mem_cons_of_mem _ hw), hK⟩
  have hl := lv_entry ([.ref (ad c0)]) (n := 4) (Nat.le_of_ble_eq_true rfl)
  rw [lg_entry_eq]
  generalize (lg_sl ([.ref (ad c0)]) ++ List.replicate (4 - (lg_sl ([.ref (ad c0)])).length) Slot.unset).toArray = ls at hl ⊢
  have hl : lv_has ls 4 [(0, .ref (ad c0))] := hl
  exact w_X10_unitsInAll C hI B.returns B.notSynchronized (RoL_rm _) c0 v _ _ _ kc0 h hP va_S.rf (lv_sub hl [0] rfl)
def f_X10_coinsOfShips_l4 : Nat → Nat → Int32 → Int32 → VV → Option (Int32 × VV)
  | 0, _, _, _, _ => none
  | n + 1, c0, i1, i2, v =>
    if ((v c0 2) ≤ i2) then
      some (i1, v)
    else
      gd (inB i2 (lnC (rfC c0 1)) = true) <|
      nv ((i1 + (v (rfC (rfC c0 1) (Int32.toNatClampNeg i2)) 2))) fun x4 =>
      nv (i2 + 1) fun x5 =>
      f_X10_coinsOfShips_l4 n c0 x4 x5 v
def f_X10_coinsOfShips (c0 : Nat) (v : VV) : Option (Int32 × VV) :=
  f_X10_coinsOfShips_l4 FU c0 0 0 v
abbrev F_X10_coinsOfShips (c0 : Nat) (v : VV) : Option (Int32 × VV) := f_X10_coinsOfShips c0 v
set_option maxHeartbeats 4000000 in
set_option maxRecDepth 100000 in
theorem w_X10_coinsOfShips_l4 (C : Cx p s m args c cX10_coinsOfShips 3 RX10 D cy) (hI : wI LC ad) (hr : meth.sig.returnType = some .int) (hlk : meth.locks = false) (hR : RoL 1 R) {rZ : Int32} {vZ : VV} : ∀ (n : Nat) (c0 : Nat) (i1 : Int32) (i2 : Int32) (v : VV) (H : Heap) (locs : List Loc) (ls : Array Slot), wk LC c0 10 → f_X10_coinsOfShips_l4 n c0 i1 i2 v = some (rZ, vZ) → va_P D vwCl (wd LC cy ad v) H → va_S (wA LC ad) s.heap H locs → lv_has ls 3 [(0, .ref (ad c0)), (1, .int i1), (2, .int i2)] → W p l e R s m args below meth c H locs 0 0 (MQ below (qiG LC cy ad D rZ vZ) args s 0 0 (wA LC ad)) (F0 m 4 ls []) := by
  intro n
  induction n with
  | zero => intro c0 i1 i2 v H locs ls kc0 h hP hS hl; exact absurd h (by simp [f_X10_coinsOfShips_l4])
  | succ n ih =>
    intro c0 i1 i2 v H locs ls kc0 h hP hS hl
    rw [f_X10_coinsOfShips_l4] at h
    refine lv_iload_n (pc := 4) C.1 C.2.1 dX10_coinsOfShips_4 rfl (lv_at hl 2 rfl) ?_
    refine lv_aload_n (pc := 5) C.1 C.2.1 dX10_coinsOfShips_5 rfl (lv_at hl 0 rfl) ?_
    refine x_geti (pc := 6) C hP ck_10 2 fl_X10_149 (by decide) rfl kc0 dX10_coinsOfShips_6 ?_
    refine lv_icmp_ge (pc := 9) (tgt := 30) C.1 C.2.1 dX10_coinsOfShips_9 (by decide) (fun b9 => ?_) (fun b9 => ?_)
    · replace h := if_t h b9
      refine lv_iload_n (pc := 30) C.1 C.2.1 dX10_coinsOfShips_30 rfl (lv_at hl 1 rfl) ?_
      exact x_iret (pc := 31) C hr hlk hP hS h dX10_coinsOfShips_31
    · replace h := if_f h b9
      refine lv_iload_n (pc := 12) C.1 C.2.1 dX10_coinsOfShips_12 rfl (lv_at hl 1 rfl) ?_
      refine lv_aload_n (pc := 13) C.1 C.2.1 dX10_coinsOfShips_13 rfl (lv_at hl 0 rfl) ?_
      refine x_getr (pc := 14) C hP ck_10 1 fl_X10_18 (by decide) rfl kc0 dX10_coinsOfShips_14 ?_
      have k1 : wk LC (rfC c0 1) 16 := wt_f wT_C kc0 1 (by decide) rfl rfl
      refine lv_iload_n (pc := 17) C.1 C.2.1 dX10_coinsOfShips_17 rfl (lv_at hl 2 rfl) ?_
      obtain ⟨g2, h⟩ := gd_e h
      refine x_aald (pc := 18) C hP k1 (by decide) (by decide) (inB_vp g2) dX10_coinsOfShips_18 ?_
      have k3 : wk LC (rfC (rfC c0 1) (Int32.toNatClampNeg i2)) 7 := wt_a wT_C k1 (by decide) (inB_vp g2) rfl
      refine x_geti (pc := 19) C hP ck_7 2 fl_X10_158 (by decide) rfl k3 dX10_coinsOfShips_19 ?_
      refine lv_iadd (pc := 22) C.1 C.2.1 dX10_coinsOfShips_22 ?_
      refine lv_topi (fun x4 ex4 => ?_)
      replace h := nv_e h ex4
      clear ex4
      refine lv_istore_n (pc := 23) (lv' := [(1, .int x4), (0, .ref (ad c0)), (2, .int i2)]) C.1 C.2.1 dX10_coinsOfShips_23 rfl hl (by decide) rfl (fun ls hl => ?_)
      obtain ⟨x5, ex5⟩ : ∃ y : Int32, y = i2 + 1 := ⟨_, rfl⟩
      replace h := nv_e h ex5
      refine lv_iinc (pc := 24) (v := x5) (lv' := [(2, .int x5), (1, .int x4), (0, .ref (ad c0))]) C.1 C.2.1 dX10_coinsOfShips_24 hl (k := 2) rfl (by rw [ex5]; rfl) (by decide) rfl (fun ls hl => ?_)
      clear ex5
      refine lv_goto (pc := 27) (tgt := 4) C.1 C.2.1 dX10_coinsOfShips_27 (by decide) ?_
      exact ih c0 x4 x5 v _ _ _ kc0 h hP hS (lv_sub hl [2, 1, 0] rfl)
set_option maxHeartbeats 4000000 in
set_option maxRecDepth 100000 in
theorem w_X10_coinsOfShips (C : Cx p s m args c cX10_coinsOfShips 3 RX10 D cy) (hI : wI LC ad) (hr : meth.sig.returnType = some .int) (hlk : meth.locks = false) (hR : RoL 1 R) {rZ : Int32} {vZ : VV} : ∀ (c0 : Nat) (v : VV) (H : Heap) (locs : List Loc) (ls : Array Slot), wk LC c0 10 → f_X10_coinsOfShips c0 v = some (rZ, vZ) → va_P D vwCl (wd LC cy ad v) H → va_S (wA LC ad) s.heap H locs → lv_has ls 3 [(0, .ref (ad c0))] → W p l e R s m args below meth c H locs 0 0 (MQ below (qiG LC cy ad D rZ vZ) args s 0 0 (wA LC ad)) (F0 m 0 ls []) := by
  intro c0 v H locs ls kc0 h hP hS hl
  unfold f_X10_coinsOfShips at h
  refine lv_iconst (pc := 0) (v := 0) C.1 C.2.1 dX10_coinsOfShips_0 (by decide) ?_
  refine lv_istore_n (pc := 1) (lv' := [(1, .int 0), (0, .ref (ad c0))]) C.1 C.2.1 dX10_coinsOfShips_1 rfl hl (by decide) rfl (fun ls hl => ?_)
  refine lv_iconst (pc := 2) (v := 0) C.1 C.2.1 dX10_coinsOfShips_2 (by decide) ?_
  refine lv_istore_n (pc := 3) (lv' := [(2, .int 0), (1, .int 0), (0, .ref (ad c0))]) C.1 C.2.1 dX10_coinsOfShips_3 rfl hl (by decide) rfl (fun ls hl => ?_)
  refine w_X10_coinsOfShips_l4 C hI hr hlk hR FU c0 0 0 v _ _ _ kc0 h hP hS (lv_sub hl [2, 1, 0] rfl)
set_option maxRecDepth 100000 in
theorem m_X10_coinsOfShips (hI : wI LC ad) {c0 : Nat} {v : VV} {rZ : Int32} {vZ : VV} (kc0 : wk LC c0 10) (h : F_X10_coinsOfShips c0 v = some (rZ, vZ)) : Met l yX10_coinsOfShips (Cond.code yX10_coinsOfShips cX10_coinsOfShips 3 (some .int) :: wsG) (rmL 1) (pcG LC cy ad D [.ref (ad c0)] v) (qiG LC cy ad D rZ vZ) 0 0 (wA LC ad) := by
  refine Met.ofW (cc := cX10_coinsOfShips) (maxL := 3) (ret := (some .int)) (by decide) rfl ?_
  intro p e s m args below meth c s₁ B hml hv
  obtain ⟨rfl, hP, hK⟩ := hv
  have hts := atoms_spec (ws := Cond.code yX10_coinsOfShips cX10_coinsOfShips 3 (some .int) :: wsG) B.pre
  have hown : s.vm.findClass RX10 = some m.cls := findClass_of_methodNamed B.named
  have C : Cx p s m _ c cX10_coinsOfShips 3 RX10 D cy := ⟨B.exec, B.bytes, hml, hown, fun w hw => hts w (List.mem_cons_of_mem _ hw), hK⟩
  have hl := lv_entry ([.ref (ad c0)]) (n := 3) (Nat.le_of_ble_eq_true rfl)
  rw [lg_entry_eq]
  generalize (lg_sl ([.ref (ad c0)]) ++ List.replicate (3 - (lg_sl ([.ref (ad c0)])).length) Slot.unset).toArray = ls at hl ⊢
  have hl : lv_has ls 3 [(0, .ref (ad c0))] := hl
  exact w_X10_coinsOfShips C hI B.returns B.notSynchronized (RoL_rm _) c0 v _ _ _ kc0 h hP va_S.rf (lv_sub hl [0] rfl)
def f_X10_told (c0 : Nat) (i1 : Int32) (v : VV) : Option (Int32 × VV) :=
  if i1 = 0 then
    some ((v (rfC c0 0) 3), v)
  else
  if i1 = 1 then
    some ((v c0 2), v)
  else
  if i1 = 2 then
    some ((v (rfC c0 0) 4), v)
  else
  if i1 = 3 then
    some ((v (rfC (rfC c0 0) 2) 3), v)
  else
  if i1 = 4 then
    bi (F_X10_unitsInAll c0 v) fun x7 v6 =>
    some (x7, v6)
  else
  if i1 = 5 then
    some ((v c0 3), v)
  else
  if i1 = 6 then
    some ((v c0 4), v)
  else
  if i1 = 7 then
    some ((v c0 5), v)
  else
  if i1 = 8 then
    some ((v c0 6), v)
  else
  if i1 = 9 then
    bi (F_X10_coinsOfShips c0 v) fun x10 v9 =>
    some (x10, v9)
  else
  if i1 = 10 then
    some ((v c0 7), v)
  else
  if i1 = 11 then
    some ((v (rfC c0 0) 5), v)
  else
  some ((-10000002), v)
abbrev F_X10_told (c0 : Nat) (i1 : Int32) (v : VV) : Option (Int32 × VV) := f_X10_told c0 i1 v
set_option maxHeartbeats 4000000 in
set_option maxRecDepth 100000 in
theorem w_X10_told (C : Cx p s m args c cX10_told 2 RX10 D cy) (hI : wI LC ad) (hr : meth.sig.returnType = some .int) (hlk : meth.locks = false) (hR : RoL 3 R) {rZ : Int32} {vZ : VV} : ∀ (c0 : Nat) (i1 : Int32) (v : VV) (H : Heap) (locs : List Loc) (ls : Array Slot), wk LC c0 10 → f_X10_told c0 i1 v = some (rZ, vZ) → va_P D vwCl (wd LC cy ad v) H → va_S (wA LC ad) s.heap H locs → lv_has ls 2 [(0, .ref (ad c0)), (1, .int i1)] → W p l e R s m args below meth c H locs 0 0 (MQ below (qiG LC cy ad D rZ vZ) args s 0 0 (wA LC ad)) (F0 m 0 ls []) := by
  intro c0 i1 v H locs ls kc0 h hP hS hl
  unfold f_X10_told at h
  refine lv_iload_n (pc := 0) C.1 C.2.1 dX10_told_0 rfl (lv_at hl 1 rfl) ?_
  by_cases b1_0 : i1 = 0
  · replace h := if_t h b1_0
    refine x_swIn (pc := 1) C (tgt := 64) 0 0 (by decide) b1_0 dX10_told_1 (by decide) rfl (by decide) ?_
    refine lv_aload_n (pc := 64) C.1 C.2.1 dX10_told_64 rfl (lv_at hl 0 rfl) ?_
    refine x_getr (pc := 65) C hP ck_10 0 fl_X10_10 (by decide) rfl kc0 dX10_told_65 ?_
    have k1 : wk LC (rfC c0 0) 9 := wt_f wT_C kc0 0 (by decide) rfl rfl
    refine x_geti (pc := 68) C hP ck_9 3 fl_X10_53 (by decide) rfl k1 dX10_told_68 ?_
    exact x_iret (pc := 71) C hr hlk hP hS h dX10_told_71
  replace h := if_f h b1_0
  by_cases b1_1 : i1 = 1
  · replace h := if_t h b1_1
    refine x_swIn (pc := 1) C (tgt := 72) 1 1 (by decide) b1_1 dX10_told_1 (by decide) rfl (by decide) ?_
    refine lv_aload_n (pc := 72) C.1 C.2.1 dX10_told_72 rfl (lv_at hl 0 rfl) ?_
    refine x_geti (pc := 73) C hP ck_10 2 fl_X10_149 (by decide) rfl kc0 dX10_told_73 ?_
    exact x_iret (pc := 76) C hr hlk hP hS h dX10_told_76
  replace h := if_f h b1_1
  by_cases b1_2 : i1 = 2
  · replace h := if_t h b1_2
    refine x_swIn (pc := 1) C (tgt := 77) 2 2 (by decide) b1_2 dX10_told_1 (by decide) rfl (by decide) ?_
    refine lv_aload_n (pc := 77) C.1 C.2.1 dX10_told_77 rfl (lv_at hl 0 rfl) ?_
    refine x_getr (pc := 78) C hP ck_10 0 fl_X10_10 (by decide) rfl kc0 dX10_told_78 ?_
    have k2 : wk LC (rfC c0 0) 9 := wt_f wT_C kc0 0 (by decide) rfl rfl
    refine x_geti (pc := 81) C hP ck_9 4 fl_X10_125 (by decide) rfl k2 dX10_told_81 ?_
    exact x_iret (pc := 84) C hr hlk hP hS h dX10_told_84
  replace h := if_f h b1_2
  by_cases b1_3 : i1 = 3
  · replace h := if_t h b1_3
    refine x_swIn (pc := 1) C (tgt := 85) 3 3 (by decide) b1_3 dX10_told_1 (by decide) rfl (by decide) ?_
    refine lv_aload_n (pc := 85) C.1 C.2.1 dX10_told_85 rfl (lv_at hl 0 rfl) ?_
    refine x_getr (pc := 86) C hP ck_10 0 fl_X10_10 (by decide) rfl kc0 dX10_told_86 ?_
    have k3 : wk LC (rfC c0 0) 9 := wt_f wT_C kc0 0 (by decide) rfl rfl
    refine x_getr (pc := 89) C hP ck_9 2 fl_X10_132 (by decide) rfl k3 dX10_told_89 ?_
    have k4 : wk LC (rfC (rfC c0 0) 2) 0 := wt_f wT_C k3 2 (by decide) rfl rfl
    refine x_geti (pc := 92) C hP ck_0 3 fl_X10_136 (by decide) rfl k4 dX10_told_92 ?_
    exact x_iret (pc := 95) C hr hlk hP hS h dX10_told_95
  replace h := if_f h b1_3
  by_cases b1_4 : i1 = 4
  · replace h := if_t h b1_4
    refine x_swIn (pc := 1) C (tgt := 96) 4 4 (by decide) b1_4 dX10_told_1 (by decide) rfl (by decide) ?_
    refine lv_aload_n (pc := 96) C.1 C.2.1 dX10_told_96 rfl (lv_at hl 0 rfl) ?_
    obtain ⟨x7, v6, hc5, h⟩ := bi_e h
    refine x_calli (pc := 97) C hP hS mi_X10_unitsInAll ck_10 kc0 ml_X10_214 (hR.le (by decide)) (Nat.zero_le _) (Nat.zero_le _) [] rfl hl.1 rfl (Nat.le_of_ble_eq_true rfl) dX10_told_97 (m_X10_unitsInAll hI kc0 hc5) (fun H locs hP hS => ?_)
    exact x_iret (pc := 100) C hr hlk hP hS h dX10_told_100
  replace h := if_f h b1_4
  by_cases b1_5 : i1 = 5
  · replace h := if_t h b1_5
    refine x_swIn (pc := 1) C (tgt := 101) 5 5 (by decide) b1_5 dX10_told_1 (by decide) rfl (by decide) ?_
    refine lv_aload_n (pc := 101) C.1 C.2.1 dX10_told_101 rfl (lv_at hl 0 rfl) ?_
    refine x_geti (pc := 102) C hP ck_10 3 fl_X10_217 (by decide) rfl kc0 dX10_told_102 ?_
    exact x_iret (pc := 105) C hr hlk hP hS h dX10_told_105
  replace h := if_f h b1_5
  by_cases b1_6 : i1 = 6
  · replace h := if_t h b1_6
    refine x_swIn (pc := 1) C (tgt := 106) 6 6 (by decide) b1_6 dX10_told_1 (by decide) rfl (by decide) ?_
    refine lv_aload_n (pc := 106) C.1 C.2.1 dX10_told_106 rfl (lv_at hl 0 rfl) ?_
    refine x_geti (pc := 107) C hP ck_10 4 fl_X10_220 (by decide) rfl kc0 dX10_told_107 ?_
    exact x_iret (pc := 110) C hr hlk hP hS h dX10_told_110
  replace h := if_f h b1_6
  by_cases b1_7 : i1 = 7
  · replace h := if_t h b1_7
    refine x_swIn (pc := 1) C (tgt := 111) 7 7 (by decide) b1_7 dX10_told_1 (by decide) rfl (by decide) ?_
    refine lv_aload_n (pc := 111) C.1 C.2.1 dX10_told_111 rfl (lv_at hl 0 rfl) ?_
    refine x_geti (pc := 112) C hP ck_10 5 fl_X10_223 (by decide) rfl kc0 dX10_told_112 ?_
    exact x_iret (pc := 115) C hr hlk hP hS h dX10_told_115
  replace h := if_f h b1_7
  by_cases b1_8 : i1 = 8
  · replace h := if_t h b1_8
    refine x_swIn (pc := 1) C (tgt := 116) 8 8 (by decide) b1_8 dX10_told_1 (by decide) rfl (by decide) ?_
    refine lv_aload_n (pc := 116) C.1 C.2.1 dX10_told_116 rfl (lv_at hl 0 rfl) ?_
    refine x_geti (pc := 117) C hP ck_10 6 fl_X10_89 (by decide) rfl kc0 dX10_told_117 ?_
    exact x_iret (pc := 120) C hr hlk hP hS h dX10_told_120
  replace h := if_f h b1_8
  by_cases b1_9 : i1 = 9
  · replace h := if_t h b1_9
    refine x_swIn (pc := 1) C (tgt := 121) 9 9 (by decide) b1_9 dX10_told_1 (by decide) rfl (by decide) ?_
    refine lv_aload_n (pc := 121) C.1 C.2.1 dX10_told_121 rfl (lv_at hl 0 rfl) ?_
    obtain ⟨x10, v9, hc8, h⟩ := bi_e h
    refine x_calli (pc := 122) C hP hS mi_X10_coinsOfShips ck_10 kc0 ml_X10_226 (hR.le (by decide)) (Nat.zero_le _) (Nat.zero_le _) [] rfl hl.1 rfl (Nat.le_of_ble_eq_true rfl) dX10_told_122 (m_X10_coinsOfShips hI kc0 hc8) (fun H locs hP hS => ?_)
    exact x_iret (pc := 125) C hr hlk hP hS h dX10_told_125
  replace h := if_f h b1_9
  by_cases b1_10 : i1 = 10
  · replace h := if_t h b1_10
    refine x_swIn (pc := 1) C (tgt := 126) 10 10 (by decide) b1_10 dX10_told_1 (by decide) rfl (by decide) ?_
    refine lv_aload_n (pc := 126) C.1 C.2.1 dX10_told_126 rfl (lv_at hl 0 rfl) ?_
    refine x_geti (pc := 127) C hP ck_10 7 fl_X10_211 (by decide) rfl kc0 dX10_told_127 ?_
    exact x_iret (pc := 130) C hr hlk hP hS h dX10_told_130
  replace h := if_f h b1_10
  by_cases b1_11 : i1 = 11
  · replace h := if_t h b1_11
    refine x_swIn (pc := 1) C (tgt := 131) 11 11 (by decide) b1_11 dX10_told_1 (by decide) rfl (by decide) ?_
    refine lv_aload_n (pc := 131) C.1 C.2.1 dX10_told_131 rfl (lv_at hl 0 rfl) ?_
    refine x_getr (pc := 132) C hP ck_10 0 fl_X10_10 (by decide) rfl kc0 dX10_told_132 ?_
    have k11 : wk LC (rfC c0 0) 9 := wt_f wT_C kc0 0 (by decide) rfl rfl
    refine x_geti (pc := 135) C hP ck_9 5 fl_X10_205 (by decide) rfl k11 dX10_told_135 ?_
    exact x_iret (pc := 138) C hr hlk hP hS h dX10_told_138
  replace h := if_f h b1_11
  refine x_swOut (pc := 1) C (tgt := 139) dX10_told_1 (by have := lv_neT b1_0 (a := 0) (by decide); have := lv_neT b1_1 (a := 1) (by decide); have := lv_neT b1_2 (a := 2) (by decide); have := lv_neT b1_3 (a := 3) (by decide); have := lv_neT b1_4 (a := 4) (by decide); have := lv_neT b1_5 (a := 5) (by decide); have := lv_neT b1_6 (a := 6) (by decide); have := lv_neT b1_7 (a := 7) (by decide); have := lv_neT b1_8 (a := 8) (by decide); have := lv_neT b1_9 (a := 9) (by decide); have := lv_neT b1_10 (a := 10) (by decide); have := lv_neT b1_11 (a := 11) (by decide); omega) (by decide) ?_
  refine lv_ldc (pc := 139) (v := (-10000002)) C.1 C.2.1 C.2.2.2.1 (C.2.2.2.2.1 _ ct_X10_124) dX10_told_139 ?_
  exact x_iret (pc := 141) C hr hlk hP hS h dX10_told_141
set_option maxRecDepth 100000 in
theorem m_X10_told (hI : wI LC ad) {c0 : Nat} {i1 : Int32} {v : VV} {rZ : Int32} {vZ : VV} (kc0 : wk LC c0 10) (h : F_X10_told c0 i1 v = some (rZ, vZ)) : Met l yX10_told (Cond.code yX10_told cX10_told 2 (some .int) :: wsG) (rmL 3) (pcG LC cy ad D [.ref (ad c0), .int i1] v) (qiG LC cy ad D rZ vZ) 0 0 (wA LC ad) := by
  refine Met.ofW (cc := cX10_told) (maxL := 2) (ret := (some .int)) (by decide) rfl ?_
  intro p e s m args below meth c s₁ B hml hv
  obtain ⟨rfl, hP, hK⟩ := hv
  have hts := atoms_spec (ws := Cond.code yX10_told cX10_told 2 (some .int) :: wsG) B.pre
  have hown : s.vm.findClass RX10 = some m.cls := findClass_of_methodNamed B.named
  have C : Cx p s m _ c cX10_told 2 RX10 D cy := ⟨B.exec, B.bytes, hml, hown, fun w hw => hts w (List.mem_cons_of_mem _ hw), hK⟩
  have hl := lv_entry ([.ref (ad c0), .int i1]) (n := 2) (Nat.le_of_ble_eq_true rfl)
  rw [lg_entry_eq]
  generalize (lg_sl ([.ref (ad c0), .int i1]) ++ List.replicate (2 - (lg_sl ([.ref (ad c0), .int i1])).length) Slot.unset).toArray = ls at hl ⊢
  have hl : lv_has ls 2 [(0, .ref (ad c0)), (1, .int i1)] := hl
  exact w_X10_told C hI B.returns B.notSynchronized (RoL_rm _) c0 i1 v _ _ _ kc0 h hP va_S.rf (lv_sub hl [0, 1] rfl)
def f_X10_planned (c0 : Nat) (i1 : Int32) (i2 : Int32) (v : VV) : Option (Int32 × VV) :=
  bi (F_X10_within i1 0 ((v (rfC c0 11) 14) - 1) v) fun x4 v3 =>
  if (x4 = 0) then
    some ((-6), v3)
  else
    if (i2 = 0) then
      gd (inB i1 (lnC (rfC (rfC c0 11) 11)) = true) <|
      some ((v3 (rfC (rfC c0 11) 11) (Int32.toNatClampNeg i1)), v3)
    else
      if (i2 = 1) then
        gd (inB i1 (lnC (rfC (rfC c0 11) 12)) = true) <|
        some ((v3 (rfC (rfC c0 11) 12) (Int32.toNatClampNeg i1)), v3)
      else
        some ((-6), v3)
abbrev F_X10_planned (c0 : Nat) (i1 : Int32) (i2 : Int32) (v : VV) : Option (Int32 × VV) := f_X10_planned c0 i1 i2 v
set_option maxHeartbeats 4000000 in
set_option maxRecDepth 100000 in
theorem w_X10_planned (C : Cx p s m args c cX10_planned 3 RX10 D cy) (hI : wI LC ad) (hr : meth.sig.returnType = some .int) (hlk : meth.locks = false) (hR : RoL 2 R) {rZ : Int32} {vZ : VV} : ∀ (c0 : Nat) (i1 : Int32) (i2 : Int32) (v : VV) (H : Heap) (locs : List Loc) (ls : Array Slot), wk LC c0 10 → f_X10_planned c0 i1 i2 v = some (rZ, vZ) → va_P D vwCl (wd LC cy ad v) H → va_S (wA LC ad) s.heap H locs → lv_has ls 3 [(0, .ref (ad c0)), (1, .int i1), (2, .int i2)] → W p l e R s m args below meth c H locs 0 0 (MQ below (qiG LC cy ad D rZ vZ) args s 0 0 (wA LC ad)) (F0 m 0 ls []) := by
  intro c0 i1 i2 v H locs ls kc0 h hP hS hl
  unfold f_X10_planned at h
  refine lv_iload_n (pc := 0) C.1 C.2.1 dX10_planned_0 rfl (lv_at hl 1 rfl) ?_
  refine lv_iconst (pc := 1) (v := 0) C.1 C.2.1 dX10_planned_1 (by decide) ?_
  refine lv_aload_n (pc := 2) C.1 C.2.1 dX10_planned_2 rfl (lv_at hl 0 rfl) ?_
  refine x_getr (pc := 3) C hP ck_10 11 fl_X10_49 (by decide) rfl kc0 dX10_planned_3 ?_
  have k1 : wk LC (rfC c0 11) 3 := wt_f wT_C kc0 11 (by decide) rfl rfl
  refine x_geti (pc := 6) C hP ck_3 14 fl_X10_251 (by decide) rfl k1 dX10_planned_6 ?_
  refine lv_iconst (pc := 9) (v := 1) C.1 C.2.1 dX10_planned_9 (by decide) ?_
  refine lv_isub (pc := 10) C.1 C.2.1 dX10_planned_10 ?_
  obtain ⟨x4, v3, hc2, h⟩ := bi_e h
  refine x_callsi (pc := 11) C hP hS ms_X10_within ml_X10_64 (hR.le (by decide)) (Nat.zero_le _) (Nat.zero_le _) [.int i1, .int 0, .int ((v (rfC c0 11) 14) - 1)] rfl hl.1 rfl (Nat.le_of_ble_eq_true rfl) dX10_planned_11 (m_X10_within hI hc2) (fun H locs hP hS => ?_)
  refine lv_if_ne (pc := 14) (tgt := 20) C.1 C.2.1 dX10_planned_14 (by decide) (fun b14 => ?_) (fun b14 => ?_)
  · replace h := if_f h b14
    refine lv_iload_n (pc := 20) C.1 C.2.1 dX10_planned_20 rfl (lv_at hl 2 rfl) ?_
    refine lv_if_ne (pc := 21) (tgt := 34) C.1 C.2.1 dX10_planned_21 (by decide) (fun b21 => ?_) (fun b21 => ?_)
    · replace h := if_f h b21
      refine lv_iload_n (pc := 34) C.1 C.2.1 dX10_planned_34 rfl (lv_at hl 2 rfl) ?_
      refine lv_iconst (pc := 35) (v := 1) C.1 C.2.1 dX10_planned_35 (by decide) ?_
      refine lv_icmp_ne (pc := 36) (tgt := 51) C.1 C.2.1 dX10_planned_36 (by decide) (fun b36 => ?_) (fun b36 => ?_)
      · replace h := if_f h b36
        refine lv_bipush (pc := 51) (v := (-6)) C.1 C.2.1 dX10_planned_51 (by decide) ?_
        exact x_iret (pc := 53) C hr hlk hP hS h dX10_planned_53
      · replace h := if_t h b36
        refine lv_aload_n (pc := 39) C.1 C.2.1 dX10_planned_39 rfl (lv_at hl 0 rfl) ?_
        refine x_getr (pc := 40) C hP ck_10 11 fl_X10_49 (by decide) rfl kc0 dX10_planned_40 ?_
        have k5 : wk LC (rfC c0 11) 3 := wt_f wT_C kc0 11 (by decide) rfl rfl
        refine x_getr (pc := 43) C hP ck_3 12 fl_X10_257 (by decide) rfl k5 dX10_planned_43 ?_
        have k6 : wk LC (rfC (rfC c0 11) 12) 12 := wt_f wT_C k5 12 (by decide) rfl rfl
        refine lv_iload_n (pc := 46) C.1 C.2.1 dX10_planned_46 rfl (lv_at hl 1 rfl) ?_
        obtain ⟨g7, h⟩ := gd_e h
        refine x_iald (pc := 47) C hP k6 (inB_vp g7) dX10_planned_47 ?_
        refine lv_goto (pc := 48) (tgt := 53) C.1 C.2.1 dX10_planned_48 (by decide) ?_
        exact x_iret (pc := 53) C hr hlk hP hS h dX10_planned_53
    · replace h := if_t h b21
      refine lv_aload_n (pc := 24) C.1 C.2.1 dX10_planned_24 rfl (lv_at hl 0 rfl) ?_
      refine x_getr (pc := 25) C hP ck_10 11 fl_X10_49 (by decide) rfl kc0 dX10_planned_25 ?_
      have k8 : wk LC (rfC c0 11) 3 := wt_f wT_C kc0 11 (by decide) rfl rfl
      refine x_getr (pc := 28) C hP ck_3 11 fl_X10_254 (by decide) rfl k8 dX10_planned_28 ?_
      have k9 : wk LC (rfC (rfC c0 11) 11) 12 := wt_f wT_C k8 11 (by decide) rfl rfl
      refine lv_iload_n (pc := 31) C.1 C.2.1 dX10_planned_31 rfl (lv_at hl 1 rfl) ?_
      obtain ⟨g10, h⟩ := gd_e h
      refine x_iald (pc := 32) C hP k9 (inB_vp g10) dX10_planned_32 ?_
      exact x_iret (pc := 33) C hr hlk hP hS h dX10_planned_33
  · replace h := if_t h b14
    refine lv_bipush (pc := 17) (v := (-6)) C.1 C.2.1 dX10_planned_17 (by decide) ?_
    exact x_iret (pc := 19) C hr hlk hP hS h dX10_planned_19
set_option maxRecDepth 100000 in
theorem m_X10_planned (hI : wI LC ad) {c0 : Nat} {i1 : Int32} {i2 : Int32} {v : VV} {rZ : Int32} {vZ : VV} (kc0 : wk LC c0 10) (h : F_X10_planned c0 i1 i2 v = some (rZ, vZ)) : Met l yX10_planned (Cond.code yX10_planned cX10_planned 3 (some .int) :: wsG) (rmL 2) (pcG LC cy ad D [.ref (ad c0), .int i1, .int i2] v) (qiG LC cy ad D rZ vZ) 0 0 (wA LC ad) := by
  refine Met.ofW (cc := cX10_planned) (maxL := 3) (ret := (some .int)) (by decide) rfl ?_
  intro p e s m args below meth c s₁ B hml hv
  obtain ⟨rfl, hP, hK⟩ := hv
  have hts := atoms_spec (ws := Cond.code yX10_planned cX10_planned 3 (some .int) :: wsG) B.pre
  have hown : s.vm.findClass RX10 = some m.cls := findClass_of_methodNamed B.named
  have C : Cx p s m _ c cX10_planned 3 RX10 D cy := ⟨B.exec, B.bytes, hml, hown, fun w hw => hts w (List.mem_cons_of_mem _ hw), hK⟩
  have hl := lv_entry ([.ref (ad c0), .int i1, .int i2]) (n := 3) (Nat.le_of_ble_eq_true rfl)
  rw [lg_entry_eq]
  generalize (lg_sl ([.ref (ad c0), .int i1, .int i2]) ++ List.replicate (3 - (lg_sl ([.ref (ad c0), .int i1, .int i2])).length) Slot.unset).toArray = ls at hl ⊢
  have hl : lv_has ls 3 [(0, .ref (ad c0)), (1, .int i1), (2, .int i2)] := hl
  exact w_X10_planned C hI B.returns B.notSynchronized (RoL_rm _) c0 i1 i2 v _ _ _ kc0 h hP va_S.rf (lv_sub hl [0, 1, 2] rfl)
def f_X10_starves (c0 : Nat) (i1 : Int32) (i2 : Int32) (i3 : Int32) (v : VV) : Option (Int32 × VV) :=
  bi (F_X10_isPort c0 i1 v) fun x3 v2 =>
  if (x3 = 0) then
    some ((-1), v2)
  else
    bi (F_X10_isGood i2 v2) fun x6 v5 =>
    if (x6 = 0) then
      some ((-1), v5)
    else
      bi (F_X10_within i3 1 200 v5) fun x9 v8 =>
      if (x9 = 0) then
        some ((-2), v8)
      else
        bi (F_X9_shelf (rfC c0 0) i1 i2 v8) fun q13 v12 =>
        nv ((if 999 < ((v12 (rfC c0 0) 4) + i3) then 999 else ((v12 (rfC c0 0) 4) + i3))) fun x20 =>
        (F_X2_follow (rfC c0 8) q13 (rfC (rfC c0 0) 2) (v12 q13 1) (v12 (rfC c0 0) 4) x20 v12).bind fun v22 =>
        some ((v22 (rfC c0 8) 5), v22)
abbrev F_X10_starves (c0 : Nat) (i1 : Int32) (i2 : Int32) (i3 : Int32) (v : VV) : Option (Int32 × VV) := f_X10_starves c0 i1 i2 i3 v
set_option maxHeartbeats 4000000 in
set_option maxRecDepth 100000 in
theorem w_X10_starves (C : Cx p s m args c cX10_starves 5 RX10 D cy) (hI : wI LC ad) (hr : meth.sig.returnType = some .int) (hlk : meth.locks = false) (hR : RoL 3 R) {rZ : Int32} {vZ : VV} : ∀ (c0 : Nat) (i1 : Int32) (i2 : Int32) (i3 : Int32) (v : VV) (H : Heap) (locs : List Loc) (ls : Array Slot), wk LC c0 10 → f_X10_starves c0 i1 i2 i3 v = some (rZ, vZ) → va_P D vwCl (wd LC cy ad v) H → va_S (wA LC ad) s.heap H locs → lv_has ls 5 [(0, .ref (ad c0)), (1, .int i1), (2, .int i2), (3, .int i3)] → W p l e R s m args below meth c H locs 0 0 (MQ below (qiG LC cy ad D rZ vZ) args s 0 0 (wA LC ad)) (F0 m 0 ls []) := by
  intro c0 i1 i2 i3 v H locs ls kc0 h hP hS hl
  unfold f_X10_starves at h
  refine lv_aload_n (pc := 0) C.1 C.2.1 dX10_starves_0 rfl (lv_at hl 0 rfl) ?_
  refine lv_iload_n (pc := 1) C.1 C.2.1 dX10_starves_1 rfl (lv_at hl 1 rfl) ?_
  obtain ⟨x3, v2, hc1, h⟩ := bi_e h
  refine x_calli (pc := 2) C hP hS mi_X10_isPort ck_10 kc0 ml_X10_57 (hR.le (by decide)) (Nat.zero_le _) (Nat.zero_le _) [.int i1] rfl hl.1 rfl (Nat.le_of_ble_eq_true rfl) dX10_starves_2 (m_X10_isPort hI kc0 hc1) (fun H locs hP hS => ?_)
  refine lv_if_eq (pc := 5) (tgt := 15) C.1 C.2.1 dX10_starves_5 (by decide) (fun b5 => ?_) (fun b5 => ?_)
  · replace h := if_t h b5
    refine lv_iconst (pc := 15) (v := (-1)) C.1 C.2.1 dX10_starves_15 (by decide) ?_
    exact x_iret (pc := 16) C hr hlk hP hS h dX10_starves_16
  · replace h := if_f h b5
    refine lv_iload_n (pc := 8) C.1 C.2.1 dX10_starves_8 rfl (lv_at hl 2 rfl) ?_
    obtain ⟨x6, v5, hc4, h⟩ := bi_e h
    refine x_callsi (pc := 9) C hP hS ms_X10_isGood ml_X10_61 (hR.le (by decide)) (Nat.zero_le _) (Nat.zero_le _) [.int i2] rfl hl.1 rfl (Nat.le_of_ble_eq_true rfl) dX10_starves_9 (m_X10_isGood hI hc4) (fun H locs hP hS => ?_)
    refine lv_if_ne (pc := 12) (tgt := 17) C.1 C.2.1 dX10_starves_12 (by decide) (fun b12 => ?_) (fun b12 => ?_)
    · replace h := if_f h b12
      refine lv_iload_n (pc := 17) C.1 C.2.1 dX10_starves_17 rfl (lv_at hl 3 rfl) ?_
      refine lv_iconst (pc := 18) (v := 1) C.1 C.2.1 dX10_starves_18 (by decide) ?_
      refine lv_sipush (pc := 19) (v := 200) C.1 C.2.1 dX10_starves_19 (by decide) ?_
      obtain ⟨x9, v8, hc7, h⟩ := bi_e h
      refine x_callsi (pc := 22) C hP hS ms_X10_within ml_X10_64 (hR.le (by decide)) (Nat.zero_le _) (Nat.zero_le _) [.int i3, .int 1, .int 200] rfl hl.1 rfl (Nat.le_of_ble_eq_true rfl) dX10_starves_22 (m_X10_within hI hc7) (fun H locs hP hS => ?_)
      refine lv_if_ne (pc := 25) (tgt := 31) C.1 C.2.1 dX10_starves_25 (by decide) (fun b25 => ?_) (fun b25 => ?_)
      · replace h := if_f h b25
        refine lv_aload_n (pc := 31) C.1 C.2.1 dX10_starves_31 rfl (lv_at hl 0 rfl) ?_
        refine x_getr (pc := 32) C hP ck_10 0 fl_X10_10 (by decide) rfl kc0 dX10_starves_32 ?_
        have k10 : wk LC (rfC c0 0) 9 := wt_f wT_C kc0 0 (by decide) rfl rfl
        refine lv_iload_n (pc := 35) C.1 C.2.1 dX10_starves_35 rfl (lv_at hl 1 rfl) ?_
        refine lv_iload_n (pc := 36) C.1 C.2.1 dX10_starves_36 rfl (lv_at hl 2 rfl) ?_
        obtain ⟨q13, v12, hc11, h⟩ := bi_e h
        refine x_callr (pc := 37) C hP hS mi_X9_shelf ck_9 k10 ml_X10_75 (hR.le (by decide)) (Nat.zero_le _) (Nat.zero_le _) [.int i1, .int i2] rfl hl.1 rfl (Nat.le_of_ble_eq_true rfl) dX10_starves_37 (m_X9_shelf hI k10 hc11) (fun H locs hP hS => ?_)
        have k14 : wk LC q13 6 := wr_X9_shelf hc11 k10
        refine lv_astore (pc := 40) (lv' := [(4, .ref (ad q13)), (0, .ref (ad c0)), (1, .int i1), (2, .int i2), (3, .int i3)]) C.1 C.2.1 dX10_starves_40 hl (by decide) rfl (fun ls hl => ?_)
        refine lv_aload_n (pc := 42) C.1 C.2.1 dX10_starves_42 rfl (lv_at hl 1 rfl) ?_
        refine x_getr (pc := 43) C hP ck_10 8 fl_X10_26 (by decide) rfl kc0 dX10_starves_43 ?_
        have k15 : wk LC (rfC c0 8) 2 := wt_f wT_C kc0 8 (by decide) rfl rfl
        refine lv_aload (pc := 46) C.1 C.2.1 dX10_starves_46 (lv_at hl 0 rfl) ?_
        refine lv_aload_n (pc := 48) C.1 C.2.1 dX10_starves_48 rfl (lv_at hl 1 rfl) ?_
        refine x_getr (pc := 49) C hP ck_10 0 fl_X10_10 (by decide) rfl kc0 dX10_starves_49 ?_
        have k16 : wk LC (rfC c0 0) 9 := wt_f wT_C kc0 0 (by decide) rfl rfl
        refine x_getr (pc := 52) C hP ck_9 2 fl_X10_132 (by decide) rfl k16 dX10_starves_52 ?_
        have k17 : wk LC (rfC (rfC c0 0) 2) 0 := wt_f wT_C k16 2 (by decide) rfl rfl
        refine lv_aload (pc := 55) C.1 C.2.1 dX10_starves_55 (lv_at hl 0 rfl) ?_
        refine x_geti (pc := 57) C hP ck_6 1 fl_X10_169 (by decide) rfl k14 dX10_starves_57 ?_
        refine lv_aload_n (pc := 60) C.1 C.2.1 dX10_starves_60 rfl (lv_at hl 1 rfl) ?_
        refine x_getr (pc := 61) C hP ck_10 0 fl_X10_10 (by decide) rfl kc0 dX10_starves_61 ?_
        have k18 : wk LC (rfC c0 0) 9 := wt_f wT_C kc0 0 (by decide) rfl rfl
        refine x_geti (pc := 64) C hP ck_9 4 fl_X10_125 (by decide) rfl k18 dX10_starves_64 ?_
        refine lv_aload_n (pc := 67) C.1 C.2.1 dX10_starves_67 rfl (lv_at hl 1 rfl) ?_
        refine x_getr (pc := 68) C hP ck_10 0 fl_X10_10 (by decide) rfl kc0 dX10_starves_68 ?_
        have k19 : wk LC (rfC c0 0) 9 := wt_f wT_C kc0 0 (by decide) rfl rfl
        refine x_geti (pc := 71) C hP ck_9 4 fl_X10_125 (by decide) rfl k19 dX10_starves_71 ?_
        refine lv_iload_n (pc := 74) C.1 C.2.1 dX10_starves_74 rfl (lv_at hl 4 rfl) ?_
        refine lv_iadd (pc := 75) C.1 C.2.1 dX10_starves_75 ?_
        refine lv_sipush (pc := 76) (v := 999) C.1 C.2.1 dX10_starves_76 (by decide) ?_
        refine x_min (pc := 79) C ml_X10_175 (hR.le (by decide)) (Nat.zero_le _) (Nat.zero_le _) hl.1 (Nat.le_of_ble_eq_true rfl) dX10_starves_79 ?_
        refine lv_topi (fun x20 ex20 => ?_)
        replace h := nv_e h ex20
        clear ex20
        obtain ⟨v22, hc21, h⟩ := bd_e h
        refine x_callv (pc := 82) C hP hS mi_X2_follow ck_2 k15 ml_X10_260 (hR.le (by decide)) (Nat.zero_le _) (Nat.zero_le _) [.ref (ad q13), .ref (ad (rfC (rfC c0 0) 2)), .int (v12 q13 1), .int (v12 (rfC c0 0) 4), .int x20] rfl hl.1 rfl (Nat.le_of_ble_eq_true rfl) dX10_starves_82 (m_X2_follow hI k15 k14 k17 hc21) (fun H locs hP hS => ?_)
        refine lv_aload_n (pc := 85) C.1 C.2.1 dX10_starves_85 rfl (lv_at hl 1 rfl) ?_
        refine x_getr (pc := 86) C hP ck_10 8 fl_X10_26 (by decide) rfl kc0 dX10_starves_86 ?_
        have k23 : wk LC (rfC c0 8) 2 := wt_f wT_C kc0 8 (by decide) rfl rfl
        refine x_geti (pc := 89) C hP ck_2 5 fl_X10_264 (by decide) rfl k23 dX10_starves_89 ?_
        exact x_iret (pc := 92) C hr hlk hP hS h dX10_starves_92
      · replace h := if_t h b25
        refine lv_bipush (pc := 28) (v := (-2)) C.1 C.2.1 dX10_starves_28 (by decide) ?_
        exact x_iret (pc := 30) C hr hlk hP hS h dX10_starves_30
    · replace h := if_t h b12
      refine lv_iconst (pc := 15) (v := (-1)) C.1 C.2.1 dX10_starves_15 (by decide) ?_
      exact x_iret (pc := 16) C hr hlk hP hS h dX10_starves_16
set_option maxRecDepth 100000 in
theorem m_X10_starves (hI : wI LC ad) {c0 : Nat} {i1 : Int32} {i2 : Int32} {i3 : Int32} {v : VV} {rZ : Int32} {vZ : VV} (kc0 : wk LC c0 10) (h : F_X10_starves c0 i1 i2 i3 v = some (rZ, vZ)) : Met l yX10_starves (Cond.code yX10_starves cX10_starves 5 (some .int) :: wsG) (rmL 3) (pcG LC cy ad D [.ref (ad c0), .int i1, .int i2, .int i3] v) (qiG LC cy ad D rZ vZ) 0 0 (wA LC ad) := by
  refine Met.ofW (cc := cX10_starves) (maxL := 5) (ret := (some .int)) (by decide) rfl ?_
  intro p e s m args below meth c s₁ B hml hv
  obtain ⟨rfl, hP, hK⟩ := hv
  have hts := atoms_spec (ws := Cond.code yX10_starves cX10_starves 5 (some .int) :: wsG) B.pre
  have hown : s.vm.findClass RX10 = some m.cls := findClass_of_methodNamed B.named
  have C : Cx p s m _ c cX10_starves 5 RX10 D cy := ⟨B.exec, B.bytes, hml, hown, fun w hw => hts w (List.mem_cons_of_mem _ hw), hK⟩
  have hl := lv_entry ([.ref (ad c0), .int i1, .int i2, .int i3]) (n := 5) (Nat.le_of_ble_eq_true rfl)
  rw [lg_entry_eq]
  generalize (lg_sl ([.ref (ad c0), .int i1, .int i2, .int i3]) ++ List.replicate (5 - (lg_sl ([.ref (ad c0), .int i1, .int i2, .int i3])).length) Slot.unset).toArray = ls at hl ⊢
  have hl : lv_has ls 5 [(0, .ref (ad c0)), (1, .int i1), (2, .int i2), (3, .int i3)] := hl
  exact w_X10_starves C hI B.returns B.notSynchronized (RoL_rm _) c0 i1 i2 i3 v _ _ _ kc0 h hP va_S.rf (lv_sub hl [0, 1, 2, 3] rfl)
end
