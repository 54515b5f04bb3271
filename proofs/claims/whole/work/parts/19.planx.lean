section
variable {p : Program} {l : Launch} {e : Env} {R : Room} {s : State} {m : MethodId} {args : Array Value} {below : List Frame} {meth : Method} {c : Code} {D : va_G} {cy : Nat → ClassId} {ad : Nat → Nat} {d : Nat}
def f_X3_travel (rcE : Nat → Int32 → VV → Option (VV)) (c0 : Nat) (i1 : Int32) (i2 : Int32) (i3 : Int32) (i4 : Int32) (v : VV) : Option (VV) :=
  gd (inB i1 (lnC (rfC c0 3)) = true) <|
  gd (inB (i1 + 1) (lnC (rfC c0 3)) = true) <|
  gd (inB i4 (lnC (rfC (rfC (rfC c0 3) (Int32.toNatClampNeg i1)) 5)) = true) <|
  nv (((v (rfC (rfC (rfC c0 3) (Int32.toNatClampNeg i1)) 5) (Int32.toNatClampNeg i4)) - ((v (rfC c0 0) 5) * i3))) fun x10 =>
  if (0 ≤ x10) then
    gd (inB i1 (lnC (rfC c0 6)) = true) <|
    nv (wu v (rfC c0 6) (Int32.toNatClampNeg i1) i2) fun v13 =>
    gd (inB i1 (lnC (rfC c0 7)) = true) <|
    nv (wu v13 (rfC c0 7) (Int32.toNatClampNeg i1) i4) fun v16 =>
    (F_X3_arrive c0 (rfC (rfC c0 3) (Int32.toNatClampNeg (i1 + 1))) i2 ((v16 (rfC (rfC c0 3) (Int32.toNatClampNeg i1)) 1) + i3) x10 v16).bind fun v18 =>
    gd (inB i4 (lnC (rfC (rfC (rfC c0 3) (Int32.toNatClampNeg i1)) 4)) = true) <|
    if ((v18 (rfC (rfC (rfC c0 3) (Int32.toNatClampNeg i1)) 4) (Int32.toNatClampNeg i4)) = 0) then
      (rcE c0 (i1 + 1) v18).bind fun v71 =>
      some v71
    else
      bi (F_X9_shelf (rfC c0 0) (v18 (rfC (rfC c0 3) (Int32.toNatClampNeg i1)) 0) i4 v18) fun q24 v23 =>
      bi (F_X9_shelf (rfC c0 0) (v23 (rfC (rfC c0 3) (Int32.toNatClampNeg (i1 + 1))) 0) i4 v23) fun q29 v28 =>
      gd (inB (v28 q24 0) (lnC (rfC c0 4)) = true) <|
      nv ((v28 (rfC c0 4) (Int32.toNatClampNeg (v28 q24 0)))) fun x33 =>
      gd (inB (v28 q24 0) (lnC (rfC c0 5)) = true) <|
      nv ((v28 (rfC c0 5) (Int32.toNatClampNeg (v28 q24 0)))) fun x36 =>
      gd (inB (v28 q29 0) (lnC (rfC c0 4)) = true) <|
      nv ((v28 (rfC c0 4) (Int32.toNatClampNeg (v28 q29 0)))) fun x39 =>
      gd (inB (v28 q29 0) (lnC (rfC c0 5)) = true) <|
      nv ((v28 (rfC c0 5) (Int32.toNatClampNeg (v28 q29 0)))) fun x42 =>
      gd (inB i4 (lnC (rfC (rfC (rfC c0 3) (Int32.toNatClampNeg i1)) 6)) = true) <|
      (F_X3_leave c0 q24 (v28 (rfC (rfC (rfC c0 3) (Int32.toNatClampNeg i1)) 6) (Int32.toNatClampNeg i4)) (v28 (rfC (rfC c0 3) (Int32.toNatClampNeg i1)) 1) v28).bind fun v46 =>
      bi (F_X3_stockOf c0 q29 (v46 (rfC (rfC c0 3) (Int32.toNatClampNeg (i1 + 1))) 1) v46) fun x50 v49 =>
      gd (inB (v49 (rfC (rfC c0 3) (Int32.toNatClampNeg (i1 + 1))) 0) (lnC (rfC (rfC c0 0) 0)) = true) <|
      gd (inB i4 (lnC (rfC (rfC (rfC c0 3) (Int32.toNatClampNeg i1)) 4)) = true) <|
      (F_X1_sale (rfC c0 2) q29 x50 (v49 (rfC (rfC (rfC c0 0) 0) (Int32.toNatClampNeg (v49 (rfC (rfC c0 3) (Int32.toNatClampNeg (i1 + 1))) 0))) 1) (v49 (rfC (rfC c0 3) (Int32.toNatClampNeg (i1 + 1))) 2) (v49 (rfC (rfC (rfC c0 3) (Int32.toNatClampNeg i1)) 4) (Int32.toNatClampNeg i4)) v49).bind fun v58 =>
      nv (wu v58 (rfC (rfC c0 3) (Int32.toNatClampNeg (i1 + 1))) 2 (v58 (rfC c0 2) 2)) fun v60 =>
      (F_X3_leave c0 q29 (v60 (rfC c0 2) 1) (v60 (rfC (rfC c0 3) (Int32.toNatClampNeg (i1 + 1))) 1) v60).bind fun v63 =>
      (rcE c0 (i1 + 1) v63).bind fun v65 =>
      (F_X3_leave c0 q24 x33 x36 v65).bind fun v67 =>
      (F_X3_leave c0 q29 x39 x42 v67).bind fun v69 =>
      some v69
  else
    some v
abbrev F_X3_travel (rcE : Nat → Int32 → VV → Option (VV)) (c0 : Nat) (i1 : Int32) (i2 : Int32) (i3 : Int32) (i4 : Int32) (v : VV) : Option (VV) := f_X3_travel rcE c0 i1 i2 i3 i4 v
set_option maxHeartbeats 4000000 in
set_option maxRecDepth 100000 in
theorem w_X3_travel (rcE : Nat → Int32 → VV → Option (VV)) (C : Cx p s m args c cX3_travel 14 RX3 D cy) (hI : wI LC ad) (hr : meth.sig.returnType = none) (hlk : meth.locks = false) (hR : RoL (d + 6) R) (hrcE : ∀ (o : Nat) (a0 : Int32) (v vZ : VV), wk LC o 3 → rcE o a0 v = some vZ → Met l yX3_extend (Cond.code yX3_extend cX3_extend 6 none :: wsG) (rmL (d + 5)) (pcG LC cy ad D [.ref (ad o), .int a0] v) (qvG LC cy ad D vZ) 0 0 (wA LC ad)) {vZ : VV} : ∀ (c0 : Nat) (i1 : Int32) (i2 : Int32) (i3 : Int32) (i4 : Int32) (v : VV) (H : Heap) (locs : List Loc) (ls : Array Slot), wk LC c0 3 → f_X3_travel rcE c0 i1 i2 i3 i4 v = some vZ → va_P D vwCl (wd LC cy ad v) H → va_S (wA LC ad) s.heap H locs → lv_has ls 14 [(0, .ref (ad c0)), (1, .int i1), (2, .int i2), (3, .int i3), (4, .int i4)] → W p l e R s m args below meth c H locs 0 0 (MQ below (qvG LC cy ad D vZ) args s 0 0 (wA LC ad)) (F0 m 0 ls []) := by
  intro c0 i1 i2 i3 i4 v H locs ls kc0 h hP hS hl
  unfold f_X3_travel at h
  refine lv_aload_n (pc := 0) C.1 C.2.1 dX3_travel_0 rfl (lv_at hl 0 rfl) ?_
  refine x_getr (pc := 1) C hP ck_3 3 fl_X3_50 (by decide) rfl kc0 dX3_travel_1 ?_
  have k1 : wk LC (rfC c0 3) 17 := wt_f wT_C kc0 3 (by decide) rfl rfl
  refine lv_iload_n (pc := 4) C.1 C.2.1 dX3_travel_4 rfl (lv_at hl 1 rfl) ?_
  obtain ⟨g2, h⟩ := gd_e h
  refine x_aald (pc := 5) C hP k1 (by decide) (by decide) (inB_vp g2) dX3_travel_5 ?_
  have k3 : wk LC (rfC (rfC c0 3) (Int32.toNatClampNeg i1)) 8 := wt_a wT_C k1 (by decide) (inB_vp g2) rfl
  refine lv_astore (pc := 6) (lv' := [(5, .ref (ad (rfC (rfC c0 3) (Int32.toNatClampNeg i1)))), (0, .ref (ad c0)), (1, .int i1), (2, .int i2), (3, .int i3), (4, .int i4)]) C.1 C.2.1 dX3_travel_6 hl (by decide) rfl (fun ls hl => ?_)
  refine lv_aload_n (pc := 8) C.1 C.2.1 dX3_travel_8 rfl (lv_at hl 1 rfl) ?_
  refine x_getr (pc := 9) C hP ck_3 3 fl_X3_50 (by decide) rfl kc0 dX3_travel_9 ?_
  have k4 : wk LC (rfC c0 3) 17 := wt_f wT_C kc0 3 (by decide) rfl rfl
  refine lv_iload_n (pc := 12) C.1 C.2.1 dX3_travel_12 rfl (lv_at hl 2 rfl) ?_
  refine lv_iconst (pc := 13) (v := 1) C.1 C.2.1 dX3_travel_13 (by decide) ?_
  refine lv_iadd (pc := 14) C.1 C.2.1 dX3_travel_14 ?_
  obtain ⟨g5, h⟩ := gd_e h
  refine x_aald (pc := 15) C hP k4 (by decide) (by decide) (inB_vp g5) dX3_travel_15 ?_
  have k6 : wk LC (rfC (rfC c0 3) (Int32.toNatClampNeg (i1 + 1))) 8 := wt_a wT_C k4 (by decide) (inB_vp g5) rfl
  refine lv_astore (pc := 16) (lv' := [(6, .ref (ad (rfC (rfC c0 3) (Int32.toNatClampNeg (i1 + 1))))), (5, .ref (ad (rfC (rfC c0 3) (Int32.toNatClampNeg i1)))), (0, .ref (ad c0)), (1, .int i1), (2, .int i2), (3, .int i3), (4, .int i4)]) C.1 C.2.1 dX3_travel_16 hl (by decide) rfl (fun ls hl => ?_)
  refine lv_aload (pc := 18) C.1 C.2.1 dX3_travel_18 (lv_at hl 1 rfl) ?_
  refine x_getr (pc := 20) C hP ck_8 5 fl_X3_136 (by decide) rfl k3 dX3_travel_20 ?_
  have k7 : wk LC (rfC (rfC (rfC c0 3) (Int32.toNatClampNeg i1)) 5) 12 := wt_f wT_C k3 5 (by decide) rfl rfl
  refine lv_iload (pc := 23) C.1 C.2.1 dX3_travel_23 (lv_at hl 6 rfl) ?_
  obtain ⟨g8, h⟩ := gd_e h
  refine x_iald (pc := 25) C hP k7 (inB_vp g8) dX3_travel_25 ?_
  refine lv_aload_n (pc := 26) C.1 C.2.1 dX3_travel_26 rfl (lv_at hl 2 rfl) ?_
  refine x_getr (pc := 27) C hP ck_3 0 fl_X3_44 (by decide) rfl kc0 dX3_travel_27 ?_
  have k9 : wk LC (rfC c0 0) 9 := wt_f wT_C kc0 0 (by decide) rfl rfl
  refine x_geti (pc := 30) C hP ck_9 5 fl_X3_172 (by decide) rfl k9 dX3_travel_30 ?_
  refine lv_iload_n (pc := 33) C.1 C.2.1 dX3_travel_33 rfl (lv_at hl 5 rfl) ?_
  refine lv_imul (pc := 34) C.1 C.2.1 dX3_travel_34 ?_
  refine lv_isub (pc := 35) C.1 C.2.1 dX3_travel_35 ?_
  refine lv_topi (fun x10 ex10 => ?_)
  replace h := nv_e h ex10
  clear ex10
  refine lv_istore (pc := 36) (lv' := [(7, .int x10), (6, .ref (ad (rfC (rfC c0 3) (Int32.toNatClampNeg (i1 + 1))))), (5, .ref (ad (rfC (rfC c0 3) (Int32.toNatClampNeg i1)))), (0, .ref (ad c0)), (1, .int i1), (2, .int i2), (3, .int i3), (4, .int i4)]) C.1 C.2.1 dX3_travel_36 hl (by decide) rfl (fun ls hl => ?_)
  refine lv_iload (pc := 38) C.1 C.2.1 dX3_travel_38 (lv_at hl 0 rfl) ?_
  refine lv_if_ge (pc := 40) (tgt := 44) C.1 C.2.1 dX3_travel_40 (by decide) (fun b40 => ?_) (fun b40 => ?_)
  · replace h := if_t h b40
    refine lv_aload_n (pc := 44) C.1 C.2.1 dX3_travel_44 rfl (lv_at hl 3 rfl) ?_
    refine x_getr (pc := 45) C hP ck_3 6 fl_X3_32 (by decide) rfl kc0 dX3_travel_45 ?_
    have k11 : wk LC (rfC c0 6) 12 := wt_f wT_C kc0 6 (by decide) rfl rfl
    refine lv_iload_n (pc := 48) C.1 C.2.1 dX3_travel_48 rfl (lv_at hl 4 rfl) ?_
    refine lv_iload_n (pc := 49) C.1 C.2.1 dX3_travel_49 rfl (lv_at hl 5 rfl) ?_
    obtain ⟨g12, h⟩ := gd_e h
    refine x_iast (pc := 50) C hI hP hS k11 (inB_vp g12) dX3_travel_50 (fun H locs hP hS => ?_)
    obtain ⟨v13, h, hP⟩ := nv_p (P := fun z => va_P D vwCl (wd LC cy ad z) H) h hP
    refine lv_aload_n (pc := 51) C.1 C.2.1 dX3_travel_51 rfl (lv_at hl 3 rfl) ?_
    refine x_getr (pc := 52) C hP ck_3 7 fl_X3_35 (by decide) rfl kc0 dX3_travel_52 ?_
    have k14 : wk LC (rfC c0 7) 12 := wt_f wT_C kc0 7 (by decide) rfl rfl
    refine lv_iload_n (pc := 55) C.1 C.2.1 dX3_travel_55 rfl (lv_at hl 4 rfl) ?_
    refine lv_iload (pc := 56) C.1 C.2.1 dX3_travel_56 (lv_at hl 7 rfl) ?_
    obtain ⟨g15, h⟩ := gd_e h
    refine x_iast (pc := 58) C hI hP hS k14 (inB_vp g15) dX3_travel_58 (fun H locs hP hS => ?_)
    obtain ⟨v16, h, hP⟩ := nv_p (P := fun z => va_P D vwCl (wd LC cy ad z) H) h hP
    refine lv_aload_n (pc := 59) C.1 C.2.1 dX3_travel_59 rfl (lv_at hl 3 rfl) ?_
    refine lv_aload (pc := 60) C.1 C.2.1 dX3_travel_60 (lv_at hl 1 rfl) ?_
    refine lv_iload_n (pc := 62) C.1 C.2.1 dX3_travel_62 rfl (lv_at hl 5 rfl) ?_
    refine lv_aload (pc := 63) C.1 C.2.1 dX3_travel_63 (lv_at hl 2 rfl) ?_
    refine x_geti (pc := 65) C hP ck_8 1 fl_X3_97 (by decide) rfl k3 dX3_travel_65 ?_
    refine lv_iload_n (pc := 68) C.1 C.2.1 dX3_travel_68 rfl (lv_at hl 6 rfl) ?_
    refine lv_iadd (pc := 69) C.1 C.2.1 dX3_travel_69 ?_
    refine lv_iload (pc := 70) C.1 C.2.1 dX3_travel_70 (lv_at hl 0 rfl) ?_
    obtain ⟨v18, hc17, h⟩ := bd_e h
    refine x_callv (pc := 72) C hP hS mi_X3_arrive ck_3 kc0 ml_X3_86 (hR.le (by omega)) (Nat.zero_le _) (Nat.zero_le _) [.ref (ad (rfC (rfC c0 3) (Int32.toNatClampNeg (i1 + 1)))), .int i2, .int ((v16 (rfC (rfC c0 3) (Int32.toNatClampNeg i1)) 1) + i3), .int x10] rfl hl.1 rfl (Nat.le_of_ble_eq_true rfl) dX3_travel_72 (m_X3_arrive hI kc0 k6 hc17) (fun H locs hP hS => ?_)
    refine lv_aload (pc := 75) C.1 C.2.1 dX3_travel_75 (lv_at hl 2 rfl) ?_
    refine x_getr (pc := 77) C hP ck_8 4 fl_X3_114 (by decide) rfl k3 dX3_travel_77 ?_
    have k19 : wk LC (rfC (rfC (rfC c0 3) (Int32.toNatClampNeg i1)) 4) 12 := wt_f wT_C k3 4 (by decide) rfl rfl
    refine lv_iload (pc := 80) C.1 C.2.1 dX3_travel_80 (lv_at hl 7 rfl) ?_
    obtain ⟨g20, h⟩ := gd_e h
    refine x_iald (pc := 82) C hP k19 (inB_vp g20) dX3_travel_82 ?_
    refine lv_if_ne (pc := 83) (tgt := 94) C.1 C.2.1 dX3_travel_83 (by decide) (fun b83 => ?_) (fun b83 => ?_)
    · replace h := if_f h b83
      refine lv_aload_n (pc := 94) C.1 C.2.1 dX3_travel_94 rfl (lv_at hl 3 rfl) ?_
      refine x_getr (pc := 95) C hP ck_3 0 fl_X3_44 (by decide) rfl kc0 dX3_travel_95 ?_
      have k21 : wk LC (rfC c0 0) 9 := wt_f wT_C kc0 0 (by decide) rfl rfl
      refine lv_aload (pc := 98) C.1 C.2.1 dX3_travel_98 (lv_at hl 2 rfl) ?_
      refine x_geti (pc := 100) C hP ck_8 0 fl_X3_94 (by decide) rfl k3 dX3_travel_100 ?_
      refine lv_iload (pc := 103) C.1 C.2.1 dX3_travel_103 (lv_at hl 7 rfl) ?_
      obtain ⟨q24, v23, hc22, h⟩ := bi_e h
      refine x_callr (pc := 105) C hP hS mi_X9_shelf ck_9 k21 ml_X3_71 (hR.le (by omega)) (Nat.zero_le _) (Nat.zero_le _) [.int (v18 (rfC (rfC c0 3) (Int32.toNatClampNeg i1)) 0), .int i4] rfl hl.1 rfl (Nat.le_of_ble_eq_true rfl) dX3_travel_105 (m_X9_shelf hI k21 hc22) (fun H locs hP hS => ?_)
      have k25 : wk LC q24 6 := wr_X9_shelf hc22 k21
      refine lv_astore (pc := 108) (lv' := [(8, .ref (ad q24)), (7, .int x10), (6, .ref (ad (rfC (rfC c0 3) (Int32.toNatClampNeg (i1 + 1))))), (5, .ref (ad (rfC (rfC c0 3) (Int32.toNatClampNeg i1)))), (0, .ref (ad c0)), (1, .int i1), (2, .int i2), (3, .int i3), (4, .int i4)]) C.1 C.2.1 dX3_travel_108 hl (by decide) rfl (fun ls hl => ?_)
      refine lv_aload_n (pc := 110) C.1 C.2.1 dX3_travel_110 rfl (lv_at hl 4 rfl) ?_
      refine x_getr (pc := 111) C hP ck_3 0 fl_X3_44 (by decide) rfl kc0 dX3_travel_111 ?_
      have k26 : wk LC (rfC c0 0) 9 := wt_f wT_C kc0 0 (by decide) rfl rfl
      refine lv_aload (pc := 114) C.1 C.2.1 dX3_travel_114 (lv_at hl 2 rfl) ?_
      refine x_geti (pc := 116) C hP ck_8 0 fl_X3_94 (by decide) rfl k6 dX3_travel_116 ?_
      refine lv_iload (pc := 119) C.1 C.2.1 dX3_travel_119 (lv_at hl 8 rfl) ?_
      obtain ⟨q29, v28, hc27, h⟩ := bi_e h
      refine x_callr (pc := 121) C hP hS mi_X9_shelf ck_9 k26 ml_X3_71 (hR.le (by omega)) (Nat.zero_le _) (Nat.zero_le _) [.int (v23 (rfC (rfC c0 3) (Int32.toNatClampNeg (i1 + 1))) 0), .int i4] rfl hl.1 rfl (Nat.le_of_ble_eq_true rfl) dX3_travel_121 (m_X9_shelf hI k26 hc27) (fun H locs hP hS => ?_)
      have k30 : wk LC q29 6 := wr_X9_shelf hc27 k26
      refine lv_astore (pc := 124) (lv' := [(9, .ref (ad q29)), (8, .ref (ad q24)), (7, .int x10), (6, .ref (ad (rfC (rfC c0 3) (Int32.toNatClampNeg (i1 + 1))))), (5, .ref (ad (rfC (rfC c0 3) (Int32.toNatClampNeg i1)))), (0, .ref (ad c0)), (1, .int i1), (2, .int i2), (3, .int i3), (4, .int i4)]) C.1 C.2.1 dX3_travel_124 hl (by decide) rfl (fun ls hl => ?_)
      refine lv_aload_n (pc := 126) C.1 C.2.1 dX3_travel_126 rfl (lv_at hl 5 rfl) ?_
      refine x_getr (pc := 127) C hP ck_3 4 fl_X3_25 (by decide) rfl kc0 dX3_travel_127 ?_
      have k31 : wk LC (rfC c0 4) 12 := wt_f wT_C kc0 4 (by decide) rfl rfl
      refine lv_aload (pc := 130) C.1 C.2.1 dX3_travel_130 (lv_at hl 1 rfl) ?_
      refine x_geti (pc := 132) C hP ck_6 0 fl_X3_75 (by decide) rfl k25 dX3_travel_132 ?_
      obtain ⟨g32, h⟩ := gd_e h
      refine x_iald (pc := 135) C hP k31 (inB_vp g32) dX3_travel_135 ?_
      refine lv_topi (fun x33 ex33 => ?_)
      replace h := nv_e h ex33
      clear ex33
      refine lv_istore (pc := 136) (lv' := [(10, .int x33), (9, .ref (ad q29)), (8, .ref (ad q24)), (7, .int x10), (6, .ref (ad (rfC (rfC c0 3) (Int32.toNatClampNeg (i1 + 1))))), (5, .ref (ad (rfC (rfC c0 3) (Int32.toNatClampNeg i1)))), (0, .ref (ad c0)), (1, .int i1), (2, .int i2), (3, .int i3), (4, .int i4)]) C.1 C.2.1 dX3_travel_136 hl (by decide) rfl (fun ls hl => ?_)
      refine lv_aload_n (pc := 138) C.1 C.2.1 dX3_travel_138 rfl (lv_at hl 6 rfl) ?_
      refine x_getr (pc := 139) C hP ck_3 5 fl_X3_29 (by decide) rfl kc0 dX3_travel_139 ?_
      have k34 : wk LC (rfC c0 5) 12 := wt_f wT_C kc0 5 (by decide) rfl rfl
      refine lv_aload (pc := 142) C.1 C.2.1 dX3_travel_142 (lv_at hl 2 rfl) ?_
      refine x_geti (pc := 144) C hP ck_6 0 fl_X3_75 (by decide) rfl k25 dX3_travel_144 ?_
      obtain ⟨g35, h⟩ := gd_e h
      refine x_iald (pc := 147) C hP k34 (inB_vp g35) dX3_travel_147 ?_
      refine lv_topi (fun x36 ex36 => ?_)
      replace h := nv_e h ex36
      clear ex36
      refine lv_istore (pc := 148) (lv' := [(11, .int x36), (10, .int x33), (9, .ref (ad q29)), (8, .ref (ad q24)), (7, .int x10), (6, .ref (ad (rfC (rfC c0 3) (Int32.toNatClampNeg (i1 + 1))))), (5, .ref (ad (rfC (rfC c0 3) (Int32.toNatClampNeg i1)))), (0, .ref (ad c0)), (1, .int i1), (2, .int i2), (3, .int i3), (4, .int i4)]) C.1 C.2.1 dX3_travel_148 hl (by decide) rfl (fun ls hl => ?_)
      refine lv_aload_n (pc := 150) C.1 C.2.1 dX3_travel_150 rfl (lv_at hl 7 rfl) ?_
      refine x_getr (pc := 151) C hP ck_3 4 fl_X3_25 (by decide) rfl kc0 dX3_travel_151 ?_
      have k37 : wk LC (rfC c0 4) 12 := wt_f wT_C kc0 4 (by decide) rfl rfl
      refine lv_aload (pc := 154) C.1 C.2.1 dX3_travel_154 (lv_at hl 2 rfl) ?_
      refine x_geti (pc := 156) C hP ck_6 0 fl_X3_75 (by decide) rfl k30 dX3_travel_156 ?_
      obtain ⟨g38, h⟩ := gd_e h
      refine x_iald (pc := 159) C hP k37 (inB_vp g38) dX3_travel_159 ?_
      refine lv_topi (fun x39 ex39 => ?_)
      replace h := nv_e h ex39
      clear ex39
      refine lv_istore (pc := 160) (lv' := [(12, .int x39), (11, .int x36), (10, .int x33), (9, .ref (ad q29)), (8, .ref (ad q24)), (7, .int x10), (6, .ref (ad (rfC (rfC c0 3) (Int32.toNatClampNeg (i1 + 1))))), (5, .ref (ad (rfC (rfC c0 3) (Int32.toNatClampNeg i1)))), (0, .ref (ad c0)), (1, .int i1), (2, .int i2), (3, .int i3), (4, .int i4)]) C.1 C.2.1 dX3_travel_160 hl (by decide) rfl (fun ls hl => ?_)
      refine lv_aload_n (pc := 162) C.1 C.2.1 dX3_travel_162 rfl (lv_at hl 8 rfl) ?_
      refine x_getr (pc := 163) C hP ck_3 5 fl_X3_29 (by decide) rfl kc0 dX3_travel_163 ?_
      have k40 : wk LC (rfC c0 5) 12 := wt_f wT_C kc0 5 (by decide) rfl rfl
      refine lv_aload (pc := 166) C.1 C.2.1 dX3_travel_166 (lv_at hl 3 rfl) ?_
      refine x_geti (pc := 168) C hP ck_6 0 fl_X3_75 (by decide) rfl k30 dX3_travel_168 ?_
      obtain ⟨g41, h⟩ := gd_e h
      refine x_iald (pc := 171) C hP k40 (inB_vp g41) dX3_travel_171 ?_
      refine lv_topi (fun x42 ex42 => ?_)
      replace h := nv_e h ex42
      clear ex42
      refine lv_istore (pc := 172) (lv' := [(13, .int x42), (12, .int x39), (11, .int x36), (10, .int x33), (9, .ref (ad q29)), (8, .ref (ad q24)), (7, .int x10), (6, .ref (ad (rfC (rfC c0 3) (Int32.toNatClampNeg (i1 + 1))))), (5, .ref (ad (rfC (rfC c0 3) (Int32.toNatClampNeg i1)))), (0, .ref (ad c0)), (1, .int i1), (2, .int i2), (3, .int i3), (4, .int i4)]) C.1 C.2.1 dX3_travel_172 hl (by decide) rfl (fun ls hl => ?_)
      refine lv_aload_n (pc := 174) C.1 C.2.1 dX3_travel_174 rfl (lv_at hl 9 rfl) ?_
      refine lv_aload (pc := 175) C.1 C.2.1 dX3_travel_175 (lv_at hl 5 rfl) ?_
      refine lv_aload (pc := 177) C.1 C.2.1 dX3_travel_177 (lv_at hl 8 rfl) ?_
      refine x_getr (pc := 179) C hP ck_8 6 fl_X3_159 (by decide) rfl k3 dX3_travel_179 ?_
      have k43 : wk LC (rfC (rfC (rfC c0 3) (Int32.toNatClampNeg i1)) 6) 12 := wt_f wT_C k3 6 (by decide) rfl rfl
      refine lv_iload (pc := 182) C.1 C.2.1 dX3_travel_182 (lv_at hl 13 rfl) ?_
      obtain ⟨g44, h⟩ := gd_e h
      refine x_iald (pc := 184) C hP k43 (inB_vp g44) dX3_travel_184 ?_
      refine lv_aload (pc := 185) C.1 C.2.1 dX3_travel_185 (lv_at hl 8 rfl) ?_
      refine x_geti (pc := 187) C hP ck_8 1 fl_X3_97 (by decide) rfl k3 dX3_travel_187 ?_
      obtain ⟨v46, hc45, h⟩ := bd_e h
      refine x_callv (pc := 190) C hP hS mi_X3_leave ck_3 kc0 ml_X3_175 (hR.le (by omega)) (Nat.zero_le _) (Nat.zero_le _) [.ref (ad q24), .int (v28 (rfC (rfC (rfC c0 3) (Int32.toNatClampNeg i1)) 6) (Int32.toNatClampNeg i4)), .int (v28 (rfC (rfC c0 3) (Int32.toNatClampNeg i1)) 1)] rfl hl.1 rfl (Nat.le_of_ble_eq_true rfl) dX3_travel_190 (m_X3_leave hI kc0 k25 hc45) (fun H locs hP hS => ?_)
      refine lv_aload_n (pc := 193) C.1 C.2.1 dX3_travel_193 rfl (lv_at hl 9 rfl) ?_
      refine x_getr (pc := 194) C hP ck_3 2 fl_X3_21 (by decide) rfl kc0 dX3_travel_194 ?_
      have k47 : wk LC (rfC c0 2) 1 := wt_f wT_C kc0 2 (by decide) rfl rfl
      refine lv_aload (pc := 197) C.1 C.2.1 dX3_travel_197 (lv_at hl 4 rfl) ?_
      refine lv_aload_n (pc := 199) C.1 C.2.1 dX3_travel_199 rfl (lv_at hl 9 rfl) ?_
      refine lv_aload (pc := 200) C.1 C.2.1 dX3_travel_200 (lv_at hl 4 rfl) ?_
      refine lv_aload (pc := 202) C.1 C.2.1 dX3_travel_202 (lv_at hl 7 rfl) ?_
      refine x_geti (pc := 204) C hP ck_8 1 fl_X3_97 (by decide) rfl k6 dX3_travel_204 ?_
      obtain ⟨x50, v49, hc48, h⟩ := bi_e h
      refine x_calli (pc := 207) C hP hS mi_X3_stockOf ck_3 kc0 ml_X3_139 (hR.le (by omega)) (Nat.zero_le _) (Nat.zero_le _) [.ref (ad q29), .int (v46 (rfC (rfC c0 3) (Int32.toNatClampNeg (i1 + 1))) 1)] rfl hl.1 rfl (Nat.le_of_ble_eq_true rfl) dX3_travel_207 (m_X3_stockOf hI kc0 k30 hc48) (fun H locs hP hS => ?_)
      refine lv_aload_n (pc := 210) C.1 C.2.1 dX3_travel_210 rfl (lv_at hl 9 rfl) ?_
      refine x_getr (pc := 211) C hP ck_3 0 fl_X3_44 (by decide) rfl kc0 dX3_travel_211 ?_
      have k51 : wk LC (rfC c0 0) 9 := wt_f wT_C kc0 0 (by decide) rfl rfl
      refine x_getr (pc := 214) C hP ck_9 0 fl_X3_143 (by decide) rfl k51 dX3_travel_214 ?_
      have k52 : wk LC (rfC (rfC c0 0) 0) 14 := wt_f wT_C k51 0 (by decide) rfl rfl
      refine lv_aload (pc := 217) C.1 C.2.1 dX3_travel_217 (lv_at hl 7 rfl) ?_
      refine x_geti (pc := 219) C hP ck_8 0 fl_X3_94 (by decide) rfl k6 dX3_travel_219 ?_
      obtain ⟨g53, h⟩ := gd_e h
      refine x_aald (pc := 222) C hP k52 (by decide) (by decide) (inB_vp g53) dX3_travel_222 ?_
      have k54 : wk LC (rfC (rfC (rfC c0 0) 0) (Int32.toNatClampNeg (v49 (rfC (rfC c0 3) (Int32.toNatClampNeg (i1 + 1))) 0))) 4 := wt_a wT_C k52 (by decide) (inB_vp g53) rfl
      refine x_geti (pc := 223) C hP ck_4 1 fl_X3_147 (by decide) rfl k54 dX3_travel_223 ?_
      refine lv_aload (pc := 226) C.1 C.2.1 dX3_travel_226 (lv_at hl 7 rfl) ?_
      refine x_geti (pc := 228) C hP ck_8 2 fl_X3_100 (by decide) rfl k6 dX3_travel_228 ?_
      refine lv_aload (pc := 231) C.1 C.2.1 dX3_travel_231 (lv_at hl 8 rfl) ?_
      refine x_getr (pc := 233) C hP ck_8 4 fl_X3_114 (by decide) rfl k3 dX3_travel_233 ?_
      have k55 : wk LC (rfC (rfC (rfC c0 3) (Int32.toNatClampNeg i1)) 4) 12 := wt_f wT_C k3 4 (by decide) rfl rfl
      refine lv_iload (pc := 236) C.1 C.2.1 dX3_travel_236 (lv_at hl 13 rfl) ?_
      obtain ⟨g56, h⟩ := gd_e h
      refine x_iald (pc := 238) C hP k55 (inB_vp g56) dX3_travel_238 ?_
      obtain ⟨v58, hc57, h⟩ := bd_e h
      refine x_callv (pc := 239) C hP hS mi_X1_sale ck_1 k47 ml_X3_179 (hR.le (by omega)) (Nat.zero_le _) (Nat.zero_le _) [.ref (ad q29), .int x50, .int (v49 (rfC (rfC (rfC c0 0) 0) (Int32.toNatClampNeg (v49 (rfC (rfC c0 3) (Int32.toNatClampNeg (i1 + 1))) 0))) 1), .int (v49 (rfC (rfC c0 3) (Int32.toNatClampNeg (i1 + 1))) 2), .int (v49 (rfC (rfC (rfC c0 3) (Int32.toNatClampNeg i1)) 4) (Int32.toNatClampNeg i4))] rfl hl.1 rfl (Nat.le_of_ble_eq_true rfl) dX3_travel_239 (m_X1_sale hI k47 k30 hc57) (fun H locs hP hS => ?_)
      refine lv_aload (pc := 242) C.1 C.2.1 dX3_travel_242 (lv_at hl 7 rfl) ?_
      refine lv_aload_n (pc := 244) C.1 C.2.1 dX3_travel_244 rfl (lv_at hl 9 rfl) ?_
      refine x_getr (pc := 245) C hP ck_3 2 fl_X3_21 (by decide) rfl kc0 dX3_travel_245 ?_
      have k59 : wk LC (rfC c0 2) 1 := wt_f wT_C kc0 2 (by decide) rfl rfl
      refine x_geti (pc := 248) C hP ck_1 2 fl_X3_158 (by decide) rfl k59 dX3_travel_248 ?_
      refine x_put (pc := 251) C hI hP hS ck_8 2 fl_X3_100 (by decide) rfl rfl k6 rfl rfl dX3_travel_251 (fun H locs hP hS => ?_)
      obtain ⟨v60, h, hP⟩ := nv_p (P := fun z => va_P D vwCl (wd LC cy ad z) H) h hP
      refine lv_aload_n (pc := 254) C.1 C.2.1 dX3_travel_254 rfl (lv_at hl 9 rfl) ?_
      refine lv_aload (pc := 255) C.1 C.2.1 dX3_travel_255 (lv_at hl 4 rfl) ?_
      refine lv_aload_n (pc := 257) C.1 C.2.1 dX3_travel_257 rfl (lv_at hl 9 rfl) ?_
      refine x_getr (pc := 258) C hP ck_3 2 fl_X3_21 (by decide) rfl kc0 dX3_travel_258 ?_
      have k61 : wk LC (rfC c0 2) 1 := wt_f wT_C kc0 2 (by decide) rfl rfl
      refine x_geti (pc := 261) C hP ck_1 1 fl_X3_162 (by decide) rfl k61 dX3_travel_261 ?_
      refine lv_aload (pc := 264) C.1 C.2.1 dX3_travel_264 (lv_at hl 7 rfl) ?_
      refine x_geti (pc := 266) C hP ck_8 1 fl_X3_97 (by decide) rfl k6 dX3_travel_266 ?_
      obtain ⟨v63, hc62, h⟩ := bd_e h
      refine x_callv (pc := 269) C hP hS mi_X3_leave ck_3 kc0 ml_X3_175 (hR.le (by omega)) (Nat.zero_le _) (Nat.zero_le _) [.ref (ad q29), .int (v60 (rfC c0 2) 1), .int (v60 (rfC (rfC c0 3) (Int32.toNatClampNeg (i1 + 1))) 1)] rfl hl.1 rfl (Nat.le_of_ble_eq_true rfl) dX3_travel_269 (m_X3_leave hI kc0 k30 hc62) (fun H locs hP hS => ?_)
      refine lv_aload_n (pc := 272) C.1 C.2.1 dX3_travel_272 rfl (lv_at hl 9 rfl) ?_
      refine lv_iload_n (pc := 273) C.1 C.2.1 dX3_travel_273 rfl (lv_at hl 10 rfl) ?_
      refine lv_iconst (pc := 274) (v := 1) C.1 C.2.1 dX3_travel_274 (by decide) ?_
      refine lv_iadd (pc := 275) C.1 C.2.1 dX3_travel_275 ?_
      obtain ⟨v65, hc64, h⟩ := bd_e h
      refine x_callv (pc := 276) C hP hS mi_X3_extend ck_3 kc0 ml_X3_90 (hR.le (by omega)) (Nat.zero_le _) (Nat.zero_le _) [.int (i1 + 1)] rfl hl.1 rfl (Nat.le_of_ble_eq_true rfl) dX3_travel_276 (hrcE c0 (i1 + 1) v63 _ kc0 hc64) (fun H locs hP hS => ?_)
      refine lv_aload_n (pc := 279) C.1 C.2.1 dX3_travel_279 rfl (lv_at hl 9 rfl) ?_
      refine lv_aload (pc := 280) C.1 C.2.1 dX3_travel_280 (lv_at hl 5 rfl) ?_
      refine lv_iload (pc := 282) C.1 C.2.1 dX3_travel_282 (lv_at hl 3 rfl) ?_
      refine lv_iload (pc := 284) C.1 C.2.1 dX3_travel_284 (lv_at hl 2 rfl) ?_
      obtain ⟨v67, hc66, h⟩ := bd_e h
      refine x_callv (pc := 286) C hP hS mi_X3_leave ck_3 kc0 ml_X3_175 (hR.le (by omega)) (Nat.zero_le _) (Nat.zero_le _) [.ref (ad q24), .int x33, .int x36] rfl hl.1 rfl (Nat.le_of_ble_eq_true rfl) dX3_travel_286 (m_X3_leave hI kc0 k25 hc66) (fun H locs hP hS => ?_)
      refine lv_aload_n (pc := 289) C.1 C.2.1 dX3_travel_289 rfl (lv_at hl 9 rfl) ?_
      refine lv_aload (pc := 290) C.1 C.2.1 dX3_travel_290 (lv_at hl 4 rfl) ?_
      refine lv_iload (pc := 292) C.1 C.2.1 dX3_travel_292 (lv_at hl 1 rfl) ?_
      refine lv_iload (pc := 294) C.1 C.2.1 dX3_travel_294 (lv_at hl 0 rfl) ?_
      obtain ⟨v69, hc68, h⟩ := bd_e h
      refine x_callv (pc := 296) C hP hS mi_X3_leave ck_3 kc0 ml_X3_175 (hR.le (by omega)) (Nat.zero_le _) (Nat.zero_le _) [.ref (ad q29), .int x39, .int x42] rfl hl.1 rfl (Nat.le_of_ble_eq_true rfl) dX3_travel_296 (m_X3_leave hI kc0 k30 hc68) (fun H locs hP hS => ?_)
      exact x_vret (pc := 299) C hr hlk hP hS h dX3_travel_299
    · replace h := if_t h b83
      refine lv_aload_n (pc := 86) C.1 C.2.1 dX3_travel_86 rfl (lv_at hl 3 rfl) ?_
      refine lv_iload_n (pc := 87) C.1 C.2.1 dX3_travel_87 rfl (lv_at hl 4 rfl) ?_
      refine lv_iconst (pc := 88) (v := 1) C.1 C.2.1 dX3_travel_88 (by decide) ?_
      refine lv_iadd (pc := 89) C.1 C.2.1 dX3_travel_89 ?_
      obtain ⟨v71, hc70, h⟩ := bd_e h
      refine x_callv (pc := 90) C hP hS mi_X3_extend ck_3 kc0 ml_X3_90 (hR.le (by omega)) (Nat.zero_le _) (Nat.zero_le _) [.int (i1 + 1)] rfl hl.1 rfl (Nat.le_of_ble_eq_true rfl) dX3_travel_90 (hrcE c0 (i1 + 1) v18 _ kc0 hc70) (fun H locs hP hS => ?_)
      exact x_vret (pc := 93) C hr hlk hP hS h dX3_travel_93
  · replace h := if_f h b40
    exact x_vret (pc := 43) C hr hlk hP hS h dX3_travel_43
set_option maxRecDepth 100000 in
theorem m_X3_travel (rcE : Nat → Int32 → VV → Option (VV)) (hI : wI LC ad) (hrcE : ∀ (o : Nat) (a0 : Int32) (v vZ : VV), wk LC o 3 → rcE o a0 v = some vZ → Met l yX3_extend (Cond.code yX3_extend cX3_extend 6 none :: wsG) (rmL (d + 5)) (pcG LC cy ad D [.ref (ad o), .int a0] v) (qvG LC cy ad D vZ) 0 0 (wA LC ad)) {c0 : Nat} {i1 : Int32} {i2 : Int32} {i3 : Int32} {i4 : Int32} {v : VV} {vZ : VV} (kc0 : wk LC c0 3) (h : F_X3_travel rcE c0 i1 i2 i3 i4 v = some vZ) : Met l yX3_travel (Cond.code yX3_travel cX3_travel 14 none :: wsG) (rmL (d + 6)) (pcG LC cy ad D [.ref (ad c0), .int i1, .int i2, .int i3, .int i4] v) (qvG LC cy ad D vZ) 0 0 (wA LC ad) := by
  refine Met.ofW (cc := cX3_travel) (maxL := 14) (ret := none) (by decide) rfl ?_
  intro p e s m args below meth c s₁ B hml hv
  obtain ⟨rfl, hP, hK⟩ := hv
  have hts := atoms_spec (ws := Cond.code yX3_travel cX3_travel 14 none :: wsG) B.pre
  have hown : s.vm.findClass RX3 = some m.cls := findClass_of_methodNamed B.named
  have C : Cx p s m _ c cX3_travel 14 RX3 D cy := ⟨B.exec, B.bytes, hml, hown, fun w hw => hts w (List.mem_cons_of_mem _ hw), hK⟩
  have hl := lv_entry ([.ref (ad c0), .int i1, .int i2, .int i3, .int i4]) (n := 14) (Nat.le_of_ble_eq_true rfl)
  rw [lg_entry_eq]
  generalize (lg_sl ([.ref (ad c0), .int i1, .int i2, .int i3, .int i4]) ++ List.replicate (14 - (lg_sl ([.ref (ad c0), .int i1, .int i2, .int i3, .int i4])).length) Slot.unset).toArray = ls at hl ⊢
  have hl : lv_has ls 14 [(0, .ref (ad c0)), (1, .int i1), (2, .int i2), (3, .int i3), (4, .int i4)] := hl
  exact w_X3_travel rcE C hI B.returns B.notSynchronized (RoL_rm _) hrcE c0 i1 i2 i3 i4 v _ _ _ kc0 h hP va_S.rf (lv_sub hl [0, 1, 2, 3, 4] rfl)
def f_X3_extend_b105 (rcT : Nat → Int32 → Int32 → Int32 → Int32 → VV → Option (VV)) (k80 : Nat → Int32 → Nat → Int32 → Int32 → Int32 → VV → Option (VV)) (c0 : Nat) (i1 : Int32) (c2 : Nat) (i3 : Int32) (i4 : Int32) (i5 : Int32) (v : VV) : Option (VV) :=
  (rcT c0 i1 i3 i4 i5 v).bind fun v15 =>
  nv (i5 + 1) fun x16 =>
  k80 c0 i1 c2 i3 i4 x16 v15
def f_X3_extend_l80 (rcT : Nat → Int32 → Int32 → Int32 → Int32 → VV → Option (VV)) (k121 : Nat → Int32 → Nat → Int32 → VV → Option (VV)) : Nat → Nat → Int32 → Nat → Int32 → Int32 → Int32 → VV → Option (VV)
  | 0, _, _, _, _, _, _, _ => none
  | n + 1, c0, i1, c2, i3, i4, i5, v =>
    if (3 < i5) then
      k121 c0 i1 c2 i3 v
    else
      gd (inB i5 (lnC (rfC c2 4)) = true) <|
      if (0 < (v (rfC c2 4) (Int32.toNatClampNeg i5))) then
        f_X3_extend_b105 rcT (fun c0 i1 c2 i3 i4 i5 v => f_X3_extend_l80 rcT k121 n c0 i1 c2 i3 i4 i5 v) c0 i1 c2 i3 i4 i5 v
      else
        if (i5 = (v c2 3)) then
          f_X3_extend_b105 rcT (fun c0 i1 c2 i3 i4 i5 v => f_X3_extend_l80 rcT k121 n c0 i1 c2 i3 i4 i5 v) c0 i1 c2 i3 i4 i5 v
        else
          nv (i5 + 1) fun x17 =>
          f_X3_extend_l80 rcT k121 n c0 i1 c2 i3 i4 x17 v
def f_X3_extend_l31 (rcT : Nat → Int32 → Int32 → Int32 → Int32 → VV → Option (VV)) : Nat → Nat → Int32 → Nat → Int32 → VV → Option (VV)
  | 0, _, _, _, _, _ => none
  | n + 1, c0, i1, c2, i3, v =>
    if ((v (rfC c0 0) 3) ≤ i3) then
      some v
    else
      bi (F_X9_openLength (rfC c0 0) (v c2 0) i3 v) fun x10 v9 =>
      if (x10 = 0) then
        nv (i3 + 1) fun x11 =>
        f_X3_extend_l31 rcT n c0 i1 c2 x11 v9
      else
        if (((v9 c2 1) + x10) ≤ 999) then
          f_X3_extend_l80 rcT (fun c0_18 i1_18 c2_18 i3_18 v_18 =>
          nv (i3_18 + 1) fun x19 =>
          f_X3_extend_l31 rcT n c0_18 i1_18 c2_18 x19 v_18) FU c0 i1 c2 i3 x10 0 v9
        else
          nv (i3 + 1) fun x20 =>
          f_X3_extend_l31 rcT n c0 i1 c2 x20 v9
def f_X3_extend (rcT : Nat → Int32 → Int32 → Int32 → Int32 → VV → Option (VV)) (c0 : Nat) (i1 : Int32) (v : VV) : Option (VV) :=
  gd (inB i1 (lnC (rfC c0 3)) = true) <|
  if (i1 < (v c0 8)) then
    (F_X3_buyEach c0 (rfC (rfC c0 3) (Int32.toNatClampNeg i1)) v).bind fun v5 =>
    f_X3_extend_l31 rcT FU c0 i1 (rfC (rfC c0 3) (Int32.toNatClampNeg i1)) 0 v5
  else
    (F_X3_compare c0 (v (rfC (rfC c0 3) (Int32.toNatClampNeg i1)) 2) v).bind fun v22 =>
    some v22
abbrev F_X3_extend (rcT : Nat → Int32 → Int32 → Int32 → Int32 → VV → Option (VV)) (c0 : Nat) (i1 : Int32) (v : VV) : Option (VV) := f_X3_extend rcT c0 i1 v
set_option maxHeartbeats 4000000 in
set_option maxRecDepth 100000 in
theorem w_X3_extend_b105 (rcT : Nat → Int32 → Int32 → Int32 → Int32 → VV → Option (VV)) (C : Cx p s m args c cX3_extend 6 RX3 D cy) (hI : wI LC ad) (hr : meth.sig.returnType = none) (hlk : meth.locks = false) (hR : RoL (d + 7) R) (hrcT : ∀ (o : Nat) (a0 : Int32) (a1 : Int32) (a2 : Int32) (a3 : Int32) (v vZ : VV), wk LC o 3 → rcT o a0 a1 a2 a3 v = some vZ → Met l yX3_travel (Cond.code yX3_travel cX3_travel 14 none :: wsG) (rmL (d + 6)) (pcG LC cy ad D [.ref (ad o), .int a0, .int a1, .int a2, .int a3] v) (qvG LC cy ad D vZ) 0 0 (wA LC ad)) (k80 : Nat → Int32 → Nat → Int32 → Int32 → Int32 → VV → Option (VV)) {vZ : VV} (h80 : ∀ (c0 : Nat) (i1 : Int32) (c2 : Nat) (i3 : Int32) (i4 : Int32) (i5 : Int32) (v : VV) (H : Heap) (locs : List Loc) (ls : Array Slot), wk LC c0 3 → wk LC c2 8 → k80 c0 i1 c2 i3 i4 i5 v = some vZ → va_P D vwCl (wd LC cy ad v) H → va_S (wA LC ad) s.heap H locs → lv_has ls 6 [(0, .ref (ad c0)), (1, .int i1), (2, .ref (ad c2)), (3, .int i3), (4, .int i4), (5, .int i5)] → W p l e R s m args below meth c H locs 0 0 (MQ below (qvG LC cy ad D vZ) args s 0 0 (wA LC ad)) (F0 m 80 ls [])) : ∀ (c0 : Nat) (i1 : Int32) (c2 : Nat) (i3 : Int32) (i4 : Int32) (i5 : Int32) (v : VV) (H : Heap) (locs : List Loc) (ls : Array Slot), wk LC c0 3 → wk LC c2 8 → f_X3_extend_b105 rcT k80 c0 i1 c2 i3 i4 i5 v = some vZ → va_P D vwCl (wd LC cy ad v) H → va_S (wA LC ad) s.heap H locs → lv_has ls 6 [(0, .ref (ad c0)), (1, .int i1), (2, .ref (ad c2)), (3, .int i3), (4, .int i4), (5, .int i5)] → W p l e R s m args below meth c H locs 0 0 (MQ below (qvG LC cy ad D vZ) args s 0 0 (wA LC ad)) (F0 m 105 ls []) := by
  intro c0 i1 c2 i3 i4 i5 v H locs ls kc0 kc2 h hP hS hl
  unfold f_X3_extend_b105 at h
  refine lv_aload_n (pc := 105) C.1 C.2.1 dX3_extend_105 rfl (lv_at hl 0 rfl) ?_
  refine lv_iload_n (pc := 106) C.1 C.2.1 dX3_extend_106 rfl (lv_at hl 1 rfl) ?_
  refine lv_iload_n (pc := 107) C.1 C.2.1 dX3_extend_107 rfl (lv_at hl 3 rfl) ?_
  refine lv_iload (pc := 108) C.1 C.2.1 dX3_extend_108 (lv_at hl 4 rfl) ?_
  refine lv_iload (pc := 110) C.1 C.2.1 dX3_extend_110 (lv_at hl 5 rfl) ?_
  obtain ⟨v15, hc14, h⟩ := bd_e h
  refine x_callv (pc := 112) C hP hS mi_X3_travel ck_3 kc0 ml_X3_120 (hR.le (by omega)) (Nat.zero_le _) (Nat.zero_le _) [.int i1, .int i3, .int i4, .int i5] rfl hl.1 rfl (Nat.le_of_ble_eq_true rfl) dX3_extend_112 (hrcT c0 i1 i3 i4 i5 v _ kc0 hc14) (fun H locs hP hS => ?_)
  obtain ⟨x16, ex16⟩ : ∃ y : Int32, y = i5 + 1 := ⟨_, rfl⟩
  replace h := nv_e h ex16
  refine lv_iinc (pc := 115) (v := x16) (lv' := [(5, .int x16), (0, .ref (ad c0)), (1, .int i1), (2, .ref (ad c2)), (3, .int i3), (4, .int i4)]) C.1 C.2.1 dX3_extend_115 hl (k := 5) rfl (by rw [ex16]; rfl) (by decide) rfl (fun ls hl => ?_)
  clear ex16
  refine lv_goto (pc := 118) (tgt := 80) C.1 C.2.1 dX3_extend_118 (by decide) ?_
  exact h80 c0 i1 c2 i3 i4 x16 v15 _ _ _ kc0 kc2 h hP hS (lv_sub hl [1, 2, 3, 4, 5, 0] rfl)
set_option maxHeartbeats 4000000 in
set_option maxRecDepth 100000 in
theorem w_X3_extend_l80 (rcT : Nat → Int32 → Int32 → Int32 → Int32 → VV → Option (VV)) (C : Cx p s m args c cX3_extend 6 RX3 D cy) (hI : wI LC ad) (hr : meth.sig.returnType = none) (hlk : meth.locks = false) (hR : RoL (d + 7) R) (hrcT : ∀ (o : Nat) (a0 : Int32) (a1 : Int32) (a2 : Int32) (a3 : Int32) (v vZ : VV), wk LC o 3 → rcT o a0 a1 a2 a3 v = some vZ → Met l yX3_travel (Cond.code yX3_travel cX3_travel 14 none :: wsG) (rmL (d + 6)) (pcG LC cy ad D [.ref (ad o), .int a0, .int a1, .int a2, .int a3] v) (qvG LC cy ad D vZ) 0 0 (wA LC ad)) (k121 : Nat → Int32 → Nat → Int32 → VV → Option (VV)) {vZ : VV} (h121 : ∀ (c0 : Nat) (i1 : Int32) (c2 : Nat) (i3 : Int32) (v : VV) (H : Heap) (locs : List Loc) (ls : Array Slot), wk LC c0 3 → wk LC c2 8 → k121 c0 i1 c2 i3 v = some vZ → va_P D vwCl (wd LC cy ad v) H → va_S (wA LC ad) s.heap H locs → lv_has ls 6 [(0, .ref (ad c0)), (1, .int i1), (2, .ref (ad c2)), (3, .int i3)] → W p l e R s m args below meth c H locs 0 0 (MQ below (qvG LC cy ad D vZ) args s 0 0 (wA LC ad)) (F0 m 121 ls [])) : ∀ (n : Nat) (c0 : Nat) (i1 : Int32) (c2 : Nat) (i3 : Int32) (i4 : Int32) (i5 : Int32) (v : VV) (H : Heap) (locs : List Loc) (ls : Array Slot), wk LC c0 3 → wk LC c2 8 → f_X3_extend_l80 rcT k121 n c0 i1 c2 i3 i4 i5 v = some vZ → va_P D vwCl (wd LC cy ad v) H → va_S (wA LC ad) s.heap H locs → lv_has ls 6 [(0, .ref (ad c0)), (1, .int i1), (2, .ref (ad c2)), (3, .int i3), (4, .int i4), (5, .int i5)] → W p l e R s m args below meth c H locs 0 0 (MQ below (qvG LC cy ad D vZ) args s 0 0 (wA LC ad)) (F0 m 80 ls []) := by
  intro n
  induction n with
  | zero => intro c0 i1 c2 i3 i4 i5 v H locs ls kc0 kc2 h hP hS hl; exact absurd h (by simp [f_X3_extend_l80])
  | succ n ih =>
    intro c0 i1 c2 i3 i4 i5 v H locs ls kc0 kc2 h hP hS hl
    rw [f_X3_extend_l80] at h
    refine lv_iload (pc := 80) C.1 C.2.1 dX3_extend_80 (lv_at hl 5 rfl) ?_
    refine lv_iconst (pc := 82) (v := 3) C.1 C.2.1 dX3_extend_82 (by decide) ?_
    refine lv_icmp_gt (pc := 83) (tgt := 121) C.1 C.2.1 dX3_extend_83 (by decide) (fun b83 => ?_) (fun b83 => ?_)
    · replace h := if_t h b83
      exact h121 c0 i1 c2 i3 v _ _ _ kc0 kc2 h hP hS (lv_sub hl [0, 1, 2, 3] rfl)
    · replace h := if_f h b83
      refine lv_aload_n (pc := 86) C.1 C.2.1 dX3_extend_86 rfl (lv_at hl 2 rfl) ?_
      refine x_getr (pc := 87) C hP ck_8 4 fl_X3_114 (by decide) rfl kc2 dX3_extend_87 ?_
      have k12 : wk LC (rfC c2 4) 12 := wt_f wT_C kc2 4 (by decide) rfl rfl
      refine lv_iload (pc := 90) C.1 C.2.1 dX3_extend_90 (lv_at hl 5 rfl) ?_
      obtain ⟨g13, h⟩ := gd_e h
      refine x_iald (pc := 92) C hP k12 (inB_vp g13) dX3_extend_92 ?_
      refine lv_if_gt (pc := 93) (tgt := 105) C.1 C.2.1 dX3_extend_93 (by decide) (fun b93 => ?_) (fun b93 => ?_)
      · replace h := if_t h b93
        exact w_X3_extend_b105 rcT C hI hr hlk hR hrcT _ (fun c0 i1 c2 i3 i4 i5 v H locs ls kc0 kc2 h hP hS hl => ih c0 i1 c2 i3 i4 i5 v H locs ls kc0 kc2 h hP hS hl) c0 i1 c2 i3 i4 i5 v _ _ _ kc0 kc2 h hP hS (lv_sub hl [0, 1, 2, 3, 4, 5] rfl)
      · replace h := if_f h b93
        refine lv_iload (pc := 96) C.1 C.2.1 dX3_extend_96 (lv_at hl 5 rfl) ?_
        refine lv_aload_n (pc := 98) C.1 C.2.1 dX3_extend_98 rfl (lv_at hl 2 rfl) ?_
        refine x_geti (pc := 99) C hP ck_8 3 fl_X3_117 (by decide) rfl kc2 dX3_extend_99 ?_
        refine lv_icmp_ne (pc := 102) (tgt := 115) C.1 C.2.1 dX3_extend_102 (by decide) (fun b102 => ?_) (fun b102 => ?_)
        · replace h := if_f h b102
          obtain ⟨x17, ex17⟩ : ∃ y : Int32, y = i5 + 1 := ⟨_, rfl⟩
          replace h := nv_e h ex17
          refine lv_iinc (pc := 115) (v := x17) (lv' := [(5, .int x17), (0, .ref (ad c0)), (1, .int i1), (2, .ref (ad c2)), (3, .int i3), (4, .int i4)]) C.1 C.2.1 dX3_extend_115 hl (k := 5) rfl (by rw [ex17]; rfl) (by decide) rfl (fun ls hl => ?_)
          clear ex17
          refine lv_goto (pc := 118) (tgt := 80) C.1 C.2.1 dX3_extend_118 (by decide) ?_
          exact ih c0 i1 c2 i3 i4 x17 v _ _ _ kc0 kc2 h hP hS (lv_sub hl [1, 2, 3, 4, 5, 0] rfl)
        · replace h := if_t h b102
          exact w_X3_extend_b105 rcT C hI hr hlk hR hrcT _ (fun c0 i1 c2 i3 i4 i5 v H locs ls kc0 kc2 h hP hS hl => ih c0 i1 c2 i3 i4 i5 v H locs ls kc0 kc2 h hP hS hl) c0 i1 c2 i3 i4 i5 v _ _ _ kc0 kc2 h hP hS (lv_sub hl [0, 1, 2, 3, 4, 5] rfl)
set_option maxHeartbeats 4000000 in
set_option maxRecDepth 100000 in
theorem w_X3_extend_l31 (rcT : Nat → Int32 → Int32 → Int32 → Int32 → VV → Option (VV)) (C : Cx p s m args c cX3_extend 6 RX3 D cy) (hI : wI LC ad) (hr : meth.sig.returnType = none) (hlk : meth.locks = false) (hR : RoL (d + 7) R) (hrcT : ∀ (o : Nat) (a0 : Int32) (a1 : Int32) (a2 : Int32) (a3 : Int32) (v vZ : VV), wk LC o 3 → rcT o a0 a1 a2 a3 v = some vZ → Met l yX3_travel (Cond.code yX3_travel cX3_travel 14 none :: wsG) (rmL (d + 6)) (pcG LC cy ad D [.ref (ad o), .int a0, .int a1, .int a2, .int a3] v) (qvG LC cy ad D vZ) 0 0 (wA LC ad)) {vZ : VV} : ∀ (n : Nat) (c0 : Nat) (i1 : Int32) (c2 : Nat) (i3 : Int32) (v : VV) (H : Heap) (locs : List Loc) (ls : Array Slot), wk LC c0 3 → wk LC c2 8 → f_X3_extend_l31 rcT n c0 i1 c2 i3 v = some vZ → va_P D vwCl (wd LC cy ad v) H → va_S (wA LC ad) s.heap H locs → lv_has ls 6 [(0, .ref (ad c0)), (1, .int i1), (2, .ref (ad c2)), (3, .int i3)] → W p l e R s m args below meth c H locs 0 0 (MQ below (qvG LC cy ad D vZ) args s 0 0 (wA LC ad)) (F0 m 31 ls []) := by
  intro n
  induction n with
  | zero => intro c0 i1 c2 i3 v H locs ls kc0 kc2 h hP hS hl; exact absurd h (by simp [f_X3_extend_l31])
  | succ n ih =>
    intro c0 i1 c2 i3 v H locs ls kc0 kc2 h hP hS hl
    rw [f_X3_extend_l31] at h
    refine lv_iload_n (pc := 31) C.1 C.2.1 dX3_extend_31 rfl (lv_at hl 3 rfl) ?_
    refine lv_aload_n (pc := 32) C.1 C.2.1 dX3_extend_32 rfl (lv_at hl 0 rfl) ?_
    refine x_getr (pc := 33) C hP ck_3 0 fl_X3_44 (by decide) rfl kc0 dX3_extend_33 ?_
    have k6 : wk LC (rfC c0 0) 9 := wt_f wT_C kc0 0 (by decide) rfl rfl
    refine x_geti (pc := 36) C hP ck_9 3 fl_X3_66 (by decide) rfl k6 dX3_extend_36 ?_
    refine lv_icmp_ge (pc := 39) (tgt := 127) C.1 C.2.1 dX3_extend_39 (by decide) (fun b39 => ?_) (fun b39 => ?_)
    · replace h := if_t h b39
      exact x_vret (pc := 127) C hr hlk hP hS h dX3_extend_127
    · replace h := if_f h b39
      refine lv_aload_n (pc := 42) C.1 C.2.1 dX3_extend_42 rfl (lv_at hl 0 rfl) ?_
      refine x_getr (pc := 43) C hP ck_3 0 fl_X3_44 (by decide) rfl kc0 dX3_extend_43 ?_
      have k7 : wk LC (rfC c0 0) 9 := wt_f wT_C kc0 0 (by decide) rfl rfl
      refine lv_aload_n (pc := 46) C.1 C.2.1 dX3_extend_46 rfl (lv_at hl 2 rfl) ?_
      refine x_geti (pc := 47) C hP ck_8 0 fl_X3_94 (by decide) rfl kc2 dX3_extend_47 ?_
      refine lv_iload_n (pc := 50) C.1 C.2.1 dX3_extend_50 rfl (lv_at hl 3 rfl) ?_
      obtain ⟨x10, v9, hc8, h⟩ := bi_e h
      refine x_calli (pc := 51) C hP hS mi_X9_openLength ck_9 k7 ml_X3_110 (hR.le (by omega)) (Nat.zero_le _) (Nat.zero_le _) [.int (v c2 0), .int i3] rfl hl.1 rfl (Nat.le_of_ble_eq_true rfl) dX3_extend_51 (m_X9_openLength hI k7 hc8) (fun H locs hP hS => ?_)
      refine lv_istore (pc := 54) (lv' := [(4, .int x10), (0, .ref (ad c0)), (1, .int i1), (2, .ref (ad c2)), (3, .int i3)]) C.1 C.2.1 dX3_extend_54 hl (by decide) rfl (fun ls hl => ?_)
      refine lv_iload (pc := 56) C.1 C.2.1 dX3_extend_56 (lv_at hl 0 rfl) ?_
      refine lv_if_eq (pc := 58) (tgt := 121) C.1 C.2.1 dX3_extend_58 (by decide) (fun b58 => ?_) (fun b58 => ?_)
      · replace h := if_t h b58
        obtain ⟨x11, ex11⟩ : ∃ y : Int32, y = i3 + 1 := ⟨_, rfl⟩
        replace h := nv_e h ex11
        refine lv_iinc (pc := 121) (v := x11) (lv' := [(3, .int x11), (4, .int x10), (0, .ref (ad c0)), (1, .int i1), (2, .ref (ad c2))]) C.1 C.2.1 dX3_extend_121 hl (k := 4) rfl (by rw [ex11]; rfl) (by decide) rfl (fun ls hl => ?_)
        clear ex11
        refine lv_goto (pc := 124) (tgt := 31) C.1 C.2.1 dX3_extend_124 (by decide) ?_
        exact ih c0 i1 c2 x11 v9 _ _ _ kc0 kc2 h hP hS (lv_sub hl [2, 3, 4, 0] rfl)
      · replace h := if_f h b58
        refine lv_aload_n (pc := 61) C.1 C.2.1 dX3_extend_61 rfl (lv_at hl 3 rfl) ?_
        refine x_geti (pc := 62) C hP ck_8 1 fl_X3_97 (by decide) rfl kc2 dX3_extend_62 ?_
        refine lv_iload (pc := 65) C.1 C.2.1 dX3_extend_65 (lv_at hl 0 rfl) ?_
        refine lv_iadd (pc := 67) C.1 C.2.1 dX3_extend_67 ?_
        refine lv_sipush (pc := 68) (v := 999) C.1 C.2.1 dX3_extend_68 (by decide) ?_
        refine lv_icmp_le (pc := 71) (tgt := 77) C.1 C.2.1 dX3_extend_71 (by decide) (fun b71 => ?_) (fun b71 => ?_)
        · replace h := if_t h b71
          refine lv_iconst (pc := 77) (v := 0) C.1 C.2.1 dX3_extend_77 (by decide) ?_
          refine lv_istore (pc := 78) (lv' := [(5, .int 0), (4, .int x10), (0, .ref (ad c0)), (1, .int i1), (2, .ref (ad c2)), (3, .int i3)]) C.1 C.2.1 dX3_extend_78 hl (by decide) rfl (fun ls hl => ?_)
          refine w_X3_extend_l80 rcT C hI hr hlk hR hrcT _ ?_ FU c0 i1 c2 i3 x10 0 v9 _ _ _ kc0 kc2 h hP hS (lv_sub hl [2, 3, 4, 5, 1, 0] rfl)
          intro c0_18 i1_18 c2_18 i3_18 v_18 H locs ls kc0_18 kc2_18 h hP hS hl
          obtain ⟨x19, ex19⟩ : ∃ y : Int32, y = i3_18 + 1 := ⟨_, rfl⟩
          replace h := nv_e h ex19
          refine lv_iinc (pc := 121) (v := x19) (lv' := [(3, .int x19), (0, .ref (ad c0_18)), (1, .int i1_18), (2, .ref (ad c2_18))]) C.1 C.2.1 dX3_extend_121 hl (k := 3) rfl (by rw [ex19]; rfl) (by decide) rfl (fun ls hl => ?_)
          clear ex19
          refine lv_goto (pc := 124) (tgt := 31) C.1 C.2.1 dX3_extend_124 (by decide) ?_
          exact ih c0_18 i1_18 c2_18 x19 v_18 _ _ _ kc0_18 kc2_18 h hP hS (lv_sub hl [1, 2, 3, 0] rfl)
        · replace h := if_f h b71
          refine lv_goto (pc := 74) (tgt := 121) C.1 C.2.1 dX3_extend_74 (by decide) ?_
          obtain ⟨x20, ex20⟩ : ∃ y : Int32, y = i3 + 1 := ⟨_, rfl⟩
          replace h := nv_e h ex20
          refine lv_iinc (pc := 121) (v := x20) (lv' := [(3, .int x20), (4, .int x10), (0, .ref (ad c0)), (1, .int i1), (2, .ref (ad c2))]) C.1 C.2.1 dX3_extend_121 hl (k := 4) rfl (by rw [ex20]; rfl) (by decide) rfl (fun ls hl => ?_)
          clear ex20
          refine lv_goto (pc := 124) (tgt := 31) C.1 C.2.1 dX3_extend_124 (by decide) ?_
          exact ih c0 i1 c2 x20 v9 _ _ _ kc0 kc2 h hP hS (lv_sub hl [2, 3, 4, 0] rfl)
set_option maxHeartbeats 4000000 in
set_option maxRecDepth 100000 in
theorem w_X3_extend (rcT : Nat → Int32 → Int32 → Int32 → Int32 → VV → Option (VV)) (C : Cx p s m args c cX3_extend 6 RX3 D cy) (hI : wI LC ad) (hr : meth.sig.returnType = none) (hlk : meth.locks = false) (hR : RoL (d + 7) R) (hrcT : ∀ (o : Nat) (a0 : Int32) (a1 : Int32) (a2 : Int32) (a3 : Int32) (v vZ : VV), wk LC o 3 → rcT o a0 a1 a2 a3 v = some vZ → Met l yX3_travel (Cond.code yX3_travel cX3_travel 14 none :: wsG) (rmL (d + 6)) (pcG LC cy ad D [.ref (ad o), .int a0, .int a1, .int a2, .int a3] v) (qvG LC cy ad D vZ) 0 0 (wA LC ad)) {vZ : VV} : ∀ (c0 : Nat) (i1 : Int32) (v : VV) (H : Heap) (locs : List Loc) (ls : Array Slot), wk LC c0 3 → f_X3_extend rcT c0 i1 v = some vZ → va_P D vwCl (wd LC cy ad v) H → va_S (wA LC ad) s.heap H locs → lv_has ls 6 [(0, .ref (ad c0)), (1, .int i1)] → W p l e R s m args below meth c H locs 0 0 (MQ below (qvG LC cy ad D vZ) args s 0 0 (wA LC ad)) (F0 m 0 ls []) := by
  intro c0 i1 v H locs ls kc0 h hP hS hl
  unfold f_X3_extend at h
  refine lv_aload_n (pc := 0) C.1 C.2.1 dX3_extend_0 rfl (lv_at hl 0 rfl) ?_
  refine x_getr (pc := 1) C hP ck_3 3 fl_X3_50 (by decide) rfl kc0 dX3_extend_1 ?_
  have k1 : wk LC (rfC c0 3) 17 := wt_f wT_C kc0 3 (by decide) rfl rfl
  refine lv_iload_n (pc := 4) C.1 C.2.1 dX3_extend_4 rfl (lv_at hl 1 rfl) ?_
  obtain ⟨g2, h⟩ := gd_e h
  refine x_aald (pc := 5) C hP k1 (by decide) (by decide) (inB_vp g2) dX3_extend_5 ?_
  have k3 : wk LC (rfC (rfC c0 3) (Int32.toNatClampNeg i1)) 8 := wt_a wT_C k1 (by decide) (inB_vp g2) rfl
  refine lv_astore_n (pc := 6) (lv' := [(2, .ref (ad (rfC (rfC c0 3) (Int32.toNatClampNeg i1)))), (0, .ref (ad c0)), (1, .int i1)]) C.1 C.2.1 dX3_extend_6 rfl hl (by decide) rfl (fun ls hl => ?_)
  refine lv_iload_n (pc := 7) C.1 C.2.1 dX3_extend_7 rfl (lv_at hl 2 rfl) ?_
  refine lv_aload_n (pc := 8) C.1 C.2.1 dX3_extend_8 rfl (lv_at hl 1 rfl) ?_
  refine x_geti (pc := 9) C hP ck_3 8 fl_X3_55 (by decide) rfl kc0 dX3_extend_9 ?_
  refine lv_icmp_lt (pc := 12) (tgt := 24) C.1 C.2.1 dX3_extend_12 (by decide) (fun b12 => ?_) (fun b12 => ?_)
  · replace h := if_t h b12
    refine lv_aload_n (pc := 24) C.1 C.2.1 dX3_extend_24 rfl (lv_at hl 1 rfl) ?_
    refine lv_aload_n (pc := 25) C.1 C.2.1 dX3_extend_25 rfl (lv_at hl 0 rfl) ?_
    obtain ⟨v5, hc4, h⟩ := bd_e h
    refine x_callv (pc := 26) C hP hS mi_X3_buyEach ck_3 kc0 ml_X3_106 (hR.le (by omega)) (Nat.zero_le _) (Nat.zero_le _) [.ref (ad (rfC (rfC c0 3) (Int32.toNatClampNeg i1)))] rfl hl.1 rfl (Nat.le_of_ble_eq_true rfl) dX3_extend_26 (m_X3_buyEach hI kc0 k3 hc4) (fun H locs hP hS => ?_)
    refine lv_iconst (pc := 29) (v := 0) C.1 C.2.1 dX3_extend_29 (by decide) ?_
    refine lv_istore_n (pc := 30) (lv' := [(3, .int 0), (2, .ref (ad (rfC (rfC c0 3) (Int32.toNatClampNeg i1)))), (0, .ref (ad c0)), (1, .int i1)]) C.1 C.2.1 dX3_extend_30 rfl hl (by decide) rfl (fun ls hl => ?_)
    refine w_X3_extend_l31 rcT C hI hr hlk hR hrcT FU c0 i1 (rfC (rfC c0 3) (Int32.toNatClampNeg i1)) 0 v5 _ _ _ kc0 k3 h hP hS (lv_sub hl [2, 3, 1, 0] rfl)
  · replace h := if_f h b12
    refine lv_aload_n (pc := 15) C.1 C.2.1 dX3_extend_15 rfl (lv_at hl 1 rfl) ?_
    refine lv_aload_n (pc := 16) C.1 C.2.1 dX3_extend_16 rfl (lv_at hl 0 rfl) ?_
    refine x_geti (pc := 17) C hP ck_8 2 fl_X3_100 (by decide) rfl k3 dX3_extend_17 ?_
    obtain ⟨v22, hc21, h⟩ := bd_e h
    refine x_callv (pc := 20) C hP hS mi_X3_compare ck_3 kc0 ml_X3_103 (hR.le (by omega)) (Nat.zero_le _) (Nat.zero_le _) [.int (v (rfC (rfC c0 3) (Int32.toNatClampNeg i1)) 2)] rfl hl.1 rfl (Nat.le_of_ble_eq_true rfl) dX3_extend_20 (m_X3_compare hI kc0 hc21) (fun H locs hP hS => ?_)
    exact x_vret (pc := 23) C hr hlk hP hS h dX3_extend_23
set_option maxRecDepth 100000 in
theorem m_X3_extend (rcT : Nat → Int32 → Int32 → Int32 → Int32 → VV → Option (VV)) (hI : wI LC ad) (hrcT : ∀ (o : Nat) (a0 : Int32) (a1 : Int32) (a2 : Int32) (a3 : Int32) (v vZ : VV), wk LC o 3 → rcT o a0 a1 a2 a3 v = some vZ → Met l yX3_travel (Cond.code yX3_travel cX3_travel 14 none :: wsG) (rmL (d + 6)) (pcG LC cy ad D [.ref (ad o), .int a0, .int a1, .int a2, .int a3] v) (qvG LC cy ad D vZ) 0 0 (wA LC ad)) {c0 : Nat} {i1 : Int32} {v : VV} {vZ : VV} (kc0 : wk LC c0 3) (h : F_X3_extend rcT c0 i1 v = some vZ) : Met l yX3_extend (Cond.code yX3_extend cX3_extend 6 none :: wsG) (rmL (d + 7)) (pcG LC cy ad D [.ref (ad c0), .int i1] v) (qvG LC cy ad D vZ) 0 0 (wA LC ad) := by
  refine Met.ofW (cc := cX3_extend) (maxL := 6) (ret := none) (by decide) rfl ?_
  intro p e s m args below meth c s₁ B hml hv
  obtain ⟨rfl, hP, hK⟩ := hv
  have hts := atoms_spec (ws := Cond.code yX3_extend cX3_extend 6 none :: wsG) B.pre
  have hown : s.vm.findClass RX3 = some m.cls := findClass_of_methodNamed B.named
  have C : Cx p s m _ c cX3_extend 6 RX3 D cy := ⟨B.exec, B.bytes, hml, hown, fun w hw => hts w (List.mem_cons_of_mem _ hw), hK⟩
  have hl := lv_entry ([.ref (ad c0), .int i1]) (n := 6) (Nat.le_of_ble_eq_true rfl)
  rw [lg_entry_eq]
  generalize (lg_sl ([.ref (ad c0), .int i1]) ++ List.replicate (6 - (lg_sl ([.ref (ad c0), .int i1])).length) Slot.unset).toArray = ls at hl ⊢
  have hl : lv_has ls 6 [(0, .ref (ad c0)), (1, .int i1)] := hl
  exact w_X3_extend rcT C hI B.returns B.notSynchronized (RoL_rm _) hrcT c0 i1 v _ _ _ kc0 h hP va_S.rf (lv_sub hl [0, 1] rfl)
def fx_X3_extend : Nat → Nat → Int32 → VV → Option VV
  | 0, _, _, _ => none
  | n + 1, o, a, v => F_X3_extend (F_X3_travel (fx_X3_extend n)) o a v
theorem mx_X3_extend (hI : wI LC ad) : ∀ (n o : Nat) (a : Int32) (v vZ : VV), wk LC o 3 → fx_X3_extend n o a v = some vZ → Met l yX3_extend (Cond.code yX3_extend cX3_extend 6 none :: wsG) (rmL (2 * n + 5)) (pcG LC cy ad D [.ref (ad o), .int a] v) (qvG LC cy ad D vZ) 0 0 (wA LC ad)
  | 0, _, _, _, _, _, h => by cases h
  | n + 1, o, a, v, vZ, k, h => m_X3_extend (d := 2 * n) (F_X3_travel (fx_X3_extend n)) hI (fun o' a0 a1 a2 a3 v' v9 k' h' => m_X3_travel (d := 2 * n) (fx_X3_extend n) hI (mx_X3_extend hI n) k' h') k h
def f_X3_seek_l34 (k105 : Nat → Int32 → Int32 → Int32 → VV → Option (Int32 × VV)) : Nat → Nat → Int32 → Int32 → Int32 → Int32 → VV → Option (Int32 × VV)
  | 0, _, _, _, _, _, _ => none
  | n + 1, c0, i1, i3, i5, i6, v =>
    if (3 ≤ i6) then
      k105 c0 i1 i3 i5 v
    else
      bi (F_X9_shelf (rfC c0 0) i5 i6 v) fun q9 v8 =>
      bi (F_X9_shelf (rfC c0 0) i5 i6 v8) fun q14 v13 =>
      gd (inB (v8 q9 0) (lnC (rfC c0 4)) = true) <|
      nv (wu v13 (rfC c0 4) (Int32.toNatClampNeg (v8 q9 0)) (v13 q14 1)) fun v17 =>
      bi (F_X9_shelf (rfC c0 0) i5 i6 v17) fun q22 v21 =>
      gd (inB (v21 q22 0) (lnC (rfC c0 5)) = true) <|
      nv (wu v21 (rfC c0 5) (Int32.toNatClampNeg (v21 q22 0)) (v21 (rfC c0 0) 4)) fun v26 =>
      nv (i6 + 1) fun x27 =>
      f_X3_seek_l34 k105 n c0 i1 i3 i5 x27 v26
def f_X3_seek_l19 (k111 : Nat → Int32 → Int32 → VV → Option (Int32 × VV)) : Nat → Nat → Int32 → Int32 → Int32 → VV → Option (Int32 × VV)
  | 0, _, _, _, _, _ => none
  | n + 1, c0, i1, i3, i5, v =>
    if ((v (rfC c0 0) 3) ≤ i5) then
      k111 c0 i1 i3 v
    else
      f_X3_seek_l34 (fun c0_28 i1_28 i3_28 i5_28 v_28 =>
      nv (i5_28 + 1) fun x29 =>
      f_X3_seek_l19 k111 n c0_28 i1_28 i3_28 x29 v_28) FU c0 i1 i3 i5 0 v
def f_X3_seek (c0 : Nat) (i1 : Int32) (i2 : Int32) (i3 : Int32) (i4 : Int32) (v : VV) : Option (Int32 × VV) :=
  nv (wu v c0 8 i4) fun v1 =>
  nv (wu v1 c0 9 i2) fun v2 =>
  nv (wu v2 c0 10 0) fun v3 =>
  f_X3_seek_l19 (fun c0_30 i1_30 i3_30 v_30 =>
  gd (inB 0 (lnC (rfC c0_30 3)) = true) <|
  (F_X3_arrive c0_30 (rfC (rfC c0_30 3) (Int32.toNatClampNeg 0)) i1_30 (v_30 (rfC c0_30 0) 4) i3_30 v_30).bind fun v36 =>
  (fx_X3_extend 5 c0_30 0 v36).bind fun v38 =>
  gd ((v38 c0_30 10) &&& 1 = (v38 c0_30 10)) <|
  some ((v38 c0_30 10), v38)) FU c0 i1 i3 0 v3
abbrev F_X3_seek (c0 : Nat) (i1 : Int32) (i2 : Int32) (i3 : Int32) (i4 : Int32) (v : VV) : Option (Int32 × VV) := f_X3_seek c0 i1 i2 i3 i4 v
set_option maxHeartbeats 4000000 in
set_option maxRecDepth 100000 in
theorem w_X3_seek_l34 (C : Cx p s m args c cX3_seek 7 RX3 D cy) (hI : wI LC ad) (hr : meth.sig.returnType = some .boolean) (hlk : meth.locks = false) (hR : RoL 16 R) (k105 : Nat → Int32 → Int32 → Int32 → VV → Option (Int32 × VV)) {rZ : Int32} {vZ : VV} (h105 : ∀ (c0 : Nat) (i1 : Int32) (i3 : Int32) (i5 : Int32) (v : VV) (H : Heap) (locs : List Loc) (ls : Array Slot), wk LC c0 3 → k105 c0 i1 i3 i5 v = some (rZ, vZ) → va_P D vwCl (wd LC cy ad v) H → va_S (wA LC ad) s.heap H locs → lv_has ls 7 [(0, .ref (ad c0)), (1, .int i1), (3, .int i3), (5, .int i5)] → W p l e R s m args below meth c H locs 0 0 (MQ below (qiG LC cy ad D rZ vZ) args s 0 0 (wA LC ad)) (F0 m 105 ls [])) : ∀ (n : Nat) (c0 : Nat) (i1 : Int32) (i3 : Int32) (i5 : Int32) (i6 : Int32) (v : VV) (H : Heap) (locs : List Loc) (ls : Array Slot), wk LC c0 3 → f_X3_seek_l34 k105 n c0 i1 i3 i5 i6 v = some (rZ, vZ) → va_P D vwCl (wd LC cy ad v) H → va_S (wA LC ad) s.heap H locs → lv_has ls 7 [(0, .ref (ad c0)), (1, .int i1), (3, .int i3), (5, .int i5), (6, .int i6)] → W p l e R s m args below meth c H locs 0 0 (MQ below (qiG LC cy ad D rZ vZ) args s 0 0 (wA LC ad)) (F0 m 34 ls []) := by
  intro n
  induction n with
  | zero => intro c0 i1 i3 i5 i6 v H locs ls kc0 h hP hS hl; exact absurd h (by simp [f_X3_seek_l34])
  | succ n ih =>
    intro c0 i1 i3 i5 i6 v H locs ls kc0 h hP hS hl
    rw [f_X3_seek_l34] at h
    refine lv_iload (pc := 34) C.1 C.2.1 dX3_seek_34 (lv_at hl 4 rfl) ?_
    refine lv_iconst (pc := 36) (v := 3) C.1 C.2.1 dX3_seek_36 (by decide) ?_
    refine lv_icmp_ge (pc := 37) (tgt := 105) C.1 C.2.1 dX3_seek_37 (by decide) (fun b37 => ?_) (fun b37 => ?_)
    · replace h := if_t h b37
      exact h105 c0 i1 i3 i5 v _ _ _ kc0 h hP hS (lv_sub hl [0, 1, 2, 3] rfl)
    · replace h := if_f h b37
      refine lv_aload_n (pc := 40) C.1 C.2.1 dX3_seek_40 rfl (lv_at hl 0 rfl) ?_
      refine x_getr (pc := 41) C hP ck_3 4 fl_X3_25 (by decide) rfl kc0 dX3_seek_41 ?_
      have k5 : wk LC (rfC c0 4) 12 := wt_f wT_C kc0 4 (by decide) rfl rfl
      refine lv_aload_n (pc := 44) C.1 C.2.1 dX3_seek_44 rfl (lv_at hl 0 rfl) ?_
      refine x_getr (pc := 45) C hP ck_3 0 fl_X3_44 (by decide) rfl kc0 dX3_seek_45 ?_
      have k6 : wk LC (rfC c0 0) 9 := wt_f wT_C kc0 0 (by decide) rfl rfl
      refine lv_iload (pc := 48) C.1 C.2.1 dX3_seek_48 (lv_at hl 3 rfl) ?_
      refine lv_iload (pc := 50) C.1 C.2.1 dX3_seek_50 (lv_at hl 4 rfl) ?_
      obtain ⟨q9, v8, hc7, h⟩ := bi_e h
      refine x_callr (pc := 52) C hP hS mi_X9_shelf ck_9 k6 ml_X3_71 (hR.le (by decide)) (Nat.zero_le _) (Nat.zero_le _) [.int i5, .int i6] rfl hl.1 rfl (Nat.le_of_ble_eq_true rfl) dX3_seek_52 (m_X9_shelf hI k6 hc7) (fun H locs hP hS => ?_)
      have k10 : wk LC q9 6 := wr_X9_shelf hc7 k6
      refine x_geti (pc := 55) C hP ck_6 0 fl_X3_75 (by decide) rfl k10 dX3_seek_55 ?_
      refine lv_aload_n (pc := 58) C.1 C.2.1 dX3_seek_58 rfl (lv_at hl 0 rfl) ?_
      refine x_getr (pc := 59) C hP ck_3 0 fl_X3_44 (by decide) rfl kc0 dX3_seek_59 ?_
      have k11 : wk LC (rfC c0 0) 9 := wt_f wT_C kc0 0 (by decide) rfl rfl
      refine lv_iload (pc := 62) C.1 C.2.1 dX3_seek_62 (lv_at hl 3 rfl) ?_
      refine lv_iload (pc := 64) C.1 C.2.1 dX3_seek_64 (lv_at hl 4 rfl) ?_
      obtain ⟨q14, v13, hc12, h⟩ := bi_e h
      refine x_callr (pc := 66) C hP hS mi_X9_shelf ck_9 k11 ml_X3_71 (hR.le (by decide)) (Nat.zero_le _) (Nat.zero_le _) [.int i5, .int i6] rfl hl.1 rfl (Nat.le_of_ble_eq_true rfl) dX3_seek_66 (m_X9_shelf hI k11 hc12) (fun H locs hP hS => ?_)
      have k15 : wk LC q14 6 := wr_X9_shelf hc12 k11
      refine x_geti (pc := 69) C hP ck_6 1 fl_X3_80 (by decide) rfl k15 dX3_seek_69 ?_
      obtain ⟨g16, h⟩ := gd_e h
      refine x_iast (pc := 72) C hI hP hS k5 (inB_vp g16) dX3_seek_72 (fun H locs hP hS => ?_)
      obtain ⟨v17, h, hP⟩ := nv_p (P := fun z => va_P D vwCl (wd LC cy ad z) H) h hP
      refine lv_aload_n (pc := 73) C.1 C.2.1 dX3_seek_73 rfl (lv_at hl 0 rfl) ?_
      refine x_getr (pc := 74) C hP ck_3 5 fl_X3_29 (by decide) rfl kc0 dX3_seek_74 ?_
      have k18 : wk LC (rfC c0 5) 12 := wt_f wT_C kc0 5 (by decide) rfl rfl
      refine lv_aload_n (pc := 77) C.1 C.2.1 dX3_seek_77 rfl (lv_at hl 0 rfl) ?_
      refine x_getr (pc := 78) C hP ck_3 0 fl_X3_44 (by decide) rfl kc0 dX3_seek_78 ?_
      have k19 : wk LC (rfC c0 0) 9 := wt_f wT_C kc0 0 (by decide) rfl rfl
      refine lv_iload (pc := 81) C.1 C.2.1 dX3_seek_81 (lv_at hl 3 rfl) ?_
      refine lv_iload (pc := 83) C.1 C.2.1 dX3_seek_83 (lv_at hl 4 rfl) ?_
      obtain ⟨q22, v21, hc20, h⟩ := bi_e h
      refine x_callr (pc := 85) C hP hS mi_X9_shelf ck_9 k19 ml_X3_71 (hR.le (by decide)) (Nat.zero_le _) (Nat.zero_le _) [.int i5, .int i6] rfl hl.1 rfl (Nat.le_of_ble_eq_true rfl) dX3_seek_85 (m_X9_shelf hI k19 hc20) (fun H locs hP hS => ?_)
      have k23 : wk LC q22 6 := wr_X9_shelf hc20 k19
      refine x_geti (pc := 88) C hP ck_6 0 fl_X3_75 (by decide) rfl k23 dX3_seek_88 ?_
      refine lv_aload_n (pc := 91) C.1 C.2.1 dX3_seek_91 rfl (lv_at hl 0 rfl) ?_
      refine x_getr (pc := 92) C hP ck_3 0 fl_X3_44 (by decide) rfl kc0 dX3_seek_92 ?_
      have k24 : wk LC (rfC c0 0) 9 := wt_f wT_C kc0 0 (by decide) rfl rfl
      refine x_geti (pc := 95) C hP ck_9 4 fl_X3_83 (by decide) rfl k24 dX3_seek_95 ?_
      obtain ⟨g25, h⟩ := gd_e h
      refine x_iast (pc := 98) C hI hP hS k18 (inB_vp g25) dX3_seek_98 (fun H locs hP hS => ?_)
      obtain ⟨v26, h, hP⟩ := nv_p (P := fun z => va_P D vwCl (wd LC cy ad z) H) h hP
      obtain ⟨x27, ex27⟩ : ∃ y : Int32, y = i6 + 1 := ⟨_, rfl⟩
      replace h := nv_e h ex27
      refine lv_iinc (pc := 99) (v := x27) (lv' := [(6, .int x27), (0, .ref (ad c0)), (1, .int i1), (3, .int i3), (5, .int i5)]) C.1 C.2.1 dX3_seek_99 hl (k := 4) rfl (by rw [ex27]; rfl) (by decide) rfl (fun ls hl => ?_)
      clear ex27
      refine lv_goto (pc := 102) (tgt := 34) C.1 C.2.1 dX3_seek_102 (by decide) ?_
      exact ih c0 i1 i3 i5 x27 v26 _ _ _ kc0 h hP hS (lv_sub hl [1, 2, 3, 4, 0] rfl)
set_option maxHeartbeats 4000000 in
set_option maxRecDepth 100000 in
theorem w_X3_seek_l19 (C : Cx p s m args c cX3_seek 7 RX3 D cy) (hI : wI LC ad) (hr : meth.sig.returnType = some .boolean) (hlk : meth.locks = false) (hR : RoL 16 R) (k111 : Nat → Int32 → Int32 → VV → Option (Int32 × VV)) {rZ : Int32} {vZ : VV} (h111 : ∀ (c0 : Nat) (i1 : Int32) (i3 : Int32) (v : VV) (H : Heap) (locs : List Loc) (ls : Array Slot), wk LC c0 3 → k111 c0 i1 i3 v = some (rZ, vZ) → va_P D vwCl (wd LC cy ad v) H → va_S (wA LC ad) s.heap H locs → lv_has ls 7 [(0, .ref (ad c0)), (1, .int i1), (3, .int i3)] → W p l e R s m args below meth c H locs 0 0 (MQ below (qiG LC cy ad D rZ vZ) args s 0 0 (wA LC ad)) (F0 m 111 ls [])) : ∀ (n : Nat) (c0 : Nat) (i1 : Int32) (i3 : Int32) (i5 : Int32) (v : VV) (H : Heap) (locs : List Loc) (ls : Array Slot), wk LC c0 3 → f_X3_seek_l19 k111 n c0 i1 i3 i5 v = some (rZ, vZ) → va_P D vwCl (wd LC cy ad v) H → va_S (wA LC ad) s.heap H locs → lv_has ls 7 [(0, .ref (ad c0)), (1, .int i1), (3, .int i3), (5, .int i5)] → W p l e R s m args below meth c H locs 0 0 (MQ below (qiG LC cy ad D rZ vZ) args s 0 0 (wA LC ad)) (F0 m 19 ls []) := by
  intro n
  induction n with
  | zero => intro c0 i1 i3 i5 v H locs ls kc0 h hP hS hl; exact absurd h (by simp [f_X3_seek_l19])
  | succ n ih =>
    intro c0 i1 i3 i5 v H locs ls kc0 h hP hS hl
    rw [f_X3_seek_l19] at h
    refine lv_iload (pc := 19) C.1 C.2.1 dX3_seek_19 (lv_at hl 3 rfl) ?_
    refine lv_aload_n (pc := 21) C.1 C.2.1 dX3_seek_21 rfl (lv_at hl 0 rfl) ?_
    refine x_getr (pc := 22) C hP ck_3 0 fl_X3_44 (by decide) rfl kc0 dX3_seek_22 ?_
    have k4 : wk LC (rfC c0 0) 9 := wt_f wT_C kc0 0 (by decide) rfl rfl
    refine x_geti (pc := 25) C hP ck_9 3 fl_X3_66 (by decide) rfl k4 dX3_seek_25 ?_
    refine lv_icmp_ge (pc := 28) (tgt := 111) C.1 C.2.1 dX3_seek_28 (by decide) (fun b28 => ?_) (fun b28 => ?_)
    · replace h := if_t h b28
      exact h111 c0 i1 i3 v _ _ _ kc0 h hP hS (lv_sub hl [0, 1, 2] rfl)
    · replace h := if_f h b28
      refine lv_iconst (pc := 31) (v := 0) C.1 C.2.1 dX3_seek_31 (by decide) ?_
      refine lv_istore (pc := 32) (lv' := [(6, .int 0), (0, .ref (ad c0)), (1, .int i1), (3, .int i3), (5, .int i5)]) C.1 C.2.1 dX3_seek_32 hl (by decide) rfl (fun ls hl => ?_)
      refine w_X3_seek_l34 C hI hr hlk hR _ ?_ FU c0 i1 i3 i5 0 v _ _ _ kc0 h hP hS (lv_sub hl [1, 2, 3, 4, 0] rfl)
      intro c0_28 i1_28 i3_28 i5_28 v_28 H locs ls kc0_28 h hP hS hl
      obtain ⟨x29, ex29⟩ : ∃ y : Int32, y = i5_28 + 1 := ⟨_, rfl⟩
      replace h := nv_e h ex29
      refine lv_iinc (pc := 105) (v := x29) (lv' := [(5, .int x29), (0, .ref (ad c0_28)), (1, .int i1_28), (3, .int i3_28)]) C.1 C.2.1 dX3_seek_105 hl (k := 3) rfl (by rw [ex29]; rfl) (by decide) rfl (fun ls hl => ?_)
      clear ex29
      refine lv_goto (pc := 108) (tgt := 19) C.1 C.2.1 dX3_seek_108 (by decide) ?_
      exact ih c0_28 i1_28 i3_28 x29 v_28 _ _ _ kc0_28 h hP hS (lv_sub hl [1, 2, 3, 0] rfl)
set_option maxHeartbeats 4000000 in
set_option maxRecDepth 100000 in
theorem w_X3_seek (C : Cx p s m args c cX3_seek 7 RX3 D cy) (hI : wI LC ad) (hr : meth.sig.returnType = some .boolean) (hlk : meth.locks = false) (hR : RoL 16 R) {rZ : Int32} {vZ : VV} : ∀ (c0 : Nat) (i1 : Int32) (i2 : Int32) (i3 : Int32) (i4 : Int32) (v : VV) (H : Heap) (locs : List Loc) (ls : Array Slot), wk LC c0 3 → f_X3_seek c0 i1 i2 i3 i4 v = some (rZ, vZ) → va_P D vwCl (wd LC cy ad v) H → va_S (wA LC ad) s.heap H locs → lv_has ls 7 [(0, .ref (ad c0)), (1, .int i1), (2, .int i2), (3, .int i3), (4, .int i4)] → W p l e R s m args below meth c H locs 0 0 (MQ below (qiG LC cy ad D rZ vZ) args s 0 0 (wA LC ad)) (F0 m 0 ls []) := by
  intro c0 i1 i2 i3 i4 v H locs ls kc0 h hP hS hl
  unfold f_X3_seek at h
  refine lv_aload_n (pc := 0) C.1 C.2.1 dX3_seek_0 rfl (lv_at hl 0 rfl) ?_
  refine lv_iload (pc := 1) C.1 C.2.1 dX3_seek_1 (lv_at hl 4 rfl) ?_
  refine x_put (pc := 3) C hI hP hS ck_3 8 fl_X3_55 (by decide) rfl rfl kc0 rfl rfl dX3_seek_3 (fun H locs hP hS => ?_)
  obtain ⟨v1, h, hP⟩ := nv_p (P := fun z => va_P D vwCl (wd LC cy ad z) H) h hP
  refine lv_aload_n (pc := 6) C.1 C.2.1 dX3_seek_6 rfl (lv_at hl 0 rfl) ?_
  refine lv_iload_n (pc := 7) C.1 C.2.1 dX3_seek_7 rfl (lv_at hl 2 rfl) ?_
  refine x_put (pc := 8) C hI hP hS ck_3 9 fl_X3_59 (by decide) rfl rfl kc0 rfl rfl dX3_seek_8 (fun H locs hP hS => ?_)
  obtain ⟨v2, h, hP⟩ := nv_p (P := fun z => va_P D vwCl (wd LC cy ad z) H) h hP
  refine lv_aload_n (pc := 11) C.1 C.2.1 dX3_seek_11 rfl (lv_at hl 0 rfl) ?_
  refine lv_iconst (pc := 12) (v := 0) C.1 C.2.1 dX3_seek_12 (by decide) ?_
  refine x_put (pc := 13) C hI hP hS ck_3 10 fl_X3_62 (by decide) rfl rfl kc0 (by decide) (by decide) dX3_seek_13 (fun H locs hP hS => ?_)
  obtain ⟨v3, h, hP⟩ := nv_p (P := fun z => va_P D vwCl (wd LC cy ad z) H) h hP
  refine lv_iconst (pc := 16) (v := 0) C.1 C.2.1 dX3_seek_16 (by decide) ?_
  refine lv_istore (pc := 17) (lv' := [(5, .int 0), (0, .ref (ad c0)), (1, .int i1), (2, .int i2), (3, .int i3), (4, .int i4)]) C.1 C.2.1 dX3_seek_17 hl (by decide) rfl (fun ls hl => ?_)
  refine w_X3_seek_l19 C hI hr hlk hR _ ?_ FU c0 i1 i3 0 v3 _ _ _ kc0 h hP hS (lv_sub hl [1, 2, 4, 0] rfl)
  intro c0_30 i1_30 i3_30 v_30 H locs ls kc0_30 h hP hS hl
  refine lv_aload_n (pc := 111) C.1 C.2.1 dX3_seek_111 rfl (lv_at hl 0 rfl) ?_
  refine lv_aload_n (pc := 112) C.1 C.2.1 dX3_seek_112 rfl (lv_at hl 0 rfl) ?_
  refine x_getr (pc := 113) C hP ck_3 3 fl_X3_50 (by decide) rfl kc0_30 dX3_seek_113 ?_
  have k31 : wk LC (rfC c0_30 3) 17 := wt_f wT_C kc0_30 3 (by decide) rfl rfl
  refine lv_iconst (pc := 116) (v := 0) C.1 C.2.1 dX3_seek_116 (by decide) ?_
  obtain ⟨g32, h⟩ := gd_e h
  refine x_aald (pc := 117) C hP k31 (by decide) (by decide) (inB_vp g32) dX3_seek_117 ?_
  have k33 : wk LC (rfC (rfC c0_30 3) (Int32.toNatClampNeg 0)) 8 := wt_a wT_C k31 (by decide) (inB_vp g32) rfl
  refine lv_iload_n (pc := 118) C.1 C.2.1 dX3_seek_118 rfl (lv_at hl 1 rfl) ?_
  refine lv_aload_n (pc := 119) C.1 C.2.1 dX3_seek_119 rfl (lv_at hl 0 rfl) ?_
  refine x_getr (pc := 120) C hP ck_3 0 fl_X3_44 (by decide) rfl kc0_30 dX3_seek_120 ?_
  have k34 : wk LC (rfC c0_30 0) 9 := wt_f wT_C kc0_30 0 (by decide) rfl rfl
  refine x_geti (pc := 123) C hP ck_9 4 fl_X3_83 (by decide) rfl k34 dX3_seek_123 ?_
  refine lv_iload_n (pc := 126) C.1 C.2.1 dX3_seek_126 rfl (lv_at hl 2 rfl) ?_
  obtain ⟨v36, hc35, h⟩ := bd_e h
  refine x_callv (pc := 127) C hP hS mi_X3_arrive ck_3 kc0_30 ml_X3_86 (hR.le (by decide)) (Nat.zero_le _) (Nat.zero_le _) [.ref (ad (rfC (rfC c0_30 3) (Int32.toNatClampNeg 0))), .int i1_30, .int (v_30 (rfC c0_30 0) 4), .int i3_30] rfl hl.1 rfl (Nat.le_of_ble_eq_true rfl) dX3_seek_127 (m_X3_arrive hI kc0_30 k33 hc35) (fun H locs hP hS => ?_)
  refine lv_aload_n (pc := 130) C.1 C.2.1 dX3_seek_130 rfl (lv_at hl 0 rfl) ?_
  refine lv_iconst (pc := 131) (v := 0) C.1 C.2.1 dX3_seek_131 (by decide) ?_
  obtain ⟨v38, hc37, h⟩ := bd_e h
  refine x_callv (pc := 132) C hP hS mi_X3_extend ck_3 kc0_30 ml_X3_90 (hR.le (by decide)) (Nat.zero_le _) (Nat.zero_le _) [.int 0] rfl hl.1 rfl (Nat.le_of_ble_eq_true rfl) dX3_seek_132 (mx_X3_extend hI 5 c0_30 0 v36 _ kc0_30 hc37) (fun H locs hP hS => ?_)
  refine lv_aload_n (pc := 135) C.1 C.2.1 dX3_seek_135 rfl (lv_at hl 0 rfl) ?_
  refine x_geti (pc := 136) C hP ck_3 10 fl_X3_62 (by decide) rfl kc0_30 dX3_seek_136 ?_
  obtain ⟨g39, h⟩ := gd_e h
  exact x_zret (pc := 139) C hr hlk hP hS g39 h dX3_seek_139
set_option maxRecDepth 100000 in
theorem m_X3_seek (hI : wI LC ad) {c0 : Nat} {i1 : Int32} {i2 : Int32} {i3 : Int32} {i4 : Int32} {v : VV} {rZ : Int32} {vZ : VV} (kc0 : wk LC c0 3) (h : F_X3_seek c0 i1 i2 i3 i4 v = some (rZ, vZ)) : Met l yX3_seek (Cond.code yX3_seek cX3_seek 7 (some .boolean) :: wsG) (rmL 16) (pcG LC cy ad D [.ref (ad c0), .int i1, .int i2, .int i3, .int i4] v) (qiG LC cy ad D rZ vZ) 0 0 (wA LC ad) := by
  refine Met.ofW (cc := cX3_seek) (maxL := 7) (ret := (some .boolean)) (by decide) rfl ?_
  intro p e s m args below meth c s₁ B hml hv
  obtain ⟨rfl, hP, hK⟩ := hv
  have hts := atoms_spec (ws := Cond.code yX3_seek cX3_seek 7 (some .boolean) :: wsG) B.pre
  have hown : s.vm.findClass RX3 = some m.cls := findClass_of_methodNamed B.named
  have C : Cx p s m _ c cX3_seek 7 RX3 D cy := ⟨B.exec, B.bytes, hml, hown, fun w hw => hts w (List.mem_cons_of_mem _ hw), hK⟩
  have hl := lv_entry ([.ref (ad c0), .int i1, .int i2, .int i3, .int i4]) (n := 7) (Nat.le_of_ble_eq_true rfl)
  rw [lg_entry_eq]
  generalize (lg_sl ([.ref (ad c0), .int i1, .int i2, .int i3, .int i4]) ++ List.replicate (7 - (lg_sl ([.ref (ad c0), .int i1, .int i2, .int i3, .int i4])).length) Slot.unset).toArray = ls at hl ⊢
  have hl : lv_has ls 7 [(0, .ref (ad c0)), (1, .int i1), (2, .int i2), (3, .int i3), (4, .int i4)] := hl
  exact w_X3_seek C hI B.returns B.notSynchronized (RoL_rm _) c0 i1 i2 i3 i4 v _ _ _ kc0 h hP va_S.rf (lv_sub hl [0, 1, 2, 3, 4] rfl)
def f_X10_plan (c0 : Nat) (i1 : Int32) (i2 : Int32) (v : VV) : Option (Int32 × VV) :=
  bi (F_X10_isShip c0 i1 v) fun x3 v2 =>
  if (x3 = 0) then
    some ((-1), v2)
  else
    bi (F_X10_within i2 1 3 v2) fun x6 v5 =>
    if (x6 = 0) then
      some ((-2), v5)
    else
      gd (inB i1 (lnC (rfC c0 1)) = true) <|
      bi (F_X3_seek (rfC c0 11) (v5 (rfC (rfC c0 1) (Int32.toNatClampNeg i1)) 0) (v5 (rfC (rfC c0 1) (Int32.toNatClampNeg i1)) 1) (v5 (rfC (rfC c0 1) (Int32.toNatClampNeg i1)) 2) i2 v5) fun x13 v12 =>
      if (x13 = 0) then
        some ((-5), v12)
      else
        some ((v12 (rfC c0 11) 13), v12)
abbrev F_X10_plan (c0 : Nat) (i1 : Int32) (i2 : Int32) (v : VV) : Option (Int32 × VV) := f_X10_plan c0 i1 i2 v
set_option maxHeartbeats 4000000 in
set_option maxRecDepth 100000 in
theorem w_X10_plan (C : Cx p s m args c cX10_plan 4 RX10 D cy) (hI : wI LC ad) (hr : meth.sig.returnType = some .int) (hlk : meth.locks = false) (hR : RoL 17 R) {rZ : Int32} {vZ : VV} : ∀ (c0 : Nat) (i1 : Int32) (i2 : Int32) (v : VV) (H : Heap) (locs : List Loc) (ls : Array Slot), wk LC c0 10 → f_X10_plan c0 i1 i2 v = some (rZ, vZ) → va_P D vwCl (wd LC cy ad v) H → va_S (wA LC ad) s.heap H locs → lv_has ls 4 [(0, .ref (ad c0)), (1, .int i1), (2, .int i2)] → W p l e R s m args below meth c H locs 0 0 (MQ below (qiG LC cy ad D rZ vZ) args s 0 0 (wA LC ad)) (F0 m 0 ls []) := by
  intro c0 i1 i2 v H locs ls kc0 h hP hS hl
  unfold f_X10_plan at h
  refine lv_aload_n (pc := 0) C.1 C.2.1 dX10_plan_0 rfl (lv_at hl 0 rfl) ?_
  refine lv_iload_n (pc := 1) C.1 C.2.1 dX10_plan_1 rfl (lv_at hl 1 rfl) ?_
  obtain ⟨x3, v2, hc1, h⟩ := bi_e h
  refine x_calli (pc := 2) C hP hS mi_X10_isShip ck_10 kc0 ml_X10_202 (hR.le (by decide)) (Nat.zero_le _) (Nat.zero_le _) [.int i1] rfl hl.1 rfl (Nat.le_of_ble_eq_true rfl) dX10_plan_2 (m_X10_isShip hI kc0 hc1) (fun H locs hP hS => ?_)
  refine lv_if_ne (pc := 5) (tgt := 10) C.1 C.2.1 dX10_plan_5 (by decide) (fun b5 => ?_) (fun b5 => ?_)
  · replace h := if_f h b5
    refine lv_iload_n (pc := 10) C.1 C.2.1 dX10_plan_10 rfl (lv_at hl 2 rfl) ?_
    refine lv_iconst (pc := 11) (v := 1) C.1 C.2.1 dX10_plan_11 (by decide) ?_
    refine lv_iconst (pc := 12) (v := 3) C.1 C.2.1 dX10_plan_12 (by decide) ?_
    obtain ⟨x6, v5, hc4, h⟩ := bi_e h
    refine x_callsi (pc := 13) C hP hS ms_X10_within ml_X10_64 (hR.le (by decide)) (Nat.zero_le _) (Nat.zero_le _) [.int i2, .int 1, .int 3] rfl hl.1 rfl (Nat.le_of_ble_eq_true rfl) dX10_plan_13 (m_X10_within hI hc4) (fun H locs hP hS => ?_)
    refine lv_if_ne (pc := 16) (tgt := 22) C.1 C.2.1 dX10_plan_16 (by decide) (fun b16 => ?_) (fun b16 => ?_)
    · replace h := if_f h b16
      refine lv_aload_n (pc := 22) C.1 C.2.1 dX10_plan_22 rfl (lv_at hl 0 rfl) ?_
      refine x_getr (pc := 23) C hP ck_10 1 fl_X10_18 (by decide) rfl kc0 dX10_plan_23 ?_
      have k7 : wk LC (rfC c0 1) 16 := wt_f wT_C kc0 1 (by decide) rfl rfl
      refine lv_iload_n (pc := 26) C.1 C.2.1 dX10_plan_26 rfl (lv_at hl 1 rfl) ?_
      obtain ⟨g8, h⟩ := gd_e h
      refine x_aald (pc := 27) C hP k7 (by decide) (by decide) (inB_vp g8) dX10_plan_27 ?_
      have k9 : wk LC (rfC (rfC c0 1) (Int32.toNatClampNeg i1)) 7 := wt_a wT_C k7 (by decide) (inB_vp g8) rfl
      refine lv_astore_n (pc := 28) (lv' := [(3, .ref (ad (rfC (rfC c0 1) (Int32.toNatClampNeg i1)))), (0, .ref (ad c0)), (1, .int i1), (2, .int i2)]) C.1 C.2.1 dX10_plan_28 rfl hl (by decide) rfl (fun ls hl => ?_)
      refine lv_aload_n (pc := 29) C.1 C.2.1 dX10_plan_29 rfl (lv_at hl 1 rfl) ?_
      refine x_getr (pc := 30) C hP ck_10 11 fl_X10_49 (by decide) rfl kc0 dX10_plan_30 ?_
      have k10 : wk LC (rfC c0 11) 3 := wt_f wT_C kc0 11 (by decide) rfl rfl
      refine lv_aload_n (pc := 33) C.1 C.2.1 dX10_plan_33 rfl (lv_at hl 0 rfl) ?_
      refine x_geti (pc := 34) C hP ck_7 0 fl_X10_152 (by decide) rfl k9 dX10_plan_34 ?_
      refine lv_aload_n (pc := 37) C.1 C.2.1 dX10_plan_37 rfl (lv_at hl 0 rfl) ?_
      refine x_geti (pc := 38) C hP ck_7 1 fl_X10_155 (by decide) rfl k9 dX10_plan_38 ?_
      refine lv_aload_n (pc := 41) C.1 C.2.1 dX10_plan_41 rfl (lv_at hl 0 rfl) ?_
      refine x_geti (pc := 42) C hP ck_7 2 fl_X10_158 (by decide) rfl k9 dX10_plan_42 ?_
      refine lv_iload_n (pc := 45) C.1 C.2.1 dX10_plan_45 rfl (lv_at hl 3 rfl) ?_
      obtain ⟨x13, v12, hc11, h⟩ := bi_e h
      refine x_calli (pc := 46) C hP hS mi_X3_seek ck_3 k10 ml_X10_245 (hR.le (by decide)) (Nat.zero_le _) (Nat.zero_le _) [.int (v5 (rfC (rfC c0 1) (Int32.toNatClampNeg i1)) 0), .int (v5 (rfC (rfC c0 1) (Int32.toNatClampNeg i1)) 1), .int (v5 (rfC (rfC c0 1) (Int32.toNatClampNeg i1)) 2), .int i2] rfl hl.1 rfl (Nat.le_of_ble_eq_true rfl) dX10_plan_46 (m_X3_seek hI k10 hc11) (fun H locs hP hS => ?_)
      refine lv_if_eq (pc := 49) (tgt := 62) C.1 C.2.1 dX10_plan_49 (by decide) (fun b49 => ?_) (fun b49 => ?_)
      · replace h := if_t h b49
        refine lv_bipush (pc := 62) (v := (-5)) C.1 C.2.1 dX10_plan_62 (by decide) ?_
        exact x_iret (pc := 64) C hr hlk hP hS h dX10_plan_64
      · replace h := if_f h b49
        refine lv_aload_n (pc := 52) C.1 C.2.1 dX10_plan_52 rfl (lv_at hl 1 rfl) ?_
        refine x_getr (pc := 53) C hP ck_10 11 fl_X10_49 (by decide) rfl kc0 dX10_plan_53 ?_
        have k14 : wk LC (rfC c0 11) 3 := wt_f wT_C kc0 11 (by decide) rfl rfl
        refine x_geti (pc := 56) C hP ck_3 13 fl_X10_248 (by decide) rfl k14 dX10_plan_56 ?_
        refine lv_goto (pc := 59) (tgt := 64) C.1 C.2.1 dX10_plan_59 (by decide) ?_
        exact x_iret (pc := 64) C hr hlk hP hS h dX10_plan_64
    · replace h := if_t h b16
      refine lv_bipush (pc := 19) (v := (-2)) C.1 C.2.1 dX10_plan_19 (by decide) ?_
      exact x_iret (pc := 21) C hr hlk hP hS h dX10_plan_21
  · replace h := if_t h b5
    refine lv_iconst (pc := 8) (v := (-1)) C.1 C.2.1 dX10_plan_8 (by decide) ?_
    exact x_iret (pc := 9) C hr hlk hP hS h dX10_plan_9
set_option maxRecDepth 100000 in
theorem m_X10_plan (hI : wI LC ad) {c0 : Nat} {i1 : Int32} {i2 : Int32} {v : VV} {rZ : Int32} {vZ : VV} (kc0 : wk LC c0 10) (h : F_X10_plan c0 i1 i2 v = some (rZ, vZ)) : Met l yX10_plan (Cond.code yX10_plan cX10_plan 4 (some .int) :: wsG) (rmL 17) (pcG LC cy ad D [.ref (ad c0), .int i1, .int i2] v) (qiG LC cy ad D rZ vZ) 0 0 (wA LC ad) := by
  refine Met.ofW (cc := cX10_plan) (maxL := 4) (ret := (some .int)) (by decide) rfl ?_
  intro p e s m args below meth c s₁ B hml hv
  obtain ⟨rfl, hP, hK⟩ := hv
  have hts := atoms_spec (ws := Cond.code yX10_plan cX10_plan 4 (some .int) :: wsG) B.pre
  have hown : s.vm.findClass RX10 = some m.cls := findClass_of_methodNamed B.named
  have C : Cx p s m _ c cX10_plan 4 RX10 D cy := ⟨B.exec, B.bytes, hml, hown, fun w hw => hts w (List.mem_cons_of_mem _ hw), hK⟩
  have hl := lv_entry ([.ref (ad c0), .int i1, .int i2]) (n := 4) (Nat.le_of_ble_eq_true rfl)
  rw [lg_entry_eq]
  generalize (lg_sl ([.ref (ad c0), .int i1, .int i2]) ++ List.replicate (4 - (lg_sl ([.ref (ad c0), .int i1, .int i2])).length) Slot.unset).toArray = ls at hl ⊢
  have hl : lv_has ls 4 [(0, .ref (ad c0)), (1, .int i1), (2, .int i2)] := hl
  exact w_X10_plan C hI B.returns B.notSynchronized (RoL_rm _) c0 i1 i2 v _ _ _ kc0 h hP va_S.rf (lv_sub hl [0, 1, 2] rfl)
end
