section
variable {p : Program} {l : Launch} {e : Env} {R : Room} {s : State} {m : MethodId} {args : Array Value} {below : List Frame} {meth : Method} {c : Code} {D : va_G} {cy : Nat → ClassId} {ad : Nat → Nat} {d : Nat}
def f_X5_extend_l79 (rcE : Nat → Int32 → Int32 → Int32 → VV → Option (VV)) : Nat → Nat → Int32 → Int32 → Int32 → Int32 → Int32 → VV → Option (VV)
  | 0, _, _, _, _, _, _, _ => none
  | n + 1, c0, i1, i2, i3, i4, i6, v =>
    if ((v (rfC c0 0) 3) ≤ i6) then
      some v
    else
      bi (F_X9_openLength (rfC c0 0) i4 i6 v) fun x17 v16 =>
      if (x17 ≤ 0) then
        nv (i6 + 1) fun x18 =>
        f_X5_extend_l79 rcE n c0 i1 i2 i3 i4 x18 v16
      else
        bi (F_X5_isOnPath c0 i6 i1 v16) fun x21 v20 =>
        if (x21 = 0) then
          gd (inB i1 (lnC (rfC c0 2)) = true) <|
          nv (wu v20 (rfC c0 2) (Int32.toNatClampNeg i1) i6) fun v25 =>
          gd (inB i4 (lnC (rfC c0 1)) = true) <|
          gd (inB i6 (lnC (rfC (rfC c0 1) (Int32.toNatClampNeg i4))) = true) <|
          (rcE c0 (i1 + 1) (i2 + (v25 (rfC (rfC c0 1) (Int32.toNatClampNeg i4)) (Int32.toNatClampNeg i6))) (i3 + x17) v25).bind fun v31 =>
          nv (i6 + 1) fun x32 =>
          f_X5_extend_l79 rcE n c0 i1 i2 i3 i4 x32 v31
        else
          nv (i6 + 1) fun x22 =>
          f_X5_extend_l79 rcE n c0 i1 i2 i3 i4 x22 v20
def f_X5_extend_b62 (rcE : Nat → Int32 → Int32 → Int32 → VV → Option (VV)) (c0 : Nat) (i1 : Int32) (i2 : Int32) (i3 : Int32) (i4 : Int32) (v : VV) : Option (VV) :=
  if (i1 < 6) then
    gd (inB 0 (lnC (rfC c0 2)) = true) <|
    nv (((v (rfC c0 2) (Int32.toNatClampNeg 0)) + 1)) fun x12 =>
    f_X5_extend_l79 rcE FU c0 i1 i2 i3 i4 x12 v
  else
    some v
def f_X5_extend (rcE : Nat → Int32 → Int32 → Int32 → VV → Option (VV)) (c0 : Nat) (i1 : Int32) (i2 : Int32) (i3 : Int32) (v : VV) : Option (VV) :=
  gd (inB (i1 - 1) (lnC (rfC c0 2)) = true) <|
  nv ((v (rfC c0 2) (Int32.toNatClampNeg (i1 - 1)))) fun x3 =>
  gd (inB 0 (lnC (rfC c0 2)) = true) <|
  bi (F_X9_openLength (rfC c0 0) x3 (v (rfC c0 2) (Int32.toNatClampNeg 0)) v) fun x9 v8 =>
  if (i1 < 2) then
    f_X5_extend_b62 rcE c0 i1 i2 i3 x3 v8
  else
    if (x9 ≤ 0) then
      f_X5_extend_b62 rcE c0 i1 i2 i3 x3 v8
    else
      gd (inB x3 (lnC (rfC c0 1)) = true) <|
      gd (inB 0 (lnC (rfC c0 2)) = true) <|
      gd (inB (v8 (rfC c0 2) (Int32.toNatClampNeg 0)) (lnC (rfC (rfC c0 1) (Int32.toNatClampNeg x3))) = true) <|
      (F_X5_compare c0 i1 (i2 + (v8 (rfC (rfC c0 1) (Int32.toNatClampNeg x3)) (Int32.toNatClampNeg (v8 (rfC c0 2) (Int32.toNatClampNeg 0))))) (i3 + x9) v8).bind fun v40 =>
      f_X5_extend_b62 rcE c0 i1 i2 i3 x3 v40
abbrev F_X5_extend (rcE : Nat → Int32 → Int32 → Int32 → VV → Option (VV)) (c0 : Nat) (i1 : Int32) (i2 : Int32) (i3 : Int32) (v : VV) : Option (VV) := f_X5_extend rcE c0 i1 i2 i3 v
set_option maxHeartbeats 4000000 in
set_option maxRecDepth 100000 in
theorem w_X5_extend_l79 (rcE : Nat → Int32 → Int32 → Int32 → VV → Option (VV)) (C : Cx p s m args c cX5_extend 8 RX5 D cy) (hI : wI LC ad) (hr : meth.sig.returnType = none) (hlk : meth.locks = false) (hR : RoL (d + 3) R) (hrcE : ∀ (o : Nat) (a0 : Int32) (a1 : Int32) (a2 : Int32) (v vZ : VV), wk LC o 5 → rcE o a0 a1 a2 v = some vZ → Met l yX5_extend (Cond.code yX5_extend cX5_extend 8 none :: wsG) (rmL (d + 2)) (pcG LC cy ad D [.ref (ad o), .int a0, .int a1, .int a2] v) (qvG LC cy ad D vZ) 0 0 (wA LC ad)) {vZ : VV} : ∀ (n : Nat) (c0 : Nat) (i1 : Int32) (i2 : Int32) (i3 : Int32) (i4 : Int32) (i6 : Int32) (v : VV) (H : Heap) (locs : List Loc) (ls : Array Slot), wk LC c0 5 → f_X5_extend_l79 rcE n c0 i1 i2 i3 i4 i6 v = some vZ → va_P D vwCl (wd LC cy ad v) H → va_S (wA LC ad) s.heap H locs → lv_has ls 8 [(0, .ref (ad c0)), (1, .int i1), (2, .int i2), (3, .int i3), (4, .int i4), (6, .int i6)] → W p l e R s m args below meth c H locs 0 0 (MQ below (qvG LC cy ad D vZ) args s 0 0 (wA LC ad)) (F0 m 79 ls []) := by
  intro n
  induction n with
  | zero => intro c0 i1 i2 i3 i4 i6 v H locs ls kc0 h hP hS hl; exact absurd h (by simp [f_X5_extend_l79])
  | succ n ih =>
    intro c0 i1 i2 i3 i4 i6 v H locs ls kc0 h hP hS hl
    rw [f_X5_extend_l79] at h
    refine lv_iload (pc := 79) C.1 C.2.1 dX5_extend_79 (lv_at hl 5 rfl) ?_
    refine lv_aload_n (pc := 81) C.1 C.2.1 dX5_extend_81 rfl (lv_at hl 0 rfl) ?_
    refine x_getr (pc := 82) C hP ck_5 0 fl_X5_23 (by decide) rfl kc0 dX5_extend_82 ?_
    have k13 : wk LC (rfC c0 0) 9 := wt_f wT_C kc0 0 (by decide) rfl rfl
    refine x_geti (pc := 85) C hP ck_9 3 fl_X5_35 (by decide) rfl k13 dX5_extend_85 ?_
    refine lv_icmp_ge (pc := 88) (tgt := 156) C.1 C.2.1 dX5_extend_88 (by decide) (fun b88 => ?_) (fun b88 => ?_)
    · replace h := if_t h b88
      exact x_vret (pc := 156) C hr hlk hP hS h dX5_extend_156
    · replace h := if_f h b88
      refine lv_aload_n (pc := 91) C.1 C.2.1 dX5_extend_91 rfl (lv_at hl 0 rfl) ?_
      refine x_getr (pc := 92) C hP ck_5 0 fl_X5_23 (by decide) rfl kc0 dX5_extend_92 ?_
      have k14 : wk LC (rfC c0 0) 9 := wt_f wT_C kc0 0 (by decide) rfl rfl
      refine lv_iload (pc := 95) C.1 C.2.1 dX5_extend_95 (lv_at hl 4 rfl) ?_
      refine lv_iload (pc := 97) C.1 C.2.1 dX5_extend_97 (lv_at hl 5 rfl) ?_
      obtain ⟨x17, v16, hc15, h⟩ := bi_e h
      refine x_calli (pc := 99) C hP hS mi_X9_openLength ck_9 k14 ml_X5_78 (hR.le (by omega)) (Nat.zero_le _) (Nat.zero_le _) [.int i4, .int i6] rfl hl.1 rfl (Nat.le_of_ble_eq_true rfl) dX5_extend_99 (m_X9_openLength hI k14 hc15) (fun H locs hP hS => ?_)
      refine lv_istore (pc := 102) (lv' := [(7, .int x17), (0, .ref (ad c0)), (1, .int i1), (2, .int i2), (3, .int i3), (4, .int i4), (6, .int i6)]) C.1 C.2.1 dX5_extend_102 hl (by decide) rfl (fun ls hl => ?_)
      refine lv_iload (pc := 104) C.1 C.2.1 dX5_extend_104 (lv_at hl 0 rfl) ?_
      refine lv_if_le (pc := 106) (tgt := 150) C.1 C.2.1 dX5_extend_106 (by decide) (fun b106 => ?_) (fun b106 => ?_)
      · replace h := if_t h b106
        obtain ⟨x18, ex18⟩ : ∃ y : Int32, y = i6 + 1 := ⟨_, rfl⟩
        replace h := nv_e h ex18
        refine lv_iinc (pc := 150) (v := x18) (lv' := [(6, .int x18), (7, .int x17), (0, .ref (ad c0)), (1, .int i1), (2, .int i2), (3, .int i3), (4, .int i4)]) C.1 C.2.1 dX5_extend_150 hl (k := 6) rfl (by rw [ex18]; rfl) (by decide) rfl (fun ls hl => ?_)
        clear ex18
        refine lv_goto (pc := 153) (tgt := 79) C.1 C.2.1 dX5_extend_153 (by decide) ?_
        exact ih c0 i1 i2 i3 i4 x18 v16 _ _ _ kc0 h hP hS (lv_sub hl [2, 3, 4, 5, 6, 0] rfl)
      · replace h := if_f h b106
        refine lv_aload_n (pc := 109) C.1 C.2.1 dX5_extend_109 rfl (lv_at hl 1 rfl) ?_
        refine lv_iload (pc := 110) C.1 C.2.1 dX5_extend_110 (lv_at hl 6 rfl) ?_
        refine lv_iload_n (pc := 112) C.1 C.2.1 dX5_extend_112 rfl (lv_at hl 2 rfl) ?_
        obtain ⟨x21, v20, hc19, h⟩ := bi_e h
        refine x_calli (pc := 113) C hP hS mi_X5_isOnPath ck_5 kc0 ml_X5_84 (hR.le (by omega)) (Nat.zero_le _) (Nat.zero_le _) [.int i6, .int i1] rfl hl.1 rfl (Nat.le_of_ble_eq_true rfl) dX5_extend_113 (m_X5_isOnPath hI kc0 hc19) (fun H locs hP hS => ?_)
        refine lv_if_ne (pc := 116) (tgt := 150) C.1 C.2.1 dX5_extend_116 (by decide) (fun b116 => ?_) (fun b116 => ?_)
        · replace h := if_f h b116
          obtain ⟨x22, ex22⟩ : ∃ y : Int32, y = i6 + 1 := ⟨_, rfl⟩
          replace h := nv_e h ex22
          refine lv_iinc (pc := 150) (v := x22) (lv' := [(6, .int x22), (7, .int x17), (0, .ref (ad c0)), (1, .int i1), (2, .int i2), (3, .int i3), (4, .int i4)]) C.1 C.2.1 dX5_extend_150 hl (k := 6) rfl (by rw [ex22]; rfl) (by decide) rfl (fun ls hl => ?_)
          clear ex22
          refine lv_goto (pc := 153) (tgt := 79) C.1 C.2.1 dX5_extend_153 (by decide) ?_
          exact ih c0 i1 i2 i3 i4 x22 v20 _ _ _ kc0 h hP hS (lv_sub hl [2, 3, 4, 5, 6, 0] rfl)
        · replace h := if_t h b116
          refine lv_aload_n (pc := 119) C.1 C.2.1 dX5_extend_119 rfl (lv_at hl 1 rfl) ?_
          refine x_getr (pc := 120) C hP ck_5 2 fl_X5_16 (by decide) rfl kc0 dX5_extend_120 ?_
          have k23 : wk LC (rfC c0 2) 12 := wt_f wT_C kc0 2 (by decide) rfl rfl
          refine lv_iload_n (pc := 123) C.1 C.2.1 dX5_extend_123 rfl (lv_at hl 2 rfl) ?_
          refine lv_iload (pc := 124) C.1 C.2.1 dX5_extend_124 (lv_at hl 6 rfl) ?_
          obtain ⟨g24, h⟩ := gd_e h
          refine x_iast (pc := 126) C hI hP hS k23 (inB_vp g24) dX5_extend_126 (fun H locs hP hS => ?_)
          obtain ⟨v25, h, hP⟩ := nv_p (P := fun z => va_P D vwCl (wd LC cy ad z) H) h hP
          refine lv_aload_n (pc := 127) C.1 C.2.1 dX5_extend_127 rfl (lv_at hl 1 rfl) ?_
          refine lv_iload_n (pc := 128) C.1 C.2.1 dX5_extend_128 rfl (lv_at hl 2 rfl) ?_
          refine lv_iconst (pc := 129) (v := 1) C.1 C.2.1 dX5_extend_129 (by decide) ?_
          refine lv_iadd (pc := 130) C.1 C.2.1 dX5_extend_130 ?_
          refine lv_iload_n (pc := 131) C.1 C.2.1 dX5_extend_131 rfl (lv_at hl 3 rfl) ?_
          refine lv_aload_n (pc := 132) C.1 C.2.1 dX5_extend_132 rfl (lv_at hl 1 rfl) ?_
          refine x_getr (pc := 133) C hP ck_5 1 fl_X5_11 (by decide) rfl kc0 dX5_extend_133 ?_
          have k26 : wk LC (rfC c0 1) 18 := wt_f wT_C kc0 1 (by decide) rfl rfl
          refine lv_iload (pc := 136) C.1 C.2.1 dX5_extend_136 (lv_at hl 5 rfl) ?_
          obtain ⟨g27, h⟩ := gd_e h
          refine x_aald (pc := 138) C hP k26 (by decide) (by decide) (inB_vp g27) dX5_extend_138 ?_
          have k28 : wk LC (rfC (rfC c0 1) (Int32.toNatClampNeg i4)) 12 := wt_a wT_C k26 (by decide) (inB_vp g27) rfl
          refine lv_iload (pc := 139) C.1 C.2.1 dX5_extend_139 (lv_at hl 6 rfl) ?_
          obtain ⟨g29, h⟩ := gd_e h
          refine x_iald (pc := 141) C hP k28 (inB_vp g29) dX5_extend_141 ?_
          refine lv_iadd (pc := 142) C.1 C.2.1 dX5_extend_142 ?_
          refine lv_iload_n (pc := 143) C.1 C.2.1 dX5_extend_143 rfl (lv_at hl 4 rfl) ?_
          refine lv_iload (pc := 144) C.1 C.2.1 dX5_extend_144 (lv_at hl 0 rfl) ?_
          refine lv_iadd (pc := 146) C.1 C.2.1 dX5_extend_146 ?_
          obtain ⟨v31, hc30, h⟩ := bd_e h
          refine x_callv (pc := 147) C hP hS mi_X5_extend ck_5 kc0 ml_X5_40 (hR.le (by omega)) (Nat.zero_le _) (Nat.zero_le _) [.int (i1 + 1), .int (i2 + (v25 (rfC (rfC c0 1) (Int32.toNatClampNeg i4)) (Int32.toNatClampNeg i6))), .int (i3 + x17)] rfl hl.1 rfl (Nat.le_of_ble_eq_true rfl) dX5_extend_147 (hrcE c0 (i1 + 1) (i2 + (v25 (rfC (rfC c0 1) (Int32.toNatClampNeg i4)) (Int32.toNatClampNeg i6))) (i3 + x17) v25 _ kc0 hc30) (fun H locs hP hS => ?_)
          obtain ⟨x32, ex32⟩ : ∃ y : Int32, y = i6 + 1 := ⟨_, rfl⟩
          replace h := nv_e h ex32
          refine lv_iinc (pc := 150) (v := x32) (lv' := [(6, .int x32), (7, .int x17), (0, .ref (ad c0)), (1, .int i1), (2, .int i2), (3, .int i3), (4, .int i4)]) C.1 C.2.1 dX5_extend_150 hl (k := 6) rfl (by rw [ex32]; rfl) (by decide) rfl (fun ls hl => ?_)
          clear ex32
          refine lv_goto (pc := 153) (tgt := 79) C.1 C.2.1 dX5_extend_153 (by decide) ?_
          exact ih c0 i1 i2 i3 i4 x32 v31 _ _ _ kc0 h hP hS (lv_sub hl [2, 3, 4, 5, 6, 0] rfl)
set_option maxHeartbeats 4000000 in
set_option maxRecDepth 100000 in
theorem w_X5_extend_b62 (rcE : Nat → Int32 → Int32 → Int32 → VV → Option (VV)) (C : Cx p s m args c cX5_extend 8 RX5 D cy) (hI : wI LC ad) (hr : meth.sig.returnType = none) (hlk : meth.locks = false) (hR : RoL (d + 3) R) (hrcE : ∀ (o : Nat) (a0 : Int32) (a1 : Int32) (a2 : Int32) (v vZ : VV), wk LC o 5 → rcE o a0 a1 a2 v = some vZ → Met l yX5_extend (Cond.code yX5_extend cX5_extend 8 none :: wsG) (rmL (d + 2)) (pcG LC cy ad D [.ref (ad o), .int a0, .int a1, .int a2] v) (qvG LC cy ad D vZ) 0 0 (wA LC ad)) {vZ : VV} : ∀ (c0 : Nat) (i1 : Int32) (i2 : Int32) (i3 : Int32) (i4 : Int32) (v : VV) (H : Heap) (locs : List Loc) (ls : Array Slot), wk LC c0 5 → f_X5_extend_b62 rcE c0 i1 i2 i3 i4 v = some vZ → va_P D vwCl (wd LC cy ad v) H → va_S (wA LC ad) s.heap H locs → lv_has ls 8 [(0, .ref (ad c0)), (1, .int i1), (2, .int i2), (3, .int i3), (4, .int i4)] → W p l e R s m args below meth c H locs 0 0 (MQ below (qvG LC cy ad D vZ) args s 0 0 (wA LC ad)) (F0 m 62 ls []) := by
  intro c0 i1 i2 i3 i4 v H locs ls kc0 h hP hS hl
  unfold f_X5_extend_b62 at h
  refine lv_iload_n (pc := 62) C.1 C.2.1 dX5_extend_62 rfl (lv_at hl 1 rfl) ?_
  refine lv_bipush (pc := 63) (v := 6) C.1 C.2.1 dX5_extend_63 (by decide) ?_
  refine lv_icmp_lt (pc := 65) (tgt := 69) C.1 C.2.1 dX5_extend_65 (by decide) (fun b65 => ?_) (fun b65 => ?_)
  · replace h := if_t h b65
    refine lv_aload_n (pc := 69) C.1 C.2.1 dX5_extend_69 rfl (lv_at hl 0 rfl) ?_
    refine x_getr (pc := 70) C hP ck_5 2 fl_X5_16 (by decide) rfl kc0 dX5_extend_70 ?_
    have k10 : wk LC (rfC c0 2) 12 := wt_f wT_C kc0 2 (by decide) rfl rfl
    refine lv_iconst (pc := 73) (v := 0) C.1 C.2.1 dX5_extend_73 (by decide) ?_
    obtain ⟨g11, h⟩ := gd_e h
    refine x_iald (pc := 74) C hP k10 (inB_vp g11) dX5_extend_74 ?_
    refine lv_iconst (pc := 75) (v := 1) C.1 C.2.1 dX5_extend_75 (by decide) ?_
    refine lv_iadd (pc := 76) C.1 C.2.1 dX5_extend_76 ?_
    refine lv_topi (fun x12 ex12 => ?_)
    replace h := nv_e h ex12
    clear ex12
    refine lv_istore (pc := 77) (lv' := [(6, .int x12), (0, .ref (ad c0)), (1, .int i1), (2, .int i2), (3, .int i3), (4, .int i4)]) C.1 C.2.1 dX5_extend_77 hl (by decide) rfl (fun ls hl => ?_)
    refine w_X5_extend_l79 rcE C hI hr hlk hR hrcE FU c0 i1 i2 i3 i4 x12 v _ _ _ kc0 h hP hS (lv_sub hl [1, 2, 3, 4, 5, 0] rfl)
  · replace h := if_f h b65
    exact x_vret (pc := 68) C hr hlk hP hS h dX5_extend_68
set_option maxHeartbeats 4000000 in
set_option maxRecDepth 100000 in
theorem w_X5_extend (rcE : Nat → Int32 → Int32 → Int32 → VV → Option (VV)) (C : Cx p s m args c cX5_extend 8 RX5 D cy) (hI : wI LC ad) (hr : meth.sig.returnType = none) (hlk : meth.locks = false) (hR : RoL (d + 3) R) (hrcE : ∀ (o : Nat) (a0 : Int32) (a1 : Int32) (a2 : Int32) (v vZ : VV), wk LC o 5 → rcE o a0 a1 a2 v = some vZ → Met l yX5_extend (Cond.code yX5_extend cX5_extend 8 none :: wsG) (rmL (d + 2)) (pcG LC cy ad D [.ref (ad o), .int a0, .int a1, .int a2] v) (qvG LC cy ad D vZ) 0 0 (wA LC ad)) {vZ : VV} : ∀ (c0 : Nat) (i1 : Int32) (i2 : Int32) (i3 : Int32) (v : VV) (H : Heap) (locs : List Loc) (ls : Array Slot), wk LC c0 5 → f_X5_extend rcE c0 i1 i2 i3 v = some vZ → va_P D vwCl (wd LC cy ad v) H → va_S (wA LC ad) s.heap H locs → lv_has ls 8 [(0, .ref (ad c0)), (1, .int i1), (2, .int i2), (3, .int i3)] → W p l e R s m args below meth c H locs 0 0 (MQ below (qvG LC cy ad D vZ) args s 0 0 (wA LC ad)) (F0 m 0 ls []) := by
  intro c0 i1 i2 i3 v H locs ls kc0 h hP hS hl
  unfold f_X5_extend at h
  refine lv_aload_n (pc := 0) C.1 C.2.1 dX5_extend_0 rfl (lv_at hl 0 rfl) ?_
  refine x_getr (pc := 1) C hP ck_5 2 fl_X5_16 (by decide) rfl kc0 dX5_extend_1 ?_
  have k1 : wk LC (rfC c0 2) 12 := wt_f wT_C kc0 2 (by decide) rfl rfl
  refine lv_iload_n (pc := 4) C.1 C.2.1 dX5_extend_4 rfl (lv_at hl 1 rfl) ?_
  refine lv_iconst (pc := 5) (v := 1) C.1 C.2.1 dX5_extend_5 (by decide) ?_
  refine lv_isub (pc := 6) C.1 C.2.1 dX5_extend_6 ?_
  obtain ⟨g2, h⟩ := gd_e h
  refine x_iald (pc := 7) C hP k1 (inB_vp g2) dX5_extend_7 ?_
  refine lv_topi (fun x3 ex3 => ?_)
  replace h := nv_e h ex3
  clear ex3
  refine lv_istore (pc := 8) (lv' := [(4, .int x3), (0, .ref (ad c0)), (1, .int i1), (2, .int i2), (3, .int i3)]) C.1 C.2.1 dX5_extend_8 hl (by decide) rfl (fun ls hl => ?_)
  refine lv_aload_n (pc := 10) C.1 C.2.1 dX5_extend_10 rfl (lv_at hl 1 rfl) ?_
  refine x_getr (pc := 11) C hP ck_5 0 fl_X5_23 (by decide) rfl kc0 dX5_extend_11 ?_
  have k4 : wk LC (rfC c0 0) 9 := wt_f wT_C kc0 0 (by decide) rfl rfl
  refine lv_iload (pc := 14) C.1 C.2.1 dX5_extend_14 (lv_at hl 0 rfl) ?_
  refine lv_aload_n (pc := 16) C.1 C.2.1 dX5_extend_16 rfl (lv_at hl 1 rfl) ?_
  refine x_getr (pc := 17) C hP ck_5 2 fl_X5_16 (by decide) rfl kc0 dX5_extend_17 ?_
  have k5 : wk LC (rfC c0 2) 12 := wt_f wT_C kc0 2 (by decide) rfl rfl
  refine lv_iconst (pc := 20) (v := 0) C.1 C.2.1 dX5_extend_20 (by decide) ?_
  obtain ⟨g6, h⟩ := gd_e h
  refine x_iald (pc := 21) C hP k5 (inB_vp g6) dX5_extend_21 ?_
  obtain ⟨x9, v8, hc7, h⟩ := bi_e h
  refine x_calli (pc := 22) C hP hS mi_X9_openLength ck_9 k4 ml_X5_78 (hR.le (by omega)) (Nat.zero_le _) (Nat.zero_le _) [.int x3, .int (v (rfC c0 2) (Int32.toNatClampNeg 0))] rfl hl.1 rfl (Nat.le_of_ble_eq_true rfl) dX5_extend_22 (m_X9_openLength hI k4 hc7) (fun H locs hP hS => ?_)
  refine lv_istore (pc := 25) (lv' := [(5, .int x9), (4, .int x3), (0, .ref (ad c0)), (1, .int i1), (2, .int i2), (3, .int i3)]) C.1 C.2.1 dX5_extend_25 hl (by decide) rfl (fun ls hl => ?_)
  refine lv_iload_n (pc := 27) C.1 C.2.1 dX5_extend_27 rfl (lv_at hl 3 rfl) ?_
  refine lv_iconst (pc := 28) (v := 2) C.1 C.2.1 dX5_extend_28 (by decide) ?_
  refine lv_icmp_lt (pc := 29) (tgt := 62) C.1 C.2.1 dX5_extend_29 (by decide) (fun b29 => ?_) (fun b29 => ?_)
  · replace h := if_t h b29
    exact w_X5_extend_b62 rcE C hI hr hlk hR hrcE c0 i1 i2 i3 x3 v8 _ _ _ kc0 h hP hS (lv_sub hl [2, 3, 4, 5, 1] rfl)
  · replace h := if_f h b29
    refine lv_iload (pc := 32) C.1 C.2.1 dX5_extend_32 (lv_at hl 0 rfl) ?_
    refine lv_if_le (pc := 34) (tgt := 62) C.1 C.2.1 dX5_extend_34 (by decide) (fun b34 => ?_) (fun b34 => ?_)
    · replace h := if_t h b34
      exact w_X5_extend_b62 rcE C hI hr hlk hR hrcE c0 i1 i2 i3 x3 v8 _ _ _ kc0 h hP hS (lv_sub hl [2, 3, 4, 5, 1] rfl)
    · replace h := if_f h b34
      refine lv_aload_n (pc := 37) C.1 C.2.1 dX5_extend_37 rfl (lv_at hl 2 rfl) ?_
      refine lv_iload_n (pc := 38) C.1 C.2.1 dX5_extend_38 rfl (lv_at hl 3 rfl) ?_
      refine lv_iload_n (pc := 39) C.1 C.2.1 dX5_extend_39 rfl (lv_at hl 4 rfl) ?_
      refine lv_aload_n (pc := 40) C.1 C.2.1 dX5_extend_40 rfl (lv_at hl 2 rfl) ?_
      refine x_getr (pc := 41) C hP ck_5 1 fl_X5_11 (by decide) rfl kc0 dX5_extend_41 ?_
      have k33 : wk LC (rfC c0 1) 18 := wt_f wT_C kc0 1 (by decide) rfl rfl
      refine lv_iload (pc := 44) C.1 C.2.1 dX5_extend_44 (lv_at hl 1 rfl) ?_
      obtain ⟨g34, h⟩ := gd_e h
      refine x_aald (pc := 46) C hP k33 (by decide) (by decide) (inB_vp g34) dX5_extend_46 ?_
      have k35 : wk LC (rfC (rfC c0 1) (Int32.toNatClampNeg x3)) 12 := wt_a wT_C k33 (by decide) (inB_vp g34) rfl
      refine lv_aload_n (pc := 47) C.1 C.2.1 dX5_extend_47 rfl (lv_at hl 2 rfl) ?_
      refine x_getr (pc := 48) C hP ck_5 2 fl_X5_16 (by decide) rfl kc0 dX5_extend_48 ?_
      have k36 : wk LC (rfC c0 2) 12 := wt_f wT_C kc0 2 (by decide) rfl rfl
      refine lv_iconst (pc := 51) (v := 0) C.1 C.2.1 dX5_extend_51 (by decide) ?_
      obtain ⟨g37, h⟩ := gd_e h
      refine x_iald (pc := 52) C hP k36 (inB_vp g37) dX5_extend_52 ?_
      obtain ⟨g38, h⟩ := gd_e h
      refine x_iald (pc := 53) C hP k35 (inB_vp g38) dX5_extend_53 ?_
      refine lv_iadd (pc := 54) C.1 C.2.1 dX5_extend_54 ?_
      refine lv_iload_n (pc := 55) C.1 C.2.1 dX5_extend_55 rfl (lv_at hl 5 rfl) ?_
      refine lv_iload (pc := 56) C.1 C.2.1 dX5_extend_56 (lv_at hl 0 rfl) ?_
      refine lv_iadd (pc := 58) C.1 C.2.1 dX5_extend_58 ?_
      obtain ⟨v40, hc39, h⟩ := bd_e h
      refine x_callv (pc := 59) C hP hS mi_X5_compare ck_5 kc0 ml_X5_81 (hR.le (by omega)) (Nat.zero_le _) (Nat.zero_le _) [.int i1, .int (i2 + (v8 (rfC (rfC c0 1) (Int32.toNatClampNeg x3)) (Int32.toNatClampNeg (v8 (rfC c0 2) (Int32.toNatClampNeg 0))))), .int (i3 + x9)] rfl hl.1 rfl (Nat.le_of_ble_eq_true rfl) dX5_extend_59 (m_X5_compare hI kc0 hc39) (fun H locs hP hS => ?_)
      exact w_X5_extend_b62 rcE C hI hr hlk hR hrcE c0 i1 i2 i3 x3 v40 _ _ _ kc0 h hP hS (lv_sub hl [2, 3, 4, 5, 1] rfl)
set_option maxRecDepth 100000 in
theorem m_X5_extend (rcE : Nat → Int32 → Int32 → Int32 → VV → Option (VV)) (hI : wI LC ad) (hrcE : ∀ (o : Nat) (a0 : Int32) (a1 : Int32) (a2 : Int32) (v vZ : VV), wk LC o 5 → rcE o a0 a1 a2 v = some vZ → Met l yX5_extend (Cond.code yX5_extend cX5_extend 8 none :: wsG) (rmL (d + 2)) (pcG LC cy ad D [.ref (ad o), .int a0, .int a1, .int a2] v) (qvG LC cy ad D vZ) 0 0 (wA LC ad)) {c0 : Nat} {i1 : Int32} {i2 : Int32} {i3 : Int32} {v : VV} {vZ : VV} (kc0 : wk LC c0 5) (h : F_X5_extend rcE c0 i1 i2 i3 v = some vZ) : Met l yX5_extend (Cond.code yX5_extend cX5_extend 8 none :: wsG) (rmL (d + 3)) (pcG LC cy ad D [.ref (ad c0), .int i1, .int i2, .int i3] v) (qvG LC cy ad D vZ) 0 0 (wA LC ad) := by
  refine Met.ofW (cc := cX5_extend) (maxL := 8) (ret := none) (by decide) rfl ?_
  intro p e s m args below meth c s₁ B hml hv
  obtain ⟨rfl, hP, hK⟩ := hv
  have hts := atoms_spec (ws := Cond.code yX5_extend cX5_extend 8 none :: wsG) B.pre
  have hown : s.vm.findClass RX5 = some m.cls := findClass_of_methodNamed B.named
  have C : Cx p s m _ c cX5_extend 8 RX5 D cy := ⟨B.exec, B.bytes, hml, hown, fun w hw => hts w (List.mem_cons_of_mem _ hw), hK⟩
  have hl := lv_entry ([.ref (ad c0), .int i1, .int i2, .int i3]) (n := 8) (Nat.le_of_ble_eq_true rfl)
  rw [lg_entry_eq]
  generalize (lg_sl ([.ref (ad c0), .int i1, .int i2, .int i3]) ++ List.replicate (8 - (lg_sl ([.ref (ad c0), .int i1, .int i2, .int i3])).length) Slot.unset).toArray = ls at hl ⊢
  have hl : lv_has ls 8 [(0, .ref (ad c0)), (1, .int i1), (2, .int i2), (3, .int i3)] := hl
  exact w_X5_extend rcE C hI B.returns B.notSynchronized (RoL_rm _) hrcE c0 i1 i2 i3 v _ _ _ kc0 h hP va_S.rf (lv_sub hl [0, 1, 2, 3] rfl)
def fx_X5_extend : Nat → Nat → Int32 → Int32 → Int32 → VV → Option VV
  | 0, _, _, _, _, _ => none
  | n + 1, o, a, b, x, v => F_X5_extend (fx_X5_extend n) o a b x v
theorem mx_X5_extend (hI : wI LC ad) : ∀ (n o : Nat) (a b x : Int32) (v vZ : VV), wk LC o 5 → fx_X5_extend n o a b x v = some vZ → Met l yX5_extend (Cond.code yX5_extend cX5_extend 8 none :: wsG) (rmL (n + 2)) (pcG LC cy ad D [.ref (ad o), .int a, .int b, .int x] v) (qvG LC cy ad D vZ) 0 0 (wA LC ad)
  | 0, _, _, _, _, _, _, _, h => by cases h
  | n + 1, o, a, b, x, v, vZ, k, h => m_X5_extend (d := n) (fx_X5_extend n) hI (mx_X5_extend hI n) k h
def f_X5_seek_l12 : Nat → Nat → Int32 → VV → Option (VV)
  | 0, _, _, _ => none
  | n + 1, c0, i2, v =>
    if ((v (rfC c0 0) 3) ≤ i2) then
      some v
    else
      gd (inB 0 (lnC (rfC c0 2)) = true) <|
      nv (wu v (rfC c0 2) (Int32.toNatClampNeg 0) i2) fun v7 =>
      (fx_X5_extend 8 c0 1 0 0 v7).bind fun v9 =>
      nv (i2 + 1) fun x10 =>
      f_X5_seek_l12 n c0 x10 v9
def f_X5_seek (c0 : Nat) (i1 : Int32) (v : VV) : Option (VV) :=
  nv (wu v c0 4 0) fun v1 =>
  (F_X5_fillLegGains c0 i1 v1).bind fun v3 =>
  f_X5_seek_l12 FU c0 0 v3
abbrev F_X5_seek (c0 : Nat) (i1 : Int32) (v : VV) : Option (VV) := f_X5_seek c0 i1 v
set_option maxHeartbeats 4000000 in
set_option maxRecDepth 100000 in
theorem w_X5_seek_l12 (C : Cx p s m args c cX5_seek 3 RX5 D cy) (hI : wI LC ad) (hr : meth.sig.returnType = none) (hlk : meth.locks = false) (hR : RoL 11 R) {vZ : VV} : ∀ (n : Nat) (c0 : Nat) (i2 : Int32) (v : VV) (H : Heap) (locs : List Loc) (ls : Array Slot), wk LC c0 5 → f_X5_seek_l12 n c0 i2 v = some vZ → va_P D vwCl (wd LC cy ad v) H → va_S (wA LC ad) s.heap H locs → lv_has ls 3 [(0, .ref (ad c0)), (2, .int i2)] → W p l e R s m args below meth c H locs 0 0 (MQ below (qvG LC cy ad D vZ) args s 0 0 (wA LC ad)) (F0 m 12 ls []) := by
  intro n
  induction n with
  | zero => intro c0 i2 v H locs ls kc0 h hP hS hl; exact absurd h (by simp [f_X5_seek_l12])
  | succ n ih =>
    intro c0 i2 v H locs ls kc0 h hP hS hl
    rw [f_X5_seek_l12] at h
    refine lv_iload_n (pc := 12) C.1 C.2.1 dX5_seek_12 rfl (lv_at hl 1 rfl) ?_
    refine lv_aload_n (pc := 13) C.1 C.2.1 dX5_seek_13 rfl (lv_at hl 0 rfl) ?_
    refine x_getr (pc := 14) C hP ck_5 0 fl_X5_23 (by decide) rfl kc0 dX5_seek_14 ?_
    have k4 : wk LC (rfC c0 0) 9 := wt_f wT_C kc0 0 (by decide) rfl rfl
    refine x_geti (pc := 17) C hP ck_9 3 fl_X5_35 (by decide) rfl k4 dX5_seek_17 ?_
    refine lv_icmp_ge (pc := 20) (tgt := 43) C.1 C.2.1 dX5_seek_20 (by decide) (fun b20 => ?_) (fun b20 => ?_)
    · replace h := if_t h b20
      exact x_vret (pc := 43) C hr hlk hP hS h dX5_seek_43
    · replace h := if_f h b20
      refine lv_aload_n (pc := 23) C.1 C.2.1 dX5_seek_23 rfl (lv_at hl 0 rfl) ?_
      refine x_getr (pc := 24) C hP ck_5 2 fl_X5_16 (by decide) rfl kc0 dX5_seek_24 ?_
      have k5 : wk LC (rfC c0 2) 12 := wt_f wT_C kc0 2 (by decide) rfl rfl
      refine lv_iconst (pc := 27) (v := 0) C.1 C.2.1 dX5_seek_27 (by decide) ?_
      refine lv_iload_n (pc := 28) C.1 C.2.1 dX5_seek_28 rfl (lv_at hl 1 rfl) ?_
      obtain ⟨g6, h⟩ := gd_e h
      refine x_iast (pc := 29) C hI hP hS k5 (inB_vp g6) dX5_seek_29 (fun H locs hP hS => ?_)
      obtain ⟨v7, h, hP⟩ := nv_p (P := fun z => va_P D vwCl (wd LC cy ad z) H) h hP
      refine lv_aload_n (pc := 30) C.1 C.2.1 dX5_seek_30 rfl (lv_at hl 0 rfl) ?_
      refine lv_iconst (pc := 31) (v := 1) C.1 C.2.1 dX5_seek_31 (by decide) ?_
      refine lv_iconst (pc := 32) (v := 0) C.1 C.2.1 dX5_seek_32 (by decide) ?_
      refine lv_iconst (pc := 33) (v := 0) C.1 C.2.1 dX5_seek_33 (by decide) ?_
      obtain ⟨v9, hc8, h⟩ := bd_e h
      refine x_callv (pc := 34) C hP hS mi_X5_extend ck_5 kc0 ml_X5_40 (hR.le (by decide)) (Nat.zero_le _) (Nat.zero_le _) [.int 1, .int 0, .int 0] rfl hl.1 rfl (Nat.le_of_ble_eq_true rfl) dX5_seek_34 (mx_X5_extend hI 8 c0 1 0 0 v7 _ kc0 hc8) (fun H locs hP hS => ?_)
      obtain ⟨x10, ex10⟩ : ∃ y : Int32, y = i2 + 1 := ⟨_, rfl⟩
      replace h := nv_e h ex10
      refine lv_iinc (pc := 37) (v := x10) (lv' := [(2, .int x10), (0, .ref (ad c0))]) C.1 C.2.1 dX5_seek_37 hl (k := 1) rfl (by rw [ex10]; rfl) (by decide) rfl (fun ls hl => ?_)
      clear ex10
      refine lv_goto (pc := 40) (tgt := 12) C.1 C.2.1 dX5_seek_40 (by decide) ?_
      exact ih c0 x10 v9 _ _ _ kc0 h hP hS (lv_sub hl [1, 0] rfl)
set_option maxHeartbeats 4000000 in
set_option maxRecDepth 100000 in
theorem w_X5_seek (C : Cx p s m args c cX5_seek 3 RX5 D cy) (hI : wI LC ad) (hr : meth.sig.returnType = none) (hlk : meth.locks = false) (hR : RoL 11 R) {vZ : VV} : ∀ (c0 : Nat) (i1 : Int32) (v : VV) (H : Heap) (locs : List Loc) (ls : Array Slot), wk LC c0 5 → f_X5_seek c0 i1 v = some vZ → va_P D vwCl (wd LC cy ad v) H → va_S (wA LC ad) s.heap H locs → lv_has ls 3 [(0, .ref (ad c0)), (1, .int i1)] → W p l e R s m args below meth c H locs 0 0 (MQ below (qvG LC cy ad D vZ) args s 0 0 (wA LC ad)) (F0 m 0 ls []) := by
  intro c0 i1 v H locs ls kc0 h hP hS hl
  unfold f_X5_seek at h
  refine lv_aload_n (pc := 0) C.1 C.2.1 dX5_seek_0 rfl (lv_at hl 0 rfl) ?_
  refine lv_iconst (pc := 1) (v := 0) C.1 C.2.1 dX5_seek_1 (by decide) ?_
  refine x_put (pc := 2) C hI hP hS ck_5 4 fl_X5_27 (by decide) rfl rfl kc0 rfl rfl dX5_seek_2 (fun H locs hP hS => ?_)
  obtain ⟨v1, h, hP⟩ := nv_p (P := fun z => va_P D vwCl (wd LC cy ad z) H) h hP
  refine lv_aload_n (pc := 5) C.1 C.2.1 dX5_seek_5 rfl (lv_at hl 0 rfl) ?_
  refine lv_iload_n (pc := 6) C.1 C.2.1 dX5_seek_6 rfl (lv_at hl 1 rfl) ?_
  obtain ⟨v3, hc2, h⟩ := bd_e h
  refine x_callv (pc := 7) C hP hS mi_X5_fillLegGains ck_5 kc0 ml_X5_31 (hR.le (by decide)) (Nat.zero_le _) (Nat.zero_le _) [.int i1] rfl hl.1 rfl (Nat.le_of_ble_eq_true rfl) dX5_seek_7 (m_X5_fillLegGains hI kc0 hc2) (fun H locs hP hS => ?_)
  refine lv_iconst (pc := 10) (v := 0) C.1 C.2.1 dX5_seek_10 (by decide) ?_
  refine lv_istore_n (pc := 11) (lv' := [(2, .int 0), (0, .ref (ad c0)), (1, .int i1)]) C.1 C.2.1 dX5_seek_11 rfl hl (by decide) rfl (fun ls hl => ?_)
  refine w_X5_seek_l12 C hI hr hlk hR FU c0 0 v3 _ _ _ kc0 h hP hS (lv_sub hl [1, 0] rfl)
set_option maxRecDepth 100000 in
theorem m_X5_seek (hI : wI LC ad) {c0 : Nat} {i1 : Int32} {v : VV} {vZ : VV} (kc0 : wk LC c0 5) (h : F_X5_seek c0 i1 v = some vZ) : Met l yX5_seek (Cond.code yX5_seek cX5_seek 3 none :: wsG) (rmL 11) (pcG LC cy ad D [.ref (ad c0), .int i1] v) (qvG LC cy ad D vZ) 0 0 (wA LC ad) := by
  refine Met.ofW (cc := cX5_seek) (maxL := 3) (ret := none) (by decide) rfl ?_
  intro p e s m args below meth c s₁ B hml hv
  obtain ⟨rfl, hP, hK⟩ := hv
  have hts := atoms_spec (ws := Cond.code yX5_seek cX5_seek 3 none :: wsG) B.pre
  have hown : s.vm.findClass RX5 = some m.cls := findClass_of_methodNamed B.named
  have C : Cx p s m _ c cX5_seek 3 RX5 D cy := ⟨B.exec, B.bytes, hml, hown, fun w hw => hts w (List.mem_cons_of_mem _ hw), hK⟩
  have hl := lv_entry ([.ref (ad c0), .int i1]) (n := 3) (Nat.le_of_ble_eq_true rfl)
  rw [lg_entry_eq]
  generalize (lg_sl ([.ref (ad c0), .int i1]) ++ List.replicate (3 - (lg_sl ([.ref (ad c0), .int i1])).length) Slot.unset).toArray = ls at hl ⊢
  have hl : lv_has ls 3 [(0, .ref (ad c0)), (1, .int i1)] := hl
  exact w_X5_seek C hI B.returns B.notSynchronized (RoL_rm _) c0 i1 v _ _ _ kc0 h hP va_S.rf (lv_sub hl [0, 1] rfl)
def f_X10_ring_b28 (c0 : Nat) (i1 : Int32) (i2 : Int32) (v : VV) : Option (Int32 × VV) :=
  (F_X5_seek (rfC c0 10) i1 v).bind fun v9 =>
  if ((v9 (rfC c0 10) 4) = 0) then
    some ((-10000005), v9)
  else
    if (i2 = 0) then
      some ((v9 (rfC c0 10) 5), v9)
    else
      if (i2 = 1) then
        some ((v9 (rfC c0 10) 6), v9)
      else
        if (i2 = 2) then
          some ((v9 (rfC c0 10) 4), v9)
        else
          nv ((i2 - 10)) fun x11 =>
          if ((v9 (rfC c0 10) 4) ≤ x11) then
            some ((-6), v9)
          else
            gd (inB x11 (lnC (rfC (rfC c0 10) 3)) = true) <|
            some ((v9 (rfC (rfC c0 10) 3) (Int32.toNatClampNeg x11)), v9)
def f_X10_ring (c0 : Nat) (i1 : Int32) (i2 : Int32) (v : VV) : Option (Int32 × VV) :=
  bi (F_X10_within i1 1 20 v) fun x3 v2 =>
  if (x3 = 0) then
    some ((-10000002), v2)
  else
    bi (F_X10_within i2 0 2 v2) fun x6 v5 =>
    if (x6 = 0) then
      if (10 ≤ i2) then
        f_X10_ring_b28 c0 i1 i2 v5
      else
        some ((-10000002), v5)
    else
      f_X10_ring_b28 c0 i1 i2 v5
abbrev F_X10_ring (c0 : Nat) (i1 : Int32) (i2 : Int32) (v : VV) : Option (Int32 × VV) := f_X10_ring c0 i1 i2 v
set_option maxHeartbeats 4000000 in
set_option maxRecDepth 100000 in
theorem w_X10_ring_b28 (C : Cx p s m args c cX10_ring 4 RX10 D cy) (hI : wI LC ad) (hr : meth.sig.returnType = some .int) (hlk : meth.locks = false) (hR : RoL 12 R) {rZ : Int32} {vZ : VV} : ∀ (c0 : Nat) (i1 : Int32) (i2 : Int32) (v : VV) (H : Heap) (locs : List Loc) (ls : Array Slot), wk LC c0 10 → f_X10_ring_b28 c0 i1 i2 v = some (rZ, vZ) → va_P D vwCl (wd LC cy ad v) H → va_S (wA LC ad) s.heap H locs → lv_has ls 4 [(0, .ref (ad c0)), (1, .int i1), (2, .int i2)] → W p l e R s m args below meth c H locs 0 0 (MQ below (qiG LC cy ad D rZ vZ) args s 0 0 (wA LC ad)) (F0 m 28 ls []) := by
  intro c0 i1 i2 v H locs ls kc0 h hP hS hl
  unfold f_X10_ring_b28 at h
  refine lv_aload_n (pc := 28) C.1 C.2.1 dX10_ring_28 rfl (lv_at hl 0 rfl) ?_
  refine x_getr (pc := 29) C hP ck_10 10 fl_X10_42 (by decide) rfl kc0 dX10_ring_29 ?_
  have k7 : wk LC (rfC c0 10) 5 := wt_f wT_C kc0 10 (by decide) rfl rfl
  refine lv_iload_n (pc := 32) C.1 C.2.1 dX10_ring_32 rfl (lv_at hl 1 rfl) ?_
  obtain ⟨v9, hc8, h⟩ := bd_e h
  refine x_callv (pc := 33) C hP hS mi_X5_seek ck_5 k7 ml_X10_229 (hR.le (by decide)) (Nat.zero_le _) (Nat.zero_le _) [.int i1] rfl hl.1 rfl (Nat.le_of_ble_eq_true rfl) dX10_ring_33 (m_X5_seek hI k7 hc8) (fun H locs hP hS => ?_)
  refine lv_aload_n (pc := 36) C.1 C.2.1 dX10_ring_36 rfl (lv_at hl 0 rfl) ?_
  refine x_getr (pc := 37) C hP ck_10 10 fl_X10_42 (by decide) rfl kc0 dX10_ring_37 ?_
  have k10 : wk LC (rfC c0 10) 5 := wt_f wT_C kc0 10 (by decide) rfl rfl
  refine x_geti (pc := 40) C hP ck_5 4 fl_X10_232 (by decide) rfl k10 dX10_ring_40 ?_
  refine lv_if_ne (pc := 43) (tgt := 49) C.1 C.2.1 dX10_ring_43 (by decide) (fun b43 => ?_) (fun b43 => ?_)
  · replace h := if_f h b43
    refine lv_iload_n (pc := 49) C.1 C.2.1 dX10_ring_49 rfl (lv_at hl 2 rfl) ?_
    refine lv_if_ne (pc := 50) (tgt := 61) C.1 C.2.1 dX10_ring_50 (by decide) (fun b50 => ?_) (fun b50 => ?_)
    · replace h := if_f h b50
      refine lv_iload_n (pc := 61) C.1 C.2.1 dX10_ring_61 rfl (lv_at hl 2 rfl) ?_
      refine lv_iconst (pc := 62) (v := 1) C.1 C.2.1 dX10_ring_62 (by decide) ?_
      refine lv_icmp_ne (pc := 63) (tgt := 74) C.1 C.2.1 dX10_ring_63 (by decide) (fun b63 => ?_) (fun b63 => ?_)
      · replace h := if_f h b63
        refine lv_iload_n (pc := 74) C.1 C.2.1 dX10_ring_74 rfl (lv_at hl 2 rfl) ?_
        refine lv_iconst (pc := 75) (v := 2) C.1 C.2.1 dX10_ring_75 (by decide) ?_
        refine lv_icmp_ne (pc := 76) (tgt := 87) C.1 C.2.1 dX10_ring_76 (by decide) (fun b76 => ?_) (fun b76 => ?_)
        · replace h := if_f h b76
          refine lv_iload_n (pc := 87) C.1 C.2.1 dX10_ring_87 rfl (lv_at hl 2 rfl) ?_
          refine lv_bipush (pc := 88) (v := 10) C.1 C.2.1 dX10_ring_88 (by decide) ?_
          refine lv_isub (pc := 90) C.1 C.2.1 dX10_ring_90 ?_
          refine lv_topi (fun x11 ex11 => ?_)
          replace h := nv_e h ex11
          clear ex11
          refine lv_istore_n (pc := 91) (lv' := [(3, .int x11), (0, .ref (ad c0)), (1, .int i1), (2, .int i2)]) C.1 C.2.1 dX10_ring_91 rfl hl (by decide) rfl (fun ls hl => ?_)
          refine lv_iload_n (pc := 92) C.1 C.2.1 dX10_ring_92 rfl (lv_at hl 0 rfl) ?_
          refine lv_aload_n (pc := 93) C.1 C.2.1 dX10_ring_93 rfl (lv_at hl 1 rfl) ?_
          refine x_getr (pc := 94) C hP ck_10 10 fl_X10_42 (by decide) rfl kc0 dX10_ring_94 ?_
          have k12 : wk LC (rfC c0 10) 5 := wt_f wT_C kc0 10 (by decide) rfl rfl
          refine x_geti (pc := 97) C hP ck_5 4 fl_X10_232 (by decide) rfl k12 dX10_ring_97 ?_
          refine lv_icmp_ge (pc := 100) (tgt := 115) C.1 C.2.1 dX10_ring_100 (by decide) (fun b100 => ?_) (fun b100 => ?_)
          · replace h := if_t h b100
            refine lv_bipush (pc := 115) (v := (-6)) C.1 C.2.1 dX10_ring_115 (by decide) ?_
            exact x_iret (pc := 117) C hr hlk hP hS h dX10_ring_117
          · replace h := if_f h b100
            refine lv_aload_n (pc := 103) C.1 C.2.1 dX10_ring_103 rfl (lv_at hl 1 rfl) ?_
            refine x_getr (pc := 104) C hP ck_10 10 fl_X10_42 (by decide) rfl kc0 dX10_ring_104 ?_
            have k13 : wk LC (rfC c0 10) 5 := wt_f wT_C kc0 10 (by decide) rfl rfl
            refine x_getr (pc := 107) C hP ck_5 3 fl_X10_242 (by decide) rfl k13 dX10_ring_107 ?_
            have k14 : wk LC (rfC (rfC c0 10) 3) 12 := wt_f wT_C k13 3 (by decide) rfl rfl
            refine lv_iload_n (pc := 110) C.1 C.2.1 dX10_ring_110 rfl (lv_at hl 0 rfl) ?_
            obtain ⟨g15, h⟩ := gd_e h
            refine x_iald (pc := 111) C hP k14 (inB_vp g15) dX10_ring_111 ?_
            refine lv_goto (pc := 112) (tgt := 117) C.1 C.2.1 dX10_ring_112 (by decide) ?_
            exact x_iret (pc := 117) C hr hlk hP hS h dX10_ring_117
        · replace h := if_t h b76
          refine lv_aload_n (pc := 79) C.1 C.2.1 dX10_ring_79 rfl (lv_at hl 0 rfl) ?_
          refine x_getr (pc := 80) C hP ck_10 10 fl_X10_42 (by decide) rfl kc0 dX10_ring_80 ?_
          have k16 : wk LC (rfC c0 10) 5 := wt_f wT_C kc0 10 (by decide) rfl rfl
          refine x_geti (pc := 83) C hP ck_5 4 fl_X10_232 (by decide) rfl k16 dX10_ring_83 ?_
          exact x_iret (pc := 86) C hr hlk hP hS h dX10_ring_86
      · replace h := if_t h b63
        refine lv_aload_n (pc := 66) C.1 C.2.1 dX10_ring_66 rfl (lv_at hl 0 rfl) ?_
        refine x_getr (pc := 67) C hP ck_10 10 fl_X10_42 (by decide) rfl kc0 dX10_ring_67 ?_
        have k17 : wk LC (rfC c0 10) 5 := wt_f wT_C kc0 10 (by decide) rfl rfl
        refine x_geti (pc := 70) C hP ck_5 6 fl_X10_239 (by decide) rfl k17 dX10_ring_70 ?_
        exact x_iret (pc := 73) C hr hlk hP hS h dX10_ring_73
    · replace h := if_t h b50
      refine lv_aload_n (pc := 53) C.1 C.2.1 dX10_ring_53 rfl (lv_at hl 0 rfl) ?_
      refine x_getr (pc := 54) C hP ck_10 10 fl_X10_42 (by decide) rfl kc0 dX10_ring_54 ?_
      have k18 : wk LC (rfC c0 10) 5 := wt_f wT_C kc0 10 (by decide) rfl rfl
      refine x_geti (pc := 57) C hP ck_5 5 fl_X10_236 (by decide) rfl k18 dX10_ring_57 ?_
      exact x_iret (pc := 60) C hr hlk hP hS h dX10_ring_60
  · replace h := if_t h b43
    refine lv_ldc (pc := 46) (v := (-10000005)) C.1 C.2.1 C.2.2.2.1 (C.2.2.2.2.1 _ ct_X10_235) dX10_ring_46 ?_
    exact x_iret (pc := 48) C hr hlk hP hS h dX10_ring_48
set_option maxHeartbeats 4000000 in
set_option maxRecDepth 100000 in
theorem w_X10_ring (C : Cx p s m args c cX10_ring 4 RX10 D cy) (hI : wI LC ad) (hr : meth.sig.returnType = some .int) (hlk : meth.locks = false) (hR : RoL 12 R) {rZ : Int32} {vZ : VV} : ∀ (c0 : Nat) (i1 : Int32) (i2 : Int32) (v : VV) (H : Heap) (locs : List Loc) (ls : Array Slot), wk LC c0 10 → f_X10_ring c0 i1 i2 v = some (rZ, vZ) → va_P D vwCl (wd LC cy ad v) H → va_S (wA LC ad) s.heap H locs → lv_has ls 4 [(0, .ref (ad c0)), (1, .int i1), (2, .int i2)] → W p l e R s m args below meth c H locs 0 0 (MQ below (qiG LC cy ad D rZ vZ) args s 0 0 (wA LC ad)) (F0 m 0 ls []) := by
  intro c0 i1 i2 v H locs ls kc0 h hP hS hl
  unfold f_X10_ring at h
  refine lv_iload_n (pc := 0) C.1 C.2.1 dX10_ring_0 rfl (lv_at hl 1 rfl) ?_
  refine lv_iconst (pc := 1) (v := 1) C.1 C.2.1 dX10_ring_1 (by decide) ?_
  refine lv_bipush (pc := 2) (v := 20) C.1 C.2.1 dX10_ring_2 (by decide) ?_
  obtain ⟨x3, v2, hc1, h⟩ := bi_e h
  refine x_callsi (pc := 4) C hP hS ms_X10_within ml_X10_64 (hR.le (by decide)) (Nat.zero_le _) (Nat.zero_le _) [.int i1, .int 1, .int 20] rfl hl.1 rfl (Nat.le_of_ble_eq_true rfl) dX10_ring_4 (m_X10_within hI hc1) (fun H locs hP hS => ?_)
  refine lv_if_eq (pc := 7) (tgt := 25) C.1 C.2.1 dX10_ring_7 (by decide) (fun b7 => ?_) (fun b7 => ?_)
  · replace h := if_t h b7
    refine lv_ldc (pc := 25) (v := (-10000002)) C.1 C.2.1 C.2.2.2.1 (C.2.2.2.2.1 _ ct_X10_124) dX10_ring_25 ?_
    exact x_iret (pc := 27) C hr hlk hP hS h dX10_ring_27
  · replace h := if_f h b7
    refine lv_iload_n (pc := 10) C.1 C.2.1 dX10_ring_10 rfl (lv_at hl 2 rfl) ?_
    refine lv_iconst (pc := 11) (v := 0) C.1 C.2.1 dX10_ring_11 (by decide) ?_
    refine lv_iconst (pc := 12) (v := 2) C.1 C.2.1 dX10_ring_12 (by decide) ?_
    obtain ⟨x6, v5, hc4, h⟩ := bi_e h
    refine x_callsi (pc := 13) C hP hS ms_X10_within ml_X10_64 (hR.le (by decide)) (Nat.zero_le _) (Nat.zero_le _) [.int i2, .int 0, .int 2] rfl hl.1 rfl (Nat.le_of_ble_eq_true rfl) dX10_ring_13 (m_X10_within hI hc4) (fun H locs hP hS => ?_)
    refine lv_if_ne (pc := 16) (tgt := 28) C.1 C.2.1 dX10_ring_16 (by decide) (fun b16 => ?_) (fun b16 => ?_)
    · replace h := if_f h b16
      exact w_X10_ring_b28 C hI hr hlk hR c0 i1 i2 v5 _ _ _ kc0 h hP hS (lv_sub hl [0, 1, 2] rfl)
    · replace h := if_t h b16
      refine lv_iload_n (pc := 19) C.1 C.2.1 dX10_ring_19 rfl (lv_at hl 2 rfl) ?_
      refine lv_bipush (pc := 20) (v := 10) C.1 C.2.1 dX10_ring_20 (by decide) ?_
      refine lv_icmp_ge (pc := 22) (tgt := 28) C.1 C.2.1 dX10_ring_22 (by decide) (fun b22 => ?_) (fun b22 => ?_)
      · replace h := if_t h b22
        exact w_X10_ring_b28 C hI hr hlk hR c0 i1 i2 v5 _ _ _ kc0 h hP hS (lv_sub hl [0, 1, 2] rfl)
      · replace h := if_f h b22
        refine lv_ldc (pc := 25) (v := (-10000002)) C.1 C.2.1 C.2.2.2.1 (C.2.2.2.2.1 _ ct_X10_124) dX10_ring_25 ?_
        exact x_iret (pc := 27) C hr hlk hP hS h dX10_ring_27
set_option maxRecDepth 100000 in
theorem m_X10_ring (hI : wI LC ad) {c0 : Nat} {i1 : Int32} {i2 : Int32} {v : VV} {rZ : Int32} {vZ : VV} (kc0 : wk LC c0 10) (h : F_X10_ring c0 i1 i2 v = some (rZ, vZ)) : Met l yX10_ring (Cond.code yX10_ring cX10_ring 4 (some .int) :: wsG) (rmL 12) (pcG LC cy ad D [.ref (ad c0), .int i1, .int i2] v) (qiG LC cy ad D rZ vZ) 0 0 (wA LC ad) := by
  refine Met.ofW (cc := cX10_ring) (maxL := 4) (ret := (some .int)) (by decide) rfl ?_
  intro p e s m args below meth c s₁ B hml hv
  obtain ⟨rfl, hP, hK⟩ := hv
  have hts := atoms_spec (ws := Cond.code yX10_ring cX10_ring 4 (some .int) :: wsG) B.pre
  have hown : s.vm.findClass RX10 = some m.cls := findClass_of_methodNamed B.named
  have C : Cx p s m _ c cX10_ring 4 RX10 D cy := ⟨B.exec, B.bytes, hml, hown, fun w hw => hts w (List.mem_cons_of_mem _ hw), hK⟩
  have hl := lv_entry ([.ref (ad c0), .int i1, .int i2]) (n := 4) (Nat.le_of_ble_eq_true rfl)
  rw [lg_entry_eq]
  generalize (lg_sl ([.ref (ad c0), .int i1, .int i2]) ++ List.replicate (4 - (lg_sl ([.ref (ad c0), .int i1, .int i2])).length) Slot.unset).toArray = ls at hl ⊢
  have hl : lv_has ls 4 [(0, .ref (ad c0)), (1, .int i1), (2, .int i2)] := hl
  exact w_X10_ring C hI B.returns B.notSynchronized (RoL_rm _) c0 i1 i2 v _ _ _ kc0 h hP va_S.rf (lv_sub hl [0, 1, 2] rfl)
end
