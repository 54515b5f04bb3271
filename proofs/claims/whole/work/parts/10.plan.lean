section
variable {p : Program} {l : Launch} {e : Env} {R : Room} {s : State} {m : MethodId} {args : Array Value} {below : List Frame} {meth : Method} {c : Code} {D : va_G} {cy : Nat → ClassId} {ad : Nat → Nat}
def f_X3_arrive (c1 : Nat) (i2 : Int32) (i3 : Int32) (i4 : Int32) (v : VV) : Option (VV) :=
  nv (wu v c1 0 i2) fun v1 =>
  nv (wu v1 c1 1 i3) fun v2 =>
  nv (wu v2 c1 2 i4) fun v3 =>
  some v3
abbrev F_X3_arrive (c0 : Nat) (c1 : Nat) (i2 : Int32) (i3 : Int32) (i4 : Int32) (v : VV) : Option (VV) := f_X3_arrive c1 i2 i3 i4 v
set_option maxHeartbeats 4000000 in
set_option maxRecDepth 100000 in
theorem w_X3_arrive (C : Cx p s m args c cX3_arrive 5 RX3 D cy) (hI : wI LC ad) (hr : meth.sig.returnType = none) (hlk : meth.locks = false) (hR : RoL 1 R) {vZ : VV} : ∀ (c1 : Nat) (i2 : Int32) (i3 : Int32) (i4 : Int32) (v : VV) (H : Heap) (locs : List Loc) (ls : Array Slot), wk LC c1 8 → f_X3_arrive c1 i2 i3 i4 v = some vZ → va_P D vwCl (wd LC cy ad v) H → va_S (wA LC ad) s.heap H locs → lv_has ls 5 [(1, .ref (ad c1)), (2, .int i2), (3, .int i3), (4, .int i4)] → W p l e R s m args below meth c H locs 0 0 (MQ below (qvG LC cy ad D vZ) args s 0 0 (wA LC ad)) (F0 m 0 ls []) := by
  intro c1 i2 i3 i4 v H locs ls kc1 h hP hS hl
  unfold f_X3_arrive at h
  refine lv_aload_n (pc := 0) C.1 C.2.1 dX3_arrive_0 rfl (lv_at hl 0 rfl) ?_
  refine lv_iload_n (pc := 1) C.1 C.2.1 dX3_arrive_1 rfl (lv_at hl 1 rfl) ?_
  refine x_put (pc := 2) C hI hP hS ck_8 0 fl_X3_94 (by decide) rfl rfl kc1 rfl rfl dX3_arrive_2 (fun H locs hP hS => ?_)
  obtain ⟨v1, h, hP⟩ := nv_p (P := fun z => va_P D vwCl (wd LC cy ad z) H) h hP
  refine lv_aload_n (pc := 5) C.1 C.2.1 dX3_arrive_5 rfl (lv_at hl 0 rfl) ?_
  refine lv_iload_n (pc := 6) C.1 C.2.1 dX3_arrive_6 rfl (lv_at hl 2 rfl) ?_
  refine x_put (pc := 7) C hI hP hS ck_8 1 fl_X3_97 (by decide) rfl rfl kc1 rfl rfl dX3_arrive_7 (fun H locs hP hS => ?_)
  obtain ⟨v2, h, hP⟩ := nv_p (P := fun z => va_P D vwCl (wd LC cy ad z) H) h hP
  refine lv_aload_n (pc := 10) C.1 C.2.1 dX3_arrive_10 rfl (lv_at hl 0 rfl) ?_
  refine lv_iload (pc := 11) C.1 C.2.1 dX3_arrive_11 (lv_at hl 3 rfl) ?_
  refine x_put (pc := 13) C hI hP hS ck_8 2 fl_X3_100 (by decide) rfl rfl kc1 rfl rfl dX3_arrive_13 (fun H locs hP hS => ?_)
  obtain ⟨v3, h, hP⟩ := nv_p (P := fun z => va_P D vwCl (wd LC cy ad z) H) h hP
  exact x_vret (pc := 16) C hr hlk hP hS h dX3_arrive_16
set_option maxRecDepth 100000 in
theorem m_X3_arrive (hI : wI LC ad) {c0 : Nat} {c1 : Nat} {i2 : Int32} {i3 : Int32} {i4 : Int32} {v : VV} {vZ : VV} (kc0 : wk LC c0 3) (kc1 : wk LC c1 8) (h : F_X3_arrive c0 c1 i2 i3 i4 v = some vZ) : Met l yX3_arrive (Cond.code yX3_arrive cX3_arrive 5 none :: wsG) (rmL 1) (pcG LC cy ad D [.ref (ad c0), .ref (ad c1), .int i2, .int i3, .int i4] v) (qvG LC cy ad D vZ) 0 0 (wA LC ad) := by
  refine Met.ofW (cc := cX3_arrive) (maxL := 5) (ret := none) (by decide) rfl ?_
  intro p e s m args below meth c s₁ B hml hv
  obtain ⟨rfl, hP, hK⟩ := hv
  have hts := atoms_spec (ws := Cond.code yX3_arrive cX3_arrive 5 none :: wsG) B.pre
  have hown : s.vm.findClass RX3 = some m.cls := findClass_of_methodNamed B.named
  have C : Cx p s m _ c cX3_arrive 5 RX3 D cy := ⟨B.exec, B.bytes, hml, hown, fun w hw => hts w (List.mem_cons_of_mem _ hw), hK⟩
  have hl := lv_entry ([.ref (ad c0), .ref (ad c1), .int i2, .int i3, .int i4]) (n := 5) (Nat.le_of_ble_eq_true rfl)
  rw [lg_entry_eq]
  generalize (lg_sl ([.ref (ad c0), .ref (ad c1), .int i2, .int i3, .int i4]) ++ List.replicate (5 - (lg_sl ([.ref (ad c0), .ref (ad c1), .int i2, .int i3, .int i4])).length) Slot.unset).toArray = ls at hl ⊢
  have hl : lv_has ls 5 [(0, .ref (ad c0)), (1, .ref (ad c1)), (2, .int i2), (3, .int i3), (4, .int i4)] := hl
  exact w_X3_arrive C hI B.returns B.notSynchronized (RoL_rm _) c1 i2 i3 i4 v _ _ _ kc1 h hP va_S.rf (lv_sub hl [1, 2, 3, 4] rfl)
def f_X3_compare_b16 (c0 : Nat) (i1 : Int32) (v : VV) : Option (VV) :=
  nv (wu v c0 10 1) fun v1 =>
  nv (wu v1 c0 13 i1) fun v2 =>
  nv (wu v2 c0 14 (v2 c0 8)) fun v3 =>
  gd (¬ (v3 c0 8) < 0) <|
  gd (Int32.toNatClampNeg (v3 c0 8) ≤ lnC (rfC c0 6)) <|
  gd (Int32.toNatClampNeg (v3 c0 8) ≤ lnC (rfC c0 11)) <|
  nv (wcp v3 (rfC c0 6) (rfC c0 11) (Int32.toNatClampNeg (v3 c0 8))) fun v9 =>
  gd (¬ (v9 c0 8) < 0) <|
  gd (Int32.toNatClampNeg (v9 c0 8) ≤ lnC (rfC c0 7)) <|
  gd (Int32.toNatClampNeg (v9 c0 8) ≤ lnC (rfC c0 12)) <|
  nv (wcp v9 (rfC c0 7) (rfC c0 12) (Int32.toNatClampNeg (v9 c0 8))) fun v15 =>
  some v15
def f_X3_compare (c0 : Nat) (i1 : Int32) (v : VV) : Option (VV) :=
  if ((v c0 10) = 0) then
    f_X3_compare_b16 c0 i1 v
  else
    if ((v c0 13) < i1) then
      f_X3_compare_b16 c0 i1 v
    else
      some v
abbrev F_X3_compare (c0 : Nat) (i1 : Int32) (v : VV) : Option (VV) := f_X3_compare c0 i1 v
set_option maxHeartbeats 4000000 in
set_option maxRecDepth 100000 in
theorem w_X3_compare_b16 (C : Cx p s m args c cX3_compare 2 RX3 D cy) (hI : wI LC ad) (hr : meth.sig.returnType = none) (hlk : meth.locks = false) (hR : RoL 1 R) {vZ : VV} : ∀ (c0 : Nat) (i1 : Int32) (v : VV) (H : Heap) (locs : List Loc) (ls : Array Slot), wk LC c0 3 → f_X3_compare_b16 c0 i1 v = some vZ → va_P D vwCl (wd LC cy ad v) H → va_S (wA LC ad) s.heap H locs → lv_has ls 2 [(0, .ref (ad c0)), (1, .int i1)] → W p l e R s m args below meth c H locs 0 0 (MQ below (qvG LC cy ad D vZ) args s 0 0 (wA LC ad)) (F0 m 16 ls []) := by
  intro c0 i1 v H locs ls kc0 h hP hS hl
  unfold f_X3_compare_b16 at h
  refine lv_aload_n (pc := 16) C.1 C.2.1 dX3_compare_16 rfl (lv_at hl 0 rfl) ?_
  refine lv_iconst (pc := 17) (v := 1) C.1 C.2.1 dX3_compare_17 (by decide) ?_
  refine x_put (pc := 18) C hI hP hS ck_3 10 fl_X3_62 (by decide) rfl rfl kc0 (by decide) (by decide) dX3_compare_18 (fun H locs hP hS => ?_)
  obtain ⟨v1, h, hP⟩ := nv_p (P := fun z => va_P D vwCl (wd LC cy ad z) H) h hP
  refine lv_aload_n (pc := 21) C.1 C.2.1 dX3_compare_21 rfl (lv_at hl 0 rfl) ?_
  refine lv_iload_n (pc := 22) C.1 C.2.1 dX3_compare_22 rfl (lv_at hl 1 rfl) ?_
  refine x_put (pc := 23) C hI hP hS ck_3 13 fl_X3_124 (by decide) rfl rfl kc0 rfl rfl dX3_compare_23 (fun H locs hP hS => ?_)
  obtain ⟨v2, h, hP⟩ := nv_p (P := fun z => va_P D vwCl (wd LC cy ad z) H) h hP
  refine lv_aload_n (pc := 26) C.1 C.2.1 dX3_compare_26 rfl (lv_at hl 0 rfl) ?_
  refine lv_aload_n (pc := 27) C.1 C.2.1 dX3_compare_27 rfl (lv_at hl 0 rfl) ?_
  refine x_geti (pc := 28) C hP ck_3 8 fl_X3_55 (by decide) rfl kc0 dX3_compare_28 ?_
  refine x_put (pc := 31) C hI hP hS ck_3 14 fl_X3_127 (by decide) rfl rfl kc0 rfl rfl dX3_compare_31 (fun H locs hP hS => ?_)
  obtain ⟨v3, h, hP⟩ := nv_p (P := fun z => va_P D vwCl (wd LC cy ad z) H) h hP
  refine lv_aload_n (pc := 34) C.1 C.2.1 dX3_compare_34 rfl (lv_at hl 0 rfl) ?_
  refine x_getr (pc := 35) C hP ck_3 6 fl_X3_32 (by decide) rfl kc0 dX3_compare_35 ?_
  have k4 : wk LC (rfC c0 6) 12 := wt_f wT_C kc0 6 (by decide) rfl rfl
  refine lv_iconst (pc := 38) (v := 0) C.1 C.2.1 dX3_compare_38 (by decide) ?_
  refine lv_aload_n (pc := 39) C.1 C.2.1 dX3_compare_39 rfl (lv_at hl 0 rfl) ?_
  refine x_getr (pc := 40) C hP ck_3 11 fl_X3_38 (by decide) rfl kc0 dX3_compare_40 ?_
  have k5 : wk LC (rfC c0 11) 12 := wt_f wT_C kc0 11 (by decide) rfl rfl
  refine lv_iconst (pc := 43) (v := 0) C.1 C.2.1 dX3_compare_43 (by decide) ?_
  refine lv_aload_n (pc := 44) C.1 C.2.1 dX3_compare_44 rfl (lv_at hl 0 rfl) ?_
  refine x_geti (pc := 45) C hP ck_3 8 fl_X3_55 (by decide) rfl kc0 dX3_compare_45 ?_
  obtain ⟨g6, h⟩ := gd_e h
  obtain ⟨g7, h⟩ := gd_e h
  obtain ⟨g8, h⟩ := gd_e h
  refine x_copy (pc := 48) C hI hP hS ml_X3_130 k4 k5 g6 g7 g8 (hR.le (by decide)) hl.1 (Nat.le_of_ble_eq_true rfl) dX3_compare_48 (fun H locs hP hS => ?_)
  obtain ⟨v9, h, hP⟩ := nv_p (P := fun z => va_P D vwCl (wd LC cy ad z) H) h hP
  refine lv_aload_n (pc := 51) C.1 C.2.1 dX3_compare_51 rfl (lv_at hl 0 rfl) ?_
  refine x_getr (pc := 52) C hP ck_3 7 fl_X3_35 (by decide) rfl kc0 dX3_compare_52 ?_
  have k10 : wk LC (rfC c0 7) 12 := wt_f wT_C kc0 7 (by decide) rfl rfl
  refine lv_iconst (pc := 55) (v := 0) C.1 C.2.1 dX3_compare_55 (by decide) ?_
  refine lv_aload_n (pc := 56) C.1 C.2.1 dX3_compare_56 rfl (lv_at hl 0 rfl) ?_
  refine x_getr (pc := 57) C hP ck_3 12 fl_X3_41 (by decide) rfl kc0 dX3_compare_57 ?_
  have k11 : wk LC (rfC c0 12) 12 := wt_f wT_C kc0 12 (by decide) rfl rfl
  refine lv_iconst (pc := 60) (v := 0) C.1 C.2.1 dX3_compare_60 (by decide) ?_
  refine lv_aload_n (pc := 61) C.1 C.2.1 dX3_compare_61 rfl (lv_at hl 0 rfl) ?_
  refine x_geti (pc := 62) C hP ck_3 8 fl_X3_55 (by decide) rfl kc0 dX3_compare_62 ?_
  obtain ⟨g12, h⟩ := gd_e h
  obtain ⟨g13, h⟩ := gd_e h
  obtain ⟨g14, h⟩ := gd_e h
  refine x_copy (pc := 65) C hI hP hS ml_X3_130 k10 k11 g12 g13 g14 (hR.le (by decide)) hl.1 (Nat.le_of_ble_eq_true rfl) dX3_compare_65 (fun H locs hP hS => ?_)
  obtain ⟨v15, h, hP⟩ := nv_p (P := fun z => va_P D vwCl (wd LC cy ad z) H) h hP
  exact x_vret (pc := 68) C hr hlk hP hS h dX3_compare_68
set_option maxHeartbeats 4000000 in
set_option maxRecDepth 100000 in
theorem w_X3_compare (C : Cx p s m args c cX3_compare 2 RX3 D cy) (hI : wI LC ad) (hr : meth.sig.returnType = none) (hlk : meth.locks = false) (hR : RoL 1 R) {vZ : VV} : ∀ (c0 : Nat) (i1 : Int32) (v : VV) (H : Heap) (locs : List Loc) (ls : Array Slot), wk LC c0 3 → f_X3_compare c0 i1 v = some vZ → va_P D vwCl (wd LC cy ad v) H → va_S (wA LC ad) s.heap H locs → lv_has ls 2 [(0, .ref (ad c0)), (1, .int i1)] → W p l e R s m args below meth c H locs 0 0 (MQ below (qvG LC cy ad D vZ) args s 0 0 (wA LC ad)) (F0 m 0 ls []) := by
  intro c0 i1 v H locs ls kc0 h hP hS hl
  unfold f_X3_compare at h
  refine lv_aload_n (pc := 0) C.1 C.2.1 dX3_compare_0 rfl (lv_at hl 0 rfl) ?_
  refine x_geti (pc := 1) C hP ck_3 10 fl_X3_62 (by decide) rfl kc0 dX3_compare_1 ?_
  refine lv_if_eq (pc := 4) (tgt := 16) C.1 C.2.1 dX3_compare_4 (by decide) (fun b4 => ?_) (fun b4 => ?_)
  · replace h := if_t h b4
    exact w_X3_compare_b16 C hI hr hlk hR c0 i1 v _ _ _ kc0 h hP hS (lv_sub hl [0, 1] rfl)
  · replace h := if_f h b4
    refine lv_iload_n (pc := 7) C.1 C.2.1 dX3_compare_7 rfl (lv_at hl 1 rfl) ?_
    refine lv_aload_n (pc := 8) C.1 C.2.1 dX3_compare_8 rfl (lv_at hl 0 rfl) ?_
    refine x_geti (pc := 9) C hP ck_3 13 fl_X3_124 (by decide) rfl kc0 dX3_compare_9 ?_
    refine lv_icmp_gt (pc := 12) (tgt := 16) C.1 C.2.1 dX3_compare_12 (by decide) (fun b12 => ?_) (fun b12 => ?_)
    · replace h := if_t h b12
      exact w_X3_compare_b16 C hI hr hlk hR c0 i1 v _ _ _ kc0 h hP hS (lv_sub hl [0, 1] rfl)
    · replace h := if_f h b12
      exact x_vret (pc := 15) C hr hlk hP hS h dX3_compare_15
set_option maxRecDepth 100000 in
theorem m_X3_compare (hI : wI LC ad) {c0 : Nat} {i1 : Int32} {v : VV} {vZ : VV} (kc0 : wk LC c0 3) (h : F_X3_compare c0 i1 v = some vZ) : Met l yX3_compare (Cond.code yX3_compare cX3_compare 2 none :: wsG) (rmL 1) (pcG LC cy ad D [.ref (ad c0), .int i1] v) (qvG LC cy ad D vZ) 0 0 (wA LC ad) := by
  refine Met.ofW (cc := cX3_compare) (maxL := 2) (ret := none) (by decide) rfl ?_
  intro p e s m args below meth c s₁ B hml hv
  obtain ⟨rfl, hP, hK⟩ := hv
  have hts := atoms_spec (ws := Cond.code yX3_compare cX3_compare 2 none :: wsG) B.pre
  have hown : s.vm.findClass RX3 = some m.cls := findClass_of_methodNamed B.named
  have C : Cx p s m _ c cX3_compare 2 RX3 D cy := ⟨B.exec, B.bytes, hml, hown, fun w hw => hts w (List.mem_cons_of_mem _ hw), hK⟩
  have hl := lv_entry ([.ref (ad c0), .int i1]) (n := 2) (Nat.le_of_ble_eq_true rfl)
  rw [lg_entry_eq]
  generalize (lg_sl ([.ref (ad c0), .int i1]) ++ List.replicate (2 - (lg_sl ([.ref (ad c0), .int i1])).length) Slot.unset).toArray = ls at hl ⊢
  have hl : lv_has ls 2 [(0, .ref (ad c0)), (1, .int i1)] := hl
  exact w_X3_compare C hI B.returns B.notSynchronized (RoL_rm _) c0 i1 v _ _ _ kc0 h hP va_S.rf (lv_sub hl [0, 1] rfl)
def f_X3_stockOf (c0 : Nat) (c1 : Nat) (i2 : Int32) (v : VV) : Option (Int32 × VV) :=
  gd (inB (v c1 0) (lnC (rfC c0 4)) = true) <|
  gd (inB (v c1 0) (lnC (rfC c0 5)) = true) <|
  (F_X2_follow (rfC c0 1) c1 (rfC (rfC c0 0) 2) (v (rfC c0 4) (Int32.toNatClampNeg (v c1 0))) (v (rfC c0 5) (Int32.toNatClampNeg (v c1 0))) i2 v).bind fun v9 =>
  some ((v9 (rfC c0 1) 0), v9)
abbrev F_X3_stockOf (c0 : Nat) (c1 : Nat) (i2 : Int32) (v : VV) : Option (Int32 × VV) := f_X3_stockOf c0 c1 i2 v
set_option maxHeartbeats 4000000 in
set_option maxRecDepth 100000 in
theorem w_X3_stockOf (C : Cx p s m args c cX3_stockOf 3 RX3 D cy) (hI : wI LC ad) (hr : meth.sig.returnType = some .int) (hlk : meth.locks = false) (hR : RoL 3 R) {rZ : Int32} {vZ : VV} : ∀ (c0 : Nat) (c1 : Nat) (i2 : Int32) (v : VV) (H : Heap) (locs : List Loc) (ls : Array Slot), wk LC c0 3 → wk LC c1 6 → f_X3_stockOf c0 c1 i2 v = some (rZ, vZ) → va_P D vwCl (wd LC cy ad v) H → va_S (wA LC ad) s.heap H locs → lv_has ls 3 [(0, .ref (ad c0)), (1, .ref (ad c1)), (2, .int i2)] → W p l e R s m args below meth c H locs 0 0 (MQ below (qiG LC cy ad D rZ vZ) args s 0 0 (wA LC ad)) (F0 m 0 ls []) := by
  intro c0 c1 i2 v H locs ls kc0 kc1 h hP hS hl
  unfold f_X3_stockOf at h
  refine lv_aload_n (pc := 0) C.1 C.2.1 dX3_stockOf_0 rfl (lv_at hl 0 rfl) ?_
  refine x_getr (pc := 1) C hP ck_3 1 fl_X3_12 (by decide) rfl kc0 dX3_stockOf_1 ?_
  have k1 : wk LC (rfC c0 1) 2 := wt_f wT_C kc0 1 (by decide) rfl rfl
  refine lv_aload_n (pc := 4) C.1 C.2.1 dX3_stockOf_4 rfl (lv_at hl 1 rfl) ?_
  refine lv_aload_n (pc := 5) C.1 C.2.1 dX3_stockOf_5 rfl (lv_at hl 0 rfl) ?_
  refine x_getr (pc := 6) C hP ck_3 0 fl_X3_44 (by decide) rfl kc0 dX3_stockOf_6 ?_
  have k2 : wk LC (rfC c0 0) 9 := wt_f wT_C kc0 0 (by decide) rfl rfl
  refine x_getr (pc := 9) C hP ck_9 2 fl_X3_163 (by decide) rfl k2 dX3_stockOf_9 ?_
  have k3 : wk LC (rfC (rfC c0 0) 2) 0 := wt_f wT_C k2 2 (by decide) rfl rfl
  refine lv_aload_n (pc := 12) C.1 C.2.1 dX3_stockOf_12 rfl (lv_at hl 0 rfl) ?_
  refine x_getr (pc := 13) C hP ck_3 4 fl_X3_25 (by decide) rfl kc0 dX3_stockOf_13 ?_
  have k4 : wk LC (rfC c0 4) 12 := wt_f wT_C kc0 4 (by decide) rfl rfl
  refine lv_aload_n (pc := 16) C.1 C.2.1 dX3_stockOf_16 rfl (lv_at hl 1 rfl) ?_
  refine x_geti (pc := 17) C hP ck_6 0 fl_X3_75 (by decide) rfl kc1 dX3_stockOf_17 ?_
  obtain ⟨g5, h⟩ := gd_e h
  refine x_iald (pc := 20) C hP k4 (inB_vp g5) dX3_stockOf_20 ?_
  refine lv_aload_n (pc := 21) C.1 C.2.1 dX3_stockOf_21 rfl (lv_at hl 0 rfl) ?_
  refine x_getr (pc := 22) C hP ck_3 5 fl_X3_29 (by decide) rfl kc0 dX3_stockOf_22 ?_
  have k6 : wk LC (rfC c0 5) 12 := wt_f wT_C kc0 5 (by decide) rfl rfl
  refine lv_aload_n (pc := 25) C.1 C.2.1 dX3_stockOf_25 rfl (lv_at hl 1 rfl) ?_
  refine x_geti (pc := 26) C hP ck_6 0 fl_X3_75 (by decide) rfl kc1 dX3_stockOf_26 ?_
  obtain ⟨g7, h⟩ := gd_e h
  refine x_iald (pc := 29) C hP k6 (inB_vp g7) dX3_stockOf_29 ?_
  refine lv_iload_n (pc := 30) C.1 C.2.1 dX3_stockOf_30 rfl (lv_at hl 2 rfl) ?_
  obtain ⟨v9, hc8, h⟩ := bd_e h
  refine x_callv (pc := 31) C hP hS mi_X2_follow ck_2 k1 ml_X3_167 (hR.le (by decide)) (Nat.zero_le _) (Nat.zero_le _) [.ref (ad c1), .ref (ad (rfC (rfC c0 0) 2)), .int (v (rfC c0 4) (Int32.toNatClampNeg (v c1 0))), .int (v (rfC c0 5) (Int32.toNatClampNeg (v c1 0))), .int i2] rfl hl.1 rfl (Nat.le_of_ble_eq_true rfl) dX3_stockOf_31 (m_X2_follow hI k1 kc1 k3 hc8) (fun H locs hP hS => ?_)
  refine lv_aload_n (pc := 34) C.1 C.2.1 dX3_stockOf_34 rfl (lv_at hl 0 rfl) ?_
  refine x_getr (pc := 35) C hP ck_3 1 fl_X3_12 (by decide) rfl kc0 dX3_stockOf_35 ?_
  have k10 : wk LC (rfC c0 1) 2 := wt_f wT_C kc0 1 (by decide) rfl rfl
  refine x_geti (pc := 38) C hP ck_2 0 fl_X3_171 (by decide) rfl k10 dX3_stockOf_38 ?_
  exact x_iret (pc := 41) C hr hlk hP hS h dX3_stockOf_41
set_option maxRecDepth 100000 in
theorem m_X3_stockOf (hI : wI LC ad) {c0 : Nat} {c1 : Nat} {i2 : Int32} {v : VV} {rZ : Int32} {vZ : VV} (kc0 : wk LC c0 3) (kc1 : wk LC c1 6) (h : F_X3_stockOf c0 c1 i2 v = some (rZ, vZ)) : Met l yX3_stockOf (Cond.code yX3_stockOf cX3_stockOf 3 (some .int) :: wsG) (rmL 3) (pcG LC cy ad D [.ref (ad c0), .ref (ad c1), .int i2] v) (qiG LC cy ad D rZ vZ) 0 0 (wA LC ad) := by
  refine Met.ofW (cc := cX3_stockOf) (maxL := 3) (ret := (some .int)) (by decide) rfl ?_
  intro p e s m args below meth c s₁ B hml hv
  obtain ⟨rfl, hP, hK⟩ := hv
  have hts := atoms_spec (ws := Cond.code yX3_stockOf cX3_stockOf 3 (some .int) :: wsG) B.pre
  have hown : s.vm.findClass RX3 = some m.cls := findClass_of_methodNamed B.named
  have C : Cx p s m _ c cX3_stockOf 3 RX3 D cy := ⟨B.exec, B.bytes, hml, hown, fun w hw => hts w (List.mem_cons_of_mem _ hw), hK⟩
  have hl := lv_entry ([.ref (ad c0), .ref (ad c1), .int i2]) (n := 3) (Nat.le_of_ble_eq_true rfl)
  rw [lg_entry_eq]
  generalize (lg_sl ([.ref (ad c0), .ref (ad c1), .int i2]) ++ List.replicate (3 - (lg_sl ([.ref (ad c0), .ref (ad c1), .int i2])).length) Slot.unset).toArray = ls at hl ⊢
  have hl : lv_has ls 3 [(0, .ref (ad c0)), (1, .ref (ad c1)), (2, .int i2)] := hl
  exact w_X3_stockOf C hI B.returns B.notSynchronized (RoL_rm _) c0 c1 i2 v _ _ _ kc0 kc1 h hP va_S.rf (lv_sub hl [0, 1, 2] rfl)
def f_X3_buyEach_l17 : Nat → Nat → Nat → Int32 → VV → Option (VV)
  | 0, _, _, _, _ => none
  | n + 1, c0, c1, i2, v =>
    if (i2 < 0) then
      some v
    else
      bi (F_X9_shelf (rfC c0 0) (v c1 0) i2 v) fun q8 v7 =>
      bi (F_X3_stockOf c0 q8 (v7 c1 1) v7) fun x13 v12 =>
      gd (inB (v12 c1 0) (lnC (rfC (rfC c0 0) 0)) = true) <|
      (F_X1_purchase (rfC c0 2) q8 x13 (v12 (rfC (rfC (rfC c0 0) 0) (Int32.toNatClampNeg (v12 c1 0))) 1) (v12 c1 2) (v12 c0 9) v12).bind fun v19 =>
      gd (inB i2 (lnC (rfC c1 4)) = true) <|
      nv (wu v19 (rfC c1 4) (Int32.toNatClampNeg i2) (v19 (rfC c0 2) 0)) fun v23 =>
      gd (inB i2 (lnC (rfC c1 5)) = true) <|
      nv (wu v23 (rfC c1 5) (Int32.toNatClampNeg i2) (v23 (rfC c0 2) 2)) fun v27 =>
      gd (inB i2 (lnC (rfC c1 6)) = true) <|
      nv (wu v27 (rfC c1 6) (Int32.toNatClampNeg i2) (v27 (rfC c0 2) 1)) fun v31 =>
      if ((v31 (rfC c0 2) 0) = 0) then
        nv (wu v31 c1 3 i2) fun v35 =>
        nv (i2 + (-1)) fun x36 =>
        f_X3_buyEach_l17 n c0 c1 x36 v35
      else
        nv (wu v31 c1 3 (v31 c1 3)) fun v33 =>
        nv (i2 + (-1)) fun x34 =>
        f_X3_buyEach_l17 n c0 c1 x34 v33
def f_X3_buyEach (c0 : Nat) (c1 : Nat) (v : VV) : Option (VV) :=
  gd (inB 3 (lnC (rfC c1 5)) = true) <|
  nv (wu v (rfC c1 5) (Int32.toNatClampNeg 3) (v c1 2)) fun v3 =>
  nv (wu v3 c1 3 3) fun v4 =>
  f_X3_buyEach_l17 FU c0 c1 2 v4
abbrev F_X3_buyEach (c0 : Nat) (c1 : Nat) (v : VV) : Option (VV) := f_X3_buyEach c0 c1 v
set_option maxHeartbeats 4000000 in
set_option maxRecDepth 100000 in
theorem w_X3_buyEach_l17 (C : Cx p s m args c cX3_buyEach 4 RX3 D cy) (hI : wI LC ad) (hr : meth.sig.returnType = none) (hlk : meth.locks = false) (hR : RoL 4 R) {vZ : VV} : ∀ (n : Nat) (c0 : Nat) (c1 : Nat) (i2 : Int32) (v : VV) (H : Heap) (locs : List Loc) (ls : Array Slot), wk LC c0 3 → wk LC c1 8 → f_X3_buyEach_l17 n c0 c1 i2 v = some vZ → va_P D vwCl (wd LC cy ad v) H → va_S (wA LC ad) s.heap H locs → lv_has ls 4 [(0, .ref (ad c0)), (1, .ref (ad c1)), (2, .int i2)] → W p l e R s m args below meth c H locs 0 0 (MQ below (qvG LC cy ad D vZ) args s 0 0 (wA LC ad)) (F0 m 17 ls []) := by
  intro n
  induction n with
  | zero => intro c0 c1 i2 v H locs ls kc0 kc1 h hP hS hl; exact absurd h (by simp [f_X3_buyEach_l17])
  | succ n ih =>
    intro c0 c1 i2 v H locs ls kc0 kc1 h hP hS hl
    rw [f_X3_buyEach_l17] at h
    refine lv_iload_n (pc := 17) C.1 C.2.1 dX3_buyEach_17 rfl (lv_at hl 2 rfl) ?_
    refine lv_if_lt (pc := 18) (tgt := 141) C.1 C.2.1 dX3_buyEach_18 (by decide) (fun b18 => ?_) (fun b18 => ?_)
    · replace h := if_t h b18
      exact x_vret (pc := 141) C hr hlk hP hS h dX3_buyEach_141
    · replace h := if_f h b18
      refine lv_aload_n (pc := 21) C.1 C.2.1 dX3_buyEach_21 rfl (lv_at hl 0 rfl) ?_
      refine x_getr (pc := 22) C hP ck_3 0 fl_X3_44 (by decide) rfl kc0 dX3_buyEach_22 ?_
      have k5 : wk LC (rfC c0 0) 9 := wt_f wT_C kc0 0 (by decide) rfl rfl
      refine lv_aload_n (pc := 25) C.1 C.2.1 dX3_buyEach_25 rfl (lv_at hl 1 rfl) ?_
      refine x_geti (pc := 26) C hP ck_8 0 fl_X3_94 (by decide) rfl kc1 dX3_buyEach_26 ?_
      refine lv_iload_n (pc := 29) C.1 C.2.1 dX3_buyEach_29 rfl (lv_at hl 2 rfl) ?_
      obtain ⟨q8, v7, hc6, h⟩ := bi_e h
      refine x_callr (pc := 30) C hP hS mi_X9_shelf ck_9 k5 ml_X3_71 (hR.le (by decide)) (Nat.zero_le _) (Nat.zero_le _) [.int (v c1 0), .int i2] rfl hl.1 rfl (Nat.le_of_ble_eq_true rfl) dX3_buyEach_30 (m_X9_shelf hI k5 hc6) (fun H locs hP hS => ?_)
      have k9 : wk LC q8 6 := wr_X9_shelf hc6 k5
      refine lv_astore_n (pc := 33) (lv' := [(3, .ref (ad q8)), (0, .ref (ad c0)), (1, .ref (ad c1)), (2, .int i2)]) C.1 C.2.1 dX3_buyEach_33 rfl hl (by decide) rfl (fun ls hl => ?_)
      refine lv_aload_n (pc := 34) C.1 C.2.1 dX3_buyEach_34 rfl (lv_at hl 1 rfl) ?_
      refine x_getr (pc := 35) C hP ck_3 2 fl_X3_21 (by decide) rfl kc0 dX3_buyEach_35 ?_
      have k10 : wk LC (rfC c0 2) 1 := wt_f wT_C kc0 2 (by decide) rfl rfl
      refine lv_aload_n (pc := 38) C.1 C.2.1 dX3_buyEach_38 rfl (lv_at hl 0 rfl) ?_
      refine lv_aload_n (pc := 39) C.1 C.2.1 dX3_buyEach_39 rfl (lv_at hl 1 rfl) ?_
      refine lv_aload_n (pc := 40) C.1 C.2.1 dX3_buyEach_40 rfl (lv_at hl 0 rfl) ?_
      refine lv_aload_n (pc := 41) C.1 C.2.1 dX3_buyEach_41 rfl (lv_at hl 2 rfl) ?_
      refine x_geti (pc := 42) C hP ck_8 1 fl_X3_97 (by decide) rfl kc1 dX3_buyEach_42 ?_
      obtain ⟨x13, v12, hc11, h⟩ := bi_e h
      refine x_calli (pc := 45) C hP hS mi_X3_stockOf ck_3 kc0 ml_X3_139 (hR.le (by decide)) (Nat.zero_le _) (Nat.zero_le _) [.ref (ad q8), .int (v7 c1 1)] rfl hl.1 rfl (Nat.le_of_ble_eq_true rfl) dX3_buyEach_45 (m_X3_stockOf hI kc0 k9 hc11) (fun H locs hP hS => ?_)
      refine lv_aload_n (pc := 48) C.1 C.2.1 dX3_buyEach_48 rfl (lv_at hl 1 rfl) ?_
      refine x_getr (pc := 49) C hP ck_3 0 fl_X3_44 (by decide) rfl kc0 dX3_buyEach_49 ?_
      have k14 : wk LC (rfC c0 0) 9 := wt_f wT_C kc0 0 (by decide) rfl rfl
      refine x_getr (pc := 52) C hP ck_9 0 fl_X3_143 (by decide) rfl k14 dX3_buyEach_52 ?_
      have k15 : wk LC (rfC (rfC c0 0) 0) 14 := wt_f wT_C k14 0 (by decide) rfl rfl
      refine lv_aload_n (pc := 55) C.1 C.2.1 dX3_buyEach_55 rfl (lv_at hl 2 rfl) ?_
      refine x_geti (pc := 56) C hP ck_8 0 fl_X3_94 (by decide) rfl kc1 dX3_buyEach_56 ?_
      obtain ⟨g16, h⟩ := gd_e h
      refine x_aald (pc := 59) C hP k15 (by decide) (by decide) (inB_vp g16) dX3_buyEach_59 ?_
      have k17 : wk LC (rfC (rfC (rfC c0 0) 0) (Int32.toNatClampNeg (v12 c1 0))) 4 := wt_a wT_C k15 (by decide) (inB_vp g16) rfl
      refine x_geti (pc := 60) C hP ck_4 1 fl_X3_147 (by decide) rfl k17 dX3_buyEach_60 ?_
      refine lv_aload_n (pc := 63) C.1 C.2.1 dX3_buyEach_63 rfl (lv_at hl 2 rfl) ?_
      refine x_geti (pc := 64) C hP ck_8 2 fl_X3_100 (by decide) rfl kc1 dX3_buyEach_64 ?_
      refine lv_aload_n (pc := 67) C.1 C.2.1 dX3_buyEach_67 rfl (lv_at hl 1 rfl) ?_
      refine x_geti (pc := 68) C hP ck_3 9 fl_X3_59 (by decide) rfl kc0 dX3_buyEach_68 ?_
      obtain ⟨v19, hc18, h⟩ := bd_e h
      refine x_callv (pc := 71) C hP hS mi_X1_purchase ck_1 k10 ml_X3_152 (hR.le (by decide)) (Nat.zero_le _) (Nat.zero_le _) [.ref (ad q8), .int x13, .int (v12 (rfC (rfC (rfC c0 0) 0) (Int32.toNatClampNeg (v12 c1 0))) 1), .int (v12 c1 2), .int (v12 c0 9)] rfl hl.1 rfl (Nat.le_of_ble_eq_true rfl) dX3_buyEach_71 (m_X1_purchase hI k10 k9 hc18) (fun H locs hP hS => ?_)
      refine lv_aload_n (pc := 74) C.1 C.2.1 dX3_buyEach_74 rfl (lv_at hl 2 rfl) ?_
      refine x_getr (pc := 75) C hP ck_8 4 fl_X3_114 (by decide) rfl kc1 dX3_buyEach_75 ?_
      have k20 : wk LC (rfC c1 4) 12 := wt_f wT_C kc1 4 (by decide) rfl rfl
      refine lv_iload_n (pc := 78) C.1 C.2.1 dX3_buyEach_78 rfl (lv_at hl 3 rfl) ?_
      refine lv_aload_n (pc := 79) C.1 C.2.1 dX3_buyEach_79 rfl (lv_at hl 1 rfl) ?_
      refine x_getr (pc := 80) C hP ck_3 2 fl_X3_21 (by decide) rfl kc0 dX3_buyEach_80 ?_
      have k21 : wk LC (rfC c0 2) 1 := wt_f wT_C kc0 2 (by decide) rfl rfl
      refine x_geti (pc := 83) C hP ck_1 0 fl_X3_156 (by decide) rfl k21 dX3_buyEach_83 ?_
      obtain ⟨g22, h⟩ := gd_e h
      refine x_iast (pc := 86) C hI hP hS k20 (inB_vp g22) dX3_buyEach_86 (fun H locs hP hS => ?_)
      obtain ⟨v23, h, hP⟩ := nv_p (P := fun z => va_P D vwCl (wd LC cy ad z) H) h hP
      refine lv_aload_n (pc := 87) C.1 C.2.1 dX3_buyEach_87 rfl (lv_at hl 2 rfl) ?_
      refine x_getr (pc := 88) C hP ck_8 5 fl_X3_136 (by decide) rfl kc1 dX3_buyEach_88 ?_
      have k24 : wk LC (rfC c1 5) 12 := wt_f wT_C kc1 5 (by decide) rfl rfl
      refine lv_iload_n (pc := 91) C.1 C.2.1 dX3_buyEach_91 rfl (lv_at hl 3 rfl) ?_
      refine lv_aload_n (pc := 92) C.1 C.2.1 dX3_buyEach_92 rfl (lv_at hl 1 rfl) ?_
      refine x_getr (pc := 93) C hP ck_3 2 fl_X3_21 (by decide) rfl kc0 dX3_buyEach_93 ?_
      have k25 : wk LC (rfC c0 2) 1 := wt_f wT_C kc0 2 (by decide) rfl rfl
      refine x_geti (pc := 96) C hP ck_1 2 fl_X3_158 (by decide) rfl k25 dX3_buyEach_96 ?_
      obtain ⟨g26, h⟩ := gd_e h
      refine x_iast (pc := 99) C hI hP hS k24 (inB_vp g26) dX3_buyEach_99 (fun H locs hP hS => ?_)
      obtain ⟨v27, h, hP⟩ := nv_p (P := fun z => va_P D vwCl (wd LC cy ad z) H) h hP
      refine lv_aload_n (pc := 100) C.1 C.2.1 dX3_buyEach_100 rfl (lv_at hl 2 rfl) ?_
      refine x_getr (pc := 101) C hP ck_8 6 fl_X3_159 (by decide) rfl kc1 dX3_buyEach_101 ?_
      have k28 : wk LC (rfC c1 6) 12 := wt_f wT_C kc1 6 (by decide) rfl rfl
      refine lv_iload_n (pc := 104) C.1 C.2.1 dX3_buyEach_104 rfl (lv_at hl 3 rfl) ?_
      refine lv_aload_n (pc := 105) C.1 C.2.1 dX3_buyEach_105 rfl (lv_at hl 1 rfl) ?_
      refine x_getr (pc := 106) C hP ck_3 2 fl_X3_21 (by decide) rfl kc0 dX3_buyEach_106 ?_
      have k29 : wk LC (rfC c0 2) 1 := wt_f wT_C kc0 2 (by decide) rfl rfl
      refine x_geti (pc := 109) C hP ck_1 1 fl_X3_162 (by decide) rfl k29 dX3_buyEach_109 ?_
      obtain ⟨g30, h⟩ := gd_e h
      refine x_iast (pc := 112) C hI hP hS k28 (inB_vp g30) dX3_buyEach_112 (fun H locs hP hS => ?_)
      obtain ⟨v31, h, hP⟩ := nv_p (P := fun z => va_P D vwCl (wd LC cy ad z) H) h hP
      refine lv_aload_n (pc := 113) C.1 C.2.1 dX3_buyEach_113 rfl (lv_at hl 2 rfl) ?_
      refine lv_aload_n (pc := 114) C.1 C.2.1 dX3_buyEach_114 rfl (lv_at hl 1 rfl) ?_
      refine x_getr (pc := 115) C hP ck_3 2 fl_X3_21 (by decide) rfl kc0 dX3_buyEach_115 ?_
      have k32 : wk LC (rfC c0 2) 1 := wt_f wT_C kc0 2 (by decide) rfl rfl
      refine x_geti (pc := 118) C hP ck_1 0 fl_X3_156 (by decide) rfl k32 dX3_buyEach_118 ?_
      refine lv_if_ne (pc := 121) (tgt := 128) C.1 C.2.1 dX3_buyEach_121 (by decide) (fun b121 => ?_) (fun b121 => ?_)
      · replace h := if_f h b121
        refine lv_aload_n (pc := 128) C.1 C.2.1 dX3_buyEach_128 rfl (lv_at hl 2 rfl) ?_
        refine x_geti (pc := 129) C hP ck_8 3 fl_X3_117 (by decide) rfl kc1 dX3_buyEach_129 ?_
        refine x_put (pc := 132) C hI hP hS ck_8 3 fl_X3_117 (by decide) rfl rfl kc1 rfl rfl dX3_buyEach_132 (fun H locs hP hS => ?_)
        obtain ⟨v33, h, hP⟩ := nv_p (P := fun z => va_P D vwCl (wd LC cy ad z) H) h hP
        obtain ⟨x34, ex34⟩ : ∃ y : Int32, y = i2 + (-1) := ⟨_, rfl⟩
        replace h := nv_e h ex34
        refine lv_iinc (pc := 135) (v := x34) (lv' := [(2, .int x34), (3, .ref (ad q8)), (0, .ref (ad c0)), (1, .ref (ad c1))]) C.1 C.2.1 dX3_buyEach_135 hl (k := 3) rfl (by rw [ex34]; rfl) (by decide) rfl (fun ls hl => ?_)
        clear ex34
        refine lv_goto (pc := 138) (tgt := 17) C.1 C.2.1 dX3_buyEach_138 (by decide) ?_
        exact ih c0 c1 x34 v33 _ _ _ kc0 kc1 h hP hS (lv_sub hl [2, 3, 0] rfl)
      · replace h := if_t h b121
        refine lv_iload_n (pc := 124) C.1 C.2.1 dX3_buyEach_124 rfl (lv_at hl 3 rfl) ?_
        refine lv_goto (pc := 125) (tgt := 132) C.1 C.2.1 dX3_buyEach_125 (by decide) ?_
        refine x_put (pc := 132) C hI hP hS ck_8 3 fl_X3_117 (by decide) rfl rfl kc1 rfl rfl dX3_buyEach_132 (fun H locs hP hS => ?_)
        obtain ⟨v35, h, hP⟩ := nv_p (P := fun z => va_P D vwCl (wd LC cy ad z) H) h hP
        obtain ⟨x36, ex36⟩ : ∃ y : Int32, y = i2 + (-1) := ⟨_, rfl⟩
        replace h := nv_e h ex36
        refine lv_iinc (pc := 135) (v := x36) (lv' := [(2, .int x36), (3, .ref (ad q8)), (0, .ref (ad c0)), (1, .ref (ad c1))]) C.1 C.2.1 dX3_buyEach_135 hl (k := 3) rfl (by rw [ex36]; rfl) (by decide) rfl (fun ls hl => ?_)
        clear ex36
        refine lv_goto (pc := 138) (tgt := 17) C.1 C.2.1 dX3_buyEach_138 (by decide) ?_
        exact ih c0 c1 x36 v35 _ _ _ kc0 kc1 h hP hS (lv_sub hl [2, 3, 0] rfl)
set_option maxHeartbeats 4000000 in
set_option maxRecDepth 100000 in
theorem w_X3_buyEach (C : Cx p s m args c cX3_buyEach 4 RX3 D cy) (hI : wI LC ad) (hr : meth.sig.returnType = none) (hlk : meth.locks = false) (hR : RoL 4 R) {vZ : VV} : ∀ (c0 : Nat) (c1 : Nat) (v : VV) (H : Heap) (locs : List Loc) (ls : Array Slot), wk LC c0 3 → wk LC c1 8 → f_X3_buyEach c0 c1 v = some vZ → va_P D vwCl (wd LC cy ad v) H → va_S (wA LC ad) s.heap H locs → lv_has ls 4 [(0, .ref (ad c0)), (1, .ref (ad c1))] → W p l e R s m args below meth c H locs 0 0 (MQ below (qvG LC cy ad D vZ) args s 0 0 (wA LC ad)) (F0 m 0 ls []) := by
  intro c0 c1 v H locs ls kc0 kc1 h hP hS hl
  unfold f_X3_buyEach at h
  refine lv_aload_n (pc := 0) C.1 C.2.1 dX3_buyEach_0 rfl (lv_at hl 1 rfl) ?_
  refine x_getr (pc := 1) C hP ck_8 5 fl_X3_136 (by decide) rfl kc1 dX3_buyEach_1 ?_
  have k1 : wk LC (rfC c1 5) 12 := wt_f wT_C kc1 5 (by decide) rfl rfl
  refine lv_iconst (pc := 4) (v := 3) C.1 C.2.1 dX3_buyEach_4 (by decide) ?_
  refine lv_aload_n (pc := 5) C.1 C.2.1 dX3_buyEach_5 rfl (lv_at hl 1 rfl) ?_
  refine x_geti (pc := 6) C hP ck_8 2 fl_X3_100 (by decide) rfl kc1 dX3_buyEach_6 ?_
  obtain ⟨g2, h⟩ := gd_e h
  refine x_iast (pc := 9) C hI hP hS k1 (inB_vp g2) dX3_buyEach_9 (fun H locs hP hS => ?_)
  obtain ⟨v3, h, hP⟩ := nv_p (P := fun z => va_P D vwCl (wd LC cy ad z) H) h hP
  refine lv_aload_n (pc := 10) C.1 C.2.1 dX3_buyEach_10 rfl (lv_at hl 1 rfl) ?_
  refine lv_iconst (pc := 11) (v := 3) C.1 C.2.1 dX3_buyEach_11 (by decide) ?_
  refine x_put (pc := 12) C hI hP hS ck_8 3 fl_X3_117 (by decide) rfl rfl kc1 rfl rfl dX3_buyEach_12 (fun H locs hP hS => ?_)
  obtain ⟨v4, h, hP⟩ := nv_p (P := fun z => va_P D vwCl (wd LC cy ad z) H) h hP
  refine lv_iconst (pc := 15) (v := 2) C.1 C.2.1 dX3_buyEach_15 (by decide) ?_
  refine lv_istore_n (pc := 16) (lv' := [(2, .int 2), (0, .ref (ad c0)), (1, .ref (ad c1))]) C.1 C.2.1 dX3_buyEach_16 rfl hl (by decide) rfl (fun ls hl => ?_)
  refine w_X3_buyEach_l17 C hI hr hlk hR FU c0 c1 2 v4 _ _ _ kc0 kc1 h hP hS (lv_sub hl [1, 2, 0] rfl)
set_option maxRecDepth 100000 in
theorem m_X3_buyEach (hI : wI LC ad) {c0 : Nat} {c1 : Nat} {v : VV} {vZ : VV} (kc0 : wk LC c0 3) (kc1 : wk LC c1 8) (h : F_X3_buyEach c0 c1 v = some vZ) : Met l yX3_buyEach (Cond.code yX3_buyEach cX3_buyEach 4 none :: wsG) (rmL 4) (pcG LC cy ad D [.ref (ad c0), .ref (ad c1)] v) (qvG LC cy ad D vZ) 0 0 (wA LC ad) := by
  refine Met.ofW (cc := cX3_buyEach) (maxL := 4) (ret := none) (by decide) rfl ?_
  intro p e s m args below meth c s₁ B hml hv
  obtain ⟨rfl, hP, hK⟩ := hv
  have hts := atoms_spec (ws := Cond.code yX3_buyEach cX3_buyEach 4 none :: wsG) B.pre
  have hown : s.vm.findClass RX3 = some m.cls := findClass_of_methodNamed B.named
  have C : Cx p s m _ c cX3_buyEach 4 RX3 D cy := ⟨B.exec, B.bytes, hml, hown, fun w hw => hts w (List.mem_cons_of_mem _ hw), hK⟩
  have hl := lv_entry ([.ref (ad c0), .ref (ad c1)]) (n := 4) (Nat.le_of_ble_eq_true rfl)
  rw [lg_entry_eq]
  generalize (lg_sl ([.ref (ad c0), .ref (ad c1)]) ++ List.replicate (4 - (lg_sl ([.ref (ad c0), .ref (ad c1)])).length) Slot.unset).toArray = ls at hl ⊢
  have hl : lv_has ls 4 [(0, .ref (ad c0)), (1, .ref (ad c1))] := hl
  exact w_X3_buyEach C hI B.returns B.notSynchronized (RoL_rm _) c0 c1 v _ _ _ kc0 kc1 h hP va_S.rf (lv_sub hl [0, 1] rfl)
def f_X3_leave (c0 : Nat) (c1 : Nat) (i2 : Int32) (i3 : Int32) (v : VV) : Option (VV) :=
  gd (inB (v c1 0) (lnC (rfC c0 4)) = true) <|
  nv (wu v (rfC c0 4) (Int32.toNatClampNeg (v c1 0)) i2) fun v3 =>
  gd (inB (v3 c1 0) (lnC (rfC c0 5)) = true) <|
  nv (wu v3 (rfC c0 5) (Int32.toNatClampNeg (v3 c1 0)) i3) fun v6 =>
  some v6
abbrev F_X3_leave (c0 : Nat) (c1 : Nat) (i2 : Int32) (i3 : Int32) (v : VV) : Option (VV) := f_X3_leave c0 c1 i2 i3 v
set_option maxHeartbeats 4000000 in
set_option maxRecDepth 100000 in
theorem w_X3_leave (C : Cx p s m args c cX3_leave 4 RX3 D cy) (hI : wI LC ad) (hr : meth.sig.returnType = none) (hlk : meth.locks = false) (hR : RoL 1 R) {vZ : VV} : ∀ (c0 : Nat) (c1 : Nat) (i2 : Int32) (i3 : Int32) (v : VV) (H : Heap) (locs : List Loc) (ls : Array Slot), wk LC c0 3 → wk LC c1 6 → f_X3_leave c0 c1 i2 i3 v = some vZ → va_P D vwCl (wd LC cy ad v) H → va_S (wA LC ad) s.heap H locs → lv_has ls 4 [(0, .ref (ad c0)), (1, .ref (ad c1)), (2, .int i2), (3, .int i3)] → W p l e R s m args below meth c H locs 0 0 (MQ below (qvG LC cy ad D vZ) args s 0 0 (wA LC ad)) (F0 m 0 ls []) := by
  intro c0 c1 i2 i3 v H locs ls kc0 kc1 h hP hS hl
  unfold f_X3_leave at h
  refine lv_aload_n (pc := 0) C.1 C.2.1 dX3_leave_0 rfl (lv_at hl 0 rfl) ?_
  refine x_getr (pc := 1) C hP ck_3 4 fl_X3_25 (by decide) rfl kc0 dX3_leave_1 ?_
  have k1 : wk LC (rfC c0 4) 12 := wt_f wT_C kc0 4 (by decide) rfl rfl
  refine lv_aload_n (pc := 4) C.1 C.2.1 dX3_leave_4 rfl (lv_at hl 1 rfl) ?_
  refine x_geti (pc := 5) C hP ck_6 0 fl_X3_75 (by decide) rfl kc1 dX3_leave_5 ?_
  refine lv_iload_n (pc := 8) C.1 C.2.1 dX3_leave_8 rfl (lv_at hl 2 rfl) ?_
  obtain ⟨g2, h⟩ := gd_e h
  refine x_iast (pc := 9) C hI hP hS k1 (inB_vp g2) dX3_leave_9 (fun H locs hP hS => ?_)
  obtain ⟨v3, h, hP⟩ := nv_p (P := fun z => va_P D vwCl (wd LC cy ad z) H) h hP
  refine lv_aload_n (pc := 10) C.1 C.2.1 dX3_leave_10 rfl (lv_at hl 0 rfl) ?_
  refine x_getr (pc := 11) C hP ck_3 5 fl_X3_29 (by decide) rfl kc0 dX3_leave_11 ?_
  have k4 : wk LC (rfC c0 5) 12 := wt_f wT_C kc0 5 (by decide) rfl rfl
  refine lv_aload_n (pc := 14) C.1 C.2.1 dX3_leave_14 rfl (lv_at hl 1 rfl) ?_
  refine x_geti (pc := 15) C hP ck_6 0 fl_X3_75 (by decide) rfl kc1 dX3_leave_15 ?_
  refine lv_iload_n (pc := 18) C.1 C.2.1 dX3_leave_18 rfl (lv_at hl 3 rfl) ?_
  obtain ⟨g5, h⟩ := gd_e h
  refine x_iast (pc := 19) C hI hP hS k4 (inB_vp g5) dX3_leave_19 (fun H locs hP hS => ?_)
  obtain ⟨v6, h, hP⟩ := nv_p (P := fun z => va_P D vwCl (wd LC cy ad z) H) h hP
  exact x_vret (pc := 20) C hr hlk hP hS h dX3_leave_20
set_option maxRecDepth 100000 in
theorem m_X3_leave (hI : wI LC ad) {c0 : Nat} {c1 : Nat} {i2 : Int32} {i3 : Int32} {v : VV} {vZ : VV} (kc0 : wk LC c0 3) (kc1 : wk LC c1 6) (h : F_X3_leave c0 c1 i2 i3 v = some vZ) : Met l yX3_leave (Cond.code yX3_leave cX3_leave 4 none :: wsG) (rmL 1) (pcG LC cy ad D [.ref (ad c0), .ref (ad c1), .int i2, .int i3] v) (qvG LC cy ad D vZ) 0 0 (wA LC ad) := by
  refine Met.ofW (cc := cX3_leave) (maxL := 4) (ret := none) (by decide) rfl ?_
  intro p e s m args below meth c s₁ B hml hv
  obtain ⟨rfl, hP, hK⟩ := hv
  have hts := atoms_spec (ws := Cond.code yX3_leave cX3_leave 4 none :: wsG) B.pre
  have hown : s.vm.findClass RX3 = some m.cls := findClass_of_methodNamed B.named
  have C : Cx p s m _ c cX3_leave 4 RX3 D cy := ⟨B.exec, B.bytes, hml, hown, fun w hw => hts w (List.mem_cons_of_mem _ hw), hK⟩
  have hl := lv_entry ([.ref (ad c0), .ref (ad c1), .int i2, .int i3]) (n := 4) (Nat.le_of_ble_eq_true rfl)
  rw [lg_entry_eq]
  generalize (lg_sl ([.ref (ad c0), .ref (ad c1), .int i2, .int i3]) ++ List.replicate (4 - (lg_sl ([.ref (ad c0), .ref (ad c1), .int i2, .int i3])).length) Slot.unset).toArray = ls at hl ⊢
  have hl : lv_has ls 4 [(0, .ref (ad c0)), (1, .ref (ad c1)), (2, .int i2), (3, .int i3)] := hl
  exact w_X3_leave C hI B.returns B.notSynchronized (RoL_rm _) c0 c1 i2 i3 v _ _ _ kc0 kc1 h hP va_S.rf (lv_sub hl [0, 1, 2, 3] rfl)
end
