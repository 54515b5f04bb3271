section
variable {p : Program} {l : Launch} {e : Env} {R : Room} {s : State} {m : MethodId} {args : Array Value} {below : List Frame} {meth : Method} {c : Code} {D : va_G} {cy : Nat → ClassId} {ad : Nat → Nat}
def f_X10_passTicksOf (c0 : Nat) (c1 : Nat) (i2 : Int32) (v : VV) : Option (VV) :=
  (F_X2_follow (rfC c0 8) c1 (rfC (rfC c0 0) 2) (v c1 1) (v (rfC c0 0) 4) ((v (rfC c0 0) 4) + i2) v).bind fun v7 =>
  nv (wu v7 c1 1 (v7 (rfC c0 8) 0)) fun v9 =>
  nv (wu v9 c1 6 ((v9 c1 6) + (v9 (rfC c0 8) 4))) fun v11 =>
  nv (wu v11 c0 3 ((v11 c0 3) + (v11 (rfC c0 8) 1))) fun v13 =>
  nv (wu v13 c0 4 ((v13 c0 4) + (v13 (rfC c0 8) 2))) fun v15 =>
  nv (wu v15 c0 5 ((v15 c0 5) + (v15 (rfC c0 8) 3))) fun v17 =>
  some v17
abbrev F_X10_passTicksOf (c0 : Nat) (c1 : Nat) (i2 : Int32) (v : VV) : Option (VV) := f_X10_passTicksOf c0 c1 i2 v
set_option maxHeartbeats 4000000 in
set_option maxRecDepth 100000 in
theorem w_X10_passTicksOf (C : Cx p s m args c cX10_passTicksOf 3 RX10 D cy) (hI : wI LC ad) (hr : meth.sig.returnType = none) (hlk : meth.locks = false) (hR : RoL 3 R) {vZ : VV} : ∀ (c0 : Nat) (c1 : Nat) (i2 : Int32) (v : VV) (H : Heap) (locs : List Loc) (ls : Array Slot), wk LC c0 10 → wk LC c1 6 → f_X10_passTicksOf c0 c1 i2 v = some vZ → va_P D vwCl (wd LC cy ad v) H → va_S (wA LC ad) s.heap H locs → lv_has ls 3 [(0, .ref (ad c0)), (1, .ref (ad c1)), (2, .int i2)] → W p l e R s m args below meth c H locs 0 0 (MQ below (qvG LC cy ad D vZ) args s 0 0 (wA LC ad)) (F0 m 0 ls []) := by
  intro c0 c1 i2 v H locs ls kc0 kc1 h hP hS hl
  unfold f_X10_passTicksOf at h
  refine lv_aload_n (pc := 0) C.1 C.2.1 dX10_passTicksOf_0 rfl (lv_at hl 0 rfl) ?_
  refine x_getr (pc := 1) C hP ck_10 8 fl_X10_26 (by decide) rfl kc0 dX10_passTicksOf_1 ?_
  have k1 : wk LC (rfC c0 8) 2 := wt_f wT_C kc0 8 (by decide) rfl rfl
  refine lv_aload_n (pc := 4) C.1 C.2.1 dX10_passTicksOf_4 rfl (lv_at hl 1 rfl) ?_
  refine lv_aload_n (pc := 5) C.1 C.2.1 dX10_passTicksOf_5 rfl (lv_at hl 0 rfl) ?_
  refine x_getr (pc := 6) C hP ck_10 0 fl_X10_10 (by decide) rfl kc0 dX10_passTicksOf_6 ?_
  have k2 : wk LC (rfC c0 0) 9 := wt_f wT_C kc0 0 (by decide) rfl rfl
  refine x_getr (pc := 9) C hP ck_9 2 fl_X10_132 (by decide) rfl k2 dX10_passTicksOf_9 ?_
  have k3 : wk LC (rfC (rfC c0 0) 2) 0 := wt_f wT_C k2 2 (by decide) rfl rfl
  refine lv_aload_n (pc := 12) C.1 C.2.1 dX10_passTicksOf_12 rfl (lv_at hl 1 rfl) ?_
  refine x_geti (pc := 13) C hP ck_6 1 fl_X10_169 (by decide) rfl kc1 dX10_passTicksOf_13 ?_
  refine lv_aload_n (pc := 16) C.1 C.2.1 dX10_passTicksOf_16 rfl (lv_at hl 0 rfl) ?_
  refine x_getr (pc := 17) C hP ck_10 0 fl_X10_10 (by decide) rfl kc0 dX10_passTicksOf_17 ?_
  have k4 : wk LC (rfC c0 0) 9 := wt_f wT_C kc0 0 (by decide) rfl rfl
  refine x_geti (pc := 20) C hP ck_9 4 fl_X10_125 (by decide) rfl k4 dX10_passTicksOf_20 ?_
  refine lv_aload_n (pc := 23) C.1 C.2.1 dX10_passTicksOf_23 rfl (lv_at hl 0 rfl) ?_
  refine x_getr (pc := 24) C hP ck_10 0 fl_X10_10 (by decide) rfl kc0 dX10_passTicksOf_24 ?_
  have k5 : wk LC (rfC c0 0) 9 := wt_f wT_C kc0 0 (by decide) rfl rfl
  refine x_geti (pc := 27) C hP ck_9 4 fl_X10_125 (by decide) rfl k5 dX10_passTicksOf_27 ?_
  refine lv_iload_n (pc := 30) C.1 C.2.1 dX10_passTicksOf_30 rfl (lv_at hl 2 rfl) ?_
  refine lv_iadd (pc := 31) C.1 C.2.1 dX10_passTicksOf_31 ?_
  obtain ⟨v7, hc6, h⟩ := bd_e h
  refine x_callv (pc := 32) C hP hS mi_X2_follow ck_2 k1 ml_X10_260 (hR.le (by decide)) (Nat.zero_le _) (Nat.zero_le _) [.ref (ad c1), .ref (ad (rfC (rfC c0 0) 2)), .int (v c1 1), .int (v (rfC c0 0) 4), .int ((v (rfC c0 0) 4) + i2)] rfl hl.1 rfl (Nat.le_of_ble_eq_true rfl) dX10_passTicksOf_32 (m_X2_follow hI k1 kc1 k3 hc6) (fun H locs hP hS => ?_)
  refine lv_aload_n (pc := 35) C.1 C.2.1 dX10_passTicksOf_35 rfl (lv_at hl 1 rfl) ?_
  refine lv_aload_n (pc := 36) C.1 C.2.1 dX10_passTicksOf_36 rfl (lv_at hl 0 rfl) ?_
  refine x_getr (pc := 37) C hP ck_10 8 fl_X10_26 (by decide) rfl kc0 dX10_passTicksOf_37 ?_
  have k8 : wk LC (rfC c0 8) 2 := wt_f wT_C kc0 8 (by decide) rfl rfl
  refine x_geti (pc := 40) C hP ck_2 0 fl_X10_274 (by decide) rfl k8 dX10_passTicksOf_40 ?_
  refine x_put (pc := 43) C hI hP hS ck_6 1 fl_X10_169 (by decide) rfl rfl kc1 rfl rfl dX10_passTicksOf_43 (fun H locs hP hS => ?_)
  obtain ⟨v9, h, hP⟩ := nv_p (P := fun z => va_P D vwCl (wd LC cy ad z) H) h hP
  refine lv_aload_n (pc := 46) C.1 C.2.1 dX10_passTicksOf_46 rfl (lv_at hl 1 rfl) ?_
  refine lv_dup (pc := 47) C.1 C.2.1 dX10_passTicksOf_47 rfl ?_
  refine x_geti (pc := 48) C hP ck_6 6 fl_X10_275 (by decide) rfl kc1 dX10_passTicksOf_48 ?_
  refine lv_aload_n (pc := 51) C.1 C.2.1 dX10_passTicksOf_51 rfl (lv_at hl 0 rfl) ?_
  refine x_getr (pc := 52) C hP ck_10 8 fl_X10_26 (by decide) rfl kc0 dX10_passTicksOf_52 ?_
  have k10 : wk LC (rfC c0 8) 2 := wt_f wT_C kc0 8 (by decide) rfl rfl
  refine x_geti (pc := 55) C hP ck_2 4 fl_X10_278 (by decide) rfl k10 dX10_passTicksOf_55 ?_
  refine lv_iadd (pc := 58) C.1 C.2.1 dX10_passTicksOf_58 ?_
  refine x_put (pc := 59) C hI hP hS ck_6 6 fl_X10_275 (by decide) rfl rfl kc1 rfl rfl dX10_passTicksOf_59 (fun H locs hP hS => ?_)
  obtain ⟨v11, h, hP⟩ := nv_p (P := fun z => va_P D vwCl (wd LC cy ad z) H) h hP
  refine lv_aload_n (pc := 62) C.1 C.2.1 dX10_passTicksOf_62 rfl (lv_at hl 0 rfl) ?_
  refine lv_dup (pc := 63) C.1 C.2.1 dX10_passTicksOf_63 rfl ?_
  refine x_geti (pc := 64) C hP ck_10 3 fl_X10_217 (by decide) rfl kc0 dX10_passTicksOf_64 ?_
  refine lv_aload_n (pc := 67) C.1 C.2.1 dX10_passTicksOf_67 rfl (lv_at hl 0 rfl) ?_
  refine x_getr (pc := 68) C hP ck_10 8 fl_X10_26 (by decide) rfl kc0 dX10_passTicksOf_68 ?_
  have k12 : wk LC (rfC c0 8) 2 := wt_f wT_C kc0 8 (by decide) rfl rfl
  refine x_geti (pc := 71) C hP ck_2 1 fl_X10_281 (by decide) rfl k12 dX10_passTicksOf_71 ?_
  refine lv_iadd (pc := 74) C.1 C.2.1 dX10_passTicksOf_74 ?_
  refine x_put (pc := 75) C hI hP hS ck_10 3 fl_X10_217 (by decide) rfl rfl kc0 rfl rfl dX10_passTicksOf_75 (fun H locs hP hS => ?_)
  obtain ⟨v13, h, hP⟩ := nv_p (P := fun z => va_P D vwCl (wd LC cy ad z) H) h hP
  refine lv_aload_n (pc := 78) C.1 C.2.1 dX10_passTicksOf_78 rfl (lv_at hl 0 rfl) ?_
  refine lv_dup (pc := 79) C.1 C.2.1 dX10_passTicksOf_79 rfl ?_
  refine x_geti (pc := 80) C hP ck_10 4 fl_X10_220 (by decide) rfl kc0 dX10_passTicksOf_80 ?_
  refine lv_aload_n (pc := 83) C.1 C.2.1 dX10_passTicksOf_83 rfl (lv_at hl 0 rfl) ?_
  refine x_getr (pc := 84) C hP ck_10 8 fl_X10_26 (by decide) rfl kc0 dX10_passTicksOf_84 ?_
  have k14 : wk LC (rfC c0 8) 2 := wt_f wT_C kc0 8 (by decide) rfl rfl
  refine x_geti (pc := 87) C hP ck_2 2 fl_X10_282 (by decide) rfl k14 dX10_passTicksOf_87 ?_
  refine lv_iadd (pc := 90) C.1 C.2.1 dX10_passTicksOf_90 ?_
  refine x_put (pc := 91) C hI hP hS ck_10 4 fl_X10_220 (by decide) rfl rfl kc0 rfl rfl dX10_passTicksOf_91 (fun H locs hP hS => ?_)
  obtain ⟨v15, h, hP⟩ := nv_p (P := fun z => va_P D vwCl (wd LC cy ad z) H) h hP
  refine lv_aload_n (pc := 94) C.1 C.2.1 dX10_passTicksOf_94 rfl (lv_at hl 0 rfl) ?_
  refine lv_dup (pc := 95) C.1 C.2.1 dX10_passTicksOf_95 rfl ?_
  refine x_geti (pc := 96) C hP ck_10 5 fl_X10_223 (by decide) rfl kc0 dX10_passTicksOf_96 ?_
  refine lv_aload_n (pc := 99) C.1 C.2.1 dX10_passTicksOf_99 rfl (lv_at hl 0 rfl) ?_
  refine x_getr (pc := 100) C hP ck_10 8 fl_X10_26 (by decide) rfl kc0 dX10_passTicksOf_100 ?_
  have k16 : wk LC (rfC c0 8) 2 := wt_f wT_C kc0 8 (by decide) rfl rfl
  refine x_geti (pc := 103) C hP ck_2 3 fl_X10_283 (by decide) rfl k16 dX10_passTicksOf_103 ?_
  refine lv_iadd (pc := 106) C.1 C.2.1 dX10_passTicksOf_106 ?_
  refine x_put (pc := 107) C hI hP hS ck_10 5 fl_X10_223 (by decide) rfl rfl kc0 rfl rfl dX10_passTicksOf_107 (fun H locs hP hS => ?_)
  obtain ⟨v17, h, hP⟩ := nv_p (P := fun z => va_P D vwCl (wd LC cy ad z) H) h hP
  exact x_vret (pc := 110) C hr hlk hP hS h dX10_passTicksOf_110
set_option maxRecDepth 100000 in
theorem m_X10_passTicksOf (hI : wI LC ad) {c0 : Nat} {c1 : Nat} {i2 : Int32} {v : VV} {vZ : VV} (kc0 : wk LC c0 10) (kc1 : wk LC c1 6) (h : F_X10_passTicksOf c0 c1 i2 v = some vZ) : Met l yX10_passTicksOf (Cond.code yX10_passTicksOf cX10_passTicksOf 3 none :: wsG) (rmL 3) (pcG LC cy ad D [.ref (ad c0), .ref (ad c1), .int i2] v) (qvG LC cy ad D vZ) 0 0 (wA LC ad) := by
  refine Met.ofW (cc := cX10_passTicksOf) (maxL := 3) (ret := none) (by decide) rfl ?_
  intro p e s m args below meth c s₁ B hml hv
  obtain ⟨rfl, hP, hK⟩ := hv
  have hts := atoms_spec (ws := Cond.code yX10_passTicksOf cX10_passTicksOf 3 none :: wsG) B.pre
  have hown : s.vm.findClass RX10 = some m.cls := findClass_of_methodNamed B.named
  have C : Cx p s m _ c cX10_passTicksOf 3 RX10 D cy := ⟨B.exec, B.bytes, hml, hown, fun w hw => hts w (List.mem_cons_of_mem _ hw), hK⟩
  have hl := lv_entry ([.ref (ad c0), .ref (ad c1), .int i2]) (n := 3) (Nat.le_of_ble_eq_true rfl)
  rw [lg_entry_eq]
  generalize (lg_sl ([.ref (ad c0), .ref (ad c1), .int i2]) ++ List.replicate (3 - (lg_sl ([.ref (ad c0), .ref (ad c1), .int i2])).length) Slot.unset).toArray = ls at hl ⊢
  have hl : lv_has ls 3 [(0, .ref (ad c0)), (1, .ref (ad c1)), (2, .int i2)] := hl
  exact w_X10_passTicksOf C hI B.returns B.notSynchronized (RoL_rm _) c0 c1 i2 v _ _ _ kc0 kc1 h hP va_S.rf (lv_sub hl [0, 1, 2] rfl)
def f_X10_passTicks_l15 (k40 : Nat → Int32 → Int32 → VV → Option (VV)) : Nat → Nat → Int32 → Int32 → Int32 → VV → Option (VV)
  | 0, _, _, _, _, _ => none
  | n + 1, c0, i1, i2, i3, v =>
    if (3 ≤ i3) then
      k40 c0 i1 i2 v
    else
      bi (F_X9_shelf (rfC c0 0) i2 i3 v) fun q5 v4 =>
      (F_X10_passTicksOf c0 q5 i1 v4).bind fun v8 =>
      nv (i3 + 1) fun x9 =>
      f_X10_passTicks_l15 k40 n c0 i1 i2 x9 v8
def f_X10_passTicks_l2 (k46 : Nat → Int32 → VV → Option (VV)) : Nat → Nat → Int32 → Int32 → VV → Option (VV)
  | 0, _, _, _, _ => none
  | n + 1, c0, i1, i2, v =>
    if ((v (rfC c0 0) 3) ≤ i2) then
      k46 c0 i1 v
    else
      f_X10_passTicks_l15 (fun c0_10 i1_10 i2_10 v_10 =>
      nv (i2_10 + 1) fun x11 =>
      f_X10_passTicks_l2 k46 n c0_10 i1_10 x11 v_10) FU c0 i1 i2 0 v
def f_X10_passTicks (c0 : Nat) (i1 : Int32) (v : VV) : Option (VV) :=
  f_X10_passTicks_l2 (fun c0_12 i1_12 v_12 =>
  nv (wu v_12 (rfC c0_12 0) 4 ((v_12 (rfC c0_12 0) 4) + i1_12)) fun v14 =>
  (F_X0_dropBefore (rfC (rfC c0_12 0) 2) (v14 (rfC c0_12 0) 4) v14).bind fun v19 =>
  some v19) FU c0 i1 0 v
abbrev F_X10_passTicks (c0 : Nat) (i1 : Int32) (v : VV) : Option (VV) := f_X10_passTicks c0 i1 v
set_option maxHeartbeats 4000000 in
set_option maxRecDepth 100000 in
theorem w_X10_passTicks_l15 (C : Cx p s m args c cX10_passTicks 4 RX10 D cy) (hI : wI LC ad) (hr : meth.sig.returnType = none) (hlk : meth.locks = false) (hR : RoL 4 R) (k40 : Nat → Int32 → Int32 → VV → Option (VV)) {vZ : VV} (h40 : ∀ (c0 : Nat) (i1 : Int32) (i2 : Int32) (v : VV) (H : Heap) (locs : List Loc) (ls : Array Slot), wk LC c0 10 → k40 c0 i1 i2 v = some vZ → va_P D vwCl (wd LC cy ad v) H → va_S (wA LC ad) s.heap H locs → lv_has ls 4 [(0, .ref (ad c0)), (1, .int i1), (2, .int i2)] → W p l e R s m args below meth c H locs 0 0 (MQ below (qvG LC cy ad D vZ) args s 0 0 (wA LC ad)) (F0 m 40 ls [])) : ∀ (n : Nat) (c0 : Nat) (i1 : Int32) (i2 : Int32) (i3 : Int32) (v : VV) (H : Heap) (locs : List Loc) (ls : Array Slot), wk LC c0 10 → f_X10_passTicks_l15 k40 n c0 i1 i2 i3 v = some vZ → va_P D vwCl (wd LC cy ad v) H → va_S (wA LC ad) s.heap H locs → lv_has ls 4 [(0, .ref (ad c0)), (1, .int i1), (2, .int i2), (3, .int i3)] → W p l e R s m args below meth c H locs 0 0 (MQ below (qvG LC cy ad D vZ) args s 0 0 (wA LC ad)) (F0 m 15 ls []) := by
  intro n
  induction n with
  | zero => intro c0 i1 i2 i3 v H locs ls kc0 h hP hS hl; exact absurd h (by simp [f_X10_passTicks_l15])
  | succ n ih =>
    intro c0 i1 i2 i3 v H locs ls kc0 h hP hS hl
    rw [f_X10_passTicks_l15] at h
    refine lv_iload_n (pc := 15) C.1 C.2.1 dX10_passTicks_15 rfl (lv_at hl 3 rfl) ?_
    refine lv_iconst (pc := 16) (v := 3) C.1 C.2.1 dX10_passTicks_16 (by decide) ?_
    refine lv_icmp_ge (pc := 17) (tgt := 40) C.1 C.2.1 dX10_passTicks_17 (by decide) (fun b17 => ?_) (fun b17 => ?_)
    · replace h := if_t h b17
      exact h40 c0 i1 i2 v _ _ _ kc0 h hP hS (lv_sub hl [0, 1, 2] rfl)
    · replace h := if_f h b17
      refine lv_aload_n (pc := 20) C.1 C.2.1 dX10_passTicks_20 rfl (lv_at hl 0 rfl) ?_
      refine lv_aload_n (pc := 21) C.1 C.2.1 dX10_passTicks_21 rfl (lv_at hl 0 rfl) ?_
      refine x_getr (pc := 22) C hP ck_10 0 fl_X10_10 (by decide) rfl kc0 dX10_passTicks_22 ?_
      have k2 : wk LC (rfC c0 0) 9 := wt_f wT_C kc0 0 (by decide) rfl rfl
      refine lv_iload_n (pc := 25) C.1 C.2.1 dX10_passTicks_25 rfl (lv_at hl 2 rfl) ?_
      refine lv_iload_n (pc := 26) C.1 C.2.1 dX10_passTicks_26 rfl (lv_at hl 3 rfl) ?_
      obtain ⟨q5, v4, hc3, h⟩ := bi_e h
      refine x_callr (pc := 27) C hP hS mi_X9_shelf ck_9 k2 ml_X10_75 (hR.le (by decide)) (Nat.zero_le _) (Nat.zero_le _) [.int i2, .int i3] rfl hl.1 rfl (Nat.le_of_ble_eq_true rfl) dX10_passTicks_27 (m_X9_shelf hI k2 hc3) (fun H locs hP hS => ?_)
      have k6 : wk LC q5 6 := wr_X9_shelf hc3 k2
      refine lv_iload_n (pc := 30) C.1 C.2.1 dX10_passTicks_30 rfl (lv_at hl 1 rfl) ?_
      obtain ⟨v8, hc7, h⟩ := bd_e h
      refine x_callv (pc := 31) C hP hS mi_X10_passTicksOf ck_10 kc0 ml_X10_267 (hR.le (by decide)) (Nat.zero_le _) (Nat.zero_le _) [.ref (ad q5), .int i1] rfl hl.1 rfl (Nat.le_of_ble_eq_true rfl) dX10_passTicks_31 (m_X10_passTicksOf hI kc0 k6 hc7) (fun H locs hP hS => ?_)
      obtain ⟨x9, ex9⟩ : ∃ y : Int32, y = i3 + 1 := ⟨_, rfl⟩
      replace h := nv_e h ex9
      refine lv_iinc (pc := 34) (v := x9) (lv' := [(3, .int x9), (0, .ref (ad c0)), (1, .int i1), (2, .int i2)]) C.1 C.2.1 dX10_passTicks_34 hl (k := 3) rfl (by rw [ex9]; rfl) (by decide) rfl (fun ls hl => ?_)
      clear ex9
      refine lv_goto (pc := 37) (tgt := 15) C.1 C.2.1 dX10_passTicks_37 (by decide) ?_
      exact ih c0 i1 i2 x9 v8 _ _ _ kc0 h hP hS (lv_sub hl [1, 2, 3, 0] rfl)
set_option maxHeartbeats 4000000 in
set_option maxRecDepth 100000 in
theorem w_X10_passTicks_l2 (C : Cx p s m args c cX10_passTicks 4 RX10 D cy) (hI : wI LC ad) (hr : meth.sig.returnType = none) (hlk : meth.locks = false) (hR : RoL 4 R) (k46 : Nat → Int32 → VV → Option (VV)) {vZ : VV} (h46 : ∀ (c0 : Nat) (i1 : Int32) (v : VV) (H : Heap) (locs : List Loc) (ls : Array Slot), wk LC c0 10 → k46 c0 i1 v = some vZ → va_P D vwCl (wd LC cy ad v) H → va_S (wA LC ad) s.heap H locs → lv_has ls 4 [(0, .ref (ad c0)), (1, .int i1)] → W p l e R s m args below meth c H locs 0 0 (MQ below (qvG LC cy ad D vZ) args s 0 0 (wA LC ad)) (F0 m 46 ls [])) : ∀ (n : Nat) (c0 : Nat) (i1 : Int32) (i2 : Int32) (v : VV) (H : Heap) (locs : List Loc) (ls : Array Slot), wk LC c0 10 → f_X10_passTicks_l2 k46 n c0 i1 i2 v = some vZ → va_P D vwCl (wd LC cy ad v) H → va_S (wA LC ad) s.heap H locs → lv_has ls 4 [(0, .ref (ad c0)), (1, .int i1), (2, .int i2)] → W p l e R s m args below meth c H locs 0 0 (MQ below (qvG LC cy ad D vZ) args s 0 0 (wA LC ad)) (F0 m 2 ls []) := by
  intro n
  induction n with
  | zero => intro c0 i1 i2 v H locs ls kc0 h hP hS hl; exact absurd h (by simp [f_X10_passTicks_l2])
  | succ n ih =>
    intro c0 i1 i2 v H locs ls kc0 h hP hS hl
    rw [f_X10_passTicks_l2] at h
    refine lv_iload_n (pc := 2) C.1 C.2.1 dX10_passTicks_2 rfl (lv_at hl 2 rfl) ?_
    refine lv_aload_n (pc := 3) C.1 C.2.1 dX10_passTicks_3 rfl (lv_at hl 0 rfl) ?_
    refine x_getr (pc := 4) C hP ck_10 0 fl_X10_10 (by decide) rfl kc0 dX10_passTicks_4 ?_
    have k1 : wk LC (rfC c0 0) 9 := wt_f wT_C kc0 0 (by decide) rfl rfl
    refine x_geti (pc := 7) C hP ck_9 3 fl_X10_53 (by decide) rfl k1 dX10_passTicks_7 ?_
    refine lv_icmp_ge (pc := 10) (tgt := 46) C.1 C.2.1 dX10_passTicks_10 (by decide) (fun b10 => ?_) (fun b10 => ?_)
    · replace h := if_t h b10
      exact h46 c0 i1 v _ _ _ kc0 h hP hS (lv_sub hl [0, 1] rfl)
    · replace h := if_f h b10
      refine lv_iconst (pc := 13) (v := 0) C.1 C.2.1 dX10_passTicks_13 (by decide) ?_
      refine lv_istore_n (pc := 14) (lv' := [(3, .int 0), (0, .ref (ad c0)), (1, .int i1), (2, .int i2)]) C.1 C.2.1 dX10_passTicks_14 rfl hl (by decide) rfl (fun ls hl => ?_)
      refine w_X10_passTicks_l15 C hI hr hlk hR _ ?_ FU c0 i1 i2 0 v _ _ _ kc0 h hP hS (lv_sub hl [1, 2, 3, 0] rfl)
      intro c0_10 i1_10 i2_10 v_10 H locs ls kc0_10 h hP hS hl
      obtain ⟨x11, ex11⟩ : ∃ y : Int32, y = i2_10 + 1 := ⟨_, rfl⟩
      replace h := nv_e h ex11
      refine lv_iinc (pc := 40) (v := x11) (lv' := [(2, .int x11), (0, .ref (ad c0_10)), (1, .int i1_10)]) C.1 C.2.1 dX10_passTicks_40 hl (k := 2) rfl (by rw [ex11]; rfl) (by decide) rfl (fun ls hl => ?_)
      clear ex11
      refine lv_goto (pc := 43) (tgt := 2) C.1 C.2.1 dX10_passTicks_43 (by decide) ?_
      exact ih c0_10 i1_10 x11 v_10 _ _ _ kc0_10 h hP hS (lv_sub hl [1, 2, 0] rfl)
set_option maxHeartbeats 4000000 in
set_option maxRecDepth 100000 in
theorem w_X10_passTicks (C : Cx p s m args c cX10_passTicks 4 RX10 D cy) (hI : wI LC ad) (hr : meth.sig.returnType = none) (hlk : meth.locks = false) (hR : RoL 4 R) {vZ : VV} : ∀ (c0 : Nat) (i1 : Int32) (v : VV) (H : Heap) (locs : List Loc) (ls : Array Slot), wk LC c0 10 → f_X10_passTicks c0 i1 v = some vZ → va_P D vwCl (wd LC cy ad v) H → va_S (wA LC ad) s.heap H locs → lv_has ls 4 [(0, .ref (ad c0)), (1, .int i1)] → W p l e R s m args below meth c H locs 0 0 (MQ below (qvG LC cy ad D vZ) args s 0 0 (wA LC ad)) (F0 m 0 ls []) := by
  intro c0 i1 v H locs ls kc0 h hP hS hl
  unfold f_X10_passTicks at h
  refine lv_iconst (pc := 0) (v := 0) C.1 C.2.1 dX10_passTicks_0 (by decide) ?_
  refine lv_istore_n (pc := 1) (lv' := [(2, .int 0), (0, .ref (ad c0)), (1, .int i1)]) C.1 C.2.1 dX10_passTicks_1 rfl hl (by decide) rfl (fun ls hl => ?_)
  refine w_X10_passTicks_l2 C hI hr hlk hR _ ?_ FU c0 i1 0 v _ _ _ kc0 h hP hS (lv_sub hl [1, 2, 0] rfl)
  intro c0_12 i1_12 v_12 H locs ls kc0_12 h hP hS hl
  refine lv_aload_n (pc := 46) C.1 C.2.1 dX10_passTicks_46 rfl (lv_at hl 0 rfl) ?_
  refine x_getr (pc := 47) C hP ck_10 0 fl_X10_10 (by decide) rfl kc0_12 dX10_passTicks_47 ?_
  have k13 : wk LC (rfC c0_12 0) 9 := wt_f wT_C kc0_12 0 (by decide) rfl rfl
  refine lv_dup (pc := 50) C.1 C.2.1 dX10_passTicks_50 rfl ?_
  refine x_geti (pc := 51) C hP ck_9 4 fl_X10_125 (by decide) rfl k13 dX10_passTicks_51 ?_
  refine lv_iload_n (pc := 54) C.1 C.2.1 dX10_passTicks_54 rfl (lv_at hl 1 rfl) ?_
  refine lv_iadd (pc := 55) C.1 C.2.1 dX10_passTicks_55 ?_
  refine x_put (pc := 56) C hI hP hS ck_9 4 fl_X10_125 (by decide) rfl rfl k13 rfl rfl dX10_passTicks_56 (fun H locs hP hS => ?_)
  obtain ⟨v14, h, hP⟩ := nv_p (P := fun z => va_P D vwCl (wd LC cy ad z) H) h hP
  refine lv_aload_n (pc := 59) C.1 C.2.1 dX10_passTicks_59 rfl (lv_at hl 0 rfl) ?_
  refine x_getr (pc := 60) C hP ck_10 0 fl_X10_10 (by decide) rfl kc0_12 dX10_passTicks_60 ?_
  have k15 : wk LC (rfC c0_12 0) 9 := wt_f wT_C kc0_12 0 (by decide) rfl rfl
  refine x_getr (pc := 63) C hP ck_9 2 fl_X10_132 (by decide) rfl k15 dX10_passTicks_63 ?_
  have k16 : wk LC (rfC (rfC c0_12 0) 2) 0 := wt_f wT_C k15 2 (by decide) rfl rfl
  refine lv_aload_n (pc := 66) C.1 C.2.1 dX10_passTicks_66 rfl (lv_at hl 0 rfl) ?_
  refine x_getr (pc := 67) C hP ck_10 0 fl_X10_10 (by decide) rfl kc0_12 dX10_passTicks_67 ?_
  have k17 : wk LC (rfC c0_12 0) 9 := wt_f wT_C kc0_12 0 (by decide) rfl rfl
  refine x_geti (pc := 70) C hP ck_9 4 fl_X10_125 (by decide) rfl k17 dX10_passTicks_70 ?_
  obtain ⟨v19, hc18, h⟩ := bd_e h
  refine x_callv (pc := 73) C hP hS mi_X0_dropBefore ck_0 k16 ml_X10_271 (hR.le (by decide)) (Nat.zero_le _) (Nat.zero_le _) [.int (v14 (rfC c0_12 0) 4)] rfl hl.1 rfl (Nat.le_of_ble_eq_true rfl) dX10_passTicks_73 (m_X0_dropBefore hI k16 hc18) (fun H locs hP hS => ?_)
  exact x_vret (pc := 76) C hr hlk hP hS h dX10_passTicks_76
set_option maxRecDepth 100000 in
theorem m_X10_passTicks (hI : wI LC ad) {c0 : Nat} {i1 : Int32} {v : VV} {vZ : VV} (kc0 : wk LC c0 10) (h : F_X10_passTicks c0 i1 v = some vZ) : Met l yX10_passTicks (Cond.code yX10_passTicks cX10_passTicks 4 none :: wsG) (rmL 4) (pcG LC cy ad D [.ref (ad c0), .int i1] v) (qvG LC cy ad D vZ) 0 0 (wA LC ad) := by
  refine Met.ofW (cc := cX10_passTicks) (maxL := 4) (ret := none) (by decide) rfl ?_
  intro p e s m args below meth c s₁ B hml hv
  obtain ⟨rfl, hP, hK⟩ := hv
  have hts := atoms_spec (ws := Cond.code yX10_passTicks cX10_passTicks 4 none :: wsG) B.pre
  have hown : s.vm.findClass RX10 = some m.cls := findClass_of_methodNamed B.named
  have C : Cx p s m _ c cX10_passTicks 4 RX10 D cy := ⟨B.exec, B.bytes, hml, hown, fun w hw => hts w (List.mem_cons_of_mem _ hw), hK⟩
  have hl := lv_entry ([.ref (ad c0), .int i1]) (n := 4) (Nat.le_of_ble_eq_true rfl)
  rw [lg_entry_eq]
  generalize (lg_sl ([.ref (ad c0), .int i1]) ++ List.replicate (4 - (lg_sl ([.ref (ad c0), .int i1])).length) Slot.unset).toArray = ls at hl ⊢
  have hl : lv_has ls 4 [(0, .ref (ad c0)), (1, .int i1)] := hl
  exact w_X10_passTicks C hI B.returns B.notSynchronized (RoL_rm _) c0 i1 v _ _ _ kc0 h hP va_S.rf (lv_sub hl [0, 1] rfl)
def f_X10_tick (c0 : Nat) (i1 : Int32) (v : VV) : Option (Int32 × VV) :=
  bi (F_X10_within i1 1 200 v) fun x3 v2 =>
  if (x3 = 0) then
    some ((-2), v2)
  else
    if (((v2 (rfC c0 0) 4) + i1) ≤ 999) then
      (F_X10_passTicks c0 i1 v2).bind fun v6 =>
      some ((v6 (rfC c0 0) 4), v6)
    else
      some ((-3), v2)
abbrev F_X10_tick (c0 : Nat) (i1 : Int32) (v : VV) : Option (Int32 × VV) := f_X10_tick c0 i1 v
set_option maxHeartbeats 4000000 in
set_option maxRecDepth 100000 in
theorem w_X10_tick (C : Cx p s m args c cX10_tick 2 RX10 D cy) (hI : wI LC ad) (hr : meth.sig.returnType = some .int) (hlk : meth.locks = false) (hR : RoL 5 R) {rZ : Int32} {vZ : VV} : ∀ (c0 : Nat) (i1 : Int32) (v : VV) (H : Heap) (locs : List Loc) (ls : Array Slot), wk LC c0 10 → f_X10_tick c0 i1 v = some (rZ, vZ) → va_P D vwCl (wd LC cy ad v) H → va_S (wA LC ad) s.heap H locs → lv_has ls 2 [(0, .ref (ad c0)), (1, .int i1)] → W p l e R s m args below meth c H locs 0 0 (MQ below (qiG LC cy ad D rZ vZ) args s 0 0 (wA LC ad)) (F0 m 0 ls []) := by
  intro c0 i1 v H locs ls kc0 h hP hS hl
  unfold f_X10_tick at h
  refine lv_iload_n (pc := 0) C.1 C.2.1 dX10_tick_0 rfl (lv_at hl 1 rfl) ?_
  refine lv_iconst (pc := 1) (v := 1) C.1 C.2.1 dX10_tick_1 (by decide) ?_
  refine lv_sipush (pc := 2) (v := 200) C.1 C.2.1 dX10_tick_2 (by decide) ?_
  obtain ⟨x3, v2, hc1, h⟩ := bi_e h
  refine x_callsi (pc := 5) C hP hS ms_X10_within ml_X10_64 (hR.le (by decide)) (Nat.zero_le _) (Nat.zero_le _) [.int i1, .int 1, .int 200] rfl hl.1 rfl (Nat.le_of_ble_eq_true rfl) dX10_tick_5 (m_X10_within hI hc1) (fun H locs hP hS => ?_)
  refine lv_if_ne (pc := 8) (tgt := 14) C.1 C.2.1 dX10_tick_8 (by decide) (fun b8 => ?_) (fun b8 => ?_)
  · replace h := if_f h b8
    refine lv_aload_n (pc := 14) C.1 C.2.1 dX10_tick_14 rfl (lv_at hl 0 rfl) ?_
    refine x_getr (pc := 15) C hP ck_10 0 fl_X10_10 (by decide) rfl kc0 dX10_tick_15 ?_
    have k4 : wk LC (rfC c0 0) 9 := wt_f wT_C kc0 0 (by decide) rfl rfl
    refine x_geti (pc := 18) C hP ck_9 4 fl_X10_125 (by decide) rfl k4 dX10_tick_18 ?_
    refine lv_iload_n (pc := 21) C.1 C.2.1 dX10_tick_21 rfl (lv_at hl 1 rfl) ?_
    refine lv_iadd (pc := 22) C.1 C.2.1 dX10_tick_22 ?_
    refine lv_sipush (pc := 23) (v := 999) C.1 C.2.1 dX10_tick_23 (by decide) ?_
    refine lv_icmp_le (pc := 26) (tgt := 32) C.1 C.2.1 dX10_tick_26 (by decide) (fun b26 => ?_) (fun b26 => ?_)
    · replace h := if_t h b26
      refine lv_aload_n (pc := 32) C.1 C.2.1 dX10_tick_32 rfl (lv_at hl 0 rfl) ?_
      refine lv_iload_n (pc := 33) C.1 C.2.1 dX10_tick_33 rfl (lv_at hl 1 rfl) ?_
      obtain ⟨v6, hc5, h⟩ := bd_e h
      refine x_callv (pc := 34) C hP hS mi_X10_passTicks ck_10 kc0 ml_X10_128 (hR.le (by decide)) (Nat.zero_le _) (Nat.zero_le _) [.int i1] rfl hl.1 rfl (Nat.le_of_ble_eq_true rfl) dX10_tick_34 (m_X10_passTicks hI kc0 hc5) (fun H locs hP hS => ?_)
      refine lv_aload_n (pc := 37) C.1 C.2.1 dX10_tick_37 rfl (lv_at hl 0 rfl) ?_
      refine x_getr (pc := 38) C hP ck_10 0 fl_X10_10 (by decide) rfl kc0 dX10_tick_38 ?_
      have k7 : wk LC (rfC c0 0) 9 := wt_f wT_C kc0 0 (by decide) rfl rfl
      refine x_geti (pc := 41) C hP ck_9 4 fl_X10_125 (by decide) rfl k7 dX10_tick_41 ?_
      exact x_iret (pc := 44) C hr hlk hP hS h dX10_tick_44
    · replace h := if_f h b26
      refine lv_bipush (pc := 29) (v := (-3)) C.1 C.2.1 dX10_tick_29 (by decide) ?_
      exact x_iret (pc := 31) C hr hlk hP hS h dX10_tick_31
  · replace h := if_t h b8
    refine lv_bipush (pc := 11) (v := (-2)) C.1 C.2.1 dX10_tick_11 (by decide) ?_
    exact x_iret (pc := 13) C hr hlk hP hS h dX10_tick_13
set_option maxRecDepth 100000 in
theorem m_X10_tick (hI : wI LC ad) {c0 : Nat} {i1 : Int32} {v : VV} {rZ : Int32} {vZ : VV} (kc0 : wk LC c0 10) (h : F_X10_tick c0 i1 v = some (rZ, vZ)) : Met l yX10_tick (Cond.code yX10_tick cX10_tick 2 (some .int) :: wsG) (rmL 5) (pcG LC cy ad D [.ref (ad c0), .int i1] v) (qiG LC cy ad D rZ vZ) 0 0 (wA LC ad) := by
  refine Met.ofW (cc := cX10_tick) (maxL := 2) (ret := (some .int)) (by decide) rfl ?_
  intro p e s m args below meth c s₁ B hml hv
  obtain ⟨rfl, hP, hK⟩ := hv
  have hts := atoms_spec (ws := Cond.code yX10_tick cX10_tick 2 (some .int) :: wsG) B.pre
  have hown : s.vm.findClass RX10 = some m.cls := findClass_of_methodNamed B.named
  have C : Cx p s m _ c cX10_tick 2 RX10 D cy := ⟨B.exec, B.bytes, hml, hown, fun w hw => hts w (List.mem_cons_of_mem _ hw), hK⟩
  have hl := lv_entry ([.ref (ad c0), .int i1]) (n := 2) (Nat.le_of_ble_eq_true rfl)
  rw [lg_entry_eq]
  generalize (lg_sl ([.ref (ad c0), .int i1]) ++ List.replicate (2 - (lg_sl ([.ref (ad c0), .int i1])).length) Slot.unset).toArray = ls at hl ⊢
  have hl : lv_has ls 2 [(0, .ref (ad c0)), (1, .int i1)] := hl
  exact w_X10_tick C hI B.returns B.notSynchronized (RoL_rm _) c0 i1 v _ _ _ kc0 h hP va_S.rf (lv_sub hl [0, 1] rfl)
def f_X10_event (c0 : Nat) (i1 : Int32) (i2 : Int32) (i3 : Int32) (i4 : Int32) (v : VV) : Option (Int32 × VV) :=
  bi (F_X10_isPort c0 i2 v) fun x3 v2 =>
  if (x3 = 0) then
    some ((-1), v2)
  else
    bi (F_X10_isGood i3 v2) fun x6 v5 =>
    if (x6 = 0) then
      some ((-1), v5)
    else
      bi (F_X10_within i1 (v5 (rfC c0 0) 4) 998 v5) fun x10 v9 =>
      if (x10 = 0) then
        some ((-2), v9)
      else
        bi (F_X10_within i4 (-1000) 1000 v9) fun x13 v12 =>
        if (x13 = 0) then
          some ((-2), v12)
        else
          if (i4 = 0) then
            some ((-2), v12)
          else
            if ((v12 (rfC (rfC c0 0) 2) 3) < 20) then
              bi (F_X9_shelf (rfC c0 0) i2 i3 v12) fun q21 v20 =>
              (F_X0_add (rfC (rfC c0 0) 2) i1 (v20 q21 0) i4 v20).bind fun v24 =>
              some ((v24 (rfC (rfC c0 0) 2) 3), v24)
            else
              some ((-4), v12)
abbrev F_X10_event (c0 : Nat) (i1 : Int32) (i2 : Int32) (i3 : Int32) (i4 : Int32) (v : VV) : Option (Int32 × VV) := f_X10_event c0 i1 i2 i3 i4 v
set_option maxHeartbeats 4000000 in
set_option maxRecDepth 100000 in
theorem w_X10_event (C : Cx p s m args c cX10_event 5 RX10 D cy) (hI : wI LC ad) (hr : meth.sig.returnType = some .int) (hlk : meth.locks = false) (hR : RoL 3 R) {rZ : Int32} {vZ : VV} : ∀ (c0 : Nat) (i1 : Int32) (i2 : Int32) (i3 : Int32) (i4 : Int32) (v : VV) (H : Heap) (locs : List Loc) (ls : Array Slot), wk LC c0 10 → f_X10_event c0 i1 i2 i3 i4 v = some (rZ, vZ) → va_P D vwCl (wd LC cy ad v) H → va_S (wA LC ad) s.heap H locs → lv_has ls 5 [(0, .ref (ad c0)), (1, .int i1), (2, .int i2), (3, .int i3), (4, .int i4)] → W p l e R s m args below meth c H locs 0 0 (MQ below (qiG LC cy ad D rZ vZ) args s 0 0 (wA LC ad)) (F0 m 0 ls []) := by
  intro c0 i1 i2 i3 i4 v H locs ls kc0 h hP hS hl
  unfold f_X10_event at h
  refine lv_aload_n (pc := 0) C.1 C.2.1 dX10_event_0 rfl (lv_at hl 0 rfl) ?_
  refine lv_iload_n (pc := 1) C.1 C.2.1 dX10_event_1 rfl (lv_at hl 2 rfl) ?_
  obtain ⟨x3, v2, hc1, h⟩ := bi_e h
  refine x_calli (pc := 2) C hP hS mi_X10_isPort ck_10 kc0 ml_X10_57 (hR.le (by decide)) (Nat.zero_le _) (Nat.zero_le _) [.int i2] rfl hl.1 rfl (Nat.le_of_ble_eq_true rfl) dX10_event_2 (m_X10_isPort hI kc0 hc1) (fun H locs hP hS => ?_)
  refine lv_if_eq (pc := 5) (tgt := 15) C.1 C.2.1 dX10_event_5 (by decide) (fun b5 => ?_) (fun b5 => ?_)
  · replace h := if_t h b5
    refine lv_iconst (pc := 15) (v := (-1)) C.1 C.2.1 dX10_event_15 (by decide) ?_
    exact x_iret (pc := 16) C hr hlk hP hS h dX10_event_16
  · replace h := if_f h b5
    refine lv_iload_n (pc := 8) C.1 C.2.1 dX10_event_8 rfl (lv_at hl 3 rfl) ?_
    obtain ⟨x6, v5, hc4, h⟩ := bi_e h
    refine x_callsi (pc := 9) C hP hS ms_X10_isGood ml_X10_61 (hR.le (by decide)) (Nat.zero_le _) (Nat.zero_le _) [.int i3] rfl hl.1 rfl (Nat.le_of_ble_eq_true rfl) dX10_event_9 (m_X10_isGood hI hc4) (fun H locs hP hS => ?_)
    refine lv_if_ne (pc := 12) (tgt := 17) C.1 C.2.1 dX10_event_12 (by decide) (fun b12 => ?_) (fun b12 => ?_)
    · replace h := if_f h b12
      refine lv_iload_n (pc := 17) C.1 C.2.1 dX10_event_17 rfl (lv_at hl 1 rfl) ?_
      refine lv_aload_n (pc := 18) C.1 C.2.1 dX10_event_18 rfl (lv_at hl 0 rfl) ?_
      refine x_getr (pc := 19) C hP ck_10 0 fl_X10_10 (by decide) rfl kc0 dX10_event_19 ?_
      have k7 : wk LC (rfC c0 0) 9 := wt_f wT_C kc0 0 (by decide) rfl rfl
      refine x_geti (pc := 22) C hP ck_9 4 fl_X10_125 (by decide) rfl k7 dX10_event_22 ?_
      refine lv_sipush (pc := 25) (v := 998) C.1 C.2.1 dX10_event_25 (by decide) ?_
      obtain ⟨x10, v9, hc8, h⟩ := bi_e h
      refine x_callsi (pc := 28) C hP hS ms_X10_within ml_X10_64 (hR.le (by decide)) (Nat.zero_le _) (Nat.zero_le _) [.int i1, .int (v5 (rfC c0 0) 4), .int 998] rfl hl.1 rfl (Nat.le_of_ble_eq_true rfl) dX10_event_28 (m_X10_within hI hc8) (fun H locs hP hS => ?_)
      refine lv_if_eq (pc := 31) (tgt := 53) C.1 C.2.1 dX10_event_31 (by decide) (fun b31 => ?_) (fun b31 => ?_)
      · replace h := if_t h b31
        refine lv_bipush (pc := 53) (v := (-2)) C.1 C.2.1 dX10_event_53 (by decide) ?_
        exact x_iret (pc := 55) C hr hlk hP hS h dX10_event_55
      · replace h := if_f h b31
        refine lv_iload (pc := 34) C.1 C.2.1 dX10_event_34 (lv_at hl 4 rfl) ?_
        refine lv_sipush (pc := 36) (v := (-1000)) C.1 C.2.1 dX10_event_36 (by decide) ?_
        refine lv_sipush (pc := 39) (v := 1000) C.1 C.2.1 dX10_event_39 (by decide) ?_
        obtain ⟨x13, v12, hc11, h⟩ := bi_e h
        refine x_callsi (pc := 42) C hP hS ms_X10_within ml_X10_64 (hR.le (by decide)) (Nat.zero_le _) (Nat.zero_le _) [.int i4, .int (-1000), .int 1000] rfl hl.1 rfl (Nat.le_of_ble_eq_true rfl) dX10_event_42 (m_X10_within hI hc11) (fun H locs hP hS => ?_)
        refine lv_if_eq (pc := 45) (tgt := 53) C.1 C.2.1 dX10_event_45 (by decide) (fun b45 => ?_) (fun b45 => ?_)
        · replace h := if_t h b45
          refine lv_bipush (pc := 53) (v := (-2)) C.1 C.2.1 dX10_event_53 (by decide) ?_
          exact x_iret (pc := 55) C hr hlk hP hS h dX10_event_55
        · replace h := if_f h b45
          refine lv_iload (pc := 48) C.1 C.2.1 dX10_event_48 (lv_at hl 4 rfl) ?_
          refine lv_if_ne (pc := 50) (tgt := 56) C.1 C.2.1 dX10_event_50 (by decide) (fun b50 => ?_) (fun b50 => ?_)
          · replace h := if_f h b50
            refine lv_aload_n (pc := 56) C.1 C.2.1 dX10_event_56 rfl (lv_at hl 0 rfl) ?_
            refine x_getr (pc := 57) C hP ck_10 0 fl_X10_10 (by decide) rfl kc0 dX10_event_57 ?_
            have k14 : wk LC (rfC c0 0) 9 := wt_f wT_C kc0 0 (by decide) rfl rfl
            refine x_getr (pc := 60) C hP ck_9 2 fl_X10_132 (by decide) rfl k14 dX10_event_60 ?_
            have k15 : wk LC (rfC (rfC c0 0) 2) 0 := wt_f wT_C k14 2 (by decide) rfl rfl
            refine x_geti (pc := 63) C hP ck_0 3 fl_X10_136 (by decide) rfl k15 dX10_event_63 ?_
            refine lv_bipush (pc := 66) (v := 20) C.1 C.2.1 dX10_event_66 (by decide) ?_
            refine lv_icmp_lt (pc := 68) (tgt := 74) C.1 C.2.1 dX10_event_68 (by decide) (fun b68 => ?_) (fun b68 => ?_)
            · replace h := if_t h b68
              refine lv_aload_n (pc := 74) C.1 C.2.1 dX10_event_74 rfl (lv_at hl 0 rfl) ?_
              refine x_getr (pc := 75) C hP ck_10 0 fl_X10_10 (by decide) rfl kc0 dX10_event_75 ?_
              have k16 : wk LC (rfC c0 0) 9 := wt_f wT_C kc0 0 (by decide) rfl rfl
              refine x_getr (pc := 78) C hP ck_9 2 fl_X10_132 (by decide) rfl k16 dX10_event_78 ?_
              have k17 : wk LC (rfC (rfC c0 0) 2) 0 := wt_f wT_C k16 2 (by decide) rfl rfl
              refine lv_iload_n (pc := 81) C.1 C.2.1 dX10_event_81 rfl (lv_at hl 1 rfl) ?_
              refine lv_aload_n (pc := 82) C.1 C.2.1 dX10_event_82 rfl (lv_at hl 0 rfl) ?_
              refine x_getr (pc := 83) C hP ck_10 0 fl_X10_10 (by decide) rfl kc0 dX10_event_83 ?_
              have k18 : wk LC (rfC c0 0) 9 := wt_f wT_C kc0 0 (by decide) rfl rfl
              refine lv_iload_n (pc := 86) C.1 C.2.1 dX10_event_86 rfl (lv_at hl 2 rfl) ?_
              refine lv_iload_n (pc := 87) C.1 C.2.1 dX10_event_87 rfl (lv_at hl 3 rfl) ?_
              obtain ⟨q21, v20, hc19, h⟩ := bi_e h
              refine x_callr (pc := 88) C hP hS mi_X9_shelf ck_9 k18 ml_X10_75 (hR.le (by decide)) (Nat.zero_le _) (Nat.zero_le _) [.int i2, .int i3] rfl hl.1 rfl (Nat.le_of_ble_eq_true rfl) dX10_event_88 (m_X9_shelf hI k18 hc19) (fun H locs hP hS => ?_)
              have k22 : wk LC q21 6 := wr_X9_shelf hc19 k18
              refine x_geti (pc := 91) C hP ck_6 0 fl_X10_141 (by decide) rfl k22 dX10_event_91 ?_
              refine lv_iload (pc := 94) C.1 C.2.1 dX10_event_94 (lv_at hl 4 rfl) ?_
              obtain ⟨v24, hc23, h⟩ := bd_e h
              refine x_callv (pc := 96) C hP hS mi_X0_add ck_0 k17 ml_X10_144 (hR.le (by decide)) (Nat.zero_le _) (Nat.zero_le _) [.int i1, .int (v20 q21 0), .int i4] rfl hl.1 rfl (Nat.le_of_ble_eq_true rfl) dX10_event_96 (m_X0_add hI k17 hc23) (fun H locs hP hS => ?_)
              refine lv_aload_n (pc := 99) C.1 C.2.1 dX10_event_99 rfl (lv_at hl 0 rfl) ?_
              refine x_getr (pc := 100) C hP ck_10 0 fl_X10_10 (by decide) rfl kc0 dX10_event_100 ?_
              have k25 : wk LC (rfC c0 0) 9 := wt_f wT_C kc0 0 (by decide) rfl rfl
              refine x_getr (pc := 103) C hP ck_9 2 fl_X10_132 (by decide) rfl k25 dX10_event_103 ?_
              have k26 : wk LC (rfC (rfC c0 0) 2) 0 := wt_f wT_C k25 2 (by decide) rfl rfl
              refine x_geti (pc := 106) C hP ck_0 3 fl_X10_136 (by decide) rfl k26 dX10_event_106 ?_
              exact x_iret (pc := 109) C hr hlk hP hS h dX10_event_109
            · replace h := if_f h b68
              refine lv_bipush (pc := 71) (v := (-4)) C.1 C.2.1 dX10_event_71 (by decide) ?_
              exact x_iret (pc := 73) C hr hlk hP hS h dX10_event_73
          · replace h := if_t h b50
            refine lv_bipush (pc := 53) (v := (-2)) C.1 C.2.1 dX10_event_53 (by decide) ?_
            exact x_iret (pc := 55) C hr hlk hP hS h dX10_event_55
    · replace h := if_t h b12
      refine lv_iconst (pc := 15) (v := (-1)) C.1 C.2.1 dX10_event_15 (by decide) ?_
      exact x_iret (pc := 16) C hr hlk hP hS h dX10_event_16
set_option maxRecDepth 100000 in
theorem m_X10_event (hI : wI LC ad) {c0 : Nat} {i1 : Int32} {i2 : Int32} {i3 : Int32} {i4 : Int32} {v : VV} {rZ : Int32} {vZ : VV} (kc0 : wk LC c0 10) (h : F_X10_event c0 i1 i2 i3 i4 v = some (rZ, vZ)) : Met l yX10_event (Cond.code yX10_event cX10_event 5 (some .int) :: wsG) (rmL 3) (pcG LC cy ad D [.ref (ad c0), .int i1, .int i2, .int i3, .int i4] v) (qiG LC cy ad D rZ vZ) 0 0 (wA LC ad) := by
  refine Met.ofW (cc := cX10_event) (maxL := 5) (ret := (some .int)) (by decide) rfl ?_
  intro p e s m args below meth c s₁ B hml hv
  obtain ⟨rfl, hP, hK⟩ := hv
  have hts := atoms_spec (ws := Cond.code yX10_event cX10_event 5 (some .int) :: wsG) B.pre
  have hown : s.vm.findClass RX10 = some m.cls := findClass_of_methodNamed B.named
  have C : Cx p s m _ c cX10_event 5 RX10 D cy := ⟨B.exec, B.bytes, hml, hown, fun w hw => hts w (List.mem_cons_of_mem _ hw), hK⟩
  have hl := lv_entry ([.ref (ad c0), .int i1, .int i2, .int i3, .int i4]) (n := 5) (Nat.le_of_ble_eq_true rfl)
  rw [lg_entry_eq]
  generalize (lg_sl ([.ref (ad c0), .int i1, .int i2, .int i3, .int i4]) ++ List.replicate (5 - (lg_sl ([.ref (ad c0), .int i1, .int i2, .int i3, .int i4])).length) Slot.unset).toArray = ls at hl ⊢
  have hl : lv_has ls 5 [(0, .ref (ad c0)), (1, .int i1), (2, .int i2), (3, .int i3), (4, .int i4)] := hl
  exact w_X10_event C hI B.returns B.notSynchronized (RoL_rm _) c0 i1 i2 i3 i4 v _ _ _ kc0 h hP va_S.rf (lv_sub hl [0, 1, 2, 3, 4] rfl)
def f_X10_ship (c0 : Nat) (i1 : Int32) (i2 : Int32) (i3 : Int32) (v : VV) : Option (Int32 × VV) :=
  bi (F_X10_isPort c0 i1 v) fun x3 v2 =>
  if (x3 = 0) then
    some ((-1), v2)
  else
    bi (F_X10_within i2 1 20 v2) fun x6 v5 =>
    if (x6 = 0) then
      some ((-2), v5)
    else
      bi (F_X10_within i3 0 1000000 v5) fun x9 v8 =>
      if (x9 = 0) then
        some ((-2), v8)
      else
        if ((v8 c0 2) < 4) then
          gd (inB (v8 c0 2) (lnC (rfC c0 1)) = true) <|
          nv (wu v8 (rfC (rfC c0 1) (Int32.toNatClampNeg (v8 c0 2))) 0 i1) fun v13 =>
          nv (wu v13 (rfC (rfC c0 1) (Int32.toNatClampNeg (v8 c0 2))) 1 i2) fun v14 =>
          nv (wu v14 (rfC (rfC c0 1) (Int32.toNatClampNeg (v8 c0 2))) 2 i3) fun v15 =>
          nv ((v15 c0 2)) fun x16 =>
          nv (wu v15 c0 2 (x16 + 1)) fun v17 =>
          some (x16, v17)
        else
          some ((-4), v8)
abbrev F_X10_ship (c0 : Nat) (i1 : Int32) (i2 : Int32) (i3 : Int32) (v : VV) : Option (Int32 × VV) := f_X10_ship c0 i1 i2 i3 v
set_option maxHeartbeats 4000000 in
set_option maxRecDepth 100000 in
theorem w_X10_ship (C : Cx p s m args c cX10_ship 5 RX10 D cy) (hI : wI LC ad) (hr : meth.sig.returnType = some .int) (hlk : meth.locks = false) (hR : RoL 3 R) {rZ : Int32} {vZ : VV} : ∀ (c0 : Nat) (i1 : Int32) (i2 : Int32) (i3 : Int32) (v : VV) (H : Heap) (locs : List Loc) (ls : Array Slot), wk LC c0 10 → f_X10_ship c0 i1 i2 i3 v = some (rZ, vZ) → va_P D vwCl (wd LC cy ad v) H → va_S (wA LC ad) s.heap H locs → lv_has ls 5 [(0, .ref (ad c0)), (1, .int i1), (2, .int i2), (3, .int i3)] → W p l e R s m args below meth c H locs 0 0 (MQ below (qiG LC cy ad D rZ vZ) args s 0 0 (wA LC ad)) (F0 m 0 ls []) := by
  intro c0 i1 i2 i3 v H locs ls kc0 h hP hS hl
  unfold f_X10_ship at h
  refine lv_aload_n (pc := 0) C.1 C.2.1 dX10_ship_0 rfl (lv_at hl 0 rfl) ?_
  refine lv_iload_n (pc := 1) C.1 C.2.1 dX10_ship_1 rfl (lv_at hl 1 rfl) ?_
  obtain ⟨x3, v2, hc1, h⟩ := bi_e h
  refine x_calli (pc := 2) C hP hS mi_X10_isPort ck_10 kc0 ml_X10_57 (hR.le (by decide)) (Nat.zero_le _) (Nat.zero_le _) [.int i1] rfl hl.1 rfl (Nat.le_of_ble_eq_true rfl) dX10_ship_2 (m_X10_isPort hI kc0 hc1) (fun H locs hP hS => ?_)
  refine lv_if_ne (pc := 5) (tgt := 10) C.1 C.2.1 dX10_ship_5 (by decide) (fun b5 => ?_) (fun b5 => ?_)
  · replace h := if_f h b5
    refine lv_iload_n (pc := 10) C.1 C.2.1 dX10_ship_10 rfl (lv_at hl 2 rfl) ?_
    refine lv_iconst (pc := 11) (v := 1) C.1 C.2.1 dX10_ship_11 (by decide) ?_
    refine lv_bipush (pc := 12) (v := 20) C.1 C.2.1 dX10_ship_12 (by decide) ?_
    obtain ⟨x6, v5, hc4, h⟩ := bi_e h
    refine x_callsi (pc := 14) C hP hS ms_X10_within ml_X10_64 (hR.le (by decide)) (Nat.zero_le _) (Nat.zero_le _) [.int i2, .int 1, .int 20] rfl hl.1 rfl (Nat.le_of_ble_eq_true rfl) dX10_ship_14 (m_X10_within hI hc4) (fun H locs hP hS => ?_)
    refine lv_if_eq (pc := 17) (tgt := 30) C.1 C.2.1 dX10_ship_17 (by decide) (fun b17 => ?_) (fun b17 => ?_)
    · replace h := if_t h b17
      refine lv_bipush (pc := 30) (v := (-2)) C.1 C.2.1 dX10_ship_30 (by decide) ?_
      exact x_iret (pc := 32) C hr hlk hP hS h dX10_ship_32
    · replace h := if_f h b17
      refine lv_iload_n (pc := 20) C.1 C.2.1 dX10_ship_20 rfl (lv_at hl 3 rfl) ?_
      refine lv_iconst (pc := 21) (v := 0) C.1 C.2.1 dX10_ship_21 (by decide) ?_
      refine lv_ldc (pc := 22) (v := 1000000) C.1 C.2.1 C.2.2.2.1 (C.2.2.2.2.1 _ ct_X10_148) dX10_ship_22 ?_
      obtain ⟨x9, v8, hc7, h⟩ := bi_e h
      refine x_callsi (pc := 24) C hP hS ms_X10_within ml_X10_64 (hR.le (by decide)) (Nat.zero_le _) (Nat.zero_le _) [.int i3, .int 0, .int 1000000] rfl hl.1 rfl (Nat.le_of_ble_eq_true rfl) dX10_ship_24 (m_X10_within hI hc7) (fun H locs hP hS => ?_)
      refine lv_if_ne (pc := 27) (tgt := 33) C.1 C.2.1 dX10_ship_27 (by decide) (fun b27 => ?_) (fun b27 => ?_)
      · replace h := if_f h b27
        refine lv_aload_n (pc := 33) C.1 C.2.1 dX10_ship_33 rfl (lv_at hl 0 rfl) ?_
        refine x_geti (pc := 34) C hP ck_10 2 fl_X10_149 (by decide) rfl kc0 dX10_ship_34 ?_
        refine lv_iconst (pc := 37) (v := 4) C.1 C.2.1 dX10_ship_37 (by decide) ?_
        refine lv_icmp_lt (pc := 38) (tgt := 44) C.1 C.2.1 dX10_ship_38 (by decide) (fun b38 => ?_) (fun b38 => ?_)
        · replace h := if_t h b38
          refine lv_aload_n (pc := 44) C.1 C.2.1 dX10_ship_44 rfl (lv_at hl 0 rfl) ?_
          refine x_getr (pc := 45) C hP ck_10 1 fl_X10_18 (by decide) rfl kc0 dX10_ship_45 ?_
          have k10 : wk LC (rfC c0 1) 16 := wt_f wT_C kc0 1 (by decide) rfl rfl
          refine lv_aload_n (pc := 48) C.1 C.2.1 dX10_ship_48 rfl (lv_at hl 0 rfl) ?_
          refine x_geti (pc := 49) C hP ck_10 2 fl_X10_149 (by decide) rfl kc0 dX10_ship_49 ?_
          obtain ⟨g11, h⟩ := gd_e h
          refine x_aald (pc := 52) C hP k10 (by decide) (by decide) (inB_vp g11) dX10_ship_52 ?_
          have k12 : wk LC (rfC (rfC c0 1) (Int32.toNatClampNeg (v8 c0 2))) 7 := wt_a wT_C k10 (by decide) (inB_vp g11) rfl
          refine lv_astore (pc := 53) (lv' := [(4, .ref (ad (rfC (rfC c0 1) (Int32.toNatClampNeg (v8 c0 2))))), (0, .ref (ad c0)), (1, .int i1), (2, .int i2), (3, .int i3)]) C.1 C.2.1 dX10_ship_53 hl (by decide) rfl (fun ls hl => ?_)
          refine lv_aload (pc := 55) C.1 C.2.1 dX10_ship_55 (lv_at hl 0 rfl) ?_
          refine lv_iload_n (pc := 57) C.1 C.2.1 dX10_ship_57 rfl (lv_at hl 2 rfl) ?_
          refine x_put (pc := 58) C hI hP hS ck_7 0 fl_X10_152 (by decide) rfl rfl k12 rfl rfl dX10_ship_58 (fun H locs hP hS => ?_)
          obtain ⟨v13, h, hP⟩ := nv_p (P := fun z => va_P D vwCl (wd LC cy ad z) H) h hP
          refine lv_aload (pc := 61) C.1 C.2.1 dX10_ship_61 (lv_at hl 0 rfl) ?_
          refine lv_iload_n (pc := 63) C.1 C.2.1 dX10_ship_63 rfl (lv_at hl 3 rfl) ?_
          refine x_put (pc := 64) C hI hP hS ck_7 1 fl_X10_155 (by decide) rfl rfl k12 rfl rfl dX10_ship_64 (fun H locs hP hS => ?_)
          obtain ⟨v14, h, hP⟩ := nv_p (P := fun z => va_P D vwCl (wd LC cy ad z) H) h hP
          refine lv_aload (pc := 67) C.1 C.2.1 dX10_ship_67 (lv_at hl 0 rfl) ?_
          refine lv_iload_n (pc := 69) C.1 C.2.1 dX10_ship_69 rfl (lv_at hl 4 rfl) ?_
          refine x_put (pc := 70) C hI hP hS ck_7 2 fl_X10_158 (by decide) rfl rfl k12 rfl rfl dX10_ship_70 (fun H locs hP hS => ?_)
          obtain ⟨v15, h, hP⟩ := nv_p (P := fun z => va_P D vwCl (wd LC cy ad z) H) h hP
          refine lv_aload_n (pc := 73) C.1 C.2.1 dX10_ship_73 rfl (lv_at hl 1 rfl) ?_
          refine lv_dup (pc := 74) C.1 C.2.1 dX10_ship_74 rfl ?_
          refine x_geti (pc := 75) C hP ck_10 2 fl_X10_149 (by decide) rfl kc0 dX10_ship_75 ?_
          refine lv_topi (fun x16 ex16 => ?_)
          replace h := nv_e h ex16
          clear ex16
          refine lv_dup_x1 (pc := 78) C.1 C.2.1 dX10_ship_78 rfl rfl ?_
          refine lv_iconst (pc := 79) (v := 1) C.1 C.2.1 dX10_ship_79 (by decide) ?_
          refine lv_iadd (pc := 80) C.1 C.2.1 dX10_ship_80 ?_
          refine x_put (pc := 81) C hI hP hS ck_10 2 fl_X10_149 (by decide) rfl rfl kc0 rfl rfl dX10_ship_81 (fun H locs hP hS => ?_)
          obtain ⟨v17, h, hP⟩ := nv_p (P := fun z => va_P D vwCl (wd LC cy ad z) H) h hP
          exact x_iret (pc := 84) C hr hlk hP hS h dX10_ship_84
        · replace h := if_f h b38
          refine lv_bipush (pc := 41) (v := (-4)) C.1 C.2.1 dX10_ship_41 (by decide) ?_
          exact x_iret (pc := 43) C hr hlk hP hS h dX10_ship_43
      · replace h := if_t h b27
        refine lv_bipush (pc := 30) (v := (-2)) C.1 C.2.1 dX10_ship_30 (by decide) ?_
        exact x_iret (pc := 32) C hr hlk hP hS h dX10_ship_32
  · replace h := if_t h b5
    refine lv_iconst (pc := 8) (v := (-1)) C.1 C.2.1 dX10_ship_8 (by decide) ?_
    exact x_iret (pc := 9) C hr hlk hP hS h dX10_ship_9
set_option maxRecDepth 100000 in
theorem m_X10_ship (hI : wI LC ad) {c0 : Nat} {i1 : Int32} {i2 : Int32} {i3 : Int32} {v : VV} {rZ : Int32} {vZ : VV} (kc0 : wk LC c0 10) (h : F_X10_ship c0 i1 i2 i3 v = some (rZ, vZ)) : Met l yX10_ship (Cond.code yX10_ship cX10_ship 5 (some .int) :: wsG) (rmL 3) (pcG LC cy ad D [.ref (ad c0), .int i1, .int i2, .int i3] v) (qiG LC cy ad D rZ vZ) 0 0 (wA LC ad) := by
  refine Met.ofW (cc := cX10_ship) (maxL := 5) (ret := (some .int)) (by decide) rfl ?_
  intro p e s m args below meth c s₁ B hml hv
  obtain ⟨rfl, hP, hK⟩ := hv
  have hts := atoms_spec (ws := Cond.code yX10_ship cX10_ship 5 (some .int) :: wsG) B.pre
  have hown : s.vm.findClass RX10 = some m.cls := findClass_of_methodNamed B.named
  have C : Cx p s m _ c cX10_ship 5 RX10 D cy := ⟨B.exec, B.bytes, hml, hown, fun w hw => hts w (List.mem_cons_of_mem _ hw), hK⟩
  have hl := lv_entry ([.ref (ad c0), .int i1, .int i2, .int i3]) (n := 5) (Nat.le_of_ble_eq_true rfl)
  rw [lg_entry_eq]
  generalize (lg_sl ([.ref (ad c0), .int i1, .int i2, .int i3]) ++ List.replicate (5 - (lg_sl ([.ref (ad c0), .int i1, .int i2, .int i3])).length) Slot.unset).toArray = ls at hl ⊢
  have hl : lv_has ls 5 [(0, .ref (ad c0)), (1, .int i1), (2, .int i2), (3, .int i3)] := hl
  exact w_X10_ship C hI B.returns B.notSynchronized (RoL_rm _) c0 i1 i2 i3 v _ _ _ kc0 h hP va_S.rf (lv_sub hl [0, 1, 2, 3] rfl)
def f_X10_isShip (c0 : Nat) (i1 : Int32) (v : VV) : Option (Int32 × VV) :=
  bi (F_X10_within i1 0 ((v c0 2) - 1) v) fun x3 v2 =>
  gd (x3 &&& 1 = x3) <|
  some (x3, v2)
abbrev F_X10_isShip (c0 : Nat) (i1 : Int32) (v : VV) : Option (Int32 × VV) := f_X10_isShip c0 i1 v
set_option maxHeartbeats 4000000 in
set_option maxRecDepth 100000 in
theorem w_X10_isShip (C : Cx p s m args c cX10_isShip 2 RX10 D cy) (hI : wI LC ad) (hr : meth.sig.returnType = some .boolean) (hlk : meth.locks = false) (hR : RoL 2 R) {rZ : Int32} {vZ : VV} : ∀ (c0 : Nat) (i1 : Int32) (v : VV) (H : Heap) (locs : List Loc) (ls : Array Slot), wk LC c0 10 → f_X10_isShip c0 i1 v = some (rZ, vZ) → va_P D vwCl (wd LC cy ad v) H → va_S (wA LC ad) s.heap H locs → lv_has ls 2 [(0, .ref (ad c0)), (1, .int i1)] → W p l e R s m args below meth c H locs 0 0 (MQ below (qiG LC cy ad D rZ vZ) args s 0 0 (wA LC ad)) (F0 m 0 ls []) := by
  intro c0 i1 v H locs ls kc0 h hP hS hl
  unfold f_X10_isShip at h
  refine lv_iload_n (pc := 0) C.1 C.2.1 dX10_isShip_0 rfl (lv_at hl 1 rfl) ?_
  refine lv_iconst (pc := 1) (v := 0) C.1 C.2.1 dX10_isShip_1 (by decide) ?_
  refine lv_aload_n (pc := 2) C.1 C.2.1 dX10_isShip_2 rfl (lv_at hl 0 rfl) ?_
  refine x_geti (pc := 3) C hP ck_10 2 fl_X10_149 (by decide) rfl kc0 dX10_isShip_3 ?_
  refine lv_iconst (pc := 6) (v := 1) C.1 C.2.1 dX10_isShip_6 (by decide) ?_
  refine lv_isub (pc := 7) C.1 C.2.1 dX10_isShip_7 ?_
  obtain ⟨x3, v2, hc1, h⟩ := bi_e h
  refine x_callsi (pc := 8) C hP hS ms_X10_within ml_X10_64 (hR.le (by decide)) (Nat.zero_le _) (Nat.zero_le _) [.int i1, .int 0, .int ((v c0 2) - 1)] rfl hl.1 rfl (Nat.le_of_ble_eq_true rfl) dX10_isShip_8 (m_X10_within hI hc1) (fun H locs hP hS => ?_)
  obtain ⟨g4, h⟩ := gd_e h
  exact x_zret (pc := 11) C hr hlk hP hS g4 h dX10_isShip_11
set_option maxRecDepth 100000 in
theorem m_X10_isShip (hI : wI LC ad) {c0 : Nat} {i1 : Int32} {v : VV} {rZ : Int32} {vZ : VV} (kc0 : wk LC c0 10) (h : F_X10_isShip c0 i1 v = some (rZ, vZ)) : Met l yX10_isShip (Cond.code yX10_isShip cX10_isShip 2 (some .boolean) :: wsG) (rmL 2) (pcG LC cy ad D [.ref (ad c0), .int i1] v) (qiG LC cy ad D rZ vZ) 0 0 (wA LC ad) := by
  refine Met.ofW (cc := cX10_isShip) (maxL := 2) (ret := (some .boolean)) (by decide) rfl ?_
  intro p e s m args below meth c s₁ B hml hv
  obtain ⟨rfl, hP, hK⟩ := hv
  have hts := atoms_spec (ws := Cond.code yX10_isShip cX10_isShip 2 (some .boolean) :: wsG) B.pre
  have hown : s.vm.findClass RX10 = some m.cls := findClass_of_methodNamed B.named
  have C : Cx p s m _ c cX10_isShip 2 RX10 D cy := ⟨B.exec, B.bytes, hml, hown, fun w hw => hts w (List.mem_cons_of_mem _ hw), hK⟩
  have hl := lv_entry ([.ref (ad c0), .int i1]) (n := 2) (Nat.le_of_ble_eq_true rfl)
  rw [lg_entry_eq]
  generalize (lg_sl ([.ref (ad c0), .int i1]) ++ List.replicate (2 - (lg_sl ([.ref (ad c0), .int i1])).length) Slot.unset).toArray = ls at hl ⊢
  have hl : lv_has ls 2 [(0, .ref (ad c0)), (1, .int i1)] := hl
  exact w_X10_isShip C hI B.returns B.notSynchronized (RoL_rm _) c0 i1 v _ _ _ kc0 h hP va_S.rf (lv_sub hl [0, 1] rfl)
def f_X10_refusalOfDeal (c0 : Nat) (i1 : Int32) (i2 : Int32) (i3 : Int32) (v : VV) : Option (Int32 × VV) :=
  bi (F_X10_isShip c0 i1 v) fun x3 v2 =>
  if (x3 = 0) then
    some ((-1), v2)
  else
    bi (F_X10_isGood i2 v2) fun x6 v5 =>
    if (x6 = 0) then
      some ((-1), v5)
    else
      bi (F_X10_within i3 1 20 v5) fun x9 v8 =>
      if (x9 = 0) then
        some ((-2), v8)
      else
        gd (inB i1 (lnC (rfC c0 1)) = true) <|
        gd (inB (v8 (rfC (rfC c0 1) (Int32.toNatClampNeg i1)) 0) (lnC (rfC (rfC c0 0) 0)) = true) <|
        if ((v8 (rfC (rfC (rfC c0 0) 0) (Int32.toNatClampNeg (v8 (rfC (rfC c0 1) (Int32.toNatClampNeg i1)) 0))) 4) = 0) then
          some (0, v8)
        else
          some ((-5), v8)
abbrev F_X10_refusalOfDeal (c0 : Nat) (i1 : Int32) (i2 : Int32) (i3 : Int32) (v : VV) : Option (Int32 × VV) := f_X10_refusalOfDeal c0 i1 i2 i3 v
set_option maxHeartbeats 4000000 in
set_option maxRecDepth 100000 in
theorem w_X10_refusalOfDeal (C : Cx p s m args c cX10_refusalOfDeal 4 RX10 D cy) (hI : wI LC ad) (hr : meth.sig.returnType = some .int) (hlk : meth.locks = false) (hR : RoL 3 R) {rZ : Int32} {vZ : VV} : ∀ (c0 : Nat) (i1 : Int32) (i2 : Int32) (i3 : Int32) (v : VV) (H : Heap) (locs : List Loc) (ls : Array Slot), wk LC c0 10 → f_X10_refusalOfDeal c0 i1 i2 i3 v = some (rZ, vZ) → va_P D vwCl (wd LC cy ad v) H → va_S (wA LC ad) s.heap H locs → lv_has ls 4 [(0, .ref (ad c0)), (1, .int i1), (2, .int i2), (3, .int i3)] → W p l e R s m args below meth c H locs 0 0 (MQ below (qiG LC cy ad D rZ vZ) args s 0 0 (wA LC ad)) (F0 m 0 ls []) := by
  intro c0 i1 i2 i3 v H locs ls kc0 h hP hS hl
  unfold f_X10_refusalOfDeal at h
  refine lv_aload_n (pc := 0) C.1 C.2.1 dX10_refusalOfDeal_0 rfl (lv_at hl 0 rfl) ?_
  refine lv_iload_n (pc := 1) C.1 C.2.1 dX10_refusalOfDeal_1 rfl (lv_at hl 1 rfl) ?_
  obtain ⟨x3, v2, hc1, h⟩ := bi_e h
  refine x_calli (pc := 2) C hP hS mi_X10_isShip ck_10 kc0 ml_X10_202 (hR.le (by decide)) (Nat.zero_le _) (Nat.zero_le _) [.int i1] rfl hl.1 rfl (Nat.le_of_ble_eq_true rfl) dX10_refusalOfDeal_2 (m_X10_isShip hI kc0 hc1) (fun H locs hP hS => ?_)
  refine lv_if_eq (pc := 5) (tgt := 15) C.1 C.2.1 dX10_refusalOfDeal_5 (by decide) (fun b5 => ?_) (fun b5 => ?_)
  · replace h := if_t h b5
    refine lv_iconst (pc := 15) (v := (-1)) C.1 C.2.1 dX10_refusalOfDeal_15 (by decide) ?_
    exact x_iret (pc := 16) C hr hlk hP hS h dX10_refusalOfDeal_16
  · replace h := if_f h b5
    refine lv_iload_n (pc := 8) C.1 C.2.1 dX10_refusalOfDeal_8 rfl (lv_at hl 2 rfl) ?_
    obtain ⟨x6, v5, hc4, h⟩ := bi_e h
    refine x_callsi (pc := 9) C hP hS ms_X10_isGood ml_X10_61 (hR.le (by decide)) (Nat.zero_le _) (Nat.zero_le _) [.int i2] rfl hl.1 rfl (Nat.le_of_ble_eq_true rfl) dX10_refusalOfDeal_9 (m_X10_isGood hI hc4) (fun H locs hP hS => ?_)
    refine lv_if_ne (pc := 12) (tgt := 17) C.1 C.2.1 dX10_refusalOfDeal_12 (by decide) (fun b12 => ?_) (fun b12 => ?_)
    · replace h := if_f h b12
      refine lv_iload_n (pc := 17) C.1 C.2.1 dX10_refusalOfDeal_17 rfl (lv_at hl 3 rfl) ?_
      refine lv_iconst (pc := 18) (v := 1) C.1 C.2.1 dX10_refusalOfDeal_18 (by decide) ?_
      refine lv_bipush (pc := 19) (v := 20) C.1 C.2.1 dX10_refusalOfDeal_19 (by decide) ?_
      obtain ⟨x9, v8, hc7, h⟩ := bi_e h
      refine x_callsi (pc := 21) C hP hS ms_X10_within ml_X10_64 (hR.le (by decide)) (Nat.zero_le _) (Nat.zero_le _) [.int i3, .int 1, .int 20] rfl hl.1 rfl (Nat.le_of_ble_eq_true rfl) dX10_refusalOfDeal_21 (m_X10_within hI hc7) (fun H locs hP hS => ?_)
      refine lv_if_ne (pc := 24) (tgt := 30) C.1 C.2.1 dX10_refusalOfDeal_24 (by decide) (fun b24 => ?_) (fun b24 => ?_)
      · replace h := if_f h b24
        refine lv_aload_n (pc := 30) C.1 C.2.1 dX10_refusalOfDeal_30 rfl (lv_at hl 0 rfl) ?_
        refine x_getr (pc := 31) C hP ck_10 0 fl_X10_10 (by decide) rfl kc0 dX10_refusalOfDeal_31 ?_
        have k10 : wk LC (rfC c0 0) 9 := wt_f wT_C kc0 0 (by decide) rfl rfl
        refine x_getr (pc := 34) C hP ck_9 0 fl_X10_92 (by decide) rfl k10 dX10_refusalOfDeal_34 ?_
        have k11 : wk LC (rfC (rfC c0 0) 0) 14 := wt_f wT_C k10 0 (by decide) rfl rfl
        refine lv_aload_n (pc := 37) C.1 C.2.1 dX10_refusalOfDeal_37 rfl (lv_at hl 0 rfl) ?_
        refine x_getr (pc := 38) C hP ck_10 1 fl_X10_18 (by decide) rfl kc0 dX10_refusalOfDeal_38 ?_
        have k12 : wk LC (rfC c0 1) 16 := wt_f wT_C kc0 1 (by decide) rfl rfl
        refine lv_iload_n (pc := 41) C.1 C.2.1 dX10_refusalOfDeal_41 rfl (lv_at hl 1 rfl) ?_
        obtain ⟨g13, h⟩ := gd_e h
        refine x_aald (pc := 42) C hP k12 (by decide) (by decide) (inB_vp g13) dX10_refusalOfDeal_42 ?_
        have k14 : wk LC (rfC (rfC c0 1) (Int32.toNatClampNeg i1)) 7 := wt_a wT_C k12 (by decide) (inB_vp g13) rfl
        refine x_geti (pc := 43) C hP ck_7 0 fl_X10_152 (by decide) rfl k14 dX10_refusalOfDeal_43 ?_
        obtain ⟨g15, h⟩ := gd_e h
        refine x_aald (pc := 46) C hP k11 (by decide) (by decide) (inB_vp g15) dX10_refusalOfDeal_46 ?_
        have k16 : wk LC (rfC (rfC (rfC c0 0) 0) (Int32.toNatClampNeg (v8 (rfC (rfC c0 1) (Int32.toNatClampNeg i1)) 0))) 4 := wt_a wT_C k11 (by decide) (inB_vp g15) rfl
        refine x_geti (pc := 47) C hP ck_4 4 fl_X10_101 (by decide) rfl k16 dX10_refusalOfDeal_47 ?_
        refine lv_if_eq (pc := 50) (tgt := 58) C.1 C.2.1 dX10_refusalOfDeal_50 (by decide) (fun b50 => ?_) (fun b50 => ?_)
        · replace h := if_t h b50
          refine lv_iconst (pc := 58) (v := 0) C.1 C.2.1 dX10_refusalOfDeal_58 (by decide) ?_
          exact x_iret (pc := 59) C hr hlk hP hS h dX10_refusalOfDeal_59
        · replace h := if_f h b50
          refine lv_bipush (pc := 53) (v := (-5)) C.1 C.2.1 dX10_refusalOfDeal_53 (by decide) ?_
          refine lv_goto (pc := 55) (tgt := 59) C.1 C.2.1 dX10_refusalOfDeal_55 (by decide) ?_
          exact x_iret (pc := 59) C hr hlk hP hS h dX10_refusalOfDeal_59
      · replace h := if_t h b24
        refine lv_bipush (pc := 27) (v := (-2)) C.1 C.2.1 dX10_refusalOfDeal_27 (by decide) ?_
        exact x_iret (pc := 29) C hr hlk hP hS h dX10_refusalOfDeal_29
    · replace h := if_t h b12
      refine lv_iconst (pc := 15) (v := (-1)) C.1 C.2.1 dX10_refusalOfDeal_15 (by decide) ?_
      exact x_iret (pc := 16) C hr hlk hP hS h dX10_refusalOfDeal_16
set_option maxRecDepth 100000 in
theorem m_X10_refusalOfDeal (hI : wI LC ad) {c0 : Nat} {i1 : Int32} {i2 : Int32} {i3 : Int32} {v : VV} {rZ : Int32} {vZ : VV} (kc0 : wk LC c0 10) (h : F_X10_refusalOfDeal c0 i1 i2 i3 v = some (rZ, vZ)) : Met l yX10_refusalOfDeal (Cond.code yX10_refusalOfDeal cX10_refusalOfDeal 4 (some .int) :: wsG) (rmL 3) (pcG LC cy ad D [.ref (ad c0), .int i1, .int i2, .int i3] v) (qiG LC cy ad D rZ vZ) 0 0 (wA LC ad) := by
  refine Met.ofW (cc := cX10_refusalOfDeal) (maxL := 4) (ret := (some .int)) (by decide) rfl ?_
  intro p e s m args below meth c s₁ B hml hv
  obtain ⟨rfl, hP, hK⟩ := hv
  have hts := atoms_spec (ws := Cond.code yX10_refusalOfDeal cX10_refusalOfDeal 4 (some .int) :: wsG) B.pre
  have hown : s.vm.findClass RX10 = some m.cls := findClass_of_methodNamed B.named
  have C : Cx p s m _ c cX10_refusalOfDeal 4 RX10 D cy := ⟨B.exec, B.bytes, hml, hown, fun w hw => hts w (List.mem_cons_of_mem _ hw), hK⟩
  have hl := lv_entry ([.ref (ad c0), .int i1, .int i2, .int i3]) (n := 4) (Nat.le_of_ble_eq_true rfl)
  rw [lg_entry_eq]
  generalize (lg_sl ([.ref (ad c0), .int i1, .int i2, .int i3]) ++ List.replicate (4 - (lg_sl ([.ref (ad c0), .int i1, .int i2, .int i3])).length) Slot.unset).toArray = ls at hl ⊢
  have hl : lv_has ls 4 [(0, .ref (ad c0)), (1, .int i1), (2, .int i2), (3, .int i3)] := hl
  exact w_X10_refusalOfDeal C hI B.returns B.notSynchronized (RoL_rm _) c0 i1 i2 i3 v _ _ _ kc0 h hP va_S.rf (lv_sub hl [0, 1, 2, 3] rfl)
end
