section
variable {p : Program} {l : Launch} {e : Env} {R : Room} {s : State} {m : MethodId} {args : Array Value} {below : List Frame} {meth : Method} {c : Code} {D : va_G} {cy : Nat → ClassId} {ad : Nat → Nat}
def f_X10_port (c0 : Nat) (v : VV) : Option (Int32 × VV) :=
  if ((v (rfC c0 0) 3) < 6) then
    nv ((v (rfC c0 0) 3)) fun x3 =>
    nv (wu v (rfC c0 0) 3 (x3 + 1)) fun v4 =>
    some (x3, v4)
  else
    some ((-4), v)
abbrev F_X10_port (c0 : Nat) (v : VV) : Option (Int32 × VV) := f_X10_port c0 v
set_option maxHeartbeats 4000000 in
set_option maxRecDepth 100000 in
theorem w_X10_port (C : Cx p s m args c cX10_port 1 RX10 D cy) (hI : wI LC ad) (hr : meth.sig.returnType = some .int) (hlk : meth.locks = false) (hR : RoL 1 R) {rZ : Int32} {vZ : VV} : ∀ (c0 : Nat) (v : VV) (H : Heap) (locs : List Loc) (ls : Array Slot), wk LC c0 10 → f_X10_port c0 v = some (rZ, vZ) → va_P D vwCl (wd LC cy ad v) H → va_S (wA LC ad) s.heap H locs → lv_has ls 1 [(0, .ref (ad c0))] → W p l e R s m args below meth c H locs 0 0 (MQ below (qiG LC cy ad D rZ vZ) args s 0 0 (wA LC ad)) (F0 m 0 ls []) := by
  intro c0 v H locs ls kc0 h hP hS hl
  unfold f_X10_port at h
  refine lv_aload_n (pc := 0) C.1 C.2.1 dX10_port_0 rfl (lv_at hl 0 rfl) ?_
  refine x_getr (pc := 1) C hP ck_10 0 fl_X10_10 (by decide) rfl kc0 dX10_port_1 ?_
  have k1 : wk LC (rfC c0 0) 9 := wt_f wT_C kc0 0 (by decide) rfl rfl
  refine x_geti (pc := 4) C hP ck_9 3 fl_X10_53 (by decide) rfl k1 dX10_port_4 ?_
  refine lv_bipush (pc := 7) (v := 6) C.1 C.2.1 dX10_port_7 (by decide) ?_
  refine lv_icmp_lt (pc := 9) (tgt := 15) C.1 C.2.1 dX10_port_9 (by decide) (fun b9 => ?_) (fun b9 => ?_)
  · replace h := if_t h b9
    refine lv_aload_n (pc := 15) C.1 C.2.1 dX10_port_15 rfl (lv_at hl 0 rfl) ?_
    refine x_getr (pc := 16) C hP ck_10 0 fl_X10_10 (by decide) rfl kc0 dX10_port_16 ?_
    have k2 : wk LC (rfC c0 0) 9 := wt_f wT_C kc0 0 (by decide) rfl rfl
    refine lv_dup (pc := 19) C.1 C.2.1 dX10_port_19 rfl ?_
    refine x_geti (pc := 20) C hP ck_9 3 fl_X10_53 (by decide) rfl k2 dX10_port_20 ?_
    refine lv_topi (fun x3 ex3 => ?_)
    replace h := nv_e h ex3
    clear ex3
    refine lv_dup_x1 (pc := 23) C.1 C.2.1 dX10_port_23 rfl rfl ?_
    refine lv_iconst (pc := 24) (v := 1) C.1 C.2.1 dX10_port_24 (by decide) ?_
    refine lv_iadd (pc := 25) C.1 C.2.1 dX10_port_25 ?_
    refine x_put (pc := 26) C hI hP hS ck_9 3 fl_X10_53 (by decide) rfl rfl k2 rfl rfl dX10_port_26 (fun H locs hP hS => ?_)
    obtain ⟨v4, h, hP⟩ := nv_p (P := fun z => va_P D vwCl (wd LC cy ad z) H) h hP
    exact x_iret (pc := 29) C hr hlk hP hS h dX10_port_29
  · replace h := if_f h b9
    refine lv_bipush (pc := 12) (v := (-4)) C.1 C.2.1 dX10_port_12 (by decide) ?_
    exact x_iret (pc := 14) C hr hlk hP hS h dX10_port_14
set_option maxRecDepth 100000 in
theorem m_X10_port (hI : wI LC ad) {c0 : Nat} {v : VV} {rZ : Int32} {vZ : VV} (kc0 : wk LC c0 10) (h : F_X10_port c0 v = some (rZ, vZ)) : Met l yX10_port (Cond.code yX10_port cX10_port 1 (some .int) :: wsG) (rmL 1) (pcG LC cy ad D [.ref (ad c0)] v) (qiG LC cy ad D rZ vZ) 0 0 (wA LC ad) := by
  refine Met.ofW (cc := cX10_port) (maxL := 1) (ret := (some .int)) (by decide) rfl ?_
  intro p e s m args below meth c s₁ B hml hv
  obtain ⟨rfl, hP, hK⟩ := hv
  have hts := atoms_spec (ws := Cond.code yX10_port cX10_port 1 (some .int) :: wsG) B.pre
  have hown : s.vm.findClass RX10 = some m.cls := findClass_of_methodNamed B.named
  have C : Cx p s m _ c cX10_port 1 RX10 D cy := ⟨B.exec, B.bytes, hml, hown, fun w hw => hts w (List.mem_cons_of_mem _ hw), hK⟩
  have hl := lv_entry ([.ref (ad c0)]) (n := 1) (Nat.le_of_ble_eq_true rfl)
  rw [lg_entry_eq]
  generalize (lg_sl ([.ref (ad c0)]) ++ List.replicate (1 - (lg_sl ([.ref (ad c0)])).length) Slot.unset).toArray = ls at hl ⊢
  have hl : lv_has ls 1 [(0, .ref (ad c0))] := hl
  exact w_X10_port C hI B.returns B.notSynchronized (RoL_rm _) c0 v _ _ _ kc0 h hP va_S.rf (lv_sub hl [0] rfl)
def f_X10_within (i0 : Int32) (i1 : Int32) (i2 : Int32) (v : VV) : Option (Int32 × VV) :=
  if (i0 < i1) then
    some (0, v)
  else
    if (i2 < i0) then
      some (0, v)
    else
      some (1, v)
abbrev F_X10_within (i0 : Int32) (i1 : Int32) (i2 : Int32) (v : VV) : Option (Int32 × VV) := f_X10_within i0 i1 i2 v
set_option maxHeartbeats 4000000 in
set_option maxRecDepth 100000 in
theorem w_X10_within (C : Cx p s m args c cX10_within 3 RX10 D cy) (hI : wI LC ad) (hr : meth.sig.returnType = some .boolean) (hlk : meth.locks = false) (hR : RoL 1 R) {rZ : Int32} {vZ : VV} : ∀ (i0 : Int32) (i1 : Int32) (i2 : Int32) (v : VV) (H : Heap) (locs : List Loc) (ls : Array Slot), f_X10_within i0 i1 i2 v = some (rZ, vZ) → va_P D vwCl (wd LC cy ad v) H → va_S (wA LC ad) s.heap H locs → lv_has ls 3 [(0, .int i0), (1, .int i1), (2, .int i2)] → W p l e R s m args below meth c H locs 0 0 (MQ below (qiG LC cy ad D rZ vZ) args s 0 0 (wA LC ad)) (F0 m 0 ls []) := by
  intro i0 i1 i2 v H locs ls h hP hS hl
  unfold f_X10_within at h
  refine lv_iload_n (pc := 0) C.1 C.2.1 dX10_within_0 rfl (lv_at hl 0 rfl) ?_
  refine lv_iload_n (pc := 1) C.1 C.2.1 dX10_within_1 rfl (lv_at hl 1 rfl) ?_
  refine lv_icmp_lt (pc := 2) (tgt := 14) C.1 C.2.1 dX10_within_2 (by decide) (fun b2 => ?_) (fun b2 => ?_)
  · replace h := if_t h b2
    refine lv_iconst (pc := 14) (v := 0) C.1 C.2.1 dX10_within_14 (by decide) ?_
    exact x_zret (pc := 15) C hr hlk hP hS (by decide) h dX10_within_15
  · replace h := if_f h b2
    refine lv_iload_n (pc := 5) C.1 C.2.1 dX10_within_5 rfl (lv_at hl 0 rfl) ?_
    refine lv_iload_n (pc := 6) C.1 C.2.1 dX10_within_6 rfl (lv_at hl 2 rfl) ?_
    refine lv_icmp_gt (pc := 7) (tgt := 14) C.1 C.2.1 dX10_within_7 (by decide) (fun b7 => ?_) (fun b7 => ?_)
    · replace h := if_t h b7
      refine lv_iconst (pc := 14) (v := 0) C.1 C.2.1 dX10_within_14 (by decide) ?_
      exact x_zret (pc := 15) C hr hlk hP hS (by decide) h dX10_within_15
    · replace h := if_f h b7
      refine lv_iconst (pc := 10) (v := 1) C.1 C.2.1 dX10_within_10 (by decide) ?_
      refine lv_goto (pc := 11) (tgt := 15) C.1 C.2.1 dX10_within_11 (by decide) ?_
      exact x_zret (pc := 15) C hr hlk hP hS (by decide) h dX10_within_15
set_option maxRecDepth 100000 in
theorem m_X10_within (hI : wI LC ad) {i0 : Int32} {i1 : Int32} {i2 : Int32} {v : VV} {rZ : Int32} {vZ : VV} (h : F_X10_within i0 i1 i2 v = some (rZ, vZ)) : Met l yX10_within (Cond.code yX10_within cX10_within 3 (some .boolean) :: wsG) (rmL 1) (pcG LC cy ad D [.int i0, .int i1, .int i2] v) (qiG LC cy ad D rZ vZ) 0 0 (wA LC ad) := by
  refine Met.ofW (cc := cX10_within) (maxL := 3) (ret := (some .boolean)) (by decide) rfl ?_
  intro p e s m args below meth c s₁ B hml hv
  obtain ⟨rfl, hP, hK⟩ := hv
  have hts := atoms_spec (ws := Cond.code yX10_within cX10_within 3 (some .boolean) :: wsG) B.pre
  have hown : s.vm.findClass RX10 = some m.cls := findClass_of_methodNamed B.named
  have C : Cx p s m _ c cX10_within 3 RX10 D cy := ⟨B.exec, B.bytes, hml, hown, fun w hw => hts w (List.mem_cons_of_mem _ hw), hK⟩
  have hl := lv_entry ([.int i0, .int i1, .int i2]) (n := 3) (Nat.le_of_ble_eq_true rfl)
  rw [lg_entry_eq]
  generalize (lg_sl ([.int i0, .int i1, .int i2]) ++ List.replicate (3 - (lg_sl ([.int i0, .int i1, .int i2])).length) Slot.unset).toArray = ls at hl ⊢
  have hl : lv_has ls 3 [(0, .int i0), (1, .int i1), (2, .int i2)] := hl
  exact w_X10_within C hI B.returns B.notSynchronized (RoL_rm _) i0 i1 i2 v _ _ _ h hP va_S.rf (lv_sub hl [0, 1, 2] rfl)
def f_X10_isPort (c0 : Nat) (i1 : Int32) (v : VV) : Option (Int32 × VV) :=
  bi (F_X10_within i1 0 ((v (rfC c0 0) 3) - 1) v) fun x4 v3 =>
  gd (x4 &&& 1 = x4) <|
  some (x4, v3)
abbrev F_X10_isPort (c0 : Nat) (i1 : Int32) (v : VV) : Option (Int32 × VV) := f_X10_isPort c0 i1 v
set_option maxHeartbeats 4000000 in
set_option maxRecDepth 100000 in
theorem w_X10_isPort (C : Cx p s m args c cX10_isPort 2 RX10 D cy) (hI : wI LC ad) (hr : meth.sig.returnType = some .boolean) (hlk : meth.locks = false) (hR : RoL 2 R) {rZ : Int32} {vZ : VV} : ∀ (c0 : Nat) (i1 : Int32) (v : VV) (H : Heap) (locs : List Loc) (ls : Array Slot), wk LC c0 10 → f_X10_isPort c0 i1 v = some (rZ, vZ) → va_P D vwCl (wd LC cy ad v) H → va_S (wA LC ad) s.heap H locs → lv_has ls 2 [(0, .ref (ad c0)), (1, .int i1)] → W p l e R s m args below meth c H locs 0 0 (MQ below (qiG LC cy ad D rZ vZ) args s 0 0 (wA LC ad)) (F0 m 0 ls []) := by
  intro c0 i1 v H locs ls kc0 h hP hS hl
  unfold f_X10_isPort at h
  refine lv_iload_n (pc := 0) C.1 C.2.1 dX10_isPort_0 rfl (lv_at hl 1 rfl) ?_
  refine lv_iconst (pc := 1) (v := 0) C.1 C.2.1 dX10_isPort_1 (by decide) ?_
  refine lv_aload_n (pc := 2) C.1 C.2.1 dX10_isPort_2 rfl (lv_at hl 0 rfl) ?_
  refine x_getr (pc := 3) C hP ck_10 0 fl_X10_10 (by decide) rfl kc0 dX10_isPort_3 ?_
  have k1 : wk LC (rfC c0 0) 9 := wt_f wT_C kc0 0 (by decide) rfl rfl
  refine x_geti (pc := 6) C hP ck_9 3 fl_X10_53 (by decide) rfl k1 dX10_isPort_6 ?_
  refine lv_iconst (pc := 9) (v := 1) C.1 C.2.1 dX10_isPort_9 (by decide) ?_
  refine lv_isub (pc := 10) C.1 C.2.1 dX10_isPort_10 ?_
  obtain ⟨x4, v3, hc2, h⟩ := bi_e h
  refine x_callsi (pc := 11) C hP hS ms_X10_within ml_X10_64 (hR.le (by decide)) (Nat.zero_le _) (Nat.zero_le _) [.int i1, .int 0, .int ((v (rfC c0 0) 3) - 1)] rfl hl.1 rfl (Nat.le_of_ble_eq_true rfl) dX10_isPort_11 (m_X10_within hI hc2) (fun H locs hP hS => ?_)
  obtain ⟨g5, h⟩ := gd_e h
  exact x_zret (pc := 14) C hr hlk hP hS g5 h dX10_isPort_14
set_option maxRecDepth 100000 in
theorem m_X10_isPort (hI : wI LC ad) {c0 : Nat} {i1 : Int32} {v : VV} {rZ : Int32} {vZ : VV} (kc0 : wk LC c0 10) (h : F_X10_isPort c0 i1 v = some (rZ, vZ)) : Met l yX10_isPort (Cond.code yX10_isPort cX10_isPort 2 (some .boolean) :: wsG) (rmL 2) (pcG LC cy ad D [.ref (ad c0), .int i1] v) (qiG LC cy ad D rZ vZ) 0 0 (wA LC ad) := by
  refine Met.ofW (cc := cX10_isPort) (maxL := 2) (ret := (some .boolean)) (by decide) rfl ?_
  intro p e s m args below meth c s₁ B hml hv
  obtain ⟨rfl, hP, hK⟩ := hv
  have hts := atoms_spec (ws := Cond.code yX10_isPort cX10_isPort 2 (some .boolean) :: wsG) B.pre
  have hown : s.vm.findClass RX10 = some m.cls := findClass_of_methodNamed B.named
  have C : Cx p s m _ c cX10_isPort 2 RX10 D cy := ⟨B.exec, B.bytes, hml, hown, fun w hw => hts w (List.mem_cons_of_mem _ hw), hK⟩
  have hl := lv_entry ([.ref (ad c0), .int i1]) (n := 2) (Nat.le_of_ble_eq_true rfl)
  rw [lg_entry_eq]
  generalize (lg_sl ([.ref (ad c0), .int i1]) ++ List.replicate (2 - (lg_sl ([.ref (ad c0), .int i1])).length) Slot.unset).toArray = ls at hl ⊢
  have hl : lv_has ls 2 [(0, .ref (ad c0)), (1, .int i1)] := hl
  exact w_X10_isPort C hI B.returns B.notSynchronized (RoL_rm _) c0 i1 v _ _ _ kc0 h hP va_S.rf (lv_sub hl [0, 1] rfl)
def f_X10_isGood (i0 : Int32) (v : VV) : Option (Int32 × VV) :=
  bi (F_X10_within i0 0 2 v) fun x3 v2 =>
  gd (x3 &&& 1 = x3) <|
  some (x3, v2)
abbrev F_X10_isGood (i0 : Int32) (v : VV) : Option (Int32 × VV) := f_X10_isGood i0 v
set_option maxHeartbeats 4000000 in
set_option maxRecDepth 100000 in
theorem w_X10_isGood (C : Cx p s m args c cX10_isGood 1 RX10 D cy) (hI : wI LC ad) (hr : meth.sig.returnType = some .boolean) (hlk : meth.locks = false) (hR : RoL 2 R) {rZ : Int32} {vZ : VV} : ∀ (i0 : Int32) (v : VV) (H : Heap) (locs : List Loc) (ls : Array Slot), f_X10_isGood i0 v = some (rZ, vZ) → va_P D vwCl (wd LC cy ad v) H → va_S (wA LC ad) s.heap H locs → lv_has ls 1 [(0, .int i0)] → W p l e R s m args below meth c H locs 0 0 (MQ below (qiG LC cy ad D rZ vZ) args s 0 0 (wA LC ad)) (F0 m 0 ls []) := by
  intro i0 v H locs ls h hP hS hl
  unfold f_X10_isGood at h
  refine lv_iload_n (pc := 0) C.1 C.2.1 dX10_isGood_0 rfl (lv_at hl 0 rfl) ?_
  refine lv_iconst (pc := 1) (v := 0) C.1 C.2.1 dX10_isGood_1 (by decide) ?_
  refine lv_iconst (pc := 2) (v := 2) C.1 C.2.1 dX10_isGood_2 (by decide) ?_
  obtain ⟨x3, v2, hc1, h⟩ := bi_e h
  refine x_callsi (pc := 3) C hP hS ms_X10_within ml_X10_64 (hR.le (by decide)) (Nat.zero_le _) (Nat.zero_le _) [.int i0, .int 0, .int 2] rfl hl.1 rfl (Nat.le_of_ble_eq_true rfl) dX10_isGood_3 (m_X10_within hI hc1) (fun H locs hP hS => ?_)
  obtain ⟨g4, h⟩ := gd_e h
  exact x_zret (pc := 6) C hr hlk hP hS g4 h dX10_isGood_6
set_option maxRecDepth 100000 in
theorem m_X10_isGood (hI : wI LC ad) {i0 : Int32} {v : VV} {rZ : Int32} {vZ : VV} (h : F_X10_isGood i0 v = some (rZ, vZ)) : Met l yX10_isGood (Cond.code yX10_isGood cX10_isGood 1 (some .boolean) :: wsG) (rmL 2) (pcG LC cy ad D [.int i0] v) (qiG LC cy ad D rZ vZ) 0 0 (wA LC ad) := by
  refine Met.ofW (cc := cX10_isGood) (maxL := 1) (ret := (some .boolean)) (by decide) rfl ?_
  intro p e s m args below meth c s₁ B hml hv
  obtain ⟨rfl, hP, hK⟩ := hv
  have hts := atoms_spec (ws := Cond.code yX10_isGood cX10_isGood 1 (some .boolean) :: wsG) B.pre
  have hown : s.vm.findClass RX10 = some m.cls := findClass_of_methodNamed B.named
  have C : Cx p s m _ c cX10_isGood 1 RX10 D cy := ⟨B.exec, B.bytes, hml, hown, fun w hw => hts w (List.mem_cons_of_mem _ hw), hK⟩
  have hl := lv_entry ([.int i0]) (n := 1) (Nat.le_of_ble_eq_true rfl)
  rw [lg_entry_eq]
  generalize (lg_sl ([.int i0]) ++ List.replicate (1 - (lg_sl ([.int i0])).length) Slot.unset).toArray = ls at hl ⊢
  have hl : lv_has ls 1 [(0, .int i0)] := hl
  exact w_X10_isGood C hI B.returns B.notSynchronized (RoL_rm _) i0 v _ _ _ h hP va_S.rf (lv_sub hl [0] rfl)
def f_X10_about (c0 : Nat) (i1 : Int32) (i2 : Int32) (i3 : Int32) (v : VV) : Option (Int32 × VV) :=
  bi (F_X10_isPort c0 i1 v) fun x3 v2 =>
  if (x3 = 0) then
    some ((-1), v2)
  else
    bi (F_X10_isGood i2 v2) fun x6 v5 =>
    if (x6 = 0) then
      some ((-1), v5)
    else
      bi (F_X10_within i3 0 6 v5) fun x9 v8 =>
      if (x9 = 0) then
        some ((-2), v8)
      else
        bi (F_X9_shelf (rfC c0 0) i1 i2 v8) fun q13 v12 =>
        bi (F_X6_number q13 i3 v12) fun x17 v16 =>
        some (x17, v16)
abbrev F_X10_about (c0 : Nat) (i1 : Int32) (i2 : Int32) (i3 : Int32) (v : VV) : Option (Int32 × VV) := f_X10_about c0 i1 i2 i3 v
set_option maxHeartbeats 4000000 in
set_option maxRecDepth 100000 in
theorem w_X10_about (C : Cx p s m args c cX10_about 4 RX10 D cy) (hI : wI LC ad) (hr : meth.sig.returnType = some .int) (hlk : meth.locks = false) (hR : RoL 3 R) {rZ : Int32} {vZ : VV} : ∀ (c0 : Nat) (i1 : Int32) (i2 : Int32) (i3 : Int32) (v : VV) (H : Heap) (locs : List Loc) (ls : Array Slot), wk LC c0 10 → f_X10_about c0 i1 i2 i3 v = some (rZ, vZ) → va_P D vwCl (wd LC cy ad v) H → va_S (wA LC ad) s.heap H locs → lv_has ls 4 [(0, .ref (ad c0)), (1, .int i1), (2, .int i2), (3, .int i3)] → W p l e R s m args below meth c H locs 0 0 (MQ below (qiG LC cy ad D rZ vZ) args s 0 0 (wA LC ad)) (F0 m 0 ls []) := by
  intro c0 i1 i2 i3 v H locs ls kc0 h hP hS hl
  unfold f_X10_about at h
  refine lv_aload_n (pc := 0) C.1 C.2.1 dX10_about_0 rfl (lv_at hl 0 rfl) ?_
  refine lv_iload_n (pc := 1) C.1 C.2.1 dX10_about_1 rfl (lv_at hl 1 rfl) ?_
  obtain ⟨x3, v2, hc1, h⟩ := bi_e h
  refine x_calli (pc := 2) C hP hS mi_X10_isPort ck_10 kc0 ml_X10_57 (hR.le (by decide)) (Nat.zero_le _) (Nat.zero_le _) [.int i1] rfl hl.1 rfl (Nat.le_of_ble_eq_true rfl) dX10_about_2 (m_X10_isPort hI kc0 hc1) (fun H locs hP hS => ?_)
  refine lv_if_eq (pc := 5) (tgt := 15) C.1 C.2.1 dX10_about_5 (by decide) (fun b5 => ?_) (fun b5 => ?_)
  · replace h := if_t h b5
    refine lv_iconst (pc := 15) (v := (-1)) C.1 C.2.1 dX10_about_15 (by decide) ?_
    exact x_iret (pc := 16) C hr hlk hP hS h dX10_about_16
  · replace h := if_f h b5
    refine lv_iload_n (pc := 8) C.1 C.2.1 dX10_about_8 rfl (lv_at hl 2 rfl) ?_
    obtain ⟨x6, v5, hc4, h⟩ := bi_e h
    refine x_callsi (pc := 9) C hP hS ms_X10_isGood ml_X10_61 (hR.le (by decide)) (Nat.zero_le _) (Nat.zero_le _) [.int i2] rfl hl.1 rfl (Nat.le_of_ble_eq_true rfl) dX10_about_9 (m_X10_isGood hI hc4) (fun H locs hP hS => ?_)
    refine lv_if_ne (pc := 12) (tgt := 17) C.1 C.2.1 dX10_about_12 (by decide) (fun b12 => ?_) (fun b12 => ?_)
    · replace h := if_f h b12
      refine lv_iload_n (pc := 17) C.1 C.2.1 dX10_about_17 rfl (lv_at hl 3 rfl) ?_
      refine lv_iconst (pc := 18) (v := 0) C.1 C.2.1 dX10_about_18 (by decide) ?_
      refine lv_bipush (pc := 19) (v := 6) C.1 C.2.1 dX10_about_19 (by decide) ?_
      obtain ⟨x9, v8, hc7, h⟩ := bi_e h
      refine x_callsi (pc := 21) C hP hS ms_X10_within ml_X10_64 (hR.le (by decide)) (Nat.zero_le _) (Nat.zero_le _) [.int i3, .int 0, .int 6] rfl hl.1 rfl (Nat.le_of_ble_eq_true rfl) dX10_about_21 (m_X10_within hI hc7) (fun H locs hP hS => ?_)
      refine lv_if_ne (pc := 24) (tgt := 30) C.1 C.2.1 dX10_about_24 (by decide) (fun b24 => ?_) (fun b24 => ?_)
      · replace h := if_f h b24
        refine lv_aload_n (pc := 30) C.1 C.2.1 dX10_about_30 rfl (lv_at hl 0 rfl) ?_
        refine x_getr (pc := 31) C hP ck_10 0 fl_X10_10 (by decide) rfl kc0 dX10_about_31 ?_
        have k10 : wk LC (rfC c0 0) 9 := wt_f wT_C kc0 0 (by decide) rfl rfl
        refine lv_iload_n (pc := 34) C.1 C.2.1 dX10_about_34 rfl (lv_at hl 1 rfl) ?_
        refine lv_iload_n (pc := 35) C.1 C.2.1 dX10_about_35 rfl (lv_at hl 2 rfl) ?_
        obtain ⟨q13, v12, hc11, h⟩ := bi_e h
        refine x_callr (pc := 36) C hP hS mi_X9_shelf ck_9 k10 ml_X10_75 (hR.le (by decide)) (Nat.zero_le _) (Nat.zero_le _) [.int i1, .int i2] rfl hl.1 rfl (Nat.le_of_ble_eq_true rfl) dX10_about_36 (m_X9_shelf hI k10 hc11) (fun H locs hP hS => ?_)
        have k14 : wk LC q13 6 := wr_X9_shelf hc11 k10
        refine lv_iload_n (pc := 39) C.1 C.2.1 dX10_about_39 rfl (lv_at hl 3 rfl) ?_
        obtain ⟨x17, v16, hc15, h⟩ := bi_e h
        refine x_calli (pc := 40) C hP hS mi_X6_number ck_6 k14 ml_X10_79 (hR.le (by decide)) (Nat.zero_le _) (Nat.zero_le _) [.int i3] rfl hl.1 rfl (Nat.le_of_ble_eq_true rfl) dX10_about_40 (m_X6_number hI k14 hc15) (fun H locs hP hS => ?_)
        exact x_iret (pc := 43) C hr hlk hP hS h dX10_about_43
      · replace h := if_t h b24
        refine lv_bipush (pc := 27) (v := (-2)) C.1 C.2.1 dX10_about_27 (by decide) ?_
        exact x_iret (pc := 29) C hr hlk hP hS h dX10_about_29
    · replace h := if_t h b12
      refine lv_iconst (pc := 15) (v := (-1)) C.1 C.2.1 dX10_about_15 (by decide) ?_
      exact x_iret (pc := 16) C hr hlk hP hS h dX10_about_16
set_option maxRecDepth 100000 in
theorem m_X10_about (hI : wI LC ad) {c0 : Nat} {i1 : Int32} {i2 : Int32} {i3 : Int32} {v : VV} {rZ : Int32} {vZ : VV} (kc0 : wk LC c0 10) (h : F_X10_about c0 i1 i2 i3 v = some (rZ, vZ)) : Met l yX10_about (Cond.code yX10_about cX10_about 4 (some .int) :: wsG) (rmL 3) (pcG LC cy ad D [.ref (ad c0), .int i1, .int i2, .int i3] v) (qiG LC cy ad D rZ vZ) 0 0 (wA LC ad) := by
  refine Met.ofW (cc := cX10_about) (maxL := 4) (ret := (some .int)) (by decide) rfl ?_
  intro p e s m args below meth c s₁ B hml hv
  obtain ⟨rfl, hP, hK⟩ := hv
  have hts := atoms_spec (ws := Cond.code yX10_about cX10_about 4 (some .int) :: wsG) B.pre
  have hown : s.vm.findClass RX10 = some m.cls := findClass_of_methodNamed B.named
  have C : Cx p s m _ c cX10_about 4 RX10 D cy := ⟨B.exec, B.bytes, hml, hown, fun w hw => hts w (List.mem_cons_of_mem _ hw), hK⟩
  have hl := lv_entry ([.ref (ad c0), .int i1, .int i2, .int i3]) (n := 4) (Nat.le_of_ble_eq_true rfl)
  rw [lg_entry_eq]
  generalize (lg_sl ([.ref (ad c0), .int i1, .int i2, .int i3]) ++ List.replicate (4 - (lg_sl ([.ref (ad c0), .int i1, .int i2, .int i3])).length) Slot.unset).toArray = ls at hl ⊢
  have hl : lv_has ls 4 [(0, .ref (ad c0)), (1, .int i1), (2, .int i2), (3, .int i3)] := hl
  exact w_X10_about C hI B.returns B.notSynchronized (RoL_rm _) c0 i1 i2 i3 v _ _ _ kc0 h hP va_S.rf (lv_sub hl [0, 1, 2, 3] rfl)
def f_X10_tax (c0 : Nat) (i1 : Int32) (i2 : Int32) (v : VV) : Option (Int32 × VV) :=
  bi (F_X10_isPort c0 i1 v) fun x3 v2 =>
  if (x3 = 0) then
    some ((-1), v2)
  else
    bi (F_X10_within i2 0 20 v2) fun x6 v5 =>
    if (x6 = 0) then
      some ((-2), v5)
    else
      gd (inB i1 (lnC (rfC (rfC c0 0) 0)) = true) <|
      nv ((v5 (rfC (rfC (rfC c0 0) 0) (Int32.toNatClampNeg i1)) 1)) fun x11 =>
      gd (inB i1 (lnC (rfC (rfC c0 0) 0)) = true) <|
      nv (wu v5 (rfC (rfC (rfC c0 0) 0) (Int32.toNatClampNeg i1)) 1 i2) fun v16 =>
      some (x11, v16)
abbrev F_X10_tax (c0 : Nat) (i1 : Int32) (i2 : Int32) (v : VV) : Option (Int32 × VV) := f_X10_tax c0 i1 i2 v
set_option maxHeartbeats 4000000 in
set_option maxRecDepth 100000 in
theorem w_X10_tax (C : Cx p s m args c cX10_tax 4 RX10 D cy) (hI : wI LC ad) (hr : meth.sig.returnType = some .int) (hlk : meth.locks = false) (hR : RoL 3 R) {rZ : Int32} {vZ : VV} : ∀ (c0 : Nat) (i1 : Int32) (i2 : Int32) (v : VV) (H : Heap) (locs : List Loc) (ls : Array Slot), wk LC c0 10 → f_X10_tax c0 i1 i2 v = some (rZ, vZ) → va_P D vwCl (wd LC cy ad v) H → va_S (wA LC ad) s.heap H locs → lv_has ls 4 [(0, .ref (ad c0)), (1, .int i1), (2, .int i2)] → W p l e R s m args below meth c H locs 0 0 (MQ below (qiG LC cy ad D rZ vZ) args s 0 0 (wA LC ad)) (F0 m 0 ls []) := by
  intro c0 i1 i2 v H locs ls kc0 h hP hS hl
  unfold f_X10_tax at h
  refine lv_aload_n (pc := 0) C.1 C.2.1 dX10_tax_0 rfl (lv_at hl 0 rfl) ?_
  refine lv_iload_n (pc := 1) C.1 C.2.1 dX10_tax_1 rfl (lv_at hl 1 rfl) ?_
  obtain ⟨x3, v2, hc1, h⟩ := bi_e h
  refine x_calli (pc := 2) C hP hS mi_X10_isPort ck_10 kc0 ml_X10_57 (hR.le (by decide)) (Nat.zero_le _) (Nat.zero_le _) [.int i1] rfl hl.1 rfl (Nat.le_of_ble_eq_true rfl) dX10_tax_2 (m_X10_isPort hI kc0 hc1) (fun H locs hP hS => ?_)
  refine lv_if_ne (pc := 5) (tgt := 10) C.1 C.2.1 dX10_tax_5 (by decide) (fun b5 => ?_) (fun b5 => ?_)
  · replace h := if_f h b5
    refine lv_iload_n (pc := 10) C.1 C.2.1 dX10_tax_10 rfl (lv_at hl 2 rfl) ?_
    refine lv_iconst (pc := 11) (v := 0) C.1 C.2.1 dX10_tax_11 (by decide) ?_
    refine lv_bipush (pc := 12) (v := 20) C.1 C.2.1 dX10_tax_12 (by decide) ?_
    obtain ⟨x6, v5, hc4, h⟩ := bi_e h
    refine x_callsi (pc := 14) C hP hS ms_X10_within ml_X10_64 (hR.le (by decide)) (Nat.zero_le _) (Nat.zero_le _) [.int i2, .int 0, .int 20] rfl hl.1 rfl (Nat.le_of_ble_eq_true rfl) dX10_tax_14 (m_X10_within hI hc4) (fun H locs hP hS => ?_)
    refine lv_if_ne (pc := 17) (tgt := 23) C.1 C.2.1 dX10_tax_17 (by decide) (fun b17 => ?_) (fun b17 => ?_)
    · replace h := if_f h b17
      refine lv_aload_n (pc := 23) C.1 C.2.1 dX10_tax_23 rfl (lv_at hl 0 rfl) ?_
      refine x_getr (pc := 24) C hP ck_10 0 fl_X10_10 (by decide) rfl kc0 dX10_tax_24 ?_
      have k7 : wk LC (rfC c0 0) 9 := wt_f wT_C kc0 0 (by decide) rfl rfl
      refine x_getr (pc := 27) C hP ck_9 0 fl_X10_92 (by decide) rfl k7 dX10_tax_27 ?_
      have k8 : wk LC (rfC (rfC c0 0) 0) 14 := wt_f wT_C k7 0 (by decide) rfl rfl
      refine lv_iload_n (pc := 30) C.1 C.2.1 dX10_tax_30 rfl (lv_at hl 1 rfl) ?_
      obtain ⟨g9, h⟩ := gd_e h
      refine x_aald (pc := 31) C hP k8 (by decide) (by decide) (inB_vp g9) dX10_tax_31 ?_
      have k10 : wk LC (rfC (rfC (rfC c0 0) 0) (Int32.toNatClampNeg i1)) 4 := wt_a wT_C k8 (by decide) (inB_vp g9) rfl
      refine x_geti (pc := 32) C hP ck_4 1 fl_X10_96 (by decide) rfl k10 dX10_tax_32 ?_
      refine lv_topi (fun x11 ex11 => ?_)
      replace h := nv_e h ex11
      clear ex11
      refine lv_istore_n (pc := 35) (lv' := [(3, .int x11), (0, .ref (ad c0)), (1, .int i1), (2, .int i2)]) C.1 C.2.1 dX10_tax_35 rfl hl (by decide) rfl (fun ls hl => ?_)
      refine lv_aload_n (pc := 36) C.1 C.2.1 dX10_tax_36 rfl (lv_at hl 1 rfl) ?_
      refine x_getr (pc := 37) C hP ck_10 0 fl_X10_10 (by decide) rfl kc0 dX10_tax_37 ?_
      have k12 : wk LC (rfC c0 0) 9 := wt_f wT_C kc0 0 (by decide) rfl rfl
      refine x_getr (pc := 40) C hP ck_9 0 fl_X10_92 (by decide) rfl k12 dX10_tax_40 ?_
      have k13 : wk LC (rfC (rfC c0 0) 0) 14 := wt_f wT_C k12 0 (by decide) rfl rfl
      refine lv_iload_n (pc := 43) C.1 C.2.1 dX10_tax_43 rfl (lv_at hl 2 rfl) ?_
      obtain ⟨g14, h⟩ := gd_e h
      refine x_aald (pc := 44) C hP k13 (by decide) (by decide) (inB_vp g14) dX10_tax_44 ?_
      have k15 : wk LC (rfC (rfC (rfC c0 0) 0) (Int32.toNatClampNeg i1)) 4 := wt_a wT_C k13 (by decide) (inB_vp g14) rfl
      refine lv_iload_n (pc := 45) C.1 C.2.1 dX10_tax_45 rfl (lv_at hl 3 rfl) ?_
      refine x_put (pc := 46) C hI hP hS ck_4 1 fl_X10_96 (by decide) rfl rfl k15 rfl rfl dX10_tax_46 (fun H locs hP hS => ?_)
      obtain ⟨v16, h, hP⟩ := nv_p (P := fun z => va_P D vwCl (wd LC cy ad z) H) h hP
      refine lv_iload_n (pc := 49) C.1 C.2.1 dX10_tax_49 rfl (lv_at hl 0 rfl) ?_
      exact x_iret (pc := 50) C hr hlk hP hS h dX10_tax_50
    · replace h := if_t h b17
      refine lv_bipush (pc := 20) (v := (-2)) C.1 C.2.1 dX10_tax_20 (by decide) ?_
      exact x_iret (pc := 22) C hr hlk hP hS h dX10_tax_22
  · replace h := if_t h b5
    refine lv_iconst (pc := 8) (v := (-1)) C.1 C.2.1 dX10_tax_8 (by decide) ?_
    exact x_iret (pc := 9) C hr hlk hP hS h dX10_tax_9
set_option maxRecDepth 100000 in
theorem m_X10_tax (hI : wI LC ad) {c0 : Nat} {i1 : Int32} {i2 : Int32} {v : VV} {rZ : Int32} {vZ : VV} (kc0 : wk LC c0 10) (h : F_X10_tax c0 i1 i2 v = some (rZ, vZ)) : Met l yX10_tax (Cond.code yX10_tax cX10_tax 4 (some .int) :: wsG) (rmL 3) (pcG LC cy ad D [.ref (ad c0), .int i1, .int i2] v) (qiG LC cy ad D rZ vZ) 0 0 (wA LC ad) := by
  refine Met.ofW (cc := cX10_tax) (maxL := 4) (ret := (some .int)) (by decide) rfl ?_
  intro p e s m args below meth c s₁ B hml hv
  obtain ⟨rfl, hP, hK⟩ := hv
  have hts := atoms_spec (ws := Cond.code yX10_tax cX10_tax 4 (some .int) :: wsG) B.pre
  have hown : s.vm.findClass RX10 = some m.cls := findClass_of_methodNamed B.named
  have C : Cx p s m _ c cX10_tax 4 RX10 D cy := ⟨B.exec, B.bytes, hml, hown, fun w hw => hts w (List.mem_cons_of_mem _ hw), hK⟩
  have hl := lv_entry ([.ref (ad c0), .int i1, .int i2]) (n := 4) (Nat.le_of_ble_eq_true rfl)
  rw [lg_entry_eq]
  generalize (lg_sl ([.ref (ad c0), .int i1, .int i2]) ++ List.replicate (4 - (lg_sl ([.ref (ad c0), .int i1, .int i2])).length) Slot.unset).toArray = ls at hl ⊢
  have hl : lv_has ls 4 [(0, .ref (ad c0)), (1, .int i1), (2, .int i2)] := hl
  exact w_X10_tax C hI B.returns B.notSynchronized (RoL_rm _) c0 i1 i2 v _ _ _ kc0 h hP va_S.rf (lv_sub hl [0, 1, 2] rfl)
def f_X10_oneIf (i0 : Int32) (v : VV) : Option (Int32 × VV) :=
  if (i0 = 0) then
    some (0, v)
  else
    some (1, v)
abbrev F_X10_oneIf (i0 : Int32) (v : VV) : Option (Int32 × VV) := f_X10_oneIf i0 v
set_option maxHeartbeats 4000000 in
set_option maxRecDepth 100000 in
theorem w_X10_oneIf (C : Cx p s m args c cX10_oneIf 1 RX10 D cy) (hI : wI LC ad) (hr : meth.sig.returnType = some .int) (hlk : meth.locks = false) (hR : RoL 1 R) {rZ : Int32} {vZ : VV} : ∀ (i0 : Int32) (v : VV) (H : Heap) (locs : List Loc) (ls : Array Slot), f_X10_oneIf i0 v = some (rZ, vZ) → va_P D vwCl (wd LC cy ad v) H → va_S (wA LC ad) s.heap H locs → lv_has ls 1 [(0, .int i0)] → W p l e R s m args below meth c H locs 0 0 (MQ below (qiG LC cy ad D rZ vZ) args s 0 0 (wA LC ad)) (F0 m 0 ls []) := by
  intro i0 v H locs ls h hP hS hl
  unfold f_X10_oneIf at h
  refine lv_iload_n (pc := 0) C.1 C.2.1 dX10_oneIf_0 rfl (lv_at hl 0 rfl) ?_
  refine lv_if_eq (pc := 1) (tgt := 8) C.1 C.2.1 dX10_oneIf_1 (by decide) (fun b1 => ?_) (fun b1 => ?_)
  · replace h := if_t h b1
    refine lv_iconst (pc := 8) (v := 0) C.1 C.2.1 dX10_oneIf_8 (by decide) ?_
    exact x_iret (pc := 9) C hr hlk hP hS h dX10_oneIf_9
  · replace h := if_f h b1
    refine lv_iconst (pc := 4) (v := 1) C.1 C.2.1 dX10_oneIf_4 (by decide) ?_
    refine lv_goto (pc := 5) (tgt := 9) C.1 C.2.1 dX10_oneIf_5 (by decide) ?_
    exact x_iret (pc := 9) C hr hlk hP hS h dX10_oneIf_9
set_option maxRecDepth 100000 in
theorem m_X10_oneIf (hI : wI LC ad) {i0 : Int32} {v : VV} {rZ : Int32} {vZ : VV} (h : F_X10_oneIf i0 v = some (rZ, vZ)) : Met l yX10_oneIf (Cond.code yX10_oneIf cX10_oneIf 1 (some .int) :: wsG) (rmL 1) (pcG LC cy ad D [.int i0] v) (qiG LC cy ad D rZ vZ) 0 0 (wA LC ad) := by
  refine Met.ofW (cc := cX10_oneIf) (maxL := 1) (ret := (some .int)) (by decide) rfl ?_
  intro p e s m args below meth c s₁ B hml hv
  obtain ⟨rfl, hP, hK⟩ := hv
  have hts := atoms_spec (ws := Cond.code yX10_oneIf cX10_oneIf 1 (some .int) :: wsG) B.pre
  have hown : s.vm.findClass RX10 = some m.cls := findClass_of_methodNamed B.named
  have C : Cx p s m _ c cX10_oneIf 1 RX10 D cy := ⟨B.exec, B.bytes, hml, hown, fun w hw => hts w (List.mem_cons_of_mem _ hw), hK⟩
  have hl := lv_entry ([.int i0]) (n := 1) (Nat.le_of_ble_eq_true rfl)
  rw [lg_entry_eq]
  generalize (lg_sl ([.int i0]) ++ List.replicate (1 - (lg_sl ([.int i0])).length) Slot.unset).toArray = ls at hl ⊢
  have hl : lv_has ls 1 [(0, .int i0)] := hl
  exact w_X10_oneIf C hI B.returns B.notSynchronized (RoL_rm _) i0 v _ _ _ h hP va_S.rf (lv_sub hl [0] rfl)
def f_X10_shut (c0 : Nat) (i1 : Int32) (i2 : Int32) (v : VV) : Option (Int32 × VV) :=
  bi (F_X10_isPort c0 i1 v) fun x3 v2 =>
  if (x3 = 0) then
    some ((-1), v2)
  else
    gd (inB i1 (lnC (rfC (rfC c0 0) 0)) = true) <|
    bi (F_X10_oneIf (v2 (rfC (rfC (rfC c0 0) 0) (Int32.toNatClampNeg i1)) 4) v2) fun x10 v9 =>
    gd (inB i1 (lnC (rfC (rfC c0 0) 0)) = true) <|
    gd (i2 &&& 1 = i2) <|
    nv (wu v9 (rfC (rfC (rfC c0 0) 0) (Int32.toNatClampNeg i1)) 4 i2) fun v16 =>
    some (x10, v16)
abbrev F_X10_shut (c0 : Nat) (i1 : Int32) (i2 : Int32) (v : VV) : Option (Int32 × VV) := f_X10_shut c0 i1 i2 v
set_option maxHeartbeats 4000000 in
set_option maxRecDepth 100000 in
theorem w_X10_shut (C : Cx p s m args c cX10_shut 4 RX10 D cy) (hI : wI LC ad) (hr : meth.sig.returnType = some .int) (hlk : meth.locks = false) (hR : RoL 3 R) {rZ : Int32} {vZ : VV} : ∀ (c0 : Nat) (i1 : Int32) (i2 : Int32) (v : VV) (H : Heap) (locs : List Loc) (ls : Array Slot), wk LC c0 10 → f_X10_shut c0 i1 i2 v = some (rZ, vZ) → va_P D vwCl (wd LC cy ad v) H → va_S (wA LC ad) s.heap H locs → lv_has ls 4 [(0, .ref (ad c0)), (1, .int i1), (2, .int i2)] → W p l e R s m args below meth c H locs 0 0 (MQ below (qiG LC cy ad D rZ vZ) args s 0 0 (wA LC ad)) (F0 m 0 ls []) := by
  intro c0 i1 i2 v H locs ls kc0 h hP hS hl
  unfold f_X10_shut at h
  refine lv_aload_n (pc := 0) C.1 C.2.1 dX10_shut_0 rfl (lv_at hl 0 rfl) ?_
  refine lv_iload_n (pc := 1) C.1 C.2.1 dX10_shut_1 rfl (lv_at hl 1 rfl) ?_
  obtain ⟨x3, v2, hc1, h⟩ := bi_e h
  refine x_calli (pc := 2) C hP hS mi_X10_isPort ck_10 kc0 ml_X10_57 (hR.le (by decide)) (Nat.zero_le _) (Nat.zero_le _) [.int i1] rfl hl.1 rfl (Nat.le_of_ble_eq_true rfl) dX10_shut_2 (m_X10_isPort hI kc0 hc1) (fun H locs hP hS => ?_)
  refine lv_if_ne (pc := 5) (tgt := 10) C.1 C.2.1 dX10_shut_5 (by decide) (fun b5 => ?_) (fun b5 => ?_)
  · replace h := if_f h b5
    refine lv_aload_n (pc := 10) C.1 C.2.1 dX10_shut_10 rfl (lv_at hl 0 rfl) ?_
    refine x_getr (pc := 11) C hP ck_10 0 fl_X10_10 (by decide) rfl kc0 dX10_shut_11 ?_
    have k4 : wk LC (rfC c0 0) 9 := wt_f wT_C kc0 0 (by decide) rfl rfl
    refine x_getr (pc := 14) C hP ck_9 0 fl_X10_92 (by decide) rfl k4 dX10_shut_14 ?_
    have k5 : wk LC (rfC (rfC c0 0) 0) 14 := wt_f wT_C k4 0 (by decide) rfl rfl
    refine lv_iload_n (pc := 17) C.1 C.2.1 dX10_shut_17 rfl (lv_at hl 1 rfl) ?_
    obtain ⟨g6, h⟩ := gd_e h
    refine x_aald (pc := 18) C hP k5 (by decide) (by decide) (inB_vp g6) dX10_shut_18 ?_
    have k7 : wk LC (rfC (rfC (rfC c0 0) 0) (Int32.toNatClampNeg i1)) 4 := wt_a wT_C k5 (by decide) (inB_vp g6) rfl
    refine x_geti (pc := 19) C hP ck_4 4 fl_X10_101 (by decide) rfl k7 dX10_shut_19 ?_
    obtain ⟨x10, v9, hc8, h⟩ := bi_e h
    refine x_callsi (pc := 22) C hP hS ms_X10_oneIf ml_X10_105 (hR.le (by decide)) (Nat.zero_le _) (Nat.zero_le _) [.int (v2 (rfC (rfC (rfC c0 0) 0) (Int32.toNatClampNeg i1)) 4)] rfl hl.1 rfl (Nat.le_of_ble_eq_true rfl) dX10_shut_22 (m_X10_oneIf hI hc8) (fun H locs hP hS => ?_)
    refine lv_istore_n (pc := 25) (lv' := [(3, .int x10), (0, .ref (ad c0)), (1, .int i1), (2, .int i2)]) C.1 C.2.1 dX10_shut_25 rfl hl (by decide) rfl (fun ls hl => ?_)
    refine lv_aload_n (pc := 26) C.1 C.2.1 dX10_shut_26 rfl (lv_at hl 1 rfl) ?_
    refine x_getr (pc := 27) C hP ck_10 0 fl_X10_10 (by decide) rfl kc0 dX10_shut_27 ?_
    have k11 : wk LC (rfC c0 0) 9 := wt_f wT_C kc0 0 (by decide) rfl rfl
    refine x_getr (pc := 30) C hP ck_9 0 fl_X10_92 (by decide) rfl k11 dX10_shut_30 ?_
    have k12 : wk LC (rfC (rfC c0 0) 0) 14 := wt_f wT_C k11 0 (by decide) rfl rfl
    refine lv_iload_n (pc := 33) C.1 C.2.1 dX10_shut_33 rfl (lv_at hl 2 rfl) ?_
    obtain ⟨g13, h⟩ := gd_e h
    refine x_aald (pc := 34) C hP k12 (by decide) (by decide) (inB_vp g13) dX10_shut_34 ?_
    have k14 : wk LC (rfC (rfC (rfC c0 0) 0) (Int32.toNatClampNeg i1)) 4 := wt_a wT_C k12 (by decide) (inB_vp g13) rfl
    refine lv_iload_n (pc := 35) C.1 C.2.1 dX10_shut_35 rfl (lv_at hl 3 rfl) ?_
    obtain ⟨g15, h⟩ := gd_e h
    refine x_put (pc := 36) C hI hP hS ck_4 4 fl_X10_101 (by decide) rfl rfl k14 (by show Value.int (i2 &&& 1) = _; rw [g15]) (bz_fits g15) dX10_shut_36 (fun H locs hP hS => ?_)
    obtain ⟨v16, h, hP⟩ := nv_p (P := fun z => va_P D vwCl (wd LC cy ad z) H) h hP
    refine lv_iload_n (pc := 39) C.1 C.2.1 dX10_shut_39 rfl (lv_at hl 0 rfl) ?_
    exact x_iret (pc := 40) C hr hlk hP hS h dX10_shut_40
  · replace h := if_t h b5
    refine lv_iconst (pc := 8) (v := (-1)) C.1 C.2.1 dX10_shut_8 (by decide) ?_
    exact x_iret (pc := 9) C hr hlk hP hS h dX10_shut_9
set_option maxRecDepth 100000 in
theorem m_X10_shut (hI : wI LC ad) {c0 : Nat} {i1 : Int32} {i2 : Int32} {v : VV} {rZ : Int32} {vZ : VV} (kc0 : wk LC c0 10) (h : F_X10_shut c0 i1 i2 v = some (rZ, vZ)) : Met l yX10_shut (Cond.code yX10_shut cX10_shut 4 (some .int) :: wsG) (rmL 3) (pcG LC cy ad D [.ref (ad c0), .int i1, .int i2] v) (qiG LC cy ad D rZ vZ) 0 0 (wA LC ad) := by
  refine Met.ofW (cc := cX10_shut) (maxL := 4) (ret := (some .int)) (by decide) rfl ?_
  intro p e s m args below meth c s₁ B hml hv
  obtain ⟨rfl, hP, hK⟩ := hv
  have hts := atoms_spec (ws := Cond.code yX10_shut cX10_shut 4 (some .int) :: wsG) B.pre
  have hown : s.vm.findClass RX10 = some m.cls := findClass_of_methodNamed B.named
  have C : Cx p s m _ c cX10_shut 4 RX10 D cy := ⟨B.exec, B.bytes, hml, hown, fun w hw => hts w (List.mem_cons_of_mem _ hw), hK⟩
  have hl := lv_entry ([.ref (ad c0), .int i1, .int i2]) (n := 4) (Nat.le_of_ble_eq_true rfl)
  rw [lg_entry_eq]
  generalize (lg_sl ([.ref (ad c0), .int i1, .int i2]) ++ List.replicate (4 - (lg_sl ([.ref (ad c0), .int i1, .int i2])).length) Slot.unset).toArray = ls at hl ⊢
  have hl : lv_has ls 4 [(0, .ref (ad c0)), (1, .int i1), (2, .int i2)] := hl
  exact w_X10_shut C hI B.returns B.notSynchronized (RoL_rm _) c0 i1 i2 v _ _ _ kc0 h hP va_S.rf (lv_sub hl [0, 1, 2] rfl)
def f_X10_way (c0 : Nat) (i1 : Int32) (i2 : Int32) (i3 : Int32) (v : VV) : Option (Int32 × VV) :=
  bi (F_X10_isPort c0 i1 v) fun x3 v2 =>
  if (x3 = 0) then
    some ((-1), v2)
  else
    bi (F_X10_isPort c0 i2 v2) fun x6 v5 =>
    if (x6 = 0) then
      some ((-1), v5)
    else
      if (i1 = i2) then
        some ((-1), v5)
      else
        bi (F_X10_within i3 0 9 v5) fun x9 v8 =>
        if (x9 = 0) then
          some ((-2), v8)
        else
          gd (inB i1 (lnC (rfC (rfC c0 0) 1)) = true) <|
          gd (inB i2 (lnC (rfC (rfC (rfC c0 0) 1) (Int32.toNatClampNeg i1))) = true) <|
          nv ((v8 (rfC (rfC (rfC c0 0) 1) (Int32.toNatClampNeg i1)) (Int32.toNatClampNeg i2))) fun x15 =>
          gd (inB i1 (lnC (rfC (rfC c0 0) 1)) = true) <|
          gd (inB i2 (lnC (rfC (rfC (rfC c0 0) 1) (Int32.toNatClampNeg i1))) = true) <|
          nv (wu v8 (rfC (rfC (rfC c0 0) 1) (Int32.toNatClampNeg i1)) (Int32.toNatClampNeg i2) i3) fun v21 =>
          gd (inB i2 (lnC (rfC (rfC c0 0) 1)) = true) <|
          gd (inB i1 (lnC (rfC (rfC (rfC c0 0) 1) (Int32.toNatClampNeg i2))) = true) <|
          nv (wu v21 (rfC (rfC (rfC c0 0) 1) (Int32.toNatClampNeg i2)) (Int32.toNatClampNeg i1) i3) fun v27 =>
          some (x15, v27)
abbrev F_X10_way (c0 : Nat) (i1 : Int32) (i2 : Int32) (i3 : Int32) (v : VV) : Option (Int32 × VV) := f_X10_way c0 i1 i2 i3 v
set_option maxHeartbeats 4000000 in
set_option maxRecDepth 100000 in
theorem w_X10_way (C : Cx p s m args c cX10_way 5 RX10 D cy) (hI : wI LC ad) (hr : meth.sig.returnType = some .int) (hlk : meth.locks = false) (hR : RoL 3 R) {rZ : Int32} {vZ : VV} : ∀ (c0 : Nat) (i1 : Int32) (i2 : Int32) (i3 : Int32) (v : VV) (H : Heap) (locs : List Loc) (ls : Array Slot), wk LC c0 10 → f_X10_way c0 i1 i2 i3 v = some (rZ, vZ) → va_P D vwCl (wd LC cy ad v) H → va_S (wA LC ad) s.heap H locs → lv_has ls 5 [(0, .ref (ad c0)), (1, .int i1), (2, .int i2), (3, .int i3)] → W p l e R s m args below meth c H locs 0 0 (MQ below (qiG LC cy ad D rZ vZ) args s 0 0 (wA LC ad)) (F0 m 0 ls []) := by
  intro c0 i1 i2 i3 v H locs ls kc0 h hP hS hl
  unfold f_X10_way at h
  refine lv_aload_n (pc := 0) C.1 C.2.1 dX10_way_0 rfl (lv_at hl 0 rfl) ?_
  refine lv_iload_n (pc := 1) C.1 C.2.1 dX10_way_1 rfl (lv_at hl 1 rfl) ?_
  obtain ⟨x3, v2, hc1, h⟩ := bi_e h
  refine x_calli (pc := 2) C hP hS mi_X10_isPort ck_10 kc0 ml_X10_57 (hR.le (by decide)) (Nat.zero_le _) (Nat.zero_le _) [.int i1] rfl hl.1 rfl (Nat.le_of_ble_eq_true rfl) dX10_way_2 (m_X10_isPort hI kc0 hc1) (fun H locs hP hS => ?_)
  refine lv_if_eq (pc := 5) (tgt := 21) C.1 C.2.1 dX10_way_5 (by decide) (fun b5 => ?_) (fun b5 => ?_)
  · replace h := if_t h b5
    refine lv_iconst (pc := 21) (v := (-1)) C.1 C.2.1 dX10_way_21 (by decide) ?_
    exact x_iret (pc := 22) C hr hlk hP hS h dX10_way_22
  · replace h := if_f h b5
    refine lv_aload_n (pc := 8) C.1 C.2.1 dX10_way_8 rfl (lv_at hl 0 rfl) ?_
    refine lv_iload_n (pc := 9) C.1 C.2.1 dX10_way_9 rfl (lv_at hl 2 rfl) ?_
    obtain ⟨x6, v5, hc4, h⟩ := bi_e h
    refine x_calli (pc := 10) C hP hS mi_X10_isPort ck_10 kc0 ml_X10_57 (hR.le (by decide)) (Nat.zero_le _) (Nat.zero_le _) [.int i2] rfl hl.1 rfl (Nat.le_of_ble_eq_true rfl) dX10_way_10 (m_X10_isPort hI kc0 hc4) (fun H locs hP hS => ?_)
    refine lv_if_eq (pc := 13) (tgt := 21) C.1 C.2.1 dX10_way_13 (by decide) (fun b13 => ?_) (fun b13 => ?_)
    · replace h := if_t h b13
      refine lv_iconst (pc := 21) (v := (-1)) C.1 C.2.1 dX10_way_21 (by decide) ?_
      exact x_iret (pc := 22) C hr hlk hP hS h dX10_way_22
    · replace h := if_f h b13
      refine lv_iload_n (pc := 16) C.1 C.2.1 dX10_way_16 rfl (lv_at hl 1 rfl) ?_
      refine lv_iload_n (pc := 17) C.1 C.2.1 dX10_way_17 rfl (lv_at hl 2 rfl) ?_
      refine lv_icmp_ne (pc := 18) (tgt := 23) C.1 C.2.1 dX10_way_18 (by decide) (fun b18 => ?_) (fun b18 => ?_)
      · replace h := if_f h b18
        refine lv_iload_n (pc := 23) C.1 C.2.1 dX10_way_23 rfl (lv_at hl 3 rfl) ?_
        refine lv_iconst (pc := 24) (v := 0) C.1 C.2.1 dX10_way_24 (by decide) ?_
        refine lv_bipush (pc := 25) (v := 9) C.1 C.2.1 dX10_way_25 (by decide) ?_
        obtain ⟨x9, v8, hc7, h⟩ := bi_e h
        refine x_callsi (pc := 27) C hP hS ms_X10_within ml_X10_64 (hR.le (by decide)) (Nat.zero_le _) (Nat.zero_le _) [.int i3, .int 0, .int 9] rfl hl.1 rfl (Nat.le_of_ble_eq_true rfl) dX10_way_27 (m_X10_within hI hc7) (fun H locs hP hS => ?_)
        refine lv_if_ne (pc := 30) (tgt := 36) C.1 C.2.1 dX10_way_30 (by decide) (fun b30 => ?_) (fun b30 => ?_)
        · replace h := if_f h b30
          refine lv_aload_n (pc := 36) C.1 C.2.1 dX10_way_36 rfl (lv_at hl 0 rfl) ?_
          refine x_getr (pc := 37) C hP ck_10 0 fl_X10_10 (by decide) rfl kc0 dX10_way_37 ?_
          have k10 : wk LC (rfC c0 0) 9 := wt_f wT_C kc0 0 (by decide) rfl rfl
          refine x_getr (pc := 40) C hP ck_9 1 fl_X10_109 (by decide) rfl k10 dX10_way_40 ?_
          have k11 : wk LC (rfC (rfC c0 0) 1) 18 := wt_f wT_C k10 1 (by decide) rfl rfl
          refine lv_iload_n (pc := 43) C.1 C.2.1 dX10_way_43 rfl (lv_at hl 1 rfl) ?_
          obtain ⟨g12, h⟩ := gd_e h
          refine x_aald (pc := 44) C hP k11 (by decide) (by decide) (inB_vp g12) dX10_way_44 ?_
          have k13 : wk LC (rfC (rfC (rfC c0 0) 1) (Int32.toNatClampNeg i1)) 12 := wt_a wT_C k11 (by decide) (inB_vp g12) rfl
          refine lv_iload_n (pc := 45) C.1 C.2.1 dX10_way_45 rfl (lv_at hl 2 rfl) ?_
          obtain ⟨g14, h⟩ := gd_e h
          refine x_iald (pc := 46) C hP k13 (inB_vp g14) dX10_way_46 ?_
          refine lv_topi (fun x15 ex15 => ?_)
          replace h := nv_e h ex15
          clear ex15
          refine lv_istore (pc := 47) (lv' := [(4, .int x15), (0, .ref (ad c0)), (1, .int i1), (2, .int i2), (3, .int i3)]) C.1 C.2.1 dX10_way_47 hl (by decide) rfl (fun ls hl => ?_)
          refine lv_aload_n (pc := 49) C.1 C.2.1 dX10_way_49 rfl (lv_at hl 1 rfl) ?_
          refine x_getr (pc := 50) C hP ck_10 0 fl_X10_10 (by decide) rfl kc0 dX10_way_50 ?_
          have k16 : wk LC (rfC c0 0) 9 := wt_f wT_C kc0 0 (by decide) rfl rfl
          refine x_getr (pc := 53) C hP ck_9 1 fl_X10_109 (by decide) rfl k16 dX10_way_53 ?_
          have k17 : wk LC (rfC (rfC c0 0) 1) 18 := wt_f wT_C k16 1 (by decide) rfl rfl
          refine lv_iload_n (pc := 56) C.1 C.2.1 dX10_way_56 rfl (lv_at hl 2 rfl) ?_
          obtain ⟨g18, h⟩ := gd_e h
          refine x_aald (pc := 57) C hP k17 (by decide) (by decide) (inB_vp g18) dX10_way_57 ?_
          have k19 : wk LC (rfC (rfC (rfC c0 0) 1) (Int32.toNatClampNeg i1)) 12 := wt_a wT_C k17 (by decide) (inB_vp g18) rfl
          refine lv_iload_n (pc := 58) C.1 C.2.1 dX10_way_58 rfl (lv_at hl 3 rfl) ?_
          refine lv_iload_n (pc := 59) C.1 C.2.1 dX10_way_59 rfl (lv_at hl 4 rfl) ?_
          obtain ⟨g20, h⟩ := gd_e h
          refine x_iast (pc := 60) C hI hP hS k19 (inB_vp g20) dX10_way_60 (fun H locs hP hS => ?_)
          obtain ⟨v21, h, hP⟩ := nv_p (P := fun z => va_P D vwCl (wd LC cy ad z) H) h hP
          refine lv_aload_n (pc := 61) C.1 C.2.1 dX10_way_61 rfl (lv_at hl 1 rfl) ?_
          refine x_getr (pc := 62) C hP ck_10 0 fl_X10_10 (by decide) rfl kc0 dX10_way_62 ?_
          have k22 : wk LC (rfC c0 0) 9 := wt_f wT_C kc0 0 (by decide) rfl rfl
          refine x_getr (pc := 65) C hP ck_9 1 fl_X10_109 (by decide) rfl k22 dX10_way_65 ?_
          have k23 : wk LC (rfC (rfC c0 0) 1) 18 := wt_f wT_C k22 1 (by decide) rfl rfl
          refine lv_iload_n (pc := 68) C.1 C.2.1 dX10_way_68 rfl (lv_at hl 3 rfl) ?_
          obtain ⟨g24, h⟩ := gd_e h
          refine x_aald (pc := 69) C hP k23 (by decide) (by decide) (inB_vp g24) dX10_way_69 ?_
          have k25 : wk LC (rfC (rfC (rfC c0 0) 1) (Int32.toNatClampNeg i2)) 12 := wt_a wT_C k23 (by decide) (inB_vp g24) rfl
          refine lv_iload_n (pc := 70) C.1 C.2.1 dX10_way_70 rfl (lv_at hl 2 rfl) ?_
          refine lv_iload_n (pc := 71) C.1 C.2.1 dX10_way_71 rfl (lv_at hl 4 rfl) ?_
          obtain ⟨g26, h⟩ := gd_e h
          refine x_iast (pc := 72) C hI hP hS k25 (inB_vp g26) dX10_way_72 (fun H locs hP hS => ?_)
          obtain ⟨v27, h, hP⟩ := nv_p (P := fun z => va_P D vwCl (wd LC cy ad z) H) h hP
          refine lv_iload (pc := 73) C.1 C.2.1 dX10_way_73 (lv_at hl 0 rfl) ?_
          exact x_iret (pc := 75) C hr hlk hP hS h dX10_way_75
        · replace h := if_t h b30
          refine lv_bipush (pc := 33) (v := (-2)) C.1 C.2.1 dX10_way_33 (by decide) ?_
          exact x_iret (pc := 35) C hr hlk hP hS h dX10_way_35
      · replace h := if_t h b18
        refine lv_iconst (pc := 21) (v := (-1)) C.1 C.2.1 dX10_way_21 (by decide) ?_
        exact x_iret (pc := 22) C hr hlk hP hS h dX10_way_22
set_option maxRecDepth 100000 in
theorem m_X10_way (hI : wI LC ad) {c0 : Nat} {i1 : Int32} {i2 : Int32} {i3 : Int32} {v : VV} {rZ : Int32} {vZ : VV} (kc0 : wk LC c0 10) (h : F_X10_way c0 i1 i2 i3 v = some (rZ, vZ)) : Met l yX10_way (Cond.code yX10_way cX10_way 5 (some .int) :: wsG) (rmL 3) (pcG LC cy ad D [.ref (ad c0), .int i1, .int i2, .int i3] v) (qiG LC cy ad D rZ vZ) 0 0 (wA LC ad) := by
  refine Met.ofW (cc := cX10_way) (maxL := 5) (ret := (some .int)) (by decide) rfl ?_
  intro p e s m args below meth c s₁ B hml hv
  obtain ⟨rfl, hP, hK⟩ := hv
  have hts := atoms_spec (ws := Cond.code yX10_way cX10_way 5 (some .int) :: wsG) B.pre
  have hown : s.vm.findClass RX10 = some m.cls := findClass_of_methodNamed B.named
  have C : Cx p s m _ c cX10_way 5 RX10 D cy := ⟨B.exec, B.bytes, hml, hown, fun w hw => hts w (List.mem_cons_of_mem _ hw), hK⟩
  have hl := lv_entry ([.ref (ad c0), .int i1, .int i2, .int i3]) (n := 5) (Nat.le_of_ble_eq_true rfl)
  rw [lg_entry_eq]
  generalize (lg_sl ([.ref (ad c0), .int i1, .int i2, .int i3]) ++ List.replicate (5 - (lg_sl ([.ref (ad c0), .int i1, .int i2, .int i3])).length) Slot.unset).toArray = ls at hl ⊢
  have hl : lv_has ls 5 [(0, .ref (ad c0)), (1, .int i1), (2, .int i2), (3, .int i3)] := hl
  exact w_X10_way C hI B.returns B.notSynchronized (RoL_rm _) c0 i1 i2 i3 v _ _ _ kc0 h hP va_S.rf (lv_sub hl [0, 1, 2, 3] rfl)
def f_X10_ofPort (c0 : Nat) (i1 : Int32) (i2 : Int32) (v : VV) : Option (Int32 × VV) :=
  bi (F_X10_isPort c0 i1 v) fun x3 v2 =>
  if (x3 = 0) then
    some ((-10000001), v2)
  else
    gd (inB i1 (lnC (rfC (rfC c0 0) 0)) = true) <|
    if i2 = 0 then
      some ((v2 (rfC (rfC (rfC c0 0) 0) (Int32.toNatClampNeg i1)) 1), v2)
    else
    if i2 = 1 then
      some ((v2 (rfC (rfC (rfC c0 0) 0) (Int32.toNatClampNeg i1)) 2), v2)
    else
    if i2 = 2 then
      some ((v2 (rfC (rfC (rfC c0 0) 0) (Int32.toNatClampNeg i1)) 3), v2)
    else
    if i2 = 3 then
      bi (F_X10_oneIf (v2 (rfC (rfC (rfC c0 0) 0) (Int32.toNatClampNeg i1)) 4) v2) fun x10 v9 =>
      some (x10, v9)
    else
    if i2 = 4 then
      bi (F_X4_hungerOfAll (rfC (rfC (rfC c0 0) 0) (Int32.toNatClampNeg i1)) v2) fun x13 v12 =>
      some (x13, v12)
    else
    some ((-10000002), v2)
abbrev F_X10_ofPort (c0 : Nat) (i1 : Int32) (i2 : Int32) (v : VV) : Option (Int32 × VV) := f_X10_ofPort c0 i1 i2 v
set_option maxHeartbeats 4000000 in
set_option maxRecDepth 100000 in
theorem w_X10_ofPort (C : Cx p s m args c cX10_ofPort 4 RX10 D cy) (hI : wI LC ad) (hr : meth.sig.returnType = some .int) (hlk : meth.locks = false) (hR : RoL 3 R) {rZ : Int32} {vZ : VV} : ∀ (c0 : Nat) (i1 : Int32) (i2 : Int32) (v : VV) (H : Heap) (locs : List Loc) (ls : Array Slot), wk LC c0 10 → f_X10_ofPort c0 i1 i2 v = some (rZ, vZ) → va_P D vwCl (wd LC cy ad v) H → va_S (wA LC ad) s.heap H locs → lv_has ls 4 [(0, .ref (ad c0)), (1, .int i1), (2, .int i2)] → W p l e R s m args below meth c H locs 0 0 (MQ below (qiG LC cy ad D rZ vZ) args s 0 0 (wA LC ad)) (F0 m 0 ls []) := by
  intro c0 i1 i2 v H locs ls kc0 h hP hS hl
  unfold f_X10_ofPort at h
  refine lv_aload_n (pc := 0) C.1 C.2.1 dX10_ofPort_0 rfl (lv_at hl 0 rfl) ?_
  refine lv_iload_n (pc := 1) C.1 C.2.1 dX10_ofPort_1 rfl (lv_at hl 1 rfl) ?_
  obtain ⟨x3, v2, hc1, h⟩ := bi_e h
  refine x_calli (pc := 2) C hP hS mi_X10_isPort ck_10 kc0 ml_X10_57 (hR.le (by decide)) (Nat.zero_le _) (Nat.zero_le _) [.int i1] rfl hl.1 rfl (Nat.le_of_ble_eq_true rfl) dX10_ofPort_2 (m_X10_isPort hI kc0 hc1) (fun H locs hP hS => ?_)
  refine lv_if_ne (pc := 5) (tgt := 11) C.1 C.2.1 dX10_ofPort_5 (by decide) (fun b5 => ?_) (fun b5 => ?_)
  · replace h := if_f h b5
    refine lv_aload_n (pc := 11) C.1 C.2.1 dX10_ofPort_11 rfl (lv_at hl 0 rfl) ?_
    refine x_getr (pc := 12) C hP ck_10 0 fl_X10_10 (by decide) rfl kc0 dX10_ofPort_12 ?_
    have k4 : wk LC (rfC c0 0) 9 := wt_f wT_C kc0 0 (by decide) rfl rfl
    refine x_getr (pc := 15) C hP ck_9 0 fl_X10_92 (by decide) rfl k4 dX10_ofPort_15 ?_
    have k5 : wk LC (rfC (rfC c0 0) 0) 14 := wt_f wT_C k4 0 (by decide) rfl rfl
    refine lv_iload_n (pc := 18) C.1 C.2.1 dX10_ofPort_18 rfl (lv_at hl 1 rfl) ?_
    obtain ⟨g6, h⟩ := gd_e h
    refine x_aald (pc := 19) C hP k5 (by decide) (by decide) (inB_vp g6) dX10_ofPort_19 ?_
    have k7 : wk LC (rfC (rfC (rfC c0 0) 0) (Int32.toNatClampNeg i1)) 4 := wt_a wT_C k5 (by decide) (inB_vp g6) rfl
    refine lv_astore_n (pc := 20) (lv' := [(3, .ref (ad (rfC (rfC (rfC c0 0) 0) (Int32.toNatClampNeg i1)))), (0, .ref (ad c0)), (1, .int i1), (2, .int i2)]) C.1 C.2.1 dX10_ofPort_20 rfl hl (by decide) rfl (fun ls hl => ?_)
    refine lv_iload_n (pc := 21) C.1 C.2.1 dX10_ofPort_21 rfl (lv_at hl 3 rfl) ?_
    by_cases b22_0 : i2 = 0
    · replace h := if_t h b22_0
      refine x_swIn (pc := 22) C (tgt := 56) 0 0 (by decide) b22_0 dX10_ofPort_22 (by decide) rfl (by decide) ?_
      refine lv_aload_n (pc := 56) C.1 C.2.1 dX10_ofPort_56 rfl (lv_at hl 0 rfl) ?_
      refine x_geti (pc := 57) C hP ck_4 1 fl_X10_96 (by decide) rfl k7 dX10_ofPort_57 ?_
      exact x_iret (pc := 60) C hr hlk hP hS h dX10_ofPort_60
    replace h := if_f h b22_0
    by_cases b22_1 : i2 = 1
    · replace h := if_t h b22_1
      refine x_swIn (pc := 22) C (tgt := 61) 1 1 (by decide) b22_1 dX10_ofPort_22 (by decide) rfl (by decide) ?_
      refine lv_aload_n (pc := 61) C.1 C.2.1 dX10_ofPort_61 rfl (lv_at hl 0 rfl) ?_
      refine x_geti (pc := 62) C hP ck_4 2 fl_X10_114 (by decide) rfl k7 dX10_ofPort_62 ?_
      exact x_iret (pc := 65) C hr hlk hP hS h dX10_ofPort_65
    replace h := if_f h b22_1
    by_cases b22_2 : i2 = 2
    · replace h := if_t h b22_2
      refine x_swIn (pc := 22) C (tgt := 66) 2 2 (by decide) b22_2 dX10_ofPort_22 (by decide) rfl (by decide) ?_
      refine lv_aload_n (pc := 66) C.1 C.2.1 dX10_ofPort_66 rfl (lv_at hl 0 rfl) ?_
      refine x_geti (pc := 67) C hP ck_4 3 fl_X10_117 (by decide) rfl k7 dX10_ofPort_67 ?_
      exact x_iret (pc := 70) C hr hlk hP hS h dX10_ofPort_70
    replace h := if_f h b22_2
    by_cases b22_3 : i2 = 3
    · replace h := if_t h b22_3
      refine x_swIn (pc := 22) C (tgt := 71) 3 3 (by decide) b22_3 dX10_ofPort_22 (by decide) rfl (by decide) ?_
      refine lv_aload_n (pc := 71) C.1 C.2.1 dX10_ofPort_71 rfl (lv_at hl 0 rfl) ?_
      refine x_geti (pc := 72) C hP ck_4 4 fl_X10_101 (by decide) rfl k7 dX10_ofPort_72 ?_
      obtain ⟨x10, v9, hc8, h⟩ := bi_e h
      refine x_callsi (pc := 75) C hP hS ms_X10_oneIf ml_X10_105 (hR.le (by decide)) (Nat.zero_le _) (Nat.zero_le _) [.int (v2 (rfC (rfC (rfC c0 0) 0) (Int32.toNatClampNeg i1)) 4)] rfl hl.1 rfl (Nat.le_of_ble_eq_true rfl) dX10_ofPort_75 (m_X10_oneIf hI hc8) (fun H locs hP hS => ?_)
      exact x_iret (pc := 78) C hr hlk hP hS h dX10_ofPort_78
    replace h := if_f h b22_3
    by_cases b22_4 : i2 = 4
    · replace h := if_t h b22_4
      refine x_swIn (pc := 22) C (tgt := 79) 4 4 (by decide) b22_4 dX10_ofPort_22 (by decide) rfl (by decide) ?_
      refine lv_aload_n (pc := 79) C.1 C.2.1 dX10_ofPort_79 rfl (lv_at hl 0 rfl) ?_
      obtain ⟨x13, v12, hc11, h⟩ := bi_e h
      refine x_calli (pc := 80) C hP hS mi_X4_hungerOfAll ck_4 k7 ml_X10_120 (hR.le (by decide)) (Nat.zero_le _) (Nat.zero_le _) [] rfl hl.1 rfl (Nat.le_of_ble_eq_true rfl) dX10_ofPort_80 (m_X4_hungerOfAll hI k7 hc11) (fun H locs hP hS => ?_)
      exact x_iret (pc := 83) C hr hlk hP hS h dX10_ofPort_83
    replace h := if_f h b22_4
    refine x_swOut (pc := 22) C (tgt := 84) dX10_ofPort_22 (by have := lv_neT b22_0 (a := 0) (by decide); have := lv_neT b22_1 (a := 1) (by decide); have := lv_neT b22_2 (a := 2) (by decide); have := lv_neT b22_3 (a := 3) (by decide); have := lv_neT b22_4 (a := 4) (by decide); omega) (by decide) ?_
    refine lv_ldc (pc := 84) (v := (-10000002)) C.1 C.2.1 C.2.2.2.1 (C.2.2.2.2.1 _ ct_X10_124) dX10_ofPort_84 ?_
    exact x_iret (pc := 86) C hr hlk hP hS h dX10_ofPort_86
  · replace h := if_t h b5
    refine lv_ldc (pc := 8) (v := (-10000001)) C.1 C.2.1 C.2.2.2.1 (C.2.2.2.2.1 _ ct_X10_113) dX10_ofPort_8 ?_
    exact x_iret (pc := 10) C hr hlk hP hS h dX10_ofPort_10
set_option maxRecDepth 100000 in
theorem m_X10_ofPort (hI : wI LC ad) {c0 : Nat} {i1 : Int32} {i2 : Int32} {v : VV} {rZ : Int32} {vZ : VV} (kc0 : wk LC c0 10) (h : F_X10_ofPort c0 i1 i2 v = some (rZ, vZ)) : Met l yX10_ofPort (Cond.code yX10_ofPort cX10_ofPort 4 (some .int) :: wsG) (rmL 3) (pcG LC cy ad D [.ref (ad c0), .int i1, .int i2] v) (qiG LC cy ad D rZ vZ) 0 0 (wA LC ad) := by
  refine Met.ofW (cc := cX10_ofPort) (maxL := 4) (ret := (some .int)) (by decide) rfl ?_
  intro p e s m args below meth c s₁ B hml hv
  obtain ⟨rfl, hP, hK⟩ := hv
  have hts := atoms_spec (ws := Cond.code yX10_ofPort cX10_ofPort 4 (some .int) :: wsG) B.pre
  have hown : s.vm.findClass RX10 = some m.cls := findClass_of_methodNamed B.named
  have C : Cx p s m _ c cX10_ofPort 4 RX10 D cy := ⟨B.exec, B.bytes, hml, hown, fun w hw => hts w (List.mem_cons_of_mem _ hw), hK⟩
  have hl := lv_entry ([.ref (ad c0), .int i1, .int i2]) (n := 4) (Nat.le_of_ble_eq_true rfl)
  rw [lg_entry_eq]
  generalize (lg_sl ([.ref (ad c0), .int i1, .int i2]) ++ List.replicate (4 - (lg_sl ([.ref (ad c0), .int i1, .int i2])).length) Slot.unset).toArray = ls at hl ⊢
  have hl : lv_has ls 4 [(0, .ref (ad c0)), (1, .int i1), (2, .int i2)] := hl
  exact w_X10_ofPort C hI B.returns B.notSynchronized (RoL_rm _) c0 i1 i2 v _ _ _ kc0 h hP va_S.rf (lv_sub hl [0, 1, 2] rfl)
end
