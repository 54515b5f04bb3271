section
variable {p : Program} {l : Launch} {e : Env} {R : Room} {s : State} {m : MethodId} {args : Array Value} {below : List Frame} {meth : Method} {c : Code} {D : va_G} {cy : Nat → ClassId} {ad : Nat → Nat}
def f_X11_in (j0 : Int64) (j2 : Int64) (j4 : Int64) (v : VV) : Option (Int32 × VV) :=
  if ((lg_cmp j0 j2) < 0) then
    some (0, v)
  else
    if (0 < (lg_cmp j0 j4)) then
      some (0, v)
    else
      some (1, v)
abbrev F_X11_in (j0 : Int64) (j2 : Int64) (j4 : Int64) (v : VV) : Option (Int32 × VV) := f_X11_in j0 j2 j4 v
set_option maxHeartbeats 4000000 in
set_option maxRecDepth 100000 in
theorem w_X11_in (C : Cx p s m args c cX11_in 6 RX11 D cy) (hI : wI LM ad) (hr : meth.sig.returnType = some .boolean) (hlk : meth.locks = false) (hR : RoL 1 R) {rZ : Int32} {vZ : VV} : ∀ (j0 : Int64) (j2 : Int64) (j4 : Int64) (v : VV) (H : Heap) (locs : List Loc) (ls : Array Slot), f_X11_in j0 j2 j4 v = some (rZ, vZ) → va_P D vwCl (wd LM cy ad v) H → va_S (wA LM ad) s.heap H locs → lv_has ls 6 [(0, .long j0), (2, .long j2), (4, .long j4)] → W p l e R s m args below meth c H locs 0 0 (MQ below (qiG LM cy ad D rZ vZ) args s 0 0 (wA LM ad)) (F0 m 0 ls []) := by
  intro j0 j2 j4 v H locs ls h hP hS hl
  unfold f_X11_in at h
  refine lv_lload_n (pc := 0) C.1 C.2.1 dX11_in_0 rfl (lv_at hl 0 rfl) ?_
  refine lv_lload_n (pc := 1) C.1 C.2.1 dX11_in_1 rfl (lv_at hl 1 rfl) ?_
  refine W.lcmp (pc := 2) C.1 C.2.1 dX11_in_2 ?_
  refine lv_if_lt (pc := 3) (tgt := 17) C.1 C.2.1 dX11_in_3 (by decide) (fun b3 => ?_) (fun b3 => ?_)
  · replace h := if_t h b3
    refine lv_iconst (pc := 17) (v := 0) C.1 C.2.1 dX11_in_17 (by decide) ?_
    exact x_zret (pc := 18) C hr hlk hP hS (by decide) h dX11_in_18
  · replace h := if_f h b3
    refine lv_lload_n (pc := 6) C.1 C.2.1 dX11_in_6 rfl (lv_at hl 0 rfl) ?_
    refine lv_lload (pc := 7) C.1 C.2.1 dX11_in_7 (lv_at hl 2 rfl) ?_
    refine W.lcmp (pc := 9) C.1 C.2.1 dX11_in_9 ?_
    refine lv_if_gt (pc := 10) (tgt := 17) C.1 C.2.1 dX11_in_10 (by decide) (fun b10 => ?_) (fun b10 => ?_)
    · replace h := if_t h b10
      refine lv_iconst (pc := 17) (v := 0) C.1 C.2.1 dX11_in_17 (by decide) ?_
      exact x_zret (pc := 18) C hr hlk hP hS (by decide) h dX11_in_18
    · replace h := if_f h b10
      refine lv_iconst (pc := 13) (v := 1) C.1 C.2.1 dX11_in_13 (by decide) ?_
      refine lv_goto (pc := 14) (tgt := 18) C.1 C.2.1 dX11_in_14 (by decide) ?_
      exact x_zret (pc := 18) C hr hlk hP hS (by decide) h dX11_in_18
set_option maxRecDepth 100000 in
theorem m_X11_in (hI : wI LM ad) {j0 : Int64} {j2 : Int64} {j4 : Int64} {v : VV} {rZ : Int32} {vZ : VV} (h : F_X11_in j0 j2 j4 v = some (rZ, vZ)) : Met l yX11_in (Cond.code yX11_in cX11_in 6 (some .boolean) :: wsG) (rmL 1) (pcG LM cy ad D [.long j0, .long j2, .long j4] v) (qiG LM cy ad D rZ vZ) 0 0 (wA LM ad) := by
  refine Met.ofW (cc := cX11_in) (maxL := 6) (ret := (some .boolean)) (by decide) rfl ?_
  intro p e s m args below meth c s₁ B hml hv
  obtain ⟨rfl, hP, hK⟩ := hv
  have hts := atoms_spec (ws := Cond.code yX11_in cX11_in 6 (some .boolean) :: wsG) B.pre
  have hown : s.vm.findClass RX11 = some m.cls := findClass_of_methodNamed B.named
  have C : Cx p s m _ c cX11_in 6 RX11 D cy := ⟨B.exec, B.bytes, hml, hown, fun w hw => hts w (List.mem_cons_of_mem _ hw), hK⟩
  have hl := lv_entry ([.long j0, .long j2, .long j4]) (n := 6) (Nat.le_of_ble_eq_true rfl)
  rw [lg_entry_eq]
  generalize (lg_sl ([.long j0, .long j2, .long j4]) ++ List.replicate (6 - (lg_sl ([.long j0, .long j2, .long j4])).length) Slot.unset).toArray = ls at hl ⊢
  have hl : lv_has ls 6 [(0, .long j0), (2, .long j2), (4, .long j4)] := hl
  exact w_X11_in C hI B.returns B.notSynchronized (RoL_rm _) j0 j2 j4 v _ _ _ h hP va_S.rf (lv_sub hl [0, 1, 2] rfl)
def f_X11_isPort (c0 : Nat) (i1 : Int32) (v : VV) : Option (Int32 × VV) :=
  bi (F_X11_in (Int32.toInt64 i1) 0 (Int32.toInt64 ((v c0 0) - 1)) v) fun x3 v2 =>
  gd (x3 &&& 1 = x3) <|
  some (x3, v2)
abbrev F_X11_isPort (c0 : Nat) (i1 : Int32) (v : VV) : Option (Int32 × VV) := f_X11_isPort c0 i1 v
set_option maxHeartbeats 4000000 in
set_option maxRecDepth 100000 in
theorem w_X11_isPort (C : Cx p s m args c cX11_isPort 2 RX11 D cy) (hI : wI LM ad) (hr : meth.sig.returnType = some .boolean) (hlk : meth.locks = false) (hR : RoL 2 R) {rZ : Int32} {vZ : VV} : ∀ (c0 : Nat) (i1 : Int32) (v : VV) (H : Heap) (locs : List Loc) (ls : Array Slot), wk LM c0 11 → f_X11_isPort c0 i1 v = some (rZ, vZ) → va_P D vwCl (wd LM cy ad v) H → va_S (wA LM ad) s.heap H locs → lv_has ls 2 [(0, .ref (ad c0)), (1, .int i1)] → W p l e R s m args below meth c H locs 0 0 (MQ below (qiG LM cy ad D rZ vZ) args s 0 0 (wA LM ad)) (F0 m 0 ls []) := by
  intro c0 i1 v H locs ls kc0 h hP hS hl
  unfold f_X11_isPort at h
  refine lv_iload_n (pc := 0) C.1 C.2.1 dX11_isPort_0 rfl (lv_at hl 1 rfl) ?_
  refine lv_i2l (pc := 1) C.1 C.2.1 dX11_isPort_1 rfl ?_
  refine lv_lconst (pc := 2) (v := 0) C.1 C.2.1 dX11_isPort_2 (by decide) ?_
  refine lv_aload_n (pc := 3) C.1 C.2.1 dX11_isPort_3 rfl (lv_at hl 0 rfl) ?_
  refine x_geti (pc := 4) C hP ck_11 0 fl_X11_90 (by decide) rfl kc0 dX11_isPort_4 ?_
  refine lv_iconst (pc := 7) (v := 1) C.1 C.2.1 dX11_isPort_7 (by decide) ?_
  refine lv_isub (pc := 8) C.1 C.2.1 dX11_isPort_8 ?_
  refine lv_i2l (pc := 9) C.1 C.2.1 dX11_isPort_9 rfl ?_
  obtain ⟨x3, v2, hc1, h⟩ := bi_e h
  refine x_callsi (pc := 10) C hP hS ms_X11_in ml_X11_93 (hR.le (by decide)) (Nat.zero_le _) (Nat.zero_le _) [.long (Int32.toInt64 i1), .long 0, .long (Int32.toInt64 ((v c0 0) - 1))] rfl hl.1 rfl (Nat.le_of_ble_eq_true rfl) dX11_isPort_10 (m_X11_in hI hc1) (fun H locs hP hS => ?_)
  obtain ⟨g4, h⟩ := gd_e h
  exact x_zret (pc := 13) C hr hlk hP hS g4 h dX11_isPort_13
set_option maxRecDepth 100000 in
theorem m_X11_isPort (hI : wI LM ad) {c0 : Nat} {i1 : Int32} {v : VV} {rZ : Int32} {vZ : VV} (kc0 : wk LM c0 11) (h : F_X11_isPort c0 i1 v = some (rZ, vZ)) : Met l yX11_isPort (Cond.code yX11_isPort cX11_isPort 2 (some .boolean) :: wsG) (rmL 2) (pcG LM cy ad D [.ref (ad c0), .int i1] v) (qiG LM cy ad D rZ vZ) 0 0 (wA LM ad) := by
  refine Met.ofW (cc := cX11_isPort) (maxL := 2) (ret := (some .boolean)) (by decide) rfl ?_
  intro p e s m args below meth c s₁ B hml hv
  obtain ⟨rfl, hP, hK⟩ := hv
  have hts := atoms_spec (ws := Cond.code yX11_isPort cX11_isPort 2 (some .boolean) :: wsG) B.pre
  have hown : s.vm.findClass RX11 = some m.cls := findClass_of_methodNamed B.named
  have C : Cx p s m _ c cX11_isPort 2 RX11 D cy := ⟨B.exec, B.bytes, hml, hown, fun w hw => hts w (List.mem_cons_of_mem _ hw), hK⟩
  have hl := lv_entry ([.ref (ad c0), .int i1]) (n := 2) (Nat.le_of_ble_eq_true rfl)
  rw [lg_entry_eq]
  generalize (lg_sl ([.ref (ad c0), .int i1]) ++ List.replicate (2 - (lg_sl ([.ref (ad c0), .int i1])).length) Slot.unset).toArray = ls at hl ⊢
  have hl : lv_has ls 2 [(0, .ref (ad c0)), (1, .int i1)] := hl
  exact w_X11_isPort C hI B.returns B.notSynchronized (RoL_rm _) c0 i1 v _ _ _ kc0 h hP va_S.rf (lv_sub hl [0, 1] rfl)
def f_X11_isGood (i0 : Int32) (v : VV) : Option (Int32 × VV) :=
  bi (F_X11_in (Int32.toInt64 i0) 0 2 v) fun x3 v2 =>
  gd (x3 &&& 1 = x3) <|
  some (x3, v2)
abbrev F_X11_isGood (i0 : Int32) (v : VV) : Option (Int32 × VV) := f_X11_isGood i0 v
set_option maxHeartbeats 4000000 in
set_option maxRecDepth 100000 in
theorem w_X11_isGood (C : Cx p s m args c cX11_isGood 1 RX11 D cy) (hI : wI LM ad) (hr : meth.sig.returnType = some .boolean) (hlk : meth.locks = false) (hR : RoL 2 R) {rZ : Int32} {vZ : VV} : ∀ (i0 : Int32) (v : VV) (H : Heap) (locs : List Loc) (ls : Array Slot), f_X11_isGood i0 v = some (rZ, vZ) → va_P D vwCl (wd LM cy ad v) H → va_S (wA LM ad) s.heap H locs → lv_has ls 1 [(0, .int i0)] → W p l e R s m args below meth c H locs 0 0 (MQ below (qiG LM cy ad D rZ vZ) args s 0 0 (wA LM ad)) (F0 m 0 ls []) := by
  intro i0 v H locs ls h hP hS hl
  unfold f_X11_isGood at h
  refine lv_iload_n (pc := 0) C.1 C.2.1 dX11_isGood_0 rfl (lv_at hl 0 rfl) ?_
  refine lv_i2l (pc := 1) C.1 C.2.1 dX11_isGood_1 rfl ?_
  refine lv_lconst (pc := 2) (v := 0) C.1 C.2.1 dX11_isGood_2 (by decide) ?_
  refine lv_ldc2 (pc := 3) (v := 2) C.1 C.2.1 C.2.2.2.1 (C.2.2.2.2.1 _ cl_X11_97) dX11_isGood_3 ?_
  obtain ⟨x3, v2, hc1, h⟩ := bi_e h
  refine x_callsi (pc := 6) C hP hS ms_X11_in ml_X11_93 (hR.le (by decide)) (Nat.zero_le _) (Nat.zero_le _) [.long (Int32.toInt64 i0), .long 0, .long 2] rfl hl.1 rfl (Nat.le_of_ble_eq_true rfl) dX11_isGood_6 (m_X11_in hI hc1) (fun H locs hP hS => ?_)
  obtain ⟨g4, h⟩ := gd_e h
  exact x_zret (pc := 9) C hr hlk hP hS g4 h dX11_isGood_9
set_option maxRecDepth 100000 in
theorem m_X11_isGood (hI : wI LM ad) {i0 : Int32} {v : VV} {rZ : Int32} {vZ : VV} (h : F_X11_isGood i0 v = some (rZ, vZ)) : Met l yX11_isGood (Cond.code yX11_isGood cX11_isGood 1 (some .boolean) :: wsG) (rmL 2) (pcG LM cy ad D [.int i0] v) (qiG LM cy ad D rZ vZ) 0 0 (wA LM ad) := by
  refine Met.ofW (cc := cX11_isGood) (maxL := 1) (ret := (some .boolean)) (by decide) rfl ?_
  intro p e s m args below meth c s₁ B hml hv
  obtain ⟨rfl, hP, hK⟩ := hv
  have hts := atoms_spec (ws := Cond.code yX11_isGood cX11_isGood 1 (some .boolean) :: wsG) B.pre
  have hown : s.vm.findClass RX11 = some m.cls := findClass_of_methodNamed B.named
  have C : Cx p s m _ c cX11_isGood 1 RX11 D cy := ⟨B.exec, B.bytes, hml, hown, fun w hw => hts w (List.mem_cons_of_mem _ hw), hK⟩
  have hl := lv_entry ([.int i0]) (n := 1) (Nat.le_of_ble_eq_true rfl)
  rw [lg_entry_eq]
  generalize (lg_sl ([.int i0]) ++ List.replicate (1 - (lg_sl ([.int i0])).length) Slot.unset).toArray = ls at hl ⊢
  have hl : lv_has ls 1 [(0, .int i0)] := hl
  exact w_X11_isGood C hI B.returns B.notSynchronized (RoL_rm _) i0 v _ _ _ h hP va_S.rf (lv_sub hl [0] rfl)
def f_X11_port_l14 (k55 : Nat → VV → Option (Int32 × VV)) : Nat → Nat → Int32 → VV → Option (Int32 × VV)
  | 0, _, _, _ => none
  | n + 1, c0, i1, v =>
    if (3 ≤ i1) then
      k55 c0 v
    else
      gd (inB ((3 * (v c0 0)) + i1) (lnM (rfM c0 6)) = true) <|
      nv (wu v (rfM c0 6) (Int32.toNatClampNeg ((3 * (v c0 0)) + i1)) 10) fun v3 =>
      gd (inB ((3 * (v3 c0 0)) + i1) (lnM (rfM c0 7)) = true) <|
      nv (wu v3 (rfM c0 7) (Int32.toNatClampNeg ((3 * (v3 c0 0)) + i1)) 10) fun v6 =>
      nv (i1 + 1) fun x7 =>
      f_X11_port_l14 k55 n c0 x7 v6
def f_X11_port (c0 : Nat) (v : VV) : Option (Int32 × VV) :=
  if ((v c0 0) = 6) then
    some ((-4), v)
  else
    f_X11_port_l14 (fun c0_8 v_8 =>
    nv (wu v_8 c0_8 0 ((v_8 c0_8 0) + 1)) fun v9 =>
    some (((v9 c0_8 0) - 1), v9)) FU c0 0 v
abbrev F_X11_port (c0 : Nat) (v : VV) : Option (Int32 × VV) := f_X11_port c0 v
set_option maxHeartbeats 4000000 in
set_option maxRecDepth 100000 in
theorem w_X11_port_l14 (C : Cx p s m args c cX11_port 2 RX11 D cy) (hI : wI LM ad) (hr : meth.sig.returnType = some .int) (hlk : meth.locks = false) (hR : RoL 1 R) (k55 : Nat → VV → Option (Int32 × VV)) {rZ : Int32} {vZ : VV} (h55 : ∀ (c0 : Nat) (v : VV) (H : Heap) (locs : List Loc) (ls : Array Slot), wk LM c0 11 → k55 c0 v = some (rZ, vZ) → va_P D vwCl (wd LM cy ad v) H → va_S (wA LM ad) s.heap H locs → lv_has ls 2 [(0, .ref (ad c0))] → W p l e R s m args below meth c H locs 0 0 (MQ below (qiG LM cy ad D rZ vZ) args s 0 0 (wA LM ad)) (F0 m 55 ls [])) : ∀ (n : Nat) (c0 : Nat) (i1 : Int32) (v : VV) (H : Heap) (locs : List Loc) (ls : Array Slot), wk LM c0 11 → f_X11_port_l14 k55 n c0 i1 v = some (rZ, vZ) → va_P D vwCl (wd LM cy ad v) H → va_S (wA LM ad) s.heap H locs → lv_has ls 2 [(0, .ref (ad c0)), (1, .int i1)] → W p l e R s m args below meth c H locs 0 0 (MQ below (qiG LM cy ad D rZ vZ) args s 0 0 (wA LM ad)) (F0 m 14 ls []) := by
  intro n
  induction n with
  | zero => intro c0 i1 v H locs ls kc0 h hP hS hl; exact absurd h (by simp [f_X11_port_l14])
  | succ n ih =>
    intro c0 i1 v H locs ls kc0 h hP hS hl
    rw [f_X11_port_l14] at h
    refine lv_iload_n (pc := 14) C.1 C.2.1 dX11_port_14 rfl (lv_at hl 1 rfl) ?_
    refine lv_iconst (pc := 15) (v := 3) C.1 C.2.1 dX11_port_15 (by decide) ?_
    refine lv_icmp_ge (pc := 16) (tgt := 55) C.1 C.2.1 dX11_port_16 (by decide) (fun b16 => ?_) (fun b16 => ?_)
    · replace h := if_t h b16
      exact h55 c0 v _ _ _ kc0 h hP hS (lv_sub hl [0] rfl)
    · replace h := if_f h b16
      refine lv_aload_n (pc := 19) C.1 C.2.1 dX11_port_19 rfl (lv_at hl 0 rfl) ?_
      refine x_getr (pc := 20) C hP ck_11 6 fl_X11_23 (by decide) rfl kc0 dX11_port_20 ?_
      have k1 : wk LM (rfM c0 6) 12 := wt_f wT_M kc0 6 (by decide) rfl rfl
      refine lv_iconst (pc := 23) (v := 3) C.1 C.2.1 dX11_port_23 (by decide) ?_
      refine lv_aload_n (pc := 24) C.1 C.2.1 dX11_port_24 rfl (lv_at hl 0 rfl) ?_
      refine x_geti (pc := 25) C hP ck_11 0 fl_X11_90 (by decide) rfl kc0 dX11_port_25 ?_
      refine lv_imul (pc := 28) C.1 C.2.1 dX11_port_28 ?_
      refine lv_iload_n (pc := 29) C.1 C.2.1 dX11_port_29 rfl (lv_at hl 1 rfl) ?_
      refine lv_iadd (pc := 30) C.1 C.2.1 dX11_port_30 ?_
      refine lv_bipush (pc := 31) (v := 10) C.1 C.2.1 dX11_port_31 (by decide) ?_
      obtain ⟨g2, h⟩ := gd_e h
      refine x_iast (pc := 33) C hI hP hS k1 (inB_vp g2) dX11_port_33 (fun H locs hP hS => ?_)
      obtain ⟨v3, h, hP⟩ := nv_p (P := fun z => va_P D vwCl (wd LM cy ad z) H) h hP
      refine lv_aload_n (pc := 34) C.1 C.2.1 dX11_port_34 rfl (lv_at hl 0 rfl) ?_
      refine x_getr (pc := 35) C hP ck_11 7 fl_X11_26 (by decide) rfl kc0 dX11_port_35 ?_
      have k4 : wk LM (rfM c0 7) 12 := wt_f wT_M kc0 7 (by decide) rfl rfl
      refine lv_iconst (pc := 38) (v := 3) C.1 C.2.1 dX11_port_38 (by decide) ?_
      refine lv_aload_n (pc := 39) C.1 C.2.1 dX11_port_39 rfl (lv_at hl 0 rfl) ?_
      refine x_geti (pc := 40) C hP ck_11 0 fl_X11_90 (by decide) rfl kc0 dX11_port_40 ?_
      refine lv_imul (pc := 43) C.1 C.2.1 dX11_port_43 ?_
      refine lv_iload_n (pc := 44) C.1 C.2.1 dX11_port_44 rfl (lv_at hl 1 rfl) ?_
      refine lv_iadd (pc := 45) C.1 C.2.1 dX11_port_45 ?_
      refine lv_bipush (pc := 46) (v := 10) C.1 C.2.1 dX11_port_46 (by decide) ?_
      obtain ⟨g5, h⟩ := gd_e h
      refine x_iast (pc := 48) C hI hP hS k4 (inB_vp g5) dX11_port_48 (fun H locs hP hS => ?_)
      obtain ⟨v6, h, hP⟩ := nv_p (P := fun z => va_P D vwCl (wd LM cy ad z) H) h hP
      obtain ⟨x7, ex7⟩ : ∃ y : Int32, y = i1 + 1 := ⟨_, rfl⟩
      replace h := nv_e h ex7
      refine lv_iinc (pc := 49) (v := x7) (lv' := [(1, .int x7), (0, .ref (ad c0))]) C.1 C.2.1 dX11_port_49 hl (k := 1) rfl (by rw [ex7]; rfl) (by decide) rfl (fun ls hl => ?_)
      clear ex7
      refine lv_goto (pc := 52) (tgt := 14) C.1 C.2.1 dX11_port_52 (by decide) ?_
      exact ih c0 x7 v6 _ _ _ kc0 h hP hS (lv_sub hl [1, 0] rfl)
set_option maxHeartbeats 4000000 in
set_option maxRecDepth 100000 in
theorem w_X11_port (C : Cx p s m args c cX11_port 2 RX11 D cy) (hI : wI LM ad) (hr : meth.sig.returnType = some .int) (hlk : meth.locks = false) (hR : RoL 1 R) {rZ : Int32} {vZ : VV} : ∀ (c0 : Nat) (v : VV) (H : Heap) (locs : List Loc) (ls : Array Slot), wk LM c0 11 → f_X11_port c0 v = some (rZ, vZ) → va_P D vwCl (wd LM cy ad v) H → va_S (wA LM ad) s.heap H locs → lv_has ls 2 [(0, .ref (ad c0))] → W p l e R s m args below meth c H locs 0 0 (MQ below (qiG LM cy ad D rZ vZ) args s 0 0 (wA LM ad)) (F0 m 0 ls []) := by
  intro c0 v H locs ls kc0 h hP hS hl
  unfold f_X11_port at h
  refine lv_aload_n (pc := 0) C.1 C.2.1 dX11_port_0 rfl (lv_at hl 0 rfl) ?_
  refine x_geti (pc := 1) C hP ck_11 0 fl_X11_90 (by decide) rfl kc0 dX11_port_1 ?_
  refine lv_bipush (pc := 4) (v := 6) C.1 C.2.1 dX11_port_4 (by decide) ?_
  refine lv_icmp_ne (pc := 6) (tgt := 12) C.1 C.2.1 dX11_port_6 (by decide) (fun b6 => ?_) (fun b6 => ?_)
  · replace h := if_f h b6
    refine lv_iconst (pc := 12) (v := 0) C.1 C.2.1 dX11_port_12 (by decide) ?_
    refine lv_istore_n (pc := 13) (lv' := [(1, .int 0), (0, .ref (ad c0))]) C.1 C.2.1 dX11_port_13 rfl hl (by decide) rfl (fun ls hl => ?_)
    refine w_X11_port_l14 C hI hr hlk hR _ ?_ FU c0 0 v _ _ _ kc0 h hP hS (lv_sub hl [1, 0] rfl)
    intro c0_8 v_8 H locs ls kc0_8 h hP hS hl
    refine lv_aload_n (pc := 55) C.1 C.2.1 dX11_port_55 rfl (lv_at hl 0 rfl) ?_
    refine lv_dup (pc := 56) C.1 C.2.1 dX11_port_56 rfl ?_
    refine x_geti (pc := 57) C hP ck_11 0 fl_X11_90 (by decide) rfl kc0_8 dX11_port_57 ?_
    refine lv_iconst (pc := 60) (v := 1) C.1 C.2.1 dX11_port_60 (by decide) ?_
    refine lv_iadd (pc := 61) C.1 C.2.1 dX11_port_61 ?_
    refine x_put (pc := 62) C hI hP hS ck_11 0 fl_X11_90 (by decide) rfl rfl kc0_8 rfl rfl dX11_port_62 (fun H locs hP hS => ?_)
    obtain ⟨v9, h, hP⟩ := nv_p (P := fun z => va_P D vwCl (wd LM cy ad z) H) h hP
    refine lv_aload_n (pc := 65) C.1 C.2.1 dX11_port_65 rfl (lv_at hl 0 rfl) ?_
    refine x_geti (pc := 66) C hP ck_11 0 fl_X11_90 (by decide) rfl kc0_8 dX11_port_66 ?_
    refine lv_iconst (pc := 69) (v := 1) C.1 C.2.1 dX11_port_69 (by decide) ?_
    refine lv_isub (pc := 70) C.1 C.2.1 dX11_port_70 ?_
    exact x_iret (pc := 71) C hr hlk hP hS h dX11_port_71
  · replace h := if_t h b6
    refine lv_bipush (pc := 9) (v := (-4)) C.1 C.2.1 dX11_port_9 (by decide) ?_
    exact x_iret (pc := 11) C hr hlk hP hS h dX11_port_11
set_option maxRecDepth 100000 in
theorem m_X11_port (hI : wI LM ad) {c0 : Nat} {v : VV} {rZ : Int32} {vZ : VV} (kc0 : wk LM c0 11) (h : F_X11_port c0 v = some (rZ, vZ)) : Met l yX11_port (Cond.code yX11_port cX11_port 2 (some .int) :: wsG) (rmL 1) (pcG LM cy ad D [.ref (ad c0)] v) (qiG LM cy ad D rZ vZ) 0 0 (wA LM ad) := by
  refine Met.ofW (cc := cX11_port) (maxL := 2) (ret := (some .int)) (by decide) rfl ?_
  intro p e s m args below meth c s₁ B hml hv
  obtain ⟨rfl, hP, hK⟩ := hv
  have hts := atoms_spec (ws := Cond.code yX11_port cX11_port 2 (some .int) :: wsG) B.pre
  have hown : s.vm.findClass RX11 = some m.cls := findClass_of_methodNamed B.named
  have C : Cx p s m _ c cX11_port 2 RX11 D cy := ⟨B.exec, B.bytes, hml, hown, fun w hw => hts w (List.mem_cons_of_mem _ hw), hK⟩
  have hl := lv_entry ([.ref (ad c0)]) (n := 2) (Nat.le_of_ble_eq_true rfl)
  rw [lg_entry_eq]
  generalize (lg_sl ([.ref (ad c0)]) ++ List.replicate (2 - (lg_sl ([.ref (ad c0)])).length) Slot.unset).toArray = ls at hl ⊢
  have hl : lv_has ls 2 [(0, .ref (ad c0))] := hl
  exact w_X11_port C hI B.returns B.notSynchronized (RoL_rm _) c0 v _ _ _ kc0 h hP va_S.rf (lv_sub hl [0] rfl)
def f_X11_of (c0 : Nat) (i1 : Int32) (i2 : Int32) (v : VV) : Option (Int32 × VV) :=
  if i2 = 0 then
    gd (inB i1 (lnM (rfM c0 3)) = true) <|
    some ((v (rfM c0 3) (Int32.toNatClampNeg i1)), v)
  else
  if i2 = 1 then
    gd (inB i1 (lnM (rfM c0 4)) = true) <|
    some ((v (rfM c0 4) (Int32.toNatClampNeg i1)), v)
  else
  if i2 = 2 then
    gd (inB i1 (lnM (rfM c0 5)) = true) <|
    some ((v (rfM c0 5) (Int32.toNatClampNeg i1)), v)
  else
  if i2 = 3 then
    gd (inB i1 (lnM (rfM c0 6)) = true) <|
    some ((v (rfM c0 6) (Int32.toNatClampNeg i1)), v)
  else
  gd (inB i1 (lnM (rfM c0 7)) = true) <|
  some ((v (rfM c0 7) (Int32.toNatClampNeg i1)), v)
abbrev F_X11_of (c0 : Nat) (i1 : Int32) (i2 : Int32) (v : VV) : Option (Int32 × VV) := f_X11_of c0 i1 i2 v
set_option maxHeartbeats 4000000 in
set_option maxRecDepth 100000 in
theorem w_X11_of (C : Cx p s m args c cX11_of 3 RX11 D cy) (hI : wI LM ad) (hr : meth.sig.returnType = some .int) (hlk : meth.locks = false) (hR : RoL 1 R) {rZ : Int32} {vZ : VV} : ∀ (c0 : Nat) (i1 : Int32) (i2 : Int32) (v : VV) (H : Heap) (locs : List Loc) (ls : Array Slot), wk LM c0 11 → f_X11_of c0 i1 i2 v = some (rZ, vZ) → va_P D vwCl (wd LM cy ad v) H → va_S (wA LM ad) s.heap H locs → lv_has ls 3 [(0, .ref (ad c0)), (1, .int i1), (2, .int i2)] → W p l e R s m args below meth c H locs 0 0 (MQ below (qiG LM cy ad D rZ vZ) args s 0 0 (wA LM ad)) (F0 m 0 ls []) := by
  intro c0 i1 i2 v H locs ls kc0 h hP hS hl
  unfold f_X11_of at h
  refine lv_iload_n (pc := 0) C.1 C.2.1 dX11_of_0 rfl (lv_at hl 2 rfl) ?_
  by_cases b1_0 : i2 = 0
  · replace h := if_t h b1_0
    refine x_swIn (pc := 1) C (tgt := 32) 0 0 (by decide) b1_0 dX11_of_1 (by decide) rfl (by decide) ?_
    refine lv_aload_n (pc := 32) C.1 C.2.1 dX11_of_32 rfl (lv_at hl 0 rfl) ?_
    refine x_getr (pc := 33) C hP ck_11 3 fl_X11_13 (by decide) rfl kc0 dX11_of_33 ?_
    have k1 : wk LM (rfM c0 3) 12 := wt_f wT_M kc0 3 (by decide) rfl rfl
    refine lv_iload_n (pc := 36) C.1 C.2.1 dX11_of_36 rfl (lv_at hl 1 rfl) ?_
    obtain ⟨g2, h⟩ := gd_e h
    refine x_iald (pc := 37) C hP k1 (inB_vp g2) dX11_of_37 ?_
    exact x_iret (pc := 38) C hr hlk hP hS h dX11_of_38
  replace h := if_f h b1_0
  by_cases b1_1 : i2 = 1
  · replace h := if_t h b1_1
    refine x_swIn (pc := 1) C (tgt := 39) 1 1 (by decide) b1_1 dX11_of_1 (by decide) rfl (by decide) ?_
    refine lv_aload_n (pc := 39) C.1 C.2.1 dX11_of_39 rfl (lv_at hl 0 rfl) ?_
    refine x_getr (pc := 40) C hP ck_11 4 fl_X11_17 (by decide) rfl kc0 dX11_of_40 ?_
    have k3 : wk LM (rfM c0 4) 12 := wt_f wT_M kc0 4 (by decide) rfl rfl
    refine lv_iload_n (pc := 43) C.1 C.2.1 dX11_of_43 rfl (lv_at hl 1 rfl) ?_
    obtain ⟨g4, h⟩ := gd_e h
    refine x_iald (pc := 44) C hP k3 (inB_vp g4) dX11_of_44 ?_
    exact x_iret (pc := 45) C hr hlk hP hS h dX11_of_45
  replace h := if_f h b1_1
  by_cases b1_2 : i2 = 2
  · replace h := if_t h b1_2
    refine x_swIn (pc := 1) C (tgt := 46) 2 2 (by decide) b1_2 dX11_of_1 (by decide) rfl (by decide) ?_
    refine lv_aload_n (pc := 46) C.1 C.2.1 dX11_of_46 rfl (lv_at hl 0 rfl) ?_
    refine x_getr (pc := 47) C hP ck_11 5 fl_X11_20 (by decide) rfl kc0 dX11_of_47 ?_
    have k5 : wk LM (rfM c0 5) 12 := wt_f wT_M kc0 5 (by decide) rfl rfl
    refine lv_iload_n (pc := 50) C.1 C.2.1 dX11_of_50 rfl (lv_at hl 1 rfl) ?_
    obtain ⟨g6, h⟩ := gd_e h
    refine x_iald (pc := 51) C hP k5 (inB_vp g6) dX11_of_51 ?_
    exact x_iret (pc := 52) C hr hlk hP hS h dX11_of_52
  replace h := if_f h b1_2
  by_cases b1_3 : i2 = 3
  · replace h := if_t h b1_3
    refine x_swIn (pc := 1) C (tgt := 53) 3 3 (by decide) b1_3 dX11_of_1 (by decide) rfl (by decide) ?_
    refine lv_aload_n (pc := 53) C.1 C.2.1 dX11_of_53 rfl (lv_at hl 0 rfl) ?_
    refine x_getr (pc := 54) C hP ck_11 6 fl_X11_23 (by decide) rfl kc0 dX11_of_54 ?_
    have k7 : wk LM (rfM c0 6) 12 := wt_f wT_M kc0 6 (by decide) rfl rfl
    refine lv_iload_n (pc := 57) C.1 C.2.1 dX11_of_57 rfl (lv_at hl 1 rfl) ?_
    obtain ⟨g8, h⟩ := gd_e h
    refine x_iald (pc := 58) C hP k7 (inB_vp g8) dX11_of_58 ?_
    exact x_iret (pc := 59) C hr hlk hP hS h dX11_of_59
  replace h := if_f h b1_3
  refine x_swOut (pc := 1) C (tgt := 60) dX11_of_1 (by have := lv_neT b1_0 (a := 0) (by decide); have := lv_neT b1_1 (a := 1) (by decide); have := lv_neT b1_2 (a := 2) (by decide); have := lv_neT b1_3 (a := 3) (by decide); omega) (by decide) ?_
  refine lv_aload_n (pc := 60) C.1 C.2.1 dX11_of_60 rfl (lv_at hl 0 rfl) ?_
  refine x_getr (pc := 61) C hP ck_11 7 fl_X11_26 (by decide) rfl kc0 dX11_of_61 ?_
  have k9 : wk LM (rfM c0 7) 12 := wt_f wT_M kc0 7 (by decide) rfl rfl
  refine lv_iload_n (pc := 64) C.1 C.2.1 dX11_of_64 rfl (lv_at hl 1 rfl) ?_
  obtain ⟨g10, h⟩ := gd_e h
  refine x_iald (pc := 65) C hP k9 (inB_vp g10) dX11_of_65 ?_
  exact x_iret (pc := 66) C hr hlk hP hS h dX11_of_66
set_option maxRecDepth 100000 in
theorem m_X11_of (hI : wI LM ad) {c0 : Nat} {i1 : Int32} {i2 : Int32} {v : VV} {rZ : Int32} {vZ : VV} (kc0 : wk LM c0 11) (h : F_X11_of c0 i1 i2 v = some (rZ, vZ)) : Met l yX11_of (Cond.code yX11_of cX11_of 3 (some .int) :: wsG) (rmL 1) (pcG LM cy ad D [.ref (ad c0), .int i1, .int i2] v) (qiG LM cy ad D rZ vZ) 0 0 (wA LM ad) := by
  refine Met.ofW (cc := cX11_of) (maxL := 3) (ret := (some .int)) (by decide) rfl ?_
  intro p e s m args below meth c s₁ B hml hv
  obtain ⟨rfl, hP, hK⟩ := hv
  have hts := atoms_spec (ws := Cond.code yX11_of cX11_of 3 (some .int) :: wsG) B.pre
  have hown : s.vm.findClass RX11 = some m.cls := findClass_of_methodNamed B.named
  have C : Cx p s m _ c cX11_of 3 RX11 D cy := ⟨B.exec, B.bytes, hml, hown, fun w hw => hts w (List.mem_cons_of_mem _ hw), hK⟩
  have hl := lv_entry ([.ref (ad c0), .int i1, .int i2]) (n := 3) (Nat.le_of_ble_eq_true rfl)
  rw [lg_entry_eq]
  generalize (lg_sl ([.ref (ad c0), .int i1, .int i2]) ++ List.replicate (3 - (lg_sl ([.ref (ad c0), .int i1, .int i2])).length) Slot.unset).toArray = ls at hl ⊢
  have hl : lv_has ls 3 [(0, .ref (ad c0)), (1, .int i1), (2, .int i2)] := hl
  exact w_X11_of C hI B.returns B.notSynchronized (RoL_rm _) c0 i1 i2 v _ _ _ kc0 h hP va_S.rf (lv_sub hl [0, 1, 2] rfl)
def f_X11_set_b66 (c0 : Nat) (i1 : Int32) (i2 : Int32) (i3 : Int32) (i4 : Int32) (tj0 : Int64) (tj1 : Int64) (tj2 : Int64) (v : VV) : Option (Int32 × VV) :=
  bi (F_X11_in tj0 tj1 tj2 v) fun x12 v11 =>
  if (x12 = 0) then
    some ((-2), v11)
  else
    nv (((3 * i1) + i2)) fun x13 =>
    bi (F_X11_of c0 x13 i3 v11) fun x16 v15 =>
    if i3 = 0 then
      gd (inB x13 (lnM (rfM c0 3)) = true) <|
      nv (wu v15 (rfM c0 3) (Int32.toNatClampNeg x13) i4) fun v19 =>
      nv (wu v19 c0 17 ((v19 c0 17) + (i4 - x16))) fun v20 =>
      some (x16, v20)
    else
    if i3 = 1 then
      gd (inB x13 (lnM (rfM c0 4)) = true) <|
      nv (wu v15 (rfM c0 4) (Int32.toNatClampNeg x13) i4) fun v23 =>
      some (x16, v23)
    else
    if i3 = 2 then
      gd (inB x13 (lnM (rfM c0 5)) = true) <|
      nv (wu v15 (rfM c0 5) (Int32.toNatClampNeg x13) i4) fun v26 =>
      some (x16, v26)
    else
    if i3 = 3 then
      gd (inB x13 (lnM (rfM c0 6)) = true) <|
      nv (wu v15 (rfM c0 6) (Int32.toNatClampNeg x13) i4) fun v29 =>
      some (x16, v29)
    else
    gd (inB x13 (lnM (rfM c0 7)) = true) <|
    nv (wu v15 (rfM c0 7) (Int32.toNatClampNeg x13) i4) fun v32 =>
    some (x16, v32)
def f_X11_set_b42 (c0 : Nat) (i1 : Int32) (i2 : Int32) (i3 : Int32) (i4 : Int32) (tj0 : Int64) (tj1 : Int64) (v : VV) : Option (Int32 × VV) :=
  if (i3 = 0) then
    f_X11_set_b66 c0 i1 i2 i3 i4 tj0 tj1 1000 v
  else
    if (3 ≤ i3) then
      f_X11_set_b66 c0 i1 i2 i3 i4 tj0 tj1 100 v
    else
      f_X11_set_b66 c0 i1 i2 i3 i4 tj0 tj1 50 v
def f_X11_set (c0 : Nat) (i1 : Int32) (i2 : Int32) (i3 : Int32) (i4 : Int32) (v : VV) : Option (Int32 × VV) :=
  bi (F_X11_isPort c0 i1 v) fun x3 v2 =>
  if (x3 = 0) then
    some ((-1), v2)
  else
    bi (F_X11_isGood i2 v2) fun x6 v5 =>
    if (x6 = 0) then
      some ((-1), v5)
    else
      bi (F_X11_in (Int32.toInt64 i3) 0 4 v5) fun x9 v8 =>
      if (x9 = 0) then
        some ((-2), v8)
      else
        if (3 ≤ i3) then
          f_X11_set_b42 c0 i1 i2 i3 i4 (Int32.toInt64 i4) 1 v8
        else
          f_X11_set_b42 c0 i1 i2 i3 i4 (Int32.toInt64 i4) 0 v8
abbrev F_X11_set (c0 : Nat) (i1 : Int32) (i2 : Int32) (i3 : Int32) (i4 : Int32) (v : VV) : Option (Int32 × VV) := f_X11_set c0 i1 i2 i3 i4 v
set_option maxHeartbeats 4000000 in
set_option maxRecDepth 100000 in
theorem w_X11_set_b66 (C : Cx p s m args c cX11_set 7 RX11 D cy) (hI : wI LM ad) (hr : meth.sig.returnType = some .int) (hlk : meth.locks = false) (hR : RoL 3 R) {rZ : Int32} {vZ : VV} : ∀ (c0 : Nat) (i1 : Int32) (i2 : Int32) (i3 : Int32) (i4 : Int32) (tj0 : Int64) (tj1 : Int64) (tj2 : Int64) (v : VV) (H : Heap) (locs : List Loc) (ls : Array Slot), wk LM c0 11 → f_X11_set_b66 c0 i1 i2 i3 i4 tj0 tj1 tj2 v = some (rZ, vZ) → va_P D vwCl (wd LM cy ad v) H → va_S (wA LM ad) s.heap H locs → lv_has ls 7 [(0, .ref (ad c0)), (1, .int i1), (2, .int i2), (3, .int i3), (4, .int i4)] → W p l e R s m args below meth c H locs 0 0 (MQ below (qiG LM cy ad D rZ vZ) args s 0 0 (wA LM ad)) (F0 m 66 ls [.long tj2, .long tj1, .long tj0]) := by
  intro c0 i1 i2 i3 i4 tj0 tj1 tj2 v H locs ls kc0 h hP hS hl
  unfold f_X11_set_b66 at h
  obtain ⟨x12, v11, hc10, h⟩ := bi_e h
  refine x_callsi (pc := 66) C hP hS ms_X11_in ml_X11_93 (hR.le (by decide)) (Nat.zero_le _) (Nat.zero_le _) [.long tj0, .long tj1, .long tj2] rfl hl.1 rfl (Nat.le_of_ble_eq_true rfl) dX11_set_66 (m_X11_in hI hc10) (fun H locs hP hS => ?_)
  refine lv_if_ne (pc := 69) (tgt := 75) C.1 C.2.1 dX11_set_69 (by decide) (fun b69 => ?_) (fun b69 => ?_)
  · replace h := if_f h b69
    refine lv_iconst (pc := 75) (v := 3) C.1 C.2.1 dX11_set_75 (by decide) ?_
    refine lv_iload_n (pc := 76) C.1 C.2.1 dX11_set_76 rfl (lv_at hl 1 rfl) ?_
    refine lv_imul (pc := 77) C.1 C.2.1 dX11_set_77 ?_
    refine lv_iload_n (pc := 78) C.1 C.2.1 dX11_set_78 rfl (lv_at hl 2 rfl) ?_
    refine lv_iadd (pc := 79) C.1 C.2.1 dX11_set_79 ?_
    refine lv_topi (fun x13 ex13 => ?_)
    replace h := nv_e h ex13
    clear ex13
    refine lv_istore (pc := 80) (lv' := [(5, .int x13), (0, .ref (ad c0)), (1, .int i1), (2, .int i2), (3, .int i3), (4, .int i4)]) C.1 C.2.1 dX11_set_80 hl (by decide) rfl (fun ls hl => ?_)
    refine lv_aload_n (pc := 82) C.1 C.2.1 dX11_set_82 rfl (lv_at hl 1 rfl) ?_
    refine lv_iload (pc := 83) C.1 C.2.1 dX11_set_83 (lv_at hl 0 rfl) ?_
    refine lv_iload_n (pc := 85) C.1 C.2.1 dX11_set_85 rfl (lv_at hl 4 rfl) ?_
    obtain ⟨x16, v15, hc14, h⟩ := bi_e h
    refine x_calli (pc := 86) C hP hS mi_X11_of ck_11 kc0 ml_X11_114 (hR.le (by decide)) (Nat.zero_le _) (Nat.zero_le _) [.int x13, .int i3] rfl hl.1 rfl (Nat.le_of_ble_eq_true rfl) dX11_set_86 (m_X11_of hI kc0 hc14) (fun H locs hP hS => ?_)
    refine lv_istore (pc := 89) (lv' := [(6, .int x16), (5, .int x13), (0, .ref (ad c0)), (1, .int i1), (2, .int i2), (3, .int i3), (4, .int i4)]) C.1 C.2.1 dX11_set_89 hl (by decide) rfl (fun ls hl => ?_)
    refine lv_iload_n (pc := 91) C.1 C.2.1 dX11_set_91 rfl (lv_at hl 5 rfl) ?_
    by_cases b92_0 : i3 = 0
    · replace h := if_t h b92_0
      refine x_swIn (pc := 92) C (tgt := 124) 0 0 (by decide) b92_0 dX11_set_92 (by decide) rfl (by decide) ?_
      refine lv_aload_n (pc := 124) C.1 C.2.1 dX11_set_124 rfl (lv_at hl 2 rfl) ?_
      refine x_getr (pc := 125) C hP ck_11 3 fl_X11_13 (by decide) rfl kc0 dX11_set_125 ?_
      have k17 : wk LM (rfM c0 3) 12 := wt_f wT_M kc0 3 (by decide) rfl rfl
      refine lv_iload (pc := 128) C.1 C.2.1 dX11_set_128 (lv_at hl 1 rfl) ?_
      refine lv_iload (pc := 130) C.1 C.2.1 dX11_set_130 (lv_at hl 6 rfl) ?_
      obtain ⟨g18, h⟩ := gd_e h
      refine x_iast (pc := 132) C hI hP hS k17 (inB_vp g18) dX11_set_132 (fun H locs hP hS => ?_)
      obtain ⟨v19, h, hP⟩ := nv_p (P := fun z => va_P D vwCl (wd LM cy ad z) H) h hP
      refine lv_aload_n (pc := 133) C.1 C.2.1 dX11_set_133 rfl (lv_at hl 2 rfl) ?_
      refine lv_dup (pc := 134) C.1 C.2.1 dX11_set_134 rfl ?_
      refine x_geti (pc := 135) C hP ck_11 17 fl_X11_118 (by decide) rfl kc0 dX11_set_135 ?_
      refine lv_iload (pc := 138) C.1 C.2.1 dX11_set_138 (lv_at hl 6 rfl) ?_
      refine lv_iload (pc := 140) C.1 C.2.1 dX11_set_140 (lv_at hl 0 rfl) ?_
      refine lv_isub (pc := 142) C.1 C.2.1 dX11_set_142 ?_
      refine lv_iadd (pc := 143) C.1 C.2.1 dX11_set_143 ?_
      refine x_put (pc := 144) C hI hP hS ck_11 17 fl_X11_118 (by decide) rfl rfl kc0 rfl rfl dX11_set_144 (fun H locs hP hS => ?_)
      obtain ⟨v20, h, hP⟩ := nv_p (P := fun z => va_P D vwCl (wd LM cy ad z) H) h hP
      refine lv_goto (pc := 147) (tgt := 195) C.1 C.2.1 dX11_set_147 (by decide) ?_
      refine lv_iload (pc := 195) C.1 C.2.1 dX11_set_195 (lv_at hl 0 rfl) ?_
      exact x_iret (pc := 197) C hr hlk hP hS h dX11_set_197
    replace h := if_f h b92_0
    by_cases b92_1 : i3 = 1
    · replace h := if_t h b92_1
      refine x_swIn (pc := 92) C (tgt := 150) 1 1 (by decide) b92_1 dX11_set_92 (by decide) rfl (by decide) ?_
      refine lv_aload_n (pc := 150) C.1 C.2.1 dX11_set_150 rfl (lv_at hl 2 rfl) ?_
      refine x_getr (pc := 151) C hP ck_11 4 fl_X11_17 (by decide) rfl kc0 dX11_set_151 ?_
      have k21 : wk LM (rfM c0 4) 12 := wt_f wT_M kc0 4 (by decide) rfl rfl
      refine lv_iload (pc := 154) C.1 C.2.1 dX11_set_154 (lv_at hl 1 rfl) ?_
      refine lv_iload (pc := 156) C.1 C.2.1 dX11_set_156 (lv_at hl 6 rfl) ?_
      obtain ⟨g22, h⟩ := gd_e h
      refine x_iast (pc := 158) C hI hP hS k21 (inB_vp g22) dX11_set_158 (fun H locs hP hS => ?_)
      obtain ⟨v23, h, hP⟩ := nv_p (P := fun z => va_P D vwCl (wd LM cy ad z) H) h hP
      refine lv_goto (pc := 159) (tgt := 195) C.1 C.2.1 dX11_set_159 (by decide) ?_
      refine lv_iload (pc := 195) C.1 C.2.1 dX11_set_195 (lv_at hl 0 rfl) ?_
      exact x_iret (pc := 197) C hr hlk hP hS h dX11_set_197
    replace h := if_f h b92_1
    by_cases b92_2 : i3 = 2
    · replace h := if_t h b92_2
      refine x_swIn (pc := 92) C (tgt := 162) 2 2 (by decide) b92_2 dX11_set_92 (by decide) rfl (by decide) ?_
      refine lv_aload_n (pc := 162) C.1 C.2.1 dX11_set_162 rfl (lv_at hl 2 rfl) ?_
      refine x_getr (pc := 163) C hP ck_11 5 fl_X11_20 (by decide) rfl kc0 dX11_set_163 ?_
      have k24 : wk LM (rfM c0 5) 12 := wt_f wT_M kc0 5 (by decide) rfl rfl
      refine lv_iload (pc := 166) C.1 C.2.1 dX11_set_166 (lv_at hl 1 rfl) ?_
      refine lv_iload (pc := 168) C.1 C.2.1 dX11_set_168 (lv_at hl 6 rfl) ?_
      obtain ⟨g25, h⟩ := gd_e h
      refine x_iast (pc := 170) C hI hP hS k24 (inB_vp g25) dX11_set_170 (fun H locs hP hS => ?_)
      obtain ⟨v26, h, hP⟩ := nv_p (P := fun z => va_P D vwCl (wd LM cy ad z) H) h hP
      refine lv_goto (pc := 171) (tgt := 195) C.1 C.2.1 dX11_set_171 (by decide) ?_
      refine lv_iload (pc := 195) C.1 C.2.1 dX11_set_195 (lv_at hl 0 rfl) ?_
      exact x_iret (pc := 197) C hr hlk hP hS h dX11_set_197
    replace h := if_f h b92_2
    by_cases b92_3 : i3 = 3
    · replace h := if_t h b92_3
      refine x_swIn (pc := 92) C (tgt := 174) 3 3 (by decide) b92_3 dX11_set_92 (by decide) rfl (by decide) ?_
      refine lv_aload_n (pc := 174) C.1 C.2.1 dX11_set_174 rfl (lv_at hl 2 rfl) ?_
      refine x_getr (pc := 175) C hP ck_11 6 fl_X11_23 (by decide) rfl kc0 dX11_set_175 ?_
      have k27 : wk LM (rfM c0 6) 12 := wt_f wT_M kc0 6 (by decide) rfl rfl
      refine lv_iload (pc := 178) C.1 C.2.1 dX11_set_178 (lv_at hl 1 rfl) ?_
      refine lv_iload (pc := 180) C.1 C.2.1 dX11_set_180 (lv_at hl 6 rfl) ?_
      obtain ⟨g28, h⟩ := gd_e h
      refine x_iast (pc := 182) C hI hP hS k27 (inB_vp g28) dX11_set_182 (fun H locs hP hS => ?_)
      obtain ⟨v29, h, hP⟩ := nv_p (P := fun z => va_P D vwCl (wd LM cy ad z) H) h hP
      refine lv_goto (pc := 183) (tgt := 195) C.1 C.2.1 dX11_set_183 (by decide) ?_
      refine lv_iload (pc := 195) C.1 C.2.1 dX11_set_195 (lv_at hl 0 rfl) ?_
      exact x_iret (pc := 197) C hr hlk hP hS h dX11_set_197
    replace h := if_f h b92_3
    refine x_swOut (pc := 92) C (tgt := 186) dX11_set_92 (by have := lv_neT b92_0 (a := 0) (by decide); have := lv_neT b92_1 (a := 1) (by decide); have := lv_neT b92_2 (a := 2) (by decide); have := lv_neT b92_3 (a := 3) (by decide); omega) (by decide) ?_
    refine lv_aload_n (pc := 186) C.1 C.2.1 dX11_set_186 rfl (lv_at hl 2 rfl) ?_
    refine x_getr (pc := 187) C hP ck_11 7 fl_X11_26 (by decide) rfl kc0 dX11_set_187 ?_
    have k30 : wk LM (rfM c0 7) 12 := wt_f wT_M kc0 7 (by decide) rfl rfl
    refine lv_iload (pc := 190) C.1 C.2.1 dX11_set_190 (lv_at hl 1 rfl) ?_
    refine lv_iload (pc := 192) C.1 C.2.1 dX11_set_192 (lv_at hl 6 rfl) ?_
    obtain ⟨g31, h⟩ := gd_e h
    refine x_iast (pc := 194) C hI hP hS k30 (inB_vp g31) dX11_set_194 (fun H locs hP hS => ?_)
    obtain ⟨v32, h, hP⟩ := nv_p (P := fun z => va_P D vwCl (wd LM cy ad z) H) h hP
    refine lv_iload (pc := 195) C.1 C.2.1 dX11_set_195 (lv_at hl 0 rfl) ?_
    exact x_iret (pc := 197) C hr hlk hP hS h dX11_set_197
  · replace h := if_t h b69
    refine lv_bipush (pc := 72) (v := (-2)) C.1 C.2.1 dX11_set_72 (by decide) ?_
    exact x_iret (pc := 74) C hr hlk hP hS h dX11_set_74
set_option maxHeartbeats 4000000 in
set_option maxRecDepth 100000 in
theorem w_X11_set_b42 (C : Cx p s m args c cX11_set 7 RX11 D cy) (hI : wI LM ad) (hr : meth.sig.returnType = some .int) (hlk : meth.locks = false) (hR : RoL 3 R) {rZ : Int32} {vZ : VV} : ∀ (c0 : Nat) (i1 : Int32) (i2 : Int32) (i3 : Int32) (i4 : Int32) (tj0 : Int64) (tj1 : Int64) (v : VV) (H : Heap) (locs : List Loc) (ls : Array Slot), wk LM c0 11 → f_X11_set_b42 c0 i1 i2 i3 i4 tj0 tj1 v = some (rZ, vZ) → va_P D vwCl (wd LM cy ad v) H → va_S (wA LM ad) s.heap H locs → lv_has ls 7 [(0, .ref (ad c0)), (1, .int i1), (2, .int i2), (3, .int i3), (4, .int i4)] → W p l e R s m args below meth c H locs 0 0 (MQ below (qiG LM cy ad D rZ vZ) args s 0 0 (wA LM ad)) (F0 m 42 ls [.long tj1, .long tj0]) := by
  intro c0 i1 i2 i3 i4 tj0 tj1 v H locs ls kc0 h hP hS hl
  unfold f_X11_set_b42 at h
  refine lv_iload_n (pc := 42) C.1 C.2.1 dX11_set_42 rfl (lv_at hl 3 rfl) ?_
  refine lv_if_ne (pc := 43) (tgt := 52) C.1 C.2.1 dX11_set_43 (by decide) (fun b43 => ?_) (fun b43 => ?_)
  · replace h := if_f h b43
    refine lv_iload_n (pc := 52) C.1 C.2.1 dX11_set_52 rfl (lv_at hl 3 rfl) ?_
    refine lv_iconst (pc := 53) (v := 3) C.1 C.2.1 dX11_set_53 (by decide) ?_
    refine lv_icmp_ge (pc := 54) (tgt := 63) C.1 C.2.1 dX11_set_54 (by decide) (fun b54 => ?_) (fun b54 => ?_)
    · replace h := if_t h b54
      refine lv_ldc2 (pc := 63) (v := 100) C.1 C.2.1 C.2.2.2.1 (C.2.2.2.2.1 _ cl_X11_112) dX11_set_63 ?_
      exact w_X11_set_b66 C hI hr hlk hR c0 i1 i2 i3 i4 tj0 tj1 100 v _ _ _ kc0 h hP hS (lv_sub hl [0, 1, 2, 3, 4] rfl)
    · replace h := if_f h b54
      refine lv_ldc2 (pc := 57) (v := 50) C.1 C.2.1 C.2.2.2.1 (C.2.2.2.2.1 _ cl_X11_110) dX11_set_57 ?_
      refine lv_goto (pc := 60) (tgt := 66) C.1 C.2.1 dX11_set_60 (by decide) ?_
      exact w_X11_set_b66 C hI hr hlk hR c0 i1 i2 i3 i4 tj0 tj1 50 v _ _ _ kc0 h hP hS (lv_sub hl [0, 1, 2, 3, 4] rfl)
  · replace h := if_t h b43
    refine lv_ldc2 (pc := 46) (v := 1000) C.1 C.2.1 C.2.2.2.1 (C.2.2.2.2.1 _ cl_X11_108) dX11_set_46 ?_
    refine lv_goto (pc := 49) (tgt := 66) C.1 C.2.1 dX11_set_49 (by decide) ?_
    exact w_X11_set_b66 C hI hr hlk hR c0 i1 i2 i3 i4 tj0 tj1 1000 v _ _ _ kc0 h hP hS (lv_sub hl [0, 1, 2, 3, 4] rfl)
set_option maxHeartbeats 4000000 in
set_option maxRecDepth 100000 in
theorem w_X11_set (C : Cx p s m args c cX11_set 7 RX11 D cy) (hI : wI LM ad) (hr : meth.sig.returnType = some .int) (hlk : meth.locks = false) (hR : RoL 3 R) {rZ : Int32} {vZ : VV} : ∀ (c0 : Nat) (i1 : Int32) (i2 : Int32) (i3 : Int32) (i4 : Int32) (v : VV) (H : Heap) (locs : List Loc) (ls : Array Slot), wk LM c0 11 → f_X11_set c0 i1 i2 i3 i4 v = some (rZ, vZ) → va_P D vwCl (wd LM cy ad v) H → va_S (wA LM ad) s.heap H locs → lv_has ls 7 [(0, .ref (ad c0)), (1, .int i1), (2, .int i2), (3, .int i3), (4, .int i4)] → W p l e R s m args below meth c H locs 0 0 (MQ below (qiG LM cy ad D rZ vZ) args s 0 0 (wA LM ad)) (F0 m 0 ls []) := by
  intro c0 i1 i2 i3 i4 v H locs ls kc0 h hP hS hl
  unfold f_X11_set at h
  refine lv_aload_n (pc := 0) C.1 C.2.1 dX11_set_0 rfl (lv_at hl 0 rfl) ?_
  refine lv_iload_n (pc := 1) C.1 C.2.1 dX11_set_1 rfl (lv_at hl 1 rfl) ?_
  obtain ⟨x3, v2, hc1, h⟩ := bi_e h
  refine x_calli (pc := 2) C hP hS mi_X11_isPort ck_11 kc0 ml_X11_99 (hR.le (by decide)) (Nat.zero_le _) (Nat.zero_le _) [.int i1] rfl hl.1 rfl (Nat.le_of_ble_eq_true rfl) dX11_set_2 (m_X11_isPort hI kc0 hc1) (fun H locs hP hS => ?_)
  refine lv_if_eq (pc := 5) (tgt := 15) C.1 C.2.1 dX11_set_5 (by decide) (fun b5 => ?_) (fun b5 => ?_)
  · replace h := if_t h b5
    refine lv_iconst (pc := 15) (v := (-1)) C.1 C.2.1 dX11_set_15 (by decide) ?_
    exact x_iret (pc := 16) C hr hlk hP hS h dX11_set_16
  · replace h := if_f h b5
    refine lv_iload_n (pc := 8) C.1 C.2.1 dX11_set_8 rfl (lv_at hl 2 rfl) ?_
    obtain ⟨x6, v5, hc4, h⟩ := bi_e h
    refine x_callsi (pc := 9) C hP hS ms_X11_isGood ml_X11_103 (hR.le (by decide)) (Nat.zero_le _) (Nat.zero_le _) [.int i2] rfl hl.1 rfl (Nat.le_of_ble_eq_true rfl) dX11_set_9 (m_X11_isGood hI hc4) (fun H locs hP hS => ?_)
    refine lv_if_ne (pc := 12) (tgt := 17) C.1 C.2.1 dX11_set_12 (by decide) (fun b12 => ?_) (fun b12 => ?_)
    · replace h := if_f h b12
      refine lv_iload_n (pc := 17) C.1 C.2.1 dX11_set_17 rfl (lv_at hl 3 rfl) ?_
      refine lv_i2l (pc := 18) C.1 C.2.1 dX11_set_18 rfl ?_
      refine lv_lconst (pc := 19) (v := 0) C.1 C.2.1 dX11_set_19 (by decide) ?_
      refine lv_ldc2 (pc := 20) (v := 4) C.1 C.2.1 C.2.2.2.1 (C.2.2.2.2.1 _ cl_X11_106) dX11_set_20 ?_
      obtain ⟨x9, v8, hc7, h⟩ := bi_e h
      refine x_callsi (pc := 23) C hP hS ms_X11_in ml_X11_93 (hR.le (by decide)) (Nat.zero_le _) (Nat.zero_le _) [.long (Int32.toInt64 i3), .long 0, .long 4] rfl hl.1 rfl (Nat.le_of_ble_eq_true rfl) dX11_set_23 (m_X11_in hI hc7) (fun H locs hP hS => ?_)
      refine lv_if_eq (pc := 26) (tgt := 72) C.1 C.2.1 dX11_set_26 (by decide) (fun b26 => ?_) (fun b26 => ?_)
      · replace h := if_t h b26
        refine lv_bipush (pc := 72) (v := (-2)) C.1 C.2.1 dX11_set_72 (by decide) ?_
        exact x_iret (pc := 74) C hr hlk hP hS h dX11_set_74
      · replace h := if_f h b26
        refine lv_iload (pc := 29) C.1 C.2.1 dX11_set_29 (lv_at hl 4 rfl) ?_
        refine lv_i2l (pc := 31) C.1 C.2.1 dX11_set_31 rfl ?_
        refine lv_iload_n (pc := 32) C.1 C.2.1 dX11_set_32 rfl (lv_at hl 3 rfl) ?_
        refine lv_iconst (pc := 33) (v := 3) C.1 C.2.1 dX11_set_33 (by decide) ?_
        refine lv_icmp_ge (pc := 34) (tgt := 41) C.1 C.2.1 dX11_set_34 (by decide) (fun b34 => ?_) (fun b34 => ?_)
        · replace h := if_t h b34
          refine lv_lconst (pc := 41) (v := 1) C.1 C.2.1 dX11_set_41 (by decide) ?_
          exact w_X11_set_b42 C hI hr hlk hR c0 i1 i2 i3 i4 (Int32.toInt64 i4) 1 v8 _ _ _ kc0 h hP hS (lv_sub hl [0, 1, 2, 3, 4] rfl)
        · replace h := if_f h b34
          refine lv_lconst (pc := 37) (v := 0) C.1 C.2.1 dX11_set_37 (by decide) ?_
          refine lv_goto (pc := 38) (tgt := 42) C.1 C.2.1 dX11_set_38 (by decide) ?_
          exact w_X11_set_b42 C hI hr hlk hR c0 i1 i2 i3 i4 (Int32.toInt64 i4) 0 v8 _ _ _ kc0 h hP hS (lv_sub hl [0, 1, 2, 3, 4] rfl)
    · replace h := if_t h b12
      refine lv_iconst (pc := 15) (v := (-1)) C.1 C.2.1 dX11_set_15 (by decide) ?_
      exact x_iret (pc := 16) C hr hlk hP hS h dX11_set_16
set_option maxRecDepth 100000 in
theorem m_X11_set (hI : wI LM ad) {c0 : Nat} {i1 : Int32} {i2 : Int32} {i3 : Int32} {i4 : Int32} {v : VV} {rZ : Int32} {vZ : VV} (kc0 : wk LM c0 11) (h : F_X11_set c0 i1 i2 i3 i4 v = some (rZ, vZ)) : Met l yX11_set (Cond.code yX11_set cX11_set 7 (some .int) :: wsG) (rmL 3) (pcG LM cy ad D [.ref (ad c0), .int i1, .int i2, .int i3, .int i4] v) (qiG LM cy ad D rZ vZ) 0 0 (wA LM ad) := by
  refine Met.ofW (cc := cX11_set) (maxL := 7) (ret := (some .int)) (by decide) rfl ?_
  intro p e s m args below meth c s₁ B hml hv
  obtain ⟨rfl, hP, hK⟩ := hv
  have hts := atoms_spec (ws := Cond.code yX11_set cX11_set 7 (some .int) :: wsG) B.pre
  have hown : s.vm.findClass RX11 = some m.cls := findClass_of_methodNamed B.named
  have C : Cx p s m _ c cX11_set 7 RX11 D cy := ⟨B.exec, B.bytes, hml, hown, fun w hw => hts w (List.mem_cons_of_mem _ hw), hK⟩
  have hl := lv_entry ([.ref (ad c0), .int i1, .int i2, .int i3, .int i4]) (n := 7) (Nat.le_of_ble_eq_true rfl)
  rw [lg_entry_eq]
  generalize (lg_sl ([.ref (ad c0), .int i1, .int i2, .int i3, .int i4]) ++ List.replicate (7 - (lg_sl ([.ref (ad c0), .int i1, .int i2, .int i3, .int i4])).length) Slot.unset).toArray = ls at hl ⊢
  have hl : lv_has ls 7 [(0, .ref (ad c0)), (1, .int i1), (2, .int i2), (3, .int i3), (4, .int i4)] := hl
  exact w_X11_set C hI B.returns B.notSynchronized (RoL_rm _) c0 i1 i2 i3 i4 v _ _ _ kc0 h hP va_S.rf (lv_sub hl [0, 1, 2, 3, 4] rfl)
def f_X11_priceWith_b34 (t0 : Int32) (v : VV) : Option (Int32 × VV) :=
  if (1 ≤ t0) then
    some (t0, v)
  else
    some (1, v)
def f_X11_priceWith (c0 : Nat) (i1 : Int32) (i2 : Int32) (v : VV) : Option (Int32 × VV) :=
  gd (inB i1 (lnM (rfM c0 7)) = true) <|
  nv (((2 * (v (rfM c0 7) (Int32.toNatClampNeg i1))) - i2)) fun x3 =>
  if (0 ≤ x3) then
    gd (inB i1 (lnM (rfM c0 6)) = true) <|
    gd (inB i1 (lnM (rfM c0 7)) = true) <|
    gd (¬ (v (rfM c0 7) (Int32.toNatClampNeg i1)) = 0) <|
    f_X11_priceWith_b34 (((v (rfM c0 6) (Int32.toNatClampNeg i1)) * x3) / (v (rfM c0 7) (Int32.toNatClampNeg i1))) v
  else
    f_X11_priceWith_b34 0 v
abbrev F_X11_priceWith (c0 : Nat) (i1 : Int32) (i2 : Int32) (v : VV) : Option (Int32 × VV) := f_X11_priceWith c0 i1 i2 v
set_option maxHeartbeats 4000000 in
set_option maxRecDepth 100000 in
theorem w_X11_priceWith_b34 (C : Cx p s m args c cX11_priceWith 5 RX11 D cy) (hI : wI LM ad) (hr : meth.sig.returnType = some .int) (hlk : meth.locks = false) (hR : RoL 1 R) {rZ : Int32} {vZ : VV} : ∀ (t0 : Int32) (v : VV) (H : Heap) (locs : List Loc) (ls : Array Slot), f_X11_priceWith_b34 t0 v = some (rZ, vZ) → va_P D vwCl (wd LM cy ad v) H → va_S (wA LM ad) s.heap H locs → lv_has ls 5 [] → W p l e R s m args below meth c H locs 0 0 (MQ below (qiG LM cy ad D rZ vZ) args s 0 0 (wA LM ad)) (F0 m 34 ls [.int t0]) := by
  intro t0 v H locs ls h hP hS hl
  unfold f_X11_priceWith_b34 at h
  refine lv_istore (pc := 34) (lv' := [(4, .int t0)]) C.1 C.2.1 dX11_priceWith_34 hl (by decide) rfl (fun ls hl => ?_)
  refine lv_iload (pc := 36) C.1 C.2.1 dX11_priceWith_36 (lv_at hl 0 rfl) ?_
  refine lv_iconst (pc := 38) (v := 1) C.1 C.2.1 dX11_priceWith_38 (by decide) ?_
  refine lv_icmp_ge (pc := 39) (tgt := 46) C.1 C.2.1 dX11_priceWith_39 (by decide) (fun b39 => ?_) (fun b39 => ?_)
  · replace h := if_t h b39
    refine lv_iload (pc := 46) C.1 C.2.1 dX11_priceWith_46 (lv_at hl 0 rfl) ?_
    exact x_iret (pc := 48) C hr hlk hP hS h dX11_priceWith_48
  · replace h := if_f h b39
    refine lv_iconst (pc := 42) (v := 1) C.1 C.2.1 dX11_priceWith_42 (by decide) ?_
    refine lv_goto (pc := 43) (tgt := 48) C.1 C.2.1 dX11_priceWith_43 (by decide) ?_
    exact x_iret (pc := 48) C hr hlk hP hS h dX11_priceWith_48
set_option maxHeartbeats 4000000 in
set_option maxRecDepth 100000 in
theorem w_X11_priceWith (C : Cx p s m args c cX11_priceWith 5 RX11 D cy) (hI : wI LM ad) (hr : meth.sig.returnType = some .int) (hlk : meth.locks = false) (hR : RoL 1 R) {rZ : Int32} {vZ : VV} : ∀ (c0 : Nat) (i1 : Int32) (i2 : Int32) (v : VV) (H : Heap) (locs : List Loc) (ls : Array Slot), wk LM c0 11 → f_X11_priceWith c0 i1 i2 v = some (rZ, vZ) → va_P D vwCl (wd LM cy ad v) H → va_S (wA LM ad) s.heap H locs → lv_has ls 5 [(0, .ref (ad c0)), (1, .int i1), (2, .int i2)] → W p l e R s m args below meth c H locs 0 0 (MQ below (qiG LM cy ad D rZ vZ) args s 0 0 (wA LM ad)) (F0 m 0 ls []) := by
  intro c0 i1 i2 v H locs ls kc0 h hP hS hl
  unfold f_X11_priceWith at h
  refine lv_iconst (pc := 0) (v := 2) C.1 C.2.1 dX11_priceWith_0 (by decide) ?_
  refine lv_aload_n (pc := 1) C.1 C.2.1 dX11_priceWith_1 rfl (lv_at hl 0 rfl) ?_
  refine x_getr (pc := 2) C hP ck_11 7 fl_X11_26 (by decide) rfl kc0 dX11_priceWith_2 ?_
  have k1 : wk LM (rfM c0 7) 12 := wt_f wT_M kc0 7 (by decide) rfl rfl
  refine lv_iload_n (pc := 5) C.1 C.2.1 dX11_priceWith_5 rfl (lv_at hl 1 rfl) ?_
  obtain ⟨g2, h⟩ := gd_e h
  refine x_iald (pc := 6) C hP k1 (inB_vp g2) dX11_priceWith_6 ?_
  refine lv_imul (pc := 7) C.1 C.2.1 dX11_priceWith_7 ?_
  refine lv_iload_n (pc := 8) C.1 C.2.1 dX11_priceWith_8 rfl (lv_at hl 2 rfl) ?_
  refine lv_isub (pc := 9) C.1 C.2.1 dX11_priceWith_9 ?_
  refine lv_topi (fun x3 ex3 => ?_)
  replace h := nv_e h ex3
  clear ex3
  refine lv_istore_n (pc := 10) (lv' := [(3, .int x3), (0, .ref (ad c0)), (1, .int i1), (2, .int i2)]) C.1 C.2.1 dX11_priceWith_10 rfl hl (by decide) rfl (fun ls hl => ?_)
  refine lv_iload_n (pc := 11) C.1 C.2.1 dX11_priceWith_11 rfl (lv_at hl 0 rfl) ?_
  refine lv_if_ge (pc := 12) (tgt := 19) C.1 C.2.1 dX11_priceWith_12 (by decide) (fun b12 => ?_) (fun b12 => ?_)
  · replace h := if_t h b12
    refine lv_aload_n (pc := 19) C.1 C.2.1 dX11_priceWith_19 rfl (lv_at hl 1 rfl) ?_
    refine x_getr (pc := 20) C hP ck_11 6 fl_X11_23 (by decide) rfl kc0 dX11_priceWith_20 ?_
    have k4 : wk LM (rfM c0 6) 12 := wt_f wT_M kc0 6 (by decide) rfl rfl
    refine lv_iload_n (pc := 23) C.1 C.2.1 dX11_priceWith_23 rfl (lv_at hl 2 rfl) ?_
    obtain ⟨g5, h⟩ := gd_e h
    refine x_iald (pc := 24) C hP k4 (inB_vp g5) dX11_priceWith_24 ?_
    refine lv_iload_n (pc := 25) C.1 C.2.1 dX11_priceWith_25 rfl (lv_at hl 0 rfl) ?_
    refine lv_imul (pc := 26) C.1 C.2.1 dX11_priceWith_26 ?_
    refine lv_aload_n (pc := 27) C.1 C.2.1 dX11_priceWith_27 rfl (lv_at hl 1 rfl) ?_
    refine x_getr (pc := 28) C hP ck_11 7 fl_X11_26 (by decide) rfl kc0 dX11_priceWith_28 ?_
    have k6 : wk LM (rfM c0 7) 12 := wt_f wT_M kc0 7 (by decide) rfl rfl
    refine lv_iload_n (pc := 31) C.1 C.2.1 dX11_priceWith_31 rfl (lv_at hl 2 rfl) ?_
    obtain ⟨g7, h⟩ := gd_e h
    refine x_iald (pc := 32) C hP k6 (inB_vp g7) dX11_priceWith_32 ?_
    obtain ⟨g8, h⟩ := gd_e h
    refine lv_idiv (pc := 33) C.1 C.2.1 dX11_priceWith_33 g8 ?_
    exact w_X11_priceWith_b34 C hI hr hlk hR (((v (rfM c0 6) (Int32.toNatClampNeg i1)) * x3) / (v (rfM c0 7) (Int32.toNatClampNeg i1))) v _ _ _ h hP hS (lv_sub hl [] rfl)
  · replace h := if_f h b12
    refine lv_iconst (pc := 15) (v := 0) C.1 C.2.1 dX11_priceWith_15 (by decide) ?_
    refine lv_goto (pc := 16) (tgt := 34) C.1 C.2.1 dX11_priceWith_16 (by decide) ?_
    exact w_X11_priceWith_b34 C hI hr hlk hR 0 v _ _ _ h hP hS (lv_sub hl [] rfl)
set_option maxRecDepth 100000 in
theorem m_X11_priceWith (hI : wI LM ad) {c0 : Nat} {i1 : Int32} {i2 : Int32} {v : VV} {rZ : Int32} {vZ : VV} (kc0 : wk LM c0 11) (h : F_X11_priceWith c0 i1 i2 v = some (rZ, vZ)) : Met l yX11_priceWith (Cond.code yX11_priceWith cX11_priceWith 5 (some .int) :: wsG) (rmL 1) (pcG LM cy ad D [.ref (ad c0), .int i1, .int i2] v) (qiG LM cy ad D rZ vZ) 0 0 (wA LM ad) := by
  refine Met.ofW (cc := cX11_priceWith) (maxL := 5) (ret := (some .int)) (by decide) rfl ?_
  intro p e s m args below meth c s₁ B hml hv
  obtain ⟨rfl, hP, hK⟩ := hv
  have hts := atoms_spec (ws := Cond.code yX11_priceWith cX11_priceWith 5 (some .int) :: wsG) B.pre
  have hown : s.vm.findClass RX11 = some m.cls := findClass_of_methodNamed B.named
  have C : Cx p s m _ c cX11_priceWith 5 RX11 D cy := ⟨B.exec, B.bytes, hml, hown, fun w hw => hts w (List.mem_cons_of_mem _ hw), hK⟩
  have hl := lv_entry ([.ref (ad c0), .int i1, .int i2]) (n := 5) (Nat.le_of_ble_eq_true rfl)
  rw [lg_entry_eq]
  generalize (lg_sl ([.ref (ad c0), .int i1, .int i2]) ++ List.replicate (5 - (lg_sl ([.ref (ad c0), .int i1, .int i2])).length) Slot.unset).toArray = ls at hl ⊢
  have hl : lv_has ls 5 [(0, .ref (ad c0)), (1, .int i1), (2, .int i2)] := hl
  exact w_X11_priceWith C hI B.returns B.notSynchronized (RoL_rm _) c0 i1 i2 v _ _ _ kc0 h hP va_S.rf (lv_sub hl [0, 1, 2] rfl)
def f_X11_about (c0 : Nat) (i1 : Int32) (i2 : Int32) (i3 : Int32) (v : VV) : Option (Int32 × VV) :=
  bi (F_X11_isPort c0 i1 v) fun x3 v2 =>
  if (x3 = 0) then
    some ((-1), v2)
  else
    bi (F_X11_isGood i2 v2) fun x6 v5 =>
    if (x6 = 0) then
      some ((-1), v5)
    else
      nv (((3 * i1) + i2)) fun x7 =>
      bi (F_X11_in (Int32.toInt64 i3) 0 4 v5) fun x10 v9 =>
      if (x10 = 0) then
        if (i3 = 5) then
          gd (inB x7 (lnM (rfM c0 3)) = true) <|
          bi (F_X11_priceWith c0 x7 (v9 (rfM c0 3) (Int32.toNatClampNeg x7)) v9) fun x17 v16 =>
          some (x17, v16)
        else
          if (i3 = 6) then
            gd (inB x7 (lnM (rfM c0 8)) = true) <|
            some ((v9 (rfM c0 8) (Int32.toNatClampNeg x7)), v9)
          else
            some ((-2), v9)
      else
        bi (F_X11_of c0 x7 i3 v9) fun x20 v19 =>
        some (x20, v19)
abbrev F_X11_about (c0 : Nat) (i1 : Int32) (i2 : Int32) (i3 : Int32) (v : VV) : Option (Int32 × VV) := f_X11_about c0 i1 i2 i3 v
set_option maxHeartbeats 4000000 in
set_option maxRecDepth 100000 in
theorem w_X11_about (C : Cx p s m args c cX11_about 5 RX11 D cy) (hI : wI LM ad) (hr : meth.sig.returnType = some .int) (hlk : meth.locks = false) (hR : RoL 3 R) {rZ : Int32} {vZ : VV} : ∀ (c0 : Nat) (i1 : Int32) (i2 : Int32) (i3 : Int32) (v : VV) (H : Heap) (locs : List Loc) (ls : Array Slot), wk LM c0 11 → f_X11_about c0 i1 i2 i3 v = some (rZ, vZ) → va_P D vwCl (wd LM cy ad v) H → va_S (wA LM ad) s.heap H locs → lv_has ls 5 [(0, .ref (ad c0)), (1, .int i1), (2, .int i2), (3, .int i3)] → W p l e R s m args below meth c H locs 0 0 (MQ below (qiG LM cy ad D rZ vZ) args s 0 0 (wA LM ad)) (F0 m 0 ls []) := by
  intro c0 i1 i2 i3 v H locs ls kc0 h hP hS hl
  unfold f_X11_about at h
  refine lv_aload_n (pc := 0) C.1 C.2.1 dX11_about_0 rfl (lv_at hl 0 rfl) ?_
  refine lv_iload_n (pc := 1) C.1 C.2.1 dX11_about_1 rfl (lv_at hl 1 rfl) ?_
  obtain ⟨x3, v2, hc1, h⟩ := bi_e h
  refine x_calli (pc := 2) C hP hS mi_X11_isPort ck_11 kc0 ml_X11_99 (hR.le (by decide)) (Nat.zero_le _) (Nat.zero_le _) [.int i1] rfl hl.1 rfl (Nat.le_of_ble_eq_true rfl) dX11_about_2 (m_X11_isPort hI kc0 hc1) (fun H locs hP hS => ?_)
  refine lv_if_eq (pc := 5) (tgt := 15) C.1 C.2.1 dX11_about_5 (by decide) (fun b5 => ?_) (fun b5 => ?_)
  · replace h := if_t h b5
    refine lv_iconst (pc := 15) (v := (-1)) C.1 C.2.1 dX11_about_15 (by decide) ?_
    exact x_iret (pc := 16) C hr hlk hP hS h dX11_about_16
  · replace h := if_f h b5
    refine lv_iload_n (pc := 8) C.1 C.2.1 dX11_about_8 rfl (lv_at hl 2 rfl) ?_
    obtain ⟨x6, v5, hc4, h⟩ := bi_e h
    refine x_callsi (pc := 9) C hP hS ms_X11_isGood ml_X11_103 (hR.le (by decide)) (Nat.zero_le _) (Nat.zero_le _) [.int i2] rfl hl.1 rfl (Nat.le_of_ble_eq_true rfl) dX11_about_9 (m_X11_isGood hI hc4) (fun H locs hP hS => ?_)
    refine lv_if_ne (pc := 12) (tgt := 17) C.1 C.2.1 dX11_about_12 (by decide) (fun b12 => ?_) (fun b12 => ?_)
    · replace h := if_f h b12
      refine lv_iconst (pc := 17) (v := 3) C.1 C.2.1 dX11_about_17 (by decide) ?_
      refine lv_iload_n (pc := 18) C.1 C.2.1 dX11_about_18 rfl (lv_at hl 1 rfl) ?_
      refine lv_imul (pc := 19) C.1 C.2.1 dX11_about_19 ?_
      refine lv_iload_n (pc := 20) C.1 C.2.1 dX11_about_20 rfl (lv_at hl 2 rfl) ?_
      refine lv_iadd (pc := 21) C.1 C.2.1 dX11_about_21 ?_
      refine lv_topi (fun x7 ex7 => ?_)
      replace h := nv_e h ex7
      clear ex7
      refine lv_istore (pc := 22) (lv' := [(4, .int x7), (0, .ref (ad c0)), (1, .int i1), (2, .int i2), (3, .int i3)]) C.1 C.2.1 dX11_about_22 hl (by decide) rfl (fun ls hl => ?_)
      refine lv_iload_n (pc := 24) C.1 C.2.1 dX11_about_24 rfl (lv_at hl 4 rfl) ?_
      refine lv_i2l (pc := 25) C.1 C.2.1 dX11_about_25 rfl ?_
      refine lv_lconst (pc := 26) (v := 0) C.1 C.2.1 dX11_about_26 (by decide) ?_
      refine lv_ldc2 (pc := 27) (v := 4) C.1 C.2.1 C.2.2.2.1 (C.2.2.2.2.1 _ cl_X11_106) dX11_about_27 ?_
      obtain ⟨x10, v9, hc8, h⟩ := bi_e h
      refine x_callsi (pc := 30) C hP hS ms_X11_in ml_X11_93 (hR.le (by decide)) (Nat.zero_le _) (Nat.zero_le _) [.long (Int32.toInt64 i3), .long 0, .long 4] rfl hl.1 rfl (Nat.le_of_ble_eq_true rfl) dX11_about_30 (m_X11_in hI hc8) (fun H locs hP hS => ?_)
      refine lv_if_eq (pc := 33) (tgt := 44) C.1 C.2.1 dX11_about_33 (by decide) (fun b33 => ?_) (fun b33 => ?_)
      · replace h := if_t h b33
        refine lv_iload_n (pc := 44) C.1 C.2.1 dX11_about_44 rfl (lv_at hl 4 rfl) ?_
        refine lv_iconst (pc := 45) (v := 5) C.1 C.2.1 dX11_about_45 (by decide) ?_
        refine lv_icmp_ne (pc := 46) (tgt := 65) C.1 C.2.1 dX11_about_46 (by decide) (fun b46 => ?_) (fun b46 => ?_)
        · replace h := if_f h b46
          refine lv_iload_n (pc := 65) C.1 C.2.1 dX11_about_65 rfl (lv_at hl 4 rfl) ?_
          refine lv_bipush (pc := 66) (v := 6) C.1 C.2.1 dX11_about_66 (by decide) ?_
          refine lv_icmp_ne (pc := 68) (tgt := 81) C.1 C.2.1 dX11_about_68 (by decide) (fun b68 => ?_) (fun b68 => ?_)
          · replace h := if_f h b68
            refine lv_bipush (pc := 81) (v := (-2)) C.1 C.2.1 dX11_about_81 (by decide) ?_
            exact x_iret (pc := 83) C hr hlk hP hS h dX11_about_83
          · replace h := if_t h b68
            refine lv_aload_n (pc := 71) C.1 C.2.1 dX11_about_71 rfl (lv_at hl 1 rfl) ?_
            refine x_getr (pc := 72) C hP ck_11 8 fl_X11_29 (by decide) rfl kc0 dX11_about_72 ?_
            have k11 : wk LM (rfM c0 8) 12 := wt_f wT_M kc0 8 (by decide) rfl rfl
            refine lv_iload (pc := 75) C.1 C.2.1 dX11_about_75 (lv_at hl 0 rfl) ?_
            obtain ⟨g12, h⟩ := gd_e h
            refine x_iald (pc := 77) C hP k11 (inB_vp g12) dX11_about_77 ?_
            refine lv_goto (pc := 78) (tgt := 83) C.1 C.2.1 dX11_about_78 (by decide) ?_
            exact x_iret (pc := 83) C hr hlk hP hS h dX11_about_83
        · replace h := if_t h b46
          refine lv_aload_n (pc := 49) C.1 C.2.1 dX11_about_49 rfl (lv_at hl 1 rfl) ?_
          refine lv_iload (pc := 50) C.1 C.2.1 dX11_about_50 (lv_at hl 0 rfl) ?_
          refine lv_aload_n (pc := 52) C.1 C.2.1 dX11_about_52 rfl (lv_at hl 1 rfl) ?_
          refine x_getr (pc := 53) C hP ck_11 3 fl_X11_13 (by decide) rfl kc0 dX11_about_53 ?_
          have k13 : wk LM (rfM c0 3) 12 := wt_f wT_M kc0 3 (by decide) rfl rfl
          refine lv_iload (pc := 56) C.1 C.2.1 dX11_about_56 (lv_at hl 0 rfl) ?_
          obtain ⟨g14, h⟩ := gd_e h
          refine x_iald (pc := 58) C hP k13 (inB_vp g14) dX11_about_58 ?_
          obtain ⟨x17, v16, hc15, h⟩ := bi_e h
          refine x_calli (pc := 59) C hP hS mi_X11_priceWith ck_11 kc0 ml_X11_121 (hR.le (by decide)) (Nat.zero_le _) (Nat.zero_le _) [.int x7, .int (v9 (rfM c0 3) (Int32.toNatClampNeg x7))] rfl hl.1 rfl (Nat.le_of_ble_eq_true rfl) dX11_about_59 (m_X11_priceWith hI kc0 hc15) (fun H locs hP hS => ?_)
          refine lv_goto (pc := 62) (tgt := 83) C.1 C.2.1 dX11_about_62 (by decide) ?_
          exact x_iret (pc := 83) C hr hlk hP hS h dX11_about_83
      · replace h := if_f h b33
        refine lv_aload_n (pc := 36) C.1 C.2.1 dX11_about_36 rfl (lv_at hl 1 rfl) ?_
        refine lv_iload (pc := 37) C.1 C.2.1 dX11_about_37 (lv_at hl 0 rfl) ?_
        refine lv_iload_n (pc := 39) C.1 C.2.1 dX11_about_39 rfl (lv_at hl 4 rfl) ?_
        obtain ⟨x20, v19, hc18, h⟩ := bi_e h
        refine x_calli (pc := 40) C hP hS mi_X11_of ck_11 kc0 ml_X11_114 (hR.le (by decide)) (Nat.zero_le _) (Nat.zero_le _) [.int x7, .int i3] rfl hl.1 rfl (Nat.le_of_ble_eq_true rfl) dX11_about_40 (m_X11_of hI kc0 hc18) (fun H locs hP hS => ?_)
        exact x_iret (pc := 43) C hr hlk hP hS h dX11_about_43
    · replace h := if_t h b12
      refine lv_iconst (pc := 15) (v := (-1)) C.1 C.2.1 dX11_about_15 (by decide) ?_
      exact x_iret (pc := 16) C hr hlk hP hS h dX11_about_16
set_option maxRecDepth 100000 in
theorem m_X11_about (hI : wI LM ad) {c0 : Nat} {i1 : Int32} {i2 : Int32} {i3 : Int32} {v : VV} {rZ : Int32} {vZ : VV} (kc0 : wk LM c0 11) (h : F_X11_about c0 i1 i2 i3 v = some (rZ, vZ)) : Met l yX11_about (Cond.code yX11_about cX11_about 5 (some .int) :: wsG) (rmL 3) (pcG LM cy ad D [.ref (ad c0), .int i1, .int i2, .int i3] v) (qiG LM cy ad D rZ vZ) 0 0 (wA LM ad) := by
  refine Met.ofW (cc := cX11_about) (maxL := 5) (ret := (some .int)) (by decide) rfl ?_
  intro p e s m args below meth c s₁ B hml hv
  obtain ⟨rfl, hP, hK⟩ := hv
  have hts := atoms_spec (ws := Cond.code yX11_about cX11_about 5 (some .int) :: wsG) B.pre
  have hown : s.vm.findClass RX11 = some m.cls := findClass_of_methodNamed B.named
  have C : Cx p s m _ c cX11_about 5 RX11 D cy := ⟨B.exec, B.bytes, hml, hown, fun w hw => hts w (List.mem_cons_of_mem _ hw), hK⟩
  have hl := lv_entry ([.ref (ad c0), .int i1, .int i2, .int i3]) (n := 5) (Nat.le_of_ble_eq_true rfl)
  rw [lg_entry_eq]
  generalize (lg_sl ([.ref (ad c0), .int i1, .int i2, .int i3]) ++ List.replicate (5 - (lg_sl ([.ref (ad c0), .int i1, .int i2, .int i3])).length) Slot.unset).toArray = ls at hl ⊢
  have hl : lv_has ls 5 [(0, .ref (ad c0)), (1, .int i1), (2, .int i2), (3, .int i3)] := hl
  exact w_X11_about C hI B.returns B.notSynchronized (RoL_rm _) c0 i1 i2 i3 v _ _ _ kc0 h hP va_S.rf (lv_sub hl [0, 1, 2, 3] rfl)
def f_X11_tax (c0 : Nat) (i1 : Int32) (i2 : Int32) (v : VV) : Option (Int32 × VV) :=
  bi (F_X11_isPort c0 i1 v) fun x3 v2 =>
  if (x3 = 0) then
    some ((-1), v2)
  else
    bi (F_X11_in (Int32.toInt64 i2) 0 20 v2) fun x6 v5 =>
    if (x6 = 0) then
      some ((-2), v5)
    else
      gd (inB i1 (lnM (rfM c0 9)) = true) <|
      nv ((v5 (rfM c0 9) (Int32.toNatClampNeg i1))) fun x9 =>
      gd (inB i1 (lnM (rfM c0 9)) = true) <|
      nv (wu v5 (rfM c0 9) (Int32.toNatClampNeg i1) i2) fun v12 =>
      some (x9, v12)
abbrev F_X11_tax (c0 : Nat) (i1 : Int32) (i2 : Int32) (v : VV) : Option (Int32 × VV) := f_X11_tax c0 i1 i2 v
set_option maxHeartbeats 4000000 in
set_option maxRecDepth 100000 in
theorem w_X11_tax (C : Cx p s m args c cX11_tax 4 RX11 D cy) (hI : wI LM ad) (hr : meth.sig.returnType = some .int) (hlk : meth.locks = false) (hR : RoL 3 R) {rZ : Int32} {vZ : VV} : ∀ (c0 : Nat) (i1 : Int32) (i2 : Int32) (v : VV) (H : Heap) (locs : List Loc) (ls : Array Slot), wk LM c0 11 → f_X11_tax c0 i1 i2 v = some (rZ, vZ) → va_P D vwCl (wd LM cy ad v) H → va_S (wA LM ad) s.heap H locs → lv_has ls 4 [(0, .ref (ad c0)), (1, .int i1), (2, .int i2)] → W p l e R s m args below meth c H locs 0 0 (MQ below (qiG LM cy ad D rZ vZ) args s 0 0 (wA LM ad)) (F0 m 0 ls []) := by
  intro c0 i1 i2 v H locs ls kc0 h hP hS hl
  unfold f_X11_tax at h
  refine lv_aload_n (pc := 0) C.1 C.2.1 dX11_tax_0 rfl (lv_at hl 0 rfl) ?_
  refine lv_iload_n (pc := 1) C.1 C.2.1 dX11_tax_1 rfl (lv_at hl 1 rfl) ?_
  obtain ⟨x3, v2, hc1, h⟩ := bi_e h
  refine x_calli (pc := 2) C hP hS mi_X11_isPort ck_11 kc0 ml_X11_99 (hR.le (by decide)) (Nat.zero_le _) (Nat.zero_le _) [.int i1] rfl hl.1 rfl (Nat.le_of_ble_eq_true rfl) dX11_tax_2 (m_X11_isPort hI kc0 hc1) (fun H locs hP hS => ?_)
  refine lv_if_ne (pc := 5) (tgt := 10) C.1 C.2.1 dX11_tax_5 (by decide) (fun b5 => ?_) (fun b5 => ?_)
  · replace h := if_f h b5
    refine lv_iload_n (pc := 10) C.1 C.2.1 dX11_tax_10 rfl (lv_at hl 2 rfl) ?_
    refine lv_i2l (pc := 11) C.1 C.2.1 dX11_tax_11 rfl ?_
    refine lv_lconst (pc := 12) (v := 0) C.1 C.2.1 dX11_tax_12 (by decide) ?_
    refine lv_ldc2 (pc := 13) (v := 20) C.1 C.2.1 C.2.2.2.1 (C.2.2.2.2.1 _ cl_X11_124) dX11_tax_13 ?_
    obtain ⟨x6, v5, hc4, h⟩ := bi_e h
    refine x_callsi (pc := 16) C hP hS ms_X11_in ml_X11_93 (hR.le (by decide)) (Nat.zero_le _) (Nat.zero_le _) [.long (Int32.toInt64 i2), .long 0, .long 20] rfl hl.1 rfl (Nat.le_of_ble_eq_true rfl) dX11_tax_16 (m_X11_in hI hc4) (fun H locs hP hS => ?_)
    refine lv_if_ne (pc := 19) (tgt := 25) C.1 C.2.1 dX11_tax_19 (by decide) (fun b19 => ?_) (fun b19 => ?_)
    · replace h := if_f h b19
      refine lv_aload_n (pc := 25) C.1 C.2.1 dX11_tax_25 rfl (lv_at hl 0 rfl) ?_
      refine x_getr (pc := 26) C hP ck_11 9 fl_X11_32 (by decide) rfl kc0 dX11_tax_26 ?_
      have k7 : wk LM (rfM c0 9) 12 := wt_f wT_M kc0 9 (by decide) rfl rfl
      refine lv_iload_n (pc := 29) C.1 C.2.1 dX11_tax_29 rfl (lv_at hl 1 rfl) ?_
      obtain ⟨g8, h⟩ := gd_e h
      refine x_iald (pc := 30) C hP k7 (inB_vp g8) dX11_tax_30 ?_
      refine lv_topi (fun x9 ex9 => ?_)
      replace h := nv_e h ex9
      clear ex9
      refine lv_istore_n (pc := 31) (lv' := [(3, .int x9), (0, .ref (ad c0)), (1, .int i1), (2, .int i2)]) C.1 C.2.1 dX11_tax_31 rfl hl (by decide) rfl (fun ls hl => ?_)
      refine lv_aload_n (pc := 32) C.1 C.2.1 dX11_tax_32 rfl (lv_at hl 1 rfl) ?_
      refine x_getr (pc := 33) C hP ck_11 9 fl_X11_32 (by decide) rfl kc0 dX11_tax_33 ?_
      have k10 : wk LM (rfM c0 9) 12 := wt_f wT_M kc0 9 (by decide) rfl rfl
      refine lv_iload_n (pc := 36) C.1 C.2.1 dX11_tax_36 rfl (lv_at hl 2 rfl) ?_
      refine lv_iload_n (pc := 37) C.1 C.2.1 dX11_tax_37 rfl (lv_at hl 3 rfl) ?_
      obtain ⟨g11, h⟩ := gd_e h
      refine x_iast (pc := 38) C hI hP hS k10 (inB_vp g11) dX11_tax_38 (fun H locs hP hS => ?_)
      obtain ⟨v12, h, hP⟩ := nv_p (P := fun z => va_P D vwCl (wd LM cy ad z) H) h hP
      refine lv_iload_n (pc := 39) C.1 C.2.1 dX11_tax_39 rfl (lv_at hl 0 rfl) ?_
      exact x_iret (pc := 40) C hr hlk hP hS h dX11_tax_40
    · replace h := if_t h b19
      refine lv_bipush (pc := 22) (v := (-2)) C.1 C.2.1 dX11_tax_22 (by decide) ?_
      exact x_iret (pc := 24) C hr hlk hP hS h dX11_tax_24
  · replace h := if_t h b5
    refine lv_iconst (pc := 8) (v := (-1)) C.1 C.2.1 dX11_tax_8 (by decide) ?_
    exact x_iret (pc := 9) C hr hlk hP hS h dX11_tax_9
set_option maxRecDepth 100000 in
theorem m_X11_tax (hI : wI LM ad) {c0 : Nat} {i1 : Int32} {i2 : Int32} {v : VV} {rZ : Int32} {vZ : VV} (kc0 : wk LM c0 11) (h : F_X11_tax c0 i1 i2 v = some (rZ, vZ)) : Met l yX11_tax (Cond.code yX11_tax cX11_tax 4 (some .int) :: wsG) (rmL 3) (pcG LM cy ad D [.ref (ad c0), .int i1, .int i2] v) (qiG LM cy ad D rZ vZ) 0 0 (wA LM ad) := by
  refine Met.ofW (cc := cX11_tax) (maxL := 4) (ret := (some .int)) (by decide) rfl ?_
  intro p e s m args below meth c s₁ B hml hv
  obtain ⟨rfl, hP, hK⟩ := hv
  have hts := atoms_spec (ws := Cond.code yX11_tax cX11_tax 4 (some .int) :: wsG) B.pre
  have hown : s.vm.findClass RX11 = some m.cls := findClass_of_methodNamed B.named
  have C : Cx p s m _ c cX11_tax 4 RX11 D cy := ⟨B.exec, B.bytes, hml, hown, fun w hw => hts w (List.mem_cons_of_mem _ hw), hK⟩
  have hl := lv_entry ([.ref (ad c0), .int i1, .int i2]) (n := 4) (Nat.le_of_ble_eq_true rfl)
  rw [lg_entry_eq]
  generalize (lg_sl ([.ref (ad c0), .int i1, .int i2]) ++ List.replicate (4 - (lg_sl ([.ref (ad c0), .int i1, .int i2])).length) Slot.unset).toArray = ls at hl ⊢
  have hl : lv_has ls 4 [(0, .ref (ad c0)), (1, .int i1), (2, .int i2)] := hl
  exact w_X11_tax C hI B.returns B.notSynchronized (RoL_rm _) c0 i1 i2 v _ _ _ kc0 h hP va_S.rf (lv_sub hl [0, 1, 2] rfl)
def f_X11_shut_b24 (c0 : Nat) (i1 : Int32) (i2 : Int32) (t0 : Int32) (v : VV) : Option (Int32 × VV) :=
  gd (inB i1 (lnM (rfM c0 12)) = true) <|
  gd (i2 &&& 1 = i2) <|
  nv (wu v (rfM c0 12) (Int32.toNatClampNeg i1) i2) fun v9 =>
  some (t0, v9)
def f_X11_shut (c0 : Nat) (i1 : Int32) (i2 : Int32) (v : VV) : Option (Int32 × VV) :=
  bi (F_X11_isPort c0 i1 v) fun x3 v2 =>
  if (x3 = 0) then
    some ((-1), v2)
  else
    gd (inB i1 (lnM (rfM c0 12)) = true) <|
    if ((v2 (rfM c0 12) (Int32.toNatClampNeg i1)) = 0) then
      f_X11_shut_b24 c0 i1 i2 0 v2
    else
      f_X11_shut_b24 c0 i1 i2 1 v2
abbrev F_X11_shut (c0 : Nat) (i1 : Int32) (i2 : Int32) (v : VV) : Option (Int32 × VV) := f_X11_shut c0 i1 i2 v
set_option maxHeartbeats 4000000 in
set_option maxRecDepth 100000 in
theorem w_X11_shut_b24 (C : Cx p s m args c cX11_shut 4 RX11 D cy) (hI : wI LM ad) (hr : meth.sig.returnType = some .int) (hlk : meth.locks = false) (hR : RoL 3 R) {rZ : Int32} {vZ : VV} : ∀ (c0 : Nat) (i1 : Int32) (i2 : Int32) (t0 : Int32) (v : VV) (H : Heap) (locs : List Loc) (ls : Array Slot), wk LM c0 11 → f_X11_shut_b24 c0 i1 i2 t0 v = some (rZ, vZ) → va_P D vwCl (wd LM cy ad v) H → va_S (wA LM ad) s.heap H locs → lv_has ls 4 [(0, .ref (ad c0)), (1, .int i1), (2, .int i2)] → W p l e R s m args below meth c H locs 0 0 (MQ below (qiG LM cy ad D rZ vZ) args s 0 0 (wA LM ad)) (F0 m 24 ls [.int t0]) := by
  intro c0 i1 i2 t0 v H locs ls kc0 h hP hS hl
  unfold f_X11_shut_b24 at h
  refine lv_istore_n (pc := 24) (lv' := [(3, .int t0), (0, .ref (ad c0)), (1, .int i1), (2, .int i2)]) C.1 C.2.1 dX11_shut_24 rfl hl (by decide) rfl (fun ls hl => ?_)
  refine lv_aload_n (pc := 25) C.1 C.2.1 dX11_shut_25 rfl (lv_at hl 1 rfl) ?_
  refine x_getr (pc := 26) C hP ck_11 12 fl_X11_41 (by decide) rfl kc0 dX11_shut_26 ?_
  have k6 : wk LM (rfM c0 12) 13 := wt_f wT_M kc0 12 (by decide) rfl rfl
  refine lv_iload_n (pc := 29) C.1 C.2.1 dX11_shut_29 rfl (lv_at hl 2 rfl) ?_
  refine lv_iload_n (pc := 30) C.1 C.2.1 dX11_shut_30 rfl (lv_at hl 3 rfl) ?_
  obtain ⟨g7, h⟩ := gd_e h
  obtain ⟨g8, h⟩ := gd_e h
  refine x_zast (pc := 31) C hI hP hS k6 (inB_vp g7) g8 dX11_shut_31 (fun H locs hP hS => ?_)
  obtain ⟨v9, h, hP⟩ := nv_p (P := fun z => va_P D vwCl (wd LM cy ad z) H) h hP
  refine lv_iload_n (pc := 32) C.1 C.2.1 dX11_shut_32 rfl (lv_at hl 0 rfl) ?_
  exact x_iret (pc := 33) C hr hlk hP hS h dX11_shut_33
set_option maxHeartbeats 4000000 in
set_option maxRecDepth 100000 in
theorem w_X11_shut (C : Cx p s m args c cX11_shut 4 RX11 D cy) (hI : wI LM ad) (hr : meth.sig.returnType = some .int) (hlk : meth.locks = false) (hR : RoL 3 R) {rZ : Int32} {vZ : VV} : ∀ (c0 : Nat) (i1 : Int32) (i2 : Int32) (v : VV) (H : Heap) (locs : List Loc) (ls : Array Slot), wk LM c0 11 → f_X11_shut c0 i1 i2 v = some (rZ, vZ) → va_P D vwCl (wd LM cy ad v) H → va_S (wA LM ad) s.heap H locs → lv_has ls 4 [(0, .ref (ad c0)), (1, .int i1), (2, .int i2)] → W p l e R s m args below meth c H locs 0 0 (MQ below (qiG LM cy ad D rZ vZ) args s 0 0 (wA LM ad)) (F0 m 0 ls []) := by
  intro c0 i1 i2 v H locs ls kc0 h hP hS hl
  unfold f_X11_shut at h
  refine lv_aload_n (pc := 0) C.1 C.2.1 dX11_shut_0 rfl (lv_at hl 0 rfl) ?_
  refine lv_iload_n (pc := 1) C.1 C.2.1 dX11_shut_1 rfl (lv_at hl 1 rfl) ?_
  obtain ⟨x3, v2, hc1, h⟩ := bi_e h
  refine x_calli (pc := 2) C hP hS mi_X11_isPort ck_11 kc0 ml_X11_99 (hR.le (by decide)) (Nat.zero_le _) (Nat.zero_le _) [.int i1] rfl hl.1 rfl (Nat.le_of_ble_eq_true rfl) dX11_shut_2 (m_X11_isPort hI kc0 hc1) (fun H locs hP hS => ?_)
  refine lv_if_ne (pc := 5) (tgt := 10) C.1 C.2.1 dX11_shut_5 (by decide) (fun b5 => ?_) (fun b5 => ?_)
  · replace h := if_f h b5
    refine lv_aload_n (pc := 10) C.1 C.2.1 dX11_shut_10 rfl (lv_at hl 0 rfl) ?_
    refine x_getr (pc := 11) C hP ck_11 12 fl_X11_41 (by decide) rfl kc0 dX11_shut_11 ?_
    have k4 : wk LM (rfM c0 12) 13 := wt_f wT_M kc0 12 (by decide) rfl rfl
    refine lv_iload_n (pc := 14) C.1 C.2.1 dX11_shut_14 rfl (lv_at hl 1 rfl) ?_
    obtain ⟨g5, h⟩ := gd_e h
    refine x_zald (pc := 15) C hP k4 (inB_vp g5) dX11_shut_15 ?_
    refine lv_if_eq (pc := 16) (tgt := 23) C.1 C.2.1 dX11_shut_16 (by decide) (fun b16 => ?_) (fun b16 => ?_)
    · replace h := if_t h b16
      refine lv_iconst (pc := 23) (v := 0) C.1 C.2.1 dX11_shut_23 (by decide) ?_
      exact w_X11_shut_b24 C hI hr hlk hR c0 i1 i2 0 v2 _ _ _ kc0 h hP hS (lv_sub hl [0, 1, 2] rfl)
    · replace h := if_f h b16
      refine lv_iconst (pc := 19) (v := 1) C.1 C.2.1 dX11_shut_19 (by decide) ?_
      refine lv_goto (pc := 20) (tgt := 24) C.1 C.2.1 dX11_shut_20 (by decide) ?_
      exact w_X11_shut_b24 C hI hr hlk hR c0 i1 i2 1 v2 _ _ _ kc0 h hP hS (lv_sub hl [0, 1, 2] rfl)
  · replace h := if_t h b5
    refine lv_iconst (pc := 8) (v := (-1)) C.1 C.2.1 dX11_shut_8 (by decide) ?_
    exact x_iret (pc := 9) C hr hlk hP hS h dX11_shut_9
set_option maxRecDepth 100000 in
theorem m_X11_shut (hI : wI LM ad) {c0 : Nat} {i1 : Int32} {i2 : Int32} {v : VV} {rZ : Int32} {vZ : VV} (kc0 : wk LM c0 11) (h : F_X11_shut c0 i1 i2 v = some (rZ, vZ)) : Met l yX11_shut (Cond.code yX11_shut cX11_shut 4 (some .int) :: wsG) (rmL 3) (pcG LM cy ad D [.ref (ad c0), .int i1, .int i2] v) (qiG LM cy ad D rZ vZ) 0 0 (wA LM ad) := by
  refine Met.ofW (cc := cX11_shut) (maxL := 4) (ret := (some .int)) (by decide) rfl ?_
  intro p e s m args below meth c s₁ B hml hv
  obtain ⟨rfl, hP, hK⟩ := hv
  have hts := atoms_spec (ws := Cond.code yX11_shut cX11_shut 4 (some .int) :: wsG) B.pre
  have hown : s.vm.findClass RX11 = some m.cls := findClass_of_methodNamed B.named
  have C : Cx p s m _ c cX11_shut 4 RX11 D cy := ⟨B.exec, B.bytes, hml, hown, fun w hw => hts w (List.mem_cons_of_mem _ hw), hK⟩
  have hl := lv_entry ([.ref (ad c0), .int i1, .int i2]) (n := 4) (Nat.le_of_ble_eq_true rfl)
  rw [lg_entry_eq]
  generalize (lg_sl ([.ref (ad c0), .int i1, .int i2]) ++ List.replicate (4 - (lg_sl ([.ref (ad c0), .int i1, .int i2])).length) Slot.unset).toArray = ls at hl ⊢
  have hl : lv_has ls 4 [(0, .ref (ad c0)), (1, .int i1), (2, .int i2)] := hl
  exact w_X11_shut C hI B.returns B.notSynchronized (RoL_rm _) c0 i1 i2 v _ _ _ kc0 h hP va_S.rf (lv_sub hl [0, 1, 2] rfl)
def f_X11_way (c0 : Nat) (i1 : Int32) (i2 : Int32) (i3 : Int32) (v : VV) : Option (Int32 × VV) :=
  bi (F_X11_isPort c0 i1 v) fun x3 v2 =>
  if (x3 = 0) then
    some ((-1), v2)
  else
    bi (F_X11_isPort c0 i2 v2) fun x6 v5 =>
    if (x6 = 0) then
      some ((-1), v5)
    else
      if (i1 = i2) then
        some ((-1), v5)
      else
        bi (F_X11_in (Int32.toInt64 i3) 0 9 v5) fun x9 v8 =>
        if (x9 = 0) then
          some ((-2), v8)
        else
          gd (inB ((6 * i1) + i2) (lnM (rfM c0 13)) = true) <|
          nv ((v8 (rfM c0 13) (Int32.toNatClampNeg ((6 * i1) + i2)))) fun x12 =>
          gd (inB ((6 * i1) + i2) (lnM (rfM c0 13)) = true) <|
          nv (wu v8 (rfM c0 13) (Int32.toNatClampNeg ((6 * i1) + i2)) i3) fun v15 =>
          gd (inB ((6 * i2) + i1) (lnM (rfM c0 13)) = true) <|
          nv (wu v15 (rfM c0 13) (Int32.toNatClampNeg ((6 * i2) + i1)) i3) fun v18 =>
          some (x12, v18)
abbrev F_X11_way (c0 : Nat) (i1 : Int32) (i2 : Int32) (i3 : Int32) (v : VV) : Option (Int32 × VV) := f_X11_way c0 i1 i2 i3 v
set_option maxHeartbeats 4000000 in
set_option maxRecDepth 100000 in
theorem w_X11_way (C : Cx p s m args c cX11_way 5 RX11 D cy) (hI : wI LM ad) (hr : meth.sig.returnType = some .int) (hlk : meth.locks = false) (hR : RoL 3 R) {rZ : Int32} {vZ : VV} : ∀ (c0 : Nat) (i1 : Int32) (i2 : Int32) (i3 : Int32) (v : VV) (H : Heap) (locs : List Loc) (ls : Array Slot), wk LM c0 11 → f_X11_way c0 i1 i2 i3 v = some (rZ, vZ) → va_P D vwCl (wd LM cy ad v) H → va_S (wA LM ad) s.heap H locs → lv_has ls 5 [(0, .ref (ad c0)), (1, .int i1), (2, .int i2), (3, .int i3)] → W p l e R s m args below meth c H locs 0 0 (MQ below (qiG LM cy ad D rZ vZ) args s 0 0 (wA LM ad)) (F0 m 0 ls []) := by
  intro c0 i1 i2 i3 v H locs ls kc0 h hP hS hl
  unfold f_X11_way at h
  refine lv_aload_n (pc := 0) C.1 C.2.1 dX11_way_0 rfl (lv_at hl 0 rfl) ?_
  refine lv_iload_n (pc := 1) C.1 C.2.1 dX11_way_1 rfl (lv_at hl 1 rfl) ?_
  obtain ⟨x3, v2, hc1, h⟩ := bi_e h
  refine x_calli (pc := 2) C hP hS mi_X11_isPort ck_11 kc0 ml_X11_99 (hR.le (by decide)) (Nat.zero_le _) (Nat.zero_le _) [.int i1] rfl hl.1 rfl (Nat.le_of_ble_eq_true rfl) dX11_way_2 (m_X11_isPort hI kc0 hc1) (fun H locs hP hS => ?_)
  refine lv_if_eq (pc := 5) (tgt := 21) C.1 C.2.1 dX11_way_5 (by decide) (fun b5 => ?_) (fun b5 => ?_)
  · replace h := if_t h b5
    refine lv_iconst (pc := 21) (v := (-1)) C.1 C.2.1 dX11_way_21 (by decide) ?_
    exact x_iret (pc := 22) C hr hlk hP hS h dX11_way_22
  · replace h := if_f h b5
    refine lv_aload_n (pc := 8) C.1 C.2.1 dX11_way_8 rfl (lv_at hl 0 rfl) ?_
    refine lv_iload_n (pc := 9) C.1 C.2.1 dX11_way_9 rfl (lv_at hl 2 rfl) ?_
    obtain ⟨x6, v5, hc4, h⟩ := bi_e h
    refine x_calli (pc := 10) C hP hS mi_X11_isPort ck_11 kc0 ml_X11_99 (hR.le (by decide)) (Nat.zero_le _) (Nat.zero_le _) [.int i2] rfl hl.1 rfl (Nat.le_of_ble_eq_true rfl) dX11_way_10 (m_X11_isPort hI kc0 hc4) (fun H locs hP hS => ?_)
    refine lv_if_eq (pc := 13) (tgt := 21) C.1 C.2.1 dX11_way_13 (by decide) (fun b13 => ?_) (fun b13 => ?_)
    · replace h := if_t h b13
      refine lv_iconst (pc := 21) (v := (-1)) C.1 C.2.1 dX11_way_21 (by decide) ?_
      exact x_iret (pc := 22) C hr hlk hP hS h dX11_way_22
    · replace h := if_f h b13
      refine lv_iload_n (pc := 16) C.1 C.2.1 dX11_way_16 rfl (lv_at hl 1 rfl) ?_
      refine lv_iload_n (pc := 17) C.1 C.2.1 dX11_way_17 rfl (lv_at hl 2 rfl) ?_
      refine lv_icmp_ne (pc := 18) (tgt := 23) C.1 C.2.1 dX11_way_18 (by decide) (fun b18 => ?_) (fun b18 => ?_)
      · replace h := if_f h b18
        refine lv_iload_n (pc := 23) C.1 C.2.1 dX11_way_23 rfl (lv_at hl 3 rfl) ?_
        refine lv_i2l (pc := 24) C.1 C.2.1 dX11_way_24 rfl ?_
        refine lv_lconst (pc := 25) (v := 0) C.1 C.2.1 dX11_way_25 (by decide) ?_
        refine lv_ldc2 (pc := 26) (v := 9) C.1 C.2.1 C.2.2.2.1 (C.2.2.2.2.1 _ cl_X11_126) dX11_way_26 ?_
        obtain ⟨x9, v8, hc7, h⟩ := bi_e h
        refine x_callsi (pc := 29) C hP hS ms_X11_in ml_X11_93 (hR.le (by decide)) (Nat.zero_le _) (Nat.zero_le _) [.long (Int32.toInt64 i3), .long 0, .long 9] rfl hl.1 rfl (Nat.le_of_ble_eq_true rfl) dX11_way_29 (m_X11_in hI hc7) (fun H locs hP hS => ?_)
        refine lv_if_ne (pc := 32) (tgt := 38) C.1 C.2.1 dX11_way_32 (by decide) (fun b32 => ?_) (fun b32 => ?_)
        · replace h := if_f h b32
          refine lv_aload_n (pc := 38) C.1 C.2.1 dX11_way_38 rfl (lv_at hl 0 rfl) ?_
          refine x_getr (pc := 39) C hP ck_11 13 fl_X11_45 (by decide) rfl kc0 dX11_way_39 ?_
          have k10 : wk LM (rfM c0 13) 12 := wt_f wT_M kc0 13 (by decide) rfl rfl
          refine lv_bipush (pc := 42) (v := 6) C.1 C.2.1 dX11_way_42 (by decide) ?_
          refine lv_iload_n (pc := 44) C.1 C.2.1 dX11_way_44 rfl (lv_at hl 1 rfl) ?_
          refine lv_imul (pc := 45) C.1 C.2.1 dX11_way_45 ?_
          refine lv_iload_n (pc := 46) C.1 C.2.1 dX11_way_46 rfl (lv_at hl 2 rfl) ?_
          refine lv_iadd (pc := 47) C.1 C.2.1 dX11_way_47 ?_
          obtain ⟨g11, h⟩ := gd_e h
          refine x_iald (pc := 48) C hP k10 (inB_vp g11) dX11_way_48 ?_
          refine lv_topi (fun x12 ex12 => ?_)
          replace h := nv_e h ex12
          clear ex12
          refine lv_istore (pc := 49) (lv' := [(4, .int x12), (0, .ref (ad c0)), (1, .int i1), (2, .int i2), (3, .int i3)]) C.1 C.2.1 dX11_way_49 hl (by decide) rfl (fun ls hl => ?_)
          refine lv_aload_n (pc := 51) C.1 C.2.1 dX11_way_51 rfl (lv_at hl 1 rfl) ?_
          refine x_getr (pc := 52) C hP ck_11 13 fl_X11_45 (by decide) rfl kc0 dX11_way_52 ?_
          have k13 : wk LM (rfM c0 13) 12 := wt_f wT_M kc0 13 (by decide) rfl rfl
          refine lv_bipush (pc := 55) (v := 6) C.1 C.2.1 dX11_way_55 (by decide) ?_
          refine lv_iload_n (pc := 57) C.1 C.2.1 dX11_way_57 rfl (lv_at hl 2 rfl) ?_
          refine lv_imul (pc := 58) C.1 C.2.1 dX11_way_58 ?_
          refine lv_iload_n (pc := 59) C.1 C.2.1 dX11_way_59 rfl (lv_at hl 3 rfl) ?_
          refine lv_iadd (pc := 60) C.1 C.2.1 dX11_way_60 ?_
          refine lv_iload_n (pc := 61) C.1 C.2.1 dX11_way_61 rfl (lv_at hl 4 rfl) ?_
          obtain ⟨g14, h⟩ := gd_e h
          refine x_iast (pc := 62) C hI hP hS k13 (inB_vp g14) dX11_way_62 (fun H locs hP hS => ?_)
          obtain ⟨v15, h, hP⟩ := nv_p (P := fun z => va_P D vwCl (wd LM cy ad z) H) h hP
          refine lv_aload_n (pc := 63) C.1 C.2.1 dX11_way_63 rfl (lv_at hl 1 rfl) ?_
          refine x_getr (pc := 64) C hP ck_11 13 fl_X11_45 (by decide) rfl kc0 dX11_way_64 ?_
          have k16 : wk LM (rfM c0 13) 12 := wt_f wT_M kc0 13 (by decide) rfl rfl
          refine lv_bipush (pc := 67) (v := 6) C.1 C.2.1 dX11_way_67 (by decide) ?_
          refine lv_iload_n (pc := 69) C.1 C.2.1 dX11_way_69 rfl (lv_at hl 3 rfl) ?_
          refine lv_imul (pc := 70) C.1 C.2.1 dX11_way_70 ?_
          refine lv_iload_n (pc := 71) C.1 C.2.1 dX11_way_71 rfl (lv_at hl 2 rfl) ?_
          refine lv_iadd (pc := 72) C.1 C.2.1 dX11_way_72 ?_
          refine lv_iload_n (pc := 73) C.1 C.2.1 dX11_way_73 rfl (lv_at hl 4 rfl) ?_
          obtain ⟨g17, h⟩ := gd_e h
          refine x_iast (pc := 74) C hI hP hS k16 (inB_vp g17) dX11_way_74 (fun H locs hP hS => ?_)
          obtain ⟨v18, h, hP⟩ := nv_p (P := fun z => va_P D vwCl (wd LM cy ad z) H) h hP
          refine lv_iload (pc := 75) C.1 C.2.1 dX11_way_75 (lv_at hl 0 rfl) ?_
          exact x_iret (pc := 77) C hr hlk hP hS h dX11_way_77
        · replace h := if_t h b32
          refine lv_bipush (pc := 35) (v := (-2)) C.1 C.2.1 dX11_way_35 (by decide) ?_
          exact x_iret (pc := 37) C hr hlk hP hS h dX11_way_37
      · replace h := if_t h b18
        refine lv_iconst (pc := 21) (v := (-1)) C.1 C.2.1 dX11_way_21 (by decide) ?_
        exact x_iret (pc := 22) C hr hlk hP hS h dX11_way_22
set_option maxRecDepth 100000 in
theorem m_X11_way (hI : wI LM ad) {c0 : Nat} {i1 : Int32} {i2 : Int32} {i3 : Int32} {v : VV} {rZ : Int32} {vZ : VV} (kc0 : wk LM c0 11) (h : F_X11_way c0 i1 i2 i3 v = some (rZ, vZ)) : Met l yX11_way (Cond.code yX11_way cX11_way 5 (some .int) :: wsG) (rmL 3) (pcG LM cy ad D [.ref (ad c0), .int i1, .int i2, .int i3] v) (qiG LM cy ad D rZ vZ) 0 0 (wA LM ad) := by
  refine Met.ofW (cc := cX11_way) (maxL := 5) (ret := (some .int)) (by decide) rfl ?_
  intro p e s m args below meth c s₁ B hml hv
  obtain ⟨rfl, hP, hK⟩ := hv
  have hts := atoms_spec (ws := Cond.code yX11_way cX11_way 5 (some .int) :: wsG) B.pre
  have hown : s.vm.findClass RX11 = some m.cls := findClass_of_methodNamed B.named
  have C : Cx p s m _ c cX11_way 5 RX11 D cy := ⟨B.exec, B.bytes, hml, hown, fun w hw => hts w (List.mem_cons_of_mem _ hw), hK⟩
  have hl := lv_entry ([.ref (ad c0), .int i1, .int i2, .int i3]) (n := 5) (Nat.le_of_ble_eq_true rfl)
  rw [lg_entry_eq]
  generalize (lg_sl ([.ref (ad c0), .int i1, .int i2, .int i3]) ++ List.replicate (5 - (lg_sl ([.ref (ad c0), .int i1, .int i2, .int i3])).length) Slot.unset).toArray = ls at hl ⊢
  have hl : lv_has ls 5 [(0, .ref (ad c0)), (1, .int i1), (2, .int i2), (3, .int i3)] := hl
  exact w_X11_way C hI B.returns B.notSynchronized (RoL_rm _) c0 i1 i2 i3 v _ _ _ kc0 h hP va_S.rf (lv_sub hl [0, 1, 2, 3] rfl)
def f_X11_ofPort_l16 (k42 : Nat → Int32 → Int32 → Int32 → VV → Option (Int32 × VV)) : Nat → Nat → Int32 → Int32 → Int32 → Int32 → VV → Option (Int32 × VV)
  | 0, _, _, _, _, _, _ => none
  | n + 1, c0, i1, i2, i3, i4, v =>
    if (3 ≤ i4) then
      k42 c0 i1 i2 i3 v
    else
      gd (inB ((3 * i1) + i4) (lnM (rfM c0 8)) = true) <|
      nv ((i3 + (v (rfM c0 8) (Int32.toNatClampNeg ((3 * i1) + i4))))) fun x6 =>
      nv (i4 + 1) fun x7 =>
      f_X11_ofPort_l16 k42 n c0 i1 i2 x6 x7 v
def f_X11_ofPort (c0 : Nat) (i1 : Int32) (i2 : Int32) (v : VV) : Option (Int32 × VV) :=
  bi (F_X11_isPort c0 i1 v) fun x3 v2 =>
  if (x3 = 0) then
    some ((-10000001), v2)
  else
    f_X11_ofPort_l16 (fun c0_8 i1_8 i2_8 i3_8 v_8 =>
    if i2_8 = 0 then
      gd (inB i1_8 (lnM (rfM c0_8 9)) = true) <|
      some ((v_8 (rfM c0_8 9) (Int32.toNatClampNeg i1_8)), v_8)
    else
    if i2_8 = 1 then
      gd (inB i1_8 (lnM (rfM c0_8 10)) = true) <|
      some ((v_8 (rfM c0_8 10) (Int32.toNatClampNeg i1_8)), v_8)
    else
    if i2_8 = 2 then
      gd (inB i1_8 (lnM (rfM c0_8 11)) = true) <|
      some ((v_8 (rfM c0_8 11) (Int32.toNatClampNeg i1_8)), v_8)
    else
    if i2_8 = 3 then
      gd (inB i1_8 (lnM (rfM c0_8 12)) = true) <|
      if ((v_8 (rfM c0_8 12) (Int32.toNatClampNeg i1_8)) = 0) then
        some (0, v_8)
      else
        some (1, v_8)
    else
    if i2_8 = 4 then
      some (i3_8, v_8)
    else
    some ((-10000002), v_8)) FU c0 i1 i2 0 0 v2
abbrev F_X11_ofPort (c0 : Nat) (i1 : Int32) (i2 : Int32) (v : VV) : Option (Int32 × VV) := f_X11_ofPort c0 i1 i2 v
set_option maxHeartbeats 4000000 in
set_option maxRecDepth 100000 in
theorem w_X11_ofPort_l16 (C : Cx p s m args c cX11_ofPort 5 RX11 D cy) (hI : wI LM ad) (hr : meth.sig.returnType = some .int) (hlk : meth.locks = false) (hR : RoL 3 R) (k42 : Nat → Int32 → Int32 → Int32 → VV → Option (Int32 × VV)) {rZ : Int32} {vZ : VV} (h42 : ∀ (c0 : Nat) (i1 : Int32) (i2 : Int32) (i3 : Int32) (v : VV) (H : Heap) (locs : List Loc) (ls : Array Slot), wk LM c0 11 → k42 c0 i1 i2 i3 v = some (rZ, vZ) → va_P D vwCl (wd LM cy ad v) H → va_S (wA LM ad) s.heap H locs → lv_has ls 5 [(0, .ref (ad c0)), (1, .int i1), (2, .int i2), (3, .int i3)] → W p l e R s m args below meth c H locs 0 0 (MQ below (qiG LM cy ad D rZ vZ) args s 0 0 (wA LM ad)) (F0 m 42 ls [])) : ∀ (n : Nat) (c0 : Nat) (i1 : Int32) (i2 : Int32) (i3 : Int32) (i4 : Int32) (v : VV) (H : Heap) (locs : List Loc) (ls : Array Slot), wk LM c0 11 → f_X11_ofPort_l16 k42 n c0 i1 i2 i3 i4 v = some (rZ, vZ) → va_P D vwCl (wd LM cy ad v) H → va_S (wA LM ad) s.heap H locs → lv_has ls 5 [(0, .ref (ad c0)), (1, .int i1), (2, .int i2), (3, .int i3), (4, .int i4)] → W p l e R s m args below meth c H locs 0 0 (MQ below (qiG LM cy ad D rZ vZ) args s 0 0 (wA LM ad)) (F0 m 16 ls []) := by
  intro n
  induction n with
  | zero => intro c0 i1 i2 i3 i4 v H locs ls kc0 h hP hS hl; exact absurd h (by simp [f_X11_ofPort_l16])
  | succ n ih =>
    intro c0 i1 i2 i3 i4 v H locs ls kc0 h hP hS hl
    rw [f_X11_ofPort_l16] at h
    refine lv_iload (pc := 16) C.1 C.2.1 dX11_ofPort_16 (lv_at hl 4 rfl) ?_
    refine lv_iconst (pc := 18) (v := 3) C.1 C.2.1 dX11_ofPort_18 (by decide) ?_
    refine lv_icmp_ge (pc := 19) (tgt := 42) C.1 C.2.1 dX11_ofPort_19 (by decide) (fun b19 => ?_) (fun b19 => ?_)
    · replace h := if_t h b19
      exact h42 c0 i1 i2 i3 v _ _ _ kc0 h hP hS (lv_sub hl [0, 1, 2, 3] rfl)
    · replace h := if_f h b19
      refine lv_iload_n (pc := 22) C.1 C.2.1 dX11_ofPort_22 rfl (lv_at hl 3 rfl) ?_
      refine lv_aload_n (pc := 23) C.1 C.2.1 dX11_ofPort_23 rfl (lv_at hl 0 rfl) ?_
      refine x_getr (pc := 24) C hP ck_11 8 fl_X11_29 (by decide) rfl kc0 dX11_ofPort_24 ?_
      have k4 : wk LM (rfM c0 8) 12 := wt_f wT_M kc0 8 (by decide) rfl rfl
      refine lv_iconst (pc := 27) (v := 3) C.1 C.2.1 dX11_ofPort_27 (by decide) ?_
      refine lv_iload_n (pc := 28) C.1 C.2.1 dX11_ofPort_28 rfl (lv_at hl 1 rfl) ?_
      refine lv_imul (pc := 29) C.1 C.2.1 dX11_ofPort_29 ?_
      refine lv_iload (pc := 30) C.1 C.2.1 dX11_ofPort_30 (lv_at hl 4 rfl) ?_
      refine lv_iadd (pc := 32) C.1 C.2.1 dX11_ofPort_32 ?_
      obtain ⟨g5, h⟩ := gd_e h
      refine x_iald (pc := 33) C hP k4 (inB_vp g5) dX11_ofPort_33 ?_
      refine lv_iadd (pc := 34) C.1 C.2.1 dX11_ofPort_34 ?_
      refine lv_topi (fun x6 ex6 => ?_)
      replace h := nv_e h ex6
      clear ex6
      refine lv_istore_n (pc := 35) (lv' := [(3, .int x6), (0, .ref (ad c0)), (1, .int i1), (2, .int i2), (4, .int i4)]) C.1 C.2.1 dX11_ofPort_35 rfl hl (by decide) rfl (fun ls hl => ?_)
      obtain ⟨x7, ex7⟩ : ∃ y : Int32, y = i4 + 1 := ⟨_, rfl⟩
      replace h := nv_e h ex7
      refine lv_iinc (pc := 36) (v := x7) (lv' := [(4, .int x7), (3, .int x6), (0, .ref (ad c0)), (1, .int i1), (2, .int i2)]) C.1 C.2.1 dX11_ofPort_36 hl (k := 4) rfl (by rw [ex7]; rfl) (by decide) rfl (fun ls hl => ?_)
      clear ex7
      refine lv_goto (pc := 39) (tgt := 16) C.1 C.2.1 dX11_ofPort_39 (by decide) ?_
      exact ih c0 i1 i2 x6 x7 v _ _ _ kc0 h hP hS (lv_sub hl [2, 3, 4, 1, 0] rfl)
set_option maxHeartbeats 4000000 in
set_option maxRecDepth 100000 in
theorem w_X11_ofPort (C : Cx p s m args c cX11_ofPort 5 RX11 D cy) (hI : wI LM ad) (hr : meth.sig.returnType = some .int) (hlk : meth.locks = false) (hR : RoL 3 R) {rZ : Int32} {vZ : VV} : ∀ (c0 : Nat) (i1 : Int32) (i2 : Int32) (v : VV) (H : Heap) (locs : List Loc) (ls : Array Slot), wk LM c0 11 → f_X11_ofPort c0 i1 i2 v = some (rZ, vZ) → va_P D vwCl (wd LM cy ad v) H → va_S (wA LM ad) s.heap H locs → lv_has ls 5 [(0, .ref (ad c0)), (1, .int i1), (2, .int i2)] → W p l e R s m args below meth c H locs 0 0 (MQ below (qiG LM cy ad D rZ vZ) args s 0 0 (wA LM ad)) (F0 m 0 ls []) := by
  intro c0 i1 i2 v H locs ls kc0 h hP hS hl
  unfold f_X11_ofPort at h
  refine lv_aload_n (pc := 0) C.1 C.2.1 dX11_ofPort_0 rfl (lv_at hl 0 rfl) ?_
  refine lv_iload_n (pc := 1) C.1 C.2.1 dX11_ofPort_1 rfl (lv_at hl 1 rfl) ?_
  obtain ⟨x3, v2, hc1, h⟩ := bi_e h
  refine x_calli (pc := 2) C hP hS mi_X11_isPort ck_11 kc0 ml_X11_99 (hR.le (by decide)) (Nat.zero_le _) (Nat.zero_le _) [.int i1] rfl hl.1 rfl (Nat.le_of_ble_eq_true rfl) dX11_ofPort_2 (m_X11_isPort hI kc0 hc1) (fun H locs hP hS => ?_)
  refine lv_if_ne (pc := 5) (tgt := 11) C.1 C.2.1 dX11_ofPort_5 (by decide) (fun b5 => ?_) (fun b5 => ?_)
  · replace h := if_f h b5
    refine lv_iconst (pc := 11) (v := 0) C.1 C.2.1 dX11_ofPort_11 (by decide) ?_
    refine lv_istore_n (pc := 12) (lv' := [(3, .int 0), (0, .ref (ad c0)), (1, .int i1), (2, .int i2)]) C.1 C.2.1 dX11_ofPort_12 rfl hl (by decide) rfl (fun ls hl => ?_)
    refine lv_iconst (pc := 13) (v := 0) C.1 C.2.1 dX11_ofPort_13 (by decide) ?_
    refine lv_istore (pc := 14) (lv' := [(4, .int 0), (3, .int 0), (0, .ref (ad c0)), (1, .int i1), (2, .int i2)]) C.1 C.2.1 dX11_ofPort_14 hl (by decide) rfl (fun ls hl => ?_)
    refine w_X11_ofPort_l16 C hI hr hlk hR _ ?_ FU c0 i1 i2 0 0 v2 _ _ _ kc0 h hP hS (lv_sub hl [2, 3, 4, 1, 0] rfl)
    intro c0_8 i1_8 i2_8 i3_8 v_8 H locs ls kc0_8 h hP hS hl
    refine lv_iload_n (pc := 42) C.1 C.2.1 dX11_ofPort_42 rfl (lv_at hl 2 rfl) ?_
    by_cases b43_0 : i2_8 = 0
    · replace h := if_t h b43_0
      refine x_swIn (pc := 43) C (tgt := 76) 0 0 (by decide) b43_0 dX11_ofPort_43 (by decide) rfl (by decide) ?_
      refine lv_aload_n (pc := 76) C.1 C.2.1 dX11_ofPort_76 rfl (lv_at hl 0 rfl) ?_
      refine x_getr (pc := 77) C hP ck_11 9 fl_X11_32 (by decide) rfl kc0_8 dX11_ofPort_77 ?_
      have k9 : wk LM (rfM c0_8 9) 12 := wt_f wT_M kc0_8 9 (by decide) rfl rfl
      refine lv_iload_n (pc := 80) C.1 C.2.1 dX11_ofPort_80 rfl (lv_at hl 1 rfl) ?_
      obtain ⟨g10, h⟩ := gd_e h
      refine x_iald (pc := 81) C hP k9 (inB_vp g10) dX11_ofPort_81 ?_
      exact x_iret (pc := 82) C hr hlk hP hS h dX11_ofPort_82
    replace h := if_f h b43_0
    by_cases b43_1 : i2_8 = 1
    · replace h := if_t h b43_1
      refine x_swIn (pc := 43) C (tgt := 83) 1 1 (by decide) b43_1 dX11_ofPort_43 (by decide) rfl (by decide) ?_
      refine lv_aload_n (pc := 83) C.1 C.2.1 dX11_ofPort_83 rfl (lv_at hl 0 rfl) ?_
      refine x_getr (pc := 84) C hP ck_11 10 fl_X11_35 (by decide) rfl kc0_8 dX11_ofPort_84 ?_
      have k11 : wk LM (rfM c0_8 10) 12 := wt_f wT_M kc0_8 10 (by decide) rfl rfl
      refine lv_iload_n (pc := 87) C.1 C.2.1 dX11_ofPort_87 rfl (lv_at hl 1 rfl) ?_
      obtain ⟨g12, h⟩ := gd_e h
      refine x_iald (pc := 88) C hP k11 (inB_vp g12) dX11_ofPort_88 ?_
      exact x_iret (pc := 89) C hr hlk hP hS h dX11_ofPort_89
    replace h := if_f h b43_1
    by_cases b43_2 : i2_8 = 2
    · replace h := if_t h b43_2
      refine x_swIn (pc := 43) C (tgt := 90) 2 2 (by decide) b43_2 dX11_ofPort_43 (by decide) rfl (by decide) ?_
      refine lv_aload_n (pc := 90) C.1 C.2.1 dX11_ofPort_90 rfl (lv_at hl 0 rfl) ?_
      refine x_getr (pc := 91) C hP ck_11 11 fl_X11_38 (by decide) rfl kc0_8 dX11_ofPort_91 ?_
      have k13 : wk LM (rfM c0_8 11) 12 := wt_f wT_M kc0_8 11 (by decide) rfl rfl
      refine lv_iload_n (pc := 94) C.1 C.2.1 dX11_ofPort_94 rfl (lv_at hl 1 rfl) ?_
      obtain ⟨g14, h⟩ := gd_e h
      refine x_iald (pc := 95) C hP k13 (inB_vp g14) dX11_ofPort_95 ?_
      exact x_iret (pc := 96) C hr hlk hP hS h dX11_ofPort_96
    replace h := if_f h b43_2
    by_cases b43_3 : i2_8 = 3
    · replace h := if_t h b43_3
      refine x_swIn (pc := 43) C (tgt := 97) 3 3 (by decide) b43_3 dX11_ofPort_43 (by decide) rfl (by decide) ?_
      refine lv_aload_n (pc := 97) C.1 C.2.1 dX11_ofPort_97 rfl (lv_at hl 0 rfl) ?_
      refine x_getr (pc := 98) C hP ck_11 12 fl_X11_41 (by decide) rfl kc0_8 dX11_ofPort_98 ?_
      have k15 : wk LM (rfM c0_8 12) 13 := wt_f wT_M kc0_8 12 (by decide) rfl rfl
      refine lv_iload_n (pc := 101) C.1 C.2.1 dX11_ofPort_101 rfl (lv_at hl 1 rfl) ?_
      obtain ⟨g16, h⟩ := gd_e h
      refine x_zald (pc := 102) C hP k15 (inB_vp g16) dX11_ofPort_102 ?_
      refine lv_if_eq (pc := 103) (tgt := 110) C.1 C.2.1 dX11_ofPort_103 (by decide) (fun b103 => ?_) (fun b103 => ?_)
      · replace h := if_t h b103
        refine lv_iconst (pc := 110) (v := 0) C.1 C.2.1 dX11_ofPort_110 (by decide) ?_
        exact x_iret (pc := 111) C hr hlk hP hS h dX11_ofPort_111
      · replace h := if_f h b103
        refine lv_iconst (pc := 106) (v := 1) C.1 C.2.1 dX11_ofPort_106 (by decide) ?_
        refine lv_goto (pc := 107) (tgt := 111) C.1 C.2.1 dX11_ofPort_107 (by decide) ?_
        exact x_iret (pc := 111) C hr hlk hP hS h dX11_ofPort_111
    replace h := if_f h b43_3
    by_cases b43_4 : i2_8 = 4
    · replace h := if_t h b43_4
      refine x_swIn (pc := 43) C (tgt := 112) 4 4 (by decide) b43_4 dX11_ofPort_43 (by decide) rfl (by decide) ?_
      refine lv_iload_n (pc := 112) C.1 C.2.1 dX11_ofPort_112 rfl (lv_at hl 3 rfl) ?_
      exact x_iret (pc := 113) C hr hlk hP hS h dX11_ofPort_113
    replace h := if_f h b43_4
    refine x_swOut (pc := 43) C (tgt := 114) dX11_ofPort_43 (by have := lv_neT b43_0 (a := 0) (by decide); have := lv_neT b43_1 (a := 1) (by decide); have := lv_neT b43_2 (a := 2) (by decide); have := lv_neT b43_3 (a := 3) (by decide); have := lv_neT b43_4 (a := 4) (by decide); omega) (by decide) ?_
    refine lv_ldc (pc := 114) (v := (-10000002)) C.1 C.2.1 C.2.2.2.1 (C.2.2.2.2.1 _ ct_X11_129) dX11_ofPort_114 ?_
    exact x_iret (pc := 116) C hr hlk hP hS h dX11_ofPort_116
  · replace h := if_t h b5
    refine lv_ldc (pc := 8) (v := (-10000001)) C.1 C.2.1 C.2.2.2.1 (C.2.2.2.2.1 _ ct_X11_128) dX11_ofPort_8 ?_
    exact x_iret (pc := 10) C hr hlk hP hS h dX11_ofPort_10
set_option maxRecDepth 100000 in
theorem m_X11_ofPort (hI : wI LM ad) {c0 : Nat} {i1 : Int32} {i2 : Int32} {v : VV} {rZ : Int32} {vZ : VV} (kc0 : wk LM c0 11) (h : F_X11_ofPort c0 i1 i2 v = some (rZ, vZ)) : Met l yX11_ofPort (Cond.code yX11_ofPort cX11_ofPort 5 (some .int) :: wsG) (rmL 3) (pcG LM cy ad D [.ref (ad c0), .int i1, .int i2] v) (qiG LM cy ad D rZ vZ) 0 0 (wA LM ad) := by
  refine Met.ofW (cc := cX11_ofPort) (maxL := 5) (ret := (some .int)) (by decide) rfl ?_
  intro p e s m args below meth c s₁ B hml hv
  obtain ⟨rfl, hP, hK⟩ := hv
  have hts := atoms_spec (ws := Cond.code yX11_ofPort cX11_ofPort 5 (some .int) :: wsG) B.pre
  have hown : s.vm.findClass RX11 = some m.cls := findClass_of_methodNamed B.named
  have C : Cx p s m _ c cX11_ofPort 5 RX11 D cy := ⟨B.exec, B.bytes, hml, hown, fun w hw => hts w (List.mem_cons_of_mem _ hw), hK⟩
  have hl := lv_entry ([.ref (ad c0), .int i1, .int i2]) (n := 5) (Nat.le_of_ble_eq_true rfl)
  rw [lg_entry_eq]
  generalize (lg_sl ([.ref (ad c0), .int i1, .int i2]) ++ List.replicate (5 - (lg_sl ([.ref (ad c0), .int i1, .int i2])).length) Slot.unset).toArray = ls at hl ⊢
  have hl : lv_has ls 5 [(0, .ref (ad c0)), (1, .int i1), (2, .int i2)] := hl
  exact w_X11_ofPort C hI B.returns B.notSynchronized (RoL_rm _) c0 i1 i2 v _ _ _ kc0 h hP va_S.rf (lv_sub hl [0, 1, 2] rfl)
def f_X11_held (i0 : Int32) (v : VV) : Option (Int32 × VV) :=
  if (0 ≤ i0) then
    if (i0 ≤ 1000) then
      some (i0, v)
    else
      some (1000, v)
  else
    some (0, v)
abbrev F_X11_held (i0 : Int32) (v : VV) : Option (Int32 × VV) := f_X11_held i0 v
set_option maxHeartbeats 4000000 in
set_option maxRecDepth 100000 in
theorem w_X11_held (C : Cx p s m args c cX11_held 1 RX11 D cy) (hI : wI LM ad) (hr : meth.sig.returnType = some .int) (hlk : meth.locks = false) (hR : RoL 1 R) {rZ : Int32} {vZ : VV} : ∀ (i0 : Int32) (v : VV) (H : Heap) (locs : List Loc) (ls : Array Slot), f_X11_held i0 v = some (rZ, vZ) → va_P D vwCl (wd LM cy ad v) H → va_S (wA LM ad) s.heap H locs → lv_has ls 1 [(0, .int i0)] → W p l e R s m args below meth c H locs 0 0 (MQ below (qiG LM cy ad D rZ vZ) args s 0 0 (wA LM ad)) (F0 m 0 ls []) := by
  intro i0 v H locs ls h hP hS hl
  unfold f_X11_held at h
  refine lv_iload_n (pc := 0) C.1 C.2.1 dX11_held_0 rfl (lv_at hl 0 rfl) ?_
  refine lv_if_ge (pc := 1) (tgt := 8) C.1 C.2.1 dX11_held_1 (by decide) (fun b1 => ?_) (fun b1 => ?_)
  · replace h := if_t h b1
    refine lv_iload_n (pc := 8) C.1 C.2.1 dX11_held_8 rfl (lv_at hl 0 rfl) ?_
    refine lv_sipush (pc := 9) (v := 1000) C.1 C.2.1 dX11_held_9 (by decide) ?_
    refine lv_icmp_le (pc := 12) (tgt := 21) C.1 C.2.1 dX11_held_12 (by decide) (fun b12 => ?_) (fun b12 => ?_)
    · replace h := if_t h b12
      refine lv_iload_n (pc := 21) C.1 C.2.1 dX11_held_21 rfl (lv_at hl 0 rfl) ?_
      exact x_iret (pc := 22) C hr hlk hP hS h dX11_held_22
    · replace h := if_f h b12
      refine lv_sipush (pc := 15) (v := 1000) C.1 C.2.1 dX11_held_15 (by decide) ?_
      refine lv_goto (pc := 18) (tgt := 22) C.1 C.2.1 dX11_held_18 (by decide) ?_
      exact x_iret (pc := 22) C hr hlk hP hS h dX11_held_22
  · replace h := if_f h b1
    refine lv_iconst (pc := 4) (v := 0) C.1 C.2.1 dX11_held_4 (by decide) ?_
    refine lv_goto (pc := 5) (tgt := 22) C.1 C.2.1 dX11_held_5 (by decide) ?_
    exact x_iret (pc := 22) C hr hlk hP hS h dX11_held_22
set_option maxRecDepth 100000 in
theorem m_X11_held (hI : wI LM ad) {i0 : Int32} {v : VV} {rZ : Int32} {vZ : VV} (h : F_X11_held i0 v = some (rZ, vZ)) : Met l yX11_held (Cond.code yX11_held cX11_held 1 (some .int) :: wsG) (rmL 1) (pcG LM cy ad D [.int i0] v) (qiG LM cy ad D rZ vZ) 0 0 (wA LM ad) := by
  refine Met.ofW (cc := cX11_held) (maxL := 1) (ret := (some .int)) (by decide) rfl ?_
  intro p e s m args below meth c s₁ B hml hv
  obtain ⟨rfl, hP, hK⟩ := hv
  have hts := atoms_spec (ws := Cond.code yX11_held cX11_held 1 (some .int) :: wsG) B.pre
  have hown : s.vm.findClass RX11 = some m.cls := findClass_of_methodNamed B.named
  have C : Cx p s m _ c cX11_held 1 RX11 D cy := ⟨B.exec, B.bytes, hml, hown, fun w hw => hts w (List.mem_cons_of_mem _ hw), hK⟩
  have hl := lv_entry ([.int i0]) (n := 1) (Nat.le_of_ble_eq_true rfl)
  rw [lg_entry_eq]
  generalize (lg_sl ([.int i0]) ++ List.replicate (1 - (lg_sl ([.int i0])).length) Slot.unset).toArray = ls at hl ⊢
  have hl : lv_has ls 1 [(0, .int i0)] := hl
  exact w_X11_held C hI B.returns B.notSynchronized (RoL_rm _) i0 v _ _ _ h hP va_S.rf (lv_sub hl [0] rfl)
end
