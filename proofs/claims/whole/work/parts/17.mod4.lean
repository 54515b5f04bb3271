section
variable {p : Program} {l : Launch} {e : Env} {R : Room} {s : State} {m : MethodId} {args : Array Value} {below : List Frame} {meth : Method} {c : Code} {D : va_G} {cy : Nat → ClassId} {ad : Nat → Nat}
def f_X11_tickThen_l2 (k61 : Nat → VV → Option (VV)) : Nat → Nat → Int32 → VV → Option (VV)
  | 0, _, _, _ => none
  | n + 1, c0, i1, v =>
    if ((v c0 22) ≤ i1) then
      k61 c0 v
    else
      gd (inB i1 (lnM (rfM c0 19)) = true) <|
      if ((v (rfM c0 19) (Int32.toNatClampNeg i1)) = (v c0 34)) then
        gd (inB i1 (lnM (rfM c0 20)) = true) <|
        gd (inB i1 (lnM (rfM c0 20)) = true) <|
        gd (inB (v (rfM c0 20) (Int32.toNatClampNeg i1)) (lnM (rfM c0 33)) = true) <|
        gd (inB i1 (lnM (rfM c0 21)) = true) <|
        bi (F_X11_held ((v (rfM c0 33) (Int32.toNatClampNeg (v (rfM c0 20) (Int32.toNatClampNeg i1)))) + (v (rfM c0 21) (Int32.toNatClampNeg i1))) v) fun x15 v14 =>
        gd (inB (v (rfM c0 20) (Int32.toNatClampNeg i1)) (lnM (rfM c0 33)) = true) <|
        nv (wu v14 (rfM c0 33) (Int32.toNatClampNeg (v (rfM c0 20) (Int32.toNatClampNeg i1))) x15) fun v17 =>
        nv (i1 + 1) fun x18 =>
        f_X11_tickThen_l2 k61 n c0 x18 v17
      else
        nv (i1 + 1) fun x3 =>
        f_X11_tickThen_l2 k61 n c0 x3 v
def f_X11_tickThen_b116 (k63 : Nat → Int32 → VV → Option (VV)) (c0 : Nat) (i1 : Int32) (tc0 : Nat) (t1 : Int32) (t2 : Int32) (t3 : Int32) (v : VV) : Option (VV) :=
  gd (inB t1 (lnM tc0) = true) <|
  nv (wu v tc0 (Int32.toNatClampNeg t1) (t2 - t3)) fun v33 =>
  nv (i1 + 1) fun x34 =>
  k63 c0 x34 v33
def f_X11_tickThen_l63 (k124 : Nat → VV → Option (VV)) : Nat → Nat → Int32 → VV → Option (VV)
  | 0, _, _, _ => none
  | n + 1, c0, i1, v =>
    if ((3 * (v c0 0)) ≤ i1) then
      k124 c0 v
    else
      gd (inB i1 (lnM (rfM c0 33)) = true) <|
      gd (inB i1 (lnM (rfM c0 4)) = true) <|
      bi (F_X11_held ((v (rfM c0 33) (Int32.toNatClampNeg i1)) + (v (rfM c0 4) (Int32.toNatClampNeg i1))) v) fun x26 v25 =>
      gd (inB i1 (lnM (rfM c0 5)) = true) <|
      if ((v25 (rfM c0 5) (Int32.toNatClampNeg i1)) ≤ x26) then
        gd (inB i1 (lnM (rfM c0 5)) = true) <|
        f_X11_tickThen_b116 (fun c0 i1 v => f_X11_tickThen_l63 k124 n c0 i1 v) c0 i1 (rfM c0 33) i1 x26 (v25 (rfM c0 5) (Int32.toNatClampNeg i1)) v25
      else
        f_X11_tickThen_b116 (fun c0 i1 v => f_X11_tickThen_l63 k124 n c0 i1 v) c0 i1 (rfM c0 33) i1 x26 x26 v25
def f_X11_tickThen (c0 : Nat) (v : VV) : Option (VV) :=
  f_X11_tickThen_l2 (fun c0_19 v_19 =>
  f_X11_tickThen_l63 (fun c0_35 v_35 =>
  nv (wu v_35 c0_35 34 ((v_35 c0_35 34) + 1)) fun v36 =>
  some v36) FU c0_19 0 v_19) FU c0 0 v
abbrev F_X11_tickThen (c0 : Nat) (v : VV) : Option (VV) := f_X11_tickThen c0 v
set_option maxHeartbeats 4000000 in
set_option maxRecDepth 100000 in
theorem w_X11_tickThen_l2 (C : Cx p s m args c cX11_tickThen 3 RX11 D cy) (hI : wI LM ad) (hr : meth.sig.returnType = none) (hlk : meth.locks = false) (hR : RoL 2 R) (k61 : Nat → VV → Option (VV)) {vZ : VV} (h61 : ∀ (c0 : Nat) (v : VV) (H : Heap) (locs : List Loc) (ls : Array Slot), wk LM c0 11 → k61 c0 v = some vZ → va_P D vwCl (wd LM cy ad v) H → va_S (wA LM ad) s.heap H locs → lv_has ls 3 [(0, .ref (ad c0))] → W p l e R s m args below meth c H locs 0 0 (MQ below (qvG LM cy ad D vZ) args s 0 0 (wA LM ad)) (F0 m 61 ls [])) : ∀ (n : Nat) (c0 : Nat) (i1 : Int32) (v : VV) (H : Heap) (locs : List Loc) (ls : Array Slot), wk LM c0 11 → f_X11_tickThen_l2 k61 n c0 i1 v = some vZ → va_P D vwCl (wd LM cy ad v) H → va_S (wA LM ad) s.heap H locs → lv_has ls 3 [(0, .ref (ad c0)), (1, .int i1)] → W p l e R s m args below meth c H locs 0 0 (MQ below (qvG LM cy ad D vZ) args s 0 0 (wA LM ad)) (F0 m 2 ls []) := by
  intro n
  induction n with
  | zero => intro c0 i1 v H locs ls kc0 h hP hS hl; exact absurd h (by simp [f_X11_tickThen_l2])
  | succ n ih =>
    intro c0 i1 v H locs ls kc0 h hP hS hl
    rw [f_X11_tickThen_l2] at h
    refine lv_iload_n (pc := 2) C.1 C.2.1 dX11_tickThen_2 rfl (lv_at hl 1 rfl) ?_
    refine lv_aload_n (pc := 3) C.1 C.2.1 dX11_tickThen_3 rfl (lv_at hl 0 rfl) ?_
    refine x_geti (pc := 4) C hP ck_11 22 fl_X11_130 (by decide) rfl kc0 dX11_tickThen_4 ?_
    refine lv_icmp_ge (pc := 7) (tgt := 61) C.1 C.2.1 dX11_tickThen_7 (by decide) (fun b7 => ?_) (fun b7 => ?_)
    · replace h := if_t h b7
      exact h61 c0 v _ _ _ kc0 h hP hS (lv_sub hl [0] rfl)
    · replace h := if_f h b7
      refine lv_aload_n (pc := 10) C.1 C.2.1 dX11_tickThen_10 rfl (lv_at hl 0 rfl) ?_
      refine x_getr (pc := 11) C hP ck_11 19 fl_X11_48 (by decide) rfl kc0 dX11_tickThen_11 ?_
      have k1 : wk LM (rfM c0 19) 12 := wt_f wT_M kc0 19 (by decide) rfl rfl
      refine lv_iload_n (pc := 14) C.1 C.2.1 dX11_tickThen_14 rfl (lv_at hl 1 rfl) ?_
      obtain ⟨g2, h⟩ := gd_e h
      refine x_iald (pc := 15) C hP k1 (inB_vp g2) dX11_tickThen_15 ?_
      refine lv_aload_n (pc := 16) C.1 C.2.1 dX11_tickThen_16 rfl (lv_at hl 0 rfl) ?_
      refine x_geti (pc := 17) C hP ck_11 34 fl_X11_209 (by decide) rfl kc0 dX11_tickThen_17 ?_
      refine lv_icmp_ne (pc := 20) (tgt := 55) C.1 C.2.1 dX11_tickThen_20 (by decide) (fun b20 => ?_) (fun b20 => ?_)
      · replace h := if_f h b20
        obtain ⟨x3, ex3⟩ : ∃ y : Int32, y = i1 + 1 := ⟨_, rfl⟩
        replace h := nv_e h ex3
        refine lv_iinc (pc := 55) (v := x3) (lv' := [(1, .int x3), (0, .ref (ad c0))]) C.1 C.2.1 dX11_tickThen_55 hl (k := 1) rfl (by rw [ex3]; rfl) (by decide) rfl (fun ls hl => ?_)
        clear ex3
        refine lv_goto (pc := 58) (tgt := 2) C.1 C.2.1 dX11_tickThen_58 (by decide) ?_
        exact ih c0 x3 v _ _ _ kc0 h hP hS (lv_sub hl [1, 0] rfl)
      · replace h := if_t h b20
        refine lv_aload_n (pc := 23) C.1 C.2.1 dX11_tickThen_23 rfl (lv_at hl 0 rfl) ?_
        refine x_getr (pc := 24) C hP ck_11 33 fl_X11_75 (by decide) rfl kc0 dX11_tickThen_24 ?_
        have k4 : wk LM (rfM c0 33) 12 := wt_f wT_M kc0 33 (by decide) rfl rfl
        refine lv_aload_n (pc := 27) C.1 C.2.1 dX11_tickThen_27 rfl (lv_at hl 0 rfl) ?_
        refine x_getr (pc := 28) C hP ck_11 20 fl_X11_51 (by decide) rfl kc0 dX11_tickThen_28 ?_
        have k5 : wk LM (rfM c0 20) 12 := wt_f wT_M kc0 20 (by decide) rfl rfl
        refine lv_iload_n (pc := 31) C.1 C.2.1 dX11_tickThen_31 rfl (lv_at hl 1 rfl) ?_
        obtain ⟨g6, h⟩ := gd_e h
        refine x_iald (pc := 32) C hP k5 (inB_vp g6) dX11_tickThen_32 ?_
        refine lv_aload_n (pc := 33) C.1 C.2.1 dX11_tickThen_33 rfl (lv_at hl 0 rfl) ?_
        refine x_getr (pc := 34) C hP ck_11 33 fl_X11_75 (by decide) rfl kc0 dX11_tickThen_34 ?_
        have k7 : wk LM (rfM c0 33) 12 := wt_f wT_M kc0 33 (by decide) rfl rfl
        refine lv_aload_n (pc := 37) C.1 C.2.1 dX11_tickThen_37 rfl (lv_at hl 0 rfl) ?_
        refine x_getr (pc := 38) C hP ck_11 20 fl_X11_51 (by decide) rfl kc0 dX11_tickThen_38 ?_
        have k8 : wk LM (rfM c0 20) 12 := wt_f wT_M kc0 20 (by decide) rfl rfl
        refine lv_iload_n (pc := 41) C.1 C.2.1 dX11_tickThen_41 rfl (lv_at hl 1 rfl) ?_
        obtain ⟨g9, h⟩ := gd_e h
        refine x_iald (pc := 42) C hP k8 (inB_vp g9) dX11_tickThen_42 ?_
        obtain ⟨g10, h⟩ := gd_e h
        refine x_iald (pc := 43) C hP k7 (inB_vp g10) dX11_tickThen_43 ?_
        refine lv_aload_n (pc := 44) C.1 C.2.1 dX11_tickThen_44 rfl (lv_at hl 0 rfl) ?_
        refine x_getr (pc := 45) C hP ck_11 21 fl_X11_54 (by decide) rfl kc0 dX11_tickThen_45 ?_
        have k11 : wk LM (rfM c0 21) 12 := wt_f wT_M kc0 21 (by decide) rfl rfl
        refine lv_iload_n (pc := 48) C.1 C.2.1 dX11_tickThen_48 rfl (lv_at hl 1 rfl) ?_
        obtain ⟨g12, h⟩ := gd_e h
        refine x_iald (pc := 49) C hP k11 (inB_vp g12) dX11_tickThen_49 ?_
        refine lv_iadd (pc := 50) C.1 C.2.1 dX11_tickThen_50 ?_
        obtain ⟨x15, v14, hc13, h⟩ := bi_e h
        refine x_callsi (pc := 51) C hP hS ms_X11_held ml_X11_136 (hR.le (by decide)) (Nat.zero_le _) (Nat.zero_le _) [.int ((v (rfM c0 33) (Int32.toNatClampNeg (v (rfM c0 20) (Int32.toNatClampNeg i1)))) + (v (rfM c0 21) (Int32.toNatClampNeg i1)))] rfl hl.1 rfl (Nat.le_of_ble_eq_true rfl) dX11_tickThen_51 (m_X11_held hI hc13) (fun H locs hP hS => ?_)
        obtain ⟨g16, h⟩ := gd_e h
        refine x_iast (pc := 54) C hI hP hS k4 (inB_vp g16) dX11_tickThen_54 (fun H locs hP hS => ?_)
        obtain ⟨v17, h, hP⟩ := nv_p (P := fun z => va_P D vwCl (wd LM cy ad z) H) h hP
        obtain ⟨x18, ex18⟩ : ∃ y : Int32, y = i1 + 1 := ⟨_, rfl⟩
        replace h := nv_e h ex18
        refine lv_iinc (pc := 55) (v := x18) (lv' := [(1, .int x18), (0, .ref (ad c0))]) C.1 C.2.1 dX11_tickThen_55 hl (k := 1) rfl (by rw [ex18]; rfl) (by decide) rfl (fun ls hl => ?_)
        clear ex18
        refine lv_goto (pc := 58) (tgt := 2) C.1 C.2.1 dX11_tickThen_58 (by decide) ?_
        exact ih c0 x18 v17 _ _ _ kc0 h hP hS (lv_sub hl [1, 0] rfl)
set_option maxHeartbeats 4000000 in
set_option maxRecDepth 100000 in
theorem w_X11_tickThen_b116 (C : Cx p s m args c cX11_tickThen 3 RX11 D cy) (hI : wI LM ad) (hr : meth.sig.returnType = none) (hlk : meth.locks = false) (hR : RoL 2 R) (k63 : Nat → Int32 → VV → Option (VV)) {vZ : VV} (h63 : ∀ (c0 : Nat) (i1 : Int32) (v : VV) (H : Heap) (locs : List Loc) (ls : Array Slot), wk LM c0 11 → k63 c0 i1 v = some vZ → va_P D vwCl (wd LM cy ad v) H → va_S (wA LM ad) s.heap H locs → lv_has ls 3 [(0, .ref (ad c0)), (1, .int i1)] → W p l e R s m args below meth c H locs 0 0 (MQ below (qvG LM cy ad D vZ) args s 0 0 (wA LM ad)) (F0 m 63 ls [])) : ∀ (c0 : Nat) (i1 : Int32) (tc0 : Nat) (t1 : Int32) (t2 : Int32) (t3 : Int32) (v : VV) (H : Heap) (locs : List Loc) (ls : Array Slot), wk LM c0 11 → wk LM tc0 12 → f_X11_tickThen_b116 k63 c0 i1 tc0 t1 t2 t3 v = some vZ → va_P D vwCl (wd LM cy ad v) H → va_S (wA LM ad) s.heap H locs → lv_has ls 3 [(0, .ref (ad c0)), (1, .int i1)] → W p l e R s m args below meth c H locs 0 0 (MQ below (qvG LM cy ad D vZ) args s 0 0 (wA LM ad)) (F0 m 116 ls [.int t3, .int t2, .int t1, .ref (ad tc0)]) := by
  intro c0 i1 tc0 t1 t2 t3 v H locs ls kc0 ktc0 h hP hS hl
  unfold f_X11_tickThen_b116 at h
  refine lv_isub (pc := 116) C.1 C.2.1 dX11_tickThen_116 ?_
  obtain ⟨g32, h⟩ := gd_e h
  refine x_iast (pc := 117) C hI hP hS ktc0 (inB_vp g32) dX11_tickThen_117 (fun H locs hP hS => ?_)
  obtain ⟨v33, h, hP⟩ := nv_p (P := fun z => va_P D vwCl (wd LM cy ad z) H) h hP
  obtain ⟨x34, ex34⟩ : ∃ y : Int32, y = i1 + 1 := ⟨_, rfl⟩
  replace h := nv_e h ex34
  refine lv_iinc (pc := 118) (v := x34) (lv' := [(1, .int x34), (0, .ref (ad c0))]) C.1 C.2.1 dX11_tickThen_118 hl (k := 1) rfl (by rw [ex34]; rfl) (by decide) rfl (fun ls hl => ?_)
  clear ex34
  refine lv_goto (pc := 121) (tgt := 63) C.1 C.2.1 dX11_tickThen_121 (by decide) ?_
  exact h63 c0 x34 v33 _ _ _ kc0 h hP hS (lv_sub hl [1, 0] rfl)
set_option maxHeartbeats 4000000 in
set_option maxRecDepth 100000 in
theorem w_X11_tickThen_l63 (C : Cx p s m args c cX11_tickThen 3 RX11 D cy) (hI : wI LM ad) (hr : meth.sig.returnType = none) (hlk : meth.locks = false) (hR : RoL 2 R) (k124 : Nat → VV → Option (VV)) {vZ : VV} (h124 : ∀ (c0 : Nat) (v : VV) (H : Heap) (locs : List Loc) (ls : Array Slot), wk LM c0 11 → k124 c0 v = some vZ → va_P D vwCl (wd LM cy ad v) H → va_S (wA LM ad) s.heap H locs → lv_has ls 3 [(0, .ref (ad c0))] → W p l e R s m args below meth c H locs 0 0 (MQ below (qvG LM cy ad D vZ) args s 0 0 (wA LM ad)) (F0 m 124 ls [])) : ∀ (n : Nat) (c0 : Nat) (i1 : Int32) (v : VV) (H : Heap) (locs : List Loc) (ls : Array Slot), wk LM c0 11 → f_X11_tickThen_l63 k124 n c0 i1 v = some vZ → va_P D vwCl (wd LM cy ad v) H → va_S (wA LM ad) s.heap H locs → lv_has ls 3 [(0, .ref (ad c0)), (1, .int i1)] → W p l e R s m args below meth c H locs 0 0 (MQ below (qvG LM cy ad D vZ) args s 0 0 (wA LM ad)) (F0 m 63 ls []) := by
  intro n
  induction n with
  | zero => intro c0 i1 v H locs ls kc0 h hP hS hl; exact absurd h (by simp [f_X11_tickThen_l63])
  | succ n ih =>
    intro c0 i1 v H locs ls kc0 h hP hS hl
    rw [f_X11_tickThen_l63] at h
    refine lv_iload_n (pc := 63) C.1 C.2.1 dX11_tickThen_63 rfl (lv_at hl 1 rfl) ?_
    refine lv_iconst (pc := 64) (v := 3) C.1 C.2.1 dX11_tickThen_64 (by decide) ?_
    refine lv_aload_n (pc := 65) C.1 C.2.1 dX11_tickThen_65 rfl (lv_at hl 0 rfl) ?_
    refine x_geti (pc := 66) C hP ck_11 0 fl_X11_90 (by decide) rfl kc0 dX11_tickThen_66 ?_
    refine lv_imul (pc := 69) C.1 C.2.1 dX11_tickThen_69 ?_
    refine lv_icmp_ge (pc := 70) (tgt := 124) C.1 C.2.1 dX11_tickThen_70 (by decide) (fun b70 => ?_) (fun b70 => ?_)
    · replace h := if_t h b70
      exact h124 c0 v _ _ _ kc0 h hP hS (lv_sub hl [0] rfl)
    · replace h := if_f h b70
      refine lv_aload_n (pc := 73) C.1 C.2.1 dX11_tickThen_73 rfl (lv_at hl 0 rfl) ?_
      refine x_getr (pc := 74) C hP ck_11 33 fl_X11_75 (by decide) rfl kc0 dX11_tickThen_74 ?_
      have k20 : wk LM (rfM c0 33) 12 := wt_f wT_M kc0 33 (by decide) rfl rfl
      refine lv_iload_n (pc := 77) C.1 C.2.1 dX11_tickThen_77 rfl (lv_at hl 1 rfl) ?_
      obtain ⟨g21, h⟩ := gd_e h
      refine x_iald (pc := 78) C hP k20 (inB_vp g21) dX11_tickThen_78 ?_
      refine lv_aload_n (pc := 79) C.1 C.2.1 dX11_tickThen_79 rfl (lv_at hl 0 rfl) ?_
      refine x_getr (pc := 80) C hP ck_11 4 fl_X11_17 (by decide) rfl kc0 dX11_tickThen_80 ?_
      have k22 : wk LM (rfM c0 4) 12 := wt_f wT_M kc0 4 (by decide) rfl rfl
      refine lv_iload_n (pc := 83) C.1 C.2.1 dX11_tickThen_83 rfl (lv_at hl 1 rfl) ?_
      obtain ⟨g23, h⟩ := gd_e h
      refine x_iald (pc := 84) C hP k22 (inB_vp g23) dX11_tickThen_84 ?_
      refine lv_iadd (pc := 85) C.1 C.2.1 dX11_tickThen_85 ?_
      obtain ⟨x26, v25, hc24, h⟩ := bi_e h
      refine x_callsi (pc := 86) C hP hS ms_X11_held ml_X11_136 (hR.le (by decide)) (Nat.zero_le _) (Nat.zero_le _) [.int ((v (rfM c0 33) (Int32.toNatClampNeg i1)) + (v (rfM c0 4) (Int32.toNatClampNeg i1)))] rfl hl.1 rfl (Nat.le_of_ble_eq_true rfl) dX11_tickThen_86 (m_X11_held hI hc24) (fun H locs hP hS => ?_)
      refine lv_istore_n (pc := 89) (lv' := [(2, .int x26), (0, .ref (ad c0)), (1, .int i1)]) C.1 C.2.1 dX11_tickThen_89 rfl hl (by decide) rfl (fun ls hl => ?_)
      refine lv_aload_n (pc := 90) C.1 C.2.1 dX11_tickThen_90 rfl (lv_at hl 1 rfl) ?_
      refine x_getr (pc := 91) C hP ck_11 33 fl_X11_75 (by decide) rfl kc0 dX11_tickThen_91 ?_
      have k27 : wk LM (rfM c0 33) 12 := wt_f wT_M kc0 33 (by decide) rfl rfl
      refine lv_iload_n (pc := 94) C.1 C.2.1 dX11_tickThen_94 rfl (lv_at hl 2 rfl) ?_
      refine lv_iload_n (pc := 95) C.1 C.2.1 dX11_tickThen_95 rfl (lv_at hl 0 rfl) ?_
      refine lv_iload_n (pc := 96) C.1 C.2.1 dX11_tickThen_96 rfl (lv_at hl 0 rfl) ?_
      refine lv_aload_n (pc := 97) C.1 C.2.1 dX11_tickThen_97 rfl (lv_at hl 1 rfl) ?_
      refine x_getr (pc := 98) C hP ck_11 5 fl_X11_20 (by decide) rfl kc0 dX11_tickThen_98 ?_
      have k28 : wk LM (rfM c0 5) 12 := wt_f wT_M kc0 5 (by decide) rfl rfl
      refine lv_iload_n (pc := 101) C.1 C.2.1 dX11_tickThen_101 rfl (lv_at hl 2 rfl) ?_
      obtain ⟨g29, h⟩ := gd_e h
      refine x_iald (pc := 102) C hP k28 (inB_vp g29) dX11_tickThen_102 ?_
      refine lv_icmp_ge (pc := 103) (tgt := 110) C.1 C.2.1 dX11_tickThen_103 (by decide) (fun b103 => ?_) (fun b103 => ?_)
      · replace h := if_t h b103
        refine lv_aload_n (pc := 110) C.1 C.2.1 dX11_tickThen_110 rfl (lv_at hl 1 rfl) ?_
        refine x_getr (pc := 111) C hP ck_11 5 fl_X11_20 (by decide) rfl kc0 dX11_tickThen_111 ?_
        have k30 : wk LM (rfM c0 5) 12 := wt_f wT_M kc0 5 (by decide) rfl rfl
        refine lv_iload_n (pc := 114) C.1 C.2.1 dX11_tickThen_114 rfl (lv_at hl 2 rfl) ?_
        obtain ⟨g31, h⟩ := gd_e h
        refine x_iald (pc := 115) C hP k30 (inB_vp g31) dX11_tickThen_115 ?_
        exact w_X11_tickThen_b116 C hI hr hlk hR _ (fun c0 i1 v H locs ls kc0 h hP hS hl => ih c0 i1 v H locs ls kc0 h hP hS hl) c0 i1 (rfM c0 33) i1 x26 (v25 (rfM c0 5) (Int32.toNatClampNeg i1)) v25 _ _ _ kc0 k27 h hP hS (lv_sub hl [1, 2] rfl)
      · replace h := if_f h b103
        refine lv_iload_n (pc := 106) C.1 C.2.1 dX11_tickThen_106 rfl (lv_at hl 0 rfl) ?_
        refine lv_goto (pc := 107) (tgt := 116) C.1 C.2.1 dX11_tickThen_107 (by decide) ?_
        exact w_X11_tickThen_b116 C hI hr hlk hR _ (fun c0 i1 v H locs ls kc0 h hP hS hl => ih c0 i1 v H locs ls kc0 h hP hS hl) c0 i1 (rfM c0 33) i1 x26 x26 v25 _ _ _ kc0 k27 h hP hS (lv_sub hl [1, 2] rfl)
set_option maxHeartbeats 4000000 in
set_option maxRecDepth 100000 in
theorem w_X11_tickThen (C : Cx p s m args c cX11_tickThen 3 RX11 D cy) (hI : wI LM ad) (hr : meth.sig.returnType = none) (hlk : meth.locks = false) (hR : RoL 2 R) {vZ : VV} : ∀ (c0 : Nat) (v : VV) (H : Heap) (locs : List Loc) (ls : Array Slot), wk LM c0 11 → f_X11_tickThen c0 v = some vZ → va_P D vwCl (wd LM cy ad v) H → va_S (wA LM ad) s.heap H locs → lv_has ls 3 [(0, .ref (ad c0))] → W p l e R s m args below meth c H locs 0 0 (MQ below (qvG LM cy ad D vZ) args s 0 0 (wA LM ad)) (F0 m 0 ls []) := by
  intro c0 v H locs ls kc0 h hP hS hl
  unfold f_X11_tickThen at h
  refine lv_iconst (pc := 0) (v := 0) C.1 C.2.1 dX11_tickThen_0 (by decide) ?_
  refine lv_istore_n (pc := 1) (lv' := [(1, .int 0), (0, .ref (ad c0))]) C.1 C.2.1 dX11_tickThen_1 rfl hl (by decide) rfl (fun ls hl => ?_)
  refine w_X11_tickThen_l2 C hI hr hlk hR _ ?_ FU c0 0 v _ _ _ kc0 h hP hS (lv_sub hl [1, 0] rfl)
  intro c0_19 v_19 H locs ls kc0_19 h hP hS hl
  refine lv_iconst (pc := 61) (v := 0) C.1 C.2.1 dX11_tickThen_61 (by decide) ?_
  refine lv_istore_n (pc := 62) (lv' := [(1, .int 0), (0, .ref (ad c0_19))]) C.1 C.2.1 dX11_tickThen_62 rfl hl (by decide) rfl (fun ls hl => ?_)
  refine w_X11_tickThen_l63 C hI hr hlk hR _ ?_ FU c0_19 0 v_19 _ _ _ kc0_19 h hP hS (lv_sub hl [1, 0] rfl)
  intro c0_35 v_35 H locs ls kc0_35 h hP hS hl
  refine lv_aload_n (pc := 124) C.1 C.2.1 dX11_tickThen_124 rfl (lv_at hl 0 rfl) ?_
  refine lv_dup (pc := 125) C.1 C.2.1 dX11_tickThen_125 rfl ?_
  refine x_geti (pc := 126) C hP ck_11 34 fl_X11_209 (by decide) rfl kc0_35 dX11_tickThen_126 ?_
  refine lv_iconst (pc := 129) (v := 1) C.1 C.2.1 dX11_tickThen_129 (by decide) ?_
  refine lv_iadd (pc := 130) C.1 C.2.1 dX11_tickThen_130 ?_
  refine x_put (pc := 131) C hI hP hS ck_11 34 fl_X11_209 (by decide) rfl rfl kc0_35 rfl rfl dX11_tickThen_131 (fun H locs hP hS => ?_)
  obtain ⟨v36, h, hP⟩ := nv_p (P := fun z => va_P D vwCl (wd LM cy ad z) H) h hP
  exact x_vret (pc := 134) C hr hlk hP hS h dX11_tickThen_134
set_option maxRecDepth 100000 in
theorem m_X11_tickThen (hI : wI LM ad) {c0 : Nat} {v : VV} {vZ : VV} (kc0 : wk LM c0 11) (h : F_X11_tickThen c0 v = some vZ) : Met l yX11_tickThen (Cond.code yX11_tickThen cX11_tickThen 3 none :: wsG) (rmL 2) (pcG LM cy ad D [.ref (ad c0)] v) (qvG LM cy ad D vZ) 0 0 (wA LM ad) := by
  refine Met.ofW (cc := cX11_tickThen) (maxL := 3) (ret := none) (by decide) rfl ?_
  intro p e s m args below meth c s₁ B hml hv
  obtain ⟨rfl, hP, hK⟩ := hv
  have hts := atoms_spec (ws := Cond.code yX11_tickThen cX11_tickThen 3 none :: wsG) B.pre
  have hown : s.vm.findClass RX11 = some m.cls := findClass_of_methodNamed B.named
  have C : Cx p s m _ c cX11_tickThen 3 RX11 D cy := ⟨B.exec, B.bytes, hml, hown, fun w hw => hts w (List.mem_cons_of_mem _ hw), hK⟩
  have hl := lv_entry ([.ref (ad c0)]) (n := 3) (Nat.le_of_ble_eq_true rfl)
  rw [lg_entry_eq]
  generalize (lg_sl ([.ref (ad c0)]) ++ List.replicate (3 - (lg_sl ([.ref (ad c0)])).length) Slot.unset).toArray = ls at hl ⊢
  have hl : lv_has ls 3 [(0, .ref (ad c0))] := hl
  exact w_X11_tickThen C hI B.returns B.notSynchronized (RoL_rm _) c0 v _ _ _ kc0 h hP va_S.rf (lv_sub hl [0] rfl)
def f_X11_trip_l70 (k170 : Nat → Int32 → Int32 → Int32 → Int32 → VV → Option (Int32 × VV)) : Nat → Nat → Int32 → Int32 → Int32 → Int32 → Int32 → Int32 → VV → Option (Int32 × VV)
  | 0, _, _, _, _, _, _, _, _ => none
  | n + 1, c0, i1, i2, i3, i4, i5, i6, v =>
    if (3 ≤ i3) then
      k170 c0 i2 i3 i4 i5 v
    else
      if (i1 ≤ i5) then
        k170 c0 i2 i3 i4 i5 v
      else
        gd (inB i6 (lnM (rfM c0 33)) = true) <|
        if ((v (rfM c0 33) (Int32.toNatClampNeg i6)) ≤ 0) then
          k170 c0 i2 i3 i4 i5 v
        else
          gd (inB i6 (lnM (rfM c0 33)) = true) <|
          bi (F_X11_priceWith c0 i6 (v (rfM c0 33) (Int32.toNatClampNeg i6)) v) fun x15 v14 =>
          gd (inB (v14 c0 36) (lnM (rfM c0 9)) = true) <|
          if ((v c0 35) < (x15 + (v14 (rfM c0 9) (Int32.toNatClampNeg (v14 c0 36))))) then
            k170 c0 i2 i3 i4 i5 v14
          else
            gd (inB i6 (lnM (rfM c0 33)) = true) <|
            bi (F_X11_priceWith c0 i6 (v14 (rfM c0 33) (Int32.toNatClampNeg i6)) v14) fun x22 v21 =>
            gd (inB (v21 c0 36) (lnM (rfM c0 9)) = true) <|
            nv (wu v21 c0 35 ((v14 c0 35) - (x22 + (v21 (rfM c0 9) (Int32.toNatClampNeg (v21 c0 36)))))) fun v25 =>
            gd (inB i6 (lnM (rfM c0 33)) = true) <|
            gd (inB i6 (lnM (rfM c0 33)) = true) <|
            nv (wu v25 (rfM c0 33) (Int32.toNatClampNeg i6) ((v25 (rfM c0 33) (Int32.toNatClampNeg i6)) - 1)) fun v29 =>
            nv (i5 + 1) fun x30 =>
            f_X11_trip_l70 k170 n c0 i1 i2 i3 i4 x30 i6 v29
def f_X11_trip_l205 (k222 : Nat → Int32 → Int32 → Int32 → VV → Option (Int32 × VV)) : Nat → Nat → Int32 → Int32 → Int32 → Int32 → Int32 → VV → Option (Int32 × VV)
  | 0, _, _, _, _, _, _, _ => none
  | n + 1, c0, i2, i3, i4, i5, i7, v =>
    if (i4 ≤ i7) then
      k222 c0 i2 i3 i5 v
    else
      (F_X11_tickThen c0 v).bind fun v34 =>
      nv (i7 + 1) fun x35 =>
      f_X11_trip_l205 k222 n c0 i2 i3 i4 i5 x35 v34
def f_X11_trip_l234 : Nat → Nat → Int32 → Int32 → Int32 → VV → Option (Int32 × VV)
  | 0, _, _, _, _, _ => none
  | n + 1, c0, i3, i5, i6, v =>
    if (3 ≤ i3) then
      some (1, v)
    else
      if (i5 ≤ 0) then
        some (1, v)
      else
        gd (inB i6 (lnM (rfM c0 33)) = true) <|
        if (1000 ≤ (v (rfM c0 33) (Int32.toNatClampNeg i6))) then
          some (1, v)
        else
          gd (inB i6 (lnM (rfM c0 33)) = true) <|
          bi (F_X11_gainWith c0 i6 (v (rfM c0 33) (Int32.toNatClampNeg i6)) v) fun x45 v44 =>
          if (1000000 < ((v c0 35) + x45)) then
            some (1, v44)
          else
            gd (inB i6 (lnM (rfM c0 33)) = true) <|
            bi (F_X11_gainWith c0 i6 (v44 (rfM c0 33) (Int32.toNatClampNeg i6)) v44) fun x50 v49 =>
            nv (wu v49 c0 35 ((v44 c0 35) + x50)) fun v51 =>
            gd (inB i6 (lnM (rfM c0 33)) = true) <|
            gd (inB i6 (lnM (rfM c0 33)) = true) <|
            nv (wu v51 (rfM c0 33) (Int32.toNatClampNeg i6) ((v51 (rfM c0 33) (Int32.toNatClampNeg i6)) + 1)) fun v55 =>
            nv (i5 + (-1)) fun x56 =>
            f_X11_trip_l234 n c0 i3 x56 i6 v55
def f_X11_trip_b170 (c0 : Nat) (i2 : Int32) (i3 : Int32) (i4 : Int32) (i5 : Int32) (v : VV) : Option (Int32 × VV) :=
  if (((v c0 2) * i4) ≤ (v c0 35)) then
    nv (wu v c0 35 ((v c0 35) - ((v c0 2) * i4))) fun v32 =>
    f_X11_trip_l205 (fun c0_36 i2_36 i3_36 i5_36 v_36 =>
    nv (wu v_36 c0_36 36 i2_36) fun v37 =>
    nv (((3 * i2_36) + i3_36)) fun x38 =>
    f_X11_trip_l234 FU c0_36 i3_36 i5_36 x38 v37) FU c0 i2 i3 i4 i5 0 v32
  else
    some (0, v)
def f_X11_trip (c0 : Nat) (i1 : Int32) (i2 : Int32) (i3 : Int32) (v : VV) : Option (Int32 × VV) :=
  gd (inB ((6 * (v c0 36)) + i2) (lnM (rfM c0 13)) = true) <|
  nv ((v (rfM c0 13) (Int32.toNatClampNeg ((6 * (v c0 36)) + i2)))) fun x3 =>
  if (x3 = 0) then
    some (0, v)
  else
    gd (inB i2 (lnM (rfM c0 12)) = true) <|
    if ((v (rfM c0 12) (Int32.toNatClampNeg i2)) = 0) then
      gd (inB (v c0 36) (lnM (rfM c0 12)) = true) <|
      if ((v (rfM c0 12) (Int32.toNatClampNeg (v c0 36))) = 0) then
        if (((v c0 34) + x3) ≤ 999) then
          nv (((3 * (v c0 36)) + i3)) fun x8 =>
          f_X11_trip_l70 (fun c0_31 i2_31 i3_31 i4_31 i5_31 v_31 =>
          f_X11_trip_b170 c0_31 i2_31 i3_31 i4_31 i5_31 v_31) FU c0 i1 i2 i3 x3 0 x8 v
        else
          some (0, v)
      else
        some (0, v)
    else
      some (0, v)
abbrev F_X11_trip (c0 : Nat) (i1 : Int32) (i2 : Int32) (i3 : Int32) (v : VV) : Option (Int32 × VV) := f_X11_trip c0 i1 i2 i3 v
set_option maxHeartbeats 4000000 in
set_option maxRecDepth 100000 in
theorem w_X11_trip_l70 (C : Cx p s m args c cX11_trip 8 RX11 D cy) (hI : wI LM ad) (hr : meth.sig.returnType = some .boolean) (hlk : meth.locks = false) (hR : RoL 3 R) (k170 : Nat → Int32 → Int32 → Int32 → Int32 → VV → Option (Int32 × VV)) {rZ : Int32} {vZ : VV} (h170 : ∀ (c0 : Nat) (i2 : Int32) (i3 : Int32) (i4 : Int32) (i5 : Int32) (v : VV) (H : Heap) (locs : List Loc) (ls : Array Slot), wk LM c0 11 → k170 c0 i2 i3 i4 i5 v = some (rZ, vZ) → va_P D vwCl (wd LM cy ad v) H → va_S (wA LM ad) s.heap H locs → lv_has ls 8 [(0, .ref (ad c0)), (2, .int i2), (3, .int i3), (4, .int i4), (5, .int i5)] → W p l e R s m args below meth c H locs 0 0 (MQ below (qiG LM cy ad D rZ vZ) args s 0 0 (wA LM ad)) (F0 m 170 ls [])) : ∀ (n : Nat) (c0 : Nat) (i1 : Int32) (i2 : Int32) (i3 : Int32) (i4 : Int32) (i5 : Int32) (i6 : Int32) (v : VV) (H : Heap) (locs : List Loc) (ls : Array Slot), wk LM c0 11 → f_X11_trip_l70 k170 n c0 i1 i2 i3 i4 i5 i6 v = some (rZ, vZ) → va_P D vwCl (wd LM cy ad v) H → va_S (wA LM ad) s.heap H locs → lv_has ls 8 [(0, .ref (ad c0)), (1, .int i1), (2, .int i2), (3, .int i3), (4, .int i4), (5, .int i5), (6, .int i6)] → W p l e R s m args below meth c H locs 0 0 (MQ below (qiG LM cy ad D rZ vZ) args s 0 0 (wA LM ad)) (F0 m 70 ls []) := by
  intro n
  induction n with
  | zero => intro c0 i1 i2 i3 i4 i5 i6 v H locs ls kc0 h hP hS hl; exact absurd h (by simp [f_X11_trip_l70])
  | succ n ih =>
    intro c0 i1 i2 i3 i4 i5 i6 v H locs ls kc0 h hP hS hl
    rw [f_X11_trip_l70] at h
    refine lv_iload_n (pc := 70) C.1 C.2.1 dX11_trip_70 rfl (lv_at hl 3 rfl) ?_
    refine lv_iconst (pc := 71) (v := 3) C.1 C.2.1 dX11_trip_71 (by decide) ?_
    refine lv_icmp_ge (pc := 72) (tgt := 170) C.1 C.2.1 dX11_trip_72 (by decide) (fun b72 => ?_) (fun b72 => ?_)
    · replace h := if_t h b72
      exact h170 c0 i2 i3 i4 i5 v _ _ _ kc0 h hP hS (lv_sub hl [0, 2, 3, 4, 5] rfl)
    · replace h := if_f h b72
      refine lv_iload (pc := 75) C.1 C.2.1 dX11_trip_75 (lv_at hl 5 rfl) ?_
      refine lv_iload_n (pc := 77) C.1 C.2.1 dX11_trip_77 rfl (lv_at hl 1 rfl) ?_
      refine lv_icmp_ge (pc := 78) (tgt := 170) C.1 C.2.1 dX11_trip_78 (by decide) (fun b78 => ?_) (fun b78 => ?_)
      · replace h := if_t h b78
        exact h170 c0 i2 i3 i4 i5 v _ _ _ kc0 h hP hS (lv_sub hl [0, 2, 3, 4, 5] rfl)
      · replace h := if_f h b78
        refine lv_aload_n (pc := 81) C.1 C.2.1 dX11_trip_81 rfl (lv_at hl 0 rfl) ?_
        refine x_getr (pc := 82) C hP ck_11 33 fl_X11_75 (by decide) rfl kc0 dX11_trip_82 ?_
        have k9 : wk LM (rfM c0 33) 12 := wt_f wT_M kc0 33 (by decide) rfl rfl
        refine lv_iload (pc := 85) C.1 C.2.1 dX11_trip_85 (lv_at hl 6 rfl) ?_
        obtain ⟨g10, h⟩ := gd_e h
        refine x_iald (pc := 87) C hP k9 (inB_vp g10) dX11_trip_87 ?_
        refine lv_if_le (pc := 88) (tgt := 170) C.1 C.2.1 dX11_trip_88 (by decide) (fun b88 => ?_) (fun b88 => ?_)
        · replace h := if_t h b88
          exact h170 c0 i2 i3 i4 i5 v _ _ _ kc0 h hP hS (lv_sub hl [0, 2, 3, 4, 5] rfl)
        · replace h := if_f h b88
          refine lv_aload_n (pc := 91) C.1 C.2.1 dX11_trip_91 rfl (lv_at hl 0 rfl) ?_
          refine x_geti (pc := 92) C hP ck_11 35 fl_X11_215 (by decide) rfl kc0 dX11_trip_92 ?_
          refine lv_aload_n (pc := 95) C.1 C.2.1 dX11_trip_95 rfl (lv_at hl 0 rfl) ?_
          refine lv_iload (pc := 96) C.1 C.2.1 dX11_trip_96 (lv_at hl 6 rfl) ?_
          refine lv_aload_n (pc := 98) C.1 C.2.1 dX11_trip_98 rfl (lv_at hl 0 rfl) ?_
          refine x_getr (pc := 99) C hP ck_11 33 fl_X11_75 (by decide) rfl kc0 dX11_trip_99 ?_
          have k11 : wk LM (rfM c0 33) 12 := wt_f wT_M kc0 33 (by decide) rfl rfl
          refine lv_iload (pc := 102) C.1 C.2.1 dX11_trip_102 (lv_at hl 6 rfl) ?_
          obtain ⟨g12, h⟩ := gd_e h
          refine x_iald (pc := 104) C hP k11 (inB_vp g12) dX11_trip_104 ?_
          obtain ⟨x15, v14, hc13, h⟩ := bi_e h
          refine x_calli (pc := 105) C hP hS mi_X11_priceWith ck_11 kc0 ml_X11_121 (hR.le (by decide)) (Nat.zero_le _) (Nat.zero_le _) [.int i6, .int (v (rfM c0 33) (Int32.toNatClampNeg i6))] rfl hl.1 rfl (Nat.le_of_ble_eq_true rfl) dX11_trip_105 (m_X11_priceWith hI kc0 hc13) (fun H locs hP hS => ?_)
          refine lv_aload_n (pc := 108) C.1 C.2.1 dX11_trip_108 rfl (lv_at hl 0 rfl) ?_
          refine x_getr (pc := 109) C hP ck_11 9 fl_X11_32 (by decide) rfl kc0 dX11_trip_109 ?_
          have k16 : wk LM (rfM c0 9) 12 := wt_f wT_M kc0 9 (by decide) rfl rfl
          refine lv_aload_n (pc := 112) C.1 C.2.1 dX11_trip_112 rfl (lv_at hl 0 rfl) ?_
          refine x_geti (pc := 113) C hP ck_11 36 fl_X11_212 (by decide) rfl kc0 dX11_trip_113 ?_
          obtain ⟨g17, h⟩ := gd_e h
          refine x_iald (pc := 116) C hP k16 (inB_vp g17) dX11_trip_116 ?_
          refine lv_iadd (pc := 117) C.1 C.2.1 dX11_trip_117 ?_
          refine lv_icmp_lt (pc := 118) (tgt := 170) C.1 C.2.1 dX11_trip_118 (by decide) (fun b118 => ?_) (fun b118 => ?_)
          · replace h := if_t h b118
            exact h170 c0 i2 i3 i4 i5 v14 _ _ _ kc0 h hP hS (lv_sub hl [0, 2, 3, 4, 5] rfl)
          · replace h := if_f h b118
            refine lv_aload_n (pc := 121) C.1 C.2.1 dX11_trip_121 rfl (lv_at hl 0 rfl) ?_
            refine lv_dup (pc := 122) C.1 C.2.1 dX11_trip_122 rfl ?_
            refine x_geti (pc := 123) C hP ck_11 35 fl_X11_215 (by decide) rfl kc0 dX11_trip_123 ?_
            refine lv_aload_n (pc := 126) C.1 C.2.1 dX11_trip_126 rfl (lv_at hl 0 rfl) ?_
            refine lv_iload (pc := 127) C.1 C.2.1 dX11_trip_127 (lv_at hl 6 rfl) ?_
            refine lv_aload_n (pc := 129) C.1 C.2.1 dX11_trip_129 rfl (lv_at hl 0 rfl) ?_
            refine x_getr (pc := 130) C hP ck_11 33 fl_X11_75 (by decide) rfl kc0 dX11_trip_130 ?_
            have k18 : wk LM (rfM c0 33) 12 := wt_f wT_M kc0 33 (by decide) rfl rfl
            refine lv_iload (pc := 133) C.1 C.2.1 dX11_trip_133 (lv_at hl 6 rfl) ?_
            obtain ⟨g19, h⟩ := gd_e h
            refine x_iald (pc := 135) C hP k18 (inB_vp g19) dX11_trip_135 ?_
            obtain ⟨x22, v21, hc20, h⟩ := bi_e h
            refine x_calli (pc := 136) C hP hS mi_X11_priceWith ck_11 kc0 ml_X11_121 (hR.le (by decide)) (Nat.zero_le _) (Nat.zero_le _) [.int i6, .int (v14 (rfM c0 33) (Int32.toNatClampNeg i6))] rfl hl.1 rfl (Nat.le_of_ble_eq_true rfl) dX11_trip_136 (m_X11_priceWith hI kc0 hc20) (fun H locs hP hS => ?_)
            refine lv_aload_n (pc := 139) C.1 C.2.1 dX11_trip_139 rfl (lv_at hl 0 rfl) ?_
            refine x_getr (pc := 140) C hP ck_11 9 fl_X11_32 (by decide) rfl kc0 dX11_trip_140 ?_
            have k23 : wk LM (rfM c0 9) 12 := wt_f wT_M kc0 9 (by decide) rfl rfl
            refine lv_aload_n (pc := 143) C.1 C.2.1 dX11_trip_143 rfl (lv_at hl 0 rfl) ?_
            refine x_geti (pc := 144) C hP ck_11 36 fl_X11_212 (by decide) rfl kc0 dX11_trip_144 ?_
            obtain ⟨g24, h⟩ := gd_e h
            refine x_iald (pc := 147) C hP k23 (inB_vp g24) dX11_trip_147 ?_
            refine lv_iadd (pc := 148) C.1 C.2.1 dX11_trip_148 ?_
            refine lv_isub (pc := 149) C.1 C.2.1 dX11_trip_149 ?_
            refine x_put (pc := 150) C hI hP hS ck_11 35 fl_X11_215 (by decide) rfl rfl kc0 rfl rfl dX11_trip_150 (fun H locs hP hS => ?_)
            obtain ⟨v25, h, hP⟩ := nv_p (P := fun z => va_P D vwCl (wd LM cy ad z) H) h hP
            refine lv_aload_n (pc := 153) C.1 C.2.1 dX11_trip_153 rfl (lv_at hl 0 rfl) ?_
            refine x_getr (pc := 154) C hP ck_11 33 fl_X11_75 (by decide) rfl kc0 dX11_trip_154 ?_
            have k26 : wk LM (rfM c0 33) 12 := wt_f wT_M kc0 33 (by decide) rfl rfl
            refine lv_iload (pc := 157) C.1 C.2.1 dX11_trip_157 (lv_at hl 6 rfl) ?_
            refine lv_dup2_11 (pc := 159) C.1 C.2.1 dX11_trip_159 rfl rfl ?_
            obtain ⟨g27, h⟩ := gd_e h
            refine x_iald (pc := 160) C hP k26 (inB_vp g27) dX11_trip_160 ?_
            refine lv_iconst (pc := 161) (v := 1) C.1 C.2.1 dX11_trip_161 (by decide) ?_
            refine lv_isub (pc := 162) C.1 C.2.1 dX11_trip_162 ?_
            obtain ⟨g28, h⟩ := gd_e h
            refine x_iast (pc := 163) C hI hP hS k26 (inB_vp g28) dX11_trip_163 (fun H locs hP hS => ?_)
            obtain ⟨v29, h, hP⟩ := nv_p (P := fun z => va_P D vwCl (wd LM cy ad z) H) h hP
            obtain ⟨x30, ex30⟩ : ∃ y : Int32, y = i5 + 1 := ⟨_, rfl⟩
            replace h := nv_e h ex30
            refine lv_iinc (pc := 164) (v := x30) (lv' := [(5, .int x30), (0, .ref (ad c0)), (1, .int i1), (2, .int i2), (3, .int i3), (4, .int i4), (6, .int i6)]) C.1 C.2.1 dX11_trip_164 hl (k := 5) rfl (by rw [ex30]; rfl) (by decide) rfl (fun ls hl => ?_)
            clear ex30
            refine lv_goto (pc := 167) (tgt := 70) C.1 C.2.1 dX11_trip_167 (by decide) ?_
            exact ih c0 i1 i2 i3 i4 x30 i6 v29 _ _ _ kc0 h hP hS (lv_sub hl [1, 2, 3, 4, 5, 0, 6] rfl)
set_option maxHeartbeats 4000000 in
set_option maxRecDepth 100000 in
theorem w_X11_trip_l205 (C : Cx p s m args c cX11_trip 8 RX11 D cy) (hI : wI LM ad) (hr : meth.sig.returnType = some .boolean) (hlk : meth.locks = false) (hR : RoL 3 R) (k222 : Nat → Int32 → Int32 → Int32 → VV → Option (Int32 × VV)) {rZ : Int32} {vZ : VV} (h222 : ∀ (c0 : Nat) (i2 : Int32) (i3 : Int32) (i5 : Int32) (v : VV) (H : Heap) (locs : List Loc) (ls : Array Slot), wk LM c0 11 → k222 c0 i2 i3 i5 v = some (rZ, vZ) → va_P D vwCl (wd LM cy ad v) H → va_S (wA LM ad) s.heap H locs → lv_has ls 8 [(0, .ref (ad c0)), (2, .int i2), (3, .int i3), (5, .int i5)] → W p l e R s m args below meth c H locs 0 0 (MQ below (qiG LM cy ad D rZ vZ) args s 0 0 (wA LM ad)) (F0 m 222 ls [])) : ∀ (n : Nat) (c0 : Nat) (i2 : Int32) (i3 : Int32) (i4 : Int32) (i5 : Int32) (i7 : Int32) (v : VV) (H : Heap) (locs : List Loc) (ls : Array Slot), wk LM c0 11 → f_X11_trip_l205 k222 n c0 i2 i3 i4 i5 i7 v = some (rZ, vZ) → va_P D vwCl (wd LM cy ad v) H → va_S (wA LM ad) s.heap H locs → lv_has ls 8 [(0, .ref (ad c0)), (2, .int i2), (3, .int i3), (4, .int i4), (5, .int i5), (7, .int i7)] → W p l e R s m args below meth c H locs 0 0 (MQ below (qiG LM cy ad D rZ vZ) args s 0 0 (wA LM ad)) (F0 m 205 ls []) := by
  intro n
  induction n with
  | zero => intro c0 i2 i3 i4 i5 i7 v H locs ls kc0 h hP hS hl; exact absurd h (by simp [f_X11_trip_l205])
  | succ n ih =>
    intro c0 i2 i3 i4 i5 i7 v H locs ls kc0 h hP hS hl
    rw [f_X11_trip_l205] at h
    refine lv_iload (pc := 205) C.1 C.2.1 dX11_trip_205 (lv_at hl 5 rfl) ?_
    refine lv_iload (pc := 207) C.1 C.2.1 dX11_trip_207 (lv_at hl 3 rfl) ?_
    refine lv_icmp_ge (pc := 209) (tgt := 222) C.1 C.2.1 dX11_trip_209 (by decide) (fun b209 => ?_) (fun b209 => ?_)
    · replace h := if_t h b209
      exact h222 c0 i2 i3 i5 v _ _ _ kc0 h hP hS (lv_sub hl [0, 1, 2, 4] rfl)
    · replace h := if_f h b209
      refine lv_aload_n (pc := 212) C.1 C.2.1 dX11_trip_212 rfl (lv_at hl 0 rfl) ?_
      obtain ⟨v34, hc33, h⟩ := bd_e h
      refine x_callv (pc := 213) C hP hS mi_X11_tickThen ck_11 kc0 ml_X11_218 (hR.le (by decide)) (Nat.zero_le _) (Nat.zero_le _) [] rfl hl.1 rfl (Nat.le_of_ble_eq_true rfl) dX11_trip_213 (m_X11_tickThen hI kc0 hc33) (fun H locs hP hS => ?_)
      obtain ⟨x35, ex35⟩ : ∃ y : Int32, y = i7 + 1 := ⟨_, rfl⟩
      replace h := nv_e h ex35
      refine lv_iinc (pc := 216) (v := x35) (lv' := [(7, .int x35), (0, .ref (ad c0)), (2, .int i2), (3, .int i3), (4, .int i4), (5, .int i5)]) C.1 C.2.1 dX11_trip_216 hl (k := 5) rfl (by rw [ex35]; rfl) (by decide) rfl (fun ls hl => ?_)
      clear ex35
      refine lv_goto (pc := 219) (tgt := 205) C.1 C.2.1 dX11_trip_219 (by decide) ?_
      exact ih c0 i2 i3 i4 i5 x35 v34 _ _ _ kc0 h hP hS (lv_sub hl [1, 2, 3, 4, 5, 0] rfl)
set_option maxHeartbeats 4000000 in
set_option maxRecDepth 100000 in
theorem w_X11_trip_l234 (C : Cx p s m args c cX11_trip 8 RX11 D cy) (hI : wI LM ad) (hr : meth.sig.returnType = some .boolean) (hlk : meth.locks = false) (hR : RoL 3 R) {rZ : Int32} {vZ : VV} : ∀ (n : Nat) (c0 : Nat) (i3 : Int32) (i5 : Int32) (i6 : Int32) (v : VV) (H : Heap) (locs : List Loc) (ls : Array Slot), wk LM c0 11 → f_X11_trip_l234 n c0 i3 i5 i6 v = some (rZ, vZ) → va_P D vwCl (wd LM cy ad v) H → va_S (wA LM ad) s.heap H locs → lv_has ls 8 [(0, .ref (ad c0)), (3, .int i3), (5, .int i5), (6, .int i6)] → W p l e R s m args below meth c H locs 0 0 (MQ below (qiG LM cy ad D rZ vZ) args s 0 0 (wA LM ad)) (F0 m 234 ls []) := by
  intro n
  induction n with
  | zero => intro c0 i3 i5 i6 v H locs ls kc0 h hP hS hl; exact absurd h (by simp [f_X11_trip_l234])
  | succ n ih =>
    intro c0 i3 i5 i6 v H locs ls kc0 h hP hS hl
    rw [f_X11_trip_l234] at h
    refine lv_iload_n (pc := 234) C.1 C.2.1 dX11_trip_234 rfl (lv_at hl 1 rfl) ?_
    refine lv_iconst (pc := 235) (v := 3) C.1 C.2.1 dX11_trip_235 (by decide) ?_
    refine lv_icmp_ge (pc := 236) (tgt := 319) C.1 C.2.1 dX11_trip_236 (by decide) (fun b236 => ?_) (fun b236 => ?_)
    · replace h := if_t h b236
      refine lv_iconst (pc := 319) (v := 1) C.1 C.2.1 dX11_trip_319 (by decide) ?_
      exact x_zret (pc := 320) C hr hlk hP hS (by decide) h dX11_trip_320
    · replace h := if_f h b236
      refine lv_iload (pc := 239) C.1 C.2.1 dX11_trip_239 (lv_at hl 2 rfl) ?_
      refine lv_if_le (pc := 241) (tgt := 319) C.1 C.2.1 dX11_trip_241 (by decide) (fun b241 => ?_) (fun b241 => ?_)
      · replace h := if_t h b241
        refine lv_iconst (pc := 319) (v := 1) C.1 C.2.1 dX11_trip_319 (by decide) ?_
        exact x_zret (pc := 320) C hr hlk hP hS (by decide) h dX11_trip_320
      · replace h := if_f h b241
        refine lv_aload_n (pc := 244) C.1 C.2.1 dX11_trip_244 rfl (lv_at hl 0 rfl) ?_
        refine x_getr (pc := 245) C hP ck_11 33 fl_X11_75 (by decide) rfl kc0 dX11_trip_245 ?_
        have k39 : wk LM (rfM c0 33) 12 := wt_f wT_M kc0 33 (by decide) rfl rfl
        refine lv_iload (pc := 248) C.1 C.2.1 dX11_trip_248 (lv_at hl 3 rfl) ?_
        obtain ⟨g40, h⟩ := gd_e h
        refine x_iald (pc := 250) C hP k39 (inB_vp g40) dX11_trip_250 ?_
        refine lv_sipush (pc := 251) (v := 1000) C.1 C.2.1 dX11_trip_251 (by decide) ?_
        refine lv_icmp_ge (pc := 254) (tgt := 319) C.1 C.2.1 dX11_trip_254 (by decide) (fun b254 => ?_) (fun b254 => ?_)
        · replace h := if_t h b254
          refine lv_iconst (pc := 319) (v := 1) C.1 C.2.1 dX11_trip_319 (by decide) ?_
          exact x_zret (pc := 320) C hr hlk hP hS (by decide) h dX11_trip_320
        · replace h := if_f h b254
          refine lv_aload_n (pc := 257) C.1 C.2.1 dX11_trip_257 rfl (lv_at hl 0 rfl) ?_
          refine x_geti (pc := 258) C hP ck_11 35 fl_X11_215 (by decide) rfl kc0 dX11_trip_258 ?_
          refine lv_aload_n (pc := 261) C.1 C.2.1 dX11_trip_261 rfl (lv_at hl 0 rfl) ?_
          refine lv_iload (pc := 262) C.1 C.2.1 dX11_trip_262 (lv_at hl 3 rfl) ?_
          refine lv_aload_n (pc := 264) C.1 C.2.1 dX11_trip_264 rfl (lv_at hl 0 rfl) ?_
          refine x_getr (pc := 265) C hP ck_11 33 fl_X11_75 (by decide) rfl kc0 dX11_trip_265 ?_
          have k41 : wk LM (rfM c0 33) 12 := wt_f wT_M kc0 33 (by decide) rfl rfl
          refine lv_iload (pc := 268) C.1 C.2.1 dX11_trip_268 (lv_at hl 3 rfl) ?_
          obtain ⟨g42, h⟩ := gd_e h
          refine x_iald (pc := 270) C hP k41 (inB_vp g42) dX11_trip_270 ?_
          obtain ⟨x45, v44, hc43, h⟩ := bi_e h
          refine x_calli (pc := 271) C hP hS mi_X11_gainWith ck_11 kc0 ml_X11_173 (hR.le (by decide)) (Nat.zero_le _) (Nat.zero_le _) [.int i6, .int (v (rfM c0 33) (Int32.toNatClampNeg i6))] rfl hl.1 rfl (Nat.le_of_ble_eq_true rfl) dX11_trip_271 (m_X11_gainWith hI kc0 hc43) (fun H locs hP hS => ?_)
          refine lv_iadd (pc := 274) C.1 C.2.1 dX11_trip_274 ?_
          refine lv_ldc (pc := 275) (v := 1000000) C.1 C.2.1 C.2.2.2.1 (C.2.2.2.2.1 _ ct_X11_176) dX11_trip_275 ?_
          refine lv_icmp_gt (pc := 277) (tgt := 319) C.1 C.2.1 dX11_trip_277 (by decide) (fun b277 => ?_) (fun b277 => ?_)
          · replace h := if_t h b277
            refine lv_iconst (pc := 319) (v := 1) C.1 C.2.1 dX11_trip_319 (by decide) ?_
            exact x_zret (pc := 320) C hr hlk hP hS (by decide) h dX11_trip_320
          · replace h := if_f h b277
            refine lv_aload_n (pc := 280) C.1 C.2.1 dX11_trip_280 rfl (lv_at hl 0 rfl) ?_
            refine lv_dup (pc := 281) C.1 C.2.1 dX11_trip_281 rfl ?_
            refine x_geti (pc := 282) C hP ck_11 35 fl_X11_215 (by decide) rfl kc0 dX11_trip_282 ?_
            refine lv_aload_n (pc := 285) C.1 C.2.1 dX11_trip_285 rfl (lv_at hl 0 rfl) ?_
            refine lv_iload (pc := 286) C.1 C.2.1 dX11_trip_286 (lv_at hl 3 rfl) ?_
            refine lv_aload_n (pc := 288) C.1 C.2.1 dX11_trip_288 rfl (lv_at hl 0 rfl) ?_
            refine x_getr (pc := 289) C hP ck_11 33 fl_X11_75 (by decide) rfl kc0 dX11_trip_289 ?_
            have k46 : wk LM (rfM c0 33) 12 := wt_f wT_M kc0 33 (by decide) rfl rfl
            refine lv_iload (pc := 292) C.1 C.2.1 dX11_trip_292 (lv_at hl 3 rfl) ?_
            obtain ⟨g47, h⟩ := gd_e h
            refine x_iald (pc := 294) C hP k46 (inB_vp g47) dX11_trip_294 ?_
            obtain ⟨x50, v49, hc48, h⟩ := bi_e h
            refine x_calli (pc := 295) C hP hS mi_X11_gainWith ck_11 kc0 ml_X11_173 (hR.le (by decide)) (Nat.zero_le _) (Nat.zero_le _) [.int i6, .int (v44 (rfM c0 33) (Int32.toNatClampNeg i6))] rfl hl.1 rfl (Nat.le_of_ble_eq_true rfl) dX11_trip_295 (m_X11_gainWith hI kc0 hc48) (fun H locs hP hS => ?_)
            refine lv_iadd (pc := 298) C.1 C.2.1 dX11_trip_298 ?_
            refine x_put (pc := 299) C hI hP hS ck_11 35 fl_X11_215 (by decide) rfl rfl kc0 rfl rfl dX11_trip_299 (fun H locs hP hS => ?_)
            obtain ⟨v51, h, hP⟩ := nv_p (P := fun z => va_P D vwCl (wd LM cy ad z) H) h hP
            refine lv_aload_n (pc := 302) C.1 C.2.1 dX11_trip_302 rfl (lv_at hl 0 rfl) ?_
            refine x_getr (pc := 303) C hP ck_11 33 fl_X11_75 (by decide) rfl kc0 dX11_trip_303 ?_
            have k52 : wk LM (rfM c0 33) 12 := wt_f wT_M kc0 33 (by decide) rfl rfl
            refine lv_iload (pc := 306) C.1 C.2.1 dX11_trip_306 (lv_at hl 3 rfl) ?_
            refine lv_dup2_11 (pc := 308) C.1 C.2.1 dX11_trip_308 rfl rfl ?_
            obtain ⟨g53, h⟩ := gd_e h
            refine x_iald (pc := 309) C hP k52 (inB_vp g53) dX11_trip_309 ?_
            refine lv_iconst (pc := 310) (v := 1) C.1 C.2.1 dX11_trip_310 (by decide) ?_
            refine lv_iadd (pc := 311) C.1 C.2.1 dX11_trip_311 ?_
            obtain ⟨g54, h⟩ := gd_e h
            refine x_iast (pc := 312) C hI hP hS k52 (inB_vp g54) dX11_trip_312 (fun H locs hP hS => ?_)
            obtain ⟨v55, h, hP⟩ := nv_p (P := fun z => va_P D vwCl (wd LM cy ad z) H) h hP
            obtain ⟨x56, ex56⟩ : ∃ y : Int32, y = i5 + (-1) := ⟨_, rfl⟩
            replace h := nv_e h ex56
            refine lv_iinc (pc := 313) (v := x56) (lv' := [(5, .int x56), (0, .ref (ad c0)), (3, .int i3), (6, .int i6)]) C.1 C.2.1 dX11_trip_313 hl (k := 2) rfl (by rw [ex56]; rfl) (by decide) rfl (fun ls hl => ?_)
            clear ex56
            refine lv_goto (pc := 316) (tgt := 234) C.1 C.2.1 dX11_trip_316 (by decide) ?_
            exact ih c0 i3 x56 i6 v55 _ _ _ kc0 h hP hS (lv_sub hl [1, 2, 0, 3] rfl)
set_option maxHeartbeats 4000000 in
set_option maxRecDepth 100000 in
theorem w_X11_trip_b170 (C : Cx p s m args c cX11_trip 8 RX11 D cy) (hI : wI LM ad) (hr : meth.sig.returnType = some .boolean) (hlk : meth.locks = false) (hR : RoL 3 R) {rZ : Int32} {vZ : VV} : ∀ (c0 : Nat) (i2 : Int32) (i3 : Int32) (i4 : Int32) (i5 : Int32) (v : VV) (H : Heap) (locs : List Loc) (ls : Array Slot), wk LM c0 11 → f_X11_trip_b170 c0 i2 i3 i4 i5 v = some (rZ, vZ) → va_P D vwCl (wd LM cy ad v) H → va_S (wA LM ad) s.heap H locs → lv_has ls 8 [(0, .ref (ad c0)), (2, .int i2), (3, .int i3), (4, .int i4), (5, .int i5)] → W p l e R s m args below meth c H locs 0 0 (MQ below (qiG LM cy ad D rZ vZ) args s 0 0 (wA LM ad)) (F0 m 170 ls []) := by
  intro c0 i2 i3 i4 i5 v H locs ls kc0 h hP hS hl
  unfold f_X11_trip_b170 at h
  refine lv_aload_n (pc := 170) C.1 C.2.1 dX11_trip_170 rfl (lv_at hl 0 rfl) ?_
  refine x_geti (pc := 171) C hP ck_11 35 fl_X11_215 (by decide) rfl kc0 dX11_trip_171 ?_
  refine lv_aload_n (pc := 174) C.1 C.2.1 dX11_trip_174 rfl (lv_at hl 0 rfl) ?_
  refine x_geti (pc := 175) C hP ck_11 2 fl_X11_7 (by decide) rfl kc0 dX11_trip_175 ?_
  refine lv_iload (pc := 178) C.1 C.2.1 dX11_trip_178 (lv_at hl 3 rfl) ?_
  refine lv_imul (pc := 180) C.1 C.2.1 dX11_trip_180 ?_
  refine lv_icmp_ge (pc := 181) (tgt := 186) C.1 C.2.1 dX11_trip_181 (by decide) (fun b181 => ?_) (fun b181 => ?_)
  · replace h := if_t h b181
    refine lv_aload_n (pc := 186) C.1 C.2.1 dX11_trip_186 rfl (lv_at hl 0 rfl) ?_
    refine lv_dup (pc := 187) C.1 C.2.1 dX11_trip_187 rfl ?_
    refine x_geti (pc := 188) C hP ck_11 35 fl_X11_215 (by decide) rfl kc0 dX11_trip_188 ?_
    refine lv_aload_n (pc := 191) C.1 C.2.1 dX11_trip_191 rfl (lv_at hl 0 rfl) ?_
    refine x_geti (pc := 192) C hP ck_11 2 fl_X11_7 (by decide) rfl kc0 dX11_trip_192 ?_
    refine lv_iload (pc := 195) C.1 C.2.1 dX11_trip_195 (lv_at hl 3 rfl) ?_
    refine lv_imul (pc := 197) C.1 C.2.1 dX11_trip_197 ?_
    refine lv_isub (pc := 198) C.1 C.2.1 dX11_trip_198 ?_
    refine x_put (pc := 199) C hI hP hS ck_11 35 fl_X11_215 (by decide) rfl rfl kc0 rfl rfl dX11_trip_199 (fun H locs hP hS => ?_)
    obtain ⟨v32, h, hP⟩ := nv_p (P := fun z => va_P D vwCl (wd LM cy ad z) H) h hP
    refine lv_iconst (pc := 202) (v := 0) C.1 C.2.1 dX11_trip_202 (by decide) ?_
    refine lv_istore (pc := 203) (lv' := [(7, .int 0), (0, .ref (ad c0)), (2, .int i2), (3, .int i3), (4, .int i4), (5, .int i5)]) C.1 C.2.1 dX11_trip_203 hl (by decide) rfl (fun ls hl => ?_)
    refine w_X11_trip_l205 C hI hr hlk hR _ ?_ FU c0 i2 i3 i4 i5 0 v32 _ _ _ kc0 h hP hS (lv_sub hl [1, 2, 3, 4, 5, 0] rfl)
    intro c0_36 i2_36 i3_36 i5_36 v_36 H locs ls kc0_36 h hP hS hl
    refine lv_aload_n (pc := 222) C.1 C.2.1 dX11_trip_222 rfl (lv_at hl 0 rfl) ?_
    refine lv_iload_n (pc := 223) C.1 C.2.1 dX11_trip_223 rfl (lv_at hl 1 rfl) ?_
    refine x_put (pc := 224) C hI hP hS ck_11 36 fl_X11_212 (by decide) rfl rfl kc0_36 rfl rfl dX11_trip_224 (fun H locs hP hS => ?_)
    obtain ⟨v37, h, hP⟩ := nv_p (P := fun z => va_P D vwCl (wd LM cy ad z) H) h hP
    refine lv_iconst (pc := 227) (v := 3) C.1 C.2.1 dX11_trip_227 (by decide) ?_
    refine lv_iload_n (pc := 228) C.1 C.2.1 dX11_trip_228 rfl (lv_at hl 1 rfl) ?_
    refine lv_imul (pc := 229) C.1 C.2.1 dX11_trip_229 ?_
    refine lv_iload_n (pc := 230) C.1 C.2.1 dX11_trip_230 rfl (lv_at hl 2 rfl) ?_
    refine lv_iadd (pc := 231) C.1 C.2.1 dX11_trip_231 ?_
    refine lv_topi (fun x38 ex38 => ?_)
    replace h := nv_e h ex38
    clear ex38
    refine lv_istore (pc := 232) (lv' := [(6, .int x38), (0, .ref (ad c0_36)), (2, .int i2_36), (3, .int i3_36), (5, .int i5_36)]) C.1 C.2.1 dX11_trip_232 hl (by decide) rfl (fun ls hl => ?_)
    refine w_X11_trip_l234 C hI hr hlk hR FU c0_36 i3_36 i5_36 x38 v37 _ _ _ kc0_36 h hP hS (lv_sub hl [1, 3, 4, 0] rfl)
  · replace h := if_f h b181
    refine lv_iconst (pc := 184) (v := 0) C.1 C.2.1 dX11_trip_184 (by decide) ?_
    exact x_zret (pc := 185) C hr hlk hP hS (by decide) h dX11_trip_185
set_option maxHeartbeats 4000000 in
set_option maxRecDepth 100000 in
theorem w_X11_trip (C : Cx p s m args c cX11_trip 8 RX11 D cy) (hI : wI LM ad) (hr : meth.sig.returnType = some .boolean) (hlk : meth.locks = false) (hR : RoL 3 R) {rZ : Int32} {vZ : VV} : ∀ (c0 : Nat) (i1 : Int32) (i2 : Int32) (i3 : Int32) (v : VV) (H : Heap) (locs : List Loc) (ls : Array Slot), wk LM c0 11 → f_X11_trip c0 i1 i2 i3 v = some (rZ, vZ) → va_P D vwCl (wd LM cy ad v) H → va_S (wA LM ad) s.heap H locs → lv_has ls 8 [(0, .ref (ad c0)), (1, .int i1), (2, .int i2), (3, .int i3)] → W p l e R s m args below meth c H locs 0 0 (MQ below (qiG LM cy ad D rZ vZ) args s 0 0 (wA LM ad)) (F0 m 0 ls []) := by
  intro c0 i1 i2 i3 v H locs ls kc0 h hP hS hl
  unfold f_X11_trip at h
  refine lv_aload_n (pc := 0) C.1 C.2.1 dX11_trip_0 rfl (lv_at hl 0 rfl) ?_
  refine x_getr (pc := 1) C hP ck_11 13 fl_X11_45 (by decide) rfl kc0 dX11_trip_1 ?_
  have k1 : wk LM (rfM c0 13) 12 := wt_f wT_M kc0 13 (by decide) rfl rfl
  refine lv_bipush (pc := 4) (v := 6) C.1 C.2.1 dX11_trip_4 (by decide) ?_
  refine lv_aload_n (pc := 6) C.1 C.2.1 dX11_trip_6 rfl (lv_at hl 0 rfl) ?_
  refine x_geti (pc := 7) C hP ck_11 36 fl_X11_212 (by decide) rfl kc0 dX11_trip_7 ?_
  refine lv_imul (pc := 10) C.1 C.2.1 dX11_trip_10 ?_
  refine lv_iload_n (pc := 11) C.1 C.2.1 dX11_trip_11 rfl (lv_at hl 2 rfl) ?_
  refine lv_iadd (pc := 12) C.1 C.2.1 dX11_trip_12 ?_
  obtain ⟨g2, h⟩ := gd_e h
  refine x_iald (pc := 13) C hP k1 (inB_vp g2) dX11_trip_13 ?_
  refine lv_topi (fun x3 ex3 => ?_)
  replace h := nv_e h ex3
  clear ex3
  refine lv_istore (pc := 14) (lv' := [(4, .int x3), (0, .ref (ad c0)), (1, .int i1), (2, .int i2), (3, .int i3)]) C.1 C.2.1 dX11_trip_14 hl (by decide) rfl (fun ls hl => ?_)
  refine lv_iload (pc := 16) C.1 C.2.1 dX11_trip_16 (lv_at hl 0 rfl) ?_
  refine lv_if_eq (pc := 18) (tgt := 55) C.1 C.2.1 dX11_trip_18 (by decide) (fun b18 => ?_) (fun b18 => ?_)
  · replace h := if_t h b18
    refine lv_iconst (pc := 55) (v := 0) C.1 C.2.1 dX11_trip_55 (by decide) ?_
    exact x_zret (pc := 56) C hr hlk hP hS (by decide) h dX11_trip_56
  · replace h := if_f h b18
    refine lv_aload_n (pc := 21) C.1 C.2.1 dX11_trip_21 rfl (lv_at hl 1 rfl) ?_
    refine x_getr (pc := 22) C hP ck_11 12 fl_X11_41 (by decide) rfl kc0 dX11_trip_22 ?_
    have k4 : wk LM (rfM c0 12) 13 := wt_f wT_M kc0 12 (by decide) rfl rfl
    refine lv_iload_n (pc := 25) C.1 C.2.1 dX11_trip_25 rfl (lv_at hl 3 rfl) ?_
    obtain ⟨g5, h⟩ := gd_e h
    refine x_zald (pc := 26) C hP k4 (inB_vp g5) dX11_trip_26 ?_
    refine lv_if_ne (pc := 27) (tgt := 55) C.1 C.2.1 dX11_trip_27 (by decide) (fun b27 => ?_) (fun b27 => ?_)
    · replace h := if_f h b27
      refine lv_iconst (pc := 55) (v := 0) C.1 C.2.1 dX11_trip_55 (by decide) ?_
      exact x_zret (pc := 56) C hr hlk hP hS (by decide) h dX11_trip_56
    · replace h := if_t h b27
      refine lv_aload_n (pc := 30) C.1 C.2.1 dX11_trip_30 rfl (lv_at hl 1 rfl) ?_
      refine x_getr (pc := 31) C hP ck_11 12 fl_X11_41 (by decide) rfl kc0 dX11_trip_31 ?_
      have k6 : wk LM (rfM c0 12) 13 := wt_f wT_M kc0 12 (by decide) rfl rfl
      refine lv_aload_n (pc := 34) C.1 C.2.1 dX11_trip_34 rfl (lv_at hl 1 rfl) ?_
      refine x_geti (pc := 35) C hP ck_11 36 fl_X11_212 (by decide) rfl kc0 dX11_trip_35 ?_
      obtain ⟨g7, h⟩ := gd_e h
      refine x_zald (pc := 38) C hP k6 (inB_vp g7) dX11_trip_38 ?_
      refine lv_if_ne (pc := 39) (tgt := 55) C.1 C.2.1 dX11_trip_39 (by decide) (fun b39 => ?_) (fun b39 => ?_)
      · replace h := if_f h b39
        refine lv_iconst (pc := 55) (v := 0) C.1 C.2.1 dX11_trip_55 (by decide) ?_
        exact x_zret (pc := 56) C hr hlk hP hS (by decide) h dX11_trip_56
      · replace h := if_t h b39
        refine lv_aload_n (pc := 42) C.1 C.2.1 dX11_trip_42 rfl (lv_at hl 1 rfl) ?_
        refine x_geti (pc := 43) C hP ck_11 34 fl_X11_209 (by decide) rfl kc0 dX11_trip_43 ?_
        refine lv_iload (pc := 46) C.1 C.2.1 dX11_trip_46 (lv_at hl 0 rfl) ?_
        refine lv_iadd (pc := 48) C.1 C.2.1 dX11_trip_48 ?_
        refine lv_sipush (pc := 49) (v := 999) C.1 C.2.1 dX11_trip_49 (by decide) ?_
        refine lv_icmp_le (pc := 52) (tgt := 57) C.1 C.2.1 dX11_trip_52 (by decide) (fun b52 => ?_) (fun b52 => ?_)
        · replace h := if_t h b52
          refine lv_iconst (pc := 57) (v := 0) C.1 C.2.1 dX11_trip_57 (by decide) ?_
          refine lv_istore (pc := 58) (lv' := [(5, .int 0), (4, .int x3), (0, .ref (ad c0)), (1, .int i1), (2, .int i2), (3, .int i3)]) C.1 C.2.1 dX11_trip_58 hl (by decide) rfl (fun ls hl => ?_)
          refine lv_iconst (pc := 60) (v := 3) C.1 C.2.1 dX11_trip_60 (by decide) ?_
          refine lv_aload_n (pc := 61) C.1 C.2.1 dX11_trip_61 rfl (lv_at hl 2 rfl) ?_
          refine x_geti (pc := 62) C hP ck_11 36 fl_X11_212 (by decide) rfl kc0 dX11_trip_62 ?_
          refine lv_imul (pc := 65) C.1 C.2.1 dX11_trip_65 ?_
          refine lv_iload_n (pc := 66) C.1 C.2.1 dX11_trip_66 rfl (lv_at hl 5 rfl) ?_
          refine lv_iadd (pc := 67) C.1 C.2.1 dX11_trip_67 ?_
          refine lv_topi (fun x8 ex8 => ?_)
          replace h := nv_e h ex8
          clear ex8
          refine lv_istore (pc := 68) (lv' := [(6, .int x8), (5, .int 0), (4, .int x3), (0, .ref (ad c0)), (1, .int i1), (2, .int i2), (3, .int i3)]) C.1 C.2.1 dX11_trip_68 hl (by decide) rfl (fun ls hl => ?_)
          refine w_X11_trip_l70 C hI hr hlk hR _ ?_ FU c0 i1 i2 i3 x3 0 x8 v _ _ _ kc0 h hP hS (lv_sub hl [3, 4, 5, 6, 2, 1, 0] rfl)
          intro c0_31 i2_31 i3_31 i4_31 i5_31 v_31 H locs ls kc0_31 h hP hS hl
          exact w_X11_trip_b170 C hI hr hlk hR c0_31 i2_31 i3_31 i4_31 i5_31 v_31 _ _ _ kc0_31 h hP hS (lv_sub hl [0, 1, 2, 3, 4] rfl)
        · replace h := if_f h b52
          refine lv_iconst (pc := 55) (v := 0) C.1 C.2.1 dX11_trip_55 (by decide) ?_
          exact x_zret (pc := 56) C hr hlk hP hS (by decide) h dX11_trip_56
set_option maxRecDepth 100000 in
theorem m_X11_trip (hI : wI LM ad) {c0 : Nat} {i1 : Int32} {i2 : Int32} {i3 : Int32} {v : VV} {rZ : Int32} {vZ : VV} (kc0 : wk LM c0 11) (h : F_X11_trip c0 i1 i2 i3 v = some (rZ, vZ)) : Met l yX11_trip (Cond.code yX11_trip cX11_trip 8 (some .boolean) :: wsG) (rmL 3) (pcG LM cy ad D [.ref (ad c0), .int i1, .int i2, .int i3] v) (qiG LM cy ad D rZ vZ) 0 0 (wA LM ad) := by
  refine Met.ofW (cc := cX11_trip) (maxL := 8) (ret := (some .boolean)) (by decide) rfl ?_
  intro p e s m args below meth c s₁ B hml hv
  obtain ⟨rfl, hP, hK⟩ := hv
  have hts := atoms_spec (ws := Cond.code yX11_trip cX11_trip 8 (some .boolean) :: wsG) B.pre
  have hown : s.vm.findClass RX11 = some m.cls := findClass_of_methodNamed B.named
  have C : Cx p s m _ c cX11_trip 8 RX11 D cy := ⟨B.exec, B.bytes, hml, hown, fun w hw => hts w (List.mem_cons_of_mem _ hw), hK⟩
  have hl := lv_entry ([.ref (ad c0), .int i1, .int i2, .int i3]) (n := 8) (Nat.le_of_ble_eq_true rfl)
  rw [lg_entry_eq]
  generalize (lg_sl ([.ref (ad c0), .int i1, .int i2, .int i3]) ++ List.replicate (8 - (lg_sl ([.ref (ad c0), .int i1, .int i2, .int i3])).length) Slot.unset).toArray = ls at hl ⊢
  have hl : lv_has ls 8 [(0, .ref (ad c0)), (1, .int i1), (2, .int i2), (3, .int i3)] := hl
  exact w_X11_trip C hI B.returns B.notSynchronized (RoL_rm _) c0 i1 i2 i3 v _ _ _ kc0 h hP va_S.rf (lv_sub hl [0, 1, 2, 3] rfl)
def f_X11_plan_l81 (k125 : Nat → Int32 → Int32 → Int32 → Int32 → Int32 → Int32 → VV → Option (Int32 × VV)) : Nat → Nat → Int32 → Int32 → Int32 → Int32 → Int32 → Int32 → Int32 → Int32 → VV → Option (Int32 × VV)
  | 0, _, _, _, _, _, _, _, _, _, _ => none
  | n + 1, c0, i1, i2, i3, i4, i5, i6, i7, i8, v =>
    if (i8 < 0) then
      k125 c0 i1 i2 i3 i4 i5 i6 v
    else
      gd (inB i8 (lnM (rfM c0 38)) = true) <|
      nv (wu v (rfM c0 38) (Int32.toNatClampNeg i8) (i7 - i7 / 4 * 4)) fun v13 =>
      gd (¬ (v13 c0 0) = 0) <|
      gd (inB i8 (lnM (rfM c0 37)) = true) <|
      nv (wu v13 (rfM c0 37) (Int32.toNatClampNeg i8) ((i7 / 4) - (i7 / 4) / (v13 c0 0) * (v13 c0 0))) fun v18 =>
      gd (¬ i3 = 0) <|
      nv ((i7 / i3)) fun x20 =>
      nv (i8 + (-1)) fun x21 =>
      f_X11_plan_l81 k125 n c0 i1 i2 i3 i4 i5 i6 x20 x21 v18
def f_X11_plan_l128 (k155 : Nat → Int32 → Int32 → Int32 → Int32 → Int32 → Int32 → VV → Option (Int32 × VV)) : Nat → Nat → Int32 → Int32 → Int32 → Int32 → Int32 → Int32 → Int32 → VV → Option (Int32 × VV)
  | 0, _, _, _, _, _, _, _, _, _ => none
  | n + 1, c0, i1, i2, i3, i4, i5, i6, i8, v =>
    if (18 ≤ i8) then
      k155 c0 i1 i2 i3 i4 i5 i6 v
    else
      gd (inB i8 (lnM (rfM c0 3)) = true) <|
      gd (inB i8 (lnM (rfM c0 33)) = true) <|
      nv (wu v (rfM c0 33) (Int32.toNatClampNeg i8) (v (rfM c0 3) (Int32.toNatClampNeg i8))) fun v27 =>
      nv (i8 + 1) fun x28 =>
      f_X11_plan_l128 k155 n c0 i1 i2 i3 i4 i5 i6 x28 v27
def f_X11_plan_l189 (k232 : Nat → Int32 → Int32 → Int32 → Int32 → Int32 → Int32 → Int32 → VV → Option (Int32 × VV)) : Nat → Nat → Int32 → Int32 → Int32 → Int32 → Int32 → Int32 → Int32 → Int32 → VV → Option (Int32 × VV)
  | 0, _, _, _, _, _, _, _, _, _, _ => none
  | n + 1, c0, i1, i2, i3, i4, i5, i6, i8, i9, v =>
    if (i2 ≤ i9) then
      k232 c0 i1 i2 i3 i4 i5 i6 i8 v
    else
      if (i8 = 0) then
        k232 c0 i1 i2 i3 i4 i5 i6 i8 v
      else
        gd (inB i1 (lnM (rfM c0 24)) = true) <|
        gd (inB i9 (lnM (rfM c0 37)) = true) <|
        gd (inB i9 (lnM (rfM c0 38)) = true) <|
        bi (F_X11_trip c0 (v (rfM c0 24) (Int32.toNatClampNeg i1)) (v (rfM c0 37) (Int32.toNatClampNeg i9)) (v (rfM c0 38) (Int32.toNatClampNeg i9)) v) fun x45 v44 =>
        nv (i9 + 1) fun x46 =>
        f_X11_plan_l189 k232 n c0 i1 i2 i3 i4 i5 i6 x45 x46 v44
def f_X11_plan_l260 (k300 : Nat → Int32 → Int32 → Int32 → Int32 → Int32 → Int32 → VV → Option (Int32 × VV)) : Nat → Nat → Int32 → Int32 → Int32 → Int32 → Int32 → Int32 → Int32 → VV → Option (Int32 × VV)
  | 0, _, _, _, _, _, _, _, _, _ => none
  | n + 1, c0, i1, i2, i3, i4, i5, i6, i9, v =>
    if (i2 ≤ i9) then
      k300 c0 i1 i2 i3 i4 i5 i6 v
    else
      gd (inB i9 (lnM (rfM c0 37)) = true) <|
      gd (inB i9 (lnM (rfM c0 39)) = true) <|
      nv (wu v (rfM c0 39) (Int32.toNatClampNeg i9) (v (rfM c0 37) (Int32.toNatClampNeg i9))) fun v56 =>
      gd (inB i9 (lnM (rfM c0 38)) = true) <|
      gd (inB i9 (lnM (rfM c0 40)) = true) <|
      nv (wu v56 (rfM c0 40) (Int32.toNatClampNeg i9) (v56 (rfM c0 38) (Int32.toNatClampNeg i9))) fun v61 =>
      nv (i9 + 1) fun x62 =>
      f_X11_plan_l260 k300 n c0 i1 i2 i3 i4 i5 i6 x62 v61
def f_X11_plan_b232 (k65 : Nat → Int32 → Int32 → Int32 → Int32 → Int32 → Int32 → VV → Option (Int32 × VV)) (c0 : Nat) (i1 : Int32) (i2 : Int32) (i3 : Int32) (i4 : Int32) (i5 : Int32) (i6 : Int32) (i8 : Int32) (v : VV) : Option (Int32 × VV) :=
  if (i8 = 0) then
    nv (i6 + 1) fun x48 =>
    k65 c0 i1 i2 i3 i4 i5 x48 v
  else
    if ((v c0 35) ≤ i5) then
      nv (i6 + 1) fun x49 =>
      k65 c0 i1 i2 i3 i4 i5 x49 v
    else
      nv ((v c0 35)) fun x50 =>
      nv (wu v c0 41 i2) fun v51 =>
      f_X11_plan_l260 (fun c0_63 i1_63 i2_63 i3_63 i4_63 i5_63 i6_63 v_63 =>
      nv (i6_63 + 1) fun x64 =>
      k65 c0_63 i1_63 i2_63 i3_63 i4_63 i5_63 x64 v_63) FU c0 i1 i2 i3 i4 x50 i6 0 v51
def f_X11_plan_l65 (k306 : Int32 → VV → Option (Int32 × VV)) : Nat → Nat → Int32 → Int32 → Int32 → Int32 → Int32 → Int32 → VV → Option (Int32 × VV)
  | 0, _, _, _, _, _, _, _, _ => none
  | n + 1, c0, i1, i2, i3, i4, i5, i6, v =>
    if (i4 ≤ i6) then
      k306 i5 v
    else
      nv ((i2 - 1)) fun x9 =>
      f_X11_plan_l81 (fun c0_22 i1_22 i2_22 i3_22 i4_22 i5_22 i6_22 v_22 =>
      f_X11_plan_l128 (fun c0_29 i1_29 i2_29 i3_29 i4_29 i5_29 i6_29 v_29 =>
      nv (wu v_29 c0_29 34 (v_29 c0_29 1)) fun v30 =>
      gd (inB i1_29 (lnM (rfM c0_29 25)) = true) <|
      nv (wu v30 c0_29 35 (v30 (rfM c0_29 25) (Int32.toNatClampNeg i1_29))) fun v33 =>
      gd (inB i1_29 (lnM (rfM c0_29 23)) = true) <|
      nv (wu v33 c0_29 36 (v33 (rfM c0_29 23) (Int32.toNatClampNeg i1_29))) fun v36 =>
      f_X11_plan_l189 (fun c0_47 i1_47 i2_47 i3_47 i4_47 i5_47 i6_47 i8_47 v_47 =>
      f_X11_plan_b232 (fun c0 i1 i2 i3 i4 i5 i6 v => f_X11_plan_l65 k306 n c0 i1 i2 i3 i4 i5 i6 v) c0_47 i1_47 i2_47 i3_47 i4_47 i5_47 i6_47 i8_47 v_47) FU c0_29 i1_29 i2_29 i3_29 i4_29 i5_29 i6_29 1 0 v36) FU c0_22 i1_22 i2_22 i3_22 i4_22 i5_22 i6_22 0 v_22) FU c0 i1 i2 i3 i4 i5 i6 i6 x9 v
def f_X11_plan (c0 : Nat) (i1 : Int32) (i2 : Int32) (v : VV) : Option (Int32 × VV) :=
  bi (F_X11_isShip c0 i1 v) fun x3 v2 =>
  if (x3 = 0) then
    some ((-1), v2)
  else
    bi (F_X11_in (Int32.toInt64 i2) 1 3 v2) fun x6 v5 =>
    if (x6 = 0) then
      some ((-2), v5)
    else
      nv ((4 * (v5 c0 0))) fun x7 =>
      if (i2 = 1) then
        f_X11_plan_l65 (fun i5_68 v_68 =>
        if (0 ≤ i5_68) then
          some (i5_68, v_68)
        else
          some ((-5), v_68)) FU c0 i1 i2 x7 x7 (-1) 0 v5
      else
        if (i2 = 2) then
          nv ((x7 * x7)) fun x66 =>
          f_X11_plan_l65 (fun i5_67 v_67 =>
          if (0 ≤ i5_67) then
            some (i5_67, v_67)
          else
            some ((-5), v_67)) FU c0 i1 i2 x7 x66 (-1) 0 v5
        else
          nv (((x7 * x7) * x7)) fun x8 =>
          f_X11_plan_l65 (fun i5_65 v_65 =>
          if (0 ≤ i5_65) then
            some (i5_65, v_65)
          else
            some ((-5), v_65)) FU c0 i1 i2 x7 x8 (-1) 0 v5
abbrev F_X11_plan (c0 : Nat) (i1 : Int32) (i2 : Int32) (v : VV) : Option (Int32 × VV) := f_X11_plan c0 i1 i2 v
set_option maxHeartbeats 4000000 in
set_option maxRecDepth 100000 in
theorem w_X11_plan_l81 (C : Cx p s m args c cX11_plan 10 RX11 D cy) (hI : wI LM ad) (hr : meth.sig.returnType = some .int) (hlk : meth.locks = false) (hR : RoL 4 R) (k125 : Nat → Int32 → Int32 → Int32 → Int32 → Int32 → Int32 → VV → Option (Int32 × VV)) {rZ : Int32} {vZ : VV} (h125 : ∀ (c0 : Nat) (i1 : Int32) (i2 : Int32) (i3 : Int32) (i4 : Int32) (i5 : Int32) (i6 : Int32) (v : VV) (H : Heap) (locs : List Loc) (ls : Array Slot), wk LM c0 11 → k125 c0 i1 i2 i3 i4 i5 i6 v = some (rZ, vZ) → va_P D vwCl (wd LM cy ad v) H → va_S (wA LM ad) s.heap H locs → lv_has ls 10 [(0, .ref (ad c0)), (1, .int i1), (2, .int i2), (3, .int i3), (4, .int i4), (5, .int i5), (6, .int i6)] → W p l e R s m args below meth c H locs 0 0 (MQ below (qiG LM cy ad D rZ vZ) args s 0 0 (wA LM ad)) (F0 m 125 ls [])) : ∀ (n : Nat) (c0 : Nat) (i1 : Int32) (i2 : Int32) (i3 : Int32) (i4 : Int32) (i5 : Int32) (i6 : Int32) (i7 : Int32) (i8 : Int32) (v : VV) (H : Heap) (locs : List Loc) (ls : Array Slot), wk LM c0 11 → f_X11_plan_l81 k125 n c0 i1 i2 i3 i4 i5 i6 i7 i8 v = some (rZ, vZ) → va_P D vwCl (wd LM cy ad v) H → va_S (wA LM ad) s.heap H locs → lv_has ls 10 [(0, .ref (ad c0)), (1, .int i1), (2, .int i2), (3, .int i3), (4, .int i4), (5, .int i5), (6, .int i6), (7, .int i7), (8, .int i8)] → W p l e R s m args below meth c H locs 0 0 (MQ below (qiG LM cy ad D rZ vZ) args s 0 0 (wA LM ad)) (F0 m 81 ls []) := by
  intro n
  induction n with
  | zero => intro c0 i1 i2 i3 i4 i5 i6 i7 i8 v H locs ls kc0 h hP hS hl; exact absurd h (by simp [f_X11_plan_l81])
  | succ n ih =>
    intro c0 i1 i2 i3 i4 i5 i6 i7 i8 v H locs ls kc0 h hP hS hl
    rw [f_X11_plan_l81] at h
    refine lv_iload (pc := 81) C.1 C.2.1 dX11_plan_81 (lv_at hl 8 rfl) ?_
    refine lv_if_lt (pc := 83) (tgt := 125) C.1 C.2.1 dX11_plan_83 (by decide) (fun b83 => ?_) (fun b83 => ?_)
    · replace h := if_t h b83
      exact h125 c0 i1 i2 i3 i4 i5 i6 v _ _ _ kc0 h hP hS (lv_sub hl [0, 1, 2, 3, 4, 5, 6] rfl)
    · replace h := if_f h b83
      refine lv_aload_n (pc := 86) C.1 C.2.1 dX11_plan_86 rfl (lv_at hl 0 rfl) ?_
      refine x_getr (pc := 87) C hP ck_11 38 fl_X11_81 (by decide) rfl kc0 dX11_plan_87 ?_
      have k10 : wk LM (rfM c0 38) 12 := wt_f wT_M kc0 38 (by decide) rfl rfl
      refine lv_iload (pc := 90) C.1 C.2.1 dX11_plan_90 (lv_at hl 8 rfl) ?_
      refine lv_iload (pc := 92) C.1 C.2.1 dX11_plan_92 (lv_at hl 7 rfl) ?_
      refine lv_iconst (pc := 94) (v := 4) C.1 C.2.1 dX11_plan_94 (by decide) ?_
      refine lv_irem (pc := 95) C.1 C.2.1 dX11_plan_95 (by decide) ?_
      obtain ⟨g12, h⟩ := gd_e h
      refine x_iast (pc := 96) C hI hP hS k10 (inB_vp g12) dX11_plan_96 (fun H locs hP hS => ?_)
      obtain ⟨v13, h, hP⟩ := nv_p (P := fun z => va_P D vwCl (wd LM cy ad z) H) h hP
      refine lv_aload_n (pc := 97) C.1 C.2.1 dX11_plan_97 rfl (lv_at hl 0 rfl) ?_
      refine x_getr (pc := 98) C hP ck_11 37 fl_X11_78 (by decide) rfl kc0 dX11_plan_98 ?_
      have k14 : wk LM (rfM c0 37) 12 := wt_f wT_M kc0 37 (by decide) rfl rfl
      refine lv_iload (pc := 101) C.1 C.2.1 dX11_plan_101 (lv_at hl 8 rfl) ?_
      refine lv_iload (pc := 103) C.1 C.2.1 dX11_plan_103 (lv_at hl 7 rfl) ?_
      refine lv_iconst (pc := 105) (v := 4) C.1 C.2.1 dX11_plan_105 (by decide) ?_
      refine lv_idiv (pc := 106) C.1 C.2.1 dX11_plan_106 (by decide) ?_
      refine lv_aload_n (pc := 107) C.1 C.2.1 dX11_plan_107 rfl (lv_at hl 0 rfl) ?_
      refine x_geti (pc := 108) C hP ck_11 0 fl_X11_90 (by decide) rfl kc0 dX11_plan_108 ?_
      obtain ⟨g16, h⟩ := gd_e h
      refine lv_irem (pc := 111) C.1 C.2.1 dX11_plan_111 g16 ?_
      obtain ⟨g17, h⟩ := gd_e h
      refine x_iast (pc := 112) C hI hP hS k14 (inB_vp g17) dX11_plan_112 (fun H locs hP hS => ?_)
      obtain ⟨v18, h, hP⟩ := nv_p (P := fun z => va_P D vwCl (wd LM cy ad z) H) h hP
      refine lv_iload (pc := 113) C.1 C.2.1 dX11_plan_113 (lv_at hl 7 rfl) ?_
      refine lv_iload_n (pc := 115) C.1 C.2.1 dX11_plan_115 rfl (lv_at hl 3 rfl) ?_
      obtain ⟨g19, h⟩ := gd_e h
      refine lv_idiv (pc := 116) C.1 C.2.1 dX11_plan_116 g19 ?_
      refine lv_topi (fun x20 ex20 => ?_)
      replace h := nv_e h ex20
      clear ex20
      refine lv_istore (pc := 117) (lv' := [(7, .int x20), (0, .ref (ad c0)), (1, .int i1), (2, .int i2), (3, .int i3), (4, .int i4), (5, .int i5), (6, .int i6), (8, .int i8)]) C.1 C.2.1 dX11_plan_117 hl (by decide) rfl (fun ls hl => ?_)
      obtain ⟨x21, ex21⟩ : ∃ y : Int32, y = i8 + (-1) := ⟨_, rfl⟩
      replace h := nv_e h ex21
      refine lv_iinc (pc := 119) (v := x21) (lv' := [(8, .int x21), (7, .int x20), (0, .ref (ad c0)), (1, .int i1), (2, .int i2), (3, .int i3), (4, .int i4), (5, .int i5), (6, .int i6)]) C.1 C.2.1 dX11_plan_119 hl (k := 8) rfl (by rw [ex21]; rfl) (by decide) rfl (fun ls hl => ?_)
      clear ex21
      refine lv_goto (pc := 122) (tgt := 81) C.1 C.2.1 dX11_plan_122 (by decide) ?_
      exact ih c0 i1 i2 i3 i4 i5 i6 x20 x21 v18 _ _ _ kc0 h hP hS (lv_sub hl [2, 3, 4, 5, 6, 7, 8, 1, 0] rfl)
set_option maxHeartbeats 4000000 in
set_option maxRecDepth 100000 in
theorem w_X11_plan_l128 (C : Cx p s m args c cX11_plan 10 RX11 D cy) (hI : wI LM ad) (hr : meth.sig.returnType = some .int) (hlk : meth.locks = false) (hR : RoL 4 R) (k155 : Nat → Int32 → Int32 → Int32 → Int32 → Int32 → Int32 → VV → Option (Int32 × VV)) {rZ : Int32} {vZ : VV} (h155 : ∀ (c0 : Nat) (i1 : Int32) (i2 : Int32) (i3 : Int32) (i4 : Int32) (i5 : Int32) (i6 : Int32) (v : VV) (H : Heap) (locs : List Loc) (ls : Array Slot), wk LM c0 11 → k155 c0 i1 i2 i3 i4 i5 i6 v = some (rZ, vZ) → va_P D vwCl (wd LM cy ad v) H → va_S (wA LM ad) s.heap H locs → lv_has ls 10 [(0, .ref (ad c0)), (1, .int i1), (2, .int i2), (3, .int i3), (4, .int i4), (5, .int i5), (6, .int i6)] → W p l e R s m args below meth c H locs 0 0 (MQ below (qiG LM cy ad D rZ vZ) args s 0 0 (wA LM ad)) (F0 m 155 ls [])) : ∀ (n : Nat) (c0 : Nat) (i1 : Int32) (i2 : Int32) (i3 : Int32) (i4 : Int32) (i5 : Int32) (i6 : Int32) (i8 : Int32) (v : VV) (H : Heap) (locs : List Loc) (ls : Array Slot), wk LM c0 11 → f_X11_plan_l128 k155 n c0 i1 i2 i3 i4 i5 i6 i8 v = some (rZ, vZ) → va_P D vwCl (wd LM cy ad v) H → va_S (wA LM ad) s.heap H locs → lv_has ls 10 [(0, .ref (ad c0)), (1, .int i1), (2, .int i2), (3, .int i3), (4, .int i4), (5, .int i5), (6, .int i6), (8, .int i8)] → W p l e R s m args below meth c H locs 0 0 (MQ below (qiG LM cy ad D rZ vZ) args s 0 0 (wA LM ad)) (F0 m 128 ls []) := by
  intro n
  induction n with
  | zero => intro c0 i1 i2 i3 i4 i5 i6 i8 v H locs ls kc0 h hP hS hl; exact absurd h (by simp [f_X11_plan_l128])
  | succ n ih =>
    intro c0 i1 i2 i3 i4 i5 i6 i8 v H locs ls kc0 h hP hS hl
    rw [f_X11_plan_l128] at h
    refine lv_iload (pc := 128) C.1 C.2.1 dX11_plan_128 (lv_at hl 7 rfl) ?_
    refine lv_bipush (pc := 130) (v := 18) C.1 C.2.1 dX11_plan_130 (by decide) ?_
    refine lv_icmp_ge (pc := 132) (tgt := 155) C.1 C.2.1 dX11_plan_132 (by decide) (fun b132 => ?_) (fun b132 => ?_)
    · replace h := if_t h b132
      exact h155 c0 i1 i2 i3 i4 i5 i6 v _ _ _ kc0 h hP hS (lv_sub hl [0, 1, 2, 3, 4, 5, 6] rfl)
    · replace h := if_f h b132
      refine lv_aload_n (pc := 135) C.1 C.2.1 dX11_plan_135 rfl (lv_at hl 0 rfl) ?_
      refine x_getr (pc := 136) C hP ck_11 33 fl_X11_75 (by decide) rfl kc0 dX11_plan_136 ?_
      have k23 : wk LM (rfM c0 33) 12 := wt_f wT_M kc0 33 (by decide) rfl rfl
      refine lv_iload (pc := 139) C.1 C.2.1 dX11_plan_139 (lv_at hl 7 rfl) ?_
      refine lv_aload_n (pc := 141) C.1 C.2.1 dX11_plan_141 rfl (lv_at hl 0 rfl) ?_
      refine x_getr (pc := 142) C hP ck_11 3 fl_X11_13 (by decide) rfl kc0 dX11_plan_142 ?_
      have k24 : wk LM (rfM c0 3) 12 := wt_f wT_M kc0 3 (by decide) rfl rfl
      refine lv_iload (pc := 145) C.1 C.2.1 dX11_plan_145 (lv_at hl 7 rfl) ?_
      obtain ⟨g25, h⟩ := gd_e h
      refine x_iald (pc := 147) C hP k24 (inB_vp g25) dX11_plan_147 ?_
      obtain ⟨g26, h⟩ := gd_e h
      refine x_iast (pc := 148) C hI hP hS k23 (inB_vp g26) dX11_plan_148 (fun H locs hP hS => ?_)
      obtain ⟨v27, h, hP⟩ := nv_p (P := fun z => va_P D vwCl (wd LM cy ad z) H) h hP
      obtain ⟨x28, ex28⟩ : ∃ y : Int32, y = i8 + 1 := ⟨_, rfl⟩
      replace h := nv_e h ex28
      refine lv_iinc (pc := 149) (v := x28) (lv' := [(8, .int x28), (0, .ref (ad c0)), (1, .int i1), (2, .int i2), (3, .int i3), (4, .int i4), (5, .int i5), (6, .int i6)]) C.1 C.2.1 dX11_plan_149 hl (k := 7) rfl (by rw [ex28]; rfl) (by decide) rfl (fun ls hl => ?_)
      clear ex28
      refine lv_goto (pc := 152) (tgt := 128) C.1 C.2.1 dX11_plan_152 (by decide) ?_
      exact ih c0 i1 i2 i3 i4 i5 i6 x28 v27 _ _ _ kc0 h hP hS (lv_sub hl [1, 2, 3, 4, 5, 6, 7, 0] rfl)
set_option maxHeartbeats 4000000 in
set_option maxRecDepth 100000 in
theorem w_X11_plan_l189 (C : Cx p s m args c cX11_plan 10 RX11 D cy) (hI : wI LM ad) (hr : meth.sig.returnType = some .int) (hlk : meth.locks = false) (hR : RoL 4 R) (k232 : Nat → Int32 → Int32 → Int32 → Int32 → Int32 → Int32 → Int32 → VV → Option (Int32 × VV)) {rZ : Int32} {vZ : VV} (h232 : ∀ (c0 : Nat) (i1 : Int32) (i2 : Int32) (i3 : Int32) (i4 : Int32) (i5 : Int32) (i6 : Int32) (i8 : Int32) (v : VV) (H : Heap) (locs : List Loc) (ls : Array Slot), wk LM c0 11 → k232 c0 i1 i2 i3 i4 i5 i6 i8 v = some (rZ, vZ) → va_P D vwCl (wd LM cy ad v) H → va_S (wA LM ad) s.heap H locs → lv_has ls 10 [(0, .ref (ad c0)), (1, .int i1), (2, .int i2), (3, .int i3), (4, .int i4), (5, .int i5), (6, .int i6), (8, .int i8)] → W p l e R s m args below meth c H locs 0 0 (MQ below (qiG LM cy ad D rZ vZ) args s 0 0 (wA LM ad)) (F0 m 232 ls [])) : ∀ (n : Nat) (c0 : Nat) (i1 : Int32) (i2 : Int32) (i3 : Int32) (i4 : Int32) (i5 : Int32) (i6 : Int32) (i8 : Int32) (i9 : Int32) (v : VV) (H : Heap) (locs : List Loc) (ls : Array Slot), wk LM c0 11 → f_X11_plan_l189 k232 n c0 i1 i2 i3 i4 i5 i6 i8 i9 v = some (rZ, vZ) → va_P D vwCl (wd LM cy ad v) H → va_S (wA LM ad) s.heap H locs → lv_has ls 10 [(0, .ref (ad c0)), (1, .int i1), (2, .int i2), (3, .int i3), (4, .int i4), (5, .int i5), (6, .int i6), (8, .int i8), (9, .int i9)] → W p l e R s m args below meth c H locs 0 0 (MQ below (qiG LM cy ad D rZ vZ) args s 0 0 (wA LM ad)) (F0 m 189 ls []) := by
  intro n
  induction n with
  | zero => intro c0 i1 i2 i3 i4 i5 i6 i8 i9 v H locs ls kc0 h hP hS hl; exact absurd h (by simp [f_X11_plan_l189])
  | succ n ih =>
    intro c0 i1 i2 i3 i4 i5 i6 i8 i9 v H locs ls kc0 h hP hS hl
    rw [f_X11_plan_l189] at h
    refine lv_iload (pc := 189) C.1 C.2.1 dX11_plan_189 (lv_at hl 8 rfl) ?_
    refine lv_iload_n (pc := 191) C.1 C.2.1 dX11_plan_191 rfl (lv_at hl 2 rfl) ?_
    refine lv_icmp_ge (pc := 192) (tgt := 232) C.1 C.2.1 dX11_plan_192 (by decide) (fun b192 => ?_) (fun b192 => ?_)
    · replace h := if_t h b192
      exact h232 c0 i1 i2 i3 i4 i5 i6 i8 v _ _ _ kc0 h hP hS (lv_sub hl [0, 1, 2, 3, 4, 5, 6, 7] rfl)
    · replace h := if_f h b192
      refine lv_iload (pc := 195) C.1 C.2.1 dX11_plan_195 (lv_at hl 7 rfl) ?_
      refine lv_if_eq (pc := 197) (tgt := 232) C.1 C.2.1 dX11_plan_197 (by decide) (fun b197 => ?_) (fun b197 => ?_)
      · replace h := if_t h b197
        exact h232 c0 i1 i2 i3 i4 i5 i6 i8 v _ _ _ kc0 h hP hS (lv_sub hl [0, 1, 2, 3, 4, 5, 6, 7] rfl)
      · replace h := if_f h b197
        refine lv_aload_n (pc := 200) C.1 C.2.1 dX11_plan_200 rfl (lv_at hl 0 rfl) ?_
        refine lv_aload_n (pc := 201) C.1 C.2.1 dX11_plan_201 rfl (lv_at hl 0 rfl) ?_
        refine x_getr (pc := 202) C hP ck_11 24 fl_X11_60 (by decide) rfl kc0 dX11_plan_202 ?_
        have k37 : wk LM (rfM c0 24) 12 := wt_f wT_M kc0 24 (by decide) rfl rfl
        refine lv_iload_n (pc := 205) C.1 C.2.1 dX11_plan_205 rfl (lv_at hl 1 rfl) ?_
        obtain ⟨g38, h⟩ := gd_e h
        refine x_iald (pc := 206) C hP k37 (inB_vp g38) dX11_plan_206 ?_
        refine lv_aload_n (pc := 207) C.1 C.2.1 dX11_plan_207 rfl (lv_at hl 0 rfl) ?_
        refine x_getr (pc := 208) C hP ck_11 37 fl_X11_78 (by decide) rfl kc0 dX11_plan_208 ?_
        have k39 : wk LM (rfM c0 37) 12 := wt_f wT_M kc0 37 (by decide) rfl rfl
        refine lv_iload (pc := 211) C.1 C.2.1 dX11_plan_211 (lv_at hl 8 rfl) ?_
        obtain ⟨g40, h⟩ := gd_e h
        refine x_iald (pc := 213) C hP k39 (inB_vp g40) dX11_plan_213 ?_
        refine lv_aload_n (pc := 214) C.1 C.2.1 dX11_plan_214 rfl (lv_at hl 0 rfl) ?_
        refine x_getr (pc := 215) C hP ck_11 38 fl_X11_81 (by decide) rfl kc0 dX11_plan_215 ?_
        have k41 : wk LM (rfM c0 38) 12 := wt_f wT_M kc0 38 (by decide) rfl rfl
        refine lv_iload (pc := 218) C.1 C.2.1 dX11_plan_218 (lv_at hl 8 rfl) ?_
        obtain ⟨g42, h⟩ := gd_e h
        refine x_iald (pc := 220) C hP k41 (inB_vp g42) dX11_plan_220 ?_
        obtain ⟨x45, v44, hc43, h⟩ := bi_e h
        refine x_calli (pc := 221) C hP hS mi_X11_trip ck_11 kc0 ml_X11_221 (hR.le (by decide)) (Nat.zero_le _) (Nat.zero_le _) [.int (v (rfM c0 24) (Int32.toNatClampNeg i1)), .int (v (rfM c0 37) (Int32.toNatClampNeg i9)), .int (v (rfM c0 38) (Int32.toNatClampNeg i9))] rfl hl.1 rfl (Nat.le_of_ble_eq_true rfl) dX11_plan_221 (m_X11_trip hI kc0 hc43) (fun H locs hP hS => ?_)
        refine lv_istore (pc := 224) (lv' := [(8, .int x45), (0, .ref (ad c0)), (1, .int i1), (2, .int i2), (3, .int i3), (4, .int i4), (5, .int i5), (6, .int i6), (9, .int i9)]) C.1 C.2.1 dX11_plan_224 hl (by decide) rfl (fun ls hl => ?_)
        obtain ⟨x46, ex46⟩ : ∃ y : Int32, y = i9 + 1 := ⟨_, rfl⟩
        replace h := nv_e h ex46
        refine lv_iinc (pc := 226) (v := x46) (lv' := [(9, .int x46), (8, .int x45), (0, .ref (ad c0)), (1, .int i1), (2, .int i2), (3, .int i3), (4, .int i4), (5, .int i5), (6, .int i6)]) C.1 C.2.1 dX11_plan_226 hl (k := 8) rfl (by rw [ex46]; rfl) (by decide) rfl (fun ls hl => ?_)
        clear ex46
        refine lv_goto (pc := 229) (tgt := 189) C.1 C.2.1 dX11_plan_229 (by decide) ?_
        exact ih c0 i1 i2 i3 i4 i5 i6 x45 x46 v44 _ _ _ kc0 h hP hS (lv_sub hl [2, 3, 4, 5, 6, 7, 8, 1, 0] rfl)
set_option maxHeartbeats 4000000 in
set_option maxRecDepth 100000 in
theorem w_X11_plan_l260 (C : Cx p s m args c cX11_plan 10 RX11 D cy) (hI : wI LM ad) (hr : meth.sig.returnType = some .int) (hlk : meth.locks = false) (hR : RoL 4 R) (k300 : Nat → Int32 → Int32 → Int32 → Int32 → Int32 → Int32 → VV → Option (Int32 × VV)) {rZ : Int32} {vZ : VV} (h300 : ∀ (c0 : Nat) (i1 : Int32) (i2 : Int32) (i3 : Int32) (i4 : Int32) (i5 : Int32) (i6 : Int32) (v : VV) (H : Heap) (locs : List Loc) (ls : Array Slot), wk LM c0 11 → k300 c0 i1 i2 i3 i4 i5 i6 v = some (rZ, vZ) → va_P D vwCl (wd LM cy ad v) H → va_S (wA LM ad) s.heap H locs → lv_has ls 10 [(0, .ref (ad c0)), (1, .int i1), (2, .int i2), (3, .int i3), (4, .int i4), (5, .int i5), (6, .int i6)] → W p l e R s m args below meth c H locs 0 0 (MQ below (qiG LM cy ad D rZ vZ) args s 0 0 (wA LM ad)) (F0 m 300 ls [])) : ∀ (n : Nat) (c0 : Nat) (i1 : Int32) (i2 : Int32) (i3 : Int32) (i4 : Int32) (i5 : Int32) (i6 : Int32) (i9 : Int32) (v : VV) (H : Heap) (locs : List Loc) (ls : Array Slot), wk LM c0 11 → f_X11_plan_l260 k300 n c0 i1 i2 i3 i4 i5 i6 i9 v = some (rZ, vZ) → va_P D vwCl (wd LM cy ad v) H → va_S (wA LM ad) s.heap H locs → lv_has ls 10 [(0, .ref (ad c0)), (1, .int i1), (2, .int i2), (3, .int i3), (4, .int i4), (5, .int i5), (6, .int i6), (9, .int i9)] → W p l e R s m args below meth c H locs 0 0 (MQ below (qiG LM cy ad D rZ vZ) args s 0 0 (wA LM ad)) (F0 m 260 ls []) := by
  intro n
  induction n with
  | zero => intro c0 i1 i2 i3 i4 i5 i6 i9 v H locs ls kc0 h hP hS hl; exact absurd h (by simp [f_X11_plan_l260])
  | succ n ih =>
    intro c0 i1 i2 i3 i4 i5 i6 i9 v H locs ls kc0 h hP hS hl
    rw [f_X11_plan_l260] at h
    refine lv_iload (pc := 260) C.1 C.2.1 dX11_plan_260 (lv_at hl 7 rfl) ?_
    refine lv_iload_n (pc := 262) C.1 C.2.1 dX11_plan_262 rfl (lv_at hl 2 rfl) ?_
    refine lv_icmp_ge (pc := 263) (tgt := 300) C.1 C.2.1 dX11_plan_263 (by decide) (fun b263 => ?_) (fun b263 => ?_)
    · replace h := if_t h b263
      exact h300 c0 i1 i2 i3 i4 i5 i6 v _ _ _ kc0 h hP hS (lv_sub hl [0, 1, 2, 3, 4, 5, 6] rfl)
    · replace h := if_f h b263
      refine lv_aload_n (pc := 266) C.1 C.2.1 dX11_plan_266 rfl (lv_at hl 0 rfl) ?_
      refine x_getr (pc := 267) C hP ck_11 39 fl_X11_84 (by decide) rfl kc0 dX11_plan_267 ?_
      have k52 : wk LM (rfM c0 39) 12 := wt_f wT_M kc0 39 (by decide) rfl rfl
      refine lv_iload (pc := 270) C.1 C.2.1 dX11_plan_270 (lv_at hl 7 rfl) ?_
      refine lv_aload_n (pc := 272) C.1 C.2.1 dX11_plan_272 rfl (lv_at hl 0 rfl) ?_
      refine x_getr (pc := 273) C hP ck_11 37 fl_X11_78 (by decide) rfl kc0 dX11_plan_273 ?_
      have k53 : wk LM (rfM c0 37) 12 := wt_f wT_M kc0 37 (by decide) rfl rfl
      refine lv_iload (pc := 276) C.1 C.2.1 dX11_plan_276 (lv_at hl 7 rfl) ?_
      obtain ⟨g54, h⟩ := gd_e h
      refine x_iald (pc := 278) C hP k53 (inB_vp g54) dX11_plan_278 ?_
      obtain ⟨g55, h⟩ := gd_e h
      refine x_iast (pc := 279) C hI hP hS k52 (inB_vp g55) dX11_plan_279 (fun H locs hP hS => ?_)
      obtain ⟨v56, h, hP⟩ := nv_p (P := fun z => va_P D vwCl (wd LM cy ad z) H) h hP
      refine lv_aload_n (pc := 280) C.1 C.2.1 dX11_plan_280 rfl (lv_at hl 0 rfl) ?_
      refine x_getr (pc := 281) C hP ck_11 40 fl_X11_87 (by decide) rfl kc0 dX11_plan_281 ?_
      have k57 : wk LM (rfM c0 40) 12 := wt_f wT_M kc0 40 (by decide) rfl rfl
      refine lv_iload (pc := 284) C.1 C.2.1 dX11_plan_284 (lv_at hl 7 rfl) ?_
      refine lv_aload_n (pc := 286) C.1 C.2.1 dX11_plan_286 rfl (lv_at hl 0 rfl) ?_
      refine x_getr (pc := 287) C hP ck_11 38 fl_X11_81 (by decide) rfl kc0 dX11_plan_287 ?_
      have k58 : wk LM (rfM c0 38) 12 := wt_f wT_M kc0 38 (by decide) rfl rfl
      refine lv_iload (pc := 290) C.1 C.2.1 dX11_plan_290 (lv_at hl 7 rfl) ?_
      obtain ⟨g59, h⟩ := gd_e h
      refine x_iald (pc := 292) C hP k58 (inB_vp g59) dX11_plan_292 ?_
      obtain ⟨g60, h⟩ := gd_e h
      refine x_iast (pc := 293) C hI hP hS k57 (inB_vp g60) dX11_plan_293 (fun H locs hP hS => ?_)
      obtain ⟨v61, h, hP⟩ := nv_p (P := fun z => va_P D vwCl (wd LM cy ad z) H) h hP
      obtain ⟨x62, ex62⟩ : ∃ y : Int32, y = i9 + 1 := ⟨_, rfl⟩
      replace h := nv_e h ex62
      refine lv_iinc (pc := 294) (v := x62) (lv' := [(9, .int x62), (0, .ref (ad c0)), (1, .int i1), (2, .int i2), (3, .int i3), (4, .int i4), (5, .int i5), (6, .int i6)]) C.1 C.2.1 dX11_plan_294 hl (k := 7) rfl (by rw [ex62]; rfl) (by decide) rfl (fun ls hl => ?_)
      clear ex62
      refine lv_goto (pc := 297) (tgt := 260) C.1 C.2.1 dX11_plan_297 (by decide) ?_
      exact ih c0 i1 i2 i3 i4 i5 i6 x62 v61 _ _ _ kc0 h hP hS (lv_sub hl [1, 2, 3, 4, 5, 6, 7, 0] rfl)
set_option maxHeartbeats 4000000 in
set_option maxRecDepth 100000 in
theorem w_X11_plan_b232 (C : Cx p s m args c cX11_plan 10 RX11 D cy) (hI : wI LM ad) (hr : meth.sig.returnType = some .int) (hlk : meth.locks = false) (hR : RoL 4 R) (k65 : Nat → Int32 → Int32 → Int32 → Int32 → Int32 → Int32 → VV → Option (Int32 × VV)) {rZ : Int32} {vZ : VV} (h65 : ∀ (c0 : Nat) (i1 : Int32) (i2 : Int32) (i3 : Int32) (i4 : Int32) (i5 : Int32) (i6 : Int32) (v : VV) (H : Heap) (locs : List Loc) (ls : Array Slot), wk LM c0 11 → k65 c0 i1 i2 i3 i4 i5 i6 v = some (rZ, vZ) → va_P D vwCl (wd LM cy ad v) H → va_S (wA LM ad) s.heap H locs → lv_has ls 10 [(0, .ref (ad c0)), (1, .int i1), (2, .int i2), (3, .int i3), (4, .int i4), (5, .int i5), (6, .int i6)] → W p l e R s m args below meth c H locs 0 0 (MQ below (qiG LM cy ad D rZ vZ) args s 0 0 (wA LM ad)) (F0 m 65 ls [])) : ∀ (c0 : Nat) (i1 : Int32) (i2 : Int32) (i3 : Int32) (i4 : Int32) (i5 : Int32) (i6 : Int32) (i8 : Int32) (v : VV) (H : Heap) (locs : List Loc) (ls : Array Slot), wk LM c0 11 → f_X11_plan_b232 k65 c0 i1 i2 i3 i4 i5 i6 i8 v = some (rZ, vZ) → va_P D vwCl (wd LM cy ad v) H → va_S (wA LM ad) s.heap H locs → lv_has ls 10 [(0, .ref (ad c0)), (1, .int i1), (2, .int i2), (3, .int i3), (4, .int i4), (5, .int i5), (6, .int i6), (8, .int i8)] → W p l e R s m args below meth c H locs 0 0 (MQ below (qiG LM cy ad D rZ vZ) args s 0 0 (wA LM ad)) (F0 m 232 ls []) := by
  intro c0 i1 i2 i3 i4 i5 i6 i8 v H locs ls kc0 h hP hS hl
  unfold f_X11_plan_b232 at h
  refine lv_iload (pc := 232) C.1 C.2.1 dX11_plan_232 (lv_at hl 7 rfl) ?_
  refine lv_if_eq (pc := 234) (tgt := 300) C.1 C.2.1 dX11_plan_234 (by decide) (fun b234 => ?_) (fun b234 => ?_)
  · replace h := if_t h b234
    obtain ⟨x48, ex48⟩ : ∃ y : Int32, y = i6 + 1 := ⟨_, rfl⟩
    replace h := nv_e h ex48
    refine lv_iinc (pc := 300) (v := x48) (lv' := [(6, .int x48), (0, .ref (ad c0)), (1, .int i1), (2, .int i2), (3, .int i3), (4, .int i4), (5, .int i5), (8, .int i8)]) C.1 C.2.1 dX11_plan_300 hl (k := 6) rfl (by rw [ex48]; rfl) (by decide) rfl (fun ls hl => ?_)
    clear ex48
    refine lv_goto (pc := 303) (tgt := 65) C.1 C.2.1 dX11_plan_303 (by decide) ?_
    exact h65 c0 i1 i2 i3 i4 i5 x48 v _ _ _ kc0 h hP hS (lv_sub hl [1, 2, 3, 4, 5, 6, 0] rfl)
  · replace h := if_f h b234
    refine lv_aload_n (pc := 237) C.1 C.2.1 dX11_plan_237 rfl (lv_at hl 0 rfl) ?_
    refine x_geti (pc := 238) C hP ck_11 35 fl_X11_215 (by decide) rfl kc0 dX11_plan_238 ?_
    refine lv_iload (pc := 241) C.1 C.2.1 dX11_plan_241 (lv_at hl 5 rfl) ?_
    refine lv_icmp_le (pc := 243) (tgt := 300) C.1 C.2.1 dX11_plan_243 (by decide) (fun b243 => ?_) (fun b243 => ?_)
    · replace h := if_t h b243
      obtain ⟨x49, ex49⟩ : ∃ y : Int32, y = i6 + 1 := ⟨_, rfl⟩
      replace h := nv_e h ex49
      refine lv_iinc (pc := 300) (v := x49) (lv' := [(6, .int x49), (0, .ref (ad c0)), (1, .int i1), (2, .int i2), (3, .int i3), (4, .int i4), (5, .int i5), (8, .int i8)]) C.1 C.2.1 dX11_plan_300 hl (k := 6) rfl (by rw [ex49]; rfl) (by decide) rfl (fun ls hl => ?_)
      clear ex49
      refine lv_goto (pc := 303) (tgt := 65) C.1 C.2.1 dX11_plan_303 (by decide) ?_
      exact h65 c0 i1 i2 i3 i4 i5 x49 v _ _ _ kc0 h hP hS (lv_sub hl [1, 2, 3, 4, 5, 6, 0] rfl)
    · replace h := if_f h b243
      refine lv_aload_n (pc := 246) C.1 C.2.1 dX11_plan_246 rfl (lv_at hl 0 rfl) ?_
      refine x_geti (pc := 247) C hP ck_11 35 fl_X11_215 (by decide) rfl kc0 dX11_plan_247 ?_
      refine lv_topi (fun x50 ex50 => ?_)
      replace h := nv_e h ex50
      clear ex50
      refine lv_istore (pc := 250) (lv' := [(5, .int x50), (0, .ref (ad c0)), (1, .int i1), (2, .int i2), (3, .int i3), (4, .int i4), (6, .int i6), (8, .int i8)]) C.1 C.2.1 dX11_plan_250 hl (by decide) rfl (fun ls hl => ?_)
      refine lv_aload_n (pc := 252) C.1 C.2.1 dX11_plan_252 rfl (lv_at hl 1 rfl) ?_
      refine lv_iload_n (pc := 253) C.1 C.2.1 dX11_plan_253 rfl (lv_at hl 3 rfl) ?_
      refine x_put (pc := 254) C hI hP hS ck_11 41 fl_X11_225 (by decide) rfl rfl kc0 rfl rfl dX11_plan_254 (fun H locs hP hS => ?_)
      obtain ⟨v51, h, hP⟩ := nv_p (P := fun z => va_P D vwCl (wd LM cy ad z) H) h hP
      refine lv_iconst (pc := 257) (v := 0) C.1 C.2.1 dX11_plan_257 (by decide) ?_
      refine lv_istore (pc := 258) (lv' := [(9, .int 0), (5, .int x50), (0, .ref (ad c0)), (1, .int i1), (2, .int i2), (3, .int i3), (4, .int i4), (6, .int i6), (8, .int i8)]) C.1 C.2.1 dX11_plan_258 hl (by decide) rfl (fun ls hl => ?_)
      refine w_X11_plan_l260 C hI hr hlk hR _ ?_ FU c0 i1 i2 i3 i4 x50 i6 0 v51 _ _ _ kc0 h hP hS (lv_sub hl [2, 3, 4, 5, 6, 1, 7, 0] rfl)
      intro c0_63 i1_63 i2_63 i3_63 i4_63 i5_63 i6_63 v_63 H locs ls kc0_63 h hP hS hl
      obtain ⟨x64, ex64⟩ : ∃ y : Int32, y = i6_63 + 1 := ⟨_, rfl⟩
      replace h := nv_e h ex64
      refine lv_iinc (pc := 300) (v := x64) (lv' := [(6, .int x64), (0, .ref (ad c0_63)), (1, .int i1_63), (2, .int i2_63), (3, .int i3_63), (4, .int i4_63), (5, .int i5_63)]) C.1 C.2.1 dX11_plan_300 hl (k := 6) rfl (by rw [ex64]; rfl) (by decide) rfl (fun ls hl => ?_)
      clear ex64
      refine lv_goto (pc := 303) (tgt := 65) C.1 C.2.1 dX11_plan_303 (by decide) ?_
      exact h65 c0_63 i1_63 i2_63 i3_63 i4_63 i5_63 x64 v_63 _ _ _ kc0_63 h hP hS (lv_sub hl [1, 2, 3, 4, 5, 6, 0] rfl)
set_option maxHeartbeats 4000000 in
set_option maxRecDepth 100000 in
theorem w_X11_plan_l65 (C : Cx p s m args c cX11_plan 10 RX11 D cy) (hI : wI LM ad) (hr : meth.sig.returnType = some .int) (hlk : meth.locks = false) (hR : RoL 4 R) (k306 : Int32 → VV → Option (Int32 × VV)) {rZ : Int32} {vZ : VV} (h306 : ∀ (i5 : Int32) (v : VV) (H : Heap) (locs : List Loc) (ls : Array Slot), k306 i5 v = some (rZ, vZ) → va_P D vwCl (wd LM cy ad v) H → va_S (wA LM ad) s.heap H locs → lv_has ls 10 [(5, .int i5)] → W p l e R s m args below meth c H locs 0 0 (MQ below (qiG LM cy ad D rZ vZ) args s 0 0 (wA LM ad)) (F0 m 306 ls [])) : ∀ (n : Nat) (c0 : Nat) (i1 : Int32) (i2 : Int32) (i3 : Int32) (i4 : Int32) (i5 : Int32) (i6 : Int32) (v : VV) (H : Heap) (locs : List Loc) (ls : Array Slot), wk LM c0 11 → f_X11_plan_l65 k306 n c0 i1 i2 i3 i4 i5 i6 v = some (rZ, vZ) → va_P D vwCl (wd LM cy ad v) H → va_S (wA LM ad) s.heap H locs → lv_has ls 10 [(0, .ref (ad c0)), (1, .int i1), (2, .int i2), (3, .int i3), (4, .int i4), (5, .int i5), (6, .int i6)] → W p l e R s m args below meth c H locs 0 0 (MQ below (qiG LM cy ad D rZ vZ) args s 0 0 (wA LM ad)) (F0 m 65 ls []) := by
  intro n
  induction n with
  | zero => intro c0 i1 i2 i3 i4 i5 i6 v H locs ls kc0 h hP hS hl; exact absurd h (by simp [f_X11_plan_l65])
  | succ n ih =>
    intro c0 i1 i2 i3 i4 i5 i6 v H locs ls kc0 h hP hS hl
    rw [f_X11_plan_l65] at h
    refine lv_iload (pc := 65) C.1 C.2.1 dX11_plan_65 (lv_at hl 6 rfl) ?_
    refine lv_iload (pc := 67) C.1 C.2.1 dX11_plan_67 (lv_at hl 4 rfl) ?_
    refine lv_icmp_ge (pc := 69) (tgt := 306) C.1 C.2.1 dX11_plan_69 (by decide) (fun b69 => ?_) (fun b69 => ?_)
    · replace h := if_t h b69
      exact h306 i5 v _ _ _ h hP hS (lv_sub hl [5] rfl)
    · replace h := if_f h b69
      refine lv_iload (pc := 72) C.1 C.2.1 dX11_plan_72 (lv_at hl 6 rfl) ?_
      refine lv_istore (pc := 74) (lv' := [(7, .int i6), (0, .ref (ad c0)), (1, .int i1), (2, .int i2), (3, .int i3), (4, .int i4), (5, .int i5), (6, .int i6)]) C.1 C.2.1 dX11_plan_74 hl (by decide) rfl (fun ls hl => ?_)
      refine lv_iload_n (pc := 76) C.1 C.2.1 dX11_plan_76 rfl (lv_at hl 3 rfl) ?_
      refine lv_iconst (pc := 77) (v := 1) C.1 C.2.1 dX11_plan_77 (by decide) ?_
      refine lv_isub (pc := 78) C.1 C.2.1 dX11_plan_78 ?_
      refine lv_topi (fun x9 ex9 => ?_)
      replace h := nv_e h ex9
      clear ex9
      refine lv_istore (pc := 79) (lv' := [(8, .int x9), (7, .int i6), (0, .ref (ad c0)), (1, .int i1), (2, .int i2), (3, .int i3), (4, .int i4), (5, .int i5), (6, .int i6)]) C.1 C.2.1 dX11_plan_79 hl (by decide) rfl (fun ls hl => ?_)
      refine w_X11_plan_l81 C hI hr hlk hR _ ?_ FU c0 i1 i2 i3 i4 i5 i6 i6 x9 v _ _ _ kc0 h hP hS (lv_sub hl [2, 3, 4, 5, 6, 7, 8, 1, 0] rfl)
      intro c0_22 i1_22 i2_22 i3_22 i4_22 i5_22 i6_22 v_22 H locs ls kc0_22 h hP hS hl
      refine lv_iconst (pc := 125) (v := 0) C.1 C.2.1 dX11_plan_125 (by decide) ?_
      refine lv_istore (pc := 126) (lv' := [(8, .int 0), (0, .ref (ad c0_22)), (1, .int i1_22), (2, .int i2_22), (3, .int i3_22), (4, .int i4_22), (5, .int i5_22), (6, .int i6_22)]) C.1 C.2.1 dX11_plan_126 hl (by decide) rfl (fun ls hl => ?_)
      refine w_X11_plan_l128 C hI hr hlk hR _ ?_ FU c0_22 i1_22 i2_22 i3_22 i4_22 i5_22 i6_22 0 v_22 _ _ _ kc0_22 h hP hS (lv_sub hl [1, 2, 3, 4, 5, 6, 7, 0] rfl)
      intro c0_29 i1_29 i2_29 i3_29 i4_29 i5_29 i6_29 v_29 H locs ls kc0_29 h hP hS hl
      refine lv_aload_n (pc := 155) C.1 C.2.1 dX11_plan_155 rfl (lv_at hl 0 rfl) ?_
      refine lv_aload_n (pc := 156) C.1 C.2.1 dX11_plan_156 rfl (lv_at hl 0 rfl) ?_
      refine x_geti (pc := 157) C hP ck_11 1 fl_X11_133 (by decide) rfl kc0_29 dX11_plan_157 ?_
      refine x_put (pc := 160) C hI hP hS ck_11 34 fl_X11_209 (by decide) rfl rfl kc0_29 rfl rfl dX11_plan_160 (fun H locs hP hS => ?_)
      obtain ⟨v30, h, hP⟩ := nv_p (P := fun z => va_P D vwCl (wd LM cy ad z) H) h hP
      refine lv_aload_n (pc := 163) C.1 C.2.1 dX11_plan_163 rfl (lv_at hl 0 rfl) ?_
      refine lv_aload_n (pc := 164) C.1 C.2.1 dX11_plan_164 rfl (lv_at hl 0 rfl) ?_
      refine x_getr (pc := 165) C hP ck_11 25 fl_X11_63 (by decide) rfl kc0_29 dX11_plan_165 ?_
      have k31 : wk LM (rfM c0_29 25) 12 := wt_f wT_M kc0_29 25 (by decide) rfl rfl
      refine lv_iload_n (pc := 168) C.1 C.2.1 dX11_plan_168 rfl (lv_at hl 1 rfl) ?_
      obtain ⟨g32, h⟩ := gd_e h
      refine x_iald (pc := 169) C hP k31 (inB_vp g32) dX11_plan_169 ?_
      refine x_put (pc := 170) C hI hP hS ck_11 35 fl_X11_215 (by decide) rfl rfl kc0_29 rfl rfl dX11_plan_170 (fun H locs hP hS => ?_)
      obtain ⟨v33, h, hP⟩ := nv_p (P := fun z => va_P D vwCl (wd LM cy ad z) H) h hP
      refine lv_aload_n (pc := 173) C.1 C.2.1 dX11_plan_173 rfl (lv_at hl 0 rfl) ?_
      refine lv_aload_n (pc := 174) C.1 C.2.1 dX11_plan_174 rfl (lv_at hl 0 rfl) ?_
      refine x_getr (pc := 175) C hP ck_11 23 fl_X11_57 (by decide) rfl kc0_29 dX11_plan_175 ?_
      have k34 : wk LM (rfM c0_29 23) 12 := wt_f wT_M kc0_29 23 (by decide) rfl rfl
      refine lv_iload_n (pc := 178) C.1 C.2.1 dX11_plan_178 rfl (lv_at hl 1 rfl) ?_
      obtain ⟨g35, h⟩ := gd_e h
      refine x_iald (pc := 179) C hP k34 (inB_vp g35) dX11_plan_179 ?_
      refine x_put (pc := 180) C hI hP hS ck_11 36 fl_X11_212 (by decide) rfl rfl kc0_29 rfl rfl dX11_plan_180 (fun H locs hP hS => ?_)
      obtain ⟨v36, h, hP⟩ := nv_p (P := fun z => va_P D vwCl (wd LM cy ad z) H) h hP
      refine lv_iconst (pc := 183) (v := 1) C.1 C.2.1 dX11_plan_183 (by decide) ?_
      refine lv_istore (pc := 184) (lv' := [(8, .int 1), (0, .ref (ad c0_29)), (1, .int i1_29), (2, .int i2_29), (3, .int i3_29), (4, .int i4_29), (5, .int i5_29), (6, .int i6_29)]) C.1 C.2.1 dX11_plan_184 hl (by decide) rfl (fun ls hl => ?_)
      refine lv_iconst (pc := 186) (v := 0) C.1 C.2.1 dX11_plan_186 (by decide) ?_
      refine lv_istore (pc := 187) (lv' := [(9, .int 0), (8, .int 1), (0, .ref (ad c0_29)), (1, .int i1_29), (2, .int i2_29), (3, .int i3_29), (4, .int i4_29), (5, .int i5_29), (6, .int i6_29)]) C.1 C.2.1 dX11_plan_187 hl (by decide) rfl (fun ls hl => ?_)
      refine w_X11_plan_l189 C hI hr hlk hR _ ?_ FU c0_29 i1_29 i2_29 i3_29 i4_29 i5_29 i6_29 1 0 v36 _ _ _ kc0_29 h hP hS (lv_sub hl [2, 3, 4, 5, 6, 7, 8, 1, 0] rfl)
      intro c0_47 i1_47 i2_47 i3_47 i4_47 i5_47 i6_47 i8_47 v_47 H locs ls kc0_47 h hP hS hl
      exact w_X11_plan_b232 C hI hr hlk hR _ (fun c0 i1 i2 i3 i4 i5 i6 v H locs ls kc0 h hP hS hl => ih c0 i1 i2 i3 i4 i5 i6 v H locs ls kc0 h hP hS hl) c0_47 i1_47 i2_47 i3_47 i4_47 i5_47 i6_47 i8_47 v_47 _ _ _ kc0_47 h hP hS (lv_sub hl [0, 1, 2, 3, 4, 5, 6, 7] rfl)
set_option maxHeartbeats 4000000 in
set_option maxRecDepth 100000 in
theorem w_X11_plan (C : Cx p s m args c cX11_plan 10 RX11 D cy) (hI : wI LM ad) (hr : meth.sig.returnType = some .int) (hlk : meth.locks = false) (hR : RoL 4 R) {rZ : Int32} {vZ : VV} : ∀ (c0 : Nat) (i1 : Int32) (i2 : Int32) (v : VV) (H : Heap) (locs : List Loc) (ls : Array Slot), wk LM c0 11 → f_X11_plan c0 i1 i2 v = some (rZ, vZ) → va_P D vwCl (wd LM cy ad v) H → va_S (wA LM ad) s.heap H locs → lv_has ls 10 [(0, .ref (ad c0)), (1, .int i1), (2, .int i2)] → W p l e R s m args below meth c H locs 0 0 (MQ below (qiG LM cy ad D rZ vZ) args s 0 0 (wA LM ad)) (F0 m 0 ls []) := by
  intro c0 i1 i2 v H locs ls kc0 h hP hS hl
  unfold f_X11_plan at h
  refine lv_aload_n (pc := 0) C.1 C.2.1 dX11_plan_0 rfl (lv_at hl 0 rfl) ?_
  refine lv_iload_n (pc := 1) C.1 C.2.1 dX11_plan_1 rfl (lv_at hl 1 rfl) ?_
  obtain ⟨x3, v2, hc1, h⟩ := bi_e h
  refine x_calli (pc := 2) C hP hS mi_X11_isShip ck_11 kc0 ml_X11_163 (hR.le (by decide)) (Nat.zero_le _) (Nat.zero_le _) [.int i1] rfl hl.1 rfl (Nat.le_of_ble_eq_true rfl) dX11_plan_2 (m_X11_isShip hI kc0 hc1) (fun H locs hP hS => ?_)
  refine lv_if_ne (pc := 5) (tgt := 10) C.1 C.2.1 dX11_plan_5 (by decide) (fun b5 => ?_) (fun b5 => ?_)
  · replace h := if_f h b5
    refine lv_iload_n (pc := 10) C.1 C.2.1 dX11_plan_10 rfl (lv_at hl 2 rfl) ?_
    refine lv_i2l (pc := 11) C.1 C.2.1 dX11_plan_11 rfl ?_
    refine lv_lconst (pc := 12) (v := 1) C.1 C.2.1 dX11_plan_12 (by decide) ?_
    refine lv_ldc2 (pc := 13) (v := 3) C.1 C.2.1 C.2.2.2.1 (C.2.2.2.2.1 _ cl_X11_203) dX11_plan_13 ?_
    obtain ⟨x6, v5, hc4, h⟩ := bi_e h
    refine x_callsi (pc := 16) C hP hS ms_X11_in ml_X11_93 (hR.le (by decide)) (Nat.zero_le _) (Nat.zero_le _) [.long (Int32.toInt64 i2), .long 1, .long 3] rfl hl.1 rfl (Nat.le_of_ble_eq_true rfl) dX11_plan_16 (m_X11_in hI hc4) (fun H locs hP hS => ?_)
    refine lv_if_ne (pc := 19) (tgt := 25) C.1 C.2.1 dX11_plan_19 (by decide) (fun b19 => ?_) (fun b19 => ?_)
    · replace h := if_f h b19
      refine lv_iconst (pc := 25) (v := 4) C.1 C.2.1 dX11_plan_25 (by decide) ?_
      refine lv_aload_n (pc := 26) C.1 C.2.1 dX11_plan_26 rfl (lv_at hl 0 rfl) ?_
      refine x_geti (pc := 27) C hP ck_11 0 fl_X11_90 (by decide) rfl kc0 dX11_plan_27 ?_
      refine lv_imul (pc := 30) C.1 C.2.1 dX11_plan_30 ?_
      refine lv_topi (fun x7 ex7 => ?_)
      replace h := nv_e h ex7
      clear ex7
      refine lv_istore_n (pc := 31) (lv' := [(3, .int x7), (0, .ref (ad c0)), (1, .int i1), (2, .int i2)]) C.1 C.2.1 dX11_plan_31 rfl hl (by decide) rfl (fun ls hl => ?_)
      refine lv_iload_n (pc := 32) C.1 C.2.1 dX11_plan_32 rfl (lv_at hl 3 rfl) ?_
      refine lv_iconst (pc := 33) (v := 1) C.1 C.2.1 dX11_plan_33 (by decide) ?_
      refine lv_icmp_ne (pc := 34) (tgt := 41) C.1 C.2.1 dX11_plan_34 (by decide) (fun b34 => ?_) (fun b34 => ?_)
      · replace h := if_f h b34
        refine lv_iload_n (pc := 41) C.1 C.2.1 dX11_plan_41 rfl (lv_at hl 3 rfl) ?_
        refine lv_iconst (pc := 42) (v := 2) C.1 C.2.1 dX11_plan_42 (by decide) ?_
        refine lv_icmp_ne (pc := 43) (tgt := 52) C.1 C.2.1 dX11_plan_43 (by decide) (fun b43 => ?_) (fun b43 => ?_)
        · replace h := if_f h b43
          refine lv_iload_n (pc := 52) C.1 C.2.1 dX11_plan_52 rfl (lv_at hl 0 rfl) ?_
          refine lv_iload_n (pc := 53) C.1 C.2.1 dX11_plan_53 rfl (lv_at hl 0 rfl) ?_
          refine lv_imul (pc := 54) C.1 C.2.1 dX11_plan_54 ?_
          refine lv_iload_n (pc := 55) C.1 C.2.1 dX11_plan_55 rfl (lv_at hl 0 rfl) ?_
          refine lv_imul (pc := 56) C.1 C.2.1 dX11_plan_56 ?_
          refine lv_topi (fun x8 ex8 => ?_)
          replace h := nv_e h ex8
          clear ex8
          refine lv_istore (pc := 57) (lv' := [(4, .int x8), (3, .int x7), (0, .ref (ad c0)), (1, .int i1), (2, .int i2)]) C.1 C.2.1 dX11_plan_57 hl (by decide) rfl (fun ls hl => ?_)
          refine lv_iconst (pc := 59) (v := (-1)) C.1 C.2.1 dX11_plan_59 (by decide) ?_
          refine lv_istore (pc := 60) (lv' := [(5, .int (-1)), (4, .int x8), (3, .int x7), (0, .ref (ad c0)), (1, .int i1), (2, .int i2)]) C.1 C.2.1 dX11_plan_60 hl (by decide) rfl (fun ls hl => ?_)
          refine lv_iconst (pc := 62) (v := 0) C.1 C.2.1 dX11_plan_62 (by decide) ?_
          refine lv_istore (pc := 63) (lv' := [(6, .int 0), (5, .int (-1)), (4, .int x8), (3, .int x7), (0, .ref (ad c0)), (1, .int i1), (2, .int i2)]) C.1 C.2.1 dX11_plan_63 hl (by decide) rfl (fun ls hl => ?_)
          refine w_X11_plan_l65 C hI hr hlk hR _ ?_ FU c0 i1 i2 x7 x8 (-1) 0 v5 _ _ _ kc0 h hP hS (lv_sub hl [4, 5, 6, 3, 2, 1, 0] rfl)
          intro i5_65 v_65 H locs ls  h hP hS hl
          refine lv_iload (pc := 306) C.1 C.2.1 dX11_plan_306 (lv_at hl 0 rfl) ?_
          refine lv_if_ge (pc := 308) (tgt := 316) C.1 C.2.1 dX11_plan_308 (by decide) (fun b308 => ?_) (fun b308 => ?_)
          · replace h := if_t h b308
            refine lv_iload (pc := 316) C.1 C.2.1 dX11_plan_316 (lv_at hl 0 rfl) ?_
            exact x_iret (pc := 318) C hr hlk hP hS h dX11_plan_318
          · replace h := if_f h b308
            refine lv_bipush (pc := 311) (v := (-5)) C.1 C.2.1 dX11_plan_311 (by decide) ?_
            refine lv_goto (pc := 313) (tgt := 318) C.1 C.2.1 dX11_plan_313 (by decide) ?_
            exact x_iret (pc := 318) C hr hlk hP hS h dX11_plan_318
        · replace h := if_t h b43
          refine lv_iload_n (pc := 46) C.1 C.2.1 dX11_plan_46 rfl (lv_at hl 0 rfl) ?_
          refine lv_iload_n (pc := 47) C.1 C.2.1 dX11_plan_47 rfl (lv_at hl 0 rfl) ?_
          refine lv_imul (pc := 48) C.1 C.2.1 dX11_plan_48 ?_
          refine lv_goto (pc := 49) (tgt := 57) C.1 C.2.1 dX11_plan_49 (by decide) ?_
          refine lv_topi (fun x66 ex66 => ?_)
          replace h := nv_e h ex66
          clear ex66
          refine lv_istore (pc := 57) (lv' := [(4, .int x66), (3, .int x7), (0, .ref (ad c0)), (1, .int i1), (2, .int i2)]) C.1 C.2.1 dX11_plan_57 hl (by decide) rfl (fun ls hl => ?_)
          refine lv_iconst (pc := 59) (v := (-1)) C.1 C.2.1 dX11_plan_59 (by decide) ?_
          refine lv_istore (pc := 60) (lv' := [(5, .int (-1)), (4, .int x66), (3, .int x7), (0, .ref (ad c0)), (1, .int i1), (2, .int i2)]) C.1 C.2.1 dX11_plan_60 hl (by decide) rfl (fun ls hl => ?_)
          refine lv_iconst (pc := 62) (v := 0) C.1 C.2.1 dX11_plan_62 (by decide) ?_
          refine lv_istore (pc := 63) (lv' := [(6, .int 0), (5, .int (-1)), (4, .int x66), (3, .int x7), (0, .ref (ad c0)), (1, .int i1), (2, .int i2)]) C.1 C.2.1 dX11_plan_63 hl (by decide) rfl (fun ls hl => ?_)
          refine w_X11_plan_l65 C hI hr hlk hR _ ?_ FU c0 i1 i2 x7 x66 (-1) 0 v5 _ _ _ kc0 h hP hS (lv_sub hl [4, 5, 6, 3, 2, 1, 0] rfl)
          intro i5_67 v_67 H locs ls  h hP hS hl
          refine lv_iload (pc := 306) C.1 C.2.1 dX11_plan_306 (lv_at hl 0 rfl) ?_
          refine lv_if_ge (pc := 308) (tgt := 316) C.1 C.2.1 dX11_plan_308 (by decide) (fun b308 => ?_) (fun b308 => ?_)
          · replace h := if_t h b308
            refine lv_iload (pc := 316) C.1 C.2.1 dX11_plan_316 (lv_at hl 0 rfl) ?_
            exact x_iret (pc := 318) C hr hlk hP hS h dX11_plan_318
          · replace h := if_f h b308
            refine lv_bipush (pc := 311) (v := (-5)) C.1 C.2.1 dX11_plan_311 (by decide) ?_
            refine lv_goto (pc := 313) (tgt := 318) C.1 C.2.1 dX11_plan_313 (by decide) ?_
            exact x_iret (pc := 318) C hr hlk hP hS h dX11_plan_318
      · replace h := if_t h b34
        refine lv_iload_n (pc := 37) C.1 C.2.1 dX11_plan_37 rfl (lv_at hl 0 rfl) ?_
        refine lv_goto (pc := 38) (tgt := 57) C.1 C.2.1 dX11_plan_38 (by decide) ?_
        refine lv_istore (pc := 57) (lv' := [(4, .int x7), (3, .int x7), (0, .ref (ad c0)), (1, .int i1), (2, .int i2)]) C.1 C.2.1 dX11_plan_57 hl (by decide) rfl (fun ls hl => ?_)
        refine lv_iconst (pc := 59) (v := (-1)) C.1 C.2.1 dX11_plan_59 (by decide) ?_
        refine lv_istore (pc := 60) (lv' := [(5, .int (-1)), (4, .int x7), (3, .int x7), (0, .ref (ad c0)), (1, .int i1), (2, .int i2)]) C.1 C.2.1 dX11_plan_60 hl (by decide) rfl (fun ls hl => ?_)
        refine lv_iconst (pc := 62) (v := 0) C.1 C.2.1 dX11_plan_62 (by decide) ?_
        refine lv_istore (pc := 63) (lv' := [(6, .int 0), (5, .int (-1)), (4, .int x7), (3, .int x7), (0, .ref (ad c0)), (1, .int i1), (2, .int i2)]) C.1 C.2.1 dX11_plan_63 hl (by decide) rfl (fun ls hl => ?_)
        refine w_X11_plan_l65 C hI hr hlk hR _ ?_ FU c0 i1 i2 x7 x7 (-1) 0 v5 _ _ _ kc0 h hP hS (lv_sub hl [4, 5, 6, 3, 2, 1, 0] rfl)
        intro i5_68 v_68 H locs ls  h hP hS hl
        refine lv_iload (pc := 306) C.1 C.2.1 dX11_plan_306 (lv_at hl 0 rfl) ?_
        refine lv_if_ge (pc := 308) (tgt := 316) C.1 C.2.1 dX11_plan_308 (by decide) (fun b308 => ?_) (fun b308 => ?_)
        · replace h := if_t h b308
          refine lv_iload (pc := 316) C.1 C.2.1 dX11_plan_316 (lv_at hl 0 rfl) ?_
          exact x_iret (pc := 318) C hr hlk hP hS h dX11_plan_318
        · replace h := if_f h b308
          refine lv_bipush (pc := 311) (v := (-5)) C.1 C.2.1 dX11_plan_311 (by decide) ?_
          refine lv_goto (pc := 313) (tgt := 318) C.1 C.2.1 dX11_plan_313 (by decide) ?_
          exact x_iret (pc := 318) C hr hlk hP hS h dX11_plan_318
    · replace h := if_t h b19
      refine lv_bipush (pc := 22) (v := (-2)) C.1 C.2.1 dX11_plan_22 (by decide) ?_
      exact x_iret (pc := 24) C hr hlk hP hS h dX11_plan_24
  · replace h := if_t h b5
    refine lv_iconst (pc := 8) (v := (-1)) C.1 C.2.1 dX11_plan_8 (by decide) ?_
    exact x_iret (pc := 9) C hr hlk hP hS h dX11_plan_9
set_option maxRecDepth 100000 in
theorem m_X11_plan (hI : wI LM ad) {c0 : Nat} {i1 : Int32} {i2 : Int32} {v : VV} {rZ : Int32} {vZ : VV} (kc0 : wk LM c0 11) (h : F_X11_plan c0 i1 i2 v = some (rZ, vZ)) : Met l yX11_plan (Cond.code yX11_plan cX11_plan 10 (some .int) :: wsG) (rmL 4) (pcG LM cy ad D [.ref (ad c0), .int i1, .int i2] v) (qiG LM cy ad D rZ vZ) 0 0 (wA LM ad) := by
  refine Met.ofW (cc := cX11_plan) (maxL := 10) (ret := (some .int)) (by decide) rfl ?_
  intro p e s m args below meth c s₁ B hml hv
  obtain ⟨rfl, hP, hK⟩ := hv
  have hts := atoms_spec (ws := Cond.code yX11_plan cX11_plan 10 (some .int) :: wsG) B.pre
  have hown : s.vm.findClass RX11 = some m.cls := findClass_of_methodNamed B.named
  have C : Cx p s m _ c cX11_plan 10 RX11 D cy := ⟨B.exec, B.bytes, hml, hown, fun w hw => hts w (List.mem_cons_of_mem _ hw), hK⟩
  have hl := lv_entry ([.ref (ad c0), .int i1, .int i2]) (n := 10) (Nat.le_of_ble_eq_true rfl)
  rw [lg_entry_eq]
  generalize (lg_sl ([.ref (ad c0), .int i1, .int i2]) ++ List.replicate (10 - (lg_sl ([.ref (ad c0), .int i1, .int i2])).length) Slot.unset).toArray = ls at hl ⊢
  have hl : lv_has ls 10 [(0, .ref (ad c0)), (1, .int i1), (2, .int i2)] := hl
  exact w_X11_plan C hI B.returns B.notSynchronized (RoL_rm _) c0 i1 i2 v _ _ _ kc0 h hP va_S.rf (lv_sub hl [0, 1, 2] rfl)
def f_X11_planned (c0 : Nat) (i1 : Int32) (i2 : Int32) (v : VV) : Option (Int32 × VV) :=
  bi (F_X11_in (Int32.toInt64 i1) 0 (Int32.toInt64 ((v c0 41) - 1)) v) fun x3 v2 =>
  if (x3 = 0) then
    some ((-6), v2)
  else
    if (i2 = 0) then
      gd (inB i1 (lnM (rfM c0 39)) = true) <|
      some ((v2 (rfM c0 39) (Int32.toNatClampNeg i1)), v2)
    else
      if (i2 = 1) then
        gd (inB i1 (lnM (rfM c0 40)) = true) <|
        some ((v2 (rfM c0 40) (Int32.toNatClampNeg i1)), v2)
      else
        some ((-6), v2)
abbrev F_X11_planned (c0 : Nat) (i1 : Int32) (i2 : Int32) (v : VV) : Option (Int32 × VV) := f_X11_planned c0 i1 i2 v
set_option maxHeartbeats 4000000 in
set_option maxRecDepth 100000 in
theorem w_X11_planned (C : Cx p s m args c cX11_planned 3 RX11 D cy) (hI : wI LM ad) (hr : meth.sig.returnType = some .int) (hlk : meth.locks = false) (hR : RoL 2 R) {rZ : Int32} {vZ : VV} : ∀ (c0 : Nat) (i1 : Int32) (i2 : Int32) (v : VV) (H : Heap) (locs : List Loc) (ls : Array Slot), wk LM c0 11 → f_X11_planned c0 i1 i2 v = some (rZ, vZ) → va_P D vwCl (wd LM cy ad v) H → va_S (wA LM ad) s.heap H locs → lv_has ls 3 [(0, .ref (ad c0)), (1, .int i1), (2, .int i2)] → W p l e R s m args below meth c H locs 0 0 (MQ below (qiG LM cy ad D rZ vZ) args s 0 0 (wA LM ad)) (F0 m 0 ls []) := by
  intro c0 i1 i2 v H locs ls kc0 h hP hS hl
  unfold f_X11_planned at h
  refine lv_iload_n (pc := 0) C.1 C.2.1 dX11_planned_0 rfl (lv_at hl 1 rfl) ?_
  refine lv_i2l (pc := 1) C.1 C.2.1 dX11_planned_1 rfl ?_
  refine lv_lconst (pc := 2) (v := 0) C.1 C.2.1 dX11_planned_2 (by decide) ?_
  refine lv_aload_n (pc := 3) C.1 C.2.1 dX11_planned_3 rfl (lv_at hl 0 rfl) ?_
  refine x_geti (pc := 4) C hP ck_11 41 fl_X11_225 (by decide) rfl kc0 dX11_planned_4 ?_
  refine lv_iconst (pc := 7) (v := 1) C.1 C.2.1 dX11_planned_7 (by decide) ?_
  refine lv_isub (pc := 8) C.1 C.2.1 dX11_planned_8 ?_
  refine lv_i2l (pc := 9) C.1 C.2.1 dX11_planned_9 rfl ?_
  obtain ⟨x3, v2, hc1, h⟩ := bi_e h
  refine x_callsi (pc := 10) C hP hS ms_X11_in ml_X11_93 (hR.le (by decide)) (Nat.zero_le _) (Nat.zero_le _) [.long (Int32.toInt64 i1), .long 0, .long (Int32.toInt64 ((v c0 41) - 1))] rfl hl.1 rfl (Nat.le_of_ble_eq_true rfl) dX11_planned_10 (m_X11_in hI hc1) (fun H locs hP hS => ?_)
  refine lv_if_ne (pc := 13) (tgt := 19) C.1 C.2.1 dX11_planned_13 (by decide) (fun b13 => ?_) (fun b13 => ?_)
  · replace h := if_f h b13
    refine lv_iload_n (pc := 19) C.1 C.2.1 dX11_planned_19 rfl (lv_at hl 2 rfl) ?_
    refine lv_if_ne (pc := 20) (tgt := 32) C.1 C.2.1 dX11_planned_20 (by decide) (fun b20 => ?_) (fun b20 => ?_)
    · replace h := if_f h b20
      refine lv_iload_n (pc := 32) C.1 C.2.1 dX11_planned_32 rfl (lv_at hl 2 rfl) ?_
      refine lv_iconst (pc := 33) (v := 1) C.1 C.2.1 dX11_planned_33 (by decide) ?_
      refine lv_icmp_ne (pc := 34) (tgt := 46) C.1 C.2.1 dX11_planned_34 (by decide) (fun b34 => ?_) (fun b34 => ?_)
      · replace h := if_f h b34
        refine lv_bipush (pc := 46) (v := (-6)) C.1 C.2.1 dX11_planned_46 (by decide) ?_
        exact x_iret (pc := 48) C hr hlk hP hS h dX11_planned_48
      · replace h := if_t h b34
        refine lv_aload_n (pc := 37) C.1 C.2.1 dX11_planned_37 rfl (lv_at hl 0 rfl) ?_
        refine x_getr (pc := 38) C hP ck_11 40 fl_X11_87 (by decide) rfl kc0 dX11_planned_38 ?_
        have k4 : wk LM (rfM c0 40) 12 := wt_f wT_M kc0 40 (by decide) rfl rfl
        refine lv_iload_n (pc := 41) C.1 C.2.1 dX11_planned_41 rfl (lv_at hl 1 rfl) ?_
        obtain ⟨g5, h⟩ := gd_e h
        refine x_iald (pc := 42) C hP k4 (inB_vp g5) dX11_planned_42 ?_
        refine lv_goto (pc := 43) (tgt := 48) C.1 C.2.1 dX11_planned_43 (by decide) ?_
        exact x_iret (pc := 48) C hr hlk hP hS h dX11_planned_48
    · replace h := if_t h b20
      refine lv_aload_n (pc := 23) C.1 C.2.1 dX11_planned_23 rfl (lv_at hl 0 rfl) ?_
      refine x_getr (pc := 24) C hP ck_11 39 fl_X11_84 (by decide) rfl kc0 dX11_planned_24 ?_
      have k6 : wk LM (rfM c0 39) 12 := wt_f wT_M kc0 39 (by decide) rfl rfl
      refine lv_iload_n (pc := 27) C.1 C.2.1 dX11_planned_27 rfl (lv_at hl 1 rfl) ?_
      obtain ⟨g7, h⟩ := gd_e h
      refine x_iald (pc := 28) C hP k6 (inB_vp g7) dX11_planned_28 ?_
      refine lv_goto (pc := 29) (tgt := 48) C.1 C.2.1 dX11_planned_29 (by decide) ?_
      exact x_iret (pc := 48) C hr hlk hP hS h dX11_planned_48
  · replace h := if_t h b13
    refine lv_bipush (pc := 16) (v := (-6)) C.1 C.2.1 dX11_planned_16 (by decide) ?_
    exact x_iret (pc := 18) C hr hlk hP hS h dX11_planned_18
set_option maxRecDepth 100000 in
theorem m_X11_planned (hI : wI LM ad) {c0 : Nat} {i1 : Int32} {i2 : Int32} {v : VV} {rZ : Int32} {vZ : VV} (kc0 : wk LM c0 11) (h : F_X11_planned c0 i1 i2 v = some (rZ, vZ)) : Met l yX11_planned (Cond.code yX11_planned cX11_planned 3 (some .int) :: wsG) (rmL 2) (pcG LM cy ad D [.ref (ad c0), .int i1, .int i2] v) (qiG LM cy ad D rZ vZ) 0 0 (wA LM ad) := by
  refine Met.ofW (cc := cX11_planned) (maxL := 3) (ret := (some .int)) (by decide) rfl ?_
  intro p e s m args below meth c s₁ B hml hv
  obtain ⟨rfl, hP, hK⟩ := hv
  have hts := atoms_spec (ws := Cond.code yX11_planned cX11_planned 3 (some .int) :: wsG) B.pre
  have hown : s.vm.findClass RX11 = some m.cls := findClass_of_methodNamed B.named
  have C : Cx p s m _ c cX11_planned 3 RX11 D cy := ⟨B.exec, B.bytes, hml, hown, fun w hw => hts w (List.mem_cons_of_mem _ hw), hK⟩
  have hl := lv_entry ([.ref (ad c0), .int i1, .int i2]) (n := 3) (Nat.le_of_ble_eq_true rfl)
  rw [lg_entry_eq]
  generalize (lg_sl ([.ref (ad c0), .int i1, .int i2]) ++ List.replicate (3 - (lg_sl ([.ref (ad c0), .int i1, .int i2])).length) Slot.unset).toArray = ls at hl ⊢
  have hl : lv_has ls 3 [(0, .ref (ad c0)), (1, .int i1), (2, .int i2)] := hl
  exact w_X11_planned C hI B.returns B.notSynchronized (RoL_rm _) c0 i1 i2 v _ _ _ kc0 h hP va_S.rf (lv_sub hl [0, 1, 2] rfl)
def f_X11_starves_l76 (k135 : Nat → Int32 → Int32 → Int32 → Int32 → VV → Option (Int32 × VV)) : Nat → Nat → Int32 → Int32 → Int32 → Int32 → Int32 → VV → Option (Int32 × VV)
  | 0, _, _, _, _, _, _, _ => none
  | n + 1, c0, i3, i4, i5, i6, i7, v =>
    if ((v c0 22) ≤ i7) then
      k135 c0 i3 i4 i5 i6 v
    else
      gd (inB i7 (lnM (rfM c0 19)) = true) <|
      if ((v (rfM c0 19) (Int32.toNatClampNeg i7)) = i6) then
        gd (inB i7 (lnM (rfM c0 20)) = true) <|
        if ((v (rfM c0 20) (Int32.toNatClampNeg i7)) = i4) then
          gd (inB i7 (lnM (rfM c0 21)) = true) <|
          bi (F_X11_held (i5 + (v (rfM c0 21) (Int32.toNatClampNeg i7))) v) fun x25 v24 =>
          nv (i7 + 1) fun x26 =>
          f_X11_starves_l76 k135 n c0 i3 i4 x25 i6 x26 v24
        else
          nv (i7 + 1) fun x20 =>
          f_X11_starves_l76 k135 n c0 i3 i4 i5 i6 x20 v
      else
        nv (i7 + 1) fun x17 =>
        f_X11_starves_l76 k135 n c0 i3 i4 i5 i6 x17 v
def f_X11_starves_l54 : Nat → Nat → Int32 → Int32 → Int32 → Int32 → VV → Option (Int32 × VV)
  | 0, _, _, _, _, _, _ => none
  | n + 1, c0, i3, i4, i5, i6, v =>
    if (((v c0 1) + i3) ≤ i6) then
      some ((-6), v)
    else
      if (999 ≤ i6) then
        some ((-6), v)
      else
        f_X11_starves_l76 (fun c0_27 i3_27 i4_27 i5_27 i6_27 v_27 =>
        gd (inB i4_27 (lnM (rfM c0_27 4)) = true) <|
        bi (F_X11_held (i5_27 + (v_27 (rfM c0_27 4) (Int32.toNatClampNeg i4_27))) v_27) fun x32 v31 =>
        gd (inB i4_27 (lnM (rfM c0_27 5)) = true) <|
        if ((v31 (rfM c0_27 5) (Int32.toNatClampNeg i4_27)) ≤ x32) then
          gd (inB i4_27 (lnM (rfM c0_27 5)) = true) <|
          nv ((x32 - (v31 (rfM c0_27 5) (Int32.toNatClampNeg i4_27)))) fun x37 =>
          nv (i6_27 + 1) fun x38 =>
          f_X11_starves_l54 n c0_27 i3_27 i4_27 x37 x38 v31
        else
          some (i6_27, v31)) FU c0 i3 i4 i5 i6 0 v
def f_X11_starves (c0 : Nat) (i1 : Int32) (i2 : Int32) (i3 : Int32) (v : VV) : Option (Int32 × VV) :=
  bi (F_X11_isPort c0 i1 v) fun x3 v2 =>
  if (x3 = 0) then
    some ((-1), v2)
  else
    bi (F_X11_isGood i2 v2) fun x6 v5 =>
    if (x6 = 0) then
      some ((-1), v5)
    else
      bi (F_X11_in (Int32.toInt64 i3) 1 200 v5) fun x9 v8 =>
      if (x9 = 0) then
        some ((-2), v8)
      else
        nv (((3 * i1) + i2)) fun x10 =>
        gd (inB x10 (lnM (rfM c0 3)) = true) <|
        nv ((v8 (rfM c0 3) (Int32.toNatClampNeg x10))) fun x13 =>
        nv ((v8 c0 1)) fun x14 =>
        f_X11_starves_l54 FU c0 i3 x10 x13 x14 v8
abbrev F_X11_starves (c0 : Nat) (i1 : Int32) (i2 : Int32) (i3 : Int32) (v : VV) : Option (Int32 × VV) := f_X11_starves c0 i1 i2 i3 v
set_option maxHeartbeats 4000000 in
set_option maxRecDepth 100000 in
theorem w_X11_starves_l76 (C : Cx p s m args c cX11_starves 8 RX11 D cy) (hI : wI LM ad) (hr : meth.sig.returnType = some .int) (hlk : meth.locks = false) (hR : RoL 3 R) (k135 : Nat → Int32 → Int32 → Int32 → Int32 → VV → Option (Int32 × VV)) {rZ : Int32} {vZ : VV} (h135 : ∀ (c0 : Nat) (i3 : Int32) (i4 : Int32) (i5 : Int32) (i6 : Int32) (v : VV) (H : Heap) (locs : List Loc) (ls : Array Slot), wk LM c0 11 → k135 c0 i3 i4 i5 i6 v = some (rZ, vZ) → va_P D vwCl (wd LM cy ad v) H → va_S (wA LM ad) s.heap H locs → lv_has ls 8 [(0, .ref (ad c0)), (3, .int i3), (4, .int i4), (5, .int i5), (6, .int i6)] → W p l e R s m args below meth c H locs 0 0 (MQ below (qiG LM cy ad D rZ vZ) args s 0 0 (wA LM ad)) (F0 m 135 ls [])) : ∀ (n : Nat) (c0 : Nat) (i3 : Int32) (i4 : Int32) (i5 : Int32) (i6 : Int32) (i7 : Int32) (v : VV) (H : Heap) (locs : List Loc) (ls : Array Slot), wk LM c0 11 → f_X11_starves_l76 k135 n c0 i3 i4 i5 i6 i7 v = some (rZ, vZ) → va_P D vwCl (wd LM cy ad v) H → va_S (wA LM ad) s.heap H locs → lv_has ls 8 [(0, .ref (ad c0)), (3, .int i3), (4, .int i4), (5, .int i5), (6, .int i6), (7, .int i7)] → W p l e R s m args below meth c H locs 0 0 (MQ below (qiG LM cy ad D rZ vZ) args s 0 0 (wA LM ad)) (F0 m 76 ls []) := by
  intro n
  induction n with
  | zero => intro c0 i3 i4 i5 i6 i7 v H locs ls kc0 h hP hS hl; exact absurd h (by simp [f_X11_starves_l76])
  | succ n ih =>
    intro c0 i3 i4 i5 i6 i7 v H locs ls kc0 h hP hS hl
    rw [f_X11_starves_l76] at h
    refine lv_iload (pc := 76) C.1 C.2.1 dX11_starves_76 (lv_at hl 5 rfl) ?_
    refine lv_aload_n (pc := 78) C.1 C.2.1 dX11_starves_78 rfl (lv_at hl 0 rfl) ?_
    refine x_geti (pc := 79) C hP ck_11 22 fl_X11_130 (by decide) rfl kc0 dX11_starves_79 ?_
    refine lv_icmp_ge (pc := 82) (tgt := 135) C.1 C.2.1 dX11_starves_82 (by decide) (fun b82 => ?_) (fun b82 => ?_)
    · replace h := if_t h b82
      exact h135 c0 i3 i4 i5 i6 v _ _ _ kc0 h hP hS (lv_sub hl [0, 1, 2, 3, 4] rfl)
    · replace h := if_f h b82
      refine lv_aload_n (pc := 85) C.1 C.2.1 dX11_starves_85 rfl (lv_at hl 0 rfl) ?_
      refine x_getr (pc := 86) C hP ck_11 19 fl_X11_48 (by decide) rfl kc0 dX11_starves_86 ?_
      have k15 : wk LM (rfM c0 19) 12 := wt_f wT_M kc0 19 (by decide) rfl rfl
      refine lv_iload (pc := 89) C.1 C.2.1 dX11_starves_89 (lv_at hl 5 rfl) ?_
      obtain ⟨g16, h⟩ := gd_e h
      refine x_iald (pc := 91) C hP k15 (inB_vp g16) dX11_starves_91 ?_
      refine lv_iload (pc := 92) C.1 C.2.1 dX11_starves_92 (lv_at hl 4 rfl) ?_
      refine lv_icmp_ne (pc := 94) (tgt := 125) C.1 C.2.1 dX11_starves_94 (by decide) (fun b94 => ?_) (fun b94 => ?_)
      · replace h := if_f h b94
        refine lv_iload (pc := 125) C.1 C.2.1 dX11_starves_125 (lv_at hl 3 rfl) ?_
        refine lv_istore (pc := 127) (lv' := [(5, .int i5), (0, .ref (ad c0)), (3, .int i3), (4, .int i4), (6, .int i6), (7, .int i7)]) C.1 C.2.1 dX11_starves_127 hl (by decide) rfl (fun ls hl => ?_)
        obtain ⟨x17, ex17⟩ : ∃ y : Int32, y = i7 + 1 := ⟨_, rfl⟩
        replace h := nv_e h ex17
        refine lv_iinc (pc := 129) (v := x17) (lv' := [(7, .int x17), (5, .int i5), (0, .ref (ad c0)), (3, .int i3), (4, .int i4), (6, .int i6)]) C.1 C.2.1 dX11_starves_129 hl (k := 5) rfl (by rw [ex17]; rfl) (by decide) rfl (fun ls hl => ?_)
        clear ex17
        refine lv_goto (pc := 132) (tgt := 76) C.1 C.2.1 dX11_starves_132 (by decide) ?_
        exact ih c0 i3 i4 i5 i6 x17 v _ _ _ kc0 h hP hS (lv_sub hl [2, 3, 4, 1, 5, 0] rfl)
      · replace h := if_t h b94
        refine lv_aload_n (pc := 97) C.1 C.2.1 dX11_starves_97 rfl (lv_at hl 0 rfl) ?_
        refine x_getr (pc := 98) C hP ck_11 20 fl_X11_51 (by decide) rfl kc0 dX11_starves_98 ?_
        have k18 : wk LM (rfM c0 20) 12 := wt_f wT_M kc0 20 (by decide) rfl rfl
        refine lv_iload (pc := 101) C.1 C.2.1 dX11_starves_101 (lv_at hl 5 rfl) ?_
        obtain ⟨g19, h⟩ := gd_e h
        refine x_iald (pc := 103) C hP k18 (inB_vp g19) dX11_starves_103 ?_
        refine lv_iload (pc := 104) C.1 C.2.1 dX11_starves_104 (lv_at hl 2 rfl) ?_
        refine lv_icmp_ne (pc := 106) (tgt := 125) C.1 C.2.1 dX11_starves_106 (by decide) (fun b106 => ?_) (fun b106 => ?_)
        · replace h := if_f h b106
          refine lv_iload (pc := 125) C.1 C.2.1 dX11_starves_125 (lv_at hl 3 rfl) ?_
          refine lv_istore (pc := 127) (lv' := [(5, .int i5), (0, .ref (ad c0)), (3, .int i3), (4, .int i4), (6, .int i6), (7, .int i7)]) C.1 C.2.1 dX11_starves_127 hl (by decide) rfl (fun ls hl => ?_)
          obtain ⟨x20, ex20⟩ : ∃ y : Int32, y = i7 + 1 := ⟨_, rfl⟩
          replace h := nv_e h ex20
          refine lv_iinc (pc := 129) (v := x20) (lv' := [(7, .int x20), (5, .int i5), (0, .ref (ad c0)), (3, .int i3), (4, .int i4), (6, .int i6)]) C.1 C.2.1 dX11_starves_129 hl (k := 5) rfl (by rw [ex20]; rfl) (by decide) rfl (fun ls hl => ?_)
          clear ex20
          refine lv_goto (pc := 132) (tgt := 76) C.1 C.2.1 dX11_starves_132 (by decide) ?_
          exact ih c0 i3 i4 i5 i6 x20 v _ _ _ kc0 h hP hS (lv_sub hl [2, 3, 4, 1, 5, 0] rfl)
        · replace h := if_t h b106
          refine lv_iload (pc := 109) C.1 C.2.1 dX11_starves_109 (lv_at hl 3 rfl) ?_
          refine lv_aload_n (pc := 111) C.1 C.2.1 dX11_starves_111 rfl (lv_at hl 0 rfl) ?_
          refine x_getr (pc := 112) C hP ck_11 21 fl_X11_54 (by decide) rfl kc0 dX11_starves_112 ?_
          have k21 : wk LM (rfM c0 21) 12 := wt_f wT_M kc0 21 (by decide) rfl rfl
          refine lv_iload (pc := 115) C.1 C.2.1 dX11_starves_115 (lv_at hl 5 rfl) ?_
          obtain ⟨g22, h⟩ := gd_e h
          refine x_iald (pc := 117) C hP k21 (inB_vp g22) dX11_starves_117 ?_
          refine lv_iadd (pc := 118) C.1 C.2.1 dX11_starves_118 ?_
          obtain ⟨x25, v24, hc23, h⟩ := bi_e h
          refine x_callsi (pc := 119) C hP hS ms_X11_held ml_X11_136 (hR.le (by decide)) (Nat.zero_le _) (Nat.zero_le _) [.int (i5 + (v (rfM c0 21) (Int32.toNatClampNeg i7)))] rfl hl.1 rfl (Nat.le_of_ble_eq_true rfl) dX11_starves_119 (m_X11_held hI hc23) (fun H locs hP hS => ?_)
          refine lv_goto (pc := 122) (tgt := 127) C.1 C.2.1 dX11_starves_122 (by decide) ?_
          refine lv_istore (pc := 127) (lv' := [(5, .int x25), (0, .ref (ad c0)), (3, .int i3), (4, .int i4), (6, .int i6), (7, .int i7)]) C.1 C.2.1 dX11_starves_127 hl (by decide) rfl (fun ls hl => ?_)
          obtain ⟨x26, ex26⟩ : ∃ y : Int32, y = i7 + 1 := ⟨_, rfl⟩
          replace h := nv_e h ex26
          refine lv_iinc (pc := 129) (v := x26) (lv' := [(7, .int x26), (5, .int x25), (0, .ref (ad c0)), (3, .int i3), (4, .int i4), (6, .int i6)]) C.1 C.2.1 dX11_starves_129 hl (k := 5) rfl (by rw [ex26]; rfl) (by decide) rfl (fun ls hl => ?_)
          clear ex26
          refine lv_goto (pc := 132) (tgt := 76) C.1 C.2.1 dX11_starves_132 (by decide) ?_
          exact ih c0 i3 i4 x25 i6 x26 v24 _ _ _ kc0 h hP hS (lv_sub hl [2, 3, 4, 1, 5, 0] rfl)
set_option maxHeartbeats 4000000 in
set_option maxRecDepth 100000 in
theorem w_X11_starves_l54 (C : Cx p s m args c cX11_starves 8 RX11 D cy) (hI : wI LM ad) (hr : meth.sig.returnType = some .int) (hlk : meth.locks = false) (hR : RoL 3 R) {rZ : Int32} {vZ : VV} : ∀ (n : Nat) (c0 : Nat) (i3 : Int32) (i4 : Int32) (i5 : Int32) (i6 : Int32) (v : VV) (H : Heap) (locs : List Loc) (ls : Array Slot), wk LM c0 11 → f_X11_starves_l54 n c0 i3 i4 i5 i6 v = some (rZ, vZ) → va_P D vwCl (wd LM cy ad v) H → va_S (wA LM ad) s.heap H locs → lv_has ls 8 [(0, .ref (ad c0)), (3, .int i3), (4, .int i4), (5, .int i5), (6, .int i6)] → W p l e R s m args below meth c H locs 0 0 (MQ below (qiG LM cy ad D rZ vZ) args s 0 0 (wA LM ad)) (F0 m 54 ls []) := by
  intro n
  induction n with
  | zero => intro c0 i3 i4 i5 i6 v H locs ls kc0 h hP hS hl; exact absurd h (by simp [f_X11_starves_l54])
  | succ n ih =>
    intro c0 i3 i4 i5 i6 v H locs ls kc0 h hP hS hl
    rw [f_X11_starves_l54] at h
    refine lv_iload (pc := 54) C.1 C.2.1 dX11_starves_54 (lv_at hl 4 rfl) ?_
    refine lv_aload_n (pc := 56) C.1 C.2.1 dX11_starves_56 rfl (lv_at hl 0 rfl) ?_
    refine x_geti (pc := 57) C hP ck_11 1 fl_X11_133 (by decide) rfl kc0 dX11_starves_57 ?_
    refine lv_iload_n (pc := 60) C.1 C.2.1 dX11_starves_60 rfl (lv_at hl 1 rfl) ?_
    refine lv_iadd (pc := 61) C.1 C.2.1 dX11_starves_61 ?_
    refine lv_icmp_ge (pc := 62) (tgt := 183) C.1 C.2.1 dX11_starves_62 (by decide) (fun b62 => ?_) (fun b62 => ?_)
    · replace h := if_t h b62
      refine lv_bipush (pc := 183) (v := (-6)) C.1 C.2.1 dX11_starves_183 (by decide) ?_
      exact x_iret (pc := 185) C hr hlk hP hS h dX11_starves_185
    · replace h := if_f h b62
      refine lv_iload (pc := 65) C.1 C.2.1 dX11_starves_65 (lv_at hl 4 rfl) ?_
      refine lv_sipush (pc := 67) (v := 999) C.1 C.2.1 dX11_starves_67 (by decide) ?_
      refine lv_icmp_ge (pc := 70) (tgt := 183) C.1 C.2.1 dX11_starves_70 (by decide) (fun b70 => ?_) (fun b70 => ?_)
      · replace h := if_t h b70
        refine lv_bipush (pc := 183) (v := (-6)) C.1 C.2.1 dX11_starves_183 (by decide) ?_
        exact x_iret (pc := 185) C hr hlk hP hS h dX11_starves_185
      · replace h := if_f h b70
        refine lv_iconst (pc := 73) (v := 0) C.1 C.2.1 dX11_starves_73 (by decide) ?_
        refine lv_istore (pc := 74) (lv' := [(7, .int 0), (0, .ref (ad c0)), (3, .int i3), (4, .int i4), (5, .int i5), (6, .int i6)]) C.1 C.2.1 dX11_starves_74 hl (by decide) rfl (fun ls hl => ?_)
        refine w_X11_starves_l76 C hI hr hlk hR _ ?_ FU c0 i3 i4 i5 i6 0 v _ _ _ kc0 h hP hS (lv_sub hl [1, 2, 3, 4, 5, 0] rfl)
        intro c0_27 i3_27 i4_27 i5_27 i6_27 v_27 H locs ls kc0_27 h hP hS hl
        refine lv_iload (pc := 135) C.1 C.2.1 dX11_starves_135 (lv_at hl 3 rfl) ?_
        refine lv_aload_n (pc := 137) C.1 C.2.1 dX11_starves_137 rfl (lv_at hl 0 rfl) ?_
        refine x_getr (pc := 138) C hP ck_11 4 fl_X11_17 (by decide) rfl kc0_27 dX11_starves_138 ?_
        have k28 : wk LM (rfM c0_27 4) 12 := wt_f wT_M kc0_27 4 (by decide) rfl rfl
        refine lv_iload (pc := 141) C.1 C.2.1 dX11_starves_141 (lv_at hl 2 rfl) ?_
        obtain ⟨g29, h⟩ := gd_e h
        refine x_iald (pc := 143) C hP k28 (inB_vp g29) dX11_starves_143 ?_
        refine lv_iadd (pc := 144) C.1 C.2.1 dX11_starves_144 ?_
        obtain ⟨x32, v31, hc30, h⟩ := bi_e h
        refine x_callsi (pc := 145) C hP hS ms_X11_held ml_X11_136 (hR.le (by decide)) (Nat.zero_le _) (Nat.zero_le _) [.int (i5_27 + (v_27 (rfM c0_27 4) (Int32.toNatClampNeg i4_27)))] rfl hl.1 rfl (Nat.le_of_ble_eq_true rfl) dX11_starves_145 (m_X11_held hI hc30) (fun H locs hP hS => ?_)
        refine lv_istore (pc := 148) (lv' := [(5, .int x32), (0, .ref (ad c0_27)), (3, .int i3_27), (4, .int i4_27), (6, .int i6_27)]) C.1 C.2.1 dX11_starves_148 hl (by decide) rfl (fun ls hl => ?_)
        refine lv_iload (pc := 150) C.1 C.2.1 dX11_starves_150 (lv_at hl 0 rfl) ?_
        refine lv_aload_n (pc := 152) C.1 C.2.1 dX11_starves_152 rfl (lv_at hl 1 rfl) ?_
        refine x_getr (pc := 153) C hP ck_11 5 fl_X11_20 (by decide) rfl kc0_27 dX11_starves_153 ?_
        have k33 : wk LM (rfM c0_27 5) 12 := wt_f wT_M kc0_27 5 (by decide) rfl rfl
        refine lv_iload (pc := 156) C.1 C.2.1 dX11_starves_156 (lv_at hl 3 rfl) ?_
        obtain ⟨g34, h⟩ := gd_e h
        refine x_iald (pc := 158) C hP k33 (inB_vp g34) dX11_starves_158 ?_
        refine lv_icmp_ge (pc := 159) (tgt := 165) C.1 C.2.1 dX11_starves_159 (by decide) (fun b159 => ?_) (fun b159 => ?_)
        · replace h := if_t h b159
          refine lv_iload (pc := 165) C.1 C.2.1 dX11_starves_165 (lv_at hl 0 rfl) ?_
          refine lv_aload_n (pc := 167) C.1 C.2.1 dX11_starves_167 rfl (lv_at hl 1 rfl) ?_
          refine x_getr (pc := 168) C hP ck_11 5 fl_X11_20 (by decide) rfl kc0_27 dX11_starves_168 ?_
          have k35 : wk LM (rfM c0_27 5) 12 := wt_f wT_M kc0_27 5 (by decide) rfl rfl
          refine lv_iload (pc := 171) C.1 C.2.1 dX11_starves_171 (lv_at hl 3 rfl) ?_
          obtain ⟨g36, h⟩ := gd_e h
          refine x_iald (pc := 173) C hP k35 (inB_vp g36) dX11_starves_173 ?_
          refine lv_isub (pc := 174) C.1 C.2.1 dX11_starves_174 ?_
          refine lv_topi (fun x37 ex37 => ?_)
          replace h := nv_e h ex37
          clear ex37
          refine lv_istore (pc := 175) (lv' := [(5, .int x37), (0, .ref (ad c0_27)), (3, .int i3_27), (4, .int i4_27), (6, .int i6_27)]) C.1 C.2.1 dX11_starves_175 hl (by decide) rfl (fun ls hl => ?_)
          obtain ⟨x38, ex38⟩ : ∃ y : Int32, y = i6_27 + 1 := ⟨_, rfl⟩
          replace h := nv_e h ex38
          refine lv_iinc (pc := 177) (v := x38) (lv' := [(6, .int x38), (5, .int x37), (0, .ref (ad c0_27)), (3, .int i3_27), (4, .int i4_27)]) C.1 C.2.1 dX11_starves_177 hl (k := 4) rfl (by rw [ex38]; rfl) (by decide) rfl (fun ls hl => ?_)
          clear ex38
          refine lv_goto (pc := 180) (tgt := 54) C.1 C.2.1 dX11_starves_180 (by decide) ?_
          exact ih c0_27 i3_27 i4_27 x37 x38 v31 _ _ _ kc0_27 h hP hS (lv_sub hl [2, 3, 4, 1, 0] rfl)
        · replace h := if_f h b159
          refine lv_iload (pc := 162) C.1 C.2.1 dX11_starves_162 (lv_at hl 4 rfl) ?_
          exact x_iret (pc := 164) C hr hlk hP hS h dX11_starves_164
set_option maxHeartbeats 4000000 in
set_option maxRecDepth 100000 in
theorem w_X11_starves (C : Cx p s m args c cX11_starves 8 RX11 D cy) (hI : wI LM ad) (hr : meth.sig.returnType = some .int) (hlk : meth.locks = false) (hR : RoL 3 R) {rZ : Int32} {vZ : VV} : ∀ (c0 : Nat) (i1 : Int32) (i2 : Int32) (i3 : Int32) (v : VV) (H : Heap) (locs : List Loc) (ls : Array Slot), wk LM c0 11 → f_X11_starves c0 i1 i2 i3 v = some (rZ, vZ) → va_P D vwCl (wd LM cy ad v) H → va_S (wA LM ad) s.heap H locs → lv_has ls 8 [(0, .ref (ad c0)), (1, .int i1), (2, .int i2), (3, .int i3)] → W p l e R s m args below meth c H locs 0 0 (MQ below (qiG LM cy ad D rZ vZ) args s 0 0 (wA LM ad)) (F0 m 0 ls []) := by
  intro c0 i1 i2 i3 v H locs ls kc0 h hP hS hl
  unfold f_X11_starves at h
  refine lv_aload_n (pc := 0) C.1 C.2.1 dX11_starves_0 rfl (lv_at hl 0 rfl) ?_
  refine lv_iload_n (pc := 1) C.1 C.2.1 dX11_starves_1 rfl (lv_at hl 1 rfl) ?_
  obtain ⟨x3, v2, hc1, h⟩ := bi_e h
  refine x_calli (pc := 2) C hP hS mi_X11_isPort ck_11 kc0 ml_X11_99 (hR.le (by decide)) (Nat.zero_le _) (Nat.zero_le _) [.int i1] rfl hl.1 rfl (Nat.le_of_ble_eq_true rfl) dX11_starves_2 (m_X11_isPort hI kc0 hc1) (fun H locs hP hS => ?_)
  refine lv_if_eq (pc := 5) (tgt := 15) C.1 C.2.1 dX11_starves_5 (by decide) (fun b5 => ?_) (fun b5 => ?_)
  · replace h := if_t h b5
    refine lv_iconst (pc := 15) (v := (-1)) C.1 C.2.1 dX11_starves_15 (by decide) ?_
    exact x_iret (pc := 16) C hr hlk hP hS h dX11_starves_16
  · replace h := if_f h b5
    refine lv_iload_n (pc := 8) C.1 C.2.1 dX11_starves_8 rfl (lv_at hl 2 rfl) ?_
    obtain ⟨x6, v5, hc4, h⟩ := bi_e h
    refine x_callsi (pc := 9) C hP hS ms_X11_isGood ml_X11_103 (hR.le (by decide)) (Nat.zero_le _) (Nat.zero_le _) [.int i2] rfl hl.1 rfl (Nat.le_of_ble_eq_true rfl) dX11_starves_9 (m_X11_isGood hI hc4) (fun H locs hP hS => ?_)
    refine lv_if_ne (pc := 12) (tgt := 17) C.1 C.2.1 dX11_starves_12 (by decide) (fun b12 => ?_) (fun b12 => ?_)
    · replace h := if_f h b12
      refine lv_iload_n (pc := 17) C.1 C.2.1 dX11_starves_17 rfl (lv_at hl 3 rfl) ?_
      refine lv_i2l (pc := 18) C.1 C.2.1 dX11_starves_18 rfl ?_
      refine lv_lconst (pc := 19) (v := 1) C.1 C.2.1 dX11_starves_19 (by decide) ?_
      refine lv_ldc2 (pc := 20) (v := 200) C.1 C.2.1 C.2.2.2.1 (C.2.2.2.2.1 _ cl_X11_149) dX11_starves_20 ?_
      obtain ⟨x9, v8, hc7, h⟩ := bi_e h
      refine x_callsi (pc := 23) C hP hS ms_X11_in ml_X11_93 (hR.le (by decide)) (Nat.zero_le _) (Nat.zero_le _) [.long (Int32.toInt64 i3), .long 1, .long 200] rfl hl.1 rfl (Nat.le_of_ble_eq_true rfl) dX11_starves_23 (m_X11_in hI hc7) (fun H locs hP hS => ?_)
      refine lv_if_ne (pc := 26) (tgt := 32) C.1 C.2.1 dX11_starves_26 (by decide) (fun b26 => ?_) (fun b26 => ?_)
      · replace h := if_f h b26
        refine lv_iconst (pc := 32) (v := 3) C.1 C.2.1 dX11_starves_32 (by decide) ?_
        refine lv_iload_n (pc := 33) C.1 C.2.1 dX11_starves_33 rfl (lv_at hl 1 rfl) ?_
        refine lv_imul (pc := 34) C.1 C.2.1 dX11_starves_34 ?_
        refine lv_iload_n (pc := 35) C.1 C.2.1 dX11_starves_35 rfl (lv_at hl 2 rfl) ?_
        refine lv_iadd (pc := 36) C.1 C.2.1 dX11_starves_36 ?_
        refine lv_topi (fun x10 ex10 => ?_)
        replace h := nv_e h ex10
        clear ex10
        refine lv_istore (pc := 37) (lv' := [(4, .int x10), (0, .ref (ad c0)), (1, .int i1), (2, .int i2), (3, .int i3)]) C.1 C.2.1 dX11_starves_37 hl (by decide) rfl (fun ls hl => ?_)
        refine lv_aload_n (pc := 39) C.1 C.2.1 dX11_starves_39 rfl (lv_at hl 1 rfl) ?_
        refine x_getr (pc := 40) C hP ck_11 3 fl_X11_13 (by decide) rfl kc0 dX11_starves_40 ?_
        have k11 : wk LM (rfM c0 3) 12 := wt_f wT_M kc0 3 (by decide) rfl rfl
        refine lv_iload (pc := 43) C.1 C.2.1 dX11_starves_43 (lv_at hl 0 rfl) ?_
        obtain ⟨g12, h⟩ := gd_e h
        refine x_iald (pc := 45) C hP k11 (inB_vp g12) dX11_starves_45 ?_
        refine lv_topi (fun x13 ex13 => ?_)
        replace h := nv_e h ex13
        clear ex13
        refine lv_istore (pc := 46) (lv' := [(5, .int x13), (4, .int x10), (0, .ref (ad c0)), (1, .int i1), (2, .int i2), (3, .int i3)]) C.1 C.2.1 dX11_starves_46 hl (by decide) rfl (fun ls hl => ?_)
        refine lv_aload_n (pc := 48) C.1 C.2.1 dX11_starves_48 rfl (lv_at hl 2 rfl) ?_
        refine x_geti (pc := 49) C hP ck_11 1 fl_X11_133 (by decide) rfl kc0 dX11_starves_49 ?_
        refine lv_topi (fun x14 ex14 => ?_)
        replace h := nv_e h ex14
        clear ex14
        refine lv_istore (pc := 52) (lv' := [(6, .int x14), (5, .int x13), (4, .int x10), (0, .ref (ad c0)), (1, .int i1), (2, .int i2), (3, .int i3)]) C.1 C.2.1 dX11_starves_52 hl (by decide) rfl (fun ls hl => ?_)
        refine w_X11_starves_l54 C hI hr hlk hR FU c0 i3 x10 x13 x14 v8 _ _ _ kc0 h hP hS (lv_sub hl [3, 6, 2, 1, 0] rfl)
      · replace h := if_t h b26
        refine lv_bipush (pc := 29) (v := (-2)) C.1 C.2.1 dX11_starves_29 (by decide) ?_
        exact x_iret (pc := 31) C hr hlk hP hS h dX11_starves_31
    · replace h := if_t h b12
      refine lv_iconst (pc := 15) (v := (-1)) C.1 C.2.1 dX11_starves_15 (by decide) ?_
      exact x_iret (pc := 16) C hr hlk hP hS h dX11_starves_16
set_option maxRecDepth 100000 in
theorem m_X11_starves (hI : wI LM ad) {c0 : Nat} {i1 : Int32} {i2 : Int32} {i3 : Int32} {v : VV} {rZ : Int32} {vZ : VV} (kc0 : wk LM c0 11) (h : F_X11_starves c0 i1 i2 i3 v = some (rZ, vZ)) : Met l yX11_starves (Cond.code yX11_starves cX11_starves 8 (some .int) :: wsG) (rmL 3) (pcG LM cy ad D [.ref (ad c0), .int i1, .int i2, .int i3] v) (qiG LM cy ad D rZ vZ) 0 0 (wA LM ad) := by
  refine Met.ofW (cc := cX11_starves) (maxL := 8) (ret := (some .int)) (by decide) rfl ?_
  intro p e s m args below meth c s₁ B hml hv
  obtain ⟨rfl, hP, hK⟩ := hv
  have hts := atoms_spec (ws := Cond.code yX11_starves cX11_starves 8 (some .int) :: wsG) B.pre
  have hown : s.vm.findClass RX11 = some m.cls := findClass_of_methodNamed B.named
  have C : Cx p s m _ c cX11_starves 8 RX11 D cy := ⟨B.exec, B.bytes, hml, hown, fun w hw => hts w (List.mem_cons_of_mem _ hw), hK⟩
  have hl := lv_entry ([.ref (ad c0), .int i1, .int i2, .int i3]) (n := 8) (Nat.le_of_ble_eq_true rfl)
  rw [lg_entry_eq]
  generalize (lg_sl ([.ref (ad c0), .int i1, .int i2, .int i3]) ++ List.replicate (8 - (lg_sl ([.ref (ad c0), .int i1, .int i2, .int i3])).length) Slot.unset).toArray = ls at hl ⊢
  have hl : lv_has ls 8 [(0, .ref (ad c0)), (1, .int i1), (2, .int i2), (3, .int i3)] := hl
  exact w_X11_starves C hI B.returns B.notSynchronized (RoL_rm _) c0 i1 i2 i3 v _ _ _ kc0 h hP va_S.rf (lv_sub hl [0, 1, 2, 3] rfl)
end
