section
variable {p : Program} {l : Launch} {e : Env} {R : Room} {s : State} {m : MethodId} {args : Array Value} {below : List Frame} {meth : Method} {c : Code} {D : va_G} {cy : Nat → ClassId} {ad : Nat → Nat}
def f_X11_tickOnce_l4 (k124 : Nat → Int32 → VV → Option (VV)) : Nat → Nat → Int32 → Int32 → VV → Option (VV)
  | 0, _, _, _, _ => none
  | n + 1, c0, i1, i2, v =>
    if ((v c0 22) ≤ i2) then
      k124 c0 i1 v
    else
      gd (inB i2 (lnM (rfM c0 19)) = true) <|
      if ((v (rfM c0 19) (Int32.toNatClampNeg i2)) = (v c0 1)) then
        gd (inB i2 (lnM (rfM c0 20)) = true) <|
        nv ((v (rfM c0 20) (Int32.toNatClampNeg i2))) fun x22 =>
        gd (inB x22 (lnM (rfM c0 3)) = true) <|
        gd (inB i2 (lnM (rfM c0 21)) = true) <|
        bi (F_X11_held ((v (rfM c0 3) (Int32.toNatClampNeg x22)) + (v (rfM c0 21) (Int32.toNatClampNeg i2))) v) fun x29 v28 =>
        gd (inB x22 (lnM (rfM c0 3)) = true) <|
        nv (wu v28 c0 16 ((v28 c0 16) + (x29 - (v28 (rfM c0 3) (Int32.toNatClampNeg x22))))) fun v32 =>
        gd (inB x22 (lnM (rfM c0 3)) = true) <|
        nv (wu v32 (rfM c0 3) (Int32.toNatClampNeg x22) x29) fun v35 =>
        nv (i2 + 1) fun x36 =>
        f_X11_tickOnce_l4 k124 n c0 i1 x36 v35
      else
        gd (inB i2 (lnM (rfM c0 19)) = true) <|
        gd (inB i1 (lnM (rfM c0 19)) = true) <|
        nv (wu v (rfM c0 19) (Int32.toNatClampNeg i1) (v (rfM c0 19) (Int32.toNatClampNeg i2))) fun v7 =>
        gd (inB i2 (lnM (rfM c0 20)) = true) <|
        gd (inB i1 (lnM (rfM c0 20)) = true) <|
        nv (wu v7 (rfM c0 20) (Int32.toNatClampNeg i1) (v7 (rfM c0 20) (Int32.toNatClampNeg i2))) fun v12 =>
        gd (inB i2 (lnM (rfM c0 21)) = true) <|
        gd (inB i1 (lnM (rfM c0 21)) = true) <|
        nv (wu v12 (rfM c0 21) (Int32.toNatClampNeg i1) (v12 (rfM c0 21) (Int32.toNatClampNeg i2))) fun v17 =>
        nv (i1 + 1) fun x18 =>
        nv (i2 + 1) fun x19 =>
        f_X11_tickOnce_l4 k124 n c0 x18 x19 v17
def f_X11_tickOnce_b195 (k131 : Nat → Int32 → VV → Option (VV)) (c0 : Nat) (i2 : Int32) (i3 : Int32) (t0 : Int32) (v : VV) : Option (VV) :=
  nv (wu v c0 15 ((v c0 15) + t0)) fun v53 =>
  gd (inB i2 (lnM (rfM c0 8)) = true) <|
  gd (inB i2 (lnM (rfM c0 5)) = true) <|
  gd (inB i2 (lnM (rfM c0 8)) = true) <|
  nv (wu v53 (rfM c0 8) (Int32.toNatClampNeg i2) ((v53 (rfM c0 8) (Int32.toNatClampNeg i2)) + ((v53 (rfM c0 5) (Int32.toNatClampNeg i2)) - t0))) fun v59 =>
  gd (inB i2 (lnM (rfM c0 3)) = true) <|
  nv (wu v59 (rfM c0 3) (Int32.toNatClampNeg i2) (i3 - t0)) fun v62 =>
  nv (i2 + 1) fun x63 =>
  k131 c0 x63 v62
def f_X11_tickOnce_l131 (k242 : Nat → VV → Option (VV)) : Nat → Nat → Int32 → VV → Option (VV)
  | 0, _, _, _ => none
  | n + 1, c0, i2, v =>
    if ((3 * (v c0 0)) ≤ i2) then
      k242 c0 v
    else
      gd (inB i2 (lnM (rfM c0 3)) = true) <|
      gd (inB i2 (lnM (rfM c0 4)) = true) <|
      bi (F_X11_held ((v (rfM c0 3) (Int32.toNatClampNeg i2)) + (v (rfM c0 4) (Int32.toNatClampNeg i2))) v) fun x45 v44 =>
      gd (inB i2 (lnM (rfM c0 3)) = true) <|
      nv (wu v44 c0 14 ((v44 c0 14) + (x45 - (v44 (rfM c0 3) (Int32.toNatClampNeg i2))))) fun v48 =>
      gd (inB i2 (lnM (rfM c0 5)) = true) <|
      if ((v48 (rfM c0 5) (Int32.toNatClampNeg i2)) ≤ x45) then
        gd (inB i2 (lnM (rfM c0 5)) = true) <|
        f_X11_tickOnce_b195 (fun c0 i2 v => f_X11_tickOnce_l131 k242 n c0 i2 v) c0 i2 x45 (v48 (rfM c0 5) (Int32.toNatClampNeg i2)) v48
      else
        f_X11_tickOnce_b195 (fun c0 i2 v => f_X11_tickOnce_l131 k242 n c0 i2 v) c0 i2 x45 x45 v48
def f_X11_tickOnce (c0 : Nat) (v : VV) : Option (VV) :=
  f_X11_tickOnce_l4 (fun c0_37 i1_37 v_37 =>
  nv (wu v_37 c0_37 22 i1_37) fun v38 =>
  f_X11_tickOnce_l131 (fun c0_64 v_64 =>
  nv (wu v_64 c0_64 1 ((v_64 c0_64 1) + 1)) fun v65 =>
  some v65) FU c0_37 0 v38) FU c0 0 0 v
abbrev F_X11_tickOnce (c0 : Nat) (v : VV) : Option (VV) := f_X11_tickOnce c0 v
set_option maxHeartbeats 4000000 in
set_option maxRecDepth 100000 in
theorem w_X11_tickOnce_l4 (C : Cx p s m args c cX11_tickOnce 5 RX11 D cy) (hI : wI LM ad) (hr : meth.sig.returnType = none) (hlk : meth.locks = false) (hR : RoL 2 R) (k124 : Nat → Int32 → VV → Option (VV)) {vZ : VV} (h124 : ∀ (c0 : Nat) (i1 : Int32) (v : VV) (H : Heap) (locs : List Loc) (ls : Array Slot), wk LM c0 11 → k124 c0 i1 v = some vZ → va_P D vwCl (wd LM cy ad v) H → va_S (wA LM ad) s.heap H locs → lv_has ls 5 [(0, .ref (ad c0)), (1, .int i1)] → W p l e R s m args below meth c H locs 0 0 (MQ below (qvG LM cy ad D vZ) args s 0 0 (wA LM ad)) (F0 m 124 ls [])) : ∀ (n : Nat) (c0 : Nat) (i1 : Int32) (i2 : Int32) (v : VV) (H : Heap) (locs : List Loc) (ls : Array Slot), wk LM c0 11 → f_X11_tickOnce_l4 k124 n c0 i1 i2 v = some vZ → va_P D vwCl (wd LM cy ad v) H → va_S (wA LM ad) s.heap H locs → lv_has ls 5 [(0, .ref (ad c0)), (1, .int i1), (2, .int i2)] → W p l e R s m args below meth c H locs 0 0 (MQ below (qvG LM cy ad D vZ) args s 0 0 (wA LM ad)) (F0 m 4 ls []) := by
  intro n
  induction n with
  | zero => intro c0 i1 i2 v H locs ls kc0 h hP hS hl; exact absurd h (by simp [f_X11_tickOnce_l4])
  | succ n ih =>
    intro c0 i1 i2 v H locs ls kc0 h hP hS hl
    rw [f_X11_tickOnce_l4] at h
    refine lv_iload_n (pc := 4) C.1 C.2.1 dX11_tickOnce_4 rfl (lv_at hl 2 rfl) ?_
    refine lv_aload_n (pc := 5) C.1 C.2.1 dX11_tickOnce_5 rfl (lv_at hl 0 rfl) ?_
    refine x_geti (pc := 6) C hP ck_11 22 fl_X11_130 (by decide) rfl kc0 dX11_tickOnce_6 ?_
    refine lv_icmp_ge (pc := 9) (tgt := 124) C.1 C.2.1 dX11_tickOnce_9 (by decide) (fun b9 => ?_) (fun b9 => ?_)
    · replace h := if_t h b9
      exact h124 c0 i1 v _ _ _ kc0 h hP hS (lv_sub hl [0, 1] rfl)
    · replace h := if_f h b9
      refine lv_aload_n (pc := 12) C.1 C.2.1 dX11_tickOnce_12 rfl (lv_at hl 0 rfl) ?_
      refine x_getr (pc := 13) C hP ck_11 19 fl_X11_48 (by decide) rfl kc0 dX11_tickOnce_13 ?_
      have k1 : wk LM (rfM c0 19) 12 := wt_f wT_M kc0 19 (by decide) rfl rfl
      refine lv_iload_n (pc := 16) C.1 C.2.1 dX11_tickOnce_16 rfl (lv_at hl 2 rfl) ?_
      obtain ⟨g2, h⟩ := gd_e h
      refine x_iald (pc := 17) C hP k1 (inB_vp g2) dX11_tickOnce_17 ?_
      refine lv_aload_n (pc := 18) C.1 C.2.1 dX11_tickOnce_18 rfl (lv_at hl 0 rfl) ?_
      refine x_geti (pc := 19) C hP ck_11 1 fl_X11_133 (by decide) rfl kc0 dX11_tickOnce_19 ?_
      refine lv_icmp_ne (pc := 22) (tgt := 79) C.1 C.2.1 dX11_tickOnce_22 (by decide) (fun b22 => ?_) (fun b22 => ?_)
      · replace h := if_f h b22
        refine lv_aload_n (pc := 79) C.1 C.2.1 dX11_tickOnce_79 rfl (lv_at hl 0 rfl) ?_
        refine x_getr (pc := 80) C hP ck_11 19 fl_X11_48 (by decide) rfl kc0 dX11_tickOnce_80 ?_
        have k3 : wk LM (rfM c0 19) 12 := wt_f wT_M kc0 19 (by decide) rfl rfl
        refine lv_iload_n (pc := 83) C.1 C.2.1 dX11_tickOnce_83 rfl (lv_at hl 1 rfl) ?_
        refine lv_aload_n (pc := 84) C.1 C.2.1 dX11_tickOnce_84 rfl (lv_at hl 0 rfl) ?_
        refine x_getr (pc := 85) C hP ck_11 19 fl_X11_48 (by decide) rfl kc0 dX11_tickOnce_85 ?_
        have k4 : wk LM (rfM c0 19) 12 := wt_f wT_M kc0 19 (by decide) rfl rfl
        refine lv_iload_n (pc := 88) C.1 C.2.1 dX11_tickOnce_88 rfl (lv_at hl 2 rfl) ?_
        obtain ⟨g5, h⟩ := gd_e h
        refine x_iald (pc := 89) C hP k4 (inB_vp g5) dX11_tickOnce_89 ?_
        obtain ⟨g6, h⟩ := gd_e h
        refine x_iast (pc := 90) C hI hP hS k3 (inB_vp g6) dX11_tickOnce_90 (fun H locs hP hS => ?_)
        obtain ⟨v7, h, hP⟩ := nv_p (P := fun z => va_P D vwCl (wd LM cy ad z) H) h hP
        refine lv_aload_n (pc := 91) C.1 C.2.1 dX11_tickOnce_91 rfl (lv_at hl 0 rfl) ?_
        refine x_getr (pc := 92) C hP ck_11 20 fl_X11_51 (by decide) rfl kc0 dX11_tickOnce_92 ?_
        have k8 : wk LM (rfM c0 20) 12 := wt_f wT_M kc0 20 (by decide) rfl rfl
        refine lv_iload_n (pc := 95) C.1 C.2.1 dX11_tickOnce_95 rfl (lv_at hl 1 rfl) ?_
        refine lv_aload_n (pc := 96) C.1 C.2.1 dX11_tickOnce_96 rfl (lv_at hl 0 rfl) ?_
        refine x_getr (pc := 97) C hP ck_11 20 fl_X11_51 (by decide) rfl kc0 dX11_tickOnce_97 ?_
        have k9 : wk LM (rfM c0 20) 12 := wt_f wT_M kc0 20 (by decide) rfl rfl
        refine lv_iload_n (pc := 100) C.1 C.2.1 dX11_tickOnce_100 rfl (lv_at hl 2 rfl) ?_
        obtain ⟨g10, h⟩ := gd_e h
        refine x_iald (pc := 101) C hP k9 (inB_vp g10) dX11_tickOnce_101 ?_
        obtain ⟨g11, h⟩ := gd_e h
        refine x_iast (pc := 102) C hI hP hS k8 (inB_vp g11) dX11_tickOnce_102 (fun H locs hP hS => ?_)
        obtain ⟨v12, h, hP⟩ := nv_p (P := fun z => va_P D vwCl (wd LM cy ad z) H) h hP
        refine lv_aload_n (pc := 103) C.1 C.2.1 dX11_tickOnce_103 rfl (lv_at hl 0 rfl) ?_
        refine x_getr (pc := 104) C hP ck_11 21 fl_X11_54 (by decide) rfl kc0 dX11_tickOnce_104 ?_
        have k13 : wk LM (rfM c0 21) 12 := wt_f wT_M kc0 21 (by decide) rfl rfl
        refine lv_iload_n (pc := 107) C.1 C.2.1 dX11_tickOnce_107 rfl (lv_at hl 1 rfl) ?_
        refine lv_aload_n (pc := 108) C.1 C.2.1 dX11_tickOnce_108 rfl (lv_at hl 0 rfl) ?_
        refine x_getr (pc := 109) C hP ck_11 21 fl_X11_54 (by decide) rfl kc0 dX11_tickOnce_109 ?_
        have k14 : wk LM (rfM c0 21) 12 := wt_f wT_M kc0 21 (by decide) rfl rfl
        refine lv_iload_n (pc := 112) C.1 C.2.1 dX11_tickOnce_112 rfl (lv_at hl 2 rfl) ?_
        obtain ⟨g15, h⟩ := gd_e h
        refine x_iald (pc := 113) C hP k14 (inB_vp g15) dX11_tickOnce_113 ?_
        obtain ⟨g16, h⟩ := gd_e h
        refine x_iast (pc := 114) C hI hP hS k13 (inB_vp g16) dX11_tickOnce_114 (fun H locs hP hS => ?_)
        obtain ⟨v17, h, hP⟩ := nv_p (P := fun z => va_P D vwCl (wd LM cy ad z) H) h hP
        obtain ⟨x18, ex18⟩ : ∃ y : Int32, y = i1 + 1 := ⟨_, rfl⟩
        replace h := nv_e h ex18
        refine lv_iinc (pc := 115) (v := x18) (lv' := [(1, .int x18), (0, .ref (ad c0)), (2, .int i2)]) C.1 C.2.1 dX11_tickOnce_115 hl (k := 1) rfl (by rw [ex18]; rfl) (by decide) rfl (fun ls hl => ?_)
        clear ex18
        obtain ⟨x19, ex19⟩ : ∃ y : Int32, y = i2 + 1 := ⟨_, rfl⟩
        replace h := nv_e h ex19
        refine lv_iinc (pc := 118) (v := x19) (lv' := [(2, .int x19), (1, .int x18), (0, .ref (ad c0))]) C.1 C.2.1 dX11_tickOnce_118 hl (k := 2) rfl (by rw [ex19]; rfl) (by decide) rfl (fun ls hl => ?_)
        clear ex19
        refine lv_goto (pc := 121) (tgt := 4) C.1 C.2.1 dX11_tickOnce_121 (by decide) ?_
        exact ih c0 x18 x19 v17 _ _ _ kc0 h hP hS (lv_sub hl [2, 1, 0] rfl)
      · replace h := if_t h b22
        refine lv_aload_n (pc := 25) C.1 C.2.1 dX11_tickOnce_25 rfl (lv_at hl 0 rfl) ?_
        refine x_getr (pc := 26) C hP ck_11 20 fl_X11_51 (by decide) rfl kc0 dX11_tickOnce_26 ?_
        have k20 : wk LM (rfM c0 20) 12 := wt_f wT_M kc0 20 (by decide) rfl rfl
        refine lv_iload_n (pc := 29) C.1 C.2.1 dX11_tickOnce_29 rfl (lv_at hl 2 rfl) ?_
        obtain ⟨g21, h⟩ := gd_e h
        refine x_iald (pc := 30) C hP k20 (inB_vp g21) dX11_tickOnce_30 ?_
        refine lv_topi (fun x22 ex22 => ?_)
        replace h := nv_e h ex22
        clear ex22
        refine lv_istore_n (pc := 31) (lv' := [(3, .int x22), (0, .ref (ad c0)), (1, .int i1), (2, .int i2)]) C.1 C.2.1 dX11_tickOnce_31 rfl hl (by decide) rfl (fun ls hl => ?_)
        refine lv_aload_n (pc := 32) C.1 C.2.1 dX11_tickOnce_32 rfl (lv_at hl 1 rfl) ?_
        refine x_getr (pc := 33) C hP ck_11 3 fl_X11_13 (by decide) rfl kc0 dX11_tickOnce_33 ?_
        have k23 : wk LM (rfM c0 3) 12 := wt_f wT_M kc0 3 (by decide) rfl rfl
        refine lv_iload_n (pc := 36) C.1 C.2.1 dX11_tickOnce_36 rfl (lv_at hl 0 rfl) ?_
        obtain ⟨g24, h⟩ := gd_e h
        refine x_iald (pc := 37) C hP k23 (inB_vp g24) dX11_tickOnce_37 ?_
        refine lv_aload_n (pc := 38) C.1 C.2.1 dX11_tickOnce_38 rfl (lv_at hl 1 rfl) ?_
        refine x_getr (pc := 39) C hP ck_11 21 fl_X11_54 (by decide) rfl kc0 dX11_tickOnce_39 ?_
        have k25 : wk LM (rfM c0 21) 12 := wt_f wT_M kc0 21 (by decide) rfl rfl
        refine lv_iload_n (pc := 42) C.1 C.2.1 dX11_tickOnce_42 rfl (lv_at hl 3 rfl) ?_
        obtain ⟨g26, h⟩ := gd_e h
        refine x_iald (pc := 43) C hP k25 (inB_vp g26) dX11_tickOnce_43 ?_
        refine lv_iadd (pc := 44) C.1 C.2.1 dX11_tickOnce_44 ?_
        obtain ⟨x29, v28, hc27, h⟩ := bi_e h
        refine x_callsi (pc := 45) C hP hS ms_X11_held ml_X11_136 (hR.le (by decide)) (Nat.zero_le _) (Nat.zero_le _) [.int ((v (rfM c0 3) (Int32.toNatClampNeg x22)) + (v (rfM c0 21) (Int32.toNatClampNeg i2)))] rfl hl.1 rfl (Nat.le_of_ble_eq_true rfl) dX11_tickOnce_45 (m_X11_held hI hc27) (fun H locs hP hS => ?_)
        refine lv_istore (pc := 48) (lv' := [(4, .int x29), (3, .int x22), (0, .ref (ad c0)), (1, .int i1), (2, .int i2)]) C.1 C.2.1 dX11_tickOnce_48 hl (by decide) rfl (fun ls hl => ?_)
        refine lv_aload_n (pc := 50) C.1 C.2.1 dX11_tickOnce_50 rfl (lv_at hl 2 rfl) ?_
        refine lv_dup (pc := 51) C.1 C.2.1 dX11_tickOnce_51 rfl ?_
        refine x_geti (pc := 52) C hP ck_11 16 fl_X11_140 (by decide) rfl kc0 dX11_tickOnce_52 ?_
        refine lv_iload (pc := 55) C.1 C.2.1 dX11_tickOnce_55 (lv_at hl 0 rfl) ?_
        refine lv_aload_n (pc := 57) C.1 C.2.1 dX11_tickOnce_57 rfl (lv_at hl 2 rfl) ?_
        refine x_getr (pc := 58) C hP ck_11 3 fl_X11_13 (by decide) rfl kc0 dX11_tickOnce_58 ?_
        have k30 : wk LM (rfM c0 3) 12 := wt_f wT_M kc0 3 (by decide) rfl rfl
        refine lv_iload_n (pc := 61) C.1 C.2.1 dX11_tickOnce_61 rfl (lv_at hl 1 rfl) ?_
        obtain ⟨g31, h⟩ := gd_e h
        refine x_iald (pc := 62) C hP k30 (inB_vp g31) dX11_tickOnce_62 ?_
        refine lv_isub (pc := 63) C.1 C.2.1 dX11_tickOnce_63 ?_
        refine lv_iadd (pc := 64) C.1 C.2.1 dX11_tickOnce_64 ?_
        refine x_put (pc := 65) C hI hP hS ck_11 16 fl_X11_140 (by decide) rfl rfl kc0 rfl rfl dX11_tickOnce_65 (fun H locs hP hS => ?_)
        obtain ⟨v32, h, hP⟩ := nv_p (P := fun z => va_P D vwCl (wd LM cy ad z) H) h hP
        refine lv_aload_n (pc := 68) C.1 C.2.1 dX11_tickOnce_68 rfl (lv_at hl 2 rfl) ?_
        refine x_getr (pc := 69) C hP ck_11 3 fl_X11_13 (by decide) rfl kc0 dX11_tickOnce_69 ?_
        have k33 : wk LM (rfM c0 3) 12 := wt_f wT_M kc0 3 (by decide) rfl rfl
        refine lv_iload_n (pc := 72) C.1 C.2.1 dX11_tickOnce_72 rfl (lv_at hl 1 rfl) ?_
        refine lv_iload (pc := 73) C.1 C.2.1 dX11_tickOnce_73 (lv_at hl 0 rfl) ?_
        obtain ⟨g34, h⟩ := gd_e h
        refine x_iast (pc := 75) C hI hP hS k33 (inB_vp g34) dX11_tickOnce_75 (fun H locs hP hS => ?_)
        obtain ⟨v35, h, hP⟩ := nv_p (P := fun z => va_P D vwCl (wd LM cy ad z) H) h hP
        refine lv_goto (pc := 76) (tgt := 118) C.1 C.2.1 dX11_tickOnce_76 (by decide) ?_
        obtain ⟨x36, ex36⟩ : ∃ y : Int32, y = i2 + 1 := ⟨_, rfl⟩
        replace h := nv_e h ex36
        refine lv_iinc (pc := 118) (v := x36) (lv' := [(2, .int x36), (4, .int x29), (3, .int x22), (0, .ref (ad c0)), (1, .int i1)]) C.1 C.2.1 dX11_tickOnce_118 hl (k := 4) rfl (by rw [ex36]; rfl) (by decide) rfl (fun ls hl => ?_)
        clear ex36
        refine lv_goto (pc := 121) (tgt := 4) C.1 C.2.1 dX11_tickOnce_121 (by decide) ?_
        exact ih c0 i1 x36 v35 _ _ _ kc0 h hP hS (lv_sub hl [3, 4, 0] rfl)
set_option maxHeartbeats 4000000 in
set_option maxRecDepth 100000 in
theorem w_X11_tickOnce_b195 (C : Cx p s m args c cX11_tickOnce 5 RX11 D cy) (hI : wI LM ad) (hr : meth.sig.returnType = none) (hlk : meth.locks = false) (hR : RoL 2 R) (k131 : Nat → Int32 → VV → Option (VV)) {vZ : VV} (h131 : ∀ (c0 : Nat) (i2 : Int32) (v : VV) (H : Heap) (locs : List Loc) (ls : Array Slot), wk LM c0 11 → k131 c0 i2 v = some vZ → va_P D vwCl (wd LM cy ad v) H → va_S (wA LM ad) s.heap H locs → lv_has ls 5 [(0, .ref (ad c0)), (2, .int i2)] → W p l e R s m args below meth c H locs 0 0 (MQ below (qvG LM cy ad D vZ) args s 0 0 (wA LM ad)) (F0 m 131 ls [])) : ∀ (c0 : Nat) (i2 : Int32) (i3 : Int32) (t0 : Int32) (v : VV) (H : Heap) (locs : List Loc) (ls : Array Slot), wk LM c0 11 → f_X11_tickOnce_b195 k131 c0 i2 i3 t0 v = some vZ → va_P D vwCl (wd LM cy ad v) H → va_S (wA LM ad) s.heap H locs → lv_has ls 5 [(0, .ref (ad c0)), (2, .int i2), (3, .int i3)] → W p l e R s m args below meth c H locs 0 0 (MQ below (qvG LM cy ad D vZ) args s 0 0 (wA LM ad)) (F0 m 195 ls [.int t0]) := by
  intro c0 i2 i3 t0 v H locs ls kc0 h hP hS hl
  unfold f_X11_tickOnce_b195 at h
  refine lv_istore (pc := 195) (lv' := [(4, .int t0), (0, .ref (ad c0)), (2, .int i2), (3, .int i3)]) C.1 C.2.1 dX11_tickOnce_195 hl (by decide) rfl (fun ls hl => ?_)
  refine lv_aload_n (pc := 197) C.1 C.2.1 dX11_tickOnce_197 rfl (lv_at hl 1 rfl) ?_
  refine lv_dup (pc := 198) C.1 C.2.1 dX11_tickOnce_198 rfl ?_
  refine x_geti (pc := 199) C hP ck_11 15 fl_X11_146 (by decide) rfl kc0 dX11_tickOnce_199 ?_
  refine lv_iload (pc := 202) C.1 C.2.1 dX11_tickOnce_202 (lv_at hl 0 rfl) ?_
  refine lv_iadd (pc := 204) C.1 C.2.1 dX11_tickOnce_204 ?_
  refine x_put (pc := 205) C hI hP hS ck_11 15 fl_X11_146 (by decide) rfl rfl kc0 rfl rfl dX11_tickOnce_205 (fun H locs hP hS => ?_)
  obtain ⟨v53, h, hP⟩ := nv_p (P := fun z => va_P D vwCl (wd LM cy ad z) H) h hP
  refine lv_aload_n (pc := 208) C.1 C.2.1 dX11_tickOnce_208 rfl (lv_at hl 1 rfl) ?_
  refine x_getr (pc := 209) C hP ck_11 8 fl_X11_29 (by decide) rfl kc0 dX11_tickOnce_209 ?_
  have k54 : wk LM (rfM c0 8) 12 := wt_f wT_M kc0 8 (by decide) rfl rfl
  refine lv_iload_n (pc := 212) C.1 C.2.1 dX11_tickOnce_212 rfl (lv_at hl 2 rfl) ?_
  refine lv_dup2_11 (pc := 213) C.1 C.2.1 dX11_tickOnce_213 rfl rfl ?_
  obtain ⟨g55, h⟩ := gd_e h
  refine x_iald (pc := 214) C hP k54 (inB_vp g55) dX11_tickOnce_214 ?_
  refine lv_aload_n (pc := 215) C.1 C.2.1 dX11_tickOnce_215 rfl (lv_at hl 1 rfl) ?_
  refine x_getr (pc := 216) C hP ck_11 5 fl_X11_20 (by decide) rfl kc0 dX11_tickOnce_216 ?_
  have k56 : wk LM (rfM c0 5) 12 := wt_f wT_M kc0 5 (by decide) rfl rfl
  refine lv_iload_n (pc := 219) C.1 C.2.1 dX11_tickOnce_219 rfl (lv_at hl 2 rfl) ?_
  obtain ⟨g57, h⟩ := gd_e h
  refine x_iald (pc := 220) C hP k56 (inB_vp g57) dX11_tickOnce_220 ?_
  refine lv_iload (pc := 221) C.1 C.2.1 dX11_tickOnce_221 (lv_at hl 0 rfl) ?_
  refine lv_isub (pc := 223) C.1 C.2.1 dX11_tickOnce_223 ?_
  refine lv_iadd (pc := 224) C.1 C.2.1 dX11_tickOnce_224 ?_
  obtain ⟨g58, h⟩ := gd_e h
  refine x_iast (pc := 225) C hI hP hS k54 (inB_vp g58) dX11_tickOnce_225 (fun H locs hP hS => ?_)
  obtain ⟨v59, h, hP⟩ := nv_p (P := fun z => va_P D vwCl (wd LM cy ad z) H) h hP
  refine lv_aload_n (pc := 226) C.1 C.2.1 dX11_tickOnce_226 rfl (lv_at hl 1 rfl) ?_
  refine x_getr (pc := 227) C hP ck_11 3 fl_X11_13 (by decide) rfl kc0 dX11_tickOnce_227 ?_
  have k60 : wk LM (rfM c0 3) 12 := wt_f wT_M kc0 3 (by decide) rfl rfl
  refine lv_iload_n (pc := 230) C.1 C.2.1 dX11_tickOnce_230 rfl (lv_at hl 2 rfl) ?_
  refine lv_iload_n (pc := 231) C.1 C.2.1 dX11_tickOnce_231 rfl (lv_at hl 3 rfl) ?_
  refine lv_iload (pc := 232) C.1 C.2.1 dX11_tickOnce_232 (lv_at hl 0 rfl) ?_
  refine lv_isub (pc := 234) C.1 C.2.1 dX11_tickOnce_234 ?_
  obtain ⟨g61, h⟩ := gd_e h
  refine x_iast (pc := 235) C hI hP hS k60 (inB_vp g61) dX11_tickOnce_235 (fun H locs hP hS => ?_)
  obtain ⟨v62, h, hP⟩ := nv_p (P := fun z => va_P D vwCl (wd LM cy ad z) H) h hP
  obtain ⟨x63, ex63⟩ : ∃ y : Int32, y = i2 + 1 := ⟨_, rfl⟩
  replace h := nv_e h ex63
  refine lv_iinc (pc := 236) (v := x63) (lv' := [(2, .int x63), (4, .int t0), (0, .ref (ad c0)), (3, .int i3)]) C.1 C.2.1 dX11_tickOnce_236 hl (k := 2) rfl (by rw [ex63]; rfl) (by decide) rfl (fun ls hl => ?_)
  clear ex63
  refine lv_goto (pc := 239) (tgt := 131) C.1 C.2.1 dX11_tickOnce_239 (by decide) ?_
  exact h131 c0 x63 v62 _ _ _ kc0 h hP hS (lv_sub hl [2, 0] rfl)
set_option maxHeartbeats 4000000 in
set_option maxRecDepth 100000 in
theorem w_X11_tickOnce_l131 (C : Cx p s m args c cX11_tickOnce 5 RX11 D cy) (hI : wI LM ad) (hr : meth.sig.returnType = none) (hlk : meth.locks = false) (hR : RoL 2 R) (k242 : Nat → VV → Option (VV)) {vZ : VV} (h242 : ∀ (c0 : Nat) (v : VV) (H : Heap) (locs : List Loc) (ls : Array Slot), wk LM c0 11 → k242 c0 v = some vZ → va_P D vwCl (wd LM cy ad v) H → va_S (wA LM ad) s.heap H locs → lv_has ls 5 [(0, .ref (ad c0))] → W p l e R s m args below meth c H locs 0 0 (MQ below (qvG LM cy ad D vZ) args s 0 0 (wA LM ad)) (F0 m 242 ls [])) : ∀ (n : Nat) (c0 : Nat) (i2 : Int32) (v : VV) (H : Heap) (locs : List Loc) (ls : Array Slot), wk LM c0 11 → f_X11_tickOnce_l131 k242 n c0 i2 v = some vZ → va_P D vwCl (wd LM cy ad v) H → va_S (wA LM ad) s.heap H locs → lv_has ls 5 [(0, .ref (ad c0)), (2, .int i2)] → W p l e R s m args below meth c H locs 0 0 (MQ below (qvG LM cy ad D vZ) args s 0 0 (wA LM ad)) (F0 m 131 ls []) := by
  intro n
  induction n with
  | zero => intro c0 i2 v H locs ls kc0 h hP hS hl; exact absurd h (by simp [f_X11_tickOnce_l131])
  | succ n ih =>
    intro c0 i2 v H locs ls kc0 h hP hS hl
    rw [f_X11_tickOnce_l131] at h
    refine lv_iload_n (pc := 131) C.1 C.2.1 dX11_tickOnce_131 rfl (lv_at hl 1 rfl) ?_
    refine lv_iconst (pc := 132) (v := 3) C.1 C.2.1 dX11_tickOnce_132 (by decide) ?_
    refine lv_aload_n (pc := 133) C.1 C.2.1 dX11_tickOnce_133 rfl (lv_at hl 0 rfl) ?_
    refine x_geti (pc := 134) C hP ck_11 0 fl_X11_90 (by decide) rfl kc0 dX11_tickOnce_134 ?_
    refine lv_imul (pc := 137) C.1 C.2.1 dX11_tickOnce_137 ?_
    refine lv_icmp_ge (pc := 138) (tgt := 242) C.1 C.2.1 dX11_tickOnce_138 (by decide) (fun b138 => ?_) (fun b138 => ?_)
    · replace h := if_t h b138
      exact h242 c0 v _ _ _ kc0 h hP hS (lv_sub hl [0] rfl)
    · replace h := if_f h b138
      refine lv_aload_n (pc := 141) C.1 C.2.1 dX11_tickOnce_141 rfl (lv_at hl 0 rfl) ?_
      refine x_getr (pc := 142) C hP ck_11 3 fl_X11_13 (by decide) rfl kc0 dX11_tickOnce_142 ?_
      have k39 : wk LM (rfM c0 3) 12 := wt_f wT_M kc0 3 (by decide) rfl rfl
      refine lv_iload_n (pc := 145) C.1 C.2.1 dX11_tickOnce_145 rfl (lv_at hl 1 rfl) ?_
      obtain ⟨g40, h⟩ := gd_e h
      refine x_iald (pc := 146) C hP k39 (inB_vp g40) dX11_tickOnce_146 ?_
      refine lv_aload_n (pc := 147) C.1 C.2.1 dX11_tickOnce_147 rfl (lv_at hl 0 rfl) ?_
      refine x_getr (pc := 148) C hP ck_11 4 fl_X11_17 (by decide) rfl kc0 dX11_tickOnce_148 ?_
      have k41 : wk LM (rfM c0 4) 12 := wt_f wT_M kc0 4 (by decide) rfl rfl
      refine lv_iload_n (pc := 151) C.1 C.2.1 dX11_tickOnce_151 rfl (lv_at hl 1 rfl) ?_
      obtain ⟨g42, h⟩ := gd_e h
      refine x_iald (pc := 152) C hP k41 (inB_vp g42) dX11_tickOnce_152 ?_
      refine lv_iadd (pc := 153) C.1 C.2.1 dX11_tickOnce_153 ?_
      obtain ⟨x45, v44, hc43, h⟩ := bi_e h
      refine x_callsi (pc := 154) C hP hS ms_X11_held ml_X11_136 (hR.le (by decide)) (Nat.zero_le _) (Nat.zero_le _) [.int ((v (rfM c0 3) (Int32.toNatClampNeg i2)) + (v (rfM c0 4) (Int32.toNatClampNeg i2)))] rfl hl.1 rfl (Nat.le_of_ble_eq_true rfl) dX11_tickOnce_154 (m_X11_held hI hc43) (fun H locs hP hS => ?_)
      refine lv_istore_n (pc := 157) (lv' := [(3, .int x45), (0, .ref (ad c0)), (2, .int i2)]) C.1 C.2.1 dX11_tickOnce_157 rfl hl (by decide) rfl (fun ls hl => ?_)
      refine lv_aload_n (pc := 158) C.1 C.2.1 dX11_tickOnce_158 rfl (lv_at hl 1 rfl) ?_
      refine lv_dup (pc := 159) C.1 C.2.1 dX11_tickOnce_159 rfl ?_
      refine x_geti (pc := 160) C hP ck_11 14 fl_X11_143 (by decide) rfl kc0 dX11_tickOnce_160 ?_
      refine lv_iload_n (pc := 163) C.1 C.2.1 dX11_tickOnce_163 rfl (lv_at hl 0 rfl) ?_
      refine lv_aload_n (pc := 164) C.1 C.2.1 dX11_tickOnce_164 rfl (lv_at hl 1 rfl) ?_
      refine x_getr (pc := 165) C hP ck_11 3 fl_X11_13 (by decide) rfl kc0 dX11_tickOnce_165 ?_
      have k46 : wk LM (rfM c0 3) 12 := wt_f wT_M kc0 3 (by decide) rfl rfl
      refine lv_iload_n (pc := 168) C.1 C.2.1 dX11_tickOnce_168 rfl (lv_at hl 2 rfl) ?_
      obtain ⟨g47, h⟩ := gd_e h
      refine x_iald (pc := 169) C hP k46 (inB_vp g47) dX11_tickOnce_169 ?_
      refine lv_isub (pc := 170) C.1 C.2.1 dX11_tickOnce_170 ?_
      refine lv_iadd (pc := 171) C.1 C.2.1 dX11_tickOnce_171 ?_
      refine x_put (pc := 172) C hI hP hS ck_11 14 fl_X11_143 (by decide) rfl rfl kc0 rfl rfl dX11_tickOnce_172 (fun H locs hP hS => ?_)
      obtain ⟨v48, h, hP⟩ := nv_p (P := fun z => va_P D vwCl (wd LM cy ad z) H) h hP
      refine lv_iload_n (pc := 175) C.1 C.2.1 dX11_tickOnce_175 rfl (lv_at hl 0 rfl) ?_
      refine lv_aload_n (pc := 176) C.1 C.2.1 dX11_tickOnce_176 rfl (lv_at hl 1 rfl) ?_
      refine x_getr (pc := 177) C hP ck_11 5 fl_X11_20 (by decide) rfl kc0 dX11_tickOnce_177 ?_
      have k49 : wk LM (rfM c0 5) 12 := wt_f wT_M kc0 5 (by decide) rfl rfl
      refine lv_iload_n (pc := 180) C.1 C.2.1 dX11_tickOnce_180 rfl (lv_at hl 2 rfl) ?_
      obtain ⟨g50, h⟩ := gd_e h
      refine x_iald (pc := 181) C hP k49 (inB_vp g50) dX11_tickOnce_181 ?_
      refine lv_icmp_ge (pc := 182) (tgt := 189) C.1 C.2.1 dX11_tickOnce_182 (by decide) (fun b182 => ?_) (fun b182 => ?_)
      · replace h := if_t h b182
        refine lv_aload_n (pc := 189) C.1 C.2.1 dX11_tickOnce_189 rfl (lv_at hl 1 rfl) ?_
        refine x_getr (pc := 190) C hP ck_11 5 fl_X11_20 (by decide) rfl kc0 dX11_tickOnce_190 ?_
        have k51 : wk LM (rfM c0 5) 12 := wt_f wT_M kc0 5 (by decide) rfl rfl
        refine lv_iload_n (pc := 193) C.1 C.2.1 dX11_tickOnce_193 rfl (lv_at hl 2 rfl) ?_
        obtain ⟨g52, h⟩ := gd_e h
        refine x_iald (pc := 194) C hP k51 (inB_vp g52) dX11_tickOnce_194 ?_
        exact w_X11_tickOnce_b195 C hI hr hlk hR _ (fun c0 i2 v H locs ls kc0 h hP hS hl => ih c0 i2 v H locs ls kc0 h hP hS hl) c0 i2 x45 (v48 (rfM c0 5) (Int32.toNatClampNeg i2)) v48 _ _ _ kc0 h hP hS (lv_sub hl [1, 2, 0] rfl)
      · replace h := if_f h b182
        refine lv_iload_n (pc := 185) C.1 C.2.1 dX11_tickOnce_185 rfl (lv_at hl 0 rfl) ?_
        refine lv_goto (pc := 186) (tgt := 195) C.1 C.2.1 dX11_tickOnce_186 (by decide) ?_
        exact w_X11_tickOnce_b195 C hI hr hlk hR _ (fun c0 i2 v H locs ls kc0 h hP hS hl => ih c0 i2 v H locs ls kc0 h hP hS hl) c0 i2 x45 x45 v48 _ _ _ kc0 h hP hS (lv_sub hl [1, 2, 0] rfl)
set_option maxHeartbeats 4000000 in
set_option maxRecDepth 100000 in
theorem w_X11_tickOnce (C : Cx p s m args c cX11_tickOnce 5 RX11 D cy) (hI : wI LM ad) (hr : meth.sig.returnType = none) (hlk : meth.locks = false) (hR : RoL 2 R) {vZ : VV} : ∀ (c0 : Nat) (v : VV) (H : Heap) (locs : List Loc) (ls : Array Slot), wk LM c0 11 → f_X11_tickOnce c0 v = some vZ → va_P D vwCl (wd LM cy ad v) H → va_S (wA LM ad) s.heap H locs → lv_has ls 5 [(0, .ref (ad c0))] → W p l e R s m args below meth c H locs 0 0 (MQ below (qvG LM cy ad D vZ) args s 0 0 (wA LM ad)) (F0 m 0 ls []) := by
  intro c0 v H locs ls kc0 h hP hS hl
  unfold f_X11_tickOnce at h
  refine lv_iconst (pc := 0) (v := 0) C.1 C.2.1 dX11_tickOnce_0 (by decide) ?_
  refine lv_istore_n (pc := 1) (lv' := [(1, .int 0), (0, .ref (ad c0))]) C.1 C.2.1 dX11_tickOnce_1 rfl hl (by decide) rfl (fun ls hl => ?_)
  refine lv_iconst (pc := 2) (v := 0) C.1 C.2.1 dX11_tickOnce_2 (by decide) ?_
  refine lv_istore_n (pc := 3) (lv' := [(2, .int 0), (1, .int 0), (0, .ref (ad c0))]) C.1 C.2.1 dX11_tickOnce_3 rfl hl (by decide) rfl (fun ls hl => ?_)
  refine w_X11_tickOnce_l4 C hI hr hlk hR _ ?_ FU c0 0 0 v _ _ _ kc0 h hP hS (lv_sub hl [2, 1, 0] rfl)
  intro c0_37 i1_37 v_37 H locs ls kc0_37 h hP hS hl
  refine lv_aload_n (pc := 124) C.1 C.2.1 dX11_tickOnce_124 rfl (lv_at hl 0 rfl) ?_
  refine lv_iload_n (pc := 125) C.1 C.2.1 dX11_tickOnce_125 rfl (lv_at hl 1 rfl) ?_
  refine x_put (pc := 126) C hI hP hS ck_11 22 fl_X11_130 (by decide) rfl rfl kc0_37 rfl rfl dX11_tickOnce_126 (fun H locs hP hS => ?_)
  obtain ⟨v38, h, hP⟩ := nv_p (P := fun z => va_P D vwCl (wd LM cy ad z) H) h hP
  refine lv_iconst (pc := 129) (v := 0) C.1 C.2.1 dX11_tickOnce_129 (by decide) ?_
  refine lv_istore_n (pc := 130) (lv' := [(2, .int 0), (0, .ref (ad c0_37)), (1, .int i1_37)]) C.1 C.2.1 dX11_tickOnce_130 rfl hl (by decide) rfl (fun ls hl => ?_)
  refine w_X11_tickOnce_l131 C hI hr hlk hR _ ?_ FU c0_37 0 v38 _ _ _ kc0_37 h hP hS (lv_sub hl [1, 0] rfl)
  intro c0_64 v_64 H locs ls kc0_64 h hP hS hl
  refine lv_aload_n (pc := 242) C.1 C.2.1 dX11_tickOnce_242 rfl (lv_at hl 0 rfl) ?_
  refine lv_dup (pc := 243) C.1 C.2.1 dX11_tickOnce_243 rfl ?_
  refine x_geti (pc := 244) C hP ck_11 1 fl_X11_133 (by decide) rfl kc0_64 dX11_tickOnce_244 ?_
  refine lv_iconst (pc := 247) (v := 1) C.1 C.2.1 dX11_tickOnce_247 (by decide) ?_
  refine lv_iadd (pc := 248) C.1 C.2.1 dX11_tickOnce_248 ?_
  refine x_put (pc := 249) C hI hP hS ck_11 1 fl_X11_133 (by decide) rfl rfl kc0_64 rfl rfl dX11_tickOnce_249 (fun H locs hP hS => ?_)
  obtain ⟨v65, h, hP⟩ := nv_p (P := fun z => va_P D vwCl (wd LM cy ad z) H) h hP
  exact x_vret (pc := 252) C hr hlk hP hS h dX11_tickOnce_252
set_option maxRecDepth 100000 in
theorem m_X11_tickOnce (hI : wI LM ad) {c0 : Nat} {v : VV} {vZ : VV} (kc0 : wk LM c0 11) (h : F_X11_tickOnce c0 v = some vZ) : Met l yX11_tickOnce (Cond.code yX11_tickOnce cX11_tickOnce 5 none :: wsG) (rmL 2) (pcG LM cy ad D [.ref (ad c0)] v) (qvG LM cy ad D vZ) 0 0 (wA LM ad) := by
  refine Met.ofW (cc := cX11_tickOnce) (maxL := 5) (ret := none) (by decide) rfl ?_
  intro p e s m args below meth c s₁ B hml hv
  obtain ⟨rfl, hP, hK⟩ := hv
  have hts := atoms_spec (ws := Cond.code yX11_tickOnce cX11_tickOnce 5 none :: wsG) B.pre
  have hown : s.vm.findClass RX11 = some m.cls := findClass_of_methodNamed B.named
  have C : Cx p s m _ c cX11_tickOnce 5 RX11 D cy := ⟨B.exec, B.bytes, hml, hown, fun w hw => hts w (List.mem_cons_of_mem _ hw), hK⟩
  have hl := lv_entry ([.ref (ad c0)]) (n := 5) (Nat.le_of_ble_eq_true rfl)
  rw [lg_entry_eq]
  generalize (lg_sl ([.ref (ad c0)]) ++ List.replicate (5 - (lg_sl ([.ref (ad c0)])).length) Slot.unset).toArray = ls at hl ⊢
  have hl : lv_has ls 5 [(0, .ref (ad c0))] := hl
  exact w_X11_tickOnce C hI B.returns B.notSynchronized (RoL_rm _) c0 v _ _ _ kc0 h hP va_S.rf (lv_sub hl [0] rfl)
def f_X11_tick_l32 : Nat → Nat → Int32 → Int32 → VV → Option (Int32 × VV)
  | 0, _, _, _, _ => none
  | n + 1, c0, i1, i2, v =>
    if (i1 ≤ i2) then
      some ((v c0 1), v)
    else
      (F_X11_tickOnce c0 v).bind fun v5 =>
      nv (i2 + 1) fun x6 =>
      f_X11_tick_l32 n c0 i1 x6 v5
def f_X11_tick (c0 : Nat) (i1 : Int32) (v : VV) : Option (Int32 × VV) :=
  bi (F_X11_in (Int32.toInt64 i1) 1 200 v) fun x3 v2 =>
  if (x3 = 0) then
    some ((-2), v2)
  else
    if (((v2 c0 1) + i1) ≤ 999) then
      f_X11_tick_l32 FU c0 i1 0 v2
    else
      some ((-3), v2)
abbrev F_X11_tick (c0 : Nat) (i1 : Int32) (v : VV) : Option (Int32 × VV) := f_X11_tick c0 i1 v
set_option maxHeartbeats 4000000 in
set_option maxRecDepth 100000 in
theorem w_X11_tick_l32 (C : Cx p s m args c cX11_tick 3 RX11 D cy) (hI : wI LM ad) (hr : meth.sig.returnType = some .int) (hlk : meth.locks = false) (hR : RoL 3 R) {rZ : Int32} {vZ : VV} : ∀ (n : Nat) (c0 : Nat) (i1 : Int32) (i2 : Int32) (v : VV) (H : Heap) (locs : List Loc) (ls : Array Slot), wk LM c0 11 → f_X11_tick_l32 n c0 i1 i2 v = some (rZ, vZ) → va_P D vwCl (wd LM cy ad v) H → va_S (wA LM ad) s.heap H locs → lv_has ls 3 [(0, .ref (ad c0)), (1, .int i1), (2, .int i2)] → W p l e R s m args below meth c H locs 0 0 (MQ below (qiG LM cy ad D rZ vZ) args s 0 0 (wA LM ad)) (F0 m 32 ls []) := by
  intro n
  induction n with
  | zero => intro c0 i1 i2 v H locs ls kc0 h hP hS hl; exact absurd h (by simp [f_X11_tick_l32])
  | succ n ih =>
    intro c0 i1 i2 v H locs ls kc0 h hP hS hl
    rw [f_X11_tick_l32] at h
    refine lv_iload_n (pc := 32) C.1 C.2.1 dX11_tick_32 rfl (lv_at hl 2 rfl) ?_
    refine lv_iload_n (pc := 33) C.1 C.2.1 dX11_tick_33 rfl (lv_at hl 1 rfl) ?_
    refine lv_icmp_ge (pc := 34) (tgt := 47) C.1 C.2.1 dX11_tick_34 (by decide) (fun b34 => ?_) (fun b34 => ?_)
    · replace h := if_t h b34
      refine lv_aload_n (pc := 47) C.1 C.2.1 dX11_tick_47 rfl (lv_at hl 0 rfl) ?_
      refine x_geti (pc := 48) C hP ck_11 1 fl_X11_133 (by decide) rfl kc0 dX11_tick_48 ?_
      exact x_iret (pc := 51) C hr hlk hP hS h dX11_tick_51
    · replace h := if_f h b34
      refine lv_aload_n (pc := 37) C.1 C.2.1 dX11_tick_37 rfl (lv_at hl 0 rfl) ?_
      obtain ⟨v5, hc4, h⟩ := bd_e h
      refine x_callv (pc := 38) C hP hS mi_X11_tickOnce ck_11 kc0 ml_X11_151 (hR.le (by decide)) (Nat.zero_le _) (Nat.zero_le _) [] rfl hl.1 rfl (Nat.le_of_ble_eq_true rfl) dX11_tick_38 (m_X11_tickOnce hI kc0 hc4) (fun H locs hP hS => ?_)
      obtain ⟨x6, ex6⟩ : ∃ y : Int32, y = i2 + 1 := ⟨_, rfl⟩
      replace h := nv_e h ex6
      refine lv_iinc (pc := 41) (v := x6) (lv' := [(2, .int x6), (0, .ref (ad c0)), (1, .int i1)]) C.1 C.2.1 dX11_tick_41 hl (k := 2) rfl (by rw [ex6]; rfl) (by decide) rfl (fun ls hl => ?_)
      clear ex6
      refine lv_goto (pc := 44) (tgt := 32) C.1 C.2.1 dX11_tick_44 (by decide) ?_
      exact ih c0 i1 x6 v5 _ _ _ kc0 h hP hS (lv_sub hl [1, 2, 0] rfl)
set_option maxHeartbeats 4000000 in
set_option maxRecDepth 100000 in
theorem w_X11_tick (C : Cx p s m args c cX11_tick 3 RX11 D cy) (hI : wI LM ad) (hr : meth.sig.returnType = some .int) (hlk : meth.locks = false) (hR : RoL 3 R) {rZ : Int32} {vZ : VV} : ∀ (c0 : Nat) (i1 : Int32) (v : VV) (H : Heap) (locs : List Loc) (ls : Array Slot), wk LM c0 11 → f_X11_tick c0 i1 v = some (rZ, vZ) → va_P D vwCl (wd LM cy ad v) H → va_S (wA LM ad) s.heap H locs → lv_has ls 3 [(0, .ref (ad c0)), (1, .int i1)] → W p l e R s m args below meth c H locs 0 0 (MQ below (qiG LM cy ad D rZ vZ) args s 0 0 (wA LM ad)) (F0 m 0 ls []) := by
  intro c0 i1 v H locs ls kc0 h hP hS hl
  unfold f_X11_tick at h
  refine lv_iload_n (pc := 0) C.1 C.2.1 dX11_tick_0 rfl (lv_at hl 1 rfl) ?_
  refine lv_i2l (pc := 1) C.1 C.2.1 dX11_tick_1 rfl ?_
  refine lv_lconst (pc := 2) (v := 1) C.1 C.2.1 dX11_tick_2 (by decide) ?_
  refine lv_ldc2 (pc := 3) (v := 200) C.1 C.2.1 C.2.2.2.1 (C.2.2.2.2.1 _ cl_X11_149) dX11_tick_3 ?_
  obtain ⟨x3, v2, hc1, h⟩ := bi_e h
  refine x_callsi (pc := 6) C hP hS ms_X11_in ml_X11_93 (hR.le (by decide)) (Nat.zero_le _) (Nat.zero_le _) [.long (Int32.toInt64 i1), .long 1, .long 200] rfl hl.1 rfl (Nat.le_of_ble_eq_true rfl) dX11_tick_6 (m_X11_in hI hc1) (fun H locs hP hS => ?_)
  refine lv_if_ne (pc := 9) (tgt := 15) C.1 C.2.1 dX11_tick_9 (by decide) (fun b9 => ?_) (fun b9 => ?_)
  · replace h := if_f h b9
    refine lv_aload_n (pc := 15) C.1 C.2.1 dX11_tick_15 rfl (lv_at hl 0 rfl) ?_
    refine x_geti (pc := 16) C hP ck_11 1 fl_X11_133 (by decide) rfl kc0 dX11_tick_16 ?_
    refine lv_iload_n (pc := 19) C.1 C.2.1 dX11_tick_19 rfl (lv_at hl 1 rfl) ?_
    refine lv_iadd (pc := 20) C.1 C.2.1 dX11_tick_20 ?_
    refine lv_sipush (pc := 21) (v := 999) C.1 C.2.1 dX11_tick_21 (by decide) ?_
    refine lv_icmp_le (pc := 24) (tgt := 30) C.1 C.2.1 dX11_tick_24 (by decide) (fun b24 => ?_) (fun b24 => ?_)
    · replace h := if_t h b24
      refine lv_iconst (pc := 30) (v := 0) C.1 C.2.1 dX11_tick_30 (by decide) ?_
      refine lv_istore_n (pc := 31) (lv' := [(2, .int 0), (0, .ref (ad c0)), (1, .int i1)]) C.1 C.2.1 dX11_tick_31 rfl hl (by decide) rfl (fun ls hl => ?_)
      refine w_X11_tick_l32 C hI hr hlk hR FU c0 i1 0 v2 _ _ _ kc0 h hP hS (lv_sub hl [1, 2, 0] rfl)
    · replace h := if_f h b24
      refine lv_bipush (pc := 27) (v := (-3)) C.1 C.2.1 dX11_tick_27 (by decide) ?_
      exact x_iret (pc := 29) C hr hlk hP hS h dX11_tick_29
  · replace h := if_t h b9
    refine lv_bipush (pc := 12) (v := (-2)) C.1 C.2.1 dX11_tick_12 (by decide) ?_
    exact x_iret (pc := 14) C hr hlk hP hS h dX11_tick_14
set_option maxRecDepth 100000 in
theorem m_X11_tick (hI : wI LM ad) {c0 : Nat} {i1 : Int32} {v : VV} {rZ : Int32} {vZ : VV} (kc0 : wk LM c0 11) (h : F_X11_tick c0 i1 v = some (rZ, vZ)) : Met l yX11_tick (Cond.code yX11_tick cX11_tick 3 (some .int) :: wsG) (rmL 3) (pcG LM cy ad D [.ref (ad c0), .int i1] v) (qiG LM cy ad D rZ vZ) 0 0 (wA LM ad) := by
  refine Met.ofW (cc := cX11_tick) (maxL := 3) (ret := (some .int)) (by decide) rfl ?_
  intro p e s m args below meth c s₁ B hml hv
  obtain ⟨rfl, hP, hK⟩ := hv
  have hts := atoms_spec (ws := Cond.code yX11_tick cX11_tick 3 (some .int) :: wsG) B.pre
  have hown : s.vm.findClass RX11 = some m.cls := findClass_of_methodNamed B.named
  have C : Cx p s m _ c cX11_tick 3 RX11 D cy := ⟨B.exec, B.bytes, hml, hown, fun w hw => hts w (List.mem_cons_of_mem _ hw), hK⟩
  have hl := lv_entry ([.ref (ad c0), .int i1]) (n := 3) (Nat.le_of_ble_eq_true rfl)
  rw [lg_entry_eq]
  generalize (lg_sl ([.ref (ad c0), .int i1]) ++ List.replicate (3 - (lg_sl ([.ref (ad c0), .int i1])).length) Slot.unset).toArray = ls at hl ⊢
  have hl : lv_has ls 3 [(0, .ref (ad c0)), (1, .int i1)] := hl
  exact w_X11_tick C hI B.returns B.notSynchronized (RoL_rm _) c0 i1 v _ _ _ kc0 h hP va_S.rf (lv_sub hl [0, 1] rfl)
def f_X11_event (c0 : Nat) (i1 : Int32) (i2 : Int32) (i3 : Int32) (i4 : Int32) (v : VV) : Option (Int32 × VV) :=
  bi (F_X11_isPort c0 i2 v) fun x3 v2 =>
  if (x3 = 0) then
    some ((-1), v2)
  else
    bi (F_X11_isGood i3 v2) fun x6 v5 =>
    if (x6 = 0) then
      some ((-1), v5)
    else
      bi (F_X11_in (Int32.toInt64 i1) (Int32.toInt64 (v5 c0 1)) 998 v5) fun x9 v8 =>
      if (x9 = 0) then
        some ((-2), v8)
      else
        bi (F_X11_in (Int32.toInt64 i4) (-1000) 1000 v8) fun x12 v11 =>
        if (x12 = 0) then
          some ((-2), v11)
        else
          if (i4 = 0) then
            some ((-2), v11)
          else
            if ((v11 c0 22) = 20) then
              some ((-4), v11)
            else
              gd (inB (v11 c0 22) (lnM (rfM c0 19)) = true) <|
              nv (wu v11 (rfM c0 19) (Int32.toNatClampNeg (v11 c0 22)) i1) fun v15 =>
              gd (inB (v15 c0 22) (lnM (rfM c0 20)) = true) <|
              nv (wu v15 (rfM c0 20) (Int32.toNatClampNeg (v15 c0 22)) ((3 * i2) + i3)) fun v18 =>
              gd (inB (v18 c0 22) (lnM (rfM c0 21)) = true) <|
              nv (wu v18 (rfM c0 21) (Int32.toNatClampNeg (v18 c0 22)) i4) fun v21 =>
              nv (wu v21 c0 22 ((v21 c0 22) + 1)) fun v22 =>
              some ((v22 c0 22), v22)
abbrev F_X11_event (c0 : Nat) (i1 : Int32) (i2 : Int32) (i3 : Int32) (i4 : Int32) (v : VV) : Option (Int32 × VV) := f_X11_event c0 i1 i2 i3 i4 v
set_option maxHeartbeats 4000000 in
set_option maxRecDepth 100000 in
theorem w_X11_event (C : Cx p s m args c cX11_event 5 RX11 D cy) (hI : wI LM ad) (hr : meth.sig.returnType = some .int) (hlk : meth.locks = false) (hR : RoL 3 R) {rZ : Int32} {vZ : VV} : ∀ (c0 : Nat) (i1 : Int32) (i2 : Int32) (i3 : Int32) (i4 : Int32) (v : VV) (H : Heap) (locs : List Loc) (ls : Array Slot), wk LM c0 11 → f_X11_event c0 i1 i2 i3 i4 v = some (rZ, vZ) → va_P D vwCl (wd LM cy ad v) H → va_S (wA LM ad) s.heap H locs → lv_has ls 5 [(0, .ref (ad c0)), (1, .int i1), (2, .int i2), (3, .int i3), (4, .int i4)] → W p l e R s m args below meth c H locs 0 0 (MQ below (qiG LM cy ad D rZ vZ) args s 0 0 (wA LM ad)) (F0 m 0 ls []) := by
  intro c0 i1 i2 i3 i4 v H locs ls kc0 h hP hS hl
  unfold f_X11_event at h
  refine lv_aload_n (pc := 0) C.1 C.2.1 dX11_event_0 rfl (lv_at hl 0 rfl) ?_
  refine lv_iload_n (pc := 1) C.1 C.2.1 dX11_event_1 rfl (lv_at hl 2 rfl) ?_
  obtain ⟨x3, v2, hc1, h⟩ := bi_e h
  refine x_calli (pc := 2) C hP hS mi_X11_isPort ck_11 kc0 ml_X11_99 (hR.le (by decide)) (Nat.zero_le _) (Nat.zero_le _) [.int i2] rfl hl.1 rfl (Nat.le_of_ble_eq_true rfl) dX11_event_2 (m_X11_isPort hI kc0 hc1) (fun H locs hP hS => ?_)
  refine lv_if_eq (pc := 5) (tgt := 15) C.1 C.2.1 dX11_event_5 (by decide) (fun b5 => ?_) (fun b5 => ?_)
  · replace h := if_t h b5
    refine lv_iconst (pc := 15) (v := (-1)) C.1 C.2.1 dX11_event_15 (by decide) ?_
    exact x_iret (pc := 16) C hr hlk hP hS h dX11_event_16
  · replace h := if_f h b5
    refine lv_iload_n (pc := 8) C.1 C.2.1 dX11_event_8 rfl (lv_at hl 3 rfl) ?_
    obtain ⟨x6, v5, hc4, h⟩ := bi_e h
    refine x_callsi (pc := 9) C hP hS ms_X11_isGood ml_X11_103 (hR.le (by decide)) (Nat.zero_le _) (Nat.zero_le _) [.int i3] rfl hl.1 rfl (Nat.le_of_ble_eq_true rfl) dX11_event_9 (m_X11_isGood hI hc4) (fun H locs hP hS => ?_)
    refine lv_if_ne (pc := 12) (tgt := 17) C.1 C.2.1 dX11_event_12 (by decide) (fun b12 => ?_) (fun b12 => ?_)
    · replace h := if_f h b12
      refine lv_iload_n (pc := 17) C.1 C.2.1 dX11_event_17 rfl (lv_at hl 1 rfl) ?_
      refine lv_i2l (pc := 18) C.1 C.2.1 dX11_event_18 rfl ?_
      refine lv_aload_n (pc := 19) C.1 C.2.1 dX11_event_19 rfl (lv_at hl 0 rfl) ?_
      refine x_geti (pc := 20) C hP ck_11 1 fl_X11_133 (by decide) rfl kc0 dX11_event_20 ?_
      refine lv_i2l (pc := 23) C.1 C.2.1 dX11_event_23 rfl ?_
      refine lv_ldc2 (pc := 24) (v := 998) C.1 C.2.1 C.2.2.2.1 (C.2.2.2.2.1 _ cl_X11_154) dX11_event_24 ?_
      obtain ⟨x9, v8, hc7, h⟩ := bi_e h
      refine x_callsi (pc := 27) C hP hS ms_X11_in ml_X11_93 (hR.le (by decide)) (Nat.zero_le _) (Nat.zero_le _) [.long (Int32.toInt64 i1), .long (Int32.toInt64 (v5 c0 1)), .long 998] rfl hl.1 rfl (Nat.le_of_ble_eq_true rfl) dX11_event_27 (m_X11_in hI hc7) (fun H locs hP hS => ?_)
      refine lv_if_eq (pc := 30) (tgt := 53) C.1 C.2.1 dX11_event_30 (by decide) (fun b30 => ?_) (fun b30 => ?_)
      · replace h := if_t h b30
        refine lv_bipush (pc := 53) (v := (-2)) C.1 C.2.1 dX11_event_53 (by decide) ?_
        exact x_iret (pc := 55) C hr hlk hP hS h dX11_event_55
      · replace h := if_f h b30
        refine lv_iload (pc := 33) C.1 C.2.1 dX11_event_33 (lv_at hl 4 rfl) ?_
        refine lv_i2l (pc := 35) C.1 C.2.1 dX11_event_35 rfl ?_
        refine lv_ldc2 (pc := 36) (v := (-1000)) C.1 C.2.1 C.2.2.2.1 (C.2.2.2.2.1 _ cl_X11_156) dX11_event_36 ?_
        refine lv_ldc2 (pc := 39) (v := 1000) C.1 C.2.1 C.2.2.2.1 (C.2.2.2.2.1 _ cl_X11_108) dX11_event_39 ?_
        obtain ⟨x12, v11, hc10, h⟩ := bi_e h
        refine x_callsi (pc := 42) C hP hS ms_X11_in ml_X11_93 (hR.le (by decide)) (Nat.zero_le _) (Nat.zero_le _) [.long (Int32.toInt64 i4), .long (-1000), .long 1000] rfl hl.1 rfl (Nat.le_of_ble_eq_true rfl) dX11_event_42 (m_X11_in hI hc10) (fun H locs hP hS => ?_)
        refine lv_if_eq (pc := 45) (tgt := 53) C.1 C.2.1 dX11_event_45 (by decide) (fun b45 => ?_) (fun b45 => ?_)
        · replace h := if_t h b45
          refine lv_bipush (pc := 53) (v := (-2)) C.1 C.2.1 dX11_event_53 (by decide) ?_
          exact x_iret (pc := 55) C hr hlk hP hS h dX11_event_55
        · replace h := if_f h b45
          refine lv_iload (pc := 48) C.1 C.2.1 dX11_event_48 (lv_at hl 4 rfl) ?_
          refine lv_if_ne (pc := 50) (tgt := 56) C.1 C.2.1 dX11_event_50 (by decide) (fun b50 => ?_) (fun b50 => ?_)
          · replace h := if_f h b50
            refine lv_aload_n (pc := 56) C.1 C.2.1 dX11_event_56 rfl (lv_at hl 0 rfl) ?_
            refine x_geti (pc := 57) C hP ck_11 22 fl_X11_130 (by decide) rfl kc0 dX11_event_57 ?_
            refine lv_bipush (pc := 60) (v := 20) C.1 C.2.1 dX11_event_60 (by decide) ?_
            refine lv_icmp_ne (pc := 62) (tgt := 68) C.1 C.2.1 dX11_event_62 (by decide) (fun b62 => ?_) (fun b62 => ?_)
            · replace h := if_f h b62
              refine lv_aload_n (pc := 68) C.1 C.2.1 dX11_event_68 rfl (lv_at hl 0 rfl) ?_
              refine x_getr (pc := 69) C hP ck_11 19 fl_X11_48 (by decide) rfl kc0 dX11_event_69 ?_
              have k13 : wk LM (rfM c0 19) 12 := wt_f wT_M kc0 19 (by decide) rfl rfl
              refine lv_aload_n (pc := 72) C.1 C.2.1 dX11_event_72 rfl (lv_at hl 0 rfl) ?_
              refine x_geti (pc := 73) C hP ck_11 22 fl_X11_130 (by decide) rfl kc0 dX11_event_73 ?_
              refine lv_iload_n (pc := 76) C.1 C.2.1 dX11_event_76 rfl (lv_at hl 1 rfl) ?_
              obtain ⟨g14, h⟩ := gd_e h
              refine x_iast (pc := 77) C hI hP hS k13 (inB_vp g14) dX11_event_77 (fun H locs hP hS => ?_)
              obtain ⟨v15, h, hP⟩ := nv_p (P := fun z => va_P D vwCl (wd LM cy ad z) H) h hP
              refine lv_aload_n (pc := 78) C.1 C.2.1 dX11_event_78 rfl (lv_at hl 0 rfl) ?_
              refine x_getr (pc := 79) C hP ck_11 20 fl_X11_51 (by decide) rfl kc0 dX11_event_79 ?_
              have k16 : wk LM (rfM c0 20) 12 := wt_f wT_M kc0 20 (by decide) rfl rfl
              refine lv_aload_n (pc := 82) C.1 C.2.1 dX11_event_82 rfl (lv_at hl 0 rfl) ?_
              refine x_geti (pc := 83) C hP ck_11 22 fl_X11_130 (by decide) rfl kc0 dX11_event_83 ?_
              refine lv_iconst (pc := 86) (v := 3) C.1 C.2.1 dX11_event_86 (by decide) ?_
              refine lv_iload_n (pc := 87) C.1 C.2.1 dX11_event_87 rfl (lv_at hl 2 rfl) ?_
              refine lv_imul (pc := 88) C.1 C.2.1 dX11_event_88 ?_
              refine lv_iload_n (pc := 89) C.1 C.2.1 dX11_event_89 rfl (lv_at hl 3 rfl) ?_
              refine lv_iadd (pc := 90) C.1 C.2.1 dX11_event_90 ?_
              obtain ⟨g17, h⟩ := gd_e h
              refine x_iast (pc := 91) C hI hP hS k16 (inB_vp g17) dX11_event_91 (fun H locs hP hS => ?_)
              obtain ⟨v18, h, hP⟩ := nv_p (P := fun z => va_P D vwCl (wd LM cy ad z) H) h hP
              refine lv_aload_n (pc := 92) C.1 C.2.1 dX11_event_92 rfl (lv_at hl 0 rfl) ?_
              refine x_getr (pc := 93) C hP ck_11 21 fl_X11_54 (by decide) rfl kc0 dX11_event_93 ?_
              have k19 : wk LM (rfM c0 21) 12 := wt_f wT_M kc0 21 (by decide) rfl rfl
              refine lv_aload_n (pc := 96) C.1 C.2.1 dX11_event_96 rfl (lv_at hl 0 rfl) ?_
              refine x_geti (pc := 97) C hP ck_11 22 fl_X11_130 (by decide) rfl kc0 dX11_event_97 ?_
              refine lv_iload (pc := 100) C.1 C.2.1 dX11_event_100 (lv_at hl 4 rfl) ?_
              obtain ⟨g20, h⟩ := gd_e h
              refine x_iast (pc := 102) C hI hP hS k19 (inB_vp g20) dX11_event_102 (fun H locs hP hS => ?_)
              obtain ⟨v21, h, hP⟩ := nv_p (P := fun z => va_P D vwCl (wd LM cy ad z) H) h hP
              refine lv_aload_n (pc := 103) C.1 C.2.1 dX11_event_103 rfl (lv_at hl 0 rfl) ?_
              refine lv_dup (pc := 104) C.1 C.2.1 dX11_event_104 rfl ?_
              refine x_geti (pc := 105) C hP ck_11 22 fl_X11_130 (by decide) rfl kc0 dX11_event_105 ?_
              refine lv_iconst (pc := 108) (v := 1) C.1 C.2.1 dX11_event_108 (by decide) ?_
              refine lv_iadd (pc := 109) C.1 C.2.1 dX11_event_109 ?_
              refine x_put (pc := 110) C hI hP hS ck_11 22 fl_X11_130 (by decide) rfl rfl kc0 rfl rfl dX11_event_110 (fun H locs hP hS => ?_)
              obtain ⟨v22, h, hP⟩ := nv_p (P := fun z => va_P D vwCl (wd LM cy ad z) H) h hP
              refine lv_aload_n (pc := 113) C.1 C.2.1 dX11_event_113 rfl (lv_at hl 0 rfl) ?_
              refine x_geti (pc := 114) C hP ck_11 22 fl_X11_130 (by decide) rfl kc0 dX11_event_114 ?_
              exact x_iret (pc := 117) C hr hlk hP hS h dX11_event_117
            · replace h := if_t h b62
              refine lv_bipush (pc := 65) (v := (-4)) C.1 C.2.1 dX11_event_65 (by decide) ?_
              exact x_iret (pc := 67) C hr hlk hP hS h dX11_event_67
          · replace h := if_t h b50
            refine lv_bipush (pc := 53) (v := (-2)) C.1 C.2.1 dX11_event_53 (by decide) ?_
            exact x_iret (pc := 55) C hr hlk hP hS h dX11_event_55
    · replace h := if_t h b12
      refine lv_iconst (pc := 15) (v := (-1)) C.1 C.2.1 dX11_event_15 (by decide) ?_
      exact x_iret (pc := 16) C hr hlk hP hS h dX11_event_16
set_option maxRecDepth 100000 in
theorem m_X11_event (hI : wI LM ad) {c0 : Nat} {i1 : Int32} {i2 : Int32} {i3 : Int32} {i4 : Int32} {v : VV} {rZ : Int32} {vZ : VV} (kc0 : wk LM c0 11) (h : F_X11_event c0 i1 i2 i3 i4 v = some (rZ, vZ)) : Met l yX11_event (Cond.code yX11_event cX11_event 5 (some .int) :: wsG) (rmL 3) (pcG LM cy ad D [.ref (ad c0), .int i1, .int i2, .int i3, .int i4] v) (qiG LM cy ad D rZ vZ) 0 0 (wA LM ad) := by
  refine Met.ofW (cc := cX11_event) (maxL := 5) (ret := (some .int)) (by decide) rfl ?_
  intro p e s m args below meth c s₁ B hml hv
  obtain ⟨rfl, hP, hK⟩ := hv
  have hts := atoms_spec (ws := Cond.code yX11_event cX11_event 5 (some .int) :: wsG) B.pre
  have hown : s.vm.findClass RX11 = some m.cls := findClass_of_methodNamed B.named
  have C : Cx p s m _ c cX11_event 5 RX11 D cy := ⟨B.exec, B.bytes, hml, hown, fun w hw => hts w (List.mem_cons_of_mem _ hw), hK⟩
  have hl := lv_entry ([.ref (ad c0), .int i1, .int i2, .int i3, .int i4]) (n := 5) (Nat.le_of_ble_eq_true rfl)
  rw [lg_entry_eq]
  generalize (lg_sl ([.ref (ad c0), .int i1, .int i2, .int i3, .int i4]) ++ List.replicate (5 - (lg_sl ([.ref (ad c0), .int i1, .int i2, .int i3, .int i4])).length) Slot.unset).toArray = ls at hl ⊢
  have hl : lv_has ls 5 [(0, .ref (ad c0)), (1, .int i1), (2, .int i2), (3, .int i3), (4, .int i4)] := hl
  exact w_X11_event C hI B.returns B.notSynchronized (RoL_rm _) c0 i1 i2 i3 i4 v _ _ _ kc0 h hP va_S.rf (lv_sub hl [0, 1, 2, 3, 4] rfl)
def f_X11_isShip (c0 : Nat) (i1 : Int32) (v : VV) : Option (Int32 × VV) :=
  bi (F_X11_in (Int32.toInt64 i1) 0 (Int32.toInt64 ((v c0 27) - 1)) v) fun x3 v2 =>
  gd (x3 &&& 1 = x3) <|
  some (x3, v2)
abbrev F_X11_isShip (c0 : Nat) (i1 : Int32) (v : VV) : Option (Int32 × VV) := f_X11_isShip c0 i1 v
set_option maxHeartbeats 4000000 in
set_option maxRecDepth 100000 in
theorem w_X11_isShip (C : Cx p s m args c cX11_isShip 2 RX11 D cy) (hI : wI LM ad) (hr : meth.sig.returnType = some .boolean) (hlk : meth.locks = false) (hR : RoL 2 R) {rZ : Int32} {vZ : VV} : ∀ (c0 : Nat) (i1 : Int32) (v : VV) (H : Heap) (locs : List Loc) (ls : Array Slot), wk LM c0 11 → f_X11_isShip c0 i1 v = some (rZ, vZ) → va_P D vwCl (wd LM cy ad v) H → va_S (wA LM ad) s.heap H locs → lv_has ls 2 [(0, .ref (ad c0)), (1, .int i1)] → W p l e R s m args below meth c H locs 0 0 (MQ below (qiG LM cy ad D rZ vZ) args s 0 0 (wA LM ad)) (F0 m 0 ls []) := by
  intro c0 i1 v H locs ls kc0 h hP hS hl
  unfold f_X11_isShip at h
  refine lv_iload_n (pc := 0) C.1 C.2.1 dX11_isShip_0 rfl (lv_at hl 1 rfl) ?_
  refine lv_i2l (pc := 1) C.1 C.2.1 dX11_isShip_1 rfl ?_
  refine lv_lconst (pc := 2) (v := 0) C.1 C.2.1 dX11_isShip_2 (by decide) ?_
  refine lv_aload_n (pc := 3) C.1 C.2.1 dX11_isShip_3 rfl (lv_at hl 0 rfl) ?_
  refine x_geti (pc := 4) C hP ck_11 27 fl_X11_158 (by decide) rfl kc0 dX11_isShip_4 ?_
  refine lv_iconst (pc := 7) (v := 1) C.1 C.2.1 dX11_isShip_7 (by decide) ?_
  refine lv_isub (pc := 8) C.1 C.2.1 dX11_isShip_8 ?_
  refine lv_i2l (pc := 9) C.1 C.2.1 dX11_isShip_9 rfl ?_
  obtain ⟨x3, v2, hc1, h⟩ := bi_e h
  refine x_callsi (pc := 10) C hP hS ms_X11_in ml_X11_93 (hR.le (by decide)) (Nat.zero_le _) (Nat.zero_le _) [.long (Int32.toInt64 i1), .long 0, .long (Int32.toInt64 ((v c0 27) - 1))] rfl hl.1 rfl (Nat.le_of_ble_eq_true rfl) dX11_isShip_10 (m_X11_in hI hc1) (fun H locs hP hS => ?_)
  obtain ⟨g4, h⟩ := gd_e h
  exact x_zret (pc := 13) C hr hlk hP hS g4 h dX11_isShip_13
set_option maxRecDepth 100000 in
theorem m_X11_isShip (hI : wI LM ad) {c0 : Nat} {i1 : Int32} {v : VV} {rZ : Int32} {vZ : VV} (kc0 : wk LM c0 11) (h : F_X11_isShip c0 i1 v = some (rZ, vZ)) : Met l yX11_isShip (Cond.code yX11_isShip cX11_isShip 2 (some .boolean) :: wsG) (rmL 2) (pcG LM cy ad D [.ref (ad c0), .int i1] v) (qiG LM cy ad D rZ vZ) 0 0 (wA LM ad) := by
  refine Met.ofW (cc := cX11_isShip) (maxL := 2) (ret := (some .boolean)) (by decide) rfl ?_
  intro p e s m args below meth c s₁ B hml hv
  obtain ⟨rfl, hP, hK⟩ := hv
  have hts := atoms_spec (ws := Cond.code yX11_isShip cX11_isShip 2 (some .boolean) :: wsG) B.pre
  have hown : s.vm.findClass RX11 = some m.cls := findClass_of_methodNamed B.named
  have C : Cx p s m _ c cX11_isShip 2 RX11 D cy := ⟨B.exec, B.bytes, hml, hown, fun w hw => hts w (List.mem_cons_of_mem _ hw), hK⟩
  have hl := lv_entry ([.ref (ad c0), .int i1]) (n := 2) (Nat.le_of_ble_eq_true rfl)
  rw [lg_entry_eq]
  generalize (lg_sl ([.ref (ad c0), .int i1]) ++ List.replicate (2 - (lg_sl ([.ref (ad c0), .int i1])).length) Slot.unset).toArray = ls at hl ⊢
  have hl : lv_has ls 2 [(0, .ref (ad c0)), (1, .int i1)] := hl
  exact w_X11_isShip C hI B.returns B.notSynchronized (RoL_rm _) c0 i1 v _ _ _ kc0 h hP va_S.rf (lv_sub hl [0, 1] rfl)
def f_X11_load (c0 : Nat) (i1 : Int32) (v : VV) : Option (Int32 × VV) :=
  gd (inB (3 * i1) (lnM (rfM c0 26)) = true) <|
  gd (inB ((3 * i1) + 1) (lnM (rfM c0 26)) = true) <|
  gd (inB ((3 * i1) + 2) (lnM (rfM c0 26)) = true) <|
  some ((((v (rfM c0 26) (Int32.toNatClampNeg (3 * i1))) + (v (rfM c0 26) (Int32.toNatClampNeg ((3 * i1) + 1)))) + (v (rfM c0 26) (Int32.toNatClampNeg ((3 * i1) + 2)))), v)
abbrev F_X11_load (c0 : Nat) (i1 : Int32) (v : VV) : Option (Int32 × VV) := f_X11_load c0 i1 v
set_option maxHeartbeats 4000000 in
set_option maxRecDepth 100000 in
theorem w_X11_load (C : Cx p s m args c cX11_load 2 RX11 D cy) (hI : wI LM ad) (hr : meth.sig.returnType = some .int) (hlk : meth.locks = false) (hR : RoL 1 R) {rZ : Int32} {vZ : VV} : ∀ (c0 : Nat) (i1 : Int32) (v : VV) (H : Heap) (locs : List Loc) (ls : Array Slot), wk LM c0 11 → f_X11_load c0 i1 v = some (rZ, vZ) → va_P D vwCl (wd LM cy ad v) H → va_S (wA LM ad) s.heap H locs → lv_has ls 2 [(0, .ref (ad c0)), (1, .int i1)] → W p l e R s m args below meth c H locs 0 0 (MQ below (qiG LM cy ad D rZ vZ) args s 0 0 (wA LM ad)) (F0 m 0 ls []) := by
  intro c0 i1 v H locs ls kc0 h hP hS hl
  unfold f_X11_load at h
  refine lv_aload_n (pc := 0) C.1 C.2.1 dX11_load_0 rfl (lv_at hl 0 rfl) ?_
  refine x_getr (pc := 1) C hP ck_11 26 fl_X11_66 (by decide) rfl kc0 dX11_load_1 ?_
  have k1 : wk LM (rfM c0 26) 12 := wt_f wT_M kc0 26 (by decide) rfl rfl
  refine lv_iconst (pc := 4) (v := 3) C.1 C.2.1 dX11_load_4 (by decide) ?_
  refine lv_iload_n (pc := 5) C.1 C.2.1 dX11_load_5 rfl (lv_at hl 1 rfl) ?_
  refine lv_imul (pc := 6) C.1 C.2.1 dX11_load_6 ?_
  obtain ⟨g2, h⟩ := gd_e h
  refine x_iald (pc := 7) C hP k1 (inB_vp g2) dX11_load_7 ?_
  refine lv_aload_n (pc := 8) C.1 C.2.1 dX11_load_8 rfl (lv_at hl 0 rfl) ?_
  refine x_getr (pc := 9) C hP ck_11 26 fl_X11_66 (by decide) rfl kc0 dX11_load_9 ?_
  have k3 : wk LM (rfM c0 26) 12 := wt_f wT_M kc0 26 (by decide) rfl rfl
  refine lv_iconst (pc := 12) (v := 3) C.1 C.2.1 dX11_load_12 (by decide) ?_
  refine lv_iload_n (pc := 13) C.1 C.2.1 dX11_load_13 rfl (lv_at hl 1 rfl) ?_
  refine lv_imul (pc := 14) C.1 C.2.1 dX11_load_14 ?_
  refine lv_iconst (pc := 15) (v := 1) C.1 C.2.1 dX11_load_15 (by decide) ?_
  refine lv_iadd (pc := 16) C.1 C.2.1 dX11_load_16 ?_
  obtain ⟨g4, h⟩ := gd_e h
  refine x_iald (pc := 17) C hP k3 (inB_vp g4) dX11_load_17 ?_
  refine lv_iadd (pc := 18) C.1 C.2.1 dX11_load_18 ?_
  refine lv_aload_n (pc := 19) C.1 C.2.1 dX11_load_19 rfl (lv_at hl 0 rfl) ?_
  refine x_getr (pc := 20) C hP ck_11 26 fl_X11_66 (by decide) rfl kc0 dX11_load_20 ?_
  have k5 : wk LM (rfM c0 26) 12 := wt_f wT_M kc0 26 (by decide) rfl rfl
  refine lv_iconst (pc := 23) (v := 3) C.1 C.2.1 dX11_load_23 (by decide) ?_
  refine lv_iload_n (pc := 24) C.1 C.2.1 dX11_load_24 rfl (lv_at hl 1 rfl) ?_
  refine lv_imul (pc := 25) C.1 C.2.1 dX11_load_25 ?_
  refine lv_iconst (pc := 26) (v := 2) C.1 C.2.1 dX11_load_26 (by decide) ?_
  refine lv_iadd (pc := 27) C.1 C.2.1 dX11_load_27 ?_
  obtain ⟨g6, h⟩ := gd_e h
  refine x_iald (pc := 28) C hP k5 (inB_vp g6) dX11_load_28 ?_
  refine lv_iadd (pc := 29) C.1 C.2.1 dX11_load_29 ?_
  exact x_iret (pc := 30) C hr hlk hP hS h dX11_load_30
set_option maxRecDepth 100000 in
theorem m_X11_load (hI : wI LM ad) {c0 : Nat} {i1 : Int32} {v : VV} {rZ : Int32} {vZ : VV} (kc0 : wk LM c0 11) (h : F_X11_load c0 i1 v = some (rZ, vZ)) : Met l yX11_load (Cond.code yX11_load cX11_load 2 (some .int) :: wsG) (rmL 1) (pcG LM cy ad D [.ref (ad c0), .int i1] v) (qiG LM cy ad D rZ vZ) 0 0 (wA LM ad) := by
  refine Met.ofW (cc := cX11_load) (maxL := 2) (ret := (some .int)) (by decide) rfl ?_
  intro p e s m args below meth c s₁ B hml hv
  obtain ⟨rfl, hP, hK⟩ := hv
  have hts := atoms_spec (ws := Cond.code yX11_load cX11_load 2 (some .int) :: wsG) B.pre
  have hown : s.vm.findClass RX11 = some m.cls := findClass_of_methodNamed B.named
  have C : Cx p s m _ c cX11_load 2 RX11 D cy := ⟨B.exec, B.bytes, hml, hown, fun w hw => hts w (List.mem_cons_of_mem _ hw), hK⟩
  have hl := lv_entry ([.ref (ad c0), .int i1]) (n := 2) (Nat.le_of_ble_eq_true rfl)
  rw [lg_entry_eq]
  generalize (lg_sl ([.ref (ad c0), .int i1]) ++ List.replicate (2 - (lg_sl ([.ref (ad c0), .int i1])).length) Slot.unset).toArray = ls at hl ⊢
  have hl : lv_has ls 2 [(0, .ref (ad c0)), (1, .int i1)] := hl
  exact w_X11_load C hI B.returns B.notSynchronized (RoL_rm _) c0 i1 v _ _ _ kc0 h hP va_S.rf (lv_sub hl [0, 1] rfl)
def f_X11_ship (c0 : Nat) (i1 : Int32) (i2 : Int32) (i3 : Int32) (v : VV) : Option (Int32 × VV) :=
  bi (F_X11_isPort c0 i1 v) fun x3 v2 =>
  if (x3 = 0) then
    some ((-1), v2)
  else
    bi (F_X11_in (Int32.toInt64 i2) 1 20 v2) fun x6 v5 =>
    if (x6 = 0) then
      some ((-2), v5)
    else
      bi (F_X11_in (Int32.toInt64 i3) 0 1000000 v5) fun x9 v8 =>
      if (x9 = 0) then
        some ((-2), v8)
      else
        if ((v8 c0 27) = 4) then
          some ((-4), v8)
        else
          gd (inB (v8 c0 27) (lnM (rfM c0 23)) = true) <|
          nv (wu v8 (rfM c0 23) (Int32.toNatClampNeg (v8 c0 27)) i1) fun v12 =>
          gd (inB (v12 c0 27) (lnM (rfM c0 24)) = true) <|
          nv (wu v12 (rfM c0 24) (Int32.toNatClampNeg (v12 c0 27)) i2) fun v15 =>
          gd (inB (v15 c0 27) (lnM (rfM c0 25)) = true) <|
          nv (wu v15 (rfM c0 25) (Int32.toNatClampNeg (v15 c0 27)) i3) fun v18 =>
          nv (wu v18 c0 27 ((v18 c0 27) + 1)) fun v19 =>
          some (((v19 c0 27) - 1), v19)
abbrev F_X11_ship (c0 : Nat) (i1 : Int32) (i2 : Int32) (i3 : Int32) (v : VV) : Option (Int32 × VV) := f_X11_ship c0 i1 i2 i3 v
set_option maxHeartbeats 4000000 in
set_option maxRecDepth 100000 in
theorem w_X11_ship (C : Cx p s m args c cX11_ship 4 RX11 D cy) (hI : wI LM ad) (hr : meth.sig.returnType = some .int) (hlk : meth.locks = false) (hR : RoL 3 R) {rZ : Int32} {vZ : VV} : ∀ (c0 : Nat) (i1 : Int32) (i2 : Int32) (i3 : Int32) (v : VV) (H : Heap) (locs : List Loc) (ls : Array Slot), wk LM c0 11 → f_X11_ship c0 i1 i2 i3 v = some (rZ, vZ) → va_P D vwCl (wd LM cy ad v) H → va_S (wA LM ad) s.heap H locs → lv_has ls 4 [(0, .ref (ad c0)), (1, .int i1), (2, .int i2), (3, .int i3)] → W p l e R s m args below meth c H locs 0 0 (MQ below (qiG LM cy ad D rZ vZ) args s 0 0 (wA LM ad)) (F0 m 0 ls []) := by
  intro c0 i1 i2 i3 v H locs ls kc0 h hP hS hl
  unfold f_X11_ship at h
  refine lv_aload_n (pc := 0) C.1 C.2.1 dX11_ship_0 rfl (lv_at hl 0 rfl) ?_
  refine lv_iload_n (pc := 1) C.1 C.2.1 dX11_ship_1 rfl (lv_at hl 1 rfl) ?_
  obtain ⟨x3, v2, hc1, h⟩ := bi_e h
  refine x_calli (pc := 2) C hP hS mi_X11_isPort ck_11 kc0 ml_X11_99 (hR.le (by decide)) (Nat.zero_le _) (Nat.zero_le _) [.int i1] rfl hl.1 rfl (Nat.le_of_ble_eq_true rfl) dX11_ship_2 (m_X11_isPort hI kc0 hc1) (fun H locs hP hS => ?_)
  refine lv_if_ne (pc := 5) (tgt := 10) C.1 C.2.1 dX11_ship_5 (by decide) (fun b5 => ?_) (fun b5 => ?_)
  · replace h := if_f h b5
    refine lv_iload_n (pc := 10) C.1 C.2.1 dX11_ship_10 rfl (lv_at hl 2 rfl) ?_
    refine lv_i2l (pc := 11) C.1 C.2.1 dX11_ship_11 rfl ?_
    refine lv_lconst (pc := 12) (v := 1) C.1 C.2.1 dX11_ship_12 (by decide) ?_
    refine lv_ldc2 (pc := 13) (v := 20) C.1 C.2.1 C.2.2.2.1 (C.2.2.2.2.1 _ cl_X11_124) dX11_ship_13 ?_
    obtain ⟨x6, v5, hc4, h⟩ := bi_e h
    refine x_callsi (pc := 16) C hP hS ms_X11_in ml_X11_93 (hR.le (by decide)) (Nat.zero_le _) (Nat.zero_le _) [.long (Int32.toInt64 i2), .long 1, .long 20] rfl hl.1 rfl (Nat.le_of_ble_eq_true rfl) dX11_ship_16 (m_X11_in hI hc4) (fun H locs hP hS => ?_)
    refine lv_if_eq (pc := 19) (tgt := 34) C.1 C.2.1 dX11_ship_19 (by decide) (fun b19 => ?_) (fun b19 => ?_)
    · replace h := if_t h b19
      refine lv_bipush (pc := 34) (v := (-2)) C.1 C.2.1 dX11_ship_34 (by decide) ?_
      exact x_iret (pc := 36) C hr hlk hP hS h dX11_ship_36
    · replace h := if_f h b19
      refine lv_iload_n (pc := 22) C.1 C.2.1 dX11_ship_22 rfl (lv_at hl 3 rfl) ?_
      refine lv_i2l (pc := 23) C.1 C.2.1 dX11_ship_23 rfl ?_
      refine lv_lconst (pc := 24) (v := 0) C.1 C.2.1 dX11_ship_24 (by decide) ?_
      refine lv_ldc2 (pc := 25) (v := 1000000) C.1 C.2.1 C.2.2.2.1 (C.2.2.2.2.1 _ cl_X11_161) dX11_ship_25 ?_
      obtain ⟨x9, v8, hc7, h⟩ := bi_e h
      refine x_callsi (pc := 28) C hP hS ms_X11_in ml_X11_93 (hR.le (by decide)) (Nat.zero_le _) (Nat.zero_le _) [.long (Int32.toInt64 i3), .long 0, .long 1000000] rfl hl.1 rfl (Nat.le_of_ble_eq_true rfl) dX11_ship_28 (m_X11_in hI hc7) (fun H locs hP hS => ?_)
      refine lv_if_ne (pc := 31) (tgt := 37) C.1 C.2.1 dX11_ship_31 (by decide) (fun b31 => ?_) (fun b31 => ?_)
      · replace h := if_f h b31
        refine lv_aload_n (pc := 37) C.1 C.2.1 dX11_ship_37 rfl (lv_at hl 0 rfl) ?_
        refine x_geti (pc := 38) C hP ck_11 27 fl_X11_158 (by decide) rfl kc0 dX11_ship_38 ?_
        refine lv_iconst (pc := 41) (v := 4) C.1 C.2.1 dX11_ship_41 (by decide) ?_
        refine lv_icmp_ne (pc := 42) (tgt := 48) C.1 C.2.1 dX11_ship_42 (by decide) (fun b42 => ?_) (fun b42 => ?_)
        · replace h := if_f h b42
          refine lv_aload_n (pc := 48) C.1 C.2.1 dX11_ship_48 rfl (lv_at hl 0 rfl) ?_
          refine x_getr (pc := 49) C hP ck_11 23 fl_X11_57 (by decide) rfl kc0 dX11_ship_49 ?_
          have k10 : wk LM (rfM c0 23) 12 := wt_f wT_M kc0 23 (by decide) rfl rfl
          refine lv_aload_n (pc := 52) C.1 C.2.1 dX11_ship_52 rfl (lv_at hl 0 rfl) ?_
          refine x_geti (pc := 53) C hP ck_11 27 fl_X11_158 (by decide) rfl kc0 dX11_ship_53 ?_
          refine lv_iload_n (pc := 56) C.1 C.2.1 dX11_ship_56 rfl (lv_at hl 1 rfl) ?_
          obtain ⟨g11, h⟩ := gd_e h
          refine x_iast (pc := 57) C hI hP hS k10 (inB_vp g11) dX11_ship_57 (fun H locs hP hS => ?_)
          obtain ⟨v12, h, hP⟩ := nv_p (P := fun z => va_P D vwCl (wd LM cy ad z) H) h hP
          refine lv_aload_n (pc := 58) C.1 C.2.1 dX11_ship_58 rfl (lv_at hl 0 rfl) ?_
          refine x_getr (pc := 59) C hP ck_11 24 fl_X11_60 (by decide) rfl kc0 dX11_ship_59 ?_
          have k13 : wk LM (rfM c0 24) 12 := wt_f wT_M kc0 24 (by decide) rfl rfl
          refine lv_aload_n (pc := 62) C.1 C.2.1 dX11_ship_62 rfl (lv_at hl 0 rfl) ?_
          refine x_geti (pc := 63) C hP ck_11 27 fl_X11_158 (by decide) rfl kc0 dX11_ship_63 ?_
          refine lv_iload_n (pc := 66) C.1 C.2.1 dX11_ship_66 rfl (lv_at hl 2 rfl) ?_
          obtain ⟨g14, h⟩ := gd_e h
          refine x_iast (pc := 67) C hI hP hS k13 (inB_vp g14) dX11_ship_67 (fun H locs hP hS => ?_)
          obtain ⟨v15, h, hP⟩ := nv_p (P := fun z => va_P D vwCl (wd LM cy ad z) H) h hP
          refine lv_aload_n (pc := 68) C.1 C.2.1 dX11_ship_68 rfl (lv_at hl 0 rfl) ?_
          refine x_getr (pc := 69) C hP ck_11 25 fl_X11_63 (by decide) rfl kc0 dX11_ship_69 ?_
          have k16 : wk LM (rfM c0 25) 12 := wt_f wT_M kc0 25 (by decide) rfl rfl
          refine lv_aload_n (pc := 72) C.1 C.2.1 dX11_ship_72 rfl (lv_at hl 0 rfl) ?_
          refine x_geti (pc := 73) C hP ck_11 27 fl_X11_158 (by decide) rfl kc0 dX11_ship_73 ?_
          refine lv_iload_n (pc := 76) C.1 C.2.1 dX11_ship_76 rfl (lv_at hl 3 rfl) ?_
          obtain ⟨g17, h⟩ := gd_e h
          refine x_iast (pc := 77) C hI hP hS k16 (inB_vp g17) dX11_ship_77 (fun H locs hP hS => ?_)
          obtain ⟨v18, h, hP⟩ := nv_p (P := fun z => va_P D vwCl (wd LM cy ad z) H) h hP
          refine lv_aload_n (pc := 78) C.1 C.2.1 dX11_ship_78 rfl (lv_at hl 0 rfl) ?_
          refine lv_dup (pc := 79) C.1 C.2.1 dX11_ship_79 rfl ?_
          refine x_geti (pc := 80) C hP ck_11 27 fl_X11_158 (by decide) rfl kc0 dX11_ship_80 ?_
          refine lv_iconst (pc := 83) (v := 1) C.1 C.2.1 dX11_ship_83 (by decide) ?_
          refine lv_iadd (pc := 84) C.1 C.2.1 dX11_ship_84 ?_
          refine x_put (pc := 85) C hI hP hS ck_11 27 fl_X11_158 (by decide) rfl rfl kc0 rfl rfl dX11_ship_85 (fun H locs hP hS => ?_)
          obtain ⟨v19, h, hP⟩ := nv_p (P := fun z => va_P D vwCl (wd LM cy ad z) H) h hP
          refine lv_aload_n (pc := 88) C.1 C.2.1 dX11_ship_88 rfl (lv_at hl 0 rfl) ?_
          refine x_geti (pc := 89) C hP ck_11 27 fl_X11_158 (by decide) rfl kc0 dX11_ship_89 ?_
          refine lv_iconst (pc := 92) (v := 1) C.1 C.2.1 dX11_ship_92 (by decide) ?_
          refine lv_isub (pc := 93) C.1 C.2.1 dX11_ship_93 ?_
          exact x_iret (pc := 94) C hr hlk hP hS h dX11_ship_94
        · replace h := if_t h b42
          refine lv_bipush (pc := 45) (v := (-4)) C.1 C.2.1 dX11_ship_45 (by decide) ?_
          exact x_iret (pc := 47) C hr hlk hP hS h dX11_ship_47
      · replace h := if_t h b31
        refine lv_bipush (pc := 34) (v := (-2)) C.1 C.2.1 dX11_ship_34 (by decide) ?_
        exact x_iret (pc := 36) C hr hlk hP hS h dX11_ship_36
  · replace h := if_t h b5
    refine lv_iconst (pc := 8) (v := (-1)) C.1 C.2.1 dX11_ship_8 (by decide) ?_
    exact x_iret (pc := 9) C hr hlk hP hS h dX11_ship_9
set_option maxRecDepth 100000 in
theorem m_X11_ship (hI : wI LM ad) {c0 : Nat} {i1 : Int32} {i2 : Int32} {i3 : Int32} {v : VV} {rZ : Int32} {vZ : VV} (kc0 : wk LM c0 11) (h : F_X11_ship c0 i1 i2 i3 v = some (rZ, vZ)) : Met l yX11_ship (Cond.code yX11_ship cX11_ship 4 (some .int) :: wsG) (rmL 3) (pcG LM cy ad D [.ref (ad c0), .int i1, .int i2, .int i3] v) (qiG LM cy ad D rZ vZ) 0 0 (wA LM ad) := by
  refine Met.ofW (cc := cX11_ship) (maxL := 4) (ret := (some .int)) (by decide) rfl ?_
  intro p e s m args below meth c s₁ B hml hv
  obtain ⟨rfl, hP, hK⟩ := hv
  have hts := atoms_spec (ws := Cond.code yX11_ship cX11_ship 4 (some .int) :: wsG) B.pre
  have hown : s.vm.findClass RX11 = some m.cls := findClass_of_methodNamed B.named
  have C : Cx p s m _ c cX11_ship 4 RX11 D cy := ⟨B.exec, B.bytes, hml, hown, fun w hw => hts w (List.mem_cons_of_mem _ hw), hK⟩
  have hl := lv_entry ([.ref (ad c0), .int i1, .int i2, .int i3]) (n := 4) (Nat.le_of_ble_eq_true rfl)
  rw [lg_entry_eq]
  generalize (lg_sl ([.ref (ad c0), .int i1, .int i2, .int i3]) ++ List.replicate (4 - (lg_sl ([.ref (ad c0), .int i1, .int i2, .int i3])).length) Slot.unset).toArray = ls at hl ⊢
  have hl : lv_has ls 4 [(0, .ref (ad c0)), (1, .int i1), (2, .int i2), (3, .int i3)] := hl
  exact w_X11_ship C hI B.returns B.notSynchronized (RoL_rm _) c0 i1 i2 i3 v _ _ _ kc0 h hP va_S.rf (lv_sub hl [0, 1, 2, 3] rfl)
def f_X11_whyNot (c0 : Nat) (i1 : Int32) (i2 : Int32) (i3 : Int32) (v : VV) : Option (Int32 × VV) :=
  bi (F_X11_isShip c0 i1 v) fun x3 v2 =>
  if (x3 = 0) then
    some ((-1), v2)
  else
    bi (F_X11_isGood i2 v2) fun x6 v5 =>
    if (x6 = 0) then
      some ((-1), v5)
    else
      bi (F_X11_in (Int32.toInt64 i3) 1 20 v5) fun x9 v8 =>
      if (x9 = 0) then
        some ((-2), v8)
      else
        gd (inB i1 (lnM (rfM c0 23)) = true) <|
        gd (inB (v8 (rfM c0 23) (Int32.toNatClampNeg i1)) (lnM (rfM c0 12)) = true) <|
        if ((v8 (rfM c0 12) (Int32.toNatClampNeg (v8 (rfM c0 23) (Int32.toNatClampNeg i1)))) = 0) then
          some (0, v8)
        else
          some ((-5), v8)
abbrev F_X11_whyNot (c0 : Nat) (i1 : Int32) (i2 : Int32) (i3 : Int32) (v : VV) : Option (Int32 × VV) := f_X11_whyNot c0 i1 i2 i3 v
set_option maxHeartbeats 4000000 in
set_option maxRecDepth 100000 in
theorem w_X11_whyNot (C : Cx p s m args c cX11_whyNot 4 RX11 D cy) (hI : wI LM ad) (hr : meth.sig.returnType = some .int) (hlk : meth.locks = false) (hR : RoL 3 R) {rZ : Int32} {vZ : VV} : ∀ (c0 : Nat) (i1 : Int32) (i2 : Int32) (i3 : Int32) (v : VV) (H : Heap) (locs : List Loc) (ls : Array Slot), wk LM c0 11 → f_X11_whyNot c0 i1 i2 i3 v = some (rZ, vZ) → va_P D vwCl (wd LM cy ad v) H → va_S (wA LM ad) s.heap H locs → lv_has ls 4 [(0, .ref (ad c0)), (1, .int i1), (2, .int i2), (3, .int i3)] → W p l e R s m args below meth c H locs 0 0 (MQ below (qiG LM cy ad D rZ vZ) args s 0 0 (wA LM ad)) (F0 m 0 ls []) := by
  intro c0 i1 i2 i3 v H locs ls kc0 h hP hS hl
  unfold f_X11_whyNot at h
  refine lv_aload_n (pc := 0) C.1 C.2.1 dX11_whyNot_0 rfl (lv_at hl 0 rfl) ?_
  refine lv_iload_n (pc := 1) C.1 C.2.1 dX11_whyNot_1 rfl (lv_at hl 1 rfl) ?_
  obtain ⟨x3, v2, hc1, h⟩ := bi_e h
  refine x_calli (pc := 2) C hP hS mi_X11_isShip ck_11 kc0 ml_X11_163 (hR.le (by decide)) (Nat.zero_le _) (Nat.zero_le _) [.int i1] rfl hl.1 rfl (Nat.le_of_ble_eq_true rfl) dX11_whyNot_2 (m_X11_isShip hI kc0 hc1) (fun H locs hP hS => ?_)
  refine lv_if_eq (pc := 5) (tgt := 15) C.1 C.2.1 dX11_whyNot_5 (by decide) (fun b5 => ?_) (fun b5 => ?_)
  · replace h := if_t h b5
    refine lv_iconst (pc := 15) (v := (-1)) C.1 C.2.1 dX11_whyNot_15 (by decide) ?_
    exact x_iret (pc := 16) C hr hlk hP hS h dX11_whyNot_16
  · replace h := if_f h b5
    refine lv_iload_n (pc := 8) C.1 C.2.1 dX11_whyNot_8 rfl (lv_at hl 2 rfl) ?_
    obtain ⟨x6, v5, hc4, h⟩ := bi_e h
    refine x_callsi (pc := 9) C hP hS ms_X11_isGood ml_X11_103 (hR.le (by decide)) (Nat.zero_le _) (Nat.zero_le _) [.int i2] rfl hl.1 rfl (Nat.le_of_ble_eq_true rfl) dX11_whyNot_9 (m_X11_isGood hI hc4) (fun H locs hP hS => ?_)
    refine lv_if_ne (pc := 12) (tgt := 17) C.1 C.2.1 dX11_whyNot_12 (by decide) (fun b12 => ?_) (fun b12 => ?_)
    · replace h := if_f h b12
      refine lv_iload_n (pc := 17) C.1 C.2.1 dX11_whyNot_17 rfl (lv_at hl 3 rfl) ?_
      refine lv_i2l (pc := 18) C.1 C.2.1 dX11_whyNot_18 rfl ?_
      refine lv_lconst (pc := 19) (v := 1) C.1 C.2.1 dX11_whyNot_19 (by decide) ?_
      refine lv_ldc2 (pc := 20) (v := 20) C.1 C.2.1 C.2.2.2.1 (C.2.2.2.2.1 _ cl_X11_124) dX11_whyNot_20 ?_
      obtain ⟨x9, v8, hc7, h⟩ := bi_e h
      refine x_callsi (pc := 23) C hP hS ms_X11_in ml_X11_93 (hR.le (by decide)) (Nat.zero_le _) (Nat.zero_le _) [.long (Int32.toInt64 i3), .long 1, .long 20] rfl hl.1 rfl (Nat.le_of_ble_eq_true rfl) dX11_whyNot_23 (m_X11_in hI hc7) (fun H locs hP hS => ?_)
      refine lv_if_ne (pc := 26) (tgt := 32) C.1 C.2.1 dX11_whyNot_26 (by decide) (fun b26 => ?_) (fun b26 => ?_)
      · replace h := if_f h b26
        refine lv_aload_n (pc := 32) C.1 C.2.1 dX11_whyNot_32 rfl (lv_at hl 0 rfl) ?_
        refine x_getr (pc := 33) C hP ck_11 12 fl_X11_41 (by decide) rfl kc0 dX11_whyNot_33 ?_
        have k10 : wk LM (rfM c0 12) 13 := wt_f wT_M kc0 12 (by decide) rfl rfl
        refine lv_aload_n (pc := 36) C.1 C.2.1 dX11_whyNot_36 rfl (lv_at hl 0 rfl) ?_
        refine x_getr (pc := 37) C hP ck_11 23 fl_X11_57 (by decide) rfl kc0 dX11_whyNot_37 ?_
        have k11 : wk LM (rfM c0 23) 12 := wt_f wT_M kc0 23 (by decide) rfl rfl
        refine lv_iload_n (pc := 40) C.1 C.2.1 dX11_whyNot_40 rfl (lv_at hl 1 rfl) ?_
        obtain ⟨g12, h⟩ := gd_e h
        refine x_iald (pc := 41) C hP k11 (inB_vp g12) dX11_whyNot_41 ?_
        obtain ⟨g13, h⟩ := gd_e h
        refine x_zald (pc := 42) C hP k10 (inB_vp g13) dX11_whyNot_42 ?_
        refine lv_if_eq (pc := 43) (tgt := 51) C.1 C.2.1 dX11_whyNot_43 (by decide) (fun b43 => ?_) (fun b43 => ?_)
        · replace h := if_t h b43
          refine lv_iconst (pc := 51) (v := 0) C.1 C.2.1 dX11_whyNot_51 (by decide) ?_
          exact x_iret (pc := 52) C hr hlk hP hS h dX11_whyNot_52
        · replace h := if_f h b43
          refine lv_bipush (pc := 46) (v := (-5)) C.1 C.2.1 dX11_whyNot_46 (by decide) ?_
          refine lv_goto (pc := 48) (tgt := 52) C.1 C.2.1 dX11_whyNot_48 (by decide) ?_
          exact x_iret (pc := 52) C hr hlk hP hS h dX11_whyNot_52
      · replace h := if_t h b26
        refine lv_bipush (pc := 29) (v := (-2)) C.1 C.2.1 dX11_whyNot_29 (by decide) ?_
        exact x_iret (pc := 31) C hr hlk hP hS h dX11_whyNot_31
    · replace h := if_t h b12
      refine lv_iconst (pc := 15) (v := (-1)) C.1 C.2.1 dX11_whyNot_15 (by decide) ?_
      exact x_iret (pc := 16) C hr hlk hP hS h dX11_whyNot_16
set_option maxRecDepth 100000 in
theorem m_X11_whyNot (hI : wI LM ad) {c0 : Nat} {i1 : Int32} {i2 : Int32} {i3 : Int32} {v : VV} {rZ : Int32} {vZ : VV} (kc0 : wk LM c0 11) (h : F_X11_whyNot c0 i1 i2 i3 v = some (rZ, vZ)) : Met l yX11_whyNot (Cond.code yX11_whyNot cX11_whyNot 4 (some .int) :: wsG) (rmL 3) (pcG LM cy ad D [.ref (ad c0), .int i1, .int i2, .int i3] v) (qiG LM cy ad D rZ vZ) 0 0 (wA LM ad) := by
  refine Met.ofW (cc := cX11_whyNot) (maxL := 4) (ret := (some .int)) (by decide) rfl ?_
  intro p e s m args below meth c s₁ B hml hv
  obtain ⟨rfl, hP, hK⟩ := hv
  have hts := atoms_spec (ws := Cond.code yX11_whyNot cX11_whyNot 4 (some .int) :: wsG) B.pre
  have hown : s.vm.findClass RX11 = some m.cls := findClass_of_methodNamed B.named
  have C : Cx p s m _ c cX11_whyNot 4 RX11 D cy := ⟨B.exec, B.bytes, hml, hown, fun w hw => hts w (List.mem_cons_of_mem _ hw), hK⟩
  have hl := lv_entry ([.ref (ad c0), .int i1, .int i2, .int i3]) (n := 4) (Nat.le_of_ble_eq_true rfl)
  rw [lg_entry_eq]
  generalize (lg_sl ([.ref (ad c0), .int i1, .int i2, .int i3]) ++ List.replicate (4 - (lg_sl ([.ref (ad c0), .int i1, .int i2, .int i3])).length) Slot.unset).toArray = ls at hl ⊢
  have hl : lv_has ls 4 [(0, .ref (ad c0)), (1, .int i1), (2, .int i2), (3, .int i3)] := hl
  exact w_X11_whyNot C hI B.returns B.notSynchronized (RoL_rm _) c0 i1 i2 i3 v _ _ _ kc0 h hP va_S.rf (lv_sub hl [0, 1, 2, 3] rfl)
def f_X11_buy_l36 : Nat → Nat → Int32 → Int32 → Int32 → Int32 → Int32 → Int32 → VV → Option (Int32 × VV)
  | 0, _, _, _, _, _, _, _, _ => none
  | n + 1, c0, i1, i2, i3, i5, i6, i7, v =>
    if (i3 ≤ i7) then
      some (i7, v)
    else
      bi (F_X11_load c0 i1 v) fun x10 v9 =>
      gd (inB i1 (lnM (rfM c0 24)) = true) <|
      if ((v9 (rfM c0 24) (Int32.toNatClampNeg i1)) ≤ x10) then
        some (i7, v9)
      else
        gd (inB i6 (lnM (rfM c0 3)) = true) <|
        if ((v9 (rfM c0 3) (Int32.toNatClampNeg i6)) ≤ 0) then
          some (i7, v9)
        else
          gd (inB i1 (lnM (rfM c0 25)) = true) <|
          gd (inB i6 (lnM (rfM c0 3)) = true) <|
          bi (F_X11_priceWith c0 i6 (v9 (rfM c0 3) (Int32.toNatClampNeg i6)) v9) fun x21 v20 =>
          gd (inB i5 (lnM (rfM c0 9)) = true) <|
          if ((v9 (rfM c0 25) (Int32.toNatClampNeg i1)) < (x21 + (v20 (rfM c0 9) (Int32.toNatClampNeg i5)))) then
            some (i7, v20)
          else
            gd (inB i6 (lnM (rfM c0 3)) = true) <|
            bi (F_X11_priceWith c0 i6 (v20 (rfM c0 3) (Int32.toNatClampNeg i6)) v20) fun x28 v27 =>
            gd (inB i1 (lnM (rfM c0 25)) = true) <|
            gd (inB i5 (lnM (rfM c0 9)) = true) <|
            gd (inB i1 (lnM (rfM c0 25)) = true) <|
            nv (wu v27 (rfM c0 25) (Int32.toNatClampNeg i1) ((v27 (rfM c0 25) (Int32.toNatClampNeg i1)) - (x28 + (v27 (rfM c0 9) (Int32.toNatClampNeg i5))))) fun v34 =>
            gd (inB i5 (lnM (rfM c0 10)) = true) <|
            gd (inB i5 (lnM (rfM c0 9)) = true) <|
            gd (inB i5 (lnM (rfM c0 10)) = true) <|
            nv (wu v34 (rfM c0 10) (Int32.toNatClampNeg i5) ((v34 (rfM c0 10) (Int32.toNatClampNeg i5)) + (v34 (rfM c0 9) (Int32.toNatClampNeg i5)))) fun v40 =>
            gd (inB i5 (lnM (rfM c0 11)) = true) <|
            gd (inB i5 (lnM (rfM c0 11)) = true) <|
            nv (wu v40 (rfM c0 11) (Int32.toNatClampNeg i5) ((v40 (rfM c0 11) (Int32.toNatClampNeg i5)) - x28)) fun v44 =>
            gd (inB i6 (lnM (rfM c0 3)) = true) <|
            gd (inB i6 (lnM (rfM c0 3)) = true) <|
            nv (wu v44 (rfM c0 3) (Int32.toNatClampNeg i6) ((v44 (rfM c0 3) (Int32.toNatClampNeg i6)) - 1)) fun v48 =>
            gd (inB ((3 * i1) + i2) (lnM (rfM c0 26)) = true) <|
            gd (inB ((3 * i1) + i2) (lnM (rfM c0 26)) = true) <|
            nv (wu v48 (rfM c0 26) (Int32.toNatClampNeg ((3 * i1) + i2)) ((v48 (rfM c0 26) (Int32.toNatClampNeg ((3 * i1) + i2))) + 1)) fun v52 =>
            nv (i7 + 1) fun x53 =>
            f_X11_buy_l36 n c0 i1 i2 i3 i5 i6 x53 v52
def f_X11_buy (c0 : Nat) (i1 : Int32) (i2 : Int32) (i3 : Int32) (v : VV) : Option (Int32 × VV) :=
  bi (F_X11_whyNot c0 i1 i2 i3 v) fun x3 v2 =>
  if (0 ≤ x3) then
    gd (inB i1 (lnM (rfM c0 23)) = true) <|
    nv ((v2 (rfM c0 23) (Int32.toNatClampNeg i1))) fun x6 =>
    nv (((3 * x6) + i2)) fun x7 =>
    f_X11_buy_l36 FU c0 i1 i2 i3 x6 x7 0 v2
  else
    some (x3, v2)
abbrev F_X11_buy (c0 : Nat) (i1 : Int32) (i2 : Int32) (i3 : Int32) (v : VV) : Option (Int32 × VV) := f_X11_buy c0 i1 i2 i3 v
set_option maxHeartbeats 4000000 in
set_option maxRecDepth 100000 in
theorem w_X11_buy_l36 (C : Cx p s m args c cX11_buy 9 RX11 D cy) (hI : wI LM ad) (hr : meth.sig.returnType = some .int) (hlk : meth.locks = false) (hR : RoL 4 R) {rZ : Int32} {vZ : VV} : ∀ (n : Nat) (c0 : Nat) (i1 : Int32) (i2 : Int32) (i3 : Int32) (i5 : Int32) (i6 : Int32) (i7 : Int32) (v : VV) (H : Heap) (locs : List Loc) (ls : Array Slot), wk LM c0 11 → f_X11_buy_l36 n c0 i1 i2 i3 i5 i6 i7 v = some (rZ, vZ) → va_P D vwCl (wd LM cy ad v) H → va_S (wA LM ad) s.heap H locs → lv_has ls 9 [(0, .ref (ad c0)), (1, .int i1), (2, .int i2), (3, .int i3), (5, .int i5), (6, .int i6), (7, .int i7)] → W p l e R s m args below meth c H locs 0 0 (MQ below (qiG LM cy ad D rZ vZ) args s 0 0 (wA LM ad)) (F0 m 36 ls []) := by
  intro n
  induction n with
  | zero => intro c0 i1 i2 i3 i5 i6 i7 v H locs ls kc0 h hP hS hl; exact absurd h (by simp [f_X11_buy_l36])
  | succ n ih =>
    intro c0 i1 i2 i3 i5 i6 i7 v H locs ls kc0 h hP hS hl
    rw [f_X11_buy_l36] at h
    refine lv_iload (pc := 36) C.1 C.2.1 dX11_buy_36 (lv_at hl 6 rfl) ?_
    refine lv_iload_n (pc := 38) C.1 C.2.1 dX11_buy_38 rfl (lv_at hl 3 rfl) ?_
    refine lv_icmp_ge (pc := 39) (tgt := 190) C.1 C.2.1 dX11_buy_39 (by decide) (fun b39 => ?_) (fun b39 => ?_)
    · replace h := if_t h b39
      refine lv_iload (pc := 190) C.1 C.2.1 dX11_buy_190 (lv_at hl 6 rfl) ?_
      exact x_iret (pc := 192) C hr hlk hP hS h dX11_buy_192
    · replace h := if_f h b39
      refine lv_aload_n (pc := 42) C.1 C.2.1 dX11_buy_42 rfl (lv_at hl 0 rfl) ?_
      refine lv_iload_n (pc := 43) C.1 C.2.1 dX11_buy_43 rfl (lv_at hl 1 rfl) ?_
      obtain ⟨x10, v9, hc8, h⟩ := bi_e h
      refine x_calli (pc := 44) C hP hS mi_X11_load ck_11 kc0 ml_X11_170 (hR.le (by decide)) (Nat.zero_le _) (Nat.zero_le _) [.int i1] rfl hl.1 rfl (Nat.le_of_ble_eq_true rfl) dX11_buy_44 (m_X11_load hI kc0 hc8) (fun H locs hP hS => ?_)
      refine lv_aload_n (pc := 47) C.1 C.2.1 dX11_buy_47 rfl (lv_at hl 0 rfl) ?_
      refine x_getr (pc := 48) C hP ck_11 24 fl_X11_60 (by decide) rfl kc0 dX11_buy_48 ?_
      have k11 : wk LM (rfM c0 24) 12 := wt_f wT_M kc0 24 (by decide) rfl rfl
      refine lv_iload_n (pc := 51) C.1 C.2.1 dX11_buy_51 rfl (lv_at hl 1 rfl) ?_
      obtain ⟨g12, h⟩ := gd_e h
      refine x_iald (pc := 52) C hP k11 (inB_vp g12) dX11_buy_52 ?_
      refine lv_icmp_ge (pc := 53) (tgt := 190) C.1 C.2.1 dX11_buy_53 (by decide) (fun b53 => ?_) (fun b53 => ?_)
      · replace h := if_t h b53
        refine lv_iload (pc := 190) C.1 C.2.1 dX11_buy_190 (lv_at hl 6 rfl) ?_
        exact x_iret (pc := 192) C hr hlk hP hS h dX11_buy_192
      · replace h := if_f h b53
        refine lv_aload_n (pc := 56) C.1 C.2.1 dX11_buy_56 rfl (lv_at hl 0 rfl) ?_
        refine x_getr (pc := 57) C hP ck_11 3 fl_X11_13 (by decide) rfl kc0 dX11_buy_57 ?_
        have k13 : wk LM (rfM c0 3) 12 := wt_f wT_M kc0 3 (by decide) rfl rfl
        refine lv_iload (pc := 60) C.1 C.2.1 dX11_buy_60 (lv_at hl 5 rfl) ?_
        obtain ⟨g14, h⟩ := gd_e h
        refine x_iald (pc := 62) C hP k13 (inB_vp g14) dX11_buy_62 ?_
        refine lv_if_le (pc := 63) (tgt := 190) C.1 C.2.1 dX11_buy_63 (by decide) (fun b63 => ?_) (fun b63 => ?_)
        · replace h := if_t h b63
          refine lv_iload (pc := 190) C.1 C.2.1 dX11_buy_190 (lv_at hl 6 rfl) ?_
          exact x_iret (pc := 192) C hr hlk hP hS h dX11_buy_192
        · replace h := if_f h b63
          refine lv_aload_n (pc := 66) C.1 C.2.1 dX11_buy_66 rfl (lv_at hl 0 rfl) ?_
          refine x_getr (pc := 67) C hP ck_11 25 fl_X11_63 (by decide) rfl kc0 dX11_buy_67 ?_
          have k15 : wk LM (rfM c0 25) 12 := wt_f wT_M kc0 25 (by decide) rfl rfl
          refine lv_iload_n (pc := 70) C.1 C.2.1 dX11_buy_70 rfl (lv_at hl 1 rfl) ?_
          obtain ⟨g16, h⟩ := gd_e h
          refine x_iald (pc := 71) C hP k15 (inB_vp g16) dX11_buy_71 ?_
          refine lv_aload_n (pc := 72) C.1 C.2.1 dX11_buy_72 rfl (lv_at hl 0 rfl) ?_
          refine lv_iload (pc := 73) C.1 C.2.1 dX11_buy_73 (lv_at hl 5 rfl) ?_
          refine lv_aload_n (pc := 75) C.1 C.2.1 dX11_buy_75 rfl (lv_at hl 0 rfl) ?_
          refine x_getr (pc := 76) C hP ck_11 3 fl_X11_13 (by decide) rfl kc0 dX11_buy_76 ?_
          have k17 : wk LM (rfM c0 3) 12 := wt_f wT_M kc0 3 (by decide) rfl rfl
          refine lv_iload (pc := 79) C.1 C.2.1 dX11_buy_79 (lv_at hl 5 rfl) ?_
          obtain ⟨g18, h⟩ := gd_e h
          refine x_iald (pc := 81) C hP k17 (inB_vp g18) dX11_buy_81 ?_
          obtain ⟨x21, v20, hc19, h⟩ := bi_e h
          refine x_calli (pc := 82) C hP hS mi_X11_priceWith ck_11 kc0 ml_X11_121 (hR.le (by decide)) (Nat.zero_le _) (Nat.zero_le _) [.int i6, .int (v9 (rfM c0 3) (Int32.toNatClampNeg i6))] rfl hl.1 rfl (Nat.le_of_ble_eq_true rfl) dX11_buy_82 (m_X11_priceWith hI kc0 hc19) (fun H locs hP hS => ?_)
          refine lv_aload_n (pc := 85) C.1 C.2.1 dX11_buy_85 rfl (lv_at hl 0 rfl) ?_
          refine x_getr (pc := 86) C hP ck_11 9 fl_X11_32 (by decide) rfl kc0 dX11_buy_86 ?_
          have k22 : wk LM (rfM c0 9) 12 := wt_f wT_M kc0 9 (by decide) rfl rfl
          refine lv_iload (pc := 89) C.1 C.2.1 dX11_buy_89 (lv_at hl 4 rfl) ?_
          obtain ⟨g23, h⟩ := gd_e h
          refine x_iald (pc := 91) C hP k22 (inB_vp g23) dX11_buy_91 ?_
          refine lv_iadd (pc := 92) C.1 C.2.1 dX11_buy_92 ?_
          refine lv_icmp_lt (pc := 93) (tgt := 190) C.1 C.2.1 dX11_buy_93 (by decide) (fun b93 => ?_) (fun b93 => ?_)
          · replace h := if_t h b93
            refine lv_iload (pc := 190) C.1 C.2.1 dX11_buy_190 (lv_at hl 6 rfl) ?_
            exact x_iret (pc := 192) C hr hlk hP hS h dX11_buy_192
          · replace h := if_f h b93
            refine lv_aload_n (pc := 96) C.1 C.2.1 dX11_buy_96 rfl (lv_at hl 0 rfl) ?_
            refine lv_iload (pc := 97) C.1 C.2.1 dX11_buy_97 (lv_at hl 5 rfl) ?_
            refine lv_aload_n (pc := 99) C.1 C.2.1 dX11_buy_99 rfl (lv_at hl 0 rfl) ?_
            refine x_getr (pc := 100) C hP ck_11 3 fl_X11_13 (by decide) rfl kc0 dX11_buy_100 ?_
            have k24 : wk LM (rfM c0 3) 12 := wt_f wT_M kc0 3 (by decide) rfl rfl
            refine lv_iload (pc := 103) C.1 C.2.1 dX11_buy_103 (lv_at hl 5 rfl) ?_
            obtain ⟨g25, h⟩ := gd_e h
            refine x_iald (pc := 105) C hP k24 (inB_vp g25) dX11_buy_105 ?_
            obtain ⟨x28, v27, hc26, h⟩ := bi_e h
            refine x_calli (pc := 106) C hP hS mi_X11_priceWith ck_11 kc0 ml_X11_121 (hR.le (by decide)) (Nat.zero_le _) (Nat.zero_le _) [.int i6, .int (v20 (rfM c0 3) (Int32.toNatClampNeg i6))] rfl hl.1 rfl (Nat.le_of_ble_eq_true rfl) dX11_buy_106 (m_X11_priceWith hI kc0 hc26) (fun H locs hP hS => ?_)
            refine lv_istore (pc := 109) (lv' := [(8, .int x28), (0, .ref (ad c0)), (1, .int i1), (2, .int i2), (3, .int i3), (5, .int i5), (6, .int i6), (7, .int i7)]) C.1 C.2.1 dX11_buy_109 hl (by decide) rfl (fun ls hl => ?_)
            refine lv_aload_n (pc := 111) C.1 C.2.1 dX11_buy_111 rfl (lv_at hl 1 rfl) ?_
            refine x_getr (pc := 112) C hP ck_11 25 fl_X11_63 (by decide) rfl kc0 dX11_buy_112 ?_
            have k29 : wk LM (rfM c0 25) 12 := wt_f wT_M kc0 25 (by decide) rfl rfl
            refine lv_iload_n (pc := 115) C.1 C.2.1 dX11_buy_115 rfl (lv_at hl 2 rfl) ?_
            refine lv_dup2_11 (pc := 116) C.1 C.2.1 dX11_buy_116 rfl rfl ?_
            obtain ⟨g30, h⟩ := gd_e h
            refine x_iald (pc := 117) C hP k29 (inB_vp g30) dX11_buy_117 ?_
            refine lv_iload (pc := 118) C.1 C.2.1 dX11_buy_118 (lv_at hl 0 rfl) ?_
            refine lv_aload_n (pc := 120) C.1 C.2.1 dX11_buy_120 rfl (lv_at hl 1 rfl) ?_
            refine x_getr (pc := 121) C hP ck_11 9 fl_X11_32 (by decide) rfl kc0 dX11_buy_121 ?_
            have k31 : wk LM (rfM c0 9) 12 := wt_f wT_M kc0 9 (by decide) rfl rfl
            refine lv_iload (pc := 124) C.1 C.2.1 dX11_buy_124 (lv_at hl 5 rfl) ?_
            obtain ⟨g32, h⟩ := gd_e h
            refine x_iald (pc := 126) C hP k31 (inB_vp g32) dX11_buy_126 ?_
            refine lv_iadd (pc := 127) C.1 C.2.1 dX11_buy_127 ?_
            refine lv_isub (pc := 128) C.1 C.2.1 dX11_buy_128 ?_
            obtain ⟨g33, h⟩ := gd_e h
            refine x_iast (pc := 129) C hI hP hS k29 (inB_vp g33) dX11_buy_129 (fun H locs hP hS => ?_)
            obtain ⟨v34, h, hP⟩ := nv_p (P := fun z => va_P D vwCl (wd LM cy ad z) H) h hP
            refine lv_aload_n (pc := 130) C.1 C.2.1 dX11_buy_130 rfl (lv_at hl 1 rfl) ?_
            refine x_getr (pc := 131) C hP ck_11 10 fl_X11_35 (by decide) rfl kc0 dX11_buy_131 ?_
            have k35 : wk LM (rfM c0 10) 12 := wt_f wT_M kc0 10 (by decide) rfl rfl
            refine lv_iload (pc := 134) C.1 C.2.1 dX11_buy_134 (lv_at hl 5 rfl) ?_
            refine lv_dup2_11 (pc := 136) C.1 C.2.1 dX11_buy_136 rfl rfl ?_
            obtain ⟨g36, h⟩ := gd_e h
            refine x_iald (pc := 137) C hP k35 (inB_vp g36) dX11_buy_137 ?_
            refine lv_aload_n (pc := 138) C.1 C.2.1 dX11_buy_138 rfl (lv_at hl 1 rfl) ?_
            refine x_getr (pc := 139) C hP ck_11 9 fl_X11_32 (by decide) rfl kc0 dX11_buy_139 ?_
            have k37 : wk LM (rfM c0 9) 12 := wt_f wT_M kc0 9 (by decide) rfl rfl
            refine lv_iload (pc := 142) C.1 C.2.1 dX11_buy_142 (lv_at hl 5 rfl) ?_
            obtain ⟨g38, h⟩ := gd_e h
            refine x_iald (pc := 144) C hP k37 (inB_vp g38) dX11_buy_144 ?_
            refine lv_iadd (pc := 145) C.1 C.2.1 dX11_buy_145 ?_
            obtain ⟨g39, h⟩ := gd_e h
            refine x_iast (pc := 146) C hI hP hS k35 (inB_vp g39) dX11_buy_146 (fun H locs hP hS => ?_)
            obtain ⟨v40, h, hP⟩ := nv_p (P := fun z => va_P D vwCl (wd LM cy ad z) H) h hP
            refine lv_aload_n (pc := 147) C.1 C.2.1 dX11_buy_147 rfl (lv_at hl 1 rfl) ?_
            refine x_getr (pc := 148) C hP ck_11 11 fl_X11_38 (by decide) rfl kc0 dX11_buy_148 ?_
            have k41 : wk LM (rfM c0 11) 12 := wt_f wT_M kc0 11 (by decide) rfl rfl
            refine lv_iload (pc := 151) C.1 C.2.1 dX11_buy_151 (lv_at hl 5 rfl) ?_
            refine lv_dup2_11 (pc := 153) C.1 C.2.1 dX11_buy_153 rfl rfl ?_
            obtain ⟨g42, h⟩ := gd_e h
            refine x_iald (pc := 154) C hP k41 (inB_vp g42) dX11_buy_154 ?_
            refine lv_iload (pc := 155) C.1 C.2.1 dX11_buy_155 (lv_at hl 0 rfl) ?_
            refine lv_isub (pc := 157) C.1 C.2.1 dX11_buy_157 ?_
            obtain ⟨g43, h⟩ := gd_e h
            refine x_iast (pc := 158) C hI hP hS k41 (inB_vp g43) dX11_buy_158 (fun H locs hP hS => ?_)
            obtain ⟨v44, h, hP⟩ := nv_p (P := fun z => va_P D vwCl (wd LM cy ad z) H) h hP
            refine lv_aload_n (pc := 159) C.1 C.2.1 dX11_buy_159 rfl (lv_at hl 1 rfl) ?_
            refine x_getr (pc := 160) C hP ck_11 3 fl_X11_13 (by decide) rfl kc0 dX11_buy_160 ?_
            have k45 : wk LM (rfM c0 3) 12 := wt_f wT_M kc0 3 (by decide) rfl rfl
            refine lv_iload (pc := 163) C.1 C.2.1 dX11_buy_163 (lv_at hl 6 rfl) ?_
            refine lv_dup2_11 (pc := 165) C.1 C.2.1 dX11_buy_165 rfl rfl ?_
            obtain ⟨g46, h⟩ := gd_e h
            refine x_iald (pc := 166) C hP k45 (inB_vp g46) dX11_buy_166 ?_
            refine lv_iconst (pc := 167) (v := 1) C.1 C.2.1 dX11_buy_167 (by decide) ?_
            refine lv_isub (pc := 168) C.1 C.2.1 dX11_buy_168 ?_
            obtain ⟨g47, h⟩ := gd_e h
            refine x_iast (pc := 169) C hI hP hS k45 (inB_vp g47) dX11_buy_169 (fun H locs hP hS => ?_)
            obtain ⟨v48, h, hP⟩ := nv_p (P := fun z => va_P D vwCl (wd LM cy ad z) H) h hP
            refine lv_aload_n (pc := 170) C.1 C.2.1 dX11_buy_170 rfl (lv_at hl 1 rfl) ?_
            refine x_getr (pc := 171) C hP ck_11 26 fl_X11_66 (by decide) rfl kc0 dX11_buy_171 ?_
            have k49 : wk LM (rfM c0 26) 12 := wt_f wT_M kc0 26 (by decide) rfl rfl
            refine lv_iconst (pc := 174) (v := 3) C.1 C.2.1 dX11_buy_174 (by decide) ?_
            refine lv_iload_n (pc := 175) C.1 C.2.1 dX11_buy_175 rfl (lv_at hl 2 rfl) ?_
            refine lv_imul (pc := 176) C.1 C.2.1 dX11_buy_176 ?_
            refine lv_iload_n (pc := 177) C.1 C.2.1 dX11_buy_177 rfl (lv_at hl 3 rfl) ?_
            refine lv_iadd (pc := 178) C.1 C.2.1 dX11_buy_178 ?_
            refine lv_dup2_11 (pc := 179) C.1 C.2.1 dX11_buy_179 rfl rfl ?_
            obtain ⟨g50, h⟩ := gd_e h
            refine x_iald (pc := 180) C hP k49 (inB_vp g50) dX11_buy_180 ?_
            refine lv_iconst (pc := 181) (v := 1) C.1 C.2.1 dX11_buy_181 (by decide) ?_
            refine lv_iadd (pc := 182) C.1 C.2.1 dX11_buy_182 ?_
            obtain ⟨g51, h⟩ := gd_e h
            refine x_iast (pc := 183) C hI hP hS k49 (inB_vp g51) dX11_buy_183 (fun H locs hP hS => ?_)
            obtain ⟨v52, h, hP⟩ := nv_p (P := fun z => va_P D vwCl (wd LM cy ad z) H) h hP
            obtain ⟨x53, ex53⟩ : ∃ y : Int32, y = i7 + 1 := ⟨_, rfl⟩
            replace h := nv_e h ex53
            refine lv_iinc (pc := 184) (v := x53) (lv' := [(7, .int x53), (8, .int x28), (0, .ref (ad c0)), (1, .int i1), (2, .int i2), (3, .int i3), (5, .int i5), (6, .int i6)]) C.1 C.2.1 dX11_buy_184 hl (k := 7) rfl (by rw [ex53]; rfl) (by decide) rfl (fun ls hl => ?_)
            clear ex53
            refine lv_goto (pc := 187) (tgt := 36) C.1 C.2.1 dX11_buy_187 (by decide) ?_
            exact ih c0 i1 i2 i3 i5 i6 x53 v52 _ _ _ kc0 h hP hS (lv_sub hl [2, 3, 4, 5, 6, 7, 0] rfl)
set_option maxHeartbeats 4000000 in
set_option maxRecDepth 100000 in
theorem w_X11_buy (C : Cx p s m args c cX11_buy 9 RX11 D cy) (hI : wI LM ad) (hr : meth.sig.returnType = some .int) (hlk : meth.locks = false) (hR : RoL 4 R) {rZ : Int32} {vZ : VV} : ∀ (c0 : Nat) (i1 : Int32) (i2 : Int32) (i3 : Int32) (v : VV) (H : Heap) (locs : List Loc) (ls : Array Slot), wk LM c0 11 → f_X11_buy c0 i1 i2 i3 v = some (rZ, vZ) → va_P D vwCl (wd LM cy ad v) H → va_S (wA LM ad) s.heap H locs → lv_has ls 9 [(0, .ref (ad c0)), (1, .int i1), (2, .int i2), (3, .int i3)] → W p l e R s m args below meth c H locs 0 0 (MQ below (qiG LM cy ad D rZ vZ) args s 0 0 (wA LM ad)) (F0 m 0 ls []) := by
  intro c0 i1 i2 i3 v H locs ls kc0 h hP hS hl
  unfold f_X11_buy at h
  refine lv_aload_n (pc := 0) C.1 C.2.1 dX11_buy_0 rfl (lv_at hl 0 rfl) ?_
  refine lv_iload_n (pc := 1) C.1 C.2.1 dX11_buy_1 rfl (lv_at hl 1 rfl) ?_
  refine lv_iload_n (pc := 2) C.1 C.2.1 dX11_buy_2 rfl (lv_at hl 2 rfl) ?_
  refine lv_iload_n (pc := 3) C.1 C.2.1 dX11_buy_3 rfl (lv_at hl 3 rfl) ?_
  obtain ⟨x3, v2, hc1, h⟩ := bi_e h
  refine x_calli (pc := 4) C hP hS mi_X11_whyNot ck_11 kc0 ml_X11_166 (hR.le (by decide)) (Nat.zero_le _) (Nat.zero_le _) [.int i1, .int i2, .int i3] rfl hl.1 rfl (Nat.le_of_ble_eq_true rfl) dX11_buy_4 (m_X11_whyNot hI kc0 hc1) (fun H locs hP hS => ?_)
  refine lv_istore (pc := 7) (lv' := [(4, .int x3), (0, .ref (ad c0)), (1, .int i1), (2, .int i2), (3, .int i3)]) C.1 C.2.1 dX11_buy_7 hl (by decide) rfl (fun ls hl => ?_)
  refine lv_iload (pc := 9) C.1 C.2.1 dX11_buy_9 (lv_at hl 0 rfl) ?_
  refine lv_if_ge (pc := 11) (tgt := 17) C.1 C.2.1 dX11_buy_11 (by decide) (fun b11 => ?_) (fun b11 => ?_)
  · replace h := if_t h b11
    refine lv_aload_n (pc := 17) C.1 C.2.1 dX11_buy_17 rfl (lv_at hl 1 rfl) ?_
    refine x_getr (pc := 18) C hP ck_11 23 fl_X11_57 (by decide) rfl kc0 dX11_buy_18 ?_
    have k4 : wk LM (rfM c0 23) 12 := wt_f wT_M kc0 23 (by decide) rfl rfl
    refine lv_iload_n (pc := 21) C.1 C.2.1 dX11_buy_21 rfl (lv_at hl 2 rfl) ?_
    obtain ⟨g5, h⟩ := gd_e h
    refine x_iald (pc := 22) C hP k4 (inB_vp g5) dX11_buy_22 ?_
    refine lv_topi (fun x6 ex6 => ?_)
    replace h := nv_e h ex6
    clear ex6
    refine lv_istore (pc := 23) (lv' := [(5, .int x6), (4, .int x3), (0, .ref (ad c0)), (1, .int i1), (2, .int i2), (3, .int i3)]) C.1 C.2.1 dX11_buy_23 hl (by decide) rfl (fun ls hl => ?_)
    refine lv_iconst (pc := 25) (v := 3) C.1 C.2.1 dX11_buy_25 (by decide) ?_
    refine lv_iload (pc := 26) C.1 C.2.1 dX11_buy_26 (lv_at hl 0 rfl) ?_
    refine lv_imul (pc := 28) C.1 C.2.1 dX11_buy_28 ?_
    refine lv_iload_n (pc := 29) C.1 C.2.1 dX11_buy_29 rfl (lv_at hl 4 rfl) ?_
    refine lv_iadd (pc := 30) C.1 C.2.1 dX11_buy_30 ?_
    refine lv_topi (fun x7 ex7 => ?_)
    replace h := nv_e h ex7
    clear ex7
    refine lv_istore (pc := 31) (lv' := [(6, .int x7), (5, .int x6), (4, .int x3), (0, .ref (ad c0)), (1, .int i1), (2, .int i2), (3, .int i3)]) C.1 C.2.1 dX11_buy_31 hl (by decide) rfl (fun ls hl => ?_)
    refine lv_iconst (pc := 33) (v := 0) C.1 C.2.1 dX11_buy_33 (by decide) ?_
    refine lv_istore (pc := 34) (lv' := [(7, .int 0), (6, .int x7), (5, .int x6), (4, .int x3), (0, .ref (ad c0)), (1, .int i1), (2, .int i2), (3, .int i3)]) C.1 C.2.1 dX11_buy_34 hl (by decide) rfl (fun ls hl => ?_)
    refine w_X11_buy_l36 C hI hr hlk hR FU c0 i1 i2 i3 x6 x7 0 v2 _ _ _ kc0 h hP hS (lv_sub hl [4, 5, 6, 7, 2, 1, 0] rfl)
  · replace h := if_f h b11
    refine lv_iload (pc := 14) C.1 C.2.1 dX11_buy_14 (lv_at hl 0 rfl) ?_
    exact x_iret (pc := 16) C hr hlk hP hS h dX11_buy_16
set_option maxRecDepth 100000 in
theorem m_X11_buy (hI : wI LM ad) {c0 : Nat} {i1 : Int32} {i2 : Int32} {i3 : Int32} {v : VV} {rZ : Int32} {vZ : VV} (kc0 : wk LM c0 11) (h : F_X11_buy c0 i1 i2 i3 v = some (rZ, vZ)) : Met l yX11_buy (Cond.code yX11_buy cX11_buy 9 (some .int) :: wsG) (rmL 4) (pcG LM cy ad D [.ref (ad c0), .int i1, .int i2, .int i3] v) (qiG LM cy ad D rZ vZ) 0 0 (wA LM ad) := by
  refine Met.ofW (cc := cX11_buy) (maxL := 9) (ret := (some .int)) (by decide) rfl ?_
  intro p e s m args below meth c s₁ B hml hv
  obtain ⟨rfl, hP, hK⟩ := hv
  have hts := atoms_spec (ws := Cond.code yX11_buy cX11_buy 9 (some .int) :: wsG) B.pre
  have hown : s.vm.findClass RX11 = some m.cls := findClass_of_methodNamed B.named
  have C : Cx p s m _ c cX11_buy 9 RX11 D cy := ⟨B.exec, B.bytes, hml, hown, fun w hw => hts w (List.mem_cons_of_mem _ hw), hK⟩
  have hl := lv_entry ([.ref (ad c0), .int i1, .int i2, .int i3]) (n := 9) (Nat.le_of_ble_eq_true rfl)
  rw [lg_entry_eq]
  generalize (lg_sl ([.ref (ad c0), .int i1, .int i2, .int i3]) ++ List.replicate (9 - (lg_sl ([.ref (ad c0), .int i1, .int i2, .int i3])).length) Slot.unset).toArray = ls at hl ⊢
  have hl : lv_has ls 9 [(0, .ref (ad c0)), (1, .int i1), (2, .int i2), (3, .int i3)] := hl
  exact w_X11_buy C hI B.returns B.notSynchronized (RoL_rm _) c0 i1 i2 i3 v _ _ _ kc0 h hP va_S.rf (lv_sub hl [0, 1, 2, 3] rfl)
def f_X11_gainWith (c0 : Nat) (i1 : Int32) (i2 : Int32) (v : VV) : Option (Int32 × VV) :=
  bi (F_X11_priceWith c0 i1 (i2 + 1) v) fun x3 v2 =>
  gd (inB (i1 / 3) (lnM (rfM c0 9)) = true) <|
  nv ((v2 (rfM c0 9) (Int32.toNatClampNeg (i1 / 3)))) fun x7 =>
  if (x7 ≤ x3) then
    some ((x3 - x7), v2)
  else
    some (0, v2)
abbrev F_X11_gainWith (c0 : Nat) (i1 : Int32) (i2 : Int32) (v : VV) : Option (Int32 × VV) := f_X11_gainWith c0 i1 i2 v
set_option maxHeartbeats 4000000 in
set_option maxRecDepth 100000 in
theorem w_X11_gainWith (C : Cx p s m args c cX11_gainWith 5 RX11 D cy) (hI : wI LM ad) (hr : meth.sig.returnType = some .int) (hlk : meth.locks = false) (hR : RoL 2 R) {rZ : Int32} {vZ : VV} : ∀ (c0 : Nat) (i1 : Int32) (i2 : Int32) (v : VV) (H : Heap) (locs : List Loc) (ls : Array Slot), wk LM c0 11 → f_X11_gainWith c0 i1 i2 v = some (rZ, vZ) → va_P D vwCl (wd LM cy ad v) H → va_S (wA LM ad) s.heap H locs → lv_has ls 5 [(0, .ref (ad c0)), (1, .int i1), (2, .int i2)] → W p l e R s m args below meth c H locs 0 0 (MQ below (qiG LM cy ad D rZ vZ) args s 0 0 (wA LM ad)) (F0 m 0 ls []) := by
  intro c0 i1 i2 v H locs ls kc0 h hP hS hl
  unfold f_X11_gainWith at h
  refine lv_aload_n (pc := 0) C.1 C.2.1 dX11_gainWith_0 rfl (lv_at hl 0 rfl) ?_
  refine lv_iload_n (pc := 1) C.1 C.2.1 dX11_gainWith_1 rfl (lv_at hl 1 rfl) ?_
  refine lv_iload_n (pc := 2) C.1 C.2.1 dX11_gainWith_2 rfl (lv_at hl 2 rfl) ?_
  refine lv_iconst (pc := 3) (v := 1) C.1 C.2.1 dX11_gainWith_3 (by decide) ?_
  refine lv_iadd (pc := 4) C.1 C.2.1 dX11_gainWith_4 ?_
  obtain ⟨x3, v2, hc1, h⟩ := bi_e h
  refine x_calli (pc := 5) C hP hS mi_X11_priceWith ck_11 kc0 ml_X11_121 (hR.le (by decide)) (Nat.zero_le _) (Nat.zero_le _) [.int i1, .int (i2 + 1)] rfl hl.1 rfl (Nat.le_of_ble_eq_true rfl) dX11_gainWith_5 (m_X11_priceWith hI kc0 hc1) (fun H locs hP hS => ?_)
  refine lv_istore_n (pc := 8) (lv' := [(3, .int x3), (0, .ref (ad c0)), (1, .int i1), (2, .int i2)]) C.1 C.2.1 dX11_gainWith_8 rfl hl (by decide) rfl (fun ls hl => ?_)
  refine lv_aload_n (pc := 9) C.1 C.2.1 dX11_gainWith_9 rfl (lv_at hl 1 rfl) ?_
  refine x_getr (pc := 10) C hP ck_11 9 fl_X11_32 (by decide) rfl kc0 dX11_gainWith_10 ?_
  have k4 : wk LM (rfM c0 9) 12 := wt_f wT_M kc0 9 (by decide) rfl rfl
  refine lv_iload_n (pc := 13) C.1 C.2.1 dX11_gainWith_13 rfl (lv_at hl 2 rfl) ?_
  refine lv_iconst (pc := 14) (v := 3) C.1 C.2.1 dX11_gainWith_14 (by decide) ?_
  refine lv_idiv (pc := 15) C.1 C.2.1 dX11_gainWith_15 (by decide) ?_
  obtain ⟨g6, h⟩ := gd_e h
  refine x_iald (pc := 16) C hP k4 (inB_vp g6) dX11_gainWith_16 ?_
  refine lv_topi (fun x7 ex7 => ?_)
  replace h := nv_e h ex7
  clear ex7
  refine lv_istore (pc := 17) (lv' := [(4, .int x7), (3, .int x3), (0, .ref (ad c0)), (1, .int i1), (2, .int i2)]) C.1 C.2.1 dX11_gainWith_17 hl (by decide) rfl (fun ls hl => ?_)
  refine lv_iload_n (pc := 19) C.1 C.2.1 dX11_gainWith_19 rfl (lv_at hl 1 rfl) ?_
  refine lv_iload (pc := 20) C.1 C.2.1 dX11_gainWith_20 (lv_at hl 0 rfl) ?_
  refine lv_icmp_ge (pc := 22) (tgt := 29) C.1 C.2.1 dX11_gainWith_22 (by decide) (fun b22 => ?_) (fun b22 => ?_)
  · replace h := if_t h b22
    refine lv_iload_n (pc := 29) C.1 C.2.1 dX11_gainWith_29 rfl (lv_at hl 1 rfl) ?_
    refine lv_iload (pc := 30) C.1 C.2.1 dX11_gainWith_30 (lv_at hl 0 rfl) ?_
    refine lv_isub (pc := 32) C.1 C.2.1 dX11_gainWith_32 ?_
    exact x_iret (pc := 33) C hr hlk hP hS h dX11_gainWith_33
  · replace h := if_f h b22
    refine lv_iconst (pc := 25) (v := 0) C.1 C.2.1 dX11_gainWith_25 (by decide) ?_
    refine lv_goto (pc := 26) (tgt := 33) C.1 C.2.1 dX11_gainWith_26 (by decide) ?_
    exact x_iret (pc := 33) C hr hlk hP hS h dX11_gainWith_33
set_option maxRecDepth 100000 in
theorem m_X11_gainWith (hI : wI LM ad) {c0 : Nat} {i1 : Int32} {i2 : Int32} {v : VV} {rZ : Int32} {vZ : VV} (kc0 : wk LM c0 11) (h : F_X11_gainWith c0 i1 i2 v = some (rZ, vZ)) : Met l yX11_gainWith (Cond.code yX11_gainWith cX11_gainWith 5 (some .int) :: wsG) (rmL 2) (pcG LM cy ad D [.ref (ad c0), .int i1, .int i2] v) (qiG LM cy ad D rZ vZ) 0 0 (wA LM ad) := by
  refine Met.ofW (cc := cX11_gainWith) (maxL := 5) (ret := (some .int)) (by decide) rfl ?_
  intro p e s m args below meth c s₁ B hml hv
  obtain ⟨rfl, hP, hK⟩ := hv
  have hts := atoms_spec (ws := Cond.code yX11_gainWith cX11_gainWith 5 (some .int) :: wsG) B.pre
  have hown : s.vm.findClass RX11 = some m.cls := findClass_of_methodNamed B.named
  have C : Cx p s m _ c cX11_gainWith 5 RX11 D cy := ⟨B.exec, B.bytes, hml, hown, fun w hw => hts w (List.mem_cons_of_mem _ hw), hK⟩
  have hl := lv_entry ([.ref (ad c0), .int i1, .int i2]) (n := 5) (Nat.le_of_ble_eq_true rfl)
  rw [lg_entry_eq]
  generalize (lg_sl ([.ref (ad c0), .int i1, .int i2]) ++ List.replicate (5 - (lg_sl ([.ref (ad c0), .int i1, .int i2])).length) Slot.unset).toArray = ls at hl ⊢
  have hl : lv_has ls 5 [(0, .ref (ad c0)), (1, .int i1), (2, .int i2)] := hl
  exact w_X11_gainWith C hI B.returns B.notSynchronized (RoL_rm _) c0 i1 i2 v _ _ _ kc0 h hP va_S.rf (lv_sub hl [0, 1, 2] rfl)
def f_X11_sell_l36 : Nat → Nat → Int32 → Int32 → Int32 → Int32 → Int32 → Int32 → VV → Option (Int32 × VV)
  | 0, _, _, _, _, _, _, _, _ => none
  | n + 1, c0, i1, i2, i3, i5, i6, i7, v =>
    if (i3 ≤ i7) then
      some (i7, v)
    else
      gd (inB ((3 * i1) + i2) (lnM (rfM c0 26)) = true) <|
      if ((v (rfM c0 26) (Int32.toNatClampNeg ((3 * i1) + i2))) ≤ 0) then
        some (i7, v)
      else
        gd (inB i6 (lnM (rfM c0 3)) = true) <|
        if (1000 ≤ (v (rfM c0 3) (Int32.toNatClampNeg i6))) then
          some (i7, v)
        else
          gd (inB i1 (lnM (rfM c0 25)) = true) <|
          gd (inB i6 (lnM (rfM c0 3)) = true) <|
          bi (F_X11_gainWith c0 i6 (v (rfM c0 3) (Int32.toNatClampNeg i6)) v) fun x18 v17 =>
          if (1000000 < ((v (rfM c0 25) (Int32.toNatClampNeg i1)) + x18)) then
            some (i7, v17)
          else
            gd (inB i6 (lnM (rfM c0 3)) = true) <|
            bi (F_X11_priceWith c0 i6 ((v17 (rfM c0 3) (Int32.toNatClampNeg i6)) + 1) v17) fun x23 v22 =>
            gd (inB i6 (lnM (rfM c0 3)) = true) <|
            bi (F_X11_gainWith c0 i6 (v22 (rfM c0 3) (Int32.toNatClampNeg i6)) v22) fun x28 v27 =>
            gd (inB i1 (lnM (rfM c0 25)) = true) <|
            gd (inB i1 (lnM (rfM c0 25)) = true) <|
            nv (wu v27 (rfM c0 25) (Int32.toNatClampNeg i1) ((v27 (rfM c0 25) (Int32.toNatClampNeg i1)) + x28)) fun v32 =>
            gd (inB i5 (lnM (rfM c0 10)) = true) <|
            gd (inB i5 (lnM (rfM c0 10)) = true) <|
            nv (wu v32 (rfM c0 10) (Int32.toNatClampNeg i5) ((v32 (rfM c0 10) (Int32.toNatClampNeg i5)) + (x23 - x28))) fun v36 =>
            gd (inB i5 (lnM (rfM c0 11)) = true) <|
            gd (inB i5 (lnM (rfM c0 11)) = true) <|
            nv (wu v36 (rfM c0 11) (Int32.toNatClampNeg i5) ((v36 (rfM c0 11) (Int32.toNatClampNeg i5)) + x23)) fun v40 =>
            gd (inB i6 (lnM (rfM c0 3)) = true) <|
            gd (inB i6 (lnM (rfM c0 3)) = true) <|
            nv (wu v40 (rfM c0 3) (Int32.toNatClampNeg i6) ((v40 (rfM c0 3) (Int32.toNatClampNeg i6)) + 1)) fun v44 =>
            gd (inB ((3 * i1) + i2) (lnM (rfM c0 26)) = true) <|
            gd (inB ((3 * i1) + i2) (lnM (rfM c0 26)) = true) <|
            nv (wu v44 (rfM c0 26) (Int32.toNatClampNeg ((3 * i1) + i2)) ((v44 (rfM c0 26) (Int32.toNatClampNeg ((3 * i1) + i2))) - 1)) fun v48 =>
            nv (i7 + 1) fun x49 =>
            f_X11_sell_l36 n c0 i1 i2 i3 i5 i6 x49 v48
def f_X11_sell (c0 : Nat) (i1 : Int32) (i2 : Int32) (i3 : Int32) (v : VV) : Option (Int32 × VV) :=
  bi (F_X11_whyNot c0 i1 i2 i3 v) fun x3 v2 =>
  if (0 ≤ x3) then
    gd (inB i1 (lnM (rfM c0 23)) = true) <|
    nv ((v2 (rfM c0 23) (Int32.toNatClampNeg i1))) fun x6 =>
    nv (((3 * x6) + i2)) fun x7 =>
    f_X11_sell_l36 FU c0 i1 i2 i3 x6 x7 0 v2
  else
    some (x3, v2)
abbrev F_X11_sell (c0 : Nat) (i1 : Int32) (i2 : Int32) (i3 : Int32) (v : VV) : Option (Int32 × VV) := f_X11_sell c0 i1 i2 i3 v
set_option maxHeartbeats 4000000 in
set_option maxRecDepth 100000 in
theorem w_X11_sell_l36 (C : Cx p s m args c cX11_sell 10 RX11 D cy) (hI : wI LM ad) (hr : meth.sig.returnType = some .int) (hlk : meth.locks = false) (hR : RoL 4 R) {rZ : Int32} {vZ : VV} : ∀ (n : Nat) (c0 : Nat) (i1 : Int32) (i2 : Int32) (i3 : Int32) (i5 : Int32) (i6 : Int32) (i7 : Int32) (v : VV) (H : Heap) (locs : List Loc) (ls : Array Slot), wk LM c0 11 → f_X11_sell_l36 n c0 i1 i2 i3 i5 i6 i7 v = some (rZ, vZ) → va_P D vwCl (wd LM cy ad v) H → va_S (wA LM ad) s.heap H locs → lv_has ls 10 [(0, .ref (ad c0)), (1, .int i1), (2, .int i2), (3, .int i3), (5, .int i5), (6, .int i6), (7, .int i7)] → W p l e R s m args below meth c H locs 0 0 (MQ below (qiG LM cy ad D rZ vZ) args s 0 0 (wA LM ad)) (F0 m 36 ls []) := by
  intro n
  induction n with
  | zero => intro c0 i1 i2 i3 i5 i6 i7 v H locs ls kc0 h hP hS hl; exact absurd h (by simp [f_X11_sell_l36])
  | succ n ih =>
    intro c0 i1 i2 i3 i5 i6 i7 v H locs ls kc0 h hP hS hl
    rw [f_X11_sell_l36] at h
    refine lv_iload (pc := 36) C.1 C.2.1 dX11_sell_36 (lv_at hl 6 rfl) ?_
    refine lv_iload_n (pc := 38) C.1 C.2.1 dX11_sell_38 rfl (lv_at hl 3 rfl) ?_
    refine lv_icmp_ge (pc := 39) (tgt := 194) C.1 C.2.1 dX11_sell_39 (by decide) (fun b39 => ?_) (fun b39 => ?_)
    · replace h := if_t h b39
      refine lv_iload (pc := 194) C.1 C.2.1 dX11_sell_194 (lv_at hl 6 rfl) ?_
      exact x_iret (pc := 196) C hr hlk hP hS h dX11_sell_196
    · replace h := if_f h b39
      refine lv_aload_n (pc := 42) C.1 C.2.1 dX11_sell_42 rfl (lv_at hl 0 rfl) ?_
      refine x_getr (pc := 43) C hP ck_11 26 fl_X11_66 (by decide) rfl kc0 dX11_sell_43 ?_
      have k8 : wk LM (rfM c0 26) 12 := wt_f wT_M kc0 26 (by decide) rfl rfl
      refine lv_iconst (pc := 46) (v := 3) C.1 C.2.1 dX11_sell_46 (by decide) ?_
      refine lv_iload_n (pc := 47) C.1 C.2.1 dX11_sell_47 rfl (lv_at hl 1 rfl) ?_
      refine lv_imul (pc := 48) C.1 C.2.1 dX11_sell_48 ?_
      refine lv_iload_n (pc := 49) C.1 C.2.1 dX11_sell_49 rfl (lv_at hl 2 rfl) ?_
      refine lv_iadd (pc := 50) C.1 C.2.1 dX11_sell_50 ?_
      obtain ⟨g9, h⟩ := gd_e h
      refine x_iald (pc := 51) C hP k8 (inB_vp g9) dX11_sell_51 ?_
      refine lv_if_le (pc := 52) (tgt := 194) C.1 C.2.1 dX11_sell_52 (by decide) (fun b52 => ?_) (fun b52 => ?_)
      · replace h := if_t h b52
        refine lv_iload (pc := 194) C.1 C.2.1 dX11_sell_194 (lv_at hl 6 rfl) ?_
        exact x_iret (pc := 196) C hr hlk hP hS h dX11_sell_196
      · replace h := if_f h b52
        refine lv_aload_n (pc := 55) C.1 C.2.1 dX11_sell_55 rfl (lv_at hl 0 rfl) ?_
        refine x_getr (pc := 56) C hP ck_11 3 fl_X11_13 (by decide) rfl kc0 dX11_sell_56 ?_
        have k10 : wk LM (rfM c0 3) 12 := wt_f wT_M kc0 3 (by decide) rfl rfl
        refine lv_iload (pc := 59) C.1 C.2.1 dX11_sell_59 (lv_at hl 5 rfl) ?_
        obtain ⟨g11, h⟩ := gd_e h
        refine x_iald (pc := 61) C hP k10 (inB_vp g11) dX11_sell_61 ?_
        refine lv_sipush (pc := 62) (v := 1000) C.1 C.2.1 dX11_sell_62 (by decide) ?_
        refine lv_icmp_ge (pc := 65) (tgt := 194) C.1 C.2.1 dX11_sell_65 (by decide) (fun b65 => ?_) (fun b65 => ?_)
        · replace h := if_t h b65
          refine lv_iload (pc := 194) C.1 C.2.1 dX11_sell_194 (lv_at hl 6 rfl) ?_
          exact x_iret (pc := 196) C hr hlk hP hS h dX11_sell_196
        · replace h := if_f h b65
          refine lv_aload_n (pc := 68) C.1 C.2.1 dX11_sell_68 rfl (lv_at hl 0 rfl) ?_
          refine x_getr (pc := 69) C hP ck_11 25 fl_X11_63 (by decide) rfl kc0 dX11_sell_69 ?_
          have k12 : wk LM (rfM c0 25) 12 := wt_f wT_M kc0 25 (by decide) rfl rfl
          refine lv_iload_n (pc := 72) C.1 C.2.1 dX11_sell_72 rfl (lv_at hl 1 rfl) ?_
          obtain ⟨g13, h⟩ := gd_e h
          refine x_iald (pc := 73) C hP k12 (inB_vp g13) dX11_sell_73 ?_
          refine lv_aload_n (pc := 74) C.1 C.2.1 dX11_sell_74 rfl (lv_at hl 0 rfl) ?_
          refine lv_iload (pc := 75) C.1 C.2.1 dX11_sell_75 (lv_at hl 5 rfl) ?_
          refine lv_aload_n (pc := 77) C.1 C.2.1 dX11_sell_77 rfl (lv_at hl 0 rfl) ?_
          refine x_getr (pc := 78) C hP ck_11 3 fl_X11_13 (by decide) rfl kc0 dX11_sell_78 ?_
          have k14 : wk LM (rfM c0 3) 12 := wt_f wT_M kc0 3 (by decide) rfl rfl
          refine lv_iload (pc := 81) C.1 C.2.1 dX11_sell_81 (lv_at hl 5 rfl) ?_
          obtain ⟨g15, h⟩ := gd_e h
          refine x_iald (pc := 83) C hP k14 (inB_vp g15) dX11_sell_83 ?_
          obtain ⟨x18, v17, hc16, h⟩ := bi_e h
          refine x_calli (pc := 84) C hP hS mi_X11_gainWith ck_11 kc0 ml_X11_173 (hR.le (by decide)) (Nat.zero_le _) (Nat.zero_le _) [.int i6, .int (v (rfM c0 3) (Int32.toNatClampNeg i6))] rfl hl.1 rfl (Nat.le_of_ble_eq_true rfl) dX11_sell_84 (m_X11_gainWith hI kc0 hc16) (fun H locs hP hS => ?_)
          refine lv_iadd (pc := 87) C.1 C.2.1 dX11_sell_87 ?_
          refine lv_ldc (pc := 88) (v := 1000000) C.1 C.2.1 C.2.2.2.1 (C.2.2.2.2.1 _ ct_X11_176) dX11_sell_88 ?_
          refine lv_icmp_gt (pc := 90) (tgt := 194) C.1 C.2.1 dX11_sell_90 (by decide) (fun b90 => ?_) (fun b90 => ?_)
          · replace h := if_t h b90
            refine lv_iload (pc := 194) C.1 C.2.1 dX11_sell_194 (lv_at hl 6 rfl) ?_
            exact x_iret (pc := 196) C hr hlk hP hS h dX11_sell_196
          · replace h := if_f h b90
            refine lv_aload_n (pc := 93) C.1 C.2.1 dX11_sell_93 rfl (lv_at hl 0 rfl) ?_
            refine lv_iload (pc := 94) C.1 C.2.1 dX11_sell_94 (lv_at hl 5 rfl) ?_
            refine lv_aload_n (pc := 96) C.1 C.2.1 dX11_sell_96 rfl (lv_at hl 0 rfl) ?_
            refine x_getr (pc := 97) C hP ck_11 3 fl_X11_13 (by decide) rfl kc0 dX11_sell_97 ?_
            have k19 : wk LM (rfM c0 3) 12 := wt_f wT_M kc0 3 (by decide) rfl rfl
            refine lv_iload (pc := 100) C.1 C.2.1 dX11_sell_100 (lv_at hl 5 rfl) ?_
            obtain ⟨g20, h⟩ := gd_e h
            refine x_iald (pc := 102) C hP k19 (inB_vp g20) dX11_sell_102 ?_
            refine lv_iconst (pc := 103) (v := 1) C.1 C.2.1 dX11_sell_103 (by decide) ?_
            refine lv_iadd (pc := 104) C.1 C.2.1 dX11_sell_104 ?_
            obtain ⟨x23, v22, hc21, h⟩ := bi_e h
            refine x_calli (pc := 105) C hP hS mi_X11_priceWith ck_11 kc0 ml_X11_121 (hR.le (by decide)) (Nat.zero_le _) (Nat.zero_le _) [.int i6, .int ((v17 (rfM c0 3) (Int32.toNatClampNeg i6)) + 1)] rfl hl.1 rfl (Nat.le_of_ble_eq_true rfl) dX11_sell_105 (m_X11_priceWith hI kc0 hc21) (fun H locs hP hS => ?_)
            refine lv_istore (pc := 108) (lv' := [(8, .int x23), (0, .ref (ad c0)), (1, .int i1), (2, .int i2), (3, .int i3), (5, .int i5), (6, .int i6), (7, .int i7)]) C.1 C.2.1 dX11_sell_108 hl (by decide) rfl (fun ls hl => ?_)
            refine lv_aload_n (pc := 110) C.1 C.2.1 dX11_sell_110 rfl (lv_at hl 1 rfl) ?_
            refine lv_iload (pc := 111) C.1 C.2.1 dX11_sell_111 (lv_at hl 6 rfl) ?_
            refine lv_aload_n (pc := 113) C.1 C.2.1 dX11_sell_113 rfl (lv_at hl 1 rfl) ?_
            refine x_getr (pc := 114) C hP ck_11 3 fl_X11_13 (by decide) rfl kc0 dX11_sell_114 ?_
            have k24 : wk LM (rfM c0 3) 12 := wt_f wT_M kc0 3 (by decide) rfl rfl
            refine lv_iload (pc := 117) C.1 C.2.1 dX11_sell_117 (lv_at hl 6 rfl) ?_
            obtain ⟨g25, h⟩ := gd_e h
            refine x_iald (pc := 119) C hP k24 (inB_vp g25) dX11_sell_119 ?_
            obtain ⟨x28, v27, hc26, h⟩ := bi_e h
            refine x_calli (pc := 120) C hP hS mi_X11_gainWith ck_11 kc0 ml_X11_173 (hR.le (by decide)) (Nat.zero_le _) (Nat.zero_le _) [.int i6, .int (v22 (rfM c0 3) (Int32.toNatClampNeg i6))] rfl hl.1 rfl (Nat.le_of_ble_eq_true rfl) dX11_sell_120 (m_X11_gainWith hI kc0 hc26) (fun H locs hP hS => ?_)
            refine lv_istore (pc := 123) (lv' := [(9, .int x28), (8, .int x23), (0, .ref (ad c0)), (1, .int i1), (2, .int i2), (3, .int i3), (5, .int i5), (6, .int i6), (7, .int i7)]) C.1 C.2.1 dX11_sell_123 hl (by decide) rfl (fun ls hl => ?_)
            refine lv_aload_n (pc := 125) C.1 C.2.1 dX11_sell_125 rfl (lv_at hl 2 rfl) ?_
            refine x_getr (pc := 126) C hP ck_11 25 fl_X11_63 (by decide) rfl kc0 dX11_sell_126 ?_
            have k29 : wk LM (rfM c0 25) 12 := wt_f wT_M kc0 25 (by decide) rfl rfl
            refine lv_iload_n (pc := 129) C.1 C.2.1 dX11_sell_129 rfl (lv_at hl 3 rfl) ?_
            refine lv_dup2_11 (pc := 130) C.1 C.2.1 dX11_sell_130 rfl rfl ?_
            obtain ⟨g30, h⟩ := gd_e h
            refine x_iald (pc := 131) C hP k29 (inB_vp g30) dX11_sell_131 ?_
            refine lv_iload (pc := 132) C.1 C.2.1 dX11_sell_132 (lv_at hl 0 rfl) ?_
            refine lv_iadd (pc := 134) C.1 C.2.1 dX11_sell_134 ?_
            obtain ⟨g31, h⟩ := gd_e h
            refine x_iast (pc := 135) C hI hP hS k29 (inB_vp g31) dX11_sell_135 (fun H locs hP hS => ?_)
            obtain ⟨v32, h, hP⟩ := nv_p (P := fun z => va_P D vwCl (wd LM cy ad z) H) h hP
            refine lv_aload_n (pc := 136) C.1 C.2.1 dX11_sell_136 rfl (lv_at hl 2 rfl) ?_
            refine x_getr (pc := 137) C hP ck_11 10 fl_X11_35 (by decide) rfl kc0 dX11_sell_137 ?_
            have k33 : wk LM (rfM c0 10) 12 := wt_f wT_M kc0 10 (by decide) rfl rfl
            refine lv_iload (pc := 140) C.1 C.2.1 dX11_sell_140 (lv_at hl 6 rfl) ?_
            refine lv_dup2_11 (pc := 142) C.1 C.2.1 dX11_sell_142 rfl rfl ?_
            obtain ⟨g34, h⟩ := gd_e h
            refine x_iald (pc := 143) C hP k33 (inB_vp g34) dX11_sell_143 ?_
            refine lv_iload (pc := 144) C.1 C.2.1 dX11_sell_144 (lv_at hl 1 rfl) ?_
            refine lv_iload (pc := 146) C.1 C.2.1 dX11_sell_146 (lv_at hl 0 rfl) ?_
            refine lv_isub (pc := 148) C.1 C.2.1 dX11_sell_148 ?_
            refine lv_iadd (pc := 149) C.1 C.2.1 dX11_sell_149 ?_
            obtain ⟨g35, h⟩ := gd_e h
            refine x_iast (pc := 150) C hI hP hS k33 (inB_vp g35) dX11_sell_150 (fun H locs hP hS => ?_)
            obtain ⟨v36, h, hP⟩ := nv_p (P := fun z => va_P D vwCl (wd LM cy ad z) H) h hP
            refine lv_aload_n (pc := 151) C.1 C.2.1 dX11_sell_151 rfl (lv_at hl 2 rfl) ?_
            refine x_getr (pc := 152) C hP ck_11 11 fl_X11_38 (by decide) rfl kc0 dX11_sell_152 ?_
            have k37 : wk LM (rfM c0 11) 12 := wt_f wT_M kc0 11 (by decide) rfl rfl
            refine lv_iload (pc := 155) C.1 C.2.1 dX11_sell_155 (lv_at hl 6 rfl) ?_
            refine lv_dup2_11 (pc := 157) C.1 C.2.1 dX11_sell_157 rfl rfl ?_
            obtain ⟨g38, h⟩ := gd_e h
            refine x_iald (pc := 158) C hP k37 (inB_vp g38) dX11_sell_158 ?_
            refine lv_iload (pc := 159) C.1 C.2.1 dX11_sell_159 (lv_at hl 1 rfl) ?_
            refine lv_iadd (pc := 161) C.1 C.2.1 dX11_sell_161 ?_
            obtain ⟨g39, h⟩ := gd_e h
            refine x_iast (pc := 162) C hI hP hS k37 (inB_vp g39) dX11_sell_162 (fun H locs hP hS => ?_)
            obtain ⟨v40, h, hP⟩ := nv_p (P := fun z => va_P D vwCl (wd LM cy ad z) H) h hP
            refine lv_aload_n (pc := 163) C.1 C.2.1 dX11_sell_163 rfl (lv_at hl 2 rfl) ?_
            refine x_getr (pc := 164) C hP ck_11 3 fl_X11_13 (by decide) rfl kc0 dX11_sell_164 ?_
            have k41 : wk LM (rfM c0 3) 12 := wt_f wT_M kc0 3 (by decide) rfl rfl
            refine lv_iload (pc := 167) C.1 C.2.1 dX11_sell_167 (lv_at hl 7 rfl) ?_
            refine lv_dup2_11 (pc := 169) C.1 C.2.1 dX11_sell_169 rfl rfl ?_
            obtain ⟨g42, h⟩ := gd_e h
            refine x_iald (pc := 170) C hP k41 (inB_vp g42) dX11_sell_170 ?_
            refine lv_iconst (pc := 171) (v := 1) C.1 C.2.1 dX11_sell_171 (by decide) ?_
            refine lv_iadd (pc := 172) C.1 C.2.1 dX11_sell_172 ?_
            obtain ⟨g43, h⟩ := gd_e h
            refine x_iast (pc := 173) C hI hP hS k41 (inB_vp g43) dX11_sell_173 (fun H locs hP hS => ?_)
            obtain ⟨v44, h, hP⟩ := nv_p (P := fun z => va_P D vwCl (wd LM cy ad z) H) h hP
            refine lv_aload_n (pc := 174) C.1 C.2.1 dX11_sell_174 rfl (lv_at hl 2 rfl) ?_
            refine x_getr (pc := 175) C hP ck_11 26 fl_X11_66 (by decide) rfl kc0 dX11_sell_175 ?_
            have k45 : wk LM (rfM c0 26) 12 := wt_f wT_M kc0 26 (by decide) rfl rfl
            refine lv_iconst (pc := 178) (v := 3) C.1 C.2.1 dX11_sell_178 (by decide) ?_
            refine lv_iload_n (pc := 179) C.1 C.2.1 dX11_sell_179 rfl (lv_at hl 3 rfl) ?_
            refine lv_imul (pc := 180) C.1 C.2.1 dX11_sell_180 ?_
            refine lv_iload_n (pc := 181) C.1 C.2.1 dX11_sell_181 rfl (lv_at hl 4 rfl) ?_
            refine lv_iadd (pc := 182) C.1 C.2.1 dX11_sell_182 ?_
            refine lv_dup2_11 (pc := 183) C.1 C.2.1 dX11_sell_183 rfl rfl ?_
            obtain ⟨g46, h⟩ := gd_e h
            refine x_iald (pc := 184) C hP k45 (inB_vp g46) dX11_sell_184 ?_
            refine lv_iconst (pc := 185) (v := 1) C.1 C.2.1 dX11_sell_185 (by decide) ?_
            refine lv_isub (pc := 186) C.1 C.2.1 dX11_sell_186 ?_
            obtain ⟨g47, h⟩ := gd_e h
            refine x_iast (pc := 187) C hI hP hS k45 (inB_vp g47) dX11_sell_187 (fun H locs hP hS => ?_)
            obtain ⟨v48, h, hP⟩ := nv_p (P := fun z => va_P D vwCl (wd LM cy ad z) H) h hP
            obtain ⟨x49, ex49⟩ : ∃ y : Int32, y = i7 + 1 := ⟨_, rfl⟩
            replace h := nv_e h ex49
            refine lv_iinc (pc := 188) (v := x49) (lv' := [(7, .int x49), (9, .int x28), (8, .int x23), (0, .ref (ad c0)), (1, .int i1), (2, .int i2), (3, .int i3), (5, .int i5), (6, .int i6)]) C.1 C.2.1 dX11_sell_188 hl (k := 8) rfl (by rw [ex49]; rfl) (by decide) rfl (fun ls hl => ?_)
            clear ex49
            refine lv_goto (pc := 191) (tgt := 36) C.1 C.2.1 dX11_sell_191 (by decide) ?_
            exact ih c0 i1 i2 i3 i5 i6 x49 v48 _ _ _ kc0 h hP hS (lv_sub hl [3, 4, 5, 6, 7, 8, 0] rfl)
set_option maxHeartbeats 4000000 in
set_option maxRecDepth 100000 in
theorem w_X11_sell (C : Cx p s m args c cX11_sell 10 RX11 D cy) (hI : wI LM ad) (hr : meth.sig.returnType = some .int) (hlk : meth.locks = false) (hR : RoL 4 R) {rZ : Int32} {vZ : VV} : ∀ (c0 : Nat) (i1 : Int32) (i2 : Int32) (i3 : Int32) (v : VV) (H : Heap) (locs : List Loc) (ls : Array Slot), wk LM c0 11 → f_X11_sell c0 i1 i2 i3 v = some (rZ, vZ) → va_P D vwCl (wd LM cy ad v) H → va_S (wA LM ad) s.heap H locs → lv_has ls 10 [(0, .ref (ad c0)), (1, .int i1), (2, .int i2), (3, .int i3)] → W p l e R s m args below meth c H locs 0 0 (MQ below (qiG LM cy ad D rZ vZ) args s 0 0 (wA LM ad)) (F0 m 0 ls []) := by
  intro c0 i1 i2 i3 v H locs ls kc0 h hP hS hl
  unfold f_X11_sell at h
  refine lv_aload_n (pc := 0) C.1 C.2.1 dX11_sell_0 rfl (lv_at hl 0 rfl) ?_
  refine lv_iload_n (pc := 1) C.1 C.2.1 dX11_sell_1 rfl (lv_at hl 1 rfl) ?_
  refine lv_iload_n (pc := 2) C.1 C.2.1 dX11_sell_2 rfl (lv_at hl 2 rfl) ?_
  refine lv_iload_n (pc := 3) C.1 C.2.1 dX11_sell_3 rfl (lv_at hl 3 rfl) ?_
  obtain ⟨x3, v2, hc1, h⟩ := bi_e h
  refine x_calli (pc := 4) C hP hS mi_X11_whyNot ck_11 kc0 ml_X11_166 (hR.le (by decide)) (Nat.zero_le _) (Nat.zero_le _) [.int i1, .int i2, .int i3] rfl hl.1 rfl (Nat.le_of_ble_eq_true rfl) dX11_sell_4 (m_X11_whyNot hI kc0 hc1) (fun H locs hP hS => ?_)
  refine lv_istore (pc := 7) (lv' := [(4, .int x3), (0, .ref (ad c0)), (1, .int i1), (2, .int i2), (3, .int i3)]) C.1 C.2.1 dX11_sell_7 hl (by decide) rfl (fun ls hl => ?_)
  refine lv_iload (pc := 9) C.1 C.2.1 dX11_sell_9 (lv_at hl 0 rfl) ?_
  refine lv_if_ge (pc := 11) (tgt := 17) C.1 C.2.1 dX11_sell_11 (by decide) (fun b11 => ?_) (fun b11 => ?_)
  · replace h := if_t h b11
    refine lv_aload_n (pc := 17) C.1 C.2.1 dX11_sell_17 rfl (lv_at hl 1 rfl) ?_
    refine x_getr (pc := 18) C hP ck_11 23 fl_X11_57 (by decide) rfl kc0 dX11_sell_18 ?_
    have k4 : wk LM (rfM c0 23) 12 := wt_f wT_M kc0 23 (by decide) rfl rfl
    refine lv_iload_n (pc := 21) C.1 C.2.1 dX11_sell_21 rfl (lv_at hl 2 rfl) ?_
    obtain ⟨g5, h⟩ := gd_e h
    refine x_iald (pc := 22) C hP k4 (inB_vp g5) dX11_sell_22 ?_
    refine lv_topi (fun x6 ex6 => ?_)
    replace h := nv_e h ex6
    clear ex6
    refine lv_istore (pc := 23) (lv' := [(5, .int x6), (4, .int x3), (0, .ref (ad c0)), (1, .int i1), (2, .int i2), (3, .int i3)]) C.1 C.2.1 dX11_sell_23 hl (by decide) rfl (fun ls hl => ?_)
    refine lv_iconst (pc := 25) (v := 3) C.1 C.2.1 dX11_sell_25 (by decide) ?_
    refine lv_iload (pc := 26) C.1 C.2.1 dX11_sell_26 (lv_at hl 0 rfl) ?_
    refine lv_imul (pc := 28) C.1 C.2.1 dX11_sell_28 ?_
    refine lv_iload_n (pc := 29) C.1 C.2.1 dX11_sell_29 rfl (lv_at hl 4 rfl) ?_
    refine lv_iadd (pc := 30) C.1 C.2.1 dX11_sell_30 ?_
    refine lv_topi (fun x7 ex7 => ?_)
    replace h := nv_e h ex7
    clear ex7
    refine lv_istore (pc := 31) (lv' := [(6, .int x7), (5, .int x6), (4, .int x3), (0, .ref (ad c0)), (1, .int i1), (2, .int i2), (3, .int i3)]) C.1 C.2.1 dX11_sell_31 hl (by decide) rfl (fun ls hl => ?_)
    refine lv_iconst (pc := 33) (v := 0) C.1 C.2.1 dX11_sell_33 (by decide) ?_
    refine lv_istore (pc := 34) (lv' := [(7, .int 0), (6, .int x7), (5, .int x6), (4, .int x3), (0, .ref (ad c0)), (1, .int i1), (2, .int i2), (3, .int i3)]) C.1 C.2.1 dX11_sell_34 hl (by decide) rfl (fun ls hl => ?_)
    refine w_X11_sell_l36 C hI hr hlk hR FU c0 i1 i2 i3 x6 x7 0 v2 _ _ _ kc0 h hP hS (lv_sub hl [4, 5, 6, 7, 2, 1, 0] rfl)
  · replace h := if_f h b11
    refine lv_iload (pc := 14) C.1 C.2.1 dX11_sell_14 (lv_at hl 0 rfl) ?_
    exact x_iret (pc := 16) C hr hlk hP hS h dX11_sell_16
set_option maxRecDepth 100000 in
theorem m_X11_sell (hI : wI LM ad) {c0 : Nat} {i1 : Int32} {i2 : Int32} {i3 : Int32} {v : VV} {rZ : Int32} {vZ : VV} (kc0 : wk LM c0 11) (h : F_X11_sell c0 i1 i2 i3 v = some (rZ, vZ)) : Met l yX11_sell (Cond.code yX11_sell cX11_sell 10 (some .int) :: wsG) (rmL 4) (pcG LM cy ad D [.ref (ad c0), .int i1, .int i2, .int i3] v) (qiG LM cy ad D rZ vZ) 0 0 (wA LM ad) := by
  refine Met.ofW (cc := cX11_sell) (maxL := 10) (ret := (some .int)) (by decide) rfl ?_
  intro p e s m args below meth c s₁ B hml hv
  obtain ⟨rfl, hP, hK⟩ := hv
  have hts := atoms_spec (ws := Cond.code yX11_sell cX11_sell 10 (some .int) :: wsG) B.pre
  have hown : s.vm.findClass RX11 = some m.cls := findClass_of_methodNamed B.named
  have C : Cx p s m _ c cX11_sell 10 RX11 D cy := ⟨B.exec, B.bytes, hml, hown, fun w hw => hts w (List.mem_cons_of_mem _ hw), hK⟩
  have hl := lv_entry ([.ref (ad c0), .int i1, .int i2, .int i3]) (n := 10) (Nat.le_of_ble_eq_true rfl)
  rw [lg_entry_eq]
  generalize (lg_sl ([.ref (ad c0), .int i1, .int i2, .int i3]) ++ List.replicate (10 - (lg_sl ([.ref (ad c0), .int i1, .int i2, .int i3])).length) Slot.unset).toArray = ls at hl ⊢
  have hl : lv_has ls 10 [(0, .ref (ad c0)), (1, .int i1), (2, .int i2), (3, .int i3)] := hl
  exact w_X11_sell C hI B.returns B.notSynchronized (RoL_rm _) c0 i1 i2 i3 v _ _ _ kc0 h hP va_S.rf (lv_sub hl [0, 1, 2, 3] rfl)
end
