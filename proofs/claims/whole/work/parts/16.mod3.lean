section
variable {p : Program} {l : Launch} {e : Env} {R : Room} {s : State} {m : MethodId} {args : Array Value} {below : List Frame} {meth : Method} {c : Code} {D : va_G} {cy : Nat → ClassId} {ad : Nat → Nat}
def f_X11_go_l128 (k144 : Nat → Int32 → Int32 → VV → Option (Int32 × VV)) : Nat → Nat → Int32 → Int32 → Int32 → Int32 → VV → Option (Int32 × VV)
  | 0, _, _, _, _, _, _ => none
  | n + 1, c0, i1, i2, i3, i4, v =>
    if (i3 ≤ i4) then
      k144 c0 i1 i2 v
    else
      (F_X11_tickOnce c0 v).bind fun v26 =>
      nv (i4 + 1) fun x27 =>
      f_X11_go_l128 k144 n c0 i1 i2 i3 x27 v26
def f_X11_go (c0 : Nat) (i1 : Int32) (i2 : Int32) (v : VV) : Option (Int32 × VV) :=
  bi (F_X11_isShip c0 i1 v) fun x3 v2 =>
  if (x3 = 0) then
    some ((-1), v2)
  else
    bi (F_X11_isPort c0 i2 v2) fun x6 v5 =>
    if (x6 = 0) then
      some ((-1), v5)
    else
      gd (inB i1 (lnM (rfM c0 23)) = true) <|
      gd (inB ((6 * (v5 (rfM c0 23) (Int32.toNatClampNeg i1))) + i2) (lnM (rfM c0 13)) = true) <|
      nv ((v5 (rfM c0 13) (Int32.toNatClampNeg ((6 * (v5 (rfM c0 23) (Int32.toNatClampNeg i1))) + i2)))) fun x11 =>
      if (((v5 c0 1) + x11) ≤ 999) then
        if (x11 = 0) then
          some ((-5), v5)
        else
          gd (inB i2 (lnM (rfM c0 12)) = true) <|
          if ((v5 (rfM c0 12) (Int32.toNatClampNeg i2)) = 0) then
            gd (inB i1 (lnM (rfM c0 23)) = true) <|
            gd (inB (v5 (rfM c0 23) (Int32.toNatClampNeg i1)) (lnM (rfM c0 12)) = true) <|
            if ((v5 (rfM c0 12) (Int32.toNatClampNeg (v5 (rfM c0 23) (Int32.toNatClampNeg i1)))) = 0) then
              gd (inB i1 (lnM (rfM c0 25)) = true) <|
              if (((v5 c0 2) * x11) ≤ (v5 (rfM c0 25) (Int32.toNatClampNeg i1))) then
                gd (inB i1 (lnM (rfM c0 25)) = true) <|
                gd (inB i1 (lnM (rfM c0 25)) = true) <|
                nv (wu v5 (rfM c0 25) (Int32.toNatClampNeg i1) ((v5 (rfM c0 25) (Int32.toNatClampNeg i1)) - ((v5 c0 2) * x11))) fun v23 =>
                nv (wu v23 c0 18 ((v23 c0 18) + ((v23 c0 2) * x11))) fun v24 =>
                f_X11_go_l128 (fun c0_28 i1_28 i2_28 v_28 =>
                gd (inB i1_28 (lnM (rfM c0_28 23)) = true) <|
                nv (wu v_28 (rfM c0_28 23) (Int32.toNatClampNeg i1_28) i2_28) fun v31 =>
                some ((v31 c0_28 1), v31)) FU c0 i1 i2 x11 0 v24
              else
                some ((-5), v5)
            else
              some ((-5), v5)
          else
            some ((-5), v5)
      else
        some ((-3), v5)
abbrev F_X11_go (c0 : Nat) (i1 : Int32) (i2 : Int32) (v : VV) : Option (Int32 × VV) := f_X11_go c0 i1 i2 v
set_option maxHeartbeats 4000000 in
set_option maxRecDepth 100000 in
theorem w_X11_go_l128 (C : Cx p s m args c cX11_go 5 RX11 D cy) (hI : wI LM ad) (hr : meth.sig.returnType = some .int) (hlk : meth.locks = false) (hR : RoL 3 R) (k144 : Nat → Int32 → Int32 → VV → Option (Int32 × VV)) {rZ : Int32} {vZ : VV} (h144 : ∀ (c0 : Nat) (i1 : Int32) (i2 : Int32) (v : VV) (H : Heap) (locs : List Loc) (ls : Array Slot), wk LM c0 11 → k144 c0 i1 i2 v = some (rZ, vZ) → va_P D vwCl (wd LM cy ad v) H → va_S (wA LM ad) s.heap H locs → lv_has ls 5 [(0, .ref (ad c0)), (1, .int i1), (2, .int i2)] → W p l e R s m args below meth c H locs 0 0 (MQ below (qiG LM cy ad D rZ vZ) args s 0 0 (wA LM ad)) (F0 m 144 ls [])) : ∀ (n : Nat) (c0 : Nat) (i1 : Int32) (i2 : Int32) (i3 : Int32) (i4 : Int32) (v : VV) (H : Heap) (locs : List Loc) (ls : Array Slot), wk LM c0 11 → f_X11_go_l128 k144 n c0 i1 i2 i3 i4 v = some (rZ, vZ) → va_P D vwCl (wd LM cy ad v) H → va_S (wA LM ad) s.heap H locs → lv_has ls 5 [(0, .ref (ad c0)), (1, .int i1), (2, .int i2), (3, .int i3), (4, .int i4)] → W p l e R s m args below meth c H locs 0 0 (MQ below (qiG LM cy ad D rZ vZ) args s 0 0 (wA LM ad)) (F0 m 128 ls []) := by
  intro n
  induction n with
  | zero => intro c0 i1 i2 i3 i4 v H locs ls kc0 h hP hS hl; exact absurd h (by simp [f_X11_go_l128])
  | succ n ih =>
    intro c0 i1 i2 i3 i4 v H locs ls kc0 h hP hS hl
    rw [f_X11_go_l128] at h
    refine lv_iload (pc := 128) C.1 C.2.1 dX11_go_128 (lv_at hl 4 rfl) ?_
    refine lv_iload_n (pc := 130) C.1 C.2.1 dX11_go_130 rfl (lv_at hl 3 rfl) ?_
    refine lv_icmp_ge (pc := 131) (tgt := 144) C.1 C.2.1 dX11_go_131 (by decide) (fun b131 => ?_) (fun b131 => ?_)
    · replace h := if_t h b131
      exact h144 c0 i1 i2 v _ _ _ kc0 h hP hS (lv_sub hl [0, 1, 2] rfl)
    · replace h := if_f h b131
      refine lv_aload_n (pc := 134) C.1 C.2.1 dX11_go_134 rfl (lv_at hl 0 rfl) ?_
      obtain ⟨v26, hc25, h⟩ := bd_e h
      refine x_callv (pc := 135) C hP hS mi_X11_tickOnce ck_11 kc0 ml_X11_151 (hR.le (by decide)) (Nat.zero_le _) (Nat.zero_le _) [] rfl hl.1 rfl (Nat.le_of_ble_eq_true rfl) dX11_go_135 (m_X11_tickOnce hI kc0 hc25) (fun H locs hP hS => ?_)
      obtain ⟨x27, ex27⟩ : ∃ y : Int32, y = i4 + 1 := ⟨_, rfl⟩
      replace h := nv_e h ex27
      refine lv_iinc (pc := 138) (v := x27) (lv' := [(4, .int x27), (0, .ref (ad c0)), (1, .int i1), (2, .int i2), (3, .int i3)]) C.1 C.2.1 dX11_go_138 hl (k := 4) rfl (by rw [ex27]; rfl) (by decide) rfl (fun ls hl => ?_)
      clear ex27
      refine lv_goto (pc := 141) (tgt := 128) C.1 C.2.1 dX11_go_141 (by decide) ?_
      exact ih c0 i1 i2 i3 x27 v26 _ _ _ kc0 h hP hS (lv_sub hl [1, 2, 3, 4, 0] rfl)
set_option maxHeartbeats 4000000 in
set_option maxRecDepth 100000 in
theorem w_X11_go (C : Cx p s m args c cX11_go 5 RX11 D cy) (hI : wI LM ad) (hr : meth.sig.returnType = some .int) (hlk : meth.locks = false) (hR : RoL 3 R) {rZ : Int32} {vZ : VV} : ∀ (c0 : Nat) (i1 : Int32) (i2 : Int32) (v : VV) (H : Heap) (locs : List Loc) (ls : Array Slot), wk LM c0 11 → f_X11_go c0 i1 i2 v = some (rZ, vZ) → va_P D vwCl (wd LM cy ad v) H → va_S (wA LM ad) s.heap H locs → lv_has ls 5 [(0, .ref (ad c0)), (1, .int i1), (2, .int i2)] → W p l e R s m args below meth c H locs 0 0 (MQ below (qiG LM cy ad D rZ vZ) args s 0 0 (wA LM ad)) (F0 m 0 ls []) := by
  intro c0 i1 i2 v H locs ls kc0 h hP hS hl
  unfold f_X11_go at h
  refine lv_aload_n (pc := 0) C.1 C.2.1 dX11_go_0 rfl (lv_at hl 0 rfl) ?_
  refine lv_iload_n (pc := 1) C.1 C.2.1 dX11_go_1 rfl (lv_at hl 1 rfl) ?_
  obtain ⟨x3, v2, hc1, h⟩ := bi_e h
  refine x_calli (pc := 2) C hP hS mi_X11_isShip ck_11 kc0 ml_X11_163 (hR.le (by decide)) (Nat.zero_le _) (Nat.zero_le _) [.int i1] rfl hl.1 rfl (Nat.le_of_ble_eq_true rfl) dX11_go_2 (m_X11_isShip hI kc0 hc1) (fun H locs hP hS => ?_)
  refine lv_if_eq (pc := 5) (tgt := 16) C.1 C.2.1 dX11_go_5 (by decide) (fun b5 => ?_) (fun b5 => ?_)
  · replace h := if_t h b5
    refine lv_iconst (pc := 16) (v := (-1)) C.1 C.2.1 dX11_go_16 (by decide) ?_
    exact x_iret (pc := 17) C hr hlk hP hS h dX11_go_17
  · replace h := if_f h b5
    refine lv_aload_n (pc := 8) C.1 C.2.1 dX11_go_8 rfl (lv_at hl 0 rfl) ?_
    refine lv_iload_n (pc := 9) C.1 C.2.1 dX11_go_9 rfl (lv_at hl 2 rfl) ?_
    obtain ⟨x6, v5, hc4, h⟩ := bi_e h
    refine x_calli (pc := 10) C hP hS mi_X11_isPort ck_11 kc0 ml_X11_99 (hR.le (by decide)) (Nat.zero_le _) (Nat.zero_le _) [.int i2] rfl hl.1 rfl (Nat.le_of_ble_eq_true rfl) dX11_go_10 (m_X11_isPort hI kc0 hc4) (fun H locs hP hS => ?_)
    refine lv_if_ne (pc := 13) (tgt := 18) C.1 C.2.1 dX11_go_13 (by decide) (fun b13 => ?_) (fun b13 => ?_)
    · replace h := if_f h b13
      refine lv_aload_n (pc := 18) C.1 C.2.1 dX11_go_18 rfl (lv_at hl 0 rfl) ?_
      refine x_getr (pc := 19) C hP ck_11 13 fl_X11_45 (by decide) rfl kc0 dX11_go_19 ?_
      have k7 : wk LM (rfM c0 13) 12 := wt_f wT_M kc0 13 (by decide) rfl rfl
      refine lv_bipush (pc := 22) (v := 6) C.1 C.2.1 dX11_go_22 (by decide) ?_
      refine lv_aload_n (pc := 24) C.1 C.2.1 dX11_go_24 rfl (lv_at hl 0 rfl) ?_
      refine x_getr (pc := 25) C hP ck_11 23 fl_X11_57 (by decide) rfl kc0 dX11_go_25 ?_
      have k8 : wk LM (rfM c0 23) 12 := wt_f wT_M kc0 23 (by decide) rfl rfl
      refine lv_iload_n (pc := 28) C.1 C.2.1 dX11_go_28 rfl (lv_at hl 1 rfl) ?_
      obtain ⟨g9, h⟩ := gd_e h
      refine x_iald (pc := 29) C hP k8 (inB_vp g9) dX11_go_29 ?_
      refine lv_imul (pc := 30) C.1 C.2.1 dX11_go_30 ?_
      refine lv_iload_n (pc := 31) C.1 C.2.1 dX11_go_31 rfl (lv_at hl 2 rfl) ?_
      refine lv_iadd (pc := 32) C.1 C.2.1 dX11_go_32 ?_
      obtain ⟨g10, h⟩ := gd_e h
      refine x_iald (pc := 33) C hP k7 (inB_vp g10) dX11_go_33 ?_
      refine lv_topi (fun x11 ex11 => ?_)
      replace h := nv_e h ex11
      clear ex11
      refine lv_istore_n (pc := 34) (lv' := [(3, .int x11), (0, .ref (ad c0)), (1, .int i1), (2, .int i2)]) C.1 C.2.1 dX11_go_34 rfl hl (by decide) rfl (fun ls hl => ?_)
      refine lv_aload_n (pc := 35) C.1 C.2.1 dX11_go_35 rfl (lv_at hl 1 rfl) ?_
      refine x_geti (pc := 36) C hP ck_11 1 fl_X11_133 (by decide) rfl kc0 dX11_go_36 ?_
      refine lv_iload_n (pc := 39) C.1 C.2.1 dX11_go_39 rfl (lv_at hl 0 rfl) ?_
      refine lv_iadd (pc := 40) C.1 C.2.1 dX11_go_40 ?_
      refine lv_sipush (pc := 41) (v := 999) C.1 C.2.1 dX11_go_41 (by decide) ?_
      refine lv_icmp_le (pc := 44) (tgt := 50) C.1 C.2.1 dX11_go_44 (by decide) (fun b44 => ?_) (fun b44 => ?_)
      · replace h := if_t h b44
        refine lv_iload_n (pc := 50) C.1 C.2.1 dX11_go_50 rfl (lv_at hl 0 rfl) ?_
        refine lv_if_eq (pc := 51) (tgt := 92) C.1 C.2.1 dX11_go_51 (by decide) (fun b51 => ?_) (fun b51 => ?_)
        · replace h := if_t h b51
          refine lv_bipush (pc := 92) (v := (-5)) C.1 C.2.1 dX11_go_92 (by decide) ?_
          exact x_iret (pc := 94) C hr hlk hP hS h dX11_go_94
        · replace h := if_f h b51
          refine lv_aload_n (pc := 54) C.1 C.2.1 dX11_go_54 rfl (lv_at hl 1 rfl) ?_
          refine x_getr (pc := 55) C hP ck_11 12 fl_X11_41 (by decide) rfl kc0 dX11_go_55 ?_
          have k12 : wk LM (rfM c0 12) 13 := wt_f wT_M kc0 12 (by decide) rfl rfl
          refine lv_iload_n (pc := 58) C.1 C.2.1 dX11_go_58 rfl (lv_at hl 3 rfl) ?_
          obtain ⟨g13, h⟩ := gd_e h
          refine x_zald (pc := 59) C hP k12 (inB_vp g13) dX11_go_59 ?_
          refine lv_if_ne (pc := 60) (tgt := 92) C.1 C.2.1 dX11_go_60 (by decide) (fun b60 => ?_) (fun b60 => ?_)
          · replace h := if_f h b60
            refine lv_bipush (pc := 92) (v := (-5)) C.1 C.2.1 dX11_go_92 (by decide) ?_
            exact x_iret (pc := 94) C hr hlk hP hS h dX11_go_94
          · replace h := if_t h b60
            refine lv_aload_n (pc := 63) C.1 C.2.1 dX11_go_63 rfl (lv_at hl 1 rfl) ?_
            refine x_getr (pc := 64) C hP ck_11 12 fl_X11_41 (by decide) rfl kc0 dX11_go_64 ?_
            have k14 : wk LM (rfM c0 12) 13 := wt_f wT_M kc0 12 (by decide) rfl rfl
            refine lv_aload_n (pc := 67) C.1 C.2.1 dX11_go_67 rfl (lv_at hl 1 rfl) ?_
            refine x_getr (pc := 68) C hP ck_11 23 fl_X11_57 (by decide) rfl kc0 dX11_go_68 ?_
            have k15 : wk LM (rfM c0 23) 12 := wt_f wT_M kc0 23 (by decide) rfl rfl
            refine lv_iload_n (pc := 71) C.1 C.2.1 dX11_go_71 rfl (lv_at hl 2 rfl) ?_
            obtain ⟨g16, h⟩ := gd_e h
            refine x_iald (pc := 72) C hP k15 (inB_vp g16) dX11_go_72 ?_
            obtain ⟨g17, h⟩ := gd_e h
            refine x_zald (pc := 73) C hP k14 (inB_vp g17) dX11_go_73 ?_
            refine lv_if_ne (pc := 74) (tgt := 92) C.1 C.2.1 dX11_go_74 (by decide) (fun b74 => ?_) (fun b74 => ?_)
            · replace h := if_f h b74
              refine lv_bipush (pc := 92) (v := (-5)) C.1 C.2.1 dX11_go_92 (by decide) ?_
              exact x_iret (pc := 94) C hr hlk hP hS h dX11_go_94
            · replace h := if_t h b74
              refine lv_aload_n (pc := 77) C.1 C.2.1 dX11_go_77 rfl (lv_at hl 1 rfl) ?_
              refine x_getr (pc := 78) C hP ck_11 25 fl_X11_63 (by decide) rfl kc0 dX11_go_78 ?_
              have k18 : wk LM (rfM c0 25) 12 := wt_f wT_M kc0 25 (by decide) rfl rfl
              refine lv_iload_n (pc := 81) C.1 C.2.1 dX11_go_81 rfl (lv_at hl 2 rfl) ?_
              obtain ⟨g19, h⟩ := gd_e h
              refine x_iald (pc := 82) C hP k18 (inB_vp g19) dX11_go_82 ?_
              refine lv_aload_n (pc := 83) C.1 C.2.1 dX11_go_83 rfl (lv_at hl 1 rfl) ?_
              refine x_geti (pc := 84) C hP ck_11 2 fl_X11_7 (by decide) rfl kc0 dX11_go_84 ?_
              refine lv_iload_n (pc := 87) C.1 C.2.1 dX11_go_87 rfl (lv_at hl 0 rfl) ?_
              refine lv_imul (pc := 88) C.1 C.2.1 dX11_go_88 ?_
              refine lv_icmp_ge (pc := 89) (tgt := 95) C.1 C.2.1 dX11_go_89 (by decide) (fun b89 => ?_) (fun b89 => ?_)
              · replace h := if_t h b89
                refine lv_aload_n (pc := 95) C.1 C.2.1 dX11_go_95 rfl (lv_at hl 1 rfl) ?_
                refine x_getr (pc := 96) C hP ck_11 25 fl_X11_63 (by decide) rfl kc0 dX11_go_96 ?_
                have k20 : wk LM (rfM c0 25) 12 := wt_f wT_M kc0 25 (by decide) rfl rfl
                refine lv_iload_n (pc := 99) C.1 C.2.1 dX11_go_99 rfl (lv_at hl 2 rfl) ?_
                refine lv_dup2_11 (pc := 100) C.1 C.2.1 dX11_go_100 rfl rfl ?_
                obtain ⟨g21, h⟩ := gd_e h
                refine x_iald (pc := 101) C hP k20 (inB_vp g21) dX11_go_101 ?_
                refine lv_aload_n (pc := 102) C.1 C.2.1 dX11_go_102 rfl (lv_at hl 1 rfl) ?_
                refine x_geti (pc := 103) C hP ck_11 2 fl_X11_7 (by decide) rfl kc0 dX11_go_103 ?_
                refine lv_iload_n (pc := 106) C.1 C.2.1 dX11_go_106 rfl (lv_at hl 0 rfl) ?_
                refine lv_imul (pc := 107) C.1 C.2.1 dX11_go_107 ?_
                refine lv_isub (pc := 108) C.1 C.2.1 dX11_go_108 ?_
                obtain ⟨g22, h⟩ := gd_e h
                refine x_iast (pc := 109) C hI hP hS k20 (inB_vp g22) dX11_go_109 (fun H locs hP hS => ?_)
                obtain ⟨v23, h, hP⟩ := nv_p (P := fun z => va_P D vwCl (wd LM cy ad z) H) h hP
                refine lv_aload_n (pc := 110) C.1 C.2.1 dX11_go_110 rfl (lv_at hl 1 rfl) ?_
                refine lv_dup (pc := 111) C.1 C.2.1 dX11_go_111 rfl ?_
                refine x_geti (pc := 112) C hP ck_11 18 fl_X11_177 (by decide) rfl kc0 dX11_go_112 ?_
                refine lv_aload_n (pc := 115) C.1 C.2.1 dX11_go_115 rfl (lv_at hl 1 rfl) ?_
                refine x_geti (pc := 116) C hP ck_11 2 fl_X11_7 (by decide) rfl kc0 dX11_go_116 ?_
                refine lv_iload_n (pc := 119) C.1 C.2.1 dX11_go_119 rfl (lv_at hl 0 rfl) ?_
                refine lv_imul (pc := 120) C.1 C.2.1 dX11_go_120 ?_
                refine lv_iadd (pc := 121) C.1 C.2.1 dX11_go_121 ?_
                refine x_put (pc := 122) C hI hP hS ck_11 18 fl_X11_177 (by decide) rfl rfl kc0 rfl rfl dX11_go_122 (fun H locs hP hS => ?_)
                obtain ⟨v24, h, hP⟩ := nv_p (P := fun z => va_P D vwCl (wd LM cy ad z) H) h hP
                refine lv_iconst (pc := 125) (v := 0) C.1 C.2.1 dX11_go_125 (by decide) ?_
                refine lv_istore (pc := 126) (lv' := [(4, .int 0), (3, .int x11), (0, .ref (ad c0)), (1, .int i1), (2, .int i2)]) C.1 C.2.1 dX11_go_126 hl (by decide) rfl (fun ls hl => ?_)
                refine w_X11_go_l128 C hI hr hlk hR _ ?_ FU c0 i1 i2 x11 0 v24 _ _ _ kc0 h hP hS (lv_sub hl [2, 3, 4, 1, 0] rfl)
                intro c0_28 i1_28 i2_28 v_28 H locs ls kc0_28 h hP hS hl
                refine lv_aload_n (pc := 144) C.1 C.2.1 dX11_go_144 rfl (lv_at hl 0 rfl) ?_
                refine x_getr (pc := 145) C hP ck_11 23 fl_X11_57 (by decide) rfl kc0_28 dX11_go_145 ?_
                have k29 : wk LM (rfM c0_28 23) 12 := wt_f wT_M kc0_28 23 (by decide) rfl rfl
                refine lv_iload_n (pc := 148) C.1 C.2.1 dX11_go_148 rfl (lv_at hl 1 rfl) ?_
                refine lv_iload_n (pc := 149) C.1 C.2.1 dX11_go_149 rfl (lv_at hl 2 rfl) ?_
                obtain ⟨g30, h⟩ := gd_e h
                refine x_iast (pc := 150) C hI hP hS k29 (inB_vp g30) dX11_go_150 (fun H locs hP hS => ?_)
                obtain ⟨v31, h, hP⟩ := nv_p (P := fun z => va_P D vwCl (wd LM cy ad z) H) h hP
                refine lv_aload_n (pc := 151) C.1 C.2.1 dX11_go_151 rfl (lv_at hl 0 rfl) ?_
                refine x_geti (pc := 152) C hP ck_11 1 fl_X11_133 (by decide) rfl kc0_28 dX11_go_152 ?_
                exact x_iret (pc := 155) C hr hlk hP hS h dX11_go_155
              · replace h := if_f h b89
                refine lv_bipush (pc := 92) (v := (-5)) C.1 C.2.1 dX11_go_92 (by decide) ?_
                exact x_iret (pc := 94) C hr hlk hP hS h dX11_go_94
      · replace h := if_f h b44
        refine lv_bipush (pc := 47) (v := (-3)) C.1 C.2.1 dX11_go_47 (by decide) ?_
        exact x_iret (pc := 49) C hr hlk hP hS h dX11_go_49
    · replace h := if_t h b13
      refine lv_iconst (pc := 16) (v := (-1)) C.1 C.2.1 dX11_go_16 (by decide) ?_
      exact x_iret (pc := 17) C hr hlk hP hS h dX11_go_17
set_option maxRecDepth 100000 in
theorem m_X11_go (hI : wI LM ad) {c0 : Nat} {i1 : Int32} {i2 : Int32} {v : VV} {rZ : Int32} {vZ : VV} (kc0 : wk LM c0 11) (h : F_X11_go c0 i1 i2 v = some (rZ, vZ)) : Met l yX11_go (Cond.code yX11_go cX11_go 5 (some .int) :: wsG) (rmL 3) (pcG LM cy ad D [.ref (ad c0), .int i1, .int i2] v) (qiG LM cy ad D rZ vZ) 0 0 (wA LM ad) := by
  refine Met.ofW (cc := cX11_go) (maxL := 5) (ret := (some .int)) (by decide) rfl ?_
  intro p e s m args below meth c s₁ B hml hv
  obtain ⟨rfl, hP, hK⟩ := hv
  have hts := atoms_spec (ws := Cond.code yX11_go cX11_go 5 (some .int) :: wsG) B.pre
  have hown : s.vm.findClass RX11 = some m.cls := findClass_of_methodNamed B.named
  have C : Cx p s m _ c cX11_go 5 RX11 D cy := ⟨B.exec, B.bytes, hml, hown, fun w hw => hts w (List.mem_cons_of_mem _ hw), hK⟩
  have hl := lv_entry ([.ref (ad c0), .int i1, .int i2]) (n := 5) (Nat.le_of_ble_eq_true rfl)
  rw [lg_entry_eq]
  generalize (lg_sl ([.ref (ad c0), .int i1, .int i2]) ++ List.replicate (5 - (lg_sl ([.ref (ad c0), .int i1, .int i2])).length) Slot.unset).toArray = ls at hl ⊢
  have hl : lv_has ls 5 [(0, .ref (ad c0)), (1, .int i1), (2, .int i2)] := hl
  exact w_X11_go C hI B.returns B.notSynchronized (RoL_rm _) c0 i1 i2 v _ _ _ kc0 h hP va_S.rf (lv_sub hl [0, 1, 2] rfl)
def f_X11_ofShip (c0 : Nat) (i1 : Int32) (i2 : Int32) (v : VV) : Option (Int32 × VV) :=
  bi (F_X11_isShip c0 i1 v) fun x3 v2 =>
  if (x3 = 0) then
    some ((-1), v2)
  else
    bi (F_X11_in (Int32.toInt64 i2) 10 12 v2) fun x6 v5 =>
    if (x6 = 0) then
      if (i2 = 0) then
        gd (inB i1 (lnM (rfM c0 23)) = true) <|
        some ((v5 (rfM c0 23) (Int32.toNatClampNeg i1)), v5)
      else
        if (i2 = 1) then
          gd (inB i1 (lnM (rfM c0 24)) = true) <|
          some ((v5 (rfM c0 24) (Int32.toNatClampNeg i1)), v5)
        else
          if (i2 = 2) then
            gd (inB i1 (lnM (rfM c0 25)) = true) <|
            some ((v5 (rfM c0 25) (Int32.toNatClampNeg i1)), v5)
          else
            if (i2 = 3) then
              bi (F_X11_load c0 i1 v5) fun x9 v8 =>
              some (x9, v8)
            else
              some ((-2), v5)
    else
      gd (inB (((3 * i1) + i2) - 10) (lnM (rfM c0 26)) = true) <|
      some ((v5 (rfM c0 26) (Int32.toNatClampNeg (((3 * i1) + i2) - 10))), v5)
abbrev F_X11_ofShip (c0 : Nat) (i1 : Int32) (i2 : Int32) (v : VV) : Option (Int32 × VV) := f_X11_ofShip c0 i1 i2 v
set_option maxHeartbeats 4000000 in
set_option maxRecDepth 100000 in
theorem w_X11_ofShip (C : Cx p s m args c cX11_ofShip 3 RX11 D cy) (hI : wI LM ad) (hr : meth.sig.returnType = some .int) (hlk : meth.locks = false) (hR : RoL 3 R) {rZ : Int32} {vZ : VV} : ∀ (c0 : Nat) (i1 : Int32) (i2 : Int32) (v : VV) (H : Heap) (locs : List Loc) (ls : Array Slot), wk LM c0 11 → f_X11_ofShip c0 i1 i2 v = some (rZ, vZ) → va_P D vwCl (wd LM cy ad v) H → va_S (wA LM ad) s.heap H locs → lv_has ls 3 [(0, .ref (ad c0)), (1, .int i1), (2, .int i2)] → W p l e R s m args below meth c H locs 0 0 (MQ below (qiG LM cy ad D rZ vZ) args s 0 0 (wA LM ad)) (F0 m 0 ls []) := by
  intro c0 i1 i2 v H locs ls kc0 h hP hS hl
  unfold f_X11_ofShip at h
  refine lv_aload_n (pc := 0) C.1 C.2.1 dX11_ofShip_0 rfl (lv_at hl 0 rfl) ?_
  refine lv_iload_n (pc := 1) C.1 C.2.1 dX11_ofShip_1 rfl (lv_at hl 1 rfl) ?_
  obtain ⟨x3, v2, hc1, h⟩ := bi_e h
  refine x_calli (pc := 2) C hP hS mi_X11_isShip ck_11 kc0 ml_X11_163 (hR.le (by decide)) (Nat.zero_le _) (Nat.zero_le _) [.int i1] rfl hl.1 rfl (Nat.le_of_ble_eq_true rfl) dX11_ofShip_2 (m_X11_isShip hI kc0 hc1) (fun H locs hP hS => ?_)
  refine lv_if_ne (pc := 5) (tgt := 10) C.1 C.2.1 dX11_ofShip_5 (by decide) (fun b5 => ?_) (fun b5 => ?_)
  · replace h := if_f h b5
    refine lv_iload_n (pc := 10) C.1 C.2.1 dX11_ofShip_10 rfl (lv_at hl 2 rfl) ?_
    refine lv_i2l (pc := 11) C.1 C.2.1 dX11_ofShip_11 rfl ?_
    refine lv_ldc2 (pc := 12) (v := 10) C.1 C.2.1 C.2.2.2.1 (C.2.2.2.2.1 _ cl_X11_180) dX11_ofShip_12 ?_
    refine lv_ldc2 (pc := 15) (v := 12) C.1 C.2.1 C.2.2.2.1 (C.2.2.2.2.1 _ cl_X11_182) dX11_ofShip_15 ?_
    obtain ⟨x6, v5, hc4, h⟩ := bi_e h
    refine x_callsi (pc := 18) C hP hS ms_X11_in ml_X11_93 (hR.le (by decide)) (Nat.zero_le _) (Nat.zero_le _) [.long (Int32.toInt64 i2), .long 10, .long 12] rfl hl.1 rfl (Nat.le_of_ble_eq_true rfl) dX11_ofShip_18 (m_X11_in hI hc4) (fun H locs hP hS => ?_)
    refine lv_if_eq (pc := 21) (tgt := 38) C.1 C.2.1 dX11_ofShip_21 (by decide) (fun b21 => ?_) (fun b21 => ?_)
    · replace h := if_t h b21
      refine lv_iload_n (pc := 38) C.1 C.2.1 dX11_ofShip_38 rfl (lv_at hl 2 rfl) ?_
      refine lv_if_ne (pc := 39) (tgt := 51) C.1 C.2.1 dX11_ofShip_39 (by decide) (fun b39 => ?_) (fun b39 => ?_)
      · replace h := if_f h b39
        refine lv_iload_n (pc := 51) C.1 C.2.1 dX11_ofShip_51 rfl (lv_at hl 2 rfl) ?_
        refine lv_iconst (pc := 52) (v := 1) C.1 C.2.1 dX11_ofShip_52 (by decide) ?_
        refine lv_icmp_ne (pc := 53) (tgt := 65) C.1 C.2.1 dX11_ofShip_53 (by decide) (fun b53 => ?_) (fun b53 => ?_)
        · replace h := if_f h b53
          refine lv_iload_n (pc := 65) C.1 C.2.1 dX11_ofShip_65 rfl (lv_at hl 2 rfl) ?_
          refine lv_iconst (pc := 66) (v := 2) C.1 C.2.1 dX11_ofShip_66 (by decide) ?_
          refine lv_icmp_ne (pc := 67) (tgt := 79) C.1 C.2.1 dX11_ofShip_67 (by decide) (fun b67 => ?_) (fun b67 => ?_)
          · replace h := if_f h b67
            refine lv_iload_n (pc := 79) C.1 C.2.1 dX11_ofShip_79 rfl (lv_at hl 2 rfl) ?_
            refine lv_iconst (pc := 80) (v := 3) C.1 C.2.1 dX11_ofShip_80 (by decide) ?_
            refine lv_icmp_ne (pc := 81) (tgt := 92) C.1 C.2.1 dX11_ofShip_81 (by decide) (fun b81 => ?_) (fun b81 => ?_)
            · replace h := if_f h b81
              refine lv_bipush (pc := 92) (v := (-2)) C.1 C.2.1 dX11_ofShip_92 (by decide) ?_
              exact x_iret (pc := 94) C hr hlk hP hS h dX11_ofShip_94
            · replace h := if_t h b81
              refine lv_aload_n (pc := 84) C.1 C.2.1 dX11_ofShip_84 rfl (lv_at hl 0 rfl) ?_
              refine lv_iload_n (pc := 85) C.1 C.2.1 dX11_ofShip_85 rfl (lv_at hl 1 rfl) ?_
              obtain ⟨x9, v8, hc7, h⟩ := bi_e h
              refine x_calli (pc := 86) C hP hS mi_X11_load ck_11 kc0 ml_X11_170 (hR.le (by decide)) (Nat.zero_le _) (Nat.zero_le _) [.int i1] rfl hl.1 rfl (Nat.le_of_ble_eq_true rfl) dX11_ofShip_86 (m_X11_load hI kc0 hc7) (fun H locs hP hS => ?_)
              refine lv_goto (pc := 89) (tgt := 94) C.1 C.2.1 dX11_ofShip_89 (by decide) ?_
              exact x_iret (pc := 94) C hr hlk hP hS h dX11_ofShip_94
          · replace h := if_t h b67
            refine lv_aload_n (pc := 70) C.1 C.2.1 dX11_ofShip_70 rfl (lv_at hl 0 rfl) ?_
            refine x_getr (pc := 71) C hP ck_11 25 fl_X11_63 (by decide) rfl kc0 dX11_ofShip_71 ?_
            have k10 : wk LM (rfM c0 25) 12 := wt_f wT_M kc0 25 (by decide) rfl rfl
            refine lv_iload_n (pc := 74) C.1 C.2.1 dX11_ofShip_74 rfl (lv_at hl 1 rfl) ?_
            obtain ⟨g11, h⟩ := gd_e h
            refine x_iald (pc := 75) C hP k10 (inB_vp g11) dX11_ofShip_75 ?_
            refine lv_goto (pc := 76) (tgt := 94) C.1 C.2.1 dX11_ofShip_76 (by decide) ?_
            exact x_iret (pc := 94) C hr hlk hP hS h dX11_ofShip_94
        · replace h := if_t h b53
          refine lv_aload_n (pc := 56) C.1 C.2.1 dX11_ofShip_56 rfl (lv_at hl 0 rfl) ?_
          refine x_getr (pc := 57) C hP ck_11 24 fl_X11_60 (by decide) rfl kc0 dX11_ofShip_57 ?_
          have k12 : wk LM (rfM c0 24) 12 := wt_f wT_M kc0 24 (by decide) rfl rfl
          refine lv_iload_n (pc := 60) C.1 C.2.1 dX11_ofShip_60 rfl (lv_at hl 1 rfl) ?_
          obtain ⟨g13, h⟩ := gd_e h
          refine x_iald (pc := 61) C hP k12 (inB_vp g13) dX11_ofShip_61 ?_
          refine lv_goto (pc := 62) (tgt := 94) C.1 C.2.1 dX11_ofShip_62 (by decide) ?_
          exact x_iret (pc := 94) C hr hlk hP hS h dX11_ofShip_94
      · replace h := if_t h b39
        refine lv_aload_n (pc := 42) C.1 C.2.1 dX11_ofShip_42 rfl (lv_at hl 0 rfl) ?_
        refine x_getr (pc := 43) C hP ck_11 23 fl_X11_57 (by decide) rfl kc0 dX11_ofShip_43 ?_
        have k14 : wk LM (rfM c0 23) 12 := wt_f wT_M kc0 23 (by decide) rfl rfl
        refine lv_iload_n (pc := 46) C.1 C.2.1 dX11_ofShip_46 rfl (lv_at hl 1 rfl) ?_
        obtain ⟨g15, h⟩ := gd_e h
        refine x_iald (pc := 47) C hP k14 (inB_vp g15) dX11_ofShip_47 ?_
        refine lv_goto (pc := 48) (tgt := 94) C.1 C.2.1 dX11_ofShip_48 (by decide) ?_
        exact x_iret (pc := 94) C hr hlk hP hS h dX11_ofShip_94
    · replace h := if_f h b21
      refine lv_aload_n (pc := 24) C.1 C.2.1 dX11_ofShip_24 rfl (lv_at hl 0 rfl) ?_
      refine x_getr (pc := 25) C hP ck_11 26 fl_X11_66 (by decide) rfl kc0 dX11_ofShip_25 ?_
      have k16 : wk LM (rfM c0 26) 12 := wt_f wT_M kc0 26 (by decide) rfl rfl
      refine lv_iconst (pc := 28) (v := 3) C.1 C.2.1 dX11_ofShip_28 (by decide) ?_
      refine lv_iload_n (pc := 29) C.1 C.2.1 dX11_ofShip_29 rfl (lv_at hl 1 rfl) ?_
      refine lv_imul (pc := 30) C.1 C.2.1 dX11_ofShip_30 ?_
      refine lv_iload_n (pc := 31) C.1 C.2.1 dX11_ofShip_31 rfl (lv_at hl 2 rfl) ?_
      refine lv_iadd (pc := 32) C.1 C.2.1 dX11_ofShip_32 ?_
      refine lv_bipush (pc := 33) (v := 10) C.1 C.2.1 dX11_ofShip_33 (by decide) ?_
      refine lv_isub (pc := 35) C.1 C.2.1 dX11_ofShip_35 ?_
      obtain ⟨g17, h⟩ := gd_e h
      refine x_iald (pc := 36) C hP k16 (inB_vp g17) dX11_ofShip_36 ?_
      exact x_iret (pc := 37) C hr hlk hP hS h dX11_ofShip_37
  · replace h := if_t h b5
    refine lv_iconst (pc := 8) (v := (-1)) C.1 C.2.1 dX11_ofShip_8 (by decide) ?_
    exact x_iret (pc := 9) C hr hlk hP hS h dX11_ofShip_9
set_option maxRecDepth 100000 in
theorem m_X11_ofShip (hI : wI LM ad) {c0 : Nat} {i1 : Int32} {i2 : Int32} {v : VV} {rZ : Int32} {vZ : VV} (kc0 : wk LM c0 11) (h : F_X11_ofShip c0 i1 i2 v = some (rZ, vZ)) : Met l yX11_ofShip (Cond.code yX11_ofShip cX11_ofShip 3 (some .int) :: wsG) (rmL 3) (pcG LM cy ad D [.ref (ad c0), .int i1, .int i2] v) (qiG LM cy ad D rZ vZ) 0 0 (wA LM ad) := by
  refine Met.ofW (cc := cX11_ofShip) (maxL := 3) (ret := (some .int)) (by decide) rfl ?_
  intro p e s m args below meth c s₁ B hml hv
  obtain ⟨rfl, hP, hK⟩ := hv
  have hts := atoms_spec (ws := Cond.code yX11_ofShip cX11_ofShip 3 (some .int) :: wsG) B.pre
  have hown : s.vm.findClass RX11 = some m.cls := findClass_of_methodNamed B.named
  have C : Cx p s m _ c cX11_ofShip 3 RX11 D cy := ⟨B.exec, B.bytes, hml, hown, fun w hw => hts w (List.mem_cons_of_mem _ hw), hK⟩
  have hl := lv_entry ([.ref (ad c0), .int i1, .int i2]) (n := 3) (Nat.le_of_ble_eq_true rfl)
  rw [lg_entry_eq]
  generalize (lg_sl ([.ref (ad c0), .int i1, .int i2]) ++ List.replicate (3 - (lg_sl ([.ref (ad c0), .int i1, .int i2])).length) Slot.unset).toArray = ls at hl ⊢
  have hl : lv_has ls 3 [(0, .ref (ad c0)), (1, .int i1), (2, .int i2)] := hl
  exact w_X11_ofShip C hI B.returns B.notSynchronized (RoL_rm _) c0 i1 i2 v _ _ _ kc0 h hP va_S.rf (lv_sub hl [0, 1, 2] rfl)
def f_X11_fuel (c0 : Nat) (i1 : Int32) (v : VV) : Option (Int32 × VV) :=
  bi (F_X11_in (Int32.toInt64 i1) 0 20 v) fun x3 v2 =>
  if (x3 = 0) then
    some ((-2), v2)
  else
    nv ((v2 c0 2)) fun x4 =>
    nv (wu v2 c0 2 i1) fun v5 =>
    some (x4, v5)
abbrev F_X11_fuel (c0 : Nat) (i1 : Int32) (v : VV) : Option (Int32 × VV) := f_X11_fuel c0 i1 v
set_option maxHeartbeats 4000000 in
set_option maxRecDepth 100000 in
theorem w_X11_fuel (C : Cx p s m args c cX11_fuel 3 RX11 D cy) (hI : wI LM ad) (hr : meth.sig.returnType = some .int) (hlk : meth.locks = false) (hR : RoL 2 R) {rZ : Int32} {vZ : VV} : ∀ (c0 : Nat) (i1 : Int32) (v : VV) (H : Heap) (locs : List Loc) (ls : Array Slot), wk LM c0 11 → f_X11_fuel c0 i1 v = some (rZ, vZ) → va_P D vwCl (wd LM cy ad v) H → va_S (wA LM ad) s.heap H locs → lv_has ls 3 [(0, .ref (ad c0)), (1, .int i1)] → W p l e R s m args below meth c H locs 0 0 (MQ below (qiG LM cy ad D rZ vZ) args s 0 0 (wA LM ad)) (F0 m 0 ls []) := by
  intro c0 i1 v H locs ls kc0 h hP hS hl
  unfold f_X11_fuel at h
  refine lv_iload_n (pc := 0) C.1 C.2.1 dX11_fuel_0 rfl (lv_at hl 1 rfl) ?_
  refine lv_i2l (pc := 1) C.1 C.2.1 dX11_fuel_1 rfl ?_
  refine lv_lconst (pc := 2) (v := 0) C.1 C.2.1 dX11_fuel_2 (by decide) ?_
  refine lv_ldc2 (pc := 3) (v := 20) C.1 C.2.1 C.2.2.2.1 (C.2.2.2.2.1 _ cl_X11_124) dX11_fuel_3 ?_
  obtain ⟨x3, v2, hc1, h⟩ := bi_e h
  refine x_callsi (pc := 6) C hP hS ms_X11_in ml_X11_93 (hR.le (by decide)) (Nat.zero_le _) (Nat.zero_le _) [.long (Int32.toInt64 i1), .long 0, .long 20] rfl hl.1 rfl (Nat.le_of_ble_eq_true rfl) dX11_fuel_6 (m_X11_in hI hc1) (fun H locs hP hS => ?_)
  refine lv_if_ne (pc := 9) (tgt := 15) C.1 C.2.1 dX11_fuel_9 (by decide) (fun b9 => ?_) (fun b9 => ?_)
  · replace h := if_f h b9
    refine lv_aload_n (pc := 15) C.1 C.2.1 dX11_fuel_15 rfl (lv_at hl 0 rfl) ?_
    refine x_geti (pc := 16) C hP ck_11 2 fl_X11_7 (by decide) rfl kc0 dX11_fuel_16 ?_
    refine lv_topi (fun x4 ex4 => ?_)
    replace h := nv_e h ex4
    clear ex4
    refine lv_istore_n (pc := 19) (lv' := [(2, .int x4), (0, .ref (ad c0)), (1, .int i1)]) C.1 C.2.1 dX11_fuel_19 rfl hl (by decide) rfl (fun ls hl => ?_)
    refine lv_aload_n (pc := 20) C.1 C.2.1 dX11_fuel_20 rfl (lv_at hl 1 rfl) ?_
    refine lv_iload_n (pc := 21) C.1 C.2.1 dX11_fuel_21 rfl (lv_at hl 2 rfl) ?_
    refine x_put (pc := 22) C hI hP hS ck_11 2 fl_X11_7 (by decide) rfl rfl kc0 rfl rfl dX11_fuel_22 (fun H locs hP hS => ?_)
    obtain ⟨v5, h, hP⟩ := nv_p (P := fun z => va_P D vwCl (wd LM cy ad z) H) h hP
    refine lv_iload_n (pc := 25) C.1 C.2.1 dX11_fuel_25 rfl (lv_at hl 0 rfl) ?_
    exact x_iret (pc := 26) C hr hlk hP hS h dX11_fuel_26
  · replace h := if_t h b9
    refine lv_bipush (pc := 12) (v := (-2)) C.1 C.2.1 dX11_fuel_12 (by decide) ?_
    exact x_iret (pc := 14) C hr hlk hP hS h dX11_fuel_14
set_option maxRecDepth 100000 in
theorem m_X11_fuel (hI : wI LM ad) {c0 : Nat} {i1 : Int32} {v : VV} {rZ : Int32} {vZ : VV} (kc0 : wk LM c0 11) (h : F_X11_fuel c0 i1 v = some (rZ, vZ)) : Met l yX11_fuel (Cond.code yX11_fuel cX11_fuel 3 (some .int) :: wsG) (rmL 2) (pcG LM cy ad D [.ref (ad c0), .int i1] v) (qiG LM cy ad D rZ vZ) 0 0 (wA LM ad) := by
  refine Met.ofW (cc := cX11_fuel) (maxL := 3) (ret := (some .int)) (by decide) rfl ?_
  intro p e s m args below meth c s₁ B hml hv
  obtain ⟨rfl, hP, hK⟩ := hv
  have hts := atoms_spec (ws := Cond.code yX11_fuel cX11_fuel 3 (some .int) :: wsG) B.pre
  have hown : s.vm.findClass RX11 = some m.cls := findClass_of_methodNamed B.named
  have C : Cx p s m _ c cX11_fuel 3 RX11 D cy := ⟨B.exec, B.bytes, hml, hown, fun w hw => hts w (List.mem_cons_of_mem _ hw), hK⟩
  have hl := lv_entry ([.ref (ad c0), .int i1]) (n := 3) (Nat.le_of_ble_eq_true rfl)
  rw [lg_entry_eq]
  generalize (lg_sl ([.ref (ad c0), .int i1]) ++ List.replicate (3 - (lg_sl ([.ref (ad c0), .int i1])).length) Slot.unset).toArray = ls at hl ⊢
  have hl : lv_has ls 3 [(0, .ref (ad c0)), (1, .int i1)] := hl
  exact w_X11_fuel C hI B.returns B.notSynchronized (RoL_rm _) c0 i1 v _ _ _ kc0 h hP va_S.rf (lv_sub hl [0, 1] rfl)
def f_X11_told_l86 (k107 : Nat → Int32 → VV → Option (Int32 × VV)) : Nat → Nat → Int32 → Int32 → VV → Option (Int32 × VV)
  | 0, _, _, _, _ => none
  | n + 1, c0, i2, i3, v =>
    if (18 ≤ i3) then
      k107 c0 i2 v
    else
      gd (inB i3 (lnM (rfM c0 3)) = true) <|
      nv ((i2 + (v (rfM c0 3) (Int32.toNatClampNeg i3)))) fun x3 =>
      nv (i3 + 1) fun x4 =>
      f_X11_told_l86 k107 n c0 x3 x4 v
def f_X11_told_l109 : Nat → Nat → Int32 → Int32 → VV → Option (Int32 × VV)
  | 0, _, _, _, _ => none
  | n + 1, c0, i2, i3, v =>
    if (12 ≤ i3) then
      some (i2, v)
    else
      gd (inB i3 (lnM (rfM c0 26)) = true) <|
      nv ((i2 + (v (rfM c0 26) (Int32.toNatClampNeg i3)))) fun x8 =>
      nv (i3 + 1) fun x9 =>
      f_X11_told_l109 n c0 x8 x9 v
def f_X11_told_l154 : Nat → Nat → Int32 → Int32 → VV → Option (Int32 × VV)
  | 0, _, _, _, _ => none
  | n + 1, c0, i2, i3, v =>
    if ((v c0 27) ≤ i3) then
      some (i2, v)
    else
      gd (inB i3 (lnM (rfM c0 25)) = true) <|
      nv ((i2 + (v (rfM c0 25) (Int32.toNatClampNeg i3)))) fun x12 =>
      nv (i3 + 1) fun x13 =>
      f_X11_told_l154 n c0 x12 x13 v
def f_X11_told (c0 : Nat) (i1 : Int32) (v : VV) : Option (Int32 × VV) :=
  if i1 = 0 then
    some ((v c0 0), v)
  else
  if i1 = 1 then
    some ((v c0 27), v)
  else
  if i1 = 2 then
    some ((v c0 1), v)
  else
  if i1 = 3 then
    some ((v c0 22), v)
  else
  if i1 = 4 then
    f_X11_told_l86 (fun c0_5 i2_5 v_5 =>
    f_X11_told_l109 FU c0_5 i2_5 0 v_5) FU c0 0 0 v
  else
  if i1 = 5 then
    some ((v c0 14), v)
  else
  if i1 = 6 then
    some ((v c0 15), v)
  else
  if i1 = 7 then
    some ((v c0 16), v)
  else
  if i1 = 8 then
    some ((v c0 17), v)
  else
  if i1 = 9 then
    f_X11_told_l154 FU c0 0 0 v
  else
  if i1 = 10 then
    some ((v c0 18), v)
  else
  if i1 = 11 then
    some ((v c0 2), v)
  else
  some ((-10000002), v)
abbrev F_X11_told (c0 : Nat) (i1 : Int32) (v : VV) : Option (Int32 × VV) := f_X11_told c0 i1 v
set_option maxHeartbeats 4000000 in
set_option maxRecDepth 100000 in
theorem w_X11_told_l86 (C : Cx p s m args c cX11_told 4 RX11 D cy) (hI : wI LM ad) (hr : meth.sig.returnType = some .int) (hlk : meth.locks = false) (hR : RoL 1 R) (k107 : Nat → Int32 → VV → Option (Int32 × VV)) {rZ : Int32} {vZ : VV} (h107 : ∀ (c0 : Nat) (i2 : Int32) (v : VV) (H : Heap) (locs : List Loc) (ls : Array Slot), wk LM c0 11 → k107 c0 i2 v = some (rZ, vZ) → va_P D vwCl (wd LM cy ad v) H → va_S (wA LM ad) s.heap H locs → lv_has ls 4 [(0, .ref (ad c0)), (2, .int i2)] → W p l e R s m args below meth c H locs 0 0 (MQ below (qiG LM cy ad D rZ vZ) args s 0 0 (wA LM ad)) (F0 m 107 ls [])) : ∀ (n : Nat) (c0 : Nat) (i2 : Int32) (i3 : Int32) (v : VV) (H : Heap) (locs : List Loc) (ls : Array Slot), wk LM c0 11 → f_X11_told_l86 k107 n c0 i2 i3 v = some (rZ, vZ) → va_P D vwCl (wd LM cy ad v) H → va_S (wA LM ad) s.heap H locs → lv_has ls 4 [(0, .ref (ad c0)), (2, .int i2), (3, .int i3)] → W p l e R s m args below meth c H locs 0 0 (MQ below (qiG LM cy ad D rZ vZ) args s 0 0 (wA LM ad)) (F0 m 86 ls []) := by
  intro n
  induction n with
  | zero => intro c0 i2 i3 v H locs ls kc0 h hP hS hl; exact absurd h (by simp [f_X11_told_l86])
  | succ n ih =>
    intro c0 i2 i3 v H locs ls kc0 h hP hS hl
    rw [f_X11_told_l86] at h
    refine lv_iload_n (pc := 86) C.1 C.2.1 dX11_told_86 rfl (lv_at hl 2 rfl) ?_
    refine lv_bipush (pc := 87) (v := 18) C.1 C.2.1 dX11_told_87 (by decide) ?_
    refine lv_icmp_ge (pc := 89) (tgt := 107) C.1 C.2.1 dX11_told_89 (by decide) (fun b89 => ?_) (fun b89 => ?_)
    · replace h := if_t h b89
      exact h107 c0 i2 v _ _ _ kc0 h hP hS (lv_sub hl [0, 1] rfl)
    · replace h := if_f h b89
      refine lv_iload_n (pc := 92) C.1 C.2.1 dX11_told_92 rfl (lv_at hl 1 rfl) ?_
      refine lv_aload_n (pc := 93) C.1 C.2.1 dX11_told_93 rfl (lv_at hl 0 rfl) ?_
      refine x_getr (pc := 94) C hP ck_11 3 fl_X11_13 (by decide) rfl kc0 dX11_told_94 ?_
      have k1 : wk LM (rfM c0 3) 12 := wt_f wT_M kc0 3 (by decide) rfl rfl
      refine lv_iload_n (pc := 97) C.1 C.2.1 dX11_told_97 rfl (lv_at hl 2 rfl) ?_
      obtain ⟨g2, h⟩ := gd_e h
      refine x_iald (pc := 98) C hP k1 (inB_vp g2) dX11_told_98 ?_
      refine lv_iadd (pc := 99) C.1 C.2.1 dX11_told_99 ?_
      refine lv_topi (fun x3 ex3 => ?_)
      replace h := nv_e h ex3
      clear ex3
      refine lv_istore_n (pc := 100) (lv' := [(2, .int x3), (0, .ref (ad c0)), (3, .int i3)]) C.1 C.2.1 dX11_told_100 rfl hl (by decide) rfl (fun ls hl => ?_)
      obtain ⟨x4, ex4⟩ : ∃ y : Int32, y = i3 + 1 := ⟨_, rfl⟩
      replace h := nv_e h ex4
      refine lv_iinc (pc := 101) (v := x4) (lv' := [(3, .int x4), (2, .int x3), (0, .ref (ad c0))]) C.1 C.2.1 dX11_told_101 hl (k := 2) rfl (by rw [ex4]; rfl) (by decide) rfl (fun ls hl => ?_)
      clear ex4
      refine lv_goto (pc := 104) (tgt := 86) C.1 C.2.1 dX11_told_104 (by decide) ?_
      exact ih c0 x3 x4 v _ _ _ kc0 h hP hS (lv_sub hl [2, 1, 0] rfl)
set_option maxHeartbeats 4000000 in
set_option maxRecDepth 100000 in
theorem w_X11_told_l109 (C : Cx p s m args c cX11_told 4 RX11 D cy) (hI : wI LM ad) (hr : meth.sig.returnType = some .int) (hlk : meth.locks = false) (hR : RoL 1 R) {rZ : Int32} {vZ : VV} : ∀ (n : Nat) (c0 : Nat) (i2 : Int32) (i3 : Int32) (v : VV) (H : Heap) (locs : List Loc) (ls : Array Slot), wk LM c0 11 → f_X11_told_l109 n c0 i2 i3 v = some (rZ, vZ) → va_P D vwCl (wd LM cy ad v) H → va_S (wA LM ad) s.heap H locs → lv_has ls 4 [(0, .ref (ad c0)), (2, .int i2), (3, .int i3)] → W p l e R s m args below meth c H locs 0 0 (MQ below (qiG LM cy ad D rZ vZ) args s 0 0 (wA LM ad)) (F0 m 109 ls []) := by
  intro n
  induction n with
  | zero => intro c0 i2 i3 v H locs ls kc0 h hP hS hl; exact absurd h (by simp [f_X11_told_l109])
  | succ n ih =>
    intro c0 i2 i3 v H locs ls kc0 h hP hS hl
    rw [f_X11_told_l109] at h
    refine lv_iload_n (pc := 109) C.1 C.2.1 dX11_told_109 rfl (lv_at hl 2 rfl) ?_
    refine lv_bipush (pc := 110) (v := 12) C.1 C.2.1 dX11_told_110 (by decide) ?_
    refine lv_icmp_ge (pc := 112) (tgt := 130) C.1 C.2.1 dX11_told_112 (by decide) (fun b112 => ?_) (fun b112 => ?_)
    · replace h := if_t h b112
      refine lv_iload_n (pc := 130) C.1 C.2.1 dX11_told_130 rfl (lv_at hl 1 rfl) ?_
      exact x_iret (pc := 131) C hr hlk hP hS h dX11_told_131
    · replace h := if_f h b112
      refine lv_iload_n (pc := 115) C.1 C.2.1 dX11_told_115 rfl (lv_at hl 1 rfl) ?_
      refine lv_aload_n (pc := 116) C.1 C.2.1 dX11_told_116 rfl (lv_at hl 0 rfl) ?_
      refine x_getr (pc := 117) C hP ck_11 26 fl_X11_66 (by decide) rfl kc0 dX11_told_117 ?_
      have k6 : wk LM (rfM c0 26) 12 := wt_f wT_M kc0 26 (by decide) rfl rfl
      refine lv_iload_n (pc := 120) C.1 C.2.1 dX11_told_120 rfl (lv_at hl 2 rfl) ?_
      obtain ⟨g7, h⟩ := gd_e h
      refine x_iald (pc := 121) C hP k6 (inB_vp g7) dX11_told_121 ?_
      refine lv_iadd (pc := 122) C.1 C.2.1 dX11_told_122 ?_
      refine lv_topi (fun x8 ex8 => ?_)
      replace h := nv_e h ex8
      clear ex8
      refine lv_istore_n (pc := 123) (lv' := [(2, .int x8), (0, .ref (ad c0)), (3, .int i3)]) C.1 C.2.1 dX11_told_123 rfl hl (by decide) rfl (fun ls hl => ?_)
      obtain ⟨x9, ex9⟩ : ∃ y : Int32, y = i3 + 1 := ⟨_, rfl⟩
      replace h := nv_e h ex9
      refine lv_iinc (pc := 124) (v := x9) (lv' := [(3, .int x9), (2, .int x8), (0, .ref (ad c0))]) C.1 C.2.1 dX11_told_124 hl (k := 2) rfl (by rw [ex9]; rfl) (by decide) rfl (fun ls hl => ?_)
      clear ex9
      refine lv_goto (pc := 127) (tgt := 109) C.1 C.2.1 dX11_told_127 (by decide) ?_
      exact ih c0 x8 x9 v _ _ _ kc0 h hP hS (lv_sub hl [2, 1, 0] rfl)
set_option maxHeartbeats 4000000 in
set_option maxRecDepth 100000 in
theorem w_X11_told_l154 (C : Cx p s m args c cX11_told 4 RX11 D cy) (hI : wI LM ad) (hr : meth.sig.returnType = some .int) (hlk : meth.locks = false) (hR : RoL 1 R) {rZ : Int32} {vZ : VV} : ∀ (n : Nat) (c0 : Nat) (i2 : Int32) (i3 : Int32) (v : VV) (H : Heap) (locs : List Loc) (ls : Array Slot), wk LM c0 11 → f_X11_told_l154 n c0 i2 i3 v = some (rZ, vZ) → va_P D vwCl (wd LM cy ad v) H → va_S (wA LM ad) s.heap H locs → lv_has ls 4 [(0, .ref (ad c0)), (2, .int i2), (3, .int i3)] → W p l e R s m args below meth c H locs 0 0 (MQ below (qiG LM cy ad D rZ vZ) args s 0 0 (wA LM ad)) (F0 m 154 ls []) := by
  intro n
  induction n with
  | zero => intro c0 i2 i3 v H locs ls kc0 h hP hS hl; exact absurd h (by simp [f_X11_told_l154])
  | succ n ih =>
    intro c0 i2 i3 v H locs ls kc0 h hP hS hl
    rw [f_X11_told_l154] at h
    refine lv_iload_n (pc := 154) C.1 C.2.1 dX11_told_154 rfl (lv_at hl 2 rfl) ?_
    refine lv_aload_n (pc := 155) C.1 C.2.1 dX11_told_155 rfl (lv_at hl 0 rfl) ?_
    refine x_geti (pc := 156) C hP ck_11 27 fl_X11_158 (by decide) rfl kc0 dX11_told_156 ?_
    refine lv_icmp_ge (pc := 159) (tgt := 177) C.1 C.2.1 dX11_told_159 (by decide) (fun b159 => ?_) (fun b159 => ?_)
    · replace h := if_t h b159
      refine lv_iload_n (pc := 177) C.1 C.2.1 dX11_told_177 rfl (lv_at hl 1 rfl) ?_
      exact x_iret (pc := 178) C hr hlk hP hS h dX11_told_178
    · replace h := if_f h b159
      refine lv_iload_n (pc := 162) C.1 C.2.1 dX11_told_162 rfl (lv_at hl 1 rfl) ?_
      refine lv_aload_n (pc := 163) C.1 C.2.1 dX11_told_163 rfl (lv_at hl 0 rfl) ?_
      refine x_getr (pc := 164) C hP ck_11 25 fl_X11_63 (by decide) rfl kc0 dX11_told_164 ?_
      have k10 : wk LM (rfM c0 25) 12 := wt_f wT_M kc0 25 (by decide) rfl rfl
      refine lv_iload_n (pc := 167) C.1 C.2.1 dX11_told_167 rfl (lv_at hl 2 rfl) ?_
      obtain ⟨g11, h⟩ := gd_e h
      refine x_iald (pc := 168) C hP k10 (inB_vp g11) dX11_told_168 ?_
      refine lv_iadd (pc := 169) C.1 C.2.1 dX11_told_169 ?_
      refine lv_topi (fun x12 ex12 => ?_)
      replace h := nv_e h ex12
      clear ex12
      refine lv_istore_n (pc := 170) (lv' := [(2, .int x12), (0, .ref (ad c0)), (3, .int i3)]) C.1 C.2.1 dX11_told_170 rfl hl (by decide) rfl (fun ls hl => ?_)
      obtain ⟨x13, ex13⟩ : ∃ y : Int32, y = i3 + 1 := ⟨_, rfl⟩
      replace h := nv_e h ex13
      refine lv_iinc (pc := 171) (v := x13) (lv' := [(3, .int x13), (2, .int x12), (0, .ref (ad c0))]) C.1 C.2.1 dX11_told_171 hl (k := 2) rfl (by rw [ex13]; rfl) (by decide) rfl (fun ls hl => ?_)
      clear ex13
      refine lv_goto (pc := 174) (tgt := 154) C.1 C.2.1 dX11_told_174 (by decide) ?_
      exact ih c0 x12 x13 v _ _ _ kc0 h hP hS (lv_sub hl [2, 1, 0] rfl)
set_option maxHeartbeats 4000000 in
set_option maxRecDepth 100000 in
theorem w_X11_told (C : Cx p s m args c cX11_told 4 RX11 D cy) (hI : wI LM ad) (hr : meth.sig.returnType = some .int) (hlk : meth.locks = false) (hR : RoL 1 R) {rZ : Int32} {vZ : VV} : ∀ (c0 : Nat) (i1 : Int32) (v : VV) (H : Heap) (locs : List Loc) (ls : Array Slot), wk LM c0 11 → f_X11_told c0 i1 v = some (rZ, vZ) → va_P D vwCl (wd LM cy ad v) H → va_S (wA LM ad) s.heap H locs → lv_has ls 4 [(0, .ref (ad c0)), (1, .int i1)] → W p l e R s m args below meth c H locs 0 0 (MQ below (qiG LM cy ad D rZ vZ) args s 0 0 (wA LM ad)) (F0 m 0 ls []) := by
  intro c0 i1 v H locs ls kc0 h hP hS hl
  unfold f_X11_told at h
  refine lv_iconst (pc := 0) (v := 0) C.1 C.2.1 dX11_told_0 (by decide) ?_
  refine lv_istore_n (pc := 1) (lv' := [(2, .int 0), (0, .ref (ad c0)), (1, .int i1)]) C.1 C.2.1 dX11_told_1 rfl hl (by decide) rfl (fun ls hl => ?_)
  refine lv_iload_n (pc := 2) C.1 C.2.1 dX11_told_2 rfl (lv_at hl 2 rfl) ?_
  by_cases b3_0 : i1 = 0
  · replace h := if_t h b3_0
    refine x_swIn (pc := 3) C (tgt := 64) 0 0 (by decide) b3_0 dX11_told_3 (by decide) rfl (by decide) ?_
    refine lv_aload_n (pc := 64) C.1 C.2.1 dX11_told_64 rfl (lv_at hl 1 rfl) ?_
    refine x_geti (pc := 65) C hP ck_11 0 fl_X11_90 (by decide) rfl kc0 dX11_told_65 ?_
    exact x_iret (pc := 68) C hr hlk hP hS h dX11_told_68
  replace h := if_f h b3_0
  by_cases b3_1 : i1 = 1
  · replace h := if_t h b3_1
    refine x_swIn (pc := 3) C (tgt := 69) 1 1 (by decide) b3_1 dX11_told_3 (by decide) rfl (by decide) ?_
    refine lv_aload_n (pc := 69) C.1 C.2.1 dX11_told_69 rfl (lv_at hl 1 rfl) ?_
    refine x_geti (pc := 70) C hP ck_11 27 fl_X11_158 (by decide) rfl kc0 dX11_told_70 ?_
    exact x_iret (pc := 73) C hr hlk hP hS h dX11_told_73
  replace h := if_f h b3_1
  by_cases b3_2 : i1 = 2
  · replace h := if_t h b3_2
    refine x_swIn (pc := 3) C (tgt := 74) 2 2 (by decide) b3_2 dX11_told_3 (by decide) rfl (by decide) ?_
    refine lv_aload_n (pc := 74) C.1 C.2.1 dX11_told_74 rfl (lv_at hl 1 rfl) ?_
    refine x_geti (pc := 75) C hP ck_11 1 fl_X11_133 (by decide) rfl kc0 dX11_told_75 ?_
    exact x_iret (pc := 78) C hr hlk hP hS h dX11_told_78
  replace h := if_f h b3_2
  by_cases b3_3 : i1 = 3
  · replace h := if_t h b3_3
    refine x_swIn (pc := 3) C (tgt := 79) 3 3 (by decide) b3_3 dX11_told_3 (by decide) rfl (by decide) ?_
    refine lv_aload_n (pc := 79) C.1 C.2.1 dX11_told_79 rfl (lv_at hl 1 rfl) ?_
    refine x_geti (pc := 80) C hP ck_11 22 fl_X11_130 (by decide) rfl kc0 dX11_told_80 ?_
    exact x_iret (pc := 83) C hr hlk hP hS h dX11_told_83
  replace h := if_f h b3_3
  by_cases b3_4 : i1 = 4
  · replace h := if_t h b3_4
    refine x_swIn (pc := 3) C (tgt := 84) 4 4 (by decide) b3_4 dX11_told_3 (by decide) rfl (by decide) ?_
    refine lv_iconst (pc := 84) (v := 0) C.1 C.2.1 dX11_told_84 (by decide) ?_
    refine lv_istore_n (pc := 85) (lv' := [(3, .int 0), (2, .int 0), (0, .ref (ad c0)), (1, .int i1)]) C.1 C.2.1 dX11_told_85 rfl hl (by decide) rfl (fun ls hl => ?_)
    refine w_X11_told_l86 C hI hr hlk hR _ ?_ FU c0 0 0 v _ _ _ kc0 h hP hS (lv_sub hl [2, 1, 0] rfl)
    intro c0_5 i2_5 v_5 H locs ls kc0_5 h hP hS hl
    refine lv_iconst (pc := 107) (v := 0) C.1 C.2.1 dX11_told_107 (by decide) ?_
    refine lv_istore_n (pc := 108) (lv' := [(3, .int 0), (0, .ref (ad c0_5)), (2, .int i2_5)]) C.1 C.2.1 dX11_told_108 rfl hl (by decide) rfl (fun ls hl => ?_)
    refine w_X11_told_l109 C hI hr hlk hR FU c0_5 i2_5 0 v_5 _ _ _ kc0_5 h hP hS (lv_sub hl [1, 2, 0] rfl)
  replace h := if_f h b3_4
  by_cases b3_5 : i1 = 5
  · replace h := if_t h b3_5
    refine x_swIn (pc := 3) C (tgt := 132) 5 5 (by decide) b3_5 dX11_told_3 (by decide) rfl (by decide) ?_
    refine lv_aload_n (pc := 132) C.1 C.2.1 dX11_told_132 rfl (lv_at hl 1 rfl) ?_
    refine x_geti (pc := 133) C hP ck_11 14 fl_X11_143 (by decide) rfl kc0 dX11_told_133 ?_
    exact x_iret (pc := 136) C hr hlk hP hS h dX11_told_136
  replace h := if_f h b3_5
  by_cases b3_6 : i1 = 6
  · replace h := if_t h b3_6
    refine x_swIn (pc := 3) C (tgt := 137) 6 6 (by decide) b3_6 dX11_told_3 (by decide) rfl (by decide) ?_
    refine lv_aload_n (pc := 137) C.1 C.2.1 dX11_told_137 rfl (lv_at hl 1 rfl) ?_
    refine x_geti (pc := 138) C hP ck_11 15 fl_X11_146 (by decide) rfl kc0 dX11_told_138 ?_
    exact x_iret (pc := 141) C hr hlk hP hS h dX11_told_141
  replace h := if_f h b3_6
  by_cases b3_7 : i1 = 7
  · replace h := if_t h b3_7
    refine x_swIn (pc := 3) C (tgt := 142) 7 7 (by decide) b3_7 dX11_told_3 (by decide) rfl (by decide) ?_
    refine lv_aload_n (pc := 142) C.1 C.2.1 dX11_told_142 rfl (lv_at hl 1 rfl) ?_
    refine x_geti (pc := 143) C hP ck_11 16 fl_X11_140 (by decide) rfl kc0 dX11_told_143 ?_
    exact x_iret (pc := 146) C hr hlk hP hS h dX11_told_146
  replace h := if_f h b3_7
  by_cases b3_8 : i1 = 8
  · replace h := if_t h b3_8
    refine x_swIn (pc := 3) C (tgt := 147) 8 8 (by decide) b3_8 dX11_told_3 (by decide) rfl (by decide) ?_
    refine lv_aload_n (pc := 147) C.1 C.2.1 dX11_told_147 rfl (lv_at hl 1 rfl) ?_
    refine x_geti (pc := 148) C hP ck_11 17 fl_X11_118 (by decide) rfl kc0 dX11_told_148 ?_
    exact x_iret (pc := 151) C hr hlk hP hS h dX11_told_151
  replace h := if_f h b3_8
  by_cases b3_9 : i1 = 9
  · replace h := if_t h b3_9
    refine x_swIn (pc := 3) C (tgt := 152) 9 9 (by decide) b3_9 dX11_told_3 (by decide) rfl (by decide) ?_
    refine lv_iconst (pc := 152) (v := 0) C.1 C.2.1 dX11_told_152 (by decide) ?_
    refine lv_istore_n (pc := 153) (lv' := [(3, .int 0), (2, .int 0), (0, .ref (ad c0)), (1, .int i1)]) C.1 C.2.1 dX11_told_153 rfl hl (by decide) rfl (fun ls hl => ?_)
    refine w_X11_told_l154 C hI hr hlk hR FU c0 0 0 v _ _ _ kc0 h hP hS (lv_sub hl [2, 1, 0] rfl)
  replace h := if_f h b3_9
  by_cases b3_10 : i1 = 10
  · replace h := if_t h b3_10
    refine x_swIn (pc := 3) C (tgt := 179) 10 10 (by decide) b3_10 dX11_told_3 (by decide) rfl (by decide) ?_
    refine lv_aload_n (pc := 179) C.1 C.2.1 dX11_told_179 rfl (lv_at hl 1 rfl) ?_
    refine x_geti (pc := 180) C hP ck_11 18 fl_X11_177 (by decide) rfl kc0 dX11_told_180 ?_
    exact x_iret (pc := 183) C hr hlk hP hS h dX11_told_183
  replace h := if_f h b3_10
  by_cases b3_11 : i1 = 11
  · replace h := if_t h b3_11
    refine x_swIn (pc := 3) C (tgt := 184) 11 11 (by decide) b3_11 dX11_told_3 (by decide) rfl (by decide) ?_
    refine lv_aload_n (pc := 184) C.1 C.2.1 dX11_told_184 rfl (lv_at hl 1 rfl) ?_
    refine x_geti (pc := 185) C hP ck_11 2 fl_X11_7 (by decide) rfl kc0 dX11_told_185 ?_
    exact x_iret (pc := 188) C hr hlk hP hS h dX11_told_188
  replace h := if_f h b3_11
  refine x_swOut (pc := 3) C (tgt := 189) dX11_told_3 (by have := lv_neT b3_0 (a := 0) (by decide); have := lv_neT b3_1 (a := 1) (by decide); have := lv_neT b3_2 (a := 2) (by decide); have := lv_neT b3_3 (a := 3) (by decide); have := lv_neT b3_4 (a := 4) (by decide); have := lv_neT b3_5 (a := 5) (by decide); have := lv_neT b3_6 (a := 6) (by decide); have := lv_neT b3_7 (a := 7) (by decide); have := lv_neT b3_8 (a := 8) (by decide); have := lv_neT b3_9 (a := 9) (by decide); have := lv_neT b3_10 (a := 10) (by decide); have := lv_neT b3_11 (a := 11) (by decide); omega) (by decide) ?_
  refine lv_ldc (pc := 189) (v := (-10000002)) C.1 C.2.1 C.2.2.2.1 (C.2.2.2.2.1 _ ct_X11_129) dX11_told_189 ?_
  exact x_iret (pc := 191) C hr hlk hP hS h dX11_told_191
set_option maxRecDepth 100000 in
theorem m_X11_told (hI : wI LM ad) {c0 : Nat} {i1 : Int32} {v : VV} {rZ : Int32} {vZ : VV} (kc0 : wk LM c0 11) (h : F_X11_told c0 i1 v = some (rZ, vZ)) : Met l yX11_told (Cond.code yX11_told cX11_told 4 (some .int) :: wsG) (rmL 1) (pcG LM cy ad D [.ref (ad c0), .int i1] v) (qiG LM cy ad D rZ vZ) 0 0 (wA LM ad) := by
  refine Met.ofW (cc := cX11_told) (maxL := 4) (ret := (some .int)) (by decide) rfl ?_
  intro p e s m args below meth c s₁ B hml hv
  obtain ⟨rfl, hP, hK⟩ := hv
  have hts := atoms_spec (ws := Cond.code yX11_told cX11_told 4 (some .int) :: wsG) B.pre
  have hown : s.vm.findClass RX11 = some m.cls := findClass_of_methodNamed B.named
  have C : Cx p s m _ c cX11_told 4 RX11 D cy := ⟨B.exec, B.bytes, hml, hown, fun w hw => hts w (List.mem_cons_of_mem _ hw), hK⟩
  have hl := lv_entry ([.ref (ad c0), .int i1]) (n := 4) (Nat.le_of_ble_eq_true rfl)
  rw [lg_entry_eq]
  generalize (lg_sl ([.ref (ad c0), .int i1]) ++ List.replicate (4 - (lg_sl ([.ref (ad c0), .int i1])).length) Slot.unset).toArray = ls at hl ⊢
  have hl : lv_has ls 4 [(0, .ref (ad c0)), (1, .int i1)] := hl
  exact w_X11_told C hI B.returns B.notSynchronized (RoL_rm _) c0 i1 v _ _ _ kc0 h hP va_S.rf (lv_sub hl [0, 1] rfl)
def f_X11_legGain_l6 (k93 : Nat → Int32 → Int32 → Int32 → Int32 → VV → Option (Int32 × VV)) : Nat → Nat → Int32 → Int32 → Int32 → Int32 → Int32 → VV → Option (Int32 × VV)
  | 0, _, _, _, _, _, _, _ => none
  | n + 1, c0, i1, i2, i3, i4, i5, v =>
    if (3 ≤ i5) then
      k93 c0 i1 i2 i3 i4 v
    else
      nv (((3 * i1) + i5)) fun x1 =>
      nv (((3 * i2) + i5)) fun x2 =>
      gd (inB x2 (lnM (rfM c0 3)) = true) <|
      bi (F_X11_priceWith c0 x2 (v (rfM c0 3) (Int32.toNatClampNeg x2)) v) fun x7 v6 =>
      gd (inB i2 (lnM (rfM c0 9)) = true) <|
      gd (inB x1 (lnM (rfM c0 3)) = true) <|
      bi (F_X11_priceWith c0 x1 (v6 (rfM c0 3) (Int32.toNatClampNeg x1)) v6) fun x14 v13 =>
      gd (inB i1 (lnM (rfM c0 9)) = true) <|
      nv ((((x7 - (v6 (rfM c0 9) (Int32.toNatClampNeg i2))) - x14) - (v13 (rfM c0 9) (Int32.toNatClampNeg i1)))) fun x17 =>
      if (x17 ≤ i4) then
        nv (i5 + 1) fun x18 =>
        f_X11_legGain_l6 k93 n c0 i1 i2 i3 i4 x18 v13
      else
        nv (i5 + 1) fun x19 =>
        f_X11_legGain_l6 k93 n c0 i1 i2 i3 x17 x19 v13
def f_X11_legGain (c0 : Nat) (i1 : Int32) (i2 : Int32) (i3 : Int32) (v : VV) : Option (Int32 × VV) :=
  f_X11_legGain_l6 (fun c0_20 i1_20 i2_20 i3_20 i4_20 v_20 =>
  gd (inB ((6 * i1_20) + i2_20) (lnM (rfM c0_20 13)) = true) <|
  some (((i3_20 * i4_20) - ((v_20 c0_20 2) * (v_20 (rfM c0_20 13) (Int32.toNatClampNeg ((6 * i1_20) + i2_20))))), v_20)) FU c0 i1 i2 i3 0 0 v
abbrev F_X11_legGain (c0 : Nat) (i1 : Int32) (i2 : Int32) (i3 : Int32) (v : VV) : Option (Int32 × VV) := f_X11_legGain c0 i1 i2 i3 v
set_option maxHeartbeats 4000000 in
set_option maxRecDepth 100000 in
theorem w_X11_legGain_l6 (C : Cx p s m args c cX11_legGain 9 RX11 D cy) (hI : wI LM ad) (hr : meth.sig.returnType = some .int) (hlk : meth.locks = false) (hR : RoL 2 R) (k93 : Nat → Int32 → Int32 → Int32 → Int32 → VV → Option (Int32 × VV)) {rZ : Int32} {vZ : VV} (h93 : ∀ (c0 : Nat) (i1 : Int32) (i2 : Int32) (i3 : Int32) (i4 : Int32) (v : VV) (H : Heap) (locs : List Loc) (ls : Array Slot), wk LM c0 11 → k93 c0 i1 i2 i3 i4 v = some (rZ, vZ) → va_P D vwCl (wd LM cy ad v) H → va_S (wA LM ad) s.heap H locs → lv_has ls 9 [(0, .ref (ad c0)), (1, .int i1), (2, .int i2), (3, .int i3), (4, .int i4)] → W p l e R s m args below meth c H locs 0 0 (MQ below (qiG LM cy ad D rZ vZ) args s 0 0 (wA LM ad)) (F0 m 93 ls [])) : ∀ (n : Nat) (c0 : Nat) (i1 : Int32) (i2 : Int32) (i3 : Int32) (i4 : Int32) (i5 : Int32) (v : VV) (H : Heap) (locs : List Loc) (ls : Array Slot), wk LM c0 11 → f_X11_legGain_l6 k93 n c0 i1 i2 i3 i4 i5 v = some (rZ, vZ) → va_P D vwCl (wd LM cy ad v) H → va_S (wA LM ad) s.heap H locs → lv_has ls 9 [(0, .ref (ad c0)), (1, .int i1), (2, .int i2), (3, .int i3), (4, .int i4), (5, .int i5)] → W p l e R s m args below meth c H locs 0 0 (MQ below (qiG LM cy ad D rZ vZ) args s 0 0 (wA LM ad)) (F0 m 6 ls []) := by
  intro n
  induction n with
  | zero => intro c0 i1 i2 i3 i4 i5 v H locs ls kc0 h hP hS hl; exact absurd h (by simp [f_X11_legGain_l6])
  | succ n ih =>
    intro c0 i1 i2 i3 i4 i5 v H locs ls kc0 h hP hS hl
    rw [f_X11_legGain_l6] at h
    refine lv_iload (pc := 6) C.1 C.2.1 dX11_legGain_6 (lv_at hl 5 rfl) ?_
    refine lv_iconst (pc := 8) (v := 3) C.1 C.2.1 dX11_legGain_8 (by decide) ?_
    refine lv_icmp_ge (pc := 9) (tgt := 93) C.1 C.2.1 dX11_legGain_9 (by decide) (fun b9 => ?_) (fun b9 => ?_)
    · replace h := if_t h b9
      exact h93 c0 i1 i2 i3 i4 v _ _ _ kc0 h hP hS (lv_sub hl [0, 1, 2, 3, 4] rfl)
    · replace h := if_f h b9
      refine lv_iconst (pc := 12) (v := 3) C.1 C.2.1 dX11_legGain_12 (by decide) ?_
      refine lv_iload_n (pc := 13) C.1 C.2.1 dX11_legGain_13 rfl (lv_at hl 1 rfl) ?_
      refine lv_imul (pc := 14) C.1 C.2.1 dX11_legGain_14 ?_
      refine lv_iload (pc := 15) C.1 C.2.1 dX11_legGain_15 (lv_at hl 5 rfl) ?_
      refine lv_iadd (pc := 17) C.1 C.2.1 dX11_legGain_17 ?_
      refine lv_topi (fun x1 ex1 => ?_)
      replace h := nv_e h ex1
      clear ex1
      refine lv_istore (pc := 18) (lv' := [(6, .int x1), (0, .ref (ad c0)), (1, .int i1), (2, .int i2), (3, .int i3), (4, .int i4), (5, .int i5)]) C.1 C.2.1 dX11_legGain_18 hl (by decide) rfl (fun ls hl => ?_)
      refine lv_iconst (pc := 20) (v := 3) C.1 C.2.1 dX11_legGain_20 (by decide) ?_
      refine lv_iload_n (pc := 21) C.1 C.2.1 dX11_legGain_21 rfl (lv_at hl 3 rfl) ?_
      refine lv_imul (pc := 22) C.1 C.2.1 dX11_legGain_22 ?_
      refine lv_iload (pc := 23) C.1 C.2.1 dX11_legGain_23 (lv_at hl 6 rfl) ?_
      refine lv_iadd (pc := 25) C.1 C.2.1 dX11_legGain_25 ?_
      refine lv_topi (fun x2 ex2 => ?_)
      replace h := nv_e h ex2
      clear ex2
      refine lv_istore (pc := 26) (lv' := [(7, .int x2), (6, .int x1), (0, .ref (ad c0)), (1, .int i1), (2, .int i2), (3, .int i3), (4, .int i4), (5, .int i5)]) C.1 C.2.1 dX11_legGain_26 hl (by decide) rfl (fun ls hl => ?_)
      refine lv_aload_n (pc := 28) C.1 C.2.1 dX11_legGain_28 rfl (lv_at hl 2 rfl) ?_
      refine lv_iload (pc := 29) C.1 C.2.1 dX11_legGain_29 (lv_at hl 0 rfl) ?_
      refine lv_aload_n (pc := 31) C.1 C.2.1 dX11_legGain_31 rfl (lv_at hl 2 rfl) ?_
      refine x_getr (pc := 32) C hP ck_11 3 fl_X11_13 (by decide) rfl kc0 dX11_legGain_32 ?_
      have k3 : wk LM (rfM c0 3) 12 := wt_f wT_M kc0 3 (by decide) rfl rfl
      refine lv_iload (pc := 35) C.1 C.2.1 dX11_legGain_35 (lv_at hl 0 rfl) ?_
      obtain ⟨g4, h⟩ := gd_e h
      refine x_iald (pc := 37) C hP k3 (inB_vp g4) dX11_legGain_37 ?_
      obtain ⟨x7, v6, hc5, h⟩ := bi_e h
      refine x_calli (pc := 38) C hP hS mi_X11_priceWith ck_11 kc0 ml_X11_121 (hR.le (by decide)) (Nat.zero_le _) (Nat.zero_le _) [.int x2, .int (v (rfM c0 3) (Int32.toNatClampNeg x2))] rfl hl.1 rfl (Nat.le_of_ble_eq_true rfl) dX11_legGain_38 (m_X11_priceWith hI kc0 hc5) (fun H locs hP hS => ?_)
      refine lv_aload_n (pc := 41) C.1 C.2.1 dX11_legGain_41 rfl (lv_at hl 2 rfl) ?_
      refine x_getr (pc := 42) C hP ck_11 9 fl_X11_32 (by decide) rfl kc0 dX11_legGain_42 ?_
      have k8 : wk LM (rfM c0 9) 12 := wt_f wT_M kc0 9 (by decide) rfl rfl
      refine lv_iload_n (pc := 45) C.1 C.2.1 dX11_legGain_45 rfl (lv_at hl 4 rfl) ?_
      obtain ⟨g9, h⟩ := gd_e h
      refine x_iald (pc := 46) C hP k8 (inB_vp g9) dX11_legGain_46 ?_
      refine lv_isub (pc := 47) C.1 C.2.1 dX11_legGain_47 ?_
      refine lv_aload_n (pc := 48) C.1 C.2.1 dX11_legGain_48 rfl (lv_at hl 2 rfl) ?_
      refine lv_iload (pc := 49) C.1 C.2.1 dX11_legGain_49 (lv_at hl 1 rfl) ?_
      refine lv_aload_n (pc := 51) C.1 C.2.1 dX11_legGain_51 rfl (lv_at hl 2 rfl) ?_
      refine x_getr (pc := 52) C hP ck_11 3 fl_X11_13 (by decide) rfl kc0 dX11_legGain_52 ?_
      have k10 : wk LM (rfM c0 3) 12 := wt_f wT_M kc0 3 (by decide) rfl rfl
      refine lv_iload (pc := 55) C.1 C.2.1 dX11_legGain_55 (lv_at hl 1 rfl) ?_
      obtain ⟨g11, h⟩ := gd_e h
      refine x_iald (pc := 57) C hP k10 (inB_vp g11) dX11_legGain_57 ?_
      obtain ⟨x14, v13, hc12, h⟩ := bi_e h
      refine x_calli (pc := 58) C hP hS mi_X11_priceWith ck_11 kc0 ml_X11_121 (hR.le (by decide)) (Nat.zero_le _) (Nat.zero_le _) [.int x1, .int (v6 (rfM c0 3) (Int32.toNatClampNeg x1))] rfl hl.1 rfl (Nat.le_of_ble_eq_true rfl) dX11_legGain_58 (m_X11_priceWith hI kc0 hc12) (fun H locs hP hS => ?_)
      refine lv_isub (pc := 61) C.1 C.2.1 dX11_legGain_61 ?_
      refine lv_aload_n (pc := 62) C.1 C.2.1 dX11_legGain_62 rfl (lv_at hl 2 rfl) ?_
      refine x_getr (pc := 63) C hP ck_11 9 fl_X11_32 (by decide) rfl kc0 dX11_legGain_63 ?_
      have k15 : wk LM (rfM c0 9) 12 := wt_f wT_M kc0 9 (by decide) rfl rfl
      refine lv_iload_n (pc := 66) C.1 C.2.1 dX11_legGain_66 rfl (lv_at hl 3 rfl) ?_
      obtain ⟨g16, h⟩ := gd_e h
      refine x_iald (pc := 67) C hP k15 (inB_vp g16) dX11_legGain_67 ?_
      refine lv_isub (pc := 68) C.1 C.2.1 dX11_legGain_68 ?_
      refine lv_topi (fun x17 ex17 => ?_)
      replace h := nv_e h ex17
      clear ex17
      refine lv_istore (pc := 69) (lv' := [(8, .int x17), (7, .int x2), (6, .int x1), (0, .ref (ad c0)), (1, .int i1), (2, .int i2), (3, .int i3), (4, .int i4), (5, .int i5)]) C.1 C.2.1 dX11_legGain_69 hl (by decide) rfl (fun ls hl => ?_)
      refine lv_iload (pc := 71) C.1 C.2.1 dX11_legGain_71 (lv_at hl 0 rfl) ?_
      refine lv_iload (pc := 73) C.1 C.2.1 dX11_legGain_73 (lv_at hl 7 rfl) ?_
      refine lv_icmp_le (pc := 75) (tgt := 83) C.1 C.2.1 dX11_legGain_75 (by decide) (fun b75 => ?_) (fun b75 => ?_)
      · replace h := if_t h b75
        refine lv_iload (pc := 83) C.1 C.2.1 dX11_legGain_83 (lv_at hl 7 rfl) ?_
        refine lv_istore (pc := 85) (lv' := [(4, .int i4), (8, .int x17), (7, .int x2), (6, .int x1), (0, .ref (ad c0)), (1, .int i1), (2, .int i2), (3, .int i3), (5, .int i5)]) C.1 C.2.1 dX11_legGain_85 hl (by decide) rfl (fun ls hl => ?_)
        obtain ⟨x18, ex18⟩ : ∃ y : Int32, y = i5 + 1 := ⟨_, rfl⟩
        replace h := nv_e h ex18
        refine lv_iinc (pc := 87) (v := x18) (lv' := [(5, .int x18), (4, .int i4), (8, .int x17), (7, .int x2), (6, .int x1), (0, .ref (ad c0)), (1, .int i1), (2, .int i2), (3, .int i3)]) C.1 C.2.1 dX11_legGain_87 hl (k := 8) rfl (by rw [ex18]; rfl) (by decide) rfl (fun ls hl => ?_)
        clear ex18
        refine lv_goto (pc := 90) (tgt := 6) C.1 C.2.1 dX11_legGain_90 (by decide) ?_
        exact ih c0 i1 i2 i3 i4 x18 v13 _ _ _ kc0 h hP hS (lv_sub hl [5, 6, 7, 8, 1, 0] rfl)
      · replace h := if_f h b75
        refine lv_iload (pc := 78) C.1 C.2.1 dX11_legGain_78 (lv_at hl 0 rfl) ?_
        refine lv_goto (pc := 80) (tgt := 85) C.1 C.2.1 dX11_legGain_80 (by decide) ?_
        refine lv_istore (pc := 85) (lv' := [(4, .int x17), (8, .int x17), (7, .int x2), (6, .int x1), (0, .ref (ad c0)), (1, .int i1), (2, .int i2), (3, .int i3), (5, .int i5)]) C.1 C.2.1 dX11_legGain_85 hl (by decide) rfl (fun ls hl => ?_)
        obtain ⟨x19, ex19⟩ : ∃ y : Int32, y = i5 + 1 := ⟨_, rfl⟩
        replace h := nv_e h ex19
        refine lv_iinc (pc := 87) (v := x19) (lv' := [(5, .int x19), (4, .int x17), (8, .int x17), (7, .int x2), (6, .int x1), (0, .ref (ad c0)), (1, .int i1), (2, .int i2), (3, .int i3)]) C.1 C.2.1 dX11_legGain_87 hl (k := 8) rfl (by rw [ex19]; rfl) (by decide) rfl (fun ls hl => ?_)
        clear ex19
        refine lv_goto (pc := 90) (tgt := 6) C.1 C.2.1 dX11_legGain_90 (by decide) ?_
        exact ih c0 i1 i2 i3 x17 x19 v13 _ _ _ kc0 h hP hS (lv_sub hl [5, 6, 7, 8, 1, 0] rfl)
set_option maxHeartbeats 4000000 in
set_option maxRecDepth 100000 in
theorem w_X11_legGain (C : Cx p s m args c cX11_legGain 9 RX11 D cy) (hI : wI LM ad) (hr : meth.sig.returnType = some .int) (hlk : meth.locks = false) (hR : RoL 2 R) {rZ : Int32} {vZ : VV} : ∀ (c0 : Nat) (i1 : Int32) (i2 : Int32) (i3 : Int32) (v : VV) (H : Heap) (locs : List Loc) (ls : Array Slot), wk LM c0 11 → f_X11_legGain c0 i1 i2 i3 v = some (rZ, vZ) → va_P D vwCl (wd LM cy ad v) H → va_S (wA LM ad) s.heap H locs → lv_has ls 9 [(0, .ref (ad c0)), (1, .int i1), (2, .int i2), (3, .int i3)] → W p l e R s m args below meth c H locs 0 0 (MQ below (qiG LM cy ad D rZ vZ) args s 0 0 (wA LM ad)) (F0 m 0 ls []) := by
  intro c0 i1 i2 i3 v H locs ls kc0 h hP hS hl
  unfold f_X11_legGain at h
  refine lv_iconst (pc := 0) (v := 0) C.1 C.2.1 dX11_legGain_0 (by decide) ?_
  refine lv_istore (pc := 1) (lv' := [(4, .int 0), (0, .ref (ad c0)), (1, .int i1), (2, .int i2), (3, .int i3)]) C.1 C.2.1 dX11_legGain_1 hl (by decide) rfl (fun ls hl => ?_)
  refine lv_iconst (pc := 3) (v := 0) C.1 C.2.1 dX11_legGain_3 (by decide) ?_
  refine lv_istore (pc := 4) (lv' := [(5, .int 0), (4, .int 0), (0, .ref (ad c0)), (1, .int i1), (2, .int i2), (3, .int i3)]) C.1 C.2.1 dX11_legGain_4 hl (by decide) rfl (fun ls hl => ?_)
  refine w_X11_legGain_l6 C hI hr hlk hR _ ?_ FU c0 i1 i2 i3 0 0 v _ _ _ kc0 h hP hS (lv_sub hl [2, 3, 4, 5, 1, 0] rfl)
  intro c0_20 i1_20 i2_20 i3_20 i4_20 v_20 H locs ls kc0_20 h hP hS hl
  refine lv_iload_n (pc := 93) C.1 C.2.1 dX11_legGain_93 rfl (lv_at hl 3 rfl) ?_
  refine lv_iload (pc := 94) C.1 C.2.1 dX11_legGain_94 (lv_at hl 4 rfl) ?_
  refine lv_imul (pc := 96) C.1 C.2.1 dX11_legGain_96 ?_
  refine lv_aload_n (pc := 97) C.1 C.2.1 dX11_legGain_97 rfl (lv_at hl 0 rfl) ?_
  refine x_geti (pc := 98) C hP ck_11 2 fl_X11_7 (by decide) rfl kc0_20 dX11_legGain_98 ?_
  refine lv_aload_n (pc := 101) C.1 C.2.1 dX11_legGain_101 rfl (lv_at hl 0 rfl) ?_
  refine x_getr (pc := 102) C hP ck_11 13 fl_X11_45 (by decide) rfl kc0_20 dX11_legGain_102 ?_
  have k21 : wk LM (rfM c0_20 13) 12 := wt_f wT_M kc0_20 13 (by decide) rfl rfl
  refine lv_bipush (pc := 105) (v := 6) C.1 C.2.1 dX11_legGain_105 (by decide) ?_
  refine lv_iload_n (pc := 107) C.1 C.2.1 dX11_legGain_107 rfl (lv_at hl 1 rfl) ?_
  refine lv_imul (pc := 108) C.1 C.2.1 dX11_legGain_108 ?_
  refine lv_iload_n (pc := 109) C.1 C.2.1 dX11_legGain_109 rfl (lv_at hl 2 rfl) ?_
  refine lv_iadd (pc := 110) C.1 C.2.1 dX11_legGain_110 ?_
  obtain ⟨g22, h⟩ := gd_e h
  refine x_iald (pc := 111) C hP k21 (inB_vp g22) dX11_legGain_111 ?_
  refine lv_imul (pc := 112) C.1 C.2.1 dX11_legGain_112 ?_
  refine lv_isub (pc := 113) C.1 C.2.1 dX11_legGain_113 ?_
  exact x_iret (pc := 114) C hr hlk hP hS h dX11_legGain_114
set_option maxRecDepth 100000 in
theorem m_X11_legGain (hI : wI LM ad) {c0 : Nat} {i1 : Int32} {i2 : Int32} {i3 : Int32} {v : VV} {rZ : Int32} {vZ : VV} (kc0 : wk LM c0 11) (h : F_X11_legGain c0 i1 i2 i3 v = some (rZ, vZ)) : Met l yX11_legGain (Cond.code yX11_legGain cX11_legGain 9 (some .int) :: wsG) (rmL 2) (pcG LM cy ad D [.ref (ad c0), .int i1, .int i2, .int i3] v) (qiG LM cy ad D rZ vZ) 0 0 (wA LM ad) := by
  refine Met.ofW (cc := cX11_legGain) (maxL := 9) (ret := (some .int)) (by decide) rfl ?_
  intro p e s m args below meth c s₁ B hml hv
  obtain ⟨rfl, hP, hK⟩ := hv
  have hts := atoms_spec (ws := Cond.code yX11_legGain cX11_legGain 9 (some .int) :: wsG) B.pre
  have hown : s.vm.findClass RX11 = some m.cls := findClass_of_methodNamed B.named
  have C : Cx p s m _ c cX11_legGain 9 RX11 D cy := ⟨B.exec, B.bytes, hml, hown, fun w hw => hts w (List.mem_cons_of_mem _ hw), hK⟩
  have hl := lv_entry ([.ref (ad c0), .int i1, .int i2, .int i3]) (n := 9) (Nat.le_of_ble_eq_true rfl)
  rw [lg_entry_eq]
  generalize (lg_sl ([.ref (ad c0), .int i1, .int i2, .int i3]) ++ List.replicate (9 - (lg_sl ([.ref (ad c0), .int i1, .int i2, .int i3])).length) Slot.unset).toArray = ls at hl ⊢
  have hl : lv_has ls 9 [(0, .ref (ad c0)), (1, .int i1), (2, .int i2), (3, .int i3)] := hl
  exact w_X11_legGain C hI B.returns B.notSynchronized (RoL_rm _) c0 i1 i2 i3 v _ _ _ kc0 h hP va_S.rf (lv_sub hl [0, 1, 2, 3] rfl)
def f_X11_isLess_l2 (k22 : Nat → Int32 → VV → Option (Int32 × VV)) : Nat → Nat → Int32 → Int32 → VV → Option (Int32 × VV)
  | 0, _, _, _, _ => none
  | n + 1, c0, i1, i2, v =>
    if (i1 ≤ i2) then
      some (0, v)
    else
      gd (inB i2 (lnM (rfM c0 28)) = true) <|
      gd (inB i2 (lnM (rfM c0 29)) = true) <|
      if ((v (rfM c0 28) (Int32.toNatClampNeg i2)) = (v (rfM c0 29) (Int32.toNatClampNeg i2))) then
        nv (i2 + 1) fun x5 =>
        f_X11_isLess_l2 k22 n c0 i1 x5 v
      else
        k22 c0 i2 v
def f_X11_isLess (c0 : Nat) (i1 : Int32) (v : VV) : Option (Int32 × VV) :=
  f_X11_isLess_l2 (fun c0_6 i2_6 v_6 =>
  gd (inB i2_6 (lnM (rfM c0_6 28)) = true) <|
  gd (inB i2_6 (lnM (rfM c0_6 29)) = true) <|
  if ((v_6 (rfM c0_6 29) (Int32.toNatClampNeg i2_6)) ≤ (v_6 (rfM c0_6 28) (Int32.toNatClampNeg i2_6))) then
    some (0, v_6)
  else
    some (1, v_6)) FU c0 i1 0 v
abbrev F_X11_isLess (c0 : Nat) (i1 : Int32) (v : VV) : Option (Int32 × VV) := f_X11_isLess c0 i1 v
set_option maxHeartbeats 4000000 in
set_option maxRecDepth 100000 in
theorem w_X11_isLess_l2 (C : Cx p s m args c cX11_isLess 3 RX11 D cy) (hI : wI LM ad) (hr : meth.sig.returnType = some .boolean) (hlk : meth.locks = false) (hR : RoL 1 R) (k22 : Nat → Int32 → VV → Option (Int32 × VV)) {rZ : Int32} {vZ : VV} (h22 : ∀ (c0 : Nat) (i2 : Int32) (v : VV) (H : Heap) (locs : List Loc) (ls : Array Slot), wk LM c0 11 → k22 c0 i2 v = some (rZ, vZ) → va_P D vwCl (wd LM cy ad v) H → va_S (wA LM ad) s.heap H locs → lv_has ls 3 [(0, .ref (ad c0)), (2, .int i2)] → W p l e R s m args below meth c H locs 0 0 (MQ below (qiG LM cy ad D rZ vZ) args s 0 0 (wA LM ad)) (F0 m 22 ls [])) : ∀ (n : Nat) (c0 : Nat) (i1 : Int32) (i2 : Int32) (v : VV) (H : Heap) (locs : List Loc) (ls : Array Slot), wk LM c0 11 → f_X11_isLess_l2 k22 n c0 i1 i2 v = some (rZ, vZ) → va_P D vwCl (wd LM cy ad v) H → va_S (wA LM ad) s.heap H locs → lv_has ls 3 [(0, .ref (ad c0)), (1, .int i1), (2, .int i2)] → W p l e R s m args below meth c H locs 0 0 (MQ below (qiG LM cy ad D rZ vZ) args s 0 0 (wA LM ad)) (F0 m 2 ls []) := by
  intro n
  induction n with
  | zero => intro c0 i1 i2 v H locs ls kc0 h hP hS hl; exact absurd h (by simp [f_X11_isLess_l2])
  | succ n ih =>
    intro c0 i1 i2 v H locs ls kc0 h hP hS hl
    rw [f_X11_isLess_l2] at h
    refine lv_iload_n (pc := 2) C.1 C.2.1 dX11_isLess_2 rfl (lv_at hl 2 rfl) ?_
    refine lv_iload_n (pc := 3) C.1 C.2.1 dX11_isLess_3 rfl (lv_at hl 1 rfl) ?_
    refine lv_icmp_ge (pc := 4) (tgt := 49) C.1 C.2.1 dX11_isLess_4 (by decide) (fun b4 => ?_) (fun b4 => ?_)
    · replace h := if_t h b4
      refine lv_iconst (pc := 49) (v := 0) C.1 C.2.1 dX11_isLess_49 (by decide) ?_
      exact x_zret (pc := 50) C hr hlk hP hS (by decide) h dX11_isLess_50
    · replace h := if_f h b4
      refine lv_aload_n (pc := 7) C.1 C.2.1 dX11_isLess_7 rfl (lv_at hl 0 rfl) ?_
      refine x_getr (pc := 8) C hP ck_11 28 fl_X11_69 (by decide) rfl kc0 dX11_isLess_8 ?_
      have k1 : wk LM (rfM c0 28) 12 := wt_f wT_M kc0 28 (by decide) rfl rfl
      refine lv_iload_n (pc := 11) C.1 C.2.1 dX11_isLess_11 rfl (lv_at hl 2 rfl) ?_
      obtain ⟨g2, h⟩ := gd_e h
      refine x_iald (pc := 12) C hP k1 (inB_vp g2) dX11_isLess_12 ?_
      refine lv_aload_n (pc := 13) C.1 C.2.1 dX11_isLess_13 rfl (lv_at hl 0 rfl) ?_
      refine x_getr (pc := 14) C hP ck_11 29 fl_X11_72 (by decide) rfl kc0 dX11_isLess_14 ?_
      have k3 : wk LM (rfM c0 29) 12 := wt_f wT_M kc0 29 (by decide) rfl rfl
      refine lv_iload_n (pc := 17) C.1 C.2.1 dX11_isLess_17 rfl (lv_at hl 2 rfl) ?_
      obtain ⟨g4, h⟩ := gd_e h
      refine x_iald (pc := 18) C hP k3 (inB_vp g4) dX11_isLess_18 ?_
      refine lv_icmp_eq (pc := 19) (tgt := 43) C.1 C.2.1 dX11_isLess_19 (by decide) (fun b19 => ?_) (fun b19 => ?_)
      · replace h := if_t h b19
        obtain ⟨x5, ex5⟩ : ∃ y : Int32, y = i2 + 1 := ⟨_, rfl⟩
        replace h := nv_e h ex5
        refine lv_iinc (pc := 43) (v := x5) (lv' := [(2, .int x5), (0, .ref (ad c0)), (1, .int i1)]) C.1 C.2.1 dX11_isLess_43 hl (k := 2) rfl (by rw [ex5]; rfl) (by decide) rfl (fun ls hl => ?_)
        clear ex5
        refine lv_goto (pc := 46) (tgt := 2) C.1 C.2.1 dX11_isLess_46 (by decide) ?_
        exact ih c0 i1 x5 v _ _ _ kc0 h hP hS (lv_sub hl [1, 2, 0] rfl)
      · replace h := if_f h b19
        exact h22 c0 i2 v _ _ _ kc0 h hP hS (lv_sub hl [0, 2] rfl)
set_option maxHeartbeats 4000000 in
set_option maxRecDepth 100000 in
theorem w_X11_isLess (C : Cx p s m args c cX11_isLess 3 RX11 D cy) (hI : wI LM ad) (hr : meth.sig.returnType = some .boolean) (hlk : meth.locks = false) (hR : RoL 1 R) {rZ : Int32} {vZ : VV} : ∀ (c0 : Nat) (i1 : Int32) (v : VV) (H : Heap) (locs : List Loc) (ls : Array Slot), wk LM c0 11 → f_X11_isLess c0 i1 v = some (rZ, vZ) → va_P D vwCl (wd LM cy ad v) H → va_S (wA LM ad) s.heap H locs → lv_has ls 3 [(0, .ref (ad c0)), (1, .int i1)] → W p l e R s m args below meth c H locs 0 0 (MQ below (qiG LM cy ad D rZ vZ) args s 0 0 (wA LM ad)) (F0 m 0 ls []) := by
  intro c0 i1 v H locs ls kc0 h hP hS hl
  unfold f_X11_isLess at h
  refine lv_iconst (pc := 0) (v := 0) C.1 C.2.1 dX11_isLess_0 (by decide) ?_
  refine lv_istore_n (pc := 1) (lv' := [(2, .int 0), (0, .ref (ad c0)), (1, .int i1)]) C.1 C.2.1 dX11_isLess_1 rfl hl (by decide) rfl (fun ls hl => ?_)
  refine w_X11_isLess_l2 C hI hr hlk hR _ ?_ FU c0 i1 0 v _ _ _ kc0 h hP hS (lv_sub hl [1, 2, 0] rfl)
  intro c0_6 i2_6 v_6 H locs ls kc0_6 h hP hS hl
  refine lv_aload_n (pc := 22) C.1 C.2.1 dX11_isLess_22 rfl (lv_at hl 0 rfl) ?_
  refine x_getr (pc := 23) C hP ck_11 28 fl_X11_69 (by decide) rfl kc0_6 dX11_isLess_23 ?_
  have k7 : wk LM (rfM c0_6 28) 12 := wt_f wT_M kc0_6 28 (by decide) rfl rfl
  refine lv_iload_n (pc := 26) C.1 C.2.1 dX11_isLess_26 rfl (lv_at hl 1 rfl) ?_
  obtain ⟨g8, h⟩ := gd_e h
  refine x_iald (pc := 27) C hP k7 (inB_vp g8) dX11_isLess_27 ?_
  refine lv_aload_n (pc := 28) C.1 C.2.1 dX11_isLess_28 rfl (lv_at hl 0 rfl) ?_
  refine x_getr (pc := 29) C hP ck_11 29 fl_X11_72 (by decide) rfl kc0_6 dX11_isLess_29 ?_
  have k9 : wk LM (rfM c0_6 29) 12 := wt_f wT_M kc0_6 29 (by decide) rfl rfl
  refine lv_iload_n (pc := 32) C.1 C.2.1 dX11_isLess_32 rfl (lv_at hl 1 rfl) ?_
  obtain ⟨g10, h⟩ := gd_e h
  refine x_iald (pc := 33) C hP k9 (inB_vp g10) dX11_isLess_33 ?_
  refine lv_icmp_ge (pc := 34) (tgt := 41) C.1 C.2.1 dX11_isLess_34 (by decide) (fun b34 => ?_) (fun b34 => ?_)
  · replace h := if_t h b34
    refine lv_iconst (pc := 41) (v := 0) C.1 C.2.1 dX11_isLess_41 (by decide) ?_
    exact x_zret (pc := 42) C hr hlk hP hS (by decide) h dX11_isLess_42
  · replace h := if_f h b34
    refine lv_iconst (pc := 37) (v := 1) C.1 C.2.1 dX11_isLess_37 (by decide) ?_
    refine lv_goto (pc := 38) (tgt := 42) C.1 C.2.1 dX11_isLess_38 (by decide) ?_
    exact x_zret (pc := 42) C hr hlk hP hS (by decide) h dX11_isLess_42
set_option maxRecDepth 100000 in
theorem m_X11_isLess (hI : wI LM ad) {c0 : Nat} {i1 : Int32} {v : VV} {rZ : Int32} {vZ : VV} (kc0 : wk LM c0 11) (h : F_X11_isLess c0 i1 v = some (rZ, vZ)) : Met l yX11_isLess (Cond.code yX11_isLess cX11_isLess 3 (some .boolean) :: wsG) (rmL 1) (pcG LM cy ad D [.ref (ad c0), .int i1] v) (qiG LM cy ad D rZ vZ) 0 0 (wA LM ad) := by
  refine Met.ofW (cc := cX11_isLess) (maxL := 3) (ret := (some .boolean)) (by decide) rfl ?_
  intro p e s m args below meth c s₁ B hml hv
  obtain ⟨rfl, hP, hK⟩ := hv
  have hts := atoms_spec (ws := Cond.code yX11_isLess cX11_isLess 3 (some .boolean) :: wsG) B.pre
  have hown : s.vm.findClass RX11 = some m.cls := findClass_of_methodNamed B.named
  have C : Cx p s m _ c cX11_isLess 3 RX11 D cy := ⟨B.exec, B.bytes, hml, hown, fun w hw => hts w (List.mem_cons_of_mem _ hw), hK⟩
  have hl := lv_entry ([.ref (ad c0), .int i1]) (n := 3) (Nat.le_of_ble_eq_true rfl)
  rw [lg_entry_eq]
  generalize (lg_sl ([.ref (ad c0), .int i1]) ++ List.replicate (3 - (lg_sl ([.ref (ad c0), .int i1])).length) Slot.unset).toArray = ls at hl ⊢
  have hl : lv_has ls 3 [(0, .ref (ad c0)), (1, .int i1)] := hl
  exact w_X11_isLess C hI B.returns B.notSynchronized (RoL_rm _) c0 i1 v _ _ _ kc0 h hP va_S.rf (lv_sub hl [0, 1] rfl)
def f_X11_look_l8 (k89 : Nat → Int32 → Int32 → Int32 → VV → Option (VV)) : Nat → Nat → Int32 → Int32 → Int32 → Int32 → Int32 → VV → Option (VV)
  | 0, _, _, _, _, _, _, _ => none
  | n + 1, c0, i1, i2, i3, i4, i5, v =>
    if (i1 ≤ i5) then
      k89 c0 i1 i3 i4 v
    else
      gd (inB i5 (lnM (rfM c0 28)) = true) <|
      nv ((v (rfM c0 28) (Int32.toNatClampNeg i5))) fun x3 =>
      gd (¬ i1 = 0) <|
      gd (inB ((i5 + 1) - (i5 + 1) / i1 * i1) (lnM (rfM c0 28)) = true) <|
      nv ((v (rfM c0 28) (Int32.toNatClampNeg ((i5 + 1) - (i5 + 1) / i1 * i1)))) fun x7 =>
      gd (inB ((6 * x3) + x7) (lnM (rfM c0 13)) = true) <|
      if ((v (rfM c0 13) (Int32.toNatClampNeg ((6 * x3) + x7))) = 0) then
        some v
      else
        bi (F_X11_legGain c0 x3 x7 i2 v) fun x12 v11 =>
        nv ((i3 + x12)) fun x13 =>
        gd (inB ((6 * x3) + x7) (lnM (rfM c0 13)) = true) <|
        nv ((i4 + (v11 (rfM c0 13) (Int32.toNatClampNeg ((6 * x3) + x7))))) fun x16 =>
        nv (i5 + 1) fun x17 =>
        f_X11_look_l8 k89 n c0 i1 i2 x13 x16 x17 v11
def f_X11_look_l188 : Nat → Nat → Int32 → Int32 → VV → Option (VV)
  | 0, _, _, _, _ => none
  | n + 1, c0, i1, i10, v =>
    if (i1 ≤ i10) then
      some v
    else
      gd (inB i10 (lnM (rfM c0 28)) = true) <|
      gd (inB i10 (lnM (rfM c0 29)) = true) <|
      nv (wu v (rfM c0 29) (Int32.toNatClampNeg i10) (v (rfM c0 28) (Int32.toNatClampNeg i10))) fun v28 =>
      nv (i10 + 1) fun x29 =>
      f_X11_look_l188 n c0 i1 x29 v28
def f_X11_look_b162 (c0 : Nat) (i1 : Int32) (i3 : Int32) (i4 : Int32) (t0 : Int32) (v : VV) : Option (VV) :=
  if (t0 = 0) then
    some v
  else
    nv (wu v c0 30 i1) fun v21 =>
    nv (wu v21 c0 31 i3) fun v22 =>
    nv (wu v22 c0 32 i4) fun v23 =>
    f_X11_look_l188 FU c0 i1 0 v23
def f_X11_look_b157 (c0 : Nat) (i1 : Int32) (i3 : Int32) (i4 : Int32) (v : VV) : Option (VV) :=
  f_X11_look_b162 c0 i1 i3 i4 1 v
def f_X11_look_b161 (c0 : Nat) (i1 : Int32) (i3 : Int32) (i4 : Int32) (v : VV) : Option (VV) :=
  f_X11_look_b162 c0 i1 i3 i4 0 v
def f_X11_look (c0 : Nat) (i1 : Int32) (i2 : Int32) (v : VV) : Option (VV) :=
  f_X11_look_l8 (fun c0_18 i1_18 i3_18 i4_18 v_18 =>
  nv (((Int32.toInt64 i3_18) * (Int32.toInt64 (v_18 c0_18 32)))) fun y19 =>
  nv (((Int32.toInt64 (v_18 c0_18 31)) * (Int32.toInt64 i4_18))) fun y20 =>
  if ((v_18 c0_18 30) = 0) then
    f_X11_look_b157 c0_18 i1_18 i3_18 i4_18 v_18
  else
    if (0 < (lg_cmp y19 y20)) then
      f_X11_look_b157 c0_18 i1_18 i3_18 i4_18 v_18
    else
      if ((lg_cmp y19 y20) = 0) then
        if (i1_18 < (v_18 c0_18 30)) then
          f_X11_look_b157 c0_18 i1_18 i3_18 i4_18 v_18
        else
          if (i1_18 = (v_18 c0_18 30)) then
            bi (F_X11_isLess c0_18 i1_18 v_18) fun x32 v31 =>
            if (x32 = 0) then
              f_X11_look_b161 c0_18 i1_18 i3_18 i4_18 v31
            else
              f_X11_look_b157 c0_18 i1_18 i3_18 i4_18 v31
          else
            f_X11_look_b161 c0_18 i1_18 i3_18 i4_18 v_18
      else
        f_X11_look_b161 c0_18 i1_18 i3_18 i4_18 v_18) FU c0 i1 i2 0 0 0 v
abbrev F_X11_look (c0 : Nat) (i1 : Int32) (i2 : Int32) (v : VV) : Option (VV) := f_X11_look c0 i1 i2 v
set_option maxHeartbeats 4000000 in
set_option maxRecDepth 100000 in
theorem w_X11_look_l8 (C : Cx p s m args c cX11_look 11 RX11 D cy) (hI : wI LM ad) (hr : meth.sig.returnType = none) (hlk : meth.locks = false) (hR : RoL 3 R) (k89 : Nat → Int32 → Int32 → Int32 → VV → Option (VV)) {vZ : VV} (h89 : ∀ (c0 : Nat) (i1 : Int32) (i3 : Int32) (i4 : Int32) (v : VV) (H : Heap) (locs : List Loc) (ls : Array Slot), wk LM c0 11 → k89 c0 i1 i3 i4 v = some vZ → va_P D vwCl (wd LM cy ad v) H → va_S (wA LM ad) s.heap H locs → lv_has ls 11 [(0, .ref (ad c0)), (1, .int i1), (3, .int i3), (4, .int i4)] → W p l e R s m args below meth c H locs 0 0 (MQ below (qvG LM cy ad D vZ) args s 0 0 (wA LM ad)) (F0 m 89 ls [])) : ∀ (n : Nat) (c0 : Nat) (i1 : Int32) (i2 : Int32) (i3 : Int32) (i4 : Int32) (i5 : Int32) (v : VV) (H : Heap) (locs : List Loc) (ls : Array Slot), wk LM c0 11 → f_X11_look_l8 k89 n c0 i1 i2 i3 i4 i5 v = some vZ → va_P D vwCl (wd LM cy ad v) H → va_S (wA LM ad) s.heap H locs → lv_has ls 11 [(0, .ref (ad c0)), (1, .int i1), (2, .int i2), (3, .int i3), (4, .int i4), (5, .int i5)] → W p l e R s m args below meth c H locs 0 0 (MQ below (qvG LM cy ad D vZ) args s 0 0 (wA LM ad)) (F0 m 8 ls []) := by
  intro n
  induction n with
  | zero => intro c0 i1 i2 i3 i4 i5 v H locs ls kc0 h hP hS hl; exact absurd h (by simp [f_X11_look_l8])
  | succ n ih =>
    intro c0 i1 i2 i3 i4 i5 v H locs ls kc0 h hP hS hl
    rw [f_X11_look_l8] at h
    refine lv_iload (pc := 8) C.1 C.2.1 dX11_look_8 (lv_at hl 5 rfl) ?_
    refine lv_iload_n (pc := 10) C.1 C.2.1 dX11_look_10 rfl (lv_at hl 1 rfl) ?_
    refine lv_icmp_ge (pc := 11) (tgt := 89) C.1 C.2.1 dX11_look_11 (by decide) (fun b11 => ?_) (fun b11 => ?_)
    · replace h := if_t h b11
      exact h89 c0 i1 i3 i4 v _ _ _ kc0 h hP hS (lv_sub hl [0, 1, 3, 4] rfl)
    · replace h := if_f h b11
      refine lv_aload_n (pc := 14) C.1 C.2.1 dX11_look_14 rfl (lv_at hl 0 rfl) ?_
      refine x_getr (pc := 15) C hP ck_11 28 fl_X11_69 (by decide) rfl kc0 dX11_look_15 ?_
      have k1 : wk LM (rfM c0 28) 12 := wt_f wT_M kc0 28 (by decide) rfl rfl
      refine lv_iload (pc := 18) C.1 C.2.1 dX11_look_18 (lv_at hl 5 rfl) ?_
      obtain ⟨g2, h⟩ := gd_e h
      refine x_iald (pc := 20) C hP k1 (inB_vp g2) dX11_look_20 ?_
      refine lv_topi (fun x3 ex3 => ?_)
      replace h := nv_e h ex3
      clear ex3
      refine lv_istore (pc := 21) (lv' := [(6, .int x3), (0, .ref (ad c0)), (1, .int i1), (2, .int i2), (3, .int i3), (4, .int i4), (5, .int i5)]) C.1 C.2.1 dX11_look_21 hl (by decide) rfl (fun ls hl => ?_)
      refine lv_aload_n (pc := 23) C.1 C.2.1 dX11_look_23 rfl (lv_at hl 1 rfl) ?_
      refine x_getr (pc := 24) C hP ck_11 28 fl_X11_69 (by decide) rfl kc0 dX11_look_24 ?_
      have k4 : wk LM (rfM c0 28) 12 := wt_f wT_M kc0 28 (by decide) rfl rfl
      refine lv_iload (pc := 27) C.1 C.2.1 dX11_look_27 (lv_at hl 6 rfl) ?_
      refine lv_iconst (pc := 29) (v := 1) C.1 C.2.1 dX11_look_29 (by decide) ?_
      refine lv_iadd (pc := 30) C.1 C.2.1 dX11_look_30 ?_
      refine lv_iload_n (pc := 31) C.1 C.2.1 dX11_look_31 rfl (lv_at hl 2 rfl) ?_
      obtain ⟨g5, h⟩ := gd_e h
      refine lv_irem (pc := 32) C.1 C.2.1 dX11_look_32 g5 ?_
      obtain ⟨g6, h⟩ := gd_e h
      refine x_iald (pc := 33) C hP k4 (inB_vp g6) dX11_look_33 ?_
      refine lv_topi (fun x7 ex7 => ?_)
      replace h := nv_e h ex7
      clear ex7
      refine lv_istore (pc := 34) (lv' := [(7, .int x7), (6, .int x3), (0, .ref (ad c0)), (1, .int i1), (2, .int i2), (3, .int i3), (4, .int i4), (5, .int i5)]) C.1 C.2.1 dX11_look_34 hl (by decide) rfl (fun ls hl => ?_)
      refine lv_aload_n (pc := 36) C.1 C.2.1 dX11_look_36 rfl (lv_at hl 2 rfl) ?_
      refine x_getr (pc := 37) C hP ck_11 13 fl_X11_45 (by decide) rfl kc0 dX11_look_37 ?_
      have k8 : wk LM (rfM c0 13) 12 := wt_f wT_M kc0 13 (by decide) rfl rfl
      refine lv_bipush (pc := 40) (v := 6) C.1 C.2.1 dX11_look_40 (by decide) ?_
      refine lv_iload (pc := 42) C.1 C.2.1 dX11_look_42 (lv_at hl 1 rfl) ?_
      refine lv_imul (pc := 44) C.1 C.2.1 dX11_look_44 ?_
      refine lv_iload (pc := 45) C.1 C.2.1 dX11_look_45 (lv_at hl 0 rfl) ?_
      refine lv_iadd (pc := 47) C.1 C.2.1 dX11_look_47 ?_
      obtain ⟨g9, h⟩ := gd_e h
      refine x_iald (pc := 48) C hP k8 (inB_vp g9) dX11_look_48 ?_
      refine lv_if_ne (pc := 49) (tgt := 53) C.1 C.2.1 dX11_look_49 (by decide) (fun b49 => ?_) (fun b49 => ?_)
      · replace h := if_f h b49
        refine lv_iload_n (pc := 53) C.1 C.2.1 dX11_look_53 rfl (lv_at hl 5 rfl) ?_
        refine lv_aload_n (pc := 54) C.1 C.2.1 dX11_look_54 rfl (lv_at hl 2 rfl) ?_
        refine lv_iload (pc := 55) C.1 C.2.1 dX11_look_55 (lv_at hl 1 rfl) ?_
        refine lv_iload (pc := 57) C.1 C.2.1 dX11_look_57 (lv_at hl 0 rfl) ?_
        refine lv_iload_n (pc := 59) C.1 C.2.1 dX11_look_59 rfl (lv_at hl 4 rfl) ?_
        obtain ⟨x12, v11, hc10, h⟩ := bi_e h
        refine x_calli (pc := 60) C hP hS mi_X11_legGain ck_11 kc0 ml_X11_184 (hR.le (by decide)) (Nat.zero_le _) (Nat.zero_le _) [.int x3, .int x7, .int i2] rfl hl.1 rfl (Nat.le_of_ble_eq_true rfl) dX11_look_60 (m_X11_legGain hI kc0 hc10) (fun H locs hP hS => ?_)
        refine lv_iadd (pc := 63) C.1 C.2.1 dX11_look_63 ?_
        refine lv_topi (fun x13 ex13 => ?_)
        replace h := nv_e h ex13
        clear ex13
        refine lv_istore_n (pc := 64) (lv' := [(3, .int x13), (7, .int x7), (6, .int x3), (0, .ref (ad c0)), (1, .int i1), (2, .int i2), (4, .int i4), (5, .int i5)]) C.1 C.2.1 dX11_look_64 rfl hl (by decide) rfl (fun ls hl => ?_)
        refine lv_iload (pc := 65) C.1 C.2.1 dX11_look_65 (lv_at hl 6 rfl) ?_
        refine lv_aload_n (pc := 67) C.1 C.2.1 dX11_look_67 rfl (lv_at hl 3 rfl) ?_
        refine x_getr (pc := 68) C hP ck_11 13 fl_X11_45 (by decide) rfl kc0 dX11_look_68 ?_
        have k14 : wk LM (rfM c0 13) 12 := wt_f wT_M kc0 13 (by decide) rfl rfl
        refine lv_bipush (pc := 71) (v := 6) C.1 C.2.1 dX11_look_71 (by decide) ?_
        refine lv_iload (pc := 73) C.1 C.2.1 dX11_look_73 (lv_at hl 2 rfl) ?_
        refine lv_imul (pc := 75) C.1 C.2.1 dX11_look_75 ?_
        refine lv_iload (pc := 76) C.1 C.2.1 dX11_look_76 (lv_at hl 1 rfl) ?_
        refine lv_iadd (pc := 78) C.1 C.2.1 dX11_look_78 ?_
        obtain ⟨g15, h⟩ := gd_e h
        refine x_iald (pc := 79) C hP k14 (inB_vp g15) dX11_look_79 ?_
        refine lv_iadd (pc := 80) C.1 C.2.1 dX11_look_80 ?_
        refine lv_topi (fun x16 ex16 => ?_)
        replace h := nv_e h ex16
        clear ex16
        refine lv_istore (pc := 81) (lv' := [(4, .int x16), (3, .int x13), (7, .int x7), (6, .int x3), (0, .ref (ad c0)), (1, .int i1), (2, .int i2), (5, .int i5)]) C.1 C.2.1 dX11_look_81 hl (by decide) rfl (fun ls hl => ?_)
        obtain ⟨x17, ex17⟩ : ∃ y : Int32, y = i5 + 1 := ⟨_, rfl⟩
        replace h := nv_e h ex17
        refine lv_iinc (pc := 83) (v := x17) (lv' := [(5, .int x17), (4, .int x16), (3, .int x13), (7, .int x7), (6, .int x3), (0, .ref (ad c0)), (1, .int i1), (2, .int i2)]) C.1 C.2.1 dX11_look_83 hl (k := 7) rfl (by rw [ex17]; rfl) (by decide) rfl (fun ls hl => ?_)
        clear ex17
        refine lv_goto (pc := 86) (tgt := 8) C.1 C.2.1 dX11_look_86 (by decide) ?_
        exact ih c0 i1 i2 x13 x16 x17 v11 _ _ _ kc0 h hP hS (lv_sub hl [5, 6, 7, 2, 1, 0] rfl)
      · replace h := if_t h b49
        exact x_vret (pc := 52) C hr hlk hP hS h dX11_look_52
set_option maxHeartbeats 4000000 in
set_option maxRecDepth 100000 in
theorem w_X11_look_l188 (C : Cx p s m args c cX11_look 11 RX11 D cy) (hI : wI LM ad) (hr : meth.sig.returnType = none) (hlk : meth.locks = false) (hR : RoL 3 R) {vZ : VV} : ∀ (n : Nat) (c0 : Nat) (i1 : Int32) (i10 : Int32) (v : VV) (H : Heap) (locs : List Loc) (ls : Array Slot), wk LM c0 11 → f_X11_look_l188 n c0 i1 i10 v = some vZ → va_P D vwCl (wd LM cy ad v) H → va_S (wA LM ad) s.heap H locs → lv_has ls 11 [(0, .ref (ad c0)), (1, .int i1), (10, .int i10)] → W p l e R s m args below meth c H locs 0 0 (MQ below (qvG LM cy ad D vZ) args s 0 0 (wA LM ad)) (F0 m 188 ls []) := by
  intro n
  induction n with
  | zero => intro c0 i1 i10 v H locs ls kc0 h hP hS hl; exact absurd h (by simp [f_X11_look_l188])
  | succ n ih =>
    intro c0 i1 i10 v H locs ls kc0 h hP hS hl
    rw [f_X11_look_l188] at h
    refine lv_iload (pc := 188) C.1 C.2.1 dX11_look_188 (lv_at hl 2 rfl) ?_
    refine lv_iload_n (pc := 190) C.1 C.2.1 dX11_look_190 rfl (lv_at hl 1 rfl) ?_
    refine lv_icmp_ge (pc := 191) (tgt := 214) C.1 C.2.1 dX11_look_191 (by decide) (fun b191 => ?_) (fun b191 => ?_)
    · replace h := if_t h b191
      exact x_vret (pc := 214) C hr hlk hP hS h dX11_look_214
    · replace h := if_f h b191
      refine lv_aload_n (pc := 194) C.1 C.2.1 dX11_look_194 rfl (lv_at hl 0 rfl) ?_
      refine x_getr (pc := 195) C hP ck_11 29 fl_X11_72 (by decide) rfl kc0 dX11_look_195 ?_
      have k24 : wk LM (rfM c0 29) 12 := wt_f wT_M kc0 29 (by decide) rfl rfl
      refine lv_iload (pc := 198) C.1 C.2.1 dX11_look_198 (lv_at hl 2 rfl) ?_
      refine lv_aload_n (pc := 200) C.1 C.2.1 dX11_look_200 rfl (lv_at hl 0 rfl) ?_
      refine x_getr (pc := 201) C hP ck_11 28 fl_X11_69 (by decide) rfl kc0 dX11_look_201 ?_
      have k25 : wk LM (rfM c0 28) 12 := wt_f wT_M kc0 28 (by decide) rfl rfl
      refine lv_iload (pc := 204) C.1 C.2.1 dX11_look_204 (lv_at hl 2 rfl) ?_
      obtain ⟨g26, h⟩ := gd_e h
      refine x_iald (pc := 206) C hP k25 (inB_vp g26) dX11_look_206 ?_
      obtain ⟨g27, h⟩ := gd_e h
      refine x_iast (pc := 207) C hI hP hS k24 (inB_vp g27) dX11_look_207 (fun H locs hP hS => ?_)
      obtain ⟨v28, h, hP⟩ := nv_p (P := fun z => va_P D vwCl (wd LM cy ad z) H) h hP
      obtain ⟨x29, ex29⟩ : ∃ y : Int32, y = i10 + 1 := ⟨_, rfl⟩
      replace h := nv_e h ex29
      refine lv_iinc (pc := 208) (v := x29) (lv' := [(10, .int x29), (0, .ref (ad c0)), (1, .int i1)]) C.1 C.2.1 dX11_look_208 hl (k := 2) rfl (by rw [ex29]; rfl) (by decide) rfl (fun ls hl => ?_)
      clear ex29
      refine lv_goto (pc := 211) (tgt := 188) C.1 C.2.1 dX11_look_211 (by decide) ?_
      exact ih c0 i1 x29 v28 _ _ _ kc0 h hP hS (lv_sub hl [1, 2, 0] rfl)
set_option maxHeartbeats 4000000 in
set_option maxRecDepth 100000 in
theorem w_X11_look_b162 (C : Cx p s m args c cX11_look 11 RX11 D cy) (hI : wI LM ad) (hr : meth.sig.returnType = none) (hlk : meth.locks = false) (hR : RoL 3 R) {vZ : VV} : ∀ (c0 : Nat) (i1 : Int32) (i3 : Int32) (i4 : Int32) (t0 : Int32) (v : VV) (H : Heap) (locs : List Loc) (ls : Array Slot), wk LM c0 11 → f_X11_look_b162 c0 i1 i3 i4 t0 v = some vZ → va_P D vwCl (wd LM cy ad v) H → va_S (wA LM ad) s.heap H locs → lv_has ls 11 [(0, .ref (ad c0)), (1, .int i1), (3, .int i3), (4, .int i4)] → W p l e R s m args below meth c H locs 0 0 (MQ below (qvG LM cy ad D vZ) args s 0 0 (wA LM ad)) (F0 m 162 ls [.int t0]) := by
  intro c0 i1 i3 i4 t0 v H locs ls kc0 h hP hS hl
  unfold f_X11_look_b162 at h
  refine lv_istore (pc := 162) (lv' := [(9, .int t0), (0, .ref (ad c0)), (1, .int i1), (3, .int i3), (4, .int i4)]) C.1 C.2.1 dX11_look_162 hl (by decide) rfl (fun ls hl => ?_)
  refine lv_iload (pc := 164) C.1 C.2.1 dX11_look_164 (lv_at hl 0 rfl) ?_
  refine lv_if_eq (pc := 166) (tgt := 214) C.1 C.2.1 dX11_look_166 (by decide) (fun b166 => ?_) (fun b166 => ?_)
  · replace h := if_t h b166
    exact x_vret (pc := 214) C hr hlk hP hS h dX11_look_214
  · replace h := if_f h b166
    refine lv_aload_n (pc := 169) C.1 C.2.1 dX11_look_169 rfl (lv_at hl 1 rfl) ?_
    refine lv_iload_n (pc := 170) C.1 C.2.1 dX11_look_170 rfl (lv_at hl 2 rfl) ?_
    refine x_put (pc := 171) C hI hP hS ck_11 30 fl_X11_193 (by decide) rfl rfl kc0 rfl rfl dX11_look_171 (fun H locs hP hS => ?_)
    obtain ⟨v21, h, hP⟩ := nv_p (P := fun z => va_P D vwCl (wd LM cy ad z) H) h hP
    refine lv_aload_n (pc := 174) C.1 C.2.1 dX11_look_174 rfl (lv_at hl 1 rfl) ?_
    refine lv_iload_n (pc := 175) C.1 C.2.1 dX11_look_175 rfl (lv_at hl 3 rfl) ?_
    refine x_put (pc := 176) C hI hP hS ck_11 31 fl_X11_190 (by decide) rfl rfl kc0 rfl rfl dX11_look_176 (fun H locs hP hS => ?_)
    obtain ⟨v22, h, hP⟩ := nv_p (P := fun z => va_P D vwCl (wd LM cy ad z) H) h hP
    refine lv_aload_n (pc := 179) C.1 C.2.1 dX11_look_179 rfl (lv_at hl 1 rfl) ?_
    refine lv_iload (pc := 180) C.1 C.2.1 dX11_look_180 (lv_at hl 4 rfl) ?_
    refine x_put (pc := 182) C hI hP hS ck_11 32 fl_X11_187 (by decide) rfl rfl kc0 rfl rfl dX11_look_182 (fun H locs hP hS => ?_)
    obtain ⟨v23, h, hP⟩ := nv_p (P := fun z => va_P D vwCl (wd LM cy ad z) H) h hP
    refine lv_iconst (pc := 185) (v := 0) C.1 C.2.1 dX11_look_185 (by decide) ?_
    refine lv_istore (pc := 186) (lv' := [(10, .int 0), (9, .int t0), (0, .ref (ad c0)), (1, .int i1), (3, .int i3), (4, .int i4)]) C.1 C.2.1 dX11_look_186 hl (by decide) rfl (fun ls hl => ?_)
    refine w_X11_look_l188 C hI hr hlk hR FU c0 i1 0 v23 _ _ _ kc0 h hP hS (lv_sub hl [2, 3, 0] rfl)
set_option maxHeartbeats 4000000 in
set_option maxRecDepth 100000 in
theorem w_X11_look_b157 (C : Cx p s m args c cX11_look 11 RX11 D cy) (hI : wI LM ad) (hr : meth.sig.returnType = none) (hlk : meth.locks = false) (hR : RoL 3 R) {vZ : VV} : ∀ (c0 : Nat) (i1 : Int32) (i3 : Int32) (i4 : Int32) (v : VV) (H : Heap) (locs : List Loc) (ls : Array Slot), wk LM c0 11 → f_X11_look_b157 c0 i1 i3 i4 v = some vZ → va_P D vwCl (wd LM cy ad v) H → va_S (wA LM ad) s.heap H locs → lv_has ls 11 [(0, .ref (ad c0)), (1, .int i1), (3, .int i3), (4, .int i4)] → W p l e R s m args below meth c H locs 0 0 (MQ below (qvG LM cy ad D vZ) args s 0 0 (wA LM ad)) (F0 m 157 ls []) := by
  intro c0 i1 i3 i4 v H locs ls kc0 h hP hS hl
  unfold f_X11_look_b157 at h
  refine lv_iconst (pc := 157) (v := 1) C.1 C.2.1 dX11_look_157 (by decide) ?_
  refine lv_goto (pc := 158) (tgt := 162) C.1 C.2.1 dX11_look_158 (by decide) ?_
  exact w_X11_look_b162 C hI hr hlk hR c0 i1 i3 i4 1 v _ _ _ kc0 h hP hS (lv_sub hl [0, 1, 2, 3] rfl)
set_option maxHeartbeats 4000000 in
set_option maxRecDepth 100000 in
theorem w_X11_look_b161 (C : Cx p s m args c cX11_look 11 RX11 D cy) (hI : wI LM ad) (hr : meth.sig.returnType = none) (hlk : meth.locks = false) (hR : RoL 3 R) {vZ : VV} : ∀ (c0 : Nat) (i1 : Int32) (i3 : Int32) (i4 : Int32) (v : VV) (H : Heap) (locs : List Loc) (ls : Array Slot), wk LM c0 11 → f_X11_look_b161 c0 i1 i3 i4 v = some vZ → va_P D vwCl (wd LM cy ad v) H → va_S (wA LM ad) s.heap H locs → lv_has ls 11 [(0, .ref (ad c0)), (1, .int i1), (3, .int i3), (4, .int i4)] → W p l e R s m args below meth c H locs 0 0 (MQ below (qvG LM cy ad D vZ) args s 0 0 (wA LM ad)) (F0 m 161 ls []) := by
  intro c0 i1 i3 i4 v H locs ls kc0 h hP hS hl
  unfold f_X11_look_b161 at h
  refine lv_iconst (pc := 161) (v := 0) C.1 C.2.1 dX11_look_161 (by decide) ?_
  exact w_X11_look_b162 C hI hr hlk hR c0 i1 i3 i4 0 v _ _ _ kc0 h hP hS (lv_sub hl [0, 1, 2, 3] rfl)
set_option maxHeartbeats 4000000 in
set_option maxRecDepth 100000 in
theorem w_X11_look (C : Cx p s m args c cX11_look 11 RX11 D cy) (hI : wI LM ad) (hr : meth.sig.returnType = none) (hlk : meth.locks = false) (hR : RoL 3 R) {vZ : VV} : ∀ (c0 : Nat) (i1 : Int32) (i2 : Int32) (v : VV) (H : Heap) (locs : List Loc) (ls : Array Slot), wk LM c0 11 → f_X11_look c0 i1 i2 v = some vZ → va_P D vwCl (wd LM cy ad v) H → va_S (wA LM ad) s.heap H locs → lv_has ls 11 [(0, .ref (ad c0)), (1, .int i1), (2, .int i2)] → W p l e R s m args below meth c H locs 0 0 (MQ below (qvG LM cy ad D vZ) args s 0 0 (wA LM ad)) (F0 m 0 ls []) := by
  intro c0 i1 i2 v H locs ls kc0 h hP hS hl
  unfold f_X11_look at h
  refine lv_iconst (pc := 0) (v := 0) C.1 C.2.1 dX11_look_0 (by decide) ?_
  refine lv_istore_n (pc := 1) (lv' := [(3, .int 0), (0, .ref (ad c0)), (1, .int i1), (2, .int i2)]) C.1 C.2.1 dX11_look_1 rfl hl (by decide) rfl (fun ls hl => ?_)
  refine lv_iconst (pc := 2) (v := 0) C.1 C.2.1 dX11_look_2 (by decide) ?_
  refine lv_istore (pc := 3) (lv' := [(4, .int 0), (3, .int 0), (0, .ref (ad c0)), (1, .int i1), (2, .int i2)]) C.1 C.2.1 dX11_look_3 hl (by decide) rfl (fun ls hl => ?_)
  refine lv_iconst (pc := 5) (v := 0) C.1 C.2.1 dX11_look_5 (by decide) ?_
  refine lv_istore (pc := 6) (lv' := [(5, .int 0), (4, .int 0), (3, .int 0), (0, .ref (ad c0)), (1, .int i1), (2, .int i2)]) C.1 C.2.1 dX11_look_6 hl (by decide) rfl (fun ls hl => ?_)
  refine w_X11_look_l8 C hI hr hlk hR _ ?_ FU c0 i1 i2 0 0 0 v _ _ _ kc0 h hP hS (lv_sub hl [3, 4, 5, 2, 1, 0] rfl)
  intro c0_18 i1_18 i3_18 i4_18 v_18 H locs ls kc0_18 h hP hS hl
  refine lv_iload_n (pc := 89) C.1 C.2.1 dX11_look_89 rfl (lv_at hl 2 rfl) ?_
  refine lv_i2l (pc := 90) C.1 C.2.1 dX11_look_90 rfl ?_
  refine lv_aload_n (pc := 91) C.1 C.2.1 dX11_look_91 rfl (lv_at hl 0 rfl) ?_
  refine x_geti (pc := 92) C hP ck_11 32 fl_X11_187 (by decide) rfl kc0_18 dX11_look_92 ?_
  refine lv_i2l (pc := 95) C.1 C.2.1 dX11_look_95 rfl ?_
  refine lv_lmul (pc := 96) C.1 C.2.1 dX11_look_96 ?_
  refine lv_topl (fun y19 ey19 => ?_)
  replace h := nv_e h ey19
  clear ey19
  refine lv_lstore (pc := 97) (lv' := [(5, .long y19), (0, .ref (ad c0_18)), (1, .int i1_18), (3, .int i3_18), (4, .int i4_18)]) C.1 C.2.1 dX11_look_97 hl (by decide) rfl (fun ls hl => ?_)
  refine lv_aload_n (pc := 99) C.1 C.2.1 dX11_look_99 rfl (lv_at hl 1 rfl) ?_
  refine x_geti (pc := 100) C hP ck_11 31 fl_X11_190 (by decide) rfl kc0_18 dX11_look_100 ?_
  refine lv_i2l (pc := 103) C.1 C.2.1 dX11_look_103 rfl ?_
  refine lv_iload (pc := 104) C.1 C.2.1 dX11_look_104 (lv_at hl 4 rfl) ?_
  refine lv_i2l (pc := 106) C.1 C.2.1 dX11_look_106 rfl ?_
  refine lv_lmul (pc := 107) C.1 C.2.1 dX11_look_107 ?_
  refine lv_topl (fun y20 ey20 => ?_)
  replace h := nv_e h ey20
  clear ey20
  refine lv_lstore (pc := 108) (lv' := [(7, .long y20), (5, .long y19), (0, .ref (ad c0_18)), (1, .int i1_18), (3, .int i3_18), (4, .int i4_18)]) C.1 C.2.1 dX11_look_108 hl (by decide) rfl (fun ls hl => ?_)
  refine lv_aload_n (pc := 110) C.1 C.2.1 dX11_look_110 rfl (lv_at hl 2 rfl) ?_
  refine x_geti (pc := 111) C hP ck_11 30 fl_X11_193 (by decide) rfl kc0_18 dX11_look_111 ?_
  refine lv_if_eq (pc := 114) (tgt := 157) C.1 C.2.1 dX11_look_114 (by decide) (fun b114 => ?_) (fun b114 => ?_)
  · replace h := if_t h b114
    exact w_X11_look_b157 C hI hr hlk hR c0_18 i1_18 i3_18 i4_18 v_18 _ _ _ kc0_18 h hP hS (lv_sub hl [2, 3, 4, 5] rfl)
  · replace h := if_f h b114
    refine lv_lload (pc := 117) C.1 C.2.1 dX11_look_117 (lv_at hl 1 rfl) ?_
    refine lv_lload (pc := 119) C.1 C.2.1 dX11_look_119 (lv_at hl 0 rfl) ?_
    refine W.lcmp (pc := 121) C.1 C.2.1 dX11_look_121 ?_
    refine lv_if_gt (pc := 122) (tgt := 157) C.1 C.2.1 dX11_look_122 (by decide) (fun b122 => ?_) (fun b122 => ?_)
    · replace h := if_t h b122
      exact w_X11_look_b157 C hI hr hlk hR c0_18 i1_18 i3_18 i4_18 v_18 _ _ _ kc0_18 h hP hS (lv_sub hl [2, 3, 4, 5] rfl)
    · replace h := if_f h b122
      refine lv_lload (pc := 125) C.1 C.2.1 dX11_look_125 (lv_at hl 1 rfl) ?_
      refine lv_lload (pc := 127) C.1 C.2.1 dX11_look_127 (lv_at hl 0 rfl) ?_
      refine W.lcmp (pc := 129) C.1 C.2.1 dX11_look_129 ?_
      refine lv_if_ne (pc := 130) (tgt := 161) C.1 C.2.1 dX11_look_130 (by decide) (fun b130 => ?_) (fun b130 => ?_)
      · replace h := if_f h b130
        exact w_X11_look_b161 C hI hr hlk hR c0_18 i1_18 i3_18 i4_18 v_18 _ _ _ kc0_18 h hP hS (lv_sub hl [2, 3, 4, 5] rfl)
      · replace h := if_t h b130
        refine lv_iload_n (pc := 133) C.1 C.2.1 dX11_look_133 rfl (lv_at hl 3 rfl) ?_
        refine lv_aload_n (pc := 134) C.1 C.2.1 dX11_look_134 rfl (lv_at hl 2 rfl) ?_
        refine x_geti (pc := 135) C hP ck_11 30 fl_X11_193 (by decide) rfl kc0_18 dX11_look_135 ?_
        refine lv_icmp_lt (pc := 138) (tgt := 157) C.1 C.2.1 dX11_look_138 (by decide) (fun b138 => ?_) (fun b138 => ?_)
        · replace h := if_t h b138
          exact w_X11_look_b157 C hI hr hlk hR c0_18 i1_18 i3_18 i4_18 v_18 _ _ _ kc0_18 h hP hS (lv_sub hl [2, 3, 4, 5] rfl)
        · replace h := if_f h b138
          refine lv_iload_n (pc := 141) C.1 C.2.1 dX11_look_141 rfl (lv_at hl 3 rfl) ?_
          refine lv_aload_n (pc := 142) C.1 C.2.1 dX11_look_142 rfl (lv_at hl 2 rfl) ?_
          refine x_geti (pc := 143) C hP ck_11 30 fl_X11_193 (by decide) rfl kc0_18 dX11_look_143 ?_
          refine lv_icmp_ne (pc := 146) (tgt := 161) C.1 C.2.1 dX11_look_146 (by decide) (fun b146 => ?_) (fun b146 => ?_)
          · replace h := if_f h b146
            exact w_X11_look_b161 C hI hr hlk hR c0_18 i1_18 i3_18 i4_18 v_18 _ _ _ kc0_18 h hP hS (lv_sub hl [2, 3, 4, 5] rfl)
          · replace h := if_t h b146
            refine lv_aload_n (pc := 149) C.1 C.2.1 dX11_look_149 rfl (lv_at hl 2 rfl) ?_
            refine lv_iload_n (pc := 150) C.1 C.2.1 dX11_look_150 rfl (lv_at hl 3 rfl) ?_
            obtain ⟨x32, v31, hc30, h⟩ := bi_e h
            refine x_calli (pc := 151) C hP hS mi_X11_isLess ck_11 kc0_18 ml_X11_196 (hR.le (by decide)) (Nat.zero_le _) (Nat.zero_le _) [.int i1_18] rfl hl.1 rfl (Nat.le_of_ble_eq_true rfl) dX11_look_151 (m_X11_isLess hI kc0_18 hc30) (fun H locs hP hS => ?_)
            refine lv_if_eq (pc := 154) (tgt := 161) C.1 C.2.1 dX11_look_154 (by decide) (fun b154 => ?_) (fun b154 => ?_)
            · replace h := if_t h b154
              exact w_X11_look_b161 C hI hr hlk hR c0_18 i1_18 i3_18 i4_18 v31 _ _ _ kc0_18 h hP hS (lv_sub hl [2, 3, 4, 5] rfl)
            · replace h := if_f h b154
              exact w_X11_look_b157 C hI hr hlk hR c0_18 i1_18 i3_18 i4_18 v31 _ _ _ kc0_18 h hP hS (lv_sub hl [2, 3, 4, 5] rfl)
set_option maxRecDepth 100000 in
theorem m_X11_look (hI : wI LM ad) {c0 : Nat} {i1 : Int32} {i2 : Int32} {v : VV} {vZ : VV} (kc0 : wk LM c0 11) (h : F_X11_look c0 i1 i2 v = some vZ) : Met l yX11_look (Cond.code yX11_look cX11_look 11 none :: wsG) (rmL 3) (pcG LM cy ad D [.ref (ad c0), .int i1, .int i2] v) (qvG LM cy ad D vZ) 0 0 (wA LM ad) := by
  refine Met.ofW (cc := cX11_look) (maxL := 11) (ret := none) (by decide) rfl ?_
  intro p e s m args below meth c s₁ B hml hv
  obtain ⟨rfl, hP, hK⟩ := hv
  have hts := atoms_spec (ws := Cond.code yX11_look cX11_look 11 none :: wsG) B.pre
  have hown : s.vm.findClass RX11 = some m.cls := findClass_of_methodNamed B.named
  have C : Cx p s m _ c cX11_look 11 RX11 D cy := ⟨B.exec, B.bytes, hml, hown, fun w hw => hts w (List.mem_cons_of_mem _ hw), hK⟩
  have hl := lv_entry ([.ref (ad c0), .int i1, .int i2]) (n := 11) (Nat.le_of_ble_eq_true rfl)
  rw [lg_entry_eq]
  generalize (lg_sl ([.ref (ad c0), .int i1, .int i2]) ++ List.replicate (11 - (lg_sl ([.ref (ad c0), .int i1, .int i2])).length) Slot.unset).toArray = ls at hl ⊢
  have hl : lv_has ls 11 [(0, .ref (ad c0)), (1, .int i1), (2, .int i2)] := hl
  exact w_X11_look C hI B.returns B.notSynchronized (RoL_rm _) c0 i1 i2 v _ _ _ kc0 h hP va_S.rf (lv_sub hl [0, 1, 2] rfl)
def f_X11_lookAll_l5 (k24 : Nat → Int32 → Int32 → Int32 → VV → Option (VV)) : Nat → Nat → Int32 → Int32 → Int32 → Int32 → VV → Option (VV)
  | 0, _, _, _, _, _, _ => none
  | n + 1, c0, i1, i2, i3, i4, v =>
    if (i1 ≤ i4) then
      k24 c0 i1 i2 i3 v
    else
      nv ((i3 * (v c0 0))) fun x1 =>
      nv (i4 + 1) fun x2 =>
      f_X11_lookAll_l5 k24 n c0 i1 i2 x1 x2 v
def f_X11_lookAll_b116 (k48 : Nat → Int32 → Int32 → Int32 → Int32 → Int32 → Int32 → Int32 → Int32 → VV → Option (VV)) (c0 : Nat) (i1 : Int32) (i2 : Int32) (i3 : Int32) (i4 : Int32) (i5 : Int32) (i6 : Int32) (i8 : Int32) (t0 : Int32) (v : VV) : Option (VV) :=
  gd (inB i8 (lnM (rfM c0 28)) = true) <|
  nv ((i6 ||| (1 <<< ((v (rfM c0 28) (Int32.toNatClampNeg i8)) &&& 31)))) fun x13 =>
  nv (i8 + (-1)) fun x14 =>
  k48 c0 i1 i2 i3 i4 i5 x13 t0 x14 v
def f_X11_lookAll_b115 (k48 : Nat → Int32 → Int32 → Int32 → Int32 → Int32 → Int32 → Int32 → Int32 → VV → Option (VV)) (c0 : Nat) (i1 : Int32) (i2 : Int32) (i3 : Int32) (i4 : Int32) (i5 : Int32) (i6 : Int32) (i8 : Int32) (v : VV) : Option (VV) :=
  f_X11_lookAll_b116 k48 c0 i1 i2 i3 i4 i5 i6 i8 0 v
def f_X11_lookAll_l48 (k138 : Nat → Int32 → Int32 → Int32 → Int32 → Int32 → VV → Option (VV)) : Nat → Nat → Int32 → Int32 → Int32 → Int32 → Int32 → Int32 → Int32 → Int32 → VV → Option (VV)
  | 0, _, _, _, _, _, _, _, _, _, _ => none
  | n + 1, c0, i1, i2, i3, i4, i5, i6, i7, i8, v =>
    if (i8 < 0) then
      k138 c0 i1 i2 i3 i4 i7 v
    else
      gd (¬ (v c0 0) = 0) <|
      gd (inB i8 (lnM (rfM c0 28)) = true) <|
      nv (wu v (rfM c0 28) (Int32.toNatClampNeg i8) (i5 - i5 / (v c0 0) * (v c0 0))) fun v8 =>
      gd (¬ (v8 c0 0) = 0) <|
      nv ((i5 / (v8 c0 0))) fun x10 =>
      if (i7 = 0) then
        f_X11_lookAll_b115 (fun c0 i1 i2 i3 i4 i5 i6 i7 i8 v => f_X11_lookAll_l48 k138 n c0 i1 i2 i3 i4 i5 i6 i7 i8 v) c0 i1 i2 i3 i4 x10 i6 i8 v8
      else
        gd (inB i8 (lnM (rfM c0 28)) = true) <|
        if (((i6 >>> ((v8 (rfM c0 28) (Int32.toNatClampNeg i8)) &&& 31)) &&& 1) = 0) then
          gd (inB i8 (lnM (rfM c0 28)) = true) <|
          gd (inB (v8 (rfM c0 28) (Int32.toNatClampNeg i8)) (lnM (rfM c0 12)) = true) <|
          if ((v8 (rfM c0 12) (Int32.toNatClampNeg (v8 (rfM c0 28) (Int32.toNatClampNeg i8)))) = 0) then
            f_X11_lookAll_b116 (fun c0 i1 i2 i3 i4 i5 i6 i7 i8 v => f_X11_lookAll_l48 k138 n c0 i1 i2 i3 i4 i5 i6 i7 i8 v) c0 i1 i2 i3 i4 x10 i6 i8 1 v8
          else
            f_X11_lookAll_b115 (fun c0 i1 i2 i3 i4 i5 i6 i7 i8 v => f_X11_lookAll_l48 k138 n c0 i1 i2 i3 i4 i5 i6 i7 i8 v) c0 i1 i2 i3 i4 x10 i6 i8 v8
        else
          f_X11_lookAll_b115 (fun c0 i1 i2 i3 i4 i5 i6 i7 i8 v => f_X11_lookAll_l48 k138 n c0 i1 i2 i3 i4 i5 i6 i7 i8 v) c0 i1 i2 i3 i4 x10 i6 i8 v8
def f_X11_lookAll_l141 (k181 : Nat → Int32 → Int32 → Int32 → Int32 → Int32 → VV → Option (VV)) : Nat → Nat → Int32 → Int32 → Int32 → Int32 → Int32 → Int32 → VV → Option (VV)
  | 0, _, _, _, _, _, _, _, _ => none
  | n + 1, c0, i1, i2, i3, i4, i7, i8, v =>
    if (i1 ≤ i8) then
      k181 c0 i1 i2 i3 i4 i7 v
    else
      if (i7 = 0) then
        k181 c0 i1 i2 i3 i4 i7 v
      else
        gd (inB i8 (lnM (rfM c0 28)) = true) <|
        gd (inB 0 (lnM (rfM c0 28)) = true) <|
        if ((v (rfM c0 28) (Int32.toNatClampNeg i8)) ≤ (v (rfM c0 28) (Int32.toNatClampNeg 0))) then
          nv (i8 + 1) fun x26 =>
          f_X11_lookAll_l141 k181 n c0 i1 i2 i3 i4 0 x26 v
        else
          nv (i8 + 1) fun x27 =>
          f_X11_lookAll_l141 k181 n c0 i1 i2 i3 i4 1 x27 v
def f_X11_lookAll_b181 (k27 : Nat → Int32 → Int32 → Int32 → Int32 → VV → Option (VV)) (c0 : Nat) (i1 : Int32) (i2 : Int32) (i3 : Int32) (i4 : Int32) (i7 : Int32) (v : VV) : Option (VV) :=
  if (i7 = 0) then
    nv (i4 + 1) fun x29 =>
    k27 c0 i1 i2 i3 x29 v
  else
    (F_X11_look c0 i1 i2 v).bind fun v31 =>
    nv (i4 + 1) fun x32 =>
    k27 c0 i1 i2 i3 x32 v31
def f_X11_lookAll_l27 : Nat → Nat → Int32 → Int32 → Int32 → Int32 → VV → Option (VV)
  | 0, _, _, _, _, _, _ => none
  | n + 1, c0, i1, i2, i3, i4, v =>
    if (i3 ≤ i4) then
      some v
    else
      nv ((i1 - 1)) fun x4 =>
      f_X11_lookAll_l48 (fun c0_21 i1_21 i2_21 i3_21 i4_21 i7_21 v_21 =>
      f_X11_lookAll_l141 (fun c0_28 i1_28 i2_28 i3_28 i4_28 i7_28 v_28 =>
      f_X11_lookAll_b181 (fun c0 i1 i2 i3 i4 v => f_X11_lookAll_l27 n c0 i1 i2 i3 i4 v) c0_28 i1_28 i2_28 i3_28 i4_28 i7_28 v_28) FU c0_21 i1_21 i2_21 i3_21 i4_21 i7_21 1 v_21) FU c0 i1 i2 i3 i4 i4 0 1 x4 v
def f_X11_lookAll (c0 : Nat) (i1 : Int32) (i2 : Int32) (v : VV) : Option (VV) :=
  f_X11_lookAll_l5 (fun c0_3 i1_3 i2_3 i3_3 v_3 =>
  f_X11_lookAll_l27 FU c0_3 i1_3 i2_3 i3_3 0 v_3) FU c0 i1 i2 1 0 v
abbrev F_X11_lookAll (c0 : Nat) (i1 : Int32) (i2 : Int32) (v : VV) : Option (VV) := f_X11_lookAll c0 i1 i2 v
set_option maxHeartbeats 4000000 in
set_option maxRecDepth 100000 in
theorem w_X11_lookAll_l5 (C : Cx p s m args c cX11_lookAll 9 RX11 D cy) (hI : wI LM ad) (hr : meth.sig.returnType = none) (hlk : meth.locks = false) (hR : RoL 4 R) (k24 : Nat → Int32 → Int32 → Int32 → VV → Option (VV)) {vZ : VV} (h24 : ∀ (c0 : Nat) (i1 : Int32) (i2 : Int32) (i3 : Int32) (v : VV) (H : Heap) (locs : List Loc) (ls : Array Slot), wk LM c0 11 → k24 c0 i1 i2 i3 v = some vZ → va_P D vwCl (wd LM cy ad v) H → va_S (wA LM ad) s.heap H locs → lv_has ls 9 [(0, .ref (ad c0)), (1, .int i1), (2, .int i2), (3, .int i3)] → W p l e R s m args below meth c H locs 0 0 (MQ below (qvG LM cy ad D vZ) args s 0 0 (wA LM ad)) (F0 m 24 ls [])) : ∀ (n : Nat) (c0 : Nat) (i1 : Int32) (i2 : Int32) (i3 : Int32) (i4 : Int32) (v : VV) (H : Heap) (locs : List Loc) (ls : Array Slot), wk LM c0 11 → f_X11_lookAll_l5 k24 n c0 i1 i2 i3 i4 v = some vZ → va_P D vwCl (wd LM cy ad v) H → va_S (wA LM ad) s.heap H locs → lv_has ls 9 [(0, .ref (ad c0)), (1, .int i1), (2, .int i2), (3, .int i3), (4, .int i4)] → W p l e R s m args below meth c H locs 0 0 (MQ below (qvG LM cy ad D vZ) args s 0 0 (wA LM ad)) (F0 m 5 ls []) := by
  intro n
  induction n with
  | zero => intro c0 i1 i2 i3 i4 v H locs ls kc0 h hP hS hl; exact absurd h (by simp [f_X11_lookAll_l5])
  | succ n ih =>
    intro c0 i1 i2 i3 i4 v H locs ls kc0 h hP hS hl
    rw [f_X11_lookAll_l5] at h
    refine lv_iload (pc := 5) C.1 C.2.1 dX11_lookAll_5 (lv_at hl 4 rfl) ?_
    refine lv_iload_n (pc := 7) C.1 C.2.1 dX11_lookAll_7 rfl (lv_at hl 1 rfl) ?_
    refine lv_icmp_ge (pc := 8) (tgt := 24) C.1 C.2.1 dX11_lookAll_8 (by decide) (fun b8 => ?_) (fun b8 => ?_)
    · replace h := if_t h b8
      exact h24 c0 i1 i2 i3 v _ _ _ kc0 h hP hS (lv_sub hl [0, 1, 2, 3] rfl)
    · replace h := if_f h b8
      refine lv_iload_n (pc := 11) C.1 C.2.1 dX11_lookAll_11 rfl (lv_at hl 3 rfl) ?_
      refine lv_aload_n (pc := 12) C.1 C.2.1 dX11_lookAll_12 rfl (lv_at hl 0 rfl) ?_
      refine x_geti (pc := 13) C hP ck_11 0 fl_X11_90 (by decide) rfl kc0 dX11_lookAll_13 ?_
      refine lv_imul (pc := 16) C.1 C.2.1 dX11_lookAll_16 ?_
      refine lv_topi (fun x1 ex1 => ?_)
      replace h := nv_e h ex1
      clear ex1
      refine lv_istore_n (pc := 17) (lv' := [(3, .int x1), (0, .ref (ad c0)), (1, .int i1), (2, .int i2), (4, .int i4)]) C.1 C.2.1 dX11_lookAll_17 rfl hl (by decide) rfl (fun ls hl => ?_)
      obtain ⟨x2, ex2⟩ : ∃ y : Int32, y = i4 + 1 := ⟨_, rfl⟩
      replace h := nv_e h ex2
      refine lv_iinc (pc := 18) (v := x2) (lv' := [(4, .int x2), (3, .int x1), (0, .ref (ad c0)), (1, .int i1), (2, .int i2)]) C.1 C.2.1 dX11_lookAll_18 hl (k := 4) rfl (by rw [ex2]; rfl) (by decide) rfl (fun ls hl => ?_)
      clear ex2
      refine lv_goto (pc := 21) (tgt := 5) C.1 C.2.1 dX11_lookAll_21 (by decide) ?_
      exact ih c0 i1 i2 x1 x2 v _ _ _ kc0 h hP hS (lv_sub hl [2, 3, 4, 1, 0] rfl)
set_option maxHeartbeats 4000000 in
set_option maxRecDepth 100000 in
theorem w_X11_lookAll_b116 (C : Cx p s m args c cX11_lookAll 9 RX11 D cy) (hI : wI LM ad) (hr : meth.sig.returnType = none) (hlk : meth.locks = false) (hR : RoL 4 R) (k48 : Nat → Int32 → Int32 → Int32 → Int32 → Int32 → Int32 → Int32 → Int32 → VV → Option (VV)) {vZ : VV} (h48 : ∀ (c0 : Nat) (i1 : Int32) (i2 : Int32) (i3 : Int32) (i4 : Int32) (i5 : Int32) (i6 : Int32) (i7 : Int32) (i8 : Int32) (v : VV) (H : Heap) (locs : List Loc) (ls : Array Slot), wk LM c0 11 → k48 c0 i1 i2 i3 i4 i5 i6 i7 i8 v = some vZ → va_P D vwCl (wd LM cy ad v) H → va_S (wA LM ad) s.heap H locs → lv_has ls 9 [(0, .ref (ad c0)), (1, .int i1), (2, .int i2), (3, .int i3), (4, .int i4), (5, .int i5), (6, .int i6), (7, .int i7), (8, .int i8)] → W p l e R s m args below meth c H locs 0 0 (MQ below (qvG LM cy ad D vZ) args s 0 0 (wA LM ad)) (F0 m 48 ls [])) : ∀ (c0 : Nat) (i1 : Int32) (i2 : Int32) (i3 : Int32) (i4 : Int32) (i5 : Int32) (i6 : Int32) (i8 : Int32) (t0 : Int32) (v : VV) (H : Heap) (locs : List Loc) (ls : Array Slot), wk LM c0 11 → f_X11_lookAll_b116 k48 c0 i1 i2 i3 i4 i5 i6 i8 t0 v = some vZ → va_P D vwCl (wd LM cy ad v) H → va_S (wA LM ad) s.heap H locs → lv_has ls 9 [(0, .ref (ad c0)), (1, .int i1), (2, .int i2), (3, .int i3), (4, .int i4), (5, .int i5), (6, .int i6), (8, .int i8)] → W p l e R s m args below meth c H locs 0 0 (MQ below (qvG LM cy ad D vZ) args s 0 0 (wA LM ad)) (F0 m 116 ls [.int t0]) := by
  intro c0 i1 i2 i3 i4 i5 i6 i8 t0 v H locs ls kc0 h hP hS hl
  unfold f_X11_lookAll_b116 at h
  refine lv_istore (pc := 116) (lv' := [(7, .int t0), (0, .ref (ad c0)), (1, .int i1), (2, .int i2), (3, .int i3), (4, .int i4), (5, .int i5), (6, .int i6), (8, .int i8)]) C.1 C.2.1 dX11_lookAll_116 hl (by decide) rfl (fun ls hl => ?_)
  refine lv_iload (pc := 118) C.1 C.2.1 dX11_lookAll_118 (lv_at hl 7 rfl) ?_
  refine lv_iconst (pc := 120) (v := 1) C.1 C.2.1 dX11_lookAll_120 (by decide) ?_
  refine lv_aload_n (pc := 121) C.1 C.2.1 dX11_lookAll_121 rfl (lv_at hl 1 rfl) ?_
  refine x_getr (pc := 122) C hP ck_11 28 fl_X11_69 (by decide) rfl kc0 dX11_lookAll_122 ?_
  have k11 : wk LM (rfM c0 28) 12 := wt_f wT_M kc0 28 (by decide) rfl rfl
  refine lv_iload (pc := 125) C.1 C.2.1 dX11_lookAll_125 (lv_at hl 8 rfl) ?_
  obtain ⟨g12, h⟩ := gd_e h
  refine x_iald (pc := 127) C hP k11 (inB_vp g12) dX11_lookAll_127 ?_
  refine lv_ishl (pc := 128) C.1 C.2.1 dX11_lookAll_128 ?_
  refine lv_ior (pc := 129) C.1 C.2.1 dX11_lookAll_129 ?_
  refine lv_topi (fun x13 ex13 => ?_)
  replace h := nv_e h ex13
  clear ex13
  refine lv_istore (pc := 130) (lv' := [(6, .int x13), (7, .int t0), (0, .ref (ad c0)), (1, .int i1), (2, .int i2), (3, .int i3), (4, .int i4), (5, .int i5), (8, .int i8)]) C.1 C.2.1 dX11_lookAll_130 hl (by decide) rfl (fun ls hl => ?_)
  obtain ⟨x14, ex14⟩ : ∃ y : Int32, y = i8 + (-1) := ⟨_, rfl⟩
  replace h := nv_e h ex14
  refine lv_iinc (pc := 132) (v := x14) (lv' := [(8, .int x14), (6, .int x13), (7, .int t0), (0, .ref (ad c0)), (1, .int i1), (2, .int i2), (3, .int i3), (4, .int i4), (5, .int i5)]) C.1 C.2.1 dX11_lookAll_132 hl (k := 8) rfl (by rw [ex14]; rfl) (by decide) rfl (fun ls hl => ?_)
  clear ex14
  refine lv_goto (pc := 135) (tgt := 48) C.1 C.2.1 dX11_lookAll_135 (by decide) ?_
  exact h48 c0 i1 i2 i3 i4 i5 x13 t0 x14 v _ _ _ kc0 h hP hS (lv_sub hl [3, 4, 5, 6, 7, 8, 1, 2, 0] rfl)
set_option maxHeartbeats 4000000 in
set_option maxRecDepth 100000 in
theorem w_X11_lookAll_b115 (C : Cx p s m args c cX11_lookAll 9 RX11 D cy) (hI : wI LM ad) (hr : meth.sig.returnType = none) (hlk : meth.locks = false) (hR : RoL 4 R) (k48 : Nat → Int32 → Int32 → Int32 → Int32 → Int32 → Int32 → Int32 → Int32 → VV → Option (VV)) {vZ : VV} (h48 : ∀ (c0 : Nat) (i1 : Int32) (i2 : Int32) (i3 : Int32) (i4 : Int32) (i5 : Int32) (i6 : Int32) (i7 : Int32) (i8 : Int32) (v : VV) (H : Heap) (locs : List Loc) (ls : Array Slot), wk LM c0 11 → k48 c0 i1 i2 i3 i4 i5 i6 i7 i8 v = some vZ → va_P D vwCl (wd LM cy ad v) H → va_S (wA LM ad) s.heap H locs → lv_has ls 9 [(0, .ref (ad c0)), (1, .int i1), (2, .int i2), (3, .int i3), (4, .int i4), (5, .int i5), (6, .int i6), (7, .int i7), (8, .int i8)] → W p l e R s m args below meth c H locs 0 0 (MQ below (qvG LM cy ad D vZ) args s 0 0 (wA LM ad)) (F0 m 48 ls [])) : ∀ (c0 : Nat) (i1 : Int32) (i2 : Int32) (i3 : Int32) (i4 : Int32) (i5 : Int32) (i6 : Int32) (i8 : Int32) (v : VV) (H : Heap) (locs : List Loc) (ls : Array Slot), wk LM c0 11 → f_X11_lookAll_b115 k48 c0 i1 i2 i3 i4 i5 i6 i8 v = some vZ → va_P D vwCl (wd LM cy ad v) H → va_S (wA LM ad) s.heap H locs → lv_has ls 9 [(0, .ref (ad c0)), (1, .int i1), (2, .int i2), (3, .int i3), (4, .int i4), (5, .int i5), (6, .int i6), (8, .int i8)] → W p l e R s m args below meth c H locs 0 0 (MQ below (qvG LM cy ad D vZ) args s 0 0 (wA LM ad)) (F0 m 115 ls []) := by
  intro c0 i1 i2 i3 i4 i5 i6 i8 v H locs ls kc0 h hP hS hl
  unfold f_X11_lookAll_b115 at h
  refine lv_iconst (pc := 115) (v := 0) C.1 C.2.1 dX11_lookAll_115 (by decide) ?_
  exact w_X11_lookAll_b116 C hI hr hlk hR _ h48 c0 i1 i2 i3 i4 i5 i6 i8 0 v _ _ _ kc0 h hP hS (lv_sub hl [0, 1, 2, 3, 4, 5, 6, 7] rfl)
set_option maxHeartbeats 4000000 in
set_option maxRecDepth 100000 in
theorem w_X11_lookAll_l48 (C : Cx p s m args c cX11_lookAll 9 RX11 D cy) (hI : wI LM ad) (hr : meth.sig.returnType = none) (hlk : meth.locks = false) (hR : RoL 4 R) (k138 : Nat → Int32 → Int32 → Int32 → Int32 → Int32 → VV → Option (VV)) {vZ : VV} (h138 : ∀ (c0 : Nat) (i1 : Int32) (i2 : Int32) (i3 : Int32) (i4 : Int32) (i7 : Int32) (v : VV) (H : Heap) (locs : List Loc) (ls : Array Slot), wk LM c0 11 → k138 c0 i1 i2 i3 i4 i7 v = some vZ → va_P D vwCl (wd LM cy ad v) H → va_S (wA LM ad) s.heap H locs → lv_has ls 9 [(0, .ref (ad c0)), (1, .int i1), (2, .int i2), (3, .int i3), (4, .int i4), (7, .int i7)] → W p l e R s m args below meth c H locs 0 0 (MQ below (qvG LM cy ad D vZ) args s 0 0 (wA LM ad)) (F0 m 138 ls [])) : ∀ (n : Nat) (c0 : Nat) (i1 : Int32) (i2 : Int32) (i3 : Int32) (i4 : Int32) (i5 : Int32) (i6 : Int32) (i7 : Int32) (i8 : Int32) (v : VV) (H : Heap) (locs : List Loc) (ls : Array Slot), wk LM c0 11 → f_X11_lookAll_l48 k138 n c0 i1 i2 i3 i4 i5 i6 i7 i8 v = some vZ → va_P D vwCl (wd LM cy ad v) H → va_S (wA LM ad) s.heap H locs → lv_has ls 9 [(0, .ref (ad c0)), (1, .int i1), (2, .int i2), (3, .int i3), (4, .int i4), (5, .int i5), (6, .int i6), (7, .int i7), (8, .int i8)] → W p l e R s m args below meth c H locs 0 0 (MQ below (qvG LM cy ad D vZ) args s 0 0 (wA LM ad)) (F0 m 48 ls []) := by
  intro n
  induction n with
  | zero => intro c0 i1 i2 i3 i4 i5 i6 i7 i8 v H locs ls kc0 h hP hS hl; exact absurd h (by simp [f_X11_lookAll_l48])
  | succ n ih =>
    intro c0 i1 i2 i3 i4 i5 i6 i7 i8 v H locs ls kc0 h hP hS hl
    rw [f_X11_lookAll_l48] at h
    refine lv_iload (pc := 48) C.1 C.2.1 dX11_lookAll_48 (lv_at hl 8 rfl) ?_
    refine lv_if_lt (pc := 50) (tgt := 138) C.1 C.2.1 dX11_lookAll_50 (by decide) (fun b50 => ?_) (fun b50 => ?_)
    · replace h := if_t h b50
      exact h138 c0 i1 i2 i3 i4 i7 v _ _ _ kc0 h hP hS (lv_sub hl [0, 1, 2, 3, 4, 7] rfl)
    · replace h := if_f h b50
      refine lv_aload_n (pc := 53) C.1 C.2.1 dX11_lookAll_53 rfl (lv_at hl 0 rfl) ?_
      refine x_getr (pc := 54) C hP ck_11 28 fl_X11_69 (by decide) rfl kc0 dX11_lookAll_54 ?_
      have k5 : wk LM (rfM c0 28) 12 := wt_f wT_M kc0 28 (by decide) rfl rfl
      refine lv_iload (pc := 57) C.1 C.2.1 dX11_lookAll_57 (lv_at hl 8 rfl) ?_
      refine lv_iload (pc := 59) C.1 C.2.1 dX11_lookAll_59 (lv_at hl 5 rfl) ?_
      refine lv_aload_n (pc := 61) C.1 C.2.1 dX11_lookAll_61 rfl (lv_at hl 0 rfl) ?_
      refine x_geti (pc := 62) C hP ck_11 0 fl_X11_90 (by decide) rfl kc0 dX11_lookAll_62 ?_
      obtain ⟨g6, h⟩ := gd_e h
      refine lv_irem (pc := 65) C.1 C.2.1 dX11_lookAll_65 g6 ?_
      obtain ⟨g7, h⟩ := gd_e h
      refine x_iast (pc := 66) C hI hP hS k5 (inB_vp g7) dX11_lookAll_66 (fun H locs hP hS => ?_)
      obtain ⟨v8, h, hP⟩ := nv_p (P := fun z => va_P D vwCl (wd LM cy ad z) H) h hP
      refine lv_iload (pc := 67) C.1 C.2.1 dX11_lookAll_67 (lv_at hl 5 rfl) ?_
      refine lv_aload_n (pc := 69) C.1 C.2.1 dX11_lookAll_69 rfl (lv_at hl 0 rfl) ?_
      refine x_geti (pc := 70) C hP ck_11 0 fl_X11_90 (by decide) rfl kc0 dX11_lookAll_70 ?_
      obtain ⟨g9, h⟩ := gd_e h
      refine lv_idiv (pc := 73) C.1 C.2.1 dX11_lookAll_73 g9 ?_
      refine lv_topi (fun x10 ex10 => ?_)
      replace h := nv_e h ex10
      clear ex10
      refine lv_istore (pc := 74) (lv' := [(5, .int x10), (0, .ref (ad c0)), (1, .int i1), (2, .int i2), (3, .int i3), (4, .int i4), (6, .int i6), (7, .int i7), (8, .int i8)]) C.1 C.2.1 dX11_lookAll_74 hl (by decide) rfl (fun ls hl => ?_)
      refine lv_iload (pc := 76) C.1 C.2.1 dX11_lookAll_76 (lv_at hl 7 rfl) ?_
      refine lv_if_eq (pc := 78) (tgt := 115) C.1 C.2.1 dX11_lookAll_78 (by decide) (fun b78 => ?_) (fun b78 => ?_)
      · replace h := if_t h b78
        exact w_X11_lookAll_b115 C hI hr hlk hR _ (fun c0 i1 i2 i3 i4 i5 i6 i7 i8 v H locs ls kc0 h hP hS hl => ih c0 i1 i2 i3 i4 i5 i6 i7 i8 v H locs ls kc0 h hP hS hl) c0 i1 i2 i3 i4 x10 i6 i8 v8 _ _ _ kc0 h hP hS (lv_sub hl [1, 2, 3, 4, 5, 0, 6, 8] rfl)
      · replace h := if_f h b78
        refine lv_iload (pc := 81) C.1 C.2.1 dX11_lookAll_81 (lv_at hl 6 rfl) ?_
        refine lv_aload_n (pc := 83) C.1 C.2.1 dX11_lookAll_83 rfl (lv_at hl 1 rfl) ?_
        refine x_getr (pc := 84) C hP ck_11 28 fl_X11_69 (by decide) rfl kc0 dX11_lookAll_84 ?_
        have k15 : wk LM (rfM c0 28) 12 := wt_f wT_M kc0 28 (by decide) rfl rfl
        refine lv_iload (pc := 87) C.1 C.2.1 dX11_lookAll_87 (lv_at hl 8 rfl) ?_
        obtain ⟨g16, h⟩ := gd_e h
        refine x_iald (pc := 89) C hP k15 (inB_vp g16) dX11_lookAll_89 ?_
        refine lv_ishr (pc := 90) C.1 C.2.1 dX11_lookAll_90 ?_
        refine lv_iconst (pc := 91) (v := 1) C.1 C.2.1 dX11_lookAll_91 (by decide) ?_
        refine lv_iand (pc := 92) C.1 C.2.1 dX11_lookAll_92 ?_
        refine lv_if_ne (pc := 93) (tgt := 115) C.1 C.2.1 dX11_lookAll_93 (by decide) (fun b93 => ?_) (fun b93 => ?_)
        · replace h := if_f h b93
          exact w_X11_lookAll_b115 C hI hr hlk hR _ (fun c0 i1 i2 i3 i4 i5 i6 i7 i8 v H locs ls kc0 h hP hS hl => ih c0 i1 i2 i3 i4 i5 i6 i7 i8 v H locs ls kc0 h hP hS hl) c0 i1 i2 i3 i4 x10 i6 i8 v8 _ _ _ kc0 h hP hS (lv_sub hl [1, 2, 3, 4, 5, 0, 6, 8] rfl)
        · replace h := if_t h b93
          refine lv_aload_n (pc := 96) C.1 C.2.1 dX11_lookAll_96 rfl (lv_at hl 1 rfl) ?_
          refine x_getr (pc := 97) C hP ck_11 12 fl_X11_41 (by decide) rfl kc0 dX11_lookAll_97 ?_
          have k17 : wk LM (rfM c0 12) 13 := wt_f wT_M kc0 12 (by decide) rfl rfl
          refine lv_aload_n (pc := 100) C.1 C.2.1 dX11_lookAll_100 rfl (lv_at hl 1 rfl) ?_
          refine x_getr (pc := 101) C hP ck_11 28 fl_X11_69 (by decide) rfl kc0 dX11_lookAll_101 ?_
          have k18 : wk LM (rfM c0 28) 12 := wt_f wT_M kc0 28 (by decide) rfl rfl
          refine lv_iload (pc := 104) C.1 C.2.1 dX11_lookAll_104 (lv_at hl 8 rfl) ?_
          obtain ⟨g19, h⟩ := gd_e h
          refine x_iald (pc := 106) C hP k18 (inB_vp g19) dX11_lookAll_106 ?_
          obtain ⟨g20, h⟩ := gd_e h
          refine x_zald (pc := 107) C hP k17 (inB_vp g20) dX11_lookAll_107 ?_
          refine lv_if_ne (pc := 108) (tgt := 115) C.1 C.2.1 dX11_lookAll_108 (by decide) (fun b108 => ?_) (fun b108 => ?_)
          · replace h := if_f h b108
            exact w_X11_lookAll_b115 C hI hr hlk hR _ (fun c0 i1 i2 i3 i4 i5 i6 i7 i8 v H locs ls kc0 h hP hS hl => ih c0 i1 i2 i3 i4 i5 i6 i7 i8 v H locs ls kc0 h hP hS hl) c0 i1 i2 i3 i4 x10 i6 i8 v8 _ _ _ kc0 h hP hS (lv_sub hl [1, 2, 3, 4, 5, 0, 6, 8] rfl)
          · replace h := if_t h b108
            refine lv_iconst (pc := 111) (v := 1) C.1 C.2.1 dX11_lookAll_111 (by decide) ?_
            refine lv_goto (pc := 112) (tgt := 116) C.1 C.2.1 dX11_lookAll_112 (by decide) ?_
            exact w_X11_lookAll_b116 C hI hr hlk hR _ (fun c0 i1 i2 i3 i4 i5 i6 i7 i8 v H locs ls kc0 h hP hS hl => ih c0 i1 i2 i3 i4 i5 i6 i7 i8 v H locs ls kc0 h hP hS hl) c0 i1 i2 i3 i4 x10 i6 i8 1 v8 _ _ _ kc0 h hP hS (lv_sub hl [1, 2, 3, 4, 5, 0, 6, 8] rfl)
set_option maxHeartbeats 4000000 in
set_option maxRecDepth 100000 in
theorem w_X11_lookAll_l141 (C : Cx p s m args c cX11_lookAll 9 RX11 D cy) (hI : wI LM ad) (hr : meth.sig.returnType = none) (hlk : meth.locks = false) (hR : RoL 4 R) (k181 : Nat → Int32 → Int32 → Int32 → Int32 → Int32 → VV → Option (VV)) {vZ : VV} (h181 : ∀ (c0 : Nat) (i1 : Int32) (i2 : Int32) (i3 : Int32) (i4 : Int32) (i7 : Int32) (v : VV) (H : Heap) (locs : List Loc) (ls : Array Slot), wk LM c0 11 → k181 c0 i1 i2 i3 i4 i7 v = some vZ → va_P D vwCl (wd LM cy ad v) H → va_S (wA LM ad) s.heap H locs → lv_has ls 9 [(0, .ref (ad c0)), (1, .int i1), (2, .int i2), (3, .int i3), (4, .int i4), (7, .int i7)] → W p l e R s m args below meth c H locs 0 0 (MQ below (qvG LM cy ad D vZ) args s 0 0 (wA LM ad)) (F0 m 181 ls [])) : ∀ (n : Nat) (c0 : Nat) (i1 : Int32) (i2 : Int32) (i3 : Int32) (i4 : Int32) (i7 : Int32) (i8 : Int32) (v : VV) (H : Heap) (locs : List Loc) (ls : Array Slot), wk LM c0 11 → f_X11_lookAll_l141 k181 n c0 i1 i2 i3 i4 i7 i8 v = some vZ → va_P D vwCl (wd LM cy ad v) H → va_S (wA LM ad) s.heap H locs → lv_has ls 9 [(0, .ref (ad c0)), (1, .int i1), (2, .int i2), (3, .int i3), (4, .int i4), (7, .int i7), (8, .int i8)] → W p l e R s m args below meth c H locs 0 0 (MQ below (qvG LM cy ad D vZ) args s 0 0 (wA LM ad)) (F0 m 141 ls []) := by
  intro n
  induction n with
  | zero => intro c0 i1 i2 i3 i4 i7 i8 v H locs ls kc0 h hP hS hl; exact absurd h (by simp [f_X11_lookAll_l141])
  | succ n ih =>
    intro c0 i1 i2 i3 i4 i7 i8 v H locs ls kc0 h hP hS hl
    rw [f_X11_lookAll_l141] at h
    refine lv_iload (pc := 141) C.1 C.2.1 dX11_lookAll_141 (lv_at hl 6 rfl) ?_
    refine lv_iload_n (pc := 143) C.1 C.2.1 dX11_lookAll_143 rfl (lv_at hl 1 rfl) ?_
    refine lv_icmp_ge (pc := 144) (tgt := 181) C.1 C.2.1 dX11_lookAll_144 (by decide) (fun b144 => ?_) (fun b144 => ?_)
    · replace h := if_t h b144
      exact h181 c0 i1 i2 i3 i4 i7 v _ _ _ kc0 h hP hS (lv_sub hl [0, 1, 2, 3, 4, 5] rfl)
    · replace h := if_f h b144
      refine lv_iload (pc := 147) C.1 C.2.1 dX11_lookAll_147 (lv_at hl 5 rfl) ?_
      refine lv_if_eq (pc := 149) (tgt := 181) C.1 C.2.1 dX11_lookAll_149 (by decide) (fun b149 => ?_) (fun b149 => ?_)
      · replace h := if_t h b149
        exact h181 c0 i1 i2 i3 i4 i7 v _ _ _ kc0 h hP hS (lv_sub hl [0, 1, 2, 3, 4, 5] rfl)
      · replace h := if_f h b149
        refine lv_aload_n (pc := 152) C.1 C.2.1 dX11_lookAll_152 rfl (lv_at hl 0 rfl) ?_
        refine x_getr (pc := 153) C hP ck_11 28 fl_X11_69 (by decide) rfl kc0 dX11_lookAll_153 ?_
        have k22 : wk LM (rfM c0 28) 12 := wt_f wT_M kc0 28 (by decide) rfl rfl
        refine lv_iload (pc := 156) C.1 C.2.1 dX11_lookAll_156 (lv_at hl 6 rfl) ?_
        obtain ⟨g23, h⟩ := gd_e h
        refine x_iald (pc := 158) C hP k22 (inB_vp g23) dX11_lookAll_158 ?_
        refine lv_aload_n (pc := 159) C.1 C.2.1 dX11_lookAll_159 rfl (lv_at hl 0 rfl) ?_
        refine x_getr (pc := 160) C hP ck_11 28 fl_X11_69 (by decide) rfl kc0 dX11_lookAll_160 ?_
        have k24 : wk LM (rfM c0 28) 12 := wt_f wT_M kc0 28 (by decide) rfl rfl
        refine lv_iconst (pc := 163) (v := 0) C.1 C.2.1 dX11_lookAll_163 (by decide) ?_
        obtain ⟨g25, h⟩ := gd_e h
        refine x_iald (pc := 164) C hP k24 (inB_vp g25) dX11_lookAll_164 ?_
        refine lv_icmp_le (pc := 165) (tgt := 172) C.1 C.2.1 dX11_lookAll_165 (by decide) (fun b165 => ?_) (fun b165 => ?_)
        · replace h := if_t h b165
          refine lv_iconst (pc := 172) (v := 0) C.1 C.2.1 dX11_lookAll_172 (by decide) ?_
          refine lv_istore (pc := 173) (lv' := [(7, .int 0), (0, .ref (ad c0)), (1, .int i1), (2, .int i2), (3, .int i3), (4, .int i4), (8, .int i8)]) C.1 C.2.1 dX11_lookAll_173 hl (by decide) rfl (fun ls hl => ?_)
          obtain ⟨x26, ex26⟩ : ∃ y : Int32, y = i8 + 1 := ⟨_, rfl⟩
          replace h := nv_e h ex26
          refine lv_iinc (pc := 175) (v := x26) (lv' := [(8, .int x26), (7, .int 0), (0, .ref (ad c0)), (1, .int i1), (2, .int i2), (3, .int i3), (4, .int i4)]) C.1 C.2.1 dX11_lookAll_175 hl (k := 6) rfl (by rw [ex26]; rfl) (by decide) rfl (fun ls hl => ?_)
          clear ex26
          refine lv_goto (pc := 178) (tgt := 141) C.1 C.2.1 dX11_lookAll_178 (by decide) ?_
          exact ih c0 i1 i2 i3 i4 0 x26 v _ _ _ kc0 h hP hS (lv_sub hl [2, 3, 4, 5, 6, 1, 0] rfl)
        · replace h := if_f h b165
          refine lv_iconst (pc := 168) (v := 1) C.1 C.2.1 dX11_lookAll_168 (by decide) ?_
          refine lv_goto (pc := 169) (tgt := 173) C.1 C.2.1 dX11_lookAll_169 (by decide) ?_
          refine lv_istore (pc := 173) (lv' := [(7, .int 1), (0, .ref (ad c0)), (1, .int i1), (2, .int i2), (3, .int i3), (4, .int i4), (8, .int i8)]) C.1 C.2.1 dX11_lookAll_173 hl (by decide) rfl (fun ls hl => ?_)
          obtain ⟨x27, ex27⟩ : ∃ y : Int32, y = i8 + 1 := ⟨_, rfl⟩
          replace h := nv_e h ex27
          refine lv_iinc (pc := 175) (v := x27) (lv' := [(8, .int x27), (7, .int 1), (0, .ref (ad c0)), (1, .int i1), (2, .int i2), (3, .int i3), (4, .int i4)]) C.1 C.2.1 dX11_lookAll_175 hl (k := 6) rfl (by rw [ex27]; rfl) (by decide) rfl (fun ls hl => ?_)
          clear ex27
          refine lv_goto (pc := 178) (tgt := 141) C.1 C.2.1 dX11_lookAll_178 (by decide) ?_
          exact ih c0 i1 i2 i3 i4 1 x27 v _ _ _ kc0 h hP hS (lv_sub hl [2, 3, 4, 5, 6, 1, 0] rfl)
set_option maxHeartbeats 4000000 in
set_option maxRecDepth 100000 in
theorem w_X11_lookAll_b181 (C : Cx p s m args c cX11_lookAll 9 RX11 D cy) (hI : wI LM ad) (hr : meth.sig.returnType = none) (hlk : meth.locks = false) (hR : RoL 4 R) (k27 : Nat → Int32 → Int32 → Int32 → Int32 → VV → Option (VV)) {vZ : VV} (h27 : ∀ (c0 : Nat) (i1 : Int32) (i2 : Int32) (i3 : Int32) (i4 : Int32) (v : VV) (H : Heap) (locs : List Loc) (ls : Array Slot), wk LM c0 11 → k27 c0 i1 i2 i3 i4 v = some vZ → va_P D vwCl (wd LM cy ad v) H → va_S (wA LM ad) s.heap H locs → lv_has ls 9 [(0, .ref (ad c0)), (1, .int i1), (2, .int i2), (3, .int i3), (4, .int i4)] → W p l e R s m args below meth c H locs 0 0 (MQ below (qvG LM cy ad D vZ) args s 0 0 (wA LM ad)) (F0 m 27 ls [])) : ∀ (c0 : Nat) (i1 : Int32) (i2 : Int32) (i3 : Int32) (i4 : Int32) (i7 : Int32) (v : VV) (H : Heap) (locs : List Loc) (ls : Array Slot), wk LM c0 11 → f_X11_lookAll_b181 k27 c0 i1 i2 i3 i4 i7 v = some vZ → va_P D vwCl (wd LM cy ad v) H → va_S (wA LM ad) s.heap H locs → lv_has ls 9 [(0, .ref (ad c0)), (1, .int i1), (2, .int i2), (3, .int i3), (4, .int i4), (7, .int i7)] → W p l e R s m args below meth c H locs 0 0 (MQ below (qvG LM cy ad D vZ) args s 0 0 (wA LM ad)) (F0 m 181 ls []) := by
  intro c0 i1 i2 i3 i4 i7 v H locs ls kc0 h hP hS hl
  unfold f_X11_lookAll_b181 at h
  refine lv_iload (pc := 181) C.1 C.2.1 dX11_lookAll_181 (lv_at hl 5 rfl) ?_
  refine lv_if_eq (pc := 183) (tgt := 192) C.1 C.2.1 dX11_lookAll_183 (by decide) (fun b183 => ?_) (fun b183 => ?_)
  · replace h := if_t h b183
    obtain ⟨x29, ex29⟩ : ∃ y : Int32, y = i4 + 1 := ⟨_, rfl⟩
    replace h := nv_e h ex29
    refine lv_iinc (pc := 192) (v := x29) (lv' := [(4, .int x29), (0, .ref (ad c0)), (1, .int i1), (2, .int i2), (3, .int i3), (7, .int i7)]) C.1 C.2.1 dX11_lookAll_192 hl (k := 4) rfl (by rw [ex29]; rfl) (by decide) rfl (fun ls hl => ?_)
    clear ex29
    refine lv_goto (pc := 195) (tgt := 27) C.1 C.2.1 dX11_lookAll_195 (by decide) ?_
    exact h27 c0 i1 i2 i3 x29 v _ _ _ kc0 h hP hS (lv_sub hl [1, 2, 3, 4, 0] rfl)
  · replace h := if_f h b183
    refine lv_aload_n (pc := 186) C.1 C.2.1 dX11_lookAll_186 rfl (lv_at hl 0 rfl) ?_
    refine lv_iload_n (pc := 187) C.1 C.2.1 dX11_lookAll_187 rfl (lv_at hl 1 rfl) ?_
    refine lv_iload_n (pc := 188) C.1 C.2.1 dX11_lookAll_188 rfl (lv_at hl 2 rfl) ?_
    obtain ⟨v31, hc30, h⟩ := bd_e h
    refine x_callv (pc := 189) C hP hS mi_X11_look ck_11 kc0 ml_X11_199 (hR.le (by decide)) (Nat.zero_le _) (Nat.zero_le _) [.int i1, .int i2] rfl hl.1 rfl (Nat.le_of_ble_eq_true rfl) dX11_lookAll_189 (m_X11_look hI kc0 hc30) (fun H locs hP hS => ?_)
    obtain ⟨x32, ex32⟩ : ∃ y : Int32, y = i4 + 1 := ⟨_, rfl⟩
    replace h := nv_e h ex32
    refine lv_iinc (pc := 192) (v := x32) (lv' := [(4, .int x32), (0, .ref (ad c0)), (1, .int i1), (2, .int i2), (3, .int i3), (7, .int i7)]) C.1 C.2.1 dX11_lookAll_192 hl (k := 4) rfl (by rw [ex32]; rfl) (by decide) rfl (fun ls hl => ?_)
    clear ex32
    refine lv_goto (pc := 195) (tgt := 27) C.1 C.2.1 dX11_lookAll_195 (by decide) ?_
    exact h27 c0 i1 i2 i3 x32 v31 _ _ _ kc0 h hP hS (lv_sub hl [1, 2, 3, 4, 0] rfl)
set_option maxHeartbeats 4000000 in
set_option maxRecDepth 100000 in
theorem w_X11_lookAll_l27 (C : Cx p s m args c cX11_lookAll 9 RX11 D cy) (hI : wI LM ad) (hr : meth.sig.returnType = none) (hlk : meth.locks = false) (hR : RoL 4 R) {vZ : VV} : ∀ (n : Nat) (c0 : Nat) (i1 : Int32) (i2 : Int32) (i3 : Int32) (i4 : Int32) (v : VV) (H : Heap) (locs : List Loc) (ls : Array Slot), wk LM c0 11 → f_X11_lookAll_l27 n c0 i1 i2 i3 i4 v = some vZ → va_P D vwCl (wd LM cy ad v) H → va_S (wA LM ad) s.heap H locs → lv_has ls 9 [(0, .ref (ad c0)), (1, .int i1), (2, .int i2), (3, .int i3), (4, .int i4)] → W p l e R s m args below meth c H locs 0 0 (MQ below (qvG LM cy ad D vZ) args s 0 0 (wA LM ad)) (F0 m 27 ls []) := by
  intro n
  induction n with
  | zero => intro c0 i1 i2 i3 i4 v H locs ls kc0 h hP hS hl; exact absurd h (by simp [f_X11_lookAll_l27])
  | succ n ih =>
    intro c0 i1 i2 i3 i4 v H locs ls kc0 h hP hS hl
    rw [f_X11_lookAll_l27] at h
    refine lv_iload (pc := 27) C.1 C.2.1 dX11_lookAll_27 (lv_at hl 4 rfl) ?_
    refine lv_iload_n (pc := 29) C.1 C.2.1 dX11_lookAll_29 rfl (lv_at hl 3 rfl) ?_
    refine lv_icmp_ge (pc := 30) (tgt := 198) C.1 C.2.1 dX11_lookAll_30 (by decide) (fun b30 => ?_) (fun b30 => ?_)
    · replace h := if_t h b30
      exact x_vret (pc := 198) C hr hlk hP hS h dX11_lookAll_198
    · replace h := if_f h b30
      refine lv_iload (pc := 33) C.1 C.2.1 dX11_lookAll_33 (lv_at hl 4 rfl) ?_
      refine lv_istore (pc := 35) (lv' := [(5, .int i4), (0, .ref (ad c0)), (1, .int i1), (2, .int i2), (3, .int i3), (4, .int i4)]) C.1 C.2.1 dX11_lookAll_35 hl (by decide) rfl (fun ls hl => ?_)
      refine lv_iconst (pc := 37) (v := 0) C.1 C.2.1 dX11_lookAll_37 (by decide) ?_
      refine lv_istore (pc := 38) (lv' := [(6, .int 0), (5, .int i4), (0, .ref (ad c0)), (1, .int i1), (2, .int i2), (3, .int i3), (4, .int i4)]) C.1 C.2.1 dX11_lookAll_38 hl (by decide) rfl (fun ls hl => ?_)
      refine lv_iconst (pc := 40) (v := 1) C.1 C.2.1 dX11_lookAll_40 (by decide) ?_
      refine lv_istore (pc := 41) (lv' := [(7, .int 1), (6, .int 0), (5, .int i4), (0, .ref (ad c0)), (1, .int i1), (2, .int i2), (3, .int i3), (4, .int i4)]) C.1 C.2.1 dX11_lookAll_41 hl (by decide) rfl (fun ls hl => ?_)
      refine lv_iload_n (pc := 43) C.1 C.2.1 dX11_lookAll_43 rfl (lv_at hl 4 rfl) ?_
      refine lv_iconst (pc := 44) (v := 1) C.1 C.2.1 dX11_lookAll_44 (by decide) ?_
      refine lv_isub (pc := 45) C.1 C.2.1 dX11_lookAll_45 ?_
      refine lv_topi (fun x4 ex4 => ?_)
      replace h := nv_e h ex4
      clear ex4
      refine lv_istore (pc := 46) (lv' := [(8, .int x4), (7, .int 1), (6, .int 0), (5, .int i4), (0, .ref (ad c0)), (1, .int i1), (2, .int i2), (3, .int i3), (4, .int i4)]) C.1 C.2.1 dX11_lookAll_46 hl (by decide) rfl (fun ls hl => ?_)
      refine w_X11_lookAll_l48 C hI hr hlk hR _ ?_ FU c0 i1 i2 i3 i4 i4 0 1 x4 v _ _ _ kc0 h hP hS (lv_sub hl [4, 5, 6, 7, 8, 3, 2, 1, 0] rfl)
      intro c0_21 i1_21 i2_21 i3_21 i4_21 i7_21 v_21 H locs ls kc0_21 h hP hS hl
      refine lv_iconst (pc := 138) (v := 1) C.1 C.2.1 dX11_lookAll_138 (by decide) ?_
      refine lv_istore (pc := 139) (lv' := [(8, .int 1), (0, .ref (ad c0_21)), (1, .int i1_21), (2, .int i2_21), (3, .int i3_21), (4, .int i4_21), (7, .int i7_21)]) C.1 C.2.1 dX11_lookAll_139 hl (by decide) rfl (fun ls hl => ?_)
      refine w_X11_lookAll_l141 C hI hr hlk hR _ ?_ FU c0_21 i1_21 i2_21 i3_21 i4_21 i7_21 1 v_21 _ _ _ kc0_21 h hP hS (lv_sub hl [1, 2, 3, 4, 5, 6, 0] rfl)
      intro c0_28 i1_28 i2_28 i3_28 i4_28 i7_28 v_28 H locs ls kc0_28 h hP hS hl
      exact w_X11_lookAll_b181 C hI hr hlk hR _ (fun c0 i1 i2 i3 i4 v H locs ls kc0 h hP hS hl => ih c0 i1 i2 i3 i4 v H locs ls kc0 h hP hS hl) c0_28 i1_28 i2_28 i3_28 i4_28 i7_28 v_28 _ _ _ kc0_28 h hP hS (lv_sub hl [0, 1, 2, 3, 4, 5] rfl)
set_option maxHeartbeats 4000000 in
set_option maxRecDepth 100000 in
theorem w_X11_lookAll (C : Cx p s m args c cX11_lookAll 9 RX11 D cy) (hI : wI LM ad) (hr : meth.sig.returnType = none) (hlk : meth.locks = false) (hR : RoL 4 R) {vZ : VV} : ∀ (c0 : Nat) (i1 : Int32) (i2 : Int32) (v : VV) (H : Heap) (locs : List Loc) (ls : Array Slot), wk LM c0 11 → f_X11_lookAll c0 i1 i2 v = some vZ → va_P D vwCl (wd LM cy ad v) H → va_S (wA LM ad) s.heap H locs → lv_has ls 9 [(0, .ref (ad c0)), (1, .int i1), (2, .int i2)] → W p l e R s m args below meth c H locs 0 0 (MQ below (qvG LM cy ad D vZ) args s 0 0 (wA LM ad)) (F0 m 0 ls []) := by
  intro c0 i1 i2 v H locs ls kc0 h hP hS hl
  unfold f_X11_lookAll at h
  refine lv_iconst (pc := 0) (v := 1) C.1 C.2.1 dX11_lookAll_0 (by decide) ?_
  refine lv_istore_n (pc := 1) (lv' := [(3, .int 1), (0, .ref (ad c0)), (1, .int i1), (2, .int i2)]) C.1 C.2.1 dX11_lookAll_1 rfl hl (by decide) rfl (fun ls hl => ?_)
  refine lv_iconst (pc := 2) (v := 0) C.1 C.2.1 dX11_lookAll_2 (by decide) ?_
  refine lv_istore (pc := 3) (lv' := [(4, .int 0), (3, .int 1), (0, .ref (ad c0)), (1, .int i1), (2, .int i2)]) C.1 C.2.1 dX11_lookAll_3 hl (by decide) rfl (fun ls hl => ?_)
  refine w_X11_lookAll_l5 C hI hr hlk hR _ ?_ FU c0 i1 i2 1 0 v _ _ _ kc0 h hP hS (lv_sub hl [2, 3, 4, 1, 0] rfl)
  intro c0_3 i1_3 i2_3 i3_3 v_3 H locs ls kc0_3 h hP hS hl
  refine lv_iconst (pc := 24) (v := 0) C.1 C.2.1 dX11_lookAll_24 (by decide) ?_
  refine lv_istore (pc := 25) (lv' := [(4, .int 0), (0, .ref (ad c0_3)), (1, .int i1_3), (2, .int i2_3), (3, .int i3_3)]) C.1 C.2.1 dX11_lookAll_25 hl (by decide) rfl (fun ls hl => ?_)
  refine w_X11_lookAll_l27 C hI hr hlk hR FU c0_3 i1_3 i2_3 i3_3 0 v_3 _ _ _ kc0_3 h hP hS (lv_sub hl [1, 2, 3, 4, 0] rfl)
set_option maxRecDepth 100000 in
theorem m_X11_lookAll (hI : wI LM ad) {c0 : Nat} {i1 : Int32} {i2 : Int32} {v : VV} {vZ : VV} (kc0 : wk LM c0 11) (h : F_X11_lookAll c0 i1 i2 v = some vZ) : Met l yX11_lookAll (Cond.code yX11_lookAll cX11_lookAll 9 none :: wsG) (rmL 4) (pcG LM cy ad D [.ref (ad c0), .int i1, .int i2] v) (qvG LM cy ad D vZ) 0 0 (wA LM ad) := by
  refine Met.ofW (cc := cX11_lookAll) (maxL := 9) (ret := none) (by decide) rfl ?_
  intro p e s m args below meth c s₁ B hml hv
  obtain ⟨rfl, hP, hK⟩ := hv
  have hts := atoms_spec (ws := Cond.code yX11_lookAll cX11_lookAll 9 none :: wsG) B.pre
  have hown : s.vm.findClass RX11 = some m.cls := findClass_of_methodNamed B.named
  have C : Cx p s m _ c cX11_lookAll 9 RX11 D cy := ⟨B.exec, B.bytes, hml, hown, fun w hw => hts w (List.mem_cons_of_mem _ hw), hK⟩
  have hl := lv_entry ([.ref (ad c0), .int i1, .int i2]) (n := 9) (Nat.le_of_ble_eq_true rfl)
  rw [lg_entry_eq]
  generalize (lg_sl ([.ref (ad c0), .int i1, .int i2]) ++ List.replicate (9 - (lg_sl ([.ref (ad c0), .int i1, .int i2])).length) Slot.unset).toArray = ls at hl ⊢
  have hl : lv_has ls 9 [(0, .ref (ad c0)), (1, .int i1), (2, .int i2)] := hl
  exact w_X11_lookAll C hI B.returns B.notSynchronized (RoL_rm _) c0 i1 i2 v _ _ _ kc0 h hP va_S.rf (lv_sub hl [0, 1, 2] rfl)
def f_X11_ring_l50 (k70 : Nat → Int32 → VV → Option (Int32 × VV)) : Nat → Nat → Int32 → Int32 → Int32 → VV → Option (Int32 × VV)
  | 0, _, _, _, _, _ => none
  | n + 1, c0, i1, i2, i3, v =>
    if ((v c0 0) < i3) then
      k70 c0 i2 v
    else
      (F_X11_lookAll c0 i3 i1 v).bind fun v11 =>
      nv (i3 + 1) fun x12 =>
      f_X11_ring_l50 k70 n c0 i1 i2 x12 v11
def f_X11_ring (c0 : Nat) (i1 : Int32) (i2 : Int32) (v : VV) : Option (Int32 × VV) :=
  bi (F_X11_in (Int32.toInt64 i1) 1 20 v) fun x3 v2 =>
  if (x3 = 0) then
    some ((-10000002), v2)
  else
    if (i2 < 0) then
      some ((-10000002), v2)
    else
      bi (F_X11_in (Int32.toInt64 i2) 3 9 v2) fun x6 v5 =>
      if (x6 = 0) then
        nv (wu v5 c0 30 0) fun v7 =>
        nv (wu v7 c0 31 0) fun v8 =>
        nv (wu v8 c0 32 0) fun v9 =>
        f_X11_ring_l50 (fun c0_13 i2_13 v_13 =>
        if ((v_13 c0_13 30) = 0) then
          some ((-10000005), v_13)
        else
          if (i2_13 ≤ 9) then
            if (i2_13 = 0) then
              some ((v_13 c0_13 31), v_13)
            else
              if (i2_13 = 1) then
                some ((v_13 c0_13 32), v_13)
              else
                some ((v_13 c0_13 30), v_13)
          else
            if ((v_13 c0_13 30) ≤ (i2_13 - 10)) then
              some ((-6), v_13)
            else
              gd (inB (i2_13 - 10) (lnM (rfM c0_13 29)) = true) <|
              some ((v_13 (rfM c0_13 29) (Int32.toNatClampNeg (i2_13 - 10))), v_13)) FU c0 i1 i2 2 v9
      else
        some ((-10000002), v5)
abbrev F_X11_ring (c0 : Nat) (i1 : Int32) (i2 : Int32) (v : VV) : Option (Int32 × VV) := f_X11_ring c0 i1 i2 v
set_option maxHeartbeats 4000000 in
set_option maxRecDepth 100000 in
theorem w_X11_ring_l50 (C : Cx p s m args c cX11_ring 4 RX11 D cy) (hI : wI LM ad) (hr : meth.sig.returnType = some .int) (hlk : meth.locks = false) (hR : RoL 5 R) (k70 : Nat → Int32 → VV → Option (Int32 × VV)) {rZ : Int32} {vZ : VV} (h70 : ∀ (c0 : Nat) (i2 : Int32) (v : VV) (H : Heap) (locs : List Loc) (ls : Array Slot), wk LM c0 11 → k70 c0 i2 v = some (rZ, vZ) → va_P D vwCl (wd LM cy ad v) H → va_S (wA LM ad) s.heap H locs → lv_has ls 4 [(0, .ref (ad c0)), (2, .int i2)] → W p l e R s m args below meth c H locs 0 0 (MQ below (qiG LM cy ad D rZ vZ) args s 0 0 (wA LM ad)) (F0 m 70 ls [])) : ∀ (n : Nat) (c0 : Nat) (i1 : Int32) (i2 : Int32) (i3 : Int32) (v : VV) (H : Heap) (locs : List Loc) (ls : Array Slot), wk LM c0 11 → f_X11_ring_l50 k70 n c0 i1 i2 i3 v = some (rZ, vZ) → va_P D vwCl (wd LM cy ad v) H → va_S (wA LM ad) s.heap H locs → lv_has ls 4 [(0, .ref (ad c0)), (1, .int i1), (2, .int i2), (3, .int i3)] → W p l e R s m args below meth c H locs 0 0 (MQ below (qiG LM cy ad D rZ vZ) args s 0 0 (wA LM ad)) (F0 m 50 ls []) := by
  intro n
  induction n with
  | zero => intro c0 i1 i2 i3 v H locs ls kc0 h hP hS hl; exact absurd h (by simp [f_X11_ring_l50])
  | succ n ih =>
    intro c0 i1 i2 i3 v H locs ls kc0 h hP hS hl
    rw [f_X11_ring_l50] at h
    refine lv_iload_n (pc := 50) C.1 C.2.1 dX11_ring_50 rfl (lv_at hl 3 rfl) ?_
    refine lv_aload_n (pc := 51) C.1 C.2.1 dX11_ring_51 rfl (lv_at hl 0 rfl) ?_
    refine x_geti (pc := 52) C hP ck_11 0 fl_X11_90 (by decide) rfl kc0 dX11_ring_52 ?_
    refine lv_icmp_gt (pc := 55) (tgt := 70) C.1 C.2.1 dX11_ring_55 (by decide) (fun b55 => ?_) (fun b55 => ?_)
    · replace h := if_t h b55
      exact h70 c0 i2 v _ _ _ kc0 h hP hS (lv_sub hl [0, 2] rfl)
    · replace h := if_f h b55
      refine lv_aload_n (pc := 58) C.1 C.2.1 dX11_ring_58 rfl (lv_at hl 0 rfl) ?_
      refine lv_iload_n (pc := 59) C.1 C.2.1 dX11_ring_59 rfl (lv_at hl 3 rfl) ?_
      refine lv_iload_n (pc := 60) C.1 C.2.1 dX11_ring_60 rfl (lv_at hl 1 rfl) ?_
      obtain ⟨v11, hc10, h⟩ := bd_e h
      refine x_callv (pc := 61) C hP hS mi_X11_lookAll ck_11 kc0 ml_X11_205 (hR.le (by decide)) (Nat.zero_le _) (Nat.zero_le _) [.int i3, .int i1] rfl hl.1 rfl (Nat.le_of_ble_eq_true rfl) dX11_ring_61 (m_X11_lookAll hI kc0 hc10) (fun H locs hP hS => ?_)
      obtain ⟨x12, ex12⟩ : ∃ y : Int32, y = i3 + 1 := ⟨_, rfl⟩
      replace h := nv_e h ex12
      refine lv_iinc (pc := 64) (v := x12) (lv' := [(3, .int x12), (0, .ref (ad c0)), (1, .int i1), (2, .int i2)]) C.1 C.2.1 dX11_ring_64 hl (k := 3) rfl (by rw [ex12]; rfl) (by decide) rfl (fun ls hl => ?_)
      clear ex12
      refine lv_goto (pc := 67) (tgt := 50) C.1 C.2.1 dX11_ring_67 (by decide) ?_
      exact ih c0 i1 i2 x12 v11 _ _ _ kc0 h hP hS (lv_sub hl [1, 2, 3, 0] rfl)
set_option maxHeartbeats 4000000 in
set_option maxRecDepth 100000 in
theorem w_X11_ring (C : Cx p s m args c cX11_ring 4 RX11 D cy) (hI : wI LM ad) (hr : meth.sig.returnType = some .int) (hlk : meth.locks = false) (hR : RoL 5 R) {rZ : Int32} {vZ : VV} : ∀ (c0 : Nat) (i1 : Int32) (i2 : Int32) (v : VV) (H : Heap) (locs : List Loc) (ls : Array Slot), wk LM c0 11 → f_X11_ring c0 i1 i2 v = some (rZ, vZ) → va_P D vwCl (wd LM cy ad v) H → va_S (wA LM ad) s.heap H locs → lv_has ls 4 [(0, .ref (ad c0)), (1, .int i1), (2, .int i2)] → W p l e R s m args below meth c H locs 0 0 (MQ below (qiG LM cy ad D rZ vZ) args s 0 0 (wA LM ad)) (F0 m 0 ls []) := by
  intro c0 i1 i2 v H locs ls kc0 h hP hS hl
  unfold f_X11_ring at h
  refine lv_iload_n (pc := 0) C.1 C.2.1 dX11_ring_0 rfl (lv_at hl 1 rfl) ?_
  refine lv_i2l (pc := 1) C.1 C.2.1 dX11_ring_1 rfl ?_
  refine lv_lconst (pc := 2) (v := 1) C.1 C.2.1 dX11_ring_2 (by decide) ?_
  refine lv_ldc2 (pc := 3) (v := 20) C.1 C.2.1 C.2.2.2.1 (C.2.2.2.2.1 _ cl_X11_124) dX11_ring_3 ?_
  obtain ⟨x3, v2, hc1, h⟩ := bi_e h
  refine x_callsi (pc := 6) C hP hS ms_X11_in ml_X11_93 (hR.le (by decide)) (Nat.zero_le _) (Nat.zero_le _) [.long (Int32.toInt64 i1), .long 1, .long 20] rfl hl.1 rfl (Nat.le_of_ble_eq_true rfl) dX11_ring_6 (m_X11_in hI hc1) (fun H locs hP hS => ?_)
  refine lv_if_eq (pc := 9) (tgt := 30) C.1 C.2.1 dX11_ring_9 (by decide) (fun b9 => ?_) (fun b9 => ?_)
  · replace h := if_t h b9
    refine lv_ldc (pc := 30) (v := (-10000002)) C.1 C.2.1 C.2.2.2.1 (C.2.2.2.2.1 _ ct_X11_129) dX11_ring_30 ?_
    exact x_iret (pc := 32) C hr hlk hP hS h dX11_ring_32
  · replace h := if_f h b9
    refine lv_iload_n (pc := 12) C.1 C.2.1 dX11_ring_12 rfl (lv_at hl 2 rfl) ?_
    refine lv_if_lt (pc := 13) (tgt := 30) C.1 C.2.1 dX11_ring_13 (by decide) (fun b13 => ?_) (fun b13 => ?_)
    · replace h := if_t h b13
      refine lv_ldc (pc := 30) (v := (-10000002)) C.1 C.2.1 C.2.2.2.1 (C.2.2.2.2.1 _ ct_X11_129) dX11_ring_30 ?_
      exact x_iret (pc := 32) C hr hlk hP hS h dX11_ring_32
    · replace h := if_f h b13
      refine lv_iload_n (pc := 16) C.1 C.2.1 dX11_ring_16 rfl (lv_at hl 2 rfl) ?_
      refine lv_i2l (pc := 17) C.1 C.2.1 dX11_ring_17 rfl ?_
      refine lv_ldc2 (pc := 18) (v := 3) C.1 C.2.1 C.2.2.2.1 (C.2.2.2.2.1 _ cl_X11_203) dX11_ring_18 ?_
      refine lv_ldc2 (pc := 21) (v := 9) C.1 C.2.1 C.2.2.2.1 (C.2.2.2.2.1 _ cl_X11_126) dX11_ring_21 ?_
      obtain ⟨x6, v5, hc4, h⟩ := bi_e h
      refine x_callsi (pc := 24) C hP hS ms_X11_in ml_X11_93 (hR.le (by decide)) (Nat.zero_le _) (Nat.zero_le _) [.long (Int32.toInt64 i2), .long 3, .long 9] rfl hl.1 rfl (Nat.le_of_ble_eq_true rfl) dX11_ring_24 (m_X11_in hI hc4) (fun H locs hP hS => ?_)
      refine lv_if_eq (pc := 27) (tgt := 33) C.1 C.2.1 dX11_ring_27 (by decide) (fun b27 => ?_) (fun b27 => ?_)
      · replace h := if_t h b27
        refine lv_aload_n (pc := 33) C.1 C.2.1 dX11_ring_33 rfl (lv_at hl 0 rfl) ?_
        refine lv_iconst (pc := 34) (v := 0) C.1 C.2.1 dX11_ring_34 (by decide) ?_
        refine x_put (pc := 35) C hI hP hS ck_11 30 fl_X11_193 (by decide) rfl rfl kc0 rfl rfl dX11_ring_35 (fun H locs hP hS => ?_)
        obtain ⟨v7, h, hP⟩ := nv_p (P := fun z => va_P D vwCl (wd LM cy ad z) H) h hP
        refine lv_aload_n (pc := 38) C.1 C.2.1 dX11_ring_38 rfl (lv_at hl 0 rfl) ?_
        refine lv_iconst (pc := 39) (v := 0) C.1 C.2.1 dX11_ring_39 (by decide) ?_
        refine x_put (pc := 40) C hI hP hS ck_11 31 fl_X11_190 (by decide) rfl rfl kc0 rfl rfl dX11_ring_40 (fun H locs hP hS => ?_)
        obtain ⟨v8, h, hP⟩ := nv_p (P := fun z => va_P D vwCl (wd LM cy ad z) H) h hP
        refine lv_aload_n (pc := 43) C.1 C.2.1 dX11_ring_43 rfl (lv_at hl 0 rfl) ?_
        refine lv_iconst (pc := 44) (v := 0) C.1 C.2.1 dX11_ring_44 (by decide) ?_
        refine x_put (pc := 45) C hI hP hS ck_11 32 fl_X11_187 (by decide) rfl rfl kc0 rfl rfl dX11_ring_45 (fun H locs hP hS => ?_)
        obtain ⟨v9, h, hP⟩ := nv_p (P := fun z => va_P D vwCl (wd LM cy ad z) H) h hP
        refine lv_iconst (pc := 48) (v := 2) C.1 C.2.1 dX11_ring_48 (by decide) ?_
        refine lv_istore_n (pc := 49) (lv' := [(3, .int 2), (0, .ref (ad c0)), (1, .int i1), (2, .int i2)]) C.1 C.2.1 dX11_ring_49 rfl hl (by decide) rfl (fun ls hl => ?_)
        refine w_X11_ring_l50 C hI hr hlk hR _ ?_ FU c0 i1 i2 2 v9 _ _ _ kc0 h hP hS (lv_sub hl [1, 2, 3, 0] rfl)
        intro c0_13 i2_13 v_13 H locs ls kc0_13 h hP hS hl
        refine lv_aload_n (pc := 70) C.1 C.2.1 dX11_ring_70 rfl (lv_at hl 0 rfl) ?_
        refine x_geti (pc := 71) C hP ck_11 30 fl_X11_193 (by decide) rfl kc0_13 dX11_ring_71 ?_
        refine lv_if_ne (pc := 74) (tgt := 80) C.1 C.2.1 dX11_ring_74 (by decide) (fun b74 => ?_) (fun b74 => ?_)
        · replace h := if_f h b74
          refine lv_iload_n (pc := 80) C.1 C.2.1 dX11_ring_80 rfl (lv_at hl 1 rfl) ?_
          refine lv_bipush (pc := 81) (v := 9) C.1 C.2.1 dX11_ring_81 (by decide) ?_
          refine lv_icmp_le (pc := 83) (tgt := 112) C.1 C.2.1 dX11_ring_83 (by decide) (fun b83 => ?_) (fun b83 => ?_)
          · replace h := if_t h b83
            refine lv_iload_n (pc := 112) C.1 C.2.1 dX11_ring_112 rfl (lv_at hl 1 rfl) ?_
            refine lv_if_ne (pc := 113) (tgt := 123) C.1 C.2.1 dX11_ring_113 (by decide) (fun b113 => ?_) (fun b113 => ?_)
            · replace h := if_f h b113
              refine lv_iload_n (pc := 123) C.1 C.2.1 dX11_ring_123 rfl (lv_at hl 1 rfl) ?_
              refine lv_iconst (pc := 124) (v := 1) C.1 C.2.1 dX11_ring_124 (by decide) ?_
              refine lv_icmp_ne (pc := 125) (tgt := 135) C.1 C.2.1 dX11_ring_125 (by decide) (fun b125 => ?_) (fun b125 => ?_)
              · replace h := if_f h b125
                refine lv_aload_n (pc := 135) C.1 C.2.1 dX11_ring_135 rfl (lv_at hl 0 rfl) ?_
                refine x_geti (pc := 136) C hP ck_11 30 fl_X11_193 (by decide) rfl kc0_13 dX11_ring_136 ?_
                exact x_iret (pc := 139) C hr hlk hP hS h dX11_ring_139
              · replace h := if_t h b125
                refine lv_aload_n (pc := 128) C.1 C.2.1 dX11_ring_128 rfl (lv_at hl 0 rfl) ?_
                refine x_geti (pc := 129) C hP ck_11 32 fl_X11_187 (by decide) rfl kc0_13 dX11_ring_129 ?_
                refine lv_goto (pc := 132) (tgt := 139) C.1 C.2.1 dX11_ring_132 (by decide) ?_
                exact x_iret (pc := 139) C hr hlk hP hS h dX11_ring_139
            · replace h := if_t h b113
              refine lv_aload_n (pc := 116) C.1 C.2.1 dX11_ring_116 rfl (lv_at hl 0 rfl) ?_
              refine x_geti (pc := 117) C hP ck_11 31 fl_X11_190 (by decide) rfl kc0_13 dX11_ring_117 ?_
              refine lv_goto (pc := 120) (tgt := 139) C.1 C.2.1 dX11_ring_120 (by decide) ?_
              exact x_iret (pc := 139) C hr hlk hP hS h dX11_ring_139
          · replace h := if_f h b83
            refine lv_iload_n (pc := 86) C.1 C.2.1 dX11_ring_86 rfl (lv_at hl 1 rfl) ?_
            refine lv_bipush (pc := 87) (v := 10) C.1 C.2.1 dX11_ring_87 (by decide) ?_
            refine lv_isub (pc := 89) C.1 C.2.1 dX11_ring_89 ?_
            refine lv_aload_n (pc := 90) C.1 C.2.1 dX11_ring_90 rfl (lv_at hl 0 rfl) ?_
            refine x_geti (pc := 91) C hP ck_11 30 fl_X11_193 (by decide) rfl kc0_13 dX11_ring_91 ?_
            refine lv_icmp_ge (pc := 94) (tgt := 109) C.1 C.2.1 dX11_ring_94 (by decide) (fun b94 => ?_) (fun b94 => ?_)
            · replace h := if_t h b94
              refine lv_bipush (pc := 109) (v := (-6)) C.1 C.2.1 dX11_ring_109 (by decide) ?_
              exact x_iret (pc := 111) C hr hlk hP hS h dX11_ring_111
            · replace h := if_f h b94
              refine lv_aload_n (pc := 97) C.1 C.2.1 dX11_ring_97 rfl (lv_at hl 0 rfl) ?_
              refine x_getr (pc := 98) C hP ck_11 29 fl_X11_72 (by decide) rfl kc0_13 dX11_ring_98 ?_
              have k14 : wk LM (rfM c0_13 29) 12 := wt_f wT_M kc0_13 29 (by decide) rfl rfl
              refine lv_iload_n (pc := 101) C.1 C.2.1 dX11_ring_101 rfl (lv_at hl 1 rfl) ?_
              refine lv_bipush (pc := 102) (v := 10) C.1 C.2.1 dX11_ring_102 (by decide) ?_
              refine lv_isub (pc := 104) C.1 C.2.1 dX11_ring_104 ?_
              obtain ⟨g15, h⟩ := gd_e h
              refine x_iald (pc := 105) C hP k14 (inB_vp g15) dX11_ring_105 ?_
              refine lv_goto (pc := 106) (tgt := 111) C.1 C.2.1 dX11_ring_106 (by decide) ?_
              exact x_iret (pc := 111) C hr hlk hP hS h dX11_ring_111
        · replace h := if_t h b74
          refine lv_ldc (pc := 77) (v := (-10000005)) C.1 C.2.1 C.2.2.2.1 (C.2.2.2.2.1 _ ct_X11_208) dX11_ring_77 ?_
          exact x_iret (pc := 79) C hr hlk hP hS h dX11_ring_79
      · replace h := if_f h b27
        refine lv_ldc (pc := 30) (v := (-10000002)) C.1 C.2.1 C.2.2.2.1 (C.2.2.2.2.1 _ ct_X11_129) dX11_ring_30 ?_
        exact x_iret (pc := 32) C hr hlk hP hS h dX11_ring_32
set_option maxRecDepth 100000 in
theorem m_X11_ring (hI : wI LM ad) {c0 : Nat} {i1 : Int32} {i2 : Int32} {v : VV} {rZ : Int32} {vZ : VV} (kc0 : wk LM c0 11) (h : F_X11_ring c0 i1 i2 v = some (rZ, vZ)) : Met l yX11_ring (Cond.code yX11_ring cX11_ring 4 (some .int) :: wsG) (rmL 5) (pcG LM cy ad D [.ref (ad c0), .int i1, .int i2] v) (qiG LM cy ad D rZ vZ) 0 0 (wA LM ad) := by
  refine Met.ofW (cc := cX11_ring) (maxL := 4) (ret := (some .int)) (by decide) rfl ?_
  intro p e s m args below meth c s₁ B hml hv
  obtain ⟨rfl, hP, hK⟩ := hv
  have hts := atoms_spec (ws := Cond.code yX11_ring cX11_ring 4 (some .int) :: wsG) B.pre
  have hown : s.vm.findClass RX11 = some m.cls := findClass_of_methodNamed B.named
  have C : Cx p s m _ c cX11_ring 4 RX11 D cy := ⟨B.exec, B.bytes, hml, hown, fun w hw => hts w (List.mem_cons_of_mem _ hw), hK⟩
  have hl := lv_entry ([.ref (ad c0), .int i1, .int i2]) (n := 4) (Nat.le_of_ble_eq_true rfl)
  rw [lg_entry_eq]
  generalize (lg_sl ([.ref (ad c0), .int i1, .int i2]) ++ List.replicate (4 - (lg_sl ([.ref (ad c0), .int i1, .int i2])).length) Slot.unset).toArray = ls at hl ⊢
  have hl : lv_has ls 4 [(0, .ref (ad c0)), (1, .int i1), (2, .int i2)] := hl
  exact w_X11_ring C hI B.returns B.notSynchronized (RoL_rm _) c0 i1 i2 v _ _ _ kc0 h hP va_S.rf (lv_sub hl [0, 1, 2] rfl)
end
